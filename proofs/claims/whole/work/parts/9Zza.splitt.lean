/-! THE CLASS splits a text into tokens, looks at them. -/
section SPT
variable {T : Nat → Nat} {n a e s M i : Nat} {g g' : G}
theorem tK_0 (h : n ≤ tP T n s) : tK T n s = 0 ∧ tE T n s = tP T n s := ⟨if_pos h, if_pos h⟩
theorem tK_2 (h : tP T n s < n) (z : slT (T (tP T n s)) = true) : tK T n s = 2 ∧ tE T n s = rnT slT T n n (tP T n s) ∧ tV T n s = fwT 15 (subT T (tP T n s) (tE T n s)) CWT 0 := by
  refine ⟨?_, ?_, ?_⟩
  · unfold tK
    rw [if_neg (by omega), if_pos z]
  · unfold tE
    rw [if_neg (by omega), if_pos z]
  · unfold tV
    rw [if_pos z]
theorem dg_le {v : Nat} (h : dgT v = true) : 48 ≤ v ∧ v ≤ 57 := of_decide_eq_true h
theorem sl_dg {v : Nat} (h : dgT v = true) : ¬ slT v = true := fun u => by
  have a := of_decide_eq_true h
  have b := of_decide_eq_true u
  omega
theorem tK_3 (h : tP T n s < n) (z : dgT (T (tP T n s)) = true) : tK T n s = (if tE T n s ≤ tP T n s + 3 then 3 else 1) ∧ tE T n s = rnT dgT T n n (tP T n s) ∧ tV T n s = nvT T (tP T n s) (tE T n s - tP T n s) := by
  refine ⟨?_, ?_, ?_⟩
  · unfold tK
    rw [if_neg (by omega), if_neg (sl_dg z), if_pos z]
  · unfold tE
    rw [if_neg (by omega), if_neg (sl_dg z), if_pos z]
  · unfold tV
    rw [if_neg (sl_dg z)]
theorem tK_s (h : tP T n s < n) (z1 : ¬ slT (T (tP T n s)) = true) (z2 : ¬ dgT (T (tP T n s)) = true) : tK T n s = (if T (tP T n s) ∈ SGT then T (tP T n s) else 1) ∧ tE T n s = tP T n s + 1 := by
  refine ⟨?_, ?_⟩
  · unfold tK
    rw [if_neg (by omega), if_neg z1, if_neg z2]
  · unfold tE
    rw [if_neg (by omega), if_neg z1, if_neg z2]
theorem tK_in : tK T n s ∈ 0 :: 1 :: 2 :: 3 :: SGT := by
  unfold tK
  split
  · exact List.mem_cons_self
  · split
    · exact List.mem_cons_of_mem _ (List.mem_cons_of_mem _ List.mem_cons_self)
    · split
      · split
        · exact List.mem_cons_of_mem _ (List.mem_cons_of_mem _ (List.mem_cons_of_mem _ List.mem_cons_self))
        · exact List.mem_cons_of_mem _ List.mem_cons_self
      · split
        · next z => exact List.mem_cons_of_mem _ (List.mem_cons_of_mem _ (List.mem_cons_of_mem _ (List.mem_cons_of_mem _ z)))
        · exact List.mem_cons_of_mem _ List.mem_cons_self
theorem sg_lt {v : Nat} (h : v ∈ SGT) : v < 128 := by
  have t : SGT.all (fun v => decide (v < 128)) = true := by decide
  exact of_decide_eq_true (List.all_eq_true.mp t v h)
theorem tK_lt : tK T n s < 128 := by
  have t : (0 :: 1 :: 2 :: 3 :: SGT).all (fun v => decide (v < 128)) = true := by decide
  exact of_decide_eq_true (List.all_eq_true.mp t _ tK_in)
theorem tV_lt (h : s ≤ n) (z : tK T n s = 2 ∨ tK T n s = 3) : tV T n s < 1000 := by
  have l := tP_le (T := T) h
  have q : tP T n s < n := by
    rcases Nat.lt_or_ge (tP T n s) n with u | u
    · exact u
    · have := (tK_0 u).1
      omega
  by_cases z1 : slT (T (tP T n s)) = true
  · rw [(tK_2 q z1).2.2]
    have := fw_le (d := 15) (L := subT T (tP T n s) (tE T n s)) CWT 0 (by decide)
    omega
  · by_cases z2 : dgT (T (tP T n s)) = true
    · obtain ⟨a1, a2, a3⟩ := tK_3 q z2
      have e3 : tE T n s ≤ tP T n s + 3 := by
        rcases Nat.lt_or_ge (tP T n s + 3) (tE T n s) with u | u
        · rw [if_neg (by omega)] at a1
          omega
        · exact u
      rw [a3]
      have := nv_lt (T := T) (a := tP T n s) (tE T n s - tP T n s) (fun j hj => (dg_le (rn_in n (tP T n s) (tP T n s + j) (by omega) (by rw [← a2]; omega))).2)
      have p3 : 10 ^ (tE T n s - tP T n s) ≤ 10 ^ 3 := Nat.pow_le_pow_right (by decide) (by omega)
      omega
    · have a1 := (tK_s q z1 z2).1
      have t : SGT.all (fun v => decide (3 < v)) = true := by decide
      by_cases z3 : T (tP T n s) ∈ SGT
      · rw [if_pos z3] at a1
        have := of_decide_eq_true (List.all_eq_true.mp t _ z3)
        omega
      · rw [if_neg z3] at a1
        omega
theorem c_splitToken (hs : Sh g) (h : TX T n g) (h6 : gI g 57 6 = nI (tP T n s)) (hsn : s ≤ n) (hi : i < 901) : ∃ g', f_X8_splitToken 57 (nI i) g = some (nI (tK T n s), g') ∧ Fi [57, 61] g g' ∧ gI g' 57 6 = nI (tE T n s) ∧ (∀ k, k ≠ 6 → gI g' 57 k = gI g 57 k) ∧ (∀ j, j ≠ i → gI g' 61 j = gI g 61 j) ∧ (tK T n s = 2 ∨ tK T n s = 3 → gI g' 61 i = nI (tV T n s)) := by
  have h9 := h.1
  have pl := tP_le (T := T) hsn
  have el := tE_le (T := T) hsn
  rw [f_X8_splitToken, h6]
  rcases Nat.lt_or_ge (tP T n s) n with z | z
  · have b1 := (h.2.2.2 _ z).1
    rw [c_sign hs h z, bd_eq, h6, h.2.1, if_pos (nI_lt z (by omega)), c_letter b1, bd_eq]
    by_cases z1 : slT (T (tP T n s)) = true
    · obtain ⟨k1, k2, k3⟩ := tK_2 z z1
      rw [z1, ibT, md57_9 hs, c_splitWord hs h h6 pl, bd_eq, gk61 (Sh.si hs), sn61 (Sh.si hs), gdI_nI hi (by decide), nI_clamp (by omega), lg, k1, ← k2, ← k3]
      refine ⟨_, rfl, (Fi.rf.si (by decide)).si (by decide), ?_, fun k hk => ?_, fun j hj => ?_, fun _ => ?_⟩
      · rw [gI_sIn (by decide), gI_sIs, pk_us]
      · rw [gI_sIn (by decide), gI_sIs, pk_un hk]
      · rw [gI_sIs, pk_un hj, gI_sIn (by decide)]
      · rw [gI_sIs, pk_us]
    · rw [Bool.not_eq_true] at z1
      rw [z1, ibF, c_digit b1, bd_eq]
      have z1' : ¬ slT (T (tP T n s)) = true := by rw [z1]; exact fun u => by cases u
      by_cases z2 : dgT (T (tP T n s)) = true
      · obtain ⟨k1, k2, k3⟩ := tK_3 z z2
        rw [z2, ibT, li, md57_9 hs, c_splitNumber hs h h6 pl, bd_eq, gk61 (Sh.si hs), sn61 (Sh.si hs), gdI_nI hi (by decide), nI_clamp (by omega), lg, gI_sIn (by decide), gI_sIs, pk_us, h6, lad3, ← k2]
        have go : ∀ k, tK T n s = k → (k = 2 ∨ k = 3 → tE T n s ≤ tP T n s + 3) → ∃ g', some (nI k, sI (sI g 57 6 (nI (tE T n s))) 61 i (nI (cvT T (tP T n s) (tE T n s - tP T n s)))) = some (nI (tK T n s), g') ∧ Fi [57, 61] g g' ∧ gI g' 57 6 = nI (tE T n s) ∧ (∀ k, k ≠ 6 → gI g' 57 k = gI g 57 k) ∧ (∀ j, j ≠ i → gI g' 61 j = gI g 61 j) ∧ (tK T n s = 2 ∨ tK T n s = 3 → gI g' 61 i = nI (tV T n s)) := fun k hk h3 => by
          rw [hk]
          refine ⟨_, rfl, (Fi.rf.si (by decide)).si (by decide), ?_, fun k hk => ?_, fun j hj => ?_, fun u => ?_⟩
          · rw [gI_sIn (by decide), gI_sIs, pk_us]
          · rw [gI_sIn (by decide), gI_sIs, pk_un hk]
          · rw [gI_sIs, pk_un hj, gI_sIn (by decide)]
          · rw [gI_sIs, pk_us, k3, cv_nv _ (by have := h3 u; omega) (fun j hj => (dg_le (rn_in n (tP T n s) (tP T n s + j) (by omega) (by rw [← k2]; omega))).2)]
        by_cases z3 : tE T n s ≤ tP T n s + 3
        · rw [if_pos (nI_le z3 (by omega))]
          exact go 3 (by rw [k1, if_pos z3]) (fun _ => z3)
        · rw [if_neg (nI_ge (by omega) (by omega))]
          exact go 1 (by rw [k1, if_neg z3]) (fun u => by omega)
      · obtain ⟨k1, k2⟩ := tK_s z z1' z2
        rw [Bool.not_eq_true] at z2
        rw [z2, ibF, h6, lad1, lg, ← k2]
        have go : ∀ k, tK T n s = k → ¬ (k = 2 ∨ k = 3) → ∃ g', some (nI k, sI g 57 6 (nI (tE T n s))) = some (nI (tK T n s), g') ∧ Fi [57, 61] g g' ∧ gI g' 57 6 = nI (tE T n s) ∧ (∀ k, k ≠ 6 → gI g' 57 k = gI g 57 k) ∧ (∀ j, j ≠ i → gI g' 61 j = gI g 61 j) ∧ (tK T n s = 2 ∨ tK T n s = 3 → gI g' 61 i = nI (tV T n s)) := fun k hk h3 => by
          rw [hk]
          refine ⟨_, rfl, Fi.rf.si (by decide), ?_, fun k hk => ?_, fun j hj => ?_, fun u => absurd u h3⟩
          · rw [gI_sIs, pk_us]
          · rw [gI_sIs, pk_un hk]
          · rw [gI_sIn (by decide)]
        by_cases z4 : byI (T (tP T n s)) ≤ 0
        · rw [if_pos z4]
          have ns : T (tP T n s) ∉ SGT := fun u => by
            have l := sg_lt u
            have t : SGT.all (fun v => decide (0 < v)) = true := by decide
            have p := of_decide_eq_true (List.all_eq_true.mp t _ u)
            rw [(by_t b1).1 l] at z4
            exact nI_nle p (by omega) z4
          exact go 1 (by rw [k1, if_neg ns]) (by decide)
        · rw [if_neg z4]
          have lo : T (tP T n s) < 128 := by
            rcases Nat.lt_or_ge (T (tP T n s)) 128 with u | u
            · exact u
            · exact absurd (Int32.le_of_lt ((by_t b1).2 u)) z4
          obtain ⟨r, r1, r2⟩ := j_ix lo (sI g 57 6 (nI (tE T n s)))
          rw [(by_t b1).1 lo, r1, bd_eq]
          rcases r2 with ⟨r2, r3⟩ | ⟨r2, r3⟩
          · rw [if_neg r2]
            have t : SGT.all (fun v => decide (¬ (v = 2 ∨ v = 3))) = true := by decide
            exact go _ (by rw [k1, if_pos r3]) (of_decide_eq_true (List.all_eq_true.mp t _ r3))
          · rw [if_pos r2]
            exact go 1 (by rw [k1, if_neg r3]) (by decide)
  · obtain ⟨k1, k2⟩ := tK_0 z
    rw [c_sign0 h z (by omega), bd_eq, h6, h.2.1, if_neg (nI_nlt z (by omega)), k1, k2]
    exact ⟨g, rfl, Fi.rf, h6, fun k _ => rfl, fun j _ => rfl, fun u => by omega⟩
theorem c_skipT (hs : Sh g) (h : TX T n g) (h6 : gI g 57 6 = nI s) (hsn : s ≤ n) : f_X8_skipBlanks 57 g = some ((), sI g 57 6 (nI (tP T n s))) := by
  have h9 := h.1
  have FUg := @FU_gt 901 (by decide)
  exact c_skip n s FU g hs h h6 hsn (by omega) (by omega)
/-- the tokens in the class's rows -/
def TA (T : Nat → Nat) (n m : Nat) (g : G) : Prop := ∀ j, j < m → gI g 59 j = nI (tK T n (pS T n j)) ∧ gI g 60 j = nI (tP T n (pS T n j)) ∧ (tK T n (pS T n j) = 2 ∨ tK T n (pS T n j) = 3 → gI g 61 j = nI (tV T n (pS T n j)))
theorem c_st14 (hM : M ≤ n) (hE : tK T n (pS T n M) = 0 ∨ tK T n (pS T n M) = 1) (hN : ∀ j, j < M → tK T n (pS T n j) ≠ 0 ∧ tK T n (pS T n j) ≠ 1) : ∀ r i l fu g, M - i = r → i ≤ M → Sh g → TX T n g → gI g 57 6 = nI (pS T n i) → TA T n i g → l ≠ 0 → l ≠ 1 → r + 1 < fu → ∃ g', f_X8_splitText_14 fu 57 l (nI i) g = some ((), g') ∧ Fi [57, 59, 60, 61] g g' ∧ gI g' 57 10 = nI (M + 1) ∧ (∀ k, k ≠ 6 → k ≠ 10 → gI g' 57 k = gI g 57 k) ∧ TA T n (M + 1) g' := by
  intro r
  induction r with
  | zero =>
    intro i l fu g hr hi hs h h6 hT l0 l1 hf
    have h9 := h.1
    obtain ⟨m, rfl⟩ : ∃ m, fu = m + 1 + 1 := ⟨fu - 2, by omega⟩
    obtain rfl : i = M := by omega
    have FUg := @FU_gt 901 (by decide)
    have psl := pS_le (T := T) (n := n) i
    have hs1 : Sh (sI g 57 6 (nI (tP T n (pS T n i)))) := Sh.si hs
    obtain ⟨g1, hg1⟩ : ∃ g1, g1 = sI (sI g 57 6 (nI (tP T n (pS T n i)))) 60 i (nI (tP T n (pS T n i))) := ⟨_, rfl⟩
    have x1 : Fi [57, 59, 60, 61] g g1 := by
      rw [hg1]
      exact (Fi.rf.si (by decide)).si (by decide)
    have s1 := Sh.fi x1 hs
    obtain ⟨g2, a1, a2, a3, a4, a5, a6⟩ := c_splitToken (i := i) s1 (h.cg (by rw [hg1, gI_sIn (by decide), gI_sIs, pk_un (by decide)]) (congrFun (congrFun x1.R 57) 4) (x1.I (by decide))) (by rw [hg1, gI_sIn (by decide), gI_sIs, pk_us]) psl (by omega)
    have s2 := Sh.fi a2 s1
    have lst : ∀ g, f_X8_splitText_14 (m + 1) 57 (nI (tK T n (pS T n i))) (nI (i + 1)) g = some ((), g) := fun g => by
      rw [f_X8_splitText_14]
      by_cases q : (900 : Int32) < nI (i + 1)
      · rw [if_pos q]
      · rw [if_neg q]
        rcases hE with u | u
        · rw [if_pos (show nI (tK T n (pS T n i)) = 0 by rw [u]; rfl)]
        · rw [if_neg (show ¬ nI (tK T n (pS T n i)) = 0 by rw [u]; decide), if_pos (show nI (tK T n (pS T n i)) = 1 by rw [u]; rfl)]
    have b57 : ∀ k, k ≠ 6 → gI g2 57 k = gI g 57 k := fun k hk => by rw [a4 k hk, hg1, gI_sIn (by decide), gI_sIs, pk_un hk]
    refine ⟨sI (sI g2 59 i (nI (tK T n (pS T n i)))) 57 10 (nI (i + 1)), ?_, x1.tr ((a2.mono (by decide)).tr ((Fi.rf.si (by decide)).si (by decide))), by rw [gI_sIs, pk_us], fun k k1 k2 => ?_, fun j hj => ?_⟩
    · rw [f_X8_splitText_14, if_neg (show ¬ (900 : Int32) < nI i from lngt900 (by omega)), if_neg l0, if_neg l1, c_skipT hs h h6 psl, bd_eq, md57_8 hs1, gk60 hs1, sn60 hs1, gdI_nI (by omega) (by decide), nI_clamp (by omega), gI_sIs, pk_us, lg, ← hg1, a1, bd_eq, md57_7 s2, gk59 s2, sn59 s2, gdI_nI (by omega) (by decide), lg, lad1, lg, lst]
    · rw [gI_sIs, pk_un k2, gI_sIn (by decide), b57 k k1]
    · rw [gI_sIn (by decide), gI_sIs, gI_sIn (by decide), gI_sIn (by decide), gI_sIn (by decide), gI_sIn (by decide)]
      by_cases e : j = i
      · subst e
        refine ⟨pk_us, ?_, a6⟩
        rw [a2.I (by decide), hg1, gI_sIs, pk_us]
      · obtain ⟨t1, t2, t3⟩ := hT j (by omega)
        refine ⟨?_, ?_, fun u => ?_⟩
        · rw [pk_un e, a2.I (by decide), hg1, gI_sIn (by decide), gI_sIn (by decide)]
          exact t1
        · rw [a2.I (by decide), hg1, gI_sIs, pk_un e, gI_sIn (by decide)]
          exact t2
        · rw [a5 j e, hg1, gI_sIn (by decide), gI_sIn (by decide)]
          exact t3 u
  | succ r ih =>
    intro i l fu g hr hi hs h h6 hT l0 l1 hf
    have h9 := h.1
    obtain ⟨m, rfl⟩ : ∃ m, fu = m + 1 := ⟨fu - 1, by omega⟩
    have FUg := @FU_gt 901 (by decide)
    have psl := pS_le (T := T) (n := n) i
    have hs1 : Sh (sI g 57 6 (nI (tP T n (pS T n i)))) := Sh.si hs
    obtain ⟨g1, hg1⟩ : ∃ g1, g1 = sI (sI g 57 6 (nI (tP T n (pS T n i)))) 60 i (nI (tP T n (pS T n i))) := ⟨_, rfl⟩
    have x1 : Fi [57, 59, 60, 61] g g1 := by
      rw [hg1]
      exact (Fi.rf.si (by decide)).si (by decide)
    have s1 := Sh.fi x1 hs
    obtain ⟨g2, a1, a2, a3, a4, a5, a6⟩ := c_splitToken (i := i) s1 (h.cg (by rw [hg1, gI_sIn (by decide), gI_sIs, pk_un (by decide)]) (congrFun (congrFun x1.R 57) 4) (x1.I (by decide))) (by rw [hg1, gI_sIn (by decide), gI_sIs, pk_us]) psl (by omega)
    have s2 := Sh.fi a2 s1
    have b57 : ∀ k, k ≠ 6 → gI g2 57 k = gI g 57 k := fun k hk => by rw [a4 k hk, hg1, gI_sIn (by decide), gI_sIs, pk_un hk]
    obtain ⟨g3, hg3⟩ : ∃ g3, g3 = sI (sI g2 59 i (nI (tK T n (pS T n i)))) 57 10 (nI (i + 1)) := ⟨_, rfl⟩
    have x3 : Fi [57, 59, 60, 61] g g3 := by
      rw [hg3]
      exact x1.tr ((a2.mono (by decide)).tr ((Fi.rf.si (by decide)).si (by decide)))
    have f57 : ∀ k, k ≠ 6 → k ≠ 10 → gI g3 57 k = gI g 57 k := fun k k1 k2 => by
      rw [hg3, gI_sIs, pk_un k2, gI_sIn (by decide), b57 k k1]
    have k01 := hN i (by omega)
    have kl := tK_lt (T := T) (n := n) (s := pS T n i)
    obtain ⟨g4, d1, d2, d3, d4, d5⟩ := ih (i + 1) (nI (tK T n (pS T n i))) m g3 (by omega) (by omega) (Sh.fi x3 hs) (h.cg (f57 5 (by decide) (by decide)) (congrFun (congrFun x3.R 57) 4) (x3.I (by decide))) (by rw [hg3, gI_sIs, pk_un (by decide), gI_sIn (by decide), a3]; rfl) (fun j hj => by
      rw [hg3, gI_sIn (by decide), gI_sIs, gI_sIn (by decide), gI_sIn (by decide), gI_sIn (by decide), gI_sIn (by decide)]
      by_cases e : j = i
      · subst e
        refine ⟨pk_us, ?_, a6⟩
        rw [a2.I (by decide), hg1, gI_sIs, pk_us]
      · obtain ⟨t1, t2, t3⟩ := hT j (by omega)
        refine ⟨?_, ?_, fun u => ?_⟩
        · rw [pk_un e, a2.I (by decide), hg1, gI_sIn (by decide), gI_sIn (by decide)]
          exact t1
        · rw [a2.I (by decide), hg1, gI_sIs, pk_un e, gI_sIn (by decide)]
          exact t2
        · rw [a5 j e, hg1, gI_sIn (by decide), gI_sIn (by decide)]
          exact t3 u) (nI_ne0 (by omega) (by omega)) (fun u => k01.2 ((nI_eq (b := 1) (by omega) (by decide)).mp u)) (by omega)
    refine ⟨g4, ?_, x3.tr d2, d3, fun k k1 k2 => (d4 k k1 k2).trans (f57 k k1 k2), d5⟩
    rw [f_X8_splitText_14, if_neg (show ¬ (900 : Int32) < nI i from lngt900 (by omega)), if_neg l0, if_neg l1, c_skipT hs h h6 psl, bd_eq, md57_8 hs1, gk60 hs1, sn60 hs1, gdI_nI (by omega) (by decide), nI_clamp (by omega), gI_sIs, pk_us, lg, ← hg1, a1, bd_eq, md57_7 s2, gk59 s2, sn59 s2, gdI_nI (by omega) (by decide), lg, lad1, lg, ← hg3, d1]
theorem c_splitText (hM : M ≤ n) (hE : tK T n (pS T n M) = 0 ∨ tK T n (pS T n M) = 1) (hN : ∀ j, j < M → tK T n (pS T n j) ≠ 0 ∧ tK T n (pS T n j) ≠ 1) (hs : Sh g) (h : TX T n g) : ∃ g', f_X8_splitText 57 g = some ((), g') ∧ Fi [57, 59, 60, 61] g g' ∧ gI g' 57 10 = nI (M + 1) ∧ (∀ k, k ≠ 6 → k ≠ 10 → gI g' 57 k = gI g 57 k) ∧ TA T n (M + 1) g' := by
  have h9 := h.1
  have FUg := @FU_gt 902 (by decide)
  have x1 : Fi [57, 59, 60, 61] g (sI (sI g 57 6 0) 57 10 0) := (Fi.rf.si (by decide)).si (by decide)
  have f57 : ∀ k, k ≠ 6 → k ≠ 10 → gI (sI (sI g 57 6 0) 57 10 0) 57 k = gI g 57 k := fun k k1 k2 => by
    rw [gI_sIs, pk_un k2, gI_sIs, pk_un k1]
  obtain ⟨g1, a1, a2, a3, a4, a5⟩ := c_st14 hM hE hN M 0 2 FU (sI (sI g 57 6 0) 57 10 0) (by omega) (by omega) hs (h.cg (f57 5 (by decide) (by decide)) rfl (x1.I (by decide))) (by rw [gI_sIs, pk_un (by decide), gI_sIs, pk_us]; rfl) (fun j hj => by omega) (by decide) (by decide) (by omega)
  refine ⟨g1, ?_, x1.tr a2, a3, fun k k1 k2 => (a4 k k1 k2).trans (f57 k k1 k2), a5⟩
  have a1' : f_X8_splitText_14 FU 57 2 0 (sI (sI g 57 6 0) 57 10 0) = some ((), g1) := a1
  rw [f_X8_splitText, lg, lg, a1']
end SPT
