/-! THE REFERENCE goes on to the next token: all of it. -/
section NXU
variable {T : Nat → Nat} {n a e s : Nat} {g g' h h' : G}
def sgR (v : Nat) : List Nat → Nat → Nat → Nat
  | [], _, acc => acc
  | c :: cs, k, acc => sgR v cs (k + 1) (if v = c then 30 + k else acc)
/-- a token's kind as the reference tells it -/
def rkT (k v : Nat) : Nat := if k = 0 then 24 else if k = 2 then pmT v else if k = 3 then 23 else sgR k SGT 0 25
theorem sgR_no {v : Nat} : ∀ (cs : List Nat) k acc, v ∉ cs → sgR v cs k acc = acc
  | [], _, _, _ => rfl
  | c :: cs, k, acc, h => by
    show sgR v cs (k + 1) (if v = c then 30 + k else acc) = acc
    rw [if_neg (fun u => h (by rw [u]; exact List.mem_cons_self))]
    exact sgR_no cs (k + 1) acc (fun u => h (List.mem_cons_of_mem _ u))
theorem r_n254 {v : Nat} (hv : v < 256) : ∀ (cs : List Nat) k acc fu g, Sh g → TY T n g → gI g 136 6 = nI a → a < n → T a = v → gI g 136 9 = nI acc → (∀ j, j < cs.length → chT 1 (k + j) = cs.getD j 0) → k + cs.length = 12 → cs.length < fu → ∃ g', f_X12_next_254 fu 136 (nI k) g = some ((), g') ∧ Fm [9] [] g g' ∧ gI g' 136 9 = nI (sgR v cs k acc) := by
  intro cs
  induction cs with
  | nil =>
    intro k acc fu g hs h h6 ha hT h9 hc hk hf
    obtain ⟨m, rfl⟩ : ∃ m, fu = m + 1 := ⟨fu - 1, by omega⟩
    simp only [List.length_nil] at hk
    rw [f_X12_next_254, j_length, bd_eq, if_pos (show nI (jlen 1) ≤ nI k from nI_le (show 12 ≤ k by omega) (by omega))]
    exact ⟨g, rfl, Fm.rf, h9⟩
  | cons c cs ih =>
    intro k acc fu g hs h h6 ha hT h9 hc hk hf
    have hn := h.1
    simp only [List.length_cons] at hk hf
    obtain ⟨m, rfl⟩ : ∃ m, fu = m + 1 := ⟨fu - 1, by omega⟩
    have c0 : chT 1 k = c := hc 0 (by simp)
    have hc' : ∀ j, j < cs.length → chT 1 (k + 1 + j) = cs.getD j 0 := fun j hj => by
      have := hc (j + 1) (by simp; omega)
      rw [show k + 1 + j = k + (j + 1) by omega, this]
      rfl
    have c1 := (ch_t (l := 1) (by decide) (show k < 12 by omega)).2.1
    rw [c0] at c1
    rw [f_X12_next_254, j_length, bd_eq, if_neg (show ¬ nI (jlen 1) ≤ nI k from nI_ge (show k < 12 by omega) (by decide)), h6, r_see hs h ha, bd_eq, j_charAt (by decide) (show k < 12 by omega), bd_eq, c0, hT]
    show ∃ g', _ ∧ _ ∧ gI g' 136 9 = nI (sgR v cs (k + 1) (if v = c then 30 + k else acc))
    by_cases q : v = c
    · rw [if_pos (by rw [q]), if_pos q, show (30 : Int32) = nI 30 from rfl, nI_add, lg, f_X12_next_288, lad1]
      obtain ⟨g1, a1, a2, a3⟩ := ih (k + 1) (30 + k) m (sI g 136 9 (nI (30 + k))) hs (h.sx (by decide)) (by rw [gI_sIs, pk_un (by decide)]; exact h6) ha hT (by rw [gI_sIs, pk_us]) hc' (by omega) (by omega)
      exact ⟨g1, a1, ((Fm.rf.sf (by decide)).tr a2), a3⟩
    · rw [if_neg (by rw [nI_eq (by omega) (by omega)]; exact q), if_neg q, f_X12_next_288, lad1]
      exact ih (k + 1) acc m g hs h h6 ha hT h9 hc' (by omega) (by omega)
theorem r_n146 (ha : a ≤ n) : ∀ k s j fu g, Sh g → TY T n g → gI g 136 6 = nI a → gI g 136 7 = nI s → s = a + j → gI g 136 10 = nI (nvT T a (min j 3)) → (∀ i, i < j → T (a + i) ≤ 57) → s ≤ n → n ≤ s + k → k < fu → ∃ g', f_X12_next_146 fu 136 g = some ((), g') ∧ Fm [7, 9, 10] [] g g' ∧ gI g' 136 7 = nI (rnT dgT T n k s) ∧ gI g' 136 9 = nI (if rnT dgT T n k s ≤ a + 3 then 23 else 25) ∧ gI g' 136 10 = nI (nvT T a (min (rnT dgT T n k s - a) 3)) := by
  intro k
  have fin : ∀ m s j g, Sh g → TY T n g → gI g 136 6 = nI a → gI g 136 7 = nI s → s = a + j → gI g 136 10 = nI (nvT T a (min j 3)) → s ≤ n → ¬ (s < n ∧ dgT (T s) = true) → ∃ g', f_X12_next_146 (m + 1) 136 g = some ((), g') ∧ Fm [7, 9, 10] [] g g' ∧ gI g' 136 7 = nI s ∧ gI g' 136 9 = nI (if s ≤ a + 3 then 23 else 25) ∧ gI g' 136 10 = nI (nvT T a (min (s - a) 3)) := by
    intro m s j g hs h h6 h7 hj h10 h2 h3
    have := h.1
    have fin2 : ∃ g', (if (gI g 136 7 - gI g 136 6) ≤ (3 : Int32) then (f_X12_next_230 (23 : Int32) 136 g) else (f_X12_next_230 (25 : Int32) 136 g)) = some ((), g') ∧ Fm [7, 9, 10] [] g g' ∧ gI g' 136 7 = nI s ∧ gI g' 136 9 = nI (if s ≤ a + 3 then 23 else 25) ∧ gI g' 136 10 = nI (nvT T a (min (s - a) 3)) := by
      rw [h6, h7, pk_sub (by omega)]
      by_cases q : s ≤ a + 3
      · rw [if_pos (show nI (s - a) ≤ (3 : Int32) from nI_le (b := 3) (by omega) (by decide)), if_pos q]
        refine ⟨_, rfl, Fm.rf.sf (by decide), ?_, ?_, ?_⟩
        · rw [gI_sIs, pk_un (by decide), h7]
        · rw [gI_sIs, pk_us]
          rfl
        · rw [gI_sIs, pk_un (by decide), h10, show s - a = j by omega]
      · rw [if_neg (show ¬ nI (s - a) ≤ (3 : Int32) from nI_ge (a := 3) (by omega) (by omega)), if_neg q]
        refine ⟨_, rfl, Fm.rf.sf (by decide), ?_, ?_, ?_⟩
        · rw [gI_sIs, pk_un (by decide), h7]
        · rw [gI_sIs, pk_us]
          rfl
        · rw [gI_sIs, pk_un (by decide), h10, show s - a = j by omega]
    rw [f_X12_next_146, h7]
    rcases Nat.lt_or_ge s n with z | z
    · have e1 : dgT (T s) = false := by
        cases q : dgT (T s) with
        | false => rfl
        | true => exact absurd ⟨z, q⟩ h3
      rw [r_see hs h z, bd_eq, r_digit (h.2.2 s z).1, bd_eq, e1, ibF]
      exact fin2
    · rw [r_see0 h z (by omega), bd_eq, r_digit0, bd_eq, ibF]
      exact fin2
  induction k with
  | zero =>
    intro s j fu g hs h h6 h7 hj h10 hd h2 h3 hf
    obtain ⟨m, rfl⟩ : ∃ m, fu = m + 1 := ⟨fu - 1, by omega⟩
    exact fin m s j g hs h h6 h7 hj h10 h2 (by omega)
  | succ k ih =>
    intro s j fu g hs h h6 h7 hj h10 hd h2 h3 hf
    have := h.1
    obtain ⟨m, rfl⟩ : ∃ m, fu = m + 1 := ⟨fu - 1, by omega⟩
    by_cases z : s < n ∧ dgT (T s) = true
    · have d1 := dg_le z.2
      have hd' : ∀ i, i < j + 1 → T (a + i) ≤ 57 := fun i hi => by
        by_cases u : i = j
        · rw [u, ← hj]
          exact d1.2
        · exact hd i (by omega)
      rw [rn_y z.1 z.2, f_X12_next_146, h7, r_see hs h z.1, bd_eq, r_digit (h.2.2 s z.1).1, bd_eq, z.2, ibT, h6, h7, pk_sub (by omega), show s - a = j by omega]
      by_cases q : 3 ≤ j
      · rw [if_pos (show (3 : Int32) ≤ nI j from nI_le (a := 3) q (by omega)), f_X12_next_196, h7, lad1, lg]
        obtain ⟨g1, a1, a2, a3, a4, a5⟩ := ih (s + 1) (j + 1) m (sI g 136 7 (nI (s + 1))) hs (h.sx (by decide)) (by rw [gI_sIs, pk_un (by decide)]; exact h6) (by rw [gI_sIs, pk_us]) (by omega) (by rw [gI_sIs, pk_un (by decide), h10, show min (j + 1) 3 = min j 3 by omega]) hd' z.1 (by omega) (by omega)
        exact ⟨g1, a1, (Fm.rf.sf (by decide)).tr a2, a3, a4, a5⟩
      · have nl := nv_lt (T := T) (a := a) j hd
        have p3 : 10 ^ j ≤ 10 ^ 3 := Nat.pow_le_pow_right (by decide) (by omega)
        have ev : ((((10 : Int32) * nI (nvT T a (min j 3))) + nI (T s)) - (48 : Int32)) = nI (nvT T a (j + 1)) := by
          rw [show min j 3 = j by omega, show (10 : Int32) = nI 10 from rfl, pk_mul, nI_add, show (48 : Int32) = nI 48 from rfl, pk_sub (by omega)]
          congr 1
          show 10 * nvT T a j + T s - 48 = 10 * nvT T a j + (T (a + j) - 48)
          rw [← hj]
          omega
        rw [if_neg (show ¬ (3 : Int32) ≤ nI j from nI_ge (b := 3) (by omega) (by decide)), r_see hs h z.1, bd_eq, h10, ev, lg, f_X12_next_196, gI_sIs, pk_un (by decide), h7, lad1, lg]
        obtain ⟨g1, a1, a2, a3, a4, a5⟩ := ih (s + 1) (j + 1) m (sI (sI g 136 10 (nI (nvT T a (j + 1)))) 136 7 (nI (s + 1))) hs ((h.sx (by decide)).sx (by decide)) (by rw [gI_sIs, pk_un (by decide), gI_sIs, pk_un (by decide)]; exact h6) (by rw [gI_sIs, pk_us]) (by omega) (by rw [gI_sIs, pk_un (by decide), gI_sIs, pk_us, show min (j + 1) 3 = j + 1 by omega]) hd' z.1 (by omega) (by omega)
        exact ⟨g1, a1, ((Fm.rf.sf (by decide)).sf (by decide)).tr a2, a3, a4, a5⟩
    · rw [rn_n z]
      exact fin m s j g hs h h6 h7 hj h10 h2 z
theorem r_n8 : ∀ k s fu g, Sh g → TY T n g → gI g 136 6 = nI s → s ≤ n → n ≤ s + k → k < fu → ∃ g7, g7 = sI g 136 6 (nI (rnT bkT T n k s)) ∧ f_X12_next_8 fu 136 g = (lg (sI g7 136 7 (gI g7 136 6)) (fun g11 => if (gI g11 136 6) < (gI g11 136 8) then (bd (f_X12_see 136 (gI g11 136 6) g11) (fun v14 g15 => bd (f_X12_isSmall v14 g15) (fun v18 g19 => if (b2i v18) = 0 then (bd (f_X12_see 136 (gI g19 136 6) g19) (fun v23 g24 => bd (f_X12_isDigit v23 g24) (fun v27 g28 => if (b2i v27) = 0 then (lg (sI g28 136 7 ((gI g28 136 7) + (1 : Int32))) (fun g32 => lg (sI g32 136 9 (25 : Int32)) (fun g34 => f_X12_next_254 FU 136 (0 : Int32) g34))) else (lg (sI g28 136 10 (0 : Int32)) (fun g36 => f_X12_next_146 FU 136 g36))))) else (f_X12_next_89 FU 136 g19)))) else (lg (sI g11 136 9 (24 : Int32)) (fun g38 => some ((), g38))))) := by
  intro k
  have fin : ∀ m s g, Sh g → TY T n g → gI g 136 6 = nI s → s ≤ n → ¬ (s < n ∧ bkT (T s) = true) → ∃ g7, g7 = sI g 136 6 (nI s) ∧ f_X12_next_8 (m + 1) 136 g = (lg (sI g7 136 7 (gI g7 136 6)) (fun g11 => if (gI g11 136 6) < (gI g11 136 8) then (bd (f_X12_see 136 (gI g11 136 6) g11) (fun v14 g15 => bd (f_X12_isSmall v14 g15) (fun v18 g19 => if (b2i v18) = 0 then (bd (f_X12_see 136 (gI g19 136 6) g19) (fun v23 g24 => bd (f_X12_isDigit v23 g24) (fun v27 g28 => if (b2i v27) = 0 then (lg (sI g28 136 7 ((gI g28 136 7) + (1 : Int32))) (fun g32 => lg (sI g32 136 9 (25 : Int32)) (fun g34 => f_X12_next_254 FU 136 (0 : Int32) g34))) else (lg (sI g28 136 10 (0 : Int32)) (fun g36 => f_X12_next_146 FU 136 g36))))) else (f_X12_next_89 FU 136 g19)))) else (lg (sI g11 136 9 (24 : Int32)) (fun g38 => some ((), g38))))) := by
    intro m s g hs h h6 h2 h3
    have := h.1
    refine ⟨g, (sI_id h6).symm, ?_⟩
    rw [f_X12_next_8, h6]
    rcases Nat.lt_or_ge s n with z | z
    · have b1 := (h.2.2 s z).1
      have e1 : T s ≠ 32 ∧ T s ≠ 10 := ⟨fun u => h3 ⟨z, by rw [u]; rfl⟩, fun u => h3 ⟨z, by rw [u]; rfl⟩⟩
      rw [r_see hs h z, bd_eq, if_neg (show ¬ nI (T s) = (10 : Int32) from fun u => e1.2 ((nI_eq (b := 10) (by omega) (by decide)).mp u)), h6, r_see hs h z, bd_eq, if_neg (show ¬ nI (T s) = (32 : Int32) from fun u => e1.1 ((nI_eq (b := 32) (by omega) (by decide)).mp u)), h6]
    · rw [r_see0 h z (by omega), bd_eq, if_neg (by decide), h6, r_see0 h z (by omega), bd_eq, if_neg (by decide), h6]
  induction k with
  | zero =>
    intro s fu g hs h h6 h1 h2 hf
    obtain ⟨m, rfl⟩ : ∃ m, fu = m + 1 := ⟨fu - 1, by omega⟩
    exact fin m s g hs h h6 h1 (by omega)
  | succ k ih =>
    intro s fu g hs h h6 h1 h2 hf
    have := h.1
    obtain ⟨m, rfl⟩ : ∃ m, fu = m + 1 := ⟨fu - 1, by omega⟩
    by_cases z : s < n ∧ bkT (T s) = true
    · have b1 := (h.2.2 s z.1).1
      obtain ⟨g7, e7, a7⟩ := ih (s + 1) m (sI g 136 6 (nI (s + 1))) hs (h.sx (by decide)) (by rw [gI_sIs, pk_us]) z.1 (by omega) (by omega)
      rw [sI_sI] at e7
      refine ⟨g7, by rw [rn_y z.1 z.2]; exact e7, ?_⟩
      have step : f_X12_next_34 (f_X12_next_8 m) 136 g = f_X12_next_8 m 136 (sI g 136 6 (nI (s + 1))) := by
        rw [f_X12_next_34, h6, lad1, lg]
      rw [f_X12_next_8, h6, r_see hs h z.1, bd_eq]
      by_cases q : T s = 10
      · rw [if_pos (show nI (T s) = (10 : Int32) by rw [q]; rfl), step, a7]
      · have q2 : T s = 32 := (of_decide_eq_true z.2).resolve_right q
        rw [if_neg (show ¬ nI (T s) = (10 : Int32) from fun u => q ((nI_eq (b := 10) (by omega) (by decide)).mp u)), h6, r_see hs h z.1, bd_eq, if_pos (show nI (T s) = (32 : Int32) by rw [q2]; rfl), step, a7]
    · rw [rn_n z]
      exact fin m s g hs h h6 h1 z
theorem r_next (hs : Sh g) (h : TY T n g) (h7 : gI g 136 7 = nI s) (hsn : s ≤ n) : ∃ g', f_X12_next 136 g = some ((), g') ∧ Fm [6, 7, 9, 10] [] g g' ∧ gI g' 136 6 = nI (tP T n s) ∧ gI g' 136 7 = nI (tE T n s) ∧ gI g' 136 9 = nI (rkT (tK T n s) (tV T n s)) ∧ (tK T n s = 3 → gI g' 136 10 = nI (tV T n s)) := by
  have h9 := h.1
  have FUg := @FU_gt 901 (by decide)
  have pl := tP_le (T := T) hsn
  have el := tE_le (T := T) hsn
  obtain ⟨g7, e7, a7⟩ := r_n8 n s FU (sI g 136 6 (nI s)) hs (h.sx (by decide)) (by rw [gI_sIs, pk_us]) hsn (by omega) (by omega)
  rw [sI_sI] at e7
  have e7' : g7 = sI g 136 6 (nI (tP T n s)) := e7
  obtain ⟨g11, e11⟩ : ∃ g11, g11 = sI g7 136 7 (nI (tP T n s)) := ⟨_, rfl⟩
  have x11 : Fm [6, 7, 9, 10] [] g g11 := by
    rw [e11, e7']
    exact (Fm.rf.sf (by decide)).sf (by decide)
  have hs11 : Sh g11 := hs.fm x11
  have t11 : TY T n g11 := h.cg (x11.2 8 (by decide)) (x11.I (by decide))
  have i6 : gI g11 136 6 = nI (tP T n s) := by rw [e11, gI_sIs, pk_un (by decide), e7', gI_sIs, pk_us]
  have i7 : gI g11 136 7 = nI (tP T n s) := by rw [e11, gI_sIs, pk_us]
  have i67 : gI g7 136 6 = nI (tP T n s) := by rw [e7', gI_sIs, pk_us]
  rw [f_X12_next, h7, lg, a7, lg, i67, ← e11, i6, t11.2.1]
  rcases Nat.lt_or_ge (tP T n s) n with z | z
  · have b1 := (t11.2.2 _ z).1
    rw [if_pos (nI_lt z (by omega)), r_see hs11 t11 z, bd_eq, r_small b1, bd_eq]
    by_cases z1 : slT (T (tP T n s)) = true
    · obtain ⟨k1, k2, k3⟩ := tK_2 z z1
      rw [z1, ibT, r_n89 pl n (tP T n s) FU g11 hs11 t11 i6 i7 (Nat.le_refl _) pl (by omega) (by omega), ← k2, ← k3, k1]
      refine ⟨_, rfl, (x11.sf (by decide)).sf (by decide), ?_, ?_, ?_, fun u => by omega⟩
      · rw [gI_sIs, pk_un (by decide), gI_sIs, pk_un (by decide), i6]
      · rw [gI_sIs, pk_un (by decide), gI_sIs, pk_us]
      · rw [gI_sIs, pk_us]
        rfl
    · rw [Bool.not_eq_true] at z1
      have z1' : ¬ slT (T (tP T n s)) = true := by rw [z1]; exact fun u => by cases u
      rw [z1, ibF, i6, r_see hs11 t11 z, bd_eq, r_digit b1, bd_eq]
      by_cases z2 : dgT (T (tP T n s)) = true
      · obtain ⟨k1, k2, k3⟩ := tK_3 z z2
        rw [z2, ibT, lg]
        obtain ⟨g2, a1, a2, a3, a4, a5⟩ := r_n146 (T := T) pl n (tP T n s) 0 FU (sI g11 136 10 0) hs11 (t11.sx (by decide)) (by rw [gI_sIs, pk_un (by decide)]; exact i6) (by rw [gI_sIs, pk_un (by decide)]; exact i7) rfl (by rw [gI_sIs, pk_us]; rfl) (fun i hi => by omega) pl (by omega) (by omega)
        rw [← k2] at a3 a4 a5
        refine ⟨g2, a1, (x11.sf (by decide)).tr (a2.mono (by decide) (by decide)), ?_, a3, ?_, fun u => ?_⟩
        · rw [a2.2 6 (by decide), gI_sIs, pk_un (by decide), i6]
        · rw [a4, k1]
          by_cases q : tE T n s ≤ tP T n s + 3
          · rw [if_pos q, if_pos q]
            rfl
          · rw [if_neg q, if_neg q]
            rfl
        · have q : tE T n s ≤ tP T n s + 3 := by
            rcases Nat.lt_or_ge (tP T n s + 3) (tE T n s) with w | w
            · rw [k1, if_neg (by omega)] at u
              omega
            · exact w
          rw [a5, k3, show min (tE T n s - tP T n s) 3 = tE T n s - tP T n s by omega]
      · obtain ⟨k1, k2⟩ := tK_s z z1' z2
        rw [Bool.not_eq_true] at z2
        rw [z2, ibF, i7, lad1, lg, lg]
        have x34 : Fm [6, 7, 9, 10] [] g (sI (sI g11 136 7 (nI (tP T n s + 1))) 136 9 25) := (x11.sf (by decide)).sf (by decide)
        have t : (List.range 12).all (fun j => decide (chT 1 (0 + j) = SGT.getD j 0)) = true := by decide +kernel
        obtain ⟨g2, a1, a2, a3⟩ := r_n254 (T := T) (n := n) (a := tP T n s) b1 SGT 0 25 FU (sI (sI g11 136 7 (nI (tP T n s + 1))) 136 9 25) (hs.fm x34) (h.cg (x34.2 8 (by decide)) (x34.I (by decide))) (by rw [gI_sIs, pk_un (by decide), gI_sIs, pk_un (by decide)]; exact i6) z rfl (by rw [gI_sIs, pk_us]; rfl) (fun j hj => of_decide_eq_true (List.all_eq_true.mp t j (List.mem_range.mpr hj))) rfl (FU_gt (by decide))
        refine ⟨g2, a1, x34.tr (a2.mono (by decide) (by decide)), ?_, ?_, ?_, fun u => ?_⟩
        · rw [a2.2 6 (by decide), gI_sIs, pk_un (by decide), gI_sIs, pk_un (by decide), i6]
        · rw [a2.2 7 (by decide), gI_sIs, pk_un (by decide), gI_sIs, pk_us, k2]
        · rw [a3, k1]
          by_cases q : T (tP T n s) ∈ SGT
          · rw [if_pos q]
            have t : SGT.all (fun v => decide (v ≠ 0 ∧ v ≠ 2 ∧ v ≠ 3)) = true := by decide
            obtain ⟨w1, w2, w3⟩ := of_decide_eq_true (List.all_eq_true.mp t _ q)
            unfold rkT
            rw [if_neg w1, if_neg w2, if_neg w3]
          · rw [if_neg q, sgR_no SGT 0 25 q]
            rfl
        · rw [k1] at u
          have t : SGT.all (fun v => decide (v ≠ 3)) = true := by decide
          split at u
          · next q => exact absurd u (of_decide_eq_true (List.all_eq_true.mp t _ q))
          · omega
  · obtain ⟨k1, k2⟩ := tK_0 z
    rw [if_neg (nI_nlt z (by omega)), lg, k1, k2]
    refine ⟨_, rfl, x11.sf (by decide), ?_, ?_, ?_, fun u => by omega⟩
    · rw [gI_sIs, pk_un (by decide), i6]
    · rw [gI_sIs, pk_un (by decide), i7]
    · rw [gI_sIs, pk_us]
      rfl
end NXU
