/-! LOCKSTEP: class (heap g) and reference (heap h) at the same token. -/
section LCK
variable {T : Nat → Nat} {n M i : Nat} {g g' g1 g2 h h' h1 : G} {K K' S S' : List Nat}
def kZ (T : Nat → Nat) (n i : Nat) : Nat := tK T n (pS T n i)
def vZ (T : Nat → Nat) (n i : Nat) : Nat := tV T n (pS T n i)
def pZ (T : Nat → Nat) (n i : Nat) : Nat := tP T n (pS T n i)
/-- the tokens end at the M-th -/
def TZ (T : Nat → Nat) (n M : Nat) : Prop := n ≤ 900 ∧ M ≤ n ∧ (kZ T n M = 0 ∨ kZ T n M = 1) ∧ ∀ j, j < M → kZ T n j ≠ 0 ∧ kZ T n j ≠ 1
def Fc (K S : List Nat) (g g' : G) : Prop := Fi (57 :: S) g g' ∧ ∀ k, k ∉ K → gI g' 57 k = gI g 57 k
theorem Fc.rf : Fc K S g g := ⟨Fi.rf, fun _ _ => rfl⟩
theorem Fc.tr (x : Fc K S g g1) (y : Fc K S g1 g2) : Fc K S g g2 := ⟨x.1.tr y.1, fun j hj => (y.2 j hj).trans (x.2 j hj)⟩
theorem Fc.mono (x : Fc K S g g1) (hk : ∀ a ∈ K, a ∈ K') (hs : ∀ a ∈ S, a ∈ S') : Fc K' S' g g1 := ⟨x.1.mono (fun a ha => (List.mem_cons.mp ha).elim (fun e => e ▸ List.mem_cons_self) (fun q => List.mem_cons_of_mem _ (hs a q))), fun k hq => x.2 k (fun u => hq (hk k u))⟩
theorem Fc.sf (x : Fc K S g g1) {j : Nat} {v : Int32} (hj : j ∈ K) : Fc K S g (sI g1 57 j v) := ⟨x.1.si List.mem_cons_self, fun i hi => by
  have hne : i ≠ j := fun e => hi (e ▸ hj)
  rw [gI_sIs, pk_un hne]
  exact x.2 i hi⟩
theorem Fc.si (x : Fc K S g g1) {a j : Nat} {v : Int32} (ha : a ∈ S) (hn : 57 ≠ a) : Fc K S g (sI g1 a j v) := ⟨x.1.si (List.mem_cons_of_mem _ ha), fun i hi => by rw [gI_sIn hn]; exact x.2 i hi⟩
theorem Fc.I (x : Fc K S g g1) {a : Nat} (ha : a ∉ 57 :: S) : gI g1 a = gI g a := x.1.I ha
theorem Sh.fc (hs : Sh g) (x : Fc K S g g1) : Sh g1 := Sh.fi x.1 hs
def CT (T : Nat → Nat) (n M i : Nat) (g : G) : Prop := TA T n (M + 1) g ∧ (gI g 57 10 = nI (M + 1) ∧ gI g 57 1 = 0 ∧ gI g 57 2 = -1) ∧ gI g 57 11 = nI i ∧ i ≤ M ∧ gI g 57 12 = nI (kZ T n i) ∧ gI g 57 13 = nI (pZ T n i) ∧ (kZ T n i = 2 ∨ kZ T n i = 3 → gI g 57 14 = nI (vZ T n i))
def RT (T : Nat → Nat) (n i : Nat) (h : G) : Prop := TY T n h ∧ gI h 136 6 = nI (pZ T n i) ∧ gI h 136 7 = nI (pS T n (i + 1)) ∧ gI h 136 9 = nI (rkT (kZ T n i) (vZ T n i)) ∧ (kZ T n i = 3 → gI h 136 10 = nI (vZ T n i)) ∧ gI h 136 11 = 0
theorem CT.fc (c : CT T n M i g) (x : Fc K S g g') (hK : K.all (fun k => decide ((2 < k ∧ k < 10) ∨ 14 < k)) = true) (hS : S.all (fun a => decide (61 < a)) = true) : CT T n M i g' := by
  have mK2 : ∀ k, 1 ≤ k → k ≤ 2 → k ∉ K := fun k k1 k2 u => by
    have := of_decide_eq_true (List.all_eq_true.mp hK k u)
    omega
  have mK : ∀ k, 10 ≤ k → k ≤ 14 → k ∉ K := fun k k1 k2 u => by
    have := of_decide_eq_true (List.all_eq_true.mp hK k u)
    omega
  have mS : ∀ a, 57 < a → a ≤ 61 → a ∉ 57 :: S := fun a a1 a2 u => by
    rcases List.mem_cons.mp u with v | v
    · omega
    · have := of_decide_eq_true (List.all_eq_true.mp hS a v)
      omega
  obtain ⟨c1, c2, c3, c4, c5, c6, c7⟩ := c
  refine ⟨fun j hj => ?_, ?_, ?_, c4, ?_, ?_, ?_⟩
  · rw [x.I (mS 59 (by decide) (by decide)), x.I (mS 60 (by decide) (by decide)), x.I (mS 61 (by decide) (by decide))]
    exact c1 j hj
  · rw [x.2 10 (mK 10 (by decide) (by decide)), x.2 1 (mK2 1 (by decide) (by decide)), x.2 2 (mK2 2 (by decide) (by decide))]
    exact c2
  · rw [x.2 11 (mK 11 (by decide) (by decide))]
    exact c3
  · rw [x.2 12 (mK 12 (by decide) (by decide))]
    exact c5
  · rw [x.2 13 (mK 13 (by decide) (by decide))]
    exact c6
  · rw [x.2 14 (mK 14 (by decide) (by decide))]
    exact c7
theorem RT.fm (c : RT T n i h) (x : Fm K S h h') (hK : K.all (fun k => decide (k < 6 ∨ 11 < k)) = true) (hS : S.all (fun a => decide (139 < a)) = true) : RT T n i h' := by
  have mK : ∀ k, 6 ≤ k → k ≤ 11 → k ∉ K := fun k k1 k2 u => by
    have := of_decide_eq_true (List.all_eq_true.mp hK k u)
    omega
  obtain ⟨c1, c2, c3, c4, c5, c6⟩ := c
  have m8 := x.2 8 (mK 8 (by decide) (by decide))
  refine ⟨c1.cg m8 (x.I (fun u => ?_)), ?_, ?_, ?_, ?_, ?_⟩
  · rcases List.mem_cons.mp u with v | v
    · exact absurd v (by decide)
    · have := of_decide_eq_true (List.all_eq_true.mp hS _ v)
      omega
  · rw [x.2 6 (mK 6 (by decide) (by decide))]
    exact c2
  · rw [x.2 7 (mK 7 (by decide) (by decide))]
    exact c3
  · rw [x.2 9 (mK 9 (by decide) (by decide))]
    exact c4
  · rw [x.2 10 (mK 10 (by decide) (by decide))]
    exact c5
  · rw [x.2 11 (mK 11 (by decide) (by decide))]
    exact c6
theorem c_look (hz : TZ T n M) (hs : Sh g) (t : TA T n (M + 1) g) (t10 : gI g 57 10 = nI (M + 1) ∧ gI g 57 1 = 0 ∧ gI g 57 2 = -1) (t11 : gI g 57 11 + 1 = nI i) (hi : i ≤ M) : ∃ g', f_X8_look 57 g = some ((), g') ∧ Fc [11, 12, 13, 14] [] g g' ∧ CT T n M i g' := by
  obtain ⟨z1, z2, z3, z4⟩ := hz
  obtain ⟨a1, a2, a3⟩ := t i (by omega)
  have e1 : ∀ k v, gI (sI g 57 k v) 59 = gI g 59 := fun k v => gI_sIn (by decide)
  refine ⟨sI (sI (sI (sI g 57 11 (nI i)) 57 12 (nI (kZ T n i))) 57 13 (nI (pZ T n i))) 57 14 (gI g 61 i), ?_, (((Fc.rf.sf (by decide)).sf (by decide)).sf (by decide)).sf (by decide), fun j hj => ?_, ?_, ?_, hi, ?_, ?_, fun u => ?_⟩
  · have s1 : Sh (sI g 57 11 (nI i)) := hs
    have s2 : Sh (sI (sI g 57 11 (nI i)) 57 12 (nI (kZ T n i))) := hs
    have s3 : Sh (sI (sI (sI g 57 11 (nI i)) 57 12 (nI (kZ T n i))) 57 13 (nI (pZ T n i))) := hs
    rw [f_X8_look, t10.1, t11, if_neg (nI_ge (by omega) (by omega)), md57_7 hs, gk59 hs, sn59 hs, if_neg (show ¬ nI 901 ≤ nI i from nI_ge (by omega) (by decide)), lg, gI_sIs, pk_us, sn59 s1, gdI_nI (by omega) (by decide), nI_clamp (by omega), gI_sIn (by decide), a1]
    show lg (sI (sI g 57 11 (nI i)) 57 12 (nI (kZ T n i))) _ = _
    rw [lg, md57_8 s2, gk60 s2, sn60 s2, gI_sIs, pk_un (by decide), gI_sIs, pk_us, gdI_nI (by omega) (by decide), nI_clamp (by omega), gI_sIn (by decide), gI_sIn (by decide), a2]
    show lg (sI (sI (sI g 57 11 (nI i)) 57 12 (nI (kZ T n i))) 57 13 (nI (pZ T n i))) _ = _
    rw [lg, md57_9 s3, gk61 s3, sn61 s3, gI_sIs, pk_un (by decide), gI_sIs, pk_un (by decide), gI_sIs, pk_us, gdI_nI (by omega) (by decide), nI_clamp (by omega), gI_sIn (by decide), gI_sIn (by decide), gI_sIn (by decide), lg]
  · rw [gI_sIn (by decide), gI_sIn (by decide), gI_sIn (by decide), gI_sIn (by decide), gI_sIn (by decide), gI_sIn (by decide), gI_sIn (by decide), gI_sIn (by decide), gI_sIn (by decide), gI_sIn (by decide), gI_sIn (by decide), gI_sIn (by decide)]
    exact t j hj
  · have e : ∀ k, k ∉ [11, 12, 13, 14] → gI (sI (sI (sI (sI g 57 11 (nI i)) 57 12 (nI (kZ T n i))) 57 13 (nI (pZ T n i))) 57 14 (gI g 61 i)) 57 k = gI g 57 k := fun k hk => by
      simp only [List.mem_cons, List.not_mem_nil, or_false, not_or] at hk
      rw [gI_sIs, pk_un hk.2.2.2, gI_sIs, pk_un hk.2.2.1, gI_sIs, pk_un hk.2.1, gI_sIs, pk_un hk.1]
    rw [e 10 (by decide), e 1 (by decide), e 2 (by decide)]
    exact t10
  · rw [gI_sIs, pk_un (by decide), gI_sIs, pk_un (by decide), gI_sIs, pk_un (by decide), gI_sIs, pk_us]
  · rw [gI_sIs, pk_un (by decide), gI_sIs, pk_un (by decide), gI_sIs, pk_us]
  · rw [gI_sIs, pk_un (by decide), gI_sIs, pk_us]
  · rw [gI_sIs, pk_us]
    exact a3 u
/-- both go on -/
theorem ls_next (hz : TZ T n M) (hs : Sh g) (hh : Sh h) (c : CT T n M i g) (r : RT T n i h) (k0 : kZ T n i ≠ 0) (k1 : kZ T n i ≠ 1) : i < M ∧ ∃ g' h', f_X8_look 57 g = some ((), g') ∧ f_X12_next 136 h = some ((), h') ∧ Fc [11, 12, 13, 14] [] g g' ∧ Fm [6, 7, 9, 10] [] h h' ∧ CT T n M (i + 1) g' ∧ RT T n (i + 1) h' := by
  obtain ⟨z1, z2, z3, z4⟩ := id hz
  obtain ⟨c1, c2, c3, c4, c5, c6, c7⟩ := c
  obtain ⟨r1, r2, r3, r4, r5, r6⟩ := r
  have iM : i < M := by
    rcases Nat.lt_or_ge i M with u | u
    · exact u
    · rw [show M = i by omega] at z3
      omega
  obtain ⟨g2, a1, a2, a3⟩ := c_look (i := i + 1) hz hs c1 c2 (by rw [c3, lad1]) iM
  obtain ⟨h2, b1, b2, b3, b4, b5, b6⟩ := r_next hh r1 r3 (pS_le (i + 1))
  exact ⟨iM, g2, h2, a1, b1, a2, b2, a3, r1.cg (b2.2 8 (by decide)) (b2.I (by decide)), b3, b4, b5, b6, by rw [b2.2 11 (by decide)]; exact r6⟩
/-! kinds -/
def KSZ : List Nat := 0 :: 1 :: 2 :: 3 :: SGT
def KPZ : List (Nat × Nat) := [(59, 30), (58, 31), (43, 32), (45, 33), (42, 34), (40, 35), (41, 36), (91, 37), (93, 38), (61, 39), (60, 40), (62, 41), (0, 24), (1, 25), (3, 23)]
theorem pm_22 {v : Nat} (h : 15 ≤ v) : pmT v = 22 := by
  unfold pmT
  rw [List.getD_eq_getElem?_getD, List.getElem?_eq_none h]
  rfl
theorem pm_le (v : Nat) : pmT v ≤ 22 := by
  rcases Nat.lt_or_ge v 15 with z | z
  · have t : (List.range 15).all (fun v => decide (pmT v ≤ 22)) = true := by decide
    exact of_decide_eq_true (List.all_eq_true.mp t v (List.mem_range.mpr z))
  · have : pmT v = 22 := pm_22 z
    omega
theorem rk_v {k v : Nat} (h : k ≠ 2) : rkT k v = rkT k 0 := by
  unfold rkT
  rw [if_neg h, if_neg h]
theorem kZ_in : kZ T n i ∈ KSZ := tK_in
theorem kZ_lt : kZ T n i < 128 := tK_lt
theorem rk_k (v : Nat) {k k0 r : Nat} (hk : k ∈ KSZ) (h0 : (k0, r) ∈ KPZ) : rkT k v = r ↔ k = k0 := by
  have t : KPZ.all (fun p => decide (p.1 ≠ 2 ∧ 22 < p.2)) = true := by decide
  have t0 := of_decide_eq_true (List.all_eq_true.mp t _ h0)
  by_cases e : k = 2
  · subst e
    have : rkT 2 v = pmT v := rfl
    have := pm_le v
    exact ⟨fun u => by omega, fun u => absurd u.symm t0.1⟩
  · rw [rk_v e]
    have t2 : KSZ.all (fun k => KPZ.all (fun p => decide (k ≠ 2 → (rkT k 0 = p.2 ↔ k = p.1)))) = true := by decide
    exact of_decide_eq_true (List.all_eq_true.mp (List.all_eq_true.mp t2 k hk) _ h0) e
theorem rk_w {k v w : Nat} (hk : k ∈ KSZ) (hw : w < 15) : rkT k v = pmT w ↔ k = 2 ∧ v = w := by
  by_cases e : k = 2
  · subst e
    show pmT v = pmT w ↔ _
    rcases Nat.lt_or_ge v 15 with z | z
    · have t : (List.range 15).all (fun v => (List.range 15).all (fun w => decide (pmT v = pmT w ↔ 2 = 2 ∧ v = w))) = true := by decide
      exact of_decide_eq_true (List.all_eq_true.mp (List.all_eq_true.mp t v (List.mem_range.mpr z)) w (List.mem_range.mpr hw))
    · have a1 : pmT v = 22 := pm_22 z
      have t : (List.range 15).all (fun w => decide (pmT w ≠ 22)) = true := by decide
      have a2 := of_decide_eq_true (List.all_eq_true.mp t w (List.mem_range.mpr hw))
      exact ⟨fun u => absurd (u.symm.trans a1) a2, fun u => by omega⟩
  · rw [rk_v e]
    have t : KSZ.all (fun k => decide (k ≠ 2 → 22 < rkT k 0)) = true := by decide
    have a := of_decide_eq_true (List.all_eq_true.mp t k hk) e
    have := pm_le w
    exact ⟨fun u => by omega, fun u => absurd u.1 e⟩
theorem CT.k (c : CT T n M i g) {x : Nat} (hx : x < 128) : gI g 57 12 = nI x ↔ kZ T n i = x := by
  have := kZ_lt (T := T) (n := n) (i := i)
  rw [c.2.2.2.2.1, nI_eq (by omega) (by omega)]
theorem vZ_lt (u : kZ T n i = 2 ∨ kZ T n i = 3) : vZ T n i < 1000 := tV_lt (pS_le i) u
theorem c_isW (c : CT T n M i g) {w : Nat} (hw : w < 16) : f_X8_isWord 57 (nI w) g = some (decide (kZ T n i = 2 ∧ vZ T n i = w), g) := by
  rw [f_X8_isWord]
  by_cases e : kZ T n i = 2
  · have := vZ_lt (Or.inl e)
    rw [if_pos (show gI g 57 12 = (2 : Int32) from (c.k (x := 2) (by decide)).mpr e), c.2.2.2.2.2.2 (Or.inl e)]
    by_cases q : vZ T n i = w
    · rw [if_pos (by rw [q]), decide_eq_true ⟨e, q⟩]
    · rw [if_neg (by rw [nI_eq (by omega) (by omega)]; exact q), decide_eq_false (fun u => q u.2)]
  · rw [if_neg (show ¬ gI g 57 12 = (2 : Int32) from fun u => e ((c.k (x := 2) (by decide)).mp u)), decide_eq_false (fun u => e u.1)]
theorem rk_lt (k v : Nat) (hk : k ∈ KSZ) : rkT k v < 100 := by
  by_cases e : k = 2
  · subst e
    have : rkT 2 v = pmT v := rfl
    have := pm_le v
    omega
  · rw [rk_v e]
    have t : KSZ.all (fun k => decide (rkT k 0 < 100)) = true := by decide
    exact of_decide_eq_true (List.all_eq_true.mp t k hk)
theorem r_is (r : RT T n i h) {x : Nat} (hx : x < 100) : f_X12_is 136 (nI x) h = some (decide (rkT (kZ T n i) (vZ T n i) = x), h) := by
  have := rk_lt (kZ T n i) (vZ T n i) kZ_in
  rw [f_X12_is, if_pos r.2.2.2.2.2, r.2.2.2.1]
  by_cases q : rkT (kZ T n i) (vZ T n i) = x
  · rw [if_pos (by rw [q]), decide_eq_true q]
  · rw [if_neg (by rw [nI_eq (by omega) (by omega)]; exact q), decide_eq_false q]
theorem r_isK (r : RT T n i h) {k0 x : Nat} (h0 : (k0, x) ∈ KPZ) : f_X12_is 136 (nI x) h = some (decide (kZ T n i = k0), h) := by
  have t : KPZ.all (fun p => decide (p.2 < 100)) = true := by decide
  rw [r_is r (of_decide_eq_true (List.all_eq_true.mp t _ h0)), decide_eq_decide.mpr (rk_k _ kZ_in h0)]
theorem r_isW (r : RT T n i h) {w : Nat} (hw : w < 15) : f_X12_is 136 (nI (pmT w)) h = some (decide (kZ T n i = 2 ∧ vZ T n i = w), h) := by
  have := pm_le w
  rw [r_is r (by omega), decide_eq_decide.mpr (rk_w kZ_in hw)]
theorem x_is (r : gI h 136 11 ≠ 0) (x : Int32) : f_X12_is 136 x h = some (false, h) := by
  rw [f_X12_is, if_neg r]
theorem x_fails (r : gI h 136 11 ≠ 0) (x : Int32) : f_X12_fails 136 x h = some ((), h) := by
  rw [f_X12_fails, if_neg r]
theorem x_codes (r : gI h 136 11 ≠ 0) (x : Int32) : f_X12_codes 136 x h = some ((), h) := by
  rw [f_X12_codes, if_neg r]
theorem x_eats (r : gI h 136 11 ≠ 0) (x : Int32) : f_X12_eats 136 x h = some (false, h) := by
  rw [f_X12_eats, x_is r, bd_eq, ibF]
/-- both have told the same fault -/
def BadG (g h : G) : Prop := ∃ f, 1 ≤ f ∧ f ≤ 4 ∧ gI g 57 1 = nI f ∧ gI h 136 11 = nI f ∧ gI g 57 2 = gI h 136 12
theorem BadG.x (b : BadG g h) : gI h 136 11 ≠ 0 := by
  obtain ⟨f, f1, f2, f3, f4, f5⟩ := b
  rw [f4]
  exact nI_ne0 (by omega) (by omega)
theorem ls_fail (c : CT T n M i g) (r : RT T n i h) {f : Nat} (f1 : 1 ≤ f) (f4 : f ≤ 4) (hf : kZ T n i ≠ 1) : ∃ g' h', f_X8_refuse 57 (nI f) g = some (false, g') ∧ f_X12_fails 136 (nI f) h = some ((), h') ∧ Fc [1, 2] [] g g' ∧ Fm [11, 12] [] h h' ∧ BadG g' h' := by
  have nb : ¬ gI h 136 9 = (25 : Int32) := fun u => hf ((rk_k (vZ T n i) kZ_in (k0 := 1) (r := 25) (by decide)).mp ((nI_eq (b := 25) (by have := rk_lt (kZ T n i) (vZ T n i) kZ_in; omega) (by decide)).mp (r.2.2.2.1.symm.trans u)))
  refine ⟨sI (sI g 57 1 (nI f)) 57 2 (nI (pZ T n i)), sI (sI h 136 11 (nI f)) 136 12 (nI (pZ T n i)), ?_, ?_, (Fc.rf.sf (by decide)).sf (by decide), (Fm.rf.sf (by decide)).sf (by decide), f, f1, f4, ?_, ?_, ?_⟩
  · rw [f_X8_refuse, lg, gI_sIs, pk_un (by decide), c.2.2.2.2.2.1, lg]
  · rw [f_X12_fails, if_pos r.2.2.2.2.2, if_neg nb, f_X12_fails_23, lg, gI_sIs, pk_un (by decide), r.2.1, lg]
  · rw [gI_sIs, pk_un (by decide), gI_sIs, pk_us]
  · rw [gI_sIs, pk_un (by decide), gI_sIs, pk_us]
  · rw [gI_sIs, pk_us, gI_sIs, pk_us]
theorem ls_bad (c : CT T n M i g) (r : RT T n i h) : ∃ g' h', f_X8_refuseToken 57 g = some (false, g') ∧ f_X12_fails 136 2 h = some ((), h') ∧ Fc [1, 2] [] g g' ∧ Fm [11, 12] [] h h' ∧ BadG g' h' := by
  by_cases e : kZ T n i = 1
  · have nb : gI h 136 9 = (25 : Int32) := by
      rw [r.2.2.2.1, (rk_k (vZ T n i) kZ_in (k0 := 1) (r := 25) (by decide)).mpr e]
      rfl
    refine ⟨sI (sI g 57 1 (nI 1)) 57 2 (nI (pZ T n i)), sI (sI h 136 11 (nI 1)) 136 12 (nI (pZ T n i)), ?_, ?_, (Fc.rf.sf (by decide)).sf (by decide), (Fm.rf.sf (by decide)).sf (by decide), 1, by decide, by decide, ?_, ?_, ?_⟩
    · rw [f_X8_refuseToken, if_pos (show gI g 57 12 = (1 : Int32) from (c.k (x := 1) (by decide)).mpr e), f_X8_refuseToken_14, f_X8_refuse, lg, gI_sIs, pk_un (by decide), c.2.2.2.2.2.1, lg, bd_eq]
      rfl
    · rw [f_X12_fails, if_pos r.2.2.2.2.2, if_pos nb, f_X12_fails_23, lg, gI_sIs, pk_un (by decide), r.2.1, lg]
      rfl
    · rw [gI_sIs, pk_un (by decide), gI_sIs, pk_us]
    · rw [gI_sIs, pk_un (by decide), gI_sIs, pk_us]
    · rw [gI_sIs, pk_us, gI_sIs, pk_us]
  · obtain ⟨g1, h1, a1, a2, a3⟩ := ls_fail c r (f := 2) (by decide) (by decide) e
    refine ⟨g1, h1, ?_, a2, a3⟩
    have a1' : f_X8_refuse 57 2 g = some (false, g1) := a1
    rw [f_X8_refuseToken, if_neg (show ¬ gI g 57 12 = (1 : Int32) from fun u => e ((c.k (x := 1) (by decide)).mp u)), f_X8_refuseToken_14, a1', bd_eq]
end LCK
