/-! NUMBERS, WRITE answered alike. -/
section TRW
variable {X : Nat → Prop} {A : Nat → Int32} {g g' : G} {t ag : Nat}
def TRL : List Nat := [128, 129, 130, 131, 132, 133, 134, 135, 136, 152, 153, 154]
theorem tL1 (ht : t < 4) : 128 + 2 * t ∈ TRL := by
  obtain rfl | rfl | rfl | rfl : t = 0 ∨ t = 1 ∨ t = 2 ∨ t = 3 := by omega
  all_goals decide
theorem tL2 (ht : t < 4) : 129 + 2 * t ∈ TRL := by
  obtain rfl | rfl | rfl | rfl : t = 0 ∨ t = 1 ∨ t = 2 ∨ t = 3 := by omega
  all_goals decide
theorem Inv.tr (h : Inv X A ag g) (x : Fi TRL g g') (k : ∀ k, k ≠ 0 → gI g' 136 k = gI g 136 k) (hT : TR g') : Inv X A ag g' := by
  have hs := h.1.1.1
  have n0 : gI g' 0 = gI g 0 := x.I (by decide)
  exact ⟨h.1.fr x.q (Sh.fi x hs) (by decide), h.2.ft h.1.2.1 hs x.a (by decide) hT (by rw [n0]) (by rw [n0]) (by rw [n0]) (k 5 (by decide)) (k 13 (by decide)) (k 14 (by decide))⟩
/-- one tray is told anew -/
theorem TR.one (h : TR g) (ht : t < 4) (e : ∀ s, s < 4 → s ≠ t → gI g' (128 + 2 * s) = gI g (128 + 2 * s) ∧ gL g' (129 + 2 * s) = gL g (129 + 2 * s) ∧ gI g' 152 s = gI g 152 s ∧ gI g' 153 s = gI g 153 s ∧ ∀ k, k < 40 → gL g' 154 (40 * s + k) = gL g 154 (40 * s + k)) (n : ∃ (so : Int32) (m : Nat), (so = -1 ∨ ∃ s, s ≤ 3 ∧ so = nI s) ∧ m ≤ 40 ∧ gI g' (128 + 2 * t) 1 = so ∧ gI g' 152 t = so ∧ gI g' (128 + 2 * t) 0 = nI m ∧ gI g' 153 t = nI m ∧ ∀ k, k < m → gL g' (129 + 2 * t) k = gL g' 154 (40 * t + k)) : TR g' := by
  intro s hs
  by_cases u : s = t
  · rw [u]
    exact n
  · obtain ⟨e1, e2, e3, e4, e5⟩ := e s hs u
    obtain ⟨so, m, s1, s2, s3, s4, s5, s6, s7⟩ := h s hs
    refine ⟨so, m, s1, s2, ?_, e3.trans s4, ?_, e4.trans s6, fun k hk => ?_⟩
    · rw [e1]
      exact s3
    · rw [e1]
      exact s5
    · rw [e2, e5 k (by omega)]
      exact s7 k hk
theorem in41 (v : Int32) : decide (0 ≤ v.toInt ∧ v.toInt ≤ 40) = inR v 41 := by
  unfold inR
  rw [decide_eq_decide]
  omega
theorem r_wi40 (v : Int32) : f_X12_within v.toInt64 0 40 g = some (inR v 41, g) := by
  have h : f_X12_within v.toInt64 0 40 g = some (decide (0 ≤ v.toInt ∧ v.toInt ≤ 40), g) := r_wib v 40 (by decide)
  rw [h, in41]
theorem c_become (hs : Sh g) (ht : t < 4) {s n : Nat} (hn : n ≤ 40) : ∃ g', f_X10_become (128 + 2 * t) (nI s) (nI n) g = some ((), g') ∧ Fi [128 + 2 * t, 129 + 2 * t] g g' ∧ gI g' (128 + 2 * t) 1 = nI s ∧ gI g' (128 + 2 * t) 0 = nI n ∧ ∀ k, k < 40 → gL g' (129 + 2 * t) k = 0 := by
  have x1 : Fi [128 + 2 * t, 129 + 2 * t] g (sI (sI g (128 + 2 * t) 1 (nI s)) (128 + 2 * t) 0 (nI n)) := (Fi.rf.si (List.mem_cons_self ..)).si (List.mem_cons_self ..)
  have hs1 := Sh.fi x1 hs
  obtain ⟨g2, e1, e2, e3, e4⟩ := c_fillL (g := sI (sI g (128 + 2 * t) 1 (nI s)) (128 + 2 * t) 0 (nI n)) (a := 129 + 2 * t) (len := 40) (by decide) (tr_n2 hs1 ht) 0
  have mi : ∀ g, f_J9_min_7cf53 40 (nI n) g = some (nI n, g) := fun g => by
    rw [f_J9_min_7cf53]
    rcases Nat.lt_or_ge n 40 with z | z
    · rw [if_pos (show nI n < 40 from nI_lt (b := 40) z (by decide))]
    · have : n = 40 := by omega
      subst this
      rfl
  have ma : ∀ g, f_J9_max_7cf53 0 (nI n) g = some (nI n, g) := fun g => by
    rw [f_J9_max_7cf53]
    by_cases z : n = 0
    · subst z
      rfl
    · rw [if_pos (show (0 : Int32) < nI n from nI_lt (a := 0) (by omega) (by omega))]
  refine ⟨g2, ?_, x1.tr (e2.mono (by simp)), ?_, ?_, e4⟩
  · rw [f_X10_become, lg, mi, bd_eq, ma, bd_eq, lg, tr_d2 hs1 ht, tr_g2 hs1 ht, e1, bd_eq]
  · rw [e3, gI_sIs, pk_un (by decide), gI_sIs, pk_us]
  · rw [e3, gI_sIs, pk_us]
theorem r_nu64 (ht : t < 4) {n : Nat} (hn : n ≤ 40) : ∀ fu k g, Sh g → (∀ j, j < k → gL g 154 (40 * t + j) = 0) → k ≤ n → n < fu + k → ∃ g', f_X12_numbers_64 fu 136 (nI t) (nI n) (nI k) g = some (0, g') ∧ Fi [154] g g' ∧ (∀ j, j < n → gL g' 154 (40 * t + j) = 0) ∧ ∀ s, s < 4 → s ≠ t → ∀ j, j < 40 → gL g' 154 (40 * s + j) = gL g 154 (40 * s + j) := by
  intro fu
  induction fu with
  | zero => intro k g _ _ _ h; omega
  | succ fu ih =>
    intro k g hs h0 hk hfu
    rw [f_X12_numbers_64]
    rcases Nat.lt_or_ge k n with z | z
    · have x1 : Fi [154] g (sL g 154 (40 * t + k) 0) := Fi.rf.sl (by decide)
      obtain ⟨g2, d1, d2, d3, d4⟩ := ih (k + 1) (sL g 154 (40 * t + k) 0) (Sh.fi x1 hs) (fun j hj => by
        rw [gL_sLs]
        by_cases u : j = k
        · rw [u]
          exact pk_uLs
        · rw [pk_uLn (by omega)]
          exact h0 j (by omega)) z (by omega)
      refine ⟨g2, ?_, x1.tr d2, d3, fun s s1 s2 j hj => ?_⟩
      · rw [if_neg (nI_ge z (by omega)), md136_35 hs, gk154 hs, sn154 hs, lum40, nI_add, gdI_nI (by omega) (by decide), nI_clamp (by omega), lg, lad1, d1]
      · rw [d4 s s1 s2 j hj, gL_sLs]
        exact pk_uLn (by omega)
    · have e : k = n := by omega
      subst e
      rw [if_pos (nI_le z (by omega))]
      exact ⟨g, rfl, Fi.rf, h0, fun _ _ _ _ _ => rfl⟩
theorem CA.no {α : Type} {c : Option (α × G)} {r : G → Option (α × G)} {v : α} (h : Inv X A ag g) (hc : c = some (v, g)) (hr : r g = some (v, sI g 136 0 0)) : CA ag g c r := by
  obtain ⟨a, b⟩ := h.1.fm (K := [0]) (S := []) tF0 (by decide) (by decide)
  exact ⟨v, g, _, X, A, ag, hc, hr, ⟨a, h.2.qf h.1.2.1 h.1.1.1 b⟩, by omega, by rw [gn_sI]; omega, by rw [gs_sI]; omega⟩
theorem q_numbers (h : Inv X A ag g) (u v w : Int32) : CA ag g (f_X11_numbers 0 u v w g) (fun g => f_X12_numbers 136 u v w g) := by
  have hs := h.1.1.1
  cases hu : inR u 4 with
  | false => exact CA.no (v := -2) h (by rw [f_X11_numbers, c_isTray, hu, bd_eq, ibF]) (by
      show f_X12_numbers 136 u v w g = _
      rw [f_X12_numbers, lg, r_wi3, hu, bd_eq, ibF])
  | true =>
    obtain ⟨t, ht, rfl⟩ := inR_true hu (by decide)
    have bad : inR v 4 = false → (v < 0 ∨ ¬ v ≤ 3) → CA ag g (f_X11_numbers 0 (nI t) v w g) (fun g => f_X12_numbers 136 (nI t) v w g) := fun e1 e2 => CA.no (v := -2) h (by
      rw [f_X11_numbers, c_isTray, hu, bd_eq, ibT]
      rcases e2 with z | z
      · rw [if_pos z]
      · rw [if_neg z]
        split
        · rfl
        · rfl) (by
      show f_X12_numbers 136 (nI t) v w g = _
      rw [f_X12_numbers, lg, r_wi3, hu, bd_eq, ibT, r_wi3, e1, bd_eq, ibF])
    rcases inR_c v 4 with ⟨s, h1, h2, rfl, h4⟩ | ⟨h1, h2⟩ | ⟨s, h1, h2, rfl, h4⟩
    · have ls : nI s ≤ 3 := nI_le (b := 3) (by omega) (by decide)
      have bad2 : inR w 41 = false → (w < 0 ∨ ¬ w ≤ 40) → CA ag g (f_X11_numbers 0 (nI t) (nI s) w g) (fun g => f_X12_numbers 136 (nI t) (nI s) w g) := fun e1 e2 => CA.no (v := -3) h (by
        rw [f_X11_numbers, c_isTray, hu, bd_eq, ibT, if_neg (nI_pos h2), if_pos ls]
        rcases e2 with z | z
        · rw [if_pos z]
        · rw [if_neg z]
          split
          · rfl
          · rfl) (by
        show f_X12_numbers 136 (nI t) (nI s) w g = _
        rw [f_X12_numbers, lg, r_wi3, hu, bd_eq, ibT, r_wi3, h4, bd_eq, ibT, r_wi40, e1, bd_eq, ibF])
      rcases inR_c w 41 with ⟨n, n1, n2, rfl, n4⟩ | ⟨n1, n2⟩ | ⟨n, n1, n2, rfl, n4⟩
      · obtain ⟨g1, b1, b2, b3, b4, b5⟩ := c_become (s := s) (n := n) hs ht (by omega)
        have y1 : Fi TRL g g1 := b2.mono (fun a ha => by
          rcases List.mem_cons.mp ha with z | z
          · rw [z]
            exact tL1 ht
          · rw [List.mem_singleton.mp z]
            exact tL2 ht)
        have hs1 := Sh.fi y1 hs
        have x2 : Fi [136, 152, 153] g1 (sI (sI (sI g1 136 0 0) 152 t (nI s)) 153 t (nI n)) := ((Fi.rf.si (by decide)).si (by decide)).si (by decide)
        have hs0 : Sh (sI g1 136 0 0) := Sh.fi (S := [136]) (Fi.rf.si (by decide)) hs1
        have hsa : Sh (sI (sI g1 136 0 0) 152 t (nI s)) := Sh.fi (S := [152]) (Fi.rf.si (by decide)) hs0
        have hs2 := Sh.fi x2 hs1
        obtain ⟨g3, d1, d2, d3, d4⟩ := r_nu64 ht (n := n) (by omega) FU 0 _ hs2 (fun j hj => by omega) (Nat.zero_le _) (by have := @FU_gt n (by omega); omega)
        have d1' : f_X12_numbers_64 FU 136 (nI t) (nI n) 0 (sI (sI (sI g1 136 0 0) 152 t (nI s)) 153 t (nI n)) = some (0, g3) := d1
        have x3 : Fi [136, 152, 153, 154] g1 g3 := (x2.mono (by decide)).tr (d2.mono (by decide))
        have y3 : Fi TRL g g3 := y1.tr (x3.mono (by decide))
        have no1 : ∀ q, q < 136 → q ∉ [136, 152, 153, 154] := fun q hq z => by
          simp at z
          omega
        have noa : ∀ q, q < 136 → q ≠ 128 + 2 * t → q ≠ 129 + 2 * t → q ∉ [128 + 2 * t, 129 + 2 * t] := fun q hq z1 z2 z => by
          simp at z
          omega
        have n2' : ∀ q, 135 < q → q ∉ [128 + 2 * t, 129 + 2 * t] := fun q hq z => by
          simp at z
          omega
        refine ⟨0, g1, g3, X, A, ag, ?_, ?_, h.tr y3 (fun k hk => ?_) (h.2.1.one ht (fun r r1 r2 => ⟨?_, ?_, ?_, ?_, fun k hk => ?_⟩) ⟨nI s, n, Or.inr ⟨s, by omega, rfl⟩, by omega, ?_, ?_, ?_, ?_, fun k hk => ?_⟩), by omega, by rw [y3.1.1]; omega, by rw [y3.1.2.1]; omega⟩
        · rw [f_X11_numbers, c_isTray, hu, bd_eq, ibT, if_neg (nI_pos h2), if_pos ls, if_neg (nI_pos n2), if_pos (show nI n ≤ 40 from nI_le (b := 40) (by omega) (by decide)), md0_16 hs, gk40 hs, sn40 hs, gdI_nI ht (by decide), nI_clamp (by omega), tr_dr hs ht, tr_gk hs ht, b1, bd_eq]
        · show f_X12_numbers 136 (nI t) (nI s) (nI n) g1 = _
          rw [f_X12_numbers, lg, r_wi3, hu, bd_eq, ibT, r_wi3, h4, bd_eq, ibT, r_wi40, n4, bd_eq, ibT, md136_33 hs0, gk152 hs0, sn152 hs0, gdI_nI ht (by decide), nI_clamp (by omega), lg, md136_34 hsa, gk153 hsa, sn153 hsa, gdI_nI ht (by decide), lg, d1']
        · rw [d2.I (by decide), gI_sIn (by decide), gI_sIn (by decide), gI_sIs, pk_un hk, b2.I (n2' _ (by decide))]
        · rw [x3.I (no1 _ (by omega)), b2.I (noa _ (by omega) (by omega) (by omega))]
        · rw [x3.L (no1 _ (by omega)), b2.L (noa _ (by omega) (by omega) (by omega))]
        · rw [d2.I (by decide), gI_sIn (by decide), gI_sIs, pk_un r2, gI_sIn (by decide), b2.I (n2' _ (by decide))]
        · rw [d2.I (by decide), gI_sIs, pk_un r2, gI_sIn (by decide), gI_sIn (by decide), b2.I (n2' _ (by decide))]
        · rw [d4 r r1 r2 k hk, gL_sI, gL_sI, gL_sI, b2.L (n2' _ (by decide))]
        · rw [x3.I (no1 _ (by omega))]
          exact b3
        · rw [d2.I (by decide), gI_sIn (by decide), gI_sIs, pk_us]
        · rw [x3.I (no1 _ (by omega))]
          exact b4
        · rw [d2.I (by decide), gI_sIs, pk_us]
        · rw [d3 k hk, x3.L (no1 _ (by omega))]
          exact b5 k (by omega)
      · exact bad2 n2 (Or.inl n1)
      · exact bad2 n4 (Or.inr (show ¬ nI n ≤ 40 from nI_ge (a := 40) (b := n) (by omega) n2))
    · exact bad h2 (Or.inl h1)
    · exact bad h4 (Or.inr (show ¬ nI s ≤ 3 from nI_ge (a := 3) (b := s) (by omega) h2))
end TRW
