/-! UNDO answered alike. -/
section UND
variable {X : Nat → Prop} {A B : Nat → Int32} {g g' g1 : G} {ag k0 : Nat}
theorem r_un44 {B : Nat → Int32} (hk : k0 ≤ 9) (hB : B 103 = nI k0) : ∀ fu k g, Sh g → gI g 137 = cpR B (fun i => B (104 + 51 * k0 + i)) 52 k → k ≤ 51 → 51 < fu + k → ∃ g', f_X12_undo_44 fu 136 (nI k) g = some (nI k0, g') ∧ Fi [137] g g' ∧ gI g' 137 = cpR B (fun i => B (104 + 51 * k0 + i)) 52 51 := by
  intro fu
  induction fu with
  | zero => intro k g _ _ _ h; omega
  | succ fu ih =>
    intro k g hs hr hk' hfu
    have e103 : gI g 137 103 = nI k0 := by
      rw [hr]
      unfold cpR
      rw [if_neg (by omega)]
      exact hB
    rw [f_X12_undo_44]
    rcases Nat.lt_or_ge k 51 with z | z
    · have eh : gI g 137 (104 + 51 * k0 + k) = B (104 + 51 * k0 + k) := by
        rw [hr]
        unfold cpR
        rw [if_neg (by omega)]
      have x1 : Fi [137] g (sI g 137 (52 + k) (B (104 + 51 * k0 + k))) := Fi.rf.si (by decide)
      obtain ⟨g2, d1, d2, d3⟩ := ih (k + 1) _ (Sh.fi x1 hs) (by
        rw [gI_sIs, hr]
        exact cpR_s (W := fun i => B (104 + 51 * k0 + i))) z (by omega)
      refine ⟨g2, ?_, x1.tr d2, d3⟩
      rw [if_neg (show ¬ (51 : Int32) ≤ nI k from nI_ge (a := k) (b := 51) z (by decide)), md136_1 hs, gk137 hs, sn137 hs, show (103 : Int32) = nI 103 from rfl, gdI_nI (by decide) (by decide), nI_clamp (show 103 < 2 ^ 31 by decide), e103, show (51 : Int32) = nI 51 from rfl, pk_mul, show (104 : Int32) = nI 104 from rfl, nI_add, nI_add, gdI_nI (by omega) (by decide), show (52 : Int32) = nI 52 from rfl, nI_add, gdI_nI (by omega) (by decide), nI_clamp (show 52 + k < 2 ^ 31 by omega), nI_clamp (show 104 + 51 * k0 + k < 2 ^ 31 by omega), eh, lg, lad1, d1]
    · have e : k = 51 := by omega
      subst e
      rw [if_pos (by decide), md136_1 hs, gk137 hs, sn137 hs, show (103 : Int32) = nI 103 from rfl, gdI_nI (by decide) (by decide), nI_clamp (show 103 < 2 ^ 31 by decide), e103]
      exact ⟨g, rfl, Fi.rf, hr⟩
/-- the row behind undoing -/
def uA (A : Nat → Int32) (k : Nat) : Nat → Int32 := cpR (upd A 103 (nI k)) (fun i => (upd A 103 (nI k)) (104 + 51 * k + i)) 52 51
theorem uA_n {k j : Nat} (h : j < 52 ∨ 104 ≤ j) : uA A k j = A j := by
  unfold uA cpR
  rw [if_neg (by omega), pk_un (by omega)]
theorem uA_3 {k : Nat} : uA A k 103 = nI k := by
  unfold uA cpR
  rw [if_neg (by omega), pk_us]
theorem uA_b {k i : Nat} (h : i < 51) : uA A k (52 + i) = A (104 + 51 * k + i) := by
  unfold uA cpR
  rw [if_pos (by omega), show 52 + i - 52 = i by omega]
  exact pk_un (by omega)
theorem uA_q {k : Nat} : Wq (hR A k) (uA A k) := fun j hj => by
  by_cases u : 52 ≤ j ∧ j < 103
  · have e : j = 52 + (j - 52) := by omega
    rw [e, uA_b (by omega), hR_in (by omega)]
  · rw [uA_n (by omega), hR_out (by omega)]
theorem q_undo (h : Inv X A ag g) (u : Int32) : CA ag g (f_X11_undo 0 u g) (fun g => f_X12_undo 136 u g) := by
  obtain ⟨h1, h2, h3, h4, h5⟩ := id h.1
  have hs := h1.1
  have k3 := h1.k3
  obtain ⟨N, el, n1, n2, n3, n4, n5, n6⟩ := id h.2.2.2.2.1
  have hr := h1.t0
  have hAr : gI (sI g 136 0 0) 137 = A := hr.2.1
  have wi : ∀ g, f_X12_within u.toInt64 1 10 g = some (decide (1 ≤ u.toInt ∧ u.toInt ≤ 10), g) := fun g => by
    have z0 : (1 : Int64).toInt = 1 := rfl
    have o : (10 : Int64).toInt = 10 := rfl
    rw [r_within, Int32.toInt_toInt64, z0, o]
  by_cases hv : 1 ≤ u.toInt ∧ u.toInt ≤ 10
  · obtain ⟨n, hn, rfl⟩ : ∃ m, m < 2 ^ 31 ∧ u = nI m := by
      obtain ⟨j, hj, e⟩ := nI_of (show ¬ u < 0 from fun w => by
        rw [Int32.lt_iff_toInt_lt] at w
        have : (0 : Int32).toInt = 0 := rfl
        omega)
      exact ⟨j, hj, e⟩
    have tb : decide (1 ≤ (nI n).toInt ∧ (nI n).toInt ≤ 10) = true := decide_eq_true hv
    rw [nI_toInt hn] at hv
    have cA : f_X11_undo 0 (nI n) g = if nI n ≤ nI N then bd (f_X5_goBack 76 (nI n) 47 g) (fun v10 g11 => bd (f_X11_forgetWays 0 g11) (fun v14 g15 => dr (gR g15 0 15) (fun b18 => gdK g15 b18 5 (some ((gI g15 b18 0), g15))))) else some (-3, g) := by
      rw [f_X11_undo, if_neg (show ¬ nI n < 1 from nI_nlt (b := 1) (by omega) (by omega)), if_neg (show ¬ (10 : Int32) < nI n from nI_nlt (a := 10) (by omega) (by omega)), md0_15 hs, gk76 hs, n4, md0_4 hs, gk47 hs]
    have rA : ∀ g', Sh g' → gI (sI g' 136 0 0) 137 = A → f_X12_undo 136 (nI n) g' = if nI n ≤ nI N then f_X12_undo_44 FU 136 0 (sI (sI g' 136 0 0) 137 103 (nI N - nI n)) else some (-3, sI g' 136 0 0) := fun g' hg e => by
      have hz : Sh (sI g' 136 0 0) := Sh.fi (S := [136]) (Fi.rf.si (by decide)) hg
      rw [f_X12_undo, lg, wi, tb, bd_eq, ibT, md136_1 hz, gk137 hz, sn137 hz, show (103 : Int32) = nI 103 from rfl, gdI_nI (by decide) (by decide), nI_clamp (show 103 < 2 ^ 31 by decide), e, n3, lg]
    by_cases z : n ≤ N
    · have le : nI n ≤ nI N := nI_le z (by omega)
      obtain ⟨w1, w2⟩ := n6 (N - n) (by omega)
      have x1 : Fi [76] g (sI g 76 0 (nI (N - n))) := Fi.rf.si (by decide)
      have hs1 := Sh.fi x1 hs
      have w3 := w2.fa x1.a (h2.no (by decide)) (fun j hj => by simp at hj; omega)
      obtain ⟨g2, b1, b2, b3, b4, b5⟩ := c_copyFrom (a := 47) (fun k hk u => by have := h2 _ u; omega) (bS47 hs1) w3 (by omega) w1.1.2.2.2.2.2.2.2
      have hs2 : Sh g2 := hs1.cp b2 b3 b4 (by decide)
      obtain ⟨g3, c1, c2, c3, c4⟩ := c_forget hs2
      have hs3 := Sh.fi c2 hs2
      have y3 : Fq DL g g3 := ((x1.q.mono (by decide)).tr (b2.mono (by decide))).tr (c2.q.mono (by decide))
      have s76 : gI g3 76 0 = nI (N - n) := by
        rw [c2.I (by decide), b2.I (by decide), gI_sIs, pk_us]
      have t76 : gI g3 76 1 = nI el := by
        rw [c2.I (by decide), b2.I (by decide), gI_sIs, pk_un (by decide)]
        exact n5
      have row3 : gI g3 137 = A := by
        rw [c2.I (by decide), b2.I (by decide), x1.I (by decide)]
        exact h1.2.1
      have hs30 : Sh (sI g3 136 0 0) := Sh.fi (S := [136]) (Fi.rf.si (by decide)) hs3
      have x4 : Fi [137] (sI g3 136 0 0) (sI (sI g3 136 0 0) 137 103 (nI (N - n))) := Fi.rf.si (by decide)
      obtain ⟨g5, d1, d2, d3⟩ := r_un44 (B := upd A 103 (nI (N - n))) (k0 := N - n) (by omega) pk_us FU 0 (sI (sI g3 136 0 0) 137 103 (nI (N - n))) (Sh.fi x4 hs30) (by rw [gI_sIs, gI_sIn (by decide), row3, cpR_0]) (by decide) (by have := @FU_gt 51 (by decide); omega)
      have d1' : f_X12_undo_44 FU 136 0 (sI (sI g3 136 0 0) 137 103 (nI (N - n))) = some (nI (N - n), g5) := d1
      have d3' : gI g5 137 = uA A (N - n) := d3
      have x5 : Fm [0] [137] g3 g5 := (tF0.mono (by decide) (by decide)).tr ((Fm.of (K := [0]) x4 (by decide)).tr (Fm.of d2 (by decide)))
      have y5 : Fq DL g g5 := y3.tr (x5.1.q.mono (by decide))
      have nx5 : ∀ a ∈ [136, 137], ¬ X a := h2.no (by decide)
      have g0 : gI g5 0 = gI g3 0 := x5.I (by decide)
      have k136 : ∀ k, k ≠ 0 → gI g5 136 k = gI g 136 k := fun k hk => by
        rw [x5.2 k (by simp; exact hk), c2.I (by decide), b2.I (by decide), x1.I (by decide)]
      have bS : ∀ k, k < N - n → WF (hR (uA A (N - n)) k) ∧ BD X g5 (78 + 5 * ((el + k) % 10)) (hR (uA A (N - n)) k) := fun k hk => by
        obtain ⟨v1, v2⟩ := n6 k (by omega)
        have q : Wq (hR A k) (hR (uA A (N - n)) k) := hR_q (fun j hj => by rw [uA_n (by omega), hR_out (by omega)]) (fun i hi => by rw [uA_n (by omega), hR_in hi])
        have v3 := (((v2.fa x1.a (h2.no (by decide)) (fun j hj => by simp at hj; omega)).fa b2.a (h2.no (by decide)) (fun j hj => by simp at hj; omega)).fa c2.a (h2.no (by decide)) (fun j hj => by simp at hj; omega)).fa x5.1.a nx5 (fun j hj => by simp at hj; omega)
        exact ⟨v1.cg q, v3.cg v1.1 v1.2.2.1 q⟩
      have hi : HI X (uA A (N - n)) g5 := ⟨N - n, el, by omega, n2, uA_3, by rw [x5.I (by decide)]; exact s76, by rw [x5.I (by decide)]; exact t76, bS⟩
      have si : SI ag g5 := (((h4.fa hs x1.a (fun k k1 k2 => by simp; omega)).fa hs1 b2.a (fun k k1 k2 => by simp; omega)).fa hs2 c2.a (fun k k1 k2 => by simp; omega)).fa hs3 x5.1.a (fun k k1 k2 => by simp; omega)
      have b47 : BD X g5 47 (hR A (N - n)) := (b5.fa c2.a (h2.no (by decide)) (by decide)).fa x5.1.a nx5 (by decide)
      refine ⟨nI (N - n), g3, g5, X, uA A (N - n), ag, ?_, ?_, h.deed w1 uA_q (fun j hj => uA_n (by omega)) y5 (hs3.fm x5) d3' b47 si (by rw [g0]; exact c3) (fun k hk => ?_) (k136 5 (by decide)) (k136 13 (by decide)) (k136 14 (by decide)) hi, by omega, by rw [y5.1]; omega, by rw [y5.2.1]; omega⟩
      · have gb : f_X5_goBack 76 (nI n) 47 g = some ((), g2) := by
          rw [f_X5_goBack, if_neg (show ¬ nI n < 1 from nI_nlt (b := 1) (by omega) (by omega)), n4, if_neg (nI_nlt z (by omega)), pk_sub z, lg, md76_2 hs1, gk77 hs1, sn77 hs1, gI_sIs, pk_us, pk_un (by decide), n5, nI_add, ldi10 (by omega), lmo10, gdI_nI (by omega) (by decide), nI_clamp (by omega), hb_dr hs1 (by omega), gdK_pos (bS78 hs1 (by omega)).1, b1, bd_eq]
        rw [cA, if_pos le, gb, bd_eq, c1, bd_eq, md0_15 hs3, gk76 hs3, s76]
      · show f_X12_undo 136 (nI n) g3 = _
        rw [rA g3 hs3 (by rw [gI_sIn (by decide)]; exact row3), if_pos le, pk_sub z, d1']
      · rw [g0, c4 k hk, b2.I (by decide), x1.I (by decide)]
    · have le : ¬ nI n ≤ nI N := nI_ge (by omega) (by omega)
      refine CA.no (v := -3) h ?_ ?_
      · rw [cA, if_neg le]
      · show f_X12_undo 136 (nI n) g = _
        rw [rA g hs hAr, if_neg le]
  · have e1 : u < 1 ∨ (10 : Int32) < u := by
      have i1 : (1 : Int32).toInt = 1 := rfl
      have i40 : (10 : Int32).toInt = 10 := rfl
      rw [Int32.lt_iff_toInt_lt, Int32.lt_iff_toInt_lt, i1, i40]
      omega
    refine CA.no (v := -3) h ?_ ?_
    · rw [f_X11_undo]
      rcases e1 with e | e
      · rw [if_pos e]
      · by_cases q : u < 1
        · rw [if_pos q]
        · rw [if_neg q, if_pos e]
    · show f_X12_undo 136 u g = _
      rw [f_X12_undo, lg, wi, decide_eq_false hv, bd_eq, ibF]
end UND
