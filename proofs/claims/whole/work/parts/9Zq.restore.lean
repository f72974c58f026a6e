/-! RESTORE answered alike. -/
section RSR
variable {X : Nat → Prop} {A B : Nat → Int32} {g g' g1 : G} {ag : Nat}
theorem r_re32 {i : Nat} (hi : i < 2) : ∀ fu k g, Sh g → gI g 137 = cpR A (iR A i) 0 k → k ≤ 1515 → 1515 < fu + k → ∃ g', f_X12_restore_32 fu 136 (nI i) (nI k) g = some (0, g') ∧ Fi [137] g g' ∧ gI g' 137 = upd (cpR A (iR A i) 0 1515) 103 0 := by
  have le : 1515 * (i + 1) ≤ 1515 * 2 := Nat.mul_le_mul_left _ (by omega)
  have ge : 1515 * 1 ≤ 1515 * (i + 1) := Nat.mul_le_mul_left _ (by omega)
  intro fu
  induction fu with
  | zero => intro k g _ _ _ h; omega
  | succ fu ih =>
    intro k g hs hr hk hfu
    rw [f_X12_restore_32]
    rcases Nat.lt_or_ge k 1515 with z | z
    · have eh : gI g 137 (1515 * (i + 1) + k) = iR A i k := by
        rw [hr]
        unfold cpR
        rw [if_neg (by omega)]
        rfl
      have x1 : Fi [137] g (sI g 137 k (iR A i k)) := Fi.rf.si (by decide)
      obtain ⟨g2, d1, d2, d3⟩ := ih (k + 1) _ (Sh.fi x1 hs) (by
        rw [gI_sIs, hr]
        have := cpR_s (B := A) (W := iR A i) (f := 0) (n := k)
        rw [Nat.zero_add] at this
        exact this) z (by omega)
      refine ⟨g2, ?_, x1.tr d2, d3⟩
      rw [if_neg (show ¬ (1515 : Int32) ≤ nI k from nI_ge (a := k) (b := 1515) z (by decide)), md136_1 hs, gk137 hs, sn137 hs, show (1515 : Int32) = nI 1515 from rfl, lad1, pk_mul, nI_add, gdI_nI (by omega) (by decide), gdI_nI (by omega) (by decide), nI_clamp (show 1515 * (i + 1) + k < 2 ^ 31 by omega), nI_clamp (show k < 2 ^ 31 by omega), eh, lg, lad1, d1]
    · have e : k = 1515 := by omega
      subst e
      rw [if_pos (by decide), md136_1 hs, gk137 hs, sn137 hs, show (103 : Int32) = nI 103 from rfl, gdI_nI (by decide) (by decide), nI_clamp (show 103 < 2 ^ 31 by decide), lg]
      exact ⟨_, rfl, Fi.rf.si (by decide), by rw [gI_sIs, hr]⟩
theorem q_restore (h : Inv X A ag g) (u : Int32) : CA ag g (f_X11_restore 0 u g) (fun g => f_X12_restore 136 u g) := by
  obtain ⟨h1, h2, h3, h4, h5⟩ := id h.1
  have hs := h1.1
  have hr := h1.t0
  have wi : ∀ g, f_X12_within u.toInt64 0 1 g = some (inR u 2, g) := fun g => by rw [r_wi1, inL_I]
  rcases inR_c u 2 with ⟨i, i1, i2, rfl, i4⟩ | ⟨i1, i2⟩ | ⟨i, i1, i2, rfl, i4⟩
  · obtain ⟨im1, im2⟩ := h.2.2.2.2.2.1
    have cA : f_X11_restore 0 (nI i) g = (if (gR g 41 i) = none then (some ((-5 : Int32), g)) else (dr (gR g 41 i) (fun b11 => gdK g b11 0 (bd (f_X0_copyFrom 47 b11 g) (fun v14 g15 => dr (gR g15 0 15) (fun b18 => gdK g15 b18 5 (bd (f_X5_forget b18 g15) (fun v21 g22 => bd (f_X11_forgetWays 0 g22) (fun v25 g26 => some ((0 : Int32), g26)))))))))) := by
      rw [f_X11_restore, if_neg (nI_pos i2), if_pos (show nI i < 2 from nI_lt (b := 2) i1 (by decide)), md0_17 hs, gk41 hs, sn41 hs, gdI_nI i1 (by decide), nI_clamp (by omega), md0_4 hs, gk47 hs]
    have rA : ∀ g', Sh g' → f_X12_restore 136 (nI i) g' = if gI g' 138 i = 0 then some (-5, sI g' 136 0 0) else f_X12_restore_32 FU 136 (nI i) 0 (sI g' 136 0 0) := fun g' hg => by
      have hz : Sh (sI g' 136 0 0) := Sh.fi (S := [136]) (Fi.rf.si (by decide)) hg
      rw [f_X12_restore, lg, wi, i4, bd_eq, ibT, md136_2 hz, gk138 hz, sn138 hz, gdI_nI i1 (by decide), nI_clamp (by omega), gI_sIn (by decide)]
    rcases im1 i i1 with ⟨m1, m2⟩ | ⟨m1, b, m2, m3, m4, m5, m6⟩
    · refine CA.no (v := -5) h ?_ ?_
      · rw [cA, if_pos m2]
      · show f_X12_restore 136 (nI i) g = _
        rw [rA g hs, if_pos m1]
    · obtain ⟨g2, b1, b2, b3, b4, b5⟩ := c_copyFrom (a := 47) (fun k hk u => by have := h2 _ u; omega) (bS47 hs) m6 (by omega) m5.1.2.2.2.2.2.2.2
      have hs2 : Sh g2 := hs.cp b2 b3 b4 (by decide)
      have xf : Fi [76] g2 (sI (sI g2 76 0 0) 76 1 0) := (Fi.rf.si (by decide)).si (by decide)
      have hsf := Sh.fi xf hs2
      obtain ⟨g3, c1, c2, c3, c4⟩ := c_forget hsf
      have hs3 := Sh.fi c2 hsf
      have y3 : Fq DL g g3 := (b2.mono (by decide)).tr ((xf.q.mono (by decide)).tr (c2.q.mono (by decide)))
      have row3 : gI g3 137 = A := by
        rw [c2.I (by decide), xf.I (by decide), b2.I (by decide)]
        exact h1.2.1
      have h138 : gI g3 138 i = 1 := by
        rw [c2.I (by decide), xf.I (by decide), b2.I (by decide)]
        exact m1
      have hs30 : Sh (sI g3 136 0 0) := Sh.fi (S := [136]) (Fi.rf.si (by decide)) hs3
      obtain ⟨g5, d1, d2, d3⟩ := r_re32 (A := A) (i := i) i1 FU 0 (sI g3 136 0 0) hs30 (by rw [gI_sIn (by decide), row3, cpR_0]) (by decide) (by have := @FU_gt 1515 (by decide); omega)
      have d1' : f_X12_restore_32 FU 136 (nI i) 0 (sI g3 136 0 0) = some (0, g5) := d1
      have x5 : Fm [0] [137] g3 g5 := (tF0.mono (by decide) (by decide)).tr (Fm.of d2 (by decide))
      have y5 : Fq DL g g5 := y3.tr (x5.1.q.mono (by decide))
      have nx5 : ∀ a ∈ [136, 137], ¬ X a := h2.no (by decide)
      have g0 : gI g5 0 = gI g3 0 := x5.I (by decide)
      have k136 : ∀ k, k ≠ 0 → gI g5 136 k = gI g 136 k := fun k hk => by
        rw [x5.2 k (by simp; exact hk), c2.I (by decide), xf.I (by decide), b2.I (by decide)]
      have q2 : Wq (iR A i) (upd (cpR A (iR A i) 0 1515) 103 0) := fun j hj => by
        rw [pk_un (by omega)]
        unfold cpR
        rw [if_pos (by omega), Nat.sub_zero]
      have hi : HI X (upd (cpR A (iR A i) 0 1515) 103 0) g5 := ⟨0, 0, by decide, by decide, by rw [pk_us]; rfl, by
        rw [x5.I (by decide), c2.I (by decide), gI_sIs, pk_un (by decide), gI_sIs, pk_us]
        rfl, by
        rw [x5.I (by decide), c2.I (by decide), gI_sIs, pk_us]
        rfl, fun k hk => by omega⟩
      have si : SI ag g5 := (((h4.fa hs b2.a (fun k k1 k2 => by simp; omega)).fa hs2 xf.a (fun k k1 k2 => by simp; omega)).fa hsf c2.a (fun k k1 k2 => by simp; omega)).fa hs3 x5.1.a (fun k k1 k2 => by simp; omega)
      have b47 : BD X g5 47 (iR A i) := ((b5.fa xf.a (h2.no (by decide)) (by decide)).fa c2.a (h2.no (by decide)) (by decide)).fa x5.1.a nx5 (by decide)
      refine ⟨0, g3, g5, X, _, ag, ?_, ?_, h.deed m5 q2 (fun j hj => ?_) y5 (hs3.fm x5) d3 b47 si (by rw [g0]; exact c3) (fun k hk => ?_) (k136 5 (by decide)) (k136 13 (by decide)) (k136 14 (by decide)) hi, by omega, by rw [y5.1]; omega, by rw [y5.2.1]; omega⟩
      · have ff : f_X5_forget 76 g2 = some ((), sI (sI g2 76 0 0) 76 1 0) := by
          rw [f_X5_forget, lg, lg]
        rw [cA, if_neg (by rw [m2]; exact fun u => by cases u), m2, dr_eq, gdK_pos m6.1.1, b1, bd_eq, md0_15 hs2, gk76 hs2, ff, bd_eq, c1, bd_eq]
      · show f_X12_restore 136 (nI i) g3 = _
        rw [rA g3 hs3, h138, if_neg (by decide), d1']
      · rw [pk_un (by omega)]
        unfold cpR
        rw [if_neg (by omega)]
      · rw [g0, c4 k hk, xf.I (by decide), b2.I (by decide)]
  · refine CA.no (v := -2) h ?_ ?_
    · rw [f_X11_restore, if_pos i1]
    · show f_X12_restore 136 u g = _
      rw [f_X12_restore, lg, wi, i2, bd_eq, ibF]
  · refine CA.no (v := -2) h ?_ ?_
    · rw [f_X11_restore, if_neg (nI_pos i2), if_neg (show ¬ nI i < 2 from nI_nlt (b := 2) i1 (by omega))]
    · show f_X12_restore 136 (nI i) g = _
      rw [f_X12_restore, lg, wi, i4, bd_eq, ibF]
end RSR
