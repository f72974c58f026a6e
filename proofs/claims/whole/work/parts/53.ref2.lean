/-! THE REFERENCE: who is where, what is free, errands done. -/
theorem FU_gt {n : Nat} (h : n < 100000) : n < FU := by
  have : FU = 1000000 := rfl
  omega
theorem nI2 (x : Nat) : (2 : Int32) * nI x = nI (2 * x) := pk_mul 2 x
section RF2
variable {g : G}
theorem r_heightOf (h : Sh g) (hA : Dm (gI g 137)) (hB : VB (gI g 137) (bo (gI g 137))) (hH : Hs (gI g 137)) {c : Nat} (hc : c < 36) : f_X12_heightOf 136 (nI c) g = some (nI (if wl (gI g 137) c = 1 then 9 else if ht (gI g 137) c = 9 then 0 else ht (gI g 137) c), g) := by
  obtain ⟨w1, w2, -⟩ := hB.w hc
  obtain ⟨t1, t2⟩ := hH c hc
  simp only [f_X12_heightOf, ↓gk136 h, ↓gk137 h, sn137 h, ↓gk138 h, sn138 h, ↓gk139 h, sn139 h, ↓gk140 h, sn140 h, ↓gk141 h, sn141 h, ↓gk142 h, sn142 h, ↓gk143 h, sn143 h, ↓gk144 h, sn144 h, ↓gk145 h, sn145 h, ↓gk146 h, sn146 h, ↓gk147 h, sn147 h, ↓gk148 h, sn148 h, ↓gk149 h, sn149 h, ↓gk150 h, sn150 h, ↓gk151 h, sn151 h, ↓gk152 h, sn152 h, ↓gk153 h, sn153 h, ↓gk154 h, sn154 h, ↓md136_1 h, ↓md136_2 h, ↓md136_3 h, ↓md136_4 h, ↓md136_15 h, ↓md136_16 h, ↓md136_19 h, ↓md136_23 h, ↓md136_24 h, ↓md136_25 h, ↓md136_26 h, ↓md136_27 h, ↓md136_28 h, ↓md136_29 h, ↓md136_30 h, ↓md136_33 h, ↓md136_34 h, ↓md136_35 h, ↓dr_sI, ↓dr_sL, ↓gdK_sI, ↓gdK_sL, gR_sI, gN_sI, gn_sI, gL_sI, gI_sIs, gI_sIn, gR_sL, gN_sL, gn_sL, gI_sL, gL_sLs, gL_sLn, ↓dr_eq, bd_eq, ↓lg, ↓li, ↓ll, ↓ln, lI, nI_clamp, gdI_nI, Nat.reducePow, Nat.reduceLT, Nat.reduceLeDiff, Nat.reduceEqDiff, reduceIte, if_true, if_false]
  simp (disch := first | assumption | ((fail_if_success show Sh _); omega)) only [lI, nI_add, pk_mul, pk_sub, nI_sub0, nI_mod, pk_div, nI_clamp, nI_eq, nI_leI, nI_ltI, gdI_nI, gdZ_nI, b2i_z, decide_eq_false_iff_not, Bool.not_eq_false, decide_eq_true_eq, ifLt, ifNlt, ifLe, ifNle, ifEq, ifNe, ifnLe, ifnNle, nIm1, m1nI, nI_z, z_nI, Nat.reduceLT, Nat.reduceLeDiff, Nat.reduceEqDiff, Nat.reduceAdd, Nat.reduceMul, Nat.reduceSub, Nat.reduceDiv, Nat.reduceMod, if_true, if_false, reduceIte, sn137 h, w1, t1]
  split
  · rfl
  · split <;> rfl
theorem r_twinsIn_5 (h : Sh g) (hA : Dm (gI g 137)) (hB : VB (gI g 137) (bo (gI g 137))) {c : Nat} (hc : c < 36) (q : Nat → Bool) (b : Int32) (hq : ∀ i, i < 6 → (nI (i / 2) = b ↔ q i = false)) : ∀ n k, k ≤ 2 * nv (gI g 137) 3 → 2 * nv (gI g 137) 3 < n + k → f_X12_twinsIn_5 n 136 (nI c) b (nI (cT (gI g 137) c q k)) (nI k) g = some (nI (cT (gI g 137) c q (2 * nv (gI g 137) 3)), g) := by
  obtain ⟨-, -, -, -, -, -, hK, h3⟩ := id hA
  intro n
  induction n with
  | zero => intro k h1 h2; omega
  | succ n ih =>
    intro k h1 h2
    rw [f_X12_twinsIn_5]
    simp only [↓gk136 h, ↓gk137 h, sn137 h, ↓gk138 h, sn138 h, ↓gk139 h, sn139 h, ↓gk140 h, sn140 h, ↓gk141 h, sn141 h, ↓gk142 h, sn142 h, ↓gk143 h, sn143 h, ↓gk144 h, sn144 h, ↓gk145 h, sn145 h, ↓gk146 h, sn146 h, ↓gk147 h, sn147 h, ↓gk148 h, sn148 h, ↓gk149 h, sn149 h, ↓gk150 h, sn150 h, ↓gk151 h, sn151 h, ↓gk152 h, sn152 h, ↓gk153 h, sn153 h, ↓gk154 h, sn154 h, ↓md136_1 h, ↓md136_2 h, ↓md136_3 h, ↓md136_4 h, ↓md136_15 h, ↓md136_16 h, ↓md136_19 h, ↓md136_23 h, ↓md136_24 h, ↓md136_25 h, ↓md136_26 h, ↓md136_27 h, ↓md136_28 h, ↓md136_29 h, ↓md136_30 h, ↓md136_33 h, ↓md136_34 h, ↓md136_35 h, ↓dr_sI, ↓dr_sL, ↓gdK_sI, ↓gdK_sL, gR_sI, gN_sI, gn_sI, gL_sI, gI_sIs, gI_sIn, gR_sL, gN_sL, gn_sL, gI_sL, gL_sLs, gL_sLn, ↓dr_eq, bd_eq, ↓lg, ↓li, ↓ll, ↓ln, lI, nI_clamp, gdI_nI, Nat.reducePow, Nat.reduceLT, Nat.reduceLeDiff, Nat.reduceEqDiff, reduceIte, if_true, if_false, hK, pk_mul]
    rcases Nat.lt_or_ge k (2 * nv (gI g 137) 3) with hk | hk
    · have e := ih (k + 1) hk (by omega)
      obtain ⟨t1, t2, -⟩ := hB.t hk
      have cl := cS_le hA
      have hq' := hq k (by omega)
      rw [cT] at e
      simp (disch := first | assumption | ((fail_if_success show Sh _); omega)) only [lI, nI_add, pk_mul, pk_sub, nI_sub0, nI_mod, pk_div, nI_clamp, nI_eq, nI_leI, nI_ltI, gdI_nI, gdZ_nI, b2i_z, decide_eq_false_iff_not, Bool.not_eq_false, decide_eq_true_eq, ifLt, ifNlt, ifLe, ifNle, ifEq, ifNe, ifnLe, ifnNle, nIm1, m1nI, nI_z, z_nI, Nat.reduceLT, Nat.reduceLeDiff, Nat.reduceEqDiff, Nat.reduceAdd, Nat.reduceMul, Nat.reduceSub, Nat.reduceDiv, Nat.reduceMod, if_true, if_false, reduceIte, f_X12_twinsIn_45, f_X12_twinsIn_46, ↓gk136 h, ↓gk137 h, sn137 h, ↓gk138 h, sn138 h, ↓gk139 h, sn139 h, ↓gk140 h, sn140 h, ↓gk141 h, sn141 h, ↓gk142 h, sn142 h, ↓gk143 h, sn143 h, ↓gk144 h, sn144 h, ↓gk145 h, sn145 h, ↓gk146 h, sn146 h, ↓gk147 h, sn147 h, ↓gk148 h, sn148 h, ↓gk149 h, sn149 h, ↓gk150 h, sn150 h, ↓gk151 h, sn151 h, ↓gk152 h, sn152 h, ↓gk153 h, sn153 h, ↓gk154 h, sn154 h, ↓md136_1 h, ↓md136_2 h, ↓md136_3 h, ↓md136_4 h, ↓md136_15 h, ↓md136_16 h, ↓md136_19 h, ↓md136_23 h, ↓md136_24 h, ↓md136_25 h, ↓md136_26 h, ↓md136_27 h, ↓md136_28 h, ↓md136_29 h, ↓md136_30 h, ↓md136_33 h, ↓md136_34 h, ↓md136_35 h, ↓dr_sI, ↓dr_sL, ↓gdK_sI, ↓gdK_sL, gR_sI, gN_sI, gn_sI, gL_sI, gI_sIs, gI_sIn, gR_sL, gN_sL, gn_sL, gI_sL, gL_sLs, gL_sLn, ↓dr_eq, bd_eq, ↓lg, ↓li, ↓ll, ↓ln, lI, nI_clamp, gdI_nI, Nat.reducePow, Nat.reduceLT, Nat.reduceLeDiff, Nat.reduceEqDiff, reduceIte, if_true, if_false, t1]
      by_cases hb : nI (k / 2) = b
      · rw [if_pos hb]
        have := hq'.mp hb
        rw [if_neg (by simp [this])] at e
        exact e
      · rw [if_neg hb]
        have h4 : q k = true := by
          cases hx : q k
          · exact absurd (hq'.mpr hx) hb
          · rfl
        simp only [h4, true_and] at e
        split
        · next hx => rw [if_pos hx] at e; exact e
        · next hx => rw [if_neg hx] at e; exact e
    · have : k = 2 * nv (gI g 137) 3 := by omega
      subst this
      rw [if_pos (nI_le (Nat.le_refl _) (by omega))]
theorem r_twinsIn (h : Sh g) (hA : Dm (gI g 137)) (hB : VB (gI g 137) (bo (gI g 137))) {c : Nat} (hc : c < 36) (q : Nat → Bool) (b : Int32) (hq : ∀ i, i < 6 → (nI (i / 2) = b ↔ q i = false)) : f_X12_twinsIn 136 (nI c) b g = some (nI (cT (gI g 137) c q (2 * nv (gI g 137) 3)), g) := by
  have := hA.2.2.2.2.2.2.2
  exact r_twinsIn_5 h hA hB hc q b hq FU 0 (Nat.zero_le _) (by have := @FU_gt 6 (by decide); omega)
theorem r_isFree (h : Sh g) (hA : Dm (gI g 137)) (hB : VB (gI g 137) (bo (gI g 137))) {p c : Nat} (hp : p < 3) (hc : c < 36) : f_X12_isFree 136 (nI p) (nI c) g = some (fre (gI g 137) p c, g) := by
  obtain ⟨w1, w2, -⟩ := hB.w hc
  obtain ⟨-, -, -, -, -, -, hK, h3⟩ := id hA
  have e := r_twinsIn h hA hB hc (fun i => decide (i / 2 ≠ p)) (nI p) (fun i hi => by
    rw [nI_eq (by omega) (by omega)]
    simp)
  have hz := cT_z (gI g 137) c (fun i => decide (i / 2 ≠ p)) (2 * nv (gI g 137) 3)
  have hl := cT_le (gI g 137) c (fun i => decide (i / 2 ≠ p)) (2 * nv (gI g 137) 3)
  simp only [decide_eq_true_eq] at hz
  simp only [f_X12_isFree, ↓gk136 h, ↓gk137 h, sn137 h, ↓gk138 h, sn138 h, ↓gk139 h, sn139 h, ↓gk140 h, sn140 h, ↓gk141 h, sn141 h, ↓gk142 h, sn142 h, ↓gk143 h, sn143 h, ↓gk144 h, sn144 h, ↓gk145 h, sn145 h, ↓gk146 h, sn146 h, ↓gk147 h, sn147 h, ↓gk148 h, sn148 h, ↓gk149 h, sn149 h, ↓gk150 h, sn150 h, ↓gk151 h, sn151 h, ↓gk152 h, sn152 h, ↓gk153 h, sn153 h, ↓gk154 h, sn154 h, ↓md136_1 h, ↓md136_2 h, ↓md136_3 h, ↓md136_4 h, ↓md136_15 h, ↓md136_16 h, ↓md136_19 h, ↓md136_23 h, ↓md136_24 h, ↓md136_25 h, ↓md136_26 h, ↓md136_27 h, ↓md136_28 h, ↓md136_29 h, ↓md136_30 h, ↓md136_33 h, ↓md136_34 h, ↓md136_35 h, ↓dr_sI, ↓dr_sL, ↓gdK_sI, ↓gdK_sL, gR_sI, gN_sI, gn_sI, gL_sI, gI_sIs, gI_sIn, gR_sL, gN_sL, gn_sL, gI_sL, gL_sLs, gL_sLn, ↓dr_eq, bd_eq, ↓lg, ↓li, ↓ll, ↓ln, lI, nI_clamp, gdI_nI, Nat.reducePow, Nat.reduceLT, Nat.reduceLeDiff, Nat.reduceEqDiff, reduceIte, if_true, if_false]
  simp (disch := first | assumption | ((fail_if_success show Sh _); omega)) only [lI, nI_add, pk_mul, pk_sub, nI_sub0, nI_mod, pk_div, nI_clamp, nI_eq, nI_leI, nI_ltI, gdI_nI, gdZ_nI, b2i_z, decide_eq_false_iff_not, Bool.not_eq_false, decide_eq_true_eq, ifLt, ifNlt, ifLe, ifNle, ifEq, ifNe, ifnLe, ifnNle, nIm1, m1nI, nI_z, z_nI, Nat.reduceLT, Nat.reduceLeDiff, Nat.reduceEqDiff, Nat.reduceAdd, Nat.reduceMul, Nat.reduceSub, Nat.reduceDiv, Nat.reduceMod, if_true, if_false, reduceIte, sn137 h, w1, e, bd_eq]
  unfold fre
  by_cases h1 : wl (gI g 137) c = 0
  · rw [if_pos h1]
    split
    · next hx => rw [decide_eq_true ⟨h1, hz.mp hx⟩]
    · next hx => rw [decide_eq_false (fun q => hx (hz.mpr q.2))]
  · rw [if_neg h1, decide_eq_false (fun q => h1 q.1)]
end RF2
