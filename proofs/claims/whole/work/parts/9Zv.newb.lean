/-! NEW CELLS: a board is made; the reference keeps an image. -/
section NWB
variable {X : Nat → Prop} {A B : Nat → Int32} {g g' g1 : G} {ag : Nat} {kd len sl a k : Nat} {S : List Nat} {v : Option Nat}
theorem gn_nw : gn (nw g kd len sl) = gn g + 1 := rfl
theorem gs_nw : gs (nw g kd len sl) = gs g + sl := rfl
theorem gK_nw : gK (nw g kd len sl) = va_up (gK g) (gn g) kd := rfl
theorem gN_nw : gN (nw g kd len sl) = va_up (gN g) (gn g) len := rfl
theorem gI_nw : gI (nw g kd len sl) = va_up (gI g) (gn g) (fun _ => 0) := rfl
theorem gL_nw : gL (nw g kd len sl) = va_up (gL g) (gn g) (fun _ => 0) := rfl
theorem gR_nw : gR (nw g kd len sl) = va_up (gR g) (gn g) (fun _ => none) := rfl
theorem gn_sR : gn (sR g a k v) = gn g := rfl
theorem gs_sR : gs (sR g a k v) = gs g := rfl
theorem gK_sR : gK (sR g a k v) = gK g := rfl
theorem gN_sR : gN (sR g a k v) = gN g := rfl
theorem gR_sR : gR (sR g a k v) = va_up (gR g) a (va_up (gR g a) k v) := rfl
theorem Sh.fa (hs : Sh g) (x : Fa S g g') (h : ∀ q ∈ shF, q.1 ∈ S → gR g' q.1 q.2.1 = gR g q.1 q.2.1) : Sh g' := by
  have t1 : shK.all (fun q => decide (q.1 < 155)) = true := by decide +kernel
  have t2 : shF.all (fun q => decide (q.1 < 155)) = true := by decide +kernel
  refine ⟨Nat.le_trans hs.1 x.1, fun q hq => ?_, fun q hq => ?_⟩
  · have u := of_decide_eq_true (List.all_eq_true.mp t1 q hq)
    obtain ⟨e1, e2, -⟩ := x.2 q.1 (Nat.lt_of_lt_of_le u hs.1)
    rw [e1, e2]
    exact hs.2.1 q hq
  · have u := of_decide_eq_true (List.all_eq_true.mp t2 q hq)
    by_cases z : q.1 ∈ S
    · rw [h q hq z]
      exact hs.2.2 q hq
    · rw [((x.2 q.1 (Nat.lt_of_lt_of_le u hs.1)).2.2 z).2.2]
      exact hs.2.2 q hq
theorem c_newB (q : Nat) (g : G) : ∃ g', f_X0_init (gn g) q (nw g 0 0 6) = some ((), g') ∧ gn g' = gn g + 5 ∧ gs g' = gs g + 21 ∧ Fa [] g g' ∧ BS g' (gn g) ∧ gR g' (gn g) 0 = some q := by
  have c6 : (6 : Int32).toNatClampNeg = 6 := rfl
  have c3 : (3 : Int32).toNatClampNeg = 3 := rfl
  obtain ⟨a, ha⟩ : ∃ a, a = gn g := ⟨_, rfl⟩
  rw [f_X0_init]
  simp only [lg, ln, c6, c3, gn_nw, gn_sR, ← ha]
  refine ⟨_, rfl, ?_, ?_, ⟨?_, fun x hx => ⟨?_, ?_, fun _ => ⟨?_, ?_, ?_⟩⟩⟩, ⟨⟨?_, ?_⟩, ⟨?_, ⟨?_, ?_⟩, ?_⟩, ⟨?_, ⟨?_, ?_⟩, ?_⟩, ⟨?_, ⟨?_, ?_⟩, ?_⟩, ⟨?_, ⟨?_, ?_⟩, ?_⟩⟩, ?_⟩
  all_goals simp (disch := omega) only [gn_nw, gn_sR, gs_nw, gs_sR, gK_nw, gK_sR, gN_nw, gN_sR, gI_nw, gI_sR, gL_nw, gL_sR, gR_nw, gR_sR, va_up_self, va_up_ne, ← ha]
  all_goals omega
theorem r_im20 {i : Nat} (hi : i < 2) : ∀ fu k g, Sh g → gI g 137 = cpR A A (1515 * (i + 1)) k → k ≤ 1515 → 1515 < fu + k → ∃ g', f_X12_image_20 fu 136 (nI i) (nI k) g = some (0, g') ∧ Fi [137, 138] g g' ∧ gI g' 137 = cpR A A (1515 * (i + 1)) 1515 ∧ gI g' 138 = upd (gI g 138) i 1 := by
  have le : 1515 * (i + 1) ≤ 1515 * 2 := Nat.mul_le_mul_left _ (by omega)
  have ge : 1515 * 1 ≤ 1515 * (i + 1) := Nat.mul_le_mul_left _ (by omega)
  intro fu
  induction fu with
  | zero => intro k g _ _ _ h; omega
  | succ fu ih =>
    intro k g hs hr hk hfu
    rw [f_X12_image_20]
    rcases Nat.lt_or_ge k 1515 with z | z
    · have eh : gI g 137 k = A k := by
        rw [hr]
        unfold cpR
        rw [if_neg (by omega)]
      have x1 : Fi [137, 138] g (sI g 137 (1515 * (i + 1) + k) (A k)) := Fi.rf.si (by decide)
      obtain ⟨g2, d1, d2, d3, d4⟩ := ih (k + 1) _ (Sh.fi x1 hs) (by
        rw [gI_sIs, hr]
        exact cpR_s) z (by omega)
      refine ⟨g2, ?_, x1.tr d2, d3, ?_⟩
      · rw [if_neg (show ¬ (1515 : Int32) ≤ nI k from nI_ge (a := k) (b := 1515) z (by decide)), md136_1 hs, gk137 hs, sn137 hs, show (1515 : Int32) = nI 1515 from rfl, lad1, pk_mul, nI_add, gdI_nI (by omega) (by decide), gdI_nI (by omega) (by decide), nI_clamp (show 1515 * (i + 1) + k < 2 ^ 31 by omega), nI_clamp (show k < 2 ^ 31 by omega), eh, lg, lad1, d1]
      · rw [d4, gI_sIn (by decide)]
    · have e : k = 1515 := by omega
      subst e
      rw [if_pos (by decide), md136_2 hs, gk138 hs, sn138 hs, gdI_nI hi (by decide), nI_clamp (by omega), lg]
      exact ⟨_, rfl, Fi.rf.si (by decide), by rw [gI_sIn (by decide), hr], by rw [gI_sIs]; rfl⟩
end NWB
