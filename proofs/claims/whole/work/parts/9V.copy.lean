/-! A BOARD COPIED. -/
section CPY
variable {X : Nat → Prop} {A : Nat → Int32} {g g' : G} {a b : Nat}
theorem c_arr {α : Type} {h : G} {o : Option Nat} {x n : Nat} (k : Ar g o x n) (eK : gK h = gK g) (en : gn h = gn g) (f : Nat → Option α) : dr o (fun y => gdK h y 14 (f y)) = f x := by
  rw [k.1, dr_eq, gdK_pos (⟨by rw [eK]; exact k.2.1.1, by rw [en]; exact k.2.1.2⟩ : KD h x 14)]
theorem c_copyFrom (hX : ∀ k, k ≤ 4 → ¬ X (a + k)) (hS : BS g a) (h : BD X g b A) (dj : a + 4 < b ∨ b + 4 < a) (k3 : nv A 3 ≤ 3) : ∃ g', f_X0_copyFrom a b g = some ((), g') ∧ Fq [a, a + 1, a + 2, a + 3, a + 4] g g' ∧ (∀ k, k ≠ 0 → gR g' a k = gR g a k) ∧ (∀ j, j ≠ a → gR g' j = gR g j) ∧ BD X g' a A := by
  obtain ⟨⟨b1, b2, b3, b4, b5⟩, ⟨q, q1, q2⟩, h3, h4, h5, h6, h7⟩ := id h
  obtain ⟨a1, a2, a3, a4, a5⟩ := id hS
  obtain ⟨g1, hg1⟩ : ∃ g1, g1 = sL (sR g a 0 (some q)) a 1 (gL g b 1) := ⟨_, rfl⟩
  obtain ⟨g2, hg2⟩ : ∃ g2, g2 = rI g1 (a + 1) (va_cpy (gI g1 (b + 1)) (gI g1 (a + 1)) 0 0 6) := ⟨_, rfl⟩
  obtain ⟨g3, hg3⟩ : ∃ g3, g3 = rI g2 (a + 2) (va_cpy (gI g2 (b + 2)) (gI g2 (a + 2)) 0 0 3) := ⟨_, rfl⟩
  obtain ⟨g4, hg4⟩ : ∃ g4, g4 = rI g3 (a + 3) (va_cpy (gI g3 (b + 3)) (gI g3 (a + 3)) 0 0 3) := ⟨_, rfl⟩
  obtain ⟨g5, hg5⟩ : ∃ g5, g5 = rI g4 (a + 4) (va_cpy (gI g4 (b + 4)) (gI g4 (a + 4)) 0 0 3) := ⟨_, rfl⟩
  have m0 : a ∈ [a, a + 1, a + 2, a + 3, a + 4] := by simp
  have m1 : a + 1 ∈ [a, a + 1, a + 2, a + 3, a + 4] := by simp
  have m2 : a + 2 ∈ [a, a + 1, a + 2, a + 3, a + 4] := by simp
  have m3 : a + 3 ∈ [a, a + 1, a + 2, a + 3, a + 4] := by simp
  have m4 : a + 4 ∈ [a, a + 1, a + 2, a + 3, a + 4] := by simp
  have x1 : Fq [a, a + 1, a + 2, a + 3, a + 4] g g1 := by
    rw [hg1]
    exact (Fq.rf.sr m0).sl m0
  have x2 : Fq [a, a + 1, a + 2, a + 3, a + 4] g g2 := by
    rw [hg2]
    exact x1.ri m1
  have x3 : Fq [a, a + 1, a + 2, a + 3, a + 4] g g3 := by
    rw [hg3]
    exact x2.ri m2
  have x4 : Fq [a, a + 1, a + 2, a + 3, a + 4] g g4 := by
    rw [hg4]
    exact x3.ri m3
  have x5 : Fq [a, a + 1, a + 2, a + 3, a + 4] g g5 := by
    rw [hg5]
    exact x4.ri m4
  have R2 : gR g2 = gR g1 := by
    rw [hg2]
    rfl
  have R3 : gR g3 = gR g1 := by
    rw [hg3]
    exact R2
  have R4 : gR g4 = gR g1 := by
    rw [hg4]
    exact R3
  have R5 : gR g5 = gR g1 := by
    rw [hg5]
    exact R4
  have Ra : ∀ k, k ≠ 0 → gR g1 a k = gR g a k := fun k hk => by
    rw [hg1, gR_sL, gR_sRs]
    exact va_up_ne _ _ hk
  have Ra0 : gR g1 a 0 = some q := by
    rw [hg1, gR_sL, gR_sRs]
    exact va_up_self _ _ _
  have Rn : ∀ j, j ≠ a → gR g1 j = gR g j := fun j hj => by
    rw [hg1, gR_sL, gR_sRn hj]
  have Rb : gR g1 b = gR g b := Rn b (by omega)
  have L5 : gL g5 a 1 = gL g b 1 := by
    have e1 : gL g1 a 1 = gL g b 1 := by
      rw [hg1, gL_sLs]
      exact pk_uLs
    have e : gL g5 = gL g1 := by
      rw [hg5, hg4, hg3, hg2]
      rfl
    rw [e]
    exact e1
  have bn : ∀ k, k ≤ 4 → b + k ∉ [a, a + 1, a + 2, a + 3, a + 4] := fun k hk u => by
    simp at u
    omega
  have c6 : ∀ x : Option (Unit × G), gdC (0 : Int32) (0 : Int32) (6 : Int32) 6 6 x = x := fun x => if_neg (by decide)
  have c3 : ∀ x : Option (Unit × G), gdC (0 : Int32) (0 : Int32) (3 : Int32) 3 3 x = x := fun x => if_neg (by decide)
  have v1 : ∀ j, j < 6 → gI g5 (a + 1) j = gI g (b + 1) j := fun j hj => by
    rw [hg5, gI_rIn (by omega), hg4, gI_rIn (by omega), hg3, gI_rIn (by omega), hg2, gI_rIs, va_cpy_all hj, x1.I (bn 1 (by decide))]
  have v2 : ∀ j, j < 3 → gI g5 (a + 2) j = gI g (b + 2) j := fun j hj => by
    rw [hg5, gI_rIn (by omega), hg4, gI_rIn (by omega), hg3, gI_rIs, va_cpy_all hj, x2.I (bn 2 (by decide))]
  have v3 : ∀ j, j < 3 → gI g5 (a + 3) j = gI g (b + 3) j := fun j hj => by
    rw [hg5, gI_rIn (by omega), hg4, gI_rIs, va_cpy_all hj, x3.I (bn 3 (by decide))]
  have v4 : ∀ j, j < 3 → gI g5 (a + 4) j = gI g (b + 4) j := fun j hj => by
    rw [hg5, gI_rIs, va_cpy_all hj, x4.I (bn 4 (by decide))]
  have nX : ∀ j ∈ [a, a + 1, a + 2, a + 3, a + 4], ¬ X j := fun j hj => by
    simp at hj
    rcases hj with rfl | rfl | rfl | rfl | rfl
    · exact hX 0 (by decide)
    · exact hX 1 (by decide)
    · exact hX 2 (by decide)
    · exact hX 3 (by decide)
    · exact hX 4 (by decide)
  have kD : ∀ {x c : Nat}, KD g x c → KD g5 x c := fun k => k.fq x5
  refine ⟨g5, ?_, x5, fun k hk => by rw [R5]; exact Ra k hk, fun j hj => by rw [R5]; exact Rn j hj, ⟨kD a1, ?_, ?_, ?_, ?_⟩, ⟨q, by rw [R5]; exact Ra0, q2.fa x5.a nX⟩, ?_, ?_, ?_, ?_, ?_⟩
  · rw [f_X0_copyFrom, q1, dr_eq, lg, lg, gL_sR, ← hg1, Rb, Ra 2 (by decide), b2.1, dr_eq, a2.1, dr_eq, gdK_pos (b2.2.1.fq x1), gdK_pos (a2.2.1.fq x1), x1.2.2.2.1, b2.2.2, a2.2.2, c6, lg]
    rw [show (0 : Int32).toNatClampNeg = 0 from rfl, show (6 : Int32).toNatClampNeg = 6 from rfl, ← hg2, R2, Rb, Ra 3 (by decide), b3.1, dr_eq, a3.1, dr_eq, gdK_pos (b3.2.1.fq x2), gdK_pos (a3.2.1.fq x2), x2.2.2.2.1, b3.2.2, a3.2.2, c3, lg]
    rw [show (3 : Int32).toNatClampNeg = 3 from rfl, ← hg3, R3, Rb, Ra 4 (by decide), b4.1, dr_eq, a4.1, dr_eq, gdK_pos (b4.2.1.fq x3), gdK_pos (a4.2.1.fq x3), x3.2.2.2.1, b4.2.2, a4.2.2, c3, lg]
    rw [← hg4, R4, Rb, Ra 5 (by decide), b5.1, dr_eq, a5.1, dr_eq, gdK_pos (b5.2.1.fq x4), gdK_pos (a5.2.1.fq x4), x4.2.2.2.1, b5.2.2, a5.2.2, c3, lg, ← hg5]
  · rw [R5, Ra 2 (by decide)]
    exact a2.fa x5.a
  · rw [R5, Ra 3 (by decide)]
    exact a3.fa x5.a
  · rw [R5, Ra 4 (by decide)]
    exact a4.fa x5.a
  · rw [R5, Ra 5 (by decide)]
    exact a5.fa x5.a
  · rw [L5]
    exact h3
  · exact fun i hi => by
      have k6 : i < 6 := by
        omega
      rw [v1 i k6]
      exact h4 i hi
  · exact fun p hp => by
      rw [v2 p (by omega)]
      exact h5 p hp
  · exact fun p hp => by
      rw [v3 p (by omega)]
      exact h6 p hp
  · exact fun p hp => by
      rw [v4 p (by omega)]
      exact h7 p hp
end CPY
