/-! A MOOD ASSUMED: the stepper with another mood. -/
section ASM
variable {X : Nat → Prop} {A : Nat → Int32} {F : Nat → Bool} {g g' : G} {p m m' ag : Nat}
theorem c_assume (h : SP X A F p m ag g) (hX : XO X) (hA : Dm A) (hag : ag + 1 < 2 ^ 30) : ∃ g', f_X9_assume 68 (nI m') g = some ((), g') ∧ Fi [68, 69] g g' ∧ SP X A F p m' (ag + 1) g' ∧ gL g' = gL g ∧ ∀ k, k ≠ 11 → gI g' 68 k = gI g 68 k := by
  have cl := cS_le hA
  obtain ⟨⟨h1, ⟨q, q1, q2⟩, h3, h4, h5, h6, h7⟩, ⟨M1, M2, M3, M4⟩, M5, M6⟩ := h
  have x : Fi [68, 69] g (sI (sI g 69 2 (nI m')) 68 11 (nI (ag + 1))) := (Fi.rf.si (by decide)).si (by decide)
  have age : gI (sI g 69 2 (nI m')) 68 11 = nI ag := by
    rw [gI_sIn (by decide)]
    exact M1
  have f71 : ∀ i, gI (sI (sI g 69 2 (nI m')) 68 11 (nI (ag + 1))) 71 i = gI g 71 i := fun i => by rw [x.I (by decide)]
  have f73 : ∀ i, gI (sI (sI g 69 2 (nI m')) 68 11 (nI (ag + 1))) 73 i = gI g 73 i := fun i => by rw [x.I (by decide)]
  have no : ∀ i, (∃ j, j ≤ ag ∧ gI g 71 i = nI j) → ¬ gI g 71 i = nI (ag + 1) := fun i ⟨j, j1, j2⟩ u => by
    rw [j2, nI_eq (by omega) (by omega)] at u
    omega
  have no' : ∀ i, (∃ j, j ≤ ag ∧ gI g 73 i = nI j) → ¬ gI g 73 i = nI (ag + 1) := fun i ⟨j, j1, j2⟩ u => by
    rw [j2, nI_eq (by omega) (by omega)] at u
    omega
  refine ⟨_, ?_, x, ⟨⟨Sh.fi x h1, ⟨q, q1, q2.fa x.a (hX.no (by decide))⟩, h3, ?_, ?_, ?_, h7⟩, ⟨?_, hag, fun i hi => ?_, fun i hi => ?_⟩, fun e t a c ht ha hc u => ?_, fun e t a c ht ha hc u => ?_⟩, rfl, fun k hk => ?_⟩
  · rw [f_X9_assume, md68_3 h1, gk69 h1, sn69 h1, show (2 : Int32) = nI 2 from rfl, gdI_nI (by decide) (by decide), nI_clamp (by decide), lg, age, lad1, lg]
  · rw [gI_sIs, pk_un (by decide), gI_sIn (by decide)]
    exact h4
  · rw [gI_sIn (by decide), gI_sIs, pk_un (by decide)]
    exact h5
  · rw [gI_sIn (by decide), gI_sIs, pk_us]
  · rw [gI_sIs, pk_us]
  · obtain ⟨j, j1, j2⟩ := M3 i hi
    exact ⟨j, by omega, (f71 i).trans j2⟩
  · obtain ⟨j, j1, j2⟩ := M4 i hi
    exact ⟨j, by omega, (f73 i).trans j2⟩
  · rw [f71] at u
    exact absurd u (no _ (M3 _ (mp_lt ht (by omega) (by omega))))
  · rw [f73] at u
    exact absurd u (no' _ (M4 _ (mp_lt ht (by omega) (by omega))))
  · rw [gI_sIs, pk_un hk, gI_sIn (by decide)]
end ASM
