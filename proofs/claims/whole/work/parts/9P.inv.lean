/-! THE INVARIANT between calls. -/
section INV
variable {X : Nat → Prop} {A A' : Nat → Int32} {g g' : G} {ag ag' : Nat} {S : List Nat}
def VE (A : Nat → Int32) : Prop := ∀ p, p < nv A 3 → VEp A p
def WF (A : Nat → Int32) : Prop := Dm A ∧ VB A (bo A) ∧ LW A ∧ VE A
/-- the row as it was ahead of the k-th deed kept -/
def hR (A : Nat → Int32) (k : Nat) : Nat → Int32 := fun j => if 52 ≤ j ∧ j < 103 then A (104 + 51 * k + (j - 52)) else A j
/-- the row of an image -/
def iR (A : Nat → Int32) (i : Nat) : Nat → Int32 := fun j => A (1515 * (i + 1) + j)
def HI (X : Nat → Prop) (A : Nat → Int32) (g : G) : Prop := ∃ n el, n ≤ 10 ∧ el < 10 ∧ A 103 = nI n ∧ gI g 76 0 = nI n ∧ gI g 76 1 = nI el ∧ ∀ k, k < n → WF (hR A k) ∧ BD X g (78 + 5 * ((el + k) % 10)) (hR A k)
def IM (X : Nat → Prop) (A : Nat → Int32) (g : G) : Prop := (∀ i, i < 2 → (gI g 138 i = 0 ∧ gR g 41 i = none) ∨ (gI g 138 i = 1 ∧ ∃ b, gR g 41 i = some b ∧ 155 ≤ b ∧ (∀ k, k ≤ 4 → ¬ X (b + k)) ∧ WF (iR A i) ∧ BD X g b (iR A i))) ∧ ∀ b c, gR g 41 0 = some b → gR g 41 1 = some c → b + 4 < c ∨ c + 4 < b
/-- a byte as the class keeps it -/
def byI (v : Nat) : Int32 := (nI v).toInt8.toInt32
def TP (g : G) : Prop := ∃ n, n ≤ 900 ∧ gI g 0 1 = nI n ∧ gI g 136 5 = nI n ∧ ∀ k, k < n → ∃ v, v < 256 ∧ gI g 139 k = nI v ∧ gI g 1 k = byI v
def FT (g : G) : Prop := gI g 0 2 = gI g 136 13 ∧ gI g 0 3 = gI g 136 14
def RI (X : Nat → Prop) (A : Nat → Int32) (g : G) : Prop := TR g ∧ TP g ∧ FT g ∧ HI X A g ∧ IM X A g ∧ (∀ a, X a → a < gn g) ∧ VE A
def Inv (X : Nat → Prop) (A : Nat → Int32) (ag : Nat) (g : G) : Prop := QS X A ag g ∧ RI X A g
/-- a call answered alike, with what stands behind it -/
def CA {α : Type} (ag : Nat) (g : G) (c : Option (α × G)) (r : G → Option (α × G)) : Prop := ∃ v g1 g2 X A ag', c = some (v, g1) ∧ r g1 = some (v, g2) ∧ Inv X A ag' g2 ∧ ag' ≤ ag + 100 ∧ gn g2 ≤ gn g + 1000 ∧ gs g2 ≤ gs g + 10000
theorem no_X (hX : XO X) (hS : S.all (fun a => decide (a < 42 ∨ (46 < a ∧ a < 155))) = true) : ∀ a ∈ S, ¬ X a := fun a ha u => by
  have := of_decide_eq_true (List.all_eq_true.mp hS a ha)
  have := hX a u
  omega
theorem HI.fa (h : HI X A g) (hs : Sh g) (x : Fa S g g') (hX : ∀ a ∈ S, ¬ X a) (hS : S.all (fun a => decide (a < 76 ∨ 127 < a)) = true) : HI X A g' := by
  have m : ∀ a ∈ S, a < 76 ∨ 127 < a := fun a ha => of_decide_eq_true (List.all_eq_true.mp hS a ha)
  obtain ⟨n, el, h1, h2, h3, h4, h5, h6⟩ := h
  have e := ((x.2 76 (by have := hs.1; omega)).2.2 (fun u => by have := m _ u; omega)).1
  refine ⟨n, el, h1, h2, h3, ?_, ?_, fun k hk => ⟨(h6 k hk).1, (h6 k hk).2.fa x hX (fun a ha => ?_)⟩⟩
  · rw [e]
    exact h4
  · rw [e]
    exact h5
  · have := m a ha
    omega
theorem IM.fa (h : IM X A g) (hs : Sh g) (x : Fa S g g') (hX : ∀ a ∈ S, ¬ X a) (hS : S.all (fun a => decide (a ≠ 41 ∧ a ≠ 138 ∧ a < 155)) = true) : IM X A g' := by
  have m : ∀ a ∈ S, a ≠ 41 ∧ a ≠ 138 ∧ a < 155 := fun a ha => of_decide_eq_true (List.all_eq_true.mp hS a ha)
  have e1 := ((x.2 138 (by have := hs.1; omega)).2.2 (fun u => (m _ u).2.1 rfl)).1
  have e2 := ((x.2 41 (by have := hs.1; omega)).2.2 (fun u => (m _ u).1 rfl)).2.2
  obtain ⟨h1, h2⟩ := h
  refine ⟨fun i hi => ?_, ?_⟩
  · rw [e1, e2]
    exact (h1 i hi).imp id (fun ⟨a, b, b1, b2, b3, b4, b5⟩ => ⟨a, b, b1, b2, b3, b4, b5.fa x hX (fun a ha => by have := (m a ha).2.2; omega)⟩)
  · rw [e2]
    exact h2
theorem TR.fa (h : TR g) (hs : Sh g) (x : Fa S g g') (hS : S.all (fun a => decide (a < 128 ∨ (135 < a ∧ a < 152))) = true) : TR g' := by
  have m : ∀ a ∈ S, a < 128 ∨ (135 < a ∧ a < 152) := fun a ha => of_decide_eq_true (List.all_eq_true.mp hS a ha)
  have e : ∀ a, ((128 ≤ a ∧ a ≤ 135) ∨ (152 ≤ a ∧ a < 155)) → gI g' a = gI g a ∧ gL g' a = gL g a := fun a ha => by
    have := (x.2 a (by have := hs.1; omega)).2.2 (fun u => by have := m _ u; omega)
    exact ⟨this.1, this.2.1⟩
  intro t ht
  obtain ⟨so, n, s1, s2, s3, s4, s5, s6, s7⟩ := h t ht
  refine ⟨so, n, s1, s2, ?_, ?_, ?_, ?_, fun k hk => ?_⟩
  · rw [(e (128 + 2 * t) (by omega)).1]
    exact s3
  · rw [(e 152 (by omega)).1]
    exact s4
  · rw [(e (128 + 2 * t) (by omega)).1]
    exact s5
  · rw [(e 153 (by omega)).1]
    exact s6
  · rw [(e (129 + 2 * t) (by omega)).2, (e 154 (by omega)).2]
    exact s7 k hk
/-- what is behind a call that changes no row, no tape, no fault, no image; the trays are told anew -/
theorem RI.ft (h : RI X A g) (hX : XO X) (hs : Sh g) (x : Fa S g g') (hS : S.all (fun a => decide (a ≠ 1 ∧ a ≠ 41 ∧ (a < 42 ∨ (46 < a ∧ a < 76) ∨ (127 < a ∧ a < 155)) ∧ a ≠ 138 ∧ a ≠ 139)) = true) (hT : TR g') (e1 : gI g' 0 1 = gI g 0 1) (e2 : gI g' 0 2 = gI g 0 2) (e3 : gI g' 0 3 = gI g 0 3) (f5 : gI g' 136 5 = gI g 136 5) (f13 : gI g' 136 13 = gI g 136 13) (f14 : gI g' 136 14 = gI g 136 14) : RI X A g' := by
  have m : ∀ a ∈ S, a ≠ 1 ∧ a ≠ 41 ∧ (a < 42 ∨ (46 < a ∧ a < 76) ∨ (127 < a ∧ a < 155)) ∧ a ≠ 138 ∧ a ≠ 139 := fun a ha => of_decide_eq_true (List.all_eq_true.mp hS a ha)
  have g155 := hs.1
  obtain ⟨h1, ⟨n, t1, t2, t3, t4⟩, h3, h4, h5, h6, h7⟩ := h
  have nX : ∀ a ∈ S, ¬ X a := no_X hX (List.all_eq_true.mpr (fun a ha => decide_eq_true (by have := m a ha; omega)))
  have d1 := ((x.2 1 (by omega)).2.2 (fun u => (m _ u).1 rfl)).1
  have d2 := ((x.2 139 (by omega)).2.2 (fun u => (m _ u).2.2.2.2 rfl)).1
  refine ⟨hT, ⟨n, t1, e1.trans t2, f5.trans t3, ?_⟩, ⟨?_, ?_⟩, h4.fa hs x nX (List.all_eq_true.mpr (fun a ha => decide_eq_true (by have := m a ha; omega))), h5.fa hs x nX (List.all_eq_true.mpr (fun a ha => decide_eq_true (by have := m a ha; omega))), fun a ha => Nat.lt_of_lt_of_le (h6 a ha) x.1, h7⟩
  · rw [d1, d2]
    exact t4
  · rw [e2, f13]
    exact h3.1
  · rw [e3, f14]
    exact h3.2
theorem RI.qf (h : RI X A g) (hX : XO X) (hs : Sh g) (x : Qf g g') : RI X A g' := h.ft hX hs x.1.a (by decide) (h.1.fa hs x.1.a (by decide)) (x.2.2.1 1 (by decide)) (x.2.2.1 2 (by decide)) (x.2.2.1 3 (by decide)) (x.2.2.2 5 (by decide)) (x.2.2.2 13 (by decide)) (x.2.2.2 14 (by decide))
theorem QA.ca {α : Type} {c : Option (α × G)} {r : G → Option (α × G)} (h : Inv X A ag g) (q : QA X A ag g c r) : CA ag g c r := by
  obtain ⟨v, g1, g2, ag', a1, a2, a3, a4, a5, a6⟩ := q
  exact ⟨v, g1, g2, X, A, ag', a1, a2, ⟨a4, h.2.qf h.1.2.1 h.1.1.1 a3⟩, by omega, by rw [a3.1.1]; omega, by rw [a3.1.2.1]; omega⟩
/-- a query's state, where nothing of it changes -/
theorem QS.fr (h : QS X A ag g) (x : Fq S g g') (hs : Sh g') (hS : S.all (fun a => decide (39 < a ∧ a ≠ 137 ∧ (a < 42 ∨ (51 < a ∧ a < 68) ∨ (75 < a ∧ a < 155)))) = true) : QS X A ag g' := by
  have m : ∀ a ∈ S, 39 < a ∧ a ≠ 137 ∧ (a < 42 ∨ (51 < a ∧ a < 68) ∨ (75 < a ∧ a < 155)) := fun a ha => of_decide_eq_true (List.all_eq_true.mp hS a ha)
  obtain ⟨h1, h2, h3, h4, h5⟩ := h
  refine ⟨⟨hs, (x.I (fun u => (m _ u).2.1 rfl)).trans h1.2.1, h1.2.2⟩, h2, h3.fa x.a (no_X h2 (List.all_eq_true.mpr (fun a ha => decide_eq_true (by have := m a ha; omega)))) (fun a ha => by have := m a ha; omega), h4.fa h1.1 x.a (fun k k1 k2 u => by have := m k u; omega), ?_⟩
  unfold Ca
  rw [x.I (a := 0) (fun u => by have := m _ u; omega)]
  refine h5.imp id (fun ⟨p, n, q, pa, la, dp, a, b, c⟩ => ⟨p, n, q, pa, la, dp, a, b, c.cg (fun a ha => x.I (fun u => ?_))⟩)
  have t : CL.all (fun a => decide (a < 40)) = true := by decide
  have t2 : a < 40 := of_decide_eq_true (List.all_eq_true.mp t a ha)
  have := m a u
  omega
end INV
