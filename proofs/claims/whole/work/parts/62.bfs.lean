/-! BFS BY POSITIONS: q the node at a position, pa its parent's position, la the lead by which it was found, dp how deep; n positions are found, those below m have told all their leads, m's own below l0. -/
section
def BF (N : Nat → Nat → Option Nat) (q pa la dp : Nat → Nat) (n m l0 : Nat) : Prop := (0 < n ∧ dp 0 = 0) ∧ (∀ i j, i < n → j < n → q i = q j → i = j) ∧ (∀ i l y, (i < m ∨ (i = m ∧ l < l0)) → l < 8 → N (q i) l = some y → ∃ j, j < n ∧ q j = y ∧ (j = 0 ∨ pa j < i ∨ (pa j = i ∧ la j ≤ l))) ∧ (∀ j, 0 < j → j < n → pa j < j ∧ (pa j < m ∨ (pa j = m ∧ la j < l0)) ∧ la j < 8 ∧ N (q (pa j)) (la j) = some (q j) ∧ dp j = dp (pa j) + 1) ∧ (∀ i j, 0 < i → i < j → j < n → pa i < pa j ∨ (pa i = pa j ∧ la i < la j))
variable {N : Nat → Nat → Option Nat} {q pa la dp : Nat → Nat} {n m l0 : Nat}
theorem BF.mono (h : BF N q pa la dp n m l0) : ∀ j, j < n → ∀ i, i ≤ j → dp i ≤ dp j := by
  intro j
  induction j using Nat.strongRecOn with
  | _ j ih =>
    intro hj i hi
    rcases Nat.eq_zero_or_pos i with e | e
    · rw [e, h.1.2]
      exact Nat.zero_le _
    · rcases Nat.lt_or_ge i j with q1 | q1
      · obtain ⟨a1, -, -, -, a5⟩ := h.2.2.2.1 i e (by omega)
        obtain ⟨b1, -, -, -, b5⟩ := h.2.2.2.1 j (by omega) hj
        have := ih (pa j) b1 (by omega) (pa i) (by
          have := h.2.2.2.2 i j e q1 hj
          omega)
        omega
      · have : i = j := by omega
        rw [this]
        exact Nat.le_refl _
theorem BF.d0 (h : BF N q pa la dp n m l0) {j : Nat} (hj : j < n) (h0 : 0 < j) : 0 < dp j := by
  have := (h.2.2.2.1 j h0 hj).2.2.2.2
  omega
theorem BF.ed (h : BF N q pa la dp n m l0) {i l y : Nat} (hi : i < m ∨ (i = m ∧ l < l0)) (hin : i < n) (hl : l < 8) (he : N (q i) l = some y) : ∃ j, j < n ∧ q j = y ∧ dp j ≤ dp i + 1 ∧ (j = 0 ∨ pa j < i ∨ (pa j = i ∧ la j ≤ l)) := by
  obtain ⟨j, j1, j2, j3⟩ := h.2.2.1 i l y hi hl he
  refine ⟨j, j1, j2, ?_, j3⟩
  rcases Nat.eq_zero_or_pos j with e | e
  · rw [e, h.1.2]
    exact Nat.zero_le _
  · have := (h.2.2.2.1 j e j1).2.2.2.2
    have := h.mono i hin (pa j) (by omega)
    omega
/-- what is known of a row of numbers: how far it is to a goal -/
def LF (N : Nat → Nat → Option Nat) (q : Nat → Nat) (n F : Nat) (L : Nat → Nat) : Prop := (∀ i l y, i < n → l < 8 → N (q i) l = some y → L (q i) ≤ L y + 1) ∧ ∀ i, i < n → 0 < L (q i) → L (q i) < F → ∃ l y, l < 8 ∧ N (q i) l = some y ∧ L y + 1 = L (q i)
variable {L : Nat → Nat} {F e : Nat}
theorem BF.up (h : BF N q pa la dp n m l0) (hL : LF N q n F L) : ∀ j, j < n → L (q 0) ≤ dp j + L (q j) := by
  intro j
  induction j using Nat.strongRecOn with
  | _ j ih =>
    intro hj
    rcases Nat.eq_zero_or_pos j with z | z
    · rw [z]
      omega
    · obtain ⟨a1, a2, a3, a4, a5⟩ := h.2.2.2.1 j z hj
      have := ih (pa j) a1 (by omega)
      have := hL.1 (pa j) (la j) (q j) (by omega) a3 a4
      omega
theorem BF.far (h : BF N q pa la dp n n 0) (hL : LF N q n F L) (h0 : ∀ i, i < n → L (q i) ≠ 0) : F ≤ L (q 0) := by
  have : ∀ k i, i < n → L (q i) = k → F ≤ k := by
    intro k
    induction k using Nat.strongRecOn with
    | _ k ih =>
      intro i hi e
      rcases Nat.lt_or_ge k F with z | z
      · have p0 := h0 i hi
        obtain ⟨l, y, l1, l2, l3⟩ := hL.2 i hi (by omega) (by omega)
        obtain ⟨j, j1, j2, -⟩ := h.ed (Or.inl hi) hi l1 l2
        have := ih (L y) (by omega) j j1 (by rw [j2])
        omega
      · exact z
  exact this _ 0 h.1.1 rfl
/-- the goal that stands first: as deep as the row of numbers tells -/
theorem BF.found (h : BF N q pa la dp n m 0) (hL : LF N q n F L) (he : e < n) (hm : e ≤ m) (g0 : L (q e) = 0) (g1 : ∀ i, i < e → L (q i) ≠ 0) (hF : dp e < F) : L (q 0) = dp e := by
  refine Nat.le_antisymm (by have := h.up hL e he; omega) (Nat.not_lt.mp (fun z => ?_))
  have : ∀ k, k ≤ L (q 0) → ∃ i, i < e ∧ dp i ≤ k ∧ L (q i) = L (q 0) - k := by
    intro k
    induction k with
    | zero =>
      intro _
      refine ⟨0, ?_, Nat.le_of_eq h.1.2, rfl⟩
      rcases Nat.eq_zero_or_pos e with a | a
      · rw [a, h.1.2] at z
        omega
      · exact a
    | succ k ih =>
      intro hk
      obtain ⟨i, i1, i2, i3⟩ := ih (by omega)
      obtain ⟨l, y, l1, l2, l3⟩ := hL.2 i (by omega) (by omega) (by omega)
      obtain ⟨j, j1, j2, j3, -⟩ := h.ed (Or.inl (by omega)) (by omega) l1 l2
      refine ⟨j, ?_, by omega, by rw [j2]; omega⟩
      rcases Nat.lt_or_ge j e with a | a
      · exact a
      · have := h.mono j j1 e a
        omega
  obtain ⟨i, i1, i2, i3⟩ := this _ (Nat.le_refl _)
  exact g1 i i1 (by omega)
def anc (pa : Nat → Nat) (j : Nat) : Nat → Nat
  | 0 => j
  | k + 1 => pa (anc pa j k)
theorem BF.anc_d (h : BF N q pa la dp n m l0) {j : Nat} (hj : j < n) : ∀ k, k ≤ dp j → anc pa j k < n ∧ dp (anc pa j k) + k = dp j ∧ anc pa j k ≤ j
  | 0, _ => ⟨hj, rfl, Nat.le_refl _⟩
  | k + 1, hk => by
    obtain ⟨a1, a2, a3⟩ := h.anc_d hj k (by omega)
    have p : 0 < anc pa j k := by
      rcases Nat.eq_zero_or_pos (anc pa j k) with z | z
      · rw [z, h.1.2] at a2
        omega
      · exact z
    obtain ⟨b1, -, -, -, b5⟩ := h.2.2.2.1 _ p a1
    show pa (anc pa j k) < n ∧ dp (pa (anc pa j k)) + (k + 1) = dp j ∧ pa (anc pa j k) ≤ j
    omega
theorem BF.pa_mono (h : BF N q pa la dp n m l0) {i j : Nat} (hi : 0 < i) (hij : i ≤ j) (hj : j < n) : pa i ≤ pa j := by
  rcases Nat.lt_or_ge i j with z | z
  · have := h.2.2.2.2 i j hi z hj
    omega
  · have : i = j := by omega
    rw [this]
    exact Nat.le_refl _
theorem BF.anc_mono (h : BF N q pa la dp n m l0) {i j : Nat} (hij : i ≤ j) (hj : j < n) : ∀ k, k ≤ dp i → anc pa i k ≤ anc pa j k
  | 0, _ => hij
  | k + 1, hk => by
    have ih := h.anc_mono hij hj k (by omega)
    obtain ⟨a1, a2, a3⟩ := h.anc_d (j := i) (by omega) k (by omega)
    have dj := h.mono j hj i hij
    obtain ⟨b1, b2, b3⟩ := h.anc_d hj k (by omega)
    have p : 0 < anc pa i k := by
      rcases Nat.eq_zero_or_pos (anc pa i k) with z | z
      · rw [z, h.1.2] at a2
        omega
      · exact z
    exact h.pa_mono p ih b1
theorem BF.reachG (h : BF N q pa la dp n m 0) (hL : LF N q n F L) (he : e < n) (hm : e ≤ m) (g0 : L (q e) = 0) (g1 : ∀ i, i < e → L (q i) ≠ 0) (hF : dp e < F) : ∀ j x, x < n → L (q x) = j → dp x + j = dp e → ∃ f, f < n ∧ L (q f) = 0 ∧ dp f = dp e ∧ anc pa f j ≤ x
  | 0, x, hx, h1, h2 => ⟨x, hx, h1, h2, Nat.le_refl _⟩
  | j + 1, x, hx, h1, h2 => by
    have fd := h.found hL he hm g0 g1 hF
    have xe : x < e := by
      rcases Nat.lt_or_ge x e with a | a
      · exact a
      · have := h.mono x hx e a
        omega
    obtain ⟨l, y, l1, l2, l3⟩ := hL.2 x hx (by omega) (by omega)
    obtain ⟨z, z1, z2, z3, z4⟩ := h.ed (Or.inl (by omega)) hx l1 l2
    have zu := h.up hL z z1
    rw [z2] at zu
    have dz : dp z = dp x + 1 := by omega
    have z0 : z ≠ 0 := fun a => by
      rw [a, h.1.2] at dz
      omega
    obtain ⟨f, f1, f2, f3, f4⟩ := h.reachG hL he hm g0 g1 hF j z z1 (by rw [z2]; omega) (by omega)
    refine ⟨f, f1, f2, f3, ?_⟩
    obtain ⟨a1, a2, a3⟩ := h.anc_d f1 j (by omega)
    have p : 0 < anc pa f j := by
      rcases Nat.eq_zero_or_pos (anc pa f j) with a | a
      · rw [a, h.1.2] at a2
        omega
      · exact a
    have := h.pa_mono p f4 z1
    show pa (anc pa f j) ≤ x
    omega
/-- the way to the goal that stands first: each lead is the first one that comes nearer -/
theorem BF.way (h : BF N q pa la dp n m 0) (hL : LF N q n F L) (he : e < n) (hm : e ≤ m) (g0 : L (q e) = 0) (g1 : ∀ i, i < e → L (q i) ≠ 0) (hF : dp e < F) {j : Nat} (hj : j < dp e) : 0 < anc pa e j ∧ anc pa e j < n ∧ L (q (anc pa e j)) = j ∧ L (q (anc pa e (j + 1))) = j + 1 ∧ la (anc pa e j) < 8 ∧ N (q (anc pa e (j + 1))) (la (anc pa e j)) = some (q (anc pa e j)) ∧ ∀ l' y, l' < la (anc pa e j) → N (q (anc pa e (j + 1))) l' = some y → L y + 1 ≠ L (q (anc pa e (j + 1))) := by
  have fd := h.found hL he hm g0 g1 hF
  have LA : ∀ k, k ≤ dp e → L (q (anc pa e k)) = k := by
    have le : ∀ k, k ≤ dp e → L (q (anc pa e k)) ≤ k := fun k => by
      induction k with
      | zero => intro _; exact Nat.le_of_eq g0
      | succ k ih =>
        intro hk
        obtain ⟨a1, a2, a3⟩ := h.anc_d he k (by omega)
        have p : 0 < anc pa e k := by
          rcases Nat.eq_zero_or_pos (anc pa e k) with a | a
          · rw [a, h.1.2] at a2
            omega
          · exact a
        obtain ⟨b1, b2, b3, b4, b5⟩ := h.2.2.2.1 _ p a1
        have := hL.1 _ _ _ (show pa (anc pa e k) < n by omega) b3 b4
        have := ih (by omega)
        show L (q (pa (anc pa e k))) ≤ k + 1
        omega
    intro k hk
    obtain ⟨a1, a2, a3⟩ := h.anc_d he k hk
    have := h.up hL _ a1
    have := le k hk
    omega
  obtain ⟨a1, a2, a3⟩ := h.anc_d he j (by omega)
  obtain ⟨c1, c2, c3⟩ := h.anc_d he (j + 1) (by omega)
  have p : 0 < anc pa e j := by
    rcases Nat.eq_zero_or_pos (anc pa e j) with a | a
    · rw [a, h.1.2] at a2
      omega
    · exact a
  obtain ⟨b1, b2, b3, b4, b5⟩ := h.2.2.2.1 _ p a1
  refine ⟨p, a1, LA j (by omega), LA (j + 1) (by omega), b3, b4, fun l' y hl hy e1 => ?_⟩
  have hv : anc pa e (j + 1) = pa (anc pa e j) := rfl
  have L1 := LA (j + 1) (by omega)
  have ve : anc pa e (j + 1) < e := by
    rcases Nat.lt_or_ge (anc pa e (j + 1)) e with a | a
    · exact a
    · have := h.mono _ c1 e a
      omega
  obtain ⟨z, z1, z2, z3, z4⟩ := h.ed (Or.inl (by omega)) c1 (show l' < 8 by omega) hy
  have zu := h.up hL z z1
  rw [z2] at zu
  have dz : dp z = dp (anc pa e (j + 1)) + 1 := by omega
  have z0 : z ≠ 0 := fun a => by
    rw [a, h.1.2] at dz
    omega
  have zlt : z < anc pa e j := by
    rcases Nat.lt_or_ge z (anc pa e j) with a | a
    · exact a
    · rcases Nat.eq_or_lt_of_le a with b | b
      · rw [← b] at z4
        omega
      · have := h.2.2.2.2 _ _ p b z1
        omega
  obtain ⟨f, f1, f2, f3, f4⟩ := h.reachG hL he hm g0 g1 hF j z z1 (by rw [z2]; omega) (by omega)
  rcases Nat.lt_or_ge f e with a | a
  · exact g1 f a f2
  · have := h.anc_mono a f1 j (by omega)
    omega
end
