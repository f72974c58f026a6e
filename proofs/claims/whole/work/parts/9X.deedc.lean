/-! DEEDS on a board: the class. -/
section DEC
variable {X : Nat → Prop} {A A' : Nat → Int32} {g g' : G} {b p x y d q : Nat} {S : List Nat}
theorem c_isPairP (q1 : gR g b 0 = some q) (q2 : PR X g q A) (hA : Dm A) (hp : p < nv A 3) : f_X0_isPair b (nI p) g = some (true, g) := by
  obtain ⟨-, -, -, -, -, -, hK, h3⟩ := hA
  unfold f_X0_isPair
  rw [q1, dr_eq, gdK_pos q2.2.1, q2.2.2.1.2.2.2.1, hK, if_neg (nI_pos (by omega)), if_neg (nI_ge hp (by omega)), if_neg (lnge3 (by omega))]
theorem BD.new (h : BD X g b A) (hA : Dm A) (hL : LW A) (P : Pl A A') (x : Fi S g g') (hX : ∀ a ∈ S, ¬ X a) (w : ∀ c, c < 64 → bt (gL g' b 1) c = decide (c < 36 ∧ wl A' c = 1)) (t : ∀ i, i < 2 * nv A 3 → gI g' (b + 1) i = nI (tw A' i)) (s : ∀ p, p < nv A 3 → gI g' (b + 2) p = nI (sp A' p)) (m : ∀ p, p < nv A 3 → gI g' (b + 3) p = nI (md A' p)) (o : ∀ p, p < nv A 3 → gI g' (b + 4) p = nI (dn A' p)) : BD X g' b A' := by
  have n3 : nv A' 3 = nv A 3 := P.n_ (by omega)
  obtain ⟨⟨b1, b2, b3, b4, b5⟩, ⟨q, q1, q2⟩, -⟩ := h
  refine ⟨⟨b1.fi x, ?_, ?_, ?_, ?_⟩, ⟨q, by rw [x.R]; exact q1, (q2.fa x.a hX).pl hA hL P⟩, w, ?_, ?_, ?_, ?_⟩
  · rw [x.R]
    exact b2.fa x.a
  · rw [x.R]
    exact b3.fa x.a
  · rw [x.R]
    exact b4.fa x.a
  · rw [x.R]
    exact b5.fa x.a
  · rw [n3]
    exact t
  · rw [n3]
    exact s
  · rw [n3]
    exact m
  · rw [n3]
    exact o
theorem c_se (hS : BS g b) (q1 : gR g b 0 = some q) (q2 : PR X g q A) (hA : Dm A) (hp : p < nv A 3) {t z : Nat} (ht : t < 2) (hz : gI g (b + 1) (2 * p + t) = nI z) (n : Nat) : f_X0_settle_2 (n + 1) b (nI p) (nI t) g = f_X0_settle_2 n b (nI p) (nI (t + 1)) (if A (46 + (2 * p + t)) = nI z then sI g (b + 4) p (gI g (b + 4) p ||| ((1 : Int32) <<< (nI t &&& 31))) else g) := by
  have k3 := hA.2.2.2.2.2.2.2
  obtain ⟨a, -, a2, a3⟩ := q2.2.2.2.2.2.2.2.1
  rw [f_X0_settle_2, if_neg (show ¬ (2 : Int32) ≤ nI t from nI_ge (a := t) (b := 2) ht (by decide)), c_isPairP q1 q2 hA hp, bd_eq, ibT, q1, dr_eq, gdK_pos q2.2.1, nI2, nI_add, a2.get (by omega) (by decide), hS.2.1.get (by omega) (by decide), nI_clamp (show 2 * p + t < 2 ^ 31 by omega), a3 _ (by omega), hz, f_X0_settle_53, lad1]
  by_cases e : A (46 + (2 * p + t)) = nI z
  · rw [if_pos e, if_pos e, hS.2.2.2.2.get (by omega) (by decide), nI_clamp (by omega), lg, f_X0_settle_53, lad1]
  · rw [if_neg e, if_neg e]
theorem or_a : ∀ d, d < 4 → nI d ||| ((1 : Int32) <<< (nI 0 &&& 31)) = nI (d ||| 1) := by decide +kernel
theorem or_b : ∀ d, d < 4 → nI d ||| ((1 : Int32) <<< (nI 1 &&& 31)) = nI (d ||| 2) := by decide +kernel
theorem or_c : ∀ d, d < 4 → (d ||| 1) < 4 ∧ d ||| 0 = d := by decide
theorem c_settle (hS : BS g b) (q1 : gR g b 0 = some q) (q2 : PR X g q A) (hXb : ¬ X (b + 4)) (hA : Dm A) (hp : p < nv A 3) (h1 : gI g (b + 1) (2 * p) = nI x) (h2 : gI g (b + 1) (2 * p + 1) = nI y) (hd : gI g (b + 4) p = nI d) (d3 : d ≤ 3) : ∃ g', f_X0_settle b (nI p) g = some ((), g') ∧ Fi [b + 4] g g' ∧ gL g' = gL g ∧ gI g' (b + 4) p = nI (dnw A p x y d) ∧ ∀ r, r ≠ p → gI g' (b + 4) r = gI g (b + 4) r := by
  obtain ⟨fu, hfu⟩ : ∃ fu, FU = fu + 1 + 1 + 1 := ⟨FU - 3, rfl⟩
  obtain ⟨oc1, oc2⟩ := or_c d (by omega)
  have nX : ∀ a ∈ [b + 4], ¬ X a := fun a ha => by
    rw [List.mem_singleton.mp ha]
    exact hXb
  obtain ⟨g1, hg1⟩ : ∃ g1, g1 = (if A (46 + (2 * p + 0)) = nI x then sI g (b + 4) p (gI g (b + 4) p ||| ((1 : Int32) <<< (nI 0 &&& 31))) else g) := ⟨_, rfl⟩
  have s1 := c_se hS q1 q2 hA hp (t := 0) (z := x) (by decide) h1 (fu + 1 + 1)
  rw [← hg1] at s1
  have x1 : Fi [b + 4] g g1 := by
    rw [hg1]
    split
    · exact Fi.rf.si (List.mem_singleton.mpr rfl)
    · exact Fi.rf
  have l1 : gL g1 = gL g := by
    rw [hg1]
    split <;> rfl
  have v1 : gI g1 (b + 4) p = nI (d ||| (if A (46 + 2 * p) = nI x then 1 else 0)) := by
    rw [hg1, Nat.add_zero]
    by_cases e : A (46 + 2 * p) = nI x
    · rw [if_pos e, if_pos e, gI_sIs, pk_us, hd, or_a d (by omega)]
    · rw [if_neg e, if_neg e, oc2, hd]
  have o1 : ∀ r, r ≠ p → gI g1 (b + 4) r = gI g (b + 4) r := fun r hr => by
    rw [hg1]
    split
    · rw [gI_sIs, pk_un hr]
    · rfl
  have hS1 : BS g1 b := by
    obtain ⟨b1, b2, b3, b4, b5⟩ := hS
    refine ⟨b1.fi x1, ?_, ?_, ?_, ?_⟩
    · rw [x1.R]
      exact b2.fa x1.a
    · rw [x1.R]
      exact b3.fa x1.a
    · rw [x1.R]
      exact b4.fa x1.a
    · rw [x1.R]
      exact b5.fa x1.a
  have n1 : b + 1 ∉ [b + 4] := by simp
  obtain ⟨g2, hg2⟩ : ∃ g2, g2 = (if A (46 + (2 * p + 1)) = nI y then sI g1 (b + 4) p (gI g1 (b + 4) p ||| ((1 : Int32) <<< (nI 1 &&& 31))) else g1) := ⟨_, rfl⟩
  have s2 := c_se hS1 (by rw [x1.R]; exact q1) (q2.fa x1.a nX) hA hp (t := 1) (z := y) (by decide) (by rw [x1.I n1]; exact h2) (fu + 1)
  rw [← hg2] at s2
  have d4 : d ||| (if A (46 + 2 * p) = nI x then 1 else 0) < 4 := by
    split
    · exact oc1
    · rw [oc2]
      omega
  have s1' : f_X0_settle_2 (fu + 1 + 1 + 1) b (nI p) 0 g = _ := s1
  refine ⟨g2, ?_, ?_, ?_, ?_, fun r hr => ?_⟩
  · rw [f_X0_settle, hfu, s1', s2, f_X0_settle_2, if_pos (by decide)]
  · rw [hg2]
    split
    · exact x1.si (List.mem_singleton.mpr rfl)
    · exact x1
  · rw [hg2]
    split
    · exact l1
    · exact l1
  · unfold dnw
    rw [hg2]
    by_cases e : A (46 + (2 * p + 1)) = nI y
    · rw [if_pos e, if_pos (show A (46 + 2 * p + 1) = nI y from e), gI_sIs, pk_us, v1, or_b _ d4]
    · rw [if_neg e, if_neg (show ¬ A (46 + 2 * p + 1) = nI y from e), v1, (or_c _ d4).2]
  · rw [hg2]
    split
    · rw [gI_sIs, pk_un hr, o1 r hr]
    · exact o1 r hr
theorem BS.fi (h : BS g b) (x : Fi S g g') : BS g' b := by
  obtain ⟨b1, b2, b3, b4, b5⟩ := h
  refine ⟨b1.fi x, ?_, ?_, ?_, ?_⟩
  · rw [x.R]
    exact b2.fa x.a
  · rw [x.R]
    exact b3.fa x.a
  · rw [x.R]
    exact b4.fa x.a
  · rw [x.R]
    exact b5.fa x.a
theorem c_go0 (hS : BS g b) (q1 : gR g b 0 = some q) (q2 : PR X g q A) (hX1 : ¬ X (b + 1)) (hXb : ¬ X (b + 4)) (hA : Dm A) (hp : p < nv A 3) (hx : x < 36) (hy : y < 36) (hd : gI g (b + 4) p = nI d) (d3 : d ≤ 3) : ∃ g', f_X0_go b (nI p) (nI (64 * x + y)) g = some ((), g') ∧ Fi [b + 1, b + 4] g g' ∧ gL g' = gL g ∧ gI g' (b + 1) = upd (upd (gI g (b + 1)) (2 * p) (nI x)) (2 * p + 1) (nI y) ∧ gI g' (b + 4) p = nI (dnw A p x y d) ∧ ∀ r, r ≠ p → gI g' (b + 4) r = gI g (b + 4) r := by
  have k3 := hA.2.2.2.2.2.2.2
  obtain ⟨k1, k2⟩ := @pk_pack x y (by omega)
  have x1 : Fi [b + 1] g (sI (sI g (b + 1) (2 * p) (nI x)) (b + 1) (2 * p + 1) (nI y)) := (Fi.rf.si (List.mem_singleton.mpr rfl)).si (List.mem_singleton.mpr rfl)
  have nX : ∀ a ∈ [b + 1], ¬ X a := fun a ha => by
    rw [List.mem_singleton.mp ha]
    exact hX1
  have row : gI (sI (sI g (b + 1) (2 * p) (nI x)) (b + 1) (2 * p + 1) (nI y)) (b + 1) = upd (upd (gI g (b + 1)) (2 * p) (nI x)) (2 * p + 1) (nI y) := by
    rw [gI_sIs, gI_sIs]
  obtain ⟨g2, e1, e2, e3, e4, e5⟩ := c_settle (x := x) (y := y) (d := d) (hS.fi x1) (by rw [x1.R]; exact q1) (q2.fa x1.a nX) hXb hA hp (by rw [row, pk_un (by omega), pk_us]) (by rw [row, pk_us]) (by rw [x1.I (by simp)]; exact hd) d3
  have n4 : b + 4 ∉ [b + 1] := by simp
  refine ⟨g2, ?_, (x1.mono (by simp)).tr (e2.mono (by simp)), e3, ?_, e4, fun r hr => ?_⟩
  · rw [f_X0_go, c_isPairP q1 q2 hA hp, bd_eq, ibT, nI2, hS.2.1.get (by omega) (by decide), nI_clamp (show 2 * p < 2 ^ 31 by omega), lg, lad1, gN_sI, hS.2.1.2.2, gdI_nI (by omega) (by decide), nI_clamp (show 2 * p + 1 < 2 ^ 31 by omega), ldi64 (by omega), lmo64, k1, k2, lg, e1, bd_eq]
  · rw [e2.I (by simp), row]
  · rw [e5 r hr, x1.I n4]
end DEC
