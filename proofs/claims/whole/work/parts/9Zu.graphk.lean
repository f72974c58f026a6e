/-! THE GRAPH KEPT over rows that tell the same, all of it. -/
section GRK
variable {X : Nat → Prop} {A A' : Nat → Int32} {F : Nat → Bool} {g g' : G} {p m n : Nat} {q pa la dp : Nat → Nat}
theorem opL_cg {N N' : Nat → Nat → Option Nat} {s t : Nat} (ht : t < 2) (e : ∀ l, l < 8 → N' s l = N s l) : ∀ k, k ≤ 4 → opL N' s t k = opL N s t k
  | 0, _ => rfl
  | k + 1, hk => by
    have ih := opL_cg ht e k (by omega)
    show opL N' s t k ++ (match N' s (4 * t + k) with | none => [] | some y => [2 * y + 1 - t]) = opL N s t k ++ (match N s (4 * t + k) with | none => [] | some y => [2 * y + 1 - t])
    rw [ih, e (4 * t + k) (by omega)]
theorem slC_cg {N N' : Nat → Nat → Option Nat} {x : Nat} (e : ∀ l, l < 8 → N' (x / 2) l = N (x / 2) l) : slC N' x = slC N x := by
  unfold slC
  rw [opL_cg (by omega) e 4 (by omega)]
theorem GMr.cg2 {N N' : Nat → Nat → Option Nat} (h : GMr N n g) (e : ∀ u l, u < n → l < 8 → N' u l = N u l) : GMr N' n g := by
  obtain ⟨h1, pl, lk, a, b, c, d⟩ := h
  have es : ∀ x, x < 2 * n → slC N' x = slC N x := fun x hx => slC_cg (fun l hl => e _ l (by omega) hl)
  refine ⟨h1, pl, lk, a, b, fun x hx => ?_, fun x y hx hy => ?_⟩
  · rw [es x hx]
    exact c x hx
  · rw [es x hx]
    exact d x y hx hy
theorem GNx.cg2 {N N' : Nat → Nat → Option Nat} {b s : Nat} (h : GNx N g b n q s 0) (e : ∀ u l, u < s → l < 8 → N' (q u) l = N (q u) l) : GNx N' g b n q s 0 := by
  intro i l hi hl
  rw [e i l (by omega) hl]
  exact h i l hi hl
theorem Ca.cg (h : Ca A g) (hW : WF A) (e : Wq A A') : Ca A' g := by
  obtain ⟨hA, hB, hL, -⟩ := hW
  have cl := cS_le hA
  have k3 := hA.2.2.2.2.2.2.2
  refine h.imp id ?_
  rintro ⟨p, n, q, pa, la, dp, a, b, ⟨c1, c2, c3⟩⟩
  obtain ⟨B1, B2, B3, B4, B5, B6, B7⟩ := c1
  have m' : md A' p = md A p := e.n (by omega)
  have eN : ∀ u l, u < n → l < 8 → (nxS A' (fre A' p) p (md A' p)) (q u) l = (nxS A (fre A p) p (md A p)) (q u) l := fun u l hu _ => e.nx_ hA hL a (stB_in (B4 u hu)).1 (stB_in (B4 u hu)).2
  have eX : ∀ u l, u < n → l < 8 → (nxI (nxS A' (fre A' p) p (md A' p)) q n) u l = (nxI (nxS A (fre A p) p (md A p)) q n) u l := fun u l hu hl => by
    unfold nxI
    rw [eN u l hu hl]
  have eW : ∀ u l, u < n → l < 8 → (wtI A' (fre A' p) p (md A' p) q n) u l = (wtI A (fre A p) p (md A p) q n) u l := fun u l hu hl => by
    unfold wtI
    rw [if_pos hu, if_pos hu, eN u l hu hl]
    rcases B3 u l (Or.inl hu) hl with ⟨z, -⟩ | ⟨j, j1, z, -⟩
    · rw [z]
    · rw [z]
      have u1 := stB_in (B4 u hu)
      have v1 := stB_in (B4 j j1)
      dsimp only
      unfold csS
      rw [m', e.pl.cst_ hL (by omega) (by omega), e.pl.cst_ hL (by omega) (by omega)]
  refine ⟨p, n, q, pa, la, dp, by rw [e.n (by omega)]; exact a, b, ⟨B1.cg B6 eN, B2, B3.cg2 eN, fun i hi => e.stB_ hA a (B4 i hi), ?_, B6, B7⟩, c2.imp id (fun ⟨d1, len, ord, d2, d3⟩ => ⟨d1, len, ord, d2.cg eX eW, d3.cg2 eX eW⟩), c3.imp id (fun d => d.cg2 eX)⟩
  rw [show tw A' (2 * p) = tw A (2 * p) from e.n (by omega), show tw A' (2 * p + 1) = tw A (2 * p + 1) from e.n (by omega)]
  exact B5
end GRK
