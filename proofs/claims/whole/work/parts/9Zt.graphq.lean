/-! THE GRAPH KEPT over rows that tell the same. -/
section GRQ
variable {X : Nat → Prop} {A A' : Nat → Int32} {F : Nat → Bool} {g g' : G} {p m n : Nat} {q pa la dp : Nat → Nat}
theorem Pl.L_ (h : Pl A A') {w : Nat} {b : Bool} (hw : w < 2) (k : LV A w b) : lawL A' w = lawL A w := by
  obtain ⟨k1, k2, k3, k4, k5⟩ := k
  have e1 := h.n_ (k := 8 + w) (by omega)
  have e2 := h.n_ (k := 6 + w) (by omega)
  unfold lawL
  rw [e1, e2]
  apply List.map_congr_left
  intro j hj
  rw [List.mem_range] at hj
  exact h.n_ (by omega)
theorem Pl.T_ (h : Pl A A') {w t a c : Nat} {b : Bool} (hw : w < 2) (k : LV A w b) (ha : a < 36) (hc : c < 36) : lawT A' w p m t a c = lawT A w p m t a c := by
  unfold lawT lawV
  rw [h.L_ hw k, h.h_ (by omega), h.h_ (by omega), h.n_ (by omega)]
theorem Pl.may_ (h : Pl A A') (hL : LW A) {t a c : Nat} (ha : a < 36) (hc : c < 36) : may A' p m t a c = may A p m t a c := by
  unfold may
  rw [h 4 (by omega)]
  rcases hL.2.1 with z | z
  · rw [decide_eq_true z, Bool.true_or, Bool.true_or]
  · rw [h.T_ (by decide) z ha hc]
theorem Pl.cst_ (h : Pl A A') (hL : LW A) {t a c : Nat} (ha : a < 36) (hc : c < 36) : cst A' p m t a c = cst A p m t a c := by
  unfold cst
  rw [h 5 (by omega), h.n_ (k := 2) (by omega)]
  rcases hL.2.2 with z | z
  · by_cases e : a = c
    · rw [if_pos e, if_pos e]
    · rw [if_neg e, if_neg e, if_pos z, if_pos z]
  · rw [h.T_ (by decide) z ha hc]
theorem Wq.dw_ (e : Wq A A') (hA : Dm A) (hL : LW A) (hp : p < 3) {t b y : Nat} (hb : b < cS A) : dwS A' F p m t b y = dwS A F p m t b y := by
  have cl := cS_le hA
  unfold dwS
  rw [e.pl.n_ (k := 2) (by omega), e.spp hp, e.pl.c_]
  by_cases z : F b = true ∧ apS (nv A 2) y b = sp A p
  · rw [if_pos z, if_pos z]
  · rw [if_neg z, if_neg z]
    exact bst_congr (fun d hd => by rw [e.pl.may_ hL (by omega) (by omega)])
theorem Wq.st_ (e : Wq A A') (hA : Dm A) (hL : LW A) (hp : p < 3) {t a b w : Nat} (ha : a < cS A) (hb : b < cS A) : stS A' F p m t a b w = stS A F p m t a b w := by
  have cl := cS_le hA
  unfold stS
  rw [e.pl.n_ (k := 1) (by omega), e.pl.n_ (k := 2) (by omega)]
  cases hx : besS (nv A 1) (nv A 2) a w with
  | none => rfl
  | some y =>
    have hy : y < cS A := besS_lt (by have := hA.2.2.2.2.1; omega) ha hx
    dsimp only
    rw [e.pl.may_ hL (by omega) (by omega), e.dw_ hA hL hp hb]
theorem Wq.fre_ (e : Wq A A') (hA : Dm A) {c : Nat} (hc : c < 36) (r : Nat) : fre A' r c = fre A r c := by
  have k3 := hA.2.2.2.2.2.2.2
  have n3 : nv A' 3 = nv A 3 := e.n (by omega)
  have w : wl A' c = wl A c := e.n (by omega)
  unfold fre
  rw [w, n3, decide_eq_decide]
  constructor
  · rintro ⟨a1, a2⟩
    exact ⟨a1, fun i h1 h2 => by
      rw [← show tw A' i = tw A i from e.n (by omega)]
      exact a2 i h1 h2⟩
  · rintro ⟨a1, a2⟩
    exact ⟨a1, fun i h1 h2 => by
      rw [show tw A' i = tw A i from e.n (by omega)]
      exact a2 i h1 h2⟩
theorem Wq.nx_ (e : Wq A A') (hA : Dm A) (hL : LW A) (hp : p < nv A 3) {s l : Nat} (h1 : s / 36 < cS A) (h2 : s % 36 < cS A) : (nxS A' (fre A' p) p (md A' p)) s l = (nxS A (fre A p) p (md A p)) s l := by
  have k3 := hA.2.2.2.2.2.2.2
  have cl := cS_le hA
  have m' : md A' p = md A p := e.n (by omega)
  have o1 : ow (l / 4) (s / 36) (s % 36) < cS A := by
    unfold ow
    split <;> omega
  have o2 : ow (l / 4) (s % 36) (s / 36) < cS A := by
    unfold ow
    split <;> omega
  have c2 : cS A' = cS A := e.pl.c_
  unfold nxS
  rw [m', st_F (A := A') (F := fre A p) (e.pl.d_ hA) (fun d hd => e.fre_ hA (by omega) p) (by rw [c2]; exact o1) (by rw [c2]; exact o2), e.st_ hA hL (by omega) o1 o2]
theorem Wq.stB_ (e : Wq A A') (hA : Dm A) (hp : p < nv A 3) {s : Nat} (h : stB A (fre A p) p s = true) : stB A' (fre A' p) p s = true := by
  have k3 := hA.2.2.2.2.2.2.2
  have cl := cS_le hA
  unfold stB at h ⊢
  rw [Bool.and_eq_true, Bool.and_eq_true, decide_eq_true_eq] at h ⊢
  obtain ⟨⟨⟨a1, a2, a3⟩, a4⟩, a5⟩ := h
  rw [e.pl.c_, e.pl.n_ (k := 2) (by omega), e.spp (by omega), e.fre_ hA (by omega), e.fre_ hA (by omega)]
  exact ⟨⟨⟨a1, a2, a3⟩, a4⟩, a5⟩
theorem stB_in {s : Nat} (h : stB A F p s = true) : s / 36 < cS A ∧ s % 36 < cS A := by
  unfold stB at h
  rw [Bool.and_eq_true, Bool.and_eq_true, decide_eq_true_eq] at h
  exact ⟨h.1.1.1, h.1.1.2.1⟩
theorem DF.cg {nx nx' : Nat → Nat → Option Nat} {wt wt' : Nat → Nat → Nat} {len ord : Nat → Nat} (h : DF nx wt n len ord) (e1 : ∀ u l, u < n → l < 8 → nx' u l = nx u l) (e2 : ∀ u l, u < n → l < 8 → wt' u l = wt u l) : DF nx' wt' n len ord := by
  obtain ⟨h1, h2, h3, h4, h5, h6, h7, h8⟩ := h
  refine ⟨h1, h2, h3, h4, fun v hv => (h5 v hv).imp id (fun ⟨u, l, a, b, c, d⟩ => ⟨u, l, a, b, by rw [e1 u l a b]; exact c, by rw [e2 u l a b]; exact d⟩), fun u l v a b c => ?_, h7, h8⟩
  rw [e1 u l a b] at c
  rw [e2 u l a b]
  exact h6 u l v a b c
theorem CHr.cg2 {nx nx' : Nat → Nat → Option Nat} {wt wt' : Nat → Nat → Nat} {len ord : Nat → Nat} (h : CHr nx wt g n len ord) (e1 : ∀ u l, u < n → l < 8 → nx' u l = nx u l) (e2 : ∀ u l, u < n → l < 8 → wt' u l = wt u l) : CHr nx' wt' g n len ord := by
  obtain ⟨h1, h2, h3, h4⟩ := h
  refine ⟨h1, h2, h3, fun u l v a b c => ?_⟩
  rw [e1 u l a b] at c
  rw [e2 u l a b]
  exact h4 u l v a b c
end GRQ
