/-! QUERIES: the state between calls as far as they see it; the graph that is kept. -/
section QRY
variable {X : Nat → Prop} {A : Nat → Int32} {g g' h : G} {p ag n : Nat} {q pa la dp : Nat → Nat}
def K6 : List Nat := [0, 17, 18, 31, 32]
def SCR : List Nat := [0, 2, 3, 4, 5, 6, 7, 8, 9, 10, 11, 12, 13, 14, 15, 16, 17, 18, 19, 20, 21, 22, 23, 24, 25, 26, 27, 28, 29, 30, 31, 32, 33, 34, 35, 36, 37, 38, 39, 68, 69, 70, 71, 72, 73, 74, 75, 136, 141, 142, 143, 144, 145, 146, 147, 148, 149, 150, 151]
/-- what a query may change -/
def Qf (g g' : G) : Prop := Fq SCR g g' ∧ Sh g' ∧ (∀ k, k ≠ 10 → gI g' 0 k = gI g 0 k) ∧ ∀ k, k ∉ K6 → gI g' 136 k = gI g 136 k
theorem Qf.rf (hs : Sh g) : Qf g g := ⟨Fq.rf, hs, fun _ _ => rfl, fun _ _ => rfl⟩
theorem Qf.tr (x : Qf g g') (y : Qf g' h) : Qf g h := ⟨x.1.tr y.1, y.2.1, fun k hk => (y.2.2.1 k hk).trans (x.2.2.1 k hk), fun k hk => (y.2.2.2 k hk).trans (x.2.2.2 k hk)⟩
theorem Qf.fq {S : List Nat} (x : Fq S g g') (hs : Sh g') (hS : S.all (fun a => decide (a ∈ SCR ∧ a ≠ 0 ∧ a ≠ 136)) = true) : Qf g g' := by
  have m : ∀ a ∈ S, a ∈ SCR ∧ a ≠ 0 ∧ a ≠ 136 := fun a ha => of_decide_eq_true (List.all_eq_true.mp hS a ha)
  refine ⟨x.mono (fun a ha => (m a ha).1), hs, fun k _ => ?_, fun k _ => ?_⟩
  · rw [x.I (fun u => (m 0 u).2.1 rfl)]
  · rw [x.I (fun u => (m 136 u).2.2 rfl)]
theorem Qf.fi {S : List Nat} (x : Fi S g g') (hs : Sh g) (hS : S.all (fun a => decide (a ∈ SCR ∧ a ≠ 0 ∧ a ≠ 136)) = true) : Qf g g' := Qf.fq x.q (Sh.fi x hs) hS
theorem Qf.fm {K S : List Nat} (x : Fm K S g g') (hs : Sh g) (hK : ∀ k ∈ K, k ∈ K6) (hS : S.all (fun a => decide (a ∈ SCR ∧ a ≠ 0 ∧ a ≠ 136)) = true) : Qf g g' := by
  have m : ∀ a ∈ S, a ∈ SCR ∧ a ≠ 0 ∧ a ≠ 136 := fun a ha => of_decide_eq_true (List.all_eq_true.mp hS a ha)
  refine ⟨x.1.q.mono (fun a ha => ?_), hs.fm x, fun k _ => ?_, fun k hk => x.2 k (fun u => hk (hK k u))⟩
  · rcases List.mem_cons.mp ha with u | u
    · rw [u]
      decide
    · exact (m a u).1
  · rw [x.I (fun u => by
      rcases List.mem_cons.mp u with v | v
      · exact absurd v (by decide)
      · exact (m 0 v).2.1 rfl)]
theorem Qf.s10 (hs : Sh g) (v : Int32) : Qf g (sI g 0 10 v) := ⟨Fq.rf.si (by decide), Sh.fi (S := [0]) (Fi.rf.si (by decide)) hs, fun k hk => by rw [gI_sIs, pk_un hk], fun k _ => by rw [gI_sIn (by decide)]⟩
/-- the graph that is kept, with what is built on it -/
def Cg (A : Nat → Int32) (p : Nat) (g : G) (n : Nat) (q pa la dp : Nat → Nat) : Prop := GB (nxS A (fre A p) p (md A p)) (stB A (fre A p) p) g 2 n n (36 * tw A (2 * p) + tw A (2 * p + 1)) q pa la dp ∧ (gI g 16 0 = 0 ∨ gI g 16 0 = 1 ∧ ∃ len ord, DF (nxI (nxS A (fre A p) p (md A p)) q n) (wtI A (fre A p) p (md A p) q n) n len ord ∧ CHr (nxI (nxS A (fre A p) p (md A p)) q n) (wtI A (fre A p) p (md A p) q n) g n len ord) ∧ (gI g 27 0 = 0 ∨ GMr (nxI (nxS A (fre A p) p (md A p)) q n) n g)
def CL : List Nat := [2, 3, 4, 5, 6, 7, 8, 16, 17, 18, 19, 27, 28, 29, 30, 31]
theorem GRw.cg {b : Nat} (h : GRw g b n q pa la dp) (e : ∀ k, k ≤ 6 → gI g' (b + k) = gI g (b + k)) : GRw g' b n q pa la dp := by
  unfold GRw at h ⊢
  rw [e 1 (by decide), e 2 (by decide), e 3 (by decide), e 4 (by decide), e 6 (by decide), show gI g' b = gI g b from e 0 (by decide)]
  exact h
theorem GNx.cg {b s l : Nat} {N : Nat → Nat → Option Nat} (h : GNx N g b n q s l) (e : ∀ k, k ≤ 6 → gI g' (b + k) = gI g (b + k)) : GNx N g' b n q s l := by
  unfold GNx at h ⊢
  rw [e 5 (by decide)]
  exact h
theorem CHr.cg {nx : Nat → Nat → Option Nat} {wt : Nat → Nat → Nat} {len ord : Nat → Nat} (h : CHr nx wt g n len ord) (e : ∀ k, 16 ≤ k → k ≤ 19 → gI g' k = gI g k) : CHr nx wt g' n len ord := by
  unfold CHr at h ⊢
  rw [e 16 (by decide) (by decide), e 17 (by decide) (by decide), e 18 (by decide) (by decide), e 19 (by decide) (by decide)]
  exact h
theorem GMr.cg {N : Nat → Nat → Option Nat} (h : GMr N n g) (e : ∀ k, 27 ≤ k → k ≤ 31 → gI g' k = gI g k) : GMr N n g' := by
  obtain ⟨h1, pl, lk, h2⟩ := h
  refine ⟨by rw [e 27 (by decide) (by decide)]; exact h1, pl, lk, ?_⟩
  unfold GL1 at h2 ⊢
  rw [e 27 (by decide) (by decide), e 28 (by decide) (by decide), e 29 (by decide) (by decide), e 30 (by decide) (by decide), e 31 (by decide) (by decide)]
  exact h2
theorem GB.cg {N : Nat → Nat → Option Nat} {P : Nat → Bool} {b e y : Nat} (h : GB N P g b n e y q pa la dp) (eq : ∀ k, k ≤ 6 → gI g' (b + k) = gI g (b + k)) : GB N P g' b n e y q pa la dp := ⟨h.1, h.2.1.cg eq, h.2.2.1.cg eq, h.2.2.2⟩
theorem Cg.cg (h : Cg A p g n q pa la dp) (e : ∀ a ∈ CL, gI g' a = gI g a) : Cg A p g' n q pa la dp := by
  obtain ⟨h1, h2, h3⟩ := h
  have e1 : ∀ k, k ≤ 6 → gI g' (2 + k) = gI g (2 + k) := fun k hk => by
    obtain rfl | rfl | rfl | rfl | rfl | rfl | rfl : k = 0 ∨ k = 1 ∨ k = 2 ∨ k = 3 ∨ k = 4 ∨ k = 5 ∨ k = 6 := by omega
    all_goals exact e _ (by decide)
  have e2 : ∀ k, 16 ≤ k → k ≤ 19 → gI g' k = gI g k := fun k k1 k2 => by
    obtain rfl | rfl | rfl | rfl : k = 16 ∨ k = 17 ∨ k = 18 ∨ k = 19 := by omega
    all_goals exact e _ (by decide)
  have e3 : ∀ k, 27 ≤ k → k ≤ 31 → gI g' k = gI g k := fun k k1 k2 => by
    obtain rfl | rfl | rfl | rfl | rfl : k = 27 ∨ k = 28 ∨ k = 29 ∨ k = 30 ∨ k = 31 := by omega
    all_goals exact e _ (by decide)
  refine ⟨h1.cg e1, ?_, ?_⟩
  · rw [e2 16 (by decide) (by decide)]
    exact h2.imp id (fun ⟨a, len, ord, b, c⟩ => ⟨a, len, ord, b, c.cg e2⟩)
  · rw [e3 27 (by decide) (by decide)]
    exact h3.imp id (fun u => u.cg e3)
def Ca (A : Nat → Int32) (g : G) : Prop := gI g 0 10 = -1 ∨ ∃ p n q pa la dp, p < nv A 3 ∧ gI g 0 10 = nI p ∧ Cg A p g n q pa la dp
/-- what a query finds -/
def QS (X : Nat → Prop) (A : Nat → Int32) (ag : Nat) (g : G) : Prop := RS A g ∧ XO X ∧ BD X g 47 A ∧ SI ag g ∧ Ca A g
/-- what it has when the graph is built -/
def GH (X : Nat → Prop) (A : Nat → Int32) (p : Nat) (g : G) (n : Nat) (q pa la dp : Nat → Nat) : Prop := RS A g ∧ XO X ∧ BD X g 47 A ∧ gI g 0 10 = nI p ∧ Cg A p g n q pa la dp
theorem GH.s (h : GH X A p g n q pa la dp) (hp : p < nv A 3) (hI : SI ag g) : QS X A ag g := ⟨h.1, h.2.1, h.2.2.1, hI, Or.inr ⟨p, n, q, pa, la, dp, hp, h.2.2.2.1, h.2.2.2.2⟩⟩
theorem GH.fq {S : List Nat} (h : GH X A p g n q pa la dp) (x : Fq S g g') (hs : Sh g') (hS : S.all (fun a => decide (a ∉ CL ∧ a ≠ 0 ∧ a ≠ 137 ∧ (a < 42 ∨ (51 < a ∧ a < 155)))) = true) : GH X A p g' n q pa la dp := by
  have m : ∀ a ∈ S, a ∉ CL ∧ a ≠ 0 ∧ a ≠ 137 ∧ (a < 42 ∨ (51 < a ∧ a < 155)) := fun a ha => of_decide_eq_true (List.all_eq_true.mp hS a ha)
  obtain ⟨h1, h2, h3, h4, h5⟩ := h
  refine ⟨⟨hs, (x.I (fun u => (m _ u).2.2.1 rfl)).trans h1.2.1, h1.2.2⟩, h2, h3.fa x.a (h2.no (List.all_eq_true.mpr (fun a ha => decide_eq_true (by have := (m a ha).2.2.2; omega)))) (fun a ha => by have := (m a ha).2.2.2; omega), ?_, h5.cg (fun a ha => x.I (fun u => (m a u).1 ha))⟩
  rw [x.I (fun u => (m _ u).2.1 rfl)]
  exact h4
theorem GH.fi {S : List Nat} (h : GH X A p g n q pa la dp) (x : Fi S g g') (hS : S.all (fun a => decide (a ∉ CL ∧ a ≠ 0 ∧ a ≠ 137 ∧ (a < 42 ∨ (51 < a ∧ a < 155)))) = true) : GH X A p g' n q pa la dp := h.fq x.q (Sh.fi x h.1.1) hS
/-- the reference changes nothing of it -/
theorem QS.fm {K S : List Nat} (h : QS X A ag g) (x : Fm K S g g') (hK : ∀ k ∈ K, k ∈ K6) (hS : S.all (fun a => decide (140 < a ∧ a < 152)) = true) : QS X A ag g' ∧ Qf g g' := by
  have m : ∀ a ∈ S, 140 < a ∧ a < 152 := fun a ha => of_decide_eq_true (List.all_eq_true.mp hS a ha)
  have m1 : ∀ a ∈ 136 :: S, a = 136 ∨ (140 < a ∧ a < 152) := fun a ha => (List.mem_cons.mp ha).imp id (m a)
  obtain ⟨h1, h2, h3, h4, h5⟩ := h
  have no : ∀ a, a < 136 → a ∉ 136 :: S := fun a ha u => by
    have := m1 a u
    omega
  refine ⟨⟨h1.fm x (fun u => by have := m1 _ u; omega), h2, h3.fa x.1.a (h2.no (List.all_eq_true.mpr (fun a ha => decide_eq_true (by have := m1 a ha; omega)))) (fun a ha => by have := m1 a ha; omega), h4.fa h1.1 x.1.a (fun k k1 k2 => no k (by omega)), ?_⟩, Qf.fm x h1.1 hK (List.all_eq_true.mpr (fun a ha => decide_eq_true ?_))⟩
  · unfold Ca
    rw [x.I (no 0 (by decide))]
    refine h5.imp id (fun ⟨p, n, q, pa, la, dp, a, b, c⟩ => ⟨p, n, q, pa, la, dp, a, b, c.cg (fun a ha => x.I (no a ?_))⟩)
    have t : CL.all (fun a => decide (a < 136)) = true := by decide
    exact of_decide_eq_true (List.all_eq_true.mp t a ha)
  · have := m a ha
    have t : (List.range 11).all (fun i => decide (141 + i ∈ SCR)) = true := by decide
    have u := of_decide_eq_true (List.all_eq_true.mp t (a - 141) (List.mem_range.mpr (by omega)))
    rw [show 141 + (a - 141) = a by omega] at u
    exact ⟨u, by omega, by omega⟩
theorem fit_2 (c : Nat) (hc : c < 1296) : fitB c (-2) (-2) = false := by
  unfold fitB
  have : ¬ nI (c / 36) = -2 := fun u => by
    have a := nI_toInt (show c / 36 < 2 ^ 31 by omega)
    rw [u] at a
    have b : (-2 : Int32).toInt = -2 := rfl
    omega
  rw [decide_eq_false (show ¬ (-2 : Int32) = -1 by decide), decide_eq_false this]
  rfl
theorem cx_now (h2 : tw A (2 * p + 1) < 36) : cx (36 * tw A (2 * p) + tw A (2 * p + 1)) = 64 * tw A (2 * p) + tw A (2 * p + 1) := by
  unfold cx
  omega
theorem c_graphOf (h : QS X A ag g) (hp : p < nv A 3) (hag : ag + 1 < 2 ^ 30) : ∃ g' ag' n q pa la dp, f_X11_graphOf 0 (nI p) g = some (2, g') ∧ Qf g g' ∧ GH X A p g' n q pa la dp ∧ SI ag' g' ∧ ag ≤ ag' ∧ ag' ≤ ag + 1 := by
  obtain ⟨h1, h2, h3, h4, h5⟩ := h
  have hs := h1.1
  have hA := h1.2.2.1
  have hB := h1.2.2.2.1
  have k3 := h1.k3
  have cl := h1.cl
  rw [f_X11_graphOf, f_X11_graphOf_52]
  by_cases z : gI g 0 10 = nI p
  · rw [if_pos z, md0_8 hs]
    rcases h5 with u | ⟨p', n, q, pa, la, dp, a, b, c⟩
    · rw [u] at z
      exact absurd z.symm (nI_ne1 (by omega))
    · have e : p' = p := by
        rw [z, nI_eq (by omega) (by omega)] at b
        exact b.symm
      subst e
      exact ⟨g, ag, n, q, pa, la, dp, rfl, Qf.rf hs, ⟨h1, h2, h3, z, c⟩, h4, Nat.le_refl _, by omega⟩
  · have hE : EV X A p := ⟨h2, hA, hB, h1.2.2.2.2, hp⟩
    obtain ⟨g1, a1, a2, a3, a4⟩ := c_aim h3 hE hs h4 hag (by decide)
    have hs1 := a3.1.1
    have h31 : BD X g1 47 A := h3.fa a2.a (h2.no (by decide)) (by decide)
    have tl := (hB.t (i := 2 * p + 1) (by omega)).2.1
    obtain ⟨g2, n, e, q, pa, la, dp, b1, b2, b3, b4, b5, b6⟩ := c_build (b := 2) (Or.inl rfl) hE a3 (now_st hA hB hp) (-2) (-2)
    have hs2 := b3.1.1
    obtain ⟨B1, B2, B3, B4, B5, B6, B7⟩ := id b4
    have ee : e = n := by
      rcases Nat.lt_or_ge e n with u | u
      · have := b6 u
        rw [fit_2 _ (stB_lt hA (B4 e u))] at this
        cases this
      · omega
    subst ee
    have x3 : Fi [0, 16, 27] g2 (sI (sI (sI g2 0 10 (-1)) 16 0 0) 27 0 0) := ((Fi.rf.si (by decide)).si (by decide)).si (by decide)
    have x31 : Fi [0, 16, 27] g2 (sI g2 0 10 (-1)) := Fi.rf.si (by decide)
    have x32 : Fi [0, 16, 27] g2 (sI (sI g2 0 10 (-1)) 16 0 0) := x31.si (by decide)
    have x4 : Fi [0, 16, 27] g2 (sI (sI (sI (sI g2 0 10 (-1)) 16 0 0) 27 0 0) 0 10 (nI p)) := x3.si (by decide)
    have hs4 := Sh.fi x4 hs2
    have en : 64 * tw A (2 * p) + tw A (2 * p + 1) = cx (36 * tw A (2 * p) + tw A (2 * p + 1)) := (cx_now (by omega)).symm
    rw [if_neg z, md0_7 hs, md0_4 hs, gk68 hs, gk47 hs, a1, bd_eq, md0_8 hs1, md0_7 hs1, md0_4 hs1, gk47 hs1, c_standOf h31 hA hp, bd_eq, gk2 hs1, gk68 hs1, en, b1, bd_eq, f_X11_forgetWays, lg, md0_11 (Sh.fi x31 hs2), gk16 (Sh.fi x31 hs2), lg, md0_13 (Sh.fi x32 hs2), gk27 (Sh.fi x32 hs2), lg, bd_eq, lg, f_X11_graphOf_52, md0_8 hs4]
    refine ⟨_, ag + 1, e, q, pa, la, dp, rfl, ?_, ⟨?_, h2, ?_, ?_, ?_, ?_, ?_⟩, ?_, by omega, Nat.le_refl _⟩
    · have y1 : Qf g g1 := Qf.fq a2 hs1 (by decide)
      have y2 : Qf g1 g2 := Qf.fi b2 hs1 (by decide)
      refine (y1.tr y2).tr ⟨x4.q.mono (by decide), hs4, fun k hk => ?_, fun k _ => ?_⟩
      · rw [gI_sIs, pk_un hk, gI_sIn (by decide), gI_sIn (by decide), gI_sIs, pk_un hk]
      · rw [x4.I (by decide)]
    · refine ⟨hs4, ?_, h1.2.2⟩
      rw [x4.I (by decide), b2.I (by decide), a2.I (by decide)]
      exact h1.2.1
    · exact (h31.fa b2.a (h2.no (by decide)) (by decide)).fa x4.a (h2.no (by decide)) (by decide)
    · rw [gI_sIs, pk_us]
    · exact b4.cg (fun k hk => x4.I (by simp; omega))
    · left
      rw [gI_sIn (by decide), gI_sIn (by decide), gI_sIs, pk_us]
    · left
      rw [gI_sIn (by decide), gI_sIs, pk_us]
    · have s2 : SI (ag + 1) g2 := by
        obtain ⟨-, R, W, r1, r2, r3, r4, r5⟩ := a4
        refine ⟨b3.2.1, R, W, r1, r2, ?_, ?_, ?_⟩
        · rw [b2.I (by decide)]
          exact r3
        · rw [b2.I (by decide)]
          exact r4
        · rw [b2.L (by decide)]
          exact r5
      exact s2.fa hs2 x4.a (fun k k1 k2 => by simp; omega)
end QRY
