/-! QUERIES answered alike: soonest, way, cheapest, cheapWay, rows. -/
section QWY
variable {X : Nat → Prop} {A : Nat → Int32} {g g' : G} {p ag n : Nat} {q pa la dp : Nat → Nat} {one two : Int32}
def QA {α : Type} (X : Nat → Prop) (A : Nat → Int32) (ag : Nat) (g : G) (c : Option (α × G)) (r : G → Option (α × G)) : Prop := ∃ v g1 g2 ag', c = some (v, g1) ∧ r g1 = some (v, g2) ∧ Qf g g2 ∧ QS X A ag' g2 ∧ ag ≤ ag' ∧ ag' ≤ ag + 50
theorem QA.of {α : Type} {c : Option (α × G)} {r : G → Option (α × G)} {v : α} {g1 g2 : G} {ag' : Nat} {K S : List Nat} (hc : c = some (v, g1)) (hQ : Qf g g1) (h1 : QS X A ag' g1) (hr : r g1 = some (v, g2)) (x : Fm K S g1 g2) (hK : ∀ k ∈ K, k ∈ K6) (hS : S.all (fun a => decide (140 < a ∧ a < 152)) = true) (l1 : ag ≤ ag') (l2 : ag' ≤ ag + 50) : QA X A ag g c r := by
  obtain ⟨a, b⟩ := h1.fm x hK hS
  exact ⟨v, g1, g2, ag', hc, hr, hQ.tr b, a, l1, l2⟩
theorem tF0 : Fm [0] [] g (sI g 136 0 0) := Fm.rf.sf (by decide)
theorem RS.t0 (h : RS A g) : RS A (sI g 136 0 0) := h.fm tF0 (by decide)
theorem goB_true (hA : Dm A) {v one two : Int32} (h : goB A v one two = true) : ∃ p, p < nv A 3 ∧ v = nI p ∧ clN A one = true ∧ clN A two = true := by
  unfold goB at h
  rw [Bool.and_eq_true, Bool.and_eq_true] at h
  obtain ⟨a, b, c⟩ := h
  have k3 := hA.2.2.2.2.2.2.2
  obtain ⟨j, j1, j2⟩ := inR_true a (by omega)
  exact ⟨j, j1, j2, b, c⟩
theorem i_nn (v : Int32) : (∃ i, i < 2 ^ 31 ∧ v = nI i ∧ 0 ≤ v) ∨ ¬ 0 ≤ v := by
  by_cases h : 0 ≤ v
  · left
    rcases inR_c v 0 with ⟨j, j1, -⟩ | ⟨j1, -⟩ | ⟨j, -, j2, j3, -⟩
    · omega
    · exact absurd j1 (Int32.not_lt.mpr h)
    · exact ⟨j, j2, j3, h⟩
  · exact Or.inr h
theorem q_soonest (h : QS X A ag g) (hag : ag + 1 < 2 ^ 30) (v one two : Int32) : QA X A ag g (f_X11_soonest 0 v one two g) (fun g => f_X12_soonest 136 v one two g) := by
  obtain ⟨h1, h2, h3, h4, h5⟩ := id h
  have hA := h1.2.2.1
  cases hgo : goB A v one two with
  | false =>
    refine QA.of (v := -2) (g1 := g) (g2 := sI g 136 0 0) (K := [0]) (S := []) ?_ (Qf.rf h1.1) h ?_ tF0 (by decide) (by decide) (Nat.le_refl _) (by omega)
    · rw [f_X11_soonest, c_isGoal h3 hA h1.1, hgo, bd_eq, ibF]
    · show f_X12_soonest 136 v one two g = _
      rw [f_X12_soonest, lg, f_X12_comes, r_isGoalTold h1.t0, hgo, bd_eq, ibF, bd_eq]
  | true =>
    obtain ⟨p, hp, rfl, c1, c2⟩ := goB_true hA hgo
    obtain ⟨g1, ag', n, q, pa, la, dp, e1, e2, e3, e4, e5, e6⟩ := c_graphOf h hp hag
    obtain ⟨B1, B2, B3, B4, B5, B6, B7⟩ := id e3.2.2.2.2.1
    have hs1 := e3.1.1
    have hq : ∀ i, i < n → q i < 1296 := fun i hi => stB_lt hA (B4 i hi)
    have sp := sp_10 hA h1.2.2.2.1 hp
    obtain ⟨g2, d1, d2, -, -⟩ := r_comes (ch := 0) e3.1.t0 hp (by decide) c1 c2
    have d1' : f_X12_comes 136 (nI p) one two 0 (sI g1 136 0 0) = _ := d1
    have cv : bd (f_X4_find 2 one two g1) (fun v11 g12 => bd (f_X4_depthOf 2 v11 g12) (fun v15 g16 => some (v15, g16))) = some (toF (LSf A (fre A p) p (md A p) 0 one two (36 * tw A (2 * p) + tw A (2 * p + 1))) 0, g1) := by
      rw [← B5]
      rcases c_find (Or.inl rfl) hs1 B2 B7 hq one two with ⟨e, f1, f2, f3, f4⟩ | ⟨f1, f2⟩
      · have dl := B1.dp_le e f1
        rw [f4, bd_eq, c_depthOf (Or.inl rfl) hs1 B2 B7 f1, bd_eq, soon_found hA sp B1 B4 B7 f1 (by omega) f2 f3]
        unfold toF
        rw [if_neg (by omega), if_pos rfl]
      · rw [f2, bd_eq, c_depth1, bd_eq, soon_none hA sp B1 B4 f1]
        rfl
    refine QA.of (v := toF (LSf A (fre A p) p (md A p) 0 one two (36 * tw A (2 * p) + tw A (2 * p + 1))) 0) (g1 := g1) (g2 := g2) (K := [0, 17, 18]) (S := S7) ?_ e2 (e3.s hp e4) ?_ ((tF0.mono (by decide) (by decide)).tr (d2.mono (by decide) (by decide))) (by decide) (by decide) e5 (by omega)
    · rw [f_X11_soonest, c_isGoal h3 hA h1.1, hgo, bd_eq, ibT, e1, bd_eq, gk2 hs1, cv]
    · show f_X12_soonest 136 (nI p) one two g1 = _
      rw [f_X12_soonest, lg, d1', bd_eq]
theorem r_comesBy (h : RS A g) (hp : p < nv A 3) {ch : Nat} (hch : ch < 2) (h1 : clN A one = true) (h2 : clN A two = true) {i : Nat} (hi : i < 2 ^ 31) : ∃ g', f_X12_comesBy 136 (nI p) one two (nI i) (nI ch) g = bd (f_X12_leadAt 136 (nI p) (nI i) (nI ch) g') (fun v15 g16 => some (v15, g16)) ∧ Fm [17, 18] S7 g g' ∧ RS A g' ∧ TH A p 1296 g' ∧ SV g' (LSf A (fre A p) p (md A p) ch one two) := by
  have k3 := h.k3
  obtain ⟨g1, e1, e2, e3⟩ := r_laysStands h hp
  have hr1 := h.fm e2 (by decide)
  obtain ⟨g2, d1, d2, d3⟩ := r_laysStill hr1 hp hch e3 one two
  have x2 : Fm [17, 18] [147] g1 g2 := Fm.of d2 (by decide)
  have gt : goB A (nI p) one two = true := by
    unfold goB
    rw [h1, h2, inR_nI (by omega), decide_eq_true hp]
    rfl
  refine ⟨g2, ?_, (e2.mono (by decide) (by decide)).tr (x2.mono (by decide) (by decide)), hr1.fm x2 (by decide), e3.fm x2 (by decide) (by decide) (by decide), d3⟩
  rw [f_X12_comesBy, r_isGoalTold h, gt, bd_eq, ibT, if_pos (Int32.not_lt.mp (nI_pos hi)), e1, bd_eq, d1, bd_eq]
theorem q_way (h : QS X A ag g) (hag : ag + 1 < 2 ^ 30) (v one two k : Int32) : QA X A ag g (f_X11_way 0 v one two k g) (fun g => f_X12_way 136 v one two k g) := by
  obtain ⟨h1, h2, h3, h4, h5⟩ := id h
  have hA := h1.2.2.1
  cases hgo : goB A v one two with
  | false =>
    refine QA.of (v := -2) (g1 := g) (g2 := sI g 136 0 0) (K := [0]) (S := []) ?_ (Qf.rf h1.1) h ?_ tF0 (by decide) (by decide) (Nat.le_refl _) (by omega)
    · rw [f_X11_way, c_isGoal h3 hA h1.1, hgo, bd_eq, ibF]
    · show f_X12_way 136 v one two k g = _
      rw [f_X12_way, lg, f_X12_comesBy, r_isGoalTold h1.t0, hgo, bd_eq, ibF, bd_eq]
  | true =>
    rcases i_nn k with ⟨i, hi, rfl, ki⟩ | kn
    · obtain ⟨p, hp, rfl, c1, c2⟩ := goB_true hA hgo
      obtain ⟨g1, ag', n, q, pa, la, dp, e1, e2, e3, e4, e5, e6⟩ := c_graphOf h hp hag
      obtain ⟨B1, B2, B3, B4, B5, B6, B7⟩ := id e3.2.2.2.2.1
      have hs1 := e3.1.1
      have hq : ∀ i, i < n → q i < 1296 := fun i hi => stB_lt hA (B4 i hi)
      have sp := sp_10 hA h1.2.2.2.1 hp
      obtain ⟨g2, d1, d2, d3, d4, d5⟩ := r_comesBy (ch := 0) e3.1.t0 hp (by decide) c1 c2 hi
      have d1' : f_X12_comesBy 136 (nI p) one two (nI i) 0 (sI g1 136 0 0) = _ := d1
      have cv : ∃ v, bd (f_X4_find 2 one two g1) (fun v12 g13 => bd (f_X4_leadAt 2 v12 (nI i) g13) (fun v16 g17 => bd (f_X11_told v16 g17) (fun v20 g21 => some (v20, g21)))) = some (v, g1) ∧ f_X12_leadAt 136 (nI p) (nI i) (nI 0) g2 = some (v, g2) := by
        rcases c_find (Or.inl rfl) hs1 B2 B7 hq one two with ⟨e, f1, f2, f3, f4⟩ | ⟨f1, f2⟩
        · have dl := B1.dp_le e f1
          obtain ⟨s1, s2⟩ := soon_seq hA sp B1 B4 B7 f1 (by omega) f2 f3
          refine ⟨_, ?_, r_leadAt d3 hp d4 d5 (by decide) s1 (by omega) (by
            show q (anc pa e (dp e - 0)) = _
            rw [Nat.sub_zero, s2, B5]) hi⟩
          rw [f4, bd_eq, c_leadAt (Or.inl rfl) hs1 B1 B2 B7 f1 hi, bd_eq]
          by_cases w : i < dp e
          · rw [if_pos w, if_pos w, c_told (s1.1 i w).2.2.2.1, bd_eq]
          · rw [if_neg w, if_neg w, c_told1, bd_eq]
        · refine ⟨-1, ?_, r_leadF d3 hp d5 (by rw [← B5]; exact soon_none hA sp B1 B4 f1) _ _⟩
          rw [f2, bd_eq, c_leadN hi, bd_eq, c_told1, bd_eq]
      obtain ⟨v, v1, v2⟩ := cv
      refine QA.of (v := v) (g1 := g1) (g2 := g2) (K := [0, 17, 18]) (S := S7) ?_ e2 (e3.s hp e4) ?_ ((tF0.mono (by decide) (by decide)).tr (d2.mono (by decide) (by decide))) (by decide) (by decide) e5 (by omega)
      · rw [f_X11_way, c_isGoal h3 hA h1.1, hgo, bd_eq, ibT, if_pos ki, e1, bd_eq, gk2 hs1, v1]
      · show f_X12_way 136 (nI p) one two (nI i) g1 = _
        rw [f_X12_way, lg, d1', v2, bd_eq, bd_eq]
    · refine QA.of (v := -3) (g1 := g) (g2 := sI g 136 0 0) (K := [0]) (S := []) ?_ (Qf.rf h1.1) h ?_ tF0 (by decide) (by decide) (Nat.le_refl _) (by omega)
      · rw [f_X11_way, c_isGoal h3 hA h1.1, hgo, bd_eq, ibT, if_neg kn]
      · show f_X12_way 136 v one two k g = _
        rw [f_X12_way, lg, f_X12_comesBy, r_isGoalTold h1.t0, hgo, bd_eq, ibT, if_neg kn, bd_eq]
theorem c_prepareCheap (h : GH X A p g n q pa la dp) (hI : SI ag g) (hp : p < nv A 3) (hag : ag + 1 < 2 ^ 30) : ∃ g' ag' len ord, f_X11_prepareCheap 0 (nI p) g = some ((), g') ∧ Qf g g' ∧ GH X A p g' n q pa la dp ∧ SI ag' g' ∧ ag ≤ ag' ∧ ag' ≤ ag + 1 ∧ DF (nxI (nxS A (fre A p) p (md A p)) q n) (wtI A (fre A p) p (md A p) q n) n len ord ∧ CHr (nxI (nxS A (fre A p) p (md A p)) q n) (wtI A (fre A p) p (md A p) q n) g' n len ord := by
  obtain ⟨h1, h2, h3, h4, C1, C2, C3⟩ := id h
  have hs := h1.1
  rw [f_X11_prepareCheap, md0_11 hs, gk16 hs]
  rcases C2 with z | ⟨z, len, ord, D1, D2⟩
  · have hE : EV X A p := ⟨h2, h1.2.2.1, h1.2.2.2.1, h1.2.2.2.2, hp⟩
    obtain ⟨g1, a1, a2, a3, a4⟩ := c_aim h3 hE hs hI hag (by decide)
    have hs1 := a3.1.1
    have H1 := h.fq a2 hs1 (by decide)
    obtain ⟨B1, B2, B3, B4, B5, B6, B7⟩ := id H1.2.2.2.2.1
    obtain ⟨g2, len, ord, b1, b2, b3, b4, b5, b6⟩ := c_explore hE a3 B1 B2 B3 B4 B7
    have hs2 := b3.1.1
    rw [if_pos z, md0_7 hs, md0_4 hs, gk68 hs, gk47 hs, a1, bd_eq, md0_11 hs1, md0_8 hs1, md0_7 hs1, gk16 hs1, gk2 hs1, gk68 hs1, b1, bd_eq]
    refine ⟨g2, ag + 1, len, ord, rfl, (Qf.fq a2 hs1 (by decide)).tr (Qf.fi b2 hs1 (by decide)), ⟨H1.1.fi b2 (by decide), h2, H1.2.2.1.fa b2.a (h2.no (by decide)) (by decide), ?_, H1.2.2.2.2.1.cg (fun k hk => b2.I (by simp [Sc]; omega)), Or.inr ⟨b6, len, ord, b4, b5⟩, ?_⟩, ?_, by omega, Nat.le_refl _, b4, b5⟩
    · rw [b2.I (by decide)]
      exact H1.2.2.2.1
    · rw [b2.I (by decide)]
      exact H1.2.2.2.2.2.2.imp id (fun u => u.cg (fun k k1 k2 => b2.I (by simp [Sc]; omega)))
    · obtain ⟨-, R, W, r1, r2, r3, r4, r5⟩ := a4
      refine ⟨b3.2.1, R, W, r1, r2, ?_, ?_, ?_⟩
      · rw [b2.I (by decide)]
        exact r3
      · rw [b2.I (by decide)]
        exact r4
      · rw [b2.L (by decide)]
        exact r5
  · rw [if_neg (by rw [z]; decide)]
    exact ⟨g, ag, len, ord, rfl, Qf.rf hs, h, hI, Nat.le_refl _, by omega, D1, D2⟩
theorem q_cheapest (h : QS X A ag g) (hag : ag + 2 < 2 ^ 30) (v one two : Int32) : QA X A ag g (f_X11_cheapest 0 v one two g) (fun g => f_X12_cheapest 136 v one two g) := by
  obtain ⟨h1, h2, h3, h4, h5⟩ := id h
  have hA := h1.2.2.1
  cases hgo : goB A v one two with
  | false =>
    refine QA.of (v := -2) (g1 := g) (g2 := sI g 136 0 0) (K := [0]) (S := []) ?_ (Qf.rf h1.1) h ?_ tF0 (by decide) (by decide) (Nat.le_refl _) (by omega)
    · rw [f_X11_cheapest, c_isGoal h3 hA h1.1, hgo, bd_eq, ibF]
    · show f_X12_cheapest 136 v one two g = _
      rw [f_X12_cheapest, lg, f_X12_comes, r_isGoalTold h1.t0, hgo, bd_eq, ibF, bd_eq]
  | true =>
    obtain ⟨p, hp, rfl, c1, c2⟩ := goB_true hA hgo
    obtain ⟨g0, ag0, n, q, pa, la, dp, a1, a2, a3, a4, a5, a6⟩ := c_graphOf h hp (by omega)
    obtain ⟨g1, ag', len, ord, e1, e2, e3, e4, e5, e6, D1, D2⟩ := c_prepareCheap a3 a4 hp (by omega)
    obtain ⟨B1, B2, B3, B4, B5, B6, B7⟩ := id e3.2.2.2.2.1
    have hs1 := e3.1.1
    have sp := sp_10 hA h1.2.2.2.1 hp
    obtain ⟨g2, d1, d2, -, -⟩ := r_comes (ch := 1) e3.1.t0 hp (by decide) c1 c2
    have d1' : f_X12_comes 136 (nI p) one two 1 (sI g1 136 0 0) = _ := d1
    refine QA.of (v := toF ((LSf A (fre A p) p (md A p) 1 one two) (36 * tw A (2 * p) + tw A (2 * p + 1))) 1) (g1 := g1) (g2 := g2) (K := [0, 17, 18]) (S := S7) ?_ (a2.tr e2) (e3.s hp e4) ?_ ((tF0.mono (by decide) (by decide)).tr (d2.mono (by decide) (by decide))) (by decide) (by decide) (by omega) (by omega)
    · rw [f_X11_cheapest, c_isGoal h3 hA h1.1, hgo, bd_eq, ibT, a1, bd_eq, e1, bd_eq, md0_11 hs1, gk16 hs1, gk2 hs1, c_costTo hA sp B1 B4 B7 D1 hs1 B2 D2, bd_eq, B5]
      rfl
    · show f_X12_cheapest 136 (nI p) one two g1 = _
      rw [f_X12_cheapest, lg, d1', bd_eq]
theorem q_cheapWay (h : QS X A ag g) (hag : ag + 2 < 2 ^ 30) (v one two k : Int32) : QA X A ag g (f_X11_cheapWay 0 v one two k g) (fun g => f_X12_cheapWay 136 v one two k g) := by
  obtain ⟨h1, h2, h3, h4, h5⟩ := id h
  have hA := h1.2.2.1
  cases hgo : goB A v one two with
  | false =>
    refine QA.of (v := -2) (g1 := g) (g2 := sI g 136 0 0) (K := [0]) (S := []) ?_ (Qf.rf h1.1) h ?_ tF0 (by decide) (by decide) (Nat.le_refl _) (by omega)
    · rw [f_X11_cheapWay, c_isGoal h3 hA h1.1, hgo, bd_eq, ibF]
    · show f_X12_cheapWay 136 v one two k g = _
      rw [f_X12_cheapWay, lg, f_X12_comesBy, r_isGoalTold h1.t0, hgo, bd_eq, ibF, bd_eq]
  | true =>
    rcases i_nn k with ⟨i, hi, rfl, ki⟩ | kn
    · obtain ⟨p, hp, rfl, c1, c2⟩ := goB_true hA hgo
      obtain ⟨g0, ag0, n, q, pa, la, dp, a1, a2, a3, a4, a5, a6⟩ := c_graphOf h hp (by omega)
      obtain ⟨g1, ag', len, ord, e1, e2, e3, e4, e5, e6, D1, D2⟩ := c_prepareCheap a3 a4 hp (by omega)
      obtain ⟨B1, B2, B3, B4, B5, B6, B7⟩ := id e3.2.2.2.2.1
      have hs1 := e3.1.1
      have sp := sp_10 hA h1.2.2.2.1 hp
      obtain ⟨g1', l1, l2⟩ := c_leadTo hA sp B1 B4 B7 D1 hs1 B2 B3 D2 hi one two
      have e3' := e3.fi l2 (by decide)
      have e4' := e4.fa hs1 l2.a (fun k k1 k2 => by simp; omega)
      obtain ⟨g2, d1, d2, d3, d4, d5⟩ := r_comesBy (ch := 1) e3'.1.t0 hp (by decide) c1 c2 hi
      have d1' : f_X12_comesBy 136 (nI p) one two (nI i) 1 (sI g1' 136 0 0) = _ := d1
      have nst := now_st hA h1.2.2.2.1 hp
      have cv : ∃ v, bd (f_X1_leadTo 16 2 one two (nI i) g1) (fun v19 g20 => bd (f_X11_told v19 g20) (fun v23 g24 => some (v23, g24))) = some (v, g1') ∧ f_X12_leadAt 136 (nI p) (nI i) (nI 1) g2 = some (v, g2) := by
        rw [l1, bd_eq, B5]
        by_cases w : (LSf A (fre A p) p (md A p) 1 one two) (36 * tw A (2 * p) + tw A (2 * p + 1)) = 1073741824
        · rw [if_pos w]
          refine ⟨-1, ?_, r_leadF d3 hp d5 w _ _⟩
          rw [c_told1, bd_eq]
        · have ll := LS_le (A := A) (F := fre A p) (p := p) (m := md A p) (ch := 1) one two (36 * tw A (2 * p) + tw A (2 * p + 1))
          have sq := ch_seq (one := one) (two := two) hA sp nst (m := md A p) (by omega)
          refine ⟨_, ?_, r_leadAt d3 hp d4 d5 (by decide) sq (by omega) rfl hi⟩
          rw [if_neg w]
          by_cases y : i < (LSf A (fre A p) p (md A p) 1 one two) (36 * tw A (2 * p) + tw A (2 * p + 1)) % 10000
          · rw [if_pos y, if_pos y, c_told (sq.1 i y).2.2.2.1, bd_eq]
          · rw [if_neg y, if_neg y, c_told1, bd_eq]
      obtain ⟨v, v1, v2⟩ := cv
      refine QA.of (v := v) (g1 := g1') (g2 := g2) (K := [0, 17, 18]) (S := S7) ?_ ((a2.tr e2).tr (Qf.fi l2 hs1 (by decide))) (e3'.s hp e4') ?_ ((tF0.mono (by decide) (by decide)).tr (d2.mono (by decide) (by decide))) (by decide) (by decide) (by omega) (by omega)
      · rw [f_X11_cheapWay, c_isGoal h3 hA h1.1, hgo, bd_eq, ibT, if_pos ki, a1, bd_eq, e1, bd_eq, md0_11 hs1, gk16 hs1, gk2 hs1, v1]
      · show f_X12_cheapWay 136 (nI p) one two (nI i) g1' = _
        rw [f_X12_cheapWay, lg, d1', v2, bd_eq, bd_eq]
    · refine QA.of (v := -3) (g1 := g) (g2 := sI g 136 0 0) (K := [0]) (S := []) ?_ (Qf.rf h1.1) h ?_ tF0 (by decide) (by decide) (Nat.le_refl _) (by omega)
      · rw [f_X11_cheapWay, c_isGoal h3 hA h1.1, hgo, bd_eq, ibT, if_neg kn]
      · show f_X12_cheapWay 136 v one two k g = _
        rw [f_X12_cheapWay, lg, f_X12_comesBy, r_isGoalTold h1.t0, hgo, bd_eq, ibT, if_neg kn, bd_eq]
end QWY
