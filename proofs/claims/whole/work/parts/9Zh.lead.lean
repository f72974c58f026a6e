/-! LEAD answered alike. -/
section LDA
variable {X : Nat → Prop} {A A1 A2 : Nat → Int32} {g g' g1 g3 g5 : G} {a b p n el ag ag' x y d t w : Nat} {S K : List Nat}
theorem upd_id {B : Nat → Int32} {k : Nat} {v : Int32} (h : B k = v) : upd B k v = B := by
  funext j
  by_cases e : j = k
  · rw [e, pk_us, h]
  · rw [pk_un e]
theorem upd_sw {B : Nat → Int32} {k l : Nat} {v z : Int32} (h : k ≠ l) : upd (upd B k v) l z = upd (upd B l z) k v := by
  funext j
  by_cases e : j = l
  · rw [e, pk_us, pk_un (fun u => h u.symm), pk_us]
  · rw [pk_un e]
    by_cases f : j = k
    · rw [f, pk_us, pk_us]
    · rw [pk_un f, pk_un f, pk_un e]
theorem pA_updL (hp : p < 3) (hs : A (94 + p) = nI (apS (nv A 2) x y)) : upd (upd (upd A (88 + 2 * p) (nI x)) (88 + 2 * p + 1) (nI y)) (100 + p) (nI (dnw A p x y d)) = pA A p x y d := by
  rw [← pA_upd hp]
  have e : upd (upd (upd A (88 + 2 * p) (nI x)) (88 + 2 * p + 1) (nI y)) (94 + p) (nI (apS (nv A 2) x y)) = upd (upd A (88 + 2 * p) (nI x)) (88 + 2 * p + 1) (nI y) := upd_id (by rw [pk_un (by omega), pk_un (by omega), hs])
  rw [e]
theorem lS_xy (h : RS A g) (hp : p < nv A 3) (ht : t < 2) (h0 : (lS A p t w).1 = 0) : (ow t (lS A p t w).2.1 (lS A p t w).2.2) < cS A ∧ (ow t (lS A p t w).2.2 (lS A p t w).2.1) < cS A ∧ fre A p (ow t (lS A p t w).2.1 (lS A p t w).2.2) = true ∧ fre A p (ow t (lS A p t w).2.2 (lS A p t w).2.1) = true ∧ apS (nv A 2) (ow t (lS A p t w).2.1 (lS A p t w).2.2) (ow t (lS A p t w).2.2 (lS A p t w).2.1) = sp A p := by
  obtain ⟨s1, s2, s3, s4, s5⟩ := lS_ok h hp ht h0
  obtain rfl | rfl : t = 0 ∨ t = 1 := by omega
  · exact ⟨s1, s2, s3, s4, s5⟩
  · exact ⟨s2, s1, s4, s3, by rw [apS_comm]; exact s5⟩
theorem r_leads (h : RS A g) (hp : p < nv A 3) (ht : t < 2) (h0 : (lS A p t w).1 = 0) (e17 : gI g 136 17 = nI (lS A p t w).2.1) (e18 : gI g 136 18 = nI (lS A p t w).2.2) : ∃ g', f_X12_leads 136 (nI p) (nI t) g = some ((), g') ∧ Fm [20] [137] g g' ∧ gI g' 137 = pA A p (ow t (lS A p t w).2.1 (lS A p t w).2.2) (ow t (lS A p t w).2.2 (lS A p t w).2.1) (dn A p) ∧ gI g' 136 20 = gI g 136 20 + ((1 : Int32) + nI (apS (nv A 2) (tw A (2 * p + (1 - t))) (lS A p t w).2.2)) := by
  have k3 := h.k3
  have cl := h.cl
  have hs := h.1
  have hB := h.2.2.2.1
  obtain ⟨s1, s2, s3, s4, s5⟩ := lS_ok h hp ht h0
  obtain ⟨x1, x2, x3, x4, x5⟩ := lS_xy h hp ht h0
  have tb := h.tw (p := p) (t := 1 - t) hp (by omega)
  obtain ⟨v, hv⟩ : ∃ v, v = gI g 136 20 + ((1 : Int32) + nI (apS (nv A 2) (tw A (2 * p + (1 - t))) (lS A p t w).2.2)) := ⟨_, rfl⟩
  obtain ⟨ga, hga⟩ : ∃ ga, ga = sI g 136 20 v := ⟨_, rfl⟩
  have ya : Fm [20] [137] g ga := by
    rw [hga]
    exact Fm.rf.sf (by decide)
  have hsa := hs.fm ya
  have a17 : gI ga 136 17 = nI (lS A p t w).2.1 := by
    rw [ya.2 17 (by decide)]
    exact e17
  have a18 : gI ga 136 18 = nI (lS A p t w).2.2 := by
    rw [ya.2 18 (by decide)]
    exact e18
  obtain ⟨gb, hgb⟩ : ∃ gb, gb = sI (sI ga 137 (88 + 2 * p + t) (nI (lS A p t w).2.1)) 137 (88 + 2 * p + 1 - t) (nI (lS A p t w).2.2) := ⟨_, rfl⟩
  have yb : Fi [137] ga gb := by
    rw [hgb]
    exact (Fi.rf.si (by decide)).si (by decide)
  have rowa : gI ga 137 = A := by
    rw [hga, gI_sIn (by decide)]
    exact h.2.1
  have rowb : gI gb 137 = upd (upd A (88 + 2 * p) (nI (ow t (lS A p t w).2.1 (lS A p t w).2.2))) (88 + 2 * p + 1) (nI (ow t (lS A p t w).2.2 (lS A p t w).2.1)) := by
    rw [hgb, gI_sIs, gI_sIs, rowa]
    obtain rfl | rfl : t = 0 ∨ t = 1 := by omega
    · rfl
    · rw [show 88 + 2 * p + 1 - 1 = 88 + 2 * p by omega, upd_sw (by omega)]
      rfl
  obtain ⟨o1, o2⟩ := hB.o hp
  obtain ⟨gc, f1, f2, f3, f4⟩ := r_isDone (p := p) (x := (ow t (lS A p t w).2.1 (lS A p t w).2.2)) (y := (ow t (lS A p t w).2.2 (lS A p t w).2.1)) (d := dn A p) (Sh.fi yb hsa) (by omega) rowb (by rw [pk_un (by omega), pk_us]) (by rw [pk_us]) (by rw [pk_un (by omega), pk_un (by omega)]; exact o1) o2
  rw [dnw_cg (A := A) (by rw [pk_un (by omega), pk_un (by omega)]) (by rw [pk_un (by omega), pk_un (by omega)]), pA_updL (by omega) (by rw [x5]; exact hB.s hp)] at f4
  have yc : Fi [137] ga gc := yb.tr f2
  refine ⟨gc, ?_, ya.tr (Fm.of yc (by decide)), f4, ?_⟩
  · rw [f_X12_leads, nI_sub1 ht, R_twinOf h hp (by omega), bd_eq, e18, R_apart h (by omega) (by omega), bd_eq, ← hv, lg, ← hga, md136_1 hsa, gk137 hsa, sn137 hsa, nI2, show (88 : Int32) = nI 88 from rfl, nI_add, nI_add, gdI_nI (by omega) (by decide), nI_clamp (show 88 + 2 * p + t < 2 ^ 31 by omega), a17, lg, lad1, pk_sub (by omega), gN_sI, sn137 hsa, gdI_nI (by omega) (by decide), nI_clamp (show 88 + 2 * p + 1 - t < 2 ^ 31 by omega), gI_sIn (by decide), a18, lg, ← hgb, f1, bd_eq]
  · rw [yc.I (by decide), hga, gI_sIs, pk_us, hv]
theorem QS.cst (h : QS X A ag g) (x : Fi [69, 73, 74, 75] g g') (hM : MI ag g') : QS X A ag g' ∧ Qf g g' := by
  obtain ⟨h1, h2, h3, h4, h5⟩ := h
  refine ⟨⟨h1.fi x (by decide), h2, h3.fa x.a (h2.no (by decide)) (by decide), ?_, ?_⟩, Qf.fi x h1.1 (by decide)⟩
  · obtain ⟨-, R, W, r1, r2, r3, r4, r5⟩ := h4
    refine ⟨hM, R, W, r1, r2, ?_, ?_, ?_⟩
    · rw [x.I (by decide)]
      exact r3
    · rw [x.I (by decide)]
      exact r4
    · rw [x.L (by decide)]
      exact r5
  · unfold Ca
    rw [x.I (by decide)]
    refine h5.imp id (fun ⟨p, n, q, pa, la, dp, a, b, c⟩ => ⟨p, n, q, pa, la, dp, a, b, c.cg (fun a ha => x.I ?_)⟩)
    have t : CL.all (fun a => decide (a ∉ [69, 73, 74, 75])) = true := by decide
    exact of_decide_eq_true (List.all_eq_true.mp t a ha)
theorem q_lead (h : Inv X A ag g) (hag : ag + 1 < 2 ^ 30) (u v z : Int32) : CA ag g (f_X11_lead 0 u v z g) (fun g => f_X12_lead 136 u v z g) := by
  obtain ⟨h1, h2, h3, h4, h5⟩ := id h.1
  have hs := h1.1
  have hA := h1.2.2.1
  have hB := h1.2.2.2.1
  have hL := h1.2.2.2.2
  have cl := h1.cl
  have k3 := h1.k3
  have hW : WF A := ⟨hA, hB, hL, h.2.2.2.2.2.2.2⟩
  obtain ⟨r, g1, ag', a1, a2, a3, a4, a5, a6, a7, a8⟩ := c_wouldBe h3 h2 hA hB hL hs h4 hag (by decide) u v z
  obtain ⟨Q1, Qf1⟩ := h.1.wb (r := r) a2 a3 a6 a7
  have I1 : Inv X A ag' g1 := ⟨Q1, h.2.qf h2 hs Qf1⟩
  have hs1 := a6
  rcases a8 with ⟨rfl, e⟩ | ⟨p, t, w, hp, ht, hw, rfl, rfl, rfl, rfl, sp⟩
  · refine CA.no1 (v := -11) I1 ?_ ?_ (by omega) Qf1.1.1 Qf1.1.2.1
    · rw [f_X11_lead, md0_4 hs, md0_7 hs, gk47 hs, gk68 hs, a1, bd_eq, if_neg (by decide)]
      rfl
    · show f_X12_lead 136 u v z g1 = _
      rw [f_X12_lead, lg, r_whyF Q1.1.t0 (okL_I.trans e), bd_eq, if_neg (by decide)]
      rfl
  · rcases lS_why (A := A) (p := p) (t := t) (w := w) with e | ⟨e1, e2⟩
    · obtain ⟨x1, x2, x3, x4, x5⟩ := lS_xy h1 hp ht e
      have ta := h1.tw (p := p) (t := 0) hp (by decide)
      have tb := h1.tw (p := p) (t := 1) hp (by decide)
      rw [Nat.add_zero] at ta
      have hE : EV X A p := ⟨h2, hA, hB, hL, hp⟩
      obtain ⟨g2, c1, c2, c3⟩ := c_costOf sp hE ta.1 tb.1 x1 x2
      obtain ⟨Q2, Qf2⟩ := Q1.cst c2 c3.2.1
      have I2 : Inv X A ag' g2 := ⟨Q2, I1.2.qf h2 hs1 Qf2⟩
      have hs2 := Q2.1.1
      obtain ⟨g3, b1, b2, b3, b4, b5⟩ := c_spare I2
      obtain ⟨g4, d1, d2, d3, d4⟩ := c_go b5.1.2.2.1 (fun k hk z => by have := h2 _ z; omega) hA hB hL hp x1 x2 x5
      obtain ⟨g5, n, k1, k2, k3', k4, k5, k6, k7, k8, k9, n1, n2, n3⟩ := c_deedOk I2 b5 b2 b4 (d2.mono (by decide)) d4
      have eA : ∀ j, j < 52 ∨ 103 ≤ j → pA A p (ow t (lS A p t w).2.1 (lS A p t w).2.2) (ow t (lS A p t w).2.2 (lS A p t w).2.1) (dn A p) j = A j := fun j hj => pA_n (by omega) (by omega) (by omega) (by omega)
      have hr5 : RS A g5 := ⟨k3', k9, h1.2.2⟩
      have hr0 := hr5.t0
      obtain ⟨g6, m1, m2, m3⟩ := r_whyT (p := p) (t := t) (w := w) hr0 hp ht hw
      have hr6 := hr0.fm m2 (by decide)
      obtain ⟨f17, f18⟩ := m3 e
      obtain ⟨g7, l1, l2, l3⟩ := r_keeps hr6.1
      have hr7 : RS A g7 := hr6.fi l2 (by decide)
      obtain ⟨g8, o1, o2⟩ := r_costNow (w := w) hr7 hp ht e (by rw [l2.I (by decide)]; exact f17) (by rw [l2.I (by decide)]; exact f18)
      have hr8 : RS A g8 := hr7.fi o2 (by decide)
      obtain ⟨g9, q1, q2, q3, q4⟩ := r_leads (w := w) hr8 hp ht e (by rw [o2.I (by decide), l2.I (by decide)]; exact f17) (by rw [o2.I (by decide), l2.I (by decide)]; exact f18)
      have y6 : Fm [0, 17, 18, 20] [137, 141, 142, 143] g5 g6 := (tF0.mono (by decide) (by decide)).tr (m2.mono (by decide) (by decide))
      have y7 : Fm [0, 17, 18, 20] [137, 141, 142, 143] g5 g7 := y6.tr ((Fm.of (K := [0]) l2 (by decide)).mono (by decide) (by decide))
      have y8 : Fm [0, 17, 18, 20] [137, 141, 142, 143] g5 g8 := y7.tr ((Fm.of (K := [0]) o2 (by decide)).mono (by decide) (by decide))
      have y9 : Fm [0, 17, 18, 20] [137, 141, 142, 143] g5 g9 := y8.tr (q2.mono (by decide) (by decide))
      have was : ∀ j, j < 51 → gI g9 143 j = A (52 + j) := fun j hj => by
        rw [q2.I (by decide), o2.I (by decide), l3 j hj, hr6.2.1]
      obtain ⟨g10, p1, p2, p3, p4, p5, p6⟩ := deedEnd I2 (pA_wf hW hp x1 x2 x3 x4 (hB.o hp).2) eA k2 k3' k4 k5 k6 k7 k8 n1 n2 (n3 _ eA) y9 (by decide) q3 was
      refine ⟨nI (cst A p (md A p) 0 (tw A (2 * p)) (ow t (lS A p t w).2.1 (lS A p t w).2.2) + cst A p (md A p) 1 (tw A (2 * p + 1)) (ow t (lS A p t w).2.2 (lS A p t w).2.1)), g5, g10, X, _, ag', ?_, ?_, p4, by omega, by rw [p5, Qf2.1.1, Qf1.1.1]; omega, by rw [p6, Qf2.1.2.1, Qf1.1.2.1]; omega⟩
      · rw [f_X11_lead, md0_4 hs, md0_7 hs, gk47 hs, gk68 hs, a1, bd_eq, rC_ow ht e, if_pos (Int32.not_lt.mp (nI_pos (by omega))), md0_7 hs1, md0_4 hs1, gk47 hs1, c_standOf a7 hA hp, bd_eq, gk68 hs1, c1, bd_eq, md0_5 hs2, md0_4 hs2, gk52 hs2, gk47 hs2, b1, bd_eq, md0_4 b3, gk47 b3, d1, bd_eq, k1, bd_eq]
      · show f_X12_lead 136 (nI p) (nI t) (nI w) g5 = _
        rw [f_X12_lead, lg, nI64 p (by omega), nI64 t (by omega), nI64 w (by omega), m1, bd_eq, e, if_pos (show nI 0 = 0 from rfl), l1, bd_eq, o1, bd_eq, q1, bd_eq, p1, bd_eq]
    · obtain ⟨n1, -, n3⟩ := neg_why e1 e2
      obtain ⟨g2, d1, d2, d3⟩ := r_whyT (p := p) (t := t) (w := w) Q1.1.t0 hp ht hw
      have x2 : Fm [0, 17, 18] [141, 142] g1 g2 := (tF0.mono (by decide) (by decide)).tr (d2.mono (by decide) (by decide))
      obtain ⟨Q2, Qf2⟩ := Q1.fm x2 (by decide) (by decide)
      refine ⟨-10 - nI (lS A p t w).1, g1, g2, X, A, ag', ?_, ?_, ⟨Q2, I1.2.qf h2 hs1 Qf2⟩, by omega, by rw [Qf2.1.1, Qf1.1.1]; omega, by rw [Qf2.1.2.1, Qf1.1.2.1]; omega⟩
      · rw [f_X11_lead, md0_4 hs, md0_7 hs, gk47 hs, gk68 hs, a1, bd_eq, rC_no (by omega), if_neg n1, n3]
      · show f_X12_lead 136 (nI p) (nI t) (nI w) g1 = _
        rw [f_X12_lead, lg, nI64 p (by omega), nI64 t (by omega), nI64 w (by omega), d1, bd_eq, if_neg (nI_ne0 (by omega) (by omega))]
end LDA
