/-! TRIED answered alike. -/
section TRY7
variable {X : Nat → Prop} {A : Nat → Int32} {g g' : G} {p t n ag : Nat} {f : Nat → Nat}
theorem TN.qf (h : TN g t n f) (ht : t < 4) (x : Qf g g') : TN g' t n f := by
  obtain ⟨h1, h2, h3, h4, h5⟩ := h
  have a1 : gI g' (128 + 2 * t) = gI g (128 + 2 * t) := x.1.I (by
    obtain rfl | rfl | rfl | rfl : t = 0 ∨ t = 1 ∨ t = 2 ∨ t = 3 := by omega
    all_goals decide)
  have a2 : gL g' (129 + 2 * t) = gL g (129 + 2 * t) := x.1.L (by
    obtain rfl | rfl | rfl | rfl : t = 0 ∨ t = 1 ∨ t = 2 ∨ t = 3 := by omega
    all_goals decide)
  unfold TN
  rw [a1, a2, x.1.I (a := 153) (by decide), x.1.L (a := 154) (by decide)]
  exact ⟨h1, h2, h3, h4, h5⟩
theorem QS.stp (h : QS X A ag g) (x : Fi [69, 71, 72, 75] g g') (hM : MI ag g') : QS X A ag g' := by
  obtain ⟨h1, h2, h3, h4, h5⟩ := h
  refine ⟨h1.fi x (by decide), h2, h3.fa x.a (h2.no (by decide)) (by decide), ?_, ?_⟩
  · obtain ⟨-, R, W, r1, r2, r3, r4, r5⟩ := h4
    refine ⟨hM, R, W, r1, r2, ?_, ?_, ?_⟩
    · rw [x.I (by decide)]
      exact r3
    · rw [x.I (by decide)]
      exact r4
    · rw [x.L (by decide)]
      exact r5
  · unfold Ca
    rw [x.I (by decide)]
    refine h5.imp id (fun ⟨p, n, q, pa, la, dp, a, b, c⟩ => ⟨p, n, q, pa, la, dp, a, b, c.cg (fun a ha => x.I ?_)⟩)
    have t : CL.all (fun a => decide (a ∉ [69, 71, 72, 75])) = true := by decide
    exact of_decide_eq_true (List.all_eq_true.mp t a ha)
theorem c_cellsTried (h : QS X A ag g) (hp : p < nv A 3) (hag : ag + 1 < 2 ^ 30) (ht : t < 4) (hN : TN g t n f) : ∃ r g', f_X11_cellsTried 0 (nI t) (nI p) g = some (r, g') ∧ Qf g g' ∧ QS X A (ag + 1) g' ∧ SP X A (fre A p) p (md A p) (ag + 1) g' ∧ ∀ c, c < 64 → bt r c = (decide (c < cS A) && (fun c => rdB A p (tw A (2 * p)) c && (tgo A (fre A p) p (md A p) f (tw A (2 * p), c) n).isSome) c) := by
  obtain ⟨h1, h2, h3, h4, h5⟩ := id h
  have hA := h1.2.2.1
  have hBd := h1.2.2.2.1
  have k3 := h1.k3
  have cl := h1.cl
  have hs := h1.1
  have hE : EV X A p := ⟨h2, hA, hBd, h1.2.2.2.2, hp⟩
  obtain ⟨g1, a1, a2, a3, a4⟩ := h.aim hp hag
  have hs1 := a3.1.1
  have s10 := sp_10 hA hBd hp
  have ta := (hBd.t (i := 2 * p) (by omega)).2.1
  have tb := (hBd.t (i := 2 * p + 1) (by omega)).2.1
  obtain ⟨k1, k2⟩ := @pk_pack (tw A (2 * p)) (tw A (2 * p + 1)) (by omega)
  obtain ⟨m1, m2, m3, m4, m5⟩ := hN.qf ht a2
  have hT : ∀ c, c < 64 → bt (gL g1 68 0 &&& gL g1 70 (sp A p * 36 + tw A (2 * p))) c = (decide (c < cS A) && rdB A p (tw A (2 * p)) c) := fun d hd => by
    rw [bt_and, a4.1.2.2.1 d hd, a4.1.2.2.2.2.2.2 _ _ _ s10 (by omega) hd]
    unfold rdB
    rw [Bool.eq_iff_iff, Bool.and_eq_true, Bool.and_eq_true, Bool.and_eq_true, Bool.and_eq_true, decide_eq_true_eq, decide_eq_true_eq, decide_eq_true_eq]
    exact ⟨fun ⟨⟨x, y⟩, z⟩ => ⟨x, y, z.2.2⟩, fun ⟨x, y, z⟩ => ⟨⟨x, y⟩, ta, x, z⟩⟩
  obtain ⟨r, g2, b1, b2, b3, b4⟩ := c_ct57 (f := f) hE ht m2 hT FU 0 0 g1 a4 m3 (fun k hk => ⟨(m5 k hk).1, (m5 k hk).2.1, (m5 k hk).2.2.1⟩) (fun c hc => by rw [bt_0]; rfl) (by decide) (by have := @FU_gt 36 (by decide); omega)
  have b1' : f_X11_cellsTried_57 FU 0 (nI t) (nI (64 * tw A (2 * p) + tw A (2 * p + 1))) (gL g1 68 0 &&& gL g1 70 (sp A p * 36 + tw A (2 * p))) 0 0 g1 = some (r, g2) := b1
  refine ⟨r, g2, ?_, a2.tr (Qf.fi b2 hs1 (by decide)), a3.stp b2 b3.2.1, b3, fun c hc => ?_⟩
  · rw [f_X11_cellsTried, md0_4 hs, gk47 hs, c_standOf h3 hA hp, bd_eq, md0_7 hs, md0_4 hs, gk68 hs, gk47 hs, a1, bd_eq, md0_7 hs1, gk68 hs1, md0_4 hs1, gk47 hs1, md47_3 hs1, gk49 hs1, sn49 hs1, gdI_nI (by omega) (by decide), nI_clamp (by omega), show gI g1 49 p = nI (sp A p) from a3.2.2.1.2.2.2.2.1 p hp, ldi64 (by omega), k1, c_ring hs1 s10 (by omega), bd_eq, ll, b1']
  · rw [b4 c hc, hT c hc]
    dsimp only
    by_cases z : c < cS A
    · rw [decide_eq_true z, decide_eq_true (show c < 36 by omega), Bool.true_and, Bool.true_and, Bool.true_and]
    · rw [decide_eq_false z, Bool.false_and, Bool.false_and, Bool.false_and, Bool.and_false]
theorem q_tried (h : QS X A ag g) (hag : ag + 2 < 2 ^ 30) (hT : TR g) (v w : Int32) : QA X A ag g (f_X11_tried 0 v w g) (fun g => f_X12_tried 136 v w g) := by
  obtain ⟨h1, h2, h3, h4, h5⟩ := id h
  have cl := h1.cl
  obtain ⟨z, z1, z2, z3⟩ := tries h1 h3 hT v w
  have r0 : ∀ g', Qf g g' → QS X A ag g' ∨ QS X A (ag + 1) g' → f_X12_noTried 136 v w (sI g' 136 0 0) = some (z, sI g' 136 0 0) := fun g' x hq => by
    have hr : RS A g' := hq.elim (fun u => u.1) (fun u => u.1)
    exact z2 _ hr.t0 (by rw [gI_sIn (by decide)]; exact x.1.I (by decide)) (by rw [gI_sIn (by decide)]; exact x.1.I (by decide)) (by rw [gL_sI]; exact x.1.L (by decide))
  by_cases e : z = 0
  · obtain ⟨t, p, n, f, ht, rfl, hp, rfl, hN⟩ := z3 e
    obtain ⟨r, g1, c1, c2, c3, c4, c5⟩ := c_cellsTried h hp (by omega) ht hN
    obtain ⟨m1, m2, m3, m4, m5⟩ := hN.qf ht c2
    have x0 : Fm [0] [] g1 (sI g1 136 0 0) := tF0
    obtain ⟨r', g2, d1, d2, d3⟩ := r_ts5 (f := f) hp ht m2 FU 0 0 (sI g1 136 0 0) c3.1.t0 (by rw [x0.I (by decide)]; exact m4) (fun k hk => by
      rw [x0.L (by decide)]
      exact ⟨(m5 k hk).1, (m5 k hk).2.1, (m5 k hk).2.2.2⟩) (fun c hc => by rw [bt_0]; rfl) (Nat.zero_le _) (by have := @FU_gt (cS A) (by omega); omega)
    have d1' : f_X12_triedSet_5 FU 136 (nI t) (nI p) 0 0 (sI g1 136 0 0) = some (r', g2) := d1
    have em : r = r' := bt_ext (fun c hc => (c5 c hc).trans (d3 c hc).symm)
    refine QA.of (v := r) (g1 := g1) (g2 := g2) (K := [0, 17, 18, 31, 32]) (S := [141, 142]) ?_ c2 c3 ?_ ((tF0.mono (by decide) (by decide)).tr (d2.mono (by decide) (by decide))) (by decide) (by decide) (by omega) (by omega)
    · rw [f_X11_tried, z1, bd_eq, if_pos e, c1, bd_eq]
    · show f_X12_tried 136 (nI t) (nI p) g1 = _
      rw [f_X12_tried, lg, r0 g1 c2 (Or.inr c3), bd_eq, if_pos e, f_X12_triedSet, d1', bd_eq, em]
  · refine QA.of (v := z.toInt64) (g1 := g) (g2 := sI g 136 0 0) (K := [0]) (S := []) ?_ (Qf.rf h1.1) h ?_ tF0 (by decide) (by decide) (Nat.le_refl _) (by omega)
    · rw [f_X11_tried, z1, bd_eq, if_neg e]
    · show f_X12_tried 136 v w g = _
      rw [f_X12_tried, lg, r0 g (Qf.rf h1.1) (Or.inl h), bd_eq, if_neg e]
end TRY7
