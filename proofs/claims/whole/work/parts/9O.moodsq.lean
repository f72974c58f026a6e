/-! MOODS answered alike. -/
section MDQ
variable {X : Nat → Prop} {A : Nat → Int32} {g g' : G} {p t n ag ag' : Nat} {f : Nat → Nat}
theorem QS.st2 (h : QS X A ag g) (x : Fi [68, 69, 71, 72, 75] g g') (hM : MI ag' g') (e5 : gI g' 68 5 = gI g 68 5) (e6 : gI g' 68 6 = gI g 68 6) : QS X A ag' g' := by
  obtain ⟨h1, h2, h3, h4, h5⟩ := h
  refine ⟨h1.fi x (by decide), h2, h3.fa x.a (h2.no (by decide)) (by decide), ?_, ?_⟩
  · obtain ⟨-, R, W, r1, r2, r3, r4, r5⟩ := h4
    refine ⟨hM, R, W, r1, r2, e5.trans r3, e6.trans r4, ?_⟩
    rw [x.L (by decide)]
    exact r5
  · unfold Ca
    rw [x.I (by decide)]
    refine h5.imp id (fun ⟨p, n, q, pa, la, dp, a, b, c⟩ => ⟨p, n, q, pa, la, dp, a, b, c.cg (fun a ha => x.I ?_)⟩)
    have t : CL.all (fun a => decide (a ∉ [68, 69, 71, 72, 75])) = true := by decide
    exact of_decide_eq_true (List.all_eq_true.mp t a ha)
theorem q_moods (h : QS X A ag g) (hag : ag + 12 < 2 ^ 30) (hT : TR g) (v w : Int32) : QA X A ag g (f_X11_moods 0 v w g) (fun g => f_X12_moods 136 v w g) := by
  obtain ⟨h1, h2, h3, h4, h5⟩ := id h
  have cl := h1.cl
  have hs := h1.1
  obtain ⟨z, z1, z2, z3⟩ := tries h1 h3 hT v w
  have r0 : ∀ g', Qf g g' → RS A g' → f_X12_noTried 136 v w (sI g' 136 0 0) = some (z, sI g' 136 0 0) := fun g' x hr => z2 _ hr.t0 (by rw [gI_sIn (by decide)]; exact x.1.I (by decide)) (by rw [gI_sIn (by decide)]; exact x.1.I (by decide)) (by rw [gL_sI]; exact x.1.L (by decide))
  by_cases e : z = 0
  · obtain ⟨t, p, n, f, ht, rfl, hp, rfl, hN⟩ := z3 e
    have k3 := h1.k3
    have hE : EV X A p := ⟨h2, h1.2.2.1, h1.2.2.2.1, h1.2.2.2.2, hp⟩
    obtain ⟨g1, a1, a2, a3, a4⟩ := h.aim hp (by omega)
    obtain ⟨m1, m2, m3, m4, m5⟩ := hN.qf ht a2
    obtain ⟨g2, m', b1, b2, b3, b4, b5⟩ := c_mo41 (f := f) (ag := ag + 1) hE ht m2 FU 0 g1 _ a4 (by omega) m3 (fun k hk => ⟨(m5 k hk).1, (m5 k hk).2.1, (m5 k hk).2.2.1⟩) (by decide) (by have := @FU_gt 10 (by decide); omega)
    have b1' : f_X11_moods_41 FU 0 (nI t) (nI (64 * tw A (2 * p) + tw A (2 * p + 1))) 0 0 g1 = some (moS (fun x => (tgo A (fre A p) p x f (tw A (2 * p), tw A (2 * p + 1)) n).isSome) 10, g2) := b1
    have q2 : QS X A (ag + 1 + 10) g2 := a3.st2 b2 b3.2.1 b4 b5
    have x2 : Qf g g2 := a2.tr (Qf.fi b2 a3.1.1 (by decide))
    obtain ⟨m1, m2, m3, m4, m5⟩ := hN.qf ht x2
    have x0 : Fm [0] [] g2 (sI g2 136 0 0) := tF0
    have hs2 := q2.1.t0.1
    have hrow : gI (sI g2 136 0 0) 137 = A := q2.1.t0.2.1
    obtain ⟨g3, d1, d2, d3, d4⟩ := r_mo35 (f := f) h1.2.2.1 h1.2.2.2.1 h1.2.2.2.2 hp ht m2 FU 0 (sI g2 136 0 0) hs2 ⟨A (97 + p), by
      rw [hrow]
      funext j
      by_cases e : j = 97 + p
      · rw [e, pk_us]
      · rw [pk_un e]⟩ (by rw [x0.I (by decide)]; exact m4) (fun k hk => by
      rw [x0.L (by decide)]
      exact ⟨(m5 k hk).1, (m5 k hk).2.1, (m5 k hk).2.2.2⟩) (by decide) (by have := @FU_gt 10 (by decide); omega)
    have d1' : f_X12_moods_35 FU 136 (nI t) (nI p) (A (97 + p)) 0 0 (sI g2 136 0 0) = some (moS (fun x => (tgo A (fre A p) p x f (tw A (2 * p), tw A (2 * p + 1)) n).isSome) 10, g3) := d1
    have x3 : Fm [0, 17, 18, 31, 32] [141, 142] g2 g3 := (tF0.mono (by decide) (by decide)).tr ((d2.d137 (d3.trans hrow.symm) d4).mono (by decide) (by decide))
    refine QA.of (v := moS (fun x => (tgo A (fre A p) p x f (tw A (2 * p), tw A (2 * p + 1)) n).isSome) 10) (g1 := g2) (g2 := g3) (K := [0, 17, 18, 31, 32]) (S := [141, 142]) ?_ x2 q2 ?_ x3 (by decide) (by decide) (by omega) (by omega)
    · rw [f_X11_moods, z1, bd_eq, if_pos e, md0_4 hs, gk47 hs, c_standOf h3 h1.2.2.1 hp, bd_eq, md0_7 hs, md0_4 hs, gk68 hs, gk47 hs, a1, bd_eq, b1']
    · show f_X12_moods 136 (nI t) (nI p) g2 = _
      rw [f_X12_moods, lg, r0 g2 x2 q2.1, bd_eq, if_pos e, md136_1 hs2, gk137 hs2, sn137 hs2, show (97 : Int32) = nI 97 from rfl, nI_add, gdI_nI (by omega) (by decide), nI_clamp (show 97 + p < 2 ^ 31 by omega), li, hrow, d1']
  · refine QA.of (v := z) (g1 := g) (g2 := sI g 136 0 0) (K := [0]) (S := []) ?_ (Qf.rf h1.1) h ?_ tF0 (by decide) (by decide) (Nat.le_refl _) (by omega)
    · rw [f_X11_moods, z1, bd_eq, if_neg e]
    · show f_X12_moods 136 v w g = _
      rw [f_X12_moods, lg, r0 g (Qf.rf h1.1) h1, bd_eq, if_neg e]
end MDQ
