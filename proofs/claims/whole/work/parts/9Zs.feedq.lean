/-! FEED answered alike. -/
section FDQ
variable {X : Nat → Prop} {A : Nat → Int32} {g g' g1 : G} {ag n : Nat}
theorem FW.cg {k : Nat} {y z : Nat → Int32} (h : FW g g' n k y) (e : ∀ i, i < k → z i = y i) : FW g g' n k z := ⟨h.1, h.2.1, h.2.2.1, h.2.2.2.1, fun i hi => by rw [h.2.2.2.2 i hi, e i hi]⟩
theorem q_feed (h : Inv X A ag g) (a b c d e : Int32) : CA ag g (f_X11_feed 0 a b c d e g) (fun g => f_X12_feed 136 a b c d e g) := by
  obtain ⟨⟨h1, h2, h3, h4, h5⟩, t1, ⟨n, u1, u2, u3, u4⟩, t3, t4, t5, t6, t7⟩ := id h
  have hs := h1.1
  have le : ((nI n + (20 : Int32)) ≤ (900 : Int32)) ↔ n + 20 ≤ 900 := by
    rw [show (20 : Int32) = nI 20 from rfl, nI_add, show (900 : Int32) = nI 900 from rfl, nI_leI (by omega) (by decide)]
  by_cases z : n + 20 ≤ 900
  · obtain ⟨f, hf⟩ : ∃ f : Nat → Int32, f = fun i => if i = 0 then a else if i = 1 then b else if i = 2 then c else if i = 3 then d else e := ⟨_, rfl⟩
    have w : ∀ i m (x : Int32), f m = x → i < 4 → yW f (4 * m + i) = x >>> (nI (24 - 8 * (i % 4)) &&& 31) := fun i m x hx hi => by
      unfold yW
      rw [show (4 * m + i) / 4 = m by omega, show (4 * m + i) % 4 = i % 4 by omega, hx]
    obtain ⟨ga, a1, a2⟩ := c_feedWord hs (by omega) u2 a
    have b2 : FW g ga n 4 (yW f) := a2.cg (fun i hi => by
      have := w i 0 a (by rw [hf]; rfl) hi
      rw [Nat.mul_zero, Nat.zero_add] at this
      exact this)
    have sa := Sh.fi b2.1 hs
    obtain ⟨gb, c1, c2⟩ := c_feedWord sa (by omega) b2.2.1 b
    have d2 : FW g gb n 8 (yW f) := b2.tr (c2.cg (fun i hi => w i 1 b (by rw [hf]; rfl) hi))
    have sb := Sh.fi d2.1 hs
    obtain ⟨gc, e1, e2⟩ := c_feedWord sb (by omega) d2.2.1 c
    have f2 : FW g gc n 12 (yW f) := d2.tr (e2.cg (fun i hi => w i 2 c (by rw [hf]; rfl) hi))
    have sc := Sh.fi f2.1 hs
    obtain ⟨gd, i1, i2⟩ := c_feedWord sc (by omega) f2.2.1 d
    have j2 : FW g gd n 16 (yW f) := f2.tr (i2.cg (fun i hi => w i 3 d (by rw [hf]; rfl) hi))
    have sd := Sh.fi j2.1 hs
    obtain ⟨ge, k1, k2⟩ := c_feedWord sd (by omega) j2.2.1 e
    obtain ⟨l1, l2, l3, l4, l5⟩ : FW g ge n 20 (yW f) := j2.tr (k2.cg (fun i hi => w i 4 e (by rw [hf]; rfl) hi))
    have se := Sh.fi l1 hs
    have s0 : Sh (sI ge 136 0 0) := Sh.fi (S := [136]) (Fi.rf.si (by decide)) se
    have e5 : gI (sI ge 136 0 0) 136 5 = nI n := by
      rw [gI_sIs, pk_un (by decide), l1.I (by decide)]
      exact u3
    obtain ⟨g2, m1, m2, m3, m4, m5⟩ := r_fd24 (n := n) a b c d e hf z FU 0 (sI ge 136 0 0) s0 (by rw [e5]; rfl) (fun i hi => by omega) (by decide) (by have := @FU_gt 20 (by decide); omega)
    have m1' : f_X12_feed_24 FU 136 a b c d e 0 (sI ge 136 0 0) = some (nI (n + 20), g2) := m1
    have x2 : Fm [0, 5] [139] ge g2 := (tF0.mono (by decide) (by decide)).tr (m2.mono (by decide) (by decide))
    have hs2 := se.fm x2
    have y2 : Fq [0, 1, 136, 139] g g2 := (l1.q.mono (by decide)).tr (x2.1.q.mono (by decide))
    have n0 : gI g2 0 = gI ge 0 := x2.I (by decide)
    have nx : ∀ a ∈ [0, 1, 136, 139], ¬ X a := h2.no (by decide)
    have k136 : ∀ k, k ∉ [0, 5] → gI g2 136 k = gI g 136 k := fun k hk => by
      rw [x2.2 k hk, l1.I (by decide)]
    refine ⟨nI (n + 20), ge, g2, X, A, ag, ?_, ?_, ⟨⟨⟨hs2, (y2.I (by decide)).trans h1.2.1, h1.2.2⟩, h2, h3.fa y2.a nx (by decide), h4.fa hs y2.a (fun k k1 k2 => by simp; omega), ?_⟩, t1.fa hs y2.a (by decide), ⟨n + 20, z, by rw [n0]; exact l2, m3, fun k hk => ?_⟩, ⟨?_, ?_⟩, t4.fa hs y2.a nx (by decide), t5.fa hs y2.a nx (by decide), fun a ha => by rw [y2.1]; exact t6 a ha, t7⟩, by omega, by rw [y2.1]; omega, by rw [y2.2.1]; omega⟩
    · rw [f_X11_feed, u2, if_pos (le.mpr z), a1, bd_eq, c1, bd_eq, e1, bd_eq, i1, bd_eq, k1, bd_eq, l2]
    · show f_X12_feed 136 a b c d e ge = _
      rw [f_X12_feed, lg, e5, if_pos (le.mpr z), m1']
    · unfold Ca
      rw [n0, l3 10 (by decide)]
      refine h5.imp id (fun ⟨p, n, q, pa, la, dp, a, b, c⟩ => ⟨p, n, q, pa, la, dp, a, b, c.cg (fun a ha => y2.I ?_)⟩)
      have t : CL.all (fun a => decide (a ∉ [0, 1, 136, 139])) = true := by decide
      exact of_decide_eq_true (List.all_eq_true.mp t a ha)
    · have g1e : gI g2 1 = gI ge 1 := x2.I (by decide)
      rcases Nat.lt_or_ge k n with q | q
      · rw [m4 k q, g1e, l4 k q, gI_sIn (by decide), l1.I (by decide)]
        exact u4 k q
      · have r1 := m5 (k - n) (by omega)
        have r2 := l5 (k - n) (by omega)
        rw [show n + (k - n) = k by omega] at r1 r2
        obtain ⟨v, v1, v2, v3⟩ := by_a (yW f (k - n))
        exact ⟨v, v1, r1.trans v2, by rw [g1e]; exact r2.trans v3⟩
    · rw [n0, l3 2 (by decide), k136 13 (by decide)]
      exact t3.1
    · rw [n0, l3 3 (by decide), k136 14 (by decide)]
      exact t3.2
  · refine CA.no (v := -5) h ?_ ?_
    · rw [f_X11_feed, u2, if_neg (fun q => z (le.mp q))]
    · show f_X12_feed 136 a b c d e g = _
      rw [f_X12_feed, lg, gI_sIs, pk_un (by decide), u3, if_neg (fun q => z (le.mp q))]
end FDQ
