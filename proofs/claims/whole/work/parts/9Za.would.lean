/-! WHO WOULD BE WHERE: class and reference; why answered alike. -/
section WLD
variable {X : Nat → Prop} {A A' : Nat → Int32} {g g' : G} {b p t w ag : Nat} {S : List Nat}
def lS (A : Nat → Int32) (p t w : Nat) : Nat × Nat × Nat := stS A (fre A p) p (md A p) t (ow t (tw A (2 * p)) (tw A (2 * p + 1))) (ow t (tw A (2 * p + 1)) (tw A (2 * p))) w
def okL (A : Nat → Int32) (u v w : Int32) : Bool := inR u (nv A 3) && (inR v 2 && inR w 4)
theorem rC_ow {r : Nat × Nat × Nat} (ht : t < 2) (h : r.1 = 0) : rC t r = nI (64 * ow t r.2.1 r.2.2 + ow t r.2.2 r.2.1) := by
  unfold rC ow
  rw [if_pos h]
  by_cases e : t = 0
  · rw [if_pos e, if_pos e, if_pos e]
  · rw [if_neg e, if_neg e, if_neg e]
theorem rC_no {r : Nat × Nat × Nat} (h : ¬ r.1 = 0) : rC t r = -(nI r.1) := by
  unfold rC
  rw [if_neg h]
theorem c_wouldBe (h : BD X g b A) (hX : XO X) (hA : Dm A) (hB : VB A (bo A)) (hL : LW A) (hs : Sh g) (hI : SI ag g) (hag : ag + 1 < 2 ^ 30) (hb : ∀ a ∈ [68, 69, 70, 71, 72, 73, 74, 75], a < b ∨ b + 4 < a) (u v z : Int32) : ∃ r g' ag', f_X0_wouldBe b 68 u v z g = some (r, g') ∧ Fq [68, 69, 70, 71, 72, 75] g g' ∧ SI ag' g' ∧ ag ≤ ag' ∧ ag' ≤ ag + 1 ∧ Sh g' ∧ BD X g' b A ∧ ((r = -1 ∧ okL A u v z = false) ∨ ∃ p t w, p < nv A 3 ∧ t < 2 ∧ w < 4 ∧ u = nI p ∧ v = nI t ∧ z = nI w ∧ r = rC t (lS A p t w) ∧ SP X A (fre A p) p (md A p) ag' g') := by
  have k3 := hA.2.2.2.2.2.2.2
  have bad : okL A u v z = false → f_X0_wouldBe b 68 u v z g = some (-1, g) → ∃ r g' ag', f_X0_wouldBe b 68 u v z g = some (r, g') ∧ Fq [68, 69, 70, 71, 72, 75] g g' ∧ SI ag' g' ∧ ag ≤ ag' ∧ ag' ≤ ag + 1 ∧ Sh g' ∧ BD X g' b A ∧ ((r = -1 ∧ okL A u v z = false) ∨ ∃ p t w, p < nv A 3 ∧ t < 2 ∧ w < 4 ∧ u = nI p ∧ v = nI t ∧ z = nI w ∧ r = rC t (lS A p t w) ∧ SP X A (fre A p) p (md A p) ag' g') := fun e1 e2 => ⟨-1, g, ag, e2, Fq.rf, hI, Nat.le_refl _, by omega, hs, h, Or.inl ⟨rfl, e1⟩⟩
  cases hu : inR u (nv A 3) with
  | false => exact bad (by unfold okL; rw [hu]; rfl) (by rw [f_X0_wouldBe, c_isPair h hA, hu, bd_eq, ibF])
  | true =>
    obtain ⟨p, hp, rfl⟩ := pr_t hA hu
    rcases inR_c v 2 with ⟨t, h1, h2, rfl, h4⟩ | ⟨h1, h2⟩ | ⟨t, h1, h2, rfl, h4⟩
    · rcases inR_c z 4 with ⟨w, w1, w2, rfl, w4⟩ | ⟨w1, w2⟩ | ⟨w, w1, w2, rfl, w4⟩
      · have hE : EV X A p := ⟨hX, hA, hB, hL, hp⟩
        have ta := (hB.t (i := 2 * p) (by omega)).2.1
        have tb := (hB.t (i := 2 * p + 1) (by omega)).2.1
        obtain ⟨g1, a1, a2, a3, a4⟩ := c_aim h hE hs hI hag (fun a ha => hb a (by simp at ha ⊢; omega))
        have hs1 := a3.1.1
        have h1' : BD X g1 b A := h.fa a2.a (hX.no (by decide)) (fun a ha => hb a (by simp at ha ⊢; omega))
        obtain ⟨g2, b1, b2, b3⟩ := c_step a3 hE h1 ta tb w1
        have h2' : BD X g2 b A := h1'.fa b2.a (hX.no (by decide)) (fun a ha => hb a (by simp at ha ⊢; omega))
        refine ⟨rC t (lS A p t w), g2, ag + 1, ?_, (a2.mono (by decide)).tr (b2.q.mono (by decide)), ?_, by omega, Nat.le_refl _, b3.1.1, h2', Or.inr ⟨p, t, w, hp, h1, w1, rfl, rfl, rfl, rfl, b3⟩⟩
        · rw [f_X0_wouldBe, c_isPair h hA, hu, bd_eq, ibT, if_neg (nI_pos h2), if_neg (show ¬ (1 : Int32) < nI t from nI_nlt (a := 1) (by omega) (by omega)), if_neg (nI_pos w2), if_pos (show nI w < 4 from nI_lt (b := 4) w1 (by decide)), a1, bd_eq, c_standOf h1' hA hp, bd_eq, b1, bd_eq]
          rfl
        · obtain ⟨-, R, W, r1, r2, r3, r4, r5⟩ := a4
          refine ⟨b3.2.1, R, W, r1, r2, ?_, ?_, ?_⟩
          · rw [b2.I (by decide)]
            exact r3
          · rw [b2.I (by decide)]
            exact r4
          · rw [b2.L (by decide)]
            exact r5
      · exact bad (by unfold okL; rw [w2, Bool.and_false, Bool.and_false]) (by rw [f_X0_wouldBe, c_isPair h hA, hu, bd_eq, ibT, if_neg (nI_pos h2), if_neg (show ¬ (1 : Int32) < nI t from nI_nlt (a := 1) (by omega) (by omega)), if_pos w1])
      · exact bad (by unfold okL; rw [w4, Bool.and_false, Bool.and_false]) (by rw [f_X0_wouldBe, c_isPair h hA, hu, bd_eq, ibT, if_neg (nI_pos h2), if_neg (show ¬ (1 : Int32) < nI t from nI_nlt (a := 1) (by omega) (by omega)), if_neg (nI_pos w2), if_neg (show ¬ nI w < 4 from nI_nlt (b := 4) w1 (by omega))])
    · exact bad (by unfold okL; rw [h2, Bool.false_and, Bool.and_false]) (by rw [f_X0_wouldBe, c_isPair h hA, hu, bd_eq, ibT, if_pos h1])
    · exact bad (by unfold okL; rw [h4, Bool.false_and, Bool.and_false]) (by rw [f_X0_wouldBe, c_isPair h hA, hu, bd_eq, ibT, if_neg (nI_pos h2), if_pos (show (1 : Int32) < nI t from nI_lt (a := 1) (by omega) h2)])
theorem inL_wi {v : Int64} {n : Nat} (hn : n + 1 < 2 ^ 30) : f_X12_within v 0 (lN n) g = some (inL v (n + 1), g) := by
  rw [r_lw (by omega)]
  unfold inL
  congr 2
  rw [decide_eq_decide]
  omega
theorem r_wi1 (v : Int64) : f_X12_within v 0 1 g = some (inL v 2, g) := inL_wi (n := 1) (by decide)
theorem r_wi3' (v : Int64) : f_X12_within v 0 3 g = some (inL v 4, g) := inL_wi (n := 3) (by decide)
theorem r_whyF (h : RS A g) {u v z : Int64} (e : (inL u (nv A 3) && (inL v 2 && inL z 4)) = false) : f_X12_whyLead 136 u v z g = some (1, g) := by
  rw [f_X12_whyLead, R_isPair h, bd_eq]
  cases e1 : inL u (nv A 3) with
  | false => rw [ibF]
  | true =>
    rw [ibT, r_wi1, bd_eq]
    cases e2 : inL v 2 with
    | false => rw [ibF]
    | true =>
      rw [ibT, r_wi3', bd_eq]
      cases e3 : inL z 4 with
      | false => rw [ibF]
      | true =>
        rw [e1, e2, e3] at e
        cases e
theorem r_whyT (h : RS A g) (hp : p < nv A 3) (ht : t < 2) (hw : w < 4) : ∃ g', f_X12_whyLead 136 (lN p) (lN t) (lN w) g = some (nI (lS A p t w).1, g') ∧ Fm [17, 18] [141, 142] g g' ∧ ((lS A p t w).1 = 0 → gI g' 136 17 = nI (lS A p t w).2.1 ∧ gI g' 136 18 = nI (lS A p t w).2.2) := by
  have k3 := h.k3
  have t0 := h.tw (p := p) (t := 0) hp (by decide)
  have t1 := h.tw (p := p) (t := 1) hp (by decide)
  have o1 : tw A (2 * p + t) = ow t (tw A (2 * p)) (tw A (2 * p + 1)) := by
    obtain rfl | rfl : t = 0 ∨ t = 1 := by omega
    · rfl
    · rfl
  have o2 : tw A (2 * p + (1 - t)) = ow t (tw A (2 * p + 1)) (tw A (2 * p)) := by
    obtain rfl | rfl : t = 0 ∨ t = 1 := by omega
    · rfl
    · rfl
  have ta := h.tw (p := p) (t := t) hp ht
  have tb := h.tw (p := p) (t := 1 - t) hp (by omega)
  obtain ⟨g1, e1, e2, e3⟩ := r_whyBy h hp ht ta.1 tb.1 hw ta.2 tb.2
  rw [o1, o2] at e1 e3
  refine ⟨g1, ?_, e2, e3⟩
  rw [f_X12_whyLead, R_isPair h, inL_lN (by omega), decide_eq_true hp, bd_eq, ibT, r_wi1, inL_lN (by omega), decide_eq_true ht, bd_eq, ibT, r_wi3', inL_lN (by omega), decide_eq_true hw, bd_eq, ibT, li, li, l32 p (by omega), l32 t (by omega), l32 w (by omega), R_twinOf h hp ht, bd_eq, nI_sub1 ht, R_twinOf h hp (by omega), bd_eq, o1, o2, e1, bd_eq]
  rfl
theorem nI64 : ∀ p, p < 40 → (nI p).toInt64 = lN p := by decide +kernel
theorem lS_ok (h : RS A g) (hp : p < nv A 3) (ht : t < 2) (h0 : (lS A p t w).1 = 0) : (lS A p t w).2.1 < cS A ∧ (lS A p t w).2.2 < cS A ∧ fre A p (lS A p t w).2.1 = true ∧ fre A p (lS A p t w).2.2 = true ∧ apS (nv A 2) (lS A p t w).2.1 (lS A p t w).2.2 = sp A p := by
  have t0 := h.tw (p := p) (t := 0) hp (by decide)
  have t1 := h.tw (p := p) (t := 1) hp (by decide)
  have o1 : ow t (tw A (2 * p)) (tw A (2 * p + 1)) < cS A := by
    unfold ow
    split
    · exact t0.1
    · exact t1.1
  have o2 : ow t (tw A (2 * p + 1)) (tw A (2 * p)) < cS A := by
    unfold ow
    split
    · exact t1.1
    · exact t0.1
  obtain ⟨a1, a2, a3, a4, a5, -⟩ := stS_ok h.2.2.1 o1 o2 h0
  exact ⟨a1, a2, a3, a4, a5⟩
theorem lS_why : (lS A p t w).1 = 0 ∨ (2 ≤ (lS A p t w).1 ∧ (lS A p t w).1 ≤ 4) := stS_why
/-- what the stepper changed is a query's -/
theorem QS.wb {r : Int32} {ag' : Nat} (h : QS X A ag g) (x : Fq [68, 69, 70, 71, 72, 75] g g') (hI : SI ag' g') (hs : Sh g') (hb : BD X g' 47 A) : QS X A ag' g' ∧ Qf g g' := by
  obtain ⟨h1, h2, h3, h4, h5⟩ := h
  refine ⟨⟨⟨hs, (x.I (by decide)).trans h1.2.1, h1.2.2⟩, h2, hb, hI, ?_⟩, Qf.fq x hs (by decide)⟩
  unfold Ca
  rw [x.I (by decide)]
  refine h5.imp id (fun ⟨p, n, q, pa, la, dp, a, b, c⟩ => ⟨p, n, q, pa, la, dp, a, b, c.cg (fun a ha => x.I ?_)⟩)
  have t : CL.all (fun a => decide (a ∉ [68, 69, 70, 71, 72, 75])) = true := by decide
  exact of_decide_eq_true (List.all_eq_true.mp t a ha)
theorem okL_I {u v z : Int32} : (inL u.toInt64 (nv A 3) && (inL v.toInt64 2 && inL z.toInt64 4)) = okL A u v z := by
  unfold okL
  rw [inL_I, inL_I, inL_I]
theorem neg_why {k : Nat} (h1 : 2 ≤ k) (h2 : k ≤ 4) : ¬ (0 : Int32) ≤ -(nI k) ∧ -(-(nI k)) = nI k ∧ (-10 : Int32) + -(nI k) = -10 - nI k := by
  obtain rfl | rfl | rfl : k = 2 ∨ k = 3 ∨ k = 4 := by omega
  · decide
  · decide
  · decide
theorem q_why (h : QS X A ag g) (hag : ag + 1 < 2 ^ 30) (u v z : Int32) : QA X A ag g (f_X11_why 0 u v z g) (fun g => f_X12_why 136 u v z g) := by
  obtain ⟨h1, h2, h3, h4, h5⟩ := id h
  have hs := h1.1
  have cl := h1.cl
  have k3 := h1.k3
  obtain ⟨r, g1, ag', a1, a2, a3, a4, a5, a6, a7, a8⟩ := c_wouldBe h3 h2 h1.2.2.1 h1.2.2.2.1 h1.2.2.2.2 hs h4 hag (by decide) u v z
  obtain ⟨Q1, Qf1⟩ := h.wb (r := r) a2 a3 a6 a7
  rcases a8 with ⟨rfl, e⟩ | ⟨p, t, w, hp, ht, hw, rfl, rfl, rfl, rfl, sp⟩
  · refine QA.of (v := 1) (g1 := g1) (g2 := sI g1 136 0 0) (K := [0]) (S := []) ?_ Qf1 Q1 ?_ tF0 (by decide) (by decide) a4 (by omega)
    · rw [f_X11_why, md0_4 hs, md0_7 hs, gk47 hs, gk68 hs, a1, bd_eq, if_neg (by decide)]
      rfl
    · show f_X12_why 136 u v z g1 = _
      rw [f_X12_why, lg, r_whyF Q1.1.t0 (okL_I.trans e), bd_eq]
  · obtain ⟨g2, d1, d2, d3⟩ := r_whyT (p := p) (t := t) (w := w) Q1.1.t0 hp ht hw
    refine QA.of (v := nI (lS A p t w).1) (g1 := g1) (g2 := g2) (K := [0, 17, 18]) (S := [141, 142]) ?_ Qf1 Q1 ?_ ((tF0.mono (by decide) (by decide)).tr (d2.mono (by decide) (by decide))) (by decide) (by decide) a4 (by omega)
    · rw [f_X11_why, md0_4 hs, md0_7 hs, gk47 hs, gk68 hs, a1, bd_eq]
      rcases lS_why (A := A) (p := p) (t := t) (w := w) with e | ⟨e1, e2⟩
      · obtain ⟨s1, s2, -⟩ := lS_ok h1 hp ht e
        have o1 : ow t (lS A p t w).2.1 (lS A p t w).2.2 < 36 := by unfold ow; split <;> omega
        have o2 : ow t (lS A p t w).2.2 (lS A p t w).2.1 < 36 := by unfold ow; split <;> omega
        rw [rC_ow ht e, if_pos (Int32.not_lt.mp (nI_pos (by omega))), e]
        rfl
      · obtain ⟨n1, n2, -⟩ := neg_why e1 e2
        rw [rC_no (by omega), if_neg n1, n2]
    · show f_X12_why 136 (nI p) (nI t) (nI w) g1 = _
      rw [f_X12_why, lg, nI64 p (by omega), nI64 t (by omega), nI64 w (by omega), d1, bd_eq]
end WLD
