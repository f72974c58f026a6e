/-! BY answered alike. -/
section BYA
variable {X : Nat → Prop} {A A' : Nat → Int32} {g g' : G} {b p t w ag : Nat} {S : List Nat}
theorem r_costNow (h : RS A g) (hp : p < nv A 3) (ht : t < 2) (h0 : (lS A p t w).1 = 0) (e17 : gI g 136 17 = nI (lS A p t w).2.1) (e18 : gI g 136 18 = nI (lS A p t w).2.2) : ∃ g', f_X12_costNow 136 (nI p) (nI t) g = some (nI (cst A p (md A p) 0 (tw A (2 * p)) (ow t (lS A p t w).2.1 (lS A p t w).2.2) + cst A p (md A p) 1 (tw A (2 * p + 1)) (ow t (lS A p t w).2.2 (lS A p t w).2.1)), g') ∧ Fi [141, 142] g g' := by
  obtain ⟨s1, s2, s3, s4, -⟩ := lS_ok h hp ht h0
  have ta := h.tw (p := p) (t := t) hp ht
  have tb := h.tw (p := p) (t := 1 - t) hp (by omega)
  obtain ⟨g1, a1, a2⟩ := R_costOf h hp ht ta.1 s1 ta.2 (fre_no s3).1
  have h1 := h.fi a2 (by decide)
  obtain ⟨g2, b1, b2⟩ := R_costOf h1 hp (t := 1 - t) (by omega) tb.1 s2 tb.2 (fre_no s4).1
  refine ⟨g2, ?_, a2.tr b2⟩
  rw [f_X12_costNow, R_twinOf h hp ht, bd_eq, e17, a1, bd_eq, nI_sub1 ht, R_twinOf h1 hp (by omega), bd_eq, a2.I (by decide), e18, b1, bd_eq, nI_add]
  obtain rfl | rfl : t = 0 ∨ t = 1 := by omega
  · rfl
  · rw [Nat.add_comm]
    rfl
theorem q_by (h : QS X A ag g) (hag : ag + 1 < 2 ^ 30) (u v z k : Int32) : QA X A ag g (f_X11_by 0 u v z k g) (fun g => f_X12_by 136 u v z k g) := by
  obtain ⟨h1, h2, h3, h4, h5⟩ := id h
  have hs := h1.1
  have cl := h1.cl
  have k3 := h1.k3
  have hA := h1.2.2.1
  have bad : inR k 4 = false → (k < 0 ∨ ¬ k ≤ 3) → QA X A ag g (f_X11_by 0 u v z k g) (fun g => f_X12_by 136 u v z k g) := fun e1 e2 => by
    refine QA.of (v := -2) (g1 := g) (g2 := sI g 136 0 0) (K := [0]) (S := []) ?_ (Qf.rf hs) h ?_ tF0 (by decide) (by decide) (Nat.le_refl _) (by omega)
    · rw [f_X11_by]
      rcases e2 with e | e
      · rw [if_pos e]
      · rw [if_neg e]
        split <;> rfl
    · show f_X12_by 136 u v z k g = _
      rw [f_X12_by, lg, r_wi3, e1, bd_eq, ibF]
  rcases inR_c k 4 with ⟨j, j1, j2, rfl, j4⟩ | ⟨j1, j2⟩ | ⟨j, j1, j2, rfl, j4⟩
  · obtain ⟨r, g1, ag', a1, a2, a3, a4, a5, a6, a7, a8⟩ := c_wouldBe h3 h2 hA h1.2.2.2.1 h1.2.2.2.2 hs h4 hag (by decide) u v z
    obtain ⟨Q1, Qf1⟩ := h.wb (r := r) a2 a3 a6 a7
    have ls : nI j ≤ 3 := nI_le (b := 3) (by omega) (by decide)
    have no : ∀ g2, Fm [0, 17, 18] [141, 142] g1 g2 → ¬ 0 ≤ r → (∃ n, ¬ nI n = 0 ∧ f_X12_whyLead 136 u.toInt64 v.toInt64 z.toInt64 (sI g1 136 0 0) = some (nI n, g2)) → QA X A ag g (f_X11_by 0 u v z (nI j) g) (fun g => f_X12_by 136 u v z (nI j) g) := fun g2 x e1 ⟨n, n1, n2⟩ => by
      refine QA.of (v := -5) (g1 := g1) (g2 := g2) (K := [0, 17, 18]) (S := [141, 142]) ?_ Qf1 Q1 ?_ x (by decide) (by decide) a4 (by omega)
      · rw [f_X11_by, if_neg (nI_pos j2), if_pos ls, md0_4 hs, md0_7 hs, gk47 hs, gk68 hs, a1, bd_eq, if_neg e1]
      · show f_X12_by 136 u v z (nI j) g1 = _
        rw [f_X12_by, lg, r_wi3, j4, bd_eq, ibT, n2, bd_eq, if_neg n1]
    rcases a8 with ⟨rfl, e⟩ | ⟨p, t, w, hp, ht, hw, rfl, rfl, rfl, rfl, sp⟩
    · exact no (sI g1 136 0 0) (tF0.mono (by decide) (by decide)) (by decide) ⟨1, by decide, r_whyF Q1.1.t0 (okL_I.trans e)⟩
    · obtain ⟨g2, d1, d2, d3⟩ := r_whyT (p := p) (t := t) (w := w) Q1.1.t0 hp ht hw
      have x2 : Fm [0, 17, 18] [141, 142] g1 g2 := (tF0.mono (by decide) (by decide)).tr (d2.mono (by decide) (by decide))
      have d1' : f_X12_whyLead 136 (nI p).toInt64 (nI t).toInt64 (nI w).toInt64 (sI g1 136 0 0) = some (nI (lS A p t w).1, g2) := by
        rw [nI64 p (by omega), nI64 t (by omega), nI64 w (by omega), d1]
      rcases lS_why (A := A) (p := p) (t := t) (w := w) with e | ⟨e1, e2⟩
      · obtain ⟨s1, s2, s3, s4, s5⟩ := lS_ok h1 hp ht e
        obtain ⟨f1, f2⟩ := d3 e
        have o1 : ow t (lS A p t w).2.1 (lS A p t w).2.2 < cS A := by unfold ow; split <;> omega
        have o2 : ow t (lS A p t w).2.2 (lS A p t w).2.1 < cS A := by unfold ow; split <;> omega
        have ta := h1.tw (p := p) (t := 0) hp (by decide)
        have tb := h1.tw (p := p) (t := 1) hp (by decide)
        rw [Nat.add_zero] at ta
        obtain ⟨k1, k2⟩ := @pk_pack (ow t (lS A p t w).2.1 (lS A p t w).2.2) (ow t (lS A p t w).2.2 (lS A p t w).2.1) (by omega)
        obtain ⟨k1', k2'⟩ := @pk_pack (tw A (2 * p)) (tw A (2 * p + 1)) (by omega)
        have hE : EV X A p := ⟨h2, hA, h1.2.2.2.1, h1.2.2.2.2, hp⟩
        have hs1 := Q1.1.1
        have hr2 : RS A g2 := Q1.1.fm x2 (by decide)
        obtain ⟨q, q1, q2⟩ := a7.2.1
        have cr : f_X11_by 0 (nI p) (nI t) (nI w) (nI j) g = (if nI j = 0 then (some ((rC t (lS A p t w) / (64 : Int32)), g1)) else (if nI j = (1 : Int32) then (some ((rC t (lS A p t w) - rC t (lS A p t w) / (64 : Int32) * (64 : Int32)), g1)) else (dr (gR g1 0 4) (fun b16 => gdK g1 b16 0 (bd (f_X0_standOf b16 (nI p) g1) (fun v19 g20 => if nI j = (2 : Int32) then (if nI t = 0 then (dr (gR g20 0 4) (fun b42 => gdK g20 b42 0 (dr (gR g20 b42 0) (fun b45 => gdK g20 b45 7 (bd (f_X7_apart b45 (v19 - v19 / (64 : Int32) * (64 : Int32)) (rC t (lS A p t w) - rC t (lS A p t w) / (64 : Int32) * (64 : Int32)) g20) (fun v48 g49 => some (v48, g49))))))) else (dr (gR g20 0 4) (fun b32 => gdK g20 b32 0 (dr (gR g20 b32 0) (fun b35 => gdK g20 b35 7 (bd (f_X7_apart b35 (v19 / (64 : Int32)) (rC t (lS A p t w) / (64 : Int32)) g20) (fun v38 g39 => some (v38, g39)))))))) else (dr (gR g20 0 7) (fun b24 => gdK g20 b24 9 (bd (f_X9_costOf b24 v19 (rC t (lS A p t w)) g20) (fun v27 g28 => some (v27, g28)))))))))) ) := by
          rw [f_X11_by, if_neg (nI_pos j2), if_pos ls, md0_4 hs, md0_7 hs, gk47 hs, gk68 hs, a1, bd_eq, if_pos (by rw [rC_ow ht e]; exact Int32.not_lt.mp (nI_pos (by omega)))]
        have rr : f_X12_by 136 (nI p) (nI t) (nI w) (nI j) g1 = (if (2 : Int32) ≤ nI j then (if nI j = (2 : Int32) then (bd (f_X12_twinOf 136 (nI p) ((1 : Int32) - nI t) g2) (fun v19 g20 => bd (f_X12_apart 136 v19 (gI g20 136 18) g20) (fun v23 g24 => some (v23, g24)))) else (bd (f_X12_costNow 136 (nI p) (nI t) g2) (fun v15 g16 => some (v15, g16)))) else (if nI j = nI t then (some ((gI g2 136 17), g2)) else (some ((gI g2 136 18), g2)))) := by
          rw [f_X12_by, lg, r_wi3, j4, bd_eq, ibT, d1', bd_eq, e, if_pos (show nI 0 = 0 from rfl)]
        have rd : rC t (lS A p t w) / (64 : Int32) = nI (ow t (lS A p t w).2.1 (lS A p t w).2.2) := by
          rw [rC_ow ht e, ldi64 (by omega), k1]
        have rm : rC t (lS A p t w) - rC t (lS A p t w) / (64 : Int32) * (64 : Int32) = nI (ow t (lS A p t w).2.2 (lS A p t w).2.1) := by
          rw [rC_ow ht e, ldi64 (by omega), lmo64, k2]
        obtain rfl | rfl | rfl | rfl : j = 0 ∨ j = 1 ∨ j = 2 ∨ j = 3 := by omega
        · refine QA.of (v := nI (ow t (lS A p t w).2.1 (lS A p t w).2.2)) (g1 := g1) (g2 := g2) (K := [0, 17, 18]) (S := [141, 142]) ?_ Qf1 Q1 ?_ x2 (by decide) (by decide) a4 (by omega)
          · rw [cr, if_pos (by decide), rd]
          · show f_X12_by 136 (nI p) (nI t) (nI w) (nI 0) g1 = _
            rw [rr, if_neg (by decide), f1, f2]
            obtain rfl | rfl : t = 0 ∨ t = 1 := by omega
            · rw [if_pos rfl]
              rfl
            · rw [if_neg (by decide)]
              rfl
        · refine QA.of (v := nI (ow t (lS A p t w).2.2 (lS A p t w).2.1)) (g1 := g1) (g2 := g2) (K := [0, 17, 18]) (S := [141, 142]) ?_ Qf1 Q1 ?_ x2 (by decide) (by decide) a4 (by omega)
          · rw [cr, if_neg (by decide), if_pos (by decide), rm]
          · show f_X12_by 136 (nI p) (nI t) (nI w) (nI 1) g1 = _
            rw [rr, if_neg (by decide), f1, f2]
            obtain rfl | rfl : t = 0 ∨ t = 1 := by omega
            · rw [if_neg (by decide)]
              rfl
            · rw [if_pos rfl]
              rfl
        · refine QA.of (v := nI (apS (nv A 2) (tw A (2 * p + (1 - t))) (lS A p t w).2.2)) (g1 := g1) (g2 := g2) (K := [0, 17, 18]) (S := [141, 142]) ?_ Qf1 Q1 ?_ x2 (by decide) (by decide) a4 (by omega)
          · rw [cr, if_neg (by decide), if_neg (by decide), md0_4 hs1, gk47 hs1, c_standOf a7 hA hp, bd_eq, if_pos (by decide), rm, rd, ldi64 (by omega), lmo64, k1', k2']
            obtain rfl | rfl : t = 0 ∨ t = 1 := by omega
            · rw [if_pos (by decide), md0_4 hs1, gk47 hs1, q1, dr_eq, gdK_pos q2.2.1, c_apart q2 hA tb.1 o2, bd_eq]
              rfl
            · rw [if_neg (by decide), md0_4 hs1, gk47 hs1, q1, dr_eq, gdK_pos q2.2.1, c_apart q2 hA ta.1 o1, bd_eq]
              rfl
          · show f_X12_by 136 (nI p) (nI t) (nI w) (nI 2) g1 = _
            have tc := (hr2.tw (p := p) (t := 1 - t) hp (by omega)).1
            rw [rr, if_pos (by decide), if_pos (by decide), nI_sub1 ht, R_twinOf hr2 hp (by omega), bd_eq, f2, R_apart hr2 (by omega) (by omega), bd_eq]
        · obtain ⟨g3, c1, c2, c3⟩ := c_costOf sp hE ta.1 tb.1 o1 o2
          have Q3 : QS X A ag' g3 := by
            obtain ⟨p1, p2, p3, p4, p5⟩ := id Q1
            refine ⟨p1.fi c2 (by decide), p2, p3.fa c2.a (p2.no (by decide)) (by decide), ?_, ?_⟩
            · obtain ⟨-, R, W, r1, r2, r3, r4, r5⟩ := p4
              refine ⟨c3.2.1, R, W, r1, r2, ?_, ?_, ?_⟩
              · rw [c2.I (by decide)]
                exact r3
              · rw [c2.I (by decide)]
                exact r4
              · rw [c2.L (by decide)]
                exact r5
            · unfold Ca
              rw [c2.I (by decide)]
              refine p5.imp id (fun ⟨p, n, q, pa, la, dp, a, b, c⟩ => ⟨p, n, q, pa, la, dp, a, b, c.cg (fun a ha => c2.I ?_)⟩)
              have t : CL.all (fun a => decide (a ∉ [69, 73, 74, 75])) = true := by decide
              exact of_decide_eq_true (List.all_eq_true.mp t a ha)
          obtain ⟨g4, m1, m2, m3⟩ := r_whyT (p := p) (t := t) (w := w) Q3.1.t0 hp ht hw
          have x4 : Fm [0, 17, 18] [141, 142] g3 g4 := (tF0.mono (by decide) (by decide)).tr (m2.mono (by decide) (by decide))
          have hr4 : RS A g4 := Q3.1.fm x4 (by decide)
          obtain ⟨n1, n2⟩ := m3 e
          obtain ⟨g5, l1, l2⟩ := r_costNow (w := w) hr4 hp ht e n1 n2
          refine QA.of (v := nI (cst A p (md A p) 0 (tw A (2 * p)) (ow t (lS A p t w).2.1 (lS A p t w).2.2) + cst A p (md A p) 1 (tw A (2 * p + 1)) (ow t (lS A p t w).2.2 (lS A p t w).2.1))) (g1 := g3) (g2 := g5) (K := [0, 17, 18]) (S := [141, 142]) ?_ (Qf1.tr (Qf.fi c2 hs1 (by decide))) Q3 ?_ (x4.tr (Fm.of l2 (by decide))) (by decide) (by decide) a4 (by omega)
          · rw [cr, if_neg (by decide), if_neg (by decide), md0_4 hs1, gk47 hs1, c_standOf a7 hA hp, bd_eq, if_neg (by decide), md0_7 hs1, gk68 hs1, rC_ow ht e, c1, bd_eq]
          · show f_X12_by 136 (nI p) (nI t) (nI w) (nI 3) g3 = _
            rw [f_X12_by, lg, r_wi3, j4, bd_eq, ibT, nI64 p (by omega), nI64 t (by omega), nI64 w (by omega), m1, bd_eq, e, if_pos (show nI 0 = 0 from rfl), if_pos (by decide), if_neg (by decide), l1, bd_eq]
      · obtain ⟨n1, n2, -⟩ := neg_why e1 e2
        refine no g2 x2 (by rw [rC_no (by omega)]; exact n1) ⟨(lS A p t w).1, nI_ne0 (by omega) (by omega), d1'⟩
  · exact bad j2 (Or.inl j1)
  · exact bad j4 (Or.inr (show ¬ nI j ≤ 3 from nI_ge (a := 3) (b := j) (by omega) j2))
end BYA
