/-! ATTEMPT: the reference; answered alike. -/
section ATR
variable {X : Nat → Prop} {A : Nat → Int32} {g g' : G} {p t n ag : Nat} {f : Nat → Nat}
theorem tgo_wl {m : Nat} (hA : Dm A) {s : Nat × Nat} (h1 : s.1 < cS A) (h2 : s.2 < cS A) (w1 : wl A s.1 = 0) (w2 : wl A s.2 = 0) : ∀ k s', tgo A (fre A p) p m f s k = some s' → wl A s'.1 = 0 ∧ wl A s'.2 = 0
  | 0, s', e => by
    have := Option.some.inj e
    rw [← this]
    exact ⟨w1, w2⟩
  | k + 1, s', e => by
    cases hk : tgo A (fre A p) p m f s k with
    | none =>
      rw [tgo, hk] at e
      cases e
    | some r =>
      have rr := tgo_wl hA h1 h2 w1 w2 k r hk
      obtain ⟨r1, r2⟩ := tgo_lt hA h1 h2 k r hk
      rw [tgo_s hk] at e
      unfold tg1 at e
      split at e
      · next u =>
        obtain ⟨-, -, a3, a4, -⟩ := stS_ok hA r1 r2 u
        split at e
        · have := Option.some.inj e
          rw [← this]
          exact ⟨(of_decide_eq_true a3).1, (of_decide_eq_true a4).1⟩
        · cases e
      · split at e
        · cases e
        · have := Option.some.inj e
          rw [← this]
          exact rr
theorem mn_le (a b : Int32) : lsI a b = if b ≤ a then b else a := by
  unfold lsI
  by_cases u : b < a
  · rw [if_pos u, if_pos (Int32.le_of_lt u)]
  · rw [if_neg u]
    by_cases v : b ≤ a
    · rw [if_pos v]
      exact Int32.le_antisymm (Int32.not_lt.mp u) v
    · rw [if_neg v]
theorem r_at55 (hp : p < nv A 3) (ht : t < 4) (hn : n ≤ 12) {K : Nat → Int32 → Int32 → Int32 → Int32 → Int32 → Int32 → G → Option (Int32 × G)} {w : Nat} (hw : w < 4) (tot ch mo : Int32) : ∀ fu k g, RS A g → gI g 153 t = nI n → (∀ k, k < n → f k / 10 ≤ 3 ∧ f k % 10 ≤ 1 ∧ gL g 154 (40 * t + k) = lN (f k)) → k ≤ cS A → cS A < fu + k → ∃ g', f_X12_attempt_55 K fu 136 (nI t) (nI p) tot ch mo (nI w) (nI (cntB (cou A p f n w) k)) (nI k) g = K 136 (nI t) (nI p) tot (if (lsI (nI (cntB (cou A p f n w) (cS A))) (tot - nI (cntB (cou A p f n w) (cS A)))) ≤ mo then ch else nI w) (if (lsI (nI (cntB (cou A p f n w) (cS A))) (tot - nI (cntB (cou A p f n w) (cS A)))) ≤ mo then mo else (lsI (nI (cntB (cou A p f n w) (cS A))) (tot - nI (cntB (cou A p f n w) (cS A))))) (nI (w + 1)) g' ∧ Fm [17, 18, 31, 32] [141, 142] g g' := by
  intro fu
  induction fu with
  | zero => intro k g _ _ _ _ h; omega
  | succ fu ih =>
    intro k g h h0 hf hk hfu
    have cl := h.cl
    have ce : cntB (cou A p f n w) (k + 1) = cntB (cou A p f n w) k + (if (cou A p f n w) k = true then 1 else 0) := rfl
    rw [f_X12_attempt_55, R_cells h, bd_eq]
    rcases Nat.lt_or_ge k (cS A) with z | z
    · have skip : ∀ g1, Fm [17, 18, 31, 32] [141, 142] g g1 → (cou A p f n w) k = false → ∃ g', f_X12_attempt_55 K fu 136 (nI t) (nI p) tot ch mo (nI w) (nI (cntB (cou A p f n w) k)) (nI (k + 1)) g1 = K 136 (nI t) (nI p) tot (if (lsI (nI (cntB (cou A p f n w) (cS A))) (tot - nI (cntB (cou A p f n w) (cS A)))) ≤ mo then ch else nI w) (if (lsI (nI (cntB (cou A p f n w) (cS A))) (tot - nI (cntB (cou A p f n w) (cS A)))) ≤ mo then mo else (lsI (nI (cntB (cou A p f n w) (cS A))) (tot - nI (cntB (cou A p f n w) (cS A))))) (nI (w + 1)) g' ∧ Fm [17, 18, 31, 32] [141, 142] g g' := fun g1 x u => by
        obtain ⟨g2, d1, d2⟩ := ih (k + 1) g1 (h.fm x (by decide)) (by rw [x.I (by decide)]; exact h0) (fun j hj => by rw [x.L (by decide)]; exact hf j hj) (by omega) (by omega)
        rw [ce, u, if_neg (by decide), Nat.add_zero] at d1
        exact ⟨g2, d1, x.tr d2⟩
      have e0 : ∀ g1, f_X12_attempt_110 K (f_X12_attempt_55 K fu) 136 (nI t) (nI p) tot ch mo (nI w) (nI k) (nI (cntB (cou A p f n w) k)) g1 = f_X12_attempt_55 K fu 136 (nI t) (nI p) tot ch mo (nI w) (nI (cntB (cou A p f n w) k)) (nI (k + 1)) g1 := fun g1 => by
        rw [f_X12_attempt_110, f_X12_attempt_111, show (0 : Int32) = nI 0 from rfl, nI_add, Nat.add_zero, li, lad1]
      rw [if_neg (nI_ge z (by omega)), r_isFirst h hp z, bd_eq]
      cases hr : rdB A p (tw A (2 * p)) k with
      | false =>
        rw [ibF, e0]
        exact skip g Fm.rf (by unfold cou; rw [hr, Bool.false_and, Bool.and_false])
      | true =>
        have wb : wl A k = 0 := by
          unfold rdB at hr
          rw [Bool.and_eq_true] at hr
          exact (of_decide_eq_true hr.1).1
        obtain ⟨g1, e1, e2, e3⟩ := r_isTried h hp ht hn h0 hf z wb
        rw [ibT, e1, bd_eq]
        cases hso : tgo A (fre A p) p (md A p) f (tw A (2 * p), k) n with
        | none =>
          rw [show (none : Option (Nat × Nat)).isSome = false from rfl, ibF, e0]
          exact skip g1 e2 (by unfold cou; rw [hso]; unfold couO; rw [Bool.and_false, Bool.and_false])
        | some s =>
          have tt := h.tw (p := p) (t := 0) hp (by decide)
          rw [Nat.add_zero] at tt
          obtain ⟨l1, l2⟩ := tgo_lt h.2.2.1 (s := (tw A (2 * p), k)) tt.1 z n s hso
          obtain ⟨w1, w2⟩ := tgo_wl h.2.2.1 (s := (tw A (2 * p), k)) tt.1 z tt.2 wb n s hso
          obtain ⟨q1, q2⟩ := e3 s hso
          have hr1 := h.fm e2 (by decide)
          obtain ⟨g2, b1, b2, -⟩ := r_whyBy hr1 hp (t := 0) (w := w) (by decide) l1 l2 hw w1 w2
          have b1' : f_X12_whyBy 136 (nI p) 0 (nI s.1) (nI s.2) (nI w) g1 = some (nI (stS A (fre A p) p (md A p) 0 s.1 s.2 w).1, g2) := b1
          have x2 : Fm [17, 18, 31, 32] [141, 142] g g2 := e2.tr (b2.mono (by decide) (by decide))
          have hc := cou_so (w := w) z hr hso
          have wy := stS_why (A := A) (F := fre A p) (p := p) (m := md A p) (t := 0) (a := s.1) (b := s.2) (w := w)
          rw [show (some s).isSome = true from rfl, ibT, q1, q2, b1', bd_eq]
          by_cases r0 : (stS A (fre A p) p (md A p) 0 s.1 s.2 w).1 = 0
          · rw [decide_eq_true r0] at hc
            rw [r0, if_pos (show nI 0 = 0 from rfl), f_X12_attempt_111, show (1 : Int32) = nI 1 from rfl, nI_add, li, nI_add]
            obtain ⟨g3, d1, d2⟩ := ih (k + 1) g2 (h.fm x2 (by decide)) (by rw [x2.I (by decide)]; exact h0) (fun j hj => by rw [x2.L (by decide)]; exact hf j hj) (by omega) (by omega)
            rw [ce, hc, if_pos rfl] at d1
            exact ⟨g3, d1, x2.tr d2⟩
          · rw [decide_eq_false r0] at hc
            rw [if_neg (nI_ne0 (by omega) (by omega)), e0]
            exact skip g2 x2 hc
    · have e : k = cS A := by omega
      subst e
      rw [if_pos (nI_le z (by omega))]
      have fin : ∀ s0, s0 = (lsI (nI (cntB (cou A p f n w) (cS A))) (tot - nI (cntB (cou A p f n w) (cS A)))) → f_X12_attempt_140 K 136 (nI t) (nI p) tot ch mo (nI w) s0 g = K 136 (nI t) (nI p) tot (if (lsI (nI (cntB (cou A p f n w) (cS A))) (tot - nI (cntB (cou A p f n w) (cS A)))) ≤ mo then ch else nI w) (if (lsI (nI (cntB (cou A p f n w) (cS A))) (tot - nI (cntB (cou A p f n w) (cS A)))) ≤ mo then mo else (lsI (nI (cntB (cou A p f n w) (cS A))) (tot - nI (cntB (cou A p f n w) (cS A))))) (nI (w + 1)) g := fun s0 es => by
        rw [es, f_X12_attempt_140, f_X12_attempt_160, f_X12_attempt_160, lad1]
        by_cases u : (lsI (nI (cntB (cou A p f n w) (cS A))) (tot - nI (cntB (cou A p f n w) (cS A)))) ≤ mo
        · rw [if_pos u, if_pos u, if_neg (Int32.not_lt.mpr u)]
        · rw [if_neg u, if_neg u, if_pos (Int32.not_le.mp u)]
      refine ⟨g, ?_, Fm.rf⟩
      by_cases v : tot - nI (cntB (cou A p f n w) (cS A)) ≤ nI (cntB (cou A p f n w) (cS A))
      · rw [if_pos v]
        exact fin _ (by rw [mn_le, if_pos v])
      · rw [if_neg v]
        exact fin _ (by rw [mn_le, if_neg v])
theorem r_at38 (hp : p < nv A 3) (ht : t < 4) (hn : n ≤ 12) {tot : Int32} (h0t : ¬ tot ≤ 0) : ∀ fu w g, RS A g → gI g 153 t = nI n → (∀ k, k < n → f k / 10 ≤ 3 ∧ f k % 10 ≤ 1 ∧ gL g 154 (40 * t + k) = lN (f k)) → w ≤ 4 → 4 < fu + w → ∃ g', f_X12_attempt_38 fu 136 (nI t) (nI p) tot (aP (fun w => cntB (cou A p f n w) (cS A)) tot w).1 (aP (fun w => cntB (cou A p f n w) (cS A)) tot w).2 (nI w) g = some ((aP (fun w => cntB (cou A p f n w) (cS A)) tot 4).1, g') ∧ Fm [17, 18, 31, 32] [141, 142] g g' := by
  intro fu
  induction fu with
  | zero => intro w g _ _ _ _ h; omega
  | succ fu ih =>
    intro w g h h0 hf hw hfu
    have cl := h.cl
    rw [f_X12_attempt_38]
    rcases Nat.lt_or_ge w 4 with z | z
    · rw [if_neg (lnge4 z), if_neg h0t]
      obtain ⟨g1, e1, e2⟩ := r_at55 (f := f) (K := f_X12_attempt_38 fu) hp ht hn z tot (aP (fun w => cntB (cou A p f n w) (cS A)) tot w).1 (aP (fun w => cntB (cou A p f n w) (cS A)) tot w).2 FU 0 g h h0 hf (by omega) (by have := @FU_gt (cS A) (by omega); omega)
      have e1' : f_X12_attempt_55 (f_X12_attempt_38 fu) FU 136 (nI t) (nI p) tot (aP (fun w => cntB (cou A p f n w) (cS A)) tot w).1 (aP (fun w => cntB (cou A p f n w) (cS A)) tot w).2 (nI w) 0 0 g = _ := e1
      obtain ⟨g2, d1, d2⟩ := ih (w + 1) g1 (h.fm e2 (by decide)) (by rw [e2.I (by decide)]; exact h0) (fun j hj => by rw [e2.L (by decide)]; exact hf j hj) z (by omega)
      rw [e1']
      refine ⟨g2, ?_, e2.tr d2⟩
      rw [← d1]
      have st : aP (fun w => cntB (cou A p f n w) (cS A)) tot (w + 1) = if (lsI (nI (cntB (cou A p f n w) (cS A))) (tot - nI (cntB (cou A p f n w) (cS A)))) ≤ (aP (fun w => cntB (cou A p f n w) (cS A)) tot w).2 then aP (fun w => cntB (cou A p f n w) (cS A)) tot w else (nI w, (lsI (nI (cntB (cou A p f n w) (cS A))) (tot - nI (cntB (cou A p f n w) (cS A))))) := rfl
      rw [st]
      by_cases u : (lsI (nI (cntB (cou A p f n w) (cS A))) (tot - nI (cntB (cou A p f n w) (cS A)))) ≤ (aP (fun w => cntB (cou A p f n w) (cS A)) tot w).2
      · rw [if_pos u, if_pos u, if_pos u]
      · rw [if_neg u, if_neg u, if_neg u]
    · have e : w = 4 := by omega
      subst e
      rw [if_pos (lle4 (by decide) (by decide))]
      exact ⟨g, rfl, Fm.rf⟩
theorem q_attempt (h : QS X A ag g) (hag : ag + 2 < 2 ^ 30) (hT : TR g) (v w : Int32) : QA X A ag g (f_X11_attempt 0 v w g) (fun g => f_X12_attempt 136 v w g) := by
  obtain ⟨h1, h2, h3, h4, h5⟩ := id h
  have cl := h1.cl
  obtain ⟨z, z1, z2, z3⟩ := tries h1 h3 hT v w
  have r0 : ∀ g', Qf g g' → RS A g' → f_X12_noTried 136 v w (sI g' 136 0 0) = some (z, sI g' 136 0 0) := fun g' x hr => z2 _ hr.t0 (by rw [gI_sIn (by decide)]; exact x.1.I (by decide)) (by rw [gI_sIn (by decide)]; exact x.1.I (by decide)) (by rw [gL_sI]; exact x.1.L (by decide))
  by_cases e : z = 0
  · obtain ⟨t, p, n, f, ht, rfl, hp, rfl, hN⟩ := z3 e
    obtain ⟨r, g1, c1, c2, c3, c4, c5⟩ := c_cellsTried h hp (by omega) ht hN
    have hE : EV X A p := ⟨h2, h1.2.2.1, h1.2.2.2.1, h1.2.2.2.2, hp⟩
    obtain ⟨m1, m2, m3, m4, m5⟩ := hN.qf ht c2
    have hs1 := c3.1.1
    have so := c_standOf c3.2.2.1 h1.2.2.1 hp
    have ec : cntB (bt r) 64 = cntB (bt r) 36 := cntB_far (by decide) (fun i i1 i2 => by
      rw [c5 i i2, decide_eq_false (show ¬ i < cS A by omega)]
      rfl)
    have efu : (fun w => cntB (cou A p f n w) 36) = (fun w => cntB (cou A p f n w) (cS A)) := by
      funext w
      exact cntB_far (by omega) (fun i i1 i2 => by
        unfold cou
        rw [decide_eq_false (show ¬ i < cS A by omega)]
        rfl)
    have cle := cntB_le (bt r) 36
    -- the class
    have hc : ∃ g2, f_X11_attempt_47 FU 0 (nI t) r (nI (64 * tw A (2 * p) + tw A (2 * p + 1))) (nI (cntB (bt r) 36)) (-1) (-1) 0 g1 = some (if nI (cntB (bt r) 36) ≤ 0 then -1 else (aP (fun w => cntB (cou A p f n w) (cS A)) (nI (cntB (bt r) 36)) 4).1, g2) ∧ Qf g g2 ∧ QS X A (ag + 1) g2 := by
      by_cases u : nI (cntB (bt r) 36) ≤ 0
      · refine ⟨g1, ?_, c2, c3⟩
        obtain ⟨fu, hfu⟩ : ∃ fu, FU = fu + 1 := ⟨FU - 1, rfl⟩
        rw [hfu, f_X11_attempt_47, if_neg (by decide), if_pos u, if_pos u]
      · obtain ⟨g2, d1, d2, d3⟩ := c_at47 (f := f) hE ht m2 c5 u FU 0 g1 c4 m3 (fun k hk => ⟨(m5 k hk).1, (m5 k hk).2.1, (m5 k hk).2.2.1⟩) (by decide) (by have := @FU_gt 4 (by decide); omega)
        refine ⟨g2, ?_, c2.tr (Qf.fi d2 hs1 (by decide)), c3.stp d2 d3.2.1⟩
        rw [if_neg u, ← efu]
        exact d1
    obtain ⟨g2, b1, b2, b3⟩ := hc
    obtain ⟨m1, m2, m3, m4, m5⟩ := hN.qf ht b2
    have x0 : Fm [0] [] g2 (sI g2 136 0 0) := tF0
    obtain ⟨r', g3, d1, d2, d3⟩ := r_ts5 (f := f) hp ht m2 FU 0 0 (sI g2 136 0 0) b3.1.t0 (by rw [x0.I (by decide)]; exact m4) (fun k hk => by
      rw [x0.L (by decide)]
      exact ⟨(m5 k hk).1, (m5 k hk).2.1, (m5 k hk).2.2.2⟩) (fun c hc => by rw [bt_0]; rfl) (Nat.zero_le _) (by have := @FU_gt (cS A) (by omega); omega)
    have d1' : f_X12_triedSet_5 FU 136 (nI t) (nI p) 0 0 (sI g2 136 0 0) = some (r', g3) := d1
    have em : r = r' := bt_ext (fun c hc => (c5 c hc).trans (d3 c hc).symm)
    have bo := r_bo4 (g := g3) r' FU 0 (by decide) (by have := @FU_gt 36 (by decide); omega)
    have bo' : f_X12_bitsOf_4 FU r' 0 0 g3 = some (nI (cntB (bt r') 36), g3) := bo
    have x3 : Fm [0, 17, 18, 31, 32] [141, 142] g2 g3 := (tF0.mono (by decide) (by decide)).tr (d2.mono (by decide) (by decide))
    have hr3 : RS A g3 := b3.1.fm x3 (by decide)
    have hr : ∃ g4, f_X12_attempt_38 FU 136 (nI t) (nI p) (nI (cntB (bt r) 36)) (-1) (-1) 0 g3 = some (if nI (cntB (bt r) 36) ≤ 0 then -1 else (aP (fun w => cntB (cou A p f n w) (cS A)) (nI (cntB (bt r) 36)) 4).1, g4) ∧ Fm [0, 17, 18, 31, 32] [141, 142] g2 g4 := by
      by_cases u : nI (cntB (bt r) 36) ≤ 0
      · refine ⟨g3, ?_, x3⟩
        obtain ⟨fu, hfu⟩ : ∃ fu, FU = fu + 1 := ⟨FU - 1, rfl⟩
        rw [hfu, f_X12_attempt_38, if_neg (by decide), if_pos u, if_pos u]
      · obtain ⟨g4, q1, q2⟩ := r_at38 (f := f) hp ht m2 u FU 0 g3 hr3 (by rw [x3.I (by decide)]; exact m4) (fun k hk => by
          rw [x3.L (by decide)]
          exact ⟨(m5 k hk).1, (m5 k hk).2.1, (m5 k hk).2.2.2⟩) (by decide) (by have := @FU_gt 4 (by decide); omega)
        refine ⟨g4, ?_, x3.tr (q2.mono (by decide) (by decide))⟩
        rw [if_neg u]
        exact q1
    obtain ⟨g4, k1, k2⟩ := hr
    refine QA.of (v := if nI (cntB (bt r) 36) ≤ 0 then -1 else (aP (fun w => cntB (cou A p f n w) (cS A)) (nI (cntB (bt r) 36)) 4).1) (g1 := g2) (g2 := g4) (K := [0, 17, 18, 31, 32]) (S := [141, 142]) ?_ b2 b3 ?_ k2 (by decide) (by decide) (by omega) (by omega)
    · rw [f_X11_attempt, z1, bd_eq, if_pos e, c1, bd_eq, md0_4 hs1, gk47 hs1, so, bd_eq, j_bitCount, bd_eq, ec, b1]
    · show f_X12_attempt 136 (nI t) (nI p) g2 = _
      rw [f_X12_attempt, lg, r0 g2 b2 b3.1, bd_eq, if_pos e, f_X12_triedSet, d1', bd_eq, f_X12_bitsOf, bo', bd_eq, ← em, k1]
  · refine QA.of (v := z) (g1 := g) (g2 := sI g 136 0 0) (K := [0]) (S := []) ?_ (Qf.rf h1.1) h ?_ tF0 (by decide) (by decide) (Nat.le_refl _) (by omega)
    · rw [f_X11_attempt, z1, bd_eq, if_neg e]
    · show f_X12_attempt 136 v w g = _
      rw [f_X12_attempt, lg, r0 g (Qf.rf h1.1) h1, bd_eq, if_neg e]
end ATR
