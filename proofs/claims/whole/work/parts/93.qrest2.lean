/-! QUERIES answered alike: forces, best, rows, chance, likeliest. -/
section QR2
variable {X : Nat → Prop} {A : Nat → Int32} {g g' : G} {p ag n : Nat} {q pa la dp : Nat → Nat} {one two : Int32}
theorem c_playQ (hA : Dm A) (h : GH X A p g n q pa la dp) (hI : SI ag g) {c : Nat} (hc : c < 36) : ∃ g' lv, f_X3_play 27 2 (nI c) g = some ((), g') ∧ Qf g g' ∧ GH X A p g' n q pa la dp ∧ SI ag g' ∧ (∀ x, x < 2 * n → gI g' 33 x = oI (lv x)) ∧ Lv (slC (nxI (nxS A (fre A p) p (md A p)) q n)) (tgI q c) (fun x => x < 2 * n) lv := by
  obtain ⟨h1, h2, h3, h4, C1, C2, C3⟩ := id h
  obtain ⟨B1, B2, B3, B4, B5, B6, B7⟩ := id C1
  have hq : ∀ i, i < n → q i < 1296 := fun i hi => stB_lt hA (B4 i hi)
  obtain ⟨g1, lv, a1, a2, a3, a4, a5, a6⟩ := c_play B1 B7 hq hc h1.1 B2 B3 C3
  refine ⟨g1, lv, a1, Qf.fi a2 h1.1 (by decide), ⟨h1.fi a2 (by decide), h2, h3.fa a2.a (h2.no (by decide)) (by decide), ?_, C1.cg (fun k hk => a2.I (by simp [Sn]; omega)), ?_, Or.inr a3⟩, hI.fa h1.1 a2.a (fun k k1 k2 => by simp [Sn]; omega), a4, a6⟩
  · rw [a2.I (by decide)]
    exact h4
  · rw [a2.I (by decide)]
    exact C2.imp id (fun ⟨a, len, ord, b, c⟩ => ⟨a, len, ord, b, c.cg (fun k k1 k2 => a2.I (by simp [Sn]; omega))⟩)
theorem q_forces (h : QS X A ag g) (hag : ag + 1 < 2 ^ 30) (v w : Int32) : QA X A ag g (f_X11_forces 0 v w g) (fun g => f_X12_forces 136 v w g) := by
  obtain ⟨h1, h2, h3, h4, h5⟩ := id h; have hA := h1.2.2.1; have hBd := h1.2.2.2.1; have k3 := h1.k3; have cl := h1.cl; have hs := h1.1
  obtain ⟨pl, pl1, pl2⟩ := h3.2.1
  cases hp' : inR v (nv A 3) with
  | false =>
    refine QA.of (v := -2) (g1 := g) (g2 := sI g 136 0 0) (K := [0]) (S := []) ?_ (Qf.rf h1.1) h ?_ tF0 (by decide) (by decide) (Nat.le_refl _) (by omega)
    · rw [f_X11_forces, md0_4 hs, gk47 hs, c_isPair h3 hA, hp', bd_eq, ibF]
    · show f_X12_forces 136 v w g = _
      rw [f_X12_forces, lg, R_isPair h1.t0, inL_I, hp', bd_eq, ibF]
  | true =>
    cases hc' : inR w (cS A) with
    | false =>
      refine QA.of (v := -2) (g1 := g) (g2 := sI g 136 0 0) (K := [0]) (S := []) ?_ (Qf.rf h1.1) h ?_ tF0 (by decide) (by decide) (Nat.le_refl _) (by omega)
      · rw [f_X11_forces, md0_4 hs, gk47 hs, c_isPair h3 hA, hp', bd_eq, ibT, md0_4 hs, gk47 hs, pl1, dr_eq, gdK_pos pl2.2.1, c_isCell pl2 hA, hc', bd_eq, ibF]
      · show f_X12_forces 136 v w g = _
        rw [f_X12_forces, lg, R_isPair h1.t0, inL_I, hp', bd_eq, ibT, R_isCell h1.t0, inL_I, hc', bd_eq, ibF]
    | true =>
      obtain ⟨p, hp, rfl⟩ := pr_t hA hp'
      obtain ⟨c, hc, rfl⟩ := ce_t hA hc'
      obtain ⟨g0, ag', n, q, pa, la, dp, e1, e2, e3, e4, e5, e6⟩ := c_graphOf h hp hag
      have hs0 := e3.1.1
      obtain ⟨g1, lv, b1, b2, b3, b4, b5, b6⟩ := c_playQ (c := c) hA e3 e4 (by omega)
      obtain ⟨B1, B2, B3, B4, B5, B6, B7⟩ := id b3.2.2.2.2.1
      have hs1 := b3.1.1
      have n0 := B1.1.1
      obtain ⟨g2, d1, d2, d3⟩ := r_laysStands b3.1.t0 hp
      obtain ⟨g3, f1, f2, f3⟩ := r_laysForced (c := c) (b3.1.t0.fm d2 (by decide)) hp (by omega) d3
      have x3 : Fm [17, 18] [147, 151] g2 g3 := Fm.of f2 (by decide)
      have ll := LG_le (A := A) (p := p) (c := c) (2 * (36 * tw A (2 * p) + tw A (2 * p + 1)))
      have v0 : lv 0 = toLv (LG A p c) (2 * (36 * tw A (2 * p) + tw A (2 * p + 1))) := by
        rw [gm_same hA B1 B4 b6 (show 0 < 2 * n by omega)]
        unfold fC
        rw [B5]
        rfl
      refine QA.of (v := toF (LG A p c (2 * (36 * tw A (2 * p) + tw A (2 * p + 1)))) 0) (g1 := g1) (g2 := g3) (K := [0, 17, 18]) (S := [141, 142, 144, 145, 146, 147, 151]) ?_ (e2.tr b2) (b3.s hp b4) ?_ (((tF0.mono (by decide) (by decide)).tr (d2.mono (by decide) (by decide))).tr (x3.mono (by decide) (by decide))) (by decide) (by decide) e5 (by omega)
      · rw [f_X11_forces, md0_4 hs, gk47 hs, c_isPair h3 hA, hp', bd_eq, ibT, md0_4 hs, gk47 hs, pl1, dr_eq, gdK_pos pl2.2.1, c_isCell pl2 hA, hc', bd_eq, ibT, md0_13 hs, e1, bd_eq, gk27 hs0, gk2 hs0, b1, bd_eq, md0_13 hs1, gk27 hs1, f_X3_levelNow, md27_7 hs1, gk33 hs1, sn33 hs1, show (0 : Int32) = nI 0 from rfl, gdI_nI (by decide) (by decide), nI_clamp (by decide), b5 0 (by omega), v0, bd_eq]
        unfold toLv toF
        by_cases w : LG A p c (2 * (36 * tw A (2 * p) + tw A (2 * p + 1))) < 1073741824
        · rw [if_pos w, if_neg (by omega), if_pos rfl]
          rfl
        · rw [if_neg w, if_pos (by omega)]
          rfl
      · show f_X12_forces 136 (nI p) (nI c) g1 = _
        rw [f_X12_forces, lg, R_isPair b3.1.t0, inL_I, hp', bd_eq, ibT, R_isCell b3.1.t0, inL_I, hc', bd_eq, ibT, d1, bd_eq, f1, bd_eq, f_X12_toldFar, lFA]
        generalize LG A p c (2 * (36 * tw A (2 * p) + tw A (2 * p + 1))) = L at ll
        unfold toF
        by_cases z : L = 1073741824
        · rw [if_pos z, if_pos (by rw [z]), bd_eq]
        · rw [if_neg z, if_neg (fun u => z ((nI_eq (by omega) (by decide)).mp u)), if_pos rfl, if_pos rfl, bd_eq]
theorem q_best (h : QS X A ag g) (hag : ag + 1 < 2 ^ 30) (v w : Int32) : QA X A ag g (f_X11_best 0 v w g) (fun g => f_X12_best 136 v w g) := by
  obtain ⟨h1, h2, h3, h4, h5⟩ := id h; have hA := h1.2.2.1; have hBd := h1.2.2.2.1; have k3 := h1.k3; have cl := h1.cl; have hs := h1.1
  obtain ⟨pl, pl1, pl2⟩ := h3.2.1
  cases hp' : inR v (nv A 3) with
  | false =>
    refine QA.of (v := -2) (g1 := g) (g2 := sI g 136 0 0) (K := [0]) (S := []) ?_ (Qf.rf h1.1) h ?_ tF0 (by decide) (by decide) (Nat.le_refl _) (by omega)
    · rw [f_X11_best, md0_4 hs, gk47 hs, c_isPair h3 hA, hp', bd_eq, ibF]
    · show f_X12_best 136 v w g = _
      rw [f_X12_best, lg, R_isPair h1.t0, inL_I, hp', bd_eq, ibF]
  | true =>
    cases hc' : inR w (cS A) with
    | false =>
      refine QA.of (v := -2) (g1 := g) (g2 := sI g 136 0 0) (K := [0]) (S := []) ?_ (Qf.rf h1.1) h ?_ tF0 (by decide) (by decide) (Nat.le_refl _) (by omega)
      · rw [f_X11_best, md0_4 hs, gk47 hs, c_isPair h3 hA, hp', bd_eq, ibT, md0_4 hs, gk47 hs, pl1, dr_eq, gdK_pos pl2.2.1, c_isCell pl2 hA, hc', bd_eq, ibF]
      · show f_X12_best 136 v w g = _
        rw [f_X12_best, lg, R_isPair h1.t0, inL_I, hp', bd_eq, ibT, R_isCell h1.t0, inL_I, hc', bd_eq, ibF]
    | true =>
      obtain ⟨p, hp, rfl⟩ := pr_t hA hp'
      obtain ⟨c, hc, rfl⟩ := ce_t hA hc'
      obtain ⟨g0, ag', n, q, pa, la, dp, e1, e2, e3, e4, e5, e6⟩ := c_graphOf h hp hag
      have hs0 := e3.1.1
      obtain ⟨g1, lv, b1, b2, b3, b4, b5, b6⟩ := c_playQ (c := c) hA e3 e4 (by omega)
      obtain ⟨B1, B2, B3, B4, B5, B6, B7⟩ := id b3.2.2.2.2.1
      have hs1 := b3.1.1
      obtain ⟨g2, d1, d2, d3⟩ := r_laysStands b3.1.t0 hp
      have hr2 := b3.1.t0.fm d2 (by decide)
      obtain ⟨g3, f1, f2, f3⟩ := r_laysForced (c := c) hr2 hp (by omega) d3
      have x3 : Fm [17, 18] [147, 151] g2 g3 := Fm.of f2 (by decide)
      have ll := LG_le (A := A) (p := p) (c := c) (2 * (36 * tw A (2 * p) + tw A (2 * p + 1)))
      have cb := c_fb2 (c := c) hA B1 B7 B4 hs1 B2 B3 B5 b5 b6 FU 0 (by decide) (by have := @FU_gt 4 (by decide); omega) (fun d hd => by omega)
      have cb' : f_X3_firstBest_2 FU 27 2 0 g1 = some (bsR A p c, g1) := cb
      refine QA.of (v := bsR A p c) (g1 := g1) (g2 := g3) (K := [0, 17, 18]) (S := [141, 142, 144, 145, 146, 147, 151]) ?_ (e2.tr b2) (b3.s hp b4) ?_ (((tF0.mono (by decide) (by decide)).tr (d2.mono (by decide) (by decide))).tr (x3.mono (by decide) (by decide))) (by decide) (by decide) e5 (by omega)
      · rw [f_X11_best, md0_4 hs, gk47 hs, c_isPair h3 hA, hp', bd_eq, ibT, md0_4 hs, gk47 hs, pl1, dr_eq, gdK_pos pl2.2.1, c_isCell pl2 hA, hc', bd_eq, ibT, e1, bd_eq, md0_13 hs0, gk27 hs0, gk2 hs0, b1, bd_eq, md0_13 hs1, gk27 hs1, f_X3_firstBest, cb', bd_eq]
      · show f_X12_best 136 (nI p) (nI c) g1 = _
        rw [f_X12_best, lg, R_isPair b3.1.t0, inL_I, hp', bd_eq, ibT, R_isCell b3.1.t0, inL_I, hc', bd_eq, ibT, d1, bd_eq, f1, bd_eq, lFA]
        unfold bsR
        by_cases z : LG A p c (2 * (36 * tw A (2 * p) + tw A (2 * p + 1))) = 1073741824
        · rw [if_pos z, if_pos (by rw [z])]
        · rw [if_neg z, if_neg (fun u => z ((nI_eq (by omega) (by decide)).mp u))]
          by_cases y : LG A p c (2 * (36 * tw A (2 * p) + tw A (2 * p + 1))) = 0
          · rw [if_pos y, if_pos (by rw [y]; rfl)]
          · have rb := r_best54 (c := c) (hr2.fm x3 (by decide)) hp (d3.fm x3 (by decide) (by decide) (by decide)) f3 (now_st hA hBd hp) (by omega) FU 0 (by decide) (by have := @FU_gt 4 (by decide); omega) (fun d hd => by omega)
            have rb' : f_X12_best_54 FU 136 (nI p) (nI (LG A p c (2 * (36 * tw A (2 * p) + tw A (2 * p + 1))))) 0 g3 = _ := rb
            rw [if_neg y, if_neg (nI_ne0 (by omega) (by omega)), rb']
theorem wi_n (v : Int32) (n : Nat) (hn : n < 2 ^ 30) : (∃ k, k ≤ n ∧ v = nI k) ∨ ¬ (0 ≤ v.toInt ∧ v.toInt ≤ n) := by
  by_cases z : 0 ≤ v.toInt ∧ v.toInt ≤ n
  · left
    obtain ⟨j, j1, j2⟩ := inR_true (x := v) (n := n + 1) (decide_eq_true ⟨z.1, by omega⟩) (by omega)
    exact ⟨j, by omega, j2⟩
  · exact Or.inr z
theorem q_rows (h : QS X A ag g) (hag : ag + 1 < 2 ^ 30) (v one two k : Int32) : QA X A ag g (f_X11_rows 0 v one two k g) (fun g => f_X12_rows 136 v one two k g) := by
  obtain ⟨h1, h2, h3, h4, h5⟩ := id h; have hA := h1.2.2.1; have hBd := h1.2.2.2.1; have k3 := h1.k3; have cl := h1.cl; have hs := h1.1
  have e : k.toInt64.toInt = k.toInt := Int32.toInt_toInt64 k
  have o : (15 : Int64).toInt = 15 := rfl
  have z0 : (0 : Int64).toInt = 0 := rfl
  cases hgo : goB A v one two with
  | false =>
    refine QA.of (v := -2) (g1 := g) (g2 := sI g 136 0 0) (K := [0]) (S := []) ?_ (Qf.rf h1.1) h ?_ tF0 (by decide) (by decide) (Nat.le_refl _) (by omega)
    · rw [f_X11_rows, c_isGoal h3 hA h1.1, hgo, bd_eq, ibF]
    · show f_X12_rows 136 v one two k g = _
      rw [f_X12_rows, lg, r_isGoalTold h1.t0, hgo, bd_eq, ibF]
  | true =>
    rcases wi_n k 15 (by decide) with ⟨m, hm, rfl⟩ | kn
    · obtain ⟨p, hp, rfl, c1, c2⟩ := goB_true hA hgo
      obtain ⟨g1, ag', n, q, pa, la, dp, e1, e2, e3, e4, e5, e6⟩ := c_graphOf h hp hag
      obtain ⟨B1, B2, B3, B4, B5, B6, B7⟩ := id e3.2.2.2.2.1
      have hs1 := e3.1.1
      have hq : ∀ i, i < n → q i < 1296 := fun i hi => stB_lt hA (B4 i hi)
      obtain ⟨g2, b1, b2⟩ := c_rowsB B1 B7 hq hm one two hs1 B2 B3
      have e3' := e3.fi b2 (by decide)
      have e4' := e4.fa hs1 b2.a (fun k k1 k2 => by simp [So]; omega)
      obtain ⟨g3, d1, d2⟩ := r_rowsB e3'.1.t0 hp B1 B4 B5 hm one two
      refine QA.of (v := lN (sumN (fun i => if fitB (q i) one two = true then itV (nxI (nxS A (fre A p) p (md A p)) q n) 0 n (dlt 0) m i else 0) n)) (g1 := g2) (g2 := g3) (K := [0, 17, 18]) (S := [141, 142, 144, 145, 146, 149, 150]) ?_ (e2.tr (Qf.fi b2 hs1 (by decide))) (e3'.s hp e4') ?_ ((tF0.mono (by decide) (by decide)).tr (d2.mono (by decide) (by decide))) (by decide) (by decide) e5 (by omega)
      · rw [f_X11_rows, c_isGoal h3 hA h1.1, hgo, bd_eq, ibT, if_neg (nI_pos (by omega)), if_pos (show nI m ≤ 15 from nI_le (b := 15) hm (by decide)), e1, bd_eq, b1]
      · show f_X12_rows 136 (nI p) one two (nI m) g2 = _
        rw [f_X12_rows, lg, r_isGoalTold e3'.1.t0, hgo, bd_eq, ibT, r_within, bd_eq, decide_eq_true (by rw [e, z0, o, nI_toInt (by omega)]; omega), ibT, d1]
    · refine QA.of (v := -3) (g1 := g) (g2 := sI g 136 0 0) (K := [0]) (S := []) ?_ (Qf.rf h1.1) h ?_ tF0 (by decide) (by decide) (Nat.le_refl _) (by omega)
      · rw [f_X11_rows, c_isGoal h3 hA h1.1, hgo, bd_eq, ibT, f_X11_rows_26]
        by_cases u : k < 0
        · rw [if_pos u]
        · rw [if_neg u, if_neg (fun w => kn ?_)]
          rw [Int32.not_lt, Int32.le_iff_toInt_le] at u
          rw [Int32.le_iff_toInt_le] at w
          exact ⟨u, w⟩
      · show f_X12_rows 136 v one two k g = _
        rw [f_X12_rows, lg, r_isGoalTold h1.t0, hgo, bd_eq, ibT, r_within, bd_eq, decide_eq_false (by rw [e, z0, o]; exact kn), ibF]
end QR2
