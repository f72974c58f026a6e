/-! QUERIES answered alike: chance, likeliest, errands, errandWay. -/
section QR4
variable {X : Nat → Prop} {A : Nat → Int32} {g g' : G} {p ag n : Nat} {q pa la dp : Nat → Nat} {one two : Int32}
theorem r_wib (v : Int32) (b : Nat) (hb : b < 2 ^ 30) : f_X12_within v.toInt64 0 (lN b) g = some (decide (0 ≤ v.toInt ∧ v.toInt ≤ b), g) := by
  have e : v.toInt64.toInt = v.toInt := Int32.toInt_toInt64 v
  have z0 : (0 : Int64).toInt = 0 := rfl
  have o : (lN b).toInt = b := lN_toInt (by omega)
  rw [r_within, e, z0, o]
theorem out_of {k : Int32} {b : Nat} (hb : b < 2 ^ 30) (kn : ¬ (0 ≤ k.toInt ∧ k.toInt ≤ b)) : k < 0 ∨ ¬ k < 0 ∧ ¬ k ≤ nI b := by
  by_cases u : k < 0
  · exact Or.inl u
  · refine Or.inr ⟨u, fun w => kn ?_⟩
    rw [Int32.not_lt, Int32.le_iff_toInt_le] at u
    rw [Int32.le_iff_toInt_le, nI_toInt (by omega)] at w
    exact ⟨u, w⟩
theorem q_chance (h : QS X A ag g) (hag : ag + 2 < 2 ^ 30) (v w c k u : Int32) : QA X A ag g (f_X11_chance 0 v w c k u g) (fun g => f_X12_chance 136 v w c k u g) := by
  obtain ⟨h1, h2, h3, h4, h5⟩ := id h; have hA := h1.2.2.1; have hBd := h1.2.2.2.1; have k3 := h1.k3; have cl := h1.cl; have hs := h1.1
  obtain ⟨pl, pl1, pl2⟩ := h3.2.1
  have no : f_X11_chance_36 0 v w c k u g = some (-2, g) := by
    rw [f_X11_chance_36, f_X11_chance_37, if_pos rfl, f_X11_chance_55]
  have w1 : ∀ g, f_X12_within u.toInt64 0 1 g = some (decide (0 ≤ u.toInt ∧ u.toInt ≤ 1), g) := fun g => r_wib u 1 (by decide)
  have w5 : ∀ g, f_X12_within k.toInt64 0 5 g = some (decide (0 ≤ k.toInt ∧ k.toInt ≤ 5), g) := fun g => r_wib k 5 (by decide)
  cases hp' : inR v (nv A 3) with
  | false =>
    refine QA.of (v := -2) (g1 := g) (g2 := sI g 136 0 0) (K := [0]) (S := []) ?_ (Qf.rf h1.1) h ?_ tF0 (by decide) (by decide) (Nat.le_refl _) (by omega)
    · rw [f_X11_chance, md0_4 hs, gk47 hs, c_isPair h3 hA, hp', bd_eq, ibF, no]
    · show f_X12_chance 136 v w c k u g = _
      rw [f_X12_chance, lg, R_isPair h1.t0, inL_I, hp', bd_eq, ibF, f_X12_chance_41]
  | true =>
    cases ht' : twB w with
    | false =>
      refine QA.of (v := -2) (g1 := g) (g2 := sI g 136 0 0) (K := [0]) (S := []) ?_ (Qf.rf h1.1) h ?_ tF0 (by decide) (by decide) (Nat.le_refl _) (by omega)
      · rw [f_X11_chance, md0_4 hs, gk47 hs, c_isPair h3 hA, hp', bd_eq, ibT, c_isTwin, ht', bd_eq, ibF, no]
      · show f_X12_chance 136 v w c k u g = _
        rw [f_X12_chance, lg, R_isPair h1.t0, inL_I, hp', bd_eq, ibT, r_isTwin, ht', bd_eq, ibF, f_X12_chance_41]
    | true =>
      cases hc' : inR c (cS A) with
      | false =>
        refine QA.of (v := -2) (g1 := g) (g2 := sI g 136 0 0) (K := [0]) (S := []) ?_ (Qf.rf h1.1) h ?_ tF0 (by decide) (by decide) (Nat.le_refl _) (by omega)
        · rw [f_X11_chance, md0_4 hs, gk47 hs, c_isPair h3 hA, hp', bd_eq, ibT, c_isTwin, ht', bd_eq, ibT, md0_4 hs, gk47 hs, pl1, dr_eq, gdK_pos pl2.2.1, c_isCell pl2 hA, hc', bd_eq, ibF, no]
        · show f_X12_chance 136 v w c k u g = _
          rw [f_X12_chance, lg, R_isPair h1.t0, inL_I, hp', bd_eq, ibT, r_isTwin, ht', bd_eq, ibT, R_isCell h1.t0, inL_I, hc', bd_eq, ibF, f_X12_chance_41]
      | true =>
        rcases wi_n u 1 (by decide) with ⟨b, hb, rfl⟩ | un
        · have ub : decide (0 ≤ (nI b).toInt ∧ (nI b).toInt ≤ 1) = true := decide_eq_true (by rw [nI_toInt (by omega)]; omega)
          rcases wi_n k 5 (by decide) with ⟨m, hm, rfl⟩ | kn
          · have kb : decide (0 ≤ (nI m).toInt ∧ (nI m).toInt ≤ 5) = true := decide_eq_true (by rw [nI_toInt (by omega)]; omega)
            obtain ⟨p, hp, rfl⟩ := pr_t hA hp'
            obtain ⟨t, ht, rfl⟩ := twB_t ht'
            obtain ⟨d, hd, rfl⟩ := ce_t hA hc'
            obtain ⟨g1, ag', n, q, pa, la, dp, e1, e2, e3, e4, e5, e6⟩ := c_graphOf h hp (by omega)
            obtain ⟨B1, B2, B3, B4, B5, B6, B7⟩ := id e3.2.2.2.2.1
            have hs1 := e3.1.1
            have hq : ∀ i, i < n → q i < 1296 := fun i hi => stB_lt hA (B4 i hi)
            obtain ⟨g2, b1, b2, b3⟩ := c_chances B1 B7 hm hs1 B2 B3
            have e3' := e3.fi b2 (by decide)
            have hs2 := e3'.1.1
            have e4' := e4.fa hs1 b2.a (fun k k1 k2 => by simp [So]; omega)
            have cc := c_ch116 (c := d) (w := b) hs2 (B2.fi b2 noSo) B1 B7 hq hm ht (by omega) (by omega) b3
            obtain ⟨g3, d1, d2, d3⟩ := r_laysLikely e3'.1.t0 hp B1 B4 B5 hm
            have rc := r_ch75 (c := d) (w := b) ((e3'.1.t0.1).fm d2) B1 hq hm ht (by omega) (by omega) d3 FU 0 (Nat.zero_le _) (by have := @FU_gt m (by omega); omega)
            have rc' : f_X12_chance_75 FU 136 (nI t) (nI d) (nI m) (nI b) 1 0 g3 = _ := rc
            refine QA.of (v := lN (chV b (840 ^ m) (lkI (nxS A (fre A p) p (md A p)) q n m t d))) (g1 := g2) (g2 := g3) (K := [0, 17, 18]) (S := [141, 142, 144, 145, 146, 149, 150]) ?_ (e2.tr (Qf.fi b2 hs1 (by decide))) (e3'.s hp e4') ?_ ((tF0.mono (by decide) (by decide)).tr (d2.mono (by decide) (by decide))) (by decide) (by decide) e5 (by omega)
            · rw [f_X11_chance, md0_4 hs, gk47 hs, c_isPair h3 hA, hp', bd_eq, ibT, c_isTwin, ht', bd_eq, ibT, md0_4 hs, gk47 hs, pl1, dr_eq, gdK_pos pl2.2.1, c_isCell pl2 hA, hc', bd_eq, ibT, f_X11_chance_37, if_neg (by decide), if_neg (nI_pos (by omega)), if_pos (show nI b ≤ 1 from nI_le (b := 1) hb (by decide)), if_neg (nI_pos (by omega)), if_pos (show nI m ≤ 5 from nI_le (b := 5) hm (by decide)), e1, bd_eq, gk2 hs1, b1, bd_eq, md0_14 hs2, gk35 hs2, gk35 hs2, f_X11_chance_106, f_X11_chance_106]
              obtain rfl | rfl : t = 0 ∨ t = 1 := by omega
              · rw [if_pos (show nI 0 = 0 from rfl), if_neg (by decide)]
                rw [if_neg (by decide), if_pos rfl] at cc
                exact cc
              · rw [if_neg (by decide), if_pos (show nI 1 = 1 from rfl)]
                rw [if_pos rfl, if_neg (by decide)] at cc
                exact cc
            · show f_X12_chance 136 (nI p) (nI t) (nI d) (nI m) (nI b) g2 = _
              rw [f_X12_chance, lg, R_isPair e3'.1.t0, inL_I, hp', bd_eq, ibT, r_isTwin, ht', bd_eq, ibT, R_isCell e3'.1.t0, inL_I, hc', bd_eq, ibT, w1, ub, bd_eq, ibT, w5, kb, bd_eq, ibT, d1, bd_eq, rc']
          · refine QA.of (v := -3) (g1 := g) (g2 := sI g 136 0 0) (K := [0]) (S := []) ?_ (Qf.rf h1.1) h ?_ tF0 (by decide) (by decide) (Nat.le_refl _) (by omega)
            · rw [f_X11_chance, md0_4 hs, gk47 hs, c_isPair h3 hA, hp', bd_eq, ibT, c_isTwin, ht', bd_eq, ibT, md0_4 hs, gk47 hs, pl1, dr_eq, gdK_pos pl2.2.1, c_isCell pl2 hA, hc', bd_eq, ibT, f_X11_chance_37, if_neg (by decide), if_neg (nI_pos (by omega)), if_pos (show nI b ≤ 1 from nI_le (b := 1) hb (by decide)), f_X11_chance_70]
              rcases (show k < 0 ∨ ¬ k < 0 ∧ ¬ k ≤ 5 from out_of (b := 5) (by decide) kn) with y | ⟨y, y'⟩
              · rw [if_pos y]
              · rw [if_neg y, if_neg y']
            · show f_X12_chance 136 v w c k (nI b) g = _
              rw [f_X12_chance, lg, R_isPair h1.t0, inL_I, hp', bd_eq, ibT, r_isTwin, ht', bd_eq, ibT, R_isCell h1.t0, inL_I, hc', bd_eq, ibT, w1, ub, bd_eq, ibT, w5, decide_eq_false (show ¬ (0 ≤ k.toInt ∧ k.toInt ≤ 5) from kn), bd_eq, ibF]
        · refine QA.of (v := -2) (g1 := g) (g2 := sI g 136 0 0) (K := [0]) (S := []) ?_ (Qf.rf h1.1) h ?_ tF0 (by decide) (by decide) (Nat.le_refl _) (by omega)
          · rw [f_X11_chance, md0_4 hs, gk47 hs, c_isPair h3 hA, hp', bd_eq, ibT, c_isTwin, ht', bd_eq, ibT, md0_4 hs, gk47 hs, pl1, dr_eq, gdK_pos pl2.2.1, c_isCell pl2 hA, hc', bd_eq, ibT, f_X11_chance_37, if_neg (by decide), f_X11_chance_55]
            rcases (show u < 0 ∨ ¬ u < 0 ∧ ¬ u ≤ 1 from out_of (b := 1) (by decide) un) with y | ⟨y, y'⟩
            · rw [if_pos y]
            · rw [if_neg y, if_neg y']
          · show f_X12_chance 136 v w c k u g = _
            rw [f_X12_chance, lg, R_isPair h1.t0, inL_I, hp', bd_eq, ibT, r_isTwin, ht', bd_eq, ibT, R_isCell h1.t0, inL_I, hc', bd_eq, ibT, w1, decide_eq_false (show ¬ (0 ≤ u.toInt ∧ u.toInt ≤ 1) from un), bd_eq, ibF, f_X12_chance_41]
theorem q_likeliest (h : QS X A ag g) (hag : ag + 2 < 2 ^ 30) (v w k : Int32) : QA X A ag g (f_X11_likeliest 0 v w k g) (fun g => f_X12_likeliest 136 v w k g) := by
  obtain ⟨h1, h2, h3, h4, h5⟩ := id h; have hA := h1.2.2.1; have hBd := h1.2.2.2.1; have k3 := h1.k3; have cl := h1.cl; have hs := h1.1
  have w5 : ∀ g, f_X12_within k.toInt64 0 5 g = some (decide (0 ≤ k.toInt ∧ k.toInt ≤ 5), g) := fun g => r_wib k 5 (by decide)
  cases hp' : inR v (nv A 3) with
  | false =>
    refine QA.of (v := -2) (g1 := g) (g2 := sI g 136 0 0) (K := [0]) (S := []) ?_ (Qf.rf h1.1) h ?_ tF0 (by decide) (by decide) (Nat.le_refl _) (by omega)
    · rw [f_X11_likeliest, md0_4 hs, gk47 hs, c_isPair h3 hA, hp', bd_eq, ibF]
    · show f_X12_likeliest 136 v w k g = _
      rw [f_X12_likeliest, lg, R_isPair h1.t0, inL_I, hp', bd_eq, ibF]
  | true =>
    cases ht' : twB w with
    | false =>
      refine QA.of (v := -2) (g1 := g) (g2 := sI g 136 0 0) (K := [0]) (S := []) ?_ (Qf.rf h1.1) h ?_ tF0 (by decide) (by decide) (Nat.le_refl _) (by omega)
      · rw [f_X11_likeliest, md0_4 hs, gk47 hs, c_isPair h3 hA, hp', bd_eq, ibT, c_isTwin, ht', bd_eq, ibF]
      · show f_X12_likeliest 136 v w k g = _
        rw [f_X12_likeliest, lg, R_isPair h1.t0, inL_I, hp', bd_eq, ibT, r_isTwin, ht', bd_eq, ibF]
    | true =>
      rcases wi_n k 5 (by decide) with ⟨m, hm, rfl⟩ | kn
      · have kb : decide (0 ≤ (nI m).toInt ∧ (nI m).toInt ≤ 5) = true := decide_eq_true (by rw [nI_toInt (by omega)]; omega)
        obtain ⟨p, hp, rfl⟩ := pr_t hA hp'
        obtain ⟨t, ht, rfl⟩ := twB_t ht'
        obtain ⟨g1, ag', n, q, pa, la, dp, e1, e2, e3, e4, e5, e6⟩ := c_graphOf h hp (by omega)
        obtain ⟨B1, B2, B3, B4, B5, B6, B7⟩ := id e3.2.2.2.2.1
        have hs1 := e3.1.1
        have hq : ∀ i, i < n → q i < 1296 := fun i hi => stB_lt hA (B4 i hi)
        have hce : ∀ i, i < n → ceI q t i < cS A := fun i hi => by
          have := (stB_iff.mp (B4 i hi)).1
          exact ow_lt this.1 this.2.1
        obtain ⟨g2, b1, b2, b3⟩ := c_chances B1 B7 hm hs1 B2 B3
        have e3' := e3.fi b2 (by decide)
        have hs2 := e3'.1.1
        have e4' := e4.fa hs1 b2.a (fun k k1 k2 => by simp [So]; omega)
        obtain ⟨g3, cc, c4⟩ := c_likeliest hs2 (B2.fi b2 noSo) B1 B7 hq hm ht b3
        have e3'' := e3'.fi c4 (by decide)
        have e4'' := e4'.fa hs2 c4.a (fun k k1 k2 => by simp; omega)
        obtain ⟨g4, d1, d2, d3⟩ := r_laysLikely e3''.1.t0 hp B1 B4 B5 hm
        have rc := r_likeliest (e3''.1.t0.fm d2 (by decide)) B1 hq hm ht hce d3
        refine QA.of (v := nI (gtW (lkI (nxS A (fre A p) p (md A p)) q n m t) 35)) (g1 := g3) (g2 := g4) (K := [0, 17, 18]) (S := [141, 142, 144, 145, 146, 149, 150]) ?_ ((e2.tr (Qf.fi b2 hs1 (by decide))).tr (Qf.fi c4 hs2 (by decide))) (e3''.s hp e4'') ?_ ((tF0.mono (by decide) (by decide)).tr (d2.mono (by decide) (by decide))) (by decide) (by decide) e5 (by omega)
        · rw [f_X11_likeliest, md0_4 hs, gk47 hs, c_isPair h3 hA, hp', bd_eq, ibT, c_isTwin, ht', bd_eq, ibT, if_neg (nI_pos (by omega)), if_pos (show nI m ≤ 5 from nI_le (b := 5) hm (by decide)), e1, bd_eq, gk2 hs1, b1, bd_eq, md0_14 hs2, gk35 hs2, cc, bd_eq]
        · show f_X12_likeliest 136 (nI p) (nI t) (nI m) g3 = _
          rw [f_X12_likeliest, lg, R_isPair e3''.1.t0, inL_I, hp', bd_eq, ibT, r_isTwin, ht', bd_eq, ibT, w5, kb, bd_eq, ibT, d1, bd_eq, rc]
      · refine QA.of (v := -3) (g1 := g) (g2 := sI g 136 0 0) (K := [0]) (S := []) ?_ (Qf.rf h1.1) h ?_ tF0 (by decide) (by decide) (Nat.le_refl _) (by omega)
        · rw [f_X11_likeliest, md0_4 hs, gk47 hs, c_isPair h3 hA, hp', bd_eq, ibT, c_isTwin, ht', bd_eq, ibT]
          rcases (show k < 0 ∨ ¬ k < 0 ∧ ¬ k ≤ 5 from out_of (b := 5) (by decide) kn) with y | ⟨y, y'⟩
          · rw [if_pos y]
          · rw [if_neg y, if_neg y']
        · show f_X12_likeliest 136 v w k g = _
          rw [f_X12_likeliest, lg, R_isPair h1.t0, inL_I, hp', bd_eq, ibT, r_isTwin, ht', bd_eq, ibT, w5, decide_eq_false (show ¬ (0 ≤ k.toInt ∧ k.toInt ≤ 5) from kn), bd_eq, ibF]
end QR4
