/-! THE REFERENCE'S STANDS: where a lead leads to, what it costs. -/
section RST
def csS (A : Nat → Int32) (p m c y : Nat) : Nat := cst A p m 0 (c / 36) (y / 36) + cst A p m 1 (c % 36) (y % 36)
variable {A : Nat → Int32} {g g' : G} {p : Nat}
theorem r_inStand {c t : Nat} (hc : c < 1296) (ht : t < 2) : f_X12_inStand (nI c) (nI t) g = some (nI (ow t (c / 36) (c % 36)), g) := by
  rw [f_X12_inStand, ldi36 (by omega), lmo36]
  obtain rfl | rfl : t = 0 ∨ t = 1 := by omega
  · rw [if_pos (show nI 0 = 0 from rfl)]
    rfl
  · rw [if_neg (by decide)]
    rfl
theorem ow_1 {t a b : Nat} (ht : t < 2) : ow (1 - t) a b = ow t b a := by
  obtain rfl | rfl : t = 0 ∨ t = 1 := by omega
  · rfl
  · rfl
theorem cst_le (A : Nat → Int32) (hA : Dm A) {p m t a c : Nat} (ha : a < 36) (hc : c < 36) : cst A p m t a c ≤ 99 := by
  unfold cst
  split
  · decide
  · split
    · have := apS_le hA.2.2.2.2.1 hA.2.2.2.2.2.1 ha hc
      omega
    · split
      · decide
      · split
        · decide
        · next h1 h2 =>
          obtain ⟨j, j1, j2⟩ := nI_of h1
          rw [j2] at h2 ⊢
          rw [nI_ltI (by decide) j1] at h2
          rw [nI_clamp j1]
          omega
theorem csS_le (hA : Dm A) {p m c y : Nat} (hc : c < 1296) (hy : y < 1296) : csS A p m c y ≤ 198 := by
  have h1 := cst_le A hA (p := p) (m := m) (t := 0) (show c / 36 < 36 by omega) (show y / 36 < 36 by omega)
  have h2 := cst_le A hA (p := p) (m := m) (t := 1) (show c % 36 < 36 by omega) (show y % 36 < 36 by omega)
  unfold csS
  omega
theorem r_laysLead (h : RS A g) {c l : Nat} (hp : p < nv A 3) (hc : stB A (fre A p) p c = true) (hl : l < 8) : ∃ g', f_X12_laysLead 136 (nI p) (nI c) (nI l) g = some ((), g') ∧ Fm [17, 18] [141, 142, 145, 146] g g' ∧ gI g' 145 = upd (gI g 145) (8 * c + l) (oI (nxS A (fre A p) p (md A p) c l)) ∧ (∀ y, nxS A (fre A p) p (md A p) c l = some y → gI g' 146 (8 * c + l) = nI (csS A p (md A p) c y)) ∧ ∀ j, j ≠ 8 * c + l → gI g' 146 j = gI g 146 j := by
  have hA := h.2.2.1
  have cl := h.cl
  have c1296 := stB_lt hA hc
  obtain ⟨⟨c1, c2, c3⟩, f1, f2⟩ := stB_iff.mp hc
  have hs := h.1
  have ht : l / 4 < 2 := by omega
  have x1 : Fm [17, 18] [141, 142, 145, 146] g (sI g 145 (8 * c + l) (-1)) := Fm.rf.si (by decide) (by decide)
  have h1 := h.fm x1 (by decide)
  have oa := ow_lt (t := l / 4) c1 c2
  have ob := ow_lt (t := l / 4) c2 c1
  have wa := fre_wl (ow_F (F := fre A p) (t := l / 4) f1 f2)
  have wb := fre_wl (ow_F (F := fre A p) (t := l / 4) f2 f1)
  obtain ⟨g2, e1, e2, e3⟩ := r_whyBy h1 hp ht oa ob (w := l % 4) (by omega) wa wb
  have h2 := h1.fm e2 (by decide)
  have hs2 := h2.1
  have x2 : Fm [17, 18] [141, 142, 145, 146] g g2 := x1.tr (e2.mono (by decide) (by decide))
  have i2 : gI g2 145 = upd (gI g 145) (8 * c + l) (-1) := by rw [e2.I (by decide), gI_sIs]
  have i6 : gI g2 146 = gI g 146 := by rw [e2.I (by decide), gI_sIn (by decide)]
  rw [f_X12_laysLead, li, ldi4 (by omega), r_inStand c1296 ht, bd_eq, nI_sub1 ht, r_inStand c1296 (by omega), ow_1 ht, bd_eq, md136_24 hs, gk145 hs, sn145 hs, lum8, nI_add, gdI_nI (by omega) (by decide), lg, nI_clamp (by omega), lmo4, e1, bd_eq]
  by_cases z : (stS A (fre A p) p (md A p) (l / 4) (ow (l / 4) (c / 36) (c % 36)) (ow (l / 4) (c % 36) (c / 36)) (l % 4)).1 = 0
  · obtain ⟨s1, s2, s3, s4, s5, -⟩ := stS_ok hA oa ob z
    obtain ⟨v1, v2⟩ := e3 z
    have nx : nxS A (fre A p) p (md A p) c l = some (36 * ow (l / 4) (stS A (fre A p) p (md A p) (l / 4) (ow (l / 4) (c / 36) (c % 36)) (ow (l / 4) (c % 36) (c / 36)) (l % 4)).2.1 (stS A (fre A p) p (md A p) (l / 4) (ow (l / 4) (c / 36) (c % 36)) (ow (l / 4) (c % 36) (c / 36)) (l % 4)).2.2 + ow (l / 4) (stS A (fre A p) p (md A p) (l / 4) (ow (l / 4) (c / 36) (c % 36)) (ow (l / 4) (c % 36) (c / 36)) (l % 4)).2.2 (stS A (fre A p) p (md A p) (l / 4) (ow (l / 4) (c / 36) (c % 36)) (ow (l / 4) (c % 36) (c / 36)) (l % 4)).2.1) := by
      unfold nxS
      rw [if_pos z]
    rw [z, if_pos (show nI 0 = 0 from rfl), md136_24 hs2, nx]
    clear nx e3 e1 z
    have cse : ∀ d1 d2, d2 < cS A → csS A p (md A p) c (36 * ow (l / 4) d1 d2 + ow (l / 4) d2 d1) = cst A p (md A p) (l / 4) (ow (l / 4) (c / 36) (c % 36)) d1 + cst A p (md A p) (1 - l / 4) (ow (l / 4) (c % 36) (c / 36)) d2 ∨ cS A ≤ d1 := fun d1 d2 h2 => by
      rcases Nat.lt_or_ge d1 (cS A) with h1 | h1
      · left
        unfold csS
        have o := ow_lt (t := l / 4) h2 h1
        obtain ⟨u1, u2⟩ := @cd_dm (ow (l / 4) d1 d2) (ow (l / 4) d2 d1) (by omega)
        rw [u1, u2]
        obtain e | e : l / 4 = 0 ∨ l / 4 = 1 := by omega
        · rw [e]
          rfl
        · rw [e]
          exact Nat.add_comm _ _
      · exact Or.inr h1
    generalize stS A (fre A p) p (md A p) (l / 4) (ow (l / 4) (c / 36) (c % 36)) (ow (l / 4) (c % 36) (c / 36)) (l % 4) = r at *
    obtain ⟨w, d1, d2⟩ := r
    dsimp only at *
    have cse' := (cse d1 d2 s2).resolve_right (by omega)
    have x3 : Fm [17, 18] [141, 142, 145, 146] g (sI g2 145 (8 * c + l) (nI (36 * ow (l / 4) d1 d2 + ow (l / 4) d2 d1))) := x2.si (by decide) (by decide)
    have h3 := h.fm x3 (by decide)
    obtain ⟨g4, k1, k2⟩ := R_costOf h3 hp ht oa s1 wa (fre_wl s3)
    have h4 := h3.fi k2 (by decide)
    obtain ⟨g5, k3, k4⟩ := R_costOf h4 hp (show 1 - l / 4 < 2 by omega) ob s2 wb (fre_wl s4)
    have h5 := h4.fi k4 (by decide)
    have l93 : f_X12_laysLead_93 136 (nI p) (nI c) (nI l) (nI (l / 4)) (nI (ow (l / 4) (c / 36) (c % 36))) (nI (ow (l / 4) (c % 36) (c / 36))) (nI (36 * ow (l / 4) d1 d2 + ow (l / 4) d2 d1)) (nI (8 * c + l)) 145 g2 = some ((), sI g5 146 (8 * c + l) (nI (cst A p (md A p) (l / 4) (ow (l / 4) (c / 36) (c % 36)) d1 + cst A p (md A p) (1 - l / 4) (ow (l / 4) (c % 36) (c / 36)) d2))) := by
      have w17 : gI (sI g2 145 (8 * c + l) (nI (36 * ow (l / 4) d1 d2 + ow (l / 4) d2 d1))) 136 17 = nI d1 := by rw [gI_sIn (by decide)]; exact v1
      have w18 : gI g4 136 18 = nI d2 := by rw [k2.I (by decide), gI_sIn (by decide)]; exact v2
      rw [f_X12_laysLead_93, sn145 hs2, gdI_nI (by omega) (by decide), nI_clamp (by omega), lg, md136_25 h3.1, w17, k1, bd_eq, nI_sub1 ht, w18, k3, bd_eq, gk146 h5.1, sn146 h5.1, lum8, nI_add, gdI_nI (by omega) (by decide), nI_clamp (by omega), lg, nI_add]
    have so : ∀ x y : Nat, f_X12_standOf (nI x) (nI y) g2 = some (nI (36 * x + y), g2) := fun x y => by
      rw [f_X12_standOf, lum36, nI_add]
    refine ⟨sI g5 146 (8 * c + l) (nI (cst A p (md A p) (l / 4) (ow (l / 4) (c / 36) (c % 36)) d1 + cst A p (md A p) (1 - l / 4) (ow (l / 4) (c % 36) (c / 36)) d2)), ?_, ((x3.tr (Fm.of (k2.mono (by decide)) (by decide))).tr (Fm.of (k4.mono (by decide)) (by decide))).si (by decide) (by decide), ?_, fun y hy => ?_, fun j hj => ?_⟩
    · rw [v1, v2, so, so, bd_eq, bd_eq, gk145 hs2]
      obtain e | e : l / 4 = 0 ∨ l / 4 = 1 := by omega
      · rw [e] at l93 ⊢
        rw [if_pos (show nI 0 = 0 from rfl)]
        exact l93
      · rw [e] at l93 ⊢
        rw [if_neg (by decide), gk145 hs2]
        exact l93
    · rw [gI_sIn (by decide), k4.I (by decide), k2.I (by decide), gI_sIs, i2]
      funext j
      by_cases e : j = 8 * c + l
      · rw [e, pk_us, pk_us]
        rfl
      · rw [pk_un e, pk_un e, pk_un e]
    · rw [← Option.some.inj hy, gI_sIs, pk_us, cse']
    · rw [gI_sIs, pk_un hj, k4.I (by decide), k2.I (by decide), gI_sIn (by decide), i6]
  · have nx : nxS A (fre A p) p (md A p) c l = none := by
      unfold nxS
      rw [if_neg z]
    have k4 := stS_why (A := A) (F := fre A p) (p := p) (m := md A p) (t := l / 4) (a := ow (l / 4) (c / 36) (c % 36)) (b := ow (l / 4) (c % 36) (c / 36)) (w := l % 4)
    rw [if_neg (nI_ne0 (by omega) (by omega)), nx]
    refine ⟨g2, rfl, x2, i2, ?_, ?_⟩
    · intro y hy
      cases hy
    · intro j _
      rw [i6]
/-- what is laid of the stands below k -/
def TH (A : Nat → Int32) (p k : Nat) (g : G) : Prop := ∀ c, c < k → gI g 144 c = b2i (stB A (fre A p) p c) ∧ (stB A (fre A p) p c = true → ∀ l, l < 8 → gI g 145 (8 * c + l) = oI (nxS A (fre A p) p (md A p) c l) ∧ ∀ y, nxS A (fre A p) p (md A p) c l = some y → gI g 146 (8 * c + l) = nI (csS A p (md A p) c y))
theorem TH.fm {k : Nat} {K S : List Nat} (h : TH A p k g) (x : Fm K S g g') (h4 : 144 ∉ 136 :: S) (h5 : 145 ∉ 136 :: S) (h6 : 146 ∉ 136 :: S) : TH A p k g' := by
  unfold TH
  rw [x.I h4, x.I h5, x.I h6]
  exact h
theorem r_ls93 {c : Nat} (hp : p < nv A 3) (hc : stB A (fre A p) p c = true) {k2 : Nat → Int32 → Int32 → G → Option (Unit × G)} : ∀ n l g, RS A g → TH A p c g → gI g 144 c = 1 → (∀ j, j < l → gI g 145 (8 * c + j) = oI (nxS A (fre A p) p (md A p) c j) ∧ ∀ y, nxS A (fre A p) p (md A p) c j = some y → gI g 146 (8 * c + j) = nI (csS A p (md A p) c y)) → l ≤ 8 → 8 < n + l → ∃ g', f_X12_laysStands_93 k2 n 136 (nI p) (nI c) (nI l) g = k2 136 (nI p) (nI (c + 1)) g' ∧ Fm [17, 18] [141, 142, 144, 145, 146] g g' ∧ TH A p (c + 1) g' := by
  intro n
  induction n with
  | zero => intro l g _ _ _ _ _ h; omega
  | succ n ih =>
    intro l g h ht h1 hj hl hn
    have c1296 := stB_lt h.2.2.1 hc
    rw [f_X12_laysStands_93]
    rcases Nat.lt_or_ge l 8 with z | z
    · obtain ⟨g1, e1, e2, e3, e4, e5⟩ := r_laysLead h hp hc z
      have x1 : Fm [17, 18] [141, 142, 144, 145, 146] g g1 := e2.mono (by decide) (by decide)
      obtain ⟨g2, d1, d2, d3⟩ := ih (l + 1) g1 (h.fm e2 (by decide)) (fun c' hc' => by
        obtain ⟨a1, a2⟩ := ht c' hc'
        rw [e2.I (by decide), e3]
        refine ⟨a1, fun b1 l' hl' => ?_⟩
        rw [pk_un (by omega), e5 _ (by omega)]
        exact a2 b1 l' hl') (by rw [e2.I (by decide)]; exact h1) (fun j hj' => by
        rw [e3]
        rcases Nat.eq_or_lt_of_le (Nat.le_of_lt_succ hj') with w | w
        · rw [w, pk_us]
          exact ⟨rfl, e4⟩
        · rw [pk_un (by omega), e5 _ (by omega)]
          exact hj j w) (by omega) (by omega)
      rw [if_neg (lnge8 z), md136_23 h.1, gk144 h.1, sn144 h.1, gdI_nI c1296 (by decide), nI_clamp (by omega), h1, if_neg (by decide), e1, bd_eq, lad1]
      exact ⟨g2, d1, x1.tr d2, d3⟩
    · have : l = 8 := by omega
      subst this
      rw [if_pos (lle8 (by decide) (by decide)), f_X12_laysStands_123, lad1]
      refine ⟨g, rfl, Fm.rf, fun c' hc' => ?_⟩
      rcases Nat.eq_or_lt_of_le (Nat.le_of_lt_succ hc') with w | w
      · rw [w, h1, hc]
        exact ⟨rfl, fun _ l' hl' => hj l' hl'⟩
      · exact ht c' w
theorem r_ls2 (hp : p < nv A 3) : ∀ n c g, RS A g → TH A p c g → c ≤ 1296 → 1296 < n + c → ∃ g', f_X12_laysStands_2 n 136 (nI p) (nI c) g = some ((), g') ∧ Fm [17, 18] [141, 142, 144, 145, 146] g g' ∧ TH A p 1296 g' := by
  intro n
  induction n with
  | zero => intro c g _ _ _ h; omega
  | succ n ih =>
    intro c g h ht hc hn
    have hA := h.2.2.1
    have cl := h.cl
    have k3 := h.k3
    have hs := h.1
    rw [f_X12_laysStands_2]
    rcases Nat.lt_or_ge c 1296 with z | z
    · have no : stB A (fre A p) p c = false → ∃ g', f_X12_laysStands_88 (f_X12_laysStands_2 n) 136 (nI p) (nI c) (nI c) 144 g = some ((), g') ∧ Fm [17, 18] [141, 142, 144, 145, 146] g g' ∧ TH A p 1296 g' := fun hf => by
        have x1 : Fm [17, 18] [141, 142, 144, 145, 146] g (sI g 144 c 0) := Fm.rf.si (by decide) (by decide)
        have h1 := h.fm x1 (by decide)
        obtain ⟨g2, d1, d2, d3⟩ := ih (c + 1) _ h1 (fun c' hc' => by
          rw [gI_sIs, gI_sIn (show 145 ≠ 144 by decide), gI_sIn (show 146 ≠ 144 by decide)]
          rcases Nat.eq_or_lt_of_le (Nat.le_of_lt_succ hc') with w | w
          · rw [w, pk_us, hf]
            exact ⟨rfl, fun q => by cases q⟩
          · rw [pk_un (by omega)]
            exact ht c' w) (by omega) (by omega)
        have f8 : FU = 999999 + 1 := rfl
        rw [f_X12_laysStands_88, f_X12_laysStands_89, sn144 hs, gdI_nI z (by decide), nI_clamp (by omega), lg, show vp_nar .boolean (0 : Int32) = 0 by decide, f8, f_X12_laysStands_93, if_neg (by decide), md136_23 h1.1, gk144 h1.1, sn144 h1.1, gdI_nI z (by decide), nI_clamp (by omega), gI_sIs, pk_us, if_pos rfl, f_X12_laysStands_123, lad1]
        exact ⟨g2, d1, x1.tr d2, d3⟩
      have c36 : c / 36 < 36 := by omega
      have d36 : c % 36 < 36 := by omega
      rw [if_neg (lnge1296 z), show (0 : Int32) = nI 0 from rfl, r_inStand z (by decide), bd_eq, show (1 : Int32) = nI 1 from rfl, r_inStand z (by decide), bd_eq, show ow 0 (c / 36) (c % 36) = c / 36 from rfl, show ow 1 (c / 36) (c % 36) = c % 36 from rfl, md136_23 hs, R_isCell h, bd_eq, inL_I, inR_nI (by omega)]
      by_cases a1 : c / 36 < cS A
      · rw [decide_eq_true a1, show (if b2i true = nI 0 then _ else _) = _ from ibT, R_isCell h, bd_eq, inL_I, inR_nI (by omega)]
        by_cases a2 : c % 36 < cS A
        · rw [decide_eq_true a2, show (if b2i true = nI 0 then _ else _) = _ from ibT, R_apart h (by omega) (by omega), bd_eq, md136_1 hs, gk137 hs, sn137 hs, show (94 : Int32) = nI 94 from rfl, nI_add, gdI_nI (by omega) (by decide), nI_clamp (by omega), h.span hp]
          have spl := sp_10 hA h.2.2.2.1 hp
          have apl := apS_10 hA a1 a2
          by_cases a3 : apS (nv A 2) (c / 36) (c % 36) = sp A p
          · rw [if_pos (by rw [a3]), R_isFree h (by omega) (by omega), bd_eq]
            cases a4 : fre A p (c / 36) with
            | false =>
              rw [show (if b2i false = nI 0 then _ else _) = _ from ibF, gk144 hs]
              exact no (by rw [Bool.eq_false_iff]; intro q; rw [stB_iff] at q; rw [a4] at q; cases q.2.1)
            | true =>
              rw [show (if b2i true = nI 0 then _ else _) = _ from ibT, R_isFree h (by omega) (by omega), bd_eq]
              cases a5 : fre A p (c % 36) with
              | false =>
                rw [show (if b2i false = nI 0 then _ else _) = _ from ibF, gk144 hs]
                exact no (by rw [Bool.eq_false_iff]; intro q; rw [stB_iff] at q; rw [a5] at q; cases q.2.2)
              | true =>
                have hc1 : stB A (fre A p) p c = true := stB_iff.mpr ⟨⟨a1, a2, a3⟩, a4, a5⟩
                have x1 : Fm [17, 18] [141, 142, 144, 145, 146] g (sI g 144 c 1) := Fm.rf.si (by decide) (by decide)
                have h1 := h.fm x1 (by decide)
                obtain ⟨g2, d1, d2, d3⟩ := r_ls93 hp hc1 (k2 := f_X12_laysStands_2 n) FU 0 _ h1 (fun c' hc' => by
                  rw [gI_sIs, gI_sIn (show 145 ≠ 144 by decide), gI_sIn (show 146 ≠ 144 by decide), pk_un (by omega)]
                  exact ht c' hc') (by rw [gI_sIs]; exact pk_us) (fun j hj => by omega) (by decide) (by have := @FU_gt 8 (by decide); omega)
                obtain ⟨g3, k1, k2, k3⟩ := ih (c + 1) g2 (h1.fm d2 (by decide)) d3 (by omega) (by omega)
                rw [show (if b2i true = nI 0 then _ else _) = _ from ibT, gk144 hs, f_X12_laysStands_89, sn144 hs, gdI_nI z (by decide), nI_clamp (by omega), lg, show vp_nar .boolean (nI 1) = 1 by decide, show (0 : Int32) = nI 0 from rfl, d1]
                exact ⟨g3, k1, (x1.tr d2).tr k2, k3⟩
          · rw [if_neg (fun q => a3 ((nI_eq (by omega) (by omega)).mp q)), gk144 hs]
            exact no (by rw [Bool.eq_false_iff]; intro q; rw [stB_iff] at q; exact a3 q.1.2.2)
        · rw [decide_eq_false a2, show (if b2i false = nI 0 then _ else _) = _ from ibF, gk144 hs]
          exact no (by rw [Bool.eq_false_iff]; intro q; rw [stB_iff] at q; exact a2 q.1.2.1)
      · rw [decide_eq_false a1, show (if b2i false = nI 0 then _ else _) = _ from ibF, gk144 hs]
        exact no (by rw [Bool.eq_false_iff]; intro q; rw [stB_iff] at q; exact a1 q.1.1)
    · have : c = 1296 := by omega
      subst this
      rw [if_pos (lle1296 (by decide) (by decide))]
      exact ⟨g, rfl, Fm.rf, ht⟩
theorem r_laysStands (h : RS A g) (hp : p < nv A 3) : ∃ g', f_X12_laysStands 136 (nI p) g = some ((), g') ∧ Fm [17, 18] [141, 142, 144, 145, 146] g g' ∧ TH A p 1296 g' := r_ls2 hp FU 0 g h (fun c hc => by omega) (by decide) (by have := @FU_gt 1296 (by decide); omega)
end RST
