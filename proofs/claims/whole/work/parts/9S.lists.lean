/-! LISTS answered alike. -/
section LST
variable {X : Nat → Prop} {A : Nat → Int32} {g g' : G} {p t ag n e0 : Nat} {q pa la dp : Nat → Nat} {N : Nat → Nat → Option Nat}
theorem tL3 (ht : t < 4) : 129 + 2 * t ∈ [129, 131, 133, 135] := by
  obtain rfl | rfl | rfl | rfl : t = 0 ∨ t = 1 ∨ t = 2 ∨ t = 3 := by omega
  all_goals decide
theorem l100 : ∀ p, p < 3 → ∀ v, v < 14 → (100 : Int64) * (nI p).toInt64 + (nI v).toInt64 = ((100 : Int32) * nI p + nI v).toInt64 := by decide +kernel
theorem c_li86 (ht : t < 4) (hp : p < 3) (hn : n ≤ 232) {e : Nat} (he : e < n) (hB : BF N q pa la dp n e0 0) {so : Int32} {W : Nat → Nat} {L : Nat} (hL : L ≤ 40) (hW : ∀ i, i < L → i < dp e ∧ la (anc pa e (dp e - 1 - i)) < 8 ∧ W i = tld (la (anc pa e (dp e - 1 - i))) ∧ W i < 14) : ∀ fu k g, Sh g → GRw g 2 n q pa la dp → gI g (128 + 2 * t) 1 = so → k ≤ L → L < fu + k → ∃ g', f_X11_lists_86 fu (nI p) (128 + 2 * t) 2 (nI e) (nI L) (nI k) g = some (nI L, g') ∧ Fi [129 + 2 * t] g g' ∧ gI g' = gI g ∧ (∀ j, j < k → gL g' (129 + 2 * t) j = gL g (129 + 2 * t) j) ∧ (∀ j, k ≤ j → j < L → gL g' (129 + 2 * t) j = cutS so (((100 : Int32) * nI p + nI (W j)).toInt64)) ∧ ∀ j, L ≤ j → gL g' (129 + 2 * t) j = gL g (129 + 2 * t) j := by
  intro fu
  induction fu with
  | zero => intro k g _ _ _ _ h; omega
  | succ fu ih =>
    intro k g hs hG hso hk hfu
    rw [f_X11_lists_86]
    rcases Nat.lt_or_ge k L with z | z
    · obtain ⟨w1, w2, w3, w4⟩ := hW k z
      have x1 : Fi [129 + 2 * t] g (sL g (129 + 2 * t) k (cutS so (((100 : Int32) * nI p + nI (W k)).toInt64))) := Fi.rf.sl (List.mem_singleton.mpr rfl)
      obtain ⟨g2, d1, d2, d3, d4, d5, d6⟩ := ih (k + 1) _ (Sh.fi x1 hs) (hG.cg (fun k _ => by rw [gI_sL])) (by rw [gI_sL]; exact hso) z (by omega)
      refine ⟨g2, ?_, x1.tr d2, d3.trans gI_sL, fun j hj => ?_, fun j j1 j2 => ?_, fun j hj => ?_⟩
      · rw [if_neg (nI_ge z (by omega)), c_leadAt (Or.inl rfl) hs hB hG hn he (by omega), bd_eq, if_pos w1, c_told w2, bd_eq, ← w3, l100 p hp (W k) w4, c_set hs ht (by omega), hso, bd_eq, lad1, d1]
      · rw [d4 j (by omega), gL_sLs, pk_uLn (by omega)]
      · by_cases u : j = k
        · rw [u, d4 k (by omega), gL_sLs, pk_uLs]
        · exact d5 j (by omega) j2
      · rw [d6 j hj, gL_sLs, pk_uLn (by omega)]
    · have e : k = L := by omega
      subst e
      rw [if_pos (nI_le z (by omega))]
      exact ⟨g, rfl, Fi.rf, rfl, fun _ _ => rfl, fun j j1 j2 => by omega, fun _ _ => rfl⟩
theorem r_li93 (hp : p < nv A 3) (ht : t < 4) {so : Int32} {W : Nat → Nat} {L : Nat} (hL : L ≤ 40) {Lf : Nat → Nat} {S Q : Nat → Nat} {D : Nat} (hS : Sq (nxS A (fre A p) p (md A p)) (wS A (fre A p) p (md A p) 0) Lf (stB A (fre A p) p) S Q D) (hD : D < 100000) (h0 : S 0 = (36 * tw A (2 * p) + tw A (2 * p + 1))) (hW : ∀ i, i < L → i < D ∧ W i = tld (Q i)) : ∀ fu k g, RS A g → TH A p 1296 g → SV g Lf → gI g 152 t = so → k ≤ L → L < fu + k → ∃ g', f_X12_lists_93 fu 136 (nI t) (nI p) (nI L) (nI k) g = some (nI L, g') ∧ Fi [154] g g' ∧ gI g' = gI g ∧ (∀ j, (j < 40 * t + k ∨ 40 * t + L ≤ j) → gL g' 154 j = gL g 154 j) ∧ (∀ j, k ≤ j → j < L → gL g' 154 (40 * t + j) = cutS so (((100 : Int32) * nI p + nI (W j)).toInt64)) := by
  intro fu
  induction fu with
  | zero => intro k g _ _ _ _ _ h; omega
  | succ fu ih =>
    intro k g h hT hV hso hk hfu
    have hs := h.1
    rw [f_X12_lists_93]
    rcases Nat.lt_or_ge k L with z | z
    · obtain ⟨w1, w2⟩ := hW k z
      have la := r_leadAt h hp hT hV (ch := 0) (by decide) hS hD h0 (i := k) (by omega)
      rw [if_pos w1, ← w2] at la
      have la' : f_X12_leadAt 136 (nI p) (nI k) 0 g = some (nI (W k), g) := la
      have x1 : Fi [154] g (sL g 154 (40 * t + k) (cutS so (((100 : Int32) * nI p + nI (W k)).toInt64))) := Fi.rf.sl (by decide)
      obtain ⟨g2, d1, d2, d3, d4, d5⟩ := ih (k + 1) _ (h.fi x1 (by decide)) (hT.fi x1 (by decide) (by decide) (by decide)) (by unfold SV; rw [gI_sL]; exact hV) (by rw [gI_sL]; exact hso) z (by omega)
      refine ⟨g2, ?_, x1.tr d2, d3.trans gI_sL, fun j hj => ?_, fun j j1 j2 => ?_⟩
      · rw [if_neg (nI_ge z (by omega)), md136_35 hs, la', bd_eq, md136_33 hs, gk152 hs, sn152 hs, gdI_nI ht (by decide), nI_clamp (show t < 2 ^ 31 by omega), hso, r_cut, bd_eq, gk154 hs, sn154 hs, lum40, nI_add, gdI_nI (by omega) (by decide), nI_clamp (show 40 * t + k < 2 ^ 31 by omega), lg, lad1, d1]
      · rw [d4 j (by omega), gL_sLs, pk_uLn (by omega)]
      · by_cases u : j = k
        · rw [u, d4 (40 * t + k) (by omega), gL_sLs, pk_uLs]
        · exact d5 j (by omega) j2
    · have e : k = L := by omega
      subst e
      rw [if_pos (nI_le z (by omega))]
      exact ⟨g, rfl, Fi.rf, rfl, fun _ _ => rfl, fun j j1 j2 => by omega⟩
theorem tld14 : ∀ l, l < 8 → tld l < 14 := by decide
theorem q_lists (h : Inv X A ag g) (hag : ag + 1 < 2 ^ 30) (u v one two : Int32) : CA ag g (f_X11_lists 0 u v one two g) (fun g => f_X12_lists 136 u v one two g) := by
  obtain ⟨hQ, hR⟩ := id h
  obtain ⟨h1, h2, h3, h4, h5⟩ := id hQ
  have hs := h1.1
  have hA := h1.2.2.1
  have k3 := h1.k3
  cases hu : inR u 4 with
  | false => exact CA.no (v := -2) h (by rw [f_X11_lists, c_isTray, hu, bd_eq, ibF]) (by
      show f_X12_lists 136 u v one two g = _
      rw [f_X12_lists, lg, r_wi3, hu, bd_eq, ibF])
  | true =>
    obtain ⟨t, ht, rfl⟩ := inR_true hu (by decide)
    cases hgo : goB A v one two with
    | false => exact CA.no (v := -2) h (by rw [f_X11_lists, c_isTray, hu, bd_eq, ibT, c_isGoal h3 hA hs, hgo, bd_eq, ibF]) (by
        show f_X12_lists 136 (nI t) v one two g = _
        rw [f_X12_lists, lg, r_wi3, hu, bd_eq, ibT, r_isGoalTold h1.t0, hgo, bd_eq, ibF])
    | true =>
      obtain ⟨so, m, s1, s2, s3, s4, s5, s6, s7⟩ := hR.1 t ht
      rcases s1 with e | ⟨s, e1, e2⟩
      · refine CA.no (v := -6) h ?_ ?_
        · rw [f_X11_lists, c_isTray, hu, bd_eq, ibT, c_isGoal h3 hA hs, hgo, bd_eq, ibT, md0_16 hs, gk40 hs, sn40 hs, gdI_nI ht (by decide), nI_clamp (by omega), tr_dr hs ht, tr_gk hs ht, f_X10_isMissing, s3, if_pos e, bd_eq, ibT]
        · show f_X12_lists 136 (nI t) v one two g = _
          rw [f_X12_lists, lg, r_wi3, hu, bd_eq, ibT, r_isGoalTold h1.t0, hgo, bd_eq, ibT, r_noTray h1.t0.1 ht, bd_eq, gI_sIn (by decide), s4, if_pos e, if_neg (by decide)]
      · have ne : ¬ so = -1 := by
          rw [e2]
          exact nI_ne1 (by omega)
        obtain ⟨p, hp, rfl, c1, c2⟩ := goB_true hA hgo
        obtain ⟨g1, ag', n, q, pa, la, dp, a1, a2, a3, a4, a5, a6⟩ := c_graphOf hQ hp hag
        obtain ⟨B1, B2, B3, B4, B5, B6, B7⟩ := id a3.2.2.2.2.1
        have hs1 := a3.1.1
        have hq : ∀ i, i < n → q i < 1296 := fun i hi => stB_lt hA (B4 i hi)
        have sp := sp_10 hA h1.2.2.2.1 hp
        have Q1 := a3.s hp a4
        have R1 := hR.qf h2 hs a2
        obtain ⟨so', m', s1', s2', s3', s4', s5', s6', s7'⟩ := R1.1 t ht
        have tA : gI g1 (128 + 2 * t) = gI g (128 + 2 * t) := a2.1.I (by
          obtain rfl | rfl | rfl | rfl : t = 0 ∨ t = 1 ∨ t = 2 ∨ t = 3 := by omega
          all_goals decide)
        rw [tA] at s3' s5'
        have so_e : so' = so := s3'.symm.trans s3
        have m_e : m' = m := by
          rw [s5] at s5'
          exact ((nI_eq (by omega) (by omega)).mp s5').symm
        subst so_e m_e
        have cf : f_X11_lists 0 (nI t) (nI p) one two g = bd (f_X4_find 2 one two g1) (fun v28 g29 => if v28 = (-1 : Int32) then (some ((-5 : Int32), g29)) else (bd (f_X4_depthOf 2 v28 g29) (fun v33 g34 => bd (f_J9_min_7cf53 v33 (gI g34 (128 + 2 * t) 0) g34) (fun v37 g38 => f_X11_lists_86 FU (nI p) (128 + 2 * t) 2 v28 v37 (0 : Int32) g38)))) := by
          rw [f_X11_lists, c_isTray, hu, bd_eq, ibT, c_isGoal h3 hA hs, hgo, bd_eq, ibT, md0_16 hs, gk40 hs, sn40 hs, gdI_nI ht (by decide), nI_clamp (by omega), tr_dr hs ht, tr_gk hs ht, f_X10_isMissing, s3, if_neg ne, bd_eq, ibF, a1, bd_eq, gk2 hs1]
        have rf : ∀ g', RS A g' → gI g' 152 t = so' → f_X12_lists 136 (nI t) (nI p) one two g' = bd (f_X12_comes 136 (nI p) one two 0 (sI g' 136 0 0)) (fun v18 g19 => if v18 = (-1 : Int32) then (some ((-5 : Int32), g19)) else (dr (gR g19 136 34) (fun b23 => gdK g19 b23 14 (gdI (nI t) (gN g19 b23) (if (gI g19 b23 (nI t).toNatClampNeg) ≤ v18 then (f_X12_lists_88 136 (nI t) (nI p) (gI g19 b23 (nI t).toNatClampNeg) g19) else (f_X12_lists_88 136 (nI t) (nI p) v18 g19)))))) := fun g' hr q1 => by
          rw [f_X12_lists, lg, r_wi3, hu, bd_eq, ibT, r_isGoalTold hr.t0, hgo, bd_eq, ibT, r_noTray hr.t0.1 ht, bd_eq, gI_sIn (by decide), q1, if_neg ne, if_pos rfl]
        rcases c_find (Or.inl rfl) hs1 B2 B7 hq one two with ⟨e, f1, f2, f3, f4⟩ | ⟨f1, f2⟩
        · have dl := B1.dp_le e f1
          obtain ⟨sq1, sq2⟩ := soon_seq hA sp B1 B4 B7 f1 (by omega) f2 f3
          have sf := soon_found hA sp B1 B4 B7 f1 (by omega) f2 f3
          -- how many are listed
          obtain ⟨L, hL⟩ : ∃ L, L = if m' < dp e then m' else dp e := ⟨_, rfl⟩
          have L1 : L ≤ dp e ∧ L ≤ 40 := by
            rw [hL]
            split <;> omega
          have mi : f_J9_min_7cf53 (nI (dp e)) (nI m') g1 = some (nI L, g1) := by
            rw [f_J9_min_7cf53, hL]
            by_cases w : m' < dp e
            · rw [if_pos w, if_pos (nI_lt w (by omega))]
            · rw [if_neg w, if_neg (nI_nlt (by omega) (by omega))]
          have l8 : ∀ i, i < dp e → la (anc pa e (dp e - 1 - i)) < 8 := fun i hi => (sq1.1 i hi).2.2.2.1
          obtain ⟨g2, b1, b2, b3, b4, b5, b6⟩ := c_li86 (p := p) (so := so') (W := fun i => tld (la (anc pa e (dp e - 1 - i)))) ht (by omega) B7 f1 B1 L1.2 (fun i hi => ⟨by omega, l8 i (by omega), rfl, tld14 _ (l8 i (by omega))⟩) FU 0 g1 hs1 B2 (by rw [tA]; exact s3) (Nat.zero_le _) (by have := @FU_gt L (by omega); omega)
          have b1' : f_X11_lists_86 FU (nI p) (128 + 2 * t) 2 (nI e) (nI L) 0 g1 = some (nI L, g2) := b1
          have y2 : Fi [129, 131, 133, 135, 136, 141, 142, 144, 145, 146, 147, 154] g1 g2 := b2.mono (fun a ha => by
            rw [List.mem_singleton.mp ha]
            have := tL3 ht
            simp at this ⊢
            omega)
          have Q2 : QS X A ag' g2 := Q1.fr (b2.mono (T := [129, 131, 133, 135]) (fun a ha => by
            rw [List.mem_singleton.mp ha]
            exact tL3 ht)).q (Sh.fi y2 hs1) (by decide)
          obtain ⟨g3, d1, d2, d3, d4⟩ := r_comes (ch := 0) Q2.1.t0 hp (by decide) c1 c2
          have d1' : f_X12_comes 136 (nI p) one two 0 (sI g2 136 0 0) = _ := d1
          have x3 : Fm [0, 17, 18] S7 g2 g3 := (tF0.mono (by decide) (by decide)).tr (d2.mono (by decide) (by decide))
          have y3 : Fi [129, 131, 133, 135, 136, 141, 142, 144, 145, 146, 147, 154] g1 g3 := y2.tr (x3.1.mono (by decide))
          obtain ⟨Q3, -⟩ := Q2.fm x3 (by decide) (by decide)
          have g152 : gI g3 152 t = so' := by
            rw [y3.I (by decide)]
            exact s4'
          have g153 : gI g3 153 t = nI m' := by
            rw [y3.I (by decide)]
            exact s6'
          have nol : ∀ a, 154 ≤ a ∨ a = 152 ∨ a = 153 ∨ a = 0 → a ∉ [129 + 2 * t] := fun a ha z => by
            rw [List.mem_singleton] at z
            omega
          obtain ⟨g4, k1, k2, k3', k4, k5⟩ := r_li93 (so := so') (W := fun i => tld (la (anc pa e (dp e - 1 - i)))) (L := L) hp ht L1.2 sq1 (by omega) (by
            show q (anc pa e (dp e - 0)) = _
            rw [Nat.sub_zero, sq2, B5]) (fun i hi => ⟨by omega, rfl⟩) FU 0 g3 Q3.1 d3 d4 g152 (Nat.zero_le _) (by have := @FU_gt L (by omega); omega)
          have k1' : f_X12_lists_93 FU 136 (nI t) (nI p) (nI L) 0 g3 = some (nI L, g4) := k1
          have y4 : Fi [129, 131, 133, 135, 136, 141, 142, 144, 145, 146, 147, 154] g1 g4 := y3.tr (k2.mono (by decide))
          have hs3 := Q3.1.1
          have Q4 : QS X A ag' g4 := Q3.fr k2.q (Sh.fi k2 hs3) (by decide)
          have n0 : gI g4 0 = gI g1 0 := y4.I (by decide)
          have f136 : ∀ k, k ∉ [0, 17, 18] → gI g4 136 k = gI g1 136 k := fun k hk => by
            rw [k3', x3.2 k hk, b3]
          have hT4 : TR g4 := R1.1.one ht (fun r r1 r2 => ⟨?_, ?_, ?_, ?_, fun k hk => ?_⟩) ⟨so', m', s1', s2', ?_, ?_, ?_, ?_, fun k hk => ?_⟩
          · refine ⟨nI L, g2, g4, X, A, ag', ?_, ?_, ⟨Q4, R1.ft h2 hs1 y4.a (by decide) hT4 (by rw [n0]) (by rw [n0]) (by rw [n0]) (f136 5 (by decide)) (f136 13 (by decide)) (f136 14 (by decide))⟩, by omega, ?_, ?_⟩
            · rw [cf, f4, bd_eq, if_neg (nI_ne1 (by omega)), c_depthOf (Or.inl rfl) hs1 B2 B7 f1, bd_eq, show gI g1 (128 + 2 * t) 0 = nI m' by rw [tA]; exact s5, mi, bd_eq, b1']
            · show f_X12_lists 136 (nI t) (nI p) one two g2 = _
              have far : toF (LSf A (fre A p) p (md A p) 0 one two (36 * tw A (2 * p) + tw A (2 * p + 1))) 0 = nI (dp e) := by
                rw [← B5, sf]
                unfold toF
                rw [if_neg (by omega), if_pos rfl]
              rw [rf g2 Q2.1 (by rw [b3]; exact s4'), d1', bd_eq, far, if_neg (nI_ne1 (by omega)), md136_34 hs3, gk153 hs3, sn153 hs3, gdI_nI ht (by decide), nI_clamp (show t < 2 ^ 31 by omega), g153, f_X12_lists_88, f_X12_lists_88]
              by_cases w : m' ≤ dp e
              · rw [if_pos (nI_le w (by omega))]
                have : L = m' := by
                  rw [hL]
                  split <;> omega
                rw [← this, k1']
              · rw [if_neg (nI_ge (by omega) (by omega))]
                have : L = dp e := by
                  rw [hL, if_neg (by omega)]
                rw [← this, k1']
            · rw [y4.1.1, a2.1.1]
              omega
            · rw [y4.1.2.1, a2.1.2.1]
              omega
          · rw [k3', x3.I (by simp [S7]; omega), b3]
          · rw [k2.L (by simp; omega), x3.L (by simp [S7]; omega), b2.L (by simp; omega)]
          · rw [k3', x3.I (by decide), b3]
          · rw [k3', x3.I (by decide), b3]
          · rw [k4 _ (by omega), x3.L (by decide), b2.L (nol _ (by decide))]
          · rw [k3', x3.I (by simp [S7]; omega), b3, tA]
            exact s3
          · rw [k3']
            exact g152
          · rw [k3', x3.I (by simp [S7]; omega), b3, tA]
            exact s5
          · rw [k3']
            exact g153
          · rw [k2.L (by simp; omega), x3.L (by simp [S7]; omega)]
            rcases Nat.lt_or_ge k L with w | w
            · rw [b5 k (Nat.zero_le _) w, k5 k (Nat.zero_le _) w]
            · rw [b6 k w, k4 _ (by omega), x3.L (by decide), b2.L (nol _ (by decide))]
              exact s7' k hk
        · obtain ⟨g3, d1, d2, d3, d4⟩ := r_comes (ch := 0) Q1.1.t0 hp (by decide) c1 c2
          have d1' : f_X12_comes 136 (nI p) one two 0 (sI g1 136 0 0) = _ := d1
          have far : toF (LSf A (fre A p) p (md A p) 0 one two (36 * tw A (2 * p) + tw A (2 * p + 1))) 0 = -1 := by
            rw [← B5, soon_none hA sp B1 B4 f1]
            rfl
          refine QA.ca h (QA.of (v := -5) (g1 := g1) (g2 := g3) (K := [0, 17, 18]) (S := S7) ?_ a2 Q1 ?_ ((tF0.mono (by decide) (by decide)).tr (d2.mono (by decide) (by decide))) (by decide) (by decide) a5 (by omega))
          · rw [cf, f2, bd_eq, if_pos rfl]
          · show f_X12_lists 136 (nI t) (nI p) one two g1 = _
            rw [rf g1 Q1.1 s4', d1', bd_eq, far, if_pos rfl]
end LST
