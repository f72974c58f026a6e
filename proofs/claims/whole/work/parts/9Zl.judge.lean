/-! JUDGE, PERFORM: the loops. -/
section JPL
variable {X : Nat → Prop} {A : Nat → Int32} {g g' g1 : G} {t m e ag : Nat} {f : Nat → Int64} {S K : List Nat}
/-- one deed of the class in a loop -/
theorem c_one {b : Nat} (hb : b = 47 ∨ b = 52) (hW : WF A) (hX : XO X) (hs : Sh g) (k : Nat) (h : BD X g b (tS A f k)) (hI : SI ag g) (hag : ag + 1 < 2 ^ 30) : ∃ r g' ag', f_X0_act b 68 (f k) g = some (r, g') ∧ Fq (AL b) g g' ∧ Sh g' ∧ SI ag' g' ∧ ag' ≤ ag + 1 ∧ BD X g' b (tS A f (k + 1)) ∧ aR r (actS (tS A f k) (f k)) := by
  obtain ⟨r, g2, ag', a1, a2, a3, a4, a5, a6, a7, a8⟩ := c_act (b := b) h (tS_wf hW hs f k) hs hX (fun j hj u => by have := hX _ u; omega) hI hag (fun a ha => by simp at ha; omega) (f k)
  exact ⟨r, g2, ag', a1, a2, a3, a4, a6, a7, a8⟩
theorem tS_stop {k : Nat} (h : (actS (tS A f k) (f k)).1 ≠ 0) : tS A f (k + 1) = tS A f k := by
  show (actS (tS A f k) (f k)).2.1 = _
  rcases act_c (tS A f k) (f k) with ⟨-, e, -⟩ | ⟨n, -, -, -, -, e⟩ | ⟨c, -, -, -, -, e⟩ | ⟨p, x, -, -, -, -, e⟩
  · exact e
  · rw [e] at h
    exact absurd rfl h
  · rw [e] at h
    exact absurd rfl h
  · rw [e] at h
    exact absurd rfl h
theorem act_4 (B : Nat → Int32) (v : Int64) : (actS B v).1 ≤ 4 := by
  by_cases neg : v < 0
  · unfold actS
    rw [if_pos neg]
    exact Nat.le_of_ble_eq_true rfl
  · obtain ⟨n, hn, rfl⟩ := l_nn neg
    rw [actS_N hn]
    unfold aN
    split
    · unfold aL
      split
      · split
        · exact Nat.zero_le _
        · have := lS_why (A := B) (p := n / 100) (t := n / 10 % 10) (w := n % 10)
          dsimp only
          omega
      · exact Nat.le_of_ble_eq_true rfl
    · split
      · unfold aW
        split
        · split
          · exact Nat.zero_le _
          · exact Nat.le_of_ble_eq_true rfl
        · exact Nat.le_of_ble_eq_true rfl
      · split
        · unfold aM
          split
          · exact Nat.zero_le _
          · exact Nat.le_of_ble_eq_true rfl
        · exact Nat.le_of_ble_eq_true rfl
theorem AL_no {b : Nat} (hb : b = 47 ∨ b = 52) {q : Nat} (hq : 128 ≤ q) : q ∉ AL b := fun u => by
  unfold AL at u
  simp at u
  omega
theorem c_pf43 (hW : WF A) (hX : XO X) (ht : t < 4) (hm : m ≤ 40) (he : e ≤ m) (ok : ∀ j, j < e → (actS (tS A f j) (f j)).1 = 0) (st : e < m → (actS (tS A f e) (f e)).1 ≠ 0) : ∀ fu k g ag, Sh g → BD X g 47 (tS A f k) → SI ag g → ag + 50 < 2 ^ 30 + k → gI g (128 + 2 * t) 0 = nI m → (∀ j, j < m → gL g (129 + 2 * t) j = f j) → k ≤ e → m < fu + k → ∃ g' ag', f_X11_perform_43 fu 0 (128 + 2 * t) (nI k) (nI k) g = f_X11_perform_84 0 (nI e) g' ∧ Fq (AL 47) g g' ∧ Sh g' ∧ SI ag' g' ∧ ag' ≤ ag + (m - k) ∧ BD X g' 47 (tS A f e) := by
  intro fu
  induction fu with
  | zero => intro k g ag _ _ _ _ _ _ _ h; omega
  | succ fu ih =>
    intro k g ag hs hb hI hag h0 hf hk hfu
    rw [f_X11_perform_43, h0]
    rcases Nat.lt_or_ge k m with z | z
    · obtain ⟨r, g1, ag1, a1, a2, a3, a4, a5, a6, a7⟩ := c_one (b := 47) (Or.inl rfl) hW hX hs k hb hI (by omega)
      have a81 := act_st (tS_wf hW hs f k) hs (f k)
      have run : ∀ {α : Type} (F : Int32 → G → Option (α × G)), (dr (gR g 0 4) (fun b2 => dr (gR g 0 7) (fun b4 => bd (f_X10_at (128 + 2 * t) (nI k) g) (fun v6 g7 => gdK g7 b2 0 (gdK g7 b4 9 (bd (f_X0_act b2 b4 v6 g7) F)))))) = F r g1 := fun F => by
        rw [md0_4 hs, md0_7 hs, c_at hs ht (by omega), bd_eq, hf k z, gk47 hs, gk68 hs, a1, bd_eq]
      rw [if_neg (nI_ge z (by omega)), run]
      rcases a7 with ⟨b1, b2⟩ | ⟨b1, b2, b3⟩
      · have ke : k < e := by
          rcases Nat.lt_or_ge k e with w | w
          · exact w
          · have : k = e := by omega
            subst this
            exact absurd b1 (st z)
        obtain ⟨g2, ag2, d1, d2, d3, d4, d5, d6⟩ := ih (k + 1) g1 ag1 a3 a6 a4 (by omega) (by rw [a2.I (AL_no (Or.inl rfl) (by omega))]; exact h0) (fun j hj => by rw [a2.L (AL_no (Or.inl rfl) (by omega))]; exact hf j hj) ke (by omega)
        rw [b2, if_pos (Int32.not_lt.mp (nI_pos (by omega))), lad1, d1]
        exact ⟨g2, ag2, rfl, a2.tr d2, d3, d4, by omega, d6⟩
      · have ke : k = e := by
          rcases Nat.lt_or_ge k e with w | w
          · have := ok k w
            omega
          · omega
        subst ke
        have s := tS_stop (A := A) (f := f) (k := k) (by omega)
        rw [s] at a6
        rw [b3, if_neg (by
          obtain u | u | u | u : (actS (tS A f k) (f k)).1 = 1 ∨ (actS (tS A f k) (f k)).1 = 2 ∨ (actS (tS A f k) (f k)).1 = 3 ∨ (actS (tS A f k) (f k)).1 = 4 := by omega
          · rw [u]; decide
          · rw [u]; decide
          · rw [u]; decide
          · rw [u]; decide)]
        exact ⟨g1, ag1, rfl, a2, a3, a4, by omega, a6⟩
    · have e1 : k = e := by omega
      subst e1
      rw [if_pos (nI_le z (by omega))]
      exact ⟨g, ag, rfl, Fq.rf, hs, hI, by omega, hb⟩
theorem c_ju53 (hW : WF A) (hX : XO X) (ht : t < 4) (hm : m ≤ 40) (he : e ≤ m) (ok : ∀ j, j < e → (actS (tS A f j) (f j)).1 = 0) (st : e < m → (actS (tS A f e) (f e)).1 ≠ 0) (wh : Int32) : ∀ fu k g ag, Sh g → BD X g 52 (tS A f k) → SI ag g → ag + 50 < 2 ^ 30 + k → gI g (128 + 2 * t) 0 = nI m → (∀ j, j < m → gL g (129 + 2 * t) j = f j) → k ≤ e → m < fu + k → ∃ g' ag', f_X11_judge_53 fu 0 wh (128 + 2 * t) (nI (gSt A f k)) (nI k) g = bd (f_X11_judgement 0 wh (if e = m then -1 else nI e) (if e = m then 0 else nI (actS (tS A f e) (f e)).1) (nI (gSt A f e)) g') (fun v2 g3 => some (v2, g3)) ∧ Fq (AL 52) g g' ∧ Sh g' ∧ SI ag' g' ∧ ag' ≤ ag + (m - k) ∧ BD X g' 52 (tS A f e) := by
  intro fu
  induction fu with
  | zero => intro k g ag _ _ _ _ _ _ _ h; omega
  | succ fu ih =>
    intro k g ag hs hb hI hag h0 hf hk hfu
    rw [f_X11_judge_53, h0]
    rcases Nat.lt_or_ge k m with z | z
    · obtain ⟨r, g1, ag1, a1, a2, a3, a4, a5, a6, a7⟩ := c_one (b := 52) (Or.inr rfl) hW hX hs k hb hI (by omega)
      have a81 := act_st (tS_wf hW hs f k) hs (f k)
      have run : ∀ {α : Type} (F : Int32 → G → Option (α × G)), (dr (gR g 0 5) (fun b2 => dr (gR g 0 7) (fun b4 => bd (f_X10_at (128 + 2 * t) (nI k) g) (fun v6 g7 => gdK g7 b2 0 (gdK g7 b4 9 (bd (f_X0_act b2 b4 v6 g7) F)))))) = F r g1 := fun F => by
        rw [md0_5 hs, md0_7 hs, c_at hs ht (by omega), bd_eq, hf k z, gk52 hs, gk68 hs, a1, bd_eq]
      rw [if_neg (nI_ge z (by omega)), run]
      rcases a7 with ⟨b1, b2⟩ | ⟨b1, b2, b3⟩
      · have ke : k < e := by
          rcases Nat.lt_or_ge k e with w | w
          · exact w
          · have : k = e := by omega
            subst this
            exact absurd b1 (st z)
        obtain ⟨g2, ag2, d1, d2, d3, d4, d5, d6⟩ := ih (k + 1) g1 ag1 a3 a6 a4 (by omega) (by rw [a2.I (AL_no (Or.inr rfl) (by omega))]; exact h0) (fun j hj => by rw [a2.L (AL_no (Or.inr rfl) (by omega))]; exact hf j hj) ke (by omega)
        have sm : nI (gSt A f k) + r = nI (gSt A f (k + 1)) := by
          rw [b2, nI_add]
          rfl
        rw [sm, if_pos (by rw [b2]; exact Int32.not_lt.mp (nI_pos (by omega))), li, lad1, d1]
        exact ⟨g2, ag2, rfl, a2.tr d2, d3, d4, by omega, d6⟩
      · have ke : k = e := by
          rcases Nat.lt_or_ge k e with w | w
          · have := ok k w
            omega
          · omega
        subst ke
        have s := tS_stop (A := A) (f := f) (k := k) (by omega)
        rw [s] at a6
        have ng : ¬ (0 : Int32) ≤ r ∧ -r = nI (actS (tS A f k) (f k)).1 := by
          rw [b3]
          obtain u | u | u | u : (actS (tS A f k) (f k)).1 = 1 ∨ (actS (tS A f k) (f k)).1 = 2 ∨ (actS (tS A f k) (f k)).1 = 3 ∨ (actS (tS A f k) (f k)).1 = 4 := by omega
          · rw [u]; decide
          · rw [u]; decide
          · rw [u]; decide
          · rw [u]; decide
        rw [if_neg ng.1, ng.2, if_neg (show ¬ k = m by omega), if_neg (show ¬ k = m by omega)]
        exact ⟨g1, ag1, rfl, a2, a3, a4, by omega, a6⟩
    · have e1 : k = e := by omega
      subst e1
      rw [if_pos (nI_le z (by omega)), if_pos (show k = m by omega), if_pos (show k = m by omega)]
      exact ⟨g, ag, rfl, Fq.rf, hs, hI, by omega, hb⟩
theorem r_te12 (hW : WF A) (ht : t < 4) (hm : m ≤ 40) (he : e ≤ m) (ok : ∀ j, j < e → (actS (tS A f j) (f j)).1 = 0) (st : e < m → (actS (tS A f e) (f e)).1 ≠ 0) : ∀ fu k g, RS (tS A f k) g → gI g 136 20 = nI (gSt A f k) → gI g 136 21 = 0 → gI g 153 t = nI m → (∀ j, j < m → gL g 154 (40 * t + j) = f j) → k ≤ e → m < fu + k → ∃ g', f_X12_tells_12 fu 136 (nI t) (nI k) g = some (nI e, g') ∧ Fm [17, 18, 20, 21] [137, 141, 142] g g' ∧ gI g' 137 = tS A f e ∧ gL g' 137 = gL g 137 ∧ gI g' 136 20 = nI (gSt A f e) ∧ gI g' 136 21 = (if e = m then 0 else nI (actS (tS A f e) (f e)).1) := by
  intro fu
  induction fu with
  | zero => intro k g _ _ _ _ _ _ h; omega
  | succ fu ih =>
    intro k g h h20 h21 h0 hf hk hfu
    have hs := h.1
    have wk := tS_wf hW hs f k
    rw [f_X12_tells_12, md136_34 hs, gk153 hs, sn153 hs, gdI_nI ht (by decide), nI_clamp (show t < 2 ^ 31 by omega), h0]
    rcases Nat.lt_or_ge k m with z | z
    · obtain ⟨g1, a1, a2, a3⟩ := r_whyNot h wk (f k)
      have hr1 := h.fm a2 (by decide)
      obtain ⟨gb, hgb⟩ : ∃ gb, gb = sI g1 136 21 (nI (actS (tS A f k) (f k)).1) := ⟨_, rfl⟩
      have xb : Fm [21] [] g1 gb := by
        rw [hgb]
        exact Fm.rf.sf (by decide)
      have hrb := hr1.fm xb (by decide)
      have b21 : gI gb 136 21 = nI (actS (tS A f k) (f k)).1 := by
        rw [hgb, gI_sIs, pk_us]
      have hsb := hrb.1
      have fb : gL gb 154 (40 * t + k) = f k := by
        rw [xb.L (by decide), a2.L (by decide)]
        exact hf k z
      have yb : Fm [17, 18, 20, 21] [137, 141, 142] g gb := (a2.mono (by decide) (by decide)).tr (xb.mono (by decide) (by decide))
      rw [if_neg (nI_ge z (by omega)), md136_35 hs, gk154 hs, sn154 hs, lum40, nI_add, gdI_nI (by omega) (by decide), nI_clamp (show 40 * t + k < 2 ^ 31 by omega), hf k z, a1, bd_eq, lg, ← hgb, b21]
      rcases Nat.lt_or_ge k e with w | w
      · have o := ok k w
        obtain ⟨g2, c1, c2, c3, c4, c5⟩ := r_does hrb (f k) o ((a3 o).fm xb (by decide) (by decide))
        have yc : Fm [17, 18, 20, 21] [137, 141, 142] g g2 := yb.tr (c2.mono (by decide) (by decide))
        have hrc : RS (tS A f (k + 1)) g2 := by
          have ww := tS_wf hW hs f (k + 1)
          exact ⟨hsb.fm c2, c3, ww.1, ww.2.1, ww.2.2.1⟩
        have c20 : gI g2 136 20 = nI (gSt A f (k + 1)) := by
          rw [c4, xb.2 20 (by decide), a2.2 20 (by decide), h20, nI_add]
          rfl
        have c21 : gI g2 136 21 = 0 := by
          rw [c2.2 21 (by decide), b21, o]
          rfl
        obtain ⟨g3, d1, d2, d3, d4, d5, d6⟩ := ih (k + 1) g2 hrc c20 c21 (by rw [yc.I (by decide)]; exact h0) (fun j hj => by rw [yc.L (by decide)]; exact hf j hj) w (by omega)
        refine ⟨g3, ?_, yc.tr d2, d3, ?_, d5, d6⟩
        · rw [o, if_pos (show nI 0 = 0 from rfl), md136_35 hsb, gk154 hsb, sn154 hsb, gdI_nI (by omega) (by decide), fb, c1, bd_eq, lad1, d1]
        · rw [d4]
          rw [c5, xb.L (by decide), a2.L (by decide)]
      · have ke : k = e := by omega
        subst ke
        have o := st z
        have wy : (actS (tS A f k) (f k)).1 ≤ 4 := act_4 _ _
        refine ⟨gb, ?_, yb, ?_, ?_, ?_, ?_⟩
        · rw [if_neg (nI_ne0 (by omega) (by omega))]
        · rw [xb.I (by decide), a2.I (by decide)]
          exact h.2.1
        · rw [xb.L (by decide), a2.L (by decide)]
        · rw [xb.2 20 (by decide), a2.2 20 (by decide)]
          exact h20
        · rw [b21, if_neg (show ¬ k = m by omega)]
    · have e1 : k = e := by omega
      subst e1
      rw [if_pos (nI_le z (by omega)), if_pos (show k = m by omega)]
      have em : k = m := by omega
      refine ⟨g, by rw [em], Fm.rf, h.2.1, rfl, h20, h21⟩
end JPL
