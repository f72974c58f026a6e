/-! WHERE ONE CAN GET: the reference's first leads are the class's depths. -/
section FRS
variable {A : Nat → Int32} {g g' : G} {p n : Nat} {q pa la dp : Nat → Nat}
/-- what is known while far is gone through: k leads of the stand s -/
def FI (N : Nat → Nat → Option Nat) (q dp : Nat → Nat) (n : Nat) (g : G) (far s l : Nat) : Prop := (∀ c, c < 1296 → gI g 148 c = nI 1073741824 ∨ ∃ i, i < n ∧ q i = c ∧ gI g 148 c = nI (dp i) ∧ dp i ≤ far + 1) ∧ (∀ i, i < n → dp i ≤ far → gI g 148 (q i) = nI (dp i)) ∧ ∀ i j k, i < n → j < n → k < 8 → dp i = far → (q i < s ∨ (q i = s ∧ k < l)) → N (q i) k = some (q j) → gI g 148 (q j) ≠ nI 1073741824
variable {N : Nat → Nat → Option Nat}
theorem r_fi63 (hA : Dm A) (hB : BF (nxS A (fre A p) p (md A p)) q pa la dp n n 0) (hn : n ≤ 232) (hq : ∀ i, i < n → stB A (fre A p) p (q i) = true) {k44 : Nat → Int32 → G → Option (Unit × G)} {k53 : Nat → Int32 → Int32 → G → Option (Unit × G)} {far s : Nat} (hf1 : far < 1296) (hs1 : s < 1296) : ∀ fu l g, Sh g → TH A p 1296 g → FI (nxS A (fre A p) p (md A p)) q dp n g far s l → l ≤ 8 → 8 < fu + l → ∃ g', f_X12_laysFirst_63 k44 k53 fu 136 (nI far) (nI s) (nI l) g = k53 136 (nI far) (nI (s + 1)) g' ∧ Fi [148] g g' ∧ FI (nxS A (fre A p) p (md A p)) q dp n g' far (s + 1) 0 := by
  have dl := hB.dp_le
  intro fu
  induction fu with
  | zero => intro l g _ _ _ _ h; omega
  | succ fu ih =>
    intro l g hs ht h hl hf
    obtain ⟨a, b, c⟩ := id h
    rw [f_X12_laysFirst_63]
    rcases Nat.lt_or_ge l 8 with z | z
    · rw [if_neg (lnge8 z), md136_27 hs, gk148 hs, sn148 hs, gdI_nI hs1 (by decide), nI_clamp (by omega)]
      by_cases w : gI g 148 s = nI far
      · obtain ⟨i, i1, i2, i3⟩ : ∃ i, i < n ∧ q i = s ∧ dp i = far := by
          rcases a s hs1 with u | ⟨i, i1, i2, i3, -⟩
          · rw [u, nI_eq (by decide) (by omega)] at w
            omega
          · rw [i3, nI_eq (by have := dl i i1; omega) (by omega)] at w
            exact ⟨i, i1, i2, w⟩
        have st := hq i i1
        rw [i2] at st
        rw [if_pos w, md136_24 hs, gk145 hs, sn145 hs, lum8, nI_add, gdI_nI (by omega) (by decide), li, nI_clamp (by omega), ((ht s hs1).2 st l z).1]
        have nx : ∀ g1, Sh g1 → TH A p 1296 g1 → Fi [148] g g1 → FI (nxS A (fre A p) p (md A p)) q dp n g1 far s (l + 1) → ∃ g', f_X12_laysFirst_123 k44 k53 (f_X12_laysFirst_63 k44 k53 fu) 136 (nI far) (nI s) (nI l) g1 = k53 136 (nI far) (nI (s + 1)) g' ∧ Fi [148] g g' ∧ FI (nxS A (fre A p) p (md A p)) q dp n g' far (s + 1) 0 := fun g1 s1 t1 x1 h1 => by
          obtain ⟨g2, e1, e2, e3⟩ := ih (l + 1) g1 s1 t1 h1 (by omega) (by omega)
          rw [f_X12_laysFirst_123, lad1]
          exact ⟨g2, e1, x1.tr e2, e3⟩
        cases hN : (nxS A (fre A p) p (md A p)) s l with
        | none =>
          rw [ioN]
          refine nx g hs ht Fi.rf ⟨a, b, fun i' j k h1 h2 h3 h4 h5 h6 => ?_⟩
          by_cases e : q i' = s ∧ k = l
          · rw [e.1, e.2, hN] at h6
            cases h6
          · exact c i' j k h1 h2 h3 h4 (by omega) h6
        | some y =>
          obtain ⟨j, j1, j2, j3, -⟩ := hB.ed (Or.inl i1) i1 z (by rw [i2]; exact hN)
          have y1 := stB_lt hA (hq j j1)
          rw [j2] at y1
          rw [ioS (by omega), show oI (some y) = nI y from rfl, gdI_nI y1 (by decide), nI_clamp (by omega), lFA]
          by_cases v : gI g 148 y = nI 1073741824
          · have dj : dp j = far + 1 := by
              rcases Nat.lt_or_ge far (dp j) with u | u
              · omega
              · have := b j j1 u
                rw [j2, v, nI_eq (by decide) (by have := dl j j1; omega)] at this
                have := dl j j1
                omega
            have x1 : Fi [148] g (sI g 148 y (nI (far + 1))) := Fi.rf.si (by decide)
            rw [if_pos v, lad1, lg]
            refine nx _ (Sh.fi x1 hs) (ht.fi x1 (by decide) (by decide) (by decide)) x1 ⟨fun c' hc' => ?_, fun i' h1 h2 => ?_, fun i' j' k h1 h2 h3 h4 h5 h6 => ?_⟩
            · rw [gI_sIs]
              by_cases e : c' = y
              · rw [e, pk_us]
                exact Or.inr ⟨j, j1, j2, by rw [dj], by omega⟩
              · rw [pk_un e]
                exact a c' hc'
            · rw [gI_sIs]
              by_cases e : q i' = y
              · exfalso
                have := hB.2.1 i' j h1 j1 (e.trans j2.symm)
                rw [this] at h2
                omega
              · rw [pk_un e]
                exact b i' h1 h2
            · rw [gI_sIs]
              by_cases e : q j' = y
              · rw [e, pk_us]
                exact fun u => by
                  have := (nI_eq (by omega) (by decide)).mp u
                  omega
              · rw [pk_un e]
                by_cases e2 : q i' = s ∧ k = l
                · rw [e2.1, e2.2, hN] at h6
                  exact absurd (Option.some.inj h6).symm e
                · exact c i' j' k h1 h2 h3 h4 (by omega) h6
          · rw [if_neg v]
            refine nx g hs ht Fi.rf ⟨a, b, fun i' j' k h1 h2 h3 h4 h5 h6 => ?_⟩
            by_cases e2 : q i' = s ∧ k = l
            · rw [e2.1, e2.2, hN] at h6
              rw [← Option.some.inj h6]
              exact v
            · exact c i' j' k h1 h2 h3 h4 (by omega) h6
      · rw [if_neg w, f_X12_laysFirst_129, lad1]
        refine ⟨g, rfl, Fi.rf, a, b, fun i j k h1 h2 h3 h4 h5 h6 => ?_⟩
        by_cases e : q i = s
        · exfalso
          have := b i h1 (by omega)
          rw [e, h4] at this
          exact w this
        · exact c i j k h1 h2 h3 h4 (by omega) h6
    · have e8 : l = 8 := by omega
      subst e8
      rw [if_pos (lle8 (by decide) (by decide)), f_X12_laysFirst_129, lad1]
      exact ⟨g, rfl, Fi.rf, a, b, fun i j k h1 h2 h3 h4 h5 h6 => c i j k h1 h2 h3 h4 (by omega) h6⟩
theorem r_fi53 (hA : Dm A) (hB : BF (nxS A (fre A p) p (md A p)) q pa la dp n n 0) (hn : n ≤ 232) (hq : ∀ i, i < n → stB A (fre A p) p (q i) = true) {k44 : Nat → Int32 → G → Option (Unit × G)} {far : Nat} (hf1 : far < 1296) : ∀ fu s g, Sh g → TH A p 1296 g → FI (nxS A (fre A p) p (md A p)) q dp n g far s 0 → s ≤ 1296 → 1296 < fu + s → ∃ g', f_X12_laysFirst_53 k44 fu 136 (nI far) (nI s) g = k44 136 (nI (far + 1)) g' ∧ Fi [148] g g' ∧ FI (nxS A (fre A p) p (md A p)) q dp n g' (far + 1) 0 0 := by
  intro fu
  induction fu with
  | zero => intro s g _ _ _ _ h; omega
  | succ fu ih =>
    intro s g hs ht h hl hf
    rw [f_X12_laysFirst_53]
    rcases Nat.lt_or_ge s 1296 with z | z
    · obtain ⟨g1, e1, e2, e3⟩ := r_fi63 hA hB hn hq hf1 z (k44 := k44) (k53 := f_X12_laysFirst_53 k44 fu) FU 0 g hs ht h (by decide) (by have := @FU_gt 8 (by decide); omega)
      rw [if_neg (lnge1296 z), show (0 : Int32) = nI 0 from rfl, e1]
      obtain ⟨g2, d1, d2, d3⟩ := ih (s + 1) g1 (Sh.fi e2 hs) (ht.fi e2 (by decide) (by decide) (by decide)) e3 (by omega) (by omega)
      exact ⟨g2, d1, e2.tr d2, d3⟩
    · have e : s = 1296 := by omega
      rw [if_pos (lle1296 z (by omega)), lad1]
      obtain ⟨a, b, c⟩ := h
      refine ⟨g, rfl, Fi.rf, fun c' hc' => ?_, fun i h1 h2 => ?_, fun i j k h1 h2 h3 h4 h5 => by omega⟩
      · rcases a c' hc' with u | ⟨i, i1, i2, i3, i4⟩
        · exact Or.inl u
        · exact Or.inr ⟨i, i1, i2, i3, by omega⟩
      · rcases Nat.lt_or_ge far (dp i) with u | u
        · have i0 : 0 < i := by
            rcases Nat.eq_zero_or_pos i with w | w
            · rw [w, hB.1.2] at u
              omega
            · exact w
          obtain ⟨p1, p2, p3, p4, p5⟩ := hB.2.2.2.1 i i0 h1
          have ne := c (pa i) i (la i) (by omega) h1 p3 (by omega) (Or.inl (by
            have := stB_lt hA (hq (pa i) (by omega))
            omega)) p4
          rcases a (q i) (stB_lt hA (hq i h1)) with w | ⟨i', w1, w2, w3, -⟩
          · exact absurd w ne
          · rw [hB.2.1 i' i w1 h1 w2] at w3
            exact w3
        · exact b i h1 u
theorem r_fi44 (hA : Dm A) (hB : BF (nxS A (fre A p) p (md A p)) q pa la dp n n 0) (hn : n ≤ 232) (hq : ∀ i, i < n → stB A (fre A p) p (q i) = true) : ∀ fu far g, Sh g → TH A p 1296 g → FI (nxS A (fre A p) p (md A p)) q dp n g far 0 0 → far ≤ 1296 → 1296 < fu + far → ∃ g', f_X12_laysFirst_44 fu 136 (nI far) g = some ((), g') ∧ Fi [148] g g' ∧ FI (nxS A (fre A p) p (md A p)) q dp n g' 1296 0 0 := by
  intro fu
  induction fu with
  | zero => intro s g _ _ _ _ h; omega
  | succ fu ih =>
    intro far g hs ht h hl hf
    rw [f_X12_laysFirst_44]
    rcases Nat.lt_or_ge far 1296 with z | z
    · obtain ⟨g1, e1, e2, e3⟩ := r_fi53 hA hB hn hq z (k44 := f_X12_laysFirst_44 fu) FU 0 g hs ht h (by decide) (by have := @FU_gt 1296 (by decide); omega)
      rw [if_neg (lnge1296 z), show (0 : Int32) = nI 0 from rfl, e1]
      obtain ⟨g2, d1, d2, d3⟩ := ih (far + 1) g1 (Sh.fi e2 hs) (ht.fi e2 (by decide) (by decide) (by decide)) e3 (by omega) (by omega)
      exact ⟨g2, d1, e2.tr d2, d3⟩
    · have e : far = 1296 := by omega
      rw [if_pos (lle1296 z (by omega))]
      exact ⟨g, rfl, Fi.rf, by rw [← e]; exact h⟩
/-- by how many leads at fewest -/
def FR (q dp : Nat → Nat) (n : Nat) (g : G) : Prop := ∀ c, c < 1296 → (∃ i, i < n ∧ q i = c ∧ gI g 148 c = nI (dp i)) ∨ ((∀ i, i < n → q i ≠ c) ∧ gI g 148 c = nI 1073741824)
theorem r_fi7 (hp : p < nv A 3) (hB : BF (nxS A (fre A p) p (md A p)) q pa la dp n n 0) (hn : n ≤ 232) (hq : ∀ i, i < n → stB A (fre A p) p (q i) = true) (h0 : q 0 = 36 * tw A (2 * p) + tw A (2 * p + 1)) : ∀ fu k g, RS A g → TH A p 1296 g → (∀ c, c < k → gI g 148 c = if c = q 0 then nI 0 else nI 1073741824) → k ≤ 1296 → 1296 < fu + k → ∃ g', f_X12_laysFirst_7 fu 136 (nI p) (nI k) g = some ((), g') ∧ Fi [148] g g' ∧ FR q dp n g' := by
  intro fu
  induction fu with
  | zero => intro s g _ _ _ _ h; omega
  | succ fu ih =>
    intro k g h ht hv hl hf
    have hs := h.1
    have hA := h.2.2.1
    obtain ⟨-, -, y1⟩ := now_lt h hp
    rw [f_X12_laysFirst_7]
    rcases Nat.lt_or_ge k 1296 with z | z
    · have c35 : ∀ x : Nat, nI x = (if k = q 0 then nI 0 else nI 1073741824) → ∃ g', f_X12_laysFirst_35 (f_X12_laysFirst_7 fu) 136 (nI p) (nI k) (nI x) (nI k) 148 g = some ((), g') ∧ Fi [148] g g' ∧ FR q dp n g' := fun x hx => by
        have x1 : Fi [148] g (sI g 148 k (nI x)) := Fi.rf.si (by decide)
        obtain ⟨g2, e1, e2, e3⟩ := ih (k + 1) _ (h.fi x1 (by decide)) (ht.fi x1 (by decide) (by decide) (by decide)) (fun c hc => by
          rw [gI_sIs]
          rcases Nat.eq_or_lt_of_le (Nat.le_of_lt_succ hc) with w | w
          · rw [w, pk_us, hx]
          · rw [pk_un (by omega)]
            exact hv c w) (by omega) (by omega)
        rw [f_X12_laysFirst_35, sn148 hs, gdI_nI z (by decide), nI_clamp (by omega), lg, lad1]
        exact ⟨g2, e1, x1.tr e2, e3⟩
      rw [if_neg (lnge1296 z), md136_27 hs, r_standNow h hp, bd_eq, ← h0]
      by_cases w : k = q 0
      · rw [if_pos (by rw [w]), gk148 hs]
        exact c35 0 (by rw [if_pos w])
      · rw [if_neg (fun u => w ((nI_eq (by omega) (by rw [h0]; omega)).mp u)), gk148 hs, lFA]
        exact c35 1073741824 (by rw [if_neg w])
    · rw [if_pos (lle1296 z (by omega))]
      have dl := hB.dp_le
      obtain ⟨g2, e1, e2, e3⟩ := r_fi44 hA hB hn hq FU 0 g hs ht ⟨fun c hc => by
        rw [hv c (by omega)]
        by_cases w : c = q 0
        · rw [if_pos w]
          exact Or.inr ⟨0, hB.1.1, w.symm, by rw [hB.1.2], by rw [hB.1.2]; omega⟩
        · rw [if_neg w]
          exact Or.inl rfl, fun i h1 h2 => by
        have i0 : i = 0 := by
          rcases Nat.eq_zero_or_pos i with w | w
          · exact w
          · have := hB.d0 h1 w
            omega
        rw [i0, hv _ (by rw [h0]; omega), if_pos rfl, hB.1.2], fun i j k h1 h2 h3 h4 h5 => by omega⟩ (by decide) (by have := @FU_gt 1296 (by decide); omega)
      refine ⟨g2, e1, e2, fun c hc => ?_⟩
      rcases e3.1 c hc with u | ⟨i, i1, i2, i3, -⟩
      · refine Or.inr ⟨fun i hi e => ?_, u⟩
        have := dl i hi
        have := e3.2.1 i hi (by omega)
        rw [e, u, nI_eq (by decide) (by omega)] at this
        omega
      · exact Or.inl ⟨i, i1, i2, i3⟩
theorem r_laysFirst (h : RS A g) (hp : p < nv A 3) (hB : BF (nxS A (fre A p) p (md A p)) q pa la dp n n 0) (hn : n ≤ 232) (hq : ∀ i, i < n → stB A (fre A p) p (q i) = true) (h0 : q 0 = 36 * tw A (2 * p) + tw A (2 * p + 1)) : ∃ g', f_X12_laysFirst 136 (nI p) g = some ((), g') ∧ Fm [17, 18] [141, 142, 144, 145, 146, 148] g g' ∧ FR q dp n g' := by
  obtain ⟨g1, e1, e2, e3⟩ := r_laysStands h hp
  obtain ⟨g2, d1, d2, d3⟩ := r_fi7 hp hB hn hq h0 FU 0 g1 (h.fm e2 (by decide)) e3 (fun j hj => by omega) (by decide) (by have := @FU_gt 1296 (by decide); omega)
  rw [f_X12_laysFirst, e1, bd_eq]
  exact ⟨g2, d1, (e2.mono (by decide) (by decide)).tr (Fm.of (d2.mono (by decide)) (by decide)), d3⟩
/-! reach -/
theorem FR.val (h : FR q dp n g) (hd : ∀ i, i < n → dp i < 1000) {c : Nat} (hc : c < 1296) : ((1073741824 : Int32) ≤ gI g 148 c ↔ pB q n c = false) := by
  rw [lFA]
  rcases h c hc with ⟨i, i1, i2, i3⟩ | ⟨i1, i2⟩
  · have := hd i i1
    rw [i3, nI_leI (by decide) (by omega), pB_f]
    exact ⟨fun u => by omega, fun u => absurd i2 (u i i1)⟩
  · rw [i2, pB_f]
    exact ⟨fun _ => i1, fun _ => nI_le (Nat.le_refl _) (by decide)⟩
theorem r_reach35 (hs : Sh g) (h : FR q dp n g) (hd : ∀ i, i < n → dp i < 1000) {t : Nat} (ht : t < 2) : ∀ fu k (m : Int64), (∀ c, c < 64 → bt m c = decide (∃ i, i < n ∧ q i < k ∧ ow t (q i / 36) (q i % 36) = c)) → k ≤ 1296 → 1296 < fu + k → ∃ m', f_X12_reach_35 fu 136 (nI t) m (nI k) g = some (m', g) ∧ ∀ c, c < 64 → bt m' c = decide (∃ i, i < n ∧ q i < 1296 ∧ ow t (q i / 36) (q i % 36) = c) := by
  intro fu
  induction fu with
  | zero => intro k m _ _ h; omega
  | succ fu ih =>
    intro k m hm hk hf
    rw [f_X12_reach_35]
    rcases Nat.lt_or_ge k 1296 with z | z
    · rw [if_neg (lnge1296 z), md136_27 hs, gk148 hs, sn148 hs, gdI_nI z (by decide), nI_clamp (by omega)]
      have ol : ow t (k / 36) (k % 36) < 36 := ow_lt (by omega) (by omega)
      cases hp : pB q n k with
      | false =>
        rw [if_pos ((h.val hd z).mpr hp), f_X12_reach_69, ll, lad1]
        refine ih (k + 1) _ (fun c hc => ?_) (by omega) (by omega)
        rw [bt_or, bt_0, Bool.or_false, hm c hc, decide_eq_decide]
        constructor
        · rintro ⟨i, i1, i2, i3⟩
          exact ⟨i, i1, by omega, i3⟩
        · rintro ⟨i, i1, i2, i3⟩
          have := pB_f.mp hp i i1
          exact ⟨i, i1, by omega, i3⟩
      | true =>
        obtain ⟨i0, u1, u2⟩ := pB_iff.mp hp
        rw [if_neg (fun w => by rw [(h.val hd z).mp w] at hp; cases hp), r_inStand z ht, bd_eq, f_X12_reach_69, ll, lad1]
        refine ih (k + 1) _ (fun c hc => ?_) (by omega) (by omega)
        rw [bt_or, bt_one (by omega), hm c hc, Bool.eq_iff_iff, Bool.or_eq_true, decide_eq_true_eq, decide_eq_true_eq, decide_eq_true_eq]
        constructor
        · rintro (⟨i, i1, i2, i3⟩ | u)
          · exact ⟨i, i1, by omega, i3⟩
          · exact ⟨i0, u1, by omega, by rw [u2]; exact u.symm⟩
        · rintro ⟨i, i1, i2, i3⟩
          by_cases e : q i = k
          · right
            rw [← i3, e]
          · exact Or.inl ⟨i, i1, by omega, i3⟩
    · have e : k = 1296 := by omega
      subst e
      rw [if_pos (lle1296 (by decide) (by decide))]
      exact ⟨m, rfl, hm⟩
theorem c_cells5 (hs : Sh g) (hG : GRw g 2 n q pa la dp) (hn : n ≤ 232) (hq : ∀ i, i < n → q i < 1296) {t : Nat} (ht : t < 2) : ∀ fu k (m : Int64), (∀ c, c < 64 → bt m c = decide (∃ i, i < k ∧ ow t (q i / 36) (q i % 36) = c)) → k ≤ n → n < fu + k → ∃ m', f_X4_cellsOf_5 fu 2 (nI t) m (nI k) g = some (m', g) ∧ ∀ c, c < 64 → bt m' c = decide (∃ i, i < n ∧ ow t (q i / 36) (q i % 36) = c) := by
  intro fu
  induction fu with
  | zero => intro k m _ _ h; omega
  | succ fu ih =>
    intro k m hm hk hf
    rw [f_X4_cellsOf_5, hG.1]
    rcases Nat.lt_or_ge k n with z | z
    · have q1 := hq k z
      have ol : ow t (q k / 36) (q k % 36) < 36 := ow_lt (by omega) (by omega)
      rw [if_neg (nI_ge z (by omega)), c_cellOf (Or.inl rfl) hs hG hn z q1 ht, bd_eq, ll, lad1]
      refine ih (k + 1) _ (fun c hc => ?_) (by omega) (by omega)
      rw [bt_or, bt_one (by omega), hm c hc, Bool.eq_iff_iff, Bool.or_eq_true, decide_eq_true_eq, decide_eq_true_eq, decide_eq_true_eq]
      constructor
      · rintro (⟨i, i1, i3⟩ | u)
        · exact ⟨i, by omega, i3⟩
        · exact ⟨k, by omega, u.symm⟩
      · rintro ⟨i, i1, i3⟩
        by_cases e : i = k
        · right
          rw [← i3, e]
        · exact Or.inl ⟨i, by omega, i3⟩
    · have e : k = n := by omega
      subst e
      rw [if_pos (nI_le z (by omega))]
      exact ⟨m, rfl, hm⟩
/-- the cells where a twin can get -/
theorem c_cellsOf (hs : Sh g) (hG : GRw g 2 n q pa la dp) (hn : n ≤ 232) (hq : ∀ i, i < n → q i < 1296) {t : Nat} (ht : t < 2) : ∃ m, f_X4_cellsOf 2 (nI t) g = some (m, g) ∧ ∀ c, c < 64 → bt m c = decide (∃ i, i < n ∧ ow t (q i / 36) (q i % 36) = c) := c_cells5 hs hG hn hq ht FU 0 _ (fun c _ => by rw [bt_0, eq_comm, decide_eq_false_iff_not]; rintro ⟨i, i1, -⟩; omega) (Nat.zero_le _) (by have := @FU_gt n (by omega); omega)
theorem r_reachF (hs : Sh g) (h : FR q dp n g) (hd : ∀ i, i < n → dp i < 1000) (hq : ∀ i, i < n → q i < 1296) {t : Nat} (ht : t < 2) : ∃ m, f_X12_reach_35 FU 136 (nI t) 0 (nI 0) g = some (m, g) ∧ ∀ c, c < 64 → bt m c = decide (∃ i, i < n ∧ ow t (q i / 36) (q i % 36) = c) := by
  obtain ⟨m, e1, e2⟩ := r_reach35 hs h hd ht FU 0 0 (fun c _ => by rw [bt_0, eq_comm, decide_eq_false_iff_not]; rintro ⟨i, -, i1, -⟩; omega) (by decide) (by have := @FU_gt 1296 (by decide); omega)
  refine ⟨m, e1, fun c hc => ?_⟩
  rw [e2 c hc, decide_eq_decide]
  exact ⟨fun ⟨i, i1, _, i3⟩ => ⟨i, i1, i3⟩, fun ⟨i, i1, i3⟩ => ⟨i, i1, hq i i1, i3⟩⟩
/-! stands -/
theorem cnt_pB (hi : ∀ i j, i < n → j < n → q i = q j → i = j) (hq : ∀ i, i < n → q i < 1296) : ∀ k, k ≤ n → cntB (pB q k) 1296 = k
  | 0, _ => cntB_0 (fun c _ => pB_f.mpr (fun a ha => by omega))
  | k + 1, hk => by
    have ih := cnt_pB hi hq k (by omega)
    rw [cntB_rm (Q := pB q (k + 1)) (x := q k) (pB_iff.mpr ⟨k, by omega, rfl⟩) (hq k (by omega)), cntB_congr (Q := pB q k) (fun c _ => ?_), ih]
    rw [Bool.eq_iff_iff, Bool.and_eq_true, pB_iff, pB_iff, decide_eq_true_eq]
    constructor
    · rintro ⟨⟨a, a1, a2⟩, u⟩
      refine ⟨a, ?_, a2⟩
      rcases Nat.eq_or_lt_of_le (Nat.le_of_lt_succ a1) with e | e
      · rw [e] at a2
        exact absurd a2.symm u
      · exact e
    · rintro ⟨a, a1, a2⟩
      refine ⟨⟨a, by omega, a2⟩, fun u => ?_⟩
      rw [← a2] at u
      have := hi a k (by omega) (by omega) u
      omega
theorem r_st26 (hs : Sh g) (h : FR q dp n g) (hd : ∀ i, i < n → dp i < 1000) : ∀ fu k, k ≤ 1296 → 1296 < fu + k → f_X12_stands_26 fu 136 (nI (cntB (pB q n) k)) (nI k) g = some (nI (cntB (pB q n) 1296), g) := by
  intro fu
  induction fu with
  | zero => intro k _ h; omega
  | succ fu ih =>
    intro k hk hf
    rw [f_X12_stands_26]
    rcases Nat.lt_or_ge k 1296 with z | z
    · have i := ih (k + 1) (by omega) (by omega)
      have cu : cntB (pB q n) (k + 1) = cntB (pB q n) k + (if pB q n k = true then 1 else 0) := rfl
      rw [cu] at i
      rw [if_neg (lnge1296 z), md136_27 hs, gk148 hs, sn148 hs, gdI_nI z (by decide), nI_clamp (by omega)]
      cases hp : pB q n k with
      | false =>
        rw [hp, if_neg (by decide)] at i
        rw [if_pos ((h.val hd z).mpr hp), f_X12_stands_51, show (0 : Int32) = nI 0 from rfl, nI_add, li, lad1]
        exact i
      | true =>
        rw [hp, if_pos rfl] at i
        rw [if_neg (fun w => by rw [(h.val hd z).mp w] at hp; cases hp), f_X12_stands_51, lad1, li, lad1]
        exact i
    · have e : k = 1296 := by omega
      subst e
      rw [if_pos (lle1296 (by decide) (by decide))]
end FRS
