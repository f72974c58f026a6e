/-! QUERIES answered alike: power. -/
section QPW
variable {X : Nat → Prop} {A : Nat → Int32} {g g' : G} {p ag n : Nat} {q pa la dp : Nat → Nat}
def pwB (A : Nat → Int32) (p c : Nat) : Bool := decide (LG A p c (2 * (36 * tw A (2 * p) + tw A (2 * p + 1))) < 1073741824)
theorem c_pw33 (hA : Dm A) {T : Int64} : ∀ fu k (m : Int64) g, GH X A p g n q pa la dp → SI ag g → (∀ c, c < 64 → bt m c = (decide (c < k) && (fun c => bt T c && pwB A p c) c)) → k ≤ 36 → 36 < fu + k → ∃ m' g', f_X11_power_33 fu 0 2 T m (nI k) g = some (m', g') ∧ Qf g g' ∧ GH X A p g' n q pa la dp ∧ SI ag g' ∧ ∀ c, c < 64 → bt m' c = (decide (c < 36) && (fun c => bt T c && pwB A p c) c) := by
  intro fu
  induction fu with
  | zero => intro k m g _ _ _ _ h; omega
  | succ fu ih =>
    intro k m g h hI hm hk hf
    have hs := h.1.1
    rw [f_X11_power_33]
    rcases Nat.lt_or_ge k 36 with z | z
    · rw [if_neg (lnge36 z), ibt (by omega)]
      by_cases bk : bt T k = true
      · rw [if_pos bk]
        obtain ⟨g1, lv, b1, b2, b3, b4, b5, b6⟩ := c_playQ (c := k) hA h hI z
        obtain ⟨B1, B2, B3, B4, B5, B6, B7⟩ := id b3.2.2.2.2.1
        have hs1 := b3.1.1
        have n0 := B1.1.1
        have ll' := LG_le (A := A) (p := p) (c := k) (2 * (36 * tw A (2 * p) + tw A (2 * p + 1)))
        have v0 : lv 0 = toLv (LG A p k) (2 * (36 * tw A (2 * p) + tw A (2 * p + 1))) := by
          rw [gm_same hA B1 B4 b6 (show 0 < 2 * n by omega)]
          unfold fC
          rw [B5]
          rfl
        have fin : ∀ m', (∀ c, c < 64 → bt m' c = (decide (c < k + 1) && (fun c => bt T c && pwB A p c) c)) → ∃ m'' g', f_X11_power_81 (f_X11_power_33 fu) 0 2 T m' (nI k) g1 = some (m'', g') ∧ Qf g g' ∧ GH X A p g' n q pa la dp ∧ SI ag g' ∧ ∀ c, c < 64 → bt m'' c = (decide (c < 36) && (fun c => bt T c && pwB A p c) c) := fun m' hm' => by
          rw [f_X11_power_81, lad1]
          obtain ⟨m2, g2, q1, q2, q3, q4, q5⟩ := ih (k + 1) m' g1 b3 b4 hm' (by omega) (by omega)
          exact ⟨m2, g2, q1, b2.tr q2, q3, q4, q5⟩
        rw [md0_13 hs, gk27 hs, b1, bd_eq, md0_13 hs1, gk27 hs1, f_X3_levelNow, md27_7 hs1, gk33 hs1, sn33 hs1, show (0 : Int32) = nI 0 from rfl, gdI_nI (by decide) (by decide), nI_clamp (by decide), b5 0 (by omega), v0, bd_eq]
        unfold toLv
        by_cases w : LG A p k (2 * (36 * tw A (2 * p) + tw A (2 * p + 1))) < 1073741824
        · rw [if_pos w, if_neg (oI_ne (by omega)), ll]
          refine fin _ (adv2 (by omega) ?_ hm)
          show (bt T k && pwB A p k) = true
          unfold pwB
          rw [bk, decide_eq_true w]
          rfl
        · rw [if_neg w, if_pos (show oI none = -1 from rfl)]
          refine fin _ (adv1 ?_ hm)
          show (bt T k && pwB A p k) = false
          unfold pwB
          rw [decide_eq_false w, Bool.and_false]
      · rw [if_neg bk, f_X11_power_81, lad1]
        refine ih (k + 1) m g h hI (adv1 ?_ hm) (by omega) (by omega)
        show (bt T k && pwB A p k) = false
        rw [Bool.eq_false_iff.mpr bk, Bool.false_and]
    · have e : k = 36 := by omega
      subst e
      rw [if_pos (lle36 (by decide) (by decide))]
      exact ⟨m, g, rfl, Qf.rf hs, h, hI, hm⟩
theorem r_pw28 (hp : p < nv A 3) : ∀ fu k (m : Int64) g, RS A g → TH A p 1296 g → (∀ c, c < 64 → bt m c = (decide (c < k) && pwB A p c)) → k ≤ cS A → cS A < fu + k → ∃ m' g', f_X12_power_28 fu 136 (nI p) m (nI k) g = some (m', g') ∧ Fi [147, 151] g g' ∧ ∀ c, c < 64 → bt m' c = (decide (c < cS A) && pwB A p c) := by
  intro fu
  induction fu with
  | zero => intro k m g _ _ _ _ h; omega
  | succ fu ih =>
    intro k m g h ht hm hk hf
    have cl := h.cl
    rw [f_X12_power_28, R_cells h, bd_eq]
    rcases Nat.lt_or_ge k (cS A) with z | z
    · obtain ⟨g1, f1, f2, f3⟩ := r_laysForced (c := k) h hp (by omega) ht
      have ll' := LG_le (A := A) (p := p) (c := k) (2 * (36 * tw A (2 * p) + tw A (2 * p + 1)))
      have fin : ∀ m', (∀ c, c < 64 → bt m' c = (decide (c < k + 1) && pwB A p c)) → ∃ m'' g', f_X12_power_28 fu 136 (nI p) m' (nI (k + 1)) g1 = some (m'', g') ∧ Fi [147, 151] g g' ∧ ∀ c, c < 64 → bt m'' c = (decide (c < cS A) && pwB A p c) := fun m' hm' => by
        obtain ⟨m2, g2, q1, q2, q3⟩ := ih (k + 1) m' g1 (h.fi f2 (by decide)) (ht.fi f2 (by decide) (by decide) (by decide)) hm' (by omega) (by omega)
        exact ⟨m2, g2, q1, f2.tr q2, q3⟩
      rw [if_neg (nI_ge z (by omega)), f1, bd_eq, lFA, f_X12_power_59, f_X12_power_59, ll, ll, lad1]
      by_cases w : LG A p k (2 * (36 * tw A (2 * p) + tw A (2 * p + 1))) < 1073741824
      · rw [if_neg (nI_ge w (by decide))]
        exact fin _ (adv2 (by omega) (decide_eq_true w) hm)
      · rw [if_pos (nI_le (by omega) (by omega))]
        refine fin _ (fun c hc => ?_)
        rw [bt_or, bt_0, Bool.or_false]
        exact adv1 (decide_eq_false w) hm c hc
    · have e : k = cS A := by omega
      subst e
      rw [if_pos (nI_le z (by omega))]
      exact ⟨m, g, rfl, Fi.rf, hm⟩
theorem pw_no (hA : Dm A) (hB : BF (nxS A (fre A p) p (md A p)) q pa la dp n n 0) (hq : ∀ i, i < n → stB A (fre A p) p (q i) = true) (h0 : q 0 = (36 * tw A (2 * p) + tw A (2 * p + 1))) {c : Nat} (hno : ¬ ∃ i, i < n ∧ ow 0 (q i / 36) (q i % 36) = c) : pwB A p c = false := by
  have n0 := hB.1.1
  have L : Lv (slC (nxI (nxS A (fre A p) p (md A p)) q n)) (tgI q c) (fun x => x < 2 * n) (fun _ => none) := by
    refine ⟨fun x hx e => ?_, fun x k _ _ e => (by cases e), fun x _ _ _ => ⟨fun _ y _ => rfl, fun _ => ?_⟩⟩
    · have hx' : x < 2 * n := hx
      exact absurd ⟨x / 2, by omega, of_decide_eq_true e⟩ hno
    · obtain ⟨y, hy⟩ := List.exists_mem_of_ne_nil _ (slC_ne (nxI (nxS A (fre A p) p (md A p)) q n) x)
      exact ⟨y, hy, rfl⟩
  have v0 := gm_same hA hB hq L (show 0 < 2 * n by omega)
  unfold fC toLv at v0
  rw [h0] at v0
  unfold pwB
  refine decide_eq_false (fun w => ?_)
  have e : 2 * (36 * tw A (2 * p) + tw A (2 * p + 1)) + 0 % 2 = 2 * (36 * tw A (2 * p) + tw A (2 * p + 1)) := rfl
  rw [e, if_pos w] at v0
  cases v0
theorem q_power (h : QS X A ag g) (hag : ag + 2 < 2 ^ 30) (v : Int32) : QA X A ag g (f_X11_power 0 v g) (fun g => f_X12_power 136 v g) := by
  obtain ⟨h1, h2, h3, h4, h5⟩ := id h; have hA := h1.2.2.1; have hBd := h1.2.2.2.1; have k3 := h1.k3; have cl := h1.cl; have hs := h1.1
  cases hp' : inR v (nv A 3) with
  | false =>
    refine QA.of (v := -2) (g1 := g) (g2 := sI g 136 0 0) (K := [0]) (S := []) ?_ (Qf.rf h1.1) h ?_ tF0 (by decide) (by decide) (Nat.le_refl _) (by omega)
    · rw [f_X11_power, md0_4 hs, gk47 hs, c_isPair h3 hA, hp', bd_eq, ibF]
    · show f_X12_power 136 v g = _
      rw [f_X12_power, lg, R_isPair h1.t0, inL_I, hp', bd_eq, ibF]
  | true =>
    obtain ⟨p, hp, rfl⟩ := pr_t hA hp'
    obtain ⟨g1, ag', n, q, pa, la, dp, e1, e2, e3, e4, e5, e6⟩ := c_graphOf h hp (by omega)
    obtain ⟨B1, B2, B3, B4, B5, B6, B7⟩ := id e3.2.2.2.2.1
    have hs1 := e3.1.1
    have hq : ∀ i, i < n → q i < 1296 := fun i hi => stB_lt hA (B4 i hi)
    obtain ⟨T, m2, m3⟩ := c_cellsOf (t := 0) hs1 B2 B7 hq (by decide)
    have m2' : f_X4_cellsOf 2 0 g1 = some (T, g1) := m2
    obtain ⟨r, g2, b1, b2, b3, b4, b5⟩ := c_pw33 (T := T) hA FU 0 0 g1 e3 e4 (fun c hc => by rw [bt_0]; rfl) (by decide) (by have := @FU_gt 36 (by decide); omega)
    have b1' : f_X11_power_33 FU 0 2 T 0 0 g1 = some (r, g2) := b1
    obtain ⟨g3, d1, d2, d3⟩ := r_laysStands b3.1.t0 hp
    obtain ⟨r', g4, f1, f2, f3⟩ := r_pw28 hp FU 0 0 g3 (b3.1.t0.fm d2 (by decide)) d3 (fun c hc => by rw [bt_0]; rfl) (Nat.zero_le _) (by have := @FU_gt (cS A) (by omega); omega)
    have f1' : f_X12_power_28 FU 136 (nI p) 0 0 g3 = some (r', g4) := f1
    have x3 : Fm [17, 18] [147, 151] g3 g4 := Fm.of f2 (by decide)
    have em : r = r' := bt_ext (fun c hc => by
      rw [b5 c hc, f3 c hc]
      dsimp only
      rw [m3 c hc]
      by_cases y : ∃ i, i < n ∧ ow 0 (q i / 36) (q i % 36) = c
      · have y2 : c < cS A := by
          obtain ⟨i, i1, i2⟩ := y
          have := (stB_iff.mp (B4 i i1)).1.1
          have e : ow 0 (q i / 36) (q i % 36) = q i / 36 := rfl
          omega
        rw [decide_eq_true y, decide_eq_true y2, decide_eq_true (show c < 36 by omega), Bool.true_and]
      · rw [pw_no hA B1 B4 B5 y, Bool.and_false, Bool.and_false, Bool.and_false])
    refine QA.of (v := r) (g1 := g2) (g2 := g4) (K := [0, 17, 18]) (S := [141, 142, 144, 145, 146, 147, 151]) ?_ (e2.tr b2) (b3.s hp b4) ?_ (((tF0.mono (by decide) (by decide)).tr (d2.mono (by decide) (by decide))).tr (x3.mono (by decide) (by decide))) (by decide) (by decide) e5 (by omega)
    · rw [f_X11_power, md0_4 hs, gk47 hs, c_isPair h3 hA, hp', bd_eq, ibT, e1, bd_eq, gk2 hs1, m2', bd_eq, b1']
    · show f_X12_power 136 (nI p) g2 = _
      rw [f_X12_power, lg, R_isPair b3.1.t0, inL_I, hp', bd_eq, ibT, d1, bd_eq, f1', em]
end QPW
