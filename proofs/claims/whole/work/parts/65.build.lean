/-! THE CLASS'S GRAPH is built; what is read off it. -/
section BLD
def fitB (c : Nat) (one two : Int32) : Bool := (decide (one = -1) || decide (nI (c / 36) = one)) && (decide (two = -1) || decide (nI (c % 36) = two))
variable {X : Nat → Prop} {A : Nat → Int32} {F : Nat → Bool} {p m ag : Nat} {g g' : G} {b n : Nat} {q pa la dp : Nat → Nat}
theorem c_has {i : Nat} (e0 : gI g b 0 = nI n) (hn : n ≤ 256) (hi : i < 2 ^ 31) : f_X4_has b (nI i) g = some (decide (i < n), g) := by
  rw [f_X4_has, if_neg (nI_pos hi), e0]
  rcases Nat.lt_or_ge i n with z | z
  · rw [if_neg (nI_ge z (by omega)), if_neg (lnge256 (by omega)), decide_eq_true z]
  · rw [if_pos (nI_le z hi), decide_eq_false (by omega)]
theorem c_has1 : f_X4_has b (-1) g = some (false, g) := by
  rw [f_X4_has, if_pos (by decide)]
theorem c_fits (hb : Gc b) (hs : Sh g) (e0 : gI g b 0 = nI n) (hn : n ≤ 256) {i : Nat} (hi : i < n) (e1 : gI g (b + 1) i = nI (cx (q i))) (hq : q i < 1296) (one two : Int32) : f_X4_fits b (nI i) one two g = some (fitB (q i) one two, g) := by
  have c1 := cx_lt hq
  obtain ⟨d1, d2⟩ := cx_dm (q i)
  have n1 := g_gn hb hs (k := 1) (by decide) (by decide)
  have f26 : f_X4_fits_26 b (nI i) two g = some (decide (two = -1) || decide (nI (q i % 36) = two), g) := by
    rw [f_X4_fits_26]
    by_cases z : two = -1
    · rw [if_pos z, decide_eq_true z, f_X4_fits_44]
      rfl
    · rw [if_neg z, decide_eq_false z, Bool.false_or, g_dr hb hs (by decide) (by decide), g_gk hb hs (by decide) (by decide), n1, gdI_nI (by omega) (by decide), nI_clamp (by omega), e1, ldi64 (by omega), lmo64, d2, f_X4_fits_44]
      by_cases y : nI (q i % 36) = two
      · rw [if_pos y, decide_eq_true y]
      · rw [if_neg y, decide_eq_false y]
  rw [f_X4_fits, c_has e0 hn (by omega), bd_eq, decide_eq_true hi, ibT, f26]
  unfold fitB
  by_cases z : one = -1
  · rw [if_pos z, decide_eq_true z]
    rfl
  · rw [if_neg z, decide_eq_false z, Bool.false_or, g_dr hb hs (by decide) (by decide), g_gk hb hs (by decide) (by decide), n1, gdI_nI (by omega) (by decide), nI_clamp (by omega), e1, ldi64 (by omega), d1]
    by_cases y : nI (q i / 36) = one
    · rw [if_pos y, decide_eq_true y]
      rfl
    · rw [if_neg y, decide_eq_false y]
      rfl
theorem GNx.set {N : Nat → Nat → Option Nat} {s l n' : Nat} {q' : Nat → Nat} {v : Int32} (h : GNx N g b n q s l) (hn : n ≤ n') (hs : s < n) (hq : ∀ i, i < n → q' i = q i) (hl : l < 8) (e5 : gI g' (b + 5) = upd (gI g (b + 5)) (s * 8 + l) v) (hv : (N (q s) l = none ∧ v = -1) ∨ ∃ j, j < n' ∧ N (q s) l = some (q' j) ∧ v = nI j) : GNx N g' b n' q' s (l + 1) := by
  intro i l' h1 h2
  have hi : i < n := by omega
  rw [e5, hq i hi]
  by_cases e : i = s ∧ l' = l
  · rw [e.1, e.2, pk_us]
    exact hv
  · rw [pk_un (by omega)]
    rcases h i l' (by omega) h2 with z | ⟨j, j1, j2, j3⟩
    · exact Or.inl z
    · exact Or.inr ⟨j, by omega, by rw [hq j j1]; exact j2, j3⟩
def IB (X : Nat → Prop) (A : Nat → Int32) (F : Nat → Bool) (p m ag : Nat) (g : G) (b n s l : Nat) (q pa la dp : Nat → Nat) : Prop := SP X A F p m ag g ∧ BF (nxS A F p m) q pa la dp n s l ∧ GRw g b n q pa la dp ∧ GNx (nxS A F p m) g b n q s l ∧ ∀ i, i < n → stB A F p (q i) = true
theorem Gc.no (hb : Gc b) : ∀ k, k ≤ 6 → b + k ∉ [69, 71, 72, 75] := fun k hk z => by
  simp only [List.mem_cons, List.not_mem_nil, or_false] at z
  rcases hb with rfl | rfl <;> omega
theorem Gc.all (hb : Gc b) : (Sg b).all (fun a => decide (a < 42 ∨ (46 < a ∧ a < 68) ∨ (75 < a ∧ a < 155))) = true := by
  rcases hb with rfl | rfl <;> decide
def Sb (b : Nat) : List Nat := Sg b ++ [69, 71, 72, 75]
theorem Sb_l {a : Nat} (h : a ∈ Sg b) : a ∈ Sb b := List.mem_append_left _ h
theorem Sb_r {a : Nat} (h : a ∈ [69, 71, 72, 75]) : a ∈ Sb b := List.mem_append_right _ h
theorem c_bl57 (hb : Gc b) (hE : EV X A p) {one two : Int32} {k25 : Nat → Nat → Int32 → Int32 → Int32 → G → Option (Unit × G)} {s : Nat} : ∀ fu l g n q pa la dp, IB X A F p m ag g b n s l q pa la dp → s < n → l ≤ 8 → 8 < fu + l → ∃ g' n' q' pa' la' dp', f_X4_build_57 k25 fu b 68 one two (nI s) (nI l) g = k25 b 68 one two (nI (s + 1)) g' ∧ Fi (Sb b) g g' ∧ IB X A F p m ag g' b n' (s + 1) 0 q' pa' la' dp' ∧ n ≤ n' ∧ ∀ i, i < n → q' i = q i := by
  have cl := cS_le hE.2.1
  have s10 := sp_10 hE.2.1 hE.2.2.1 hE.2.2.2.2
  intro fu
  induction fu with
  | zero => intro l g n q pa la dp _ _ _ h; omega
  | succ fu ih =>
    intro l g n q pa la dp h hsn hl8 hfu
    obtain ⟨hP, hB, hG, hN, hq⟩ := id h
    have hs := hP.1.1
    have n232 := st_inj hE.2.1 s10 hB.2.1 hq
    rw [f_X4_build_57]
    rcases Nat.lt_or_ge l 8 with z | z
    · obtain ⟨⟨q1, q2, -⟩, -⟩ := stB_iff.mp (hq s hsn)
      have dps := hB.dp_le s hsn
      have q1296 := stB_lt hE.2.1 (hq s hsn)
      obtain ⟨g1, e1, e2, e3⟩ := c_step hP hE (t := l / 4) (w := l % 4) (by omega) q1 q2 (by omega)
      have hs1 := e3.1.1
      have hG1 := hG.fi e2 hb.no
      have hN1 := hN.fi e2 hb.no
      have x1 : Fi (Sb b) g g1 := e2.mono (fun a ha => Sb_r ha)
      have ev : ∀ (v : Int32) (g3 : G), Sh g3 → f_X4_build_125 k25 (f_X4_build_57 k25 fu) b 68 one two (nI s) (nI l) v ((nI s * (8 : Int32)) + nI l) (b + 5) g3 = f_X4_build_57 k25 fu b 68 one two (nI s) (nI (l + 1)) (sI g3 (b + 5) (s * 8 + l) v) := fun v g3 h3 => by
        rw [f_X4_build_125, g_n5 hb h3, lmu8, nI_add, gdI_nI (by omega) (by decide), lg, nI_clamp (by omega), lad1]
      rw [if_neg (lnge8 z), g_dr hb hs (by decide) (by decide), g_gk hb hs (by decide) (by decide), g_gn hb hs (by decide) (by decide), gdI_nI (by omega) (by decide), nI_clamp (by omega), (hG.2.1 s hsn).1, ldi4 (by omega), lmo4, show cx (q s) = 64 * (q s / 36) + q s % 36 from rfl, e1, bd_eq, g_dr hb hs1 (by decide) (by decide)]
      rcases nx_rC (F := F) (p := p) (m := m) hE.2.1 q1 q2 z with ⟨y, y1, y2⟩ | ⟨y1, y2⟩
      · have hy := nx_ok hE.2.1 q1 q2 y1
        have y1296 := stB_lt hE.2.1 hy
        have cy := cx_lt y1296
        rw [y2, if_pos (nI_pos' (by omega)), g_dr hb hs1 (by decide) (by decide), g_gk hb hs1 (by decide) (by decide), g_gn hb hs1 (by decide) (by decide), gdI_nI (by omega) (by decide), (hG1.2.1 s hsn).2.1, lad1]
        by_cases hk : ∃ k, k < n ∧ q k = y
        · obtain ⟨k, k1, k2⟩ := hk
          rw [c_addOld hb hs1 hG1 y1296 k1 (by omega) hB.2.1 k2, bd_eq, g_gk hb hs1 (by decide) (by decide), ev _ _ hs1]
          have x2 : Fi (Sg b) g1 (sI g1 (b + 5) (s * 8 + l) (nI k)) := Fi.rf.si (Sg_m (by decide))
          have hI : IB X A F p m ag (sI g1 (b + 5) (s * 8 + l) (nI k)) b n s (l + 1) q pa la dp := by
            refine ⟨e3.fi hE.1 x2 hb.all, hB.old k1 (by rw [y1, k2]), ?_, hN1.set (Nat.le_refl _) hsn (fun _ _ => rfl) z gI_sIs (Or.inr ⟨k, k1, by rw [y1, k2], rfl⟩), hq⟩
            unfold GRw
            rw [gI_sIn (show b ≠ b + 5 by omega), gI_sIn (show b + 1 ≠ b + 5 by omega), gI_sIn (show b + 2 ≠ b + 5 by omega), gI_sIn (show b + 3 ≠ b + 5 by omega), gI_sIn (show b + 4 ≠ b + 5 by omega), gI_sIn (show b + 6 ≠ b + 5 by omega)]
            exact hG1
          obtain ⟨g2, n2, q2', pa2, la2, dp2, r1, r2, r3, r4, r5⟩ := ih (l + 1) _ n q pa la dp hI hsn (by omega) (by omega)
          exact ⟨g2, n2, q2', pa2, la2, dp2, r1, (x1.tr (x2.mono (fun a ha => Sb_l ha))).tr r2, r3, r4, r5⟩
        · have hno : ∀ i, i < n → q i ≠ y := fun i hi e => hk ⟨i, hi, e⟩
          obtain ⟨g2, a1, a2, a3, a4⟩ := c_addNew hb hs1 (d := dp s + 1) (nI s) (nI l) (Or.inl hG1) y1296 (show n < 256 by omega) hno (Or.inr ⟨by omega, rfl, rfl⟩)
          have hs2 := Sh.fi a2 hs1
          rw [a1, bd_eq, g_gk hb hs2 (by decide) (by decide), ev _ _ hs2]
          have x3 : Fi (Sg b) g1 (sI g2 (b + 5) (s * 8 + l) (nI n)) := a2.si (Sg_m (by decide))
          have hI : IB X A F p m ag (sI g2 (b + 5) (s * 8 + l) (nI n)) b (n + 1) s (l + 1) (ins q n y) (ins pa n s) (ins la n l) (ins dp n (dp s + 1)) := by
            refine ⟨e3.fi hE.1 x3 hb.all, hB.new hsn z y1 hno, ?_, hN1.set (Nat.le_succ _) hsn (fun i hi => ins_n (by omega)) z (by rw [gI_sIs, a3]) (Or.inr ⟨n, by omega, by rw [y1, ins_s], rfl⟩), fun i hi => ?_⟩
            · unfold GRw
              rw [gI_sIn (show b ≠ b + 5 by omega), gI_sIn (show b + 1 ≠ b + 5 by omega), gI_sIn (show b + 2 ≠ b + 5 by omega), gI_sIn (show b + 3 ≠ b + 5 by omega), gI_sIn (show b + 4 ≠ b + 5 by omega), gI_sIn (show b + 6 ≠ b + 5 by omega)]
              exact a4
            · by_cases e : i = n
              · rw [e, ins_s]
                exact hy
              · rw [ins_n e]
                exact hq i (by omega)
          obtain ⟨g3, n2, q2', pa2, la2, dp2, r1, r2, r3, r4, r5⟩ := ih (l + 1) _ (n + 1) _ _ _ _ hI (by omega) (by omega) (by omega)
          exact ⟨g3, n2, q2', pa2, la2, dp2, r1, (x1.tr (x3.mono (fun a ha => Sb_l ha))).tr r2, r3, by omega, fun i hi => by rw [r5 i (by omega), ins_n (by omega)]⟩
      · rw [if_neg (fun w => by
          rw [Int32.le_iff_toInt_le] at w
          rw [Int32.lt_iff_toInt_lt] at y2
          omega), g_gk hb hs1 (by decide) (by decide), ev _ _ hs1]
        have x2 : Fi (Sg b) g1 (sI g1 (b + 5) (s * 8 + l) (-1)) := Fi.rf.si (Sg_m (by decide))
        have hI : IB X A F p m ag (sI g1 (b + 5) (s * 8 + l) (-1)) b n s (l + 1) q pa la dp := by
          refine ⟨e3.fi hE.1 x2 hb.all, hB.non y1, ?_, hN1.set (Nat.le_refl _) hsn (fun _ _ => rfl) z gI_sIs (Or.inl ⟨y1, rfl⟩), hq⟩
          unfold GRw
          rw [gI_sIn (show b ≠ b + 5 by omega), gI_sIn (show b + 1 ≠ b + 5 by omega), gI_sIn (show b + 2 ≠ b + 5 by omega), gI_sIn (show b + 3 ≠ b + 5 by omega), gI_sIn (show b + 4 ≠ b + 5 by omega), gI_sIn (show b + 6 ≠ b + 5 by omega)]
          exact hG1
        obtain ⟨g2, n2, q2', pa2, la2, dp2, r1, r2, r3, r4, r5⟩ := ih (l + 1) _ n q pa la dp hI hsn (by omega) (by omega)
        exact ⟨g2, n2, q2', pa2, la2, dp2, r1, (x1.tr (x2.mono (fun a ha => Sb_l ha))).tr r2, r3, r4, r5⟩
    · have e8 : l = 8 := by omega
      subst e8
      rw [if_pos (lle8 (by decide) (by decide)), lad1]
      exact ⟨g, n, q, pa, la, dp, rfl, Fi.rf, ⟨hP, hB.nxt, hG, fun i l' h1 h2 => hN i l' (by omega) h2, hq⟩, Nat.le_refl _, fun _ _ => rfl⟩
theorem c_bl25 (hb : Gc b) (hE : EV X A p) {one two : Int32} : ∀ fu s g n q pa la dp, IB X A F p m ag g b n s 0 q pa la dp → s ≤ n → 300 < fu + s → (∀ i, i < s → fitB (q i) one two = false) → ∃ g' n' e q' pa' la' dp', f_X4_build_25 fu b 68 one two (nI s) g = some ((), g') ∧ Fi (Sb b) g g' ∧ IB X A F p m ag g' b n' e 0 q' pa' la' dp' ∧ e ≤ n' ∧ (∀ i, i < e → fitB (q' i) one two = false) ∧ (e < n' → fitB (q' e) one two = true) ∧ q' 0 = q 0 := by
  have s10 := sp_10 hE.2.1 hE.2.2.1 hE.2.2.2.2
  intro fu
  induction fu with
  | zero =>
    intro s g n q pa la dp h hsn hfu
    have := st_inj hE.2.1 s10 h.2.1.2.1 h.2.2.2.2
    omega
  | succ fu ih =>
    intro s g n q pa la dp h hsn hfu hno
    obtain ⟨hP, hB, hG, hN, hq⟩ := id h
    have n232 := st_inj hE.2.1 s10 hB.2.1 hq
    rw [f_X4_build_25, hG.1]
    rcases Nat.lt_or_ge s n with z | z
    · rw [if_neg (nI_ge z (by omega)), if_neg (lnge256 (by omega)), c_fits hb hP.1.1 hG.1 (by omega) z (hG.2.1 s z).1 (stB_lt hE.2.1 (hq s z)), bd_eq]
      cases hf : fitB (q s) one two with
      | true =>
        rw [ibT]
        exact ⟨g, n, s, q, pa, la, dp, rfl, Fi.rf, h, hsn, hno, fun _ => hf, rfl⟩
      | false =>
        rw [ibF]
        obtain ⟨g1, n1, q1, pa1, la1, dp1, r1, r2, r3, r4, r5⟩ := c_bl57 hb hE (one := one) (two := two) (k25 := f_X4_build_25 fu) FU 0 g n q pa la dp h z (by decide) (by have := @FU_gt 8 (by decide); omega)
        rw [show (0 : Int32) = nI 0 from rfl, r1]
        obtain ⟨g2, n2, e, q2, pa2, la2, dp2, t1, t2, t3, t4, t5, t6, t7⟩ := ih (s + 1) g1 n1 q1 pa1 la1 dp1 r3 (by omega) (by omega) (fun i hi => by
          rw [r5 i (by omega)]
          rcases Nat.eq_or_lt_of_le (Nat.le_of_lt_succ hi) with w | w
          · rw [w]; exact hf
          · exact hno i w)
        exact ⟨g2, n2, e, q2, pa2, la2, dp2, t1, r2.tr t2, t3, t4, t5, t6, t7.trans (r5 0 (by omega))⟩
    · rw [if_pos (nI_le z (by omega))]
      exact ⟨g, n, s, q, pa, la, dp, rfl, Fi.rf, h, hsn, hno, fun w => by omega, rfl⟩
/-- THE GRAPH: q the stands in the order in which they are found, from y on; up to e all leads are told -/
def GB (N : Nat → Nat → Option Nat) (P : Nat → Bool) (g : G) (b n e y : Nat) (q pa la dp : Nat → Nat) : Prop := BF N q pa la dp n e 0 ∧ GRw g b n q pa la dp ∧ GNx N g b n q e 0 ∧ (∀ i, i < n → P (q i) = true) ∧ q 0 = y ∧ e ≤ n ∧ n ≤ 232
theorem c_build (hb : Gc b) (hE : EV X A p) (h : SP X A F p m ag g) {y : Nat} (hy : stB A F p y = true) (one two : Int32) : ∃ g' n e q pa la dp, f_X4_build b 68 (nI (cx y)) one two g = some ((), g') ∧ Fi (Sb b) g g' ∧ SP X A F p m ag g' ∧ GB (nxS A F p m) (stB A F p) g' b n e y q pa la dp ∧ (∀ i, i < e → fitB (q i) one two = false) ∧ (e < n → fitB (q e) one two = true) := by
  have s10 := sp_10 hE.2.1 hE.2.2.1 hE.2.2.2.2
  have y1296 := stB_lt hE.2.1 hy
  have hs := h.1.1
  obtain ⟨g1, e1, e2, e3, e4⟩ := c_fill (g := g) (a := b + 6) (len := 1296) (by decide) (g_n6 hb hs) (-1)
  have x1 : Fi (Sg b) g g1 := e2.mono (fun a ha => by rw [List.mem_singleton.mp ha]; exact Sg_m (by decide))
  have x2 : Fi (Sg b) g (sI g1 b 0 (nI 0)) := x1.si (Sg_m (k := 0) (by decide))
  have s2 := Sh.fi x2 hs
  obtain ⟨g2, a1, a2, a3, a4⟩ := c_addNew (q := id) (pa := id) (la := id) (dp := id) (pv := 0) (lv := 0) hb s2 (d := 0) (-1) (-1) (Or.inr ⟨rfl, by rw [gI_sIs]; exact pk_us, fun c hc => by rw [gI_sIn (show b + 6 ≠ b by omega)]; exact e4 c hc⟩) y1296 (show 0 < 256 by decide) (fun i hi => by omega) (Or.inl ⟨rfl, rfl, rfl⟩)
  have x3 : Fi (Sg b) g g2 := x2.tr a2
  have hI : IB X A F p m ag g2 b 1 0 0 (ins id 0 y) (ins id 0 0) (ins id 0 0) (ins id 0 0) := ⟨h.fi hE.1 x3 hb.all, BF.ini, a4, fun i l h1 h2 => by omega, fun i hi => by rw [show i = 0 by omega, ins_s]; exact hy⟩
  obtain ⟨g3, n, e, q, pa, la, dp, t1, t2, t3, t4, t5, t6, t7⟩ := c_bl25 hb hE (one := one) (two := two) FU 0 g2 1 _ _ _ _ hI (by decide) (by have := @FU_gt 300 (by decide); omega) (fun i hi => by omega)
  refine ⟨g3, n, e, q, pa, la, dp, ?_, (x3.mono (fun a ha => Sb_l ha)).tr t2, t3.1, ⟨t3.2.1, t3.2.2.1, t3.2.2.2.1, t3.2.2.2.2, t7.trans ins_s, t4, st_inj hE.2.1 s10 t3.2.1.2.1 t3.2.2.2.2⟩, t5, t6⟩
  rw [f_X4_build, g_dr hb hs (by decide) (by decide), g_gk hb hs (by decide) (by decide), e1, bd_eq, lg, show (0 : Int32) = nI 0 from rfl, a1, bd_eq]
  exact t1
end BLD
