/-! QUERIES answered alike: reach, stands, farthest, forces, best, rows, needed, chance, likeliest. -/
section QRS
variable {X : Nat → Prop} {A : Nat → Int32} {g g' : G} {p ag n : Nat} {q pa la dp : Nat → Nat} {one two : Int32}
def twB (v : Int32) : Bool := decide (v = 0 ∨ v = 1)
theorem c_isTwin (v : Int32) : f_X11_isTwin v g = some (twB v, g) := by
  rw [f_X11_isTwin, f_X11_isTwin_9]
  unfold twB
  by_cases a : v = 0
  · rw [if_pos a, decide_eq_true (Or.inl a)]
  · rw [if_neg a]
    by_cases b : v = 1
    · rw [if_pos b, decide_eq_true (Or.inr b)]
    · rw [if_neg b, decide_eq_false (fun u => u.elim a b)]
theorem r_isTwin (v : Int32) : f_X12_isTwin v g = some (twB v, g) := by
  rw [f_X12_isTwin, r_within, bd_eq]
  unfold twB
  have e : v.toInt64.toInt = v.toInt := Int32.toInt_toInt64 v
  have z : (0 : Int64).toInt = 0 := rfl
  have o : (1 : Int64).toInt = 1 := rfl
  have z' : (0 : Int32).toInt = 0 := rfl
  have o' : (1 : Int32).toInt = 1 := rfl
  have : (decide ((0 : Int64).toInt ≤ v.toInt64.toInt ∧ v.toInt64.toInt ≤ (1 : Int64).toInt)) = decide (v = 0 ∨ v = 1) := by
    rw [decide_eq_decide, e, z, o, ← Int32.toInt_inj, ← Int32.toInt_inj, z', o']
    omega
  rw [this]
theorem twB_t {v : Int32} (h : twB v = true) : ∃ t, t < 2 ∧ v = nI t := by
  rcases of_decide_eq_true h with e | e
  · exact ⟨0, by decide, e⟩
  · exact ⟨1, by decide, e⟩
theorem pr_t (hA : Dm A) {v : Int32} (h : inR v (nv A 3) = true) : ∃ p, p < nv A 3 ∧ v = nI p := inR_true h (by have := hA.2.2.2.2.2.2.2; omega)
theorem ce_t (hA : Dm A) {v : Int32} (h : inR v (cS A) = true) : ∃ c, c < cS A ∧ v = nI c := inR_true h (by have := cS_le hA; omega)
theorem q_reach (h : QS X A ag g) (hag : ag + 1 < 2 ^ 30) (v w : Int32) : QA X A ag g (f_X11_reach 0 v w g) (fun g => f_X12_reach 136 v w g) := by
  obtain ⟨h1, h2, h3, h4, h5⟩ := id h; have hA := h1.2.2.1; have hBd := h1.2.2.2.1; have k3 := h1.k3; have cl := h1.cl; have hs := h1.1
  cases hp' : inR v (nv A 3) with
  | false =>
    refine QA.of (v := -2) (g1 := g) (g2 := sI g 136 0 0) (K := [0]) (S := []) ?_ (Qf.rf h1.1) h ?_ tF0 (by decide) (by decide) (Nat.le_refl _) (by omega)
    · rw [f_X11_reach, md0_4 hs, gk47 hs, c_isPair h3 hA, hp', bd_eq, ibF, f_X11_reach_18]
    · show f_X12_reach 136 v w g = _
      rw [f_X12_reach, lg, R_isPair h1.t0, inL_I, hp', bd_eq, ibF, f_X12_reach_21]
  | true =>
    cases ht' : twB w with
    | false =>
      refine QA.of (v := -2) (g1 := g) (g2 := sI g 136 0 0) (K := [0]) (S := []) ?_ (Qf.rf h1.1) h ?_ tF0 (by decide) (by decide) (Nat.le_refl _) (by omega)
      · rw [f_X11_reach, md0_4 hs, gk47 hs, c_isPair h3 hA, hp', bd_eq, ibT, c_isTwin, ht', bd_eq, ibF, f_X11_reach_18]
      · show f_X12_reach 136 v w g = _
        rw [f_X12_reach, lg, R_isPair h1.t0, inL_I, hp', bd_eq, ibT, r_isTwin, ht', bd_eq, ibF, f_X12_reach_21]
    | true =>
      obtain ⟨p, hp, rfl⟩ := pr_t hA hp'
      obtain ⟨t, ht, rfl⟩ := twB_t ht'
      obtain ⟨g1, ag', n, q, pa, la, dp, e1, e2, e3, e4, e5, e6⟩ := c_graphOf h hp hag
      obtain ⟨B1, B2, B3, B4, B5, B6, B7⟩ := id e3.2.2.2.2.1
      have hs1 := e3.1.1
      have hq : ∀ i, i < n → q i < 1296 := fun i hi => stB_lt hA (B4 i hi)
      obtain ⟨m1, m2, m3⟩ := c_cellsOf hs1 B2 B7 hq ht
      obtain ⟨g2, d1, d2, d3⟩ := r_laysFirst e3.1.t0 hp B1 B7 B4 B5
      obtain ⟨r1, r2, r3⟩ := r_reachF (e3.1.t0.1.fm d2) d3 (fun i hi => by have := B1.dp_le i hi; omega) hq ht
      have em : m1 = r1 := bt_ext (fun c hc => (m3 c hc).trans (r3 c hc).symm)
      have r2' : f_X12_reach_35 FU 136 (nI t) 0 0 g2 = some (r1, g2) := r2
      refine QA.of (v := m1) (g1 := g1) (g2 := g2) (K := [0, 17, 18]) (S := [141, 142, 144, 145, 146, 148]) ?_ e2 (e3.s hp e4) ?_ ((tF0.mono (by decide) (by decide)).tr (d2.mono (by decide) (by decide))) (by decide) (by decide) e5 (by omega)
      · rw [f_X11_reach, md0_4 hs, gk47 hs, c_isPair h3 hA, hp', bd_eq, ibT, c_isTwin, ht', bd_eq, ibT, e1, bd_eq, gk2 hs1, m2, bd_eq]
      · show f_X12_reach 136 (nI p) (nI t) g1 = _
        rw [f_X12_reach, lg, R_isPair e3.1.t0, inL_I, hp', bd_eq, ibT, r_isTwin, ht', bd_eq, ibT, d1, bd_eq, r2', em]
theorem q_stands (h : QS X A ag g) (hag : ag + 1 < 2 ^ 30) (v : Int32) : QA X A ag g (f_X11_stands 0 v g) (fun g => f_X12_stands 136 v g) := by
  obtain ⟨h1, h2, h3, h4, h5⟩ := id h; have hA := h1.2.2.1; have hBd := h1.2.2.2.1; have k3 := h1.k3; have cl := h1.cl; have hs := h1.1
  cases hp' : inR v (nv A 3) with
  | false =>
    refine QA.of (v := -2) (g1 := g) (g2 := sI g 136 0 0) (K := [0]) (S := []) ?_ (Qf.rf h1.1) h ?_ tF0 (by decide) (by decide) (Nat.le_refl _) (by omega)
    · rw [f_X11_stands, md0_4 hs, gk47 hs, c_isPair h3 hA, hp', bd_eq, ibF]
    · show f_X12_stands 136 v g = _
      rw [f_X12_stands, lg, R_isPair h1.t0, inL_I, hp', bd_eq, ibF]
  | true =>
    obtain ⟨p, hp, rfl⟩ := pr_t hA hp'
    obtain ⟨g1, ag', n, q, pa, la, dp, e1, e2, e3, e4, e5, e6⟩ := c_graphOf h hp hag
    obtain ⟨B1, B2, B3, B4, B5, B6, B7⟩ := id e3.2.2.2.2.1
    have hs1 := e3.1.1
    have hq : ∀ i, i < n → q i < 1296 := fun i hi => stB_lt hA (B4 i hi)
    obtain ⟨g2, d1, d2, d3⟩ := r_laysFirst e3.1.t0 hp B1 B7 B4 B5
    have r2 := r_st26 (e3.1.t0.1.fm d2) d3 (fun i hi => by have := B1.dp_le i hi; omega) FU 0 (by decide) (by have := @FU_gt 1296 (by decide); omega)
    rw [cnt_pB B1.2.1 hq n (Nat.le_refl _)] at r2
    have r2' : f_X12_stands_26 FU 136 0 0 g2 = some (nI n, g2) := r2
    refine QA.of (v := nI n) (g1 := g1) (g2 := g2) (K := [0, 17, 18]) (S := [141, 142, 144, 145, 146, 148]) ?_ e2 (e3.s hp e4) ?_ ((tF0.mono (by decide) (by decide)).tr (d2.mono (by decide) (by decide))) (by decide) (by decide) e5 (by omega)
    · rw [f_X11_stands, md0_4 hs, gk47 hs, c_isPair h3 hA, hp', bd_eq, ibT, e1, bd_eq, gk2 hs1, B2.1]
    · show f_X12_stands 136 (nI p) g1 = _
      rw [f_X12_stands, lg, R_isPair e3.1.t0, inL_I, hp', bd_eq, ibT, d1, bd_eq, r2']
theorem q_farthest (h : QS X A ag g) (hag : ag + 1 < 2 ^ 30) (v w : Int32) : QA X A ag g (f_X11_farthest 0 v w g) (fun g => f_X12_farthest 136 v w g) := by
  obtain ⟨h1, h2, h3, h4, h5⟩ := id h; have hA := h1.2.2.1; have hBd := h1.2.2.2.1; have k3 := h1.k3; have cl := h1.cl; have hs := h1.1
  cases hp' : inR v (nv A 3) with
  | false =>
    refine QA.of (v := -2) (g1 := g) (g2 := sI g 136 0 0) (K := [0]) (S := []) ?_ (Qf.rf h1.1) h ?_ tF0 (by decide) (by decide) (Nat.le_refl _) (by omega)
    · rw [f_X11_farthest, md0_4 hs, gk47 hs, c_isPair h3 hA, hp', bd_eq, ibF]
    · show f_X12_farthest 136 v w g = _
      rw [f_X12_farthest, lg, R_isPair h1.t0, inL_I, hp', bd_eq, ibF]
  | true =>
    cases ht' : twB w with
    | false =>
      refine QA.of (v := -2) (g1 := g) (g2 := sI g 136 0 0) (K := [0]) (S := []) ?_ (Qf.rf h1.1) h ?_ tF0 (by decide) (by decide) (Nat.le_refl _) (by omega)
      · rw [f_X11_farthest, md0_4 hs, gk47 hs, c_isPair h3 hA, hp', bd_eq, ibT, c_isTwin, ht', bd_eq, ibF]
      · show f_X12_farthest 136 v w g = _
        rw [f_X12_farthest, lg, R_isPair h1.t0, inL_I, hp', bd_eq, ibT, r_isTwin, ht', bd_eq, ibF]
    | true =>
      obtain ⟨p, hp, rfl⟩ := pr_t hA hp'
      obtain ⟨t, ht, rfl⟩ := twB_t ht'
      obtain ⟨g1, ag', n, q, pa, la, dp, e1, e2, e3, e4, e5, e6⟩ := c_graphOf h hp hag
      obtain ⟨B1, B2, B3, B4, B5, B6, B7⟩ := id e3.2.2.2.2.1
      have hs1 := e3.1.1
      have hq : ∀ i, i < n → q i < 1296 := fun i hi => stB_lt hA (B4 i hi)
      have hcs : ∀ i, i < n → ceI q t i < cS A := fun i hi => by
        have := (stB_iff.mp (B4 i hi)).1
        exact ow_lt this.1 this.2.1
      obtain ⟨b1, m2, m3⟩ := c_lc11 hs1 B2 B1 B7 hq ht FU 0 0 (-1) (-1) (fun c hc => by
        rw [bt_0, eq_comm, decide_eq_false_iff_not]
        rintro ⟨i, i1, -⟩
        omega) (Or.inl ⟨rfl, rfl, rfl⟩) (Nat.zero_le _) (by have := @FU_gt n (by omega); omega)
      have m2' : f_X4_lastCellOf_11 FU 2 (nI t) 0 (-1) (-1) 0 g1 = some (nI b1, g1) := m2
      obtain ⟨g2, d1, d2, d3⟩ := r_laysFirst e3.1.t0 hp B1 B7 B4 B5
      have hr2 : RS A g2 := e3.1.t0.fm d2 (by decide)
      obtain ⟨b2, r2, r3, r4⟩ := r_far37 hr2 d3 B1 B7 hq hcs ht FU 0 (-1) (-1) (Or.inl ⟨rfl, rfl, fun c hc => by omega⟩) (Nat.zero_le _) (by have := @FU_gt (cS A) (by omega); omega)
      have r2' : f_X12_farthest_37 FU 136 (nI t) (-1) (-1) 0 g2 = some (nI b2, g2) := r2
      have eb : b1 = b2 := FB_eq m3 r4 (by
        obtain ⟨i, i1, i2⟩ := r4.1
        exact (fiC_ok i1 i2).1) (by
        obtain ⟨i, i1, i2⟩ := m3.1
        rw [← i2]
        exact hcs i i1)
      refine QA.of (v := nI b1) (g1 := g1) (g2 := g2) (K := [0, 17, 18]) (S := [141, 142, 144, 145, 146, 148]) ?_ e2 (e3.s hp e4) ?_ ((tF0.mono (by decide) (by decide)).tr (d2.mono (by decide) (by decide))) (by decide) (by decide) e5 (by omega)
      · rw [f_X11_farthest, md0_4 hs, gk47 hs, c_isPair h3 hA, hp', bd_eq, ibT, c_isTwin, ht', bd_eq, ibT, e1, bd_eq, gk2 hs1, f_X4_lastCellOf, m2', bd_eq]
      · show f_X12_farthest 136 (nI p) (nI t) g1 = _
        rw [f_X12_farthest, lg, R_isPair e3.1.t0, inL_I, hp', bd_eq, ibT, r_isTwin, ht', bd_eq, ibT, d1, bd_eq, r2', eb]
end QRS
