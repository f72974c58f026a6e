/-! DAY answered alike. -/
section DAY
variable {X : Nat → Prop} {A B : Nat → Int32} {g g' g1 : G} {m ag : Nat} {x0 : Int32}
/-- the row, what is drawn from, how many deeds were done, behind k draws -/
def dS (A : Nat → Int32) (x0 : Int32) : Nat → (Nat → Int32) × Int32 × Nat
  | 0 => (A, x0, 0)
  | k + 1 => ((actS (dS A x0 k).1 (lN (dD (dS A x0 k).2.1).1)).2.1, (dD (dS A x0 k).2.1).2, (dS A x0 k).2.2 + (if (actS (dS A x0 k).1 (lN (dD (dS A x0 k).2.1).1)).1 = 0 then 1 else 0))
theorem dS_wf (h : WF A) (hs : Sh g) : ∀ k, WF ((dS A x0) k).1
  | 0 => h
  | k + 1 => act_wf (dS_wf h hs k) hs _
theorem dS_e (h : WF A) (hs : Sh g) {j : Nat} (hj : j < 52 ∨ 103 ≤ j) : ∀ k, ((dS A x0) k).1 j = A j
  | 0 => rfl
  | k + 1 => (act_e (dS_wf h hs k) _ hj).trans (dS_e h hs hj k)
theorem dS_le : ∀ k, ((dS A x0) k).2.2 ≤ k
  | 0 => Nat.le_refl _
  | k + 1 => by
    have := dS_le k
    show ((dS A x0) k).2.2 + (if (actS (dS A x0 k).1 (lN (dD (dS A x0 k).2.1).1)).1 = 0 then 1 else 0) ≤ k + 1
    split <;> omega
theorem act_no (B : Nat → Int32) (v : Int64) (h : (actS B v).1 ≠ 0) : (actS B v).2.1 = B := by
  rcases act_c B v with ⟨-, e, -⟩ | ⟨n, -, -, -, -, e⟩ | ⟨c, -, -, -, -, e⟩ | ⟨p, x, -, -, -, -, e⟩
  · exact e
  · rw [e] at h
    exact absurd rfl h
  · rw [e] at h
    exact absurd rfl h
  · rw [e] at h
    exact absurd rfl h
theorem dS_0 : ∀ k, ((dS A x0) k).2.2 = 0 → ((dS A x0) k).1 = A
  | 0, _ => rfl
  | k + 1, h => by
    have h' : ((dS A x0) k).2.2 + (if (actS (dS A x0 k).1 (lN (dD (dS A x0 k).2.1).1)).1 = 0 then 1 else 0) = 0 := h
    by_cases u : (actS (dS A x0 k).1 (lN (dD (dS A x0 k).2.1).1)).1 = 0
    · rw [if_pos u] at h'
      omega
    · rw [if_neg u] at h'
      show (actS (dS A x0 k).1 (lN (dD (dS A x0 k).2.1).1)).2.1 = A
      rw [act_no _ _ u]
      exact dS_0 k h'
theorem n64b : ∀ n, n < 2000 → (nI n).toInt64 = lN n := by decide +kernel
theorem c_drawn (K : Nat → Int32 → Int32 → Int32 → Int32 → G → Option (Int32 × G)) (x l2 l4 l5 : Int32) : (bd (f_X11_drawn x g) (fun v7 g8 => if (((v7.toUInt32 >>> ((16 : Int32).toUInt32 &&& Int32.toUInt32 31)).toInt32) - ((v7.toUInt32 >>> ((16 : Int32).toUInt32 &&& Int32.toUInt32 31)).toInt32) / (6 : Int32) * (6 : Int32)) = (5 : Int32) then (bd (f_X11_drawn v7 g8) (fun v30 g31 => li ((1000 : Int32) + (((v30.toUInt32 >>> ((16 : Int32).toUInt32 &&& Int32.toUInt32 31)).toInt32) - ((v30.toUInt32 >>> ((16 : Int32).toUInt32 &&& Int32.toUInt32 31)).toInt32) / (36 : Int32) * (36 : Int32))) (fun y34 => f_X11_day_127 K 0 l2 v30 l4 l5 y34 g31))) else (bd (f_X11_drawn v7 g8) (fun v12 g13 => li (((v12.toUInt32 >>> ((16 : Int32).toUInt32 &&& Int32.toUInt32 31)).toInt32) - ((v12.toUInt32 >>> ((16 : Int32).toUInt32 &&& Int32.toUInt32 31)).toInt32) / (2 : Int32) * (2 : Int32)) (fun y16 => bd (f_X11_drawn v12 g13) (fun v18 g19 => li (((v18.toUInt32 >>> ((16 : Int32).toUInt32 &&& Int32.toUInt32 31)).toInt32) - ((v18.toUInt32 >>> ((16 : Int32).toUInt32 &&& Int32.toUInt32 31)).toInt32) / (3 : Int32) * (3 : Int32)) (fun y22 => bd (f_X11_drawn v18 g19) (fun v24 g25 => li ((((100 : Int32) * y22) + ((10 : Int32) * y16)) + (((v24.toUInt32 >>> ((16 : Int32).toUInt32 &&& Int32.toUInt32 31)).toInt32) - ((v24.toUInt32 >>> ((16 : Int32).toUInt32 &&& Int32.toUInt32 31)).toInt32) / (4 : Int32) * (4 : Int32))) (fun y28 => f_X11_day_127 K 0 l2 v24 l4 l5 y28 g25))))))))) = f_X11_day_127 K 0 l2 (dD x).2 l4 l5 (nI (dD x).1) g := by
  have d : ∀ x g, f_X11_drawn x g = some (dx x, g) := fun x g => rfl
  have l6 : rm 6 (dx x) < 2 ^ 31 := Nat.lt_of_lt_of_le (Nat.mod_lt _ (by decide)) (by decide)
  have five : (nI (rm 6 (dx x)) = (5 : Int32)) ↔ rm 6 (dx x) = 5 := nI_eq (b := 5) l6 (by decide)
  have c6 := c_rem (dx x) (k := 6) (by decide) (by decide)
  have c36 := c_rem (dx (dx x)) (k := 36) (by decide) (by decide)
  have c2 := c_rem (dx (dx x)) (k := 2) (by decide) (by decide)
  have c3 := c_rem (dx (dx (dx x))) (k := 3) (by decide) (by decide)
  have c4 := c_rem (dx (dx (dx (dx x)))) (k := 4) (by decide) (by decide)
  unfold dD
  rw [d, bd_eq, show (6 : Int32) = nI 6 from rfl, c6]
  by_cases z : rm 6 (dx x) = 5
  · rw [if_pos (five.mpr z), if_pos z, d, bd_eq, show (36 : Int32) = nI 36 from rfl, c36, show (1000 : Int32) = nI 1000 from rfl, nI_add, li]
  · rw [if_neg (fun q => z (five.mp q)), if_neg z, d, bd_eq, show (2 : Int32) = nI 2 from rfl, c2, li, d, bd_eq, show (3 : Int32) = nI 3 from rfl, c3, li, d, bd_eq, show (4 : Int32) = nI 4 from rfl, c4, show (100 : Int32) = nI 100 from rfl, pk_mul, show (10 : Int32) = nI 10 from rfl, pk_mul, nI_add, nI_add, li]
theorem c_dy33 (hW : WF A) (hX : XO X) (hm : m ≤ 40) : ∀ fu k g ag, Sh g → BD X g 47 ((dS A x0) k).1 → SI ag g → ag + 50 < 2 ^ 30 + k → k ≤ m → m < fu + k → ∃ g' ag', f_X11_day_33 fu 0 (nI m) ((dS A x0) k).2.1 (nI ((dS A x0) k).2.2) (nI k) g = (if nI ((dS A x0) m).2.2 ≤ 0 then some (nI ((dS A x0) m).2.2, g') else bd (f_X11_keepSpare 0 g') (fun v3 g4 => some (nI ((dS A x0) m).2.2, g4))) ∧ Fq (AL 47) g g' ∧ Sh g' ∧ SI ag' g' ∧ ag' ≤ ag + (m - k) ∧ BD X g' 47 ((dS A x0) m).1 := by
  intro fu
  induction fu with
  | zero => intro k g ag _ _ _ _ _ h; omega
  | succ fu ih =>
    intro k g ag hs hb hI hag hk hfu
    rw [f_X11_day_33]
    rcases Nat.lt_or_ge k m with z | z
    · have lt := dD_lt ((dS A x0) k).2.1
      have le := dS_le (A := A) (x0 := x0) k
      obtain ⟨r, g1, ag1, a1, a2, a3, a4, a5, a6, a7, a8⟩ := c_act hb (dS_wf hW hs k) hs hX (fun j hj u => by have := hX _ u; omega) hI (by omega) (by decide) (lN (dD ((dS A x0) k).2.1).1)
      have a81 := act_st (dS_wf (A := A) (x0 := x0) hW hs k) hs (lN (dD ((dS A x0) k).2.1).1)
      obtain ⟨g2, ag2, d1, d2, d3, d4, d5, d6⟩ := ih (k + 1) g1 ag1 a3 a7 a4 (by omega) z (by omega)
      refine ⟨g2, ag2, ?_, a2.tr d2, d3, d4, by omega, d6⟩
      rw [if_neg (nI_ge z (by omega)), c_drawn, f_X11_day_127, md0_4 hs, md0_7 hs, gk47 hs, gk68 hs, n64b _ lt, a1, bd_eq, f_X11_day_147, f_X11_day_147, lad1, lad1, ← d1]
      have nx : ((dS A x0) (k + 1)).2.1 = (dD ((dS A x0) k).2.1).2 := rfl
      have nd : ((dS A x0) (k + 1)).2.2 = ((dS A x0) k).2.2 + (if (actS (dS A x0 k).1 (lN (dD (dS A x0 k).2.1).1)).1 = 0 then 1 else 0) := rfl
      rw [nx, nd]
      rcases a8 with ⟨b1, b2⟩ | ⟨b1, b2, b3⟩
      · rw [if_neg (by rw [b2]; exact nI_pos (by omega)), if_pos b1]
      · rw [if_pos (by
          rw [b3]
          obtain u | u | u | u : (actS (dS A x0 k).1 (lN (dD (dS A x0 k).2.1).1)).1 = 1 ∨ (actS (dS A x0 k).1 (lN (dD (dS A x0 k).2.1).1)).1 = 2 ∨ (actS (dS A x0 k).1 (lN (dD (dS A x0 k).2.1).1)).1 = 3 ∨ (actS (dS A x0 k).1 (lN (dD (dS A x0 k).2.1).1)).1 = 4 := by omega
          · rw [u]; decide
          · rw [u]; decide
          · rw [u]; decide
          · rw [u]; decide), if_neg (show ¬ (actS (dS A x0 k).1 (lN (dD (dS A x0 k).2.1).1)).1 = 0 by omega)]
        rfl
    · have e1 : k = m := by omega
      subst e1
      rw [if_pos (nI_le z (by omega))]
      exact ⟨g, ag, rfl, Fq.rf, hs, hI, by omega, hb⟩
theorem r_dy34 (hW : WF A) (hm : m ≤ 40) : ∀ fu k g, RS ((dS A x0) k).1 g → gI g 136 22 = ((dS A x0) k).2.1 → k ≤ m → m < fu + k → ∃ g', f_X12_day_34 fu 136 (nI m) (nI ((dS A x0) k).2.2) (nI k) g = (if nI ((dS A x0) m).2.2 ≤ 0 then some (nI ((dS A x0) m).2.2, g') else bd (f_X12_notes 136 g') (fun v3 g4 => some (nI ((dS A x0) m).2.2, g4))) ∧ Fm [17, 18, 20, 22] [137, 141, 142] g g' ∧ gI g' 137 = ((dS A x0) m).1 ∧ gL g' 137 = gL g 137 := by
  intro fu
  induction fu with
  | zero => intro k g _ _ _ h; omega
  | succ fu ih =>
    intro k g h hx hk hfu
    have hs := h.1
    rw [f_X12_day_34]
    rcases Nat.lt_or_ge k m with z | z
    · have lt := dD_lt ((dS A x0) k).2.1
      have wk := dS_wf (A := A) (x0 := x0) hW hs k
      obtain ⟨g1, a1, a2, a3⟩ := r_drawnDeed _ hx
      have hr1 := h.fm a2 (by decide)
      obtain ⟨g2, b1, b2, b3⟩ := r_whyNot hr1 wk (lN (dD ((dS A x0) k).2.1).1)
      have hr2 := hr1.fm b2 (by decide)
      have y2 : Fm [17, 18, 20, 22] [137, 141, 142] g g2 := (a2.mono (by decide) (by decide)).tr (b2.mono (by decide) (by decide))
      have nx : ((dS A x0) (k + 1)).2.1 = (dD ((dS A x0) k).2.1).2 := rfl
      have nd : ((dS A x0) (k + 1)).2.2 = ((dS A x0) k).2.2 + (if (actS (dS A x0 k).1 (lN (dD (dS A x0 k).2.1).1)).1 = 0 then 1 else 0) := rfl
      have x2 : gI g2 136 22 = (dD ((dS A x0) k).2.1).2 := by
        rw [b2.2 22 (by decide)]
        exact a3
      rw [if_neg (nI_ge z (by omega)), a1, bd_eq, n64b _ lt, b1, bd_eq]
      by_cases o : (actS (dS A x0 k).1 (lN (dD (dS A x0 k).2.1).1)).1 = 0
      · obtain ⟨g3, c1, c2, c3, c4, c5⟩ := r_does hr2 _ o (b3 o)
        rw [l32b _ (by omega)] at c1
        have w2 := dS_wf (A := A) (x0 := x0) hW hs (k + 1)
        obtain ⟨g4, d1, d2, d3, d4⟩ := ih (k + 1) g3 ⟨hr2.1.fm c2, c3, w2.1, w2.2.1, w2.2.2.1⟩ (by rw [c2.2 22 (by decide), x2]; rfl) z (by omega)
        rw [nd, if_pos o] at d1
        refine ⟨g4, ?_, y2.tr ((c2.mono (by decide) (by decide)).tr d2), d3, ?_⟩
        · rw [o, if_pos (show nI 0 = 0 from rfl), c1, bd_eq, f_X12_day_68, lad1, lad1, d1]
        · rw [d4, c5, b2.L (by decide), a2.L (by decide)]
      · have rw2 : ((dS A x0) (k + 1)).1 = ((dS A x0) k).1 := act_no _ _ o
        have a4 := act_4 ((dS A x0) k).1 (lN (dD ((dS A x0) k).2.1).1)
        obtain ⟨g4, d1, d2, d3, d4⟩ := ih (k + 1) g2 (by rw [rw2]; exact hr2) (by rw [x2]; rfl) z (by omega)
        rw [nd, if_neg o, Nat.add_zero] at d1
        refine ⟨g4, ?_, y2.tr d2, d3, ?_⟩
        · rw [if_neg (nI_ne0 (by omega) (by omega)), f_X12_day_68, lad1, d1]
        · rw [d4, b2.L (by decide), a2.L (by decide)]
    · have e1 : k = m := by omega
      subst e1
      rw [if_pos (nI_le z (by omega))]
      exact ⟨g, rfl, Fm.rf, h.2.1, rfl⟩
theorem q_day (h : Inv X A ag g) (hag : ag + 60 < 2 ^ 30) (x0 v : Int32) : CA ag g (f_X11_day 0 x0 v g) (fun g => f_X12_day 136 x0 v g) := by
  have hs := h.1.1.1
  have hX := h.1.2.1
  have wi : ∀ g, f_X12_within v.toInt64 1 40 g = some (decide (1 ≤ v.toInt ∧ v.toInt ≤ 40), g) := fun g => by
    have z0 : (1 : Int64).toInt = 1 := rfl
    have o : (40 : Int64).toInt = 40 := rfl
    rw [r_within, Int32.toInt_toInt64, z0, o]
  by_cases hv : 1 ≤ v.toInt ∧ v.toInt ≤ 40
  · obtain ⟨m, hm, rfl⟩ : ∃ m, m < 2 ^ 31 ∧ v = nI m := by
      obtain ⟨j, hj, e⟩ := nI_of (show ¬ v < 0 from fun w => by
        rw [Int32.lt_iff_toInt_lt] at w
        have : (0 : Int32).toInt = 0 := rfl
        omega)
      exact ⟨j, hj, e⟩
    rw [nI_toInt hm] at hv
    have m40 : m ≤ 40 := by omega
    have hW := h.wf
    obtain ⟨g1, a1, a2, a3, a4, a5⟩ := c_spare h
    obtain ⟨g2, ag2, b1, b2, b3, b4, b5, b6⟩ := c_dy33 (x0 := x0) hW hX m40 FU 0 g1 ag a3 a5.1.2.2.1 a5.1.2.2.2.1 (by omega) (Nat.zero_le _) (by have := @FU_gt m (by omega); omega)
    have b1' : f_X11_day_33 FU 0 (nI m) x0 0 0 g1 = _ := b1
    have cc : f_X11_day 0 x0 (nI m) g = (if nI ((dS A x0) m).2.2 ≤ 0 then some (nI ((dS A x0) m).2.2, g2) else bd (f_X11_keepSpare 0 g2) (fun v3 g4 => some (nI ((dS A x0) m).2.2, g4))) := by
      rw [f_X11_day, if_neg (show ¬ nI m < 1 from nI_nlt (b := 1) (by omega) (by omega)), if_pos (show nI m ≤ 40 from nI_le (b := 40) m40 (by decide)), md0_5 hs, md0_4 hs, gk52 hs, gk47 hs, a1, bd_eq, b1']
    have y2 : Fq CB g g2 := (a2.mono (by decide)).tr (b2.mono (by decide))
    have le := dS_le (A := A) (x0 := x0) m
    have tb : decide (1 ≤ (nI m).toInt ∧ (nI m).toInt ≤ 40) = true := by
      rw [nI_toInt hm]
      exact decide_eq_true (by omega)
    by_cases z : ((dS A x0) m).2.2 = 0
    · have rowA := dS_0 m z
      rw [rowA] at b6
      have I2 : Inv X A ag2 g2 := h.cl2 y2 b3 b6 b4
      have hr0 := I2.1.1.t0
      obtain ⟨g3, d1, d2, d3⟩ := r_keeps hr0.1
      have hr3 : RS A g3 := hr0.fi d2 (by decide)
      have xf : Fm [22] [] g3 (sI g3 136 22 x0) := Fm.rf.sf (by decide)
      obtain ⟨g4, k1, k2, k3, k4⟩ := r_dy34 (x0 := x0) hW m40 FU 0 (sI g3 136 22 x0) (hr3.fm xf (by decide)) (by rw [gI_sIs, pk_us]; rfl) (Nat.zero_le _) (by have := @FU_gt m (by omega); omega)
      have k1' : f_X12_day_34 FU 136 (nI m) 0 0 (sI g3 136 22 x0) = _ := k1
      have x3 : Fm [0, 17, 18, 20, 22] [137, 141, 142, 143] g2 g3 := (tF0.mono (by decide) (by decide)).tr ((Fm.of (K := [0]) d2 (by decide)).mono (by decide) (by decide))
      have x4 : Fm [0, 17, 18, 20, 22] [137, 141, 142, 143] g2 g4 := x3.tr ((xf.mono (by decide) (by decide)).tr (k2.mono (by decide) (by decide)))
      have x4' := x4.dr7 (by rw [k3, rowA, I2.1.1.2.1]) (by rw [k4, gL_sI, d2.L (by decide), gL_sI])
      have zl : nI ((dS A x0) m).2.2 ≤ 0 := by
        rw [z]
        decide
      refine ⟨nI ((dS A x0) m).2.2, g2, g4, X, A, ag2, ?_, ?_, I2.ref x4' (by decide), by omega, by rw [x4.1.1.1, y2.1]; omega, by rw [x4.1.1.2.1, y2.2.1]; omega⟩
      · rw [cc, if_pos zl]
      · show f_X12_day 136 x0 (nI m) g2 = _
        rw [f_X12_day, lg, wi, tb, bd_eq, ibT, d1, bd_eq, lg, k1', if_pos zl]
    · obtain ⟨g3, n, c1, c2, c3, c4, c5, c6, c7, c8, c9, n1, n2, n3⟩ := c_deedOk2 h a5 a2 a4 b2 b3 b4 b6
      have eA : ∀ j, j < 52 ∨ 103 ≤ j → ((dS A x0) m).1 j = A j := fun j hj => dS_e hW hs hj m
      have hr3 : RS A g3 := ⟨c3, c9, h.1.1.2.2⟩
      have hr0 := hr3.t0
      obtain ⟨g4, d1, d2, d3⟩ := r_keeps hr0.1
      have hr4 : RS A g4 := hr0.fi d2 (by decide)
      have xf : Fm [22] [] g4 (sI g4 136 22 x0) := Fm.rf.sf (by decide)
      obtain ⟨g5, k1, k2, k3, k4⟩ := r_dy34 (x0 := x0) hW m40 FU 0 (sI g4 136 22 x0) (hr4.fm xf (by decide)) (by rw [gI_sIs, pk_us]; rfl) (Nat.zero_le _) (by have := @FU_gt m (by omega); omega)
      have k1' : f_X12_day_34 FU 136 (nI m) 0 0 (sI g4 136 22 x0) = _ := k1
      have x4 : Fm [0, 17, 18, 20, 22] [137, 141, 142, 143] g3 g4 := (tF0.mono (by decide) (by decide)).tr ((Fm.of (K := [0]) d2 (by decide)).mono (by decide) (by decide))
      have x5 : Fm [0, 17, 18, 20, 22] [137, 141, 142, 143] g3 g5 := x4.tr ((xf.mono (by decide) (by decide)).tr (k2.mono (by decide) (by decide)))
      have was : ∀ j, j < 51 → gI g5 143 j = A (52 + j) := fun j hj => by
        rw [k2.I (by decide), xf.I (by decide), d3 j hj, hr0.2.1]
      obtain ⟨g6, m1, m2, m3, m4, m5, m6⟩ := deedEnd h (dS_wf hW hs m) eA c2 c3 c4 c5 c6 c7 c8 n1 n2 (n3 _ eA) x5 (by decide) k3 was
      have ng : ¬ nI ((dS A x0) m).2.2 ≤ 0 := nI_ge (a := 0) (by omega) (by omega)
      refine ⟨nI ((dS A x0) m).2.2, g3, g6, X, _, ag2, ?_, ?_, m4, by omega, by rw [m5]; omega, by rw [m6]; omega⟩
      · rw [cc, if_neg ng, c1, bd_eq]
      · show f_X12_day 136 x0 (nI m) g3 = _
        rw [f_X12_day, lg, wi, tb, bd_eq, ibT, d1, bd_eq, lg, k1', if_neg ng, m1, bd_eq]
  · have e1 : v < 1 ∨ ¬ v ≤ 40 := by
      have i1 : (1 : Int32).toInt = 1 := rfl
      have i40 : (40 : Int32).toInt = 40 := rfl
      rw [Int32.lt_iff_toInt_lt, Int32.le_iff_toInt_le, i1, i40]
      omega
    refine CA.no (v := -3) h ?_ ?_
    · rw [f_X11_day]
      rcases e1 with e | e
      · rw [if_pos e]
      · rw [if_neg e]
        split <;> rfl
    · show f_X12_day 136 x0 v g = _
      rw [f_X12_day, lg, wi, decide_eq_false hv, bd_eq, ibF]
end DAY
