/-! A PLAN is made, the draft cleared, the reference's row made plain. -/
section NWP
variable {g g' g1 h h' : G} {q R W : Nat}
theorem bt_all {n c : Nat} (hn : n ≤ 36) (hc : c < 64) : bt (((1 : Int64) <<< ((nI n).toInt64 &&& 63)) - (1 : Int64)) c = decide (c < n) := by
  have t : (List.range 37).all (fun n => (List.range 64).all (fun c => decide (bt (((1 : Int64) <<< ((nI n).toInt64 &&& 63)) - (1 : Int64)) c = decide (c < n)))) = true := by decide +kernel
  exact of_decide_eq_true (List.all_eq_true.mp (List.all_eq_true.mp t n (List.mem_range.mpr (by omega))) c (List.mem_range.mpr hc))
theorem c_i91 (h6 : W ≤ 6) (h1 : 1 ≤ W) {m : Nat} (hm : m ≤ 36) : ∀ fu k g, KD g q 7 → gI g q 1 = nI W → gI g q 2 = nI m → Ar g (gR g q 7) (q + 2) 36 → Ar g (gR g q 8) (q + 3) 36 → (∀ c, c < k → gI g (q + 2) c = nI (c / W) ∧ gI g (q + 3) c = nI (c % W)) → k ≤ m → m < fu + k → ∃ g', f_X7_init_91 fu q (nI k) g = f_X7_init_135 q g' ∧ Fi [q + 2, q + 3] g g' ∧ gL g' = gL g ∧ ∀ c, c < m → gI g' (q + 2) c = nI (c / W) ∧ gI g' (q + 3) c = nI (c % W) := by
  intro fu
  induction fu with
  | zero => intro k g _ _ _ _ _ _ h1 h2; omega
  | succ fu ih =>
    intro k g kd i1 i2 a2 a3 hk hkm hfu
    rw [f_X7_init_91, i2]
    rcases Nat.lt_or_ge k m with z | z
    · obtain ⟨g1, hg1⟩ : ∃ g1, g1 = sI g (q + 2) k (nI (k / W)) := ⟨_, rfl⟩
      obtain ⟨g2, hg2⟩ : ∃ g2, g2 = sI g1 (q + 3) k (nI (k % W)) := ⟨_, rfl⟩
      have x1 : Fi [q + 2, q + 3] g g1 := by
        rw [hg1]
        exact Fi.rf.si (by simp)
      have x2 : Fi [q + 2, q + 3] g g2 := by
        rw [hg2]
        exact x1.si (by simp)
      have i11 : gI g1 q 1 = nI W := by
        rw [x1.I (by simp)]
        exact i1
      have b3 := a3.fa x1.a
      obtain ⟨g3, d1, d2, d3, d4⟩ := ih (k + 1) g2 (kd.fi x2) (by rw [x2.I (by simp)]; exact i1) (by rw [x2.I (by simp)]; exact i2) (by rw [x2.R]; exact a2.fa x2.a) (by rw [x2.R]; exact a3.fa x2.a) (fun c hc => by
        rw [hg2, gI_sIn (by omega), gI_sIs, hg1, gI_sIs, gI_sIn (by omega)]
        by_cases e : c = k
        · rw [e, pk_us, pk_us]
          exact ⟨rfl, rfl⟩
        · rw [pk_un e, pk_un e]
          exact hk c (by omega)) (by omega) (by omega)
      refine ⟨g3, ?_, x2.tr d2, ?_, d4⟩
      · have b31 := b3.1
        rw [if_neg (nI_ge z (by omega)), if_neg (lnge36 (by omega)), a2.1, dr_eq, i1, gdZ_nI (by omega) (by omega), gdK_pos a2.2.1, a2.2.2, gdI_nI (by omega) (by decide), nI_clamp (by omega), pk_div (by omega) (by omega) (by omega), lg, ← hg1, x1.R, b31, dr_eq, i11, gdZ_nI (by omega) (by omega), gdK_pos b3.2.1, b3.2.2, gdI_nI (by omega) (by decide), pk_div (by omega) (by omega) (by omega), pk_mul, nI_mod, lg, ← hg2, lad1, d1]
      · rw [d3, hg2, gL_sI, hg1, gL_sI]
    · rw [if_pos (nI_le z (by omega))]
      exact ⟨g, rfl, Fi.rf, rfl, fun c hc => hk c (by omega)⟩
theorem c_newP (hs : Sh g) (R1 : 1 ≤ R) (R6 : R ≤ 6) (W1 : 1 ≤ W) (W6 : W ≤ 6) : ∃ g', f_X7_init (gn g) (nI R) (nI W) (nw g 7 0 12) = some ((), g') ∧ gn g' = gn g + 5 ∧ gs g' = gs g + 126 ∧ Fa [] g g' ∧ KD g' (gn g) 7 ∧ (gI g' (gn g) 0 = nI R ∧ gI g' (gn g) 1 = nI W ∧ gI g' (gn g) 2 = nI (R * W) ∧ gI g' (gn g) 4 = 0) ∧ (∀ c, c < 64 → bt (gL g' (gn g) 3) c = decide (c < R * W)) ∧ (Ar g' (gR g' (gn g) 6) (gn g + 1) 36 ∧ Ar g' (gR g' (gn g) 7) (gn g + 2) 36 ∧ Ar g' (gR g' (gn g) 8) (gn g + 3) 36 ∧ Ar g' (gR g' (gn g) 9) (gn g + 4) 6) ∧ ((∀ c, gI g' (gn g + 1) c = 0) ∧ (∀ c, c < R * W → gI g' (gn g + 2) c = nI (c / W) ∧ gI g' (gn g + 3) c = nI (c % W)) ∧ ∀ i, i < 6 → gI g' (gn g + 4) i = -1) ∧ gR g' (gn g) 10 = none ∧ gR g' (gn g) 11 = none := by
  have c36 : (36 : Int32).toNatClampNeg = 36 := rfl
  have c6 : (6 : Int32).toNatClampNeg = 6 := rfl
  have rw36 : R * W ≤ 6 * 6 := Nat.mul_le_mul R6 W6
  have rw1 : 1 * 1 ≤ R * W := Nat.mul_le_mul R1 W1
  have mm : ∀ x, 1 ≤ x → x ≤ 6 → ∀ g, f_J9_min_7cf53 (6 : Int32) (nI x) g = some (nI x, g) ∧ f_J9_max_7cf53 (1 : Int32) (nI x) g = some (nI x, g) := fun x x1 x6 g => by
    constructor
    · rw [f_J9_min_7cf53]
      by_cases e : x < 6
      · rw [if_pos (show nI x < (6 : Int32) from nI_lt (b := 6) e (by decide))]
      · rw [if_neg (show ¬ nI x < (6 : Int32) from nI_nlt (b := 6) (by omega) (by omega)), show x = 6 by omega]
        rfl
    · rw [f_J9_max_7cf53]
      by_cases e : 1 < x
      · rw [if_pos (show (1 : Int32) < nI x from nI_lt (a := 1) e (by omega))]
      · rw [if_neg (show ¬ (1 : Int32) < nI x from nI_nlt (a := 1) (by omega) (by omega)), show x = 1 by omega]
        rfl
  obtain ⟨q, hq⟩ : ∃ q, q = gn g := ⟨_, rfl⟩
  obtain ⟨g9, h9⟩ : ∃ g9, g9 = sR (nw (sR (nw (sR (nw (sR (nw (nw g 7 0 12) 14 36 36) q 6 (some (q + 1))) 14 36 36) q 7 (some (q + 2))) 14 36 36) q 8 (some (q + 3))) 14 6 6) q 9 (some (q + 4)) := ⟨_, rfl⟩
  obtain ⟨g13, h13⟩ : ∃ g13, g13 = sL (sI (sI (sI g9 q 0 (nI R)) q 1 (nI W)) q 2 (nI (R * W))) q 3 (((1 : Int64) <<< ((nI (R * W)).toInt64 &&& 63)) - (1 : Int64)) := ⟨_, rfl⟩
  have F9 : gn g9 = q + 5 ∧ gs g9 = gs g + 126 ∧ Fa [] g g9 ∧ KD g9 q 7 ∧ gI g9 q = (fun _ => 0) ∧ (Ar g9 (gR g9 q 6) (q + 1) 36 ∧ Ar g9 (gR g9 q 7) (q + 2) 36 ∧ Ar g9 (gR g9 q 8) (q + 3) 36 ∧ Ar g9 (gR g9 q 9) (q + 4) 6) ∧ gI g9 (q + 1) = (fun _ => 0) ∧ gR g9 q 10 = none ∧ gR g9 q 11 = none := by
    rw [h9]
    refine ⟨?_, ?_, ⟨?_, fun x hx => ⟨?_, ?_, fun _ => ⟨?_, ?_, ?_⟩⟩⟩, ⟨?_, ?_⟩, ?_, ⟨⟨?_, ⟨?_, ?_⟩, ?_⟩, ⟨?_, ⟨?_, ?_⟩, ?_⟩, ⟨?_, ⟨?_, ?_⟩, ?_⟩, ⟨?_, ⟨?_, ?_⟩, ?_⟩⟩, ?_, ?_, ?_⟩
    all_goals simp (disch := omega) only [gn_nw, gn_sR, gs_nw, gs_sR, gK_nw, gK_sR, gN_nw, gN_sR, gI_nw, gI_sR, gL_nw, gL_sR, gR_nw, gR_sR, va_up_self, va_up_ne, ← hq]
    all_goals omega
  obtain ⟨n9, s9, f9, k9, i9, ⟨a1, a2, a3, a4⟩, z9, r10, r11⟩ := F9
  have x13 : Fi [q] g9 g13 := by
    rw [h13]
    exact (((Fi.rf.si (by simp)).si (by simp)).si (by simp)).sl (by simp)
  have i13 : gI g13 q = upd (upd (upd (fun _ => 0) 0 (nI R)) 1 (nI W)) 2 (nI (R * W)) := by
    rw [h13]
    show gI (sI (sI (sI g9 q 0 (nI R)) q 1 (nI W)) q 2 (nI (R * W))) q = _
    rw [gI_sIs, gI_sIs, gI_sIs, i9]
  have nS : ∀ k, k ≠ 0 → q + k ∉ [q] := fun k hk => by
    simp
    omega
  have b1 := a1.fa x13.a
  have b2 := a2.fa x13.a
  have b3 := a3.fa x13.a
  have b4 := a4.fa x13.a
  rw [← congrFun (congrFun x13.R q) 6] at b1
  rw [← congrFun (congrFun x13.R q) 7] at b2
  rw [← congrFun (congrFun x13.R q) 8] at b3
  rw [← congrFun (congrFun x13.R q) 9] at b4
  obtain ⟨g14, d1, d2, d3, d4⟩ := c_i91 (q := q) W6 W1 (m := R * W) (by omega) FU 0 g13 (k9.fi x13) (by rw [i13, pk_un (by decide), pk_us]) (by rw [i13, pk_us]) b2 b3 (fun c hc => by omega) (by omega) (by have := @FU_gt 40 (by decide); omega)
  have b4' := b4.fa d2.a
  obtain ⟨g15, e1, e2, e3, e4⟩ := c_fill (g := g14) (a := q + 4) (len := 6) (by decide) b4'.2.2 (-1)
  have x15 : Fi [q, q + 2, q + 3, q + 4] g9 g15 := ((x13.mono (by simp)).tr (d2.mono (by simp))).tr (e2.mono (by simp))
  have xq : Fi [q + 2, q + 3, q + 4] g13 g15 := (d2.mono (by simp)).tr (e2.mono (by simp))
  have iq : gI g15 q = gI g13 q := xq.I (by simp)
  refine ⟨g15, ?_, x15.1.1.trans (by rw [n9, hq]), x15.1.2.1.trans s9, ?_, ?_⟩
  · rw [f_X7_init]
    simp only [lg, ln, c36, c6, gn_nw, gn_sR, ← hq]
    rw [← h9, (mm R R1 R6 g9).1, bd_eq, (mm R R1 R6 g9).2, bd_eq, (mm W W1 W6 _).1, bd_eq, (mm W W1 W6 _).2, bd_eq, gI_sIs, pk_un (by decide), gI_sIs, pk_us, pk_us, pk_mul, gI_sIs, pk_us, ← h13]
    have d1' : f_X7_init_91 FU q 0 g13 = f_X7_init_135 q g14 := d1
    rw [d1', f_X7_init_135, d2.R, b4.1, dr_eq, gdK_pos b4'.2.1, e1, bd_eq]
  · have : Fa [q, q + 2, q + 3, q + 4] g g15 := (f9.mono (fun a ha => by cases ha)).tr x15.a
    refine ⟨this.1, fun a ha => ⟨(this.2 a ha).1, (this.2 a ha).2.1, fun _ => (this.2 a ha).2.2 (by simp; omega)⟩⟩
  · rw [← hq]
    refine ⟨k9.fi x15, ?_, fun c hc => ?_, ?_, ⟨fun c => ?_, fun c hc => ?_, fun i hi => e4 i hi⟩, ?_, ?_⟩
    · rw [iq, i13]
      exact ⟨by rw [pk_un (by decide), pk_un (by decide), pk_us], by rw [pk_un (by decide), pk_us], pk_us, by rw [pk_un (by decide), pk_un (by decide), pk_un (by decide)]⟩
    · have : gL g15 q 3 = ((1 : Int64) <<< ((nI (R * W)).toInt64 &&& 63)) - (1 : Int64) := by
        rw [e3, d3, h13, gL_sLs]
        exact if_pos rfl
      rw [this, bt_all (by omega) hc]
    · rw [x15.R]
      exact ⟨a1.fa x15.a, a2.fa x15.a, a3.fa x15.a, a4.fa x15.a⟩
    · rw [x15.I (by simp), z9]
    · rw [e2.I (by simp), e2.I (by simp)]
      exact d4 c hc
    · rw [x15.R]
      exact r10
    · rw [x15.R]
      exact r11
theorem c_clear (hs : Sh g) (hq : q ≠ 63) : ∃ g', f_X0_clearFor 63 q g = some ((), g') ∧ Fq [63, 64, 65, 66, 67] g g' ∧ gR g' 63 0 = some q ∧ (∀ k, k ≠ 0 → gR g' 63 k = gR g 63 k) ∧ (∀ j, j ≠ 63 → gR g' j = gR g j) ∧ gL g' 63 1 = 0 ∧ (∀ i, i < 6 → gI g' 64 i = 0) ∧ (∀ i, i < 3 → gI g' 65 i = 0) ∧ (∀ i, i < 3 → gI g' 66 i = 0) ∧ ∀ i, i < 3 → gI g' 67 i = 0 := by
  obtain ⟨g1, hg1⟩ : ∃ g1, g1 = sL (sR g 63 0 (some q)) 63 1 0 := ⟨_, rfl⟩
  have x1 : Fq [63, 64, 65, 66, 67] g g1 := by
    rw [hg1]
    exact (Fq.rf.sr (by decide)).sl (by decide)
  have R1 : gR g1 = va_up (gR g) 63 (va_up (gR g 63) 0 (some q)) := by
    rw [hg1, gR_sL, gR_sR]
  have s1 : Sh g1 := hs.cp x1 (a := 63) (fun k hk => by rw [R1, va_up_self, va_up_ne _ _ hk]) (fun j hj => by rw [R1, va_up_ne _ _ hj]) (by decide)
  obtain ⟨g2, a1, a2, a3, a4⟩ := c_fill (g := g1) (a := 64) (len := 6) (by decide) (sn64 s1) 0
  have s2 := Sh.fi a2 s1
  obtain ⟨g3, b1, b2, b3, b4⟩ := c_fill (g := g2) (a := 65) (len := 3) (by decide) (sn65 s2) 0
  have s3 := Sh.fi b2 s2
  obtain ⟨g4, c1, c2, c3, c4⟩ := c_fill (g := g3) (a := 66) (len := 3) (by decide) (sn66 s3) 0
  have s4 := Sh.fi c2 s3
  obtain ⟨g5, d1, d2, d3, d4⟩ := c_fill (g := g4) (a := 67) (len := 3) (by decide) (sn67 s4) 0
  have xx : Fi [64, 65, 66, 67] g1 g5 := (((a2.mono (by decide)).tr (b2.mono (by decide))).tr (c2.mono (by decide))).tr (d2.mono (by decide))
  refine ⟨g5, ?_, x1.tr (xx.q.mono (by decide)), ?_, fun k hk => ?_, fun j hj => ?_, ?_, fun i hi => ?_, fun i hi => ?_, fun i hi => ?_, d4⟩
  · rw [f_X0_clearFor, lg, lg, ← hg1, md63_2 s1, gk64 s1, a1, bd_eq, md63_3 s2, gk65 s2, b1, bd_eq, md63_4 s3, gk66 s3, c1, bd_eq, md63_5 s4, gk67 s4, d1, bd_eq]
  · rw [xx.R, R1, va_up_self, va_up_self]
  · rw [xx.R, R1, va_up_self, va_up_ne _ _ hk]
  · rw [xx.R, R1, va_up_ne _ _ hj]
  · rw [xx.L (by decide), hg1, gL_sLs]
    exact if_pos rfl
  · rw [d2.I (by decide), c2.I (by decide), b2.I (by decide)]
    exact a4 i hi
  · rw [d2.I (by decide), c2.I (by decide)]
    exact b4 i hi
  · rw [d2.I (by decide)]
    exact c4 i hi
def plV (j : Nat) : Int32 := if j = 1 ∨ j = 2 then 1 else if (46 ≤ j ∧ j < 52) ∨ (88 ≤ j ∧ j < 94) then -1 else 0
theorem r_pl29 : ∀ fu k h, Sh h → k ≤ 6 → 6 < fu + k → ∃ h', f_X12_plain_29 fu 140 (nI k) h = some ((), h') ∧ Fi [140] h h' ∧ ∀ j, gI h' 140 j = if (46 + k ≤ j ∧ j < 52) ∨ (88 + k ≤ j ∧ j < 94) then -1 else gI h 140 j := by
  intro fu
  induction fu with
  | zero => intro k h _ h1 h2; omega
  | succ fu ih =>
    intro k h hs hk hf
    rw [f_X12_plain_29]
    rcases Nat.lt_or_ge k 6 with z | z
    · have s1 : Sh (sI h 140 (46 + k) (-1)) := hs
      obtain ⟨h2, a1, a2, a3⟩ := ih (k + 1) (sI (sI h 140 (46 + k) (-1)) 140 (88 + k) (-1)) hs (by omega) (by omega)
      refine ⟨h2, ?_, ((Fi.rf.si (by decide)).si (by decide)).tr a2, fun j => ?_⟩
      · rw [if_neg (lnge6 z), sn140 hs, show (46 : Int32) = nI 46 from rfl, nI_add, gdI_nI (by omega) (by decide), nI_clamp (by omega), lg, sn140 s1, show (88 : Int32) = nI 88 from rfl, nI_add, gdI_nI (by omega) (by decide), nI_clamp (by omega), lg, lad1, a1]
      · rw [a3 j, gI_sIs, gI_sIs]
        by_cases e1 : j = 88 + k
        · rw [e1, pk_us, if_neg (by omega), if_pos (by omega)]
        · rw [pk_un e1]
          by_cases e2 : j = 46 + k
          · rw [e2, pk_us, if_neg (by omega), if_pos (by omega)]
          · rw [pk_un e2]
            by_cases e3 : (46 + (k + 1) ≤ j ∧ j < 52) ∨ (88 + (k + 1) ≤ j ∧ j < 94)
            · rw [if_pos e3, if_pos (by omega)]
            · rw [if_neg e3, if_neg (by omega)]
    · rw [if_pos (lle6 z (by omega))]
      exact ⟨h, rfl, Fi.rf, fun j => by rw [if_neg (by omega)]⟩
theorem r_pl2 : ∀ fu k h, Sh h → (∀ j, j < k → gI h 140 j = 0) → k ≤ 1515 → 1515 < fu + k → ∃ h', f_X12_plain_2 fu 140 (nI k) h = some ((), h') ∧ Fi [140] h h' ∧ ∀ j, j < 1515 → gI h' 140 j = plV j := by
  intro fu
  induction fu with
  | zero => intro k h _ _ h1 h2; omega
  | succ fu ih =>
    intro k h hs h0 hk hf
    rw [f_X12_plain_2, sn140 hs]
    rcases Nat.lt_or_ge k 1515 with z | z
    · obtain ⟨h2, a1, a2, a3⟩ := ih (k + 1) (sI h 140 k 0) hs (fun j hj => by
        rw [gI_sIs]
        by_cases e : j = k
        · rw [e, pk_us]
        · rw [pk_un e]
          exact h0 j (by omega)) (by omega) (by omega)
      refine ⟨h2, ?_, (Fi.rf.si (by decide)).tr a2, a3⟩
      rw [if_neg (show ¬ (1515 : Int32) ≤ nI k from nI_ge (b := 1515) z (by decide)), gdI_nI z (by decide), nI_clamp (by omega), lg, lad1, a1]
    · obtain rfl : k = 1515 := by omega
      have s1 : Sh (sI h 140 1 1) := hs
      obtain ⟨h2, a1, a2, a3⟩ := r_pl29 FU 0 (sI (sI h 140 1 1) 140 2 1) hs (by omega) (by have := @FU_gt 10 (by decide); omega)
      have a1' : f_X12_plain_29 FU 140 0 (sI (sI h 140 1 1) 140 2 1) = some ((), h2) := a1
      refine ⟨h2, ?_, ((Fi.rf.si (by decide)).si (by decide)).tr a2, fun j hj => ?_⟩
      · rw [if_pos (by decide), show gdI (1 : Int32) 1515 = gdI (nI 1) 1515 (α := Unit × G) from rfl, gdI_nI (by decide) (by decide), show (1 : Int32).toNatClampNeg = 1 from rfl, lg, sn140 s1, show gdI (2 : Int32) 1515 = gdI (nI 2) 1515 (α := Unit × G) from rfl, gdI_nI (by decide) (by decide), show (2 : Int32).toNatClampNeg = 2 from rfl, lg, a1']
      · rw [a3 j, gI_sIs, gI_sIs]
        unfold plV
        by_cases e2 : j = 2
        · rw [e2, if_neg (by omega), pk_us, if_pos (by omega)]
        · by_cases e1 : j = 1
          · rw [e1, if_neg (by omega), pk_un (by omega), pk_us, if_pos (by omega)]
          · rw [pk_un e2, pk_un e1, h0 j hj, if_neg (show ¬ (j = 1 ∨ j = 2) by omega)]
theorem r_plain (hs : Sh h) : ∃ h', f_X12_plain 140 h = some ((), h') ∧ Fi [140] h h' ∧ ∀ j, j < 1515 → gI h' 140 j = plV j := r_pl2 FU 0 h hs (fun j hj => by omega) (by decide) (by have := @FU_gt 1515 (by decide); omega)
end NWP
