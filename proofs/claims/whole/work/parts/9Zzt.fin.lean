/-! FIELD: before the lines, behind the lines. -/
section FIN
variable {X Y : Nat → Prop} {T : Nat → Nat} {n M i q b p : Nat} {A F : Nat → Int32} {g g' g1 g2 h h' h1 : G} {o : Option Nat} {w : Nat}
theorem PA.mr {m k : Nat} {f : Nat → Int32} (h : PA X g o m k f) (e : ∀ a, X a → a < gn g → Y a) : PA Y g o m k f := by
  obtain ⟨a, a1, a2, a3⟩ := h
  exact ⟨a, e a a1 a2.2.1.2, a2, a3⟩
theorem LR.mr (h : LR X g o A w) (e : ∀ a, X a → a < gn g → Y a) : LR Y g o A w := h.imp id (fun u => ⟨u.1, u.2.mr e⟩)
theorem BD.mr (h : BD X g b A) (e : ∀ a, X a → a < gn g → Y a) : BD Y g b A := by
  obtain ⟨h1, ⟨q, q1, p1, p2, p3, p4, p5, p6, p7, p8, p9, p10⟩, h3⟩ := h
  exact ⟨h1, ⟨q, q1, e q p1 p2.2, p2, p3, p4, p5.mr e, p6.mr e, p7.mr e, p8.mr e, p9.mr e, p10.mr e⟩, h3⟩
theorem c_pre (hz : TZ T n M) (hs : Sh g) (hT : ∀ k, k < n → T k < 256 ∧ gI g 1 k = byI (T k)) : ∃ g', Sh g' ∧ CT T n M 0 g' ∧ f_X8_reads 57 1 (nI n) g = bd (f_X8_fieldLine 57 g') (fun v27 g28 => if (b2i v27) = 0 then (some (false, g28)) else (f_X8_reads_53 FU 57 (0 : Int32) g28)) ∧ Fq [57, 59, 60, 61] g g' := by
  obtain ⟨z1, z2, z3, z4⟩ := id hz
  obtain ⟨g1, hg1⟩ : ∃ g1, g1 = sR g 57 4 (some 1) := ⟨_, rfl⟩
  have R1 : gR g1 = va_up (gR g) 57 (va_up (gR g 57) 4 (some 1)) := by
    rw [hg1, gR_sR]
  have x1 : Fq [57, 59, 60, 61] g g1 := by
    rw [hg1]
    exact Fq.rf.sr (by simp)
  have t57 : shF.all (fun q => decide (q.1 = 57 → q.2.1 ≠ 4)) = true := by decide +kernel
  have hs1 : Sh g1 := Sh.fq x1 hs (fun q' h1 h2 => by
    have t := of_decide_eq_true (List.all_eq_true.mp t57 q' h1)
    rw [R1]
    by_cases e : q'.1 = 57
    · rw [e, va_up_self, va_up_ne _ _ (t e), ← e]
      exact hs.2.2 q' h1
    · rw [va_up_ne _ _ e]
      exact hs.2.2 q' h1)
  obtain ⟨g2, hg2⟩ : ∃ g2, g2 = sI (sI (sI g1 57 5 (nI n)) 57 1 0) 57 2 (-1) := ⟨_, rfl⟩
  have x2 : Fi [57] g1 g2 := by
    rw [hg2]
    exact ((Fi.rf.si (by simp)).si (by simp)).si (by simp)
  have hs2 := Sh.fi x2 hs1
  have tx : TX T n g2 := by
    refine ⟨z1, ?_, ?_, fun k hk => ?_⟩
    · rw [hg2, gI_sIs, pk_un (by decide), gI_sIs, pk_un (by decide), gI_sIs, pk_us]
    · rw [x2.R, R1, va_up_self, va_up_self]
    · rw [x2.I (by decide), x1.I (by decide)]
      exact hT k hk
  obtain ⟨g3, a1, a2, a3, a4, a5⟩ := c_splitText z2 z3 z4 hs2 tx
  have hs3 := Sh.fi a2 hs2
  have hs4 : Sh (sI g3 57 11 (-1)) := hs3
  have e2 : ∀ k, k ≠ 6 → k ≠ 10 → k ≠ 11 → gI (sI g3 57 11 (-1)) 57 k = gI g2 57 k := fun k k1 k2 k3 => by
    rw [gI_sIs, pk_un k3, a4 k k1 k2]
  obtain ⟨g5, b1, b2, b3⟩ := c_look (i := 0) hz hs4 (fun j hj => by
    rw [gI_sIn (by decide), gI_sIn (by decide), gI_sIn (by decide)]
    exact a5 j hj) ⟨by rw [gI_sIs, pk_un (by decide)]; exact a3, by rw [e2 1 (by decide) (by decide) (by decide), hg2, gI_sIs, pk_un (by decide), gI_sIs, pk_us], by rw [e2 2 (by decide) (by decide) (by decide), hg2, gI_sIs, pk_us]⟩ (by rw [gI_sIs, pk_us]; rfl) (by omega)
  refine ⟨g5, hs4.fc b2, b3, ?_, ((x1.tr (x2.q.mono (by simp))).tr (a2.q.mono (by simp))).tr ((Fi.rf.si (by simp) : Fi [57] g3 (sI g3 57 11 (-1))).q.mono (by simp) |>.tr (b2.1.q.mono (by simp)))⟩
  have mn : f_J9_min_7cf53 (nI n) (nI 900) g1 = some (nI n, g1) := by
    rw [f_J9_min_7cf53, if_neg (nI_nlt z1 (by decide))]
  have mx : f_J9_max_7cf53 (0 : Int32) (nI n) g1 = some (nI n, g1) := by
    rw [f_J9_max_7cf53]
    by_cases e : n = 0
    · rw [e]
      rfl
    · rw [if_pos (show (0 : Int32) < nI n from nI_lt (a := 0) (by omega) (by omega))]
  rw [f_X8_reads, lg, ← hg1, sn1 hs1, mn, bd_eq, mx, bd_eq, lg, lg, lg, ← hg2, a1, bd_eq, lg, b1, bd_eq]
theorem r_pre (hz : TZ T n M) (hh : Sh h) {m : Nat} (h5 : gI h 136 5 = nI m) (hm : m ≤ 900) (hn : n ≤ m) (hT : ∀ k, k < n → T k < 256 ∧ gI h 139 k = nI (T k)) : ∃ h', Sh h' ∧ RT T n 0 h' ∧ (∀ j, j < 1515 → gI h' 140 j = plV j) ∧ f_X12_field 136 (nI n) h = bd (f_X12_eats 136 (0 : Int32) h') (fun v27 g28 => if (b2i v27) = 0 then (bd (f_X12_fails 136 (2 : Int32) g28) (fun v32 g33 => f_X12_field_66 136 g33)) else (f_X12_field_66 136 g28)) ∧ Fm [0, 5, 6, 7, 8, 9, 10, 11] [140] h h' ∧ gI h' 136 5 = 0 := by
  obtain ⟨h1, e1⟩ : ∃ h1, h1 = sI (sI (sI (sI (sI h 136 0 0) 136 8 (nI n)) 136 5 0) 136 7 0) 136 11 0 := ⟨_, rfl⟩
  have x1 : Fm [0, 5, 6, 7, 8, 9, 10, 11] [140] h h1 := by
    rw [e1]
    exact ((((Fm.rf.sf (by decide)).sf (by decide)).sf (by decide)).sf (by decide)).sf (by decide)
  have hh1 := hh.fm x1
  obtain ⟨h2, a1, a2, a3⟩ := r_plain hh1
  have hh2 := Sh.fi a2 hh1
  have i8 : gI h2 136 8 = nI n := by
    rw [a2.I (by decide), e1, gI_sIs, pk_un (by decide), gI_sIs, pk_un (by decide), gI_sIs, pk_un (by decide), gI_sIs, pk_us]
  have i7 : gI h2 136 7 = nI 0 := by
    rw [a2.I (by decide), e1, gI_sIs, pk_un (by decide), gI_sIs, pk_us]
    rfl
  have i11 : gI h2 136 11 = 0 := by
    rw [a2.I (by decide), e1, gI_sIs, pk_us]
  have i5 : gI h2 136 5 = 0 := by
    rw [a2.I (by decide), e1, gI_sIs, pk_un (by decide), gI_sIs, pk_un (by decide), gI_sIs, pk_us]
  have ty : TY T n h2 := ⟨hz.1, i8, fun k hk => by
    rw [a2.I (by decide), x1.I (by decide)]
    exact hT k hk⟩
  obtain ⟨h3, b1, b2, b3, b4, b5, b6⟩ := r_next hh2 ty (s := 0) i7 (Nat.zero_le _)
  refine ⟨h3, hh2.fm b2, ⟨ty.cg (b2.2 8 (by decide)) (b2.I (by decide)), b3, b4, b5, b6, by rw [b2.2 11 (by decide)]; exact i11⟩, fun j hj => ?_, ?_, (x1.tr ((Fm.of (K := []) a2 (by decide)).mono (by simp) (by simp))).tr (b2.mono (by decide) (by decide)), ?_⟩
  · rw [b2.I (by decide)]
    exact a3 j hj
  · have wi : f_X12_within (nI n).toInt64 0 (nI m).toInt64 (sI h 136 0 0) = some (true, sI h 136 0 0) := by
      have := r_wi2 (v := n) (lo := 0) (hi := m) (by omega) (by decide) (by omega) (sI h 136 0 0)
      rw [decide_eq_true ⟨Nat.zero_le _, hn⟩] at this
      exact this
    rw [f_X12_field, lg, gI_sIs, pk_un (by decide), h5, wi, bd_eq, ibT, lg, lg, lg, lg, ← e1, md136_4 hh1, gk140 hh1, a1, bd_eq, b1, bd_eq]
  · rw [b2.2 5 (by decide)]
    exact i5
theorem ls_rd (hz : TZ T n M) (hs : Sh g) (hh : Sh h) (cc : CT T n M 0 g) (rr : RT T n 0 h) (hP : ∀ j, j < 1515 → gI h 140 j = plV j) : ∃ b g' h', (bd (f_X8_fieldLine 57 g) (fun v27 g28 => if (b2i v27) = 0 then (some (false, g28)) else (f_X8_reads_53 FU 57 (0 : Int32) g28))) = some (b, g') ∧ (bd (f_X12_eats 136 (0 : Int32) h) (fun v27 g28 => if (b2i v27) = 0 then (bd (f_X12_fails 136 (2 : Int32) g28) (fun v32 g33 => f_X12_field_66 136 g33)) else (f_X12_field_66 136 g28))) = f_X12_field_123 136 h' ∧ FLZ (gn g) g g' ∧ Fm KrL [140] h h' ∧ (Sh g' ∧ gn g' ≤ gn g + 950 ∧ gs g' ≤ gs g + 2000) ∧ ((b = true ∧ ∃ i', LI T n M (gn g) i' g' h') ∨ (b = false ∧ BadG g' h')) := by
  have M9 : M ≤ 900 := Nat.le_trans hz.2.1 hz.1
  have FUg := @FU_gt 902 (by decide)
  obtain ⟨b, g1, h1, a1, a2, a3, a4, ⟨a5, a5', a5''⟩, a6⟩ := ls_fl hz hs hh cc rr rfl hP
  rw [a1, a2, bd_eq]
  rcases a6 with ⟨rfl, l⟩ | ⟨rfl, a6⟩
  · have := l.1.2.2.1.2.2.2.1
    obtain ⟨b, g2, h2, b1, b2, b3, b4, ⟨b5, b5', b5''⟩, b6⟩ := ls_96 hz M 0 FU FU 4 g1 h1 (by omega) (by omega) (by omega) (by omega) l
    have b1' : f_X8_reads_53 FU 57 0 g1 = some (b, g2) := b1
    rw [ibT, b1', b2]
    exact ⟨b, g2, h2, rfl, rfl, a3.tr b3, a4.tr b4, ⟨b5, by omega, by omega⟩, b6⟩
  · obtain ⟨m, hm⟩ : ∃ m, FU = m + 1 := ⟨FU - 1, rfl⟩
    rw [ibF, hm, f_X12_field_96, if_neg a6.x]
    exact ⟨false, g1, h1, rfl, rfl, a3, a4, ⟨a5, by omega, by omega⟩, Or.inr ⟨rfl, a6⟩⟩
/-! the reference behind the lines -/
theorem r_167 : ∀ fu k h, Sh h → gI h 140 = F → gI h 137 = cpR A F 0 k → k ≤ 1515 → 1515 < fu + k → ∃ h', f_X12_field_167 fu 136 (nI k) h = f_X12_field_194 FU 136 0 h' ∧ Fi [137] h h' ∧ gI h' 137 = cpR A F 0 1515 := by
  intro fu
  induction fu with
  | zero => intro k h _ _ _ h1 h2; omega
  | succ fu ih =>
    intro k h hh hF hr hk hf
    rw [f_X12_field_167]
    rcases Nat.lt_or_ge k 1515 with z | z
    · have x1 : Fi [137] h (sI h 137 k (F k)) := Fi.rf.si (by decide)
      obtain ⟨h2, a1, a2, a3⟩ := ih (k + 1) (sI h 137 k (F k)) hh (by rw [gI_sIn (by decide)]; exact hF) (by
        rw [gI_sIs, hr]
        have := cpR_s (B := A) (W := F) (f := 0) (n := k)
        rw [Nat.zero_add] at this
        exact this) (by omega) (by omega)
      refine ⟨h2, ?_, x1.tr a2, a3⟩
      rw [if_neg (show ¬ (1515 : Int32) ≤ nI k from nI_ge (b := 1515) z (by decide)), md136_1 hh, md136_4 hh, gk140 hh, sn140 hh, gdI_nI z (by decide), gk137 hh, sn137 hh, gdI_nI (by omega) (by decide), nI_clamp (by omega), hF, lg, lad1, a1]
    · obtain rfl : k = 1515 := by omega
      rw [if_pos (by decide)]
      exact ⟨h, rfl, Fi.rf, hr⟩
def wR (C : Nat → Int32) (F : Nat → Int32) (k : Nat) : Nat → Int32 := fun j => if 52 ≤ j ∧ j < 52 + k then (if F (j - 42) = nI 9 then nI 1 else nI 0) else C j
theorem r_194 {C : Nat → Int32} (hC : ∀ j, j < 1515 → C j = F j) : ∀ fu k h, Sh h → gI h 137 = wR C F k → k ≤ 36 → 36 < fu + k → ∃ h', f_X12_field_194 fu 136 (nI k) h = f_X12_field_236 FU 136 0 h' ∧ Fi [137] h h' ∧ gI h' 137 = wR C F 36 := by
  intro fu
  induction fu with
  | zero => intro k h _ _ h1 h2; omega
  | succ fu ih =>
    intro k h hh hr hk hf
    rw [f_X12_field_194]
    rcases Nat.lt_or_ge k 36 with z | z
    · have rd : gI h 137 (10 + k) = F (10 + k) := by
        rw [hr]
        unfold wR
        rw [if_neg (by omega), hC _ (by omega)]
      obtain ⟨v, hv⟩ : ∃ v, v = (if F (10 + k) = nI 9 then nI 1 else nI 0) := ⟨_, rfl⟩
      have x1 : Fi [137] h (sI h 137 (52 + k) v) := Fi.rf.si (by decide)
      obtain ⟨h2, a1, a2, a3⟩ := ih (k + 1) (sI h 137 (52 + k) v) hh (by
        rw [gI_sIs, hr]
        funext j
        unfold wR
        by_cases e : j = 52 + k
        · rw [e, pk_us, if_pos (by omega), show 52 + k - 42 = 10 + k by omega, hv]
        · rw [pk_un e]
          by_cases e2 : 52 ≤ j ∧ j < 52 + k
          · rw [if_pos e2, if_pos (show 52 ≤ j ∧ j < 52 + (k + 1) by omega)]
          · rw [if_neg e2, if_neg (show ¬ (52 ≤ j ∧ j < 52 + (k + 1)) by omega)]) (by omega) (by omega)
      refine ⟨h2, ?_, x1.tr a2, a3⟩
      rw [if_neg (lnge36 z), md136_1 hh, gk137 hh, sn137 hh, show (10 : Int32) = nI 10 from rfl, nI_add, gdI_nI (by omega) (by decide), nI_clamp (by omega), rd]
      by_cases e : F (10 + k) = nI 9
      · rw [if_pos e] at hv
        have hv1 : v = (1 : Int32) := hv
        rw [hv1] at a1
        rw [if_pos (show F (10 + k) = (9 : Int32) from e), f_X12_field_227, sn137 hh, show (52 : Int32) = nI 52 from rfl, nI_add, gdI_nI (by omega) (by decide), nI_clamp (by omega), lg, lad1, a1]
      · rw [if_neg e] at hv
        have hv1 : v = (0 : Int32) := hv
        rw [hv1] at a1
        rw [if_neg (show ¬ F (10 + k) = (9 : Int32) from e), f_X12_field_227, sn137 hh, show (52 : Int32) = nI 52 from rfl, nI_add, gdI_nI (by omega) (by decide), nI_clamp (by omega), lg, lad1, a1]
    · obtain rfl : k = 36 := by omega
      rw [if_pos (by decide)]
      exact ⟨h, rfl, Fi.rf, hr⟩
end FIN
