/-! ROWS, CHANCE, LIKELIEST: class and reference answer the same sums. -/
section ODQ
variable {A : Nat → Int32} {g g' : G} {n p : Nat} {q pa la dp : Nat → Nat} {N : Nat → Nat → Option Nat}
theorem it_sum {sh m y k B : Nat} (hy : y < m) (hk : (if sh = 0 then 8 else sh) ^ k ≤ B) : sumN (itV N sh m (dlt y) k) m ≤ B := by
  have h := mass_it (N := N) (sh := sh) (m := m) (dlt y) k
  rw [dlt_sum hy, Nat.mul_one] at h
  exact Nat.le_trans h hk
theorem pw8 {k : Nat} (h : k ≤ 15) : (if 0 = 0 then 8 else 0) ^ k ≤ 2 ^ 45 := by
  rw [if_pos rfl]
  exact Nat.le_trans (Nat.pow_le_pow_right (by decide) h) (by decide)
theorem p840 {k : Nat} (h : k ≤ 5) : 840 ^ k ≤ 2 ^ 49 := Nat.le_trans (Nat.pow_le_pow_right (by decide) h) (by decide)
theorem pw840 {k : Nat} (h : k ≤ 5) : (if 840 = 0 then 8 else 840) ^ k ≤ 2 ^ 49 := by
  rw [if_neg (by decide)]
  exact p840 h
theorem it_lt {sh m y k B c : Nat} (hy : y < m) (hk : (if sh = 0 then 8 else sh) ^ k ≤ B) (hc : c < m) : itV N sh m (dlt y) k c ≤ B := Nat.le_trans (sN_ge hc) (it_sum hy hk)
theorem it_P {P : Nat → Prop} (hB : BF N q pa la dp n n 0) (hq : ∀ i, i < n → q i < 1296) (hP : ∀ i, i < n → P (q i)) {sh k c : Nat} (hc : c < 1296) (h : itV N sh 1296 (dlt (q 0)) k c ≠ 0) : P c := by
  rw [it_up hB hq k c hc] at h
  unfold upV at h
  cases hp : pB q n c with
  | false =>
    rw [hp, if_neg (by decide)] at h
    exact absurd rfl h
  | true =>
    obtain ⟨t, t1, t2⟩ := pB_iff.mp hp
    exact t2 ▸ hP t t1
theorem it_fit (hB : BF N q pa la dp n n 0) (hq : ∀ i, i < n → q i < 1296) (F : Nat → Bool) {sh k : Nat} : sumN (fun c => if F c = true then itV N sh 1296 (dlt (q 0)) k c else 0) 1296 = sumN (fun i => if F (q i) = true then itV (nxI N q n) sh n (dlt 0) k i else 0) n := by
  rw [← fit_up hB hq F]
  exact sN_congr (fun c hc => by rw [it_up hB hq k c hc])
theorem noSo : ∀ k, k ≤ 6 → 2 + k ∉ So := fun k hk u => by
  simp [So] at u
  omega
theorem c_rw47 (hB : BF N q pa la dp n n 0) (hn : n ≤ 232) (hq : ∀ i, i < n → q i < 1296) {m : Nat} (hm : m ≤ 15) (one two : Int32) : ∀ fu k g, Sh g → GRw g 2 n q pa la dp → GNx N g 2 n q n 0 → OD g n (itV (nxI N q n) 0 n (dlt 0) k) → k ≤ m → m < fu + k → ∃ g', f_X11_rows_47 fu 0 one two (nI m) 2 (nI k) g = some (lN (sumN (fun i => if fitB (q i) one two = true then itV (nxI N q n) 0 n (dlt 0) m i else 0) n), g') ∧ Fi So g g' := by
  intro fu
  induction fu with
  | zero => intro k g _ _ _ _ _ h; omega
  | succ fu ih =>
    intro k g hs hG hN hO hk hf
    rw [f_X11_rows_47]
    rcases Nat.lt_or_ge k m with z | z
    · obtain ⟨g1, e1, e2, e3⟩ := c_goOn hB hn (sh := 0) (b := 0) (fun i hi => Nat.lt_of_le_of_lt (it_lt hB.1.1 (pw8 (k := k) (by omega)) hi) (by decide)) (Or.inl ⟨rfl, rfl⟩) hs hG hN hO
      have e1' : f_X6_goOn 35 2 (0 : Int32) g = some ((), g1) := e1
      rw [if_neg (nI_ge z (by omega)), md0_14 hs, gk35 hs, e1', bd_eq, lad1]
      obtain ⟨g2, d1, d2⟩ := ih (k + 1) g1 (Sh.fi e2 hs) (hG.fi e2 noSo) (hN.fi e2 noSo) e3 (by omega) (by omega)
      exact ⟨g2, d1, e2.tr d2⟩
    · have e : k = m := by omega
      subst e
      rw [if_pos (nI_le z (by omega)), md0_14 hs, gk35 hs, c_sumAt hs hG hn hq hO, bd_eq]
      exact ⟨g, rfl, Fi.rf⟩
theorem c_ch12 (hB : BF N q pa la dp n n 0) (hn : n ≤ 232) {m : Nat} (hm : m ≤ 5) : ∀ fu k g, Sh g → GRw g 2 n q pa la dp → GNx N g 2 n q n 0 → OD g n (itV (nxI N q n) 840 n (dlt 0) k) → k ≤ m → m < fu + k → ∃ g', f_X11_chances_12 fu 0 2 (nI m) (lN (840 ^ k)) (nI k) g = some (lN (840 ^ m), g') ∧ Fi So g g' ∧ OD g' n (itV (nxI N q n) 840 n (dlt 0) m) := by
  intro fu
  induction fu with
  | zero => intro k g _ _ _ _ _ h; omega
  | succ fu ih =>
    intro k g hs hG hN hO hk hf
    rw [f_X11_chances_12]
    rcases Nat.lt_or_ge k m with z | z
    · obtain ⟨g1, e1, e2, e3⟩ := c_goOn hB hn (sh := 840) (b := 1) (fun i hi => Nat.lt_of_le_of_lt (it_lt hB.1.1 (pw840 (k := k) (by omega)) hi) (by decide)) (Or.inr ⟨rfl, rfl⟩) hs hG hN hO
      have e1' : f_X6_goOn 35 2 (1 : Int32) g = some ((), g1) := e1
      rw [if_neg (nI_ge z (by omega)), md0_14 hs, gk35 hs, e1', bd_eq, lad1, show (840 : Int64) = lN 840 from rfl, lNm, ll, ← Nat.pow_succ]
      obtain ⟨g2, d1, d2, d3⟩ := ih (k + 1) g1 (Sh.fi e2 hs) (hG.fi e2 noSo) (hN.fi e2 noSo) e3 (by omega) (by omega)
      exact ⟨g2, d1, e2.tr d2, d3⟩
    · have e : k = m := by omega
      subst e
      rw [if_pos (nI_le z (by omega))]
      exact ⟨g, rfl, Fi.rf, hO⟩
theorem c_chances (hB : BF N q pa la dp n n 0) (hn : n ≤ 232) {m : Nat} (hm : m ≤ 5) (hs : Sh g) (hG : GRw g 2 n q pa la dp) (hN : GNx N g 2 n q n 0) : ∃ g', f_X11_chances 0 2 (nI m) g = some (lN (840 ^ m), g') ∧ Fi So g g' ∧ OD g' n (itV (nxI N q n) 840 n (dlt 0) m) := by
  obtain ⟨g1, e1, e2, e3⟩ := c_start (n := n) hs hn
  obtain ⟨g2, d1, d2, d3⟩ := c_ch12 hB hn hm FU 0 g1 (Sh.fi e2 hs) (hG.fi e2 noSo) (hN.fi e2 noSo) e3 (Nat.zero_le _) (by have := @FU_gt m (by omega); omega)
  have d1' : f_X11_chances_12 FU 0 2 (nI m) 1 0 g1 = some (lN (840 ^ m), g2) := d1
  rw [f_X11_chances, md0_14 hs, gk35 hs, e1, bd_eq, d1']
  exact ⟨g2, rfl, e2.tr d2, d3⟩
theorem c_rowsB (hB : BF N q pa la dp n n 0) (hn : n ≤ 232) (hq : ∀ i, i < n → q i < 1296) {m : Nat} (hm : m ≤ 15) (one two : Int32) (hs : Sh g) (hG : GRw g 2 n q pa la dp) (hN : GNx N g 2 n q n 0) : ∃ g', (dr (gR g 0 14) (fun b12 => gdK g b12 6 (bd (f_X6_start b12 g) (fun v15 g16 => gdK g16 2 4 (f_X11_rows_47 FU 0 one two (nI m) 2 (0 : Int32) g16))))) = some (lN (sumN (fun i => if fitB (q i) one two = true then itV (nxI N q n) 0 n (dlt 0) m i else 0) n), g') ∧ Fi So g g' := by
  obtain ⟨g1, e1, e2, e3⟩ := c_start (n := n) hs hn
  obtain ⟨g2, d1, d2⟩ := c_rw47 hB hn hq hm one two FU 0 g1 (Sh.fi e2 hs) (hG.fi e2 noSo) (hN.fi e2 noSo) e3 (Nat.zero_le _) (by have := @FU_gt m (by omega); omega)
  have d1' : f_X11_rows_47 FU 0 one two (nI m) 2 0 g1 = _ := d1
  rw [md0_14 hs, gk35 hs, e1, bd_eq, gk2 (Sh.fi e2 hs), d1']
  exact ⟨g2, rfl, e2.tr d2⟩
/-! the reference -/
theorem r_many (h : RS A g) (hp : p < nv A 3) : ∃ g' g'', f_X12_laysStands 136 (nI p) g = some ((), g') ∧ f_X12_beginsMany 136 (nI p) g' = some ((), g'') ∧ Fm [17, 18] [141, 142, 144, 145, 146, 149] g g'' ∧ TH A p 1296 g'' ∧ RV g'' 149 (dlt (36 * tw A (2 * p) + tw A (2 * p + 1))) := by
  obtain ⟨g1, e1, e2, e3⟩ := r_laysStands h hp
  obtain ⟨g2, d1, d2, d3, d4⟩ := r_bm2 hp FU 0 g1 (h.fm e2 (by decide)) (fun c hc => by omega) (by decide) (by have := @FU_gt 1296 (by decide); omega)
  have x2 : Fm [17, 18] [149] g1 g2 := Fm.of d2 (by decide)
  exact ⟨g1, g2, e1, d1, (e2.mono (by decide) (by decide)).tr (x2.mono (by decide) (by decide)), e3.fm x2 (by decide) (by decide) (by decide), d4⟩
theorem r_rowsB (h : RS A g) (hp : p < nv A 3) (hB : BF (nxS A (fre A p) p (md A p)) q pa la dp n n 0) (hq : ∀ i, i < n → stB A (fre A p) p (q i) = true) (h0 : q 0 = (36 * tw A (2 * p) + tw A (2 * p + 1))) {m : Nat} (hm : m ≤ 15) (one two : Int32) : ∃ g', bd (f_X12_laysStands 136 (nI p) g) (fun v13 g14 => bd (f_X12_beginsMany 136 (nI p) g14) (fun v17 g18 => f_X12_rows_49 FU 136 one two (nI m) (0 : Int32) g18)) = some (lN (sumN (fun i => if fitB (q i) one two = true then itV (nxI (nxS A (fre A p) p (md A p)) q n) 0 n (dlt 0) m i else 0) n), g') ∧ Fm [17, 18] [141, 142, 144, 145, 146, 149, 150] g g' := by
  have hA := h.2.2.1
  have q1 : ∀ i, i < n → q i < 1296 := fun i hi => stB_lt hA (hq i hi)
  obtain ⟨g1, g2, e1, e2, e3, e4, e5⟩ := r_many h hp
  rw [← h0] at e5
  obtain ⟨g3, d1, d2, d3⟩ := r_rw49 hA (p := p) (f0 := dlt (q 0)) hm (fun k hk c hc => Nat.lt_of_le_of_lt (it_lt (q1 0 hB.1.1) (pw8 (k := k) (by omega)) hc) (by decide)) (fun k hk c hc u => it_P (P := fun c => stB A (fre A p) p c = true) hB q1 hq hc u) one two FU 0 g2 (h.1.fm e3) e4 e5 (fun c hc => by omega) (by decide) (by have := @FU_gt 1296 (by decide); omega)
  have d1' : f_X12_rows_49 FU 136 one two (nI m) 0 g2 = _ := d1
  rw [e1, bd_eq, e2, bd_eq, d1', it_fit hB q1 (fun c => fitB c one two)]
  exact ⟨g3, rfl, (e3.mono (by decide) (by decide)).tr (Fm.of (d2.mono (by decide)) (by decide))⟩
theorem r_laysLikely (h : RS A g) (hp : p < nv A 3) (hB : BF (nxS A (fre A p) p (md A p)) q pa la dp n n 0) (hq : ∀ i, i < n → stB A (fre A p) p (q i) = true) (h0 : q 0 = (36 * tw A (2 * p) + tw A (2 * p + 1))) {m : Nat} (hm : m ≤ 5) : ∃ g', f_X12_laysLikely 136 (nI p) (nI m) g = some ((), g') ∧ Fm [17, 18] [141, 142, 144, 145, 146, 149, 150] g g' ∧ RV g' 149 (itV (nxS A (fre A p) p (md A p)) 840 1296 (dlt (q 0)) m) := by
  have hA := h.2.2.1
  have q1 : ∀ i, i < n → q i < 1296 := fun i hi => stB_lt hA (hq i hi)
  obtain ⟨g1, g2, e1, e2, e3, e4, e5⟩ := r_many h hp
  rw [← h0] at e5
  obtain ⟨g3, d1, d2, d3, d4⟩ := r_lk12 hA (p := p) (f0 := dlt (q 0)) hm (fun k hk c hc => Nat.lt_of_le_of_lt (it_lt (q1 0 hB.1.1) (pw840 (k := k) (by omega)) hc) (by decide)) (fun k hk c hc u => it_P (P := fun c => stB A (fre A p) p c = true) hB q1 hq hc u) FU 0 g2 (h.1.fm e3) e4 e5 (fun c hc => by omega) (by decide) (by have := @FU_gt 1296 (by decide); omega)
  have d1' : f_X12_laysLikely_12 FU 136 (nI m) 0 g2 = _ := d1
  rw [f_X12_laysLikely, e1, bd_eq, e2, bd_eq, d1']
  exact ⟨g3, rfl, (e3.mono (by decide) (by decide)).tr (Fm.of (d2.mono (by decide)) (by decide)), d4⟩
/-- how much of the whole is a twin in a cell -/
def lkI (N : Nat → Nat → Option Nat) (q : Nat → Nat) (n m t c : Nat) : Nat := sumN (fun i => if ceI q t i = c then itV (nxI N q n) 840 n (dlt 0) m i else 0) n
theorem lkI_lt (hB : BF N q pa la dp n n 0) {m t c : Nat} (hm : m ≤ 5) : lkI N q n m t c ≤ 2 ^ 49 := by
  refine Nat.le_trans (sN_mo (fun i _ => ?_)) (it_sum (N := (nxI N q n)) hB.1.1 (pw840 hm))
  split
  · exact Nat.le_refl _
  · exact Nat.zero_le _
theorem r_likelyIn (hs : Sh g) (hB : BF N q pa la dp n n 0) (hq : ∀ i, i < n → q i < 1296) {m t c : Nat} (hv : RV g 149 (itV N 840 1296 (dlt (q 0)) m)) (ht : t < 2) (hc : c < 36) : f_X12_likelyIn 136 (nI t) (nI c) g = some (lN (lkI N q n m t c), g) := by
  have h := r_li5 hs hv ht hc FU 0 (by decide) (by have := @FU_gt 1296 (by decide); omega)
  have h' : f_X12_likelyIn_5 FU 136 (nI t) (nI c) 0 0 g = _ := h
  rw [f_X12_likelyIn, h']
  have e := it_fit hB hq (fun s => decide (ow t (s / 36) (s % 36) = c)) (sh := 840) (k := m)
  simp only [decide_eq_true_eq] at e
  rw [e]
  rfl
/-- fits a cell for one twin -/
theorem fit_1 {s t c : Nat} (ht : t < 2) (hs : s < 1296) (hc : c < 36) : (fitB s (if t = 0 then nI c else -1) (if t = 1 then nI c else -1) = true) ↔ ow t (s / 36) (s % 36) = c := by
  have m1 : ∀ x, x < 36 → ¬ nI x = -1 := fun x hx => nI_ne1 (by omega)
  obtain rfl | rfl : t = 0 ∨ t = 1 := by omega
  · unfold fitB ow
    rw [if_pos rfl, if_neg (by decide), if_pos rfl]
    simp [nI_eq (show s / 36 < 2 ^ 31 by omega) (show c < 2 ^ 31 by omega), m1 c hc]
  · unfold fitB ow
    rw [if_neg (by decide), if_pos rfl, if_neg (by decide)]
    simp [nI_eq (show s % 36 < 2 ^ 31 by omega) (show c < 2 ^ 31 by omega), m1 c hc]
end ODQ
