/-! CHANCE and LIKELIEST. -/
section CHQ
variable {A : Nat → Int32} {g g' : G} {n p : Nat} {q pa la dp : Nat → Nat} {N : Nat → Nat → Option Nat}
theorem c_cdiv {a b : Nat} (ha : a ≤ 2 ^ 49) (hb : b ≤ 2 ^ 49) : f_X11_commonDivisor (lN a) (lN b) g = some (lN (Nat.gcd a b), g) := c_gcd 50 FU 0 a b (by omega) (by omega) (by omega) (by decide) (by have := @FU_gt 100 (by decide); omega)
theorem r_cdiv {a b : Nat} (ha : a ≤ 2 ^ 49) (hb : b < 2 ^ 49) : f_X12_common_T (lN a) (lN b) g = some (lN (Nat.gcd a b), g) := r_gcd 49 100 a b hb (by omega) (by omega) (by decide)
theorem p840' {k : Nat} (h : k ≤ 5) : 840 ^ k < 2 ^ 49 := Nat.lt_of_le_of_lt (Nat.pow_le_pow_right (by decide) h) (by decide)
def chV (w T s : Nat) : Nat := (if w = 0 then s else T) / Nat.gcd T s
theorem c_ch116 (hs : Sh g) (hG : GRw g 2 n q pa la dp) (hB : BF N q pa la dp n n 0) (hn : n ≤ 232) (hq : ∀ i, i < n → q i < 1296) {m t c w : Nat} (hm : m ≤ 5) (ht : t < 2) (hc : c < 36) (hw : w < 2) (hO : OD g n (itV (nxI N q n) 840 n (dlt 0) m)) : f_X11_chance_116 (nI w) (lN (840 ^ m)) (if t = 1 then nI c else -1) (if t = 0 then nI c else -1) 2 35 g = some (lN (chV w (840 ^ m) (lkI N q n m t c)), g) := by
  have e : sumN (fun i => if fitB (q i) (if t = 0 then nI c else -1) (if t = 1 then nI c else -1) = true then itV (nxI N q n) 840 n (dlt 0) m i else 0) n = lkI N q n m t c := sN_congr (fun i hi => by
    by_cases u : ceI q t i = c
    · rw [if_pos u, if_pos ((fit_1 ht (hq i hi) hc).mpr u)]
    · rw [if_neg u, if_neg (fun v => u ((fit_1 ht (hq i hi) hc).mp v))])
  have b1 := lkI_lt hB (t := t) (c := c) hm
  have b2 := p840' hm
  have b3 : 0 < 840 ^ m := Nat.pow_pos (by decide)
  have b4 : 0 < Nat.gcd (840 ^ m) (lkI N q n m t c) := Nat.gcd_pos_of_pos_left _ b3
  have b5 : Nat.gcd (840 ^ m) (lkI N q n m t c) ≤ 840 ^ m := Nat.gcd_le_left _ b3
  have b6 : ¬ lN (Nat.gcd (840 ^ m) (lkI N q n m t c)) = 0 := fun u => by
    have := (lN_z (by omega)).mp u
    omega
  rw [f_X11_chance_116, c_sumAt hs hG hn hq hO, bd_eq, e, c_cdiv (by omega) b1, bd_eq, if_pos (by
    rw [lg_cmp_ge, show (1 : Int64) = lN 1 from rfl, ← Int64.not_lt, pk_lLT (by omega) (by decide)]
    omega)]
  unfold chV
  obtain rfl | rfl : w = 0 ∨ w = 1 := by omega
  · rw [if_pos (show nI 0 = 0 from rfl), if_pos rfl, f_X11_chance_151, gdZl_pos b6, pk_lDiv (by omega) b4 (by omega)]
  · rw [if_neg (by decide), if_neg (by decide), f_X11_chance_151, gdZl_pos b6, pk_lDiv (by omega) b4 (by omega)]
theorem r_ch75 (hs : Sh g) (hB : BF N q pa la dp n n 0) (hq : ∀ i, i < n → q i < 1296) {m t c w : Nat} (hm : m ≤ 5) (ht : t < 2) (hc : c < 36) (hw : w < 2) (hv : RV g 149 (itV N 840 1296 (dlt (q 0)) m)) : ∀ fu k, k ≤ m → m < fu + k → f_X12_chance_75 fu 136 (nI t) (nI c) (nI m) (nI w) (lN (840 ^ k)) (nI k) g = some (lN (chV w (840 ^ m) (lkI N q n m t c)), g) := by
  intro fu
  induction fu with
  | zero => intro k _ h; omega
  | succ fu ih =>
    intro k hk hf
    rw [f_X12_chance_75]
    rcases Nat.lt_or_ge k m with z | z
    · rw [if_neg (nI_ge z (by omega)), show (840 : Int64) = lN 840 from rfl, lNm, ll, ← Nat.pow_succ, lad1]
      exact ih (k + 1) (by omega) (by omega)
    · have e : k = m := by omega
      subst e
      have b1 := lkI_lt hB (t := t) (c := c) hm
      have b2 := p840' hm
      have b3 : 0 < 840 ^ k := Nat.pow_pos (by decide)
      have b4 : 0 < Nat.gcd (840 ^ k) (lkI N q n k t c) := Nat.gcd_pos_of_pos_left _ b3
      have b5 : Nat.gcd (840 ^ k) (lkI N q n k t c) ≤ 840 ^ k := Nat.gcd_le_left _ b3
      have b6 : ¬ lN (Nat.gcd (840 ^ k) (lkI N q n k t c)) = 0 := fun u => by
        have := (lN_z (by omega)).mp u
        omega
      rw [if_pos (nI_le z (by omega)), r_likelyIn hs hB hq hv ht hc, bd_eq, f_X12_chance_116, f_X12_chance_116, r_cdiv b1 b2, bd_eq, bd_eq, Nat.gcd_comm, gdZl_pos b6, gdZl_pos b6]
      unfold chV
      obtain rfl | rfl : w = 0 ∨ w = 1 := by omega
      · rw [if_pos (show nI 0 = 0 from rfl), if_pos rfl, pk_lDiv (by omega) b4 (by omega)]
      · rw [if_neg (by decide), if_neg (by decide), pk_lDiv (by omega) b4 (by omega)]
theorem gtW_ext {F : Nat → Nat} {a : Nat} : ∀ b, a ≤ b → (∀ c, a < c → c ≤ b → F c = 0) → gtW F b = gtW F a
  | 0, h, _ => by rw [show a = 0 by omega]
  | b + 1, h, h0 => by
    rcases Nat.lt_or_ge b a with z | z
    · rw [show a = b + 1 by omega]
    · rw [← gtW_ext b z (fun c h1 h2 => h0 c h1 (by omega))]
      show (if F (gtW F b) < F (b + 1) then b + 1 else gtW F b) = _
      rw [h0 (b + 1) (by omega) (Nat.le_refl _), if_neg (by omega)]
theorem r_lk51 (h : RS A g) (hB : BF N q pa la dp n n 0) (hq : ∀ i, i < n → q i < 1296) {m t : Nat} (hm : m ≤ 5) (ht : t < 2) (hv : RV g 149 (itV N 840 1296 (dlt (q 0)) m)) : ∀ fu k, k < cS A → cS A ≤ fu + k → f_X12_likeliest_51 fu 136 (nI t) (nI (gtW (lkI N q n m t) k)) (nI (k + 1)) g = some (nI (gtW (lkI N q n m t) (cS A - 1)), g) := by
  have rc : f_X12_cells 136 g = some (nI (cS A), g) := by
    have := r_cells h.1 (by rw [h.2.1]; exact h.2.2.1)
    rw [h.2.1] at this
    exact this
  have c36 := h.cl
  intro fu
  induction fu with
  | zero => intro k _ h; omega
  | succ fu ih =>
    intro k hk hf
    rw [f_X12_likeliest_51, rc, bd_eq]
    rcases Nat.lt_or_ge (k + 1) (cS A) with z | z
    · have gl := gtW_le (lkI N q n m t) k
      have i := ih (k + 1) z (by omega)
      have gs : gtW (lkI N q n m t) (k + 1) = if lkI N q n m t (gtW (lkI N q n m t) k) < lkI N q n m t (k + 1) then k + 1 else gtW (lkI N q n m t) k := rfl
      rw [gs] at i
      have a1 := lkI_lt hB (t := t) (c := k + 1) hm
      have a2 := lkI_lt hB (t := t) (c := gtW (lkI N q n m t) k) hm
      rw [if_neg (nI_ge z (by omega)), r_likelyIn h.1 hB hq hv ht (by omega), bd_eq, r_likelyIn h.1 hB hq hv ht (by omega), bd_eq, f_X12_likeliest_82, f_X12_likeliest_82, lad1]
      by_cases w : lkI N q n m t (gtW (lkI N q n m t) k) < lkI N q n m t (k + 1)
      · rw [if_pos w] at i
        rw [if_neg (fun u => by
          rw [← Int32.not_lt, lg_cmp_gt, pk_lLT (by omega) (by omega)] at u
          exact u w)]
        exact i
      · rw [if_neg w] at i
        rw [if_pos (by
          rw [← Int32.not_lt, lg_cmp_gt, pk_lLT (by omega) (by omega)]
          exact w)]
        exact i
    · have e : k = cS A - 1 := by omega
      rw [if_pos (nI_le z (by omega)), ← e]
theorem lk_none {m t c : Nat} (h : ∀ i, i < n → ceI q t i < cS A) (hc : cS A ≤ c) : lkI N q n m t c = 0 := sN_0 (fun i hi => if_neg (by
  have := h i hi
  omega))
theorem r_likeliest (h : RS A g) (hB : BF N q pa la dp n n 0) (hq : ∀ i, i < n → q i < 1296) {m t : Nat} (hm : m ≤ 5) (ht : t < 2) (hce : ∀ i, i < n → ceI q t i < cS A) (hv : RV g 149 (itV N 840 1296 (dlt (q 0)) m)) : f_X12_likeliest_51 FU 136 (nI t) 0 1 g = some (nI (gtW (lkI N q n m t) 35), g) := by
  have c36 := h.cl
  have e := r_lk51 h hB hq hm ht hv FU 0 (by omega) (by have := @FU_gt (cS A) (by omega); omega)
  rw [gtW_ext (a := cS A - 1) 35 (by omega) (fun c h1 h2 => lk_none hce (by omega))]
  exact e
theorem c_likeliest (hs : Sh g) (hG : GRw g 2 n q pa la dp) (hB : BF N q pa la dp n n 0) (hn : n ≤ 232) (hq : ∀ i, i < n → q i < 1296) {m t : Nat} (hm : m ≤ 5) (ht : t < 2) (hO : OD g n (itV (nxI N q n) 840 n (dlt 0) m)) : ∃ g', f_X6_greatestOf 35 2 (nI t) g = some (nI (gtW (lkI N q n m t) 35), g') ∧ Fi [39] g g' := c_greatestOf hs hG hn hq ht (Nat.lt_of_le_of_lt (it_sum (N := (nxI N q n)) hB.1.1 (pw840 hm)) (by decide)) hO
end CHQ
