/-! TRAYS; who may be tried. -/
section TRY1
variable {X : Nat → Prop} {A : Nat → Int32} {g g' : G} {t : Nat}
/-- the trays are the reference's rows -/
def TR (g : G) : Prop := ∀ t, t < 4 → ∃ (so : Int32) (m : Nat), (so = -1 ∨ ∃ s, s ≤ 3 ∧ so = nI s) ∧ m ≤ 40 ∧ gI g (128 + 2 * t) 1 = so ∧ gI g 152 t = so ∧ gI g (128 + 2 * t) 0 = nI m ∧ gI g 153 t = nI m ∧ ∀ k, k < m → gL g (129 + 2 * t) k = gL g 154 (40 * t + k)
theorem tr_dr {α : Type} (hs : Sh g) (ht : t < 4) (f : Nat → Option α) : dr (gR g 40 t) f = f (128 + 2 * t) := by
  obtain rfl | rfl | rfl | rfl : t = 0 ∨ t = 1 ∨ t = 2 ∨ t = 3 := by omega
  · exact md40_0 hs f
  · exact md40_1 hs f
  · exact md40_2 hs f
  · exact md40_3 hs f
theorem tr_gk {α : Type} (hs : Sh g) (ht : t < 4) {x : Option α} : gdK g (128 + 2 * t) 10 x = x := by
  obtain rfl | rfl | rfl | rfl : t = 0 ∨ t = 1 ∨ t = 2 ∨ t = 3 := by omega
  · exact gk128 hs
  · exact gk130 hs
  · exact gk132 hs
  · exact gk134 hs
theorem tr_d2 {α : Type} (hs : Sh g) (ht : t < 4) (f : Nat → Option α) : dr (gR g (128 + 2 * t) 2) f = f (129 + 2 * t) := by
  obtain rfl | rfl | rfl | rfl : t = 0 ∨ t = 1 ∨ t = 2 ∨ t = 3 := by omega
  · exact md128_2 hs f
  · exact md130_2 hs f
  · exact md132_2 hs f
  · exact md134_2 hs f
theorem tr_g2 {α : Type} (hs : Sh g) (ht : t < 4) {x : Option α} : gdK g (129 + 2 * t) 15 x = x := by
  obtain rfl | rfl | rfl | rfl : t = 0 ∨ t = 1 ∨ t = 2 ∨ t = 3 := by omega
  · exact gk129 hs
  · exact gk131 hs
  · exact gk133 hs
  · exact gk135 hs
theorem tr_n2 (hs : Sh g) (ht : t < 4) : gN g (129 + 2 * t) = 40 := by
  obtain rfl | rfl | rfl | rfl : t = 0 ∨ t = 1 ∨ t = 2 ∨ t = 3 := by omega
  · exact sn129 hs
  · exact sn131 hs
  · exact sn133 hs
  · exact sn135 hs
theorem c_at (hs : Sh g) (ht : t < 4) {k : Nat} (hk : k < 40) : f_X10_at (128 + 2 * t) (nI k) g = some (gL g (129 + 2 * t) k, g) := by
  rw [f_X10_at, if_neg (nI_pos (by omega)), if_neg (lnge40 hk), tr_d2 hs ht, tr_g2 hs ht, tr_n2 hs ht, gdI_nI hk (by decide), nI_clamp (by omega)]
theorem c_isTray (v : Int32) : f_X11_isTray v g = some (inR v 4, g) := by
  rw [f_X11_isTray]
  rcases inR_c v 4 with ⟨j, h1, h2, rfl, h4⟩ | ⟨h1, h2⟩ | ⟨j, h1, h2, rfl, h4⟩
  · rw [h4, if_neg (nI_pos h2), if_neg (lnge4 h1)]
  · rw [h2, if_pos h1]
  · rw [h4, if_neg (nI_pos h2), if_pos (lle4 h1 h2)]
theorem in4 (v : Int32) : decide (0 ≤ v.toInt ∧ v.toInt ≤ 3) = inR v 4 := by
  unfold inR
  rw [decide_eq_decide]
  omega
theorem r_wi3 (v : Int32) : f_X12_within v.toInt64 0 3 g = some (inR v 4, g) := by
  have h : f_X12_within v.toInt64 0 3 g = some (decide (0 ≤ v.toInt ∧ v.toInt ≤ 3), g) := r_wib v 3 (by decide)
  rw [h, in4]
theorem l_nn {v : Int64} (h : ¬ v < 0) : ∃ n, n < 2 ^ 63 ∧ v = lN n := by
  have z : (0 : Int64).toInt = 0 := rfl
  rw [Int64.lt_iff_toInt_lt, z] at h
  have u := Int64.toInt_lt v
  refine ⟨v.toInt.toNat, by omega, Int64.toInt_inj.mp ?_⟩
  have e : (lN v.toInt.toNat).toInt = (v.toInt.toNat : Int) := lg_ofNat_toInt (by omega)
  rw [e]
  omega
/-- a number that can be tried -/
def okN (v : Int64) : Bool := decide (∃ n, n < 2 ^ 63 ∧ v = lN n ∧ n / 10 ≤ 3 ∧ n % 10 ≤ 1)
def okR (f : Nat → Int64) (m : Nat) : Int32 := if ∀ k, k < m → okN (f k) = true then 0 else -3
theorem okR_stop {f : Nat → Int64} {m k : Nat} (hk : k < m) (h : okN (f k) = false) : okR f m = -3 := by
  unfold okR
  rw [if_neg (fun u => by
    rw [u k hk] at h
    cases h)]
theorem lN_inj {a b : Nat} (ha : a < 2 ^ 63) (hb : b < 2 ^ 63) (h : lN a = lN b) : a = b := (pk_lEQ ha hb).mp h
theorem okN_neg {v : Int64} (h : v < 0) : okN v = false := decide_eq_false (fun ⟨n, n1, n2, _⟩ => by
  rw [n2, Int64.lt_iff_toInt_lt] at h
  have e : (lN n).toInt = (n : Int) := lg_ofNat_toInt n1
  have z : (0 : Int64).toInt = 0 := rfl
  rw [e, z] at h
  omega)
theorem okN_nn {n : Nat} (hn : n < 2 ^ 63) : okN (lN n) = decide (n / 10 ≤ 3 ∧ n % 10 ≤ 1) := by
  unfold okN
  rw [decide_eq_decide]
  exact ⟨fun ⟨m, m1, m2, m3⟩ => by rw [lN_inj hn m1 m2]; exact m3, fun h => ⟨n, hn, rfl, h⟩⟩
theorem c_tr61 (hs : Sh g) (ht : t < 4) {m : Nat} (hm : m ≤ 12) (h0 : gI g (128 + 2 * t) 0 = nI m) : ∀ fu k, k ≤ m → m < fu + k → (∀ j, j < k → okN (gL g (129 + 2 * t) j) = true) → f_X11_triesRefused_61 fu (128 + 2 * t) (nI k) g = some (okR (gL g (129 + 2 * t)) m, g) := by
  intro fu
  induction fu with
  | zero => intro k _ h; omega
  | succ fu ih =>
    intro k hk hf hok
    rw [f_X11_triesRefused_61, h0]
    rcases Nat.lt_or_ge k m with z | z
    · rw [if_neg (nI_ge z (by omega)), c_at hs ht (by omega), bd_eq]
      by_cases ng : gL g (129 + 2 * t) k < 0
      · rw [if_pos ((lg_cmp_lt _ _).mpr ng), okR_stop z (okN_neg ng)]
      · rw [if_neg (fun u => ng ((lg_cmp_lt _ _).mp u))]
        obtain ⟨n, n1, n2⟩ := l_nn ng
        have ok := okN_nn n1
        rw [← n2] at ok
        rw [n2, show (10 : Int64) = lN 10 from rfl, pk_lRem n1 (by decide) (by decide), pk_lDiv n1 (by decide) (by decide), show (4 : Int64) = lN 4 from rfl, show (1 : Int64) = lN 1 from rfl]
        by_cases a : n / 10 ≤ 3
        · rw [if_neg (fun u => by
            rw [lg_cmp_ge, ← Int64.not_lt, pk_lLT (by omega) (by decide)] at u
            omega)]
          by_cases b : n % 10 ≤ 1
          · rw [decide_eq_true ⟨a, b⟩] at ok
            rw [if_pos (by
              rw [lg_cmp_le, ← Int64.not_lt, pk_lLT (by decide) (by omega)]
              omega), lad1]
            refine ih (k + 1) z (by omega) (fun j hj => ?_)
            by_cases e : j = k
            · rw [e]
              exact ok
            · exact hok j (by omega)
          · rw [decide_eq_false (fun u => b u.2)] at ok
            rw [if_neg (fun u => by
              rw [lg_cmp_le, ← Int64.not_lt, pk_lLT (by decide) (by omega)] at u
              omega), okR_stop z ok]
        · rw [decide_eq_false (fun u => a u.1)] at ok
          rw [if_pos (by
            rw [lg_cmp_ge, ← Int64.not_lt, pk_lLT (by omega) (by decide)]
            omega), okR_stop z ok]
    · rw [if_pos (nI_le z (by omega))]
      unfold okR
      rw [if_pos (fun j hj => hok j (by omega))]
end TRY1
