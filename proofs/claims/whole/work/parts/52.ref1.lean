/-! THE REFERENCE'S small functions. A: its row 'all'. -/
def nv (A : Nat → Int32) (k : Nat) : Nat := (A k).toNatClampNeg
def dif (a b : Nat) : Nat := (a - b) + (b - a)
def apS (W a b : Nat) : Nat := dif (a / W) (b / W) + dif (a % W) (b % W)
def oI (o : Option Nat) : Int32 := match o with
  | some x => nI x
  | none => -1
def besS (R W c w : Nat) : Option Nat := if w = 0 then (if c / W = 0 then none else some (c - W)) else if w = 1 then (if c % W + 1 < W then some (c + 1) else none) else if w = 2 then (if c / W + 1 < R then some (c + W) else none) else (if c % W = 0 then none else some (c - 1))
def inR (x : Int32) (n : Nat) : Bool := decide (0 ≤ x.toInt ∧ x.toInt < n)
def inL (x : Int64) (n : Nat) : Bool := decide (0 ≤ x.toInt ∧ x.toInt < n)
theorem inR_true {x : Int32} {n : Nat} (h : inR x n = true) (hn : n < 2 ^ 31) : ∃ j, j < n ∧ x = nI j := by
  have h1 := of_decide_eq_true h
  exact vp_in_of (vp_in_iff.mpr h1) hn
theorem inR_nI {j n : Nat} (hj : j < 2 ^ 31) : inR (nI j) n = decide (j < n) := by
  unfold inR
  rw [nI_toInt hj]
  simp
theorem inL_I (x : Int32) (n : Nat) : inL x.toInt64 n = inR x n := by
  unfold inL inR
  rw [Int32.toInt_toInt64]
theorem inL_lN {j n : Nat} (hj : j < 2 ^ 63) : inL (lN j) n = decide (j < n) := by
  unfold inL
  rw [pk_lT hj]
  simp
/-- the field's measures -/
def Dm (A : Nat → Int32) : Prop := A 1 = nI (nv A 1) ∧ 1 ≤ nv A 1 ∧ nv A 1 ≤ 6 ∧ A 2 = nI (nv A 2) ∧ 1 ≤ nv A 2 ∧ nv A 2 ≤ 6 ∧ A 3 = nI (nv A 3) ∧ nv A 3 ≤ 3
def cS (A : Nat → Int32) : Nat := nv A 1 * nv A 2
theorem cS_le {A : Nat → Int32} (h : Dm A) : 1 ≤ cS A ∧ cS A ≤ 36 := by
  obtain ⟨-, a1, a2, -, b1, b2, -⟩ := h
  unfold cS
  exact ⟨Nat.mul_le_mul a1 b1, Nat.mul_le_mul a2 b2⟩
/-- what a board is: walls 0.., twins 36.., spans 42.., moods 45.., done 48.. -/
def VB (A b : Nat → Int32) : Prop := (∀ c, c < 36 → b c = nI (nv b c) ∧ nv b c ≤ 1 ∧ (cS A ≤ c → nv b c = 0)) ∧ (∀ i, i < 2 * nv A 3 → b (36 + i) = nI (nv b (36 + i)) ∧ nv b (36 + i) < cS A ∧ nv b (nv b (36 + i)) = 0) ∧ (∀ i j, i < 2 * nv A 3 → j < 2 * nv A 3 → i / 2 ≠ j / 2 → nv b (36 + i) ≠ nv b (36 + j)) ∧ (∀ p, p < nv A 3 → b (42 + p) = nI (apS (nv A 2) (nv b (36 + 2 * p)) (nv b (36 + (2 * p + 1))))) ∧ (∀ p, p < nv A 3 → b (45 + p) = nI (nv b (45 + p)) ∧ nv b (45 + p) ≤ 9) ∧ (∀ p, p < nv A 3 → b (48 + p) = nI (nv b (48 + p)) ∧ nv b (48 + p) ≤ 3)
def bo (A : Nat → Int32) : Nat → Int32 := fun k => A (52 + k)
def wl (A : Nat → Int32) (c : Nat) : Nat := nv A (52 + c)
def tw (A : Nat → Int32) (i : Nat) : Nat := nv A (88 + i)
def sp (A : Nat → Int32) (p : Nat) : Nat := apS (nv A 2) (tw A (2 * p)) (tw A (2 * p + 1))
def md (A : Nat → Int32) (p : Nat) : Nat := nv A (97 + p)
def dn (A : Nat → Int32) (p : Nat) : Nat := nv A (100 + p)
def ht (A : Nat → Int32) (c : Nat) : Nat := nv A (10 + c)
/-- heights are told -/
def Hs (A : Nat → Int32) : Prop := ∀ c, c < 36 → A (10 + c) = nI (ht A c) ∧ ht A c ≤ 9
theorem nv_bo (A : Nat → Int32) (k : Nat) : nv (bo A) k = nv A (52 + k) := rfl
section VBX
variable {A : Nat → Int32}
theorem VB.w (h : VB A (bo A)) {c : Nat} (hc : c < 36) : A (52 + c) = nI (wl A c) ∧ wl A c ≤ 1 ∧ (cS A ≤ c → wl A c = 0) := h.1 c hc
theorem VB.t (h : VB A (bo A)) {i : Nat} (hi : i < 2 * nv A 3) : A (88 + i) = nI (tw A i) ∧ tw A i < cS A ∧ wl A (tw A i) = 0 := by
  have := h.2.1 i hi
  simp only [nv_bo, bo, ← Nat.add_assoc, Nat.reduceAdd] at this
  exact this
theorem VB.d (h : VB A (bo A)) {i j : Nat} (hi : i < 2 * nv A 3) (hj : j < 2 * nv A 3) (hn : i / 2 ≠ j / 2) : tw A i ≠ tw A j := by
  have := h.2.2.1 i j hi hj hn
  simp only [nv_bo, bo, ← Nat.add_assoc, Nat.reduceAdd] at this
  exact this
theorem VB.s (h : VB A (bo A)) {p : Nat} (hp : p < nv A 3) : A (94 + p) = nI (sp A p) := by
  have := h.2.2.2.1 p hp
  simp only [nv_bo, bo, ← Nat.add_assoc, Nat.reduceAdd] at this
  exact this
theorem VB.m (h : VB A (bo A)) {p : Nat} (hp : p < nv A 3) : A (97 + p) = nI (md A p) ∧ md A p ≤ 9 := by
  have := h.2.2.2.2.1 p hp
  simp only [nv_bo, bo, ← Nat.add_assoc, Nat.reduceAdd] at this
  exact this
theorem VB.o (h : VB A (bo A)) {p : Nat} (hp : p < nv A 3) : A (100 + p) = nI (dn A p) ∧ dn A p ≤ 3 := by
  have := h.2.2.2.2.2 p hp
  simp only [nv_bo, bo, ← Nat.add_assoc, Nat.reduceAdd] at this
  exact this
end VBX
theorem apS_le {W a b : Nat} (h0 : 0 < W) (h6 : W ≤ 6) (ha : a < 36) (hb : b < 36) : apS W a b ≤ 80 := by
  have d1 : a / W ≤ a := Nat.div_le_self _ _
  have d2 : b / W ≤ b := Nat.div_le_self _ _
  have d3 : a % W ≤ a := Nat.mod_le _ _
  have d4 : b % W ≤ b := Nat.mod_le _ _
  have d5 := Nat.mod_lt a h0
  have d6 := Nat.mod_lt b h0
  unfold apS dif
  generalize a / W = x1 at *
  generalize b / W = x2 at *
  generalize a % W = x3 at *
  generalize b % W = x4 at *
  omega
/-- how many twins are in a cell, of those that q lets count -/
def cT (A : Nat → Int32) (c : Nat) (q : Nat → Bool) : Nat → Nat
  | 0 => 0
  | n + 1 => cT A c q n + (if q n = true ∧ tw A n = c then 1 else 0)
theorem cT_le (A : Nat → Int32) (c : Nat) (q : Nat → Bool) : ∀ n, cT A c q n ≤ n
  | 0 => Nat.le_refl _
  | n + 1 => by
    have := cT_le A c q n
    unfold cT
    split <;> omega
theorem cT_z (A : Nat → Int32) (c : Nat) (q : Nat → Bool) : ∀ n, cT A c q n = 0 ↔ ∀ i, i < n → q i = true → tw A i ≠ c
  | 0 => ⟨fun _ i hi => by omega, fun _ => rfl⟩
  | n + 1 => by
    have ih := cT_z A c q n
    unfold cT
    constructor
    · intro h i hi hq he
      split at h
      · omega
      · next hx =>
        rcases Nat.lt_or_ge i n with h1 | h1
        · exact ih.mp (by omega) i h1 hq he
        · have : i = n := by omega
          subst this
          exact hx ⟨hq, he⟩
    · intro h
      rw [if_neg (fun hx => h n (Nat.lt_succ_self _) hx.1 hx.2), ih.mpr (fun i hi => h i (by omega))]
/-- a cell is free for a pair -/
def fre (A : Nat → Int32) (p c : Nat) : Bool := decide (wl A c = 0 ∧ ∀ i, i < 2 * nv A 3 → i / 2 ≠ p → tw A i ≠ c)
section RF1
variable {g : G}
theorem r_within (v lo hi : Int64) : f_X12_within v lo hi g = some (decide (lo.toInt ≤ v.toInt ∧ v.toInt ≤ hi.toInt), g) := by
  unfold f_X12_within
  simp only [lg_cmp_lt, lg_cmp_gt, Int64.lt_iff_toInt_lt]
  split
  · rw [decide_eq_false (by omega)]
  · split
    · rw [decide_eq_false (by omega)]
    · rw [decide_eq_true (by omega)]
theorem r_in (v : Int64) {n : Nat} {m : Int32} (hm : m.toInt = (n : Int) - 1) : f_X12_within v 0 m.toInt64 g = some (inL v n, g) := by
  rw [r_within, Int32.toInt_toInt64, hm]
  unfold inL
  congr 2
  rw [decide_eq_decide]
  have : (0 : Int64).toInt = 0 := rfl
  omega
theorem r_in' (v : Int64) {n : Nat} {m : Int64} (hm : m.toInt = (n : Int) - 1) : f_X12_within v 0 m g = some (inL v n, g) := by
  rw [r_within, hm]
  unfold inL
  congr 2
  rw [decide_eq_decide]
  have : (0 : Int64).toInt = 0 := rfl
  omega
theorem r_wi {a b : Nat} (ha : a < 2 ^ 31) (hb : b < 2 ^ 31) : f_X12_within (nI a).toInt64 0 (nI b).toInt64 g = some (decide (a ≤ b), g) := by
  rw [r_in _ (n := b + 1) (by rw [nI_toInt hb]; omega), inL_I, inR_nI ha]
  congr 2
  rw [decide_eq_decide]
  omega
theorem r_wm {b : Nat} (hb : b < 2 ^ 31) : f_X12_within (nI 0 + -nI 1).toInt64 0 (nI b).toInt64 g = some (false, g) := by
  rw [r_in _ (n := b + 1) (by rw [nI_toInt hb]; omega), inL_I]
  rfl
theorem r_less {a b : Nat} (ha : a < 2 ^ 31) (hb : b < 2 ^ 31) : f_X12_less (nI a) (nI b) g = some (nI (dif a b), g) := by
  unfold f_X12_less dif
  simp only [nI_leI hb ha]
  split
  · rw [pk_sub (by omega), show b - a = 0 by omega, Nat.add_zero]
  · rw [pk_sub (by omega), show a - b = 0 by omega, Nat.zero_add]
theorem nI_m1_toInt {n : Nat} (h : n < 2 ^ 30) : (nI n - nI 1).toInt = (n : Int) - 1 := pk_sub_toInt h (by decide)
theorem r_apart (h : Sh g) (hA : Dm (gI g 137)) {a b : Nat} (ha : a < 100) (hb : b < 100) : f_X12_apart 136 (nI a) (nI b) g = some (nI (apS (nv (gI g 137) 2) a b), g) := by
  obtain ⟨-, -, -, hW, h0, h6, -⟩ := hA
  have d1 : a / nv (gI g 137) 2 ≤ a := Nat.div_le_self _ _
  have d2 : b / nv (gI g 137) 2 ≤ b := Nat.div_le_self _ _
  have d3 : a % nv (gI g 137) 2 ≤ a := Nat.mod_le _ _
  have d4 : b % nv (gI g 137) 2 ≤ b := Nat.mod_le _ _
  simp only [f_X12_apart, ↓gk136 h, ↓gk137 h, sn137 h, ↓gk138 h, sn138 h, ↓gk139 h, sn139 h, ↓gk140 h, sn140 h, ↓gk141 h, sn141 h, ↓gk142 h, sn142 h, ↓gk143 h, sn143 h, ↓gk144 h, sn144 h, ↓gk145 h, sn145 h, ↓gk146 h, sn146 h, ↓gk147 h, sn147 h, ↓gk148 h, sn148 h, ↓gk149 h, sn149 h, ↓gk150 h, sn150 h, ↓gk151 h, sn151 h, ↓gk152 h, sn152 h, ↓gk153 h, sn153 h, ↓gk154 h, sn154 h, ↓md136_1 h, ↓md136_2 h, ↓md136_3 h, ↓md136_4 h, ↓md136_15 h, ↓md136_16 h, ↓md136_19 h, ↓md136_23 h, ↓md136_24 h, ↓md136_25 h, ↓md136_26 h, ↓md136_27 h, ↓md136_28 h, ↓md136_29 h, ↓md136_30 h, ↓md136_33 h, ↓md136_34 h, ↓md136_35 h, ↓dr_sI, ↓dr_sL, ↓gdK_sI, ↓gdK_sL, gR_sI, gN_sI, gn_sI, gL_sI, gI_sIs, gI_sIn, gR_sL, gN_sL, gn_sL, gI_sL, gL_sLs, gL_sLn, ↓dr_eq, bd_eq, ↓lg, ↓li, ↓ll, ↓ln, lI, nI_clamp, gdI_nI, Nat.reducePow, Nat.reduceLT, Nat.reduceLeDiff, Nat.reduceEqDiff, reduceIte, if_true, if_false, hW]
  simp (disch := first | assumption | ((fail_if_success show Sh _); omega)) only [lI, nI_add, pk_mul, pk_sub, nI_sub0, nI_mod, pk_div, nI_clamp, nI_eq, nI_leI, nI_ltI, gdI_nI, gdZ_nI, b2i_z, decide_eq_false_iff_not, Bool.not_eq_false, decide_eq_true_eq, ifLt, ifNlt, ifLe, ifNle, ifEq, ifNe, ifnLe, ifnNle, nIm1, m1nI, nI_z, z_nI, Nat.reduceLT, Nat.reduceLeDiff, Nat.reduceEqDiff, Nat.reduceAdd, Nat.reduceMul, Nat.reduceSub, Nat.reduceDiv, Nat.reduceMod, if_true, if_false, reduceIte, r_less, bd_eq, ↓gk136 h, ↓gk137 h, sn137 h, ↓gk138 h, sn138 h, ↓gk139 h, sn139 h, ↓gk140 h, sn140 h, ↓gk141 h, sn141 h, ↓gk142 h, sn142 h, ↓gk143 h, sn143 h, ↓gk144 h, sn144 h, ↓gk145 h, sn145 h, ↓gk146 h, sn146 h, ↓gk147 h, sn147 h, ↓gk148 h, sn148 h, ↓gk149 h, sn149 h, ↓gk150 h, sn150 h, ↓gk151 h, sn151 h, ↓gk152 h, sn152 h, ↓gk153 h, sn153 h, ↓gk154 h, sn154 h, ↓md136_1 h, ↓md136_2 h, ↓md136_3 h, ↓md136_4 h, ↓md136_15 h, ↓md136_16 h, ↓md136_19 h, ↓md136_23 h, ↓md136_24 h, ↓md136_25 h, ↓md136_26 h, ↓md136_27 h, ↓md136_28 h, ↓md136_29 h, ↓md136_30 h, ↓md136_33 h, ↓md136_34 h, ↓md136_35 h, ↓dr_sI, ↓dr_sL, ↓gdK_sI, ↓gdK_sL, gR_sI, gN_sI, gn_sI, gL_sI, gI_sIs, gI_sIn, gR_sL, gN_sL, gn_sL, gI_sL, gL_sLs, gL_sLn, ↓dr_eq, bd_eq, ↓lg, ↓li, ↓ll, ↓ln, lI, nI_clamp, gdI_nI, Nat.reducePow, Nat.reduceLT, Nat.reduceLeDiff, Nat.reduceEqDiff, reduceIte, if_true, if_false, hW, apS]
theorem r_cells (h : Sh g) (hA : Dm (gI g 137)) : f_X12_cells 136 g = some (nI (cS (gI g 137)), g) := by
  obtain ⟨hR, -, -, hW, h0, h6, -⟩ := hA
  simp (disch := first | assumption | ((fail_if_success show Sh _); omega)) only [f_X12_cells, ↓gk136, ↓gk137, sn137, ↓gk138, sn138, ↓gk139, sn139, ↓gk140, sn140, ↓gk141, sn141, ↓gk142, sn142, ↓gk143, sn143, ↓gk144, sn144, ↓gk145, sn145, ↓gk146, sn146, ↓gk147, sn147, ↓gk148, sn148, ↓gk149, sn149, ↓gk150, sn150, ↓gk151, sn151, ↓gk152, sn152, ↓gk153, sn153, ↓gk154, sn154, ↓md136_1, ↓md136_2, ↓md136_3, ↓md136_4, ↓md136_15, ↓md136_16, ↓md136_19, ↓md136_23, ↓md136_24, ↓md136_25, ↓md136_26, ↓md136_27, ↓md136_28, ↓md136_29, ↓md136_30, ↓md136_33, ↓md136_34, ↓md136_35, ↓dr_eq, bd_eq, ↓lg, ↓li, ↓ll, ↓ln, lI, nI_add, pk_mul, pk_sub, nI_sub0, nI_mod, pk_div, nI_clamp, nI_eq, nI_leI, nI_ltI, gdI_nI, gdZ_nI, b2i_z, decide_eq_false_iff_not, Bool.not_eq_false, decide_eq_true_eq, ifLt, ifNlt, ifLe, ifNle, ifEq, ifNe, ifnLe, ifnNle, nIm1, m1nI, nI_z, z_nI, Nat.reduceLT, Nat.reduceLeDiff, Nat.reduceEqDiff, Nat.reduceAdd, Nat.reduceMul, Nat.reduceSub, Nat.reduceDiv, Nat.reduceMod, if_true, if_false, reduceIte, hW, hR, cS]
theorem r_isCell (h : Sh g) (hA : Dm (gI g 137)) (v : Int64) : f_X12_isCell 136 v g = some (inL v (cS (gI g 137)), g) := by
  have hc := cS_le hA
  unfold f_X12_isCell
  rw [r_cells h hA, bd_eq, show (1 : Int32) = nI 1 from rfl, r_in v (n := cS (gI g 137)) (nI_m1_toInt (by omega))]
  rfl
theorem r_isPair (h : Sh g) (hA : Dm (gI g 137)) (v : Int64) : f_X12_isPair 136 v g = some (inL v (nv (gI g 137) 3), g) := by
  obtain ⟨-, -, -, -, -, -, hK, h3⟩ := hA
  simp (disch := first | assumption | ((fail_if_success show Sh _); omega)) only [f_X12_isPair, ↓gk136, ↓gk137, sn137, ↓gk138, sn138, ↓gk139, sn139, ↓gk140, sn140, ↓gk141, sn141, ↓gk142, sn142, ↓gk143, sn143, ↓gk144, sn144, ↓gk145, sn145, ↓gk146, sn146, ↓gk147, sn147, ↓gk148, sn148, ↓gk149, sn149, ↓gk150, sn150, ↓gk151, sn151, ↓gk152, sn152, ↓gk153, sn153, ↓gk154, sn154, ↓md136_1, ↓md136_2, ↓md136_3, ↓md136_4, ↓md136_15, ↓md136_16, ↓md136_19, ↓md136_23, ↓md136_24, ↓md136_25, ↓md136_26, ↓md136_27, ↓md136_28, ↓md136_29, ↓md136_30, ↓md136_33, ↓md136_34, ↓md136_35, ↓dr_eq, bd_eq, ↓lg, ↓li, ↓ll, ↓ln, lI, nI_add, pk_mul, pk_sub, nI_sub0, nI_mod, pk_div, nI_clamp, nI_eq, nI_leI, nI_ltI, gdI_nI, gdZ_nI, b2i_z, decide_eq_false_iff_not, Bool.not_eq_false, decide_eq_true_eq, ifLt, ifNlt, ifLe, ifNle, ifEq, ifNe, ifnLe, ifnNle, nIm1, m1nI, nI_z, z_nI, Nat.reduceLT, Nat.reduceLeDiff, Nat.reduceEqDiff, Nat.reduceAdd, Nat.reduceMul, Nat.reduceSub, Nat.reduceDiv, Nat.reduceMod, if_true, if_false, reduceIte, hK]
  rw [r_in v (n := nv (gI g 137) 3) (nI_m1_toInt (by omega))]
  rfl
theorem nI_m1' {n : Nat} (h : 0 < n) : nI n + -nI 1 = nI (n - 1) := by
  obtain ⟨k, rfl⟩ : ∃ k, n = k + 1 := ⟨n - 1, by omega⟩
  exact pk_m1 k
theorem r_b55 (h : Sh g) (hA : Dm (gI g 137)) (y s0 s1 : Int32) : f_X12_beside_55 136 y s0 s1 g = some (if inR y (nv (gI g 137) 1) = true ∧ inR (s1 + s0) (nv (gI g 137) 2) = true then nI (nv (gI g 137) 2) * y + (s1 + s0) else -nI 1, g) := by
  obtain ⟨hR, r0, r6, hW, h0, h6, -⟩ := hA
  simp only [f_X12_beside_55, ↓gk136 h, ↓gk137 h, sn137 h, ↓gk138 h, sn138 h, ↓gk139 h, sn139 h, ↓gk140 h, sn140 h, ↓gk141 h, sn141 h, ↓gk142 h, sn142 h, ↓gk143 h, sn143 h, ↓gk144 h, sn144 h, ↓gk145 h, sn145 h, ↓gk146 h, sn146 h, ↓gk147 h, sn147 h, ↓gk148 h, sn148 h, ↓gk149 h, sn149 h, ↓gk150 h, sn150 h, ↓gk151 h, sn151 h, ↓gk152 h, sn152 h, ↓gk153 h, sn153 h, ↓gk154 h, sn154 h, ↓md136_1 h, ↓md136_2 h, ↓md136_3 h, ↓md136_4 h, ↓md136_15 h, ↓md136_16 h, ↓md136_19 h, ↓md136_23 h, ↓md136_24 h, ↓md136_25 h, ↓md136_26 h, ↓md136_27 h, ↓md136_28 h, ↓md136_29 h, ↓md136_30 h, ↓md136_33 h, ↓md136_34 h, ↓md136_35 h, ↓dr_sI, ↓dr_sL, ↓gdK_sI, ↓gdK_sL, gR_sI, gN_sI, gn_sI, gL_sI, gI_sIs, gI_sIn, gR_sL, gN_sL, gn_sL, gI_sL, gL_sLs, gL_sLn, ↓dr_eq, bd_eq, ↓lg, ↓li, ↓ll, ↓ln, lI, nI_clamp, gdI_nI, Nat.reducePow, Nat.reduceLT, Nat.reduceLeDiff, Nat.reduceEqDiff, reduceIte, if_true, if_false, hR, hW]
  rw [r_in _ (n := nv (gI g 137) 1) (nI_m1_toInt (by omega)), bd_eq, inL_I]
  cases inR y (nv (gI g 137) 1) with
  | false => simp only [b2i_z, if_true, Bool.false_eq_true, false_and, if_false]
  | true =>
    simp only [b2i_z, Bool.true_eq_false, if_false, true_and, ↓gk136 h, ↓gk137 h, sn137 h, ↓gk138 h, sn138 h, ↓gk139 h, sn139 h, ↓gk140 h, sn140 h, ↓gk141 h, sn141 h, ↓gk142 h, sn142 h, ↓gk143 h, sn143 h, ↓gk144 h, sn144 h, ↓gk145 h, sn145 h, ↓gk146 h, sn146 h, ↓gk147 h, sn147 h, ↓gk148 h, sn148 h, ↓gk149 h, sn149 h, ↓gk150 h, sn150 h, ↓gk151 h, sn151 h, ↓gk152 h, sn152 h, ↓gk153 h, sn153 h, ↓gk154 h, sn154 h, ↓md136_1 h, ↓md136_2 h, ↓md136_3 h, ↓md136_4 h, ↓md136_15 h, ↓md136_16 h, ↓md136_19 h, ↓md136_23 h, ↓md136_24 h, ↓md136_25 h, ↓md136_26 h, ↓md136_27 h, ↓md136_28 h, ↓md136_29 h, ↓md136_30 h, ↓md136_33 h, ↓md136_34 h, ↓md136_35 h, ↓dr_sI, ↓dr_sL, ↓gdK_sI, ↓gdK_sL, gR_sI, gN_sI, gn_sI, gL_sI, gI_sIs, gI_sIn, gR_sL, gN_sL, gn_sL, gI_sL, gL_sLs, gL_sLn, ↓dr_eq, bd_eq, ↓lg, ↓li, ↓ll, ↓ln, lI, nI_clamp, gdI_nI, Nat.reducePow, Nat.reduceLT, Nat.reduceLeDiff, Nat.reduceEqDiff, reduceIte, if_true, if_false, hW]
    rw [r_in _ (n := nv (gI g 137) 2) (nI_m1_toInt (by omega)), bd_eq, inL_I]
    cases inR (s1 + s0) (nv (gI g 137) 2) with
    | false => simp only [b2i_z, if_true, Bool.false_eq_true, if_false]
    | true => simp only [b2i_z, Bool.true_eq_false, if_false, if_true, ↓gk136 h, ↓gk137 h, sn137 h, ↓gk138 h, sn138 h, ↓gk139 h, sn139 h, ↓gk140 h, sn140 h, ↓gk141 h, sn141 h, ↓gk142 h, sn142 h, ↓gk143 h, sn143 h, ↓gk144 h, sn144 h, ↓gk145 h, sn145 h, ↓gk146 h, sn146 h, ↓gk147 h, sn147 h, ↓gk148 h, sn148 h, ↓gk149 h, sn149 h, ↓gk150 h, sn150 h, ↓gk151 h, sn151 h, ↓gk152 h, sn152 h, ↓gk153 h, sn153 h, ↓gk154 h, sn154 h, ↓md136_1 h, ↓md136_2 h, ↓md136_3 h, ↓md136_4 h, ↓md136_15 h, ↓md136_16 h, ↓md136_19 h, ↓md136_23 h, ↓md136_24 h, ↓md136_25 h, ↓md136_26 h, ↓md136_27 h, ↓md136_28 h, ↓md136_29 h, ↓md136_30 h, ↓md136_33 h, ↓md136_34 h, ↓md136_35 h, ↓dr_sI, ↓dr_sL, ↓gdK_sI, ↓gdK_sL, gR_sI, gN_sI, gn_sI, gL_sI, gI_sIs, gI_sIn, gR_sL, gN_sL, gn_sL, gI_sL, gL_sLs, gL_sLn, ↓dr_eq, bd_eq, ↓lg, ↓li, ↓ll, ↓ln, lI, nI_clamp, gdI_nI, Nat.reducePow, Nat.reduceLT, Nat.reduceLeDiff, Nat.reduceEqDiff, reduceIte, if_true, if_false, hW]
theorem inR_m1 (n : Nat) : inR (nI 0 + -nI 1) n = false := rfl
theorem r_beside (h : Sh g) (hA : Dm (gI g 137)) {c w : Nat} (hc : c < cS (gI g 137)) (hw : w < 4) : f_X12_beside 136 (nI c) (nI w) g = some (oI (besS (nv (gI g 137) 1) (nv (gI g 137) 2) c w), g) := by
  have hc36 := cS_le hA
  obtain ⟨hR, r0, r6, hW, h0, h6, -⟩ := id hA
  have hcS : cS (gI g 137) = nv (gI g 137) 1 * nv (gI g 137) 2 := rfl
  have b55 := r_b55 h hA
  generalize nv (gI g 137) 1 = R at *
  generalize nv (gI g 137) 2 = W at *
  have d1 : c / W ≤ c := Nat.div_le_self _ _
  have d3 : c % W < W := Nat.mod_lt _ h0
  have d4 : W * (c / W) + c % W = c := Nat.div_add_mod c W
  have d5 : c / W < R := by
    rw [Nat.div_lt_iff_lt_mul h0]
    omega
  simp only [f_X12_beside, f_X12_beside_26, ↓gk136 h, ↓gk137 h, sn137 h, ↓gk138 h, sn138 h, ↓gk139 h, sn139 h, ↓gk140 h, sn140 h, ↓gk141 h, sn141 h, ↓gk142 h, sn142 h, ↓gk143 h, sn143 h, ↓gk144 h, sn144 h, ↓gk145 h, sn145 h, ↓gk146 h, sn146 h, ↓gk147 h, sn147 h, ↓gk148 h, sn148 h, ↓gk149 h, sn149 h, ↓gk150 h, sn150 h, ↓gk151 h, sn151 h, ↓gk152 h, sn152 h, ↓gk153 h, sn153 h, ↓gk154 h, sn154 h, ↓md136_1 h, ↓md136_2 h, ↓md136_3 h, ↓md136_4 h, ↓md136_15 h, ↓md136_16 h, ↓md136_19 h, ↓md136_23 h, ↓md136_24 h, ↓md136_25 h, ↓md136_26 h, ↓md136_27 h, ↓md136_28 h, ↓md136_29 h, ↓md136_30 h, ↓md136_33 h, ↓md136_34 h, ↓md136_35 h, ↓dr_sI, ↓dr_sL, ↓gdK_sI, ↓gdK_sL, gR_sI, gN_sI, gn_sI, gL_sI, gI_sIs, gI_sIn, gR_sL, gN_sL, gn_sL, gI_sL, gL_sLs, gL_sLn, ↓dr_eq, bd_eq, ↓lg, ↓li, ↓ll, ↓ln, lI, nI_clamp, gdI_nI, Nat.reducePow, Nat.reduceLT, Nat.reduceLeDiff, Nat.reduceEqDiff, reduceIte, if_true, if_false, hR, hW]
  simp only [gdZ_nI h0 (show W < 2 ^ 31 by omega)]
  simp only [b55, pk_div (show c < 2 ^ 31 by omega) h0 (show W < 2 ^ 31 by omega), pk_mul, nI_mod]
  obtain rfl | rfl | rfl | rfl : w = 0 ∨ w = 1 ∨ w = 2 ∨ w = 3 := by omega
  · rw [if_pos rfl, if_neg (by decide), if_neg (by decide)]
    rcases Nat.eq_zero_or_pos (c / W) with e | e
    · rw [e, inR_m1, if_neg (fun q => by cases q.1), show besS R W c 0 = none by unfold besS; rw [if_pos rfl, if_pos e]]
      rfl
    · have e2 : W * (c / W - 1) + c % W = c - W := by
        rw [Nat.mul_sub_one]
        have : W * 1 ≤ W * (c / W) := Nat.mul_le_mul_left W e
        omega
      have z : c / W - 1 < R := by omega
      rw [nI_m1' e, nI_add, inR_nI (by omega), inR_nI (by omega), if_pos ⟨decide_eq_true z, decide_eq_true (by omega)⟩, pk_mul, nI_add, Nat.add_zero, e2, show besS R W c 0 = some (c - W) by unfold besS; rw [if_pos rfl, if_neg (by omega)]]
      rfl
  · rw [if_neg (by decide), if_neg (by decide), if_pos rfl, nI_add, nI_add, Nat.add_zero, inR_nI (by omega), inR_nI (by omega), pk_mul, nI_add, ← Nat.add_assoc, d4]
    rcases Nat.lt_or_ge (c % W + 1) W with e | e
    · rw [if_pos ⟨decide_eq_true (by omega), decide_eq_true (by omega)⟩, show besS R W c 1 = some (c + 1) by unfold besS; rw [if_neg (by decide), if_pos rfl, if_pos e]]
      rfl
    · rw [if_neg (fun q => by have := of_decide_eq_true q.2; omega), show besS R W c 1 = none by unfold besS; rw [if_neg (by decide), if_pos rfl, if_neg (by omega)]]
      rfl
  · rw [if_neg (by decide), if_pos rfl, if_neg (by decide), if_neg (by decide), nI_add, nI_add, Nat.add_zero, inR_nI (by omega), inR_nI (by omega), pk_mul, nI_add]
    rcases Nat.lt_or_ge (c / W + 1) R with e | e
    · have e2 : W * (c / W + 1) + c % W = c + W := by
        rw [Nat.mul_add_one]
        omega
      rw [if_pos ⟨decide_eq_true (by omega), decide_eq_true (by omega)⟩, Nat.add_zero (c % W), e2, show besS R W c 2 = some (c + W) by unfold besS; rw [if_neg (by decide), if_neg (by decide), if_pos rfl, if_pos e]]
      rfl
    · rw [if_neg (fun q => by have := of_decide_eq_true q.1; omega), show besS R W c 2 = none by unfold besS; rw [if_neg (by decide), if_neg (by decide), if_pos rfl, if_neg (by omega)]]
      rfl
  · rw [if_neg (by decide), if_neg (by decide), if_neg (by decide), if_pos rfl, nI_add, Nat.add_zero, inR_nI (by omega), pk_mul]
    rcases Nat.eq_zero_or_pos (c % W) with e | e
    · rw [e, inR_m1, if_neg (fun q => by cases q.2), show besS R W c 3 = none by unfold besS; rw [if_neg (by decide), if_neg (by decide), if_neg (by decide), if_pos e]]
      rfl
    · have e2 : W * (c / W) + (c % W - 1) = c - 1 := by omega
      rw [nI_m1' e, inR_nI (by omega), if_pos ⟨decide_eq_true (by omega), decide_eq_true (by omega)⟩, nI_add, e2, show besS R W c 3 = some (c - 1) by unfold besS; rw [if_neg (by decide), if_neg (by decide), if_neg (by decide), if_neg (by omega)]]
      rfl
theorem r_twinOf (h : Sh g) (hA : Dm (gI g 137)) (hB : VB (gI g 137) (bo (gI g 137))) {p t : Nat} (hp : p < nv (gI g 137) 3) (ht : t < 2) : f_X12_twinOf 136 (nI p) (nI t) g = some (nI (tw (gI g 137) (2 * p + t)), g) := by
  obtain ⟨-, -, -, -, -, -, hK, h3⟩ := hA
  have := (hB.t (i := 2 * p + t) (by omega)).1
  rw [← Nat.add_assoc] at this
  simp (disch := first | assumption | ((fail_if_success show Sh _); omega)) only [f_X12_twinOf, ↓gk136, ↓gk137, sn137, ↓gk138, sn138, ↓gk139, sn139, ↓gk140, sn140, ↓gk141, sn141, ↓gk142, sn142, ↓gk143, sn143, ↓gk144, sn144, ↓gk145, sn145, ↓gk146, sn146, ↓gk147, sn147, ↓gk148, sn148, ↓gk149, sn149, ↓gk150, sn150, ↓gk151, sn151, ↓gk152, sn152, ↓gk153, sn153, ↓gk154, sn154, ↓md136_1, ↓md136_2, ↓md136_3, ↓md136_4, ↓md136_15, ↓md136_16, ↓md136_19, ↓md136_23, ↓md136_24, ↓md136_25, ↓md136_26, ↓md136_27, ↓md136_28, ↓md136_29, ↓md136_30, ↓md136_33, ↓md136_34, ↓md136_35, ↓dr_eq, bd_eq, ↓lg, ↓li, ↓ll, ↓ln, lI, nI_add, pk_mul, pk_sub, nI_sub0, nI_mod, pk_div, nI_clamp, nI_eq, nI_leI, nI_ltI, gdI_nI, gdZ_nI, b2i_z, decide_eq_false_iff_not, Bool.not_eq_false, decide_eq_true_eq, ifLt, ifNlt, ifLe, ifNle, ifEq, ifNe, ifnLe, ifnNle, nIm1, m1nI, nI_z, z_nI, Nat.reduceLT, Nat.reduceLeDiff, Nat.reduceEqDiff, Nat.reduceAdd, Nat.reduceMul, Nat.reduceSub, Nat.reduceDiv, Nat.reduceMod, if_true, if_false, reduceIte, this]
end RF1
