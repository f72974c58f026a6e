/-! TEXTS: tokens, as class and reference tell them. -/
section SCN
variable {P : Nat → Bool} {T : Nat → Nat} {n k s j : Nat} {g : G} {a e : Nat}
def rnT (P : Nat → Bool) (T : Nat → Nat) (n : Nat) : Nat → Nat → Nat
  | 0, s => s
  | k + 1, s => if s < n ∧ P (T s) = true then rnT P T n k (s + 1) else s
theorem rn_y (h : s < n) (h2 : P (T s) = true) : rnT P T n (k + 1) s = rnT P T n k (s + 1) := if_pos ⟨h, h2⟩
theorem rn_n (h : ¬ (s < n ∧ P (T s) = true)) : ∀ k, rnT P T n k s = s
  | 0 => rfl
  | _ + 1 => if_neg h
theorem rn_ge : ∀ k s, s ≤ rnT P T n k s
  | 0, s => Nat.le_refl _
  | k + 1, s => by
    by_cases h : s < n ∧ P (T s) = true
    · rw [rn_y h.1 h.2]
      have := rn_ge k (s + 1)
      omega
    · rw [rn_n h]
      exact Nat.le_refl _
theorem rn_le : ∀ k s, s ≤ n → rnT P T n k s ≤ n
  | 0, s, h => h
  | k + 1, s, h0 => by
    by_cases h : s < n ∧ P (T s) = true
    · rw [rn_y h.1 h.2]
      exact rn_le k (s + 1) h.1
    · rw [rn_n h]
      exact h0
theorem rn_in : ∀ k s, ∀ j, s ≤ j → j < rnT P T n k s → P (T j) = true
  | 0, s, j, h1, h2 => absurd h2 (Nat.not_lt.mpr h1)
  | k + 1, s, j, h1, h2 => by
    by_cases h : s < n ∧ P (T s) = true
    · rw [rn_y h.1 h.2] at h2
      by_cases e : j = s
      · rw [e]
        exact h.2
      · exact rn_in k (s + 1) j (by omega) h2
    · rw [rn_n h] at h2
      omega
theorem rn_end : ∀ k s, s ≤ n → n ≤ s + k → ¬ (rnT P T n k s < n ∧ P (T (rnT P T n k s)) = true)
  | 0, s, h1, h2, h3 => by
    have : rnT P T n 0 s = s := rfl
    omega
  | k + 1, s, h1, h2, h3 => by
    by_cases h : s < n ∧ P (T s) = true
    · rw [rn_y h.1 h.2] at h3
      exact rn_end k (s + 1) h.1 (by omega) h3
    · rw [rn_n h] at h3
      exact h h3
theorem rn_fu (h1 : s ≤ n) (h2 : n ≤ s + k) : ∀ m, n ≤ s + m → rnT P T n m s = rnT P T n k s := by
  intro m h3
  have a1 := rn_ge (P := P) (T := T) (n := n) m s
  have a2 := rn_ge (P := P) (T := T) (n := n) k s
  have b1 := rn_end (P := P) (T := T) m s h1 h3
  have b2 := rn_end (P := P) (T := T) k s h1 h2
  have c1 := rn_le (P := P) (T := T) m s h1
  have c2 := rn_le (P := P) (T := T) k s h1
  rcases Nat.lt_trichotomy (rnT P T n m s) (rnT P T n k s) with u | u | u
  · exact absurd ⟨by omega, rn_in k s _ a1 u⟩ b1
  · exact u
  · exact absurd ⟨by omega, rn_in m s _ a2 u⟩ b2
def bkT (v : Nat) : Bool := decide (v = 32 ∨ v = 10)
def slT (v : Nat) : Bool := decide (97 ≤ v ∧ v ≤ 122)
def dgT (v : Nat) : Bool := decide (48 ≤ v ∧ v ≤ 57)
def SGT : List Nat := [59, 58, 43, 45, 42, 40, 41, 91, 93, 61, 60, 62]
def CWT : List (List Nat) := [[112, 97, 105, 114], [116, 119, 105, 110], [109, 111, 111, 100], [102, 114, 111, 109], [104, 101, 105, 103, 104, 116], [104, 111, 112], [114, 111, 119], [99, 111, 108, 117, 109, 110], [102, 105, 101, 108, 100], [109, 97, 121], [99, 111, 115, 116, 115], [101, 114, 114, 97, 110, 100], [111, 114], [97, 110, 100], [110, 111, 116]]
def KWT : List (List Nat) := [[102, 105, 101, 108, 100], [114, 111, 119], [112, 97, 105, 114], [101, 114, 114, 97, 110, 100], [109, 111, 111, 100], [109, 97, 121], [99, 111, 115, 116, 115], [116, 119, 105, 110], [102, 114, 111, 109], [104, 101, 105, 103, 104, 116], [104, 111, 112], [99, 111, 108, 117, 109, 110], [97, 110, 100], [111, 114], [110, 111, 116]]
def pmT (v : Nat) : Nat := [2, 7, 4, 8, 9, 10, 1, 11, 0, 5, 6, 3, 13, 12, 14].getD v 22
def fwT (d : Nat) (L : List Nat) : List (List Nat) → Nat → Nat
  | [], _ => d
  | w :: ws, k => if L = w then k else fwT d L ws (k + 1)
theorem fw_no {d : Nat} {L : List Nat} : ∀ ws k, (∀ w ∈ ws, L ≠ w) → fwT d L ws k = d
  | [], _, _ => rfl
  | w :: ws, k, h => by
    show (if L = w then k else fwT d L ws (k + 1)) = d
    rw [if_neg (h w List.mem_cons_self)]
    exact fw_no ws (k + 1) (fun w hw => h w (List.mem_cons_of_mem _ hw))
theorem fw_pm (L : List Nat) : fwT 22 L KWT 0 = pmT (fwT 15 L CWT 0) := by
  by_cases h : L ∈ CWT
  · have t : CWT.all (fun L => decide (fwT 22 L KWT 0 = pmT (fwT 15 L CWT 0))) = true := by decide
    exact of_decide_eq_true (List.all_eq_true.mp t L h)
  · have t : KWT.all (fun w => decide (w ∈ CWT)) = true := by decide
    rw [fw_no KWT 0 (fun w hw e => h (by rw [e]; exact of_decide_eq_true (List.all_eq_true.mp t w hw))), fw_no CWT 0 (fun w hw e => h (by rw [e]; exact hw))]
    rfl
theorem fw_le {d : Nat} {L : List Nat} : ∀ ws k, k + ws.length ≤ d → fwT d L ws k ≤ d
  | [], _, _ => Nat.le_refl _
  | w :: ws, k, h => by
    simp only [List.length_cons] at h
    show (if L = w then k else fwT d L ws (k + 1)) ≤ d
    split
    · omega
    · exact fw_le ws (k + 1) (by omega)
def subT (T : Nat → Nat) (a e : Nat) : List Nat := (List.range (e - a)).map (fun j => T (a + j))
theorem sub_nil (h : a ≤ e) : (subT T a e = []) = (a = e) := by
  unfold subT
  rw [List.map_eq_nil_iff, List.range_eq_nil]
  exact propext (by omega)
theorem sub_cons (h : a < e) : subT T a e = T a :: subT T (a + 1) e := by
  unfold subT
  obtain ⟨r, hr⟩ : ∃ r, e - a = r + 1 := ⟨e - a - 1, by omega⟩
  rw [hr, List.range_succ_eq_map, List.map_cons, List.map_map, show e - (a + 1) = r by omega, Nat.add_zero]
  congr 1
  apply List.map_congr_left
  intro j _
  show T (a + (j + 1)) = T (a + 1 + j)
  rw [show a + (j + 1) = a + 1 + j by omega]
/-- a word's digits -/
def nvT (T : Nat → Nat) (a : Nat) : Nat → Nat
  | 0 => 0
  | k + 1 => 10 * nvT T a k + (T (a + k) - 48)
def cvT (T : Nat → Nat) (a : Nat) : Nat → Nat
  | 0 => 0
  | k + 1 => (10 * cvT T a k + (T (a + k) - 48)) % 1000
theorem nv_lt {T : Nat → Nat} {a : Nat} : ∀ k, (∀ j, j < k → T (a + j) ≤ 57) → nvT T a k < 10 ^ k
  | 0, _ => Nat.one_pos
  | k + 1, h => by
    have ih := nv_lt (T := T) (a := a) k (fun j hj => h j (by omega))
    have := h k (by omega)
    show 10 * nvT T a k + (T (a + k) - 48) < 10 ^ (k + 1)
    rw [Nat.pow_succ]
    omega
theorem cv_nv {T : Nat → Nat} {a : Nat} : ∀ k, k ≤ 3 → (∀ j, j < k → T (a + j) ≤ 57) → cvT T a k = nvT T a k
  | 0, _, _ => rfl
  | k + 1, hk, h => by
    have ih := cv_nv (T := T) (a := a) k (by omega) (fun j hj => h j (by omega))
    show (10 * cvT T a k + (T (a + k) - 48)) % 1000 = 10 * nvT T a k + (T (a + k) - 48)
    rw [ih]
    have l := nv_lt (T := T) (a := a) (k + 1) h
    have e : nvT T a (k + 1) = 10 * nvT T a k + (T (a + k) - 48) := rfl
    rw [e] at l
    have : 10 ^ (k + 1) ≤ 10 ^ 3 := Nat.pow_le_pow_right (by decide) hk
    exact Nat.mod_eq_of_lt (by omega)
theorem cv_lt {T : Nat → Nat} {a : Nat} : ∀ k, cvT T a k < 1000
  | 0 => show 0 < 1000 by decide
  | k + 1 => Nat.mod_lt _ (by decide)
/-- the token that begins at s: where it is, what is behind, its kind, its value -/
def tP (T : Nat → Nat) (n s : Nat) : Nat := rnT bkT T n n s
def tE (T : Nat → Nat) (n s : Nat) : Nat := if n ≤ tP T n s then tP T n s else if slT (T (tP T n s)) = true then rnT slT T n n (tP T n s) else if dgT (T (tP T n s)) = true then rnT dgT T n n (tP T n s) else tP T n s + 1
def tK (T : Nat → Nat) (n s : Nat) : Nat := if n ≤ tP T n s then 0 else if slT (T (tP T n s)) = true then 2 else if dgT (T (tP T n s)) = true then (if tE T n s ≤ tP T n s + 3 then 3 else 1) else if T (tP T n s) ∈ SGT then T (tP T n s) else 1
def tV (T : Nat → Nat) (n s : Nat) : Nat := if slT (T (tP T n s)) = true then fwT 15 (subT T (tP T n s) (tE T n s)) CWT 0 else nvT T (tP T n s) (tE T n s - tP T n s)
def pS (T : Nat → Nat) (n : Nat) : Nat → Nat
  | 0 => 0
  | i + 1 => tE T n (pS T n i)
theorem tP_le (h : s ≤ n) : tP T n s ≤ n := rn_le n s h
theorem tP_ge : s ≤ tP T n s := rn_ge n s
theorem tE_gt (h : s ≤ n) (h0 : tK T n s ≠ 0) : tP T n s < n ∧ tP T n s < tE T n s := by
  have l : tP T n s < n := by
    rcases Nat.lt_or_ge (tP T n s) n with z | z
    · exact z
    · exact absurd (if_pos z) h0
  refine ⟨l, ?_⟩
  unfold tE
  rw [if_neg (by omega)]
  split
  · next z =>
    obtain ⟨r, hr⟩ : ∃ r, n = r + 1 := ⟨n - 1, by omega⟩
    have := rn_ge (P := slT) (T := T) (n := n) r (tP T n s + 1)
    have e : rnT slT T n n (tP T n s) = rnT slT T n r (tP T n s + 1) := by
      have := rn_y (P := slT) (T := T) (k := r) l z
      rw [← hr] at this
      exact this
    omega
  · split
    · next z =>
      obtain ⟨r, hr⟩ : ∃ r, n = r + 1 := ⟨n - 1, by omega⟩
      have := rn_ge (P := dgT) (T := T) (n := n) r (tP T n s + 1)
      have e : rnT dgT T n n (tP T n s) = rnT dgT T n r (tP T n s + 1) := by
        have := rn_y (P := dgT) (T := T) (k := r) l z
        rw [← hr] at this
        exact this
      omega
    · omega
theorem tE_le (h : s ≤ n) : tE T n s ≤ n := by
  have l := tP_le (T := T) h
  unfold tE
  split
  · exact l
  · split
    · exact rn_le n _ l
    · split
      · exact rn_le n _ l
      · omega
theorem pS_le : ∀ i, pS T n i ≤ n
  | 0 => Nat.zero_le _
  | i + 1 => tE_le (pS_le i)
theorem pS_ge : ∀ i, (∀ j, j < i → tK T n (pS T n j) ≠ 0) → i ≤ pS T n i
  | 0, _ => Nat.zero_le _
  | i + 1, h => by
    have ih := pS_ge i (fun j hj => h j (by omega))
    have a1 := tE_gt (pS_le i) (h i (by omega))
    have a2 := tP_ge (T := T) (n := n) (s := pS T n i)
    show i + 1 ≤ tE T n (pS T n i)
    omega
/-- the last token -/
theorem pS_end (T : Nat → Nat) (n : Nat) : ∃ M, M ≤ n ∧ (tK T n (pS T n M) = 0 ∨ tK T n (pS T n M) = 1) ∧ ∀ j, j < M → tK T n (pS T n j) ≠ 0 ∧ tK T n (pS T n j) ≠ 1 := by
  have H : ∀ k, (∃ M, M < k ∧ (tK T n (pS T n M) = 0 ∨ tK T n (pS T n M) = 1) ∧ ∀ j, j < M → tK T n (pS T n j) ≠ 0 ∧ tK T n (pS T n j) ≠ 1) ∨ (∀ j, j < k → tK T n (pS T n j) ≠ 0 ∧ tK T n (pS T n j) ≠ 1) := by
    intro k
    induction k with
    | zero => exact Or.inr (fun j hj => absurd hj (Nat.not_lt_zero _))
    | succ k ih =>
      rcases ih with ⟨M, h1, h2⟩ | h
      · exact Or.inl ⟨M, by omega, h2⟩
      · by_cases z : tK T n (pS T n k) = 0 ∨ tK T n (pS T n k) = 1
        · exact Or.inl ⟨k, by omega, z, h⟩
        · refine Or.inr (fun j hj => ?_)
          by_cases e : j = k
          · rw [e]
            exact ⟨fun u => z (Or.inl u), fun u => z (Or.inr u)⟩
          · exact h j (by omega)
  rcases H (n + 1) with ⟨M, h1, h2⟩ | h
  · exact ⟨M, by omega, h2⟩
  · have a1 := pS_ge (T := T) (n := n) (n + 1) (fun j hj => (h j hj).1)
    have a2 := pS_le (T := T) (n := n) (n + 1)
    omega
end SCN
