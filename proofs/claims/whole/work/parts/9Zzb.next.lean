/-! THE REFERENCE goes on to the next token. -/
section NXT
variable {T : Nat → Nat} {n a e s : Nat} {g g' h h' : G}
def TY (T : Nat → Nat) (n : Nat) (g : G) : Prop := n ≤ 900 ∧ gI g 136 8 = nI n ∧ ∀ k, k < n → T k < 256 ∧ gI g 139 k = nI (T k)
theorem TY.sx (h : TY T n g) {k : Nat} {v : Int32} (hk : k ≠ 8) : TY T n (sI g 136 k v) := ⟨h.1, by rw [gI_sIs, pk_un hk.symm]; exact h.2.1, fun j hj => by rw [gI_sIn (by decide)]; exact h.2.2 j hj⟩
theorem TY.cg (h : TY T n g) (e1 : gI g' 136 8 = gI g 136 8) (e3 : gI g' 139 = gI g 139) : TY T n g' := ⟨h.1, e1.trans h.2.1, by rw [e3]; exact h.2.2⟩
theorem r_see (hs : Sh g) (h : TY T n g) {j : Nat} (hj : j < n) : f_X12_see 136 (nI j) g = some (nI (T j), g) := by
  have := h.1
  rw [f_X12_see, h.2.1, if_neg (nI_ge hj (by omega)), md136_3 hs, gk139 hs, sn139 hs, gdI_nI (by omega) (by decide), nI_clamp (by omega), (h.2.2 j hj).2]
theorem r_see0 (h : TY T n g) {j : Nat} (hj : n ≤ j) (h2 : j < 2 ^ 31) : f_X12_see 136 (nI j) g = some (-1, g) := by
  rw [f_X12_see, h.2.1, if_pos (nI_le hj h2)]
theorem r_small {v : Nat} (hv : v < 256) (g : G) : f_X12_isSmall (nI v) g = some (slT v, g) := by
  unfold slT
  rw [f_X12_isSmall]
  by_cases e1 : v < 97
  · rw [if_pos (show nI v < (97 : Int32) from nI_lt (b := 97) e1 (by decide)), decide_eq_false (by omega)]
  · rw [if_neg (show ¬ nI v < (97 : Int32) from nI_nlt (b := 97) (by omega) (by omega))]
    by_cases e2 : v ≤ 122
    · rw [if_neg (show ¬ (122 : Int32) < nI v from nI_nlt (a := 122) e2 (by decide)), decide_eq_true (by omega)]
    · rw [if_pos (show (122 : Int32) < nI v from nI_lt (a := 122) (by omega) (by omega)), decide_eq_false (by omega)]
theorem r_digit {v : Nat} (hv : v < 256) (g : G) : f_X12_isDigit (nI v) g = some (dgT v, g) := by
  unfold dgT
  rw [f_X12_isDigit]
  by_cases e1 : v < 48
  · rw [if_pos (show nI v < (48 : Int32) from nI_lt (b := 48) e1 (by decide)), decide_eq_false (by omega)]
  · rw [if_neg (show ¬ nI v < (48 : Int32) from nI_nlt (b := 48) (by omega) (by omega))]
    by_cases e2 : v ≤ 57
    · rw [if_neg (show ¬ (57 : Int32) < nI v from nI_nlt (a := 57) e2 (by decide)), decide_eq_true (by omega)]
    · rw [if_pos (show (57 : Int32) < nI v from nI_lt (a := 57) (by omega) (by omega)), decide_eq_false (by omega)]
theorem r_small0 (g : G) : f_X12_isSmall (-1) g = some (false, g) := rfl
theorem r_digit0 (g : G) : f_X12_isDigit (-1) g = some (false, g) := rfl
/-! words -/
theorem gd_l {l m : List Nat} {x : Nat} (h : x < l.length) : (l ++ m).getD x 0 = l.getD x 0 := by
  rw [List.getD_eq_getElem?_getD, List.getD_eq_getElem?_getD, List.getElem?_append_left h]
theorem gd_r {l m : List Nat} {x : Nat} (h : l.length ≤ x) : (l ++ m).getD x 0 = m.getD (x - l.length) 0 := by
  rw [List.getD_eq_getElem?_getD, List.getD_eq_getElem?_getD, List.getElem?_append_right h]
theorem r_ka97 {k4 : Nat → Int32 → Int32 → G → Option (Int32 × G)} {ix : Nat} : ∀ (w : List Nat) p fu, (∀ j, j < w.length → chT 0 (p + j) = w.getD j 0) → chT 0 (p + w.length) = 32 → (∀ c ∈ w, c ≠ 32) → p + w.length < 77 → w.length < fu → f_X12_keyAt_97 k4 fu 136 (nI ix) (nI p) g = k4 136 (nI (ix + 1)) (nI (p + w.length + 1)) g := by
  intro w
  induction w with
  | nil =>
    intro p fu h1 h2 h3 h4 hf
    obtain ⟨m, rfl⟩ : ∃ m, fu = m + 1 := ⟨fu - 1, by omega⟩
    simp only [List.length_nil, Nat.add_zero] at h2 h4 ⊢
    rw [f_X12_keyAt_97, j_charAt (by decide) (show p < 77 by omega), bd_eq, h2, if_pos (show nI 32 = (32 : Int32) from rfl), lad1, lad1]
  | cons c w ih =>
    intro p fu h1 h2 h3 h4 hf
    simp only [List.length_cons] at h1 h2 h4 hf ⊢
    obtain ⟨m, rfl⟩ : ∃ m, fu = m + 1 := ⟨fu - 1, by omega⟩
    have c0 : chT 0 p = c := h1 0 (by omega)
    have c128 : c < 128 := by
      rw [← c0]
      exact (ch_t (l := 0) (by decide) (show p < 77 by omega)).2.1
    rw [f_X12_keyAt_97, j_charAt (by decide) (show p < 77 by omega), bd_eq, c0, if_neg (show ¬ nI c = (32 : Int32) from fun u => h3 c List.mem_cons_self ((nI_eq (b := 32) (by omega) (by decide)).mp u)), lad1, ih (p + 1) m (fun j hj => by
      have := h1 (j + 1) (by omega)
      rw [show p + 1 + j = p + (j + 1) by omega, this]
      rfl) (by rw [show p + 1 + w.length = p + (w.length + 1) by omega]; exact h2) (fun c hc => h3 c (List.mem_cons_of_mem _ hc)) (by omega) (by omega), show p + 1 + w.length + 1 = p + (w.length + 1) + 1 by omega]
theorem r_ka15 {k4 : Nat → Int32 → Int32 → G → Option (Int32 × G)} {ix p : Nat} {K : Option (Int32 × G)} (hs : Sh g) (h : TY T n g) (h6 : gI g 136 6 = nI a) (h7 : gI g 136 7 = nI e) (he : e ≤ n) (hK : f_X12_keyAt_97 k4 FU 136 (nI ix) (nI p) g = K) : ∀ (w : List Nat) j fu, (∀ x, x < w.length → chT 0 (p + j + x) = w.getD x 0) → chT 0 (p + j + w.length) = 32 → (∀ c ∈ w, c ≠ 32) → p + j + w.length < 77 → a + j ≤ e → w.length < fu → f_X12_keyAt_15 k4 fu 136 (nI ix) (nI p) (nI j) g = if subT T (a + j) e = w then some (nI ix, g) else K := by
  have h9 := h.1
  intro w
  induction w with
  | nil =>
    intro j fu h1 h2 h3 h4 h5 hf
    obtain ⟨m, rfl⟩ : ∃ m, fu = m + 1 := ⟨fu - 1, by omega⟩
    simp only [List.length_nil, Nat.add_zero] at h2 h4
    rw [f_X12_keyAt_15, nI_add, j_charAt (by decide) (show p + j < 77 by omega), bd_eq, h2, if_pos (show nI 32 = (32 : Int32) from rfl), f_X12_keyAt_69, nI_add, j_charAt (by decide) (show p + j < 77 by omega), bd_eq, h2, if_pos (show nI 32 = (32 : Int32) from rfl), h6, h7, nI_add, hK]
    by_cases q : a + j = e
    · rw [if_pos (show subT T (a + j) e = [] by rw [sub_nil h5]; exact q), if_pos (by rw [q])]
    · rw [if_neg (show ¬ subT T (a + j) e = [] by rw [sub_nil h5]; exact q), if_neg (by rw [nI_eq (by omega) (by omega)]; exact q)]
  | cons c w ih =>
    intro j fu h1 h2 h3 h4 h5 hf
    simp only [List.length_cons] at h1 h2 h4 hf
    obtain ⟨m, rfl⟩ : ∃ m, fu = m + 1 := ⟨fu - 1, by omega⟩
    have c0 : chT 0 (p + j) = c := h1 0 (by omega)
    have c128 : c < 128 := by
      rw [← c0]
      exact (ch_t (l := 0) (by decide) (show p + j < 77 by omega)).2.1
    have c32 : ¬ nI c = (32 : Int32) := fun u => h3 c List.mem_cons_self ((nI_eq (b := 32) (by omega) (by decide)).mp u)
    have k69 : f_X12_keyAt_69 k4 136 (nI ix) (nI p) (nI j) g = K := by
      rw [f_X12_keyAt_69, nI_add, j_charAt (by decide) (show p + j < 77 by omega), bd_eq, c0, if_neg c32, hK]
    rw [f_X12_keyAt_15, nI_add, j_charAt (by decide) (show p + j < 77 by omega), bd_eq, c0, if_neg c32, h6, h7, nI_add]
    rcases Nat.lt_or_ge (a + j) e with z | z
    · rw [if_neg (nI_ge z (by omega)), md136_3 hs, gk139 hs, sn139 hs, gdI_nI (by omega) (by decide), j_charAt (by decide) (show p + j < 77 by omega), bd_eq, c0, nI_clamp (by omega), (h.2.2 _ (by omega)).2, sub_cons z]
      have b1 := (h.2.2 (a + j) (by omega)).1
      by_cases q : T (a + j) = c
      · rw [if_pos (by rw [q]), lad1, ih (j + 1) m (fun x hx => by
          have := h1 (x + 1) (by omega)
          rw [show p + (j + 1) + x = p + j + (x + 1) by omega, this]
          rfl) (by rw [show p + (j + 1) + w.length = p + j + (w.length + 1) by omega]; exact h2) (fun c hc => h3 c (List.mem_cons_of_mem _ hc)) (by omega) (by omega) (by omega), show a + (j + 1) = a + j + 1 by omega]
        by_cases r : subT T (a + j + 1) e = w
        · rw [if_pos r, if_pos (by rw [q, r])]
        · rw [if_neg r, if_neg (fun u => r (List.cons.inj u).2)]
      · rw [if_neg (by rw [nI_eq (by omega) (by omega)]; exact q), k69, if_neg (fun u => q (List.cons.inj u).1)]
    · rw [if_pos (nI_le z (by omega)), k69, show a + j = e by omega, if_neg (fun u => by
        rw [show subT T e e = [] by rw [sub_nil (Nat.le_refl _)]] at u
        cases u)]
theorem r_ka4 (hs : Sh g) (h : TY T n g) (h6 : gI g 136 6 = nI a) (h7 : gI g 136 7 = nI e) (he : e ≤ n) (ha : a ≤ e) : ∀ (ws : List (List Nat)) p ix fu, (∀ x, x < (flT ws).length → chT 0 (p + x) = (flT ws).getD x 0) → p + (flT ws).length = 77 → (∀ w ∈ ws, ∀ c ∈ w, c ≠ 32) → ws.length < fu → f_X12_keyAt_4 fu 136 (nI ix) (nI p) g = some (nI (fwT 22 (subT T a e) ws ix), g) := by
  have FUg := @FU_gt 901 (by decide)
  intro ws
  induction ws with
  | nil =>
    intro p ix fu h1 h2 h3 hf
    obtain ⟨m, rfl⟩ : ∃ m, fu = m + 1 := ⟨fu - 1, by omega⟩
    have h2' : p + 0 = 77 := h2
    rw [f_X12_keyAt_4, j_length, bd_eq, if_pos (show nI (jlen 0) ≤ nI p from nI_le (show 77 ≤ p by omega) (by omega))]
    rfl
  | cons w ws ih =>
    intro p ix fu h1 h2 h3 hf
    simp only [List.length_cons] at hf
    obtain ⟨m, rfl⟩ : ∃ m, fu = m + 1 := ⟨fu - 1, by omega⟩
    have ef : flT (w :: ws) = w ++ 32 :: flT ws := rfl
    have el : (flT (w :: ws)).length = w.length + ((flT ws).length + 1) := by
      rw [ef, List.length_append, List.length_cons]
    rw [el] at h1 h2
    have g1 : ∀ x, x < w.length → chT 0 (p + 0 + x) = w.getD x 0 := fun x hx => by
      rw [Nat.add_zero, h1 x (by omega), ef, gd_l hx]
    have g2 : chT 0 (p + 0 + w.length) = 32 := by
      rw [Nat.add_zero, h1 w.length (by omega), ef, gd_r (Nat.le_refl _), Nat.sub_self]
      rfl
    have g3 : ∀ x, x < (flT ws).length → chT 0 (p + w.length + 1 + x) = (flT ws).getD x 0 := fun x hx => by
      rw [show p + w.length + 1 + x = p + (w.length + 1 + x) by omega, h1 (w.length + 1 + x) (by omega), ef, gd_r (by omega), show w.length + 1 + x - w.length = x + 1 by omega]
      rfl
    have nw := h3 w List.mem_cons_self
    have k97 := r_ka97 (g := g) (k4 := f_X12_keyAt_4 m) (ix := ix) w p FU (fun j hj => by have := g1 j hj; rw [Nat.add_zero] at this; exact this) (by rw [Nat.add_zero] at g2; exact g2) nw (by omega) (by omega)
    rw [ih (p + w.length + 1) (ix + 1) m g3 (by omega) (fun w hw => h3 w (List.mem_cons_of_mem _ hw)) (by omega)] at k97
    have k15 := r_ka15 (ix := ix) (p := p) hs h h6 h7 he k97 w 0 FU g1 g2 nw (by omega) (by omega) (by omega)
    rw [f_X12_keyAt_4, j_length, bd_eq, if_neg (show ¬ nI (jlen 0) ≤ nI p from nI_ge (show p < 77 by omega) (by decide))]
    show f_X12_keyAt_15 (f_X12_keyAt_4 m) FU 136 (nI ix) (nI p) (nI 0) g = some (nI (if subT T a e = w then ix else fwT 22 (subT T a e) ws (ix + 1)), g)
    rw [k15, Nat.add_zero]
    split
    · rfl
    · rfl
theorem r_keyAt (hs : Sh g) (h : TY T n g) (h6 : gI g 136 6 = nI a) (h7 : gI g 136 7 = nI e) (he : e ≤ n) (ha : a ≤ e) : f_X12_keyAt 136 g = some (nI (pmT (fwT 15 (subT T a e) CWT 0)), g) := by
  have t : (List.range 76).all (fun j => decide (chT 0 (1 + j) = (flT KWT).getD j 0)) = true := by decide +kernel
  have tl : (flT KWT).length = 76 := by decide
  have := r_ka4 hs h h6 h7 he ha KWT 1 0 FU (fun j hj => of_decide_eq_true (List.all_eq_true.mp t j (List.mem_range.mpr (by omega)))) (by omega) (by decide) (FU_gt (by decide))
  rw [fw_pm] at this
  exact this
theorem r_n89 (ha : a ≤ n) : ∀ k s fu g, Sh g → TY T n g → gI g 136 6 = nI a → gI g 136 7 = nI s → a ≤ s → s ≤ n → n ≤ s + k → k < fu → f_X12_next_89 fu 136 g = some ((), sI (sI g 136 7 (nI (rnT slT T n k s))) 136 9 (nI (pmT (fwT 15 (subT T a (rnT slT T n k s)) CWT 0)))) := by
  intro k
  have fin : ∀ m s g, Sh g → TY T n g → gI g 136 6 = nI a → gI g 136 7 = nI s → a ≤ s → s ≤ n → ¬ (s < n ∧ slT (T s) = true) → f_X12_next_89 (m + 1) 136 g = some ((), sI (sI g 136 7 (nI s)) 136 9 (nI (pmT (fwT 15 (subT T a s) CWT 0)))) := by
    intro m s g hs h h6 h7 h1 h2 h3
    have := h.1
    have ke := r_keyAt hs h h6 h7 h2 h1
    rw [f_X12_next_89, h7]
    rcases Nat.lt_or_ge s n with z | z
    · have e1 : slT (T s) = false := by
        cases q : slT (T s) with
        | false => rfl
        | true => exact absurd ⟨z, q⟩ h3
      rw [r_see hs h z, bd_eq, r_small (h.2.2 s z).1, bd_eq, e1, ibF, ke, bd_eq, lg, sI_id h7]
    · rw [r_see0 h z (by omega), bd_eq, r_small0, bd_eq, ibF, ke, bd_eq, lg, sI_id h7]
  induction k with
  | zero =>
    intro s fu g hs h h6 h7 h1 h2 h3 hf
    obtain ⟨m, rfl⟩ : ∃ m, fu = m + 1 := ⟨fu - 1, by omega⟩
    exact fin m s g hs h h6 h7 h1 h2 (by omega)
  | succ k ih =>
    intro s fu g hs h h6 h7 h1 h2 h3 hf
    have := h.1
    obtain ⟨m, rfl⟩ : ∃ m, fu = m + 1 := ⟨fu - 1, by omega⟩
    by_cases z : s < n ∧ slT (T s) = true
    · rw [f_X12_next_89, h7, r_see hs h z.1, bd_eq, r_small (h.2.2 s z.1).1, bd_eq, z.2, ibT, h7, lad1, lg, ih (s + 1) m (sI g 136 7 (nI (s + 1))) hs (h.sx (by decide)) (by rw [gI_sIs, pk_un (by decide)]; exact h6) (by rw [gI_sIs, pk_us]) (by omega) (by omega) (by omega) (by omega), sI_sI, rn_y z.1 z.2]
    · rw [rn_n z]
      exact fin m s g hs h h6 h7 h1 h2 z
end NXT
