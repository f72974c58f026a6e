/-! COMING CHEAPEST: both scales tell the same; no heap here. -/
section FST
def fstB (P : Nat → Bool) : Nat → Nat
  | 0 => 0
  | l + 1 => if fstB P l < l then fstB P l else if P l = true then l else l + 1
theorem fst_le (P : Nat → Bool) : ∀ n, fstB P n ≤ n
  | 0 => Nat.le_refl _
  | l + 1 => by
    unfold fstB
    split
    · omega
    · split <;> omega
theorem fst_no (P : Nat → Bool) : ∀ n l, l < fstB P n → P l = false
  | 0, l, h => by
    have : fstB P 0 = 0 := rfl
    omega
  | n + 1, l, h => by
    have ih := fst_no P n
    have le := fst_le P n
    unfold fstB at h
    split at h
    · exact ih l h
    · split at h
      · exact ih l (by omega)
      · next h1 h2 =>
        rcases Nat.lt_or_ge l n with z | z
        · exact ih l (by omega)
        · rw [show l = n by omega]
          exact Bool.eq_false_iff.mpr h2
theorem fst_ok (P : Nat → Bool) : ∀ n, fstB P n < n → P (fstB P n) = true
  | 0, h => by omega
  | n + 1, h => by
    have ih := fst_ok P n
    unfold fstB at h ⊢
    split
    · next h1 => exact ih h1
    · split
      · next h2 => exact h2
      · next h1 h2 =>
        rw [if_neg h1, if_neg h2] at h
        omega
theorem fst_lt {P : Nat → Bool} {n l : Nat} (hl : l < n) (h : P l = true) : fstB P n < n := by
  rcases Nat.lt_or_ge (fstB P n) n with z | z
  · exact z
  · rw [fst_no P n l (by omega)] at h
    cases h
theorem fst_eq {P : Nat → Bool} {n l : Nat} (hl : l < n) (h : P l = true) (hn : ∀ j, j < l → P j = false) : fstB P n = l := by
  have h1 := fst_ok P n (fst_lt hl h)
  rcases Nat.lt_trichotomy (fstB P n) l with z | z | z
  · rw [hn _ z] at h1
    cases h1
  · exact z
  · rw [fst_no P n l z] at h
    cases h
end FST
section CHV
/-- the number of a node among those that were found -/
def idx (q : Nat → Nat) (n y : Nat) : Nat := fstB (fun j => decide (q j = y)) n
def nxI (N : Nat → Nat → Option Nat) (q : Nat → Nat) (n i l : Nat) : Option Nat := match N (q i) l with
  | none => none
  | some y => some (idx q n y)
variable {N : Nat → Nat → Option Nat} {q pa la dp : Nat → Nat} {n : Nat}
theorem idx_q (hi : ∀ i j, i < n → j < n → q i = q j → i = j) {j : Nat} (hj : j < n) : idx q n (q j) = j := fst_eq hj (decide_eq_true rfl) (fun i h => decide_eq_false (fun e => by
  have := hi i j (by omega) hj e
  omega))
theorem nxI_n {i l : Nat} (h : N (q i) l = none) : nxI N q n i l = none := by
  unfold nxI
  rw [h]
theorem nxI_s (hi : ∀ i j, i < n → j < n → q i = q j → i = j) {i l j : Nat} (hj : j < n) (h : N (q i) l = some (q j)) : nxI N q n i l = some j := by
  unfold nxI
  rw [h]
  show some (idx q n (q j)) = _
  rw [idx_q hi hj]
theorem nxI_o (hB : BF N q pa la dp n n 0) {i l j : Nat} (hin : i < n) (hl : l < 8) (h : nxI N q n i l = some j) : j < n ∧ N (q i) l = some (q j) := by
  cases hN : N (q i) l with
  | none =>
    rw [nxI_n hN] at h
    cases h
  | some y =>
    obtain ⟨j', j1, j2, -⟩ := hB.ed (Or.inl hin) hin hl hN
    have e : N (q i) l = some (q j') := by rw [hN, j2]
    rw [nxI_s hB.2.1 j1 e] at h
    have := Option.some.inj h
    subst this
    exact ⟨j1, by rw [j2]⟩
variable {A : Nat → Int32} {F : Nat → Bool} {p m : Nat} {one two : Int32}
def wtI (A : Nat → Int32) (F : Nat → Bool) (p m : Nat) (q : Nat → Nat) (n i l : Nat) : Nat := if i < n then (match nxS A F p m (q i) l with | none => 1 | some y => 1024 * csS A p m (q i) y + 1) else 1
theorem wtI_s {i l y : Nat} (hi : i < n) (h : nxS A F p m (q i) l = some y) : wtI A F p m q n i l = 1024 * csS A p m (q i) y + 1 := by
  unfold wtI
  rw [if_pos hi, h]
theorem wtI_le (hA : Dm A) (hq : ∀ i, i < n → stB A F p (q i) = true) (i l : Nat) : wtI A F p m q n i l ≤ 202753 := by
  unfold wtI
  split
  · next hi =>
    obtain ⟨⟨q1, q2, -⟩, -⟩ := stB_iff.mp (hq i hi)
    split
    · decide
    · next y hy =>
      have := csS_le hA (p := p) (m := m) (stB_lt hA (hq i hi)) (stB_lt hA (nx_ok hA q1 q2 hy))
      omega
  · decide
theorem wL_bd {P : Nat → Bool} {E : Nat → Nat → Option Nat} {w : Nat → Nat → Nat} {v : Nat → Nat} {n W Fa : Nat} (hW : ∀ s l, P s = true → w s l ≤ W) (h0 : ∀ s, v s = 0 ∨ v s = Fa) (hP : ∀ x, P x = true → x < n) : ∀ (M s : Nat), wL P E w n M v s < Fa → wL P E w n M v s ≤ M * W
  | 0, s, h => by
    have h' : v s < Fa := h
    have e : wL P E w n 0 v s = v s := rfl
    rw [e]
    rcases h0 s with z | z
    · omega
    · omega
  | M + 1, s, h => by
    have e0 : (M + 1) * W = M * W + W := Nat.succ_mul M W
    by_cases hp : P s = true
    · have e : wL P E w n (M + 1) v s = wmn (wL P E w n M v) E w s 8 := by
        show sw_j (wgT P E w) id n (wL P E w n M v) s = _
        rw [show sw_j (wgT P E w) id n (wL P E w n M v) s = wgT P E w (wL P E w n M v) s from if_pos (hP s hp)]
        exact if_pos hp
      rcases wmn_or (v := wL P E w n M v) (E := E) (w := w) (s := s) 8 with z | ⟨l, y, a, b, c⟩
      · rw [e, z] at h ⊢
        have := wL_bd hW h0 hP M s h
        omega
      · rw [e, c] at h ⊢
        have := wL_bd (E := E) hW h0 hP M y (by omega)
        have := hW s l hp
        omega
    · have e : wL P E w n (M + 1) v s = wL P E w n M v s := by
        show sw_j (wgT P E w) id n (wL P E w n M v) s = _
        unfold sw_j wgT
        rw [if_neg hp]
        split <;> rfl
      rw [e] at h ⊢
      have := wL_bd hW h0 hP M s h
      omega
theorem wS_1 {s l y : Nat} (h : nxS A F p m s l = some y) : wS A F p m 1 s l = 10000 * csS A p m s y + 1 := by
  unfold wS
  rw [if_neg (by decide), h]
theorem v0S_or (P : Nat → Bool) (one two : Int32) (s : Nat) : v0S P one two s = 0 ∨ v0S P one two s = 1073741824 := by
  unfold v0S
  split
  · exact Or.inl rfl
  · exact Or.inr rfl
theorem L1_dec (hA : Dm A) {s : Nat} (h : LSf A F p m 1 one two s < 1073741824) : ∃ c k, LSf A F p m 1 one two s = 10000 * c + k ∧ k ≤ 232 ∧ LSf A F p m 1 one two s ≤ 459360232 := by
  have a1 := wL_sc (P := stB A F p) (E := nxS A F p m) (w := wS A F p m 1) (v := v0S (stB A F p) one two) (n := 1296) (K := 10000) (F := 1073741824) (fun s l => by
    unfold wS
    rw [if_neg (by decide)]
    exact ⟨_, rfl⟩) (v0S_or _ _ _) (fun x hx => stB_lt hA hx) 232 s h
  have a2 := wL_bd (P := stB A F p) (E := nxS A F p m) (w := wS A F p m 1) (v := v0S (stB A F p) one two) (n := 1296) (W := 1980001) (Fa := 1073741824) (fun s l hs => by
    obtain ⟨⟨q1, q2, -⟩, -⟩ := stB_iff.mp hs
    exact wS_le hA q1 q2) (v0S_or _ _ _) (fun x hx => stB_lt hA hx) 232 s h
  obtain ⟨c, k, k1, k2⟩ := a1
  exact ⟨c, k, k2, k1, a2⟩
/-- the same by the other scale -/
def Lp (A : Nat → Int32) (F : Nat → Bool) (p m : Nat) (one two : Int32) (s : Nat) : Nat := 1024 * (LSf A F p m 1 one two s / 10000) + LSf A F p m 1 one two s % 10000
theorem dec1 (hA : Dm A) (hs : sp A p ≤ 10) {s l y : Nat} (hP : stB A F p s = true) (hl : l < 8) (hN : nxS A F p m s l = some y) (hF : LSf A F p m 1 one two y < 1073741824) : LSf A F p m 1 one two s < 1073741824 ∧ Lp A F p m one two s ≤ Lp A F p m one two y + (1024 * csS A p m s y + 1) ∧ (Lp A F p m one two s = Lp A F p m one two y + (1024 * csS A p m s y + 1) ↔ LSf A F p m 1 one two y + wS A F p m 1 s l = LSf A F p m 1 one two s) := by
  obtain ⟨⟨q1, q2, -⟩, -⟩ := stB_iff.mp hP
  have c1 := csS_le hA (p := p) (m := m) (stB_lt hA hP) (stB_lt hA (nx_ok hA q1 q2 hN))
  have a1 := LS_1 (ch := 1) hA hs one two hP hl hN
  rw [wS_1 hN] at a1 ⊢
  obtain ⟨c2, k2, d1, d2, d3⟩ := L1_dec hA hF
  have f1 : LSf A F p m 1 one two s < 1073741824 := by omega
  obtain ⟨c3, k3, e1, e2, e3⟩ := L1_dec hA f1
  refine ⟨f1, ?_⟩
  unfold Lp
  generalize LSf A F p m 1 one two s = x at *
  generalize LSf A F p m 1 one two y = z at *
  generalize csS A p m s y = k at *
  have u1 : x / 10000 = c3 := by omega
  have u2 : x % 10000 = k3 := by omega
  have u3 : z / 10000 = c2 := by omega
  have u4 : z % 10000 = k2 := by omega
  rw [u1, u2, u3, u4]
  omega
variable {len ord : Nat → Nat}
theorem chp_le (hA : Dm A) (hs : sp A p ≤ 10) (hB : BF (nxS A F p m) q pa la dp n n 0) (hq : ∀ i, i < n → stB A F p (q i) = true) (hD : DF (nxI (nxS A F p m) q n) (wtI A F p m q n) n len ord) : ∀ v, v < n → LSf A F p m 1 one two (q v) < 1073741824 → LSf A F p m 1 one two (q 0) < 1073741824 ∧ Lp A F p m one two (q 0) ≤ len v + Lp A F p m one two (q v) := by
  have : ∀ k v, v < n → len v = k → LSf A F p m 1 one two (q v) < 1073741824 → LSf A F p m 1 one two (q 0) < 1073741824 ∧ Lp A F p m one two (q 0) ≤ len v + Lp A F p m one two (q v) := fun k => by
    induction k using Nat.strongRecOn with
    | _ k ih =>
      intro v hv e hF
      rcases hD.2.2.2.2.1 v hv with z | ⟨u, l, u1, u2, u3, u4⟩
      · rw [z] at hF ⊢
        exact ⟨hF, by omega⟩
      · obtain ⟨-, o2⟩ := nxI_o hB u1 u2 u3
        rw [wtI_s u1 o2] at u4
        obtain ⟨d1, d2, -⟩ := dec1 hA hs (hq u u1) u2 o2 hF
        obtain ⟨i1, i2⟩ := ih (len u) (by omega) u u1 rfl d1
        exact ⟨i1, by omega⟩
  exact fun v hv h => this _ v hv rfl h
theorem chp_ge (hA : Dm A) (hs : sp A p ≤ 10) (hB : BF (nxS A F p m) q pa la dp n n 0) (hq : ∀ i, i < n → stB A F p (q i) = true) (hD : DF (nxI (nxS A F p m) q n) (wtI A F p m q n) n len ord) : ∀ u, u < n → LSf A F p m 1 one two (q u) < 1073741824 → ∃ v, v < n ∧ fitB (q v) one two = true ∧ len v ≤ len u + Lp A F p m one two (q u) := by
  have : ∀ k u, u < n → LSf A F p m 1 one two (q u) = k → LSf A F p m 1 one two (q u) < 1073741824 → ∃ v, v < n ∧ fitB (q v) one two = true ∧ len v ≤ len u + Lp A F p m one two (q u) := fun k => by
    induction k using Nat.strongRecOn with
    | _ k ih =>
      intro u hu e hF
      rcases Nat.eq_zero_or_pos (LSf A F p m 1 one two (q u)) with z | z
      · exact ⟨u, hu, (LS_0 hA hs one two (hq u hu)).mp z, by omega⟩
      · obtain ⟨l, y, -, l1, l2, l3⟩ := LS_2 hA hs one two z hF
        obtain ⟨j, j1, j2, -⟩ := hB.ed (Or.inl hu) hu l1 l2
        have w0 := wS_pos (A := A) (F := F) (p := p) (m := m) (ch := 1) (q u) l
        subst j2
        obtain ⟨d1, d2, d3⟩ := dec1 hA hs (hq u hu) l1 l2 (one := one) (two := two) (by omega)
        have d4 := d3.mpr l3
        have x := hD.2.2.2.2.2.1 u l j hu l1 (nxI_s hB.2.1 j1 l2)
        rw [wtI_s hu l2] at x
        obtain ⟨v, v1, v2, v3⟩ := ih (LSf A F p m 1 one two (q j)) (by omega) j j1 rfl (by omega)
        exact ⟨v, v1, v2, by omega⟩
  exact fun u hu h => this _ u hu rfl h
/-- found: the first in the order that fits is as far as the numbers tell -/
theorem chp_found (hA : Dm A) (hs : sp A p ≤ 10) (hB : BF (nxS A F p m) q pa la dp n n 0) (hq : ∀ i, i < n → stB A F p (q i) = true) (hD : DF (nxI (nxS A F p m) q n) (wtI A F p m q n) n len ord) {i : Nat} (hi : i < n) (hf : fitB (q (ord i)) one two = true) (hno : ∀ j, j < i → fitB (q (ord j)) one two = false) : LSf A F p m 1 one two (q 0) < 1073741824 ∧ Lp A F p m one two (q 0) = len (ord i) := by
  have o1 := hD.1 i hi
  have z := (LS_0 (m := m) (ch := 1) hA hs one two (hq _ o1)).mpr hf
  obtain ⟨a1, a2⟩ := chp_le (one := one) (two := two) hA hs hB hq hD _ o1 (by omega)
  refine ⟨a1, Nat.le_antisymm ?_ ?_⟩
  · have : Lp A F p m one two (q (ord i)) = 0 := by
      unfold Lp
      rw [z]
    omega
  · obtain ⟨v, v1, v2, v3⟩ := chp_ge (one := one) (two := two) hA hs hB hq hD 0 hB.1.1 a1
    obtain ⟨j, j1, j2⟩ := hD.2.2.1 v v1
    rw [hD.2.2.2.1] at v3
    rw [← j2] at v2 v3
    rcases Nat.lt_trichotomy j i with w | w | w
    · rw [hno j w] at v2
      cases v2
    · rw [w] at v3
      omega
    · have := hD.2.2.2.2.2.2.1 i j w j1
      omega
theorem chp_none (hA : Dm A) (hs : sp A p ≤ 10) (hB : BF (nxS A F p m) q pa la dp n n 0) (hq : ∀ i, i < n → stB A F p (q i) = true) (hD : DF (nxI (nxS A F p m) q n) (wtI A F p m q n) n len ord) (hno : ∀ j, j < n → fitB (q (ord j)) one two = false) : LSf A F p m 1 one two (q 0) = 1073741824 := by
  refine Nat.le_antisymm (LS_le one two _) (Nat.not_lt.mp (fun z => ?_))
  obtain ⟨v, v1, v2, v3⟩ := chp_ge (one := one) (two := two) hA hs hB hq hD 0 hB.1.1 z
  obtain ⟨j, j1, j2⟩ := hD.2.2.1 v v1
  rw [← j2, hno j j1] at v2
  cases v2
/-- on the way -/
def gdP (A : Nat → Int32) (F : Nat → Bool) (p m : Nat) (one two : Int32) (q len : Nat → Nat) (v : Nat) : Prop := LSf A F p m 1 one two (q v) < 1073741824 ∧ len v + Lp A F p m one two (q v) = Lp A F p m one two (q 0)
theorem good_on (hA : Dm A) (hs : sp A p ≤ 10) (hB : BF (nxS A F p m) q pa la dp n n 0) (hq : ∀ i, i < n → stB A F p (q i) = true) (hD : DF (nxI (nxS A F p m) q n) (wtI A F p m q n) n len ord) {s l t : Nat} (hsn : s < n) (hl : l < 8) (hx : nxI (nxS A F p m) q n s l = some t) (hg : gdP A F p m one two q len s) : (gdP A F p m one two q len t ∧ len s + wtI A F p m q n s l = len t) ↔ LSf A F p m 1 one two (q t) + wS A F p m 1 (q s) l = LSf A F p m 1 one two (q s) := by
  obtain ⟨o1, o2⟩ := nxI_o hB hsn hl hx
  rw [wtI_s hsn o2]
  have w0 := wS_pos (A := A) (F := F) (p := p) (m := m) (ch := 1) (q s) l
  constructor
  · rintro ⟨⟨g1, g2⟩, g3⟩
    obtain ⟨d1, d2, d3⟩ := dec1 hA hs (hq s hsn) hl o2 g1
    have := hg.2
    exact d3.mp (by omega)
  · intro e
    have f1 : LSf A F p m 1 one two (q t) < 1073741824 := by
      have := hg.1
      omega
    obtain ⟨d1, d2, d3⟩ := dec1 hA hs (hq s hsn) hl o2 f1
    have d4 := d3.mpr e
    have x := hD.2.2.2.2.2.1 s l t hsn hl hx
    rw [wtI_s hsn o2] at x
    have y := (chp_le hA hs hB hq hD t o1 f1).2
    have z := hg.2
    exact ⟨⟨f1, by omega⟩, by omega⟩
theorem good_of (hA : Dm A) (hs : sp A p ≤ 10) (hB : BF (nxS A F p m) q pa la dp n n 0) (hq : ∀ i, i < n → stB A F p (q i) = true) (hD : DF (nxI (nxS A F p m) q n) (wtI A F p m q n) n len ord) {s l t : Nat} (hsn : s < n) (hl : l < 8) (hx : nxI (nxS A F p m) q n s l = some t) (hg : gdP A F p m one two q len t) (e : len s + wtI A F p m q n s l = len t) : gdP A F p m one two q len s := by
  obtain ⟨o1, o2⟩ := nxI_o hB hsn hl hx
  rw [wtI_s hsn o2] at e
  obtain ⟨d1, d2, -⟩ := dec1 hA hs (hq s hsn) hl o2 hg.1
  have y := (chp_le hA hs hB hq hD s hsn d1).2
  have := hg.2
  exact ⟨d1, by omega⟩
theorem good_ex (hA : Dm A) (hs : sp A p ≤ 10) (hB : BF (nxS A F p m) q pa la dp n n 0) {s : Nat} (hsn : s < n) (hg : gdP A F p m one two q len s) (h0 : 0 < LSf A F p m 1 one two (q s)) : ∃ l t, l < 8 ∧ nxI (nxS A F p m) q n s l = some t ∧ LSf A F p m 1 one two (q t) + wS A F p m 1 (q s) l = LSf A F p m 1 one two (q s) := by
  obtain ⟨l, y, -, l1, l2, l3⟩ := LS_2 hA hs one two h0 hg.1
  obtain ⟨j, j1, j2, -⟩ := hB.ed (Or.inl hsn) hsn l1 l2
  subst j2
  exact ⟨l, j, l1, nxI_s hB.2.1 j1 l2, l3⟩
/-- the leads, each the first that goes on -/
def onB (N : Nat → Nat → Option Nat) (w : Nat → Nat → Nat) (L : Nat → Nat) (c l : Nat) : Bool := match N c l with
  | none => false
  | some y => decide (L y + w c l = L c)
def gS (N : Nat → Nat → Option Nat) (w : Nat → Nat → Nat) (L : Nat → Nat) (y0 : Nat) : Nat → Nat
  | 0 => y0
  | k + 1 => match N (gS N w L y0 k) (fstB (onB N w L (gS N w L y0 k)) 8) with
    | none => gS N w L y0 k
    | some y => y
def gQ (N : Nat → Nat → Option Nat) (w : Nat → Nat → Nat) (L : Nat → Nat) (y0 k : Nat) : Nat := fstB (onB N w L (gS N w L y0 k)) 8
theorem onB_iff {w : Nat → Nat → Nat} {L : Nat → Nat} {c l : Nat} : onB N w L c l = true ↔ ∃ y, N c l = some y ∧ L y + w c l = L c := by
  unfold onB
  cases N c l with
  | none => simp
  | some y => simp
theorem gS_s {w : Nat → Nat → Nat} {L : Nat → Nat} {y0 k z : Nat} (h : N (gS N w L y0 k) (gQ N w L y0 k) = some z) : gS N w L y0 (k + 1) = z := by
  show (match N (gS N w L y0 k) (fstB (onB N w L (gS N w L y0 k)) 8) with | none => gS N w L y0 k | some y => y) = z
  unfold gQ at h
  rw [h]
theorem gS_seq {w : Nat → Nat → Nat} {L : Nat → Nat} {P : Nat → Bool} {y0 : Nat} (hP : ∀ s l y, P s = true → N s l = some y → P y = true) (hw : ∀ s l, ∃ c, w s l = 10000 * c + 1) (hd : ∀ s, L s < 1073741824 → L s % 10000 ≤ 232) (h2 : ∀ s, 0 < L s → L s < 1073741824 → ∃ l y, l < 8 ∧ N s l = some y ∧ L y + w s l = L s) (hb : ∀ s, P s = true → s < 1296) (hy : P y0 = true) (hF : L y0 < 1073741824) : Sq N w L P (gS N w L y0) (gQ N w L y0) (L y0 % 10000) := by
  have one_ : ∀ k, L (gS N w L y0 k) < 1073741824 → 0 < L (gS N w L y0 k) → gQ N w L y0 k < 8 ∧ N (gS N w L y0 k) (gQ N w L y0 k) = some (gS N w L y0 (k + 1)) ∧ L (gS N w L y0 (k + 1)) + w (gS N w L y0 k) (gQ N w L y0 k) = L (gS N w L y0 k) := fun k h3 h4 => by
    obtain ⟨l, y, l1, l2, l3⟩ := h2 _ h4 h3
    have lt := fst_lt (P := onB N w L (gS N w L y0 k)) l1 (onB_iff.mpr ⟨y, l2, l3⟩)
    obtain ⟨z, z1, z2⟩ := onB_iff.mp (fst_ok _ 8 lt)
    have e : gS N w L y0 (k + 1) = z := gS_s z1
    rw [e]
    exact ⟨lt, z1, z2⟩
  have step : ∀ k, k ≤ L y0 % 10000 → P (gS N w L y0 k) = true ∧ L (gS N w L y0 k) < 1073741824 ∧ L (gS N w L y0 k) % 10000 + k = L y0 % 10000 := by
    intro k
    induction k with
    | zero =>
      intro _
      exact ⟨hy, hF, rfl⟩
    | succ k ih =>
      intro hk
      obtain ⟨a1, a2, a3⟩ := ih (by omega)
      obtain ⟨b1, b2, b3⟩ := one_ k a2 (Nat.pos_of_ne_zero (fun z => by rw [z] at a3; omega))
      obtain ⟨c, hc⟩ := hw (gS N w L y0 k) (gQ N w L y0 k)
      rw [hc] at b3
      have c2 : L (gS N w L y0 (k + 1)) < 1073741824 := by omega
      have d1 := hd _ c2
      have d2 := hd _ a2
      exact ⟨hP _ _ _ a1 b2, c2, by omega⟩
  refine ⟨fun k hk => ?_, ?_, ?_⟩
  · obtain ⟨a1, a2, a3⟩ := step k (by omega)
    have p0 : 0 < L (gS N w L y0 k) := Nat.pos_of_ne_zero (fun z => by rw [z] at a3; omega)
    obtain ⟨b1, b2, b3⟩ := one_ k a2 p0
    refine ⟨a1, p0, a2, b1, b2, b3, fun l' y h1 h2 h3 => ?_⟩
    have := fst_no _ 8 l' h1
    rw [onB_iff.mpr ⟨y, h2, h3⟩] at this
    cases this
  · obtain ⟨a1, a2, a3⟩ := step _ (Nat.le_refl _)
    rcases Nat.eq_zero_or_pos (L (gS N w L y0 (L y0 % 10000))) with z | z
    · exact z
    · exfalso
      obtain ⟨l, y, l1, l2, l3⟩ := h2 _ z a2
      obtain ⟨c, hc⟩ := hw (gS N w L y0 (L y0 % 10000)) l
      rw [hc] at l3
      have d1 := hd y (by omega)
      have d2 := hd _ a2
      omega
  · exact hb _ (step _ (Nat.le_refl _)).1
theorem ch_seq (hA : Dm A) (hs : sp A p ≤ 10) {y0 : Nat} (hy : stB A F p y0 = true) (hF : LSf A F p m 1 one two y0 < 1073741824) : Sq (nxS A F p m) (wS A F p m 1) (LSf A F p m 1 one two) (stB A F p) (gS (nxS A F p m) (wS A F p m 1) (LSf A F p m 1 one two) y0) (gQ (nxS A F p m) (wS A F p m 1) (LSf A F p m 1 one two) y0) (LSf A F p m 1 one two y0 % 10000) := by
  refine gS_seq (fun s l y h1 h2 => ?_) (fun s l => ?_) (fun s h => ?_) (fun s h1 h2 => ?_) (fun s h => stB_lt hA h) hy hF
  · obtain ⟨⟨q1, q2, -⟩, -⟩ := stB_iff.mp h1
    exact nx_ok hA q1 q2 h2
  · unfold wS
    rw [if_neg (by decide)]
    exact ⟨_, rfl⟩
  · obtain ⟨c, k, d1, d2, -⟩ := L1_dec hA h
    omega
  · obtain ⟨l, y, -, l1, l2, l3⟩ := LS_2 hA hs one two h1 h2
    exact ⟨l, y, l1, l2, l3⟩
end CHV
