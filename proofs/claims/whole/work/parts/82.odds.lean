/-! NUMBERS FOR EACH STAND that go on lead by lead: sums. -/
section ODP
theorem lNa (a b : Nat) : lN a + lN b = lN (a + b) := (Int64.ofNat_add a b).symm
theorem lNm (a b : Nat) : lN a * lN b = lN (a * b) := (Int64.ofNat_mul a b).symm
theorem sN_s (f : Nat → Nat) (n : Nat) : sumN f (n + 1) = sumN f n + f n := rfl
theorem sN_congr {f h : Nat → Nat} : ∀ {n : Nat}, (∀ i, i < n → f i = h i) → sumN f n = sumN h n
  | 0, _ => rfl
  | n + 1, e => by
    rw [sN_s, sN_s, sN_congr (fun i hi => e i (by omega)), e n (Nat.lt_succ_self _)]
theorem sN_0 {f : Nat → Nat} : ∀ {n : Nat}, (∀ i, i < n → f i = 0) → sumN f n = 0
  | 0, _ => rfl
  | n + 1, e => by
    rw [sN_s, sN_0 (fun i hi => e i (by omega)), e n (Nat.lt_succ_self _)]
theorem sN_mo {f h : Nat → Nat} : ∀ {n : Nat}, (∀ i, i < n → f i ≤ h i) → sumN f n ≤ sumN h n
  | 0, _ => Nat.le_refl _
  | n + 1, e => by
    have := sN_mo (f := f) (h := h) (n := n) (fun i hi => e i (by omega))
    have := e n (Nat.lt_succ_self _)
    rw [sN_s, sN_s]
    omega
theorem sN_add (f h : Nat → Nat) : ∀ n, sumN (fun i => f i + h i) n = sumN f n + sumN h n
  | 0 => rfl
  | n + 1 => by
    rw [sN_s, sN_s, sN_s, sN_add f h n]
    omega
theorem sN_mul (k : Nat) (f : Nat → Nat) : ∀ n, sumN (fun i => k * f i) n = k * sumN f n
  | 0 => rfl
  | n + 1 => by
    rw [sN_s, sN_s, sN_mul k f n, Nat.mul_add]
theorem sN_swap (f : Nat → Nat → Nat) (m : Nat) : ∀ n, sumN (fun i => sumN (f i) m) n = sumN (fun j => sumN (fun i => f i j) n) m
  | 0 => (sN_0 (fun _ _ => rfl)).symm
  | n + 1 => by
    rw [sN_s, sN_swap f m n, ← sN_add]
    exact sN_congr (fun j _ => rfl)
theorem sN_ge {f : Nat → Nat} {j : Nat} : ∀ {n : Nat}, j < n → f j ≤ sumN f n
  | 0, h => by omega
  | n + 1, h => by
    rw [sN_s]
    rcases Nat.lt_or_ge j n with z | z
    · have := sN_ge (f := f) z
      omega
    · rw [show j = n by omega]
      omega
theorem sN_pt {f : Nat → Nat} {x v : Nat} (hx : f x = 0) : ∀ {n : Nat}, x < n → sumN (fun c => if c = x then v else f c) n = sumN f n + v
  | 0, h => by omega
  | n + 1, h => by
    rw [sN_s, sN_s]
    rcases Nat.lt_or_ge x n with z | z
    · rw [sN_pt hx z, if_neg (by omega)]
      omega
    · have e : x = n := by omega
      subst e
      rw [if_pos rfl, hx, sN_congr (h := f) (fun i hi => if_neg (by omega))]
      rfl
/-- a sum over codes that are numbered is a sum over the numbers -/
theorem sN_re {q : Nat → Nat} {n m : Nat} {f : Nat → Nat} (hi : ∀ i j, i < n → j < n → q i = q j → i = j) (hq : ∀ i, i < n → q i < m) : ∀ k, k ≤ n → sumN (fun c => if pB q k c = true then f c else 0) m = sumN (fun i => f (q i)) k
  | 0, _ => sN_0 (fun c _ => by rw [pB_f.mpr (fun a ha => by omega), if_neg (by decide)])
  | k + 1, hk => by
    have ih := sN_re (f := f) hi hq k (by omega)
    rw [sN_s, ← ih]
    have nk : (fun c => if pB q k c = true then f c else 0) (q k) = 0 := by
      show (if pB q k (q k) = true then f (q k) else 0) = 0
      rw [pB_f.mpr (fun a ha e => by
        have := hi a k (by omega) (by omega) e
        omega), if_neg (by decide)]
    rw [← sN_pt (f := fun c => if pB q k c = true then f c else 0) (v := f (q k)) nk (hq k (by omega))]
    refine sN_congr (fun c _ => ?_)
    by_cases e : c = q k
    · rw [if_pos e, if_pos (pB_iff.mpr ⟨k, by omega, e.symm⟩), e]
    · rw [if_neg e]
      have : pB q (k + 1) c = pB q k c := by
        rw [Bool.eq_iff_iff, pB_iff, pB_iff]
        constructor
        · rintro ⟨a, a1, a2⟩
          refine ⟨a, ?_, a2⟩
          rcases Nat.eq_or_lt_of_le (Nat.le_of_lt_succ a1) with u | u
          · rw [u] at a2
            exact absurd a2.symm e
          · exact u
        · rintro ⟨a, a1, a2⟩
          exact ⟨a, by omega, a2⟩
      rw [this]
theorem sN_re' {q : Nat → Nat} {n m : Nat} {f : Nat → Nat} (hi : ∀ i j, i < n → j < n → q i = q j → i = j) (hq : ∀ i, i < n → q i < m) (h0 : ∀ c, c < m → (∀ i, i < n → q i ≠ c) → f c = 0) : sumN f m = sumN (fun i => f (q i)) n := by
  rw [← sN_re hi hq n (Nat.le_refl _)]
  refine sN_congr (fun c hc => ?_)
  cases hp : pB q n c with
  | true => rw [if_pos rfl]
  | false => rw [if_neg (by decide), h0 c hc (pB_f.mp hp)]
/-- how many leads can be; how many lead to c -/
def canN (N : Nat → Nat → Option Nat) (s : Nat) : Nat → Nat
  | 0 => 0
  | k + 1 => canN N s k + (if N s k = none then 0 else 1)
def ldN (N : Nat → Nat → Option Nat) (s c : Nat) : Nat → Nat
  | 0 => 0
  | k + 1 => ldN N s c k + (if N s k = some c then 1 else 0)
def shN (N : Nat → Nat → Option Nat) (sh s : Nat) : Nat := if sh = 0 then 1 else sh / canN N s 8
def cbV (N : Nat → Nat → Option Nat) (sh s c : Nat) : Nat := if canN N s 8 = 0 then (if c = s then sh else 0) else shN N sh s * ldN N s c 8
def nxV (N : Nat → Nat → Option Nat) (sh m : Nat) (f : Nat → Nat) (c : Nat) : Nat := sumN (fun s => f s * cbV N sh s c) m
variable {N : Nat → Nat → Option Nat}
theorem canN_le (s : Nat) : ∀ k, canN N s k ≤ k
  | 0 => Nat.le_refl _
  | k + 1 => by
    have := canN_le s k
    unfold canN
    split <;> omega
theorem ld_sum {s m : Nat} : ∀ k, sumN (fun c => ldN N s c k) m ≤ canN N s k
  | 0 => by
    rw [sN_0 (f := fun c => ldN N s c 0) (fun _ _ => rfl)]
    exact Nat.zero_le _
  | k + 1 => by
    have ih := ld_sum (s := s) (m := m) k
    have e : sumN (fun c => ldN N s c (k + 1)) m = sumN (fun c => ldN N s c k) m + sumN (fun c => if N s k = some c then 1 else 0) m := sN_add _ _ m
    rw [e]
    show _ ≤ canN N s k + (if N s k = none then 0 else 1)
    cases h : N s k with
    | none =>
      rw [if_pos rfl, sN_0 (fun c _ => if_neg (by intro u; cases u))]
      omega
    | some y =>
      have one : sumN (fun c => if (some y : Option Nat) = some c then 1 else 0) m ≤ 1 := by
        by_cases hy : y < m
        · have := sN_pt (f := fun _ => 0) (x := y) (v := 1) rfl hy
          rw [sN_0 (fun _ _ => rfl)] at this
          rw [sN_congr (h := fun c => if c = y then 1 else 0) (fun c _ => by
            by_cases e : c = y
            · rw [if_pos e, if_pos (by rw [e])]
            · rw [if_neg e, if_neg (fun u => e (Option.some.inj u).symm)]), this]
          exact Nat.le_refl _
        · rw [sN_0 (fun c hc => if_neg (fun u => by
            have := Option.some.inj u
            omega))]
          omega
      rw [if_neg (by intro u; cases u)]
      omega
theorem cb_sum {sh s m : Nat} : sumN (cbV N sh s) m ≤ (if sh = 0 then 8 else sh) := by
  have cl := canN_le (N := N) s 8
  by_cases h : canN N s 8 = 0
  · have e : sumN (cbV N sh s) m = sumN (fun c => if c = s then sh else 0) m := sN_congr (fun c _ => by unfold cbV; rw [if_pos h])
    rw [e]
    by_cases hs : s < m
    · have := sN_pt (f := fun _ => 0) (x := s) (v := sh) rfl hs
      rw [sN_0 (fun _ _ => rfl)] at this
      rw [this]
      split <;> omega
    · rw [sN_0 (fun c hc => if_neg (by omega))]
      exact Nat.zero_le _
  · have e : sumN (cbV N sh s) m = shN N sh s * sumN (fun c => ldN N s c 8) m := by
      rw [← sN_mul]
      exact sN_congr (fun c _ => by unfold cbV; rw [if_neg h])
    have l := ld_sum (N := N) (s := s) (m := m) 8
    rw [e]
    refine Nat.le_trans (Nat.mul_le_mul_left _ l) ?_
    unfold shN
    split
    · omega
    · exact Nat.div_mul_le_self _ _
theorem mass {sh m : Nat} (f : Nat → Nat) : sumN (nxV N sh m f) m ≤ (if sh = 0 then 8 else sh) * sumN f m := by
  have e : sumN (nxV N sh m f) m = sumN (fun s => f s * sumN (cbV N sh s) m) m := by
    unfold nxV
    rw [sN_swap (fun c s => f s * cbV N sh s c) m m]
    exact sN_congr (fun s _ => sN_mul (f s) (cbV N sh s) m)
  rw [e, ← sN_mul]
  refine sN_mo (fun s _ => ?_)
  rw [Nat.mul_comm]
  exact Nat.mul_le_mul_right _ cb_sum
def itV (N : Nat → Nat → Option Nat) (sh m : Nat) (f : Nat → Nat) : Nat → Nat → Nat
  | 0 => f
  | k + 1 => nxV N sh m (itV N sh m f k)
theorem mass_it {sh m : Nat} (f : Nat → Nat) : ∀ k, sumN (itV N sh m f k) m ≤ (if sh = 0 then 8 else sh) ^ k * sumN f m
  | 0 => by
    show sumN f m ≤ _
    rw [Nat.pow_zero, Nat.one_mul]
    exact Nat.le_refl _
  | k + 1 => by
    have ih := mass_it (sh := sh) (m := m) f k
    refine Nat.le_trans (mass _) ?_
    rw [Nat.pow_succ, Nat.mul_comm (_ ^ k), Nat.mul_assoc]
    exact Nat.mul_le_mul_left _ ih
def dlt (y : Nat) (c : Nat) : Nat := if c = y then 1 else 0
theorem dlt_sum {y m : Nat} (h : y < m) : sumN (dlt y) m = 1 := by
  have := sN_pt (f := fun _ => 0) (x := y) (v := 1) rfl h
  rw [sN_0 (fun _ _ => rfl)] at this
  exact this
/-- the numbers of codes are the numbers of their places -/
def upV (q : Nat → Nat) (n : Nat) (f : Nat → Nat) (c : Nat) : Nat := if pB q n c = true then f (idx q n c) else 0
variable {q pa la dp : Nat → Nat} {n : Nat}
theorem upV_q (hi : ∀ i j, i < n → j < n → q i = q j → i = j) {f : Nat → Nat} {i : Nat} (h : i < n) : upV q n f (q i) = f i := by
  unfold upV
  rw [if_pos (pB_iff.mpr ⟨i, h, rfl⟩), idx_q hi h]
theorem can_eq (hB : BF N q pa la dp n n 0) {i : Nat} (hi : i < n) : ∀ k, k ≤ 8 → canN (nxI N q n) i k = canN N (q i) k
  | 0, _ => rfl
  | k + 1, hk => by
    have ih := can_eq hB hi k (by omega)
    unfold canN
    rw [ih]
    congr 1
    cases h : N (q i) k with
    | none => rw [nxI_n h]
    | some y =>
      obtain ⟨j, j1, j2, -⟩ := hB.ed (Or.inl hi) hi (show k < 8 by omega) h
      rw [nxI_s hB.2.1 j1 (by rw [h, j2])]
      rw [if_neg (by intro u; cases u), if_neg (by intro u; cases u)]
theorem ld_eq (hB : BF N q pa la dp n n 0) {i t : Nat} (hi : i < n) (ht : t < n) : ∀ k, k ≤ 8 → ldN (nxI N q n) i t k = ldN N (q i) (q t) k
  | 0, _ => rfl
  | k + 1, hk => by
    have ih := ld_eq hB hi ht k (by omega)
    unfold ldN
    rw [ih]
    congr 1
    by_cases h : nxI N q n i k = some t
    · rw [if_pos h, if_pos (nxI_o hB hi (by omega) h).2]
    · rw [if_neg h, if_neg (fun u => h (nxI_s hB.2.1 ht u))]
theorem ld_no (hB : BF N q pa la dp n n 0) {i c : Nat} (hi : i < n) (hc : ∀ j, j < n → q j ≠ c) : ∀ k, k ≤ 8 → ldN N (q i) c k = 0
  | 0, _ => rfl
  | k + 1, hk => by
    have ih := ld_no hB hi hc k (by omega)
    unfold ldN
    rw [ih, if_neg (fun u => by
      obtain ⟨j, j1, j2, -⟩ := hB.ed (Or.inl hi) hi (show k < 8 by omega) u
      exact hc j j1 j2)]
theorem nx_up (hB : BF N q pa la dp n n 0) (hq : ∀ i, i < n → q i < 1296) {sh : Nat} (f : Nat → Nat) {c : Nat} (hc : c < 1296) : nxV N sh 1296 (upV q n f) c = upV q n (nxV (nxI N q n) sh n f) c := by
  unfold nxV
  rw [sN_re' (f := fun s => upV q n f s * cbV N sh s c) hB.2.1 hq (fun c' _ hn => by
    show upV q n f c' * _ = 0
    unfold upV
    rw [pB_f.mpr hn, if_neg (by decide), Nat.zero_mul])]
  cases hp : pB q n c with
  | true =>
    obtain ⟨t, t1, t2⟩ := pB_iff.mp hp
    rw [← t2, upV_q hB.2.1 t1]
    refine sN_congr (fun i hi => ?_)
    rw [upV_q hB.2.1 hi]
    congr 1
    unfold cbV shN
    rw [can_eq hB hi 8 (Nat.le_refl _), ld_eq hB hi t1 8 (Nat.le_refl _)]
    have e1 : (if t = i then sh else 0) = (if q t = q i then sh else 0) := by
      by_cases e : t = i
      · rw [if_pos e, if_pos (by rw [e])]
      · rw [if_neg e, if_neg (fun u => e (hB.2.1 t i t1 hi u))]
    rw [e1]
  | false =>
    have hn := pB_f.mp hp
    unfold upV
    rw [hp, if_neg (by decide)]
    refine sN_0 (fun i hi => ?_)
    have : cbV N sh (q i) c = 0 := by
      unfold cbV
      rw [ld_no hB hi hn 8 (Nat.le_refl _), Nat.mul_zero, if_neg (show ¬ c = q i from fun u => hn i hi u.symm)]
      split <;> rfl
    rw [this, Nat.mul_zero]
theorem it_up (hB : BF N q pa la dp n n 0) (hq : ∀ i, i < n → q i < 1296) {sh : Nat} : ∀ k c, c < 1296 → itV N sh 1296 (dlt (q 0)) k c = upV q n (itV (nxI N q n) sh n (dlt 0) k) c
  | 0, c, hc => by
    show dlt (q 0) c = upV q n (dlt 0) c
    cases hp : pB q n c with
    | true =>
      obtain ⟨t, t1, t2⟩ := pB_iff.mp hp
      rw [← t2, upV_q hB.2.1 t1]
      unfold dlt
      by_cases e : t = 0
      · rw [if_pos e, if_pos (show q t = q 0 by rw [e])]
      · rw [if_neg e, if_neg (show ¬ q t = q 0 from fun u => e (hB.2.1 t 0 t1 hB.1.1 u))]
    | false =>
      unfold dlt upV
      rw [hp, if_neg (show ¬ false = true by decide), if_neg (show ¬ c = q 0 from fun u => pB_f.mp hp 0 hB.1.1 u.symm)]
  | k + 1, c, hc => by
    have ih := it_up hB hq (sh := sh) k
    show nxV N sh 1296 (itV N sh 1296 (dlt (q 0)) k) c = upV q n (nxV (nxI N q n) sh n (itV (nxI N q n) sh n (dlt 0) k)) c
    rw [← nx_up hB hq _ hc]
    exact sN_congr (fun s hs => by rw [ih s hs])
/-- a sum over what fits -/
theorem fit_up (hB : BF N q pa la dp n n 0) (hq : ∀ i, i < n → q i < 1296) (F : Nat → Bool) (f : Nat → Nat) : sumN (fun c => if F c = true then upV q n f c else 0) 1296 = sumN (fun i => if F (q i) = true then f i else 0) n := by
  rw [sN_re' (f := fun c => if F c = true then upV q n f c else 0) hB.2.1 hq (fun c _ hn => by
    show (if F c = true then upV q n f c else 0) = 0
    unfold upV
    rw [pB_f.mpr hn, if_neg (show ¬ false = true by decide)]
    split <;> rfl)]
  exact sN_congr (fun i hi => by rw [upV_q hB.2.1 hi])
end ODP
