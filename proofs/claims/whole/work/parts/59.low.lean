/-! THE LOWEST BIT; laws as the class reckons them. -/
theorem bt_neg {x : Int64} {c : Nat} (hc : c < 64) : bt (-x) c = !bt (x - 1) c := by
  have h : ~~~(-x.toBitVec) = x.toBitVec - 1#64 := BitVec.not_neg _
  have h2 : (-x).toBitVec = -x.toBitVec := by simp
  have h3 : (x - 1).toBitVec = x.toBitVec - 1#64 := by simp
  unfold bt
  rw [h2, h3, ← h, BitVec.getLsbD_not, decide_eq_true hc]
  simp
/-- a least bit, and what stands beyond it -/
theorem low_ex {x : Int64} (h : x ≠ 0) : ∃ k, k < 64 ∧ bt x k = true ∧ ∀ j, j < k → bt x j = false := by
  have : ∃ k, k < 64 ∧ bt x k = true := by
    refine Classical.byContradiction (fun hn => h (bt_z.mpr (fun c hc => ?_)))
    cases hb : bt x c with
    | false => rfl
    | true => exact absurd ⟨c, hc, hb⟩ hn
  obtain ⟨k, ⟨k1, k2⟩, k3⟩ := pk_least (fun k => k < 64 ∧ bt x k = true) this
  refine ⟨k, k1, k2, fun j hj => ?_⟩
  cases hb : bt x j with
  | false => rfl
  | true => exact absurd ⟨by omega, hb⟩ (k3 j hj)
theorem low_m1 {x : Int64} {k : Nat} (hk : k < 64) (h1 : bt x k = true) (h0 : ∀ j, j < k → bt x j = false) {c : Nat} (hc : c < 64) : bt (x - 1) c = if c < k then true else if c = k then false else bt x c := by
  obtain ⟨n, hn, rfl⟩ := wb_of x
  have t0 : ∀ c, c < 64 → bt (lN n) c = n.testBit c := fun c hc => by rw [bt_lN, decide_eq_true hc, Bool.true_and]
  have hz : n % 2 ^ k = 0 := by
    apply Nat.eq_of_testBit_eq
    intro i
    rw [Nat.testBit_mod_two_pow, Nat.zero_testBit]
    by_cases hi : i < k
    · rw [← t0 i (by omega), h0 i hi, Bool.and_false]
    · rw [decide_eq_false hi, Bool.false_and]
  have hm : n = 2 ^ k * (n / 2 ^ k) := by
    have := Nat.div_add_mod n (2 ^ k)
    omega
  have ho : (n / 2 ^ k) % 2 = 1 := by
    rw [t0 k hk, Nat.testBit_eq_decide_div_mod_eq] at h1
    exact of_decide_eq_true h1
  have hp : 0 < 2 ^ k := Nat.two_pow_pos k
  generalize hm2 : n / 2 ^ k = m at *
  have hpos : 1 ≤ m := by omega
  have e1 : n - 1 = 2 ^ k * (m - 1) + (2 ^ k - 1) := by
    obtain ⟨j, rfl⟩ : ∃ j, m = j + 1 := ⟨m - 1, by omega⟩
    rw [hm, Nat.mul_add_one, Nat.add_sub_cancel]
    omega
  have hn1 : 1 ≤ n := by
    rw [hm]
    exact Nat.le_trans hp (Nat.le_mul_of_pos_right _ hpos)
  rw [show (1 : Int64) = lN 1 from rfl, lN_sub hn1, bt_lN, decide_eq_true hc, Bool.true_and, e1, Nat.testBit_two_pow_mul_add _ (by omega), t0 c hc]
  by_cases hck : c < k
  · rw [if_pos hck, if_pos hck, Nat.testBit_two_pow_sub_one, decide_eq_true hck]
  · rw [if_neg hck, if_neg hck]
    have e2 : n.testBit c = m.testBit (c - k) := by
      rw [hm, ← Nat.add_zero (2 ^ k * m), Nat.testBit_two_pow_mul_add _ hp, if_neg hck]
    by_cases hce : c = k
    · rw [if_pos hce, hce, Nat.sub_self, Nat.testBit_zero]
      exact decide_eq_false (by omega)
    · rw [if_neg hce, e2]
      obtain ⟨d, hd⟩ : ∃ d, c - k = d + 1 := ⟨c - k - 1, by omega⟩
      rw [hd, Nat.testBit_succ, Nat.testBit_succ]
      congr 1
      omega
theorem low_ix {x : Int64} {k : Nat} (hk : k < 64) (h1 : bt x k = true) (h0 : ∀ j, j < k → bt x j = false) (g : G) : f_J13_bitCount_95d88 ((x &&& (-x)) - (1 : Int64)) g = some (nI k, g) := by
  have e : x &&& (-x) = lN (2 ^ k) := bt_ext (fun c hc => by
    rw [bt_and, bt_neg hc, low_m1 hk h1 h0 hc, bt_lN, decide_eq_true hc, Bool.true_and, Nat.testBit_two_pow]
    by_cases hck : c < k
    · rw [if_pos hck, h0 c hck, decide_eq_false (by omega)]
      rfl
    · rw [if_neg hck]
      by_cases hce : c = k
      · subst hce
        rw [if_pos rfl, h1, decide_eq_true rfl]
        rfl
      · rw [if_neg hce, decide_eq_false (fun q => hce q.symm)]
        cases bt x c <;> rfl)
  have hp : 1 ≤ 2 ^ k := Nat.two_pow_pos k
  rw [e, show (1 : Int64) = lN 1 from rfl, lN_sub hp, j_bitCount]
  congr 3
  have hc : ∀ n, n ≤ 64 → cntB (bt (lN (2 ^ k - 1))) n = if n ≤ k then n else k := by
    intro n
    induction n with
    | zero => intro _; rw [if_pos (Nat.zero_le _)]; rfl
    | succ n ih =>
      intro hn
      rw [cntB, ih (by omega), bt_lN, decide_eq_true (by omega), Bool.true_and, Nat.testBit_two_pow_sub_one]
      by_cases q : n < k
      · rw [if_pos (decide_eq_true q), if_pos (by omega), if_pos (by omega)]
      · rw [if_neg (fun z => q (of_decide_eq_true z)), if_neg (show ¬ n + 1 ≤ k by omega)]
        split <;> omega
  rw [hc 64 (Nat.le_refl _)]
  split <;> omega
theorem low_nx {x : Int64} {k : Nat} (hk : k < 64) (h1 : bt x k = true) (h0 : ∀ j, j < k → bt x j = false) {c : Nat} (hc : c < 64) : bt (x &&& (x - (1 : Int64))) c = (bt x c && decide (k < c)) := by
  rw [bt_and, low_m1 hk h1 h0 hc]
  by_cases hck : c < k
  · rw [if_pos hck, h0 c hck]
    rfl
  · rw [if_neg hck]
    by_cases hce : c = k
    · rw [if_pos hce, hce, decide_eq_false (Nat.lt_irrefl _)]
    · rw [if_neg hce, decide_eq_true (by omega)]
      cases bt x c <;> rfl
/-- truths are 0 or 1 -/
def tyOK : List Bool → List Int32 → Prop
  | [], [] => True
  | b :: ts, x :: st => (b = true → x = 0 ∨ x = 1) ∧ tyOK ts st
  | _, _ => False
theorem tyOK_len : ∀ {ts : List Bool} {st : List Int32}, tyOK ts st → st.length = ts.length
  | [], [], _ => rfl
  | b :: ts, x :: st, h => by
    rw [List.length_cons, List.length_cons, tyOK_len h.2]
  | [], _ :: _, h => h.elim
  | _ :: _, [], h => h.elim
theorem evOp_t {c : Nat} (h1 : 3003 ≤ c) (h2 : c < 3009) (h6 : c ≠ 3006) {x y : Int32} (hx : 3006 < c → x = 0 ∨ x = 1) (hy : 3006 < c → y = 0 ∨ y = 1) : evOp c x y = 0 ∨ evOp c x y = 1 := by
  unfold evOp
  obtain rfl | rfl | rfl | rfl | rfl : c = 3003 ∨ c = 3004 ∨ c = 3005 ∨ c = 3007 ∨ c = 3008 := by omega
  · rw [if_pos rfl]
    split
    · exact Or.inr rfl
    · exact Or.inl rfl
  · rw [if_neg (by decide), if_pos rfl]
    split
    · exact Or.inl rfl
    · exact Or.inr rfl
  · rw [if_neg (by decide), if_neg (by decide), if_pos rfl]
    split
    · exact Or.inl rfl
    · exact Or.inr rfl
  · rw [if_neg (by decide), if_neg (by decide), if_neg (by decide), if_pos rfl]
    rcases hx (by decide) with rfl | rfl <;> rcases hy (by decide) with rfl | rfl <;> decide
  · rw [if_neg (by decide), if_neg (by decide), if_neg (by decide), if_neg (by decide), if_pos rfl]
    rcases hx (by decide) with rfl | rfl <;> rcases hy (by decide) with rfl | rfl <;> decide
/-- a step of the types: what a join does -/
theorem tyJ {c : Nat} {l : List Nat} {ts r : List Bool} (hc : ¬ c < 3000) (h6 : c ≠ 3006) (h : tyL (c :: l) ts = some r) {st : List Int32} (ho : tyOK ts st) : ∃ y x s bt, st = y :: x :: s ∧ tyL l (bt :: ts.drop 2) = some r ∧ c < 3009 ∧ 2 ≤ ts.length ∧ tyOK (bt :: ts.drop 2) (evOp c x y :: s) := by
  rw [tyL_cons, if_neg hc, if_neg h6] at h
  cases ts with
  | nil =>
    by_cases q1 : c < 3003
    · rw [if_pos q1] at h
      cases h
    · rw [if_neg q1] at h
      by_cases q2 : c < 3006
      · rw [if_pos q2] at h
        cases h
      · rw [if_neg q2] at h
        by_cases q3 : c < 3009
        · rw [if_pos q3] at h
          cases h
        · rw [if_neg q3] at h
          cases h
  | cons b1 ts =>
  cases ts with
  | nil =>
    by_cases q1 : c < 3003
    · rw [if_pos q1] at h
      cases b1 <;> cases h
    · rw [if_neg q1] at h
      by_cases q2 : c < 3006
      · rw [if_pos q2] at h
        cases b1 <;> cases h
      · rw [if_neg q2] at h
        by_cases q3 : c < 3009
        · rw [if_pos q3] at h
          cases b1 <;> cases h
        · rw [if_neg q3] at h
          cases h
  | cons b2 ts =>
  cases st with
  | nil => exact ho.elim
  | cons y st =>
  cases st with
  | nil => exact ho.2.elim
  | cons x s =>
  obtain ⟨o1, o2, o3⟩ := ho
  by_cases q1 : c < 3003
  · rw [if_pos q1] at h
    cases b1 <;> cases b2 <;> first
      | exact ⟨y, x, s, false, rfl, h, by omega, by simp, (fun z => by cases z), o3⟩
      | cases h
  · rw [if_neg q1] at h
    by_cases q2 : c < 3006
    · rw [if_pos q2] at h
      cases b1 <;> cases b2 <;> first
        | exact ⟨y, x, s, true, rfl, h, by omega, by simp, fun _ => evOp_t (by omega) (by omega) h6 (by omega) (by omega), o3⟩
        | cases h
    · rw [if_neg q2] at h
      by_cases q3 : c < 3009
      · rw [if_pos q3] at h
        cases b1 <;> cases b2 <;> first
          | exact ⟨y, x, s, true, rfl, h, q3, by simp, fun _ => evOp_t (by omega) (by omega) h6 (fun _ => o2 rfl) (fun _ => o1 rfl), o3⟩
          | cases h
      · rw [if_neg q3] at h
        cases h
theorem tyL_ok {ws : Nat → Int32} : ∀ {l : List Nat} {ts r : List Bool} {st : List Int32}, tyL l ts = some r → tyOK ts st → tyOK r (evL ws l st) := by
  intro l
  induction l with
  | nil =>
    intro ts r st h ho
    cases h
    exact ho
  | cons c l ih =>
    intro ts r st h ho
    by_cases q1 : c < 3000
    · rw [tyL_cons, if_pos q1] at h
      rw [evL_cons, if_pos q1]
      split at h
      · exact ih h ⟨fun z => (by cases z), ho⟩
      · cases h
    · by_cases q2 : c = 3006
      · rw [tyL_cons, if_neg q1, if_pos q2] at h
        rw [evL_cons, if_neg q1, if_pos q2]
        cases ts with
        | nil => cases h
        | cons b ts =>
        cases b with
        | false => cases h
        | true =>
        cases st with
        | nil => exact ho.elim
        | cons x st =>
        refine ih h ⟨fun _ => ?_, ho.2⟩
        rcases ho.1 rfl with rfl | rfl
        · exact Or.inr rfl
        · exact Or.inl rfl
      · obtain ⟨y, x, s, b, rfl, h1, h2, h3, h4⟩ := tyJ q1 q2 h ho
        rw [evL_cons, if_neg q1, if_neg q2]
        exact ih h1 h4
theorem law_01 {A : Nat → Int32} (h : LV A 0 true) (ws : Nat → Int32) : lawV A 0 ws = 0 ∨ lawV A 0 ws = 1 := by
  have := tyL_ok (ws := ws) (st := []) h.2.2.2.2 True.intro
  unfold lawV
  revert this
  generalize evL ws (lawL A 0) [] = L
  intro ho
  cases L with
  | nil => exact ho.elim
  | cons x s => exact ho.1 rfl
def stkL (f : Nat → Int64) : List Int32 → Prop
  | [] => True
  | x :: s => f s.length = x.toInt64 ∧ stkL f s
theorem stkL_upd {f : Nat → Int64} {k : Nat} {v : Int64} : ∀ {s : List Int32}, s.length ≤ k → stkL f s → stkL (vp_updL f k v) s
  | [], _, _ => True.intro
  | x :: s, h, ⟨h1, h2⟩ => ⟨(pk_uLn (by simp at h; omega)).trans h1, stkL_upd (by simp at h; omega) h2⟩
theorem clp_64 (v : Int64) : (clp v).toInt64 = if (1000000 : Int64) < v then (1000000 : Int64) else if v < (-1000000 : Int64) then (-1000000 : Int64) else v := by
  unfold clp
  split
  · rfl
  · next q1 =>
    split
    · rfl
    · next q2 =>
      apply Int64.toInt_inj.mp
      rw [Int64.lt_iff_toInt_lt] at q1 q2
      have e1 : (1000000 : Int64).toInt = 1000000 := rfl
      have e2 : (-1000000 : Int64).toInt = -1000000 := rfl
      rw [e1] at q1
      rw [e2] at q2
      rw [Int32.toInt_toInt64, Int64.toInt_toInt32]
      rw [Int.bmod_eq_of_le] <;> omega
theorem i64_le (x y : Int32) : (x.toInt64 ≤ y.toInt64) = (x ≤ y) := by
  rw [Int64.le_iff_toInt_le, Int32.le_iff_toInt_le, Int32.toInt_toInt64, Int32.toInt_toInt64]
theorem i64_eq (x y : Int32) : (x.toInt64 = y.toInt64) = (x = y) := by
  rw [← Int64.toInt_inj, ← Int32.toInt_inj, Int32.toInt_toInt64, Int32.toInt_toInt64]
theorem evOp_0 (x y : Int32) : evOp 3000 x y = clp (x.toInt64 + y.toInt64) := by
  unfold evOp
  rw [if_neg (by decide), if_neg (by decide), if_neg (by decide), if_neg (by decide), if_neg (by decide), if_pos rfl]
theorem evOp_1 (x y : Int32) : evOp 3001 x y = clp (x.toInt64 - y.toInt64) := by
  unfold evOp
  rw [if_neg (by decide), if_neg (by decide), if_neg (by decide), if_neg (by decide), if_neg (by decide), if_neg (by decide), if_pos rfl]
theorem evOp_2 (x y : Int32) : evOp 3002 x y = clp (x.toInt64 * y.toInt64) := by
  unfold evOp
  rw [if_neg (by decide), if_neg (by decide), if_neg (by decide), if_neg (by decide), if_neg (by decide), if_neg (by decide), if_neg (by decide)]
theorem evOp_3 (x y : Int32) : evOp 3003 x y = if x = y then 1 else 0 := by
  unfold evOp
  rw [if_pos rfl]
theorem evOp_4 (x y : Int32) : evOp 3004 x y = if y ≤ x then 0 else 1 := by
  unfold evOp
  rw [if_neg (by decide), if_pos rfl]
theorem evOp_5 (x y : Int32) : evOp 3005 x y = if x ≤ y then 0 else 1 := by
  unfold evOp
  rw [if_neg (by decide), if_neg (by decide), if_pos rfl]
theorem evOp_7 (x y : Int32) : evOp 3007 x y = x &&& y := by
  unfold evOp
  rw [if_neg (by decide), if_neg (by decide), if_neg (by decide), if_pos rfl]
theorem evOp_8 (x y : Int32) : evOp 3008 x y = x ||| y := by
  unfold evOp
  rw [if_neg (by decide), if_neg (by decide), if_neg (by decide), if_neg (by decide), if_pos rfl]
theorem c_joined {c : Nat} (hc : 3000 ≤ c) (hc2 : c < 3009) (h6 : c ≠ 3006) (x y : Int32) (g : G) : f_X9_joined (nI (cm c) - (2000 : Int32)) x.toInt64 y.toInt64 g = some ((evOp c x y).toInt64, g) := by
  have h133 : ∀ v : Int64, f_X9_joined_133 v g = some ((clp v).toInt64, g) := fun v => by
    rw [f_X9_joined_133, clp_64]
    simp only [lg_cmp_le, lg_cmp_ge]
    by_cases q1 : v ≤ 1000000
    · rw [if_pos q1, if_neg (Int64.not_lt.mpr q1)]
      by_cases q2 : -1000000 ≤ v
      · rw [if_pos q2, if_neg (Int64.not_lt.mpr q2)]
      · rw [if_neg q2, if_pos (Int64.not_le.mp q2)]
    · rw [if_neg q1, if_pos (Int64.not_le.mp q1)]
  obtain rfl | rfl | rfl | rfl | rfl | rfl | rfl | rfl : c = 3000 ∨ c = 3001 ∨ c = 3002 ∨ c = 3003 ∨ c = 3004 ∨ c = 3005 ∨ c = 3007 ∨ c = 3008 := by omega
  · rw [show nI (cm 3000) - (2000 : Int32) = 43 from rfl, f_X9_joined, if_neg (by decide), if_neg (by decide), if_pos rfl, ll, h133, evOp_0]
  · rw [show nI (cm 3001) - (2000 : Int32) = 45 from rfl, f_X9_joined, if_neg (by decide), if_neg (by decide), if_neg (by decide), if_pos rfl, ll, h133, evOp_1]
  · rw [show nI (cm 3002) - (2000 : Int32) = 42 from rfl, f_X9_joined, if_neg (by decide), if_neg (by decide), if_neg (by decide), if_neg (by decide), if_neg (by decide), if_neg (by decide), if_neg (by decide), ll, h133, evOp_2]
  · rw [show nI (cm 3003) - (2000 : Int32) = 61 from rfl, f_X9_joined, if_neg (by decide), if_neg (by decide), if_neg (by decide), if_neg (by decide), if_neg (by decide), if_pos rfl, evOp_3]
    simp only [lg_cmp_eq, i64_eq]
    split <;> rfl
  · rw [show nI (cm 3004) - (2000 : Int32) = 60 from rfl, f_X9_joined, if_neg (by decide), if_neg (by decide), if_neg (by decide), if_neg (by decide), if_pos rfl, evOp_4]
    simp only [lg_cmp_ge, i64_le]
    split <;> rfl
  · rw [show nI (cm 3005) - (2000 : Int32) = 62 from rfl, f_X9_joined, if_neg (by decide), if_neg (by decide), if_neg (by decide), if_neg (by decide), if_neg (by decide), if_neg (by decide), if_pos rfl, evOp_5]
    simp only [lg_cmp_le, i64_le]
    split <;> rfl
  · rw [show nI (cm 3007) - (2000 : Int32) = 13 from rfl, f_X9_joined, if_neg (by decide), if_pos rfl, evOp_7, Int32.toInt64_and]
  · rw [show nI (cm 3008) - (2000 : Int32) = 12 from rfl, f_X9_joined, if_pos rfl, evOp_8, Int32.toInt64_or]
theorem c_lt {ws : Nat → Int32} {la m : Nat} (hm : m ≤ 900) : ∀ (l : List Nat) (k : Nat) (st : List Int32) (ts r : List Bool) (n : Nat) (g : G), Sh g → gN g la = m → (∀ j, j < 8 → gI g 69 j = ws j) → k + l.length = m → (∀ (j : Nat) (hj : j < l.length), gI g la (k + j) = nI (cm (l[j]'hj))) → tyL l ts = some r → tyOK ts st → ts.length ≤ 60 → 0 < r.length → stkL (gL g 75) st → l.length < n → ∃ g', f_X9_lawTells_148 n 68 la (nI st.length) (nI k) g = some (gL g' 75 0, g') ∧ Fi [75] g g' ∧ stkL (gL g' 75) (evL ws l st) ∧ (evL ws l st).length = r.length := by
  intro l
  induction l with
  | nil =>
    intro k st ts r n g h hN hws hk hl hty ho h60 hr hst hn
    obtain ⟨n, rfl⟩ : ∃ n', n = n' + 1 := ⟨n - 1, by simp at hn; omega⟩
    have hk' : k = m := hk
    subst hk'
    have hr' : ts = r := Option.some.inj hty
    subst hr'
    have hlen := tyOK_len ho
    refine ⟨g, ?_, Fi.rf, hst, hlen⟩
    rw [f_X9_lawTells_148, hN, if_pos (nI_le (Nat.le_refl _) (by omega)), if_neg (nI_nle (by omega) (by omega)), md68_12 h, gk75 h, sn75 h, show (0 : Int32) = nI 0 from rfl, gdI_nI (by decide) (by decide)]
    rfl
  | cons c l ih =>
    intro k st ts r n g h hN hws hk hl hty ho h60 hr hst hn
    obtain ⟨n, rfl⟩ : ∃ n', n = n' + 1 := ⟨n - 1, by omega⟩
    simp only [List.length_cons] at hk hn
    have c1 := hl 0 (by simp)
    simp only [List.getElem_cons_zero, Nat.add_zero] at c1
    have hl' : ∀ (j : Nat) (hj : j < l.length), gI g la (k + 1 + j) = nI (cm (l[j]'hj)) := fun j hj => by
      have := hl (j + 1) (by simp; omega)
      simp only [List.getElem_cons_succ] at this
      rw [show k + 1 + j = k + (j + 1) by omega]
      exact this
    have hlen := tyOK_len ho
    have go : ∀ (s : List Int32) (v : Int32) (ts' : List Bool), tyL l ts' = some r → tyOK ts' (v :: s) → ts'.length ≤ 60 → stkL (gL g 75) s → ∃ g', f_X9_lawTells_148 n 68 la (nI (s.length + 1)) (nI (k + 1)) (sL g 75 s.length v.toInt64) = some (gL g' 75 0, g') ∧ Fi [75] g g' ∧ stkL (gL g' 75) (evL ws l (v :: s)) ∧ (evL ws l (v :: s)).length = r.length := fun s v ts' t1 t2 t3 t4 => by
      obtain ⟨g', q1, q2, q3, q4⟩ := ih (k + 1) (v :: s) ts' r n (sL g 75 s.length v.toInt64) h.sl hN hws (by omega) hl' t1 t2 t3 hr ⟨by rw [gL_sLs]; exact pk_uLs, by rw [gL_sLs]; exact stkL_upd (Nat.le_refl _) t4⟩ (by omega)
      exact ⟨g', q1, (Fi.rf.sl (by simp)).tr q2, q3, q4⟩
    rw [f_X9_lawTells_148, hN, if_neg (nI_ge (by omega) (by omega)), gdI_nI (by omega) (by omega), li, nI_clamp (by omega), c1]
    by_cases q1 : c < 3000
    · rw [tyL_cons, if_pos q1] at hty
      rw [evL_cons, if_pos q1]
      split at hty
      · next q2 =>
        have e : cm c = c := if_pos q1
        have n14 : ¬ nI c = (2014 : Int32) := fun z => by
          rw [leq2014 (by omega)] at z
          omega
        rw [e, if_neg n14, if_pos (llt2000 (by omega)), if_neg (lnge64 (by omega)), li, md68_12 h]
        by_cases q3 : c < 1000
        · rw [if_pos (show nI c - (1000 : Int32) < 0 from pk_sneg (a := c) (b := 1000) (by decide) q3), gk75 h, f_X9_lawTells_295, f_X9_lawTells_298, sn75 h, gdI_nI (by omega) (by decide), nI_clamp (by omega), lg, f_X9_lawTells_302, nI_1, nI_1, if_pos q3]
          exact go st (nI c) (false :: ts) hty ⟨fun z => (by cases z), ho⟩ (by simp; omega) hst
        · rw [show nI c - (1000 : Int32) = nI (c - 1000) from pk_sub (b := 1000) (by omega), if_neg (nI_pos (by omega)), if_neg (lnge8 (by omega)), md68_3 h, gk69 h, sn69 h, gdI_nI (by omega) (by decide), gk75 h, f_X9_lawTells_298, sn75 h, gdI_nI (by omega) (by decide), nI_clamp (by omega), nI_clamp (by omega), lg, f_X9_lawTells_302, nI_1, nI_1, if_neg q3, hws _ (by omega)]
          exact go st (ws (c - 1000)) (false :: ts) hty ⟨fun z => (by cases z), ho⟩ (by simp; omega) hst
      · cases hty
    · by_cases q2 : c = 3006
      · subst q2
        rw [tyL_cons, if_neg (by decide), if_pos rfl] at hty
        rw [evL_cons, show nI (cm 3006) = (2014 : Int32) from rfl, if_pos (rfl : (2014 : Int32) = 2014), if_neg (show ¬ (3006 : Nat) < 3000 by decide), if_pos (rfl : (3006 : Nat) = 3006)]
        cases ts with
        | nil => cases hty
        | cons b ts =>
        cases b with
        | false => cases hty
        | true =>
        cases st with
        | nil => exact ho.elim
        | cons x st =>
        simp only [List.length_cons] at hlen h60 ⊢
        obtain ⟨hs1, hs2⟩ := hst
        have e1 : (1 : Int64) - x.toInt64 = (1 - x).toInt64 := by
          rcases ho.1 rfl with rfl | rfl <;> rfl
        rw [if_neg (nI_nle (by omega) (by omega)), md68_12 h, gk75 h, sn75 h, show (1 : Int32) = nI 1 from rfl, pk_sub (by omega), Nat.add_sub_cancel, gdI_nI (by omega) (by decide), nI_clamp (by omega), hs1, e1, lg, f_X9_lawTells_302, nI_1]
        exact go st (1 - x) (true :: ts) hty ⟨fun _ => by
          rcases ho.1 rfl with rfl | rfl
          · exact Or.inr rfl
          · exact Or.inl rfl, ho.2⟩ h60 hs2
      · obtain ⟨y, x, s, b, rfl, h1, h2, h3, h4⟩ := tyJ q1 q2 hty ho
        rw [evL_cons, if_neg q1, if_neg q2]
        have hcm : 2000 ≤ cm c ∧ cm c < 2100 ∧ cm c ≠ 2014 := by
          obtain rfl | rfl | rfl | rfl | rfl | rfl | rfl | rfl : c = 3000 ∨ c = 3001 ∨ c = 3002 ∨ c = 3003 ∨ c = 3004 ∨ c = 3005 ∨ c = 3007 ∨ c = 3008 := by omega
          all_goals decide
        simp only [List.length_cons] at hlen h60 ⊢
        obtain ⟨hs1, hs2, hs3⟩ := hst
        simp only [List.length_cons] at hs1
        have hj := c_joined (c := c) (by omega) h2 q2 x y g
        have n14 : ¬ nI (cm c) = (2014 : Int32) := fun z => by
          rw [leq2014 (by omega)] at z
          omega
        have n1 : ¬ nI (s.length + 1 + 1) ≤ (1 : Int32) := nI_ge (a := 1) (b := s.length + 1 + 1) (by omega) (by omega)
        rw [if_neg n14, if_neg (lnlt2000 hcm.1 (by omega)), if_neg n1, md68_12 h, gk75 h, sn75 h]
        rw [show nI (s.length + 1 + 1) + (-1 : Int32) = nI (s.length + 1) from pk_m1 _, show nI (s.length + 1) - (1 : Int32) = nI s.length from nI_pred _, gdI_nI (by omega) (by decide), gdI_nI (by omega) (by decide), nI_clamp (by omega), nI_clamp (by omega), hs1, hs2, hj, bd_eq, sn75 h, gdI_nI (by omega) (by decide), lg, f_X9_lawTells_302, nI_1]
        exact go s (evOp c x y) (b :: ts.drop 2) h1 h4 (by simp; omega) hs3
