/-! BITS of longs; how many there are. -/
/-! pasted from the starting texts: -/
theorem ts_bit {w : Int64} {s : UInt64} {j : Nat} (hj : j < 64) (hs : s.toNat = j) : ((w.toUInt64 >>> s).toInt64 &&& 1) = 0 ↔ w.toBitVec.getLsbD j = false := by
  have e : (w.toUInt64 >>> s).toInt64.toBitVec = w.toBitVec >>> j := by
    apply BitVec.eq_of_toNat_eq
    show (w.toUInt64 >>> s).toNat = _
    rw [UInt64.toNat_shiftRight, hs, Nat.mod_eq_of_lt hj, BitVec.toNat_ushiftRight]
    rfl
  rw [← Int64.toBitVec_inj, Int64.toBitVec_and, e]
  show w.toBitVec >>> j &&& 1#64 = 0#64 ↔ _
  constructor
  · intro h
    have t := congrArg (fun x => x.getLsbD 0) h
    simpa using t
  · intro h
    apply BitVec.eq_of_getLsbD_eq
    intro i hi
    cases i with
    | zero => simp [h]
    | succ i => simp
theorem wb_tb (n : Nat) : (lN n).toBitVec = BitVec.ofNat 64 n := rfl
theorem wb_inj {a b : Int64} (h : a.toBitVec = b.toBitVec) : a = b := Int64.toBitVec_inj.mp h
theorem wb_tn {n : Nat} (h : n < 2 ^ 64) : (lN n).toBitVec.toNat = n := by rw [wb_tb, BitVec.toNat_ofNat, Nat.mod_eq_of_lt h]
theorem wb_of (x : Int64) : ∃ n, n < 2 ^ 64 ∧ x = lN n := ⟨x.toBitVec.toNat, x.toBitVec.isLt, wb_inj (by rw [wb_tb]; simp)⟩
theorem wb_of32 (x : Int32) : ∃ n, n < 2 ^ 32 ∧ x = nI n := ⟨x.toBitVec.toNat, x.toBitVec.isLt, Int32.toBitVec_inj.mp (by show _ = BitVec.ofNat 32 _; simp)⟩
theorem wb_c : ∀ k, k < 64 → ((nI k).toInt64 &&& 63) = lN k := by decide +kernel
theorem wb_cu : ∀ k, k < 64 → ((nI k).toInt64.toUInt64 &&& Int64.toUInt64 63) = UInt64.ofNat k := by decide +kernel
theorem wb_sm : ∀ k, k < 64 → (BitVec.ofNat 64 k).smod 64 = BitVec.ofNat 64 k := by decide +kernel
theorem wb_pw {a b : Nat} (h : a ≤ b) : 2 ^ b = 2 ^ a * 2 ^ (b - a) := by rw [← Nat.pow_add]; congr 1; omega
theorem wb_lt2 {a b : Nat} (h : a < b) : 2 ^ a < 2 ^ b := Nat.pow_lt_pow_right (by decide) h
theorem wb_mod (n : Nat) : lN n = lN (n % 2 ^ 64) := wb_inj (by rw [wb_tb, wb_tb]; apply BitVec.eq_of_toNat_eq; rw [BitVec.toNat_ofNat, BitVec.toNat_ofNat, Nat.mod_mod])
theorem wb_shr {n k : Nat} (hn : n < 2 ^ 64) (hk : k < 64) : ((lN n).toUInt64 >>> ((nI k).toInt64.toUInt64 &&& Int64.toUInt64 63)).toInt64 = lN (n / 2 ^ k) := by
  rw [wb_cu k hk]
  apply wb_inj
  apply BitVec.eq_of_toNat_eq
  show ((lN n).toUInt64 >>> UInt64.ofNat k).toNat = (BitVec.ofNat 64 _).toNat
  have h1 : (UInt64.ofNat k).toNat = k := by
    show (BitVec.ofNat 64 k).toNat = k
    rw [BitVec.toNat_ofNat, Nat.mod_eq_of_lt (by omega)]
  have h2 : (lN n).toUInt64.toNat = n := wb_tn hn
  rw [UInt64.toNat_shiftRight, h1, h2, Nat.mod_eq_of_lt hk, Nat.shiftRight_eq_div_pow, BitVec.toNat_ofNat, Nat.mod_eq_of_lt (Nat.lt_of_le_of_lt (Nat.div_le_self _ _) hn)]
theorem wb_shl (n : Nat) {k : Nat} (hk : k < 64) : lN n <<< ((nI k).toInt64 &&& 63) = lN (n * 2 ^ k) := by
  rw [wb_c k hk]
  apply wb_inj
  rw [Int64.toBitVec_shiftLeft, wb_tb, wb_tb, wb_tb, wb_sm k hk]
  apply BitVec.eq_of_toNat_eq
  rw [BitVec.shiftLeft_eq', BitVec.toNat_shiftLeft, BitVec.toNat_ofNat, BitVec.toNat_ofNat, BitVec.toNat_ofNat, Nat.mod_eq_of_lt (show k < 2 ^ 64 by omega), Nat.shiftLeft_eq, Nat.mul_mod, Nat.mod_mod, ← Nat.mul_mod]
theorem wb_and {a b : Nat} (ha : a < 2 ^ 64) (hb : b < 2 ^ 64) : lN a &&& lN b = lN (a &&& b) := by
  apply wb_inj
  rw [Int64.toBitVec_and, wb_tb, wb_tb, wb_tb]
  apply BitVec.eq_of_toNat_eq
  rw [BitVec.toNat_and, BitVec.toNat_ofNat, BitVec.toNat_ofNat, BitVec.toNat_ofNat, Nat.mod_eq_of_lt ha, Nat.mod_eq_of_lt hb, Nat.mod_eq_of_lt (Nat.and_lt_two_pow _ hb)]
theorem wb_or {a b : Nat} (ha : a < 2 ^ 64) (hb : b < 2 ^ 64) : lN a ||| lN b = lN (a ||| b) := by
  apply wb_inj
  rw [Int64.toBitVec_or, wb_tb, wb_tb, wb_tb]
  apply BitVec.eq_of_toNat_eq
  rw [BitVec.toNat_or, BitVec.toNat_ofNat, BitVec.toNat_ofNat, BitVec.toNat_ofNat, Nat.mod_eq_of_lt ha, Nat.mod_eq_of_lt hb, Nat.mod_eq_of_lt (Nat.or_lt_two_pow ha hb)]
theorem wb_mask {n k : Nat} (hn : n < 2 ^ 64) (hk : k < 64) : lN n &&& lN (2 ^ k - 1) = lN (n % 2 ^ k) := by
  rw [wb_and hn (by have := wb_lt2 hk; omega), Nat.and_two_pow_sub_one_eq_mod]
theorem wb_a1 {n : Nat} (hn : n < 2 ^ 64) : lN n &&& 1 = lN (n % 2) := wb_mask (k := 1) hn (by decide)
/-! own rows: -/
def bt (x : Int64) (c : Nat) : Bool := x.toBitVec.getLsbD c
theorem bt_ext {x y : Int64} (h : ∀ c, c < 64 → bt x c = bt y c) : x = y := wb_inj (BitVec.eq_of_getLsbD_eq (fun i hi => h i hi))
theorem bt_and (x y : Int64) (c : Nat) : bt (x &&& y) c = (bt x c && bt y c) := by simp [bt]
theorem bt_or (x y : Int64) (c : Nat) : bt (x ||| y) c = (bt x c || bt y c) := by simp [bt]
theorem bt_xor (x y : Int64) (c : Nat) : bt (x ^^^ y) c = (bt x c ^^ bt y c) := by simp [bt]
theorem bt_m1 {c : Nat} (hc : c < 64) : bt (-1) c = true := by
  have : ∀ c, c < 64 → bt (-1) c = true := by decide +kernel
  exact this c hc
theorem bt_not {c : Nat} (hc : c < 64) (x : Int64) : bt (x ^^^ (-1)) c = !bt x c := by
  rw [bt_xor, bt_m1 hc]
  simp
theorem bt_0 (c : Nat) : bt 0 c = false := by simp [bt]
theorem bt_big {x : Int64} {c : Nat} (h : 64 ≤ c) : bt x c = false := BitVec.getLsbD_of_ge _ _ h
theorem bt_lN {n : Nat} (c : Nat) : bt (lN n) c = (decide (c < 64) && n.testBit c) := by
  unfold bt
  rw [wb_tb, BitVec.getLsbD_ofNat]
theorem bt_one {k : Nat} (hk : k < 64) (c : Nat) : bt ((1 : Int64) <<< ((nI k).toInt64 &&& 63)) c = decide (c = k) := by
  have e : (1 : Int64) <<< ((nI k).toInt64 &&& 63) = lN (2 ^ k) := by
    have := wb_shl 1 hk
    rw [Nat.one_mul] at this
    exact this
  rw [e, bt_lN, Nat.testBit_two_pow]
  by_cases h : c = k
  · subst h
    simp [hk]
  · have h' : ¬ k = c := fun q => h q.symm
    simp [h, h']
theorem ibt {α : Type} {x y : α} {w : Int64} {k : Nat} (hk : k < 64) : (if (lg_cmp (((w.toUInt64 >>> ((nI k).toInt64.toUInt64 &&& Int64.toUInt64 63)).toInt64) &&& (1 : Int64)) (0 : Int64)) = 0 then x else y) = if bt w k = true then y else x := by
  have e : (((w.toUInt64 >>> ((nI k).toInt64.toUInt64 &&& Int64.toUInt64 63)).toInt64) &&& (1 : Int64)) = 0 ↔ w.toBitVec.getLsbD k = false := ts_bit hk (by
    rw [wb_cu k hk, UInt64.toNat_ofNat']
    omega)
  by_cases h : bt w k = true
  · rw [if_pos h, if_neg (fun q => by
      rw [lg_cmp_eq, e] at q
      rw [show bt w k = w.toBitVec.getLsbD k from rfl, q] at h
      cases h)]
  · rw [if_neg h, if_pos]
    rw [lg_cmp_eq, e]
    exact Bool.eq_false_iff.mpr h
theorem i0l {α : Type} {x y : α} {w : Int64} : (if (lg_cmp w (0 : Int64)) = 0 then x else y) = if w = 0 then x else y := by
  by_cases h : w = 0
  · rw [if_pos h, if_pos (by rw [lg_cmp_eq]; exact h)]
  · rw [if_neg h, if_neg (by rw [lg_cmp_eq]; exact h)]
theorem bt_z {w : Int64} : w = 0 ↔ ∀ c, c < 64 → bt w c = false := ⟨fun h c _ => by rw [h, bt_0], fun h => bt_ext (fun c hc => by rw [h c hc, bt_0])⟩
/-- how many are P, below n -/
def cntB (P : Nat → Bool) : Nat → Nat
  | 0 => 0
  | n + 1 => cntB P n + (if P n = true then 1 else 0)
theorem cntB_le (P : Nat → Bool) : ∀ n, cntB P n ≤ n
  | 0 => Nat.le_refl _
  | n + 1 => by
    have := cntB_le P n
    rw [cntB]
    split <;> omega
theorem cntB_congr {P Q : Nat → Bool} : ∀ {n : Nat}, (∀ c, c < n → P c = Q c) → cntB P n = cntB Q n := by
  intro n
  induction n with
  | zero => intro _; rfl
  | succ n ih =>
    intro h
    rw [cntB, cntB, ih (fun c hc => h c (by omega)), h n (Nat.lt_succ_self _)]
theorem cntB_add (P : Nat → Bool) (m : Nat) : ∀ n, cntB P (m + n) = cntB P m + cntB (fun c => P (m + c)) n
  | 0 => rfl
  | n + 1 => by
    rw [← Nat.add_assoc, cntB, cntB, cntB_add P m n, Nat.add_assoc]
theorem cntB_0 {P : Nat → Bool} : ∀ {n : Nat}, (∀ c, c < n → P c = false) → cntB P n = 0 := by
  intro n
  induction n with
  | zero => intro _; rfl
  | succ n ih =>
    intro h
    rw [cntB, ih (fun c hc => h c (by omega)), h n (Nat.lt_succ_self _)]
    rfl
theorem cntB_far {P : Nat → Bool} {m n : Nat} (hm : m ≤ n) (h : ∀ c, m ≤ c → c < n → P c = false) : cntB P n = cntB P m := by
  obtain ⟨k, rfl⟩ : ∃ k, n = m + k := ⟨n - m, by omega⟩
  rw [cntB_add, cntB_0 (fun c hc => h (m + c) (by omega) (by omega)), Nat.add_zero]
/-- masks, a byte repeated -/
def rpt (m : Nat) : Nat → Nat
  | 0 => 0
  | k + 1 => m + 256 * rpt m k
theorem and_byte {u v m M : Nat} (hu : u < 256) (hm : m < 256) : (u + 256 * v) &&& (m + 256 * M) = (u &&& m) + 256 * (v &&& M) := by
  have hum : u &&& m < 2 ^ 8 := Nat.and_lt_two_pow u hm
  apply Nat.eq_of_testBit_eq
  intro i
  rw [Nat.testBit_and, Nat.add_comm u, Nat.add_comm m, Nat.add_comm (u &&& m), show (256 : Nat) = 2 ^ 8 from rfl, Nat.testBit_two_pow_mul_add _ hu, Nat.testBit_two_pow_mul_add _ hm, Nat.testBit_two_pow_mul_add _ hum]
  split
  · rw [Nat.testBit_and]
  · rw [Nat.testBit_and]
theorem byte_dec : ∀ n : Nat, n = n % 256 + 256 * (n / 256) := fun n => (Nat.mod_add_div n 256).symm
def pc1 (M n : Nat) : Nat := n - (n / 2 &&& M)
def pc2 (M n : Nat) : Nat := (n &&& M) + (n / 4 &&& M)
def pc3 (M n : Nat) : Nat := (n + n / 16) &&& M
theorem pc_b1 : ∀ b, b < 256 → ∀ c, c < 2 → ((b / 2 + 128 * c) &&& 85) = (b / 2 &&& 85) ∧ (b / 2 &&& 85) ≤ b := by decide +kernel
theorem pc_b2 : ∀ b, b < 256 → ∀ c, c < 4 → ((b / 4 + 64 * c) &&& 51) = (b / 4 &&& 51) := by decide +kernel
theorem pc_b2' : ∀ b, b < 256 → (b &&& 51) % 16 ≤ 3 ∧ (b &&& 51) / 16 ≤ 3 := by decide +kernel
theorem pc_b3 : ∀ b, b < 128 → ∀ c, c < 8 → ((b + b / 16 + 16 * c) &&& 15) = ((b + b / 16) &&& 15) := by decide +kernel
theorem pc_s1 (k b n : Nat) (hb : b < 256) : pc1 (rpt 85 (k + 1)) (b + 256 * n) = pc1 85 b + 256 * pc1 (rpt 85 k) n := by
  unfold pc1
  have e : (b + 256 * n) / 2 = (b / 2 + 128 * (n % 2)) + 256 * (n / 2) := by omega
  obtain ⟨h1, h2⟩ := pc_b1 b hb (n % 2) (Nat.mod_lt _ (by decide))
  have h3 : n / 2 &&& rpt 85 k ≤ n / 2 := Nat.and_le_left
  rw [rpt, e, and_byte (by omega) (by decide), h1]
  omega
theorem pc_s2 (k b n : Nat) (hb : b < 256) : pc2 (rpt 51 (k + 1)) (b + 256 * n) = pc2 51 b + 256 * pc2 (rpt 51 k) n := by
  unfold pc2
  have e : (b + 256 * n) / 4 = (b / 4 + 64 * (n % 4)) + 256 * (n / 4) := by omega
  have h1 := pc_b2 b hb (n % 4) (Nat.mod_lt _ (by decide))
  rw [rpt, e, and_byte hb (by decide), and_byte (by omega) (by decide), h1]
  omega
theorem pc_m51 (k n : Nat) : (n &&& rpt 51 k) % 16 ≤ 3 := by
  cases k with
  | zero => simp [rpt]
  | succ k =>
    rw [byte_dec n, rpt, and_byte (Nat.mod_lt _ (by decide)) (by decide)]
    have := pc_b2' (n % 256) (Nat.mod_lt _ (by decide))
    omega
theorem pc_l2 (k n : Nat) : pc2 (rpt 51 k) n % 16 ≤ 6 := by
  unfold pc2
  have h1 := pc_m51 k n
  have h2 := pc_m51 k (n / 4)
  omega
theorem pc_s3 (k b n : Nat) (hb : b < 104) (hn : n % 16 ≤ 6) : pc3 (rpt 15 (k + 1)) (b + 256 * n) = pc3 15 b + 256 * pc3 (rpt 15 k) n := by
  unfold pc3
  have e : b + 256 * n + (b + 256 * n) / 16 = (b + b / 16 + 16 * (n % 16)) + 256 * (n + n / 16) := by omega
  rw [rpt, e, and_byte (by omega) (by decide), pc_b3 b (by omega) (n % 16) (by omega)]
def pcs : Nat → Nat → Nat
  | 0, _ => 0
  | k + 1, n => cntB (n % 256).testBit 8 + 256 * pcs k (n / 256)
theorem pc_1 : ∀ b, b < 256 → pc1 85 b < 256 ∧ pc2 51 (pc1 85 b) < 104 ∧ pc3 15 (pc2 51 (pc1 85 b)) = cntB b.testBit 8 := by decide +kernel
theorem pc_all : ∀ (k n : Nat), n < 256 ^ k → pc3 (rpt 15 k) (pc2 (rpt 51 k) (pc1 (rpt 85 k) n)) = pcs k n
  | 0, n, h => by
    have : n = 0 := by simpa using h
    subst this
    rfl
  | k + 1, n, h => by
    have hb : n % 256 < 256 := Nat.mod_lt _ (by decide)
    obtain ⟨h1, h2, h3⟩ := pc_1 (n % 256) hb
    have hk : n / 256 < 256 ^ k := by
      rw [Nat.div_lt_iff_lt_mul (by decide)]
      rw [Nat.pow_succ] at h
      exact h
    have e := byte_dec n
    rw [pcs, ← pc_all k (n / 256) hk]
    generalize n / 256 = m at *
    generalize hbb : n % 256 = b at *
    subst e
    rw [pc_s1 k b m hb, pc_s2 k _ _ h1, pc_s3 k _ _ h2 (pc_l2 _ _), h3]
theorem cnt8 (n m : Nat) : cntB n.testBit (8 + m) = cntB (n % 256).testBit 8 + cntB (n / 256).testBit m := by
  rw [cntB_add]
  congr 1
  · refine cntB_congr (fun c hc => ?_)
    rw [show (256 : Nat) = 2 ^ 8 from rfl, Nat.testBit_mod_two_pow, decide_eq_true hc, Bool.true_and]
  · refine cntB_congr (fun c _ => ?_)
    rw [show (256 : Nat) = 2 ^ 8 from rfl, Nat.testBit_div_two_pow, Nat.add_comm]
theorem pcs8 (n : Nat) (hn : n < 2 ^ 64) : ∃ s0 s1 s2 s3 s4 s5 s6 s7 : Nat, s0 ≤ 8 ∧ s1 ≤ 8 ∧ s2 ≤ 8 ∧ s3 ≤ 8 ∧ s4 ≤ 8 ∧ s5 ≤ 8 ∧ s6 ≤ 8 ∧ s7 ≤ 8 ∧ pcs 8 n = s0 + 256 * (s1 + 256 * (s2 + 256 * (s3 + 256 * (s4 + 256 * (s5 + 256 * (s6 + 256 * s7)))))) ∧ cntB n.testBit 64 = s0 + (s1 + (s2 + (s3 + (s4 + (s5 + (s6 + s7)))))) := by
  refine ⟨_, _, _, _, _, _, _, _, cntB_le (n % 256).testBit 8, cntB_le (n / 256 % 256).testBit 8, cntB_le (n / 256 / 256 % 256).testBit 8, cntB_le (n / 256 / 256 / 256 % 256).testBit 8, cntB_le (n / 256 / 256 / 256 / 256 % 256).testBit 8, cntB_le (n / 256 / 256 / 256 / 256 / 256 % 256).testBit 8, cntB_le (n / 256 / 256 / 256 / 256 / 256 / 256 % 256).testBit 8, cntB_le (n / 256 / 256 / 256 / 256 / 256 / 256 / 256 % 256).testBit 8, ?_, ?_⟩
  · simp only [pcs, Nat.mul_zero, Nat.add_zero]
  · have e := fun x : Nat => cnt8 x
    rw [show (64 : Nat) = 8 + (8 + (8 + (8 + (8 + (8 + (8 + (8 + 0))))))) from rfl, e, e, e, e, e, e, e, e]
    rfl
theorem dv {s X m : Nat} (h : s < m) : (s + m * X) / m = X := by
  rw [Nat.add_mul_div_left _ _ (by omega), Nat.div_eq_of_lt h, Nat.zero_add]
theorem pc_fin {y s0 s1 s2 s3 s4 s5 s6 s7 : Nat} (h0 : s0 ≤ 8) (h1 : s1 ≤ 8) (h2 : s2 ≤ 8) (h3 : s3 ≤ 8) (h4 : s4 ≤ 8) (h5 : s5 ≤ 8) (h6 : s6 ≤ 8) (h7 : s7 ≤ 8) (hy : y = s0 + 256 * (s1 + 256 * (s2 + 256 * (s3 + 256 * (s4 + 256 * (s5 + 256 * (s6 + 256 * s7))))))) : ∃ y7 y9 y11 : Nat, y7 = y + y / 256 ∧ y9 = y7 + y7 / 65536 ∧ y11 = y9 + y9 / 4294967296 ∧ y11 < 2 ^ 63 ∧ y9 < 2 ^ 63 ∧ y7 < 2 ^ 63 ∧ y < 2 ^ 62 ∧ y11 % 128 = s0 + (s1 + (s2 + (s3 + (s4 + (s5 + (s6 + s7)))))) := by
  have e1 : y / 256 = s1 + 256 * (s2 + 256 * (s3 + 256 * (s4 + 256 * (s5 + 256 * (s6 + 256 * s7))))) := by
    rw [hy, dv (by omega)]
  have ly : y < 2 ^ 62 := by
    rw [hy]
    omega
  refine ⟨_, _, _, rfl, rfl, rfl, ?_⟩
  have e7 : y + y / 256 = ((s0 + s1) + 256 * (s1 + s2)) + 65536 * ((s2 + s3) + 256 * (s3 + s4) + 65536 * ((s4 + s5) + 256 * (s5 + s6) + 65536 * ((s6 + s7) + 256 * s7))) := by
    rw [e1, hy]
    omega
  clear e1 hy
  generalize y + y / 256 = y7 at *
  have l7 : y7 < 2 ^ 63 := by
    rw [e7]
    omega
  have e8 : y7 / 65536 = (s2 + s3) + 256 * (s3 + s4) + 65536 * ((s4 + s5) + 256 * (s5 + s6) + 65536 * ((s6 + s7) + 256 * s7)) := by
    rw [e7, dv (by omega)]
  have e9 : y7 + y7 / 65536 = ((s0 + s1 + s2 + s3) + 256 * (s1 + s2 + s3 + s4) + 65536 * ((s2 + s3 + s4 + s5) + 256 * (s3 + s4 + s5 + s6))) + 4294967296 * ((s4 + s5 + s6 + s7) + 256 * (s5 + s6 + s7) + 65536 * ((s6 + s7) + 256 * s7)) := by
    rw [e8, e7]
    omega
  clear e8 e7
  generalize y7 + y7 / 65536 = y9 at *
  have l9 : y9 < 2 ^ 63 := by
    rw [e9]
    omega
  have e10 : y9 / 4294967296 = (s4 + s5 + s6 + s7) + 256 * (s5 + s6 + s7) + 65536 * ((s6 + s7) + 256 * s7) := by
    rw [e9, dv (by omega)]
  refine ⟨?_, l9, l7, ly, ?_⟩
  · rw [e10, e9]
    clear e10 e9
    omega
  · rw [e10, e9]
    clear e10 e9
    omega
theorem j_bitCount (x : Int64) (g : G) : f_J13_bitCount_95d88 x g = some (nI (cntB (bt x) 64), g) := by
  obtain ⟨n, hn, rfl⟩ := wb_of x
  have hcnt : cntB (bt (lN n)) 64 = cntB n.testBit 64 := cntB_congr (fun c hc => by rw [bt_lN, decide_eq_true hc, Bool.true_and])
  rw [hcnt]
  have h85 : (6148914691236517205 : Nat) = rpt 85 8 := by decide +kernel
  have h51 : (3689348814741910323 : Nat) = rpt 51 8 := by decide +kernel
  have h15 : (1085102592571150095 : Nat) = rpt 15 8 := by decide +kernel
  have hall := pc_all 8 n hn
  rw [← h85, ← h51, ← h15] at hall
  obtain ⟨s0, s1, s2, s3, s4, s5, s6, s7, b0, b1, b2, b3, b4, b5, b6, b7, e1, e2⟩ := pcs8 n hn
  rw [e1] at hall
  obtain ⟨y7, y9, y11, f1, f2, f3, l11, l9, l7, l5, f4⟩ := pc_fin b0 b1 b2 b3 b4 b5 b6 b7 hall
  have hs : ∀ (a k : Nat), a < 2 ^ 64 → k < 64 → ((lN a).toUInt64 >>> ((nI k).toInt64.toUInt64 &&& Int64.toUInt64 63)).toInt64 = lN (a / 2 ^ k) := fun a k ha hk => wb_shr ha hk
  have c55 : (6148914691236517205 : Int64) = lN 6148914691236517205 := rfl
  have c33 : (3689348814741910323 : Int64) = lN 3689348814741910323 := rfl
  have c0f : (1085102592571150095 : Int64) = lN 1085102592571150095 := rfl
  have x1 : n / 2 &&& 6148914691236517205 ≤ n / 2 := Nat.and_le_left
  have p1 : pc1 6148914691236517205 n ≤ n := Nat.sub_le _ _
  have p2a : pc1 6148914691236517205 n &&& 3689348814741910323 ≤ 3689348814741910323 := Nat.and_le_right
  have p2b : pc1 6148914691236517205 n / 4 &&& 3689348814741910323 ≤ 3689348814741910323 := Nat.and_le_right
  have p2 : pc2 3689348814741910323 (pc1 6148914691236517205 n) ≤ 7378697629483820646 := by
    unfold pc2
    omega
  have y1 : lN n - lN (n / 2 ^ 1 &&& 6148914691236517205) = lN (pc1 6148914691236517205 n) := lN_sub (by
    have : n / 2 ^ 1 = n / 2 := rfl
    rw [this]
    omega)
  unfold f_J13_bitCount_95d88
  simp only [ll]
  rw [c55, c33, c0f, show (1 : Int32) = nI 1 from rfl, show (2 : Int32) = nI 2 from rfl, show (4 : Int32) = nI 4 from rfl, show (8 : Int32) = nI 8 from rfl, show (16 : Int32) = nI 16 from rfl, show (32 : Int32) = nI 32 from rfl]
  rw [hs n 1 hn (by decide), wb_and (by omega) (by decide), y1]
  rw [hs _ 2 (by omega) (by decide), wb_and (by omega) (by decide), wb_and (by omega) (by decide), lN_add]
  rw [show (pc1 6148914691236517205 n &&& 3689348814741910323) + (pc1 6148914691236517205 n / 2 ^ 2 &&& 3689348814741910323) = pc2 3689348814741910323 (pc1 6148914691236517205 n) from rfl]
  generalize pc2 3689348814741910323 (pc1 6148914691236517205 n) = q2 at *
  have p3 : (q2 + q2 / 16) &&& 1085102592571150095 = pc3 1085102592571150095 q2 := rfl
  rw [hs q2 4 (by omega) (by decide), lN_add, show q2 / 2 ^ 4 = q2 / 16 from rfl, wb_and (by omega) (by decide), p3]
  generalize pc3 1085102592571150095 q2 = q3 at *
  rw [hs q3 8 (by omega) (by decide), lN_add, show q3 / 2 ^ 8 = q3 / 256 from rfl, ← f1, hs y7 16 (by omega) (by decide), lN_add, show y7 / 2 ^ 16 = y7 / 65536 from rfl, ← f2, hs y9 32 (by omega) (by decide), lN_add, show y9 / 2 ^ 32 = y9 / 4294967296 from rfl, ← f3, lN_i]
  rw [pk_and (nI y11) 7 (by decide)]
  have ht : (nI y11).toBitVec.toNat = y11 % 2 ^ 32 := rfl
  rw [ht, e2, ← f4]
  congr 3
  omega
theorem i_bitCount (n : Nat) (hn : n < 4) (g : G) : f_J6_bitCount_0f7a4 (nI n) g = some (nI (n % 2 + n / 2), g) := by
  obtain rfl | rfl | rfl | rfl : n = 0 ∨ n = 1 ∨ n = 2 ∨ n = 3 := by omega
  all_goals rfl
