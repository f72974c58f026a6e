/-! DRAWS. -/
section DRW
variable {X : Nat → Prop} {A B : Nat → Int32} {g g' g1 : G}
def r16 (x : Int32) : Nat := (x.toUInt32 >>> 16).toNat
theorem sh16 (x : Int32) : (x.toUInt32 >>> ((16 : Int32).toUInt32 &&& Int32.toUInt32 31)).toInt32 = nI (r16 x) := by
  have e : ((16 : Int32).toUInt32 &&& Int32.toUInt32 31) = 16 := by decide
  rw [e]
  unfold r16
  apply Int32.toBitVec_inj.mp
  show (x.toUInt32 >>> 16).toBitVec = BitVec.ofNat 32 (x.toUInt32 >>> 16).toBitVec.toNat
  rw [BitVec.ofNat_toNat, BitVec.setWidth_eq]
theorem r16_lt (x : Int32) : r16 x < 65536 := by
  unfold r16
  have h := UInt32.toNat_lt x.toUInt32
  rw [UInt32.toNat_shiftRight]
  have e : (16 : UInt32).toNat % 32 = 16 := by decide
  rw [e, Nat.shiftRight_eq_div_pow]
  omega
theorem remI {m k : Nat} (hm : m < 2 ^ 31) (h0 : 0 < k) (hk : k < 2 ^ 31) : nI m - nI m / nI k * nI k = nI (m % k) := by
  rw [pk_div hm h0 hk, pk_mul, nI_mod]
def dx (x : Int32) : Int32 := (1103515245 : Int32) * x + (12345 : Int32)
def rm (k : Nat) (x : Int32) : Nat := r16 x % k
theorem c_rem (x : Int32) {k : Nat} (h0 : 0 < k) (hk : k < 2 ^ 31) : ((x.toUInt32 >>> ((16 : Int32).toUInt32 &&& Int32.toUInt32 31)).toInt32) - ((x.toUInt32 >>> ((16 : Int32).toUInt32 &&& Int32.toUInt32 31)).toInt32) / nI k * nI k = nI (rm k x) := by
  have := r16_lt x
  rw [sh16, remI (by omega) h0 hk]
  rfl
/-- the deed drawn, and what is drawn from next -/
def dD (x : Int32) : Nat × Int32 := if rm 6 (dx x) = 5 then (1000 + rm 36 (dx (dx x)), dx (dx x)) else (100 * rm 3 (dx (dx (dx x))) + 10 * rm 2 (dx (dx x)) + rm 4 (dx (dx (dx (dx x)))), dx (dx (dx (dx x))))
theorem dD_lt (x : Int32) : (dD x).1 < 2000 := by
  have h : ∀ k y, 0 < k → rm k y < k := fun k y hk => Nat.mod_lt _ hk
  have h1 := h 36 (dx (dx x)) (by decide)
  have h2 := h 3 (dx (dx (dx x))) (by decide)
  have h3 := h 2 (dx (dx x)) (by decide)
  have h4 := h 4 (dx (dx (dx (dx x)))) (by decide)
  unfold dD
  split
  · dsimp only
    omega
  · dsimp only
    omega
theorem r_draw (x : Int32) {k : Nat} (h0 : 0 < k) (hk : k < 2 ^ 31) (h : gI g 136 22 = x) : f_X12_draw 136 (nI k) g = some (nI (rm k (dx x)), sI g 136 22 (dx x)) := by
  rw [f_X12_draw, h, show (1103515245 : Int32) * x + (12345 : Int32) = dx x from rfl, lg, gdZ_nI h0 hk, gI_sIs, pk_us, c_rem _ h0 hk]
theorem r_drawnDeed (x : Int32) (h : gI g 136 22 = x) : ∃ g', f_X12_drawnDeed 136 g = some (nI (dD x).1, g') ∧ Fm [22] [] g g' ∧ gI g' 136 22 = (dD x).2 := by
  have u : ∀ (g : G) (v : Int32), gI (sI g 136 22 v) 136 22 = v := fun g v => by rw [gI_sIs, pk_us]
  have e6 : (6 : Int32) = nI 6 := rfl
  have e36 : (36 : Int32) = nI 36 := rfl
  have e2 : (2 : Int32) = nI 2 := rfl
  have e3 : (3 : Int32) = nI 3 := rfl
  have e4 : (4 : Int32) = nI 4 := rfl
  have l6 : rm 6 (dx x) < 2 ^ 31 := Nat.lt_of_lt_of_le (Nat.mod_lt _ (by decide)) (by decide)
  have five : (nI (rm 6 (dx x)) = (5 : Int32)) ↔ rm 6 (dx x) = 5 := nI_eq (b := 5) l6 (by decide)
  unfold dD
  rw [f_X12_drawnDeed, e6, r_draw x (by decide) (by decide) h, bd_eq]
  by_cases z : rm 6 (dx x) = 5
  · rw [if_pos (five.mpr z), if_pos z, e36, r_draw (dx x) (by decide) (by decide) (u _ _), bd_eq, show (1000 : Int32) = nI 1000 from rfl, nI_add]
    exact ⟨_, rfl, (Fm.rf.sf (by decide)).sf (by decide), u _ _⟩
  · rw [if_neg (fun q => z (five.mp q)), if_neg z, e2, r_draw (dx x) (by decide) (by decide) (u _ _), bd_eq, e3, r_draw (dx (dx x)) (by decide) (by decide) (u _ _), bd_eq, e4, r_draw (dx (dx (dx x))) (by decide) (by decide) (u _ _), bd_eq, show (100 : Int32) = nI 100 from rfl, pk_mul, show (10 : Int32) = nI 10 from rfl, pk_mul, nI_add, nI_add]
    exact ⟨_, rfl, (((Fm.rf.sf (by decide)).sf (by decide)).sf (by decide)).sf (by decide), u _ _⟩
end DRW
