/-! ANOTHER MOOD in the reference's row: what it changes. -/
section MDV
variable {A : Nat → Int32} {F : Nat → Bool} {p m x : Nat}
def mA (A : Nat → Int32) (p x : Nat) : Nat → Int32 := upd A (97 + p) (nI x)
theorem mA_n {k : Nat} (h : k ≠ 97 + p) : mA A p x k = A k := pk_un h
theorem mA_s : mA A p x (97 + p) = nI x := pk_us
theorem mA_v {k : Nat} (h : k ≠ 97 + p) : nv (mA A p x) k = nv A k := by
  unfold nv
  rw [mA_n h]
theorem mA_tw {i : Nat} (hi : i < 6) : tw (mA A p x) i = tw A i := mA_v (by omega)
theorem mA_wl {c : Nat} (hc : c < 36) : wl (mA A p x) c = wl A c := mA_v (by omega)
theorem mA_cS : cS (mA A p x) = cS A := by
  unfold cS
  rw [mA_v (by omega), mA_v (by omega)]
theorem mA_md (hx : x < 2 ^ 31) : md (mA A p x) p = x := by
  unfold md nv
  rw [mA_s]
  exact nI_clamp hx
theorem mA_sp (hp : p < 3) : sp (mA A p x) p = sp A p := by
  unfold sp
  rw [mA_tw (by omega), mA_tw (by omega), mA_v (by omega)]
theorem mA_L {w : Nat} (hw : w < 2) (hp : p < 3) : lawL (mA A p x) w = lawL A w := by
  unfold lawL
  rw [mA_v (k := 8 + w) (by omega), mA_v (k := 6 + w) (by omega)]
  congr 1
  funext j
  exact mA_v (by omega)
theorem mA_hp {a : Nat} (ha : a < 36) : hp (mA A p x) a = hp A a := by
  unfold hp ht
  rw [mA_v (by omega)]
theorem mA_may (hp : p < 3) {t a b : Nat} (ha : a < 36) (hb : b < 36) : may (mA A p x) p m t a b = may A p m t a b := by
  unfold may lawT lawV
  rw [mA_L (by decide) hp, mA_hp ha, mA_hp hb, mA_v (k := 2) (by omega), mA_n (k := 4) (by omega)]
theorem mA_dw (hA : Dm A) (hp : p < 3) {t b y : Nat} (hb : b < cS A) : dwS (mA A p x) F p m t b y = dwS A F p m t b y := by
  have cl := cS_le hA
  unfold dwS
  rw [mA_v (k := 2) (by omega), mA_sp hp, mA_cS]
  by_cases z : F b = true ∧ apS (nv A 2) y b = sp A p
  · rw [if_pos z, if_pos z]
  · rw [if_neg z, if_neg z]
    exact bst_congr (fun d hd => by rw [mA_may hp (by omega) (by omega)])
theorem mA_st (hA : Dm A) (hp : p < 3) {t a b w : Nat} (ha : a < cS A) (hb : b < cS A) : stS (mA A p x) F p m t a b w = stS A F p m t a b w := by
  have cl := cS_le hA
  unfold stS
  rw [mA_v (k := 1) (by omega), mA_v (k := 2) (by omega)]
  cases hx : besS (nv A 1) (nv A 2) a w with
  | none => rfl
  | some y =>
    have hx' : y < cS A := besS_lt (by have := hA.2.2.2.2.1; omega) ha hx
    dsimp only
    rw [mA_may hp (by omega) (by omega), mA_dw hA hp hb]
theorem mA_back {v : Int32} (h : A (97 + p) = v) : upd (mA A p x) (97 + p) v = A := by
  funext j
  by_cases e : j = 97 + p
  · rw [e, pk_us, h]
  · rw [pk_un e, mA_n e]
end MDV
