/-! ANOTHER MOOD in the reference's row: the row stays well told. -/
section MDW
variable {A : Nat → Int32} {p x : Nat}
theorem mA_fre (hA : Dm A) (hp : p < 3) {c : Nat} (hc : c < 36) (r : Nat) : fre (mA A p x) r c = fre A r c := by
  have k3 := hA.2.2.2.2.2.2.2
  unfold fre
  rw [mA_wl hc, mA_v (k := 3) (by omega), decide_eq_decide]
  constructor
  · rintro ⟨a1, a2⟩
    exact ⟨a1, fun i h1 h2 => by
      rw [← mA_tw (A := A) (p := p) (x := x) (by omega)]
      exact a2 i h1 h2⟩
  · rintro ⟨a1, a2⟩
    exact ⟨a1, fun i h1 h2 => by
      rw [mA_tw (by omega)]
      exact a2 i h1 h2⟩
theorem mA_LV (hp : p < 3) {w : Nat} (hw : w < 2) {b : Bool} (h : LV A w b) : LV (mA A p x) w b := by
  unfold LV at h ⊢
  rw [mA_L hw hp, mA_v (k := 8 + w) (by omega), mA_v (k := 6 + w) (by omega), mA_n (k := 8 + w) (by omega), mA_n (k := 6 + w) (by omega)]
  refine ⟨h.1, h.2.1, h.2.2.1, fun j hj => ?_, h.2.2.2.2⟩
  rw [mA_n (by omega), mA_v (by omega)]
  exact h.2.2.2.1 j hj
theorem mA_ok (hA : Dm A) (hB : VB A (bo A)) (hL : LW A) (hp : p < nv A 3) (hx : x ≤ 9) : Dm (mA A p x) ∧ VB (mA A p x) (bo (mA A p x)) ∧ LW (mA A p x) := by
  have cl := cS_le hA
  have k3 := hA.2.2.2.2.2.2.2
  have bn : ∀ k, k ≠ 45 + p → bo (mA A p x) k = bo A k := fun k h => mA_n (by omega)
  have nn : ∀ k, k ≠ 45 + p → nv (bo (mA A p x)) k = nv (bo A) k := fun k h => by
    unfold nv
    rw [bn k h]
  refine ⟨?_, ⟨fun d hd => ?_, fun i hi => ?_, fun i j hi hj hij => ?_, fun r hr => ?_, fun r hr => ?_, fun r hr => ?_⟩, ?_⟩
  · unfold Dm at hA ⊢
    rw [mA_v (k := 1) (by omega), mA_v (k := 2) (by omega), mA_v (k := 3) (by omega), mA_n (k := 1) (by omega), mA_n (k := 2) (by omega), mA_n (k := 3) (by omega)]
    exact hA
  · rw [mA_cS, bn d (by omega), nn d (by omega)]
    exact hB.1 d hd
  · rw [mA_v (k := 3) (by omega)] at hi
    have b2 := hB.2.1 i hi
    rw [mA_cS, bn _ (by omega), nn (36 + i) (by omega), nn _ (by omega)]
    exact b2
  · rw [mA_v (k := 3) (by omega)] at hi hj
    rw [nn _ (by omega), nn _ (by omega)]
    exact hB.2.2.1 i j hi hj hij
  · rw [mA_v (k := 3) (by omega)] at hr
    rw [bn _ (by omega), nn _ (by omega), nn _ (by omega), mA_v (k := 2) (by omega)]
    exact hB.2.2.2.1 r hr
  · rw [mA_v (k := 3) (by omega)] at hr
    by_cases e : r = p
    · have e1 : bo (mA A p x) (45 + r) = nI x := by
        rw [e]
        show mA A p x (52 + (45 + p)) = nI x
        rw [show 52 + (45 + p) = 97 + p by omega]
        exact mA_s
      have e2 : nv (bo (mA A p x)) (45 + r) = x := by
        unfold nv
        rw [e1]
        exact nI_clamp (by omega)
      rw [e1, e2]
      exact ⟨rfl, hx⟩
    · rw [bn _ (by omega), nn _ (by omega)]
      exact hB.2.2.2.2.1 r hr
  · rw [mA_v (k := 3) (by omega)] at hr
    rw [bn _ (by omega), nn _ (by omega)]
    exact hB.2.2.2.2.2 r hr
  · obtain ⟨h1, h2, h3⟩ := hL
    refine ⟨fun d hd => ?_, ?_, ?_⟩
    · have := h1 d hd
      unfold ht at this ⊢
      rw [mA_n (by omega), mA_v (by omega)]
      exact this
    · rw [mA_n (by omega)]
      exact h2.imp id (fun u => mA_LV (by omega) (by decide) u)
    · rw [mA_n (by omega)]
      exact h3.imp id (fun u => mA_LV (by omega) (by decide) u)
end MDW
