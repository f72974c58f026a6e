/-! A WALL turned; who would be where: the class. -/
section WLT
variable {X : Nat → Prop} {A A' : Nat → Int32} {g g' : G} {b c ag : Nat} {S : List Nat}
def tA (A : Nat → Int32) (c : Nat) : Nat → Int32 := upd A (52 + c) (nI (1 - wl A c))
theorem tA_n {k : Nat} (h : k ≠ 52 + c) : tA A c k = A k := pk_un h
theorem tA_s : tA A c (52 + c) = nI (1 - wl A c) := pk_us
theorem tA_v {k : Nat} (h : k ≠ 52 + c) : nv (tA A c) k = nv A k := by
  unfold nv
  rw [tA_n h]
theorem tA_pl (hc : c < 36) : Pl A (tA A c) := fun k hk => tA_n (by omega)
theorem tA_tw (hc : c < 36) (i : Nat) : tw (tA A c) i = tw A i := tA_v (by omega)
theorem tA_sp (hc : c < 36) (r : Nat) : sp (tA A c) r = sp A r := by
  unfold sp
  rw [tA_tw hc, tA_tw hc, tA_v (by omega)]
theorem tA_md (hc : c < 36) (r : Nat) : md (tA A c) r = md A r := tA_v (by omega)
theorem tA_dn (hc : c < 36) (r : Nat) : dn (tA A c) r = dn A r := tA_v (by omega)
theorem tA_wl {e : Nat} : wl (tA A c) e = if e = c then 1 - wl A c else wl A e := by
  by_cases u : e = c
  · rw [if_pos u, u]
    unfold wl nv
    rw [tA_s]
    refine nI_clamp ?_
    have : 1 - wl A c ≤ 1 := Nat.sub_le _ _
    exact Nat.lt_of_le_of_lt this (by decide)
  · rw [if_neg u]
    exact tA_v (by omega)
theorem tA_wf (h : WF A) (hc : c < cS A) (hno : ∀ i, i < 2 * nv A 3 → tw A i ≠ c) : WF (tA A c) := by
  obtain ⟨hA, hB, hL, hE⟩ := h
  have cl := cS_le hA
  have k3 := hA.2.2.2.2.2.2.2
  have P := tA_pl (A := A) (show c < 36 by omega)
  have n3 : nv (tA A c) 3 = nv A 3 := P.n_ (by omega)
  refine ⟨P.d_ hA, VB.of (fun e he => ?_) (fun i hi => ?_) (fun i j hi hj hij => ?_) (fun r hr => ?_) (fun r hr => ?_) (fun r hr => ?_), P.lw_ hL, fun r hr => ?_⟩
  · rw [P.c_, tA_wl]
    by_cases u : e = c
    · rw [if_pos u, u, tA_s]
      exact ⟨rfl, Nat.sub_le _ _, fun z => by omega⟩
    · rw [if_neg u, tA_n (by omega)]
      exact hB.w he
  · rw [n3] at hi
    obtain ⟨t1, t2, t3⟩ := hB.t hi
    rw [P.c_, tA_tw (by omega), tA_n (by omega), tA_wl, if_neg (hno i hi)]
    exact ⟨t1, t2, t3⟩
  · rw [n3] at hi hj
    rw [tA_tw (by omega), tA_tw (by omega)]
    exact hB.d hi hj hij
  · rw [n3] at hr
    rw [tA_sp (by omega), tA_n (by omega)]
    exact hB.s hr
  · rw [n3] at hr
    rw [tA_md (by omega), tA_n (by omega)]
    exact hB.m hr
  · rw [n3] at hr
    rw [tA_dn (by omega), tA_n (by omega)]
    exact hB.o hr
  · rw [n3] at hr
    unfold VEp
    rw [tA_tw (by omega), tA_tw (by omega), tA_dn (by omega), tA_n (by omega), tA_n (by omega)]
    exact hE r hr
theorem c_turnWall (h : BD X g b A) (hX : ¬ X b) (hA : Dm A) (hB : VB A (bo A)) (hL : LW A) (v : Int32) : ∃ r g', f_X0_turnWall b v g = some (r, g') ∧ Fi [b] g g' ∧ gI g' = gI g ∧ ((r = -1 ∧ g' = g ∧ inR v (cS A) = false) ∨ ∃ c, c < cS A ∧ v = nI c ∧ ((r = -2 ∧ g' = g ∧ ¬ ∀ i, i < 2 * nv A 3 → tw A i ≠ c) ∨ ((∀ i, i < 2 * nv A 3 → tw A i ≠ c) ∧ r = nI (1 - wl A c) ∧ BD X g' b (tA A c)))) := by
  have cl := cS_le hA
  have k3 := hA.2.2.2.2.2.2.2
  obtain ⟨q, q1, q2⟩ := h.2.1
  rw [f_X0_turnWall, q1, dr_eq, gdK_pos q2.2.1, c_isCell q2 hA, bd_eq]
  cases hv : inR v (cS A) with
  | false => exact ⟨-1, g, by rw [ibF], Fi.rf, rfl, Or.inl ⟨rfl, rfl, rfl⟩⟩
  | true =>
    obtain ⟨c, hc, rfl⟩ := inR_true hv (by omega)
    rw [ibT, c_firstPairAt h hA hB (by omega), bd_eq]
    cases hf : fT A c (2 * nv A 3) 0 with
    | some i =>
      obtain ⟨f1, f2, f3⟩ := fT_some hf
      refine ⟨-2, g, ?_, Fi.rf, rfl, Or.inr ⟨c, hc, rfl, Or.inl ⟨rfl, rfl, fun u => u i (by omega) f3⟩⟩⟩
      rw [show oI ((some i).map (· / 2)) = nI (i / 2) from rfl, if_neg (nI_ne1 (by omega))]
    | none =>
      have hno : ∀ i, i < 2 * nv A 3 → tw A i ≠ c := fun i hi => fT_none.mp hf i (Nat.zero_le _) (by omega)
      obtain ⟨w1, w2, w3⟩ := hB.w (c := c) (by omega)
      have x1 : Fi [b] g (sL g b 1 (gL g b 1 ^^^ ((1 : Int64) <<< ((nI c).toInt64 &&& 63)))) := Fi.rf.sl (by simp)
      have bd' : BD X (sL g b 1 (gL g b 1 ^^^ ((1 : Int64) <<< ((nI c).toInt64 &&& 63)))) b (tA A c) := by
        refine h.new hA hL (tA_pl (by omega)) x1 (fun a ha => by rw [List.mem_singleton.mp ha]; exact hX) (fun e he => ?_) (fun i hi => ?_) (fun r hr => ?_) (fun r hr => ?_) (fun r hr => ?_)
        · rw [gL_sLs, pk_uLs, bt_xor, h.2.2.1 e he, bt_one (by omega), tA_wl]
          by_cases u : e = c
          · rw [if_pos u, u, decide_eq_true (show c = c from rfl)]
            by_cases w : wl A c = 1
            · rw [decide_eq_true ⟨by omega, w⟩, decide_eq_false (by omega)]
              rfl
            · rw [decide_eq_false (fun z => w z.2), decide_eq_true (by omega)]
              rfl
          · rw [if_neg u, decide_eq_false u, Bool.xor_false]
        · rw [gI_sL, tA_tw (by omega)]
          exact h.2.2.2.1 i hi
        · rw [gI_sL, tA_sp (by omega)]
          exact h.2.2.2.2.1 r hr
        · rw [gI_sL, tA_md (by omega)]
          exact h.2.2.2.2.2.1 r hr
        · rw [gI_sL, tA_dn (by omega)]
          exact h.2.2.2.2.2.2 r hr
      refine ⟨nI (1 - wl A c), _, ?_, x1, rfl, Or.inr ⟨c, hc, rfl, Or.inr ⟨hno, rfl, bd'⟩⟩⟩
      have P := tA_pl (A := A) (show c < 36 by omega)
      rw [show oI ((none : Option Nat).map (· / 2)) = -1 from rfl, if_pos rfl, lg, c_isWall bd' (P.d_ hA) (by rw [P.c_]; exact hc), bd_eq, tA_wl, if_pos rfl]
      by_cases w : wl A c = 1
      · rw [decide_eq_false (by omega), ibF, w]
        rfl
      · rw [decide_eq_true (by omega), ibT, show wl A c = 0 by omega]
        rfl
end WLT
