/-! THE START: the invariant. -/
section STB
def X0 (a : Nat) : Prop := 42 ≤ a ∧ a ≤ 46
def A0 : Nat → Int32 := gI gB 137
theorem rng {n : Nat} {P : Nat → Prop} [DecidablePred P] (h : (List.range n).all (fun k => decide (P k)) = true) {k : Nat} (hk : k < n) : P k := of_decide_eq_true (List.all_eq_true.mp h k (List.mem_range.mpr hk))
theorem a_dm : Dm A0 := by
  unfold Dm
  decide +kernel
theorem a_3 : nv A0 3 = 0 := by decide +kernel
theorem a_c : cS A0 = 1 := by decide +kernel
theorem a_wl {c : Nat} (hc : c < 36) : A0 (52 + c) = nI (wl A0 c) ∧ wl A0 c ≤ 1 ∧ (cS A0 ≤ c → wl A0 c = 0) := rng (n := 36) (P := fun c => A0 (52 + c) = nI (wl A0 c) ∧ wl A0 c ≤ 1 ∧ (cS A0 ≤ c → wl A0 c = 0)) (by decide +kernel) hc
theorem a_ht {c : Nat} (hc : c < 36) : A0 (10 + c) = nI (ht A0 c) ∧ ht A0 c ≤ 9 := rng (n := 36) (P := fun c => A0 (10 + c) = nI (ht A0 c) ∧ ht A0 c ≤ 9) (by decide +kernel) hc
theorem a_wf : WF A0 := by
  refine ⟨a_dm, VB.of (fun c hc => a_wl hc) (fun i hi => ?_) (fun i j hi => ?_) (fun p hp => ?_) (fun p hp => ?_) (fun p hp => ?_), ⟨fun c hc => a_ht hc, Or.inl (by decide +kernel), Or.inl (by decide +kernel)⟩, fun p hp => ?_⟩
  all_goals first
    | (rw [a_3] at hi; omega)
    | (rw [a_3] at hp; omega)
theorem b_all {c : Nat} (hc : c < 64) : bt (gL gB 42 3) c = decide (c < cS A0) := rng (n := 64) (P := fun c => bt (gL gB 42 3) c = decide (c < cS A0)) (by decide +kernel) hc
theorem b_w {c : Nat} (hc : c < 64) : bt (gL gB 47 1) c = decide (c < 36 ∧ wl A0 c = 1) := rng (n := 64) (P := fun c => bt (gL gB 47 1) c = decide (c < 36 ∧ wl A0 c = 1)) (by decide +kernel) hc
theorem b_pr : PR X0 gB 42 A0 := by
  refine ⟨by unfold X0; decide, ⟨by decide +kernel, by rw [gB_n]; decide⟩, ⟨by decide +kernel, by decide +kernel, by decide +kernel, by decide +kernel, by decide +kernel⟩, fun c hc => b_all hc, ⟨43, by unfold X0; decide, ⟨by decide +kernel, ⟨by decide +kernel, by rw [gB_n]; decide⟩, by decide +kernel⟩, fun c hc => ?_⟩, ⟨44, by unfold X0; decide, ⟨by decide +kernel, ⟨by decide +kernel, by rw [gB_n]; decide⟩, by decide +kernel⟩, fun c hc => ?_⟩, ⟨45, by unfold X0; decide, ⟨by decide +kernel, ⟨by decide +kernel, by rw [gB_n]; decide⟩, by decide +kernel⟩, fun c hc => ?_⟩, ⟨46, by unfold X0; decide, ⟨by decide +kernel, ⟨by decide +kernel, by rw [gB_n]; decide⟩, by decide +kernel⟩, fun i hi => ?_⟩, Or.inl ⟨by decide +kernel, by decide +kernel⟩, Or.inl ⟨by decide +kernel, by decide +kernel⟩⟩
  · rw [a_c] at hc
    rw [show c = 0 by omega]
    decide +kernel
  · rw [a_c] at hc
    rw [show c = 0 by omega]
    decide +kernel
  · rw [a_c] at hc
    rw [show c = 0 by omega]
    decide +kernel
  · rw [a_3] at hi
    omega
theorem b_bd : BD X0 gB 47 A0 := by
  refine ⟨bS47 Sh_B, ⟨42, by decide +kernel, b_pr⟩, fun c hc => b_w hc, fun i hi => ?_, fun p hp => ?_, fun p hp => ?_, fun p hp => ?_⟩
  all_goals first
    | (rw [a_3] at hi; omega)
    | (rw [a_3] at hp; omega)
theorem b_si : SI 0 gB := by
  refine ⟨⟨by decide +kernel, by decide, fun i hi => ⟨0, Nat.le_refl _, by rw [gI_A (by decide)]; exact rng (n := 2592) (P := fun i => gI gA 71 i = nI 0) (by decide +kernel) hi⟩, fun i hi => ⟨0, Nat.le_refl _, by rw [gI_A (by decide)]; exact rng (n := 2592) (P := fun i => gI gA 73 i = nI 0) (by decide +kernel) hi⟩⟩, 0, 0, by decide, by decide, by decide +kernel, by decide +kernel, Or.inl rfl⟩
theorem b_tr : TR gB := fun t ht => ⟨-1, 0, Or.inl rfl, by decide, rng (n := 4) (P := fun t => gI gB (128 + 2 * t) 1 = -1) (by decide +kernel) ht, rng (n := 4) (P := fun t => gI gB 152 t = -1) (by decide +kernel) ht, rng (n := 4) (P := fun t => gI gB (128 + 2 * t) 0 = nI 0) (by decide +kernel) ht, rng (n := 4) (P := fun t => gI gB 153 t = nI 0) (by decide +kernel) ht, fun k hk => by omega⟩
theorem b_inv : Inv X0 A0 0 gB := by
  refine ⟨⟨⟨Sh_B, rfl, a_wf.1, a_wf.2.1, a_wf.2.2.1⟩, fun a ha => Or.inl ha, b_bd, b_si, Or.inl (by decide +kernel)⟩, b_tr, ⟨0, by decide, by decide +kernel, by decide +kernel, fun k hk => by omega⟩, ⟨by decide +kernel, by decide +kernel⟩, ⟨0, 0, by decide, by decide, by decide +kernel, by decide +kernel, by decide +kernel, fun k hk => by omega⟩, ⟨fun i hi => Or.inl ⟨rng (n := 2) (P := fun i => gI gB 138 i = 0) (by decide +kernel) hi, rng (n := 2) (P := fun i => gR gB 41 i = none) (by decide +kernel) hi⟩, fun b c u => ?_⟩, fun a ha => ?_, a_wf.2.2.2⟩
  · have : gR gB 41 0 = none := by decide +kernel
    rw [this] at u
    cases u
  · rw [gB_n]
    have := ha.2
    omega
end STB
