/-! THE DRAFT against the reference's fresh row. -/
section DRF
variable {X Y : Nat → Prop} {A F F' : Nat → Int32} {g g' : G} {q p w : Nat} {S : List Nat} {o : Option Nat}
def PQ (g : G) (q : Nat) (F : Nat → Int32) : Prop := KD g q 7 ∧ (gI g q 0 = F 1 ∧ gI g q 1 = F 2 ∧ gI g q 2 = nI (cS F) ∧ gI g q 4 = F 3 ∧ gI g q 5 = F 0) ∧ (∀ c, c < 64 → bt (gL g q 3) c = decide (c < cS F)) ∧ (Ar g (gR g q 6) (q + 1) 36 ∧ Ar g (gR g q 7) (q + 2) 36 ∧ Ar g (gR g q 8) (q + 3) 36 ∧ Ar g (gR g q 9) (q + 4) 6) ∧ ((∀ c, c < 36 → gI g (q + 1) c = nI (hp F c)) ∧ (∀ c, c < cS F → gI g (q + 2) c = nI (c / nv F 2)) ∧ (∀ c, c < cS F → gI g (q + 3) c = nI (c % nv F 2)) ∧ ∀ i, i < 6 → gI g (q + 4) i = F (46 + i)) ∧ LR (fun a => q + 5 ≤ a) g (gR g q 10) F 0 ∧ LR (fun a => q + 5 ≤ a) g (gR g q 11) F 1
def DQ (g : G) (F : Nat → Int32) : Prop := (∀ c, c < 64 → bt (gL g 63 1) c = decide (c < 36 ∧ F (10 + c) = nI 9)) ∧ (∀ i, i < 6 → gI g 64 i = if i < 2 * nv F 3 then F (88 + i) else 0) ∧ (∀ p, p < 3 → gI g 65 p = if p < nv F 3 then nI (sp F p) else 0) ∧ (∀ p, p < 3 → gI g 66 p = F (97 + p)) ∧ ∀ p, p < 3 → gI g 67 p = if p < nv F 3 then nI (dnw F p (tw F (2 * p)) (tw F (2 * p + 1)) 0) else 0
def WQ (F : Nat → Int32) : Prop := Dm F ∧ (∀ c, c < 36 → F (10 + c) = nI (ht F c) ∧ ht F c ≤ 9 ∧ (cS F ≤ c → ht F c = 0)) ∧ (∀ i, i < 2 * nv F 3 → F (88 + i) = nI (tw F i) ∧ tw F i < cS F ∧ ht F (tw F i) ≠ 9) ∧ (∀ i j, i < 2 * nv F 3 → j < 2 * nv F 3 → i / 2 ≠ j / 2 → tw F i ≠ tw F j) ∧ (∀ p, p < 3 → F (97 + p) = nI (md F p) ∧ md F p ≤ 9) ∧ ((F 4 = nI 0 ∨ (LV F 0 true ∧ nv F 6 + nv F 8 ≤ nv F 614)) ∧ (F 5 = nI 0 ∨ (LV F 1 false ∧ nv F 7 + nv F 9 ≤ nv F 614))) ∧ F 614 = nI (nv F 614) ∧ F 103 = nI 0 ∧ ∀ p, p < 3 → F (100 + p) = nI 0
theorem WQ.lw (h : WQ F) : LW F := ⟨fun c hc => ⟨(h.2.1 c hc).1, (h.2.1 c hc).2.1⟩, h.2.2.2.2.2.1.1.imp id And.left, h.2.2.2.2.2.1.2.imp id And.left⟩
def fnR (F : Nat → Int32) : Nat → Int32 := fun j => if 52 ≤ j ∧ j < 88 then (if F (j - 42) = nI 9 then nI 1 else nI 0) else if 94 ≤ j ∧ j < 94 + nv F 3 then nI (sp F (j - 94)) else if 100 ≤ j ∧ j < 100 + nv F 3 then nI (dnw F (j - 100) (tw F (2 * (j - 100))) (tw F (2 * (j - 100) + 1)) 0) else F j
theorem fn_lo (h3 : nv F 3 ≤ 3) {j : Nat} (hj : j < 52 ∨ (88 ≤ j ∧ j < 94) ∨ (97 ≤ j ∧ j < 100) ∨ 103 ≤ j) : fnR F j = F j := by
  unfold fnR
  rw [if_neg (by omega), if_neg (by omega), if_neg (by omega)]
theorem fn_w {c : Nat} (hc : c < 36) : fnR F (52 + c) = if F (10 + c) = nI 9 then nI 1 else nI 0 := by
  unfold fnR
  rw [if_pos (by omega), show 52 + c - 42 = 10 + c by omega]
theorem fn_s (hp : p < nv F 3) : fnR F (94 + p) = nI (sp F p) := by
  unfold fnR
  rw [if_neg (by omega), if_pos (by omega), show 94 + p - 94 = p by omega]
theorem fn_d (h3 : nv F 3 ≤ 3) (hp : p < nv F 3) : fnR F (100 + p) = nI (dnw F p (tw F (2 * p)) (tw F (2 * p + 1)) 0) := by
  unfold fnR
  rw [if_neg (by omega), if_neg (by omega), if_pos (by omega), show 100 + p - 100 = p by omega]
theorem fn_pl (h3 : nv F 3 ≤ 3) : Pl F (fnR F) := fun k hk => fn_lo h3 (by omega)
theorem fn_n (h3 : nv F 3 ≤ 3) {j : Nat} (hj : j < 52 ∨ (88 ≤ j ∧ j < 94) ∨ (97 ≤ j ∧ j < 100) ∨ 103 ≤ j) : nv (fnR F) j = nv F j := by
  unfold nv
  rw [fn_lo h3 hj]
theorem fn_wl {c : Nat} (hc : c < 36) : wl (fnR F) c = if F (10 + c) = nI 9 then 1 else 0 := by
  unfold wl nv
  rw [fn_w hc]
  split <;> rfl
theorem fn_sp (h3 : nv F 3 ≤ 3) (hp : p < 3) : sp (fnR F) p = sp F p := by
  unfold sp tw
  rw [fn_n h3 (by omega), fn_n h3 (by omega), fn_n h3 (by omega)]
theorem dn_lt {x y : Nat} : dnw F p x y 0 ≤ 3 := dnw_3 (by decide)
theorem fn_wf (h : WQ F) : WF (fnR F) := by
  obtain ⟨hA, h2, h3, h4, h5, -, -, -, -⟩ := id h
  have k3 := hA.2.2.2.2.2.2.2
  have cl := cS_le hA
  have P := fn_pl (F := F) k3
  have n3 : nv (fnR F) 3 = nv F 3 := fn_n k3 (by omega)
  have T : ∀ i, i < 6 → tw (fnR F) i = tw F i := fun i hi => fn_n k3 (by omega)
  refine ⟨P.d_ hA, VB.of (fun c hc => ?_) (fun i hi => ?_) (fun i j hi hj hij => ?_) (fun r hr => ?_) (fun r hr => ?_) (fun r hr => ?_), P.lw_ h.lw, fun r hr => ?_⟩
  · rw [P.c_, fn_wl hc, fn_w hc]
    obtain ⟨a1, a2, a3⟩ := h2 c hc
    by_cases e : F (10 + c) = nI 9
    · rw [if_pos e, if_pos e]
      refine ⟨rfl, Nat.le_refl _, fun u => ?_⟩
      have b := a3 u
      rw [e, b, nI_eq (by decide) (by decide)] at a1
      omega
    · rw [if_neg e, if_neg e]
      exact ⟨rfl, by decide, fun _ => rfl⟩
  · rw [n3] at hi
    obtain ⟨t1, t2, t3⟩ := h3 i hi
    rw [P.c_, T i (by omega), fn_lo k3 (by omega), fn_wl (by omega), if_neg]
    · exact ⟨t1, t2, rfl⟩
    · intro u
      rw [(h2 (tw F i) (by omega)).1, nI_eq (by have := (h2 (tw F i) (by omega)).2.1; omega) (by decide)] at u
      exact t3 u
  · rw [n3] at hi hj
    rw [T i (by omega), T j (by omega)]
    exact h4 i j hi hj hij
  · rw [n3] at hr
    rw [fn_sp k3 (by omega), fn_s hr]
  · rw [n3] at hr
    have e : md (fnR F) r = md F r := fn_n k3 (by omega)
    rw [e, fn_lo k3 (by omega)]
    exact h5 r (by omega)
  · rw [n3] at hr
    have e : dn (fnR F) r = dnw F r (tw F (2 * r)) (tw F (2 * r + 1)) 0 := by
      unfold dn nv
      rw [fn_d k3 hr, nI_clamp (by have := @dn_lt F r (tw F (2 * r)) (tw F (2 * r + 1)); omega)]
    rw [e, fn_d k3 hr]
    exact ⟨rfl, dn_lt⟩
  · rw [n3] at hr
    have e : dn (fnR F) r = dnw F r (tw F (2 * r)) (tw F (2 * r + 1)) 0 := by
      unfold dn nv
      rw [fn_d k3 hr, nI_clamp (by have := @dn_lt F r (tw F (2 * r)) (tw F (2 * r + 1)); omega)]
    unfold VEp
    rw [T _ (by omega), T _ (by omega), e, fn_lo k3 (j := 46 + 2 * r) (by omega), fn_lo k3 (j := 46 + 2 * r + 1) (by omega)]
    have o := or_3 0 (by decide)
    unfold dnw
    refine ⟨fun u => ?_, fun u => ?_⟩
    · rw [if_pos u.symm]
      split <;> omega
    · rw [if_pos u.symm]
      split <;> omega
theorem LR.mx (h : LR X g o A w) (k : ∀ a, X a → Y a) : LR Y g o A w := h.imp id (fun ⟨a, b, c, d⟩ => ⟨a, b, k b c, d⟩)
theorem PQ.pr (h : PQ g q F) (hA : Dm F) : PR (fun a => q ≤ a) g q F := by
  obtain ⟨h1, h2, h3, ⟨h4, h5, h6, h7⟩, ⟨h8, h9, h10, h11⟩, h12, h13⟩ := h
  have cl := cS_le hA
  have k3 := hA.2.2.2.2.2.2.2
  exact ⟨Nat.le_refl _, h1, h2, h3, ⟨q + 1, by omega, h4, fun i hi => h8 i (by omega)⟩, ⟨q + 2, by omega, h5, h9⟩, ⟨q + 3, by omega, h6, h10⟩, ⟨q + 4, by omega, h7, fun i hi => h11 i (by omega)⟩, h12.mx (fun a ha => by omega), h13.mx (fun a ha => by omega)⟩
theorem PQ.bd (hs : Sh g) (h : PQ g q F) (d : DQ g F) (hW : WQ F) (hq : gR g 63 0 = some q) : BD (fun a => q ≤ a) g 63 (fnR F) := by
  have hA := hW.1
  have k3 := hA.2.2.2.2.2.2.2
  obtain ⟨d1, d2, d3, d4, d5⟩ := d
  have n3 : nv (fnR F) 3 = nv F 3 := fn_n k3 (by omega)
  refine ⟨bS63 hs, ⟨q, hq, (h.pr hA).pl hA hW.lw (fn_pl k3)⟩, fun c hc => ?_, fun i hi => ?_, fun r hr => ?_, fun r hr => ?_, fun r hr => ?_⟩
  · rw [d1 c hc, decide_eq_decide]
    constructor
    · rintro ⟨u1, u2⟩
      exact ⟨u1, by rw [fn_wl u1, if_pos u2]⟩
    · rintro ⟨u1, u2⟩
      rw [fn_wl u1] at u2
      by_cases e : F (10 + c) = nI 9
      · exact ⟨u1, e⟩
      · rw [if_neg e] at u2
        cases u2
  · rw [n3] at hi
    rw [d2 i (by omega), if_pos hi, (hW.2.2.1 i hi).1, show tw (fnR F) i = tw F i from fn_n k3 (by omega)]
  · rw [n3] at hr
    rw [d3 r (by omega), if_pos hr, fn_sp k3 (by omega)]
  · rw [n3] at hr
    rw [d4 r (by omega), (hW.2.2.2.2.1 r (by omega)).1, show md (fnR F) r = md F r from fn_n k3 (by omega)]
  · rw [n3] at hr
    rw [d5 r (by omega), if_pos hr]
    unfold dn nv
    rw [fn_d k3 hr, nI_clamp (by have := @dn_lt F r (tw F (2 * r)) (tw F (2 * r + 1)); omega)]
theorem PQ.fa (h : PQ g q F) (x : Fa S g g') (hS : ∀ a ∈ S, a < q) : PQ g' q F := by
  obtain ⟨h1, h2, h3, ⟨h4, h5, h6, h7⟩, h8, h12, h13⟩ := h
  have nq : ∀ k, q + k ∉ S := fun k u => by
    have := hS _ u
    omega
  refine ⟨h1.fa x, ?_⟩
  rw [x.I h1 (nq 0), x.L h1 (nq 0), x.R h1 (nq 0), x.I h4.2.1 (nq 1), x.I h5.2.1 (nq 2), x.I h6.2.1 (nq 3), x.I h7.2.1 (nq 4)]
  exact ⟨h2, h3, ⟨h4.fa x, h5.fa x, h6.fa x, h7.fa x⟩, h8, h12.fa x (fun a ha u => by have := hS a ha; omega), h13.fa x (fun a ha u => by have := hS a ha; omega)⟩
theorem DQ.cg (h : DQ g F) (eL : gL g' 63 = gL g 63) (e1 : gI g' 64 = gI g 64) (e2 : gI g' 65 = gI g 65) (e3 : gI g' 66 = gI g 66) (e4 : gI g' 67 = gI g 67) : DQ g' F := by
  unfold DQ
  rw [eL, e1, e2, e3, e4]
  exact h
theorem DQ.fa (h : DQ g F) (hs : Sh g) (x : Fa S g g') (hS : ∀ a ∈ S, a < 63 ∨ 67 < a) : DQ g' F := by
  have n : ∀ k, 63 ≤ k → k ≤ 67 → k ∉ S := fun k k1 k2 u => by
    have := hS _ u
    omega
  exact h.cg (x.L (sk63 hs) (n 63 (by decide) (by decide))) (x.I (sk64 hs) (n 64 (by decide) (by decide))) (x.I (sk65 hs) (n 65 (by decide) (by decide))) (x.I (sk66 hs) (n 66 (by decide) (by decide))) (x.I (sk67 hs) (n 67 (by decide) (by decide)))
end DRF
