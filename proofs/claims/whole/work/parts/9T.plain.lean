/-! PLAIN READERS: fault, cell, pair, count. -/
section PLR
variable {X : Nat → Prop} {A : Nat → Int32} {g g' : G} {p t ag : Nat}
theorem q_fault (h : Inv X A ag g) (u : Int32) : CA ag g (f_X11_fault 0 u g) (fun g => f_X12_fault 136 u g) := by
  have f := h.2.2.2.1
  refine CA.no (v := if u = 0 then gI g 0 2 else if u = 1 then gI g 0 3 else -1) h ?_ ?_
  · rw [f_X11_fault]
    split
    · rfl
    · split <;> rfl
  · show f_X12_fault 136 u g = _
    rw [f_X12_fault, lg, gI_sIs, pk_un (by decide), pk_un (by decide), f.1, f.2]
    split
    · rfl
    · split <;> rfl
theorem r_ce49 (hr : RS A g) {c : Nat} (hc : c < 36) : ∀ fu k, k ≤ 2 * nv A 3 → 2 * nv A 3 < fu + k → f_X12_cell_49 fu 136 (nI c) (nI k) g = some (oI ((fT A c (2 * nv A 3 - k) k).map (· / 2)), g) := by
  have k3 := hr.k3
  have cl := hr.cl
  have e3 := hr.2.2.1.2.2.2.2.2.2.1
  intro fu
  induction fu with
  | zero => intro k _ h; omega
  | succ fu ih =>
    intro k hk hfu
    rw [f_X12_cell_49, md136_1 hr.1, gk137 hr.1, sn137 hr.1, show (3 : Int32) = nI 3 from rfl, gdI_nI (by decide) (by decide), nI_clamp (show 3 < 2 ^ 31 by decide), hr.2.1, e3, nI2]
    rcases Nat.lt_or_ge k (2 * nv A 3) with z | z
    · obtain ⟨t1, t2, -⟩ := hr.2.2.2.1.t z
      rw [if_neg (nI_ge z (by omega)), show (88 : Int32) = nI 88 from rfl, nI_add, gdI_nI (by omega) (by decide), nI_clamp (show 88 + k < 2 ^ 31 by omega), t1, show 2 * nv A 3 - k = 2 * nv A 3 - (k + 1) + 1 by omega, fT]
      by_cases u : tw A k = c
      · rw [if_pos (by rw [u]), if_pos u, show (2 : Int32) = nI 2 from rfl, pk_div (by omega) (by decide) (by decide)]
        rfl
      · rw [if_neg (fun q => u ((nI_eq (by omega) (by omega)).mp q)), if_neg u, lad1, ih (k + 1) (by omega) (by omega)]
    · have : k = 2 * nv A 3 := by omega
      subst this
      rw [if_pos (nI_le z (by omega)), Nat.sub_self]
      rfl
theorem q_cell (h : Inv X A ag g) (u v : Int32) : CA ag g (f_X11_cell 0 u v g) (fun g => f_X12_cell 136 u v g) := by
  obtain ⟨h1, h2, h3, h4, h5⟩ := id h.1
  have hs := h1.1
  have hA := h1.2.2.1
  have hB := h1.2.2.2.1
  have cl := h1.cl
  have k3 := h1.k3
  have hr := h1.t0
  obtain ⟨q, q1, q2⟩ := id h3.2.1
  have pl : ∀ {α : Type} (f : Nat → Option α), dr (gR g 47 0) f = f q := fun f => by
    rw [q1]
    rfl
  cases hu : inR u (cS A) with
  | false => exact CA.no (v := -2) h (by rw [f_X11_cell, md0_4 hs, gk47 hs, pl, gdK_pos q2.2.1, c_isCell q2 hA, hu, bd_eq, ibF]) (by
      show f_X12_cell 136 u v g = _
      rw [f_X12_cell, lg, R_isCell hr, inL_I, hu, bd_eq, ibF])
  | true =>
    obtain ⟨c, hc, rfl⟩ := inR_true hu (by omega)
    have cc : f_X11_cell 0 (nI c) v g = if v = 0 then some (nI (hgt A c), g) else if v = 1 then some (nI (cT A c (fun _ => true) (2 * nv A 3)), g) else if v = 2 then some (oI ((fT A c (2 * nv A 3) 0).map (· / 2)), g) else some (-2, g) := by
      rw [f_X11_cell, md0_4 hs, gk47 hs, pl, gdK_pos q2.2.1, c_isCell q2 hA, hu, bd_eq, ibT]
      by_cases e0 : v = 0
      · obtain ⟨a, -, a2, a3⟩ := q2.2.2.2.2.1
        obtain ⟨w1, w2, -⟩ := hB.w (c := c) (by omega)
        rw [if_pos e0, if_pos e0, md0_4 hs, gk47 hs, c_isWall h3 hA hc, bd_eq]
        unfold hgt
        by_cases w : wl A c = 1
        · rw [decide_eq_true w, ibT, if_pos w]
          rfl
        · rw [decide_eq_false w, ibF, if_neg w, md0_4 hs, gk47 hs, pl, gdK_pos q2.2.1, a2.get (by omega) (by decide), nI_clamp (by omega), a3 c hc]
          rfl
      · rw [if_neg e0, if_neg e0]
        by_cases e1 : v = 1
        · rw [if_pos e1, if_pos e1, md0_4 hs, gk47 hs, c_twinsAt h3 hA hB (by omega), bd_eq]
        · rw [if_neg e1, if_neg e1]
          by_cases e2 : v = 2
          · rw [if_pos e2, if_pos e2, md0_4 hs, gk47 hs, c_firstPairAt h3 hA hB (by omega), bd_eq]
          · rw [if_neg e2, if_neg e2]
    have rr : f_X12_cell 136 (nI c) v g = if v = 0 then some (nI (hgt A c), sI g 136 0 0) else if v = 1 then some (nI (cT A c (fun _ => true) (2 * nv A 3)), sI g 136 0 0) else if v = 2 then some (oI ((fT A c (2 * nv A 3) 0).map (· / 2)), sI g 136 0 0) else some (-2, sI g 136 0 0) := by
      rw [f_X12_cell, lg, R_isCell hr, inL_I, hu, bd_eq, ibT]
      by_cases e0 : v = 0
      · rw [if_pos e0, if_pos e0, R_heightOf hr (by omega), bd_eq]
      · rw [if_neg e0, if_neg e0]
        by_cases e1 : v = 1
        · rw [if_pos e1, if_pos e1, R_twinsIn hr (by omega) (fun _ => true) (-1) (fun i hi => ⟨fun u => absurd u (nI_ne1 (by omega)), fun u => by cases u⟩), bd_eq]
        · rw [if_neg e1, if_neg e1]
          by_cases e2 : v = 2
          · have ce := r_ce49 hr (c := c) (by omega) FU 0 (Nat.zero_le _) (by have := @FU_gt 6 (by decide); omega)
            have ce' : f_X12_cell_49 FU 136 (nI c) 0 (sI g 136 0 0) = _ := ce
            rw [if_pos e2, if_pos e2, ce', Nat.sub_zero]
          · rw [if_neg e2, if_neg e2]
    refine CA.no (v := if v = 0 then nI (hgt A c) else if v = 1 then nI (cT A c (fun _ => true) (2 * nv A 3)) else if v = 2 then oI ((fT A c (2 * nv A 3) 0).map (· / 2)) else -2) h ?_ ?_
    · rw [cc]
      split
      · rfl
      · split
        · rfl
        · split <;> rfl
    · show f_X12_cell 136 (nI c) v g = _
      rw [rr]
      split
      · rfl
      · split
        · rfl
        · split <;> rfl
theorem sw_c (v : Int32) : (v.toInt < 0) ∨ ∃ j, j < 2 ^ 31 ∧ v = nI j ∧ ¬ v.toInt < 0 ∧ (v.toInt - 0).toNat = j := by
  by_cases u : v.toInt < 0
  · exact Or.inl u
  · refine Or.inr ?_
    obtain ⟨j, hj, rfl⟩ := nI_of (show ¬ v < 0 from fun w => u (by
      rw [Int32.lt_iff_toInt_lt] at w
      exact w))
    refine ⟨j, hj, rfl, u, ?_⟩
    rw [nI_toInt hj]
    omega
theorem q_pair (h : Inv X A ag g) (u v : Int32) : CA ag g (f_X11_pair 0 u v g) (fun g => f_X12_pair 136 u v g) := by
  obtain ⟨h1, h2, h3, h4, h5⟩ := id h.1
  have hs := h1.1
  have hA := h1.2.2.1
  have hB := h1.2.2.2.1
  have k3 := h1.k3
  have hr := h1.t0
  have hAr : gI (sI g 136 0 0) 137 = A := hr.2.1
  obtain ⟨q, q1, q2⟩ := id h3.2.1
  have pl : ∀ {α : Type} (f : Nat → Option α), dr (gR g 47 0) f = f q := fun f => by
    rw [q1]
    rfl
  cases hu : inR u (nv A 3) with
  | false => exact CA.no (v := -2) h (by rw [f_X11_pair, md0_4 hs, gk47 hs, c_isPair h3 hA, hu, bd_eq, ibF]) (by
      show f_X12_pair 136 u v g = _
      rw [f_X12_pair, lg, R_isPair hr, inL_I, hu, bd_eq, ibF])
  | true =>
    obtain ⟨p, hp, rfl⟩ := pr_t hA hu
    obtain ⟨a, -, a2, a3⟩ := q2.2.2.2.2.2.2.2.1
    have ti : ∀ i, i < 2 → f_X11_pair_56 0 (nI p) (nI i) g = some (nI (tw A (2 * p + i)), g) := fun i hi => by
      rw [f_X11_pair_56, md0_4 hs, gk47 hs, nI2, nI_add, c_tw h3 (by omega), nI_clamp (by omega), h3.2.2.2.1 _ (by omega)]
    have ei : ∀ i, i < 2 → f_X11_pair_90 0 (nI p) (nI (4 + i)) g = some (A (46 + (2 * p + i)), g) := fun i hi => by
      rw [f_X11_pair_90, md0_4 hs, gk47 hs, pl, gdK_pos q2.2.1, nI2, nI_add, show (4 : Int32) = nI 4 from rfl, pk_sub (by omega), show 2 * p + (4 + i) - 4 = 2 * p + i by omega, a2.get (by omega) (by decide), nI_clamp (by omega), a3 _ (by omega)]
    have no : ∀ v, (v.toInt < 0 ∨ ∃ j, 7 ≤ j ∧ ¬ v.toInt < 0 ∧ (v.toInt - 0).toNat = j) → CA ag g (f_X11_pair 0 (nI p) v g) (fun g => f_X12_pair 136 (nI p) v g) := fun v hv => by
      refine CA.no (v := -2) h ?_ ?_
      · rw [f_X11_pair, md0_4 hs, gk47 hs, c_isPair h3 hA, hu, bd_eq, ibT]
        rcases hv with z | ⟨j, j1, j2, j3⟩
        · rw [if_pos z]
        · obtain ⟨k, rfl⟩ : ∃ k, j = k + 7 := ⟨j - 7, by omega⟩
          rw [if_neg j2, j3]
          rfl
      · show f_X12_pair 136 (nI p) v g = _
        rw [f_X12_pair, lg, R_isPair hr, inL_I, hu, bd_eq, ibT]
        rcases hv with z | ⟨j, j1, j2, j3⟩
        · rw [if_pos z]
        · obtain ⟨k, rfl⟩ : ∃ k, j = k + 7 := ⟨j - 7, by omega⟩
          rw [if_neg j2, j3]
          rfl
    rcases sw_c v with z | ⟨j, j1, rfl, j3, j4⟩
    · exact no v (Or.inl z)
    · rcases Nat.lt_or_ge j 7 with w | w
      · have cp : f_X11_pair 0 (nI p) (nI j) g = match j with
            | 0 => f_X11_pair_56 0 (nI p) (nI j) g
            | 1 => f_X11_pair_56 0 (nI p) (nI j) g
            | 2 => some (nI (sp A p), g)
            | 3 => some (nI (md A p), g)
            | 4 => f_X11_pair_90 0 (nI p) (nI j) g
            | 5 => f_X11_pair_90 0 (nI p) (nI j) g
            | _ => some (nI (dn A p), g) := by
          rw [f_X11_pair, md0_4 hs, gk47 hs, c_isPair h3 hA, hu, bd_eq, ibT, if_neg j3, j4]
          obtain rfl | rfl | rfl | rfl | rfl | rfl | rfl : j = 0 ∨ j = 1 ∨ j = 2 ∨ j = 3 ∨ j = 4 ∨ j = 5 ∨ j = 6 := by omega
          · rfl
          · rfl
          · refine Eq.trans (b := dr (gR g 0 4) _) rfl ?_
            rw [md0_4 hs, gk47 hs, h3.1.2.2.1.get (by omega) (by decide), nI_clamp (by omega), h3.2.2.2.2.1 p hp]
            rfl
          · refine Eq.trans (b := dr (gR g 0 4) _) rfl ?_
            rw [md0_4 hs, gk47 hs, h3.1.2.2.2.1.get (by omega) (by decide), nI_clamp (by omega), h3.2.2.2.2.2.1 p hp]
            rfl
          · rfl
          · rfl
          · refine Eq.trans (b := dr (gR g 0 4) _) rfl ?_
            rw [md0_4 hs, gk47 hs, h3.1.2.2.2.2.get (by omega) (by decide), nI_clamp (by omega), h3.2.2.2.2.2.2 p hp]
            rfl
        have rp : f_X12_pair 136 (nI p) (nI j) g = match j with
            | 0 => some (nI (tw A (2 * p + 0)), sI g 136 0 0)
            | 1 => some (nI (tw A (2 * p + 1)), sI g 136 0 0)
            | 2 => some (nI (sp A p), sI g 136 0 0)
            | 3 => some (nI (md A p), sI g 136 0 0)
            | 4 => some (A (46 + (2 * p + 0)), sI g 136 0 0)
            | 5 => some (A (46 + (2 * p + 1)), sI g 136 0 0)
            | _ => some (nI (dn A p), sI g 136 0 0) := by
          have t0 : f_X12_twinOf 136 (nI p) 0 (sI g 136 0 0) = some (nI (tw A (2 * p + 0)), sI g 136 0 0) := R_twinOf hr hp (t := 0) (by decide)
          have t1 : f_X12_twinOf 136 (nI p) 1 (sI g 136 0 0) = some (nI (tw A (2 * p + 1)), sI g 136 0 0) := R_twinOf hr hp (t := 1) (by decide)
          rw [f_X12_pair, lg, R_isPair hr, inL_I, hu, bd_eq, ibT, if_neg j3, j4]
          obtain rfl | rfl | rfl | rfl | rfl | rfl | rfl : j = 0 ∨ j = 1 ∨ j = 2 ∨ j = 3 ∨ j = 4 ∨ j = 5 ∨ j = 6 := by omega
          · refine Eq.trans (b := bd _ _) rfl ?_
            rw [t0, bd_eq]
            rfl
          · refine Eq.trans (b := bd _ _) rfl ?_
            rw [t1, bd_eq]
            rfl
          · refine Eq.trans (b := dr (gR (sI g 136 0 0) 136 1) _) rfl ?_
            rw [md136_1 hr.1, gk137 hr.1, sn137 hr.1, show (94 : Int32) = nI 94 from rfl, nI_add, gdI_nI (by omega) (by decide), nI_clamp (by omega), hAr, hB.s hp]
            rfl
          · refine Eq.trans (b := dr (gR (sI g 136 0 0) 136 1) _) rfl ?_
            rw [md136_1 hr.1, gk137 hr.1, sn137 hr.1, show (97 : Int32) = nI 97 from rfl, nI_add, gdI_nI (by omega) (by decide), nI_clamp (by omega), hAr, (hB.m hp).1]
            rfl
          · refine Eq.trans (b := dr (gR (sI g 136 0 0) 136 1) _) rfl ?_
            rw [md136_1 hr.1, gk137 hr.1, sn137 hr.1, nI2, show (46 : Int32) = nI 46 from rfl, nI_add, gdI_nI (by omega) (by decide), nI_clamp (by omega), hAr, Nat.add_zero]
            rfl
          · refine Eq.trans (b := dr (gR (sI g 136 0 0) 136 1) _) rfl ?_
            rw [md136_1 hr.1, gk137 hr.1, sn137 hr.1, nI2, show (46 : Int32) = nI 46 from rfl, nI_add, lad1, gdI_nI (by omega) (by decide), nI_clamp (by omega), hAr, Nat.add_assoc]
            rfl
          · refine Eq.trans (b := dr (gR (sI g 136 0 0) 136 1) _) rfl ?_
            rw [md136_1 hr.1, gk137 hr.1, sn137 hr.1, show (100 : Int32) = nI 100 from rfl, nI_add, gdI_nI (by omega) (by decide), nI_clamp (by omega), hAr, (hB.o hp).1]
            rfl
        obtain rfl | rfl | rfl | rfl | rfl | rfl | rfl : j = 0 ∨ j = 1 ∨ j = 2 ∨ j = 3 ∨ j = 4 ∨ j = 5 ∨ j = 6 := by omega
        · exact CA.no h (cp.trans (ti 0 (by decide))) rp
        · exact CA.no h (cp.trans (ti 1 (by decide))) rp
        · exact CA.no h cp rp
        · exact CA.no h cp rp
        · exact CA.no h (cp.trans (ei 0 (by decide))) rp
        · exact CA.no h (cp.trans (ei 1 (by decide))) rp
        · exact CA.no h cp rp
      · exact no (nI j) (Or.inr ⟨j, w, j3, j4⟩)
end PLR
