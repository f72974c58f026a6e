/-! COUNT answered alike. -/
section CNT
variable {X : Nat → Prop} {A : Nat → Int32} {g g' : G} {p t ag : Nat}
theorem r_so5 (hr : RS A g) {f m : Nat} (hfm : f + m ≤ 4545) {v : Nat → Nat} (hv : ∀ k, k < m → A (f + k) = nI (v k)) : ∀ fu k, k ≤ m → m < fu + k → f_X12_sumOf_5 fu 136 (nI f) (nI m) (nI (sumN v k)) (nI k) g = some (nI (sumN v m), g) := by
  intro fu
  induction fu with
  | zero => intro k _ h; omega
  | succ fu ih =>
    intro k hk hfu
    rw [f_X12_sumOf_5]
    rcases Nat.lt_or_ge k m with z | z
    · have i := ih (k + 1) (by omega) (by omega)
      rw [sN_s] at i
      rw [if_neg (nI_ge z (by omega)), md136_1 hr.1, gk137 hr.1, sn137 hr.1, nI_add, gdI_nI (by omega) (by decide), nI_clamp (show f + k < 2 ^ 31 by omega), hr.2.1, hv k z, nI_add, li, lad1, i]
    · have : k = m := by omega
      subst this
      rw [if_pos (nI_le z (by omega))]
theorem d_and : ∀ d, d ≤ 3 → (nI d &&& (1 : Int32)) + (nI d >>> ((1 : Int32) &&& 31)) = nI (d % 2 + d / 2) := by decide +kernel
theorem r_da4 (hr : RS A g) : ∀ fu k, k ≤ nv A 3 → nv A 3 < fu + k → f_X12_doneAll_4 fu 136 (nI (sumN (dnN A) k)) (nI k) g = some (nI (sumN (dnN A) (nv A 3)), g) := by
  have k3 := hr.k3
  have e3 := hr.2.2.1.2.2.2.2.2.2.1
  intro fu
  induction fu with
  | zero => intro k _ h; omega
  | succ fu ih =>
    intro k hk hfu
    rw [f_X12_doneAll_4, md136_1 hr.1, gk137 hr.1, sn137 hr.1, show (3 : Int32) = nI 3 from rfl, gdI_nI (by decide) (by decide), nI_clamp (show 3 < 2 ^ 31 by decide), hr.2.1, e3]
    rcases Nat.lt_or_ge k (nv A 3) with z | z
    · have i := ih (k + 1) (by omega) (by omega)
      obtain ⟨o1, o2⟩ := hr.2.2.2.1.o z
      rw [sN_s] at i
      rw [if_neg (nI_ge z (by omega)), show (100 : Int32) = nI 100 from rfl, nI_add, gdI_nI (by omega) (by decide), nI_clamp (show 100 + k < 2 ^ 31 by omega), o1, d_and _ o2, nI_add, li, lad1]
      exact i
    · have : k = nv A 3 := by omega
      subst this
      rw [if_pos (nI_le z (by omega))]
theorem r_doneAll (hr : RS A g) : f_X12_doneAll 136 g = some (nI (sumN (dnN A) (nv A 3)), g) := r_da4 hr FU 0 (Nat.zero_le _) (by have := @FU_gt 3 (by decide); have := hr.k3; omega)
theorem q_count (h : Inv X A ag g) (v : Int32) : CA ag g (f_X11_count 0 v g) (fun g => f_X12_count 136 v g) := by
  obtain ⟨h1, h2, h3, h4, h5⟩ := id h.1
  have hs := h1.1
  have hA := h1.2.2.1
  have hB := h1.2.2.2.1
  have k3 := h1.k3
  have hr := h1.t0
  have hAr : gI (sI g 136 0 0) 137 = A := hr.2.1
  have e3 := hA.2.2.2.2.2.2.1
  obtain ⟨q, q1, q2⟩ := id h3.2.1
  obtain ⟨p0, p1, p2, p4, p5⟩ := q2.2.2.1
  have pl : ∀ {α : Type} (f : Nat → Option α), dr (gR g 47 0) f = f q := fun f => by
    rw [q1]
    rfl
  obtain ⟨hn, el, i1, i2, i3, i4, i5, i6⟩ := h.2.2.2.2.1
  obtain ⟨tn, t1, t2, t3, t4⟩ := h.2.2.1
  have no : ∀ v, (v.toInt < 0 ∨ ∃ j, 9 ≤ j ∧ ¬ v.toInt < 0 ∧ (v.toInt - 0).toNat = j) → CA ag g (f_X11_count 0 v g) (fun g => f_X12_count 136 v g) := fun v hv => by
    refine CA.no (v := -1) h ?_ ?_
    · rw [f_X11_count]
      rcases hv with z | ⟨j, j1, j2, j3⟩
      · rw [if_pos z]
      · obtain ⟨k, rfl⟩ : ∃ k, j = k + 9 := ⟨j - 9, by omega⟩
        rw [if_neg j2, j3]
        rfl
    · show f_X12_count 136 v g = _
      rw [f_X12_count, lg]
      rcases hv with z | ⟨j, j1, j2, j3⟩
      · rw [if_pos z]
      · obtain ⟨k, rfl⟩ : ∃ k, j = k + 9 := ⟨j - 9, by omega⟩
        rw [if_neg j2, j3]
        rfl
  have row : ∀ k, k < 4545 → (dr (gR (sI g 136 0 0) 136 1) (fun b3 => gdK (sI g 136 0 0) b3 14 (gdI (nI k) (gN (sI g 136 0 0) b3) (some ((gI (sI g 136 0 0) b3 (nI k).toNatClampNeg), sI g 136 0 0))))) = some (A k, sI g 136 0 0) := fun k hk => by
    rw [md136_1 hr.1, gk137 hr.1, sn137 hr.1, gdI_nI hk (by decide), nI_clamp (by omega), hAr]
  have plan : ∀ k, (dr (gR g 0 4) (fun b1 => gdK g b1 0 (dr (gR g b1 0) (fun b4 => gdK g b4 7 (some ((gI g b4 k), g)))))) = some (gI g q k, g) := fun k => by
    rw [md0_4 hs, gk47 hs, pl, gdK_pos q2.2.1]
  rcases sw_c v with z | ⟨j, j1, rfl, j3, j4⟩
  · exact no v (Or.inl z)
  · rcases Nat.lt_or_ge j 9 with w | w
    · have c0 : ∀ {x y}, (match j with
          | 0 => some (gI g q 0, g)
          | 1 => some (gI g q 1, g)
          | 2 => some (gI g q 4, g)
          | 3 => bd (f_J13_bitCount_95d88 (gL g 47 1) g) (fun v22 g23 => some (v22, g23))
          | 4 => bd (f_X0_allSpans 47 g) (fun v29 g30 => some (v29, g30))
          | 5 => bd (f_X0_allDone 47 g) (fun v36 g37 => some (v36, g37))
          | 6 => some (gI g 76 0, g)
          | 7 => some (gI g 0 1, g)
          | _ => some (gI g q 5, g)) = some (x, y) → f_X11_count 0 (nI j) g = some (x, y) := fun {x y} e => by
        rw [← e, f_X11_count, if_neg j3, j4]
        clear e j1 j3 j4
        obtain rfl | rfl | rfl | rfl | rfl | rfl | rfl | rfl | rfl : j = 0 ∨ j = 1 ∨ j = 2 ∨ j = 3 ∨ j = 4 ∨ j = 5 ∨ j = 6 ∨ j = 7 ∨ j = 8 := by omega
        · exact plan 0
        · exact plan 1
        · exact plan 4
        · refine Eq.trans (b := dr (gR g 0 4) _) rfl ?_
          rw [md0_4 hs, gk47 hs]
          rfl
        · refine Eq.trans (b := dr (gR g 0 4) _) rfl ?_
          rw [md0_4 hs, gk47 hs]
          rfl
        · refine Eq.trans (b := dr (gR g 0 4) _) rfl ?_
          rw [md0_4 hs, gk47 hs]
          rfl
        · refine Eq.trans (b := dr (gR g 0 15) _) rfl ?_
          rw [md0_15 hs, gk76 hs]
          rfl
        · rfl
        · exact plan 5
      have r0 : ∀ {x y}, (match j with
          | 0 => some (A 1, sI g 136 0 0)
          | 1 => some (A 2, sI g 136 0 0)
          | 2 => some (A 3, sI g 136 0 0)
          | 3 => bd (f_X12_sumOf 136 (52 : Int32) (36 : Int32) (sI g 136 0 0)) (fun v15 g16 => some (v15, g16))
          | 4 => bd (f_X12_sumOf 136 (94 : Int32) (A 3) (sI g 136 0 0)) (fun v15 g16 => some (v15, g16))
          | 5 => bd (f_X12_doneAll 136 (sI g 136 0 0)) (fun v36 g37 => some (v36, g37))
          | 6 => some (A 103, sI g 136 0 0)
          | 7 => some (gI (sI g 136 0 0) 136 5, sI g 136 0 0)
          | _ => some (A 0, sI g 136 0 0)) = some (x, y) → f_X12_count 136 (nI j) g = some (x, y) := fun {x y} e => by
        rw [← e, f_X12_count, lg, if_neg j3, j4]
        clear e j1 j3 j4 c0
        obtain rfl | rfl | rfl | rfl | rfl | rfl | rfl | rfl | rfl : j = 0 ∨ j = 1 ∨ j = 2 ∨ j = 3 ∨ j = 4 ∨ j = 5 ∨ j = 6 ∨ j = 7 ∨ j = 8 := by omega
        · exact row 1 (by decide)
        · exact row 2 (by decide)
        · exact row 3 (by decide)
        · rfl
        · refine Eq.trans (b := dr (gR (sI g 136 0 0) 136 1) _) rfl ?_
          rw [md136_1 hr.1, gk137 hr.1, sn137 hr.1, show (3 : Int32) = nI 3 from rfl, gdI_nI (by decide) (by decide), nI_clamp (show 3 < 2 ^ 31 by decide), hAr]
          rfl
        · rfl
        · exact row 103 (by decide)
        · rfl
        · exact row 0 (by decide)
      have al := r_so5 hr (f := 52) (m := 36) (by decide) (v := wl A) (fun k hk => (hB.w hk).1) FU 0 (by decide) (by have := @FU_gt 36 (by decide); omega)
      have al' : f_X12_sumOf 136 52 36 (sI g 136 0 0) = some (nI (sumN (wl A) 36), sI g 136 0 0) := al
      have bl := r_so5 hr (f := 94) (m := nv A 3) (by omega) (v := sp A) (fun k hk => hB.s hk) FU 0 (by omega) (by have := @FU_gt 36 (by decide); omega)
      have bl' : f_X12_sumOf 136 94 (A 3) (sI g 136 0 0) = some (nI (sumN (sp A) (nv A 3)), sI g 136 0 0) := by
        rw [e3]
        exact bl
      have wc : cntB (bt (gL g 47 1)) 64 = sumN (wl A) 36 := by
        rw [cntB_sum, sN_cut (a := 36) 64 (by decide) (fun i i1 i2 => by
          rw [h3.2.2.1 i i2, decide_eq_false (show ¬ (i < 36 ∧ wl A i = 1) by omega)]
          rfl)]
        refine sN_congr (fun i hi => ?_)
        obtain ⟨w1, w2, -⟩ := hB.w hi
        rw [h3.2.2.1 i (by omega)]
        by_cases e : wl A i = 1
        · rw [decide_eq_true ⟨hi, e⟩, if_pos rfl, e]
        · rw [decide_eq_false (fun u => e u.2), if_neg (by decide)]
          omega
      clear j1 j3 j4
      obtain rfl | rfl | rfl | rfl | rfl | rfl | rfl | rfl | rfl : j = 0 ∨ j = 1 ∨ j = 2 ∨ j = 3 ∨ j = 4 ∨ j = 5 ∨ j = 6 ∨ j = 7 ∨ j = 8 := by omega
      · exact CA.no (v := A 1) h (c0 (by show some (gI g q 0, g) = _; rw [p0])) (r0 rfl)
      · exact CA.no (v := A 2) h (c0 (by show some (gI g q 1, g) = _; rw [p1])) (r0 rfl)
      · exact CA.no (v := A 3) h (c0 (by show some (gI g q 4, g) = _; rw [p4])) (r0 rfl)
      · exact CA.no (v := nI (sumN (wl A) 36)) h (c0 (by
          show bd (f_J13_bitCount_95d88 (gL g 47 1) g) (fun v22 g23 => some (v22, g23)) = _
          rw [j_bitCount, bd_eq, wc])) (r0 (by
          show bd (f_X12_sumOf 136 (52 : Int32) (36 : Int32) (sI g 136 0 0)) (fun v15 g16 => some (v15, g16)) = _
          rw [al', bd_eq]))
      · exact CA.no (v := nI (sumN (sp A) (nv A 3))) h (c0 (by
          show bd (f_X0_allSpans 47 g) (fun v29 g30 => some (v29, g30)) = _
          rw [c_allSpans h3 hA, bd_eq])) (r0 (by
          show bd (f_X12_sumOf 136 (94 : Int32) (A 3) (sI g 136 0 0)) (fun v15 g16 => some (v15, g16)) = _
          rw [bl', bd_eq]))
      · exact CA.no (v := nI (sumN (dnN A) (nv A 3))) h (c0 (by
          show bd (f_X0_allDone 47 g) (fun v36 g37 => some (v36, g37)) = _
          rw [c_allDone h3 hA hB, bd_eq])) (r0 (by
          show bd (f_X12_doneAll 136 (sI g 136 0 0)) (fun v36 g37 => some (v36, g37)) = _
          rw [r_doneAll hr, bd_eq]))
      · exact CA.no (v := nI hn) h (c0 (by show some (gI g 76 0, g) = _; rw [i4])) (r0 (by show some (A 103, sI g 136 0 0) = _; rw [i3]))
      · exact CA.no (v := nI tn) h (c0 (by show some (gI g 0 1, g) = _; rw [t2])) (r0 (by show some (gI (sI g 136 0 0) 136 5, sI g 136 0 0) = _; rw [gI_sIs, pk_un (by decide), t3]))
      · exact CA.no (v := A 0) h (c0 (by show some (gI g q 5, g) = _; rw [p5])) (r0 rfl)
    · exact no (nI j) (Or.inr ⟨j, w, j3, j4⟩)
end CNT
