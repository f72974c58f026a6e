/-! LOCKSTEP of laws: terms, sums, units, truths. -/
section LWT
variable {T : Nat → Nat} {n M i N d lim : Nat} {F : Nat → Int32} {LC : List Nat} {g g' g1 h h' h1 : G} {b : Bool} {hSc hTc hUc : Nat → Int32 → G → Option (Bool × G)} {hSr hTr hUr : Nat → Int32 → G → Option (Unit × G)}
theorem x_atom (r : gI h 136 11 ≠ 0) (x : Int32) : f_X12_readAtom hSr 136 x h = some ((), h) := by
  rw [f_X12_readAtom, x_is r, bd_eq, ibF, if_neg r, f_X12_readAtom_66, x_is r, bd_eq, ibF, x_fails r, bd_eq]
theorem x_t5 (x : Int32) (m : Nat) (h : G) (r : gI h 136 11 ≠ 0) : f_X12_readTerm_5 hSr (m + 1) 136 x h = some ((), h) := by
  rw [f_X12_readTerm_5, x_eats r, bd_eq, ibF]
theorem x_term (r : gI h 136 11 ≠ 0) (x : Int32) : f_X12_readTerm hSr 136 x h = some ((), h) := by
  rw [f_X12_readTerm, x_atom r, bd_eq, show FU = 999999 + 1 from rfl, x_t5 _ _ _ r]
theorem x_s5 (x : Int32) (m : Nat) (h : G) (r : gI h 136 11 ≠ 0) : f_X12_readSum_5 hSr (m + 1) 136 x h = some ((), h) := by
  rw [f_X12_readSum_5, x_is r, bd_eq, ibF, x_is r, bd_eq, ibF]
theorem x_sum (r : gI h 136 11 ≠ 0) (x : Int32) : f_X12_readSum hSr 136 x h = some ((), h) := by
  rw [f_X12_readSum, x_term r, bd_eq, show FU = 999999 + 1 from rfl, x_s5 _ _ _ r]
theorem x_151 (r : gI h 136 11 ≠ 0) (x y : Int32) : f_X12_readUnit_151 hSr hTr hUr 136 x y h = some ((), h) := by
  rw [f_X12_readUnit_151, x_sum r, bd_eq, x_codes r, bd_eq]
theorem x_111 (r : gI h 136 11 ≠ 0) (x y : Int32) : f_X12_readUnit_111 hSr hTr hUr 136 x y h = some ((), h) := by
  rw [f_X12_readUnit_111, x_is r, bd_eq, ibF, x_is r, bd_eq, ibF, x_is r, bd_eq, ibF, x_fails r, bd_eq, x_151 r]
theorem x_unit (r : gI h 136 11 ≠ 0) (x : Int32) : f_X12_readUnit hSr hTr hUr 136 x h = some ((), h) := by
  rw [f_X12_readUnit, x_is r, bd_eq, ibF, x_is r, bd_eq, ibF, x_sum r, bd_eq, x_is r, bd_eq, ibF, x_is r, bd_eq, ibF, x_111 r]
theorem x_b5 (x : Int32) (m : Nat) (h : G) (r : gI h 136 11 ≠ 0) : f_X12_readBoth_5 hSr hTr hUr (m + 1) 136 x h = some ((), h) := by
  rw [f_X12_readBoth_5, x_eats r, bd_eq, ibF]
theorem x_both (r : gI h 136 11 ≠ 0) (x : Int32) : f_X12_readBoth hSr hTr hUr 136 x h = some ((), h) := by
  rw [f_X12_readBoth, x_unit r, bd_eq, show FU = 999999 + 1 from rfl, x_b5 _ _ _ r]
theorem x_u5 (x : Int32) (m : Nat) (h : G) (r : gI h 136 11 ≠ 0) : f_X12_readTruth_5 hSr hTr hUr (m + 1) 136 x h = some ((), h) := by
  rw [f_X12_readTruth_5, x_eats r, bd_eq, ibF]
theorem x_truth (r : gI h 136 11 ≠ 0) (x : Int32) : f_X12_readTruth hSr hTr hUr 136 x h = some ((), h) := by
  rw [f_X12_readTruth, x_both r, bd_eq, show FU = 999999 + 1 from rfl, x_u5 _ _ _ r]
theorem r_eatsK (r : RT T n i h) {k0 x : Nat} (h0 : (k0, x) ∈ KPZ) : f_X12_eats 136 (nI x) h = if kZ T n i = k0 then bd (f_X12_next 136 h) (fun _ g => some (true, g)) else some (false, h) := by
  rw [f_X12_eats, r_isK r h0, bd_eq]
  by_cases e : kZ T n i = k0
  · rw [decide_eq_true e, ibT, if_pos e]
  · rw [decide_eq_false e, ibF, if_neg e]
theorem r_eatsW (r : RT T n i h) {w : Nat} (hw : w < 15) : f_X12_eats 136 (nI (pmT w)) h = if kZ T n i = 2 ∧ vZ T n i = w then bd (f_X12_next 136 h) (fun _ g => some (true, g)) else some (false, h) := by
  rw [f_X12_eats, r_isW r hw, bd_eq]
  by_cases e : kZ T n i = 2 ∧ vZ T n i = w
  · rw [decide_eq_true e, ibT, if_pos e]
  · rw [decide_eq_false e, ibF, if_neg e]
theorem bd_bd {α β γ : Type} (o : Option (α × G)) (f : α → G → Option (β × G)) (k : β → G → Option (γ × G)) : bd (bd o f) k = bd o (fun v g => bd (f v g) k) := by
  cases o with
  | none => rfl
  | some p => rfl
theorem ls_term (hz : TZ T n M) (HA : PFZ T n M N F false 65 d (f_X8_atom hSc) (f_X12_readAtom hSr)) : PFZ T n M N F false 64 d (f_X8_term hSc) (f_X12_readTerm hSr) := by
  refine ls_seq (lc := fun m c g => f_X8_term_12 hSc m 57 (nI d) c g) (lr := fun m h => f_X12_readTerm_5 hSr m 136 (nI d) h) hz HA (ls_loop (C := fun i => kZ T n i = 42) (x := fun _ => 3002) hz HA (fun i u => by omega) (fun i _ => ⟨by decide, fun ts => rfl⟩) ?_ ?_ ?_ ?_ (fun m h r => x_t5 _ m h r)) (fun m h r => x_t5 _ m h r) (fun g => rfl) (fun h => rfl)
  · intro m c i g cc nC
    show f_X8_term_12 hSc (m + 1) 57 (nI d) c g = _
    rw [f_X8_term_12, if_neg (show ¬ gI g 57 12 = (42 : Int32) from fun u => nC ((cc.k (x := 42) (by decide)).mp u))]
    split
    · rfl
    · rfl
  · intro m i h rr nC
    have e : f_X12_eats 136 34 h = _ := r_eatsK rr (k0 := 42) (x := 34) (by decide)
    show f_X12_readTerm_5 hSr (m + 1) 136 (nI d) h = _
    rw [f_X12_readTerm_5, e, if_neg nC, bd_eq, ibF]
  · intro m c i g cc hC hc
    show f_X8_term_12 hSc (m + 1) 57 (nI d) (nI c) g = _
    rw [f_X8_term_12, if_neg (lnge900 hc), if_pos (show gI g 57 12 = (42 : Int32) from (cc.k (x := 42) (by decide)).mpr hC), lad1]
    rfl
  · intro m i h rr hC
    have e : f_X12_eats 136 34 h = _ := r_eatsK rr (k0 := 42) (x := 34) (by decide)
    show f_X12_readTerm_5 hSr (m + 1) 136 (nI d) h = _
    rw [f_X12_readTerm_5, e, if_pos hC, bd_bd]
    rfl
theorem ls_sum (hz : TZ T n M) (HA : PFZ T n M N F false 64 d (f_X8_term hSc) (f_X12_readTerm hSr)) : PFZ T n M N F false 63 d (f_X8_sum hSc) (f_X12_readSum hSr) := by
  refine ls_seq (lc := fun m c g => f_X8_sum_12 hSc m 57 (nI d) c g) (lr := fun m h => f_X12_readSum_5 hSr m 136 (nI d) h) hz HA (ls_loop (C := fun i => kZ T n i = 43 ∨ kZ T n i = 45) (x := fun i => if kZ T n i = 43 then 3000 else 3001) hz HA (fun i u => by omega) (fun i _ => ?_) ?_ ?_ ?_ ?_ (fun m h r => x_s5 _ m h r)) (fun m h r => x_s5 _ m h r) (fun g => rfl) (fun h => rfl)
  · by_cases e : kZ T n i = 43
    · rw [if_pos e]
      exact ⟨by decide, fun ts => rfl⟩
    · rw [if_neg e]
      exact ⟨by decide, fun ts => rfl⟩
  · intro m c i g cc nC
    show f_X8_sum_12 hSc (m + 1) 57 (nI d) c g = _
    rw [f_X8_sum_12, if_neg (show ¬ gI g 57 12 = (43 : Int32) from fun u => nC (Or.inl ((cc.k (x := 43) (by decide)).mp u))), if_neg (show ¬ gI g 57 12 = (45 : Int32) from fun u => nC (Or.inr ((cc.k (x := 45) (by decide)).mp u)))]
    split
    · rfl
    · rfl
  · intro m i h rr nC
    have e1 : f_X12_is 136 32 h = _ := r_isK rr (k0 := 43) (x := 32) (by decide)
    have e2 : f_X12_is 136 33 h = _ := r_isK rr (k0 := 45) (x := 33) (by decide)
    show f_X12_readSum_5 hSr (m + 1) 136 (nI d) h = _
    rw [f_X12_readSum_5, e1, decide_eq_false (fun u => nC (Or.inl u)), bd_eq, ibF, e2, decide_eq_false (fun u => nC (Or.inr u)), bd_eq, ibF]
  · intro m c i g cc hC hc
    show f_X8_sum_12 hSc (m + 1) 57 (nI d) (nI c) g = _
    rw [f_X8_sum_12, if_neg (lnge900 hc)]
    by_cases e : kZ T n i = 43
    · rw [if_pos (show gI g 57 12 = (43 : Int32) from (cc.k (x := 43) (by decide)).mpr e), f_X8_sum_37, li, (cc.k (x := 43) (by decide)).mpr e, lad1, if_pos e]
      rfl
    · have e5 := hC.resolve_left e
      rw [if_neg (show ¬ gI g 57 12 = (43 : Int32) from fun u => e ((cc.k (x := 43) (by decide)).mp u)), if_pos (show gI g 57 12 = (45 : Int32) from (cc.k (x := 45) (by decide)).mpr e5), f_X8_sum_37, li, (cc.k (x := 45) (by decide)).mpr e5, lad1, if_neg e]
      rfl
  · intro m i h rr hC
    have e1 : f_X12_is 136 32 h = _ := r_isK rr (k0 := 43) (x := 32) (by decide)
    have e2 : f_X12_is 136 33 h = _ := r_isK rr (k0 := 45) (x := 33) (by decide)
    have rk := rk_lt (kZ T n i) (vZ T n i) kZ_in
    have k9 : gI h 136 9 = (32 : Int32) ↔ kZ T n i = 43 := by
      rw [rr.2.2.2.1, ← rk_k (vZ T n i) kZ_in (k0 := 43) (r := 32) (by decide)]
      exact nI_eq (b := 32) (by omega) (by decide)
    show f_X12_readSum_5 hSr (m + 1) 136 (nI d) h = _
    rw [f_X12_readSum_5, e1, bd_eq]
    by_cases e : kZ T n i = 43
    · rw [decide_eq_true e, ibT, f_X12_readSum_23, if_pos (k9.mpr e), f_X12_readSum_41, if_pos e]
      rfl
    · rw [decide_eq_false e, ibF, e2, bd_eq, decide_eq_true (hC.resolve_left e), ibT, f_X12_readSum_23, if_neg (fun u => e (k9.mp u)), f_X12_readSum_41, if_neg e]
      rfl
theorem ls_both (hz : TZ T n M) (HA : PFZ T n M N F true 62 d (f_X8_unit hSc hTc hUc) (f_X12_readUnit hSr hTr hUr)) : PFZ T n M N F true 61 d (f_X8_both hSc hTc hUc) (f_X12_readBoth hSr hTr hUr) := by
  refine ls_seq (lc := fun m c g => f_X8_both_12 hSc hTc hUc m 57 (nI d) c g) (lr := fun m h => f_X12_readBoth_5 hSr hTr hUr m 136 (nI d) h) hz HA (ls_loop (C := fun i => kZ T n i = 2 ∧ vZ T n i = 13) (x := fun _ => 3007) hz HA (fun i u => by omega) (fun i _ => ⟨by decide, fun ts => rfl⟩) ?_ ?_ ?_ ?_ (fun m h r => x_b5 _ m h r)) (fun m h r => x_b5 _ m h r) (fun g => rfl) (fun h => rfl)
  · intro m c i g cc nC
    have e : f_X8_isWord 57 13 g = _ := c_isW cc (w := 13) (by decide)
    show f_X8_both_12 hSc hTc hUc (m + 1) 57 (nI d) c g = _
    rw [f_X8_both_12, e, bd_eq, decide_eq_false nC, ibF]
    split
    · rfl
    · rfl
  · intro m i h rr nC
    have e : f_X12_eats 136 12 h = _ := r_eatsW rr (w := 13) (by decide)
    show f_X12_readBoth_5 hSr hTr hUr (m + 1) 136 (nI d) h = _
    rw [f_X12_readBoth_5, e, if_neg nC, bd_eq, ibF]
  · intro m c i g cc hC hc
    have e : f_X8_isWord 57 13 g = _ := c_isW cc (w := 13) (by decide)
    show f_X8_both_12 hSc hTc hUc (m + 1) 57 (nI d) (nI c) g = _
    rw [f_X8_both_12, if_neg (lnge900 hc), e, bd_eq, decide_eq_true hC, ibT, lad1]
    rfl
  · intro m i h rr hC
    have e : f_X12_eats 136 12 h = _ := r_eatsW rr (w := 13) (by decide)
    show f_X12_readBoth_5 hSr hTr hUr (m + 1) 136 (nI d) h = _
    rw [f_X12_readBoth_5, e, if_pos hC, bd_bd]
    rfl
theorem ls_truth (hz : TZ T n M) (HA : PFZ T n M N F true 61 d (f_X8_both hSc hTc hUc) (f_X12_readBoth hSr hTr hUr)) : PFZ T n M N F true 60 d (f_X8_truth hSc hTc hUc) (f_X12_readTruth hSr hTr hUr) := by
  refine ls_seq (lc := fun m c g => f_X8_truth_12 hSc hTc hUc m 57 (nI d) c g) (lr := fun m h => f_X12_readTruth_5 hSr hTr hUr m 136 (nI d) h) hz HA (ls_loop (C := fun i => kZ T n i = 2 ∧ vZ T n i = 12) (x := fun _ => 3008) hz HA (fun i u => by omega) (fun i _ => ⟨by decide, fun ts => rfl⟩) ?_ ?_ ?_ ?_ (fun m h r => x_u5 _ m h r)) (fun m h r => x_u5 _ m h r) (fun g => rfl) (fun h => rfl)
  · intro m c i g cc nC
    have e : f_X8_isWord 57 12 g = _ := c_isW cc (w := 12) (by decide)
    show f_X8_truth_12 hSc hTc hUc (m + 1) 57 (nI d) c g = _
    rw [f_X8_truth_12, e, bd_eq, decide_eq_false nC, ibF]
    split
    · rfl
    · rfl
  · intro m i h rr nC
    have e : f_X12_eats 136 13 h = _ := r_eatsW rr (w := 12) (by decide)
    show f_X12_readTruth_5 hSr hTr hUr (m + 1) 136 (nI d) h = _
    rw [f_X12_readTruth_5, e, if_neg nC, bd_eq, ibF]
  · intro m c i g cc hC hc
    have e : f_X8_isWord 57 12 g = _ := c_isW cc (w := 12) (by decide)
    show f_X8_truth_12 hSc hTc hUc (m + 1) 57 (nI d) (nI c) g = _
    rw [f_X8_truth_12, if_neg (lnge900 hc), e, bd_eq, decide_eq_true hC, ibT, lad1]
    rfl
  · intro m i h rr hC
    have e : f_X12_eats 136 13 h = _ := r_eatsW rr (w := 12) (by decide)
    show f_X12_readTruth_5 hSr hTr hUr (m + 1) 136 (nI d) h = _
    rw [f_X12_readTruth_5, e, if_pos hC, bd_bd]
    rfl
theorem ls_unit (hz : TZ T n M) (hd : d ≤ 6) (HSm : PFZ T n M N F false 63 d (f_X8_sum hSc) (f_X12_readSum hSr)) (HT : d < 6 → PFZ T n M N F true 60 (d + 1) hTc hTr) (HU : d < 6 → PFZ T n M N F true 62 (d + 1) hUc hUr) : PFZ T n M N F true 62 d (f_X8_unit hSc hTc hUc) (f_X12_readUnit hSr hTr hUr) := by
  intro LC i g h hs hh c r cd rd hb
  have iM := c.2.2.2.1
  have M9 : M ≤ 900 := Nat.le_trans hz.2.1 hz.1
  have w14 : f_X8_isWord 57 14 g = _ := c_isW c (w := 14) (by decide)
  have i14 : f_X12_is 136 14 h = _ := r_isW r (w := 14) (by decide)
  have i37 : f_X12_is 136 37 h = _ := r_isK r (k0 := 91) (x := 37) (by decide)
  have c91 : gI g 57 12 = (91 : Int32) ↔ kZ T n i = 91 := c.k (x := 91) (by decide)
  rw [f_X8_unit, f_X12_readUnit, w14, i14, bd_eq, bd_eq]
  by_cases e14 : kZ T n i = 2 ∧ vZ T n i = 14
  · rw [decide_eq_true e14, ibT, ibT]
    rcases ls_in hz hs hh c r (by omega) (by omega) hd with ⟨d6, iM', g2, h2, a1, a2, a3, a4, a5, a6⟩ | ⟨g2, h2, a1, a2, a3, a4, a5⟩
    · obtain ⟨bb, g3, h3, b1, b2, b3, b4, b5⟩ := HU d6 LC (i + 1) g2 h2 (hs.fc a3) (hh.fm a4) a5 a6 (cd.cg (a3.2 17 (by decide)) (a3.I (by decide))) (rd.cg (a4.I (by decide))) (by omega)
      have x3 : Fc KcL [62] g g3 := (a3.mono (by decide) (by decide)).tr b3
      have y3 : Fm KrL [140] h h3 := (a4.mono (by decide) (by decide)).tr b4
      rw [a1, a2, bd_eq, bd_eq, ibT, ibT, lad1, b1, b2, bd_eq, bd_eq]
      rcases b5 with ⟨rfl, i3, c3, r3, L, l1, l2, l3, l4, l5, l6⟩ | ⟨rfl, b5⟩
      · have iM3 := c3.2.2.2.1
        have ll : (LC ++ L).length = LC.length + L.length := List.length_append
        obtain ⟨g4, h4, d1, d2, d3, d4, d5, d6⟩ := ls_emit (hs.fc x3) (hh.fm y3) l3 l4 r3.2.2.2.2.2 (by omega) 3006
        have d1' : f_X8_emit 57 2014 g3 = some (true, g4) := d1
        have d2' : f_X12_codes 136 3006 h3 = some ((), h4) := d2
        rw [ibT, d1', d2', bd_eq, bd_eq, ibT]
        rw [List.append_assoc] at d5 d6
        refine ⟨true, g4, h4, rfl, rfl, x3.tr (d3.mono (by decide) (by decide)), y3.tr (d4.mono (by decide) (by decide)), Or.inl ⟨rfl, i3, c3.fc d3 (by decide) (by decide), r3.fm d4 (by decide) (by decide), L ++ [3006], by rw [List.length_append]; simp; omega, by omega, d5, d6, fun c hc => (List.mem_append.mp hc).elim (l5 c) (fun u => by rw [List.mem_singleton.mp u]; decide), fun ts hts => ?_⟩⟩
        rw [tyL_2 (l6 ts (by omega))]
        rfl
      · rw [ibF, x_codes b5.x, bd_eq]
        exact ⟨false, g3, h3, rfl, rfl, x3, y3, Or.inr ⟨rfl, b5⟩⟩
    · rw [a1, a2, bd_eq, bd_eq, ibF, ibF]
      exact ⟨false, g2, h2, rfl, rfl, a3.mono (by decide) (by decide), a4.mono (by decide) (by decide), Or.inr ⟨rfl, a5⟩⟩
  · rw [decide_eq_false e14, ibF, ibF, i37, bd_eq]
    by_cases e91 : kZ T n i = 91
    · rw [if_pos (c91.mpr e91), decide_eq_true e91, ibT]
      rcases ls_in hz hs hh c r (by omega) (by omega) hd with ⟨d6, iM', g2, h2, a1, a2, a3, a4, a5, a6⟩ | ⟨g2, h2, a1, a2, a3, a4, a5⟩
      · obtain ⟨bb, g3, h3, b1, b2, b3, b4, b5⟩ := HT d6 LC (i + 1) g2 h2 (hs.fc a3) (hh.fm a4) a5 a6 (cd.cg (a3.2 17 (by decide)) (a3.I (by decide))) (rd.cg (a4.I (by decide))) (by omega)
        have x3 : Fc KcL [62] g g3 := (a3.mono (by decide) (by decide)).tr b3
        have y3 : Fm KrL [140] h h3 := (a4.mono (by decide) (by decide)).tr b4
        rw [a1, a2, bd_eq, bd_eq, ibT, ibT, lad1, b1, b2, bd_eq, bd_eq]
        rcases b5 with ⟨rfl, i3, c3', r3, L, l1, l2, l3, l4, l5, l6⟩ | ⟨rfl, b5⟩
        · rw [ibT]
          rcases ls_take hz (hs.fc x3) (hh.fm y3) c3' r3 (k0 := 93) (x := 38) (by decide) (by decide) with ⟨-, iM3, g4, h4, d1, d2, d3, d4, d5, d6⟩ | ⟨-, g4, h4, d1, d2, d2', d3, d4, d5⟩
          · have d1' : f_X8_take 57 93 g3 = some (true, g4) := d1
            have d2' : f_X12_eats 136 38 h3 = some (true, h4) := d2
            rw [d1', d2', bd_eq, bd_eq, ibT, ibT]
            exact ⟨true, g4, h4, rfl, rfl, x3.tr (d3.mono (by decide) (by decide)), y3.tr (d4.mono (by decide) (by decide)), Or.inl ⟨rfl, i3 + 1, d5, d6, L, by omega, by omega, l3.cg (d3.2 17 (by decide)) (d3.I (by decide)), l4.cg (d4.I (by decide)), l5, fun ts hts => l6 ts (by omega)⟩⟩
          · have d1' : f_X8_take 57 93 g3 = some (false, g4) := d1
            have d2'' : f_X12_eats 136 38 h3 = some (false, h3) := d2
            rw [d1', d2'', bd_eq, bd_eq, ibF, ibF, d2', bd_eq]
            exact ⟨false, g4, h4, rfl, rfl, x3.tr (d3.mono (by decide) (by decide)), y3.tr (d4.mono (by decide) (by decide)), Or.inr ⟨rfl, d5⟩⟩
        · rw [ibF, x_eats b5.x, bd_eq, ibF, x_fails b5.x, bd_eq]
          exact ⟨false, g3, h3, rfl, rfl, x3, y3, Or.inr ⟨rfl, b5⟩⟩
      · rw [a1, a2, bd_eq, bd_eq, ibF, ibF]
        exact ⟨false, g2, h2, rfl, rfl, a3.mono (by decide) (by decide), a4.mono (by decide) (by decide), Or.inr ⟨rfl, a5⟩⟩
    · rw [if_neg (fun u => e91 (c91.mp u)), decide_eq_false e91, ibF]
      obtain ⟨bb, g3, h3, b1, b2, x3, y3, b5⟩ := HSm LC i g h hs hh c r cd rd hb
      rw [b1, b2, bd_eq, bd_eq]
      rcases b5 with ⟨rfl, i3, c3, r3, L, l1, l2, l3, l4, l5, l6⟩ | ⟨rfl, b5⟩
      · have iM3 := c3.2.2.2.1
        have ll : (LC ++ L).length = LC.length + L.length := List.length_append
        have i39 : f_X12_is 136 39 h3 = _ := r_isK r3 (k0 := 61) (x := 39) (by decide)
        have i40 : f_X12_is 136 40 h3 = _ := r_isK r3 (k0 := 60) (x := 40) (by decide)
        have i41 : f_X12_is 136 41 h3 = _ := r_isK r3 (k0 := 62) (x := 41) (by decide)
        have c61 : nI (kZ T n i3) = (61 : Int32) ↔ kZ T n i3 = 61 := nI_eq (b := 61) (by have := kZ_lt (T := T) (n := n) (i := i3); omega) (by decide)
        have c60 : nI (kZ T n i3) = (60 : Int32) ↔ kZ T n i3 = 60 := nI_eq (b := 60) (by have := kZ_lt (T := T) (n := n) (i := i3); omega) (by decide)
        have c62 : nI (kZ T n i3) = (62 : Int32) ↔ kZ T n i3 = 62 := nI_eq (b := 62) (by have := kZ_lt (T := T) (n := n) (i := i3); omega) (by decide)
        have sg : ∀ x, 3003 ≤ x → x ≤ 3005 → kZ T n i3 ≠ 0 → kZ T n i3 ≠ 1 → cm x = 2000 + kZ T n i3 → LSZ T n M (LPZ N F true 62 d LC i) g h (f_X8_unit_123 hSc hTc hUc 57 (nI d) (nI (kZ T n i3)) g3) (f_X12_readUnit_139 hSr hTr hUr 136 (nI d) (nI x) h3) := fun x x1 x2 k0 k1 cx => by
          obtain ⟨iM', g4, h4, d1, d2, d3, d4, d5, d6⟩ := ls_next hz (hs.fc x3) (hh.fm y3) c3 r3 k0 k1
          have x4 : Fc KcL [62] g g4 := x3.tr (d3.mono (by decide) (by decide))
          have y4 : Fm KrL [140] h h4 := y3.tr (d4.mono (by decide) (by decide))
          obtain ⟨bb, g5, h5, q1, q2, q3, q4, q5⟩ := HSm (LC ++ L) (i3 + 1) g4 h4 (hs.fc x4) (hh.fm y4) d5 d6 (l3.cg (d3.2 17 (by decide)) (d3.I (by decide))) (l4.cg (d4.I (by decide))) (by omega)
          have x5 := x4.tr q3
          have y5 := y4.tr q4
          rw [f_X8_unit_123, f_X12_readUnit_139, d1, d2, bd_eq, bd_eq, f_X12_readUnit_151, q1, q2, bd_eq, bd_eq, lda2000, ← cx]
          rcases q5 with ⟨rfl, i5, c5, r5, L5, m1, m2, m3, m4, m5, m6⟩ | ⟨rfl, q5⟩
          · have iM5 := c5.2.2.2.1
            have ll5 : (LC ++ L ++ L5).length = LC.length + L.length + L5.length := by
              rw [List.length_append, List.length_append]
            obtain ⟨g6, h6, p1, p2, p3, p4, p5, p6⟩ := ls_emit (hs.fc x5) (hh.fm y5) m3 m4 r5.2.2.2.2.2 (by omega) x
            rw [ibT, p1, p2, bd_eq, bd_eq, ibT]
            rw [List.append_assoc, List.append_assoc] at p5 p6
            refine ⟨true, g6, h6, rfl, rfl, x5.tr (p3.mono (by decide) (by decide)), y5.tr (p4.mono (by decide) (by decide)), Or.inl ⟨rfl, i5, c5.fc p3 (by decide) (by decide), r5.fm p4 (by decide) (by decide), L ++ (L5 ++ [x]), by rw [List.length_append, List.length_append]; simp; omega, by omega, p5, p6, fun c hc => ?_, fun ts hts => ?_⟩⟩
            · rcases List.mem_append.mp hc with u | u
              · exact l5 c u
              · rcases List.mem_append.mp u with v | v
                · exact m5 c v
                · rw [List.mem_singleton.mp v]
                  omega
            · rw [tyL_2 (l6 ts (by omega)), tyL_2 (m6 (false :: ts) (by rw [List.length_cons]; omega))]
              obtain rfl | rfl | rfl : x = 3003 ∨ x = 3004 ∨ x = 3005 := by omega
              · rfl
              · rfl
              · rfl
          · rw [ibF, x_codes q5.x, bd_eq]
            exact ⟨false, g5, h5, rfl, rfl, x5, y5, Or.inr ⟨rfl, q5⟩⟩
        rw [ibT, li, c3.2.2.2.2.1, i39, bd_eq]
        by_cases e61 : kZ T n i3 = 61
        · rw [if_pos (c61.mpr e61), decide_eq_true e61, ibT, f_X12_readUnit_111, i39, bd_eq, decide_eq_true e61, ibT]
          exact sg 3003 (by decide) (by decide) (by omega) (by omega) (by rw [e61]; rfl)
        · rw [if_neg (fun u => e61 (c61.mp u)), decide_eq_false e61, ibF, i40, bd_eq]
          by_cases e60 : kZ T n i3 = 60
          · rw [if_pos (c60.mpr e60), decide_eq_true e60, ibT, f_X12_readUnit_111, i39, bd_eq, decide_eq_false e61, ibF, i40, bd_eq, decide_eq_true e60, ibT]
            exact sg 3004 (by decide) (by decide) (by omega) (by omega) (by rw [e60]; rfl)
          · rw [if_neg (fun u => e60 (c60.mp u)), decide_eq_false e60, ibF, f_X12_readUnit_111, i39, bd_eq, decide_eq_false e61, ibF, i40, bd_eq, decide_eq_false e60, ibF, i41, bd_eq]
            by_cases e62 : kZ T n i3 = 62
            · rw [if_pos (c62.mpr e62), decide_eq_true e62, ibT]
              exact sg 3005 (by decide) (by decide) (by omega) (by omega) (by rw [e62]; rfl)
            · obtain ⟨g4, h4, d1, d2, d3, d4, d5⟩ := ls_bad c3 r3
              rw [if_neg (fun u => e62 (c62.mp u)), decide_eq_false e62, ibF, d1, d2, bd_eq, bd_eq, x_151 d5.x]
              exact ⟨false, g4, h4, rfl, rfl, x3.tr (d3.mono (by decide) (by decide)), y3.tr (d4.mono (by decide) (by decide)), Or.inr ⟨rfl, d5⟩⟩
      · rw [ibF, x_is b5.x, bd_eq, ibF, x_is b5.x, bd_eq, ibF, x_111 b5.x]
        exact ⟨false, g3, h3, rfl, rfl, x3, y3, Or.inr ⟨rfl, b5⟩⟩
/-- all depths -/
theorem ls_all (hz : TZ T n M) : ∀ k d, d ≤ 6 → 7 ≤ k + d → PFZ T n M N F false 63 d (R_X8 k).1 (R_X12 k).1 ∧ PFZ T n M N F true 60 d (R_X8 k).2.1 (R_X12 k).2.1 ∧ PFZ T n M N F true 62 d (R_X8 k).2.2 (R_X12 k).2.2 := by
  intro k
  induction k with
  | zero => intro d h1 h2; omega
  | succ k ih =>
    intro d h1 h2
    have HS := ls_sum hz (ls_term hz (ls_atom (N := N) (F := F) hz h1 (fun z => (ih (d + 1) (by omega) (by omega)).1)))
    have HU := ls_unit hz h1 HS (fun z => (ih (d + 1) (by omega) (by omega)).2.1) (fun z => (ih (d + 1) (by omega) (by omega)).2.2)
    exact ⟨HS, ls_truth hz (ls_both hz HU), HU⟩
end LWT
