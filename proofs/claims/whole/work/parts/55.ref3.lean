/-! THE REFERENCE: laws told, who may go, what it costs. -/
def hgt (A : Nat → Int32) (c : Nat) : Nat := if wl A c = 1 then 9 else if ht A c = 9 then 0 else ht A c
def hp (A : Nat → Int32) (c : Nat) : Nat := if ht A c = 9 then 0 else ht A c
theorem hgt_hp {A : Nat → Int32} {c : Nat} (h : wl A c = 0) : hgt A c = hp A c := by
  unfold hgt
  rw [if_neg (by omega)]
  rfl
def lawV (A : Nat → Int32) (w : Nat) (ws : Nat → Int32) : Int32 := (evL ws (lawL A w) []).headD 0
/-- what a law tells of a pair with a mood, of a twin that goes from a cell to a cell -/
def lawT (A : Nat → Int32) (w p m t a c : Nat) : Int32 := lawV A w (wds p t m (hp A a) (hp A c) (apS (nv A 2) a c) (c / nv A 2) (c % nv A 2))
/-- who may go -/
def may (A : Nat → Int32) (p m t a c : Nat) : Bool := decide (A 4 = nI 0) || decide (lawT A 0 p m t a c = nI 1)
def cst (A : Nat → Int32) (p m t a c : Nat) : Nat := if a = c then 0 else if A 5 = nI 0 then apS (nv A 2) a c else (if lawT A 1 p m t a c < nI 0 then 0 else if nI 99 < lawT A 1 p m t a c then 99 else (lawT A 1 p m t a c).toNatClampNeg)
/-- laws that are told are well told -/
def LW (A : Nat → Int32) : Prop := Hs A ∧ (A 4 = nI 0 ∨ LV A 0 true) ∧ (A 5 = nI 0 ∨ LV A 1 false)
section RF3
variable {g : G}
theorem r_reckons (h : Sh g) (hA : Dm (gI g 137)) (hB : VB (gI g 137) (bo (gI g 137))) (hH : Hs (gI g 137)) {w p t a c : Nat} {b : Bool} (hw : w < 2) (hL : LV (gI g 137) w b) (hp1 : p < nv (gI g 137) 3) (ht : t < 2) (ha : a < cS (gI g 137)) (hc : c < cS (gI g 137)) (wa : wl (gI g 137) a = 0) (wc : wl (gI g 137) c = 0) : ∃ g', f_X12_reckons 136 (nI w) (nI p) (nI t) (nI a) (nI c) g = some (lawT (gI g 137) w p (md (gI g 137) p) t a c, g') ∧ Fi [141, 142] g g' := by
  have cl := cS_le hA
  obtain ⟨-, -, -, hW, w0, w6, hK, h3⟩ := id hA
  have hm := (hB.m hp1).1
  obtain ⟨l1, l2, l3, l4, l5⟩ := hL
  have e1 : ∀ x y z, f_X12_heightOf 136 (nI a) (sI (sI (sI g 142 0 x) 142 1 y) 142 2 z) = some (nI (hp (gI g 137) a), (sI (sI (sI g 142 0 x) 142 1 y) 142 2 z)) := fun x y z => by
    rw [← hgt_hp wa]
    exact r_heightOf (g := (sI (sI (sI g 142 0 x) 142 1 y) 142 2 z)) h hA hB hH (by omega)
  have e2 : ∀ x y z u, f_X12_heightOf 136 (nI c) (sI (sI (sI (sI g 142 0 x) 142 1 y) 142 2 z) 142 3 u) = some (nI (hp (gI g 137) c), (sI (sI (sI (sI g 142 0 x) 142 1 y) 142 2 z) 142 3 u)) := fun x y z u => by
    rw [← hgt_hp wc]
    exact r_heightOf (g := (sI (sI (sI (sI g 142 0 x) 142 1 y) 142 2 z) 142 3 u)) h hA hB hH (by omega)
  have e3 : ∀ x y z u v, f_X12_apart 136 (nI a) (nI c) (sI (sI (sI (sI (sI g 142 0 x) 142 1 y) 142 2 z) 142 3 u) 142 4 v) = some (nI (apS (nv (gI g 137) 2) a c), (sI (sI (sI (sI (sI g 142 0 x) 142 1 y) 142 2 z) 142 3 u) 142 4 v)) := fun x y z u v => r_apart (g := (sI (sI (sI (sI (sI g 142 0 x) 142 1 y) 142 2 z) 142 3 u) 142 4 v)) h hA (by omega) (by omega)
  have d1 : c / nv (gI g 137) 2 ≤ c := Nat.div_le_self _ _
  have d3 : c % nv (gI g 137) 2 ≤ c := Nat.mod_le _ _
  simp only [f_X12_reckons, ↓gk136 h, ↓gk137 h, sn137 h, ↓gk138 h, sn138 h, ↓gk139 h, sn139 h, ↓gk140 h, sn140 h, ↓gk141 h, sn141 h, ↓gk142 h, sn142 h, ↓gk143 h, sn143 h, ↓gk144 h, sn144 h, ↓gk145 h, sn145 h, ↓gk146 h, sn146 h, ↓gk147 h, sn147 h, ↓gk148 h, sn148 h, ↓gk149 h, sn149 h, ↓gk150 h, sn150 h, ↓gk151 h, sn151 h, ↓gk152 h, sn152 h, ↓gk153 h, sn153 h, ↓gk154 h, sn154 h, ↓md136_1 h, ↓md136_2 h, ↓md136_3 h, ↓md136_4 h, ↓md136_15 h, ↓md136_16 h, ↓md136_19 h, ↓md136_23 h, ↓md136_24 h, ↓md136_25 h, ↓md136_26 h, ↓md136_27 h, ↓md136_28 h, ↓md136_29 h, ↓md136_30 h, ↓md136_33 h, ↓md136_34 h, ↓md136_35 h, ↓dr_sI, ↓dr_sL, ↓gdK_sI, ↓gdK_sL, gR_sI, gN_sI, gn_sI, gL_sI, gI_sIs, gI_sIn, gR_sL, gN_sL, gn_sL, gI_sL, gL_sLs, gL_sLn, ↓dr_eq, bd_eq, ↓lg, ↓li, ↓ll, ↓ln, lI, nI_clamp, gdI_nI, Nat.reducePow, Nat.reduceLT, Nat.reduceLeDiff, Nat.reduceEqDiff, reduceIte, if_true, if_false]
  simp (disch := first | assumption | ((fail_if_success show Sh _); omega)) only [lI, nI_add, pk_mul, pk_sub, nI_sub0, nI_mod, pk_div, nI_clamp, nI_eq, nI_leI, nI_ltI, gdI_nI, gdZ_nI, b2i_z, decide_eq_false_iff_not, Bool.not_eq_false, decide_eq_true_eq, ifLt, ifNlt, ifLe, ifNle, ifEq, ifNe, ifnLe, ifnNle, nIm1, m1nI, nI_z, z_nI, Nat.reduceLT, Nat.reduceLeDiff, Nat.reduceEqDiff, Nat.reduceAdd, Nat.reduceMul, Nat.reduceSub, Nat.reduceDiv, Nat.reduceMod, if_true, if_false, reduceIte, sn137 h, ↓dr_sI, ↓dr_sL, ↓gdK_sI, ↓gdK_sL, gR_sI, gN_sI, gn_sI, gL_sI, gI_sIs, gI_sIn, gR_sL, gN_sL, gn_sL, gI_sL, gL_sLs, gL_sLn, hm]
  rw [e1, bd_eq]
  simp only [↓gk136 h, ↓gk137 h, sn137 h, ↓gk138 h, sn138 h, ↓gk139 h, sn139 h, ↓gk140 h, sn140 h, ↓gk141 h, sn141 h, ↓gk142 h, sn142 h, ↓gk143 h, sn143 h, ↓gk144 h, sn144 h, ↓gk145 h, sn145 h, ↓gk146 h, sn146 h, ↓gk147 h, sn147 h, ↓gk148 h, sn148 h, ↓gk149 h, sn149 h, ↓gk150 h, sn150 h, ↓gk151 h, sn151 h, ↓gk152 h, sn152 h, ↓gk153 h, sn153 h, ↓gk154 h, sn154 h, ↓md136_1 h, ↓md136_2 h, ↓md136_3 h, ↓md136_4 h, ↓md136_15 h, ↓md136_16 h, ↓md136_19 h, ↓md136_23 h, ↓md136_24 h, ↓md136_25 h, ↓md136_26 h, ↓md136_27 h, ↓md136_28 h, ↓md136_29 h, ↓md136_30 h, ↓md136_33 h, ↓md136_34 h, ↓md136_35 h, ↓dr_sI, ↓dr_sL, ↓gdK_sI, ↓gdK_sL, gR_sI, gN_sI, gn_sI, gL_sI, gI_sIs, gI_sIn, gR_sL, gN_sL, gn_sL, gI_sL, gL_sLs, gL_sLn, ↓dr_eq, bd_eq, ↓lg, ↓li, ↓ll, ↓ln, lI, nI_clamp, gdI_nI, Nat.reducePow, Nat.reduceLT, Nat.reduceLeDiff, Nat.reduceEqDiff, reduceIte, if_true, if_false]
  rw [e2, bd_eq]
  simp only [↓gk136 h, ↓gk137 h, sn137 h, ↓gk138 h, sn138 h, ↓gk139 h, sn139 h, ↓gk140 h, sn140 h, ↓gk141 h, sn141 h, ↓gk142 h, sn142 h, ↓gk143 h, sn143 h, ↓gk144 h, sn144 h, ↓gk145 h, sn145 h, ↓gk146 h, sn146 h, ↓gk147 h, sn147 h, ↓gk148 h, sn148 h, ↓gk149 h, sn149 h, ↓gk150 h, sn150 h, ↓gk151 h, sn151 h, ↓gk152 h, sn152 h, ↓gk153 h, sn153 h, ↓gk154 h, sn154 h, ↓md136_1 h, ↓md136_2 h, ↓md136_3 h, ↓md136_4 h, ↓md136_15 h, ↓md136_16 h, ↓md136_19 h, ↓md136_23 h, ↓md136_24 h, ↓md136_25 h, ↓md136_26 h, ↓md136_27 h, ↓md136_28 h, ↓md136_29 h, ↓md136_30 h, ↓md136_33 h, ↓md136_34 h, ↓md136_35 h, ↓dr_sI, ↓dr_sL, ↓gdK_sI, ↓gdK_sL, gR_sI, gN_sI, gn_sI, gL_sI, gI_sIs, gI_sIn, gR_sL, gN_sL, gn_sL, gI_sL, gL_sLs, gL_sLn, ↓dr_eq, bd_eq, ↓lg, ↓li, ↓ll, ↓ln, lI, nI_clamp, gdI_nI, Nat.reducePow, Nat.reduceLT, Nat.reduceLeDiff, Nat.reduceEqDiff, reduceIte, if_true, if_false]
  rw [e3, bd_eq]
  simp only [↓gk136 h, ↓gk137 h, sn137 h, ↓gk138 h, sn138 h, ↓gk139 h, sn139 h, ↓gk140 h, sn140 h, ↓gk141 h, sn141 h, ↓gk142 h, sn142 h, ↓gk143 h, sn143 h, ↓gk144 h, sn144 h, ↓gk145 h, sn145 h, ↓gk146 h, sn146 h, ↓gk147 h, sn147 h, ↓gk148 h, sn148 h, ↓gk149 h, sn149 h, ↓gk150 h, sn150 h, ↓gk151 h, sn151 h, ↓gk152 h, sn152 h, ↓gk153 h, sn153 h, ↓gk154 h, sn154 h, ↓md136_1 h, ↓md136_2 h, ↓md136_3 h, ↓md136_4 h, ↓md136_15 h, ↓md136_16 h, ↓md136_19 h, ↓md136_23 h, ↓md136_24 h, ↓md136_25 h, ↓md136_26 h, ↓md136_27 h, ↓md136_28 h, ↓md136_29 h, ↓md136_30 h, ↓md136_33 h, ↓md136_34 h, ↓md136_35 h, ↓dr_sI, ↓dr_sL, ↓gdK_sI, ↓gdK_sL, gR_sI, gN_sI, gn_sI, gL_sI, gI_sIs, gI_sIn, gR_sL, gN_sL, gn_sL, gI_sL, gL_sLs, gL_sLn, ↓dr_eq, bd_eq, ↓lg, ↓li, ↓ll, ↓ln, lI, nI_clamp, gdI_nI, Nat.reducePow, Nat.reduceLT, Nat.reduceLeDiff, Nat.reduceEqDiff, reduceIte, if_true, if_false]
  simp (disch := first | assumption | ((fail_if_success show Sh _); omega)) only [lI, nI_add, pk_mul, pk_sub, nI_sub0, nI_mod, pk_div, nI_clamp, nI_eq, nI_leI, nI_ltI, gdI_nI, gdZ_nI, b2i_z, decide_eq_false_iff_not, Bool.not_eq_false, decide_eq_true_eq, ifLt, ifNlt, ifLe, ifNle, ifEq, ifNe, ifnLe, ifnNle, nIm1, m1nI, nI_z, z_nI, Nat.reduceLT, Nat.reduceLeDiff, Nat.reduceEqDiff, Nat.reduceAdd, Nat.reduceMul, Nat.reduceSub, Nat.reduceDiv, Nat.reduceMod, if_true, if_false, reduceIte, sn137 h, ↓dr_sI, ↓dr_sL, ↓gdK_sI, ↓gdK_sL, gR_sI, gN_sI, gn_sI, gL_sI, gI_sIs, gI_sIn, gR_sL, gN_sL, gn_sL, gI_sL, gL_sLs, gL_sLn, hW]
  obtain ⟨g', q1, q2, q3, q4⟩ := r_rk (A := gI g 137) (ws := wds p t (md (gI g 137) p) (hp (gI g 137) a) (hp (gI g 137) c) (apS (nv (gI g 137) 2) a c) (c / nv (gI g 137) 2) (c % nv (gI g 137) 2)) hw l1 l2 l3 (lawL (gI g 137) w) 0 [] [] [b] FU _ (h.si.si.si.si.si.si.si.si : Sh (sI (sI (sI (sI (sI (sI (sI (sI g 142 0 (nI p)) 142 1 (nI t)) 142 2 (nI (md (gI g 137) p))) 142 3 (nI (hp (gI g 137) a))) 142 4 (nI (hp (gI g 137) c))) 142 5 (nI (apS (nv (gI g 137) 2) a c))) 142 6 (nI (c / nv (gI g 137) 2))) 142 7 (nI (c % nv (gI g 137) 2)))) rfl (fun j hj => by
      obtain rfl | rfl | rfl | rfl | rfl | rfl | rfl | rfl : j = 0 ∨ j = 1 ∨ j = 2 ∨ j = 3 ∨ j = 4 ∨ j = 5 ∨ j = 6 ∨ j = 7 := by omega
      all_goals rfl) (by simp [lawL]) (fun j hj => by
      have hj' : j < nv (gI g 137) (8 + w) := by simpa [lawL] using hj
      have := l4 j hj'
      simp only [lawL, List.getElem_map, List.getElem_range, Nat.zero_add]
      exact this) l5 rfl (by decide) True.intro (FU_gt (by
      have : (lawL (gI g 137) w).length = nv (gI g 137) (8 + w) := by simp [lawL]
      omega))
  have hF : Fi [141, 142] g (sI (sI (sI (sI (sI (sI (sI (sI g 142 0 (nI p)) 142 1 (nI t)) 142 2 (nI (md (gI g 137) p))) 142 3 (nI (hp (gI g 137) a))) 142 4 (nI (hp (gI g 137) c))) 142 5 (nI (apS (nv (gI g 137) 2) a c))) 142 6 (nI (c / nv (gI g 137) 2))) 142 7 (nI (c % nv (gI g 137) 2))) := ((((((((Fi.rf.si (by decide)).si (by decide)).si (by decide)).si (by decide)).si (by decide)).si (by decide)).si (by decide)).si (by decide))
  refine ⟨g', ?_, hF.tr (q2.mono (by simp))⟩
  have hv : gI g' 141 0 = lawT (gI g 137) w p (md (gI g 137) p) t a c := by
    unfold lawT lawV
    revert q3 q4
    generalize evL _ (lawL (gI g 137) w) [] = L
    intro q3 q4
    cases L with
    | nil => simp at q4
    | cons x s =>
      cases s with
      | nil => exact q3.1
      | cons y s => simp at q4
  rw [← hv]
  exact q1
theorem r_mayGo (h : Sh g) (hA : Dm (gI g 137)) (hB : VB (gI g 137) (bo (gI g 137))) (hL : LW (gI g 137)) {p t a c : Nat} (hp1 : p < nv (gI g 137) 3) (ht : t < 2) (ha : a < cS (gI g 137)) (hc : c < cS (gI g 137)) (wa : wl (gI g 137) a = 0) (wc : wl (gI g 137) c = 0) : ∃ g', f_X12_mayGo 136 (nI p) (nI t) (nI a) (nI c) g = some (may (gI g 137) p (md (gI g 137) p) t a c, g') ∧ Fi [141, 142] g g' := by
  simp only [f_X12_mayGo, f_X12_mayGo_23, ↓gk136 h, ↓gk137 h, sn137 h, ↓gk138 h, sn138 h, ↓gk139 h, sn139 h, ↓gk140 h, sn140 h, ↓gk141 h, sn141 h, ↓gk142 h, sn142 h, ↓gk143 h, sn143 h, ↓gk144 h, sn144 h, ↓gk145 h, sn145 h, ↓gk146 h, sn146 h, ↓gk147 h, sn147 h, ↓gk148 h, sn148 h, ↓gk149 h, sn149 h, ↓gk150 h, sn150 h, ↓gk151 h, sn151 h, ↓gk152 h, sn152 h, ↓gk153 h, sn153 h, ↓gk154 h, sn154 h, ↓md136_1 h, ↓md136_2 h, ↓md136_3 h, ↓md136_4 h, ↓md136_15 h, ↓md136_16 h, ↓md136_19 h, ↓md136_23 h, ↓md136_24 h, ↓md136_25 h, ↓md136_26 h, ↓md136_27 h, ↓md136_28 h, ↓md136_29 h, ↓md136_30 h, ↓md136_33 h, ↓md136_34 h, ↓md136_35 h, ↓dr_sI, ↓dr_sL, ↓gdK_sI, ↓gdK_sL, gR_sI, gN_sI, gn_sI, gL_sI, gI_sIs, gI_sIn, gR_sL, gN_sL, gn_sL, gI_sL, gL_sLs, gL_sLn, ↓dr_eq, bd_eq, ↓lg, ↓li, ↓ll, ↓ln, lI, nI_clamp, gdI_nI, Nat.reducePow, Nat.reduceLT, Nat.reduceLeDiff, Nat.reduceEqDiff, reduceIte, if_true, if_false]
  unfold may
  by_cases h4 : gI g 137 4 = nI 0
  · refine ⟨g, ?_, Fi.rf⟩
    rw [if_pos h4, decide_eq_true h4]
    rfl
  · rw [if_neg h4, decide_eq_false h4]
    obtain ⟨g', q1, q2⟩ := r_reckons h hA hB hL.1 (w := 0) (by decide) (hL.2.1.resolve_left h4) hp1 ht ha hc wa wc
    refine ⟨g', ?_, q2⟩
    rw [q1, bd_eq]
    simp only [Bool.false_or]
    by_cases e : lawT (gI g 137) 0 p (md (gI g 137) p) t a c = nI 1
    · rw [if_pos e, decide_eq_true e]
    · rw [if_neg e, decide_eq_false e]
theorem r_costOf (h : Sh g) (hA : Dm (gI g 137)) (hB : VB (gI g 137) (bo (gI g 137))) (hL : LW (gI g 137)) {p t a c : Nat} (hp1 : p < nv (gI g 137) 3) (ht : t < 2) (ha : a < cS (gI g 137)) (hc : c < cS (gI g 137)) (wa : wl (gI g 137) a = 0) (wc : wl (gI g 137) c = 0) : ∃ g', f_X12_costOf 136 (nI p) (nI t) (nI a) (nI c) g = some (nI (cst (gI g 137) p (md (gI g 137) p) t a c), g') ∧ Fi [141, 142] g g' := by
  have cl := cS_le hA
  have h37 : ∀ (x : Int32) (g : G), f_X12_costOf_37 x g = some (nI (if x < nI 0 then 0 else if nI 99 < x then 99 else x.toNatClampNeg), g) := fun x g => by
    unfold f_X12_costOf_37
    simp only [lI]
    by_cases q : x < nI 0
    · rw [if_neg (Int32.not_le.mpr q), if_pos q]
    · rw [if_pos (Int32.not_lt.mp q), if_neg q]
      by_cases q2 : nI 99 < x
      · rw [if_neg (Int32.not_le.mpr q2), if_pos q2]
      · rw [if_pos (Int32.not_lt.mp q2), if_neg q2]
        obtain ⟨j, j1, rfl⟩ := nI_of q
        rw [nI_clamp j1]
  unfold f_X12_costOf cst
  by_cases e : a = c
  · subst e
    rw [if_pos rfl, if_pos rfl]
    exact ⟨g, rfl, Fi.rf⟩
  · rw [if_neg (fun x => e ((nI_eq (by omega) (by omega)).mp x)), if_neg e]
    simp only [↓gk136 h, ↓gk137 h, sn137 h, ↓gk138 h, sn138 h, ↓gk139 h, sn139 h, ↓gk140 h, sn140 h, ↓gk141 h, sn141 h, ↓gk142 h, sn142 h, ↓gk143 h, sn143 h, ↓gk144 h, sn144 h, ↓gk145 h, sn145 h, ↓gk146 h, sn146 h, ↓gk147 h, sn147 h, ↓gk148 h, sn148 h, ↓gk149 h, sn149 h, ↓gk150 h, sn150 h, ↓gk151 h, sn151 h, ↓gk152 h, sn152 h, ↓gk153 h, sn153 h, ↓gk154 h, sn154 h, ↓md136_1 h, ↓md136_2 h, ↓md136_3 h, ↓md136_4 h, ↓md136_15 h, ↓md136_16 h, ↓md136_19 h, ↓md136_23 h, ↓md136_24 h, ↓md136_25 h, ↓md136_26 h, ↓md136_27 h, ↓md136_28 h, ↓md136_29 h, ↓md136_30 h, ↓md136_33 h, ↓md136_34 h, ↓md136_35 h, ↓dr_sI, ↓dr_sL, ↓gdK_sI, ↓gdK_sL, gR_sI, gN_sI, gn_sI, gL_sI, gI_sIs, gI_sIn, gR_sL, gN_sL, gn_sL, gI_sL, gL_sLs, gL_sLn, ↓dr_eq, bd_eq, ↓lg, ↓li, ↓ll, ↓ln, lI, nI_clamp, gdI_nI, Nat.reducePow, Nat.reduceLT, Nat.reduceLeDiff, Nat.reduceEqDiff, reduceIte, if_true, if_false]
    by_cases h5 : gI g 137 5 = nI 0
    · rw [if_pos h5, if_pos h5, r_apart h hA (by omega) (by omega), bd_eq, h37]
      have := apS_le hA.2.2.2.2.1 hA.2.2.2.2.2.1 (show a < 36 by omega) (show c < 36 by omega)
      refine ⟨g, ?_, Fi.rf⟩
      rw [if_neg (nI_nlt (Nat.zero_le _) (by omega)), if_neg (nI_nlt (by omega) (by decide)), nI_clamp (by omega)]
    · rw [if_neg h5, if_neg h5]
      obtain ⟨g', q1, q2⟩ := r_reckons h hA hB hL.1 (w := 1) (by decide) (hL.2.2.resolve_left h5) hp1 ht ha hc wa wc
      refine ⟨g', ?_, q2⟩
      rw [q1, bd_eq, h37]
end RF3
