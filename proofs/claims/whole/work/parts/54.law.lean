/-! LAWS: operands ahead of what joins them; a stack; types true (a truth) and false (a number). -/
def clp (v : Int64) : Int32 := if (1000000 : Int64) < v then (1000000 : Int32) else if v < (-1000000 : Int64) then (-1000000 : Int32) else v.toInt32
def evOp (c : Nat) (x y : Int32) : Int32 := if c = 3003 then (if x = y then 1 else 0) else if c = 3004 then (if y ≤ x then 0 else 1) else if c = 3005 then (if x ≤ y then 0 else 1) else if c = 3007 then x &&& y else if c = 3008 then x ||| y else if c = 3000 then clp (x.toInt64 + y.toInt64) else if c = 3001 then clp (x.toInt64 - y.toInt64) else clp (x.toInt64 * y.toInt64)
def evL (ws : Nat → Int32) : List Nat → List Int32 → List Int32
  | [], st => st
  | c :: l, st => if c < 3000 then evL ws l ((if c < 1000 then nI c else ws (c - 1000)) :: st) else if c = 3006 then (match st with
    | x :: s => evL ws l ((1 - x) :: s)
    | [] => []) else (match st with
    | y :: x :: s => evL ws l (evOp c x y :: s)
    | _ => [])
def tyL : List Nat → List Bool → Option (List Bool)
  | [], ts => some ts
  | c :: l, ts => if c < 3000 then (if c < 1008 ∧ ts.length < 60 then tyL l (false :: ts) else none) else if c = 3006 then (match ts with
    | true :: s => tyL l (true :: s)
    | _ => none) else if c < 3003 then (match ts with
    | false :: false :: s => tyL l (false :: s)
    | _ => none) else if c < 3006 then (match ts with
    | false :: false :: s => tyL l (true :: s)
    | _ => none) else if c < 3009 then (match ts with
    | true :: true :: s => tyL l (true :: s)
    | _ => none) else none
theorem tyL_cons (c : Nat) (l : List Nat) (ts : List Bool) : tyL (c :: l) ts = if c < 3000 then (if c < 1008 ∧ ts.length < 60 then tyL l (false :: ts) else none) else if c = 3006 then (match ts with
    | true :: s => tyL l (true :: s)
    | _ => none) else if c < 3003 then (match ts with
    | false :: false :: s => tyL l (false :: s)
    | _ => none) else if c < 3006 then (match ts with
    | false :: false :: s => tyL l (true :: s)
    | _ => none) else if c < 3009 then (match ts with
    | true :: true :: s => tyL l (true :: s)
    | _ => none) else none := rfl
theorem evL_cons (ws : Nat → Int32) (c : Nat) (l : List Nat) (st : List Int32) : evL ws (c :: l) st = if c < 3000 then evL ws l ((if c < 1000 then nI c else ws (c - 1000)) :: st) else if c = 3006 then (match st with
    | x :: s => evL ws l ((1 - x) :: s)
    | [] => []) else (match st with
    | y :: x :: s => evL ws l (evOp c x y :: s)
    | _ => []) := rfl
def stk (f : Nat → Int32) : List Int32 → Prop
  | [] => True
  | x :: s => f s.length = x ∧ stk f s
theorem stk_upd {f : Nat → Int32} {k : Nat} {v : Int32} : ∀ {s : List Int32}, s.length ≤ k → stk f s → stk (upd f k v) s
  | [], _, _ => True.intro
  | x :: s, h, ⟨h1, h2⟩ => ⟨(pk_un (by simp at h; omega)).trans h1, stk_upd (by simp at h; omega) h2⟩
def lawL (A : Nat → Int32) (w : Nat) : List Nat := (List.range (nv A (8 + w))).map (fun j => nv A (615 + nv A (6 + w) + j))
/-- a law is well told -/
def LV (A : Nat → Int32) (w : Nat) (b : Bool) : Prop := A (8 + w) = nI (nv A (8 + w)) ∧ A (6 + w) = nI (nv A (6 + w)) ∧ nv A (6 + w) + nv A (8 + w) ≤ 900 ∧ (∀ j, j < nv A (8 + w) → A (615 + nv A (6 + w) + j) = nI (nv A (615 + nv A (6 + w) + j)) ∧ nv A (615 + nv A (6 + w) + j) < 4000) ∧ tyL (lawL A w) [] = some [b]
def wds (p t m a b x r c : Nat) : Nat → Int32 := fun j => nI ([p, t, m, a, b, x, r, c].getD j 0)
section LAW
variable {g : G}
theorem r_between {c : Nat} (hc : 3000 ≤ c) (hc2 : c < 3009) (h6 : c ≠ 3006) (x y : Int32) : f_X12_between (nI c) x y g = some (evOp c x y, g) := by
  have h116 : ∀ v : Int64, f_X12_between_116 v g = some (clp v, g) := by
    intro v
    unfold f_X12_between_116 f_X12_between_146 clp
    simp only [lg_cmp_le, lg_cmp_ge, Int64.le_iff_toInt_le, Int64.lt_iff_toInt_lt]
    have e1 : (1000000 : Int64).toInt = 1000000 := rfl
    have e2 : (-1000000 : Int64).toInt = -1000000 := rfl
    rw [e1, e2]
    by_cases q1 : v.toInt ≤ 1000000
    · rw [if_pos q1, if_neg (by omega : ¬ (1000000 : Int) < v.toInt)]
      by_cases q2 : -1000000 ≤ v.toInt
      · rw [if_pos q2, if_neg (by omega : ¬ v.toInt < -1000000)]
      · rw [if_neg q2, if_pos (by omega : v.toInt < -1000000)]
        rfl
    · rw [if_neg q1, if_pos (by omega : (1000000 : Int) < v.toInt)]
      rfl
  have ht : (nI c).toInt = (c : Int) := nI_toInt (by omega)
  have hs : ((c : Int) - 3003).toNat = c - 3003 := by omega
  have hlt : ((c : Int) < 3003) = (c < 3003) := propext (by omega)
  have k0 : ((nI c = (3000 : Int32)) = (c = 3000)) := by rw [show (3000 : Int32) = nI 3000 from rfl, nI_eq (by omega) (by decide)]
  have k1 : ((nI c = (3001 : Int32)) = (c = 3001)) := by rw [show (3001 : Int32) = nI 3001 from rfl, nI_eq (by omega) (by decide)]
  unfold f_X12_between f_X12_between_81 evOp
  simp only [ht, hs, hlt, k0, k1, h116]
  clear ht hs hlt k0 k1
  obtain rfl | rfl | rfl | rfl | rfl | rfl | rfl | rfl : c = 3000 ∨ c = 3001 ∨ c = 3002 ∨ c = 3003 ∨ c = 3004 ∨ c = 3005 ∨ c = 3007 ∨ c = 3008 := by omega
  all_goals simp only [Nat.reduceLT, Nat.reduceSub, Nat.reduceEqDiff, if_true, if_false]
  all_goals (split <;> rfl)
theorem r_rk {A ws : Nat → Int32} {w : Nat} (hw : w < 2) {m f : Nat} (h8 : A (8 + w) = nI m) (h6 : A (6 + w) = nI f) (hfm : f + m ≤ 900) : ∀ (l : List Nat) (k : Nat) (st : List Int32) (ts r : List Bool) (n : Nat) (g : G), Sh g → gI g 137 = A → (∀ j, j < 8 → gI g 142 j = ws j) → k + l.length = m → (∀ (j : Nat) (hj : j < l.length), A (615 + f + (k + j)) = nI (l[j]'hj) ∧ l[j]'hj < 4000) → tyL l ts = some r → st.length = ts.length → ts.length ≤ 60 → stk (gI g 141) st → l.length < n → ∃ g', f_X12_reckons_105 n 136 (nI w) (nI st.length) (nI k) g = some (gI g' 141 0, g') ∧ Fi [141] g g' ∧ stk (gI g' 141) (evL ws l st) ∧ (evL ws l st).length = r.length := by
  intro l
  induction l with
  | nil =>
    intro k st ts r n g h hA hws hk hl hty hlen h60 hst hn
    obtain ⟨n, rfl⟩ : ∃ n', n = n' + 1 := ⟨n - 1, by simp at hn; omega⟩
    have hk' : k = m := hk
    subst hk'
    have hr : ts = r := Option.some.inj hty
    subst hr
    refine ⟨g, ?_, Fi.rf, hst, hlen⟩
    rw [f_X12_reckons_105]
    simp only [↓gk136 h, ↓gk137 h, sn137 h, ↓gk138 h, sn138 h, ↓gk139 h, sn139 h, ↓gk140 h, sn140 h, ↓gk141 h, sn141 h, ↓gk142 h, sn142 h, ↓gk143 h, sn143 h, ↓gk144 h, sn144 h, ↓gk145 h, sn145 h, ↓gk146 h, sn146 h, ↓gk147 h, sn147 h, ↓gk148 h, sn148 h, ↓gk149 h, sn149 h, ↓gk150 h, sn150 h, ↓gk151 h, sn151 h, ↓gk152 h, sn152 h, ↓gk153 h, sn153 h, ↓gk154 h, sn154 h, ↓md136_1 h, ↓md136_2 h, ↓md136_3 h, ↓md136_4 h, ↓md136_15 h, ↓md136_16 h, ↓md136_19 h, ↓md136_23 h, ↓md136_24 h, ↓md136_25 h, ↓md136_26 h, ↓md136_27 h, ↓md136_28 h, ↓md136_29 h, ↓md136_30 h, ↓md136_33 h, ↓md136_34 h, ↓md136_35 h, ↓dr_sI, ↓dr_sL, ↓gdK_sI, ↓gdK_sL, gR_sI, gN_sI, gn_sI, gL_sI, gI_sIs, gI_sIn, gR_sL, gN_sL, gn_sL, gI_sL, gL_sLs, gL_sLn, ↓dr_eq, bd_eq, ↓lg, ↓li, ↓ll, ↓ln, lI, nI_clamp, gdI_nI, Nat.reducePow, Nat.reduceLT, Nat.reduceLeDiff, Nat.reduceEqDiff, reduceIte, if_true, if_false, hA]
    simp (disch := first | assumption | ((fail_if_success show Sh _); omega)) only [lI, nI_add, pk_mul, pk_sub, nI_sub0, nI_mod, pk_div, nI_clamp, nI_eq, nI_leI, nI_ltI, gdI_nI, gdZ_nI, b2i_z, decide_eq_false_iff_not, Bool.not_eq_false, decide_eq_true_eq, ifLt, ifNlt, ifLe, ifNle, ifEq, ifNe, ifnLe, ifnNle, nIm1, m1nI, nI_z, z_nI, Nat.reduceLT, Nat.reduceLeDiff, Nat.reduceEqDiff, Nat.reduceAdd, Nat.reduceMul, Nat.reduceSub, Nat.reduceDiv, Nat.reduceMod, if_true, if_false, reduceIte, sn137 h, h8]
  | cons c l ih =>
    intro k st ts r n g h hA hws hk hl hty hlen h60 hst hn
    obtain ⟨n, rfl⟩ : ∃ n', n = n' + 1 := ⟨n - 1, by omega⟩
    simp only [List.length_cons] at hk hn
    obtain ⟨c1, c2⟩ := hl 0 (by simp)
    simp only [List.getElem_cons_zero, Nat.add_zero, Nat.add_assoc] at c1 c2
    have hl' : ∀ (j : Nat) (hj : j < l.length), A (615 + f + (k + 1 + j)) = nI (l[j]'hj) ∧ l[j]'hj < 4000 := fun j hj => by
      have := hl (j + 1) (by simp; omega)
      simp only [List.getElem_cons_succ] at this
      rw [show k + 1 + j = k + (j + 1) by omega]
      exact this
    have hpush : ∀ (v : Int32) (b : Bool), ts.length < 60 → tyL l (b :: ts) = some r → ∃ g', f_X12_reckons_105 n 136 (nI w) (nI (st.length + 1)) (nI (k + 1)) (sI g 141 st.length v) = some (gI g' 141 0, g') ∧ Fi [141] g g' ∧ stk (gI g' 141) (evL ws l (v :: st)) ∧ (evL ws l (v :: st)).length = r.length := fun v b hb hty' => by
      obtain ⟨g', q1, q2, q3, q4⟩ := ih (k + 1) (v :: st) (b :: ts) r n (sI g 141 st.length v) h.si (by rw [gI_sIn (by decide)]; exact hA) (fun j hj => by rw [gI_sIn (by decide)]; exact hws j hj) (by omega) hl' hty' (by simp [hlen]) (by simp; omega) ⟨by rw [gI_sIs]; exact pk_us, by rw [gI_sIs]; exact stk_upd (Nat.le_refl _) hst⟩ (by omega)
      exact ⟨g', q1, (Fi.rf.si (by simp)).tr q2, q3, q4⟩
    rw [f_X12_reckons_105]
    simp only [↓gk136 h, ↓gk137 h, sn137 h, ↓gk138 h, sn138 h, ↓gk139 h, sn139 h, ↓gk140 h, sn140 h, ↓gk141 h, sn141 h, ↓gk142 h, sn142 h, ↓gk143 h, sn143 h, ↓gk144 h, sn144 h, ↓gk145 h, sn145 h, ↓gk146 h, sn146 h, ↓gk147 h, sn147 h, ↓gk148 h, sn148 h, ↓gk149 h, sn149 h, ↓gk150 h, sn150 h, ↓gk151 h, sn151 h, ↓gk152 h, sn152 h, ↓gk153 h, sn153 h, ↓gk154 h, sn154 h, ↓md136_1 h, ↓md136_2 h, ↓md136_3 h, ↓md136_4 h, ↓md136_15 h, ↓md136_16 h, ↓md136_19 h, ↓md136_23 h, ↓md136_24 h, ↓md136_25 h, ↓md136_26 h, ↓md136_27 h, ↓md136_28 h, ↓md136_29 h, ↓md136_30 h, ↓md136_33 h, ↓md136_34 h, ↓md136_35 h, ↓dr_sI, ↓dr_sL, ↓gdK_sI, ↓gdK_sL, gR_sI, gN_sI, gn_sI, gL_sI, gI_sIs, gI_sIn, gR_sL, gN_sL, gn_sL, gI_sL, gL_sLs, gL_sLn, ↓dr_eq, bd_eq, ↓lg, ↓li, ↓ll, ↓ln, lI, nI_clamp, gdI_nI, Nat.reducePow, Nat.reduceLT, Nat.reduceLeDiff, Nat.reduceEqDiff, reduceIte, if_true, if_false, hA]
    simp (disch := first | assumption | ((fail_if_success show Sh _); omega)) only [lI, nI_add, pk_mul, pk_sub, nI_sub0, nI_mod, pk_div, nI_clamp, nI_eq, nI_leI, nI_ltI, gdI_nI, gdZ_nI, b2i_z, decide_eq_false_iff_not, Bool.not_eq_false, decide_eq_true_eq, ifLt, ifNlt, ifLe, ifNle, ifEq, ifNe, ifnLe, ifnNle, nIm1, m1nI, nI_z, z_nI, Nat.reduceLT, Nat.reduceLeDiff, Nat.reduceEqDiff, Nat.reduceAdd, Nat.reduceMul, Nat.reduceSub, Nat.reduceDiv, Nat.reduceMod, if_true, if_false, reduceIte, sn137 h, sn141 h, sn142 h, h8, h6, Nat.add_assoc, c1]
    simp only [c1, f_X12_reckons_251, f_X12_reckons_180, ↓gk136 h, ↓gk137 h, sn137 h, ↓gk138 h, sn138 h, ↓gk139 h, sn139 h, ↓gk140 h, sn140 h, ↓gk141 h, sn141 h, ↓gk142 h, sn142 h, ↓gk143 h, sn143 h, ↓gk144 h, sn144 h, ↓gk145 h, sn145 h, ↓gk146 h, sn146 h, ↓gk147 h, sn147 h, ↓gk148 h, sn148 h, ↓gk149 h, sn149 h, ↓gk150 h, sn150 h, ↓gk151 h, sn151 h, ↓gk152 h, sn152 h, ↓gk153 h, sn153 h, ↓gk154 h, sn154 h, ↓md136_1 h, ↓md136_2 h, ↓md136_3 h, ↓md136_4 h, ↓md136_15 h, ↓md136_16 h, ↓md136_19 h, ↓md136_23 h, ↓md136_24 h, ↓md136_25 h, ↓md136_26 h, ↓md136_27 h, ↓md136_28 h, ↓md136_29 h, ↓md136_30 h, ↓md136_33 h, ↓md136_34 h, ↓md136_35 h, ↓dr_sI, ↓dr_sL, ↓gdK_sI, ↓gdK_sL, gR_sI, gN_sI, gn_sI, gL_sI, gI_sIs, gI_sIn, gR_sL, gN_sL, gn_sL, gI_sL, gL_sLs, gL_sLn, ↓dr_eq, bd_eq, ↓lg, ↓li, ↓ll, ↓ln, lI, nI_clamp, gdI_nI, Nat.reducePow, Nat.reduceLT, Nat.reduceLeDiff, Nat.reduceEqDiff, reduceIte, if_true, if_false]
    clear c1 hl
    rw [tyL_cons] at hty
    simp only [evL_cons]
    by_cases q1 : c < 3000
    · rw [if_pos q1] at hty ⊢
      rw [if_neg (by omega : ¬ 3000 ≤ c)]
      split at hty
      · next q2 =>
        by_cases q3 : c < 1000
        · rw [if_neg (by omega : ¬ 1000 ≤ c), if_pos q3]
          simp (disch := first | assumption | ((fail_if_success show Sh _); omega)) only [lI, nI_add, pk_mul, pk_sub, nI_sub0, nI_mod, pk_div, nI_clamp, nI_eq, nI_leI, nI_ltI, gdI_nI, gdZ_nI, b2i_z, decide_eq_false_iff_not, Bool.not_eq_false, decide_eq_true_eq, ifLt, ifNlt, ifLe, ifNle, ifEq, ifNe, ifnLe, ifnNle, nIm1, m1nI, nI_z, z_nI, Nat.reduceLT, Nat.reduceLeDiff, Nat.reduceEqDiff, Nat.reduceAdd, Nat.reduceMul, Nat.reduceSub, Nat.reduceDiv, Nat.reduceMod, if_true, if_false, reduceIte]
          exact hpush (nI c) false q2.2 hty
        · rw [if_pos (by omega : 1000 ≤ c), if_neg q3]
          simp (disch := first | assumption | ((fail_if_success show Sh _); omega)) only [lI, nI_add, pk_mul, pk_sub, nI_sub0, nI_mod, pk_div, nI_clamp, nI_eq, nI_leI, nI_ltI, gdI_nI, gdZ_nI, b2i_z, decide_eq_false_iff_not, Bool.not_eq_false, decide_eq_true_eq, ifLt, ifNlt, ifLe, ifNle, ifEq, ifNe, ifnLe, ifnNle, nIm1, m1nI, nI_z, z_nI, Nat.reduceLT, Nat.reduceLeDiff, Nat.reduceEqDiff, Nat.reduceAdd, Nat.reduceMul, Nat.reduceSub, Nat.reduceDiv, Nat.reduceMod, if_true, if_false, reduceIte]
          rw [hws (c - 1000) (by omega)]
          exact hpush (ws (c - 1000)) false q2.2 hty
      · cases hty
    · rw [if_neg q1] at hty ⊢
      rw [if_pos (by omega : 3000 ≤ c)]
      by_cases q2 : c = 3006
      · subst q2
        rw [if_pos rfl] at hty ⊢
        rw [if_pos rfl]
        cases ts with
        | nil => cases hty
        | cons b ts =>
        cases b with
        | false => cases hty
        | true =>
        cases st with
        | nil => simp at hlen
        | cons x st =>
        simp only [List.length_cons] at hlen h60 hst ⊢
        obtain ⟨hs1, hs2⟩ := hst
        simp (disch := first | assumption | ((fail_if_success show Sh _); omega)) only [lI, nI_add, pk_mul, pk_sub, nI_sub0, nI_mod, pk_div, nI_clamp, nI_eq, nI_leI, nI_ltI, gdI_nI, gdZ_nI, b2i_z, decide_eq_false_iff_not, Bool.not_eq_false, decide_eq_true_eq, ifLt, ifNlt, ifLe, ifNle, ifEq, ifNe, ifnLe, ifnNle, nIm1, m1nI, nI_z, z_nI, Nat.reduceLT, Nat.reduceLeDiff, Nat.reduceEqDiff, Nat.reduceAdd, Nat.reduceMul, Nat.reduceSub, Nat.reduceDiv, Nat.reduceMod, if_true, if_false, reduceIte, sn141 h, Nat.add_sub_cancel, hs1]
        obtain ⟨g', q1, q2, q3, q4⟩ := ih (k + 1) ((1 - x) :: st) (true :: ts) r n (sI g 141 st.length (nI 1 - x)) h.si (by rw [gI_sIn (by decide)]; exact hA) (fun j hj => by rw [gI_sIn (by decide)]; exact hws j hj) (by omega) hl' hty (by simp; omega) (by simp; omega) ⟨by rw [gI_sIs]; exact pk_us, by rw [gI_sIs]; exact stk_upd (Nat.le_refl _) hs2⟩ (by omega)
        exact ⟨g', q1, (Fi.rf.si (by simp)).tr q2, q3, q4⟩
      · rw [if_neg q2] at hty ⊢
        rw [if_neg q2]
        have hb : ∃ b, tyL l (b :: ts.drop 2) = some r ∧ 2 ≤ ts.length ∧ c < 3009 := by
          repeat' split at hty
          all_goals first
            | (cases hty; done)
            | exact ⟨_, hty, by simp, by omega⟩
        obtain ⟨b, hb1, hb2, hb3⟩ := hb
        cases st with
        | nil => simp at hlen; omega
        | cons y st =>
        cases st with
        | nil => simp at hlen; omega
        | cons x st =>
        simp only [List.length_cons] at hlen h60 hst ⊢
        have i1 : nI (st.length + 1 + 1) + -nI 1 = nI (st.length + 1) := nI_m1' (by omega)
        have i2 : nI (st.length + 1) - nI 1 = nI st.length := nI_sub0 _ _
        obtain ⟨hs1, hs2, hs3⟩ := hst
        simp only [List.length_cons] at hs1
        simp (disch := first | assumption | ((fail_if_success show Sh _); omega)) only [i1, i2, lI, nI_add, pk_mul, pk_sub, nI_sub0, nI_mod, pk_div, nI_clamp, nI_eq, nI_leI, nI_ltI, gdI_nI, gdZ_nI, b2i_z, decide_eq_false_iff_not, Bool.not_eq_false, decide_eq_true_eq, ifLt, ifNlt, ifLe, ifNle, ifEq, ifNe, ifnLe, ifnNle, nIm1, m1nI, nI_z, z_nI, Nat.reduceLT, Nat.reduceLeDiff, Nat.reduceEqDiff, Nat.reduceAdd, Nat.reduceMul, Nat.reduceSub, Nat.reduceDiv, Nat.reduceMod, if_true, if_false, reduceIte, hs1, hs2]
        rw [r_between (by omega) hb3 q2, bd_eq]
        simp (disch := first | assumption | ((fail_if_success show Sh _); omega)) only [lI, nI_add, pk_mul, pk_sub, nI_sub0, nI_mod, pk_div, nI_clamp, nI_eq, nI_leI, nI_ltI, gdI_nI, gdZ_nI, b2i_z, decide_eq_false_iff_not, Bool.not_eq_false, decide_eq_true_eq, ifLt, ifNlt, ifLe, ifNle, ifEq, ifNe, ifnLe, ifnNle, nIm1, m1nI, nI_z, z_nI, Nat.reduceLT, Nat.reduceLeDiff, Nat.reduceEqDiff, Nat.reduceAdd, Nat.reduceMul, Nat.reduceSub, Nat.reduceDiv, Nat.reduceMod, if_true, if_false, reduceIte, sn141 h]
        obtain ⟨g', q1, q2, q3, q4⟩ := ih (k + 1) (evOp c x y :: st) (b :: ts.drop 2) r n (sI g 141 st.length (evOp c x y)) h.si (by rw [gI_sIn (by decide)]; exact hA) (fun j hj => by rw [gI_sIn (by decide)]; exact hws j hj) (by omega) hl' hb1 (by simp; omega) (by simp; omega) ⟨by rw [gI_sIs]; exact pk_us, by rw [gI_sIs]; exact stk_upd (Nat.le_refl _) hs3⟩ (by omega)
        exact ⟨g', q1, (Fi.rf.si (by simp)).tr q2, q3, q4⟩
end LAW
