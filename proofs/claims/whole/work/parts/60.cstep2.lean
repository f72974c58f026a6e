/-! THE CLASS'S STEP: where the other one is drawn, the step, what it costs. -/
section ST2
def PF (A : Nat → Int32) (F : Nat → Bool) (p c b far d : Nat) : Bool := decide (d < cS A) && F d && decide (apS (nv A 2) c d = sp A p) && decide (apS (nv A 2) b d = far)
variable {X : Nat → Prop} {A : Nat → Int32} {F : Nat → Bool} {p m ag : Nat} {g g' : G}
theorem PF_lt {c b far d : Nat} (h : PF A F p c b far d = true) : d < cS A ∧ F d = true ∧ apS (nv A 2) c d = sp A p ∧ apS (nv A 2) b d = far := by
  simp only [PF, Bool.and_eq_true, decide_eq_true_eq] at h
  exact ⟨h.1.1.1, h.1.1.2, h.1.2, h.2⟩
theorem PF_of {c b far d : Nat} (h1 : d < cS A) (h2 : F d = true) (h3 : apS (nv A 2) c d = sp A p) (h4 : apS (nv A 2) b d = far) : PF A F p c b far d = true := by
  simp [PF, h1, h2, h3, h4]
theorem c_dr72 (hE : EV X A p) {t b c far : Nat} (ht : t < 2) (hb : b < cS A) {k32 : Nat → Int32 → Int32 → Int64 → Int32 → G → Option (Int32 × G)} {l4 : Int64} {l6 : Int32} : ∀ n k l9 (y : Int64) g, SP X A F p m ag g → (∀ d, d < 64 → bt y d = (decide (k ≤ d) && PF A F p c b far d)) → l9 ≤ k → k ≤ 64 → 64 < n + k → (∃ d g', f_X9_drawnTo_72 k32 n 68 (nI t) (nI b) l4 l6 y (nI l9) g = some (nI d, g') ∧ Fi [69, 71, 72, 75] g g' ∧ SP X A F p m ag g' ∧ PF A F p c b far d = true ∧ may A p m t b d = true ∧ ∀ d', k ≤ d' → d' < d → PF A F p c b far d' = true → may A p m t b d' = false) ∨ (∃ g', f_X9_drawnTo_72 k32 n 68 (nI t) (nI b) l4 l6 y (nI l9) g = k32 68 (nI t) (nI b) l4 (l6 + 1) g' ∧ Fi [69, 71, 72, 75] g g' ∧ SP X A F p m ag g' ∧ ∀ d', k ≤ d' → PF A F p c b far d' = true → may A p m t b d' = false) := by
  have cl := cS_le hE.2.1
  intro n
  induction n with
  | zero => intro k l9 y g _ _ _ _ h; omega
  | succ n ih =>
    intro k l9 y g h hy hl hk hn
    rw [f_X9_drawnTo_72]
    rcases Nat.lt_or_ge l9 36 with q | q
    · rw [if_neg (lnge36 q), i0l]
      by_cases y0 : y = 0
      · rw [if_pos y0]
        refine Or.inr ⟨g, rfl, Fi.rf, h, fun d' k1 hp => ?_⟩
        have h1 := PF_lt hp
        have := hy d' (by omega)
        rw [y0, bt_0, hp, decide_eq_true k1] at this
        cases this
      · obtain ⟨j, j1, j2, j3⟩ := low_ex y0
        have hj := hy j j1
        rw [j2] at hj
        have hj' := hj.symm
        simp only [Bool.and_eq_true, decide_eq_true_eq] at hj'
        have pj := PF_lt hj'.2
        obtain ⟨g1, e1, e2, e3⟩ := c_mayGo h hE ht hb pj.1
        rw [if_neg y0, low_ix j1 j2 j3, bd_eq, e1, bd_eq]
        have low : ∀ d', k ≤ d' → d' < j → PF A F p c b far d' = true → False := fun d' a1 a2 a3 => by
          have := hy d' (by omega)
          rw [j3 d' a2, a3, decide_eq_true a1] at this
          cases this
        by_cases hm : may A p m t b j = true
        · rw [hm, ibT]
          exact Or.inl ⟨j, g1, rfl, e2, e3, hj'.2, hm, fun d' a1 a2 a3 => (low d' a1 a2 a3).elim⟩
        · have hm' : may A p m t b j = false := by simpa using hm
          rw [hm', ibF, ll, lad1]
          have r := ih (j + 1) (l9 + 1) _ g1 e3 (fun d hd => by
            rw [low_nx j1 j2 j3 hd, hy d hd]
            by_cases a : j < d
            · rw [decide_eq_true a, decide_eq_true (show j + 1 ≤ d by omega), decide_eq_true (show k ≤ d by omega)]
              simp
            · rw [decide_eq_false a, decide_eq_false (show ¬ j + 1 ≤ d by omega)]
              simp) (by omega) (by omega) (by omega)
          rcases r with ⟨d, g2, r1, r2, r3, r4, r5, r6⟩ | ⟨g2, r1, r2, r3, r4⟩
          · refine Or.inl ⟨d, g2, r1, e2.tr r2, r3, r4, r5, fun d' a1 a2 a3 => ?_⟩
            rcases Nat.lt_trichotomy d' j with b1 | b1 | b1
            · exact (low d' a1 b1 a3).elim
            · rw [b1]; exact hm'
            · exact r6 d' b1 a2 a3
          · refine Or.inr ⟨g2, r1, e2.tr r2, r3, fun d' a1 a3 => ?_⟩
            rcases Nat.lt_trichotomy d' j with b1 | b1 | b1
            · exact (low d' a1 b1 a3).elim
            · rw [b1]; exact hm'
            · exact r4 d' b1 a3
    · rw [if_pos (lle36 q (by omega))]
      refine Or.inr ⟨g, rfl, Fi.rf, h, fun d' k1 hp => ?_⟩
      have := (PF_lt hp).1
      omega
theorem c_dr32 (hE : EV X A p) {t b c : Nat} (ht : t < 2) (hb : b < cS A) : ∀ n far (y : Int64) g, SP X A F p m ag g → 1 ≤ far → far ≤ 11 → 11 < n + far → (∀ d, d < 64 → bt y d = (decide (d < cS A) && F d && decide (apS (nv A 2) c d = sp A p) && decide (far ≤ apS (nv A 2) b d))) → (∀ d, d < cS A → F d = true → apS (nv A 2) c d = sp A p → apS (nv A 2) b d < far → may A p m t b d = false) → ∃ g', f_X9_drawnTo_32 n 68 (nI t) (nI b) y (nI far) g = some (oI (bst (fun d => F d && decide (apS (nv A 2) c d = sp A p) && may A p m t b d) (apS (nv A 2) b) (cS A)), g') ∧ Fi [69, 71, 72, 75] g g' ∧ SP X A F p m ag g' := by
  have cl := cS_le hE.2.1
  intro n
  induction n with
  | zero => intro far y g _ _ _ h; omega
  | succ n ih =>
    intro far y g h f1 f2 hn hy hno
    rw [f_X9_drawnTo_32]
    rcases Nat.lt_or_ge 10 far with q | q
    · rw [if_pos (lgt10 q (by omega)), bst_nil (fun d hd => ?_)]
      · exact ⟨g, rfl, Fi.rf, h⟩
      · have := apS_10 hE.2.1 hb hd
        cases hF : F d with
        | false => simp
        | true =>
          by_cases hc : apS (nv A 2) c d = sp A p
          · rw [hno d hd hF hc (by omega)]
            simp
          · rw [decide_eq_false hc]
            simp
    · rw [if_neg (lngt10 q), i0l]
      by_cases y0 : y = 0
      · rw [if_pos y0, bst_nil (fun d hd => ?_)]
        · exact ⟨g, rfl, Fi.rf, h⟩
        · cases hF : F d with
          | false => simp
          | true =>
            by_cases hc : apS (nv A 2) c d = sp A p
            · rcases Nat.lt_or_ge (apS (nv A 2) b d) far with a | a
              · rw [hno d hd hF hc a]
                simp
              · have := hy d (by omega)
                rw [y0, bt_0, decide_eq_true hd, hF, decide_eq_true hc, decide_eq_true a] at this
                cases this
            · rw [decide_eq_false hc]
              simp
      · rw [if_neg y0, c_ring h.1.1 q (show b < 36 by omega), bd_eq, ll, ll]
        have hr : ∀ d, d < 64 → bt (gL g 70 (far * 36 + b)) d = decide (d < cS A ∧ apS (nv A 2) b d = far) := fun d hd => by
          rw [h.1.2.2.2.2.2.2 far b d q (by omega) hd, decide_eq_decide]
          exact ⟨fun z => z.2, fun z => ⟨hb, z⟩⟩
        have hlike : ∀ d, d < 64 → bt (gL g 70 (far * 36 + b) &&& y) d = (decide (0 ≤ d) && PF A F p c b far d) := fun d hd => by
          rw [bt_and, hr d hd, hy d hd, Bool.eq_iff_iff]
          simp only [PF, Bool.and_eq_true, decide_eq_true_eq]
          constructor
          · rintro ⟨⟨a1, a2⟩, ⟨⟨a3, a4⟩, a5⟩, a6⟩
            exact ⟨Nat.zero_le _, ⟨⟨a1, a4⟩, a5⟩, a2⟩
          · rintro ⟨-, ⟨⟨a1, a4⟩, a5⟩, a2⟩
            exact ⟨⟨a1, a2⟩, ⟨⟨a1, a4⟩, a5⟩, Nat.le_of_eq a2.symm⟩
        have r := c_dr72 (m := m) hE ht hb (k32 := f_X9_drawnTo_32 n) (l4 := y &&& ((gL g 70 (far * 36 + b) &&& y) ^^^ (-1 : Int64))) (l6 := nI far) FU 0 0 _ g h hlike (Nat.le_refl _) (by decide) (by have := @FU_gt 64 (by decide); omega)
        rcases r with ⟨d, g2, r1, r2, r3, r4, r5, r6⟩ | ⟨g2, r1, r2, r3, r4⟩
        · have pd := PF_lt r4
          refine ⟨g2, ?_, r2, r3⟩
          rw [bst_uniq (b := d) pd.1 (by simp [pd.2.1, pd.2.2.1, r5]) (fun d' h1 h2 => ?_)]
          · exact r1
          · simp only [Bool.and_eq_true, decide_eq_true_eq] at h2
            rcases Nat.lt_trichotomy (apS (nv A 2) b d') far with a | a | a
            · rw [hno d' h1 h2.1.1 h2.1.2 a] at h2
              cases h2.2
            · right
              refine ⟨pd.2.2.2.trans a.symm, Nat.not_lt.mp (fun z => ?_)⟩
              rw [r6 d' (Nat.zero_le _) z (PF_of h1 h2.1.1 h2.1.2 a)] at h2
              cases h2.2
            · left
              rw [pd.2.2.2]
              exact a
        · obtain ⟨g3, s1, s2, s3⟩ := ih (far + 1) (y &&& ((gL g 70 (far * 36 + b) &&& y) ^^^ (-1 : Int64))) g2 r3 (by omega) (by omega) (by omega) (fun d hd => by
            rw [bt_and, bt_not hd, bt_and, hr d hd, hy d hd, Bool.eq_iff_iff]
            simp only [Bool.and_eq_true, Bool.not_eq_true', Bool.and_eq_false_imp, decide_eq_true_eq]
            constructor
            · rintro ⟨⟨⟨⟨a1, a2⟩, a3⟩, a4⟩, a5⟩
              refine ⟨⟨⟨a1, a2⟩, a3⟩, ?_⟩
              rcases Nat.eq_or_lt_of_le a4 with z | z
              · have := a5 ⟨a1, z.symm⟩
                rw [a2] at this
                simp [a1, a3, a4] at this
              · exact z
            · rintro ⟨⟨⟨a1, a2⟩, a3⟩, a4⟩
              refine ⟨⟨⟨⟨a1, a2⟩, a3⟩, by omega⟩, fun z => ?_⟩
              omega) (fun d h1 h2 h3 h4 => by
            rcases Nat.lt_or_ge (apS (nv A 2) b d) far with a | a
            · exact hno d h1 h2 h3 a
            · exact r4 d (Nat.zero_le _) (PF_of h1 h2 h3 (by omega)))
          refine ⟨g3, ?_, r2.tr s2, s3⟩
          rw [show (0 : Int32) = nI 0 from rfl, r1, lad1]
          exact s1
theorem c_drawnTo (h : SP X A F p m ag g) (hE : EV X A p) {t b c : Nat} (ht : t < 2) (hb : b < cS A) (hc : c < cS A) : ∃ g', f_X9_drawnTo 68 (nI t) (nI b) (nI c) g = some (oI (dwS A F p m t b c), g') ∧ Fi [69, 71, 72, 75] g g' ∧ SP X A F p m ag g' := by
  have cl := cS_le hE.2.1
  have s10 := sp_10 hE.2.1 hE.2.2.1 hE.2.2.2.2
  rw [f_X9_drawnTo, h.1.2.2.2.1, c_ring h.1.1 s10 (show c < 36 by omega), bd_eq, ll, ibt (show b < 64 by omega)]
  have hr : ∀ d, d < 64 → bt (gL g 70 (sp A p * 36 + c) &&& gL g 68 0) d = (decide (d < cS A) && F d && decide (apS (nv A 2) c d = sp A p)) := fun d hd => by
    rw [bt_and, h.1.2.2.2.2.2.2 _ c d s10 (by omega) hd, h.1.2.2.1 d hd, Bool.eq_iff_iff]
    simp only [Bool.and_eq_true, decide_eq_true_eq]
    constructor
    · rintro ⟨⟨-, a1, a2⟩, a3, a4⟩
      exact ⟨⟨a3, a4⟩, a2⟩
    · rintro ⟨⟨a3, a4⟩, a2⟩
      exact ⟨⟨hc, a3, a2⟩, a3, a4⟩
  unfold dwS
  by_cases hbb : F b = true ∧ apS (nv A 2) c b = sp A p
  · rw [hr b (by omega), if_pos hbb, if_pos (by simp [hb, hbb.1, hbb.2])]
    exact ⟨g, rfl, Fi.rf, h⟩
  · rw [hr b (by omega), if_neg hbb, if_neg (fun z => by
      simp only [Bool.and_eq_true, decide_eq_true_eq] at z
      exact hbb ⟨z.1.2, z.2⟩)]
    refine c_dr32 hE ht hb FU 1 _ g h (by decide) (by decide) (by have := @FU_gt 64 (by decide); omega) (fun d hd => ?_) (fun d h1 h2 h3 h4 => ?_)
    · rw [hr d hd, Bool.eq_iff_iff]
      simp only [Bool.and_eq_true, decide_eq_true_eq]
      constructor
      · rintro ⟨⟨a1, a2⟩, a3⟩
        refine ⟨⟨⟨a1, a2⟩, a3⟩, Nat.one_le_iff_ne_zero.mpr (fun z => ?_)⟩
        rw [← apS_0 z] at a2 a3
        exact hbb ⟨a2, a3⟩
      · exact fun z => z.1
    · have z : apS (nv A 2) b d = 0 := by omega
      rw [← apS_0 z] at h2 h3
      exact absurd ⟨h2, h3⟩ hbb
/-- what a step answers: both cells, packed, or why not -/
def rC (t : Nat) (r : Nat × Nat × Nat) : Int32 := if r.1 = 0 then (if t = 0 then nI (64 * r.2.1 + r.2.2) else nI (64 * r.2.2 + r.2.1)) else -(nI r.1)
def ow (t a b : Nat) : Nat := if t = 0 then a else b
theorem pk_pack {a b : Nat} (hb : b < 64) : (64 * a + b) / 64 = a ∧ (64 * a + b) % 64 = b := by omega
theorem c_st32 (h : SP X A F p m ag g) (hE : EV X A p) {t a b w : Nat} (ht : t < 2) (ha : a < cS A) (hb : b < cS A) (hw : w < 4) : ∃ g', f_X9_step_32 68 (nI t) (nI w) (nI a) (nI b) g = some (rC t (stS A F p m t a b w), g') ∧ Fi [69, 71, 72, 75] g g' ∧ SP X A F p m ag g' := by
  have cl := cS_le hE.2.1
  obtain ⟨q, q1, q2⟩ := h.1.2.1
  rw [f_X9_step_32, q1, dr_eq, gdK_pos q2.2.1, c_beside q2 hE.2.1 ha hw, bd_eq]
  cases hc : besS (nv A 1) (nv A 2) a w with
  | none =>
    have e : stS A F p m t a b w = (2, 0, 0) := by
      unfold stS
      rw [hc]
    rw [ioN, e]
    exact ⟨g, rfl, Fi.rf, h⟩
  | some c =>
    have hcl : c < cS A := besS_lt hE.2.1.2.2.2.2.1 ha hc
    rw [ioS (by omega), show oI (some c) = nI c from rfl, ibt (show c < 64 by omega), h.1.2.2.1 c (by omega), decide_eq_true hcl, Bool.true_and]
    by_cases hF : F c = true
    · rw [if_pos hF]
      obtain ⟨g1, e1, e2, e3⟩ := c_mayGo h hE ht ha hcl
      rw [e1, bd_eq]
      by_cases hm : may A p m t a c = true
      · rw [hm, ibT, nI_sub1 ht]
        obtain ⟨g2, d1, d2, d3⟩ := c_drawnTo e3 hE (show 1 - t < 2 by omega) hb hcl
        rw [d1, bd_eq]
        cases hd : dwS A F p m (1 - t) b c with
        | none =>
          have e : stS A F p m t a b w = (4, 0, 0) := by
            unfold stS
            rw [hc]
            simp only [hF, hm, hd, if_true]
          rw [ioN, e]
          exact ⟨g2, rfl, e2.tr d2, d3⟩
        | some d =>
          have hdl := dwS_ok hb hd
          have e : stS A F p m t a b w = (0, c, d) := by
            unfold stS
            rw [hc]
            simp only [hF, hm, hd, if_true]
          rw [ioS (by omega), e, show oI (some d) = nI d from rfl, lmu64, nI_add, lmu64, nI_add]
          refine ⟨g2, ?_, e2.tr d2, d3⟩
          obtain rfl | rfl : t = 0 ∨ t = 1 := by omega
          · rw [if_pos (show nI 0 = 0 from rfl), Nat.mul_comm c 64]
            rfl
          · rw [if_neg (by decide), Nat.mul_comm d 64]
            rfl
      · have e : stS A F p m t a b w = (3, 0, 0) := by
          unfold stS
          rw [hc]
          simp only [hF, if_true, if_neg hm]
        have hm' : may A p m t a c = false := by simpa using hm
        rw [hm', ibF, e]
        exact ⟨g1, rfl, e2, e3⟩
    · have e : stS A F p m t a b w = (2, 0, 0) := by
        unfold stS
        rw [hc]
        simp only [if_neg hF]
      rw [if_neg hF, e]
      exact ⟨g, rfl, Fi.rf, h⟩
theorem c_step (h : SP X A F p m ag g) (hE : EV X A p) {t a b w : Nat} (ht : t < 2) (ha : a < cS A) (hb : b < cS A) (hw : w < 4) : ∃ g', f_X9_step 68 (nI (64 * a + b)) (nI t) (nI w) g = some (rC t (stS A F p m t (ow t a b) (ow t b a) w), g') ∧ Fi [69, 71, 72, 75] g g' ∧ SP X A F p m ag g' := by
  have cl := cS_le hE.2.1
  obtain ⟨p1, p2⟩ := @pk_pack a b (by omega)
  rw [f_X9_step, f_X9_step_15, f_X9_step_15, ldi64 (by omega), lmo64, p1, p2]
  obtain rfl | rfl : t = 0 ∨ t = 1 := by omega
  · rw [if_pos (show nI 0 = 0 from rfl), if_pos (show nI 0 = 0 from rfl)]
    exact c_st32 h hE ht ha hb hw
  · rw [if_neg (by decide), if_neg (by decide)]
    exact c_st32 h hE ht hb ha hw
theorem SP.fi (h : SP X A F p m ag g) (hX : XO X) {S : List Nat} (x : Fi S g g') (hS : S.all (fun a => decide (a < 42 ∨ (46 < a ∧ a < 68) ∨ (75 < a ∧ a < 155))) = true) : SP X A F p m ag g' := by
  have no : ∀ k, 68 ≤ k → k ≤ 75 → k ∉ S := fun k k1 k2 z => by
    have := of_decide_eq_true (List.all_eq_true.mp hS k z)
    omega
  refine ⟨h.1.fi hX x ?_ (no _ (by decide) (by decide)) (no _ (by decide) (by decide)) (by rw [x.I (no _ (by decide) (by decide))]) (by rw [x.I (no _ (by decide) (by decide))]), h.2.fi x (no _ (by decide) (by decide)) (no _ (by decide) (by decide)) (no _ (by decide) (by decide)) (no _ (by decide) (by decide)) (no _ (by decide) (by decide))⟩
  rw [List.all_eq_true]
  intro a ha
  have := of_decide_eq_true (List.all_eq_true.mp hS a ha)
  exact decide_eq_true (by omega)
theorem c_costOf (h : SP X A F p m ag g) (hE : EV X A p) {a b c d : Nat} (ha : a < cS A) (hb : b < cS A) (hc : c < cS A) (hd : d < cS A) : ∃ g', f_X9_costOf 68 (nI (64 * a + b)) (nI (64 * c + d)) g = some (nI (cst A p m 0 a c + cst A p m 1 b d), g') ∧ Fi [69, 73, 74, 75] g g' ∧ SP X A F p m ag g' := by
  have cl := cS_le hE.2.1
  obtain ⟨p1, p2⟩ := @pk_pack a b (by omega)
  obtain ⟨p3, p4⟩ := @pk_pack c d (by omega)
  have c0 : ∀ t x, cst A p m t x x = 0 := fun t x => if_pos rfl
  have second : ∀ (k : Nat) g1, SP X A F p m ag g1 → ∃ g', f_X9_costOf_29 68 (nI (64 * a + b)) (nI (64 * c + d)) (nI k) g1 = some (nI (k + cst A p m 1 b d), g') ∧ Fi [69, 73, 74, 75] g1 g' ∧ SP X A F p m ag g' := fun k g1 h1 => by
    rw [f_X9_costOf_29, ldi64 (by omega), ldi64 (by omega), lmo64, lmo64, p2, p4]
    by_cases e : b = d
    · subst e
      rw [if_pos rfl, c0]
      exact ⟨g1, rfl, Fi.rf, h1⟩
    · rw [if_neg (fun z => e ((nI_eq (by omega) (by omega)).mp z))]
      obtain ⟨g2, e1, e2, e3⟩ := c_costGo h1 hE (t := 1) (by decide) hb hd e
      rw [show (1 : Int32) = nI 1 from rfl, e1, bd_eq, li, nI_add]
      exact ⟨g2, rfl, e2, e3⟩
  rw [f_X9_costOf, ldi64 (by omega), ldi64 (by omega), p1, p3]
  by_cases e : a = c
  · subst e
    rw [if_pos rfl, c0]
    exact second 0 g h
  · rw [if_neg (fun z => e ((nI_eq (by omega) (by omega)).mp z))]
    obtain ⟨g1, e1, e2, e3⟩ := c_costGo h hE (t := 0) (by decide) ha hc e
    obtain ⟨g2, d1, d2, d3⟩ := second (0 + cst A p m 0 a c) g1 e3
    rw [show (0 : Int32) = nI 0 from rfl, e1, bd_eq, li, nI_add, d1, Nat.zero_add]
    exact ⟨g2, rfl, e2.tr d2, d3⟩
end ST2
