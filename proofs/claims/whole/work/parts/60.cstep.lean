/-! THE CLASS'S STEPPER: rings, laws with their memory, the step. -/
def XO (X : Nat → Prop) : Prop := ∀ a, X a → (42 ≤ a ∧ a ≤ 46) ∨ 155 ≤ a
theorem XO.no {X : Nat → Prop} (h : XO X) {S : List Nat} (hS : S.all (fun a => decide (a < 42 ∨ (46 < a ∧ a < 155))) = true) : ∀ a ∈ S, ¬ X a := fun a ha z => by
  have h1 := h a z
  have h2 := of_decide_eq_true (List.all_eq_true.mp hS a ha)
  omega
theorem XO.ne {X : Nat → Prop} (h : XO X) {a b : Nat} (ha : X a) (hb : b < 42 ∨ (46 < b ∧ b < 155)) : a ≠ b := fun e => by
  have := h a ha
  omega
theorem dif_le {a b m : Nat} (ha : a ≤ m) (hb : b ≤ m) : dif a b ≤ m := by
  unfold dif
  omega
theorem apS_10 {A : Nat → Int32} (hA : Dm A) {a c : Nat} (ha : a < cS A) (hc : c < cS A) : apS (nv A 2) a c ≤ 10 := by
  obtain ⟨-, r0, r6, -, w0, w6, -⟩ := hA
  have d1 : ∀ x, x < cS A → x / nv A 2 ≤ 5 := fun x hx => by
    have : x / nv A 2 < nv A 1 := by
      rw [Nat.div_lt_iff_lt_mul w0]
      exact hx
    omega
  have d2 : ∀ x, x % nv A 2 ≤ 5 := fun x => by
    have := Nat.mod_lt x w0
    omega
  have h1 := dif_le (d1 a ha) (d1 c hc)
  have h2 := dif_le (d2 a) (d2 c)
  unfold apS
  omega
theorem apS_self (W a : Nat) : apS W a a = 0 := by
  unfold apS dif
  omega
theorem apS_comm (W a c : Nat) : apS W a c = apS W c a := by
  unfold apS dif
  omega
theorem apS_0 {W a c : Nat} (h : apS W a c = 0) : a = c := by
  unfold apS dif at h
  have e1 : a / W = c / W := by omega
  have e2 : a % W = c % W := by omega
  have h1 := Nat.div_add_mod a W
  have h2 := Nat.div_add_mod c W
  rw [e1, e2] at h1
  omega
theorem sp_10 {A : Nat → Int32} (hA : Dm A) (hB : VB A (bo A)) {p : Nat} (hp : p < nv A 3) : sp A p ≤ 10 := apS_10 hA (hB.t (i := 2 * p) (by omega)).2.1 (hB.t (i := 2 * p + 1) (by omega)).2.1
def cstL (A : Nat → Int32) (p m t a c : Nat) : Nat := if lawT A 1 p m t a c < nI 0 then 0 else if nI 99 < lawT A 1 p m t a c then 99 else (lawT A 1 p m t a c).toNatClampNeg
def mp (t a c : Nat) : Nat := (t * 36 + a) * 36 + c
theorem mp_lt {t a c : Nat} (ht : t < 2) (ha : a < 36) (hc : c < 36) : mp t a c < 2592 := by
  unfold mp
  omega
theorem mp_inj {t a c t' a' c' : Nat} (ha : a < 36) (hc : c < 36) (ha' : a' < 36) (hc' : c' < 36) (h : mp t a c = mp t' a' c') : t = t' ∧ a = a' ∧ c = c' := by
  unfold mp at h
  omega
def RG (R W : Nat) (f : Nat → Int64) : Prop := ∀ d c e, d ≤ 10 → c < 36 → e < 64 → bt (f (d * 36 + c)) e = decide (c < R * W ∧ e < R * W ∧ apS W c e = d)
/-- what is remembered of laws is not beyond the present age -/
def MI (ag : Nat) (g : G) : Prop := gI g 68 11 = nI ag ∧ ag < 2 ^ 30 ∧ (∀ i, i < 2592 → ∃ j, j ≤ ag ∧ gI g 71 i = nI j) ∧ (∀ i, i < 2592 → ∃ j, j ≤ ag ∧ gI g 73 i = nI j)
def MO (A : Nat → Int32) (p m ag : Nat) (g : G) : Prop := MI ag g ∧ (A 4 ≠ nI 0 → ∀ t a c, t < 2 → a < cS A → c < cS A → gI g 71 (mp t a c) = nI ag → gI g 72 (mp t a c) = lawT A 0 p m t a c) ∧ (A 5 ≠ nI 0 → ∀ t a c, t < 2 → a < cS A → c < cS A → gI g 73 (mp t a c) = nI ag → gI g 74 (mp t a c) = nI (cstL A p m t a c))
/-- the stepper is aimed at a pair, with a mood, over a set of free cells -/
def SQ (X : Nat → Prop) (A : Nat → Int32) (F : Nat → Bool) (p m : Nat) (g : G) : Prop := Sh g ∧ (∃ q, gR g 68 1 = some q ∧ PR X g q A) ∧ FM A F (gL g 68 0) ∧ gI g 68 2 = nI (sp A p) ∧ gI g 69 0 = nI p ∧ gI g 69 2 = nI m ∧ RG (nv A 1) (nv A 2) (gL g 70)
def SP (X : Nat → Prop) (A : Nat → Int32) (F : Nat → Bool) (p m ag : Nat) (g : G) : Prop := SQ X A F p m g ∧ MO A p m ag g
/-- what doesn't change in all this -/
def EV (X : Nat → Prop) (A : Nat → Int32) (p : Nat) : Prop := XO X ∧ Dm A ∧ VB A (bo A) ∧ LW A ∧ p < nv A 3
section STP
variable {X : Nat → Prop} {A : Nat → Int32} {F : Nat → Bool} {p m ag : Nat} {g g' : G}
theorem SQ.fi (h : SQ X A F p m g) (hX : XO X) {S : List Nat} (x : Fi S g g') (hS : S.all (fun a => decide (a < 42 ∨ (46 < a ∧ a < 155))) = true) (h68 : 68 ∉ S) (h70 : 70 ∉ S) (e0 : gI g' 69 0 = gI g 69 0) (e2 : gI g' 69 2 = gI g 69 2) : SQ X A F p m g' := by
  obtain ⟨h1, ⟨q, q1, q2⟩, h3, h4, h5, h6, h7⟩ := h
  refine ⟨Sh.fi x h1, ⟨q, ?_, q2.fa x.a (hX.no hS)⟩, ?_, ?_, e0.trans h5, e2.trans h6, ?_⟩
  · rw [x.R]
    exact q1
  · rw [x.L h68]
    exact h3
  · rw [x.I h68]
    exact h4
  · rw [x.L h70]
    exact h7
theorem MO.fi (h : MO A p m ag g) {S : List Nat} (x : Fi S g g') (h68 : 68 ∉ S) (h71 : 71 ∉ S) (h72 : 72 ∉ S) (h73 : 73 ∉ S) (h74 : 74 ∉ S) : MO A p m ag g' := by
  unfold MO MI
  rw [x.I h68, x.I h71, x.I h72, x.I h73, x.I h74]
  exact h
theorem c_ring (h : Sh g) {d c : Nat} (hd : d ≤ 10) (hc : c < 36) : f_X9_ring 68 (nI d) (nI c) g = some (gL g 70 (d * 36 + c), g) := by
  rw [f_X9_ring, if_neg (nI_pos (by omega)), if_neg (lngt10 hd), if_neg (nI_pos (by omega)), if_pos (llt36 hc), md68_4 h, gk70 h, sn70 h, lmu36, nI_add, gdI_nI (by omega) (by decide), nI_clamp (by omega)]
theorem c_memoPlace (h : SQ X A F p m g) (hA : Dm A) {t a c : Nat} (ht : t < 2) (ha : a < cS A) (hc : c < cS A) : f_X9_memoPlace 68 (nI t) (nI a) (nI c) g = some (nI (mp t a c), g) := by
  obtain ⟨q, q1, q2⟩ := h.2.1
  have r : f_X9_memoPlace_31 (nI t) (nI a) (nI c) g = some (nI (mp t a c), g) := by
    rw [f_X9_memoPlace_31, f_X9_memoPlace_36, if_neg (by decide), lmu36, nI_add, lmu36, nI_add]
    rfl
  rw [f_X9_memoPlace, q1, dr_eq, gdK_pos q2.2.1, c_isCellN q2 hA ha, bd_eq, ibT, q1, dr_eq, gdK_pos q2.2.1, c_isCellN q2 hA hc, bd_eq, ibT, r]
  obtain rfl | rfl : t = 0 ∨ t = 1 := by omega
  · rw [if_pos (show nI 0 = 0 from rfl)]
  · rw [if_neg (by decide), if_pos (show nI 1 = 1 from rfl)]
theorem c_lawTells (h : SQ X A F p m g) (hE : EV X A p) {w t a c la : Nat} {b : Bool} (hw : w < 2) (hv : LV A w b) (hla : X la) (har : gN g la = nv A (8 + w)) (hval : ∀ j, j < nv A (8 + w) → gI g la j = nI (cm (nv A (615 + nv A (6 + w) + j)))) (ht : t < 2) (ha : a < cS A) (hc : c < cS A) : ∃ g', f_X9_lawTells 68 la (nI t) (nI a) (nI c) g = some ((lawT A w p m t a c).toInt64, g') ∧ Fi [69, 75] g g' ∧ gI g' 69 0 = gI g 69 0 ∧ gI g' 69 2 = gI g 69 2 := by
  obtain ⟨hX, hA, hB, hL, hpK⟩ := hE
  have cl := cS_le hA
  obtain ⟨hs, ⟨q, q1, q2⟩, -, -, n0, n2, -⟩ := h
  obtain ⟨u, u1, u2, u3⟩ := q2.2.2.2.2.1
  obtain ⟨r, r1, r2, r3⟩ := q2.2.2.2.2.2.1
  obtain ⟨s, s1, s2, s3⟩ := q2.2.2.2.2.2.2.1
  have nu : u ≠ 69 := hX.ne u1 (by omega)
  have nr : r ≠ 69 := hX.ne r1 (by omega)
  have ns : s ≠ 69 := hX.ne s1 (by omega)
  have nq : q ≠ 69 := hX.ne q2.1 (by omega)
  have nl : la ≠ 69 := hX.ne hla (by omega)
  have d1 : a / nv A 2 ≤ a := Nat.div_le_self _ _
  have d2 : c / nv A 2 ≤ c := Nat.div_le_self _ _
  have d3 : a % nv A 2 ≤ a := Nat.mod_le _ _
  have d4 : c % nv A 2 ≤ c := Nat.mod_le _ _
  have iu : ∀ (g : G) (k : Nat) (v : Int32), gI (sI g 69 k v) u = gI g u := fun g k v => gI_sIn nu
  have ir : ∀ (g : G) (k : Nat) (v : Int32), gI (sI g 69 k v) r = gI g r := fun g k v => gI_sIn nr
  have is : ∀ (g : G) (k : Nat) (v : Int32), gI (sI g 69 k v) s = gI g s := fun g k v => gI_sIn ns
  have ic : ∀ x : Option (Int64 × G), gdI (nI c) 36 x = x := fun x => gdI_nI (by omega) (by decide)
  have ia : ∀ x : Option (Int64 × G), gdI (nI a) 36 x = x := fun x => gdI_nI (by omega) (by decide)
  have l1 : ∀ x : Option (Int64 × G), gdI (1 : Int32) 8 x = x := fun x => gdI_nI (j := 1) (by decide) (by decide)
  have l3 : ∀ x : Option (Int64 × G), gdI (3 : Int32) 8 x = x := fun x => gdI_nI (j := 3) (by decide) (by decide)
  have l4 : ∀ x : Option (Int64 × G), gdI (4 : Int32) 8 x = x := fun x => gdI_nI (j := 4) (by decide) (by decide)
  have l5 : ∀ x : Option (Int64 × G), gdI (5 : Int32) 8 x = x := fun x => gdI_nI (j := 5) (by decide) (by decide)
  have l6 : ∀ x : Option (Int64 × G), gdI (6 : Int32) 8 x = x := fun x => gdI_nI (j := 6) (by decide) (by decide)
  have l7 : ∀ x : Option (Int64 × G), gdI (7 : Int32) 8 x = x := fun x => gdI_nI (j := 7) (by decide) (by decide)
  have t1 : (1 : Int32).toNatClampNeg = 1 := rfl
  have t3 : (3 : Int32).toNatClampNeg = 3 := rfl
  have t4 : (4 : Int32).toNatClampNeg = 4 := rfl
  have t5 : (5 : Int32).toNatClampNeg = 5 := rfl
  have t6 : (6 : Int32).toNatClampNeg = 6 := rfl
  have t7 : (7 : Int32).toNatClampNeg = 7 := rfl
  have ca : (nI a).toNatClampNeg = a := nI_clamp (by omega)
  have cc : (nI c).toNatClampNeg = c := nI_clamp (by omega)
  have j1 : ∀ g : G, f_J9_abs_0f7a4 (nI (a / nv A 2) - nI (c / nv A 2)) g = _ := fun g => j_abs (by omega) (by omega) g
  have j2 : ∀ g : G, f_J9_abs_0f7a4 (nI (a % nv A 2) - nI (c % nv A 2)) g = _ := fun g => j_abs (by omega) (by omega) g
  have ra := r3 a ha
  have rc := r3 c hc
  have sa := s3 a ha
  have sc := s3 c hc
  have ua := u3 a ha
  have uc := u3 c hc
  simp only at ra rc sa sc ua uc
  simp only [f_X9_lawTells, lg, li, q1, dr_eq, gdK_pos q2.2.1, c_isCellN q2 hA ha, c_isCellN q2 hA hc, bd_eq, ibT, r2.1, s2.1, u2.1, gdK_pos r2.2.1, gdK_pos s2.2.1, gdK_pos u2.2.1, r2.2.2, s2.2.2, u2.2.2, ic, ia, ca, cc, ra, rc, sa, sc, ua, uc, sr68_3 hs, gk69 hs, sn69 hs, l1, l3, l4, l5, l6, l7, t1, t3, t4, t5, t6, t7, gR_sI, gN_sI, gdK_sI, iu, ir, is, j1, j2, nI_add]
  have hF : Fi [69, 75] g (sI (sI (sI (sI (sI (sI g 69 1 (nI t)) 69 3 (nI (hp A a))) 69 4 (nI (hp A c))) 69 5 (nI (dif (a / nv A 2) (c / nv A 2) + dif (a % nv A 2) (c % nv A 2)))) 69 6 (nI (c / nv A 2))) 69 7 (nI (c % nv A 2))) := (((((Fi.rf.si (by decide)).si (by decide)).si (by decide)).si (by decide)).si (by decide)).si (by decide)
  obtain ⟨g', e1, e2, e3, e4⟩ := c_lt (ws := wds p t m (hp A a) (hp A c) (apS (nv A 2) a c) (c / nv A 2) (c % nv A 2)) (la := la) (m := nv A (8 + w)) (by have := hv.2.2.1; omega) (lawL A w) 0 [] [] [b] FU _ (Sh.fi hF hs) (by simp only [gN_sI]; exact har) (fun j hj => by
      obtain rfl | rfl | rfl | rfl | rfl | rfl | rfl | rfl : j = 0 ∨ j = 1 ∨ j = 2 ∨ j = 3 ∨ j = 4 ∨ j = 5 ∨ j = 6 ∨ j = 7 := by omega
      · simp only [gI_sIs]
        exact n0
      · rfl
      · simp only [gI_sIs]
        exact n2
      all_goals rfl) (by simp [lawL]) (fun j hj => by
      have hj' : j < nv A (8 + w) := by simpa [lawL] using hj
      rw [hF.I (by simp only [List.mem_cons, List.not_mem_nil, or_false]; intro z; exact z.elim nl (hX.ne hla (by omega)))]
      simp only [lawL, List.getElem_map, List.getElem_range, Nat.zero_add]
      exact hval j hj') hv.2.2.2.2 True.intro (by decide) (Nat.lt_succ_self 0) True.intro (FU_gt (by
      have : (lawL A w).length = nv A (8 + w) := by simp [lawL]
      have := hv.2.2.1
      omega))
  refine ⟨g', ?_, hF.tr (e2.mono (by simp)), ?_, ?_⟩
  · have hvv : gL g' 75 0 = (lawT A w p m t a c).toInt64 := by
      unfold lawT lawV
      revert e3 e4
      generalize evL _ (lawL A w) [] = L
      intro e3 e4
      cases L with
      | nil => simp at e4
      | cons x s =>
        cases s with
        | nil => exact e3.1
        | cons y s => simp at e4
    rw [← hvv]
    exact e1
  · rw [e2.I (by decide)]
    rfl
  · rw [e2.I (by decide)]
    rfl
theorem law_m01 (hL : LW A) (h : A 4 ≠ nI 0) (p m t a c : Nat) : lawT A 0 p m t a c = 0 ∨ lawT A 0 p m t a c = 1 := law_01 (hL.2.1.resolve_left h) _
theorem c_mayGo (h : SP X A F p m ag g) (hE : EV X A p) {t a c : Nat} (ht : t < 2) (ha : a < cS A) (hc : c < cS A) : ∃ g', f_X9_mayGo 68 (nI t) (nI a) (nI c) g = some (may A p m t a c, g') ∧ Fi [69, 71, 72, 75] g g' ∧ SP X A F p m ag g' := by
  obtain ⟨hX, hA, hB, hL, hp⟩ := id hE
  have cl := cS_le hA
  obtain ⟨hQ, ⟨a1, a2, a3, a4⟩, hM, hC⟩ := id h
  obtain ⟨hs, ⟨q, q1, q2⟩, -⟩ := id hQ
  have hmp := mp_lt ht (show a < 36 by omega) (show c < 36 by omega)
  rw [f_X9_mayGo, q1, dr_eq, gdK_pos q2.2.1, c_memoPlace hQ hA ht ha hc, bd_eq]
  rcases q2.2.2.2.2.2.2.2.2.1 with ⟨z1, z2⟩ | ⟨z1, la, l1, l2, l3⟩
  · rw [z2, if_pos rfl]
    refine ⟨g, ?_, Fi.rf, h⟩
    unfold may
    rw [decide_eq_true z1]
    rfl
  · have hm := law_m01 hL z1 p m t a c
    have f72 : ∀ g1, Sh g1 → gI g1 72 (mp t a c) = lawT A 0 p m t a c → f_X9_mayGo_72 68 (nI (mp t a c)) g1 = some (may A p m t a c, g1) := fun g1 s1 e => by
      rw [f_X9_mayGo_72, md68_8 s1, gk72 s1, sn72 s1, gdI_nI hmp (by decide), nI_clamp (by omega), e]
      unfold may
      rw [decide_eq_false z1, Bool.false_or]
      rcases hm with e1 | e1
      · rw [e1, if_pos rfl]
        rfl
      · rw [e1, if_neg (by decide)]
        rfl
    rw [l2.1, if_neg (by simp), if_pos (nI_pos' (by omega)), md68_7 hs, gk71 hs, sn71 hs, gdI_nI hmp (by decide), nI_clamp (by omega), a1]
    by_cases e : gI g 71 (mp t a c) = nI ag
    · rw [if_pos e, f72 g hs (hM z1 t a c ht ha hc e)]
      exact ⟨g, rfl, Fi.rf, h⟩
    · have f1 : Fi [69, 71, 72, 75] g (sI g 71 (mp t a c) (nI ag)) := Fi.rf.si (by decide)
      have h1 : SQ X A F p m (sI g 71 (mp t a c) (nI ag)) := hQ.fi hX f1 (by decide) (by decide) (by decide) (by rw [gI_sIn (by decide)]) (by rw [gI_sIn (by decide)])
      have nl := hX.ne l1 (show 71 < 42 ∨ (46 < 71 ∧ 71 < 155) by omega)
      obtain ⟨g2, e1, e2, e3, e4⟩ := c_lawTells h1 hE (w := 0) (by decide) (hL.2.1.resolve_left z1) l1 l2.2.2 (fun j hj => by rw [gI_sIn nl]; exact l3 j hj) ht ha hc
      have s2 := Sh.fi e2 h1.1
      have f2 : Fi [69, 71, 72, 75] g g2 := f1.tr (e2.mono (by decide))
      have f3 : Fi [69, 71, 72, 75] g (sI g2 72 (mp t a c) (lawT A 0 p m t a c)) := f2.si (by decide)
      have g71 : gI (sI g2 72 (mp t a c) (lawT A 0 p m t a c)) 71 = upd (gI g 71) (mp t a c) (nI ag) := by
        rw [gI_sIn (by decide), e2.I (by decide), gI_sIs]
      have g72 : gI (sI g2 72 (mp t a c) (lawT A 0 p m t a c)) 72 = upd (gI g 72) (mp t a c) (lawT A 0 p m t a c) := by
        rw [gI_sIs, e2.I (by decide), gI_sIn (by decide)]
      rw [if_neg e, lg, dr_sI, md68_8 hs, dr_eq, gdK_pos (show KD (sI g 71 (mp t a c) (nI ag)) la 14 from l2.2.1), e1, bd_eq, gk72 s2, sn72 s2, gdI_nI hmp (by decide), lg, show (lawT A 0 p m t a c).toInt64.toInt32 = lawT A 0 p m t a c by simp]
      rw [f72 (sI g2 72 (mp t a c) (lawT A 0 p m t a c)) s2.si (by rw [g72]; exact pk_us)]
      refine ⟨_, rfl, f3, hQ.fi hX f3 (by decide) (by decide) (by decide) ?_ ?_, ⟨?_, a2, ?_, ?_⟩, ?_, ?_⟩
      · rw [gI_sIn (by decide), e3, gI_sIn (by decide)]
      · rw [gI_sIn (by decide), e4, gI_sIn (by decide)]
      · rw [f3.I (by decide)]
        exact a1
      · intro i hi
        rw [g71]
        by_cases ei : i = mp t a c
        · subst ei
          exact ⟨ag, Nat.le_refl _, pk_us⟩
        · rw [pk_un ei]
          exact a3 i hi
      · rw [f3.I (by decide)]
        exact a4
      · intro _ t' a' c' ht' ha' hc' e'
        rw [g72]
        by_cases ei : mp t' a' c' = mp t a c
        · obtain ⟨rfl, rfl, rfl⟩ := mp_inj (by omega) (by omega) (by omega) (by omega) ei
          exact pk_us
        · rw [g71, pk_un ei] at e'
          rw [pk_un ei]
          exact hM z1 t' a' c' ht' ha' hc' e'
      · rw [f3.I (by decide), f3.I (by decide)]
        exact hC
theorem min99 {v : Int32} (g : G) : bd (f_J9_min_f86c9 (99 : Int64) v.toInt64 g) (fun v26 g27 => f_J9_max_f86c9 (0 : Int64) v26 g27) = some ((nI (if v < nI 0 then 0 else if nI 99 < v then 99 else v.toNatClampNeg)).toInt64, g) := by
  have e99 : (99 : Int64) = (nI 99).toInt64 := rfl
  have e0 : (0 : Int64) = (nI 0).toInt64 := rfl
  have lt64 : ∀ x y : Int32, (x.toInt64 < y.toInt64) ↔ x < y := fun x y => by
    rw [Int64.lt_iff_toInt_lt, Int32.lt_iff_toInt_lt, Int32.toInt_toInt64, Int32.toInt_toInt64]
  rw [f_J9_min_f86c9]
  simp only [lg_cmp_gt, e99, lt64]
  by_cases h1 : v < nI 99
  · rw [if_pos h1, bd_eq, f_J9_max_f86c9]
    simp only [lg_cmp_lt, e0, lt64]
    by_cases h2 : v < nI 0
    · rw [if_pos h2, if_neg (fun z => by
        rw [Int32.lt_iff_toInt_lt] at z h2
        omega)]
    · obtain ⟨j, j1, rfl⟩ := nI_of h2
      have n99 : ¬ nI 99 < nI j := fun z => by
        rw [Int32.lt_iff_toInt_lt] at z h1
        omega
      rw [if_neg h2, if_neg n99, nI_clamp j1]
      by_cases h3 : nI 0 < nI j
      · rw [if_pos h3]
      · rw [if_neg h3]
        rw [nI_ltI (by decide) j1] at h3
        rw [show j = 0 by omega]
  · rw [if_neg h1, bd_eq, f_J9_max_f86c9]
    simp only [lg_cmp_lt, e0, lt64]
    rw [if_pos (by decide), if_neg (fun z => h1 (by
      rw [Int32.lt_iff_toInt_lt] at z ⊢
      have : (nI 0).toInt = 0 := rfl
      have : (nI 99).toInt = 99 := rfl
      omega))]
    by_cases h3 : nI 99 < v
    · rw [if_pos h3]
    · rw [if_neg h3]
      have : v = nI 99 := by
        apply Int32.toInt_inj.mp
        rw [Int32.lt_iff_toInt_lt] at h1 h3
        omega
      rw [this]
      rfl
theorem c_costGo (h : SP X A F p m ag g) (hE : EV X A p) {t a c : Nat} (ht : t < 2) (ha : a < cS A) (hc : c < cS A) (hn : a ≠ c) : ∃ g', f_X9_costGo 68 (nI t) (nI a) (nI c) g = some (nI (cst A p m t a c), g') ∧ Fi [69, 73, 74, 75] g g' ∧ SP X A F p m ag g' := by
  obtain ⟨hX, hA, hB, hL, hp⟩ := id hE
  have cl := cS_le hA
  obtain ⟨hQ, ⟨a1, a2, a3, a4⟩, hM, hC⟩ := id h
  obtain ⟨hs, ⟨q, q1, q2⟩, -⟩ := id hQ
  have hmp := mp_lt ht (show a < 36 by omega) (show c < 36 by omega)
  rw [f_X9_costGo, q1, dr_eq, gdK_pos q2.2.1, c_memoPlace hQ hA ht ha hc, bd_eq]
  rcases q2.2.2.2.2.2.2.2.2.2 with ⟨z1, z2⟩ | ⟨z1, la, l1, l2, l3⟩
  · rw [z2, if_pos rfl, f_X9_costGo_28, q1, dr_eq, gdK_pos q2.2.1, c_apart q2 hA ha hc, bd_eq]
    refine ⟨g, ?_, Fi.rf, h⟩
    unfold cst
    rw [if_neg hn, if_pos z1]
  · have hcs : cst A p m t a c = cstL A p m t a c := by
      unfold cst
      rw [if_neg hn, if_neg z1]
      rfl
    rw [hcs]
    have f94 : ∀ g1, Sh g1 → gI g1 74 (mp t a c) = nI (cstL A p m t a c) → f_X9_costGo_94 68 (nI (mp t a c)) g1 = some (nI (cstL A p m t a c), g1) := fun g1 s1 e => by
      rw [f_X9_costGo_94, md68_10 s1, gk74 s1, sn74 s1, gdI_nI hmp (by decide), nI_clamp (by omega), e]
    rw [l2.1, if_neg (by simp), if_pos (nI_pos' (by omega)), md68_9 hs, gk73 hs, sn73 hs, gdI_nI hmp (by decide), nI_clamp (by omega), a1]
    by_cases e : gI g 73 (mp t a c) = nI ag
    · rw [if_pos e, f94 g hs (hC z1 t a c ht ha hc e)]
      exact ⟨g, rfl, Fi.rf, h⟩
    · have f1 : Fi [69, 73, 74, 75] g (sI g 73 (mp t a c) (nI ag)) := Fi.rf.si (by decide)
      have h1 : SQ X A F p m (sI g 73 (mp t a c) (nI ag)) := hQ.fi hX f1 (by decide) (by decide) (by decide) (by rw [gI_sIn (by decide)]) (by rw [gI_sIn (by decide)])
      have nl := hX.ne l1 (show 73 < 42 ∨ (46 < 73 ∧ 73 < 155) by omega)
      obtain ⟨g2, e1, e2, e3, e4⟩ := c_lawTells h1 hE (w := 1) (by decide) (hL.2.2.resolve_left z1) l1 l2.2.2 (fun j hj => by rw [gI_sIn nl]; exact l3 j hj) ht ha hc
      have s2 := Sh.fi e2 h1.1
      have f2 : Fi [69, 73, 74, 75] g g2 := f1.tr (e2.mono (by decide))
      have f3 : Fi [69, 73, 74, 75] g (sI g2 74 (mp t a c) (nI (cstL A p m t a c))) := f2.si (by decide)
      have g73 : gI (sI g2 74 (mp t a c) (nI (cstL A p m t a c))) 73 = upd (gI g 73) (mp t a c) (nI ag) := by
        rw [gI_sIn (by decide), e2.I (by decide), gI_sIs]
      have g74 : gI (sI g2 74 (mp t a c) (nI (cstL A p m t a c))) 74 = upd (gI g 74) (mp t a c) (nI (cstL A p m t a c)) := by
        rw [gI_sIs, e2.I (by decide), gI_sIn (by decide)]
      have m9 := min99 (v := lawT A 1 p m t a c) g2
      obtain ⟨w, g2', n1, n2⟩ := bd_some m9
      have n3 : g2' = g2 := by
        unfold f_J9_min_f86c9 at n1
        split at n1 <;> (cases n1; rfl)
      subst n3
      rw [if_neg e, lg, dr_eq, gdK_pos (show KD (sI g 73 (mp t a c) (nI ag)) la 14 from l2.2.1), e1, bd_eq, md68_10 s2, n1, bd_eq, n2, bd_eq, gk74 s2, sn74 s2, gdI_nI hmp (by decide), lg]
      rw [show (nI (if lawT A 1 p m t a c < nI 0 then 0 else if nI 99 < lawT A 1 p m t a c then 99 else (lawT A 1 p m t a c).toNatClampNeg)).toInt64.toInt32 = nI (cstL A p m t a c) by rw [show (if lawT A 1 p m t a c < nI 0 then 0 else if nI 99 < lawT A 1 p m t a c then 99 else (lawT A 1 p m t a c).toNatClampNeg) = cstL A p m t a c from rfl]; simp]
      rw [f94 (sI g2' 74 (mp t a c) (nI (cstL A p m t a c))) s2.si (by rw [g74]; exact pk_us)]
      refine ⟨_, rfl, f3, hQ.fi hX f3 (by decide) (by decide) (by decide) ?_ ?_, ⟨?_, a2, ?_, ?_⟩, ?_, ?_⟩
      · rw [gI_sIn (by decide), e3, gI_sIn (by decide)]
      · rw [gI_sIn (by decide), e4, gI_sIn (by decide)]
      · rw [f3.I (by decide)]
        exact a1
      · rw [f3.I (by decide)]
        exact a3
      · intro i hi
        rw [g73]
        by_cases ei : i = mp t a c
        · subst ei
          exact ⟨ag, Nat.le_refl _, pk_us⟩
        · rw [pk_un ei]
          exact a4 i hi
      · rw [f3.I (by decide), f3.I (by decide)]
        exact hM
      · intro _ t' a' c' ht' ha' hc' e'
        rw [g74]
        by_cases ei : mp t' a' c' = mp t a c
        · obtain ⟨rfl, rfl, rfl⟩ := mp_inj (by omega) (by omega) (by omega) (by omega) ei
          exact pk_us
        · rw [g73, pk_un ei] at e'
          rw [pk_un ei]
          exact hC z1 t' a' c' ht' ha' hc' e'
end STP
