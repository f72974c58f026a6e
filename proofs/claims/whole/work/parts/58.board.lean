/-! THE CLASS: plans and boards, and what they are to the reference's row A. -/
/-- a frame with new cells: of the elder ones all but S are as they were -/
def Fa (S : List Nat) (g g' : G) : Prop := gn g ≤ gn g' ∧ ∀ a, a < gn g → gK g' a = gK g a ∧ gN g' a = gN g a ∧ (a ∉ S → gI g' a = gI g a ∧ gL g' a = gL g a ∧ gR g' a = gR g a)
theorem Fa.rf {S : List Nat} {g : G} : Fa S g g := ⟨Nat.le_refl _, fun _ _ => ⟨rfl, rfl, fun _ => ⟨rfl, rfl, rfl⟩⟩⟩
theorem Fa.tr {S : List Nat} {g h k : G} (x : Fa S g h) (y : Fa S h k) : Fa S g k := ⟨Nat.le_trans x.1 y.1, fun a ha => by
  obtain ⟨x1, x2, x3⟩ := x.2 a ha
  obtain ⟨y1, y2, y3⟩ := y.2 a (Nat.lt_of_lt_of_le ha x.1)
  exact ⟨y1.trans x1, y2.trans x2, fun hs => ⟨(y3 hs).1.trans (x3 hs).1, (y3 hs).2.1.trans (x3 hs).2.1, (y3 hs).2.2.trans (x3 hs).2.2⟩⟩⟩
theorem Fa.mono {S T : List Nat} {g h : G} (x : Fa S g h) (hs : ∀ a ∈ S, a ∈ T) : Fa T g h := ⟨x.1, fun a ha => ⟨(x.2 a ha).1, (x.2 a ha).2.1, fun q => (x.2 a ha).2.2 (fun z => q (hs a z))⟩⟩
theorem Fq.a {S : List Nat} {g h : G} (x : Fq S g h) : Fa S g h := ⟨Nat.le_of_eq x.1.symm, fun a _ => ⟨by rw [x.2.2.1], by rw [x.2.2.2.1], fun hs => x.2.2.2.2 a hs⟩⟩
theorem Fi.a {S : List Nat} {g h : G} (x : Fi S g h) : Fa S g h := x.q.a
theorem KD.fa {S : List Nat} {g h : G} {a c : Nat} (k : KD g a c) (x : Fa S g h) : KD h a c := ⟨(x.2 a k.2).1.trans k.1, Nat.lt_of_lt_of_le k.2 x.1⟩
theorem Fa.I {S : List Nat} {g h : G} (x : Fa S g h) {a c : Nat} (k : KD g a c) (ha : a ∉ S) : gI h a = gI g a := ((x.2 a k.2).2.2 ha).1
theorem Fa.L {S : List Nat} {g h : G} (x : Fa S g h) {a c : Nat} (k : KD g a c) (ha : a ∉ S) : gL h a = gL g a := ((x.2 a k.2).2.2 ha).2.1
theorem Fa.R {S : List Nat} {g h : G} (x : Fa S g h) {a c : Nat} (k : KD g a c) (ha : a ∉ S) : gR h a = gR g a := ((x.2 a k.2).2.2 ha).2.2
theorem Fq.sr {S : List Nat} {g h : G} (x : Fq S g h) {a k : Nat} {v : Option Nat} (ha : a ∈ S) : Fq S g (sR h a k v) := x.tr ⟨rfl, rfl, rfl, rfl, fun b hb => ⟨rfl, rfl, va_up_ne _ _ (fun e => hb (e ▸ ha))⟩⟩
theorem Fq.ri {S : List Nat} {g h : G} (x : Fq S g h) {a : Nat} {v : Nat → Int32} (ha : a ∈ S) : Fq S g (rI h a v) := x.tr ⟨rfl, rfl, rfl, rfl, fun b hb => ⟨va_up_ne _ _ (fun e => hb (e ▸ ha)), rfl, rfl⟩⟩
/-- an array of ints -/
def Ar (g : G) (o : Option Nat) (a n : Nat) : Prop := o = some a ∧ KD g a 14 ∧ gN g a = n
theorem Ar.get {α : Type} {g : G} {o : Option Nat} {a n i : Nat} (h : Ar g o a n) (hi : i < n) (hn : n < 2 ^ 31) (f : Nat → Option α) : dr o (fun x => gdK g x 14 (gdI (nI i) (gN g x) (f x))) = f a := by
  rw [h.1, dr_eq, gdK_pos h.2.1, h.2.2, gdI_nI hi hn]
theorem Ar.fa {S : List Nat} {g h : G} {o : Option Nat} {a n : Nat} (k : Ar g o a n) (x : Fa S g h) : Ar h o a n := ⟨k.1, k.2.1.fa x, (x.2 a k.2.1.2).2.1.trans k.2.2⟩
/-- codes of laws: the reference's as the class's -/
def cm (c : Nat) : Nat := if c < 3000 then c else [2043, 2045, 2042, 2061, 2060, 2062, 2014, 2013, 2012].getD (c - 3000) 0
/-- an array of a plan: kept by X -/
def PA (X : Nat → Prop) (g : G) (o : Option Nat) (n m : Nat) (f : Nat → Int32) : Prop := ∃ a, X a ∧ Ar g o a n ∧ ∀ i, i < m → gI g a i = f i
def LR (X : Nat → Prop) (g : G) (o : Option Nat) (A : Nat → Int32) (w : Nat) : Prop := (A (4 + w) = nI 0 ∧ o = none) ∨ (A (4 + w) ≠ nI 0 ∧ PA X g o (nv A (8 + w)) (nv A (8 + w)) (fun j => nI (cm (nv A (615 + nv A (6 + w) + j)))))
def PR (X : Nat → Prop) (g : G) (q : Nat) (A : Nat → Int32) : Prop := X q ∧ KD g q 7 ∧ (gI g q 0 = A 1 ∧ gI g q 1 = A 2 ∧ gI g q 2 = nI (cS A) ∧ gI g q 4 = A 3 ∧ gI g q 5 = A 0) ∧ (∀ c, c < 64 → bt (gL g q 3) c = decide (c < cS A)) ∧ PA X g (gR g q 6) 36 (cS A) (fun c => nI (hp A c)) ∧ PA X g (gR g q 7) 36 (cS A) (fun c => nI (c / nv A 2)) ∧ PA X g (gR g q 8) 36 (cS A) (fun c => nI (c % nv A 2)) ∧ PA X g (gR g q 9) 6 (2 * nv A 3) (fun i => A (46 + i)) ∧ LR X g (gR g q 10) A 0 ∧ LR X g (gR g q 11) A 1
section PLA
variable {X : Nat → Prop} {S : List Nat} {g h : G} {o : Option Nat} {n m q : Nat} {f : Nat → Int32} {A A' : Nat → Int32}
theorem PA.fa (k : PA X g o n m f) (x : Fa S g h) (hS : ∀ a ∈ S, ¬ X a) : PA X h o n m f := by
  obtain ⟨a, h1, h2, h3⟩ := k
  exact ⟨a, h1, h2.fa x, fun i hi => by rw [x.I h2.2.1 (fun z => hS a z h1)]; exact h3 i hi⟩
theorem PA.cg {f' : Nat → Int32} (k : PA X g o n m f) (e : ∀ i, i < m → f' i = f i) : PA X g o n m f' := by
  obtain ⟨a, h1, h2, h3⟩ := k
  exact ⟨a, h1, h2, fun i hi => (h3 i hi).trans (e i hi).symm⟩
theorem LR.fa {w : Nat} (k : LR X g o A w) (x : Fa S g h) (hS : ∀ a ∈ S, ¬ X a) : LR X h o A w := k.elim Or.inl (fun z => Or.inr ⟨z.1, z.2.fa x hS⟩)
theorem PR.fa (k : PR X g q A) (x : Fa S g h) (hS : ∀ a ∈ S, ¬ X a) : PR X h q A := by
  obtain ⟨h1, h2, h3, h4, h5, h6, h7, h8, h9, h10⟩ := k
  have hq : q ∉ S := fun z => hS q z h1
  refine ⟨h1, h2.fa x, ?_⟩
  rw [x.I h2 hq, x.L h2 hq, x.R h2 hq]
  exact ⟨h3, h4, h5.fa x hS, h6.fa x hS, h7.fa x hS, h8.fa x hS, h9.fa x hS, h10.fa x hS⟩
/-- the same plan -/
def Pl (A A' : Nat → Int32) : Prop := ∀ k, k < 52 ∨ (614 ≤ k ∧ k < 1515) → A' k = A k
theorem Pl.n_ (h : Pl A A') {k : Nat} (hk : k < 52 ∨ (614 ≤ k ∧ k < 1515)) : nv A' k = nv A k := by
  unfold nv
  rw [h k hk]
theorem Pl.c_ (h : Pl A A') : cS A' = cS A := by
  unfold cS
  rw [h.n_ (by omega), h.n_ (by omega)]
theorem Pl.h_ (h : Pl A A') {c : Nat} (hc : c < 42) : hp A' c = hp A c := by
  unfold hp ht
  rw [h.n_ (by omega)]
theorem Pl.d_ (h : Pl A A') (hA : Dm A) : Dm A' := by
  unfold Dm
  rw [h.n_ (by omega), h.n_ (by omega), h.n_ (by omega), h 1 (by omega), h 2 (by omega), h 3 (by omega)]
  exact hA
theorem Pl.sym (h : Pl A A') : Pl A' A := fun k hk => (h k hk).symm
theorem Pl.tr {A'' : Nat → Int32} (h : Pl A A') (h' : Pl A' A'') : Pl A A'' := fun k hk => (h' k hk).trans (h k hk)
theorem Pl.rf : Pl A A := fun _ _ => rfl
theorem Pl.lv_ (h : Pl A A') {w : Nat} {b : Bool} (hw : w < 2) (k : LV A w b) : LV A' w b := by
  obtain ⟨k1, k2, k3, k4, k5⟩ := k
  have e1 := h.n_ (k := 8 + w) (by omega)
  have e2 := h.n_ (k := 6 + w) (by omega)
  refine ⟨?_, ?_, ?_, ?_, ?_⟩
  · rw [e1, h _ (by omega)]
    exact k1
  · rw [e2, h _ (by omega)]
    exact k2
  · rw [e1, e2]
    exact k3
  · intro j hj
    rw [e1] at hj
    rw [e2, h _ (by omega), h.n_ (by omega)]
    exact k4 j hj
  · have : lawL A' w = lawL A w := by
      unfold lawL
      rw [e1, e2]
      apply List.map_congr_left
      intro j hj
      rw [List.mem_range] at hj
      exact h.n_ (by omega)
    rw [this]
    exact k5
theorem Pl.lw_ (h : Pl A A') (k : LW A) : LW A' := by
  refine ⟨fun c hc => ?_, ?_, ?_⟩
  · unfold ht
    rw [h _ (by omega), h.n_ (by omega)]
    exact k.1 c hc
  · rw [h 4 (by omega)]
    exact k.2.1.elim Or.inl (fun z => Or.inr (h.lv_ (by decide) z))
  · rw [h 5 (by omega)]
    exact k.2.2.elim Or.inl (fun z => Or.inr (h.lv_ (by decide) z))
theorem LR.pl {w : Nat} (hw : w < 2) {b : Bool} (hv : A (4 + w) = nI 0 ∨ LV A w b) (k : LR X g o A w) (h : Pl A A') : LR X g o A' w := by
  have e0 := h (4 + w) (by omega)
  rcases k with z | z
  · exact Or.inl ⟨e0.trans z.1, z.2⟩
  · have lv := hv.resolve_left z.1
    refine Or.inr ⟨by rw [e0]; exact z.1, ?_⟩
    rw [h.n_ (by omega), h.n_ (by omega)]
    exact z.2.cg (fun j hj => by
      have := lv.2.2.1
      rw [h.n_ (by omega)])
theorem PR.pl (k : PR X g q A) (hA : Dm A) (hL : LW A) (h : Pl A A') : PR X g q A' := by
  obtain ⟨h1, h2, h3, h4, h5, h6, h7, h8, h9, h10⟩ := k
  have cl := cS_le hA
  have k3 := hA.2.2.2.2.2.2.2
  unfold PR
  rw [h.c_, h.n_ (by omega), h.n_ (by omega), h 0 (by omega), h 1 (by omega), h 2 (by omega), h 3 (by omega)]
  exact ⟨h1, h2, h3, h4, h5.cg (fun i hi => by rw [h.h_ (by omega)]), h6, h7, h8.cg (fun i hi => h _ (by omega)), h9.pl (by decide) hL.2.1 h, h10.pl (by decide) hL.2.2 h⟩
end PLA
theorem inR_neg {v : Int32} (h : v < 0) (n : Nat) : inR v n = false := by
  unfold inR
  refine decide_eq_false (fun z => ?_)
  rw [Int32.lt_iff_toInt_lt] at h
  have : (0 : Int32).toInt = 0 := rfl
  omega
theorem inR_c (v : Int32) (n : Nat) : (∃ j, j < n ∧ j < 2 ^ 31 ∧ v = nI j ∧ inR v n = true) ∨ (v < 0 ∧ inR v n = false) ∨ (∃ j, n ≤ j ∧ j < 2 ^ 31 ∧ v = nI j ∧ inR v n = false) := by
  by_cases h : v < 0
  · exact Or.inr (Or.inl ⟨h, inR_neg h n⟩)
  · obtain ⟨j, hj, rfl⟩ := nI_of h
    rcases Nat.lt_or_ge j n with q | q
    · exact Or.inl ⟨j, q, hj, rfl, by rw [inR_nI hj]; exact decide_eq_true q⟩
    · exact Or.inr (Or.inr ⟨j, q, hj, rfl, by rw [inR_nI hj]; exact decide_eq_false (by omega)⟩)
theorem j_abs {a b : Nat} (ha : a < 2 ^ 30) (hb : b < 2 ^ 30) (g : G) : f_J9_abs_0f7a4 (nI a - nI b) g = some (nI (dif a b), g) := by
  unfold f_J9_abs_0f7a4 dif
  have e := pk_sub_toInt ha hb
  rcases Nat.lt_or_ge a b with h | h
  · rw [if_neg (by
      rw [Int32.le_iff_toInt_le, e]
      have : (0 : Int32).toInt = 0 := rfl
      omega), show a - b = 0 by omega, Nat.zero_add, ← pk_sub (Nat.le_of_lt h), Int32.neg_sub]
  · rw [if_pos (by
      rw [Int32.le_iff_toInt_le, e]
      have : (0 : Int32).toInt = 0 := rfl
      omega), show b - a = 0 by omega, Nat.add_zero, pk_sub h]
/-- the shape of a board -/
def BS (g : G) (b : Nat) : Prop := KD g b 0 ∧ Ar g (gR g b 2) (b + 1) 6 ∧ Ar g (gR g b 3) (b + 2) 3 ∧ Ar g (gR g b 4) (b + 3) 3 ∧ Ar g (gR g b 5) (b + 4) 3
/-- a board is as the reference's row A tells -/
def BD (X : Nat → Prop) (g : G) (b : Nat) (A : Nat → Int32) : Prop := BS g b ∧ (∃ q, gR g b 0 = some q ∧ PR X g q A) ∧ (∀ c, c < 64 → bt (gL g b 1) c = decide (c < 36 ∧ wl A c = 1)) ∧ (∀ i, i < 2 * nv A 3 → gI g (b + 1) i = nI (tw A i)) ∧ (∀ p, p < nv A 3 → gI g (b + 2) p = nI (sp A p)) ∧ (∀ p, p < nv A 3 → gI g (b + 3) p = nI (md A p)) ∧ (∀ p, p < nv A 3 → gI g (b + 4) p = nI (dn A p))
section BRD
variable {X : Nat → Prop} {g : G} {b q : Nat} {A : Nat → Int32}
theorem c_isCell (h : PR X g q A) (hA : Dm A) (v : Int32) : f_X7_isCell q v g = some (inR v (cS A), g) := by
  have cl := cS_le hA
  unfold f_X7_isCell
  rcases inR_c v (cS A) with ⟨j, h1, h2, rfl, h4⟩ | ⟨h1, h2⟩ | ⟨j, h1, h2, rfl, h4⟩
  · rw [h4, if_neg (nI_pos h2), h.2.2.1.2.2.1, if_neg (nI_ge h1 (by omega)), if_neg (lnge36 (by omega))]
  · rw [h2, if_pos h1]
  · rw [h4, if_neg (nI_pos h2), h.2.2.1.2.2.1, if_pos (nI_le h1 h2)]
theorem c_isCellN (h : PR X g q A) (hA : Dm A) {c : Nat} (hc : c < cS A) : f_X7_isCell q (nI c) g = some (true, g) := by
  have cl := cS_le hA
  rw [c_isCell h hA, inR_nI (by omega), decide_eq_true hc]
theorem c_apart (h : PR X g q A) (hA : Dm A) {a c : Nat} (ha : a < cS A) (hc : c < cS A) : f_X7_apart q (nI a) (nI c) g = some (nI (apS (nv A 2) a c), g) := by
  have cl := cS_le hA
  obtain ⟨r, -, r2, r3⟩ := h.2.2.2.2.2.1
  obtain ⟨s, -, s2, s3⟩ := h.2.2.2.2.2.2.1
  have d1 : a / nv A 2 ≤ a := Nat.div_le_self _ _
  have d2 : c / nv A 2 ≤ c := Nat.div_le_self _ _
  have d3 : a % nv A 2 ≤ a := Nat.mod_le _ _
  have d4 : c % nv A 2 ≤ c := Nat.mod_le _ _
  rw [f_X7_apart, c_isCellN h hA ha, bd_eq, ibT, c_isCellN h hA hc, bd_eq, ibT, r2.get (by omega) (by decide), r2.2.2, gdI_nI (by omega) (by decide), nI_clamp (by omega), nI_clamp (by omega), r3 a ha, r3 c hc, j_abs (by omega) (by omega), bd_eq, s2.get (by omega) (by decide), s2.2.2, gdI_nI (by omega) (by decide), s3 a ha, s3 c hc, j_abs (by omega) (by omega), bd_eq, nI_add]
  rfl
theorem besS_0 (R W c : Nat) : besS R W c 0 = if c / W = 0 then none else some (c - W) := rfl
theorem besS_1 (R W c : Nat) : besS R W c 1 = if c % W + 1 < W then some (c + 1) else none := rfl
theorem besS_2 (R W c : Nat) : besS R W c 2 = if c / W + 1 < R then some (c + W) else none := rfl
theorem besS_3 (R W c : Nat) : besS R W c 3 = if c % W = 0 then none else some (c - 1) := rfl
theorem c_beside (h : PR X g q A) (hA : Dm A) {c w : Nat} (hc : c < cS A) (hw : w < 4) : f_X7_beside q (nI c) (nI w) g = some (oI (besS (nv A 1) (nv A 2) c w), g) := by
  have cl := cS_le hA
  obtain ⟨hR, r0, r6, hW, h0, h6, -⟩ := id hA
  obtain ⟨r, -, r2, r3⟩ := h.2.2.2.2.2.1
  obtain ⟨s, -, s2, s3⟩ := h.2.2.2.2.2.2.1
  have d1 : c / nv A 2 ≤ c := Nat.div_le_self _ _
  have d3 : c % nv A 2 < nv A 2 := Nat.mod_lt _ h0
  have z0 : ∀ n : Nat, n < 2 ^ 31 → (nI n ≤ 0 ↔ n = 0) := fun n hn => by
    rw [show (0 : Int32) = nI 0 from rfl, nI_leI hn (by decide)]
    omega
  have z1 : ∀ n m : Nat, 0 < n → n < 2 ^ 31 → m < 2 ^ 31 → (nI n - (1 : Int32) ≤ nI m ↔ n ≤ m + 1) := fun n m h0 hn hm => by
    rw [show (1 : Int32) = nI 1 from rfl, pk_sub h0, nI_leI (by omega) hm]
    omega
  rw [f_X7_beside, c_isCellN h hA hc, bd_eq, ibT, if_neg (by rw [nI_toInt (by omega)]; omega)]
  have hv : ((nI w).toInt - 0).toNat = w := by
    rw [nI_toInt (by omega)]
    omega
  have dl := Nat.div_add_mod c (nv A 2)
  obtain rfl | rfl | rfl | rfl : w = 0 ∨ w = 1 ∨ w = 2 ∨ w = 3 := by omega
  · simp only [hv]
    rw [r2.get (by omega) (by decide), nI_clamp (by omega), r3 c hc, h.2.2.1.2.1, hW]
    simp only [z0 _ (show c / nv A 2 < 2 ^ 31 by omega)]
    rw [besS_0]
    by_cases e : c / nv A 2 = 0
    · rw [if_pos e, if_pos e]
      rfl
    · have e2 : nv A 2 * 1 ≤ nv A 2 * (c / nv A 2) := Nat.mul_le_mul_left _ (Nat.pos_of_ne_zero e)
      rw [if_neg e, if_neg e, pk_sub (by omega)]
      rfl
  · simp only [hv]
    rw [s2.get (by omega) (by decide), nI_clamp (by omega), s3 c hc, h.2.2.1.2.1, hW]
    simp only [z1 _ _ h0 (show nv A 2 < 2 ^ 31 by omega) (show c % nv A 2 < 2 ^ 31 by omega)]
    rw [besS_1]
    by_cases e : nv A 2 ≤ c % nv A 2 + 1
    · rw [if_pos e, if_neg (by omega)]
      rfl
    · rw [if_neg e, if_pos (by omega), nI_1]
      rfl
  · simp only [hv]
    rw [r2.get (by omega) (by decide), nI_clamp (by omega), r3 c hc, h.2.2.1.2.1, h.2.2.1.1, hW, hR]
    simp only [z1 _ _ r0 (show nv A 1 < 2 ^ 31 by omega) (show c / nv A 2 < 2 ^ 31 by omega)]
    rw [besS_2]
    by_cases e : nv A 1 ≤ c / nv A 2 + 1
    · rw [if_pos e, if_neg (by omega)]
      rfl
    · rw [if_neg e, if_pos (by omega), nI_add]
      rfl
  · simp only [hv]
    rw [s2.get (by omega) (by decide), nI_clamp (by omega), s3 c hc]
    simp only [z0 _ (show c % nv A 2 < 2 ^ 31 by omega)]
    rw [besS_3]
    by_cases e : c % nv A 2 = 0
    · rw [if_pos e, if_pos e]
      rfl
    · rw [if_neg e, if_neg e, show (1 : Int32) = nI 1 from rfl, pk_sub (by omega)]
      rfl
theorem c_isPair (h : BD X g b A) (hA : Dm A) (v : Int32) : f_X0_isPair b v g = some (inR v (nv A 3), g) := by
  obtain ⟨q, q1, q2⟩ := h.2.1
  obtain ⟨-, -, -, -, -, -, hK, h3⟩ := hA
  unfold f_X0_isPair
  rw [q1, dr_eq, gdK_pos q2.2.1, q2.2.2.1.2.2.2.1, hK]
  rcases inR_c v (nv A 3) with ⟨j, h1, h2, rfl, h4⟩ | ⟨h1, h2⟩ | ⟨j, h1, h2, rfl, h4⟩
  · rw [h4, if_neg (nI_pos h2), if_neg (nI_ge h1 (by omega)), if_neg (lnge3 (by omega))]
  · rw [h2, if_pos h1]
  · rw [h4, if_neg (nI_pos h2), if_pos (nI_le h1 h2)]
theorem c_isPairN (h : BD X g b A) (hA : Dm A) {p : Nat} (hp : p < nv A 3) : f_X0_isPair b (nI p) g = some (true, g) := by
  have := hA.2.2.2.2.2.2.2
  rw [c_isPair h hA, inR_nI (by omega), decide_eq_true hp]
theorem c_isWall (h : BD X g b A) (hA : Dm A) {c : Nat} (hc : c < cS A) : f_X0_isWall b (nI c) g = some (decide (wl A c = 1), g) := by
  have cl := cS_le hA
  obtain ⟨q, q1, q2⟩ := h.2.1
  rw [f_X0_isWall, q1, dr_eq, gdK_pos q2.2.1, c_isCellN q2 hA hc, bd_eq, ibT, ibt (by omega), h.2.2.1 c (by omega)]
  by_cases e : wl A c = 1
  · rw [if_pos (decide_eq_true ⟨by omega, e⟩), decide_eq_true e]
  · rw [if_neg (fun z => e (of_decide_eq_true z).2), decide_eq_false e]
theorem c_tw (h : BD X g b A) {i : Nat} (hi : i < 6) {α : Type} (f : Nat → Option α) : dr (gR g b 2) (fun x => gdK g x 14 (gdI (nI i) (gN g x) (f x))) = f (b + 1) := h.1.2.1.get hi (by decide) f
theorem c_twinsAt_4 (h : BD X g b A) (hA : Dm A) (hB : VB A (bo A)) {c : Nat} (hc : c < 36) : ∀ n k, k ≤ 6 → 6 < n + k → f_X0_twinsAt_4 n b (nI c) (nI (cT A c (fun _ => true) (if k ≤ 2 * nv A 3 then k else 2 * nv A 3))) (nI k) g = some (nI (cT A c (fun _ => true) (2 * nv A 3)), g) := by
  have k3 := hA.2.2.2.2.2.2.2
  intro n
  induction n with
  | zero => intro k h1 h2; omega
  | succ n ih =>
    intro k h1 h2
    rw [f_X0_twinsAt_4]
    rcases Nat.lt_or_ge k 6 with hk | hk
    · have e := ih (k + 1) hk (by omega)
      rw [if_neg (lnge6 hk), show (2 : Int32) = nI 2 from rfl, pk_div (by omega) (by decide) (by decide), c_isPair h hA, inR_nI (by omega), bd_eq]
      by_cases hp : k < 2 * nv A 3
      · obtain ⟨t1, t2, -⟩ := hB.t hp
        have cl := cS_le hA
        rw [decide_eq_true (show k / 2 < nv A 3 by omega), ibT, c_tw h hk, nI_clamp (by omega), h.2.2.2.1 k hp, if_pos (show k ≤ 2 * nv A 3 by omega)]
        rw [if_pos (show k + 1 ≤ 2 * nv A 3 by omega), cT] at e
        by_cases z : tw A k = c
        · rw [if_pos (by rw [z]), f_X0_twinsAt_36, li, nI_1, show (1 : Int32) = nI 1 from rfl, nI_add]
          rw [if_pos ⟨rfl, z⟩] at e
          exact e
        · rw [if_neg (fun q => z ((nI_eq (by omega) (by omega)).mp q)), f_X0_twinsAt_35, f_X0_twinsAt_36, li, nI_1, show (0 : Int32) = nI 0 from rfl, nI_add]
          rw [if_neg (fun q => z q.2)] at e
          exact e
      · rw [decide_eq_false (show ¬ k / 2 < nv A 3 by omega), ibF, f_X0_twinsAt_35, f_X0_twinsAt_36, li, nI_1, show (0 : Int32) = nI 0 from rfl, nI_add, Nat.add_zero]
        rw [show (if k + 1 ≤ 2 * nv A 3 then k + 1 else 2 * nv A 3) = (if k ≤ 2 * nv A 3 then k else 2 * nv A 3) by split <;> split <;> omega] at e
        exact e
    · have : k = 6 := by omega
      subst this
      rw [if_pos (lle6 (Nat.le_refl _) (by decide)), show (if 6 ≤ 2 * nv A 3 then 6 else 2 * nv A 3) = 2 * nv A 3 by split <;> omega]
theorem c_twinsAt (h : BD X g b A) (hA : Dm A) (hB : VB A (bo A)) {c : Nat} (hc : c < 36) : f_X0_twinsAt b (nI c) g = some (nI (cT A c (fun _ => true) (2 * nv A 3)), g) := by
  have e := c_twinsAt_4 h hA hB hc FU 0 (by decide) (FU_gt (by decide))
  rw [if_pos (Nat.zero_le _)] at e
  exact e
/-- the first twin of n that is in a cell -/
def fT (A : Nat → Int32) (c : Nat) : Nat → Nat → Option Nat
  | 0, _ => none
  | n + 1, k => if tw A k = c then some k else fT A c n (k + 1)
theorem fT_some {A : Nat → Int32} {c : Nat} : ∀ {n k i : Nat}, fT A c n k = some i → k ≤ i ∧ i < k + n ∧ tw A i = c := by
  intro n
  induction n with
  | zero => intro k i h; cases h
  | succ n ih =>
    intro k i h
    rw [fT] at h
    split at h
    · next q =>
      cases h
      exact ⟨Nat.le_refl _, by omega, q⟩
    · obtain ⟨h1, h2, h3⟩ := ih h
      exact ⟨by omega, by omega, h3⟩
theorem fT_none {A : Nat → Int32} {c : Nat} : ∀ {n k : Nat}, fT A c n k = none ↔ ∀ i, k ≤ i → i < k + n → tw A i ≠ c := by
  intro n
  induction n with
  | zero => intro k; exact ⟨fun _ i h1 h2 => by omega, fun _ => rfl⟩
  | succ n ih =>
    intro k
    rw [fT]
    constructor
    · intro h i h1 h2
      split at h
      · cases h
      · next q =>
        rcases Nat.lt_or_ge k i with z | z
        · exact ih.mp h i z (by omega)
        · have : i = k := by omega
          subst this
          exact q
    · intro h
      rw [if_neg (h k (Nat.le_refl _) (by omega))]
      exact ih.mpr (fun i h1 h2 => h i (by omega) (by omega))
theorem c_first_2 (h : BD X g b A) (hA : Dm A) (hB : VB A (bo A)) {c : Nat} (hc : c < 36) : ∀ n k, k ≤ 6 → 6 < n + k → f_X0_firstPairAt_2 n b (nI c) (nI k) g = some (oI ((fT A c (2 * nv A 3 - k) k).map (· / 2)), g) := by
  have k3 := hA.2.2.2.2.2.2.2
  intro n
  induction n with
  | zero => intro k h1 h2; omega
  | succ n ih =>
    intro k h1 h2
    rw [f_X0_firstPairAt_2]
    rcases Nat.lt_or_ge k 6 with hk | hk
    · have e := ih (k + 1) hk (by omega)
      rw [if_neg (lnge6 hk), show (2 : Int32) = nI 2 from rfl, pk_div (by omega) (by decide) (by decide), c_isPair h hA, inR_nI (by omega), bd_eq]
      by_cases hp : k < 2 * nv A 3
      · obtain ⟨t1, t2, -⟩ := hB.t hp
        have cl := cS_le hA
        rw [decide_eq_true (show k / 2 < nv A 3 by omega), ibT, c_tw h hk, nI_clamp (by omega), h.2.2.2.1 k hp, show 2 * nv A 3 - k = 2 * nv A 3 - (k + 1) + 1 by omega, fT]
        by_cases z : tw A k = c
        · rw [if_pos (by rw [z]), if_pos z]
          rfl
        · rw [if_neg (fun q => z ((nI_eq (by omega) (by omega)).mp q)), if_neg z, f_X0_firstPairAt_32, nI_1]
          exact e
      · rw [decide_eq_false (show ¬ k / 2 < nv A 3 by omega), ibF, f_X0_firstPairAt_32, nI_1, e, show 2 * nv A 3 - k = 0 by omega, show 2 * nv A 3 - (k + 1) = 0 by omega]
        rfl
    · have : k = 6 := by omega
      subst this
      rw [if_pos (lle6 (Nat.le_refl _) (by decide)), show 2 * nv A 3 - 6 = 0 by omega]
      rfl
theorem c_firstPairAt (h : BD X g b A) (hA : Dm A) (hB : VB A (bo A)) {c : Nat} (hc : c < 36) : f_X0_firstPairAt b (nI c) g = some (oI ((fT A c (2 * nv A 3) 0).map (· / 2)), g) := c_first_2 h hA hB hc FU 0 (by decide) (FU_gt (by decide))
/-- bits of cells that are free for a pair -/
def FM (A : Nat → Int32) (F : Nat → Bool) (m : Int64) : Prop := ∀ c, c < 64 → bt m c = (decide (c < cS A) && F c)
theorem c_free_8 (h : BD X g b A) (hA : Dm A) (hB : VB A (bo A)) {p : Nat} (hp : p ≤ 3) : ∀ n k (m : Int64), k ≤ 6 → 6 < n + k → (∀ c, c < 64 → bt m c = decide ((c < 36 ∧ wl A c = 1) ∨ ∃ i, i < k ∧ i < 2 * nv A 3 ∧ i / 2 ≠ p ∧ tw A i = c)) → ∃ r, f_X0_freeFor_8 n b (nI p) m (nI k) g = some (r, g) ∧ FM A (fre A p) r := by
  have k3 := hA.2.2.2.2.2.2.2
  have cl := cS_le hA
  intro n
  induction n with
  | zero => intro k m h1 h2; omega
  | succ n ih =>
    intro k m h1 h2 hm
    rw [f_X0_freeFor_8]
    rcases Nat.lt_or_ge k 6 with hk | hk
    · have skip : ¬ (k < 2 * nv A 3 ∧ k / 2 ≠ p) → ∃ r, f_X0_freeFor_46 (f_X0_freeFor_8 n) b (nI p) m (nI k) g = some (r, g) ∧ FM A (fre A p) r := fun hx => by
        rw [f_X0_freeFor_46, nI_1]
        refine ih (k + 1) m hk (by omega) (fun c hc => ?_)
        rw [hm c hc, decide_eq_decide]
        constructor
        · exact fun z => z.elim Or.inl (fun ⟨i, i1, i2⟩ => Or.inr ⟨i, by omega, i2⟩)
        · refine fun z => z.elim Or.inl (fun ⟨i, i1, i2, i3, i4⟩ => Or.inr ⟨i, ?_, i2, i3, i4⟩)
          rcases Nat.lt_or_ge i k with y | y
          · exact y
          · have : i = k := by omega
            subst this
            exact absurd ⟨i2, i3⟩ hx
      rw [if_neg (lnge6 hk), show (2 : Int32) = nI 2 from rfl, pk_div (by omega) (by decide) (by decide)]
      by_cases e1 : k / 2 = p
      · rw [if_pos (by rw [e1])]
        exact skip (fun z => z.2 e1)
      · rw [if_neg (fun z => e1 ((nI_eq (by omega) (by omega)).mp z)), c_isPair h hA, inR_nI (by omega), bd_eq]
        by_cases e2 : k < 2 * nv A 3
        · obtain ⟨t1, t2, -⟩ := hB.t e2
          rw [decide_eq_true (show k / 2 < nv A 3 by omega), ibT, c_tw h hk, nI_clamp (by omega), h.2.2.2.1 k e2, ll, f_X0_freeFor_46, nI_1]
          refine ih (k + 1) _ hk (by omega) (fun c hc => ?_)
          rw [bt_or, hm c hc, bt_one (by omega), ← Bool.decide_or, decide_eq_decide]
          constructor
          · rintro ((z | ⟨i, i1, i2⟩) | z)
            · exact Or.inl z
            · exact Or.inr ⟨i, by omega, i2⟩
            · exact Or.inr ⟨k, by omega, e2, e1, z.symm⟩
          · rintro (z | ⟨i, i1, i2, i3, i4⟩)
            · exact Or.inl (Or.inl z)
            · rcases Nat.lt_or_ge i k with y | y
              · exact Or.inl (Or.inr ⟨i, y, i2, i3, i4⟩)
              · have : i = k := by omega
                subst this
                exact Or.inr i4.symm
        · rw [decide_eq_false (show ¬ k / 2 < nv A 3 by omega), ibF]
          exact skip (fun z => e2 z.1)
    · have : k = 6 := by omega
      subst this
      obtain ⟨q, q1, q2⟩ := h.2.1
      rw [if_pos (lle6 (Nat.le_refl _) (by decide)), q1, dr_eq, gdK_pos q2.2.1]
      refine ⟨_, rfl, fun c hc => ?_⟩
      rw [bt_and, q2.2.2.2.1 c hc, bt_not hc, hm c hc, ← decide_not]
      by_cases e : c < cS A
      · obtain ⟨w1, w2, w3⟩ := hB.w (c := c) (by omega)
        rw [decide_eq_true e, Bool.true_and, Bool.true_and]
        unfold fre
        rw [decide_eq_decide]
        constructor
        · intro z
          refine ⟨?_, fun i i1 i2 i3 => z (Or.inr ⟨i, by omega, i1, i2, i3⟩)⟩
          have : ¬ wl A c = 1 := fun y => z (Or.inl ⟨by omega, y⟩)
          omega
        · rintro ⟨z1, z2⟩ (⟨y1, y2⟩ | ⟨i, i1, i2, i3, i4⟩)
          · omega
          · exact z2 i i2 i3 i4
      · rw [decide_eq_false e]
        rfl
theorem c_freeFor (h : BD X g b A) (hA : Dm A) (hB : VB A (bo A)) {p : Nat} (hp : p ≤ 3) : ∃ r, f_X0_freeFor b (nI p) g = some (r, g) ∧ FM A (fre A p) r := by
  rw [f_X0_freeFor, ll]
  refine c_free_8 h hA hB hp FU 0 _ (by decide) (FU_gt (by decide)) (fun c hc => ?_)
  rw [h.2.2.1 c hc, decide_eq_decide]
  exact ⟨Or.inl, fun z => z.elim id (fun ⟨i, i1, _⟩ => by omega)⟩
theorem c_isFreeFor (h : BD X g b A) (hA : Dm A) (hB : VB A (bo A)) {p c : Nat} (hp : p ≤ 3) (hc : c < cS A) : f_X0_isFreeFor b (nI p) (nI c) g = some (fre A p c, g) := by
  have cl := cS_le hA
  obtain ⟨q, q1, q2⟩ := h.2.1
  obtain ⟨r, r1, r2⟩ := c_freeFor h hA hB hp
  rw [f_X0_isFreeFor, q1, dr_eq, gdK_pos q2.2.1, c_isCellN q2 hA hc, bd_eq, ibT, r1, bd_eq, ibt (by omega), r2 c (by omega), decide_eq_true hc, Bool.true_and]
  cases fre A p c <;> rfl
theorem c_standOf (h : BD X g b A) (hA : Dm A) {p : Nat} (hp : p < nv A 3) : f_X0_standOf b (nI p) g = some (nI (64 * tw A (2 * p) + tw A (2 * p + 1)), g) := by
  have k3 := hA.2.2.2.2.2.2.2
  rw [f_X0_standOf, c_isPairN h hA hp, bd_eq, ibT, show (2 : Int32) = nI 2 from rfl, pk_mul, show (1 : Int32) = nI 1 from rfl, nI_add, c_tw h (by omega), h.1.2.1.2.2, gdI_nI (by omega) (by decide), nI_clamp (by omega), nI_clamp (by omega), h.2.2.2.1 _ (by omega), h.2.2.2.1 _ (by omega), show (64 : Int32) = nI 64 from rfl, pk_mul, nI_add, Nat.mul_comm]
def sumN (f : Nat → Nat) : Nat → Nat
  | 0 => 0
  | n + 1 => sumN f n + f n
theorem sumN_le {f : Nat → Nat} {m : Nat} (h : ∀ i, f i ≤ m) : ∀ n, sumN f n ≤ n * m
  | 0 => Nat.zero_le _
  | n + 1 => by
    rw [sumN, Nat.succ_mul]
    exact Nat.add_le_add (sumN_le h n) (h n)
theorem c_spans_4 (h : BD X g b A) (hA : Dm A) : ∀ n k, k ≤ 3 → 3 < n + k → f_X0_allSpans_4 n b (nI (sumN (sp A) (if k ≤ nv A 3 then k else nv A 3))) (nI k) g = some (nI (sumN (sp A) (nv A 3)), g) := by
  have k3 := hA.2.2.2.2.2.2.2
  intro n
  induction n with
  | zero => intro k h1 h2; omega
  | succ n ih =>
    intro k h1 h2
    rw [f_X0_allSpans_4]
    rcases Nat.lt_or_ge k 3 with hk | hk
    · have e := ih (k + 1) hk (by omega)
      rw [if_neg (lnge3 hk), c_isPair h hA, inR_nI (by omega), bd_eq]
      by_cases hp : k < nv A 3
      · rw [decide_eq_true hp, ibT, h.1.2.2.1.get hk (by decide), nI_clamp (by omega), h.2.2.2.2.1 k hp, f_X0_allSpans_28, li, nI_1, nI_add, if_pos (show k ≤ nv A 3 by omega)]
        rw [if_pos (show k + 1 ≤ nv A 3 by omega), sumN] at e
        exact e
      · rw [decide_eq_false hp, ibF, f_X0_allSpans_28, li, nI_1, show (0 : Int32) = nI 0 from rfl, nI_add, Nat.add_zero]
        rw [show (if k + 1 ≤ nv A 3 then k + 1 else nv A 3) = (if k ≤ nv A 3 then k else nv A 3) by split <;> split <;> omega] at e
        exact e
    · have : k = 3 := by omega
      subst this
      rw [if_pos (lle3 (Nat.le_refl _) (by decide)), show (if 3 ≤ nv A 3 then 3 else nv A 3) = nv A 3 by split <;> omega]
theorem c_allSpans (h : BD X g b A) (hA : Dm A) : f_X0_allSpans b g = some (nI (sumN (sp A) (nv A 3)), g) := by
  have e := c_spans_4 h hA FU 0 (by decide) (FU_gt (by decide))
  rw [if_pos (Nat.zero_le _)] at e
  exact e
def dnN (A : Nat → Int32) (p : Nat) : Nat := dn A p % 2 + dn A p / 2
theorem c_done_4 (h : BD X g b A) (hA : Dm A) (hB : VB A (bo A)) : ∀ n k, k ≤ 3 → 3 < n + k → f_X0_allDone_4 n b (nI (sumN (dnN A) (if k ≤ nv A 3 then k else nv A 3))) (nI k) g = some (nI (sumN (dnN A) (nv A 3)), g) := by
  have k3 := hA.2.2.2.2.2.2.2
  intro n
  induction n with
  | zero => intro k h1 h2; omega
  | succ n ih =>
    intro k h1 h2
    rw [f_X0_allDone_4]
    rcases Nat.lt_or_ge k 3 with hk | hk
    · have e := ih (k + 1) hk (by omega)
      rw [if_neg (lnge3 hk), c_isPair h hA, inR_nI (by omega), bd_eq]
      by_cases hp : k < nv A 3
      · have := (hB.o hp).2
        rw [decide_eq_true hp, ibT, h.1.2.2.2.2.get hk (by decide), nI_clamp (by omega), h.2.2.2.2.2.2 k hp, i_bitCount _ (by omega), bd_eq, f_X0_allDone_31, li, nI_1, nI_add, if_pos (show k ≤ nv A 3 by omega)]
        rw [if_pos (show k + 1 ≤ nv A 3 by omega), sumN] at e
        exact e
      · rw [decide_eq_false hp, ibF, f_X0_allDone_31, li, nI_1, show (0 : Int32) = nI 0 from rfl, nI_add, Nat.add_zero]
        rw [show (if k + 1 ≤ nv A 3 then k + 1 else nv A 3) = (if k ≤ nv A 3 then k else nv A 3) by split <;> split <;> omega] at e
        exact e
    · have : k = 3 := by omega
      subst this
      rw [if_pos (lle3 (Nat.le_refl _) (by decide)), show (if 3 ≤ nv A 3 then 3 else nv A 3) = nv A 3 by split <;> omega]
theorem c_allDone (h : BD X g b A) (hA : Dm A) (hB : VB A (bo A)) : f_X0_allDone b g = some (nI (sumN (dnN A) (nv A 3)), g) := by
  have e := c_done_4 h hA hB FU 0 (by decide) (FU_gt (by decide))
  rw [if_pos (Nat.zero_le _)] at e
  exact e
end BRD
