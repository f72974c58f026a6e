/-! THE WORDS of which the pure functions are made, each with what its success says. -/
def KD (g : G) (a c : Nat) : Prop := gK g a = c ∧ a < gn g
theorem KD.ext {g g' : G} {a c : Nat} (h : KD g a c) (hX : Ext g g') : KD g' a c := ⟨(hX.2.2 a h.2).1.trans h.1, Nat.lt_of_lt_of_le h.2 hX.1⟩
theorem KD.nwk {g : G} {a c kd len sl : Nat} (h : KD g a c) : KD (nw g kd len sl) a c := h.ext Ext.nw'
theorem KD.new (g : G) (kd len sl : Nat) : KD (nw g kd len sl) (gn g) kd := ⟨nw_at.1, Nat.lt_succ_self _⟩
/-- a reference is used: it isn't null -/
def dr {α : Type} (o : Option Nat) (f : Nat → Option α) : Option α := match o with
  | some a => f a
  | none => none
theorem dr_some {α : Type} {o : Option Nat} {f : Nat → Option α} {r : α} (h : dr o f = some r) : ∃ a, o = some a ∧ f a = some r := by
  cases o with
  | none => cases h
  | some a => exact ⟨a, rfl, h⟩
/-- a cell is of the kind c -/
def gdK {α : Type} (g : G) (a c : Nat) (x : Option α) : Option α := if gK g a = c ∧ a < gn g then x else none
theorem gdK_some {α : Type} {g : G} {a c : Nat} {x : Option α} {r : α} (h : gdK g a c x = some r) : KD g a c ∧ x = some r := by
  unfold gdK at h
  split at h
  · next q => exact ⟨q, h⟩
  · cases h
theorem gdK_pos {α : Type} {g : G} {a c : Nat} {x : Option α} (h : KD g a c) : gdK g a c x = x := if_pos h
/-- a place is in its row -/
def gdI {α : Type} (i : Int32) (n : Nat) (x : Option α) : Option α := if i < 0 ∨ n ≤ i.toNatClampNeg then none else x
theorem gdI_some {α : Type} {i : Int32} {n : Nat} {x : Option α} {r : α} (h : gdI i n x = some r) : vp_in i n ∧ x = some r := by
  unfold gdI at h
  split at h
  · cases h
  · next q => exact ⟨q, h⟩
theorem gdI_pos {α : Type} {i : Int32} {n : Nat} {x : Option α} (h : vp_in i n) : gdI i n x = x := if_neg h
/-- a divisor isn't 0 -/
def gdZ {α : Type} (y : Int32) (x : Option α) : Option α := if y = 0 then none else x
theorem gdZ_some {α : Type} {y : Int32} {x : Option α} {r : α} (h : gdZ y x = some r) : ¬ y = 0 ∧ x = some r := by
  unfold gdZ at h
  split at h
  · cases h
  · next q => exact ⟨q, h⟩
theorem gdZ_pos {α : Type} {y : Int32} {x : Option α} (h : ¬ y = 0) : gdZ y x = x := if_neg h
def gdZl {α : Type} (y : Int64) (x : Option α) : Option α := if y = 0 then none else x
theorem gdZl_some {α : Type} {y : Int64} {x : Option α} {r : α} (h : gdZl y x = some r) : ¬ y = 0 ∧ x = some r := by
  unfold gdZl at h
  split at h
  · cases h
  · next q => exact ⟨q, h⟩
theorem gdZl_pos {α : Type} {y : Int64} {x : Option α} (h : ¬ y = 0) : gdZl y x = x := if_neg h
/-- a new row's length -/
def gdA {α : Type} (n : Int32) (x : Option α) : Option α := if n < 0 ∨ 67108864 < n.toNatClampNeg then none else x
theorem gdA_some {α : Type} {n : Int32} {x : Option α} {r : α} (h : gdA n x = some r) : (¬ n < 0 ∧ n.toNatClampNeg * 8 ≤ 536870912) ∧ x = some r := by
  unfold gdA at h
  split at h
  · cases h
  · next q => exact ⟨⟨fun z => q (Or.inl z), by have : ¬ 67108864 < n.toNatClampNeg := fun z => q (Or.inr z); omega⟩, h⟩
theorem gdA_pos {α : Type} {n : Int32} {x : Option α} (h1 : ¬ n < 0) (h2 : n.toNatClampNeg ≤ 67108864) : gdA n x = x := if_neg (fun q => q.elim h1 (fun z => by omega))
/-- a copy's places are in their rows -/
def gdC {α : Type} (sp dp n : Int32) (n0 n1 : Nat) (x : Option α) : Option α := if sp < 0 ∨ dp < 0 ∨ n < 0 ∨ n0 < sp.toNatClampNeg + n.toNatClampNeg ∨ n1 < dp.toNatClampNeg + n.toNatClampNeg then none else x
theorem gdC_some {α : Type} {sp dp n : Int32} {n0 n1 : Nat} {x : Option α} {r : α} (h : gdC sp dp n n0 n1 x = some r) : (¬ sp < 0 ∧ ¬ dp < 0 ∧ ¬ n < 0 ∧ sp.toNatClampNeg + n.toNatClampNeg ≤ n0 ∧ dp.toNatClampNeg + n.toNatClampNeg ≤ n1) ∧ x = some r := by
  unfold gdC at h
  split at h
  · cases h
  · next q => exact ⟨⟨fun z => q (Or.inl z), fun z => q (Or.inr (Or.inl z)), fun z => q (Or.inr (Or.inr (Or.inl z))), Nat.not_lt.mp (fun z => q (Or.inr (Or.inr (Or.inr (Or.inl z))))), Nat.not_lt.mp (fun z => q (Or.inr (Or.inr (Or.inr (Or.inr z)))))⟩, h⟩
/-- a boolean out of an int -/
def tb {α : Type} (x : Int32) (f : Bool → Option α) : Option α := if x = 0 then f false else if x = 1 then f true else none
theorem tb_some {α : Type} {x : Int32} {f : Bool → Option α} {r : α} (h : tb x f = some r) : ∃ b, x = b2i b ∧ f b = some r := by
  unfold tb at h
  split at h
  · next q => exact ⟨false, q, h⟩
  · split at h
    · next q => exact ⟨true, q, h⟩
    · cases h
theorem tb_b (α : Type) (b : Bool) (f : Bool → Option α) : tb (b2i b) f = f b := by cases b <;> rfl
/-- what a call gives -/
def bd {α β : Type} (o : Option (β × G)) (f : β → G → Option α) : Option α := match o with
  | some (v, g) => f v g
  | none => none
theorem bd_some {α β : Type} {o : Option (β × G)} {f : β → G → Option α} {r : α} (h : bd o f = some r) : ∃ v g, o = some (v, g) ∧ f v g = some r := by
  cases o with
  | none => cases h
  | some q => exact ⟨q.1, q.2, rfl, h⟩
theorem bd_eq {α β : Type} {v : β} {g : G} {f : β → G → Option α} : bd (some (v, g)) f = f v g := rfl
/-- a heap gets a name -/
def lg {α : Type} (g : G) (f : G → Option α) : Option α := f g
theorem lg_some {α : Type} {g : G} {f : G → Option α} {r : α} (h : lg g f = some r) : ∃ g1, g1 = g ∧ f g1 = some r := ⟨g, rfl, h⟩
theorem ite_t {α : Type} {c : Prop} [Decidable c] {a b : Option α} {r : α} (hc : c) (h : (if c then a else b) = some r) : a = some r := (if_pos hc).symm.trans h
theorem ite_f {α : Type} {c : Prop} [Decidable c] {a b : Option α} {r : α} (hc : ¬ c) (h : (if c then a else b) = some r) : b = some r := (if_neg hc).symm.trans h
section RUE
variable {X : CX} {M : MD} {d pc : Nat} {lo : List (Nat × Value)} {st : List Value} {g g' : G} {r : Option Value}
theorem RT_i {x x' : Int32} (hr0 : M.2.2.2 = some .int) (hd : decode M.2.1 pc = .ok (.ireturn, 1)) (h : some (x, g) = some (x', g')) : SemF X M d pc lo [.int x] g (some (.int x')) g' := by
  cases h
  exact SF_iret hr0 hd
theorem RT_c {x x' : Int32} (hr0 : M.2.2.2 = some .char) (hn : narrow .char (.int x) = .int x) (hd : decode M.2.1 pc = .ok (.ireturn, 1)) (h : some (x, g) = some (x', g')) : SemF X M d pc lo [.int x] g (some (.int x')) g' := by
  cases h
  exact SF_zret hr0 hn hd
theorem RT_b {b b' : Bool} {x : Int32} (hr0 : M.2.2.2 = some .boolean) (hx : x = b2i b) (hd : decode M.2.1 pc = .ok (.ireturn, 1)) (h : some (b, g) = some (b', g')) : SemF X M d pc lo [.int x] g (some (.int (b2i b'))) g' := by
  cases h
  subst hx
  exact SF_zret hr0 (fn_bool b).1 hd
theorem RT_l {x x' : Int64} (hr0 : M.2.2.2 = some .long) (hd : decode M.2.1 pc = .ok (.lreturn, 1)) (h : some (x, g) = some (x', g')) : SemF X M d pc lo [.long x] g (some (.long x')) g' := by
  cases h
  exact SF_lret hr0 hd
theorem RT_v {u : Unit} (hr0 : M.2.2.2 = none) (hd : decode M.2.1 pc = .ok (.return_, 1)) (h : some ((), g) = some (u, g')) : SemF X M d pc lo [] g none g' := by
  cases h
  exact SF_vret hr0 hd
theorem RT_a {a a' : Nat} {rt : FieldType} (hr0 : M.2.2.2 = some rt) (hrt : (∃ n, rt = .object n) ∨ ∃ t, rt = .array t) (hd : decode M.2.1 pc = .ok (.areturn, 1)) (h : some (a, g) = some (a', g')) : SemF X M d pc lo [.ref (ad X a)] g (some (.ref (ad X a'))) g' := by
  cases h
  exact SF_aret hr0 hrt hd
/-- System.arraycopy of ints -/
theorem SF_cpyI {ix a0 a1 : Nat} {sp dp n : Int32} (pc2 : Nat) (hw : Cond.methodLink M.1.cls ix arraycopyName ∈ wT) (hw2 : Cond.native arraycopyName ∈ wT) (hw3 : Cond.static arraycopyName ∈ wT) (hw4 : Cond.initialized "java/lang/System" ∈ wT) (hd : decode M.2.1 pc = .ok (.invokestatic ix, 3)) (hd1 : 1 ≤ d) (ha0 : gK g a0 = 14) (ha1 : gK g a1 = 14) (hc : ¬ sp < 0 ∧ ¬ dp < 0 ∧ ¬ n < 0 ∧ sp.toNatClampNeg + n.toNatClampNeg ≤ gN g a0 ∧ dp.toNatClampNeg + n.toNatClampNeg ≤ gN g a1) (hrest : (st.map fun v => v.category).sum ≤ 8) (hp : pc2 = pc + 3) (h : SemF X M d pc2 lo st (rI g a1 (va_cpy (gI g a0) (gI g a1) sp.toNatClampNeg dp.toNatClampNeg n.toNatClampNeg)) r g') : SemF X M d pc lo (.int n :: .int dp :: .ref (ad X a1) :: .int sp :: .ref (ad X a0) :: st) g r g' := by
  subst hp
  obtain ⟨h1, h2, h3, h4, h5⟩ := hc
  have he : eG X (rI g a1 (va_cpy (gI g a0) (gI g a1) sp.toNatClampNeg dp.toNatClampNeg n.toNatClampNeg)) a1 = .inl (xA X 14, gN g a1, .inl (va_cpy (gI g a0) (gI g a1) sp.toNatClampNeg dp.toNatClampNeg n.toNatClampNeg)) := by
    rw [eG_arr (show gK (rI g a1 _) a1 = 14 from ha1) (by omega), ae_i (show gK (rI g a1 _) a1 = 14 from ha1) (by omega)]
    have h1 : gI (rI g a1 (va_cpy (gI g a0) (gI g a1) sp.toNatClampNeg dp.toNatClampNeg n.toNatClampNeg)) a1 = _ := va_up_self _ _ _
    rw [h1]
    rfl
  have hX : Ext g (rI g a1 (va_cpy (gI g a0) (gI g a1) sp.toNatClampNeg dp.toNatClampNeg n.toNatClampNeg)) := ⟨Nat.le_refl _, Nat.le_refl _, fun x _ => ⟨rfl, rfl⟩⟩
  refine ⟨hX.tr h.1, fun p e R s m args below meth c g0 H locs ls hC hE hH hS hl => ?_⟩
  obtain ⟨hx, hb, hr, hml, hown, hnm, hlk, hts, hxE, hsz, hfr, hlo, hce, hsl⟩ := id hC
  have hw0 := hH.arr ha0 (by omega) (by omega)
  rw [ae_i ha0 (by omega)] at hw0
  have hw1 := hH.arr ha1 (by omega) (by omega)
  rw [ae_i ha1 (by omega)] at hw1
  have hf1 : 1 ≤ R.frames := by omega
  have hnw : (st.map fun v => v.category).sum + (nativeFrameWords "java/lang/System" "arraycopy" 5 + 11) ≤ R.locals := by
    have h40 : nativeFrameWords "java/lang/System" "arraycopy" 5 + 11 ≤ 40 := by decide +kernel
    omega
  refine va_copyi (D := xD X) hx hb (hml.trans hl.1.symm) hown (hts _ hw) (hts _ hw2) (hts _ hw3) (hts _ hw4) hxE.1 hH.1 (wG_D X g) hS a0 a1 1 1 hw0 hw1 rfl rfl rfl h1 h2 h3 h4 h5 (fun i _ => rfl) hf1 hnw hd (fun H1 locs1 hP1 _ hS1 => ?_)
  rw [wG_set (g := g) (g' := rI g a1 (va_cpy (gI g a0) (gI g a1) sp.toNatClampNeg dp.toNatClampNeg n.toNatClampNeg)) rfl (fun b hb => eG_rI hb) he] at hP1
  have := SF_next h hX (fun q => q) hC hE hH hS hl hP1 hS1 (below := below) (e := e)
  exact this
end RUE
