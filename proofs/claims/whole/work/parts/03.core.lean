/-! THE PURE HEAP: cells by numbers, in the order in which they are made; three stores (ints, longs, references), a kind and a length for each cell. -/
abbrev G : Type := Nat × Nat × (Nat → Nat) × (Nat → Nat) × (Nat → Nat → Int32) × (Nat → Nat → Int64) × (Nat → Nat → Option Nat)
def gn (g : G) : Nat := g.1
def gs (g : G) : Nat := g.2.1
def gK (g : G) (a : Nat) : Nat := g.2.2.1 a
def gN (g : G) (a : Nat) : Nat := g.2.2.2.1 a
def gI (g : G) (a : Nat) : Nat → Int32 := g.2.2.2.2.1 a
def gL (g : G) (a : Nat) : Nat → Int64 := g.2.2.2.2.2.1 a
def gR (g : G) (a : Nat) : Nat → Option Nat := g.2.2.2.2.2.2 a
/-- a whole row anew -/
def rI (g : G) (a : Nat) (f : Nat → Int32) : G := (g.1, g.2.1, g.2.2.1, g.2.2.2.1, va_up g.2.2.2.2.1 a f, g.2.2.2.2.2.1, g.2.2.2.2.2.2)
def rL (g : G) (a : Nat) (f : Nat → Int64) : G := (g.1, g.2.1, g.2.2.1, g.2.2.2.1, g.2.2.2.2.1, va_up g.2.2.2.2.2.1 a f, g.2.2.2.2.2.2)
def rR (g : G) (a : Nat) (f : Nat → Option Nat) : G := (g.1, g.2.1, g.2.2.1, g.2.2.2.1, g.2.2.2.2.1, g.2.2.2.2.2.1, va_up g.2.2.2.2.2.2 a f)
/-- one place anew -/
def sI (g : G) (a k : Nat) (v : Int32) : G := rI g a (upd (gI g a) k v)
def sL (g : G) (a k : Nat) (v : Int64) : G := rL g a (vp_updL (gL g a) k v)
def sR (g : G) (a k : Nat) (v : Option Nat) : G := rR g a (va_up (gR g a) k v)
/-- a new cell: its kind, its length, how many slots it takes -/
def nw (g : G) (kd len sl : Nat) : G := (g.1 + 1, g.2.1 + sl, va_up g.2.2.1 g.1 kd, va_up g.2.2.2.1 g.1 len, va_up g.2.2.2.2.1 g.1 (fun _ => 0), va_up g.2.2.2.2.2.1 g.1 (fun _ => 0), va_up g.2.2.2.2.2.2 g.1 (fun _ => none))
/-- the fields' sorts by class: 0 an int, 1 a long, 2 a reference -/
def nfT : List (List Nat) := [[2, 1, 2, 2, 2, 2], [0, 2, 2, 2, 0, 2, 0, 2], [2, 2, 2, 2, 0], [0, 2, 2, 2, 0, 2, 2, 2, 2], [0, 2, 2, 2, 2, 2, 2], [0, 0, 2], [2, 0, 2], [0, 0, 0, 1, 0, 0, 2, 2, 2, 2, 2, 2], [2, 0, 0, 2, 2, 0, 0, 2, 2, 2, 0, 0, 0, 0, 0, 0, 2, 0], [1, 2, 0, 2, 2, 0, 0, 2, 2, 2, 2, 0, 2], [0, 0, 2], [2, 0, 0, 0, 2, 2, 2, 2, 2, 2, 0, 2, 2, 2, 2, 2, 2, 2], [0, 2, 2, 2, 2, 0, 0, 0, 0, 0, 0, 0, 0, 0, 0, 2, 2, 0, 0, 2, 0, 0, 0, 2, 2, 2, 2, 2, 2, 2, 2, 0, 0, 2, 2, 2]]
def fty (c k : Nat) : Nat := (nfT.getD c []).getD k 0
def nf (c : Nat) : Nat := (nfT.getD c []).length
/-- what is fixed: the launch, the classes' numbers, the array classes' by kind, the script's cell, length and ints, the heap at the law's entry, the String constants' cells, what a static of the JDK's holds -/
abbrev CX : Type := Launch × va_G × (Nat → ClassId) × Nat × Nat × (Nat → Int32) × Heap × (Nat → Nat) × (Nat → Nat) × Value
def xl (X : CX) : Launch := X.1
def xD (X : CX) : va_G := X.2.1
def xA (X : CX) : Nat → ClassId := X.2.2.1
def xb (X : CX) : Nat := X.2.2.2.1
def xL (X : CX) : Nat := X.2.2.2.2.1
def xs (X : CX) : Nat → Int32 := X.2.2.2.2.2.1
def xH0 (X : CX) : Heap := X.2.2.2.2.2.2.1
def xKa (X : CX) : Nat → Nat := X.2.2.2.2.2.2.2.1
def xVa (X : CX) : Nat → Nat := X.2.2.2.2.2.2.2.2.1
def xF (X : CX) : Value := X.2.2.2.2.2.2.2.2.2
def xz (X : CX) : Nat := (xH0 X).size
/-- the address of a cell -/
def ad (X : CX) (a : Nat) : Nat := xz X + a
def rv (X : CX) (o : Option Nat) : Value := va_rf (o.map (ad X))
def xAf (X : CX) : Nat → Prop := fun q => xz X ≤ q
def fv (X : CX) (g : G) (a k : Nat) : Value := if fty (gK g a) k = 0 then .int (gI g a k) else if fty (gK g a) k = 1 then .long (gL g a k) else rv X (gR g a k)
def ae (X : CX) (g : G) (a : Nat) : vp_A := (gN g a, if gK g a = 15 then .inr (.inl (gL g a)) else if 17 ≤ gK g a then .inr (.inr (.inr (.inr (fun j => (gR g a j).map (ad X))))) else .inl (gI g a))
def eG (X : CX) (g : G) (a : Nat) : va_E := if gK g a < 13 then .inr (gK g a, (List.range (nf (gK g a))).map (fv X g a)) else .inl (xA X (gK g a), ae X g a)
def wG (X : CX) (g : G) : va_W := (List.range (gn g)).map (fun a => (ad X a, eG X g a))
def xT (X : CX) : List (ClassId × FieldType) := [(xA X 13, .byte), (xA X 14, .int), (xA X 15, .long), (xA X 16, .boolean), (xA X 17, .object "TwinSpan$Board"), (xA X 18, .object "TwinSpan$Tray"), (xA X 19, .array .long)]
/-- no cell beyond the last: kind 99 -/
def wf (g : G) : Prop := ∀ a, gn g ≤ a → gK g a = 99
/-- THE HEAP holds the pure heap, and what was there before is as it was -/
def xH (X : CX) (g : G) (H : Heap) : Prop := va_P (xD X) vwCl (wG X g) H ∧ H.size = xz X + gn g ∧ (∀ q, q < xz X → H[q]? = (xH0 X)[q]?) ∧ wf g
/-- kinds, lengths stay; cells only come -/
def Ext (g g' : G) : Prop := gn g ≤ gn g' ∧ gs g ≤ gs g' ∧ ∀ a, a < gn g → gK g' a = gK g a ∧ gN g' a = gN g a
theorem Ext.rf {g : G} : Ext g g := ⟨Nat.le_refl _, Nat.le_refl _, fun _ _ => ⟨rfl, rfl⟩⟩
theorem Ext.tr {g h k : G} (a : Ext g h) (b : Ext h k) : Ext g k := ⟨Nat.le_trans a.1 b.1, Nat.le_trans a.2.1 b.2.1, fun x hx => ⟨((b.2.2 x (Nat.lt_of_lt_of_le hx a.1)).1).trans (a.2.2 x hx).1, ((b.2.2 x (Nat.lt_of_lt_of_le hx a.1)).2).trans (a.2.2 x hx).2⟩⟩
theorem gK_rI (g : G) (a : Nat) (f : Nat → Int32) : gK (rI g a f) = gK g := rfl
theorem gn_rI (g : G) (a : Nat) (f : Nat → Int32) : gn (rI g a f) = gn g := rfl
theorem Ext.nw' {g : G} {kd len sl : Nat} : Ext g (nw g kd len sl) := by
  refine ⟨Nat.le_succ _, Nat.le_add_right _ _, fun x hx => ?_⟩
  have hne : x ≠ gn g := Nat.ne_of_lt hx
  exact ⟨va_up_ne _ _ hne, va_up_ne _ _ hne⟩
theorem wG_len (X : CX) (g : G) : (wG X g).length = gn g := by simp [wG]
theorem wG_get (X : CX) (g : G) {a : Nat} (h : a < gn g) : (wG X g)[a]? = some (ad X a, eG X g a) := by
  simp [wG, h]
theorem wG_get' {X : CX} {g : G} {k : Nat} {q : Nat × va_E} (h : (wG X g)[k]? = some q) : k < gn g ∧ q = (ad X k, eG X g k) := by
  have hk : k < gn g := by
    have := (List.getElem?_eq_some_iff.mp h).1
    rwa [wG_len] at this
  exact ⟨hk, Option.some.inj (h.symm.trans (wG_get X g hk))⟩
theorem wG_D (X : CX) (g : G) : va_D (xAf X) (wG X g) := by
  refine ⟨fun i j p q hi hj e => ?_, fun k q hk => ?_⟩
  · obtain ⟨-, rfl⟩ := wG_get' hi
    obtain ⟨-, rfl⟩ := wG_get' hj
    have e' : xz X + i = xz X + j := e
    omega
  · obtain ⟨-, rfl⟩ := wG_get' hk
    show xz X ≤ xz X + k
    omega
theorem wG_set {X : CX} {g g' : G} {a : Nat} {e : va_E} (hn : gn g' = gn g) (ho : ∀ b, b ≠ a → eG X g' b = eG X g b) (he : eG X g' a = e) : (wG X g).set a (ad X a, e) = wG X g' := by
  apply List.ext_getElem?
  intro k
  by_cases hk : k < gn g
  · rw [wG_get X g' (by omega)]
    by_cases hka : k = a
    · subst hka
      rw [List.getElem?_set_self (by rw [wG_len]; exact hk), he]
    · rw [List.getElem?_set_ne (fun h => hka h.symm), wG_get X g hk, ho k hka]
  · rw [List.getElem?_eq_none (by rw [List.length_set, wG_len]; omega), List.getElem?_eq_none (by rw [wG_len]; omega)]
theorem wG_push {X : CX} {g g' : G} {e : va_E} (hn : gn g' = gn g + 1) (ho : ∀ b, b < gn g → eG X g' b = eG X g b) (he : eG X g' (gn g) = e) : wG X g ++ [(ad X (gn g), e)] = wG X g' := by
  unfold wG
  rw [hn, List.range_succ, List.map_append]
  congr 1
  · apply List.map_congr_left
    intro b hb
    rw [ho b (List.mem_range.mp hb)]
  · simp [he]
theorem eG_obj {X : CX} {g : G} {a c : Nat} (hk : gK g a = c) (hc : c < 13) : eG X g a = .inr (c, (List.range (nf c)).map (fv X g a)) := by
  subst hk
  exact if_pos hc
theorem eG_arr {X : CX} {g : G} {a c : Nat} (hk : gK g a = c) (hc : 13 ≤ c) : eG X g a = .inl (xA X c, ae X g a) := by
  subst hk
  exact if_neg (by omega)
theorem xH.lt {X : CX} {g : G} {H : Heap} (h : xH X g H) {a c : Nat} (hk : gK g a = c) (hc : c < 99) : a < gn g := by
  rcases Nat.lt_or_ge a (gn g) with q | q
  · exact q
  · have := h.2.2.2 a q
    omega
/-- an object's cell -/
theorem xH.obj {X : CX} {g : G} {H : Heap} (h : xH X g H) {a c : Nat} (hk : gK g a = c) (hc : c < 13) : (wG X g)[a]? = some (ad X a, .inr (c, (List.range (nf c)).map (fv X g a))) := by
  rw [wG_get X g (h.lt hk (by omega)), eG_obj hk hc]
theorem xH.arr {X : CX} {g : G} {H : Heap} (h : xH X g H) {a c : Nat} (hk : gK g a = c) (hc : 13 ≤ c) (hc2 : c < 99) : (wG X g)[a]? = some (ad X a, .inl (xA X c, ae X g a)) := by
  rw [wG_get X g (h.lt hk hc2), eG_arr hk hc]
theorem ae_i {X : CX} {g : G} {a c : Nat} (hk : gK g a = c) (hc : c = 13 ∨ c = 14 ∨ c = 16) : ae X g a = (gN g a, .inl (gI g a)) := by
  subst hk
  unfold ae
  rw [if_neg (by omega), if_neg (by omega)]
theorem ae_l {X : CX} {g : G} {a : Nat} (hk : gK g a = 15) : ae X g a = (gN g a, .inr (.inl (gL g a))) := by
  unfold ae
  rw [if_pos hk]
theorem ae_r {X : CX} {g : G} {a c : Nat} (hk : gK g a = c) (hc : 17 ≤ c) : ae X g a = (gN g a, .inr (.inr (.inr (.inr (fun j => (gR g a j).map (ad X)))))) := by
  subst hk
  unfold ae
  rw [if_neg (by omega), if_pos hc]
theorem fv_i {X : CX} {g : G} {a c k : Nat} (hk : gK g a = c) (hf : fty c k = 0) : fv X g a k = .int (gI g a k) := by
  subst hk
  exact if_pos hf
theorem fv_l {X : CX} {g : G} {a c k : Nat} (hk : gK g a = c) (hf : fty c k = 1) : fv X g a k = .long (gL g a k) := by
  subst hk
  unfold fv
  rw [if_neg (by omega), if_pos hf]
theorem fv_r {X : CX} {g : G} {a c k : Nat} (hk : gK g a = c) (hf : fty c k = 2) : fv X g a k = rv X (gR g a k) := by
  subst hk
  unfold fv
  rw [if_neg (by omega), if_neg (by omega)]
theorem fs_get {X : CX} {g : G} {a k n : Nat} (hk : k < n) : ((List.range n).map (fv X g a))[k]? = some (fv X g a k) := by
  simp [hk]
theorem fs_set {X : CX} {g g' : G} {a k n : Nat} {v : Value} (hv : fv X g' a k = v) (ho : ∀ j, j ≠ k → fv X g' a j = fv X g a j) : ((List.range n).map (fv X g a)).set k v = (List.range n).map (fv X g' a) := by
  apply List.ext_getElem?
  intro j
  by_cases hj : j < n
  · rw [fs_get hj]
    by_cases hjk : j = k
    · subst hjk
      rw [List.getElem?_set_self (by simpa using hj), hv]
    · rw [List.getElem?_set_ne (fun h => hjk h.symm), fs_get hj, ho j hjk]
  · rw [List.getElem?_eq_none (by simp; omega), List.getElem?_eq_none (by simp; omega)]
-- other cells are as they were
theorem eG_rI {X : CX} {g : G} {a b : Nat} {f : Nat → Int32} (h : b ≠ a) : eG X (rI g a f) b = eG X g b := by
  have h1 : gI (rI g a f) b = gI g b := va_up_ne _ _ h
  have h2 : fv X (rI g a f) b = fv X g b := by
    funext k
    show (if fty (gK g b) k = 0 then Value.int (gI (rI g a f) b k) else if fty (gK g b) k = 1 then .long (gL g b k) else rv X (gR g b k)) = _
    rw [h1]
    rfl
  have h3 : ae X (rI g a f) b = ae X g b := by
    show ((gN g b, if gK g b = 15 then Sum.inr (Sum.inl (gL g b)) else if 17 ≤ gK g b then .inr (.inr (.inr (.inr (fun j => (gR g b j).map (ad X))))) else .inl (gI (rI g a f) b)) : vp_A) = _
    rw [h1]
    rfl
  show (if gK g b < 13 then Sum.inr (gK g b, (List.range (nf (gK g b))).map (fv X (rI g a f) b)) else Sum.inl (xA X (gK g b), ae X (rI g a f) b)) = _
  rw [h2, h3]
  rfl
theorem eG_rL {X : CX} {g : G} {a b : Nat} {f : Nat → Int64} (h : b ≠ a) : eG X (rL g a f) b = eG X g b := by
  have h1 : gL (rL g a f) b = gL g b := va_up_ne _ _ h
  have h2 : fv X (rL g a f) b = fv X g b := by
    funext k
    show (if fty (gK g b) k = 0 then Value.int (gI g b k) else if fty (gK g b) k = 1 then .long (gL (rL g a f) b k) else rv X (gR g b k)) = _
    rw [h1]
    rfl
  have h3 : ae X (rL g a f) b = ae X g b := by
    show ((gN g b, if gK g b = 15 then Sum.inr (Sum.inl (gL (rL g a f) b)) else if 17 ≤ gK g b then .inr (.inr (.inr (.inr (fun j => (gR g b j).map (ad X))))) else .inl (gI g b)) : vp_A) = _
    rw [h1]
    rfl
  show (if gK g b < 13 then Sum.inr (gK g b, (List.range (nf (gK g b))).map (fv X (rL g a f) b)) else Sum.inl (xA X (gK g b), ae X (rL g a f) b)) = _
  rw [h2, h3]
  rfl
theorem eG_rR {X : CX} {g : G} {a b : Nat} {f : Nat → Option Nat} (h : b ≠ a) : eG X (rR g a f) b = eG X g b := by
  have h1 : gR (rR g a f) b = gR g b := va_up_ne _ _ h
  have h2 : fv X (rR g a f) b = fv X g b := by
    funext k
    show (if fty (gK g b) k = 0 then Value.int (gI g b k) else if fty (gK g b) k = 1 then .long (gL g b k) else rv X (gR (rR g a f) b k)) = _
    rw [h1]
    rfl
  have h3 : ae X (rR g a f) b = ae X g b := by
    show ((gN g b, if gK g b = 15 then Sum.inr (Sum.inl (gL g b)) else if 17 ≤ gK g b then .inr (.inr (.inr (.inr (fun j => (gR (rR g a f) b j).map (ad X))))) else .inl (gI g b)) : vp_A) = _
    rw [h1]
    rfl
  show (if gK g b < 13 then Sum.inr (gK g b, (List.range (nf (gK g b))).map (fv X (rR g a f) b)) else Sum.inl (xA X (gK g b), ae X (rR g a f) b)) = _
  rw [h2, h3]
  rfl
theorem eG_nw {X : CX} {g : G} {b kd len sl : Nat} (h : b ≠ gn g) : eG X (nw g kd len sl) b = eG X g b := by
  have h0 : gK (nw g kd len sl) b = gK g b := va_up_ne _ _ h
  have h1 : gI (nw g kd len sl) b = gI g b := va_up_ne _ _ h
  have h2 : gL (nw g kd len sl) b = gL g b := va_up_ne _ _ h
  have h3 : gR (nw g kd len sl) b = gR g b := va_up_ne _ _ h
  have h4 : gN (nw g kd len sl) b = gN g b := va_up_ne _ _ h
  have h5 : fv X (nw g kd len sl) b = fv X g b := by
    funext k
    unfold fv
    rw [h0, h1, h2, h3]
  have h6 : ae X (nw g kd len sl) b = ae X g b := by
    unfold ae
    rw [h0, h1, h2, h3, h4]
  unfold eG
  rw [h0, h5, h6]
theorem nw_at {g : G} {kd len sl : Nat} : gK (nw g kd len sl) (gn g) = kd ∧ gN (nw g kd len sl) (gn g) = len ∧ gI (nw g kd len sl) (gn g) = (fun _ => 0) ∧ gL (nw g kd len sl) (gn g) = (fun _ => 0) ∧ gR (nw g kd len sl) (gn g) = (fun _ => none) :=
  ⟨va_up_self _ _ _, va_up_self _ _ _, va_up_self _ _ _, va_up_self _ _ _, va_up_self _ _ _⟩
theorem wf_nw {g : G} {kd len sl : Nat} (h : wf g) : wf (nw g kd len sl) := by
  intro a ha
  have ha' : gn g + 1 ≤ a := ha
  exact (va_up_ne _ _ (show a ≠ gn g by omega)).trans (h a (by omega))
