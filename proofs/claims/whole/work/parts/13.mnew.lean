/-! new long[2][k]: the outer array, and behind it its two rows. -/
def nwM (g : G) (k : Nat) : G := rR (nw (nw (nw g 19 2 2) 15 k k) 15 k k) (gn g) (fun j => if j = 0 then some (gn g + 1) else if j = 1 then some (gn g + 2) else none)
theorem Ext.nwM {g : G} {k : Nat} : Ext g (nwM g k) := by
  have h : Ext g (nw (nw (nw g 19 2 2) 15 k k) 15 k k) := Ext.nw'.tr (Ext.nw'.tr Ext.nw')
  exact ⟨h.1, h.2.1, h.2.2⟩
theorem KD.allocM {g g1 : G} {a c k : Nat} (e : g1 = nwM g k) (h : KD g a c) : KD g1 a c := by rw [e]; exact h.ext Ext.nwM
theorem KD.freshM {g g1 : G} {k : Nat} (e : g1 = nwM g k) : KD g1 (gn g) 19 := by
  rw [e]
  have h1 : KD (nw g 19 2 2) (gn g) 19 := KD.new g 19 2 2
  have h2 : KD (nw (nw (nw g 19 2 2) 15 k k) 15 k k) (gn g) 19 := h1.nwk.nwk
  exact h2
def mnI (comp : ClassId) (k : Nat) : Cell := { cls := comp, slots := Array.replicate k (.long 0), vm := .none }
def mnO (cA : ClassId) (a b : Value) : Cell := { cls := cA, slots := #[a, b], vm := .none }
def mn2 (T : State) (cA comp : ClassId) (k : Nat) : State := (T.pushCell (mnO cA .null .null)).pushCell (mnI comp k)
def mn3 (T : State) (cA comp : ClassId) (k : Nat) : State := (mn2 T cA comp k).setCell T.heap.size (mnO cA (.ref (T.heap.size + 1)) .null)
def mn4 (T : State) (cA comp : ClassId) (k : Nat) : State := (mn3 T cA comp k).pushCell (mnI comp k)
def mn5 (T : State) (cA comp : ClassId) (k : Nat) : State := (mn4 T cA comp k).setCell T.heap.size (mnO cA (.ref (T.heap.size + 1)) (.ref (T.heap.size + 2)))
section MNW
variable {p : Program} {l : Launch} {e : Env} {R : Room} {s : State} {m : MethodId} {args : Array Value} {below : List Frame} {meth : Method} {c : Code} {T : State} {locs : List Loc} {cells slots : Nat}
theorem mn_sz (T : State) (cA comp : ClassId) (k : Nat) : (T.pushCell (mnO cA .null .null)).heap.size = T.heap.size + 1 ∧ (mn2 T cA comp k).heap.size = T.heap.size + 2 ∧ (mn3 T cA comp k).heap.size = T.heap.size + 2 ∧ (mn4 T cA comp k).heap.size = T.heap.size + 3 ∧ (mn5 T cA comp k).heap.size = T.heap.size + 3 := by
  refine ⟨by simp, by simp [mn2], by simp [mn3, mn2, State.setCell], by simp [mn4, mn3, mn2, State.setCell], by simp [mn5, mn4, mn3, mn2, State.setCell]⟩
theorem mn_h (T : State) (cA comp : ClassId) (k : Nat) : (mn2 T cA comp k).heap[T.heap.size]? = some (mnO cA .null .null) ∧ (mn4 T cA comp k).heap[T.heap.size]? = some (mnO cA (.ref (T.heap.size + 1)) .null) ∧ (mn5 T cA comp k).heap[T.heap.size]? = some (mnO cA (.ref (T.heap.size + 1)) (.ref (T.heap.size + 2))) ∧ (mn5 T cA comp k).heap[T.heap.size + 1]? = some (mnI comp k) ∧ (mn5 T cA comp k).heap[T.heap.size + 2]? = some (mnI comp k) ∧ ∀ q, q < T.heap.size → (mn5 T cA comp k).heap[q]? = T.heap[q]? := by
  obtain ⟨z1, z2, z3, z4, z5⟩ := mn_sz T cA comp k
  have l1 : T.heap.size < (T.pushCell (mnO cA .null .null)).heap.size := by rw [z1]; omega
  have l3 : T.heap.size < (mn3 T cA comp k).heap.size := by rw [z3]; omega
  have l3' : T.heap.size + 1 < (mn3 T cA comp k).heap.size := by rw [z3]; omega
  have n1 : T.heap.size ≠ T.heap.size + 1 := by omega
  have n2 : T.heap.size ≠ T.heap.size + 2 := by omega
  have a2 : (mn2 T cA comp k).heap[T.heap.size]? = some (mnO cA .null .null) := by
    unfold mn2
    rw [State.heap_pushCell_of_lt (h := l1)]
    exact State.heap_pushCell_size _ _
  have a3 : (mn3 T cA comp k).heap[T.heap.size]? = some (mnO cA (.ref (T.heap.size + 1)) .null) := State.heap_setCell_self a2
  have a4 : (mn4 T cA comp k).heap[T.heap.size]? = some (mnO cA (.ref (T.heap.size + 1)) .null) := by
    unfold mn4
    rw [State.heap_pushCell_of_lt (h := l3)]
    exact a3
  have b2 : (mn2 T cA comp k).heap[T.heap.size + 1]? = some (mnI comp k) := by
    unfold mn2
    have := State.heap_pushCell_size (T.pushCell (mnO cA .null .null)) (mnI comp k)
    rw [z1] at this
    exact this
  have b3 : (mn3 T cA comp k).heap[T.heap.size + 1]? = some (mnI comp k) := by
    unfold mn3
    rw [State.heap_setCell_other n1]
    exact b2
  have b4 : (mn4 T cA comp k).heap[T.heap.size + 1]? = some (mnI comp k) := by
    unfold mn4
    rw [State.heap_pushCell_of_lt (h := l3')]
    exact b3
  have c4 : (mn4 T cA comp k).heap[T.heap.size + 2]? = some (mnI comp k) := by
    unfold mn4
    have := State.heap_pushCell_size (mn3 T cA comp k) (mnI comp k)
    rw [z3] at this
    exact this
  refine ⟨a2, a4, State.heap_setCell_self a4, ?_, ?_, fun q hq => ?_⟩
  · unfold mn5
    rw [State.heap_setCell_other n1]
    exact b4
  · unfold mn5
    rw [State.heap_setCell_other n2]
    exact c4
  · have nq : T.heap.size ≠ q := by omega
    have lq3 : q < (mn3 T cA comp k).heap.size := by rw [z3]; omega
    have lq1 : q < (T.pushCell (mnO cA .null .null)).heap.size := by rw [z1]; omega
    unfold mn5
    rw [State.heap_setCell_other nq]
    unfold mn4
    rw [State.heap_pushCell_of_lt (h := lq3)]
    unfold mn3
    rw [State.heap_setCell_other nq]
    unfold mn2
    rw [State.heap_pushCell_of_lt (h := lq1), State.heap_pushCell_of_lt (h := hq)]
theorem mn_stand (X : Stand p l e R s m args below meth c T locs cells slots) (cA comp : ClassId) (k : Nat) : Stand p l e R s m args below meth c (mn5 T cA comp k) ((locs ++ [⟨T.heap.size, 0⟩]) ++ [⟨T.heap.size, 1⟩]) (cells + 3) (slots + (2 + 2 * k)) := by
  obtain ⟨a2, a4, -⟩ := mn_h T cA comp k
  have e1 : (mnI comp k).slots.size = k := by simp [mnI]
  have e0 : (mnO cA .null .null).slots.size = 2 := rfl
  have X3 := ((X.pushed (mnO cA .null .null)).pushed (mnI comp k)).stored a2 0 (.ref (T.heap.size + 1))
  have X5 := (X3.pushed (mnI comp k)).stored a4 1 (.ref (T.heap.size + 2))
  rw [e1, e0] at X5
  have h5 := X5
  rw [show cells + 1 + 1 + 1 = cells + 3 by omega, show slots + 2 + k + k = slots + (2 + 2 * k) by omega] at h5
  exact h5
theorem mn_new {e : Env} {E : CtlPost} {d : Bool} {acts : List Action} {s : State} {cl comp : ClassId} {k : Class} {ty : FieldType} {len : Nat} {init : Value} (hk : s.vm.classes[cl]? = some k) (hkind : k.kind = .array comp ty) (h1 : ¬ len > e.platform.arrayLengthLimit) (h2 : ¬ len * componentBytes ty > e.platform.maxHeapBytes) (h3 : fits ty init = true) (h4 : init.isDefault = true) (h5 : s.heap.size < e.platform.maxCells) (h6 : s.slotsUsed + len ≤ e.platform.maxSlots) {Q : Addr → Pre} (hq : Q s.heap.size d acts (s.pushCell { cls := cl, slots := Array.replicate len init, vm := .none })) : wp (Jvm.newArray cl len init) Q E e d acts s := by
  have f1 : ∀ i v, (Array.replicate len init)[i]? = some v → s.fitsSlot cl .none i v = true := fun i v hv => by
    rw [Array.getElem?_replicate] at hv
    split at hv
    · cases hv
      simp [State.fitsSlot, State.slotType?, hk, hkind, h3]
    · cases hv
  have f2 : allocActs (Array.replicate len init) s.heap.size acts = acts := by
    unfold allocActs
    rw [if_pos]
    rw [Array.all_replicate]
    split <;> simp [h4]
  simp only [Jvm.newArray, Jvm.arrayFits, wp_bind', W.ask, W.ite, h1, if_false, wp_pure', W.theClass, hk, hkind, h2, W.alloc, W.stop, Option.some.injEq, exists_eq_left', Array.size_replicate, f2]
  rw [if_neg (by omega)]
  exact ⟨h5, h6, f1, hq⟩
theorem mn_in {e : Env} {E : CtlPost} {d : Bool} {acts : List Action} {s : State} {comp cc : ClassId} {kc : Class} {k : Int32} (hk : s.vm.classes[comp]? = some kc) (hkind : kc.kind = .array cc .long) (hk0 : ¬ k < 0) (h1 : ¬ k.toNatClampNeg > e.platform.arrayLengthLimit) (h2 : ¬ k.toNatClampNeg * componentBytes .long > e.platform.maxHeapBytes) (h5 : s.heap.size < e.platform.maxCells) (h6 : s.slotsUsed + k.toNatClampNeg ≤ e.platform.maxSlots) {Q : Addr → Pre} (hq : Q s.heap.size d acts (s.pushCell (mnI comp k.toNatClampNeg))) : wp (multianewarray.make comp [k]) Q E e d acts s := by
  rw [multianewarray.make]
  simp only [wp_bind', W.ite, hk0, if_false, wp_pure', W.theClass, hk, hkind, Option.some.injEq, exists_eq_left']
  exact mn_new hk hkind h1 h2 rfl rfl h5 h6 hq
theorem mn_out {e : Env} {E : CtlPost} {d : Bool} {acts : List Action} {s : State} {cA comp cc : ClassId} {kA kc : Class} {k : Int32} (hkA : s.vm.classes[cA]? = some kA) (hkindA : kA.kind = .array comp (.array .long)) (hkc : s.vm.classes[comp]? = some kc) (hkindc : kc.kind = .array cc .long) (hk0 : ¬ k < 0) (hl1 : ¬ 2 > e.platform.arrayLengthLimit) (hh1 : ¬ 2 * componentBytes (.array .long) > e.platform.maxHeapBytes) (hl2 : ¬ k.toNatClampNeg > e.platform.arrayLengthLimit) (hh2 : ¬ k.toNatClampNeg * componentBytes .long > e.platform.maxHeapBytes) (hc : s.heap.size + 3 ≤ e.platform.maxCells) (hs : s.slotsUsed + (2 + 2 * k.toNatClampNeg) ≤ e.platform.maxSlots) {Q : Addr → Pre} (hq : ∀ d' acts', Q s.heap.size d' acts' (mn5 s cA comp k.toNatClampNeg)) : wp (multianewarray.make cA [2, k]) Q E e d acts s := by
  have hfind : ([k].find? (· < 0)) = none := by simp [hk0]
  obtain ⟨z1, z2, z3, z4, z5⟩ := mn_sz s cA comp k.toNatClampNeg
  obtain ⟨a2, a4, -⟩ := mn_h s cA comp k.toNatClampNeg
  rw [multianewarray.make]
  simp only [wp_bind', W.ite, show ¬ (2 : Int32) < 0 by decide, if_false, wp_pure', W.theClass, hkA, hkindA, Option.some.injEq, exists_eq_left']
  have h2 : (2 : Int32).toNatClampNeg = 2 := rfl
  rw [h2]
  refine mn_new hkA hkindA hl1 hh1 rfl rfl (by omega) (by omega) ?_
  simp only [hfind]
  rw [ite_self, wp_bind', Std.Legacy.Range.forIn_eq_forIn_range']
  have hsz : ([:2] : Std.Legacy.Range).size = 2 := by simp [Std.Legacy.Range.size]
  rw [hsz]
  show wp (forIn [0, 1] PUnit.unit _) _ E e d acts (s.pushCell (mnO cA .null .null))
  simp only [List.forIn_cons, List.forIn_nil, wp_bind', wp_pure']
  refine mn_in (s := s.pushCell (mnO cA .null .null)) hkc hkindc hk0 hl2 hh2 (by rw [z1]; omega) (by show s.slotsUsed + 2 + _ ≤ _; omega) ?_
  simp only [wp_bind', W.writeLoc, wp_pure']
  refine ⟨mnO cA .null .null, a2, by simp [mnO], by show 0 < 2; omega, ?_, ?_⟩
  · rw [z1]
    show State.fitsSlot (mn2 s cA comp k.toNatClampNeg) cA .none 0 (.ref (s.heap.size + 1)) = true
    simp [mn2, State.fitsSlot, State.slotType?, hkA, hkindA, fits]
  · rw [z1]
    show wp (multianewarray.make comp [k]) _ E e _ _ (mn3 s cA comp k.toNatClampNeg)
    have u3 : (mn3 s cA comp k.toNatClampNeg).slotsUsed = s.slotsUsed + 2 + k.toNatClampNeg := by simp [mn3, mn2, mnO, mnI]
    refine mn_in (s := mn3 s cA comp k.toNatClampNeg) hkc hkindc hk0 hl2 hh2 (by rw [z3]; omega) (by rw [u3]; omega) ?_
    simp only [wp_bind', W.writeLoc, wp_pure']
    refine ⟨mnO cA (.ref (s.heap.size + 1)) .null, a4, by simp [mnO], by show 1 < 2; omega, ?_, ?_⟩
    · rw [z3]
      show State.fitsSlot (mn4 s cA comp k.toNatClampNeg) cA .none 1 (.ref (s.heap.size + 2)) = true
      simp [mn4, mn3, mn2, State.fitsSlot, State.slotType?, hkA, hkindA, fits]
    · rw [z3]
      exact hq _ _
theorem mn_top (T : State) (f : JFrame) (cA comp : ClassId) (k : Nat) : mn5 (T.setTop f) cA comp k = (mn5 T cA comp k).setTop f := by
  simp only [mn5, mn4, mn3, mn2, State.heap_setTop, State.pushCell_setTop, State.setCell_setTop]
theorem mn_W {H : Heap} {Q : State → Prop} {cc : ByteArray} {own : String} {index pc : Nat} {ls : Array Slot} {rest : List Value} {k : Int32} (hexec : p.tables.exec = Jvm.exec) (hb : c.code = cc) (hown : s.vm.findClass own = some m.cls) (hclink : (Cond.classLink own index ("[" ++ (FieldType.array .long).toString)).before args s = true) (hover : (Cond.arrayOver (.array .long)).before args s = true) (harr : (Cond.arrayClass .long).before args s = true) (hdg : decode cc pc = .ok (.multianewarray index 2, 4)) (hk0 : ¬ k < 0) (hb8 : k.toNatClampNeg * 8 ≤ 536870912) (hcells : cells + 3 ≤ R.cells) (hslots : slots + (2 + 2 * k.toNatClampNeg) ≤ R.slots)
    (kk : ∀ (H1 : Heap) (cA comp : ClassId), s.vm.findClass ("[" ++ (FieldType.array .long).toString) = some cA → s.vm.findClass (FieldType.array .long).toString = some comp → H1.size = H.size + 3 → H1[H.size]? = some (mnO cA (.ref (H.size + 1)) (.ref (H.size + 2))) → H1[H.size + 1]? = some (mnI comp k.toNatClampNeg) → H1[H.size + 2]? = some (mnI comp k.toNatClampNeg) → (∀ q, q < H.size → H1[q]? = H[q]?) → W p l e R s m args below meth c H1 ((locs ++ [⟨H.size, 0⟩]) ++ [⟨H.size, 1⟩]) (cells + 3) (slots + (2 + 2 * k.toNatClampNeg)) Q (F0 m (pc + 4) ls (.ref H.size :: rest))) : W p l e R s m args below meth c H locs cells slots Q (F0 m pc ls (.int k :: .int 2 :: rest)) := by
  intro T hT X
  subst hT; subst hb
  have hpl : e.platform.magicAccessors = ({} : Platform).magicAccessors := by rw [X.admits.platform]
  obtain ⟨comp, cA, kA, hcomp, hidx, hkA, hkindA, hnameA⟩ := arrayOverA_spec hover
  obtain ⟨comp', kC, cc', hcomp', hkC, hkindC⟩ := Cond.arrayClass_spec harr
  have ecomp : comp' = comp := Option.some.inj (hcomp'.symm.trans hcomp)
  subst ecomp
  obtain ⟨c0, hfc0, hcl⟩ := Cond.classLink_spec hown hclink e.platform hpl
  cases hnameA.symm.trans hfc0
  obtain ⟨hg₁, hwarm₁, hready₁⟩ := State.classEntry (e := e) X.warmed hcl
  generalize T.vm.noted m.cls index (.cls cA) = vm₁ at hg₁ hwarm₁ hready₁
  have hal : s.vm.Alike vm₁ := hwarm₁.alike
  obtain ⟨kA₁, hkA₁, heA⟩ := hal.2.2 _ _ hkA
  obtain ⟨kC₁, hkC₁, heC⟩ := hal.2.2 _ _ hkC
  have hkindA₁ : kA₁.kind = .array comp' (.array .long) := by rw [heA]; exact hkindA
  have hkindC₁ : kC₁.kind = .array cc' .long := by rw [heC]; exact hkindC
  have X₁ := X.noted hwarm₁
  obtain ⟨hr1, hr2⟩ := X.roomAbove hcells hslots
  have XF := mn_stand X₁ cA comp' k.toNatClampNeg
  obtain ⟨-, -, m3, m4, m5, m6⟩ := mn_h (T.setVm vm₁) cA comp' k.toNatClampNeg
  obtain ⟨t, a1, b1⟩ := kk (mn5 (T.setVm vm₁) cA comp' k.toNatClampNeg).heap cA comp' hnameA hcomp (mn_sz (T.setVm vm₁) cA comp' k.toNatClampNeg).2.2.2.2 m3 m4 m5 m6 _ rfl XF
  refine ⟨t, ?_, b1⟩
  have hl1 : ¬ 2 > e.platform.arrayLengthLimit := by rw [Launch.admits_arrayLengthLimit X.admits]; omega
  have hh1 : ¬ 2 * componentBytes (.array .long) > e.platform.maxHeapBytes := by
    rw [Launch.admits_maxHeapBytes X.admits]; show ¬ 2 * 4 > 536870912; omega
  have hl2 : ¬ k.toNatClampNeg > e.platform.arrayLengthLimit := by rw [Launch.admits_arrayLengthLimit X.admits]; omega
  have hh2 : ¬ k.toNatClampNeg * componentBytes .long > e.platform.maxHeapBytes := by
    rw [Launch.admits_maxHeapBytes X.admits]; show ¬ k.toNatClampNeg * 8 > 536870912; omega
  jvm_step X.here [hexec, hdg]
  simp only [multianewarray.sem, wp_bind', W.resolveClassAt_links (State.method?_setTop (F0 m pc ls (.int k :: .int 2 :: rest)) X.here.top) hg₁]
  rw [W.popN, if_neg (by decide)]
  refine ⟨F0 m pc ls (.int k :: .int 2 :: rest), State.topJava?_setTop' (s := T.setVm vm₁) _ X.here.top, [.int 2, .int k], rest, rfl, rfl, ?_⟩
  simp only [List.mapM_cons, List.mapM_nil, wp_bind', wp_pure']
  refine mn_out (kA := kA₁) (kc := kC₁) (comp := comp') (cc := cc') hkA₁ hkindA₁ hkC₁ hkindC₁ hk0 hl1 hh1 hl2 hh2 (by show T.heap.size + 3 ≤ _; omega) (by show T.slotsUsed + _ ≤ _; omega) (fun d' acts' => ?_)
  have eS : ((T.setTop (F0 m pc ls (.int k :: .int 2 :: rest))).setVm vm₁).setTop { F0 m pc ls (.int k :: .int 2 :: rest) with stack := rest } = (T.setVm vm₁).setTop { F0 m pc ls (.int k :: .int 2 :: rest) with stack := rest } := by
    show ((T.setVm vm₁).setTop _).setTop _ = _
    rw [State.setTop_setTop]
  rw [eS, mn_top]
  simp only [wp_bind', W.mark, W.pushRef, State.topJava?_setTop' _ XF.here.top, Option.some.injEq, exists_eq_left', State.setTop_setTop, State.heap_setTop]
  intro acts
  simp [jvm, XF.here.top]
  exact a1
end MNW
section RUM
variable {X : CX} {M : MD} {d pc : Nat} {lo : List (Nat × Value)} {st : List Value} {g g' : G} {r : Option Value}
theorem SF_mnew {ix : Nat} {k : Int32} (pc2 : Nat) (hd : decode M.2.1 pc = .ok (.multianewarray ix 2, 4)) (hw : Cond.classLink M.1.cls ix "[[J" ∈ wT) (hk : ¬ k < 0) (hb8 : k.toNatClampNeg * 8 ≤ 536870912) (hp : pc2 = pc + 4) (h : SemF X M d pc2 lo (.ref (ad X (gn g)) :: st) (nwM g k.toNatClampNeg) r g') : SemF X M d pc lo (.int k :: .int 2 :: st) g r g' := by
  subst hp
  refine ⟨Ext.nwM.tr h.1, fun p e R s m args below meth c g0 H locs ls hC hE hH hS hl => ?_⟩
  obtain ⟨hx, hb, hr, hml, hown, hnm, hlk, hts, hxE, hsz, hfr, hlo, hce, hsl⟩ := id hC
  have hn1 : gn g + 3 ≤ gn g' := h.1.1
  have hs1 : gs g + 2 + k.toNatClampNeg + k.toNatClampNeg ≤ gs g' := h.1.2.1
  have hE1 := hE.1
  have hE2 := hE.2.1
  have hHs := hH.2.1
  refine mn_W hx hb hown (hts _ hw) hxE.2.2.2.2.1 (hts _ wr_long) hd hk hb8 (by omega) (by omega) (fun H1 cA comp f1 f2 z1 o1 i1 i2 q1 => ?_)
  have eA : cA = xA X 19 := Option.some.inj (f1.symm.trans (hxE.1.2 6 (xA X 19, .array .long) rfl).2)
  have eC : comp = xA X 15 := Option.some.inj (f2.symm.trans (hxE.1.2 2 (xA X 15, .long) rfl).2)
  subst eA; subst eC
  rw [hHs] at z1 o1 i1 i2 q1
  have hP1 : va_P (xD X) vwCl (wG X (nwM g k.toNatClampNeg)) H1 := by
    intro j q hq
    obtain ⟨hj, rfl⟩ := wG_get' hq
    have hj' : j < gn g + 3 := hj
    rcases Nat.lt_or_ge j (gn g) with hlt | hge
    · have e1 : eG X (nwM g k.toNatClampNeg) j = eG X g j := by
        unfold nwM
        rw [eG_rR (by omega), eG_nw (by show j ≠ gn g + 1 + 1; omega), eG_nw (by show j ≠ gn g + 1; omega), eG_nw (by omega)]
      rw [e1]
      exact (hH.1 j _ (wG_get X g hlt)).kept (q1 _ (by show xz X + j < _; omega))
    · rcases (show j = gn g ∨ j = gn g + 1 ∨ j = gn g + 2 by omega) with rfl | rfl | rfl
      · have k19 : gK (nwM g k.toNatClampNeg) (gn g) = 19 := (KD.freshM rfl).1
        have hN : gN (nwM g k.toNatClampNeg) (gn g) = 2 := by
          show gN (nw (nw (nw g 19 2 2) 15 k.toNatClampNeg k.toNatClampNeg) 15 k.toNatClampNeg k.toNatClampNeg) (gn g) = 2
          have b1 : gN (nw g 19 2 2) (gn g) = 2 := nw_at.2.1
          have b2 := (Ext.nw' (g := nw g 19 2 2) (kd := 15) (len := k.toNatClampNeg) (sl := k.toNatClampNeg)).2.2 (gn g) (Nat.lt_succ_self _)
          have b3 := (Ext.nw' (g := nw (nw g 19 2 2) 15 k.toNatClampNeg k.toNatClampNeg) (kd := 15) (len := k.toNatClampNeg) (sl := k.toNatClampNeg)).2.2 (gn g) (by show gn g < gn g + 1 + 1; omega)
          rw [b3.2, b2.2, b1]
        have hR : gR (nwM g k.toNatClampNeg) (gn g) = fun j => if j = 0 then some (gn g + 1) else if j = 1 then some (gn g + 2) else none := va_up_self _ _ _
        rw [eG_arr k19 (by omega), ae_r k19 (by omega), hN, hR]
        show H1[xz X + gn g]? = some (vp_cell _ _)
        rw [o1, vp_cell_q]
        rfl
      · have k15 : gK (nwM g k.toNatClampNeg) (gn g + 1) = 15 := by
          have b1 : gK (nw (nw g 19 2 2) 15 k.toNatClampNeg k.toNatClampNeg) (gn g + 1) = 15 := nw_at.1
          have b2 := (Ext.nw' (g := nw (nw g 19 2 2) 15 k.toNatClampNeg k.toNatClampNeg) (kd := 15) (len := k.toNatClampNeg) (sl := k.toNatClampNeg)).2.2 (gn g + 1) (by show gn g + 1 < gn g + 1 + 1; omega)
          exact b2.1.trans b1
        have hN : gN (nwM g k.toNatClampNeg) (gn g + 1) = k.toNatClampNeg := by
          have b1 : gN (nw (nw g 19 2 2) 15 k.toNatClampNeg k.toNatClampNeg) (gn g + 1) = k.toNatClampNeg := nw_at.2.1
          have b2 := (Ext.nw' (g := nw (nw g 19 2 2) 15 k.toNatClampNeg k.toNatClampNeg) (kd := 15) (len := k.toNatClampNeg) (sl := k.toNatClampNeg)).2.2 (gn g + 1) (by show gn g + 1 < gn g + 1 + 1; omega)
          exact b2.2.trans b1
        have hL : gL (nwM g k.toNatClampNeg) (gn g + 1) = fun _ => 0 := by
          have b1 : gL (nw (nw g 19 2 2) 15 k.toNatClampNeg k.toNatClampNeg) (gn g + 1) = fun _ => 0 := nw_at.2.2.2.1
          have b2 : gL (nw (nw (nw g 19 2 2) 15 k.toNatClampNeg k.toNatClampNeg) 15 k.toNatClampNeg k.toNatClampNeg) (gn g + 1) = gL (nw (nw g 19 2 2) 15 k.toNatClampNeg k.toNatClampNeg) (gn g + 1) := va_up_ne _ _ (show gn g + 1 ≠ gn g + 1 + 1 by omega)
          exact b2.trans b1
        rw [eG_arr k15 (by omega), ae_l k15, hN, hL]
        show H1[xz X + (gn g + 1)]? = some (vp_cell _ _)
        rw [← Nat.add_assoc, i1, vp_cell_l, mnI, arrV_new]
      · have k15 : gK (nwM g k.toNatClampNeg) (gn g + 2) = 15 := nw_at (g := nw (nw g 19 2 2) 15 k.toNatClampNeg k.toNatClampNeg) (kd := 15) (len := k.toNatClampNeg) (sl := k.toNatClampNeg) |>.1
        have hN : gN (nwM g k.toNatClampNeg) (gn g + 2) = k.toNatClampNeg := nw_at (g := nw (nw g 19 2 2) 15 k.toNatClampNeg k.toNatClampNeg) (kd := 15) (len := k.toNatClampNeg) (sl := k.toNatClampNeg) |>.2.1
        have hL : gL (nwM g k.toNatClampNeg) (gn g + 2) = fun _ => 0 := nw_at (g := nw (nw g 19 2 2) 15 k.toNatClampNeg k.toNatClampNeg) (kd := 15) (len := k.toNatClampNeg) (sl := k.toNatClampNeg) |>.2.2.2.1
        rw [eG_arr k15 (by omega), ae_l k15, hN, hL]
        show H1[xz X + (gn g + 2)]? = some (vp_cell _ _)
        rw [← Nat.add_assoc, i2, vp_cell_l, mnI, arrV_new]
  have hS1 : va_S (xAf X) s.heap H1 ((locs ++ [⟨H.size, 0⟩]) ++ [⟨H.size, 1⟩]) := by
    refine ⟨by have := hS.1; omega, fun q h1 h2 => ?_, fun l hl => ?_⟩
    · have hqz : q < xz X := Nat.not_le.mp h2
      rw [q1 q (by omega)]
      exact hS.2.1 q h1 h2
    · rcases List.mem_append.mp hl with hl | hl
      · rcases List.mem_append.mp hl with hl | hl
        · exact hS.2.2 l hl
        · rw [List.mem_singleton.mp hl]; show xz X ≤ H.size; omega
      · rw [List.mem_singleton.mp hl]; show xz X ≤ H.size; omega
  have hwf : wf g → wf (nwM g k.toNatClampNeg) := fun q => by
    have h3 : wf (nw (nw (nw g 19 2 2) 15 k.toNatClampNeg k.toNatClampNeg) 15 k.toNatClampNeg k.toNatClampNeg) := wf_nw (wf_nw (wf_nw q))
    exact h3
  have := SF_next h Ext.nwM hwf hC hE hH hS hl hP1 hS1 (below := below) (e := e)
  have e1 : gn (nwM g k.toNatClampNeg) - gn g0 = gn g - gn g0 + 3 := by show gn g + 1 + 1 + 1 - gn g0 = _; omega
  have e2 : gs (nwM g k.toNatClampNeg) - gs g0 = gs g - gs g0 + (2 + 2 * k.toNatClampNeg) := by show gs g + 2 + k.toNatClampNeg + k.toNatClampNeg - gs g0 = _; omega
  rw [e1, e2] at this
  rw [show ad X (gn g) = H.size by show xz X + gn g = _; omega] at this
  exact this
end RUM
