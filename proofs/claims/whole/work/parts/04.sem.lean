/-! THE JUDGEMENTS over the pure heap: SemF (a frame), Sem (a method). -/
/-- the tables' words that a callee may be handed -/
def wT : List Cond := lw_tbl.filter goodWord
theorem in_wT {w : Cond} (h : w ∈ lw_tbl) (hg : goodWord w = true) : w ∈ wT := List.mem_filter.mpr ⟨h, hg⟩
theorem in_tb {w : Cond} (i : Nat) (h : tables_1[i]? = some w) (hg : goodWord w = true) : w ∈ wT := in_wT (List.mem_append_right _ (List.mem_of_getElem? h)) hg
theorem in_sl {w : Cond} (i : Nat) (h : (k2_sels lw_privs)[i]? = some w) (hg : goodWord w = true) : w ∈ wT := in_wT (List.mem_append_left _ (List.mem_of_getElem? h)) hg
def nestL : List (Nat × MethodName) := [(19, yX4_init), (32, yX1_init), (39, yX2_init), (46, yX3_init), (53, yX6_init), (106, yX10_init)]
def xAOA (U : State) : Prop := (Cond.arrayOver (.array .long)).before #[] U = true
theorem xAOA.moved {u U : State} (hW : u.WarmedH U.vm) (h : xAOA u) : xAOA U := by
  have hvm := hW.alike
  have h' := h
  unfold xAOA Cond.before Cond.holds at h'
  simp only [Cond.value] at h'
  unfold xAOA Cond.before Cond.holds
  simp only [Cond.value]
  cases h1 : u.vm.findClass (FieldType.array .long).toString with
  | none => rw [h1] at h'; simp at h'
  | some comp =>
    rw [h1, Option.bind_some] at h'
    have f1 : U.vm.findClass (FieldType.array .long).toString = some comp := by rw [hvm.findClass]; exact h1
    rw [f1, Option.bind_some]
    have hi : (U.vm.classes.findIdx? fun (x : Class) => match x.kind with | .array component _ => component == comp | _ => false) = (u.vm.classes.findIdx? fun (x : Class) => match x.kind with | .array component _ => component == comp | _ => false) := by
      have hb : U.vm.bare = u.vm.bare := by first | exact hvm.bare_eq | exact hvm.bare_eq.symm
      have h9 := (va_idx_bare U.vm comp).symm.trans ((congrArg (fun v : Vm => (v.classes.findIdx? fun (x : Class) => match x.kind with | .array component _ => component == comp | _ => false)) hb).trans (va_idx_bare u.vm comp))
      exact h9
    cases h2 : (u.vm.classes.findIdx? fun (x : Class) => match x.kind with | .array component _ => component == comp | _ => false) with
    | none =>
      exfalso
      have h3 := (congrArg (fun o : Option Nat => (o.bind (fun c => (u.vm.classes[c]?).map fun (k : Class) => match k.kind with | .array _ ty => decide (ty = FieldType.array .long) && decide (u.vm.findClass ("[" ++ (FieldType.array .long).toString) = some c) | _ => false) == some true)) h2).symm.trans h'
      simp at h3
    | some c =>
      have h3 := (congrArg (fun o : Option Nat => (o.bind (fun c => (u.vm.classes[c]?).map fun (k : Class) => match k.kind with | .array _ ty => decide (ty = FieldType.array .long) && decide (u.vm.findClass ("[" ++ (FieldType.array .long).toString) = some c) | _ => false) == some true)) h2).symm.trans h'
      refine (congrArg (fun o : Option Nat => (o.bind (fun c => (U.vm.classes[c]?).map fun (k : Class) => match k.kind with | .array _ ty => decide (ty = FieldType.array .long) && decide (U.vm.findClass ("[" ++ (FieldType.array .long).toString) = some c) | _ => false) == some true)) (hi.trans h2)).trans ?_
      simp only [Option.bind_some] at h3 ⊢
      cases hk : u.vm.classes[c]? with
      | none => rw [hk] at h3; simp at h3
      | some k =>
        obtain ⟨k', hk', he⟩ := hvm.2.2 _ _ hk
        have hkk : k'.kind = k.kind := by rw [he]
        rw [hk] at h3
        rw [hk', hvm.findClass]
        simp only [Option.map_some] at h3 ⊢
        rw [hkk]
        exact h3
/-- the String constants, their lengths and bytes -/
def lenJ : List Nat := [77, 12, 76]
def bytJ : List (List Int32) := [[32, 102, 105, 101, 108, 100, 32, 114, 111, 119, 32, 112, 97, 105, 114, 32, 101, 114, 114, 97, 110, 100, 32, 109, 111, 111, 100, 32, 109, 97, 121, 32, 99, 111, 115, 116, 115, 32, 116, 119, 105, 110, 32, 102, 114, 111, 109, 32, 104, 101, 105, 103, 104, 116, 32, 104, 111, 112, 32, 99, 111, 108, 117, 109, 110, 32, 97, 110, 100, 32, 111, 114, 32, 110, 111, 116, 32], [59, 58, 43, 45, 42, 40, 41, 91, 93, 61, 60, 62], [112, 97, 105, 114, 32, 116, 119, 105, 110, 32, 109, 111, 111, 100, 32, 102, 114, 111, 109, 32, 104, 101, 105, 103, 104, 116, 32, 104, 111, 112, 32, 114, 111, 119, 32, 99, 111, 108, 117, 109, 110, 32, 102, 105, 101, 108, 100, 32, 109, 97, 121, 32, 99, 111, 115, 116, 115, 32, 101, 114, 114, 97, 110, 100, 32, 111, 114, 32, 97, 110, 100, 32, 110, 111, 116, 32]]
def xS (X : CX) (U : State) : Prop := vk_S 3 lenJ bytJ (xKa X) (xVa X) (xAf X) U (xH0 X) ∧ vk_R "TwinSpanModel" 83 " field row pair errand mood may costs twin from height hop column and or not " (xKa X 0) U ∧ vk_R "TwinSpanModel" 121 ";:+-*()[]=<>" (xKa X 1) U ∧ vk_R "TwinSpan$Reader" 109 ";:+-*()[]=<>" (xKa X 1) U ∧ vk_R "TwinSpan$Reader" 116 "pair twin mood from height hop row column field may costs errand or and not " (xKa X 2) U ∧ va_Z "java/lang/String" "COMPACT_STRINGS" "Z" (.int 1) (xAf X) U (xH0 X) ∧ va_Z "jdk/internal/util/Preconditions" "SIOOBE_FORMATTER" "Ljava/util/function/BiFunction;" (xF X) (xAf X) U (xH0 X) ∧ (xF X = .null ∨ ∃ t, xF X = .ref t)
/-- what holds of the machine at every method's entry -/
def xE (X : CX) (U : State) : Prop := va_K (xD X) vwCl (xT X) U ∧ (∀ q ∈ nestL, va_Nw (.methodLinkNest "TwinSpan" q.1 q.2 "TwinSpan") U) ∧ va_AO "TwinSpan$Board" U ∧ va_AO "TwinSpan$Tray" U ∧ xAOA U ∧ va_X (xb X) (xL X) (xs X) U (xH0 X) ∧ xb X < xz X ∧ xS X U
theorem xE.moved {X : CX} {s U : State} (hW : s.WarmedH U.vm) (h : xE X s) : xE X U := by
  obtain ⟨h1, h2, h3, h4, h5, h6, h7, k1, k2, k3, k4, k5, k6, k7, k8⟩ := h
  exact ⟨va_K.moved hW.alike h1, fun q hq => va_Nw.warmM hW (h2 q hq), va_AO.moved hW.alike h3, va_AO.moved hW.alike h4, h5.moved hW, va_X.moved hW.alike h6, h7, vk_S.moved hW.alike k1, k2.warm hW, k3.warm hW, k4.warm hW, k5.warm hW, va_Z.moved hW.alike k6, va_Z.moved hW.alike k7, k8⟩
/-- a method: its name, its bytes, how many locals, what it returns -/
abbrev MD : Type := MethodName × ByteArray × Nat × Option FieldType
/-- how it ends -/
def xQ (X : CX) (r : Option Value) (g' : G) : Array Value → State → Outcome → State → Prop := fun _ st oc t => oc = .returned r ∧ xH X g' t.heap ∧ va_F (xAf X) st t
def rmD (d c s : Nat) : Room := { frames := d, cells := c, slots := s, locals := 64 * d }
/-- a frame's surroundings -/
def FC (X : CX) (M : MD) (d : Nat) (g0 g' : G) (p : Program) (R : Room) (s : State) (m : MethodId) (args : Array Value) (meth : Method) (c : Code) : Prop :=
  p.tables.exec = Jvm.exec ∧ c.code = M.2.1 ∧ meth.sig.returnType = M.2.2.2 ∧ c.maxLocals = M.2.2.1 ∧ s.vm.findClass M.1.cls = some m.cls ∧ meth.name = M.1.name ∧ meth.locks = false ∧ (∀ w ∈ wT, w.before args s = true) ∧ xE X s ∧ s.heap.size = xz X + gn g0 ∧ d ≤ R.frames ∧ 64 * d ≤ R.locals ∧ gn g' - gn g0 ≤ R.cells ∧ gs g' - gs g0 ≤ R.slots
/-- THE FRAME at pc with these locals and this stack, over the heap g, returns r and leaves the heap g' -/
def SemF (X : CX) (M : MD) (d pc : Nat) (lo : List (Nat × Value)) (st : List Value) (g : G) (r : Option Value) (g' : G) : Prop :=
  Ext g g' ∧ ∀ (p : Program) (e : Env) (R : Room) (s : State) (m : MethodId) (args : Array Value) (below : List Frame) (meth : Method) (c : Code) (g0 : G) (H : Heap) (locs : List Loc) (ls : Array Slot),
    FC X M d g0 g' p R s m args meth c → Ext g0 g → xH X g H → va_S (xAf X) s.heap H locs → lv_has ls M.2.2.1 lo →
    W p (xl X) e R s m args below meth c H locs (gn g - gn g0) (gs g - gs g0) (MQ below (xQ X r g') args s (gn g' - gn g0) (gs g' - gs g0) (xAf X)) (F0 m pc ls st)
/-- THE METHOD, called with av over the heap g, returns r and leaves the heap g' -/
def Sem (X : CX) (M : MD) (d : Nat) (av : List Value) (g : G) (r : Option Value) (g' : G) : Prop :=
  Ext g g' ∧ Met (xl X) M.1 (.code M.1 M.2.1 M.2.2.1 M.2.2.2 :: wT) (rmD d (gn g' - gn g) (gs g' - gs g)) (va_Pc av (fun U => xH X g U.heap ∧ xE X U)) (xQ X r g') (gn g' - gn g) (gs g' - gs g) (xAf X)
/-- a frame's row that changes neither heap nor locals -/
theorem SF_lift {X : CX} {M : MD} {d pc pc2 : Nat} {lo : List (Nat × Value)} {st st2 : List Value} {g g' : G} {r : Option Value} (h : SemF X M d pc2 lo st2 g r g')
    (k : ∀ (p : Program) (e : Env) (R : Room) (s : State) (m : MethodId) (args : Array Value) (below : List Frame) (meth : Method) (c : Code) (H : Heap) (locs : List Loc) (cells slots : Nat) (Q : State → Prop) (ls : Array Slot), p.tables.exec = Jvm.exec → c.code = M.2.1 → s.vm.findClass M.1.cls = some m.cls → (∀ w ∈ wT, w.before args s = true) → lv_has ls M.2.2.1 lo →
      W p (xl X) e R s m args below meth c H locs cells slots Q (F0 m pc2 ls st2) → W p (xl X) e R s m args below meth c H locs cells slots Q (F0 m pc ls st)) : SemF X M d pc lo st g r g' :=
  ⟨h.1, fun p e R s m args below meth c g0 H locs ls hC hE hH hS hl => k p e R s m args below meth c H locs _ _ _ ls hC.1 hC.2.1 hC.2.2.2.2.1 hC.2.2.2.2.2.2.2.1 hl (h.2 p e R s m args below meth c g0 H locs ls hC hE hH hS hl)⟩
/-- a row that changes the locals -/
theorem SF_liftL {X : CX} {M : MD} {d pc pc2 : Nat} {lo lo2 : List (Nat × Value)} {st st2 : List Value} {g g' : G} {r : Option Value} (h : SemF X M d pc2 lo2 st2 g r g')
    (k : ∀ (p : Program) (e : Env) (R : Room) (s : State) (m : MethodId) (args : Array Value) (below : List Frame) (meth : Method) (c : Code) (H : Heap) (locs : List Loc) (cells slots : Nat) (Q : State → Prop) (ls : Array Slot), p.tables.exec = Jvm.exec → c.code = M.2.1 → lv_has ls M.2.2.1 lo →
      (∀ ls' : Array Slot, lv_has ls' M.2.2.1 lo2 → W p (xl X) e R s m args below meth c H locs cells slots Q (F0 m pc2 ls' st2)) → W p (xl X) e R s m args below meth c H locs cells slots Q (F0 m pc ls st)) : SemF X M d pc lo st g r g' :=
  ⟨h.1, fun p e R s m args below meth c g0 H locs ls hC hE hH hS hl => k p e R s m args below meth c H locs _ _ _ ls hC.1 hC.2.1 hl (fun ls' hl' => h.2 p e R s m args below meth c g0 H locs ls' hC hE hH hS hl')⟩
/-- fewer locals -/
theorem SF_sub {X : CX} {M : MD} {d pc : Nat} {lo lo2 : List (Nat × Value)} {st : List Value} {g g' : G} {r : Option Value} (ks : List Nat) (hk : lv_pick lo ks = lo2) (h : SemF X M d pc lo2 st g r g') : SemF X M d pc lo st g r g' :=
  ⟨h.1, fun p e R s m args below meth c g0 H locs ls hC hE hH hS hl => h.2 p e R s m args below meth c g0 H locs ls hC hE hH hS (lv_sub hl ks hk)⟩
theorem SF_br {X : CX} {M : MD} {d pc p1 p2 : Nat} {lo : List (Nat × Value)} {st s1 : List Value} {g g' : G} {r : Option Value} {C : Prop} (h1 : C → SemF X M d p1 lo s1 g r g') (h2 : ¬ C → SemF X M d p2 lo s1 g r g')
    (k : ∀ (p : Program) (e : Env) (R : Room) (s : State) (m : MethodId) (args : Array Value) (below : List Frame) (meth : Method) (c : Code) (H : Heap) (locs : List Loc) (cells slots : Nat) (Q : State → Prop) (ls : Array Slot), p.tables.exec = Jvm.exec → c.code = M.2.1 →
      (C → W p (xl X) e R s m args below meth c H locs cells slots Q (F0 m p1 ls s1)) → (¬ C → W p (xl X) e R s m args below meth c H locs cells slots Q (F0 m p2 ls s1)) → W p (xl X) e R s m args below meth c H locs cells slots Q (F0 m pc ls st)) : SemF X M d pc lo st g r g' :=
  ⟨(Classical.em C).elim (fun q => (h1 q).1) (fun q => (h2 q).1), fun p e R s m args below meth c g0 H locs ls hC hE hH hS hl => k p e R s m args below meth c H locs _ _ _ ls hC.1 hC.2.1 (fun q => (h1 q).2 p e R s m args below meth c g0 H locs ls hC hE hH hS hl) (fun q => (h2 q).2 p e R s m args below meth c g0 H locs ls hC hE hH hS hl)⟩
