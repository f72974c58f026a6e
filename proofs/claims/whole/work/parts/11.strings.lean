/-! THE STRING CONSTANTS: constant i (i < 3) is the cell xKa X i, its bytes are the cell xVa X i. -/
def jlen (i : Nat) : Nat := lenJ.getD i 0
def jbyt (i k : Nat) : Int32 := (bytJ.getD i []).getD k 0
/-- what the JDK's formatter is: a reference, or none -/
def xFo (X : CX) : Option Nat := match xF X with
  | .ref t => some t
  | _ => none
def gdH {α : Type} (x : Int32) (k : Option α) : Option α := if (x.toUInt32 % 65536).toInt32 = x then k else none
theorem gdH_some {α : Type} {x : Int32} {k : Option α} {r : α} (h : gdH x k = some r) : narrow .char (.int x) = .int x ∧ k = some r := by
  unfold gdH at h
  split at h
  · next q => exact ⟨by rw [← q]; exact pk_nc x, h⟩
  · cases h
theorem gdH_pos {α : Type} {x : Int32} {k : Option α} (h : (x.toUInt32 % 65536).toInt32 = x) : gdH x k = k := if_pos h
theorem Sem_ofF {X : CX} {M : MD} {d : Nat} {lo : List (Nat × Value)} {g g' : G} {r : Option Value} {av : List Value} (hy : plainFor M.1 = true) (hlo : lv_args 0 av = lo) (hlen : (lg_sl av).length ≤ M.2.2.1) (h : SemF X M d 0 lo [] g r g') : Sem X M d av g r g' := by
  refine ⟨h.1, va_MetF (cc := M.2.1) (maxL := M.2.2.1) (ret := M.2.2.2) hy rfl ?_⟩
  intro p e s m args below meth c s₁ B hml hv
  obtain ⟨rfl, hH, hxE⟩ := hv
  have hts := atoms_spec (ws := .code M.1 M.2.1 M.2.2.1 M.2.2.2 :: wT) B.pre
  have hl := lv_entry av (n := M.2.2.1) hlen
  rw [hlo] at hl
  rw [lg_entry_eq]
  have := h.2 p e (headSpec (.code M.1 M.2.1 M.2.2.1 M.2.2.2 :: wT) (rmD d (gn g' - gn g) (gs g' - gs g))).room s m av.toArray below meth c g s.heap [] _ ⟨B.exec, B.bytes, B.returns, hml, findClass_of_methodNamed B.named, (name_of_methodNamed B.named B.method).1, B.notSynchronized, fun w hw => hts w (List.mem_cons_of_mem _ hw), hxE, hH.2.1, Nat.le_refl _, Nat.le_refl _, Nat.le_refl _, Nat.le_refl _⟩ Ext.rf hH va_S.rf hl
  rw [Nat.sub_self, Nat.sub_self] at this
  exact this
section RUS
variable {X : CX} {M : MD} {d pc : Nat} {lo : List (Nat × Value)} {st : List Value} {g g' : G} {r : Option Value}
theorem old_same {g0 : G} {s : State} {H : Heap} {locs : List Loc} (hsz : s.heap.size = xz X + gn g0) (hH : xH X g H) (hS : va_S (xAf X) s.heap H locs) : ∀ a : Nat, a < (xH0 X).size → ¬ xAf X a → s.heap[a]? = (xH0 X)[a]? := fun a h1 h2 => by
  have h1' : a < xz X := h1
  rw [← hS.2.1 a (by omega) h2]
  exact hH.2.2.1 a h1'
theorem SF_ldcS {ix : Nat} {tx : String} (i pc2 : Nat) (hd : decode M.2.1 pc = .ok (.ldc ix, 2)) (hZ : ∀ U, xS X U → vk_R M.1.cls ix tx (xKa X i) U) (hp : pc2 = pc + 2) (h : SemF X M d pc2 lo (.ref (xKa X i) :: st) g r g') : SemF X M d pc lo st g r g' := by
  subst hp
  refine ⟨h.1, fun p e R s m args below meth c g0 H locs ls hC hE hH hS hl => ?_⟩
  obtain ⟨hx, hb, hr, hml, hown, hnm, hlk, hts, hxE, hsz, -⟩ := id hC
  exact va_ldcS hx hb hown (hZ s hxE.2.2.2.2.2.2.2) hd (h.2 p e R s m args below meth c g0 H locs ls hC hE hH hS hl)
theorem SF_getSV {i ix : Nat} (pc2 : Nat) (hi : i < 3) (hw : Cond.fieldLink M.1.cls ix "java/lang/String" "value" "[B" ∈ wT) (hd : decode M.2.1 pc = .ok (.getfield ix, 3)) (hp : pc2 = pc + 3) (h : SemF X M d pc2 lo (.ref (xVa X i) :: st) g r g') : SemF X M d pc lo (.ref (xKa X i) :: st) g r g' := by
  subst hp
  refine ⟨h.1, fun p e R s m args below meth c g0 H locs ls hC hE hH hS hl => ?_⟩
  obtain ⟨hx, hb, hr, hml, hown, hnm, hlk, hts, hxE, hsz, -⟩ := id hC
  have hk := vk_S.kept hxE.2.2.2.2.2.2.2.1 (old_same hsz hH hS)
  exact vk_getf hx hb (hk.1 i hi).2.2.1 hS hown (hts _ hw) (fun x h9 => h9) hd (h.2 p e R s m args below meth c g0 H locs ls hC hE hH hS hl)
theorem SF_getSC {i ix : Nat} (pc2 : Nat) (hi : i < 3) (hw : Cond.fieldLink M.1.cls ix "java/lang/String" "coder" "B" ∈ wT) (hd : decode M.2.1 pc = .ok (.getfield ix, 3)) (hp : pc2 = pc + 3) (h : SemF X M d pc2 lo (.int (0 : Int32) :: st) g r g') : SemF X M d pc lo (.ref (xKa X i) :: st) g r g' := by
  subst hp
  refine ⟨h.1, fun p e R s m args below meth c g0 H locs ls hC hE hH hS hl => ?_⟩
  obtain ⟨hx, hb, hr, hml, hown, hnm, hlk, hts, hxE, hsz, -⟩ := id hC
  have hk := vk_S.kept hxE.2.2.2.2.2.2.2.1 (old_same hsz hH hS)
  exact vk_getf hx hb (hk.1 i hi).2.1 hS hown (hts _ hw) (fun x h9 => h9) hd (h.2 p e R s m args below meth c g0 H locs ls hC hE hH hS hl)
theorem SF_getsC {ix : Nat} (pc2 : Nat) (hw : Cond.fieldLink M.1.cls ix "java/lang/String" "COMPACT_STRINGS" "Z" ∈ wT) (hd : decode M.2.1 pc = .ok (.getstatic ix, 3)) (hp : pc2 = pc + 3) (h : SemF X M d pc2 lo (.int (1 : Int32) :: st) g r g') : SemF X M d pc lo st g r g' := by
  subst hp
  refine ⟨h.1, fun p e R s m args below meth c g0 H locs ls hC hE hH hS hl => ?_⟩
  obtain ⟨hx, hb, hr, hml, hown, hnm, hlk, hts, hxE, hsz, -⟩ := id hC
  exact va_gets hx hb (va_Z.kept hxE.2.2.2.2.2.2.2.2.2.2.2.2.1 (old_same hsz hH hS)) hS hown (hts _ hw) (fun x h9 => h9) hd (h.2 p e R s m args below meth c g0 H locs ls hC hE hH hS hl)
theorem SF_getsF {ix : Nat} (pc2 : Nat) (hw : Cond.fieldLink M.1.cls ix "jdk/internal/util/Preconditions" "SIOOBE_FORMATTER" "Ljava/util/function/BiFunction;" ∈ wT) (hd : decode M.2.1 pc = .ok (.getstatic ix, 3)) (hp : pc2 = pc + 3) (h : SemF X M d pc2 lo (va_rf (xFo X) :: st) g r g') : SemF X M d pc lo st g r g' := by
  subst hp
  refine ⟨h.1, fun p e R s m args below meth c g0 H locs ls hC hE hH hS hl => ?_⟩
  obtain ⟨hx, hb, hr, hml, hown, hnm, hlk, hts, hxE, hsz, -⟩ := id hC
  have hF : va_rf (xFo X) = xF X := by
    unfold xFo
    rcases hxE.2.2.2.2.2.2.2.2.2.2.2.2.2.2 with q | ⟨t, q⟩ <;> rw [q] <;> rfl
  rw [hF] at h
  exact va_gets hx hb (va_Z.kept hxE.2.2.2.2.2.2.2.2.2.2.2.2.2.1 (old_same hsz hH hS)) hS hown (hts _ hw) (fun x h9 => h9) hd (h.2 p e R s m args below meth c g0 H locs ls hC hE hH hS hl)
theorem SF_tbald {i : Nat} {k : Int32} (pc2 : Nat) (hi : i < 3) (hd : decode M.2.1 pc = .ok (.baload, 1)) (hin : vp_in k (jlen i)) (hp : pc2 = pc + 1) (h : SemF X M d pc2 lo (.int (jbyt i k.toNatClampNeg) :: st) g r g') : SemF X M d pc lo (.int k :: .ref (xVa X i) :: st) g r g' := by
  subst hp
  refine ⟨h.1, fun p e R s m args below meth c g0 H locs ls hC hE hH hS hl => ?_⟩
  obtain ⟨hx, hb, hr, hml, hown, hnm, hlk, hts, hxE, hsz, -⟩ := id hC
  have hk := vk_S.kept hxE.2.2.2.2.2.2.2.1 (old_same hsz hH hS)
  exact va_tb hx hb (hk.1 i hi).2.2.2 hS hin rfl hd (h.2 p e R s m args below meth c g0 H locs ls hC hE hH hS hl)
theorem SF_talen {i : Nat} (pc2 : Nat) (hi : i < 3) (hd : decode M.2.1 pc = .ok (.arraylength, 1)) (hp : pc2 = pc + 1) (h : SemF X M d pc2 lo (.int (nI (jlen i)) :: st) g r g') : SemF X M d pc lo (.ref (xVa X i) :: st) g r g' := by
  subst hp
  refine ⟨h.1, fun p e R s m args below meth c g0 H locs ls hC hE hH hS hl => ?_⟩
  obtain ⟨hx, hb, hr, hml, hown, hnm, hlk, hts, hxE, hsz, -⟩ := id hC
  have hk := vk_S.kept hxE.2.2.2.2.2.2.2.1 (old_same hsz hH hS)
  exact va_tlen hx hb (hk.1 i hi).2.2.2 hS rfl hd (h.2 p e R s m args below meth c g0 H locs ls hC hE hH hS hl)

/-- a String's method -/
def MIt (M1 : MD) (n : Nat) : Prop := Cond.code M1.1 M1.2.1 M1.2.2.1 M1.2.2.2 ∈ wT ∧ Cond.instanceMethod M1.1 ∈ wT ∧ Cond.selects "java/lang/String" M1.1 M1.1 ∈ wT ∧ Cond.initialized M1.1.cls ∈ wT ∧ (M1.1.cls ≠ "java/lang/invoke/MethodHandle" ∧ M1.1.cls ≠ "java/lang/invoke/VarHandle" ∧ (parseMethodDescriptor M1.1.desc).map (fun d => d.parameters.length) = some n) ∧ M1.2.2.1 ≤ 45
theorem SF_callT {M1 : MD} {d1 ix n i : Nat} {As rest : List Value} {v : Int32} {g1 : G} (pc2 : Nat) (hi : i < 3) (mi : MIt M1 n) (hw : Cond.methodLink M.1.cls ix M1.1 ∈ wT) (hd : decode M.2.1 pc = .ok (.invokevirtual ix, 3)) (hd1 : d1 + 1 ≤ d) (hS1 : Sem X M1 d1 (.ref (xKa X i) :: As) g (some (.int v)) g1) (hn : As.length = n) (hst : st = As.reverse ++ .ref (xKa X i) :: rest) (hrest : (rest.map fun v => v.category).sum ≤ 8) (hp : pc2 = pc + 3) (h : SemF X M d pc2 lo (.int v :: rest) g1 r g') : SemF X M d pc lo st g r g' := by
  subst hp
  obtain ⟨w1, w2, w3, w4, ⟨y1, y2, y3⟩, hm45⟩ := mi
  refine ⟨hS1.1.tr h.1, fun p e R s m args below meth c g0 H locs ls hC hE hH hS hl => ?_⟩
  obtain ⟨hx, hb, hr, hml, hown, hnm, hlk, hts, hxE, hsz, hfr, hlo, hce, hsl⟩ := id hC
  have a1 := hE.1
  have a2 := hS1.1.1
  have a3 := hE.2.1
  have a4 := hS1.1.2.1
  have a5 := h.1.1
  have a6 := h.1.2.1
  have hk := vk_S.kept hxE.2.2.2.2.2.2.2.1 (old_same hsz hH hS)
  refine W_run (va_runV (Ts := wT) ⟨hx, hb, hml, hown, hts⟩ hS1.2 (C := "java/lang/String") (index := ix) (n := n) ⟨⟨rfl, rfl, by show d1 + 1 ≤ _; omega, by show 8 + (M1.2.2.1 + 11) + 64 * d1 ≤ _; omega, wT_pay hts w1, List.mem_cons_self, hts _ w1, hts _ w4, ⟨y1, y2⟩, plen y3, hts _ hw⟩, hts _ w2, hts _ w3⟩ ⟨blind X _ g, vk_recv hk hi hS, fun U hU hW => ⟨rfl, by rw [hU]; exact hH, xE.moved hW hxE⟩⟩ rfl hn hl.1 hst (lv_room hrest) hd ⟨by omega, by omega⟩) hS (SF_after h hS1.1 hC hE hl)
theorem RT_y {x x' : Int32} (hr0 : M.2.2.2 = some .byte) (hn : narrow .byte (.int x) = .int x) (hd : decode M.2.1 pc = .ok (.ireturn, 1)) (h : some (x, g) = some (x', g')) : SemF X M d pc lo [.int x] g (some (.int x')) g' := by
  cases h
  exact SF_zret hr0 hn hd
end RUS
