/-! NEW CELLS, CALLS, RETURNS. -/
def NW (own : String) (ix ci N : Nat) : Prop := ∃ (C : String) (T : u_T) (ty : Nat → FieldType), CI ci C T N ty ∧ Cond.classLink own ix C ∈ wT ∧ Cond.instantiable C N ∈ wT ∧ Cond.initialized C ∈ wT
/-- a method that is called by a receiver of the class ci with n arguments -/
def MIv (M1 : MD) (ci n : Nat) : Prop := ∃ (C : String) (T : u_T) (N : Nat), vwCl[ci]? = some (C, T, N) ∧ ci < 13 ∧ Cond.code M1.1 M1.2.1 M1.2.2.1 M1.2.2.2 ∈ wT ∧ Cond.instanceMethod M1.1 ∈ wT ∧ Cond.selects C M1.1 M1.1 ∈ wT ∧ Cond.initialized M1.1.cls ∈ wT ∧ (M1.1.cls ≠ "java/lang/invoke/MethodHandle" ∧ M1.1.cls ≠ "java/lang/invoke/VarHandle" ∧ (parseMethodDescriptor M1.1.desc).map (fun d => d.parameters.length) = some n) ∧ M1.2.2.1 ≤ 45
def MIs (M1 : MD) (n : Nat) : Prop := Cond.code M1.1 M1.2.1 M1.2.2.1 M1.2.2.2 ∈ wT ∧ Cond.static M1.1 ∈ wT ∧ Cond.initialized M1.1.cls ∈ wT ∧ (M1.1.cls ≠ "java/lang/invoke/MethodHandle" ∧ M1.1.cls ≠ "java/lang/invoke/VarHandle" ∧ (parseMethodDescriptor M1.1.desc).map (fun d => d.parameters.length) = some n) ∧ M1.2.2.1 ≤ 45
def MIi (M1 : MD) (n : Nat) : Prop := Cond.code M1.1 M1.2.1 M1.2.2.1 none ∈ wT ∧ Cond.instanceMethod M1.1 ∈ wT ∧ Cond.initialized M1.1.cls ∈ wT ∧ (M1.1.cls ≠ "java/lang/invoke/MethodHandle" ∧ M1.1.cls ≠ "java/lang/invoke/VarHandle" ∧ (parseMethodDescriptor M1.1.desc).map (fun d => d.parameters.length) = some n) ∧ M1.2.2.1 ≤ 45 ∧ M1.1.name = "<init>" ∧ M1.2.2.2 = none
theorem wT_good {w : Cond} (h : w ∈ wT) : (w.onTables && w.keeps) = true ∨ ∃ ty, w = .arrayClass ty := good_of_word (List.mem_filter.mp h).2
theorem wT_pay {args : Array Value} {s : State} (hts : ∀ w ∈ wT, w.before args s = true) {w0 : Cond} (h0 : w0 ∈ wT) : ∀ w ∈ w0 :: wT, ∀ (a' : Array Value) (U : State), s.WarmedH U.vm → w.before a' U = true := fun w hw a' U hW => by
  rcases List.mem_cons.mp hw with rfl | h
  · exact word_at hW (wT_good h0) (hts _ h0)
  · exact word_at hW (wT_good h) (hts _ h)
theorem blind (X : CX) (av : List Value) (g : G) : FrameBlind (va_Pc av (fun U => xH X g U.heap ∧ xE X U)) := fun a U gf mk q => ⟨q.1, q.2.1, xE.moved (State.WarmedH.refl U) q.2.2⟩
theorem plen {y : MethodName} {n : Nat} (h : (parseMethodDescriptor y.desc).map (fun d => d.parameters.length) = some n) : ∀ sig, parseMethodDescriptor y.desc = some sig → n = sig.parameters.length := fun sig hs => by
  rw [hs] at h
  exact (Option.some.inj h).symm
theorem W_run {X : CX} {p : Program} {l : Launch} {e : Env} {R : Room} {s : State} {m : MethodId} {args : Array Value} {below : List Frame} {meth : Method} {c : Code} {H : Heap} {locs : List Loc} {cells slots mc ms pc : Nat} {Q : State → Prop} {ls : Array Slot} {st0 rest : List Value} {a : Array Value} {r1 : Option Value} {g1 : G} (hr : va_Run p l e R s m args below meth c H locs cells slots mc ms (F0 m pc ls st0) rest (xQ X r1 g1 a) (xAf X)) (hS : va_S (xAf X) s.heap H locs)
    (kk : ∀ (H1 : Heap) (locs1 : List Loc), xH X g1 H1 → va_S (xAf X) s.heap H1 locs1 → W p l e R s m args below meth c H1 locs1 (cells + mc) (slots + ms) Q (F0 m (pc + 3) ls (r1.toList ++ rest))) : W p l e R s m args below meth c H locs cells slots Q (F0 m pc ls st0) := by
  intro T hT Xs
  obtain ⟨v, st₀, t, T', L, h0, X', hL, e1, e2, ⟨hv, hx1, hz, hk⟩, step⟩ := hr T hT Xs
  cases hv
  rw [h0] at hz hk
  obtain ⟨t2, a1, b1⟩ := kk T'.heap (locs ++ L) (by rw [e1]; exact hx1)
    ⟨Nat.le_trans hS.1 (by rw [e1]; exact hz), fun q h1 h2 => by rw [e1, hk q (Nat.lt_of_lt_of_le h1 hS.1) h2]; exact hS.2.1 q h1 h2, fun q hq => by
      rcases List.mem_append.mp hq with h | h
      · exact hS.2.2 q h
      · exact hL q h⟩ T' rfl X'
  exact ⟨t2, step t2 a1, b1⟩
section RUC
variable {X : CX} {M : MD} {d pc : Nat} {lo : List (Nat × Value)} {st : List Value} {g g' : G} {r : Option Value}
/-- the new cell's address -/
theorem new_at {s : State} {H1 : Heap} {q gn0 : Nat} {e : va_E} (hsz : s.heap.size = xz X + gn0) (h0 : gn0 ≤ gn g) (hz : H1.size ≤ s.heap.size + (gn g - gn0 + 1)) (hP : va_P (xD X) vwCl (wG X g ++ [(q, e)]) H1) (hD : va_D (xAf X) (wG X g ++ [(q, e)])) : q = ad X (gn g) := by
  have hl : (wG X g ++ [(q, e)])[gn g]? = some (q, e) := by
    rw [List.getElem?_append_right (by rw [wG_len]; exact Nat.le_refl _), wG_len, Nat.sub_self]
    rfl
  have h1 : q < H1.size := (hP _ _ hl).lt
  have h2 : xz X ≤ q := hD.2 _ _ hl
  have h3 : ∀ i, i < gn g → q ≠ xz X + i := fun i hi hq => by
    have hi' : (wG X g ++ [(q, e)])[i]? = some (ad X i, eG X g i) := by
      rw [List.getElem?_append_left (by rw [wG_len]; exact hi)]
      exact wG_get X g hi
    have := hD.1 _ _ _ _ hl hi' hq
    omega
  have h4 : ¬ (q - xz X < gn g) := fun h => h3 _ h (by omega)
  show q = xz X + gn g
  omega
theorem SF_new {ix ci N : Nat} (pc2 : Nat) (hN : NW M.1.cls ix ci N) (hd : decode M.2.1 pc = .ok (.new ix, 3)) (hp : pc2 = pc + 3) (h : SemF X M d pc2 lo (.ref (ad X (gn g)) :: st) (nw g ci 0 N) r g') : SemF X M d pc lo st g r g' := by
  subst hp
  obtain ⟨C, T, ty, ⟨c1, c2, c3, c4, c5, c6, c7, c8⟩, w1, w2, w3⟩ := hN
  refine ⟨Ext.nw'.tr h.1, fun p e R s m args below meth c g0 H locs ls hC hE hH hS hl => ?_⟩
  obtain ⟨hx, hb, hr, hml, hown, hnm, hlk, hts, hxE, hsz, hfr, hlo, hce, hsl⟩ := id hC
  have hn1 : gn g + 1 ≤ gn g' := h.1.1
  have hs1 : gs g + N ≤ gs g' := h.1.2.1
  have hE1 := hE.1
  have hE2 := hE.2.1
  have hfs : ∀ j, j < N → defaultValue (ty j) = vp_V ((List.range N).map (fv X (nw g ci 0 N) (gn g))) j := by
    intro j hj
    have e1 : vp_V ((List.range N).map (fv X (nw g ci 0 N) (gn g))) j = fv X (nw g ci 0 N) (gn g) j := by
      simp [vp_V, hj]
    rw [e1]
    obtain ⟨n1, n2, n3, n4, n5⟩ := nw_at (g := g) (kd := ci) (len := 0) (sl := N)
    rcases c8 j hj with ⟨f1, f2⟩ | ⟨f1, f2⟩ | ⟨f1, f2⟩
    · rw [f2, fv_i n1 f1, n3]
    · rw [f2, fv_l n1 f1, n4]
    · rw [f2, fv_r n1 f1, n5]
      rfl
  refine va_new (D := xD X) (ci := ci) (C := C) (T := T) (N := N) (fs := (List.range N).map (fv X (nw g ci 0 N) (gn g))) hx hb hts c2 ty c3 hown (hts _ w1) (hts _ w2) (hts _ w3) hxE.1 hH.1 (wG_D X g) hS (fun q hq => Nat.le_trans (by omega) hq) c1 hfs (by omega) (by omega) hd (fun q H1 hP1 hD1 hS1 => ?_)
  refine W_size fun hz => ?_
  have hq := new_at hsz hE1 hz hP1 hD1
  subst hq
  rw [wG_push (g' := nw g ci 0 N) rfl (fun b hb => eG_nw (Nat.ne_of_lt hb)) (by rw [eG_obj nw_at.1 c6, c5])] at hP1
  have := SF_next h Ext.nw' wf_nw hC hE hH hS hl hP1 hS1 (below := below) (e := e)
  have e1 : gn (nw g ci 0 N) - gn g0 = gn g - gn g0 + 1 := by show gn g + 1 - gn g0 = _; omega
  have e2 : gs (nw g ci 0 N) - gs g0 = gs g - gs g0 + N := by show gs g + N - gs g0 = _; omega
  rw [e1, e2] at this
  exact this
theorem SF_newa {atype : ArrayType} {ty : FieldType} {kd : Nat} {n : Int32} (pc2 : Nat) (hd : decode M.2.1 pc = .ok (.newarray atype, 2)) (hty : newarray.typeOf atype = ty) (hkd : kd = 14 ∧ ty = .int ∨ kd = 15 ∧ ty = .long ∨ kd = 16 ∧ ty = .boolean ∨ kd = 13 ∧ ty = .byte) (hw : Cond.arrayClass ty ∈ wT) (hn : ¬ n < 0) (hb8 : n.toNatClampNeg * 8 ≤ 536870912) (hp : pc2 = pc + 2) (h : SemF X M d pc2 lo (.ref (ad X (gn g)) :: st) (nw g kd n.toNatClampNeg n.toNatClampNeg) r g') : SemF X M d pc lo (.int n :: st) g r g' := by
  subst hp
  refine ⟨Ext.nw'.tr h.1, fun p e R s m args below meth c g0 H locs ls hC hE hH hS hl => ?_⟩
  obtain ⟨hx, hb, hr, hml, hown, hnm, hlk, hts, hxE, hsz, hfr, hlo, hce, hsl⟩ := id hC
  have hn1 : gn g + 1 ≤ gn g' := h.1.1
  have hs1 : gs g + n.toNatClampNeg ≤ gs g' := h.1.2.1
  have hE1 := hE.1
  have hE2 := hE.2.1
  obtain ⟨n1, n2, n3, n4, n5⟩ := nw_at (g := g) (kd := kd) (len := n.toNatClampNeg) (sl := n.toNatClampNeg)
  have hcell : ∀ cA : ClassId, vp_cell cA (ae X (nw g kd n.toNatClampNeg n.toNatClampNeg) (gn g)) = arrV cA n.toNatClampNeg (fun _ => defaultValue ty) := by
    intro cA
    rcases hkd with ⟨rfl, rfl⟩ | ⟨rfl, rfl⟩ | ⟨rfl, rfl⟩ | ⟨rfl, rfl⟩
    · rw [ae_i n1 (by omega), n2, n3, vp_cell_i]; rfl
    · rw [ae_l n1, n2, n4, vp_cell_l]; rfl
    · rw [ae_i n1 (by omega), n2, n3, vp_cell_i]; rfl
    · rw [ae_i n1 (by omega), n2, n3, vp_cell_i]; rfl
  have hby : n.toNatClampNeg * componentBytes ty ≤ 536870912 := by
    rcases hkd with ⟨rfl, rfl⟩ | ⟨rfl, rfl⟩ | ⟨rfl, rfl⟩ | ⟨rfl, rfl⟩
    · show n.toNatClampNeg * 4 ≤ _; omega
    · show n.toNatClampNeg * 8 ≤ _; omega
    · show n.toNatClampNeg * 1 ≤ _; omega
    · show n.toNatClampNeg * 1 ≤ _; omega
  have hk13 : 13 ≤ kd := by rcases hkd with ⟨rfl, -⟩ | ⟨rfl, -⟩ | ⟨rfl, -⟩ | ⟨rfl, -⟩ <;> omega
  refine va_newa (D := xD X) (cl := vwCl) hx hb (by rw [hty]; exact hts _ hw) hty hxE.1 hH.1 (wG_D X g) hS (fun q hq => Nat.le_trans (by omega) hq) hcell hn rfl hby (by omega) (by omega) hd (fun q cA H1 hK1 hP1 hD1 hS1 => ?_)
  have hcA : cA = xA X kd := by
    have k1 := (hK1.2 7 (cA, ty) rfl).2
    rcases hkd with ⟨rfl, rfl⟩ | ⟨rfl, rfl⟩ | ⟨rfl, rfl⟩ | ⟨rfl, rfl⟩
    · exact Option.some.inj (Eq.trans (Eq.symm k1) (hxE.1.2 1 (xA X 14, .int) rfl).2)
    · exact Option.some.inj (Eq.trans (Eq.symm k1) (hxE.1.2 2 (xA X 15, .long) rfl).2)
    · exact Option.some.inj (Eq.trans (Eq.symm k1) (hxE.1.2 3 (xA X 16, .boolean) rfl).2)
    · exact Option.some.inj (Eq.trans (Eq.symm k1) (hxE.1.2 0 (xA X 13, .byte) rfl).2)
  subst hcA
  refine W_size fun hz => ?_
  have hq := new_at hsz hE1 hz hP1 hD1
  subst hq
  rw [wG_push (g' := nw g kd n.toNatClampNeg n.toNatClampNeg) rfl (fun b hb => eG_nw (Nat.ne_of_lt hb)) (eG_arr n1 hk13)] at hP1
  have := SF_next h Ext.nw' wf_nw hC hE hH hS hl hP1 hS1 (below := below) (e := e)
  have e1 : gn (nw g kd n.toNatClampNeg n.toNatClampNeg) - gn g0 = gn g - gn g0 + 1 := by show gn g + 1 - gn g0 = _; omega
  have e2 : gs (nw g kd n.toNatClampNeg n.toNatClampNeg) - gs g0 = gs g - gs g0 + n.toNatClampNeg := by show gs g + n.toNatClampNeg - gs g0 = _; omega
  rw [e1, e2] at this
  exact this
theorem SF_anew {ix kd : Nat} {C : String} {n : Int32} (pc2 : Nat) (hd : decode M.2.1 pc = .ok (.anewarray ix, 3)) (hkd : kd = 17 ∧ C = "TwinSpan$Board" ∨ kd = 18 ∧ C = "TwinSpan$Tray") (hw : Cond.classLink M.1.cls ix C ∈ wT) (hn : ¬ n < 0) (hb8 : n.toNatClampNeg * 8 ≤ 536870912) (hp : pc2 = pc + 3) (h : SemF X M d pc2 lo (.ref (ad X (gn g)) :: st) (nw g kd n.toNatClampNeg n.toNatClampNeg) r g') : SemF X M d pc lo (.int n :: st) g r g' := by
  subst hp
  refine ⟨Ext.nw'.tr h.1, fun p e R s m args below meth c g0 H locs ls hC hE hH hS hl => ?_⟩
  obtain ⟨hx, hb, hr, hml, hown, hnm, hlk, hts, hxE, hsz, hfr, hlo, hce, hsl⟩ := id hC
  have hn1 : gn g + 1 ≤ gn g' := h.1.1
  have hs1 : gs g + n.toNatClampNeg ≤ gs g' := h.1.2.1
  have hE1 := hE.1
  have hE2 := hE.2.1
  obtain ⟨n1, n2, n3, n4, n5⟩ := nw_at (g := g) (kd := kd) (len := n.toNatClampNeg) (sl := n.toNatClampNeg)
  have hao : va_AO C s := by
    rcases hkd with ⟨-, rfl⟩ | ⟨-, rfl⟩
    · exact hxE.2.2.1
    · exact hxE.2.2.2.1
  have hk13 : 17 ≤ kd := by omega
  refine va_newq (D := xD X) (cl := vwCl) hx hb hown (hts _ hw) hao hxE.1 hH.1 (wG_D X g) hS (fun q hq => Nat.le_trans (by omega) hq) hn rfl (by omega) (by omega) (by omega) hd (fun q cA H1 hK1 hP1 hD1 hS1 => ?_)
  have hcA : cA = xA X kd := by
    obtain ⟨-, -, -, -, -, k1⟩ := (hK1.2 7 (cA, .object C) rfl).2
    rcases hkd with ⟨rfl, rfl⟩ | ⟨rfl, rfl⟩
    · obtain ⟨-, -, -, -, -, k2⟩ := (hxE.1.2 4 (xA X 17, .object "TwinSpan$Board") rfl).2
      exact Option.some.inj (Eq.trans (Eq.symm k1) k2)
    · obtain ⟨-, -, -, -, -, k2⟩ := (hxE.1.2 5 (xA X 18, .object "TwinSpan$Tray") rfl).2
      exact Option.some.inj (Eq.trans (Eq.symm k1) k2)
  subst hcA
  refine W_size fun hz => ?_
  have hq := new_at hsz hE1 hz hP1 hD1
  subst hq
  rw [wG_push (g' := nw g kd n.toNatClampNeg n.toNatClampNeg) rfl (fun b hb => eG_nw (Nat.ne_of_lt hb)) ((eG_arr n1 (by omega)).trans (by rw [ae_r n1 hk13, n2, n5]; rfl))] at hP1
  have := SF_next h Ext.nw' wf_nw hC hE hH hS hl hP1 hS1 (below := below) (e := e)
  have e1 : gn (nw g kd n.toNatClampNeg n.toNatClampNeg) - gn g0 = gn g - gn g0 + 1 := by show gn g + 1 - gn g0 = _; omega
  have e2 : gs (nw g kd n.toNatClampNeg n.toNatClampNeg) - gs g0 = gs g - gs g0 + n.toNatClampNeg := by show gs g + n.toNatClampNeg - gs g0 = _; omega
  rw [e1, e2] at this
  exact this
/-- behind a call the frame goes on over the callee's heap -/
theorem SF_after {pc2 : Nat} {st2 : List Value} {g1 g0 : G} {p : Program} {e : Env} {R : Room} {s : State} {m : MethodId} {args : Array Value} {below : List Frame} {meth : Method} {c : Code} {ls : Array Slot} (h : SemF X M d pc2 lo st2 g1 r g') (h1 : Ext g g1) (hC : FC X M d g0 g' p R s m args meth c) (hE : Ext g0 g) (hl : lv_has ls M.2.2.1 lo) : ∀ (H1 : Heap) (locs1 : List Loc), xH X g1 H1 → va_S (xAf X) s.heap H1 locs1 → W p (xl X) e R s m args below meth c H1 locs1 (gn g - gn g0 + (gn g1 - gn g)) (gs g - gs g0 + (gs g1 - gs g)) (MQ below (xQ X r g') args s (gn g' - gn g0) (gs g' - gs g0) (xAf X)) (F0 m pc2 ls st2) := by
  intro H1 locs1 hH1 hS1
  have := h.2 p e R s m args below meth c g0 H1 locs1 ls hC (hE.tr h1) hH1 hS1 hl
  have a1 := hE.1
  have a2 := h1.1
  have a3 := hE.2.1
  have a4 := h1.2.1
  rw [show gn g - gn g0 + (gn g1 - gn g) = gn g1 - gn g0 by omega, show gs g - gs g0 + (gs g1 - gs g) = gs g1 - gs g0 by omega]
  exact this
theorem SF_callV {M1 : MD} {d1 ix ci n b : Nat} {As rest : List Value} {r1 : Option Value} {g1 : G} (pc2 : Nat) (mi : MIv M1 ci n) (hw : Cond.methodLink M.1.cls ix M1.1 ∈ wT) (hd : decode M.2.1 pc = .ok (.invokevirtual ix, 3)) (hd1 : d1 + 1 ≤ d) (hS1 : Sem X M1 d1 (.ref (ad X b) :: As) g r1 g1) (hb0 : gK g b = ci) (hn : As.length = n) (hst : st = As.reverse ++ .ref (ad X b) :: rest) (hrest : (rest.map fun v => v.category).sum ≤ 8) (hp : pc2 = pc + 3) (h : SemF X M d pc2 lo (r1.toList ++ rest) g1 r g') : SemF X M d pc lo st g r g' := by
  subst hp
  obtain ⟨C, T, N, c1, c2, w1, w2, w3, w4, ⟨y1, y2, y3⟩, hm45⟩ := mi
  refine ⟨hS1.1.tr h.1, fun p e R s m args below meth c g0 H locs ls hC hE hH hS hl => ?_⟩
  obtain ⟨hx, hb, hr, hml, hown, hnm, hlk, hts, hxE, hsz, hfr, hlo, hce, hsl⟩ := id hC
  have a1 := hE.1
  have a2 := hS1.1.1
  have a3 := hE.2.1
  have a4 := hS1.1.2.1
  have a5 := h.1.1
  have a6 := h.1.2.1
  refine W_run (va_runV (Ts := wT) ⟨hx, hb, hml, hown, hts⟩ hS1.2 (C := C) (index := ix) (n := n) ⟨⟨rfl, rfl, by show d1 + 1 ≤ _; omega, by show 8 + (M1.2.2.1 + 11) + 64 * d1 ≤ _; omega, wT_pay hts w1, List.mem_cons_self, hts _ w1, hts _ w4, ⟨y1, y2⟩, plen y3, hts _ hw⟩, hts _ w2, hts _ w3⟩ ⟨blind X _ g, va_recv hxE.1 hH.1 c1 (hH.obj hb0 c2), fun U hU hW => ⟨rfl, by rw [hU]; exact hH, xE.moved hW hxE⟩⟩ rfl hn hl.1 hst (lv_room hrest) hd ⟨by omega, by omega⟩) hS (SF_after h hS1.1 hC hE hl)
theorem SF_callS {M1 : MD} {d1 ix n : Nat} {As rest : List Value} {r1 : Option Value} {g1 : G} (pc2 : Nat) (mi : MIs M1 n) (hw : Cond.methodLink M.1.cls ix M1.1 ∈ wT) (hd : decode M.2.1 pc = .ok (.invokestatic ix, 3)) (hd1 : d1 + 1 ≤ d) (hS1 : Sem X M1 d1 As g r1 g1) (hn : As.length = n) (hst : st = As.reverse ++ rest) (hrest : (rest.map fun v => v.category).sum ≤ 8) (hp : pc2 = pc + 3) (h : SemF X M d pc2 lo (r1.toList ++ rest) g1 r g') : SemF X M d pc lo st g r g' := by
  subst hp
  obtain ⟨w1, w2, w4, ⟨y1, y2, y3⟩, hm45⟩ := mi
  refine ⟨hS1.1.tr h.1, fun p e R s m args below meth c g0 H locs ls hC hE hH hS hl => ?_⟩
  obtain ⟨hx, hb, hr, hml, hown, hnm, hlk, hts, hxE, hsz, hfr, hlo, hce, hsl⟩ := id hC
  have a1 := hE.1
  have a2 := hS1.1.1
  have a3 := hE.2.1
  have a4 := hS1.1.2.1
  have a5 := h.1.1
  have a6 := h.1.2.1
  refine W_run (va_runS (Ts := wT) ⟨hx, hb, hml, hown, hts⟩ hS1.2 (index := ix) (n := n) ⟨⟨rfl, rfl, by show d1 + 1 ≤ _; omega, by show 8 + (M1.2.2.1 + 11) + 64 * d1 ≤ _; omega, wT_pay hts w1, List.mem_cons_self, hts _ w1, hts _ w4, ⟨y1, y2⟩, plen y3, hts _ hw⟩, hts _ w2⟩ ⟨blind X _ g, fun U hU hW => ⟨rfl, by rw [hU]; exact hH, xE.moved hW hxE⟩⟩ rfl hn hl.1 hst (lv_room hrest) hd ⟨by omega, by omega⟩) hS (SF_after h hS1.1 hC hE hl)
theorem SF_callI {M1 : MD} {d1 ix n b : Nat} {As rest : List Value} {g1 : G} (pc2 : Nat) (mi : MIi M1 n) (hw : Cond.methodLink M.1.cls ix M1.1 ∈ wT) (hd : decode M.2.1 pc = .ok (.invokespecial ix, 3)) (hd1 : d1 + 1 ≤ d) (hS1 : Sem X M1 d1 (.ref (ad X b) :: As) g none g1) (hn : As.length = n) (hst : st = As.reverse ++ .ref (ad X b) :: rest) (hrest : (rest.map fun v => v.category).sum ≤ 8) (hp : pc2 = pc + 3) (h : SemF X M d pc2 lo rest g1 r g') : SemF X M d pc lo st g r g' := by
  subst hp
  obtain ⟨w1, w2, w4, ⟨y1, y2, y3⟩, hm45, hin, hret⟩ := mi
  refine ⟨hS1.1.tr h.1, fun p e R s m args below meth c g0 H locs ls hC hE hH hS hl => ?_⟩
  obtain ⟨hx, hb, hr, hml, hown, hnm, hlk, hts, hxE, hsz, hfr, hlo, hce, hsl⟩ := id hC
  have a1 := hE.1
  have a2 := hS1.1.1
  have a3 := hE.2.1
  have a4 := hS1.1.2.1
  have a5 := h.1.1
  have a6 := h.1.2.1
  have hM := hS1.2
  rw [hret] at hM
  refine W_run (va_runI (Ts := wT) ⟨hx, hb, hml, hown, hts⟩ hM (index := ix) (n := n) ⟨⟨rfl, rfl, by show d1 + 1 ≤ _; omega, by show 8 + (M1.2.2.1 + 11) + 64 * d1 ≤ _; omega, wT_pay hts w1, List.mem_cons_self, hts _ w1, hts _ w4, ⟨y1, y2⟩, plen y3, hts _ hw⟩, hin, hts _ w2⟩ ⟨blind X _ g, fun U hU hW => ⟨rfl, by rw [hU]; exact hH, xE.moved hW hxE⟩⟩ rfl hn hl.1 hst (lv_room hrest) hd ⟨by omega, by omega⟩) hS (SF_after h hS1.1 hC hE hl)
theorem SF_callIN {M1 : MD} {d1 ix n b : Nat} {As rest : List Value} {g1 : G} (pc2 : Nat) (mi : MIi M1 n) (hcl : M.1.cls = "TwinSpan") (hw : (ix, M1.1) ∈ nestL) (hd : decode M.2.1 pc = .ok (.invokespecial ix, 3)) (hd1 : d1 + 1 ≤ d) (hS1 : Sem X M1 d1 (.ref (ad X b) :: As) g none g1) (hn : As.length = n) (hst : st = As.reverse ++ .ref (ad X b) :: rest) (hrest : (rest.map fun v => v.category).sum ≤ 8) (hp : pc2 = pc + 3) (h : SemF X M d pc2 lo rest g1 r g') : SemF X M d pc lo st g r g' := by
  subst hp
  obtain ⟨w1, w2, w4, ⟨y1, y2, y3⟩, hm45, hin, hret⟩ := mi
  refine ⟨hS1.1.tr h.1, fun p e R s m args below meth c g0 H locs ls hC hE hH hS hl => ?_⟩
  obtain ⟨hx, hb, hr, hml, hown, hnm, hlk, hts, hxE, hsz, hfr, hlo, hce, hsl⟩ := id hC
  have a1 := hE.1
  have a2 := hS1.1.1
  have a3 := hE.2.1
  have a4 := hS1.1.2.1
  have a5 := h.1.1
  have a6 := h.1.2.1
  have hM := hS1.2
  rw [hret] at hM
  have hl0 : (Cond.methodLinkNest "TwinSpan" ix M1.1 "TwinSpan").before args s = true := va_Nw.use rfl (hxE.2.1 _ hw)
  refine W_run (va_runIN (Ts := wT) (own := "TwinSpan") (host := "TwinSpan") ⟨hx, hb, hml, by rw [← hcl]; exact hown, hts⟩ hM (index := ix) (n := n) ⟨⟨⟨rfl, rfl, by show d1 + 1 ≤ _; omega, by show 8 + (M1.2.2.1 + 11) + 64 * d1 ≤ _; omega, wT_pay hts w1, List.mem_cons_self⟩, hts _ w1, hts _ w4, ⟨y1, y2⟩, plen y3, hl0⟩, hin, hts _ w2⟩ ⟨blind X _ g, fun U hU hW => ⟨rfl, by rw [hU]; exact hH, xE.moved hW hxE⟩⟩ rfl hn hl.1 hst (lv_room hrest) hd ⟨by omega, by omega⟩) hS (SF_after h hS1.1 hC hE hl)
/-- Object's own constructor -/
theorem SF_objInit {ix a : Nat} (pc2 : Nat) (hw : Cond.methodLink M.1.cls ix objectInit ∈ wT) (hw2 : Cond.instanceMethod objectInit ∈ wT) (hw3 : Cond.code objectInit ⟨#[0xb1]⟩ 1 none ∈ wT) (hd : decode M.2.1 pc = .ok (.invokespecial ix, 3)) (hd1 : 1 ≤ d) (hrest : (st.map fun v => v.category).sum ≤ 8) (hp : pc2 = pc + 3) (h : SemF X M d pc2 lo st g r g') : SemF X M d pc lo (.ref a :: st) g r g' := by
  subst hp
  refine ⟨h.1, fun p e R s m args below meth c g0 H locs ls hC hE hH hS hl => ?_⟩
  obtain ⟨hx, hb, hr, hml, hown, hnm, hlk, hts, hxE, hsz, hfr, hlo, hce, hsl⟩ := id hC
  have hro := lv_room (m := m) (pc := pc) (ls := ls) (rest := st) hrest
  exact W.objInit hx hb hown (hts _ hw) (hts _ hw2) (hts _ hw3) rfl (by rw [hml]; exact hl.1) rfl hd (by omega) (by have : 2 * (F0 m pc ls (.ref a :: st)).monitorRoom + (st.map fun v => v.category).sum ≤ 8 := hro; omega) (h.2 p e R s m args below meth c g0 H locs ls hC hE hH hS hl)
-- returns
theorem SF_iret {x : Int32} (hr0 : M.2.2.2 = some .int) (hd : decode M.2.1 pc = .ok (.ireturn, 1)) : SemF X M d pc lo [.int x] g (some (.int x)) g := by
  refine ⟨Ext.rf, fun p e R s m args below meth c g0 H locs ls hC hE hH hS hl => ?_⟩
  obtain ⟨hx, hb, hr, hml, hown, hnm, hlk, hts, hxE, hsz, hfr, hlo, hce, hsl⟩ := id hC
  exact W.iret hx hb (hr.trans hr0) (fun t ht hW => ⟨rfl, by rw [ht]; exact hH, hS.F ht⟩) hS.2.2 hd hlk
theorem SF_zret {x : Int32} {ty : FieldType} (hr0 : M.2.2.2 = some ty) (hn : narrow ty (.int x) = .int x) (hd : decode M.2.1 pc = .ok (.ireturn, 1)) : SemF X M d pc lo [.int x] g (some (.int x)) g := by
  refine ⟨Ext.rf, fun p e R s m args below meth c g0 H locs ls hC hE hH hS hl => ?_⟩
  obtain ⟨hx, hb, hr, hml, hown, hnm, hlk, hts, hxE, hsz, hfr, hlo, hce, hsl⟩ := id hC
  exact W.zret hx hb (hr.trans hr0) hn (fun t ht hW => ⟨rfl, by rw [ht]; exact hH, hS.F ht⟩) hS.2.2 hd hlk
theorem SF_lret {x : Int64} (hr0 : M.2.2.2 = some .long) (hd : decode M.2.1 pc = .ok (.lreturn, 1)) : SemF X M d pc lo [.long x] g (some (.long x)) g := by
  refine ⟨Ext.rf, fun p e R s m args below meth c g0 H locs ls hC hE hH hS hl => ?_⟩
  obtain ⟨hx, hb, hr, hml, hown, hnm, hlk, hts, hxE, hsz, hfr, hlo, hce, hsl⟩ := id hC
  exact W.lret hx hb (hr.trans hr0) (fun t ht hW => ⟨rfl, by rw [ht]; exact hH, hS.F ht⟩) hS.2.2 hd hlk
theorem SF_vret (hr0 : M.2.2.2 = none) (hd : decode M.2.1 pc = .ok (.return_, 1)) : SemF X M d pc lo [] g none g := by
  refine ⟨Ext.rf, fun p e R s m args below meth c g0 H locs ls hC hE hH hS hl => ?_⟩
  obtain ⟨hx, hb, hr, hml, hown, hnm, hlk, hts, hxE, hsz, hfr, hlo, hce, hsl⟩ := id hC
  exact W.vret hx hb (hr.trans hr0) (fun t ht hW => ⟨rfl, by rw [ht]; exact hH, hS.F ht⟩) hS.2.2 hd hlk
theorem SF_aret {a : Nat} {rt : FieldType} (hr0 : M.2.2.2 = some rt) (hrt : (∃ n, rt = .object n) ∨ ∃ t, rt = .array t) (hd : decode M.2.1 pc = .ok (.areturn, 1)) : SemF X M d pc lo [.ref a] g (some (.ref a)) g := by
  refine ⟨Ext.rf, fun p e R s m args below meth c g0 H locs ls hC hE hH hS hl => ?_⟩
  obtain ⟨hx, hb, hr, hml, hown, hnm, hlk, hts, hxE, hsz, hfr, hlo, hce, hsl⟩ := id hC
  exact W.aret hx hb (hr.trans hr0) hrt (Or.inr ⟨a, rfl⟩) (fun t ht hW => ⟨rfl, by rw [ht]; exact hH, hS.F ht⟩) hS.2.2 hd hlk
/-- a method out of its frame -/
theorem Sem_of {av : List Value} (hy : plainName M.1.cls = true) (hlo : lv_args 0 av = lo) (hlen : (lg_sl av).length ≤ M.2.2.1) (h : SemF X M d 0 lo [] g r g') : Sem X M d av g r g' := by
  refine ⟨h.1, Met.ofW (cc := M.2.1) (maxL := M.2.2.1) (ret := M.2.2.2) hy rfl ?_⟩
  intro p e s m args below meth c s₁ B hml hv
  obtain ⟨rfl, hH, hxE⟩ := hv
  have hts := atoms_spec (ws := .code M.1 M.2.1 M.2.2.1 M.2.2.2 :: wT) B.pre
  have hl := lv_entry av (n := M.2.2.1) hlen
  rw [hlo] at hl
  rw [lg_entry_eq]
  have := h.2 p e (headSpec (.code M.1 M.2.1 M.2.2.1 M.2.2.2 :: wT) (rmD d (gn g' - gn g) (gs g' - gs g))).room s m av.toArray below meth c g s.heap [] _ ⟨B.exec, B.bytes, B.returns, hml, findClass_of_methodNamed B.named, (name_of_methodNamed B.named B.method).1, B.notSynchronized, fun w hw => hts w (List.mem_cons_of_mem _ hw), hxE, hH.2.1, Nat.le_refl _, Nat.le_refl _, Nat.le_refl _, Nat.le_refl _⟩ Ext.rf hH va_S.rf hl
  rw [Nat.sub_self, Nat.sub_self] at this
  exact this
/-- the law's script -/
theorem SF_sld {i : Int32} (pc2 : Nat) (hd : decode M.2.1 pc = .ok (.iaload, 1)) (hin : vp_in i (xL X)) (hp : pc2 = pc + 1) (h : SemF X M d pc2 lo (.int (xs X i.toNatClampNeg) :: st) g r g') : SemF X M d pc lo (.int i :: .ref (xb X) :: st) g r g' := by
  subst hp
  refine ⟨h.1, fun p e R s m args below meth c g0 H locs ls hC hE hH hS hl => ?_⟩
  obtain ⟨hx, hb, hr, hml, hown, hnm, hlk, hts, hxE, hsz, -⟩ := id hC
  exact va_sld (A := xAf X) (H0 := xH0 X) hx hb hxE.2.2.2.2.2.1 hxE.2.2.2.2.2.2.1 (Nat.not_le.mpr hxE.2.2.2.2.2.2.1) ⟨by rw [hH.2.1]; exact Nat.le_add_right _ _, fun q h1 _ => hH.2.2.1 q h1, hS.2.2⟩ hin hd (h.2 p e R s m args below meth c g0 H locs ls hC hE hH hS hl)
theorem SF_slen (pc2 : Nat) (hd : decode M.2.1 pc = .ok (.arraylength, 1)) (hp : pc2 = pc + 1) (h : SemF X M d pc2 lo (.int (nI (xL X)) :: st) g r g') : SemF X M d pc lo (.ref (xb X) :: st) g r g' := by
  subst hp
  refine ⟨h.1, fun p e R s m args below meth c g0 H locs ls hC hE hH hS hl => ?_⟩
  obtain ⟨hx, hb, hr, hml, hown, hnm, hlk, hts, hxE, hsz, -⟩ := id hC
  exact va_slen (A := xAf X) (H0 := xH0 X) hx hb hxE.2.2.2.2.2.1 hxE.2.2.2.2.2.2.1 (Nat.not_le.mpr hxE.2.2.2.2.2.2.1) ⟨by rw [hH.2.1]; exact Nat.le_add_right _ _, fun q h1 _ => hH.2.2.1 q h1, hS.2.2⟩ hd (h.2 p e R s m args below meth c g0 H locs ls hC hE hH hS hl)
end RUC
