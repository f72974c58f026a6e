/-! THE CLAIM OUT OF ONE WALK OF THE LAW'S BODY. Your part is whole_start (and what it stands on); all else here is the same for every law, but numbers. -/
def R_law : String := "TwinSpanLaw"
def lw_P (b : Addr) (xs : List Int32) (args : Array Value) (s : State) : Prop := args = #[.ref b] ∧ s.IntsAt b xs ∧ xs.length ≤ 3072 ∧ (Jvm.Cond.and given_1 narrow_1).before args s = true
def lw_Q (_ : Array Value) (s : State) (o : Outcome) (t : State) : Prop := o = .returned (some (.int 1)) ∧ Framed s o t [] 600000 7302250
def lw_Z (below : List Frame) (a : Array Value) (s : State) : State → Prop := fun t => ∃ o, t.status = .running ∧ Ended t below o ∧ lw_Q a s o t
/-- the law's own end, with 1 on the stack, nothing written that was there before, its room as the claim has it -/
theorem lw_ret {p : Program} {l : Launch} {e : Env} {s : State} {m : MethodId} {below : List Frame} {meth : Method} {c : Code} {b : Nat} (hx : p.tables.exec = Jvm.exec) (hb : c.code = code) (hr : meth.sig.returnType = ret) (hlocks : meth.locks = false) {pc : Nat} {H : Heap} {ls : Array Slot} (hdg : decode code pc = .ok (.ireturn, 1)) : W p l e room_1 s m #[Value.ref b] below meth c H [] 600000 7302250 (lw_Z below #[Value.ref b] s) (F0 m pc ls [.int 1]) := by
  intro T hT X
  obtain ⟨fs, hret, hrun, hended, hW, hframe⟩ := X.leave (v := some (.int 1)) (hlocks := hlocks) (fun h => by rw [hr] at h; cases h)
  have hmeth' : T.vm.method? m = some meth := X.method'
  refine ⟨T.setFrames fs, ?_, .returned (some (.int 1)), hrun, hended, rfl, ⟨_, rfl⟩, hW, hframe⟩
  jvm_step X.here [X.here.top, hx, hb, hdg, hmeth', hr, ret, narrow_b1]
  (try refine ⟨rfl, ?_⟩); (try refine ⟨rfl, ?_⟩)
  first | (intro acts; rw [hret _ acts rfl rfl rfl]) | rw [hret _ _ rfl rfl rfl]
  exact Steps.refl _
/-- what holds at the law's entry: the machine, the code, the tables' words (any of lw_tbl by 'hts w (by decide +kernel)'), the script of L ints xs at the cell b, what the Statement gives of the start (any of its parts by flat_of_before) -/
def lw_At (p : Program) (s : State) (m : MethodId) (meth : Method) (c : Code) (b L : Nat) (xs : Nat → Int32) : Prop :=
  p.tables.exec = Jvm.exec ∧ c.code = code ∧ meth.sig.returnType = ret ∧ c.maxLocals = 4 ∧ s.vm.findClass R_law = some m.cls ∧ (∀ w ∈ lw_tbl, w.before #[Value.ref b] s = true) ∧ va_X b L xs s s.heap ∧ b < s.heap.size ∧ meth.locks = false ∧ (Jvm.Cond.and given_1 narrow_1).before #[Value.ref b] s = true ∧ meth.name = "law"

/-- the empty heap -/
abbrev ML : MD := (yL_law, cL_law, 4, some .boolean)
def tmS : Nat → Term := fun i => if i = 0 then .string "TwinSpanModel" 83 else if i = 1 then .string "TwinSpan$Reader" 109 else .string "TwinSpan$Reader" 116
abbrev flN : List Cond := flatC (Jvm.Cond.and given_1 narrow_1)
theorem st_ex : ∀ i, i < 3 → Cond.exactly (tmS i) "java/lang/String" ∈ flN := by decide +kernel
theorem st_co : ∀ i, i < 3 → Cond.eq (.field (tmS i) "java/lang/String" "coder" "B") (.int 0) ∈ flN := by decide +kernel
theorem st_ar : ∀ i, i < 3 → Cond.arrayOf (.field (tmS i) "java/lang/String" "value" "[B") .byte ∈ flN := by decide +kernel
theorem st_le : ∀ i, i < 3 → Cond.eq (.length (.field (tmS i) "java/lang/String" "value" "[B")) (.int (Int32.ofNat (lenJ.getD i 0))) ∈ flN := by decide +kernel
def eJ (i j : Nat) : Cond := Cond.eq (.elem (.field (tmS i) "java/lang/String" "value" "[B") (.int (Int32.ofNat j))) (.int ((bytJ.getD i []).getD j 0))
theorem st_e0 : (List.range 77).map (eJ 0) = (flN.drop 136).take 77 := by decide +kernel
theorem st_e1 : (List.range 12).map (eJ 1) = (flN.drop 119).take 12 := by decide +kernel
theorem st_e2 : (List.range 76).map (eJ 2) = (flN.drop 39).take 76 := by decide +kernel
theorem st_m {n o i j : Nat} (h : (List.range n).map (eJ i) = (flN.drop o).take n) (hj : j < n) : eJ i j ∈ flN := by
  have h1 : eJ i j ∈ (List.range n).map (eJ i) := List.mem_map.mpr ⟨j, List.mem_range.mpr hj, rfl⟩
  rw [h] at h1
  exact List.mem_of_mem_drop (List.mem_of_mem_take h1)
theorem st_el : ∀ i, i < 3 → ∀ j, j < lenJ.getD i 0 → eJ i j ∈ flN := fun i hi j hj => by
  match i, hi with
  | 0, _ => exact st_m st_e0 hj
  | 1, _ => exact st_m st_e1 hj
  | 2, _ => exact st_m st_e2 hj
  | i + 3, h => exact absurd h (by omega)
theorem st_ne : ∀ i, i < 3 → ∀ j, j < 3 → i ≠ j → Cond.not (Cond.eq (tmS i) (tmS j)) ∈ flN ∨ Cond.not (Cond.eq (tmS j) (tmS i)) ∈ flN := by decide +kernel
theorem st_sz : ∀ i, i < 3 → lenJ.getD i 0 < 2 ^ 31 := by decide +kernel
theorem st_eq : Cond.eq (.string "TwinSpan$Reader" 109) (.string "TwinSpanModel" 121) ∈ flN := by decide +kernel
theorem st_cs : Cond.eq (.static "java/lang/String" "COMPACT_STRINGS" "Z") (.int 1) ∈ flN := by decide +kernel
theorem st_sf : Cond.isRef (.static "jdk/internal/util/Preconditions" "SIOOBE_FORMATTER" "Ljava/util/function/BiFunction;") ∈ flN := by decide +kernel
theorem gl_ob {s : State} {args : Array Value} (hts : ∀ w ∈ wT, w.before args s = true) : ∃ (dC : Nat → ClassId) (dI : Nat → Nat → Nat), ∀ (k : Nat) (q : vw_C), vwCl[k]? = some q → u_Kn s q.1 q.2.1 q.2.2 (dC k) (dI k) := by
  obtain ⟨c0, s0, h0⟩ := u_known (C := RX0) (T := TX0) (N := 6) (n := 6) hts lays_0 (hts (.instantiable RX0 6) (in_t2 13 (by decide +kernel) rfl))
  obtain ⟨c1, s1, h1⟩ := u_known (C := RX1) (T := TX1) (N := 8) (n := 8) hts lays_1 (hts (.instantiable RX1 8) (in_t1 67 (by decide +kernel) rfl))
  obtain ⟨c2, s2, h2⟩ := u_known (C := RX2) (T := TX2) (N := 5) (n := 5) hts lays_2 (hts (.instantiable RX2 5) (in_t1 99 (by decide +kernel) rfl))
  obtain ⟨c3, s3, h3⟩ := u_known (C := RX3) (T := TX3) (N := 9) (n := 9) hts lays_3 (hts (.instantiable RX3 9) (in_t1 121 (by decide +kernel) rfl))
  obtain ⟨c4, s4, h4⟩ := u_known (C := RX4) (T := TX4) (N := 7) (n := 7) hts lays_4 (hts (.instantiable RX4 7) (in_t1 33 (by decide +kernel) rfl))
  obtain ⟨c5, s5, h5⟩ := u_known (C := RX5) (T := TX5) (N := 3) (n := 3) hts lays_5 (hts (.instantiable RX5 3) (in_t2 164 (by decide +kernel) rfl))
  obtain ⟨c6, s6, h6⟩ := u_known (C := RX6) (T := TX6) (N := 3) (n := 3) hts lays_6 (hts (.instantiable RX6 3) (in_t1 156 (by decide +kernel) rfl))
  obtain ⟨c7, s7, h7⟩ := u_known (C := RX7) (T := TX7) (N := 12) (n := 12) hts lays_7 (hts (.instantiable RX7 12) (in_t1 179 (by decide +kernel) rfl))
  obtain ⟨c8, s8, h8⟩ := u_known (C := RX8) (T := TX8) (N := 18) (n := 18) hts lays_8 (hts (.instantiable RX8 18) (in_t2 51 (by decide +kernel) rfl))
  obtain ⟨c9, s9, h9⟩ := u_known (C := RX9) (T := TX9) (N := 13) (n := 13) hts lays_9 (hts (.instantiable RX9 13) (in_t2 117 (by decide +kernel) rfl))
  obtain ⟨c10, s10, h10⟩ := u_known (C := RX10) (T := TX10) (N := 3) (n := 3) hts lays_10 (hts (.instantiable RX10 3) (in_t2 182 (by decide +kernel) rfl))
  obtain ⟨c11, s11, h11⟩ := u_known (C := RX11) (T := TX11) (N := 18) (n := 18) hts lays_11 (hts (.instantiable RX11 18) (in_t1 25 (by decide +kernel) rfl))
  obtain ⟨c12, s12, h12⟩ := u_known (C := RX12) (T := TX12) (N := 36) (n := 36) hts lays_12 (hts (.instantiable RX12 36) (in_t6 185 (by decide +kernel) rfl))
  refine ⟨fun k => if k = 0 then c0 else if k = 1 then c1 else if k = 2 then c2 else if k = 3 then c3 else if k = 4 then c4 else if k = 5 then c5 else if k = 6 then c6 else if k = 7 then c7 else if k = 8 then c8 else if k = 9 then c9 else if k = 10 then c10 else if k = 11 then c11 else c12, fun k => if k = 0 then s0 else if k = 1 then s1 else if k = 2 then s2 else if k = 3 then s3 else if k = 4 then s4 else if k = 5 then s5 else if k = 6 then s6 else if k = 7 then s7 else if k = 8 then s8 else if k = 9 then s9 else if k = 10 then s10 else if k = 11 then s11 else s12, ?_⟩
  intro k q hq
  match k, hq with
  | 0, hq => cases hq; exact h0
  | 1, hq => cases hq; exact h1
  | 2, hq => cases hq; exact h2
  | 3, hq => cases hq; exact h3
  | 4, hq => cases hq; exact h4
  | 5, hq => cases hq; exact h5
  | 6, hq => cases hq; exact h6
  | 7, hq => cases hq; exact h7
  | 8, hq => cases hq; exact h8
  | 9, hq => cases hq; exact h9
  | 10, hq => cases hq; exact h10
  | 11, hq => cases hq; exact h11
  | 12, hq => cases hq; exact h12
  | k + 13, hq => simp [vwCl] at hq
theorem gl_pr {s : State} {args : Array Value} {ty : FieldType} (h : (Cond.arrayClass ty).before args s = true) : ∃ cA : ClassId, ArrOfT s cA ty ∧ s.vm.findClass ("[" ++ ty.toString) = some cA := by
  obtain ⟨c, k, comp, h1, h2, h3⟩ := Cond.arrayClass_spec h
  exact ⟨c, fun n z => ⟨fun k h => (by cases h), k, h2, comp, h3⟩, h1⟩
theorem gl_oj {s : State} {C : String} (h : va_AO C s) : ∃ cA : ClassId, ArrOfT s cA (.object C) ∧ va_RA s cA (.object C) := by
  obtain ⟨comp, c, k, h1, h2, h3, h4, h5⟩ := Cond.arrayOver_spec h
  exact ⟨c, fun n z => ⟨fun k h => (by cases h), k, h3, comp, h4⟩, k, comp, h3, h4, h1, h5⟩
theorem gl_aa {s : State} (h : xAOA s) : ∃ cA : ClassId, ArrOfT s cA (.array .long) ∧ va_RA s cA (.array .long) := by
  obtain ⟨comp, c, k, h1, h2, h3, h4, h5⟩ := arrayOverA_spec h
  exact ⟨c, fun n z => ⟨fun k h => (by cases h), k, h3, comp, h4⟩, h5⟩
theorem gl_forget {s t : State} {o : Outcome} {L : List Loc} {k n : Nat} (h : FrameEnd s o t L k n) (hL : ∀ q ∈ L, s.heap.size ≤ q.base) (hk : k ≤ 600000) (hn : n ≤ 7302250) : Framed s o t [] 600000 7302250 := by
  obtain ⟨h1, h2, h3, h4, h5, h6, h7, h8⟩ := h
  refine ⟨h1, h2, h3, h4, Nat.le_trans h5 (by omega), h6, Nat.le_trans h7 (by omega), fun a c hc => ?_⟩
  obtain ⟨c', g1, g2, g3, g4⟩ := h8 a c hc
  have ha : a < s.heap.size := (Array.getElem?_eq_some_iff.mp hc).1
  refine ⟨c', g1, g2, g3, fun i _ => g4 i (fun hm => ?_)⟩
  have h9 : s.heap.size ≤ a := hL _ hm
  exact absurd h9 (Nat.not_le.mpr ha)
theorem gl_W {p : Program} {l : Launch} {e : Env} {R : Room} {s : State} {m : MethodId} {args : Array Value} {below : List Frame} {meth : Method} {c : Code} {H : Heap} {locs : List Loc} {cells slots : Nat} {Q Q' : State → Prop} {gf : JFrame} (hQ : ∀ t, Q t → Q' t) (h : W p l e R s m args below meth c H locs cells slots Q gf) : W p l e R s m args below meth c H locs cells slots Q' gf := fun T hT X => by
  obtain ⟨t, a, b⟩ := h T hT X
  exact ⟨t, a, hQ t b⟩
set_option maxHeartbeats 2000000 in
theorem gl_start {p : Program} {e : Env} {s : State} {m : MethodId} {below : List Frame} {meth : Method} {c : Code} (l : Launch) {b L : Nat} {xs0 : Nat → Int32} (C0 : lw_At p s m meth c b L xs0)
    (hF : ∀ X : CX, xL X = L → xs X = xs0 → ∃ g', SemF X ML 103 0 [(0, .ref (xb X))] [] gE (some (.int (b2i true))) g' ∧ gn g' ≤ 600000 ∧ gs g' ≤ 7302250) : W p l e room_1 s m #[Value.ref b] below meth c s.heap [] 0 0 (lw_Z below #[Value.ref b] s) (entryFrame m ([Value.ref b] : List Value).toArray 4) := by
  obtain ⟨hx, hb, hr, hml, hown, hts0, hX, hbl, hlocks, hgv, hname⟩ := id C0
  have hts : ∀ w ∈ wT, w.before #[Value.ref b] s = true := fun w hw => hts0 w (List.mem_filter.mp hw).1
  have hs := flat_of_before _ hgv
  have hA : ∀ a : Nat, a < s.heap.size → ¬ (fun q : Nat => s.heap.size ≤ q) a := fun a h => Nat.not_le.mpr h
  obtain ⟨dC, dI, hKn⟩ := gl_ob hts
  obtain ⟨aB, b1, b2⟩ := gl_pr (hts _ wr_byte)
  obtain ⟨aI, i1, i2⟩ := gl_pr (hts _ wr_int)
  obtain ⟨aJ, j1, j2⟩ := gl_pr (hts _ wr_long)
  obtain ⟨aZ, z1, z2⟩ := gl_pr (hts _ wr_boolean)
  have aoB : va_AO "TwinSpan$Board" s := va_AO.of (hts0 (.arrayOver (.object "TwinSpan$Board")) (by decide +kernel))
  have aoT : va_AO "TwinSpan$Tray" s := va_AO.of (hts0 (.arrayOver (.object "TwinSpan$Tray")) (by decide +kernel))
  have aoA : xAOA s := hts0 (.arrayOver (.array .long)) (by decide +kernel)
  obtain ⟨aK, k1, k2⟩ := gl_oj aoB
  obtain ⟨aT, t1, t2⟩ := gl_oj aoT
  obtain ⟨aA, q1, q2⟩ := gl_aa aoA
  obtain ⟨adK, adV, hSt, hEv⟩ := vk_Sof (args := #[Value.ref b]) (s := s) (N := 3) (tm := tmS) (len := lenJ) (byt := bytJ) (A := fun q : Nat => s.heap.size ≤ q) st_sz (fun i hi => hs _ (st_ex i hi)) (fun i hi => hs _ (st_co i hi)) (fun i hi => hs _ (st_ar i hi)) (fun i hi => hs _ (st_le i hi)) (fun i hi j hj => hs _ (st_el i hi j hj)) (fun i j hi hj hne => (st_ne i hi j hj hne).elim (fun h => Or.inl (hs _ h)) (fun h => Or.inr (hs _ h))) hA
  have hZc := va_Zof (A := fun q : Nat => s.heap.size ≤ q) (hts0 (.laysStatic "java/lang/String" "COMPACT_STRINGS" "Z") (by decide +kernel)) (hts0 (.initialized "java/lang/String") (by decide +kernel)) (va_eqi (hs _ st_cs)) hA
  have hZf := va_Zqof (A := fun q : Nat => s.heap.size ≤ q) (hts0 (.laysStatic "jdk/internal/util/Preconditions" "SIOOBE_FORMATTER" "Ljava/util/function/BiFunction;") (by decide +kernel)) (hts0 (.initialized "jdk/internal/util/Preconditions") (by decide +kernel)) (hs _ st_sf) hA
  obtain ⟨fV, hZ1, hZ2⟩ : ∃ fV : Value, va_Z "jdk/internal/util/Preconditions" "SIOOBE_FORMATTER" "Ljava/util/function/BiFunction;" fV (fun q : Nat => s.heap.size ≤ q) s s.heap ∧ (fV = .null ∨ ∃ t, fV = .ref t) := by
    rcases hZf with h | ⟨t, h⟩
    · exact ⟨.null, h, Or.inl rfl⟩
    · exact ⟨.ref t, h, Or.inr ⟨t, rfl⟩⟩
  let X : CX := (l, (dC, dI), (fun k => if k = 13 then aB else if k = 14 then aI else if k = 15 then aJ else if k = 16 then aZ else if k = 17 then aK else if k = 18 then aT else aA), b, L, xs0, s.heap, adK, adV, fV)
  have hKK : va_K (xD X) vwCl (xT X) s := by
    refine ⟨hKn, fun k q hk => ?_⟩
    match k, hk with
    | 0, hk => cases hk; exact ⟨b1, b2⟩
    | 1, hk => cases hk; exact ⟨i1, i2⟩
    | 2, hk => cases hk; exact ⟨j1, j2⟩
    | 3, hk => cases hk; exact ⟨z1, z2⟩
    | 4, hk => cases hk; exact ⟨k1, k2⟩
    | 5, hk => cases hk; exact ⟨t1, t2⟩
    | 6, hk => cases hk; exact ⟨q1, q2⟩
    | k + 7, hk => simp [xT] at hk
  have hne : ∀ q ∈ nestL, va_Nw (.methodLinkNest "TwinSpan" q.1 q.2 "TwinSpan") s := by
    intro q hq
    have h1 : ∀ q ∈ nestL, Cond.methodLinkNest "TwinSpan" q.1 q.2 "TwinSpan" ∈ lw_tbl := by decide +kernel
    exact va_Nw.of rfl (hts0 _ (h1 q hq))
  have hxE : xE X s := ⟨hKK, hne, aoB, aoT, aoA, hX, hbl, hSt, vk_R.of (hts0 (.stringRef "TwinSpanModel" 83 " field row pair errand mood may costs twin from height hop column and or not ") (by decide +kernel)) (hEv 0 (by decide)), vk_R.of (hts0 (.stringRef "TwinSpanModel" 121 ";:+-*()[]=<>") (by decide +kernel)) (va_eqR (hs _ st_eq) (hEv 1 (by decide))), vk_R.of (hts0 (.stringRef "TwinSpan$Reader" 109 ";:+-*()[]=<>") (by decide +kernel)) (hEv 1 (by decide)), vk_R.of (hts0 (.stringRef "TwinSpan$Reader" 116 "pair twin mood from height hop row column field may costs errand or and not ") (by decide +kernel)) (hEv 2 (by decide)), hZc, hZ1, hZ2⟩
  obtain ⟨g', hSem, hg1, hg2⟩ := hF X rfl rfl
  have hl := lv_entry ([.ref b]) (n := 4) (Nat.le_of_ble_eq_true rfl)
  rw [lg_entry_eq]
  have hw := hSem.2 p e room_1 s m #[Value.ref b] below meth c gE s.heap [] _ ⟨hx, hb, hr, hml, hown, hname, hlocks, hts, hxE, rfl, by decide, by decide, Nat.le_trans (Nat.sub_le _ _) hg1, Nat.le_trans (Nat.sub_le _ _) hg2⟩ Ext.rf ⟨fun k q h => by simp [wG, gE, gn] at h, rfl, fun q _ => rfl, fun a _ => rfl⟩ va_S.rf hl
  refine gl_W (fun t ht => ?_) hw
  obtain ⟨o, t1, t2, ⟨t3, -, -⟩, Ls, t4, t5⟩ := ht
  subst t3
  exact ⟨_, t1, t2, rfl, gl_forget t4 t5 (Nat.le_trans (Nat.sub_le _ _) hg1) (Nat.le_trans (Nat.sub_le _ _) hg2)⟩
