/-! THE ROWS over the pure heap: fields, arrays, new cells, calls, returns. -/
def CI (ci : Nat) (C : String) (T : u_T) (N : Nat) (ty : Nat → FieldType) : Prop := vwCl[ci]? = some (C, T, N) ∧ (∀ w ∈ u_ws C T N, w ∈ wT) ∧ (∀ k, k < N → parseFieldDescriptor (T k).2.2.1 = some (ty k)) ∧ (∀ a, a < N → ∀ b, b < N → a ≠ b → (T a).2.1 ≠ (T b).2.1) ∧ nf ci = N ∧ ci < 13 ∧ (∀ k, k < N → (T k).1 = C) ∧ (∀ k, k < N → (fty ci k = 0 ∧ defaultValue (ty k) = .int 0) ∨ (fty ci k = 1 ∧ defaultValue (ty k) = .long 0) ∨ (fty ci k = 2 ∧ defaultValue (ty k) = .null))
/-- a field by its link: its class, its place, its sort and type, final or not -/
def FL (own : String) (ix ci k srt : Nat) (t : FieldType) (fin : Bool) : Prop := ∃ (C : String) (T : u_T) (N : Nat) (ty : Nat → FieldType), CI ci C T N ty ∧ k < N ∧ fty ci k = srt ∧ ty k = t ∧ (T k).2.2.2 = fin ∧ Cond.fieldLink own ix C (T k).2.1 (T k).2.2.1 ∈ wT
def fitsN (t : FieldType) (v : Value) : Prop := narrow t v = v ∧ fits t v = true
theorem fn_int (x : Int32) : fitsN .int (.int x) := ⟨rfl, rfl⟩
theorem fn_long (x : Int64) : fitsN .long (.long x) := ⟨rfl, rfl⟩
theorem fn_obj (C : String) (a : Nat) : fitsN (.object C) (.ref a) := ⟨rfl, rfl⟩
theorem fn_arr (t : FieldType) (a : Nat) : fitsN (.array t) (.ref a) := ⟨rfl, rfl⟩
def b2i (b : Bool) : Int32 := if b then 1 else 0
theorem fn_bool (b : Bool) : fitsN .boolean (.int (b2i b)) := by cases b <;> exact ⟨rfl, rfl⟩
theorem W_size {p : Program} {l : Launch} {e : Env} {R : Room} {s : State} {m : MethodId} {args : Array Value} {below : List Frame} {meth : Method} {c : Code} {H : Heap} {locs : List Loc} {cells slots : Nat} {Q : State → Prop} {gf : JFrame} (k : H.size ≤ s.heap.size + cells → W p l e R s m args below meth c H locs cells slots Q gf) : W p l e R s m args below meth c H locs cells slots Q gf :=
  fun T hT X => k (by rw [← hT]; exact X.same.2.2.1) T hT X
section RUH
variable {X : CX} {M : MD} {d pc : Nat} {lo : List (Nat × Value)} {st : List Value} {g g' : G} {r : Option Value}
theorem SF_get {ix ci k srt a : Nat} {t : FieldType} {fin : Bool} (v : Value) (pc2 : Nat) (hF : FL M.1.cls ix ci k srt t fin) (hd : decode M.2.1 pc = .ok (.getfield ix, 3)) (ha : gK g a = ci) (hv : fv X g a k = v) (hp : pc2 = pc + 3) (h : SemF X M d pc2 lo (v :: st) g r g') : SemF X M d pc lo (.ref (ad X a) :: st) g r g' := by
  subst hp; subst hv
  obtain ⟨C, T, N, ty, ⟨c1, c2, c3, c4, c5, c6, c7, c8⟩, hk, -, -, -, hw⟩ := hF
  refine ⟨h.1, fun p e R s m args below meth c g0 H locs ls hC hE hH hS hl => ?_⟩
  obtain ⟨hx, hb, hr, hml, hown, hnm, hlk, hts, hxE, hsz, -⟩ := id hC
  refine va_get (D := xD X) (ci := ci) (C := C) (T := T) (N := N) hx hb hts c2 hown hxE.1 hH.1 a (hH.obj ha c6) c1 k hk (hts _ hw) (fun x hx => by rw [c7 k hk] at hx; exact hx) (fs_get (by rw [c5]; exact hk)) hd ?_
  exact h.2 p e R s m args below meth c g0 H locs ls hC hE hH hS hl
theorem SF_getI {ix ci k a : Nat} {t : FieldType} {fin : Bool} (pc2 : Nat) (hF : FL M.1.cls ix ci k 0 t fin) (hd : decode M.2.1 pc = .ok (.getfield ix, 3)) (ha : gK g a = ci) (hp : pc2 = pc + 3) (h : SemF X M d pc2 lo (.int (gI g a k) :: st) g r g') : SemF X M d pc lo (.ref (ad X a) :: st) g r g' :=
  SF_get _ pc2 hF hd ha (fv_i ha hF.choose_spec.choose_spec.choose_spec.choose_spec.2.2.1) hp h
theorem SF_getL {ix ci k a : Nat} {t : FieldType} {fin : Bool} (pc2 : Nat) (hF : FL M.1.cls ix ci k 1 t fin) (hd : decode M.2.1 pc = .ok (.getfield ix, 3)) (ha : gK g a = ci) (hp : pc2 = pc + 3) (h : SemF X M d pc2 lo (.long (gL g a k) :: st) g r g') : SemF X M d pc lo (.ref (ad X a) :: st) g r g' :=
  SF_get _ pc2 hF hd ha (fv_l ha hF.choose_spec.choose_spec.choose_spec.choose_spec.2.2.1) hp h
theorem SF_getQ {ix ci k a : Nat} {t : FieldType} {fin : Bool} (pc2 : Nat) (hF : FL M.1.cls ix ci k 2 t fin) (hd : decode M.2.1 pc = .ok (.getfield ix, 3)) (ha : gK g a = ci) (hp : pc2 = pc + 3) (h : SemF X M d pc2 lo (rv X (gR g a k) :: st) g r g') : SemF X M d pc lo (.ref (ad X a) :: st) g r g' :=
  SF_get _ pc2 hF hd ha (fv_r ha hF.choose_spec.choose_spec.choose_spec.choose_spec.2.2.1) hp h
theorem SF_getR {ix ci k a b : Nat} {t : FieldType} {fin : Bool} (pc2 : Nat) (hF : FL M.1.cls ix ci k 2 t fin) (hd : decode M.2.1 pc = .ok (.getfield ix, 3)) (ha : gK g a = ci) (hb : gR g a k = some b) (hp : pc2 = pc + 3) (h : SemF X M d pc2 lo (.ref (ad X b) :: st) g r g') : SemF X M d pc lo (.ref (ad X a) :: st) g r g' :=
  SF_getQ pc2 hF hd ha hp (by rw [hb]; exact h)
/-- the frame goes on over the heap g2 -/
theorem SF_next {pc2 : Nat} {lo2 : List (Nat × Value)} {st2 : List Value} {g2 g0 : G} {p : Program} {e : Env} {R : Room} {s : State} {m : MethodId} {args : Array Value} {below : List Frame} {meth : Method} {c : Code} {H H1 : Heap} {locs locs1 : List Loc} {ls : Array Slot} (h : SemF X M d pc2 lo2 st2 g2 r g') (hX : Ext g g2) (hwf : wf g → wf g2) (hC : FC X M d g0 g' p R s m args meth c) (hE : Ext g0 g) (hH : xH X g H) (hS : va_S (xAf X) s.heap H locs) (hl : lv_has ls M.2.2.1 lo2) (hP1 : va_P (xD X) vwCl (wG X g2) H1) (hS1 : va_S (xAf X) s.heap H1 locs1) : W p (xl X) e R s m args below meth c H1 locs1 (gn g2 - gn g0) (gs g2 - gs g0) (MQ below (xQ X r g') args s (gn g' - gn g0) (gs g' - gs g0) (xAf X)) (F0 m pc2 ls st2) := by
  refine W_size fun hz => ?_
  obtain ⟨hx, hb, hr, hml, hown, hnm, hlk, hts, hxE, hsz, -⟩ := id hC
  have h0 := (hE.tr hX).1
  have hz2 : H1.size = xz X + gn g2 := by
    have hlo : xz X + gn g2 ≤ H1.size := by
      rcases Nat.eq_zero_or_pos (gn g2) with q | q
      · have := hS1.1
        omega
      · have h9 := (hP1 (gn g2 - 1) _ (wG_get X g2 (by omega))).lt
        have h9' : xz X + (gn g2 - 1) < H1.size := h9
        omega
    omega
  refine h.2 p e R s m args below meth c g0 H1 locs1 ls hC (hE.tr hX) ⟨hP1, hz2, fun q hq => ?_, hwf hH.2.2.2⟩ hS1 hl
  have hnA : ¬ xAf X q := Nat.not_le.mpr hq
  have hqs : q < s.heap.size := by omega
  rw [hS1.2.1 q hqs hnA, ← hS.2.1 q hqs hnA]
  exact hH.2.2.1 q hq
/-- a field anew: the pure heap g2 differs from g by it alone -/
theorem SF_put {ix ci k srt a : Nat} {t : FieldType} {fin : Bool} {v : Value} (g2 : G) (pc2 : Nat) (hF : FL M.1.cls ix ci k srt t fin) (hd : decode M.2.1 pc = .ok (.putfield ix, 3)) (ha : gK g a = ci) (hfit : fitsN t v) (hfin : fin = false ∨ M.1.name = "<init>" ∧ ∃ q, vwCl[ci]? = some q ∧ q.1 = M.1.cls) (hK2 : gK g2 = gK g) (hN2 : gN g2 = gN g) (hn2 : gn g2 = gn g) (hs2 : gs g2 = gs g) (hv : fv X g2 a k = v) (ho : ∀ j, j ≠ k → fv X g2 a j = fv X g a j) (hoo : ∀ b, b ≠ a → eG X g2 b = eG X g b) (hp : pc2 = pc + 3) (h : SemF X M d pc2 lo st g2 r g') : SemF X M d pc lo (v :: .ref (ad X a) :: st) g r g' := by
  subst hp
  obtain ⟨C, T, N, ty, ⟨c1, c2, c3, c4, c5, c6, c7, c8⟩, hk, -, htk, hff, hw⟩ := hF
  have hX : Ext g g2 := ⟨Nat.le_of_eq hn2.symm, Nat.le_of_eq hs2.symm, fun x _ => ⟨by rw [hK2], by rw [hN2]⟩⟩
  have hwf : wf g → wf g2 := fun q x hx => by rw [hK2]; exact q x (by rw [← hn2]; exact hx)
  refine ⟨hX.tr h.1, fun p e R s m args below meth c g0 H locs ls hC hE hH hS hl => ?_⟩
  obtain ⟨hx, hb, hr, hml, hown, hnm, hlk, hts, hxE, hsz, -⟩ := id hC
  have hobj := hH.obj ha c6
  have hset : (wG X g).set a (ad X a, .inr (ci, ((List.range (nf ci)).map (fv X g a)).set k v)) = wG X g2 := by
    refine wG_set hn2 hoo ?_
    rw [eG_obj (by rw [hK2]; exact ha) c6, fs_set hv ho]
  have hkl : k < ((List.range (nf ci)).map (fv X g a)).length := by simp [c5]; exact hk
  have fin' : ∀ (H1 : Heap) (locs1 : List Loc), va_P (xD X) vwCl ((wG X g).set a (ad X a, .inr (ci, ((List.range (nf ci)).map (fv X g a)).set k v))) H1 → va_D (xAf X) ((wG X g).set a (ad X a, .inr (ci, ((List.range (nf ci)).map (fv X g a)).set k v))) → va_S (xAf X) s.heap H1 locs1 → W p (xl X) e R s m args below meth c H1 locs1 (gn g - gn g0) (gs g - gs g0) (MQ below (xQ X r g') args s (gn g' - gn g0) (gs g' - gs g0) (xAf X)) (F0 m (pc + 3) ls st) := by
    intro H1 locs1 hP1 _ hS1
    rw [hset] at hP1
    have := SF_next h hX hwf hC hE hH hS hl hP1 hS1 (below := below) (e := e)
    rw [hn2, hs2] at this
    exact this
  rcases hfin with rfl | ⟨hin, q, hq1, hq2⟩
  · exact va_put (D := xD X) (ci := ci) (C := C) (T := T) (N := N) hx hb hts c2 ty c3 c4 hown hxE.1 hH.1 (wG_D X g) hS a hobj c1 k hk (hts _ hw) (fun x hx => by rw [c7 k hk] at hx; exact hx) hff ((c3 k hk).trans (by rw [htk])) hfit.1 hfit.2 hkl hd fin'
  · have hqC : C = M.1.cls := by
      have := Option.some.inj (c1.symm.trans hq1)
      rw [← hq2, ← this]
    cases fin with
    | false => exact va_put (D := xD X) (ci := ci) (C := C) (T := T) (N := N) hx hb hts c2 ty c3 c4 hown hxE.1 hH.1 (wG_D X g) hS a hobj c1 k hk (hts _ hw) (fun x hx => by rw [c7 k hk] at hx; exact hx) hff ((c3 k hk).trans (by rw [htk])) hfit.1 hfit.2 hkl hd fin'
    | true => exact va_putF (D := xD X) (ci := ci) (C := C) (T := T) (N := N) hx hb hts c2 ty c3 c4 hown hxE.1 hH.1 (wG_D X g) hS a hobj c1 k hk (hts _ hw) (fun x hx => by rw [c7 k hk] at hx; exact hx) hff (by rw [hnm]; exact hin) ((c7 k hk).trans hqC) ((c3 k hk).trans (by rw [htk])) hfit.1 hfit.2 hkl hd fin'
theorem SF_putI {ix ci k a : Nat} {t : FieldType} {fin : Bool} {x : Int32} (pc2 : Nat) (hF : FL M.1.cls ix ci k 0 t fin) (hd : decode M.2.1 pc = .ok (.putfield ix, 3)) (ha : gK g a = ci) (hfit : fitsN t (.int x)) (hfin : fin = false ∨ M.1.name = "<init>" ∧ ∃ q, vwCl[ci]? = some q ∧ q.1 = M.1.cls) (hp : pc2 = pc + 3) (h : SemF X M d pc2 lo st (sI g a k x) r g') : SemF X M d pc lo (.int x :: .ref (ad X a) :: st) g r g' := by
  have hk0 := hF.choose_spec.choose_spec.choose_spec.choose_spec.2.2.1
  have h1 : gI (sI g a k x) a = upd (gI g a) k x := va_up_self _ _ _
  refine SF_put (sI g a k x) pc2 hF hd ha hfit hfin rfl rfl rfl rfl ?_ (fun j hj => ?_) (fun b hb => eG_rI hb) hp h
  · rw [fv_i (show gK (sI g a k x) a = ci from ha) hk0, h1, pk_us]
  · show (if fty (gK g a) j = 0 then Value.int (gI (sI g a k x) a j) else if fty (gK g a) j = 1 then .long (gL g a j) else rv X (gR g a j)) = _
    rw [h1, pk_un hj]
    rfl
theorem SF_putL {ix ci k a : Nat} {t : FieldType} {fin : Bool} {x : Int64} (pc2 : Nat) (hF : FL M.1.cls ix ci k 1 t fin) (hd : decode M.2.1 pc = .ok (.putfield ix, 3)) (ha : gK g a = ci) (hfit : fitsN t (.long x)) (hfin : fin = false ∨ M.1.name = "<init>" ∧ ∃ q, vwCl[ci]? = some q ∧ q.1 = M.1.cls) (hp : pc2 = pc + 3) (h : SemF X M d pc2 lo st (sL g a k x) r g') : SemF X M d pc lo (.long x :: .ref (ad X a) :: st) g r g' := by
  have hk0 := hF.choose_spec.choose_spec.choose_spec.choose_spec.2.2.1
  have h1 : gL (sL g a k x) a = vp_updL (gL g a) k x := va_up_self _ _ _
  refine SF_put (sL g a k x) pc2 hF hd ha hfit hfin rfl rfl rfl rfl ?_ (fun j hj => ?_) (fun b hb => eG_rL hb) hp h
  · rw [fv_l (show gK (sL g a k x) a = ci from ha) hk0, h1, pk_uLs]
  · show (if fty (gK g a) j = 0 then Value.int (gI g a j) else if fty (gK g a) j = 1 then .long (gL (sL g a k x) a j) else rv X (gR g a j)) = _
    rw [h1, pk_uLn hj]
    rfl
theorem SF_putR {ix ci k a b : Nat} {t : FieldType} {fin : Bool} (pc2 : Nat) (hF : FL M.1.cls ix ci k 2 t fin) (hd : decode M.2.1 pc = .ok (.putfield ix, 3)) (ha : gK g a = ci) (hfit : fitsN t (.ref (ad X b))) (hfin : fin = false ∨ M.1.name = "<init>" ∧ ∃ q, vwCl[ci]? = some q ∧ q.1 = M.1.cls) (hp : pc2 = pc + 3) (h : SemF X M d pc2 lo st (sR g a k (some b)) r g') : SemF X M d pc lo (.ref (ad X b) :: .ref (ad X a) :: st) g r g' := by
  have hk0 := hF.choose_spec.choose_spec.choose_spec.choose_spec.2.2.1
  have h1 : gR (sR g a k (some b)) a = va_up (gR g a) k (some b) := va_up_self _ _ _
  refine SF_put (sR g a k (some b)) pc2 hF hd ha hfit hfin rfl rfl rfl rfl ?_ (fun j hj => ?_) (fun b' hb => eG_rR hb) hp h
  · rw [fv_r (show gK (sR g a k (some b)) a = ci from ha) hk0, h1, va_up_self]
    rfl
  · show (if fty (gK g a) j = 0 then Value.int (gI g a j) else if fty (gK g a) j = 1 then .long (gL g a j) else rv X (gR (sR g a k (some b)) a j)) = _
    rw [h1, va_up_ne _ _ hj]
    rfl
-- arrays
theorem SF_rd {pc2 : Nat} {st2 : List Value} (h : SemF X M d pc2 lo st2 g r g') (k : ∀ (p : Program) (e : Env) (R : Room) (s : State) (m : MethodId) (args : Array Value) (below : List Frame) (meth : Method) (c : Code) (H : Heap) (locs : List Loc) (cells slots : Nat) (Q : State → Prop) (ls : Array Slot), p.tables.exec = Jvm.exec → c.code = M.2.1 → va_K (xD X) vwCl (xT X) s → xH X g H → W p (xl X) e R s m args below meth c H locs cells slots Q (F0 m pc2 ls st2) → W p (xl X) e R s m args below meth c H locs cells slots Q (F0 m pc ls st)) : SemF X M d pc lo st g r g' :=
  ⟨h.1, fun p e R s m args below meth c g0 H locs ls hC hE hH hS hl => k p e R s m args below meth c H locs _ _ _ ls hC.1 hC.2.1 hC.2.2.2.2.2.2.2.2.1.1 hH (h.2 p e R s m args below meth c g0 H locs ls hC hE hH hS hl)⟩
theorem SF_iald {a : Nat} {i : Int32} (pc2 : Nat) (hd : decode M.2.1 pc = .ok (.iaload, 1)) (ha : gK g a = 14) (hin : vp_in i (gN g a)) (hp : pc2 = pc + 1) (h : SemF X M d pc2 lo (.int (gI g a i.toNatClampNeg) :: st) g r g') : SemF X M d pc lo (.int i :: .ref (ad X a) :: st) g r g' := by
  subst hp
  refine SF_rd h (fun p e R s m args below meth c H locs cells slots Q ls hx hb hK hH k => ?_)
  have hw := hH.arr ha (by omega) (by omega)
  rw [ae_i ha (by omega)] at hw
  exact va_iald hx hb hK hH.1 a 1 hw rfl hin hd k
theorem SF_bald {a : Nat} {i : Int32} (pc2 : Nat) (hd : decode M.2.1 pc = .ok (.baload, 1)) (ha : gK g a = 13) (hin : vp_in i (gN g a)) (hp : pc2 = pc + 1) (h : SemF X M d pc2 lo (.int (gI g a i.toNatClampNeg) :: st) g r g') : SemF X M d pc lo (.int i :: .ref (ad X a) :: st) g r g' := by
  subst hp
  refine SF_rd h (fun p e R s m args below meth c H locs cells slots Q ls hx hb hK hH k => ?_)
  have hw := hH.arr ha (by omega) (by omega)
  rw [ae_i ha (by omega)] at hw
  exact va_bald hx hb hK hH.1 a 0 hw rfl hin hd k
theorem SF_zald {a : Nat} {i : Int32} (pc2 : Nat) (hd : decode M.2.1 pc = .ok (.baload, 1)) (ha : gK g a = 16) (hin : vp_in i (gN g a)) (hp : pc2 = pc + 1) (h : SemF X M d pc2 lo (.int (gI g a i.toNatClampNeg) :: st) g r g') : SemF X M d pc lo (.int i :: .ref (ad X a) :: st) g r g' := by
  subst hp
  refine SF_rd h (fun p e R s m args below meth c H locs cells slots Q ls hx hb hK hH k => ?_)
  have hw := hH.arr ha (by omega) (by omega)
  rw [ae_i ha (by omega)] at hw
  exact va_zald hx hb hK hH.1 a 3 hw rfl hin hd k
theorem SF_lald {a : Nat} {i : Int32} (pc2 : Nat) (hd : decode M.2.1 pc = .ok (.laload, 1)) (ha : gK g a = 15) (hin : vp_in i (gN g a)) (hp : pc2 = pc + 1) (h : SemF X M d pc2 lo (.long (gL g a i.toNatClampNeg) :: st) g r g') : SemF X M d pc lo (.int i :: .ref (ad X a) :: st) g r g' := by
  subst hp
  refine SF_rd h (fun p e R s m args below meth c H locs cells slots Q ls hx hb hK hH k => ?_)
  have hw := hH.arr ha (by omega) (by omega)
  rw [ae_l ha] at hw
  exact va_lald hx hb hK hH.1 a 2 hw rfl hin hd k
theorem SF_aaldQ {a kd : Nat} {i : Int32} (pc2 : Nat) (hd : decode M.2.1 pc = .ok (.aaload, 1)) (ha : gK g a = kd) (hkd : kd = 17 ∨ kd = 18 ∨ kd = 19) (hin : vp_in i (gN g a)) (hp : pc2 = pc + 1) (h : SemF X M d pc2 lo (rv X (gR g a i.toNatClampNeg) :: st) g r g') : SemF X M d pc lo (.int i :: .ref (ad X a) :: st) g r g' := by
  subst hp
  refine SF_rd h (fun p e R s m args below meth c H locs cells slots Q ls hx hb hK hH k => ?_)
  have hw := hH.arr ha (by omega) (by omega)
  rw [ae_r ha (by omega)] at hw
  rcases hkd with rfl | rfl | rfl
  · exact va_aldq hx hb hK hH.1 a 4 hw rfl hin hd k
  · exact va_aldq hx hb hK hH.1 a 5 hw rfl hin hd k
  · have hlt : i.toNatClampNeg < gN g a := Nat.not_le.mp fun q => hin (Or.inr q)
    exact W.aald (v := va_rf ((gR g a i.toNatClampNeg).map (ad X))) (ty := .array .long) hx hb (hH.1 a _ hw) ((hK.2 6 _ rfl).1 (gN g a) (fun j => va_rf ((gR g a j).map (ad X)))) rfl (fun q => by cases q) (by show ¬ (i < 0 ∨ (arrV _ _ _).slots.size ≤ _); rw [arrV_size]; exact hin) (by show (arrV _ _ _).slots[_]? = _; rw [arrV_read _ _ hlt]) rfl rfl hd k
theorem SF_aald {a kd b : Nat} {i : Int32} (pc2 : Nat) (hd : decode M.2.1 pc = .ok (.aaload, 1)) (ha : gK g a = kd) (hkd : kd = 17 ∨ kd = 18 ∨ kd = 19) (hin : vp_in i (gN g a)) (hb : gR g a i.toNatClampNeg = some b) (hp : pc2 = pc + 1) (h : SemF X M d pc2 lo (.ref (ad X b) :: st) g r g') : SemF X M d pc lo (.int i :: .ref (ad X a) :: st) g r g' :=
  SF_aaldQ pc2 hd ha hkd hin hp (by rw [hb]; exact h)
theorem SF_alen {a kd : Nat} (pc2 : Nat) (hd : decode M.2.1 pc = .ok (.arraylength, 1)) (ha : gK g a = kd) (hk1 : 13 ≤ kd) (hk2 : kd < 20) (hp : pc2 = pc + 1) (h : SemF X M d pc2 lo (.int (nI (gN g a)) :: st) g r g') : SemF X M d pc lo (.ref (ad X a) :: st) g r g' := by
  subst hp
  refine SF_rd h (fun p e R s m args below meth c H locs cells slots Q ls hx hb hK hH k => ?_)
  have hw := hH.arr ha hk1 (by omega)
  have e1 : (ae X g a).1 = gN g a := rfl
  rcases (show kd = 13 ∨ kd = 14 ∨ kd = 15 ∨ kd = 16 ∨ kd = 17 ∨ kd = 18 ∨ kd = 19 by omega) with rfl | rfl | rfl | rfl | rfl | rfl | rfl
  · exact va_alen hx hb hK hH.1 a 0 hw rfl rfl hd k
  · exact va_alen hx hb hK hH.1 a 1 hw rfl rfl hd k
  · exact va_alen hx hb hK hH.1 a 2 hw rfl rfl hd k
  · exact va_alen hx hb hK hH.1 a 3 hw rfl rfl hd k
  · exact va_alen hx hb hK hH.1 a 4 hw rfl rfl hd k
  · exact va_alen hx hb hK hH.1 a 5 hw rfl rfl hd k
  · exact va_alen hx hb hK hH.1 a 6 hw rfl rfl hd k
/-- an array's place anew -/
theorem SF_wr {pc2 a kd : Nat} {st2 : List Value} {e2 : va_E} (g2 : G) (ha : gK g a = kd) (hkd : 13 ≤ kd) (hkd2 : kd < 99) (hK2 : gK g2 = gK g) (hN2 : gN g2 = gN g) (hn2 : gn g2 = gn g) (hs2 : gs g2 = gs g) (he : eG X g2 a = e2) (hoo : ∀ b, b ≠ a → eG X g2 b = eG X g b) (h : SemF X M d pc2 lo st2 g2 r g')
    (k : ∀ (p : Program) (e : Env) (R : Room) (s : State) (m : MethodId) (args : Array Value) (below : List Frame) (meth : Method) (c : Code) (H : Heap) (locs : List Loc) (cells slots : Nat) (Q : State → Prop) (ls : Array Slot), p.tables.exec = Jvm.exec → c.code = M.2.1 → va_K (xD X) vwCl (xT X) s → xH X g H → va_S (xAf X) s.heap H locs → (∀ (H1 : Heap) (locs1 : List Loc), va_P (xD X) vwCl ((wG X g).set a (ad X a, e2)) H1 → va_D (xAf X) ((wG X g).set a (ad X a, e2)) → va_S (xAf X) s.heap H1 locs1 → W p (xl X) e R s m args below meth c H1 locs1 cells slots Q (F0 m pc2 ls st2)) → W p (xl X) e R s m args below meth c H locs cells slots Q (F0 m pc ls st)) : SemF X M d pc lo st g r g' := by
  have hX : Ext g g2 := ⟨Nat.le_of_eq hn2.symm, Nat.le_of_eq hs2.symm, fun x _ => ⟨by rw [hK2], by rw [hN2]⟩⟩
  have hwf : wf g → wf g2 := fun q x hx => by rw [hK2]; exact q x (by rw [← hn2]; exact hx)
  refine ⟨hX.tr h.1, fun p e R s m args below meth c g0 H locs ls hC hE hH hS hl => ?_⟩
  refine k p e R s m args below meth c H locs _ _ _ ls hC.1 hC.2.1 hC.2.2.2.2.2.2.2.2.1.1 hH hS (fun H1 locs1 hP1 _ hS1 => ?_)
  rw [wG_set hn2 hoo he] at hP1
  have := SF_next h hX hwf hC hE hH hS hl hP1 hS1 (below := below) (e := e)
  rw [hn2, hs2] at this
  exact this
theorem eG_sIa {a k c : Nat} {x : Int32} (ha : gK g a = c) (hc : c = 13 ∨ c = 14 ∨ c = 16) : eG X (sI g a k x) a = .inl (xA X c, gN g a, .inl (upd (gI g a) k x)) := by
  rw [eG_arr (show gK (sI g a k x) a = c from ha) (by omega), ae_i (show gK (sI g a k x) a = c from ha) hc]
  have h1 : gI (sI g a k x) a = upd (gI g a) k x := va_up_self _ _ _
  rw [h1]
  rfl
theorem SF_iast {a : Nat} {i x : Int32} (pc2 : Nat) (hd : decode M.2.1 pc = .ok (.iastore, 1)) (ha : gK g a = 14) (hin : vp_in i (gN g a)) (hp : pc2 = pc + 1) (h : SemF X M d pc2 lo st (sI g a i.toNatClampNeg x) r g') : SemF X M d pc lo (.int x :: .int i :: .ref (ad X a) :: st) g r g' := by
  subst hp
  refine SF_wr (sI g a i.toNatClampNeg x) ha (by omega) (by omega) rfl rfl rfl rfl (eG_sIa ha (by omega)) (fun b hb => eG_rI hb) h (fun p e R s m args below meth c H locs cells slots Q ls hx hb hK hH hS k => ?_)
  have hw := hH.arr ha (by omega) (by omega)
  rw [ae_i ha (by omega)] at hw
  exact va_iast hx hb hK hH.1 (wG_D X g) hS a 1 hw rfl hin hd k
theorem SF_bast {a : Nat} {i x : Int32} (pc2 : Nat) (hd : decode M.2.1 pc = .ok (.bastore, 1)) (ha : gK g a = 13) (hin : vp_in i (gN g a)) (hp : pc2 = pc + 1) (h : SemF X M d pc2 lo st (sI g a i.toNatClampNeg (vp_nar .byte x)) r g') : SemF X M d pc lo (.int x :: .int i :: .ref (ad X a) :: st) g r g' := by
  subst hp
  refine SF_wr (sI g a i.toNatClampNeg (vp_nar .byte x)) ha (by omega) (by omega) rfl rfl rfl rfl (eG_sIa ha (by omega)) (fun b hb => eG_rI hb) h (fun p e R s m args below meth c H locs cells slots Q ls hx hb hK hH hS k => ?_)
  have hw := hH.arr ha (by omega) (by omega)
  rw [ae_i ha (by omega)] at hw
  exact va_bast hx hb hK hH.1 (wG_D X g) hS a 0 hw rfl hin hd k
theorem SF_zast {a : Nat} {i x : Int32} (pc2 : Nat) (hd : decode M.2.1 pc = .ok (.bastore, 1)) (ha : gK g a = 16) (hin : vp_in i (gN g a)) (hp : pc2 = pc + 1) (h : SemF X M d pc2 lo st (sI g a i.toNatClampNeg (vp_nar .boolean x)) r g') : SemF X M d pc lo (.int x :: .int i :: .ref (ad X a) :: st) g r g' := by
  subst hp
  refine SF_wr (sI g a i.toNatClampNeg (vp_nar .boolean x)) ha (by omega) (by omega) rfl rfl rfl rfl (eG_sIa ha (by omega)) (fun b hb => eG_rI hb) h (fun p e R s m args below meth c H locs cells slots Q ls hx hb hK hH hS k => ?_)
  have hw := hH.arr ha (by omega) (by omega)
  rw [ae_i ha (by omega)] at hw
  exact va_zast hx hb hK hH.1 (wG_D X g) hS a 3 hw rfl hin hd k
theorem SF_last {a : Nat} {i : Int32} {x : Int64} (pc2 : Nat) (hd : decode M.2.1 pc = .ok (.lastore, 1)) (ha : gK g a = 15) (hin : vp_in i (gN g a)) (hp : pc2 = pc + 1) (h : SemF X M d pc2 lo st (sL g a i.toNatClampNeg x) r g') : SemF X M d pc lo (.long x :: .int i :: .ref (ad X a) :: st) g r g' := by
  subst hp
  have he : eG X (sL g a i.toNatClampNeg x) a = .inl (xA X 15, gN g a, .inr (.inl (vp_updL (gL g a) i.toNatClampNeg x))) := by
    rw [eG_arr (show gK (sL g a i.toNatClampNeg x) a = 15 from ha) (by omega), ae_l (show gK (sL g a i.toNatClampNeg x) a = 15 from ha)]
    have h1 : gL (sL g a i.toNatClampNeg x) a = vp_updL (gL g a) i.toNatClampNeg x := va_up_self _ _ _
    rw [h1]
    rfl
  refine SF_wr (sL g a i.toNatClampNeg x) ha (by omega) (by omega) rfl rfl rfl rfl he (fun b hb => eG_rL hb) h (fun p e R s m args below meth c H locs cells slots Q ls hx hb hK hH hS k => ?_)
  have hw := hH.arr ha (by omega) (by omega)
  rw [ae_l ha] at hw
  exact va_last hx hb hK hH.1 (wG_D X g) hS a 2 hw rfl hin hd k
theorem SF_aast {a b kd kb : Nat} {i : Int32} (pc2 : Nat) (hd : decode M.2.1 pc = .ok (.aastore, 1)) (ha : gK g a = kd) (hb0 : gK g b = kb) (hkd : kd = 17 ∧ kb = 0 ∨ kd = 18 ∧ kb = 10) (hin : vp_in i (gN g a)) (hp : pc2 = pc + 1) (h : SemF X M d pc2 lo st (sR g a i.toNatClampNeg (some b)) r g') : SemF X M d pc lo (.ref (ad X b) :: .int i :: .ref (ad X a) :: st) g r g' := by
  subst hp
  have he : eG X (sR g a i.toNatClampNeg (some b)) a = .inl (xA X kd, gN g a, .inr (.inr (.inr (.inr (va_up (fun j => (gR g a j).map (ad X)) i.toNatClampNeg (some (ad X b))))))) := by
    rw [eG_arr (show gK (sR g a i.toNatClampNeg (some b)) a = kd from ha) (by omega), ae_r (show gK (sR g a i.toNatClampNeg (some b)) a = kd from ha) (by omega)]
    have h1 : gR (sR g a i.toNatClampNeg (some b)) a = va_up (gR g a) i.toNatClampNeg (some b) := va_up_self _ _ _
    rw [h1]
    have h2 : (fun j => (va_up (gR g a) i.toNatClampNeg (some b) j).map (ad X)) = va_up (fun j => (gR g a j).map (ad X)) i.toNatClampNeg (some (ad X b)) := by
      funext j
      by_cases hj : j = i.toNatClampNeg
      · subst hj; rw [va_up_self, va_up_self]; rfl
      · rw [va_up_ne _ _ hj, va_up_ne _ _ hj]
    rw [h2]
    rfl
  refine SF_wr (sR g a i.toNatClampNeg (some b)) ha (by omega) (by omega) rfl rfl rfl rfl he (fun b hb => eG_rR hb) h (fun p e R s m args below meth c H locs cells slots Q ls hx hb hK hH hS k => ?_)
  have hw := hH.arr ha (by omega) (by omega)
  rw [ae_r ha (by omega)] at hw
  rcases hkd with ⟨rfl, rfl⟩ | ⟨rfl, rfl⟩
  · exact va_astq hx hb hK hH.1 (wG_D X g) hS a 4 b 0 (r := (RX0, TX0, 6)) hw rfl (hH.obj hb0 (by omega)) rfl hin hd k
  · exact va_astq hx hb hK hH.1 (wG_D X g) hS a 5 b 10 (r := (RX10, TX10, 3)) hw rfl (hH.obj hb0 (by omega)) rfl hin hd k
end RUH
