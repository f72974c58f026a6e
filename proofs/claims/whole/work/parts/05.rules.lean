section RUL
variable {X : CX} {M : MD} {d pc : Nat} {lo : List (Nat × Value)} {st : List Value} {g g' : G} {r : Option Value}
theorem SF_iconst {n : Int} (v : Int32) (pc2 : Nat) (hd : decode M.2.1 pc = .ok (.iconst n, 1)) (hv : Int32.ofInt n = v) (hp : pc2 = pc + 1) (h : SemF X M d pc2 lo (.int v :: st) g r g') : SemF X M d pc lo (st) g r g' := by
  subst hp
  exact SF_lift h (fun _ _ _ _ _ _ _ _ _ _ _ _ _ _ _ hx hb ho ht hl k => lv_iconst hx hb hd hv k)
theorem SF_bipush {n : Int} (v : Int32) (pc2 : Nat) (hd : decode M.2.1 pc = .ok (.bipush n, 2)) (hv : (Int8.ofInt n).toInt32 = v) (hp : pc2 = pc + 2) (h : SemF X M d pc2 lo (.int v :: st) g r g') : SemF X M d pc lo (st) g r g' := by
  subst hp
  exact SF_lift h (fun _ _ _ _ _ _ _ _ _ _ _ _ _ _ _ hx hb ho ht hl k => lv_bipush hx hb hd hv k)
theorem SF_sipush {n : Int} (v : Int32) (pc2 : Nat) (hd : decode M.2.1 pc = .ok (.sipush n, 3)) (hv : (Int16.ofInt n).toInt32 = v) (hp : pc2 = pc + 3) (h : SemF X M d pc2 lo (.int v :: st) g r g') : SemF X M d pc lo (st) g r g' := by
  subst hp
  exact SF_lift h (fun _ _ _ _ _ _ _ _ _ _ _ _ _ _ _ hx hb ho ht hl k => lv_sipush hx hb hd hv k)
theorem SF_lconst {n : Fin 2} (v : Int64) (pc2 : Nat) (hd : decode M.2.1 pc = .ok (.lconst n, 1)) (hv : Int64.ofNat (n : Nat) = v) (hp : pc2 = pc + 1) (h : SemF X M d pc2 lo (.long v :: st) g r g') : SemF X M d pc lo (st) g r g' := by
  subst hp
  exact SF_lift h (fun _ _ _ _ _ _ _ _ _ _ _ _ _ _ _ hx hb ho ht hl k => lv_lconst hx hb hd hv k)
theorem SF_ldc {ix : Nat} {v : Int32} (pc2 : Nat) (hd : decode M.2.1 pc = .ok (.ldc ix, 2)) (hw : Cond.constant M.1.cls ix v ∈ wT) (hp : pc2 = pc + 2) (h : SemF X M d pc2 lo (.int v :: st) g r g') : SemF X M d pc lo (st) g r g' := by
  subst hp
  exact SF_lift h (fun _ _ _ _ _ _ _ _ _ _ _ _ _ _ _ hx hb ho ht hl k => lv_ldc hx hb ho (ht _ hw) hd k)
theorem SF_ldcw {ix : Nat} {v : Int32} (pc2 : Nat) (hd : decode M.2.1 pc = .ok (.ldc_w ix, 3)) (hw : Cond.constant M.1.cls ix v ∈ wT) (hp : pc2 = pc + 3) (h : SemF X M d pc2 lo (.int v :: st) g r g') : SemF X M d pc lo (st) g r g' := by
  subst hp
  exact SF_lift h (fun _ _ _ _ _ _ _ _ _ _ _ _ _ _ _ hx hb ho ht hl k => lv_ldcw hx hb ho (ht _ hw) hd k)
theorem SF_ldc2 {ix : Nat} {v : Int64} (pc2 : Nat) (hd : decode M.2.1 pc = .ok (.ldc2_w ix, 3)) (hw : Cond.constantLong M.1.cls ix v ∈ wT) (hp : pc2 = pc + 3) (h : SemF X M d pc2 lo (.long v :: st) g r g') : SemF X M d pc lo (st) g r g' := by
  subst hp
  exact SF_lift h (fun _ _ _ _ _ _ _ _ _ _ _ _ _ _ _ hx hb ho ht hl k => lv_ldc2 hx hb ho (ht _ hw) hd k)
theorem SF_iload_n {kf : Fin 4} (j : Nat) {i : Nat} {x : Int32} (pc2 : Nat) (hd : decode M.2.1 pc = .ok (.iload_n kf, 1)) (hi : (kf : Nat) = i) (hj : lo[j]? = some (i, .int x)) (hp : pc2 = pc + 1) (h : SemF X M d pc2 lo (.int x :: st) g r g') : SemF X M d pc lo (st) g r g' := by
  subst hp
  exact SF_lift h (fun _ _ _ _ _ _ _ _ _ _ _ _ _ _ _ hx hb ho ht hl k => lv_iload_n hx hb hd hi (lv_at hl j hj) k)
theorem SF_iload (j : Nat) {i : Nat} {x : Int32} (pc2 : Nat) (hd : decode M.2.1 pc = .ok (.iload i, 2)) (hj : lo[j]? = some (i, .int x)) (hp : pc2 = pc + 2) (h : SemF X M d pc2 lo (.int x :: st) g r g') : SemF X M d pc lo (st) g r g' := by
  subst hp
  exact SF_lift h (fun _ _ _ _ _ _ _ _ _ _ _ _ _ _ _ hx hb ho ht hl k => lv_iload hx hb hd (lv_at hl j hj) k)
theorem SF_lload_n {kf : Fin 4} (j : Nat) {i : Nat} {x : Int64} (pc2 : Nat) (hd : decode M.2.1 pc = .ok (.lload_n kf, 1)) (hi : (kf : Nat) = i) (hj : lo[j]? = some (i, .long x)) (hp : pc2 = pc + 1) (h : SemF X M d pc2 lo (.long x :: st) g r g') : SemF X M d pc lo (st) g r g' := by
  subst hp
  exact SF_lift h (fun _ _ _ _ _ _ _ _ _ _ _ _ _ _ _ hx hb ho ht hl k => lv_lload_n hx hb hd hi (lv_at hl j hj) k)
theorem SF_lload (j : Nat) {i : Nat} {x : Int64} (pc2 : Nat) (hd : decode M.2.1 pc = .ok (.lload i, 2)) (hj : lo[j]? = some (i, .long x)) (hp : pc2 = pc + 2) (h : SemF X M d pc2 lo (.long x :: st) g r g') : SemF X M d pc lo (st) g r g' := by
  subst hp
  exact SF_lift h (fun _ _ _ _ _ _ _ _ _ _ _ _ _ _ _ hx hb ho ht hl k => lv_lload hx hb hd (lv_at hl j hj) k)
theorem SF_aload_n {kf : Fin 4} (j : Nat) {i : Nat} {x : Nat} (pc2 : Nat) (hd : decode M.2.1 pc = .ok (.aload_n kf, 1)) (hi : (kf : Nat) = i) (hj : lo[j]? = some (i, .ref x)) (hp : pc2 = pc + 1) (h : SemF X M d pc2 lo (.ref x :: st) g r g') : SemF X M d pc lo (st) g r g' := by
  subst hp
  exact SF_lift h (fun _ _ _ _ _ _ _ _ _ _ _ _ _ _ _ hx hb ho ht hl k => lv_aload_n hx hb hd hi (lv_at hl j hj) k)
theorem SF_aload (j : Nat) {i : Nat} {x : Nat} (pc2 : Nat) (hd : decode M.2.1 pc = .ok (.aload i, 2)) (hj : lo[j]? = some (i, .ref x)) (hp : pc2 = pc + 2) (h : SemF X M d pc2 lo (.ref x :: st) g r g') : SemF X M d pc lo (st) g r g' := by
  subst hp
  exact SF_lift h (fun _ _ _ _ _ _ _ _ _ _ _ _ _ _ _ hx hb ho ht hl k => lv_aload hx hb hd (lv_at hl j hj) k)
theorem SF_qload_n {kf : Fin 4} (j : Nat) {i : Nat} {o : Option Nat} (pc2 : Nat) (hd : decode M.2.1 pc = .ok (.aload_n kf, 1)) (hi : (kf : Nat) = i) (hj : lo[j]? = some (i, rv X o)) (hp : pc2 = pc + 1) (h : SemF X M d pc2 lo (rv X o :: st) g r g') : SemF X M d pc lo st g r g' := by
  subst hp
  cases o with
  | none => exact SF_lift h (fun _ _ _ _ _ _ _ _ _ _ _ _ _ _ _ hx hb ho ht hl k => lv_aload_nN hx hb hd hi (lv_at hl j hj) k)
  | some x => exact SF_lift h (fun _ _ _ _ _ _ _ _ _ _ _ _ _ _ _ hx hb ho ht hl k => lv_aload_n hx hb hd hi (lv_at hl j hj) k)
theorem SF_qload (j : Nat) {i : Nat} {o : Option Nat} (pc2 : Nat) (hd : decode M.2.1 pc = .ok (.aload i, 2)) (hj : lo[j]? = some (i, rv X o)) (hp : pc2 = pc + 2) (h : SemF X M d pc2 lo (rv X o :: st) g r g') : SemF X M d pc lo st g r g' := by
  subst hp
  cases o with
  | none => exact SF_lift h (fun _ _ _ _ _ _ _ _ _ _ _ _ _ _ _ hx hb ho ht hl k => lv_aloadN hx hb hd (lv_at hl j hj) k)
  | some x => exact SF_lift h (fun _ _ _ _ _ _ _ _ _ _ _ _ _ _ _ hx hb ho ht hl k => lv_aload hx hb hd (lv_at hl j hj) k)
theorem rv_cat (o : Option Nat) : (rv X o).category = 1 := by cases o <;> rfl
theorem rv_some (a : Nat) : rv X (some a) = .ref (ad X a) := rfl
theorem SF_istore_n {kf : Fin 4} {i : Nat} {x : Int32} (lo2 : List (Nat × Value)) (pc2 : Nat) (hd : decode M.2.1 pc = .ok (.istore_n kf, 1)) (hi : (kf : Nat) = i) (hn : i < M.2.2.1) (hl2 : (i, Value.int x) :: lo.filter (fun q => !(q.1 == i) && !(q.1 + 1 == i && q.2.category == 2)) = lo2) (hp : pc2 = pc + 1) (h : SemF X M d pc2 lo2 st g r g') : SemF X M d pc lo (.int x :: st) g r g' := by
  subst hp
  exact SF_liftL h (fun _ _ _ _ _ _ _ _ _ _ _ _ _ _ _ hx hb hl k => lv_istore_n hx hb hd hi hl hn hl2 k)
theorem SF_istore {i : Nat} {x : Int32} (lo2 : List (Nat × Value)) (pc2 : Nat) (hd : decode M.2.1 pc = .ok (.istore i, 2)) (hn : i < M.2.2.1) (hl2 : (i, Value.int x) :: lo.filter (fun q => !(q.1 == i) && !(q.1 + 1 == i && q.2.category == 2)) = lo2) (hp : pc2 = pc + 2) (h : SemF X M d pc2 lo2 st g r g') : SemF X M d pc lo (.int x :: st) g r g' := by
  subst hp
  exact SF_liftL h (fun _ _ _ _ _ _ _ _ _ _ _ _ _ _ _ hx hb hl k => lv_istore hx hb hd hl hn hl2 k)
theorem SF_lstore_n {kf : Fin 4} {i : Nat} {x : Int64} (lo2 : List (Nat × Value)) (pc2 : Nat) (hd : decode M.2.1 pc = .ok (.lstore_n kf, 1)) (hi : (kf : Nat) = i) (hn : i + 1 < M.2.2.1) (hl2 : (i, Value.long x) :: lo.filter (fun q => !(q.1 == i) && (!(q.1 == i + 1) && !(q.1 + 1 == i && q.2.category == 2))) = lo2) (hp : pc2 = pc + 1) (h : SemF X M d pc2 lo2 st g r g') : SemF X M d pc lo (.long x :: st) g r g' := by
  subst hp
  exact SF_liftL h (fun _ _ _ _ _ _ _ _ _ _ _ _ _ _ _ hx hb hl k => lv_lstore_n hx hb hd hi hl hn hl2 k)
theorem SF_lstore {i : Nat} {x : Int64} (lo2 : List (Nat × Value)) (pc2 : Nat) (hd : decode M.2.1 pc = .ok (.lstore i, 2)) (hn : i + 1 < M.2.2.1) (hl2 : (i, Value.long x) :: lo.filter (fun q => !(q.1 == i) && (!(q.1 == i + 1) && !(q.1 + 1 == i && q.2.category == 2))) = lo2) (hp : pc2 = pc + 2) (h : SemF X M d pc2 lo2 st g r g') : SemF X M d pc lo (.long x :: st) g r g' := by
  subst hp
  exact SF_liftL h (fun _ _ _ _ _ _ _ _ _ _ _ _ _ _ _ hx hb hl k => lv_lstore hx hb hd hl hn hl2 k)
theorem SF_astore_n {kf : Fin 4} {i : Nat} {x : Nat} (lo2 : List (Nat × Value)) (pc2 : Nat) (hd : decode M.2.1 pc = .ok (.astore_n kf, 1)) (hi : (kf : Nat) = i) (hn : i < M.2.2.1) (hl2 : (i, Value.ref x) :: lo.filter (fun q => !(q.1 == i) && !(q.1 + 1 == i && q.2.category == 2)) = lo2) (hp : pc2 = pc + 1) (h : SemF X M d pc2 lo2 st g r g') : SemF X M d pc lo (.ref x :: st) g r g' := by
  subst hp
  exact SF_liftL h (fun _ _ _ _ _ _ _ _ _ _ _ _ _ _ _ hx hb hl k => lv_astore_n hx hb hd hi hl hn hl2 k)
theorem SF_astore {i : Nat} {x : Nat} (lo2 : List (Nat × Value)) (pc2 : Nat) (hd : decode M.2.1 pc = .ok (.astore i, 2)) (hn : i < M.2.2.1) (hl2 : (i, Value.ref x) :: lo.filter (fun q => !(q.1 == i) && !(q.1 + 1 == i && q.2.category == 2)) = lo2) (hp : pc2 = pc + 2) (h : SemF X M d pc2 lo2 st g r g') : SemF X M d pc lo (.ref x :: st) g r g' := by
  subst hp
  exact SF_liftL h (fun _ _ _ _ _ _ _ _ _ _ _ _ _ _ _ hx hb hl k => lv_astore hx hb hd hl hn hl2 k)
theorem SF_qstore_n {kf : Fin 4} {i : Nat} {o : Option Nat} (lo2 : List (Nat × Value)) (pc2 : Nat) (hd : decode M.2.1 pc = .ok (.astore_n kf, 1)) (hi : (kf : Nat) = i) (hn : i < M.2.2.1) (hl2 : (i, rv X o) :: lo.filter (fun q => !(q.1 == i) && !(q.1 + 1 == i && q.2.category == 2)) = lo2) (hp : pc2 = pc + 1) (h : SemF X M d pc2 lo2 st g r g') : SemF X M d pc lo (rv X o :: st) g r g' := by
  subst hp
  cases o with
  | none => exact SF_liftL h (fun _ _ _ _ _ _ _ _ _ _ _ _ _ _ _ hx hb hl k => lv_astore_nN hx hb hd hi hl hn hl2 k)
  | some x => exact SF_liftL h (fun _ _ _ _ _ _ _ _ _ _ _ _ _ _ _ hx hb hl k => lv_astore_n hx hb hd hi hl hn hl2 k)
theorem SF_qstore {i : Nat} {o : Option Nat} (lo2 : List (Nat × Value)) (pc2 : Nat) (hd : decode M.2.1 pc = .ok (.astore i, 2)) (hn : i < M.2.2.1) (hl2 : (i, rv X o) :: lo.filter (fun q => !(q.1 == i) && !(q.1 + 1 == i && q.2.category == 2)) = lo2) (hp : pc2 = pc + 2) (h : SemF X M d pc2 lo2 st g r g') : SemF X M d pc lo (rv X o :: st) g r g' := by
  subst hp
  cases o with
  | none => exact SF_liftL h (fun _ _ _ _ _ _ _ _ _ _ _ _ _ _ _ hx hb hl k => lv_astoreN hx hb hd hl hn hl2 k)
  | some x => exact SF_liftL h (fun _ _ _ _ _ _ _ _ _ _ _ _ _ _ _ hx hb hl k => lv_astore hx hb hd hl hn hl2 k)
theorem SF_iinc (j : Nat) {i : Nat} {n : Int} {x : Int32} (v : Int32) (lo2 : List (Nat × Value)) (pc2 : Nat) (hd : decode M.2.1 pc = .ok (.iinc i n, 3)) (hj : lo[j]? = some (i, .int x)) (hv : x + Int32.ofInt n = v) (hn : i < M.2.2.1) (hl2 : (i, Value.int v) :: lo.filter (fun q => !(q.1 == i) && !(q.1 + 1 == i && q.2.category == 2)) = lo2) (hp : pc2 = pc + 3) (h : SemF X M d pc2 lo2 st g r g') : SemF X M d pc lo st g r g' := by
  subst hp
  exact SF_liftL h (fun _ _ _ _ _ _ _ _ _ _ _ _ _ _ _ hx hb hl k => lv_iinc hx hb hd hl hj hv hn hl2 k)
theorem SF_iadd {x y : Int32} (pc2 : Nat) (hd : decode M.2.1 pc = .ok (.iadd, 1)) (hp : pc2 = pc + 1) (h : SemF X M d pc2 lo (.int (x + y) :: st) g r g') : SemF X M d pc lo (.int y :: .int x :: st) g r g' := by
  subst hp
  exact SF_lift h (fun _ _ _ _ _ _ _ _ _ _ _ _ _ _ _ hx hb ho ht hl k => lv_iadd hx hb hd k)
theorem SF_isub {x y : Int32} (pc2 : Nat) (hd : decode M.2.1 pc = .ok (.isub, 1)) (hp : pc2 = pc + 1) (h : SemF X M d pc2 lo (.int (x - y) :: st) g r g') : SemF X M d pc lo (.int y :: .int x :: st) g r g' := by
  subst hp
  exact SF_lift h (fun _ _ _ _ _ _ _ _ _ _ _ _ _ _ _ hx hb ho ht hl k => lv_isub hx hb hd k)
theorem SF_imul {x y : Int32} (pc2 : Nat) (hd : decode M.2.1 pc = .ok (.imul, 1)) (hp : pc2 = pc + 1) (h : SemF X M d pc2 lo (.int (x * y) :: st) g r g') : SemF X M d pc lo (.int y :: .int x :: st) g r g' := by
  subst hp
  exact SF_lift h (fun _ _ _ _ _ _ _ _ _ _ _ _ _ _ _ hx hb ho ht hl k => lv_imul hx hb hd k)
theorem SF_iand {x y : Int32} (pc2 : Nat) (hd : decode M.2.1 pc = .ok (.iand, 1)) (hp : pc2 = pc + 1) (h : SemF X M d pc2 lo (.int (x &&& y) :: st) g r g') : SemF X M d pc lo (.int y :: .int x :: st) g r g' := by
  subst hp
  exact SF_lift h (fun _ _ _ _ _ _ _ _ _ _ _ _ _ _ _ hx hb ho ht hl k => lv_iand hx hb hd k)
theorem SF_ior {x y : Int32} (pc2 : Nat) (hd : decode M.2.1 pc = .ok (.ior, 1)) (hp : pc2 = pc + 1) (h : SemF X M d pc2 lo (.int (x ||| y) :: st) g r g') : SemF X M d pc lo (.int y :: .int x :: st) g r g' := by
  subst hp
  exact SF_lift h (fun _ _ _ _ _ _ _ _ _ _ _ _ _ _ _ hx hb ho ht hl k => lv_ior hx hb hd k)
theorem SF_ixor {x y : Int32} (pc2 : Nat) (hd : decode M.2.1 pc = .ok (.ixor, 1)) (hp : pc2 = pc + 1) (h : SemF X M d pc2 lo (.int (x ^^^ y) :: st) g r g') : SemF X M d pc lo (.int y :: .int x :: st) g r g' := by
  subst hp
  exact SF_lift h (fun _ _ _ _ _ _ _ _ _ _ _ _ _ _ _ hx hb ho ht hl k => lv_ixor hx hb hd k)
theorem SF_ishl {x y : Int32} (pc2 : Nat) (hd : decode M.2.1 pc = .ok (.ishl, 1)) (hp : pc2 = pc + 1) (h : SemF X M d pc2 lo (.int (x <<< (y &&& 31)) :: st) g r g') : SemF X M d pc lo (.int y :: .int x :: st) g r g' := by
  subst hp
  exact SF_lift h (fun _ _ _ _ _ _ _ _ _ _ _ _ _ _ _ hx hb ho ht hl k => lv_ishl hx hb hd k)
theorem SF_ishr {x y : Int32} (pc2 : Nat) (hd : decode M.2.1 pc = .ok (.ishr, 1)) (hp : pc2 = pc + 1) (h : SemF X M d pc2 lo (.int (x >>> (y &&& 31)) :: st) g r g') : SemF X M d pc lo (.int y :: .int x :: st) g r g' := by
  subst hp
  exact SF_lift h (fun _ _ _ _ _ _ _ _ _ _ _ _ _ _ _ hx hb ho ht hl k => lv_ishr hx hb hd k)
theorem SF_idiv {x y : Int32} (pc2 : Nat) (hd : decode M.2.1 pc = .ok (.idiv, 1)) (hne : ¬ y = 0) (hp : pc2 = pc + 1) (h : SemF X M d pc2 lo (.int (x / y) :: st) g r g') : SemF X M d pc lo (.int y :: .int x :: st) g r g' := by
  subst hp
  exact SF_lift h (fun _ _ _ _ _ _ _ _ _ _ _ _ _ _ _ hx hb ho ht hl k => lv_idiv hx hb hd hne k)
theorem SF_irem {x y : Int32} (pc2 : Nat) (hd : decode M.2.1 pc = .ok (.irem, 1)) (hne : ¬ y = 0) (hp : pc2 = pc + 1) (h : SemF X M d pc2 lo (.int (x - x / y * y) :: st) g r g') : SemF X M d pc lo (.int y :: .int x :: st) g r g' := by
  subst hp
  exact SF_lift h (fun _ _ _ _ _ _ _ _ _ _ _ _ _ _ _ hx hb ho ht hl k => lv_irem hx hb hd hne k)
theorem SF_ineg {x : Int32} (pc2 : Nat) (hd : decode M.2.1 pc = .ok (.ineg, 1)) (hp : pc2 = pc + 1) (h : SemF X M d pc2 lo (.int (-x) :: st) g r g') : SemF X M d pc lo (.int x :: st) g r g' := by
  subst hp
  exact SF_lift h (fun _ _ _ _ _ _ _ _ _ _ _ _ _ _ _ hx hb ho ht hl k => lv_ineg hx hb hd k)
theorem SF_lneg {x : Int64} (pc2 : Nat) (hd : decode M.2.1 pc = .ok (.lneg, 1)) (hp : pc2 = pc + 1) (h : SemF X M d pc2 lo (.long (-x) :: st) g r g') : SemF X M d pc lo (.long x :: st) g r g' := by
  subst hp
  exact SF_lift h (fun _ _ _ _ _ _ _ _ _ _ _ _ _ _ _ hx hb ho ht hl k => lv_lneg hx hb hd k)
theorem SF_ladd {x y : Int64} (pc2 : Nat) (hd : decode M.2.1 pc = .ok (.ladd, 1)) (hp : pc2 = pc + 1) (h : SemF X M d pc2 lo (.long (x + y) :: st) g r g') : SemF X M d pc lo (.long y :: .long x :: st) g r g' := by
  subst hp
  exact SF_lift h (fun _ _ _ _ _ _ _ _ _ _ _ _ _ _ _ hx hb ho ht hl k => lv_ladd hx hb hd k)
theorem SF_lsub {x y : Int64} (pc2 : Nat) (hd : decode M.2.1 pc = .ok (.lsub, 1)) (hp : pc2 = pc + 1) (h : SemF X M d pc2 lo (.long (x - y) :: st) g r g') : SemF X M d pc lo (.long y :: .long x :: st) g r g' := by
  subst hp
  exact SF_lift h (fun _ _ _ _ _ _ _ _ _ _ _ _ _ _ _ hx hb ho ht hl k => lv_lsub hx hb hd k)
theorem SF_lmul {x y : Int64} (pc2 : Nat) (hd : decode M.2.1 pc = .ok (.lmul, 1)) (hp : pc2 = pc + 1) (h : SemF X M d pc2 lo (.long (x * y) :: st) g r g') : SemF X M d pc lo (.long y :: .long x :: st) g r g' := by
  subst hp
  exact SF_lift h (fun _ _ _ _ _ _ _ _ _ _ _ _ _ _ _ hx hb ho ht hl k => lv_lmul hx hb hd k)
theorem SF_land {x y : Int64} (pc2 : Nat) (hd : decode M.2.1 pc = .ok (.land, 1)) (hp : pc2 = pc + 1) (h : SemF X M d pc2 lo (.long (x &&& y) :: st) g r g') : SemF X M d pc lo (.long y :: .long x :: st) g r g' := by
  subst hp
  exact SF_lift h (fun _ _ _ _ _ _ _ _ _ _ _ _ _ _ _ hx hb ho ht hl k => lv_land hx hb hd k)
theorem SF_lor {x y : Int64} (pc2 : Nat) (hd : decode M.2.1 pc = .ok (.lor, 1)) (hp : pc2 = pc + 1) (h : SemF X M d pc2 lo (.long (x ||| y) :: st) g r g') : SemF X M d pc lo (.long y :: .long x :: st) g r g' := by
  subst hp
  exact SF_lift h (fun _ _ _ _ _ _ _ _ _ _ _ _ _ _ _ hx hb ho ht hl k => lv_lor hx hb hd k)
theorem SF_lxor {x y : Int64} (pc2 : Nat) (hd : decode M.2.1 pc = .ok (.lxor, 1)) (hp : pc2 = pc + 1) (h : SemF X M d pc2 lo (.long (x ^^^ y) :: st) g r g') : SemF X M d pc lo (.long y :: .long x :: st) g r g' := by
  subst hp
  exact SF_lift h (fun _ _ _ _ _ _ _ _ _ _ _ _ _ _ _ hx hb ho ht hl k => lv_lxor hx hb hd k)
theorem SF_ldiv {x y : Int64} (pc2 : Nat) (hd : decode M.2.1 pc = .ok (.ldiv, 1)) (hne : ¬ y = 0) (hp : pc2 = pc + 1) (h : SemF X M d pc2 lo (.long (x / y) :: st) g r g') : SemF X M d pc lo (.long y :: .long x :: st) g r g' := by
  subst hp
  exact SF_lift h (fun _ _ _ _ _ _ _ _ _ _ _ _ _ _ _ hx hb ho ht hl k => lv_ldiv hx hb hd hne k)
theorem SF_lrem {x y : Int64} (pc2 : Nat) (hd : decode M.2.1 pc = .ok (.lrem, 1)) (hne : ¬ y = 0) (hp : pc2 = pc + 1) (h : SemF X M d pc2 lo (.long (x - x / y * y) :: st) g r g') : SemF X M d pc lo (.long y :: .long x :: st) g r g' := by
  subst hp
  exact SF_lift h (fun _ _ _ _ _ _ _ _ _ _ _ _ _ _ _ hx hb ho ht hl k => lv_lrem hx hb hd hne k)
theorem SF_lcmp {x y : Int64} (pc2 : Nat) (hd : decode M.2.1 pc = .ok (.lcmp, 1)) (hp : pc2 = pc + 1) (h : SemF X M d pc2 lo (.int (lg_cmp x y) :: st) g r g') : SemF X M d pc lo (.long y :: .long x :: st) g r g' := by
  subst hp
  exact SF_lift h (fun _ _ _ _ _ _ _ _ _ _ _ _ _ _ _ hx hb ho ht hl k => W.lcmp hx hb hd k)
theorem SF_iushr {x y : Int32} (pc2 : Nat) (hd : decode M.2.1 pc = .ok (.iushr, 1)) (hp : pc2 = pc + 1) (h : SemF X M d pc2 lo (.int ((x.toUInt32 >>> (y.toUInt32 &&& Int32.toUInt32 31)).toInt32) :: st) g r g') : SemF X M d pc lo (.int y :: .int x :: st) g r g' := by
  subst hp
  exact SF_lift h (fun _ _ _ _ _ _ _ _ _ _ _ _ _ _ _ hx hb ho ht hl k => lv_iushr hx hb hd rfl k)
theorem SF_lushr {x : Int64} {y : Int32} (pc2 : Nat) (hd : decode M.2.1 pc = .ok (.lushr, 1)) (hp : pc2 = pc + 1) (h : SemF X M d pc2 lo (.long ((x.toUInt64 >>> (y.toInt64.toUInt64 &&& Int64.toUInt64 63)).toInt64) :: st) g r g') : SemF X M d pc lo (.int y :: .long x :: st) g r g' := by
  subst hp
  exact SF_lift h (fun _ _ _ _ _ _ _ _ _ _ _ _ _ _ _ hx hb ho ht hl k => lv_lushr hx hb hd rfl k)
theorem SF_lshl {x : Int64} {y : Int32} (pc2 : Nat) (hd : decode M.2.1 pc = .ok (.lshl, 1)) (hp : pc2 = pc + 1) (h : SemF X M d pc2 lo (.long (x <<< (y.toInt64 &&& 63)) :: st) g r g') : SemF X M d pc lo (.int y :: .long x :: st) g r g' := by
  subst hp
  exact SF_lift h (fun _ _ _ _ _ _ _ _ _ _ _ _ _ _ _ hx hb ho ht hl k => lv_lshl hx hb hd rfl k)
theorem SF_lshr {x : Int64} {y : Int32} (pc2 : Nat) (hd : decode M.2.1 pc = .ok (.lshr, 1)) (hp : pc2 = pc + 1) (h : SemF X M d pc2 lo (.long (x >>> (y.toInt64 &&& 63)) :: st) g r g') : SemF X M d pc lo (.int y :: .long x :: st) g r g' := by
  subst hp
  exact SF_lift h (fun _ _ _ _ _ _ _ _ _ _ _ _ _ _ _ hx hb ho ht hl k => lv_lshr hx hb hd rfl k)
theorem SF_i2l {x : Int32} (pc2 : Nat) (hd : decode M.2.1 pc = .ok (.i2l, 1)) (hp : pc2 = pc + 1) (h : SemF X M d pc2 lo (.long (x.toInt64) :: st) g r g') : SemF X M d pc lo (.int x :: st) g r g' := by
  subst hp
  exact SF_lift h (fun _ _ _ _ _ _ _ _ _ _ _ _ _ _ _ hx hb ho ht hl k => lv_i2l hx hb hd rfl k)
theorem SF_l2i {x : Int64} (pc2 : Nat) (hd : decode M.2.1 pc = .ok (.l2i, 1)) (hp : pc2 = pc + 1) (h : SemF X M d pc2 lo (.int (x.toInt32) :: st) g r g') : SemF X M d pc lo (.long x :: st) g r g' := by
  subst hp
  exact SF_lift h (fun _ _ _ _ _ _ _ _ _ _ _ _ _ _ _ hx hb ho ht hl k => lv_l2i hx hb hd rfl k)
theorem SF_i2b {x : Int32} (pc2 : Nat) (hd : decode M.2.1 pc = .ok (.i2b, 1)) (hp : pc2 = pc + 1) (h : SemF X M d pc2 lo (.int (x.toInt8.toInt32) :: st) g r g') : SemF X M d pc lo (.int x :: st) g r g' := by
  subst hp
  exact SF_lift h (fun _ _ _ _ _ _ _ _ _ _ _ _ _ _ _ hx hb ho ht hl k => lv_i2b hx hb hd rfl k)
theorem SF_i2s {x : Int32} (pc2 : Nat) (hd : decode M.2.1 pc = .ok (.i2s, 1)) (hp : pc2 = pc + 1) (h : SemF X M d pc2 lo (.int (x.toInt16.toInt32) :: st) g r g') : SemF X M d pc lo (.int x :: st) g r g' := by
  subst hp
  exact SF_lift h (fun _ _ _ _ _ _ _ _ _ _ _ _ _ _ _ hx hb ho ht hl k => lv_i2s hx hb hd rfl k)
theorem SF_i2c {x : Int32} (pc2 : Nat) (hd : decode M.2.1 pc = .ok (.i2c, 1)) (hp : pc2 = pc + 1) (h : SemF X M d pc2 lo (.int ((x.toUInt32 % 65536).toInt32) :: st) g r g') : SemF X M d pc lo (.int x :: st) g r g' := by
  subst hp
  exact SF_lift h (fun _ _ _ _ _ _ _ _ _ _ _ _ _ _ _ hx hb ho ht hl k => lv_i2c hx hb hd rfl k)
theorem SF_dup {va : Value} (pc2 : Nat) (hd : decode M.2.1 pc = .ok (.dup, 1)) (h1 : va.category = 1) (hp : pc2 = pc + 1) (h : SemF X M d pc2 lo (va :: va :: st) g r g') : SemF X M d pc lo (va :: st) g r g' := by
  subst hp
  exact SF_lift h (fun _ _ _ _ _ _ _ _ _ _ _ _ _ _ _ hx hb ho ht hl k => lv_dup hx hb hd h1 k)
theorem SF_pop {va : Value} (pc2 : Nat) (hd : decode M.2.1 pc = .ok (.pop, 1)) (h1 : va.category = 1) (hp : pc2 = pc + 1) (h : SemF X M d pc2 lo (st) g r g') : SemF X M d pc lo (va :: st) g r g' := by
  subst hp
  exact SF_lift h (fun _ _ _ _ _ _ _ _ _ _ _ _ _ _ _ hx hb ho ht hl k => lv_pop hx hb hd h1 k)
theorem SF_dup_x1 {va vb : Value} (pc2 : Nat) (hd : decode M.2.1 pc = .ok (.dup_x1, 1)) (h1 : va.category = 1) (h2 : vb.category = 1) (hp : pc2 = pc + 1) (h : SemF X M d pc2 lo (va :: vb :: va :: st) g r g') : SemF X M d pc lo (va :: vb :: st) g r g' := by
  subst hp
  exact SF_lift h (fun _ _ _ _ _ _ _ _ _ _ _ _ _ _ _ hx hb ho ht hl k => lv_dup_x1 hx hb hd h1 h2 k)
theorem SF_dup2_11 {va vb : Value} (pc2 : Nat) (hd : decode M.2.1 pc = .ok (.dup2, 1)) (h1 : va.category = 1) (h2 : vb.category = 1) (hp : pc2 = pc + 1) (h : SemF X M d pc2 lo (va :: vb :: va :: vb :: st) g r g') : SemF X M d pc lo (va :: vb :: st) g r g' := by
  subst hp
  exact SF_lift h (fun _ _ _ _ _ _ _ _ _ _ _ _ _ _ _ hx hb ho ht hl k => lv_dup2_11 hx hb hd h1 h2 k)
theorem SF_dup2_2 {va : Value} (pc2 : Nat) (hd : decode M.2.1 pc = .ok (.dup2, 1)) (h1 : va.category = 2) (hp : pc2 = pc + 1) (h : SemF X M d pc2 lo (va :: va :: st) g r g') : SemF X M d pc lo (va :: st) g r g' := by
  subst hp
  exact SF_lift h (fun _ _ _ _ _ _ _ _ _ _ _ _ _ _ _ hx hb ho ht hl k => lv_dup2_2 hx hb hd h1 k)
theorem SF_pop2_2 {va : Value} (pc2 : Nat) (hd : decode M.2.1 pc = .ok (.pop2, 1)) (h1 : va.category = 2) (hp : pc2 = pc + 1) (h : SemF X M d pc2 lo (st) g r g') : SemF X M d pc lo (va :: st) g r g' := by
  subst hp
  exact SF_lift h (fun _ _ _ _ _ _ _ _ _ _ _ _ _ _ _ hx hb ho ht hl k => lv_pop2_2 hx hb hd h1 k)
theorem SF_pop2_11 {va vb : Value} (pc2 : Nat) (hd : decode M.2.1 pc = .ok (.pop2, 1)) (h1 : va.category = 1) (h2 : vb.category = 1) (hp : pc2 = pc + 1) (h : SemF X M d pc2 lo (st) g r g') : SemF X M d pc lo (va :: vb :: st) g r g' := by
  subst hp
  exact SF_lift h (fun _ _ _ _ _ _ _ _ _ _ _ _ _ _ _ hx hb ho ht hl k => lv_pop2_11 hx hb hd h1 h2 k)
theorem SF_goto {off : Int} (pc2 : Nat) (hd : decode M.2.1 pc = .ok (.goto off, 3)) (hp : (pc : Int) + off = (pc2 : Int)) (h : SemF X M d pc2 lo st g r g') : SemF X M d pc lo st g r g' := SF_lift h (fun _ _ _ _ _ _ _ _ _ _ _ _ _ _ _ hx hb ho ht hl k => lv_goto hx hb hd hp k)
theorem SF_ifeq {x : Int32} {off : Int} (tgt pc2 : Nat) (hd : decode M.2.1 pc = .ok (.ifCond .eq off, 3)) (ht : (pc : Int) + off = (tgt : Int)) (hp : pc2 = pc + 3) (h1 : x = 0 → SemF X M d tgt lo st g r g') (h2 : ¬ (x = 0) → SemF X M d pc2 lo st g r g') : SemF X M d pc lo (.int x :: st) g r g' := by
  subst hp
  exact SF_br h1 h2 (fun _ _ _ _ _ _ _ _ _ _ _ _ _ _ _ hx hb k1 k2 => lv_if_eq hx hb hd ht k1 k2)
theorem SF_ifne {x : Int32} {off : Int} (tgt pc2 : Nat) (hd : decode M.2.1 pc = .ok (.ifCond .ne off, 3)) (ht : (pc : Int) + off = (tgt : Int)) (hp : pc2 = pc + 3) (h1 : ¬ (x = 0) → SemF X M d tgt lo st g r g') (h2 : x = 0 → SemF X M d pc2 lo st g r g') : SemF X M d pc lo (.int x :: st) g r g' := by
  subst hp
  exact SF_br h2 h1 (fun _ _ _ _ _ _ _ _ _ _ _ _ _ _ _ hx hb k1 k2 => lv_if_ne hx hb hd ht k2 k1)
theorem SF_iflt {x : Int32} {off : Int} (tgt pc2 : Nat) (hd : decode M.2.1 pc = .ok (.ifCond .lt off, 3)) (ht : (pc : Int) + off = (tgt : Int)) (hp : pc2 = pc + 3) (h1 : x < 0 → SemF X M d tgt lo st g r g') (h2 : ¬ (x < 0) → SemF X M d pc2 lo st g r g') : SemF X M d pc lo (.int x :: st) g r g' := by
  subst hp
  exact SF_br h1 h2 (fun _ _ _ _ _ _ _ _ _ _ _ _ _ _ _ hx hb k1 k2 => lv_if_lt hx hb hd ht k1 k2)
theorem SF_ifge {x : Int32} {off : Int} (tgt pc2 : Nat) (hd : decode M.2.1 pc = .ok (.ifCond .ge off, 3)) (ht : (pc : Int) + off = (tgt : Int)) (hp : pc2 = pc + 3) (h1 : 0 ≤ x → SemF X M d tgt lo st g r g') (h2 : ¬ (0 ≤ x) → SemF X M d pc2 lo st g r g') : SemF X M d pc lo (.int x :: st) g r g' := by
  subst hp
  exact SF_br h1 h2 (fun _ _ _ _ _ _ _ _ _ _ _ _ _ _ _ hx hb k1 k2 => lv_if_ge hx hb hd ht k1 k2)
theorem SF_ifgt {x : Int32} {off : Int} (tgt pc2 : Nat) (hd : decode M.2.1 pc = .ok (.ifCond .gt off, 3)) (ht : (pc : Int) + off = (tgt : Int)) (hp : pc2 = pc + 3) (h1 : 0 < x → SemF X M d tgt lo st g r g') (h2 : ¬ (0 < x) → SemF X M d pc2 lo st g r g') : SemF X M d pc lo (.int x :: st) g r g' := by
  subst hp
  exact SF_br h1 h2 (fun _ _ _ _ _ _ _ _ _ _ _ _ _ _ _ hx hb k1 k2 => lv_if_gt hx hb hd ht k1 k2)
theorem SF_ifle {x : Int32} {off : Int} (tgt pc2 : Nat) (hd : decode M.2.1 pc = .ok (.ifCond .le off, 3)) (ht : (pc : Int) + off = (tgt : Int)) (hp : pc2 = pc + 3) (h1 : x ≤ 0 → SemF X M d tgt lo st g r g') (h2 : ¬ (x ≤ 0) → SemF X M d pc2 lo st g r g') : SemF X M d pc lo (.int x :: st) g r g' := by
  subst hp
  exact SF_br h1 h2 (fun _ _ _ _ _ _ _ _ _ _ _ _ _ _ _ hx hb k1 k2 => lv_if_le hx hb hd ht k1 k2)
theorem SF_iceq {x y : Int32} {off : Int} (tgt pc2 : Nat) (hd : decode M.2.1 pc = .ok (.if_icmp .eq off, 3)) (ht : (pc : Int) + off = (tgt : Int)) (hp : pc2 = pc + 3) (h1 : x = y → SemF X M d tgt lo st g r g') (h2 : ¬ (x = y) → SemF X M d pc2 lo st g r g') : SemF X M d pc lo (.int y :: .int x :: st) g r g' := by
  subst hp
  exact SF_br h1 h2 (fun _ _ _ _ _ _ _ _ _ _ _ _ _ _ _ hx hb k1 k2 => lv_icmp_eq hx hb hd ht k1 k2)
theorem SF_icne {x y : Int32} {off : Int} (tgt pc2 : Nat) (hd : decode M.2.1 pc = .ok (.if_icmp .ne off, 3)) (ht : (pc : Int) + off = (tgt : Int)) (hp : pc2 = pc + 3) (h1 : ¬ (x = y) → SemF X M d tgt lo st g r g') (h2 : x = y → SemF X M d pc2 lo st g r g') : SemF X M d pc lo (.int y :: .int x :: st) g r g' := by
  subst hp
  exact SF_br h2 h1 (fun _ _ _ _ _ _ _ _ _ _ _ _ _ _ _ hx hb k1 k2 => lv_icmp_ne hx hb hd ht k2 k1)
theorem SF_iclt {x y : Int32} {off : Int} (tgt pc2 : Nat) (hd : decode M.2.1 pc = .ok (.if_icmp .lt off, 3)) (ht : (pc : Int) + off = (tgt : Int)) (hp : pc2 = pc + 3) (h1 : x < y → SemF X M d tgt lo st g r g') (h2 : ¬ (x < y) → SemF X M d pc2 lo st g r g') : SemF X M d pc lo (.int y :: .int x :: st) g r g' := by
  subst hp
  exact SF_br h1 h2 (fun _ _ _ _ _ _ _ _ _ _ _ _ _ _ _ hx hb k1 k2 => lv_icmp_lt hx hb hd ht k1 k2)
theorem SF_icge {x y : Int32} {off : Int} (tgt pc2 : Nat) (hd : decode M.2.1 pc = .ok (.if_icmp .ge off, 3)) (ht : (pc : Int) + off = (tgt : Int)) (hp : pc2 = pc + 3) (h1 : y ≤ x → SemF X M d tgt lo st g r g') (h2 : ¬ (y ≤ x) → SemF X M d pc2 lo st g r g') : SemF X M d pc lo (.int y :: .int x :: st) g r g' := by
  subst hp
  exact SF_br h1 h2 (fun _ _ _ _ _ _ _ _ _ _ _ _ _ _ _ hx hb k1 k2 => lv_icmp_ge hx hb hd ht k1 k2)
theorem SF_icgt {x y : Int32} {off : Int} (tgt pc2 : Nat) (hd : decode M.2.1 pc = .ok (.if_icmp .gt off, 3)) (ht : (pc : Int) + off = (tgt : Int)) (hp : pc2 = pc + 3) (h1 : y < x → SemF X M d tgt lo st g r g') (h2 : ¬ (y < x) → SemF X M d pc2 lo st g r g') : SemF X M d pc lo (.int y :: .int x :: st) g r g' := by
  subst hp
  exact SF_br h1 h2 (fun _ _ _ _ _ _ _ _ _ _ _ _ _ _ _ hx hb k1 k2 => lv_icmp_gt hx hb hd ht k1 k2)
theorem SF_icle {x y : Int32} {off : Int} (tgt pc2 : Nat) (hd : decode M.2.1 pc = .ok (.if_icmp .le off, 3)) (ht : (pc : Int) + off = (tgt : Int)) (hp : pc2 = pc + 3) (h1 : x ≤ y → SemF X M d tgt lo st g r g') (h2 : ¬ (x ≤ y) → SemF X M d pc2 lo st g r g') : SemF X M d pc lo (.int y :: .int x :: st) g r g' := by
  subst hp
  exact SF_br h1 h2 (fun _ _ _ _ _ _ _ _ _ _ _ _ _ _ _ hx hb k1 k2 => lv_icmp_le hx hb hd ht k1 k2)
theorem SF_ifnull {o : Option Nat} {off : Int} (tgt pc2 : Nat) (hd : decode M.2.1 pc = .ok (.ifnull off, 3)) (ht : (pc : Int) + off = (tgt : Int)) (hp : pc2 = pc + 3) (h1 : o = none → SemF X M d tgt lo st g r g') (h2 : ¬ (o = none) → SemF X M d pc2 lo st g r g') : SemF X M d pc lo (rv X o :: st) g r g' := by
  subst hp
  cases o with
  | none => exact SF_lift (h1 rfl) (fun _ _ _ _ _ _ _ _ _ _ _ _ _ _ _ hx hb _ _ _ k => lv_ifnullN hx hb hd ht k)
  | some x => exact SF_lift (h2 (fun h => by cases h)) (fun _ _ _ _ _ _ _ _ _ _ _ _ _ _ _ hx hb _ _ _ k => lv_ifnull hx hb hd k)
theorem SF_ifnonnull {o : Option Nat} {off : Int} (tgt pc2 : Nat) (hd : decode M.2.1 pc = .ok (.ifnonnull off, 3)) (ht : (pc : Int) + off = (tgt : Int)) (hp : pc2 = pc + 3) (h1 : ¬ (o = none) → SemF X M d tgt lo st g r g') (h2 : o = none → SemF X M d pc2 lo st g r g') : SemF X M d pc lo (rv X o :: st) g r g' := by
  subst hp
  cases o with
  | none => exact SF_lift (h2 rfl) (fun _ _ _ _ _ _ _ _ _ _ _ _ _ _ _ hx hb _ _ _ k => lv_ifnonnullN hx hb hd k)
  | some x => exact SF_lift (h1 (fun h => by cases h)) (fun _ _ _ _ _ _ _ _ _ _ _ _ _ _ _ hx hb _ _ _ k => lv_ifnonnull hx hb hd ht k)
theorem SF_tabOut {dflt lw hi : Int} {offs : Array Int} {len : Nat} {x : Int32} (tgt : Nat) (hd : decode M.2.1 pc = .ok (.tableswitch dflt lw hi offs, len)) (hx0 : x.toInt < lw ∨ hi < x.toInt) (ht : (pc : Int) + dflt = (tgt : Int)) (h : SemF X M d tgt lo st g r g') : SemF X M d pc lo (.int x :: st) g r g' := SF_lift h (fun _ _ _ _ _ _ _ _ _ _ _ _ _ _ _ hx hb _ _ _ k => lv_tableOut hx hb hd hx0 ht k)
theorem SF_tabIn {dflt lw hi : Int} {offs : Array Int} {len : Nat} {x : Int32} {off : Int} (tgt : Nat) (hd : decode M.2.1 pc = .ok (.tableswitch dflt lw hi offs, len)) (hx1 : ¬ x.toInt < lw) (hx2 : ¬ hi < x.toInt) (hof : offs[(x.toInt - lw).toNat]? = some off) (ht : (pc : Int) + off = (tgt : Int)) (h : SemF X M d tgt lo st g r g') : SemF X M d pc lo (.int x :: st) g r g' := SF_lift h (fun _ _ _ _ _ _ _ _ _ _ _ _ _ _ _ hx hb _ _ _ k => lv_tableIn hx hb hd hx1 hx2 hof ht k)
theorem SF_lookup {dflt : Int} {ps : Array (Int × Int)} {len : Nat} {x : Int32} {off : Int} (tgt : Nat) (hd : decode M.2.1 pc = .ok (.lookupswitch dflt ps, len)) (hps : (ps.toList.zip (ps.toList.drop 1)).all (fun (a, next) => a.1 < next.1) = true) (hof : Op.lookupswitch.offset ps.toList dflt x.toInt = off) (ht : (pc : Int) + off = (tgt : Int)) (h : SemF X M d tgt lo st g r g') : SemF X M d pc lo (.int x :: st) g r g' := SF_lift h (fun _ _ _ _ _ _ _ _ _ _ _ _ _ _ _ hx hb _ _ _ k => lv_lookup hx hb hd hps hof ht k)
end RUL
