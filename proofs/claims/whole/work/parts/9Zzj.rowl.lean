/-! LOCKSTEP of lines: frames, a row. -/
section RWL
variable {X Y : Nat → Prop} {T : Nat → Nat} {n M i q p w c v : Nat} {A F F' : Nat → Int32} {g g' g1 g2 h h' h1 : G} {S : List Nat} {o : Option Nat} {b : Bool}
def LLZ : List Nat := [57, 62, 63, 64, 65, 66, 67]
def FLZ (q : Nat) (g g' : G) : Prop := gn g ≤ gn g' ∧ ∀ a, a < q → gK g' a = gK g a ∧ gN g' a = gN g a ∧ (a ∉ LLZ → gI g' a = gI g a ∧ gL g' a = gL g a ∧ gR g' a = gR g a)
theorem FLZ.rf : FLZ q g g := ⟨Nat.le_refl _, fun _ _ => ⟨rfl, rfl, fun _ => ⟨rfl, rfl, rfl⟩⟩⟩
theorem FLZ.tr (x : FLZ q g g1) (y : FLZ q g1 g2) : FLZ q g g2 := ⟨Nat.le_trans x.1 y.1, fun a ha => by
  obtain ⟨x1, x2, x3⟩ := x.2 a ha
  obtain ⟨y1, y2, y3⟩ := y.2 a ha
  exact ⟨y1.trans x1, y2.trans x2, fun hs => ⟨(y3 hs).1.trans (x3 hs).1, (y3 hs).2.1.trans (x3 hs).2.1, (y3 hs).2.2.trans (x3 hs).2.2⟩⟩⟩
theorem FLZ.of (x : Fa S g g') (hq : q ≤ gn g) (hS : ∀ a ∈ S, a ∈ LLZ ∨ q ≤ a) : FLZ q g g' := ⟨x.1, fun a ha => ⟨(x.2 a (by omega)).1, (x.2 a (by omega)).2.1, fun hn => (x.2 a (by omega)).2.2 (fun u => by
  rcases hS a u with z | z
  · exact hn z
  · omega)⟩⟩
theorem FLZ.fc {K : List Nat} (x : Fc K S g g') (hq : q ≤ gn g) (hS : ∀ a ∈ S, a ∈ LLZ) : FLZ q g g' := FLZ.of x.1.a hq (fun a ha => by
  rcases List.mem_cons.mp ha with u | u
  · rw [u]
    exact Or.inl (by decide)
  · exact Or.inl (hS a u))
def Lq (F F' : Nat → Int32) : Prop := ∀ k, (3 < k ∧ k < 10) ∨ (614 < k ∧ k < 1515) → F' k = F k
theorem Lq.nn (e : Lq F F') {k : Nat} (hk : (3 < k ∧ k < 10) ∨ (614 < k ∧ k < 1515)) : nv F' k = nv F k := by
  unfold nv
  rw [e k hk]
theorem LV.lq (k : LV F w b) (hw : w < 2) (e : Lq F F') : LV F' w b := by
  obtain ⟨k1, k2, k3, k4, k5⟩ := k
  have e1 := e.nn (k := 8 + w) (by omega)
  have e2 := e.nn (k := 6 + w) (by omega)
  refine ⟨?_, ?_, ?_, ?_, ?_⟩
  · rw [e1, e _ (by omega)]
    exact k1
  · rw [e2, e _ (by omega)]
    exact k2
  · rw [e1, e2]
    exact k3
  · intro j hj
    rw [e1] at hj
    rw [e2, e _ (by omega), e.nn (by omega)]
    exact k4 j hj
  · have : lawL F' w = lawL F w := by
      unfold lawL
      rw [e1, e2]
      apply List.map_congr_left
      intro j hj
      rw [List.mem_range] at hj
      exact e.nn (by omega)
    rw [this]
    exact k5
theorem LR.lq (k : LR X g o F w) (hw : w < 2) (hv : F (4 + w) = nI 0 ∨ LV F w b) (e : Lq F F') : LR X g o F' w := by
  have e0 := e (4 + w) (by omega)
  rcases k with z | z
  · exact Or.inl ⟨e0.trans z.1, z.2⟩
  · have lv := hv.resolve_left z.1
    refine Or.inr ⟨by rw [e0]; exact z.1, ?_⟩
    rw [e.nn (k := 8 + w) (by omega), e.nn (k := 6 + w) (by omega)]
    exact z.2.cg (fun j hj => by
      have := lv.2.2.1
      rw [e.nn (by omega)])
theorem WQ.l0 (h : WQ F) : (F 4 = nI 0 ∨ LV F 0 true) ∧ (F 5 = nI 0 ∨ LV F 1 false) := ⟨h.2.2.2.2.2.1.1.imp id And.left, h.2.2.2.2.2.1.2.imp id And.left⟩
/-- the laws stand in a row that has changed elsewhere -/
theorem WQ.lq (h : WQ F) (e : Lq F F') (e2 : nv F 614 ≤ nv F' 614) : (F' 4 = nI 0 ∨ (LV F' 0 true ∧ nv F' 6 + nv F' 8 ≤ nv F' 614)) ∧ (F' 5 = nI 0 ∨ (LV F' 1 false ∧ nv F' 7 + nv F' 9 ≤ nv F' 614)) := by
  obtain ⟨a, b⟩ := h.2.2.2.2.2.1
  rw [e 4 (by omega), e 5 (by omega), e.nn (k := 6) (by omega), e.nn (k := 7) (by omega), e.nn (k := 8) (by omega), e.nn (k := 9) (by omega)]
  exact ⟨a.imp id (fun u => ⟨u.1.lq (by decide) e, by have := u.2; omega⟩), b.imp id (fun u => ⟨u.1.lq (by decide) e, by have := u.2; omega⟩)⟩
theorem PQ.lq (h : PQ g q F) (hW : WQ F) (e : Lq F F') : LR (fun a => q + 5 ≤ a) g (gR g q 10) F' 0 ∧ LR (fun a => q + 5 ≤ a) g (gR g q 11) F' 1 := ⟨h.2.2.2.2.2.1.lq (by decide) hW.l0.1 e, h.2.2.2.2.2.2.lq (by decide) hW.l0.2 e⟩
/-! a height is told -/
def hA (F : Nat → Int32) (c v : Nat) : Nat → Int32 := upd F (10 + c) (nI v)
theorem hA_n {k : Nat} (hk : k ≠ 10 + c) : hA F c v k = F k := pk_un hk
theorem hA_v {k : Nat} (hk : k ≠ 10 + c) : nv (hA F c v) k = nv F k := by
  unfold nv
  rw [hA_n hk]
theorem hA_c : cS (hA F c v) = cS F := by
  unfold cS
  rw [hA_v (by omega), hA_v (by omega)]
theorem hA_ht (hv : v ≤ 9) (x : Nat) : ht (hA F c v) x = if x = c then v else ht F x := by
  unfold ht
  by_cases e : x = c
  · rw [if_pos e, e]
    unfold nv hA
    rw [pk_us, nI_clamp (by omega)]
  · rw [if_neg e, hA_v (by omega)]
theorem hA_lq (hc : c < 36) : Lq F (hA F c v) := fun k hk => hA_n (by omega)
theorem hA_wq (h : WQ F) (k0 : nv F 3 = 0) (hc : c < cS F) (hv : v ≤ 9) : WQ (hA F c v) := by
  have cl := cS_le h.1
  have n3 : nv (hA F c v) 3 = 0 := (hA_v (by omega)).trans k0
  obtain ⟨h1, h2, h3, h4, h5, h6, h7, h8, h9⟩ := id h
  have Q := h.lq (F' := hA F c v) (hA_lq (by omega)) (by rw [hA_v (by omega)]; exact Nat.le_refl _)
  refine ⟨?_, fun x hx => ?_, fun i hi => ?_, fun i j hi => ?_, fun p hp => ?_, Q, ?_, ?_, fun p hp => ?_⟩
  · unfold Dm
    rw [hA_v (by omega), hA_v (by omega), hA_v (by omega), hA_n (by omega), hA_n (by omega), hA_n (by omega)]
    exact h1
  · rw [hA_ht hv, hA_c]
    by_cases e : x = c
    · rw [if_pos e, e]
      exact ⟨pk_us, hv, fun u => by omega⟩
    · rw [if_neg e, hA_n (by omega)]
      exact h2 x hx
  · rw [n3] at hi
    omega
  · rw [n3] at hi
    omega
  · unfold md
    rw [hA_v (by omega), hA_n (by omega)]
    exact h5 p hp
  · rw [hA_v (by omega), hA_n (by omega)]
    exact h7
  · rw [hA_n (by omega)]
    exact h8
  · rw [hA_n (by omega)]
    exact h9 p hp
theorem c_tell (hs : Sh g) (hpl : gR g 57 3 = some q) (h : PQ g q F) (d : DQ g F) (hW : WQ F) (k0 : nv F 3 = 0) (hc : c < cS F) (hv : v ≤ 9) (q155 : 155 ≤ q) : ∃ g', f_X8_tell 57 (nI c) (nI v) g = some ((), g') ∧ Fi [63, q + 1] g g' ∧ PQ g' q (hA F c v) ∧ DQ g' (hA F c v) := by
  have cl := cS_le hW.1
  have ic := c_isCellN (h.pr hW.1) hW.1 hc
  obtain ⟨h1, h2, h3, ⟨h4, h5, h6, h7⟩, ⟨h8, h9, h10, h11⟩, h12, h13⟩ := id h
  obtain ⟨m, hm⟩ : ∃ m, m = ((gL g 63 1) &&& (((1 : Int64) <<< ((nI c).toInt64 &&& 63)) ^^^ (-1 : Int64))) ||| (if v = 9 then ((1 : Int64) <<< ((nI c).toInt64 &&& 63)) else 0) := ⟨_, rfl⟩
  obtain ⟨y, hy⟩ : ∃ y, y = (if v = 9 then 0 else v) := ⟨_, rfl⟩
  have x1 : Fi [63, q + 1] g (sI g (q + 1) c (nI y)) := Fi.rf.si (by simp)
  have x2 : Fi [63, q + 1] g (sL (sI g (q + 1) c (nI y)) 63 1 m) := x1.sl (by simp)
  have s1 := Sh.fi x1 hs
  refine ⟨sL (sI g (q + 1) c (nI y)) 63 1 m, ?_, x2, ?_, ?_⟩
  · rw [f_X8_tell, hpl, dr_eq, gdK_pos h1, ic, bd_eq, ibT]
    by_cases e : v = 9
    · rw [if_pos e] at hm hy
      have y0 : nI y = 0 := by
        rw [hy]
        rfl
      rw [if_pos (show nI v = (9 : Int32) by rw [e]; rfl), f_X8_tell_22, hpl, dr_eq, gdK_pos h1, h4.1, dr_eq, if_neg (by decide), gdK_pos h4.2.1, f_X8_tell_40, h4.2.2, gdI_nI (by omega) (by decide), nI_clamp (by omega), ← y0, lg, md57_0 s1, gk63 s1, y0, if_neg (by decide), f_X8_tell_71, lg]
      rw [show gL (sI g (q + 1) c 0) 63 = gL g 63 from rfl, ← hm]
    · rw [if_neg e] at hm hy
      rw [if_neg (show ¬ nI v = (9 : Int32) from fun u => e ((nI_eq (b := 9) (by omega) (by decide)).mp u)), f_X8_tell_22, hpl, dr_eq, gdK_pos h1, h4.1, dr_eq, if_pos rfl, gdK_pos h4.2.1, f_X8_tell_40, h4.2.2, gdI_nI (by omega) (by decide), nI_clamp (by omega), ← hy, lg, md57_0 s1, gk63 s1, if_pos rfl, f_X8_tell_71, lg]
      rw [show gL (sI g (q + 1) c (nI y)) 63 = gL g 63 from rfl, ← hm]
  · have L := h.lq hW (hA_lq (F := F) (c := c) (v := v) (by omega))
    have nS : ∀ k, k ≠ 1 → q + k ∉ [63, q + 1] := fun k hk => by
      simp
      omega
    have nq : q ∉ [63, q + 1] := nS 0 (by decide)
    refine ⟨h1.fi x2, ?_⟩
    rw [x2.I nq, x2.L nq, x2.R, x2.I (nS 2 (by decide)), x2.I (nS 3 (by decide)), x2.I (nS 4 (by decide)), hA_c, hA_v (by omega), hA_n (by omega), hA_n (by omega), hA_n (by omega), hA_n (by omega)]
    refine ⟨h2, h3, ⟨h4.fa x2.a, h5.fa x2.a, h6.fa x2.a, h7.fa x2.a⟩, ⟨fun x hx => ?_, h9, h10, fun i hi => ?_⟩, L.1.fa x2.a ?_, L.2.fa x2.a ?_⟩
    · have : gI (sL (sI g (q + 1) c (nI y)) 63 1 m) (q + 1) = upd (gI g (q + 1)) c (nI y) := gI_sIs
      unfold hp
      rw [this, hA_ht hv]
      by_cases e : x = c
      · rw [e, pk_us, if_pos rfl, hy]
      · rw [pk_un e, if_neg e]
        exact h8 x hx
    · rw [hA_n (by omega)]
      exact h11 i hi
    · intro a ha u
      simp at ha
      omega
    · intro a ha u
      simp at ha
      omega
  · obtain ⟨d1, d2, d3, d4, d5⟩ := d
    have n3 : nv (hA F c v) 3 = 0 := (hA_v (by omega)).trans k0
    unfold DQ
    rw [show gL (sL (sI g (q + 1) c (nI y)) 63 1 m) 63 = vp_updL (gL g 63) 1 m from gL_sLs, x2.I (a := 64) (by simp; omega), x2.I (a := 65) (by simp; omega), x2.I (a := 66) (by simp; omega), x2.I (a := 67) (by simp; omega), n3]
    rw [k0] at d2 d3 d5
    refine ⟨fun x hx => ?_, fun i hi => ?_, fun p hp => ?_, fun p hp => ?_, fun p hp => ?_⟩
    · have e1 : vp_updL (gL g 63) 1 m 1 = m := if_pos rfl
      rw [e1, hm, bt_or, bt_and, bt_not hx, bt_one (by omega), d1 x hx]
      by_cases e : x = c
      · rw [e, decide_eq_true (rfl : c = c), Bool.not_true, Bool.and_false, Bool.false_or]
        have ee : hA F c v (10 + c) = nI v := pk_us
        rw [ee]
        by_cases u : v = 9
        · rw [if_pos u, bt_one (by omega), decide_eq_true (rfl : c = c), u, decide_eq_true ⟨by omega, rfl⟩]
        · rw [if_neg u, bt_0, decide_eq_false (fun z => u ((nI_eq (by omega) (by decide)).mp z.2))]
      · have b0 : bt (if v = 9 then ((1 : Int64) <<< ((nI c).toInt64 &&& 63)) else 0) x = false := by
          by_cases u : v = 9
          · rw [if_pos u, bt_one (by omega), decide_eq_false e]
          · rw [if_neg u, bt_0]
        rw [b0, Bool.or_false, decide_eq_false e, Bool.not_false, Bool.and_true, hA_n (by omega)]
    · rw [d2 i hi, if_neg (by omega), if_neg (by omega)]
    · rw [d3 p hp, if_neg (by omega), if_neg (by omega)]
    · rw [d4 p hp, hA_n (by omega)]
    · rw [d5 p hp, if_neg (by omega), if_neg (by omega)]
end RWL
