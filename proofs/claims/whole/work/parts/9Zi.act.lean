/-! A DEED OUT OF A TRAY: the class. -/
section ACT
variable {X : Nat → Prop} {A A1 A2 : Nat → Int32} {g g' g1 g3 g5 : G} {a b n ag ag' : Nat} {S K : List Nat}
/-- what a told lead does: why not, the row, the steps -/
def aL (A : Nat → Int32) (n : Nat) : Nat × (Nat → Int32) × Nat := if (n / 100) < nv A 3 ∧ (n / 10 % 10) < 2 ∧ (n % 10) < 4 then (if (lS A (n / 100) (n / 10 % 10) (n % 10)).1 = 0 then (0, pA A (n / 100) (ow (n / 10 % 10) (lS A (n / 100) (n / 10 % 10) (n % 10)).2.1 (lS A (n / 100) (n / 10 % 10) (n % 10)).2.2) (ow (n / 10 % 10) (lS A (n / 100) (n / 10 % 10) (n % 10)).2.2 (lS A (n / 100) (n / 10 % 10) (n % 10)).2.1) (dn A (n / 100)), 1 + apS (nv A 2) (tw A (2 * (n / 100) + (1 - (n / 10 % 10)))) (lS A (n / 100) (n / 10 % 10) (n % 10)).2.2) else ((lS A (n / 100) (n / 10 % 10) (n % 10)).1, A, 0)) else (1, A, 0)
def aW (A : Nat → Int32) (c : Nat) : Nat × (Nat → Int32) × Nat := if c < cS A then (if ∀ i, i < 2 * nv A 3 → tw A i ≠ c then (0, tA A c, 0) else (2, A, 0)) else (1, A, 0)
def aM (A : Nat → Int32) (p x : Nat) : Nat × (Nat → Int32) × Nat := if p < nv A 3 then (0, mA A p x, 0) else (1, A, 0)
def aN (A : Nat → Int32) (n : Nat) : Nat × (Nat → Int32) × Nat := if n ≤ 399 then aL A n else if 1000 ≤ n ∧ n ≤ 1099 then aW A (n - 1000) else if 2000 ≤ n ∧ n ≤ 2099 then aM A ((n - 2000) / 10) (n % 10) else (1, A, 0)
def actS (A : Nat → Int32) (v : Int64) : Nat × (Nat → Int32) × Nat := if v < 0 then (1, A, 0) else aN A v.toInt.toNat
theorem actS_N {m : Nat} (h : m < 2 ^ 63) : actS A (lN m) = aN A m := by
  unfold actS
  have e : (lN m).toInt = (m : Int) := lg_ofNat_toInt h
  have z : (0 : Int64).toInt = 0 := rfl
  rw [if_neg (by
    rw [Int64.lt_iff_toInt_lt, e, z]
    omega), e, Int.toNat_natCast]
theorem l32b : ∀ m, m < 2100 → (lN m).toInt32 = nI m := by decide +kernel
theorem bes_all : (List.range 7).all (fun R => (List.range 7).all (fun W => (List.range 36).all (fun a => (List.range 4).all (fun w => match besS R W a w with
  | none => true
  | some c => W == 0 || (decide (R * W ≤ a) || apS W a c == 1))))) = true := by decide +kernel
theorem bes_1 {R W a w c : Nat} (hR : R ≤ 6) (hW : W ≤ 6) (h0 : 0 < W) (ha : a < R * W) (hw : w < 4) (h : besS R W a w = some c) : apS W a c = 1 := by
  have a36 : a < 36 := Nat.lt_of_lt_of_le ha (Nat.mul_le_mul hR hW)
  have t1 := List.all_eq_true.mp bes_all R (List.mem_range.mpr (by omega))
  have t2 := List.all_eq_true.mp t1 W (List.mem_range.mpr (by omega))
  have t3 := List.all_eq_true.mp t2 a (List.mem_range.mpr a36)
  have t4 := List.all_eq_true.mp t3 w (List.mem_range.mpr hw)
  rw [h] at t4
  dsimp only at t4
  rw [Bool.or_eq_true, Bool.or_eq_true, decide_eq_true_eq, beq_iff_eq, beq_iff_eq] at t4
  omega
theorem lS_bes (h : RS A g) {p t w : Nat} (hp : p < nv A 3) (ht : t < 2) (hw : w < 4) (h0 : (lS A p t w).1 = 0) : apS (nv A 2) (ow t (tw A (2 * p)) (tw A (2 * p + 1))) (lS A p t w).2.1 = 1 := by
  have t0 := h.tw (p := p) (t := 0) hp (by decide)
  have t1 := h.tw (p := p) (t := 1) hp (by decide)
  have o1 : ow t (tw A (2 * p)) (tw A (2 * p + 1)) < cS A := by
    unfold ow
    split
    · exact t0.1
    · exact t1.1
  have o2 : ow t (tw A (2 * p + 1)) (tw A (2 * p)) < cS A := by
    unfold ow
    split
    · exact t1.1
    · exact t0.1
  obtain ⟨-, -, -, -, -, e⟩ := stS_ok h.2.2.1 o1 o2 h0
  obtain ⟨-, r0, r6, -, w0, w6, -⟩ := h.2.2.1
  exact bes_1 r6 w6 w0 o1 hw e
/-- laws of a row need no heap that holds it -/
theorem RSx (h : WF A) (hs : Sh g) : RS A (rI g 137 A) := ⟨Sh.fi (S := [137]) (Fi.rf.ri (by decide)) hs, gI_rIs, h.1, h.2.1, h.2.2.1⟩
theorem act_min {m : Nat} (h : m < 2 ^ 31) : f_X0_act_177 (nI m) g = some (0, g) := by
  rw [f_X0_act_177, f_J9_min_7cf53]
  by_cases e : m = 0
  · subst e
    rfl
  · rw [if_pos (show (0 : Int32) < nI m from nI_lt (a := 0) (by omega) h), bd_eq]
theorem act_neg {r : Int32} (h : ¬ 0 < r) : f_X0_act_177 r g = some (r, g) := by
  rw [f_X0_act_177, f_J9_min_7cf53, if_neg h, bd_eq]
def AL (b : Nat) : List Nat := [68, 69, 70, 71, 72, 75, b, b + 1, b + 2, b + 3, b + 4]
/-- what the class answers of a deed -/
def aR (r : Int32) (s : Nat × (Nat → Int32) × Nat) : Prop := (s.1 = 0 ∧ r = nI s.2.2) ∨ (1 ≤ s.1 ∧ s.1 ≤ 4 ∧ r = -(nI s.1))
theorem c_actL (h : BD X g b A) (hW : WF A) (hs : Sh g) (hX : XO X) (hXb : ∀ k, k ≤ 4 → ¬ X (b + k)) (hI : SI ag g) (hag : ag + 1 < 2 ^ 30) (hb : ∀ a ∈ [68, 69, 70, 71, 72, 73, 74, 75], a < b ∨ b + 4 < a) (hn : n ≤ 399) : ∃ r g' ag', f_X0_act b 68 (lN n) g = some (r, g') ∧ Fq (AL b) g g' ∧ Sh g' ∧ SI ag' g' ∧ ag ≤ ag' ∧ ag' ≤ ag + 1 ∧ BD X g' b (aL A n).2.1 ∧ aR r (aL A n) := by
  obtain ⟨hA, hB, hL, hE⟩ := hW
  have hr : RS A (rI g 137 A) := RSx ⟨hA, hB, hL, hE⟩ hs
  have k3 := hr.k3
  have cl := hr.cl
  obtain ⟨r, g1, ag', a1, a2, a3, a4, a5, a6, a7, a8⟩ := c_wouldBe h hX hA hB hL hs hI hag hb (nI (n / 100)) (nI (n / 10 % 10)) (nI (n % 10))
  have x1 : Fq (AL b) g g1 := a2.mono (fun j hj => by
    unfold AL
    simp at hj ⊢
    omega)
  have run : f_X0_act b 68 (lN n) g = (if 0 ≤ r then (bd (f_X0_standOf b (nI (n / 100)) g1) (fun v12 g13 => bd (f_X0_go b (nI (n / 100)) r g13) (fun v16 g17 => dr (gR g17 b 0) (fun b20 => gdK g17 b20 7 (bd (f_X7_apart b20 (v12 / (64 : Int32)) (r / (64 : Int32)) g17) (fun v23 g24 => dr (gR g24 b 0) (fun b27 => gdK g24 b27 7 (bd (f_X7_apart b27 (v12 - v12 / (64 : Int32) * (64 : Int32)) (r - r / (64 : Int32) * (64 : Int32)) g24) (fun v30 g31 => some ((v23 + v30), g31)))))))))) else (some (r, g1))) := by
    rw [f_X0_act, if_neg (fun u => by
      rw [lg_cmp_lt, show (0 : Int64) = lN 0 from rfl, pk_lLT (by omega) (by decide)] at u
      omega), if_neg (fun u => by
      rw [lg_cmp_gt, show (399 : Int64) = lN 399 from rfl, pk_lLT (by decide) (by omega)] at u
      omega), l32b n (by omega), li, ldi100 (by omega), li, ldi10 (by omega), ldi10 (by omega), lmo10, lmo10, a1, bd_eq]
  have ok : okL A (nI (n / 100)) (nI (n / 10 % 10)) (nI (n % 10)) = (decide ((n / 100) < nv A 3) && (decide ((n / 10 % 10) < 2) && decide ((n % 10) < 4))) := by
    unfold okL
    rw [inR_nI (by omega), inR_nI (by omega), inR_nI (by omega)]
  rcases a8 with ⟨rfl, e⟩ | ⟨p, t, w, hp, ht, hw, e1, e2, e3, rfl, sp⟩
  · have no : ¬ ((n / 100) < nv A 3 ∧ (n / 10 % 10) < 2 ∧ (n % 10) < 4) := fun ⟨u1, u2, u3⟩ => by
      rw [ok, decide_eq_true u1, decide_eq_true u2, decide_eq_true u3] at e
      cases e
    unfold aL
    rw [if_neg no]
    refine ⟨-1, g1, ag', by rw [run, if_neg (by decide)], x1, a6, a3, a4, a5, a7, Or.inr ⟨Nat.le_refl _, by dsimp only; omega, rfl⟩⟩
  · have p1 : (n / 100) = p := (nI_eq (by omega) (by omega)).mp e1
    have p2 : (n / 10 % 10) = t := (nI_eq (by omega) (by omega)).mp e2
    have p3 : (n % 10) = w := (nI_eq (by omega) (by omega)).mp e3
    subst p1 p2 p3
    unfold aL
    rw [if_pos ⟨hp, ht, hw⟩]
    rcases lS_why (A := A) (p := (n / 100)) (t := (n / 10 % 10)) (w := (n % 10)) with e | ⟨f1, f2⟩
    · obtain ⟨x1', x2, x3, x4, x5⟩ := lS_xy hr hp ht e
      have be := lS_bes hr hp ht hw e
      have ta := hr.tw (p := (n / 100)) (t := 0) hp (by decide)
      have tb := hr.tw (p := (n / 100)) (t := 1) hp (by decide)
      rw [Nat.add_zero] at ta
      obtain ⟨k1, k2⟩ := @pk_pack (ow (n / 10 % 10) (lS A (n / 100) (n / 10 % 10) (n % 10)).2.1 (lS A (n / 100) (n / 10 % 10) (n % 10)).2.2) (ow (n / 10 % 10) (lS A (n / 100) (n / 10 % 10) (n % 10)).2.2 (lS A (n / 100) (n / 10 % 10) (n % 10)).2.1) (by omega)
      obtain ⟨k1', k2'⟩ := @pk_pack (tw A (2 * (n / 100))) (tw A (2 * (n / 100) + 1)) (by omega)
      obtain ⟨g2, d1, d2, d3, d4⟩ := c_go a7 hXb hA hB hL hp x1' x2 x5
      obtain ⟨q, q1, q2⟩ := d4.2.1
      have P := pA_pl (A := A) (p := (n / 100)) (x := (ow (n / 10 % 10) (lS A (n / 100) (n / 10 % 10) (n % 10)).2.1 (lS A (n / 100) (n / 10 % 10) (n % 10)).2.2)) (y := (ow (n / 10 % 10) (lS A (n / 100) (n / 10 % 10) (n % 10)).2.2 (lS A (n / 100) (n / 10 % 10) (n % 10)).2.1)) (d := dn A (n / 100)) (show (n / 100) < 3 by omega)
      have n2 : nv (pA A (n / 100) (ow (n / 10 % 10) (lS A (n / 100) (n / 10 % 10) (n % 10)).2.1 (lS A (n / 100) (n / 10 % 10) (n % 10)).2.2) (ow (n / 10 % 10) (lS A (n / 100) (n / 10 % 10) (n % 10)).2.2 (lS A (n / 100) (n / 10 % 10) (n % 10)).2.1) (dn A (n / 100))) 2 = nv A 2 := P.n_ (by omega)
      have c2 : cS (pA A (n / 100) (ow (n / 10 % 10) (lS A (n / 100) (n / 10 % 10) (n % 10)).2.1 (lS A (n / 100) (n / 10 % 10) (n % 10)).2.2) (ow (n / 10 % 10) (lS A (n / 100) (n / 10 % 10) (n % 10)).2.2 (lS A (n / 100) (n / 10 % 10) (n % 10)).2.1) (dn A (n / 100))) = cS A := P.c_
      have ap1 := c_apart q2 (P.d_ hA) (a := tw A (2 * (n / 100))) (c := (ow (n / 10 % 10) (lS A (n / 100) (n / 10 % 10) (n % 10)).2.1 (lS A (n / 100) (n / 10 % 10) (n % 10)).2.2)) (by rw [c2]; exact ta.1) (by rw [c2]; exact x1')
      have ap2 := c_apart q2 (P.d_ hA) (a := tw A (2 * (n / 100) + 1)) (c := (ow (n / 10 % 10) (lS A (n / 100) (n / 10 % 10) (n % 10)).2.2 (lS A (n / 100) (n / 10 % 10) (n % 10)).2.1)) (by rw [c2]; exact tb.1) (by rw [c2]; exact x2)
      rw [n2] at ap1 ap2
      have sum : apS (nv A 2) (tw A (2 * (n / 100))) (ow (n / 10 % 10) (lS A (n / 100) (n / 10 % 10) (n % 10)).2.1 (lS A (n / 100) (n / 10 % 10) (n % 10)).2.2) + apS (nv A 2) (tw A (2 * (n / 100) + 1)) (ow (n / 10 % 10) (lS A (n / 100) (n / 10 % 10) (n % 10)).2.2 (lS A (n / 100) (n / 10 % 10) (n % 10)).2.1) = 1 + apS (nv A 2) (tw A (2 * (n / 100) + (1 - (n / 10 % 10)))) (lS A (n / 100) (n / 10 % 10) (n % 10)).2.2 := by
        obtain z | z : (n / 10 % 10) = 0 ∨ (n / 10 % 10) = 1 := by omega
        · rw [z] at be ⊢
          rw [show ow 0 (tw A (2 * (n / 100))) (tw A (2 * (n / 100) + 1)) = tw A (2 * (n / 100)) from rfl] at be
          show apS (nv A 2) (tw A (2 * (n / 100))) (lS A (n / 100) 0 (n % 10)).2.1 + apS (nv A 2) (tw A (2 * (n / 100) + 1)) (lS A (n / 100) 0 (n % 10)).2.2 = _
          rw [be]
        · rw [z] at be ⊢
          rw [show ow 1 (tw A (2 * (n / 100))) (tw A (2 * (n / 100) + 1)) = tw A (2 * (n / 100) + 1) from rfl] at be
          show apS (nv A 2) (tw A (2 * (n / 100))) (lS A (n / 100) 1 (n % 10)).2.2 + apS (nv A 2) (tw A (2 * (n / 100) + 1)) (lS A (n / 100) 1 (n % 10)).2.1 = _
          rw [be, Nat.add_comm]
          rfl
      rw [if_pos e]
      have xb : Fq (AL b) g g2 := x1.tr (d2.q.mono (fun j hj => by
        unfold AL
        simp at hj ⊢
        omega))
      refine ⟨nI (1 + apS (nv A 2) (tw A (2 * (n / 100) + (1 - (n / 10 % 10)))) (lS A (n / 100) (n / 10 % 10) (n % 10)).2.2), g2, ag', ?_, xb, Sh.fi d2 a6, a3.fa a6 d2.a (fun k k1 k2 u => ?_), a4, a5, d4, Or.inl ⟨rfl, rfl⟩⟩
      · rw [run, rC_ow ht e, if_pos (Int32.not_lt.mp (nI_pos (by omega))), c_standOf a7 hA hp, bd_eq, d1, bd_eq, q1, dr_eq, gdK_pos q2.2.1, ldi64 (by omega), ldi64 (by omega), lmo64, lmo64, k1, k2, k1', k2', ap1, bd_eq, q1, dr_eq, gdK_pos q2.2.1, ap2, bd_eq, nI_add, sum]
      · have := hb k (by simp; omega)
        simp at u
        omega
    · rw [if_neg (by omega)]
      obtain ⟨m1, -, -⟩ := neg_why f1 f2
      exact ⟨_, g1, ag', by rw [run, rC_no (by omega), if_neg m1], x1, a6, a3, a4, a5, a7, Or.inr ⟨by dsimp only; omega, f2, rfl⟩⟩
end ACT
