/-! THE LAW'S LOOP, over any invariant: what each call must give, and the pure claim out of it. -/
/-- a call on both sides: the same answer, the invariant behind it, at most so many new cells -/
def Pr {α : Type} (Inv : G → Prop) (g : G) (o : Option (α × G)) (f : G → Option (α × G)) : Prop := ∃ v g1 g2, o = some (v, g1) ∧ f g1 = some (v, g2) ∧ Inv g2 ∧ gn g2 ≤ gn g + 16 ∧ gs g2 ≤ gs g + 4000
theorem lg_cmp_self (v : Int64) : lg_cmp v v = 0 := by simp [lg_cmp]
theorem toInt_lt {x y : Int32} : x < y ↔ x.toInt < y.toInt := Int32.lt_iff_toInt_lt
theorem vp_of {j L : Nat} {x : Int32} (hx : x = nI j) (hj : j < L) (hL : L ≤ 3072) : vp_in x L := by subst hx; exact vp_in_nI hj (by omega)
set_option maxRecDepth 4000 in
set_option maxHeartbeats 4000000 in
theorem law_loop (Inv : Nat → G → Prop) (HM : ∀ (i : Nat) (g : G), Inv i g → Inv (i + 1) g) {L : Nat} (hL : L ≤ 3072) (sX : Nat → Int32)
    (H0 : ∀ (a1 : Int32) (a2 : Int32) (a3 : Int32) (a4 : Int32) (a5 : Int32) (i : Nat) (g : G), i < 512 → Inv i g → Pr (Inv (i + 1)) g (f_X11_feed 0 a1 a2 a3 a4 a5 g) (f_X12_feed 136 a1 a2 a3 a4 a5))
    (H1 : ∀ (a1 : Int32) (i : Nat) (g : G), i < 512 → Inv i g → Pr (Inv (i + 1)) g (f_X11_field 0 a1 g) (f_X12_field 136 a1))
    (H2 : ∀ (a1 : Int32) (i : Nat) (g : G), i < 512 → Inv i g → Pr (Inv (i + 1)) g (f_X11_fault 0 a1 g) (f_X12_fault 136 a1))
    (H3 : ∀ (a1 : Int32) (a2 : Int32) (i : Nat) (g : G), i < 512 → Inv i g → Pr (Inv (i + 1)) g (f_X11_cell 0 a1 a2 g) (f_X12_cell 136 a1 a2))
    (H4 : ∀ (a1 : Int32) (a2 : Int32) (i : Nat) (g : G), i < 512 → Inv i g → Pr (Inv (i + 1)) g (f_X11_pair 0 a1 a2 g) (f_X12_pair 136 a1 a2))
    (H5 : ∀ (a1 : Int32) (a2 : Int32) (a3 : Int32) (i : Nat) (g : G), i < 512 → Inv i g → Pr (Inv (i + 1)) g (f_X11_why 0 a1 a2 a3 g) (f_X12_why 136 a1 a2 a3))
    (H6 : ∀ (a1 : Int32) (a2 : Int32) (a3 : Int32) (a4 : Int32) (i : Nat) (g : G), i < 512 → Inv i g → Pr (Inv (i + 1)) g (f_X11_by 0 a1 a2 a3 a4 g) (f_X12_by 136 a1 a2 a3 a4))
    (H7 : ∀ (a1 : Int32) (a2 : Int32) (a3 : Int32) (i : Nat) (g : G), i < 512 → Inv i g → Pr (Inv (i + 1)) g (f_X11_lead 0 a1 a2 a3 g) (f_X12_lead 136 a1 a2 a3))
    (H8 : ∀ (a1 : Int32) (i : Nat) (g : G), i < 512 → Inv i g → Pr (Inv (i + 1)) g (f_X11_wall 0 a1 g) (f_X12_wall 136 a1))
    (H9 : ∀ (a1 : Int32) (a2 : Int32) (a3 : Int32) (i : Nat) (g : G), i < 512 → Inv i g → Pr (Inv (i + 1)) g (f_X11_put 0 a1 a2 a3 g) (f_X12_put 136 a1 a2 a3))
    (H10 : ∀ (a1 : Int32) (a2 : Int32) (i : Nat) (g : G), i < 512 → Inv i g → Pr (Inv (i + 1)) g (f_X11_mood 0 a1 a2 g) (f_X12_mood 136 a1 a2))
    (H11 : ∀ (a1 : Int32) (i : Nat) (g : G), i < 512 → Inv i g → Pr (Inv (i + 1)) g (f_X11_undo 0 a1 g) (f_X12_undo 136 a1))
    (H12 : ∀ (a1 : Int32) (a2 : Int32) (i : Nat) (g : G), i < 512 → Inv i g → Pr (Inv (i + 1)) g (f_X11_judge 0 a1 a2 g) (f_X12_judge 136 a1 a2))
    (H13 : ∀ (a1 : Int32) (i : Nat) (g : G), i < 512 → Inv i g → Pr (Inv (i + 1)) g (f_X11_perform 0 a1 g) (f_X12_perform 136 a1))
    (H14 : ∀ (a1 : Int32) (a2 : Int32) (i : Nat) (g : G), i < 512 → Inv i g → Pr (Inv (i + 1)) g (f_X11_day 0 a1 a2 g) (f_X12_day 136 a1 a2))
    (H15 : ∀ (a1 : Int32) (a2 : Int32) (a3 : Int32) (i : Nat) (g : G), i < 512 → Inv i g → Pr (Inv (i + 1)) g (f_X11_soonest 0 a1 a2 a3 g) (f_X12_soonest 136 a1 a2 a3))
    (H16 : ∀ (a1 : Int32) (a2 : Int32) (a3 : Int32) (a4 : Int32) (i : Nat) (g : G), i < 512 → Inv i g → Pr (Inv (i + 1)) g (f_X11_way 0 a1 a2 a3 a4 g) (f_X12_way 136 a1 a2 a3 a4))
    (H17 : ∀ (a1 : Int32) (a2 : Int32) (a3 : Int32) (i : Nat) (g : G), i < 512 → Inv i g → Pr (Inv (i + 1)) g (f_X11_cheapest 0 a1 a2 a3 g) (f_X12_cheapest 136 a1 a2 a3))
    (H18 : ∀ (a1 : Int32) (a2 : Int32) (a3 : Int32) (a4 : Int32) (i : Nat) (g : G), i < 512 → Inv i g → Pr (Inv (i + 1)) g (f_X11_cheapWay 0 a1 a2 a3 a4 g) (f_X12_cheapWay 136 a1 a2 a3 a4))
    (H19 : ∀ (a1 : Int32) (a2 : Int32) (a3 : Int32) (a4 : Int32) (i : Nat) (g : G), i < 512 → Inv i g → Pr (Inv (i + 1)) g (f_X11_rows 0 a1 a2 a3 a4 g) (f_X12_rows 136 a1 a2 a3 a4))
    (H20 : ∀ (a1 : Int32) (a2 : Int32) (a3 : Int32) (i : Nat) (g : G), i < 512 → Inv i g → Pr (Inv (i + 1)) g (f_X11_needed 0 a1 a2 a3 g) (f_X12_needed 136 a1 a2 a3))
    (H21 : ∀ (a1 : Int32) (i : Nat) (g : G), i < 512 → Inv i g → Pr (Inv (i + 1)) g (f_X11_errands 0 a1 g) (f_X12_errands 136 a1))
    (H22 : ∀ (a1 : Int32) (a2 : Int32) (i : Nat) (g : G), i < 512 → Inv i g → Pr (Inv (i + 1)) g (f_X11_errandWay 0 a1 a2 g) (f_X12_errandWay 136 a1 a2))
    (H23 : ∀ (a1 : Int32) (a2 : Int32) (i : Nat) (g : G), i < 512 → Inv i g → Pr (Inv (i + 1)) g (f_X11_reach 0 a1 a2 g) (f_X12_reach 136 a1 a2))
    (H24 : ∀ (a1 : Int32) (i : Nat) (g : G), i < 512 → Inv i g → Pr (Inv (i + 1)) g (f_X11_stands 0 a1 g) (f_X12_stands 136 a1))
    (H25 : ∀ (a1 : Int32) (a2 : Int32) (i : Nat) (g : G), i < 512 → Inv i g → Pr (Inv (i + 1)) g (f_X11_farthest 0 a1 a2 g) (f_X12_farthest 136 a1 a2))
    (H26 : ∀ (a1 : Int32) (a2 : Int32) (i : Nat) (g : G), i < 512 → Inv i g → Pr (Inv (i + 1)) g (f_X11_round 0 a1 a2 g) (f_X12_round 136 a1 a2))
    (H27 : ∀ (a1 : Int32) (a2 : Int32) (i : Nat) (g : G), i < 512 → Inv i g → Pr (Inv (i + 1)) g (f_X11_spans 0 a1 a2 g) (f_X12_spans 136 a1 a2))
    (H28 : ∀ (a1 : Int32) (a2 : Int32) (i : Nat) (g : G), i < 512 → Inv i g → Pr (Inv (i + 1)) g (f_X11_forces 0 a1 a2 g) (f_X12_forces 136 a1 a2))
    (H29 : ∀ (a1 : Int32) (a2 : Int32) (i : Nat) (g : G), i < 512 → Inv i g → Pr (Inv (i + 1)) g (f_X11_best 0 a1 a2 g) (f_X12_best 136 a1 a2))
    (H30 : ∀ (a1 : Int32) (i : Nat) (g : G), i < 512 → Inv i g → Pr (Inv (i + 1)) g (f_X11_power 0 a1 g) (f_X12_power 136 a1))
    (H31 : ∀ (a1 : Int32) (a2 : Int32) (i : Nat) (g : G), i < 512 → Inv i g → Pr (Inv (i + 1)) g (f_X11_tried 0 a1 a2 g) (f_X12_tried 136 a1 a2))
    (H32 : ∀ (a1 : Int32) (a2 : Int32) (i : Nat) (g : G), i < 512 → Inv i g → Pr (Inv (i + 1)) g (f_X11_many 0 a1 a2 g) (f_X12_many 136 a1 a2))
    (H33 : ∀ (a1 : Int32) (a2 : Int32) (i : Nat) (g : G), i < 512 → Inv i g → Pr (Inv (i + 1)) g (f_X11_attempt 0 a1 a2 g) (f_X12_attempt 136 a1 a2))
    (H34 : ∀ (a1 : Int32) (a2 : Int32) (i : Nat) (g : G), i < 512 → Inv i g → Pr (Inv (i + 1)) g (f_X11_moods 0 a1 a2 g) (f_X12_moods 136 a1 a2))
    (H35 : ∀ (a1 : Int32) (a2 : Int32) (a3 : Int32) (a4 : Int32) (a5 : Int32) (i : Nat) (g : G), i < 512 → Inv i g → Pr (Inv (i + 1)) g (f_X11_chance 0 a1 a2 a3 a4 a5 g) (f_X12_chance 136 a1 a2 a3 a4 a5))
    (H36 : ∀ (a1 : Int32) (a2 : Int32) (a3 : Int32) (i : Nat) (g : G), i < 512 → Inv i g → Pr (Inv (i + 1)) g (f_X11_likeliest 0 a1 a2 a3 g) (f_X12_likeliest 136 a1 a2 a3))
    (H37 : ∀ (a1 : Int32) (a2 : Int32) (a3 : Int32) (i : Nat) (g : G), i < 512 → Inv i g → Pr (Inv (i + 1)) g (f_X11_numbers 0 a1 a2 a3 g) (f_X12_numbers 136 a1 a2 a3))
    (H38 : ∀ (a1 a2 : Int32) (a3 : Int64) (i : Nat) (g : G), i < 512 → Inv i g → Pr (Inv (i + 1)) g (f_X11_write 0 a1 a2 a3 g) (f_X12_write 136 a1 a2 a3))
    (H39 : ∀ (a1 : Int32) (a2 : Int32) (a3 : Int32) (a4 : Int32) (i : Nat) (g : G), i < 512 → Inv i g → Pr (Inv (i + 1)) g (f_X11_lists 0 a1 a2 a3 a4 g) (f_X12_lists 136 a1 a2 a3 a4))
    (H40 : ∀ (a1 : Int32) (i : Nat) (g : G), i < 512 → Inv i g → Pr (Inv (i + 1)) g (f_X11_image 0 a1 g) (f_X12_image 136 a1))
    (H41 : ∀ (a1 : Int32) (i : Nat) (g : G), i < 512 → Inv i g → Pr (Inv (i + 1)) g (f_X11_restore 0 a1 g) (f_X12_restore 136 a1))
    (H42 : ∀ (a1 : Int32) (i : Nat) (g : G), i < 512 → Inv i g → Pr (Inv (i + 1)) g (f_X11_count 0 a1 g) (f_X12_count 136 a1)) :
    ∀ (n i : Nat) (g : G), L < 6 * i + 6 * n → 6 * i ≤ L → Inv i g → gn g ≤ 200 + 16 * i → gs g ≤ 100000 + 4000 * i → ∃ g', f_L_law_18 L sX (n + 1) 0 136 (nI (6 * i)) g = some (true, g') ∧ gn g' ≤ 600000 ∧ gs g' ≤ 7302250 := by
  intro n
  induction n with
  | zero => intro i g h1 h2; omega
  | succ n ih =>
  intro i g hn hi hI hg1 hg2
  rw [f_L_law_18]
  have c6 : (6 : Int32) = nI 6 := rfl
  by_cases hc : 6 * i + 6 ≤ L
  · have hlt : ¬ (nI L - (6 : Int32) < nI (6 * i)) := by
      rw [c6, toInt_lt, pk_sub_toInt (by omega) (by omega), nI_toInt (by omega)]
      omega
    rw [if_neg hlt]
    have i0 : vp_in (nI (6 * i)) L := vp_of rfl (by omega) hL
    have i1 : vp_in (nI (6 * i) + (1 : Int32)) L := vp_of (nI_add (6 * i) 1) (by omega) hL
    have i2 : vp_in (nI (6 * i) + (2 : Int32)) L := vp_of (nI_add (6 * i) 2) (by omega) hL
    have i3 : vp_in (nI (6 * i) + (3 : Int32)) L := vp_of (nI_add (6 * i) 3) (by omega) hL
    have i4 : vp_in (nI (6 * i) + (4 : Int32)) L := vp_of (nI_add (6 * i) 4) (by omega) hL
    have i5 : vp_in (nI (6 * i) + (5 : Int32)) L := vp_of (nI_add (6 * i) 5) (by omega) hL
    have e6 : nI (6 * i) + (6 : Int32) = nI (6 * (i + 1)) := nI_add (6 * i) 6
    have nx : ∀ g2 : G, Inv (i + 1) g2 → gn g2 ≤ gn g + 16 → gs g2 ≤ gs g + 4000 → ∃ g', f_L_law_1817 L sX (f_L_law_18 L sX (n + 1)) 0 136 (nI (6 * i)) g2 = some (true, g') ∧ gn g' ≤ 600000 ∧ gs g' ≤ 7302250 := by
      intro g2 q1 q2 q3
      rw [f_L_law_1817, e6]
      have e1 : 100000 + 4000 * (i + 1) = 100000 + 4000 * i + 4000 := by rw [Nat.mul_add_one, Nat.add_assoc]
      exact ih (i + 1) g2 (by omega) (by omega) q1 (by omega) (Nat.le_trans q3 (by rw [e1]; exact Nat.add_le_add_right hg2 4000))
    rw [gdI_pos i0]
    have hneg : ¬ ((sX (nI (6 * i)).toNatClampNeg &&& (63 : Int32)).toInt < 0) := by
      obtain ⟨j, hj, e⟩ := pk_andE (sX (nI (6 * i)).toNatClampNeg) (m := 63) 6 rfl
      rw [e, nI_toInt (by omega)]
      omega
    rw [if_neg hneg]
    generalize ((sX (nI (6 * i)).toNatClampNeg &&& (63 : Int32)).toInt - 0).toNat = mm
    match mm with
    | 0 =>
      simp only [gdI_pos i1, gdI_pos i2, gdI_pos i3, gdI_pos i4, gdI_pos i5]
      obtain ⟨v, g1, g2, q1, q2, q3, q4, q5⟩ := H0 (sX (nI (6 * i) + (1 : Int32)).toNatClampNeg) (sX (nI (6 * i) + (2 : Int32)).toNatClampNeg) (sX (nI (6 * i) + (3 : Int32)).toNatClampNeg) (sX (nI (6 * i) + (4 : Int32)).toNatClampNeg) (sX (nI (6 * i) + (5 : Int32)).toNatClampNeg) i g (by omega) hI
      rw [q1, bd_eq, q2, bd_eq]
      simp only [if_true]
      exact nx g2 q3 q4 q5
    | 1 =>
      simp only [gdI_pos i1]
      obtain ⟨v, g1, g2, q1, q2, q3, q4, q5⟩ := H1 (sX (nI (6 * i) + (1 : Int32)).toNatClampNeg) i g (by omega) hI
      rw [q1, bd_eq, q2, bd_eq]
      simp only [if_true]
      exact nx g2 q3 q4 q5
    | 2 =>
      simp only [gdI_pos i1]
      obtain ⟨v, g1, g2, q1, q2, q3, q4, q5⟩ := H2 (sX (nI (6 * i) + (1 : Int32)).toNatClampNeg) i g (by omega) hI
      rw [q1, bd_eq, q2, bd_eq]
      simp only [if_true]
      exact nx g2 q3 q4 q5
    | 3 =>
      simp only [gdI_pos i1, gdI_pos i2]
      obtain ⟨v, g1, g2, q1, q2, q3, q4, q5⟩ := H3 (sX (nI (6 * i) + (1 : Int32)).toNatClampNeg) (sX (nI (6 * i) + (2 : Int32)).toNatClampNeg) i g (by omega) hI
      rw [q1, bd_eq, q2, bd_eq]
      simp only [if_true]
      exact nx g2 q3 q4 q5
    | 4 =>
      simp only [gdI_pos i1, gdI_pos i2]
      obtain ⟨v, g1, g2, q1, q2, q3, q4, q5⟩ := H4 (sX (nI (6 * i) + (1 : Int32)).toNatClampNeg) (sX (nI (6 * i) + (2 : Int32)).toNatClampNeg) i g (by omega) hI
      rw [q1, bd_eq, q2, bd_eq]
      simp only [if_true]
      exact nx g2 q3 q4 q5
    | 5 =>
      simp only [gdI_pos i1, gdI_pos i2, gdI_pos i3]
      obtain ⟨v, g1, g2, q1, q2, q3, q4, q5⟩ := H5 (sX (nI (6 * i) + (1 : Int32)).toNatClampNeg) (sX (nI (6 * i) + (2 : Int32)).toNatClampNeg) (sX (nI (6 * i) + (3 : Int32)).toNatClampNeg) i g (by omega) hI
      rw [q1, bd_eq, q2, bd_eq]
      simp only [if_true]
      exact nx g2 q3 q4 q5
    | 6 =>
      simp only [gdI_pos i1, gdI_pos i2, gdI_pos i3, gdI_pos i4]
      obtain ⟨v, g1, g2, q1, q2, q3, q4, q5⟩ := H6 (sX (nI (6 * i) + (1 : Int32)).toNatClampNeg) (sX (nI (6 * i) + (2 : Int32)).toNatClampNeg) (sX (nI (6 * i) + (3 : Int32)).toNatClampNeg) (sX (nI (6 * i) + (4 : Int32)).toNatClampNeg) i g (by omega) hI
      rw [q1, bd_eq, q2, bd_eq]
      simp only [if_true]
      exact nx g2 q3 q4 q5
    | 7 =>
      simp only [gdI_pos i1, gdI_pos i2, gdI_pos i3]
      obtain ⟨v, g1, g2, q1, q2, q3, q4, q5⟩ := H7 (sX (nI (6 * i) + (1 : Int32)).toNatClampNeg) (sX (nI (6 * i) + (2 : Int32)).toNatClampNeg) (sX (nI (6 * i) + (3 : Int32)).toNatClampNeg) i g (by omega) hI
      rw [q1, bd_eq, q2, bd_eq]
      simp only [if_true]
      exact nx g2 q3 q4 q5
    | 8 =>
      simp only [gdI_pos i1]
      obtain ⟨v, g1, g2, q1, q2, q3, q4, q5⟩ := H8 (sX (nI (6 * i) + (1 : Int32)).toNatClampNeg) i g (by omega) hI
      rw [q1, bd_eq, q2, bd_eq]
      simp only [if_true]
      exact nx g2 q3 q4 q5
    | 9 =>
      simp only [gdI_pos i1, gdI_pos i2, gdI_pos i3]
      obtain ⟨v, g1, g2, q1, q2, q3, q4, q5⟩ := H9 (sX (nI (6 * i) + (1 : Int32)).toNatClampNeg) (sX (nI (6 * i) + (2 : Int32)).toNatClampNeg) (sX (nI (6 * i) + (3 : Int32)).toNatClampNeg) i g (by omega) hI
      rw [q1, bd_eq, q2, bd_eq]
      simp only [if_true]
      exact nx g2 q3 q4 q5
    | 10 =>
      simp only [gdI_pos i1, gdI_pos i2]
      obtain ⟨v, g1, g2, q1, q2, q3, q4, q5⟩ := H10 (sX (nI (6 * i) + (1 : Int32)).toNatClampNeg) (sX (nI (6 * i) + (2 : Int32)).toNatClampNeg) i g (by omega) hI
      rw [q1, bd_eq, q2, bd_eq]
      simp only [if_true]
      exact nx g2 q3 q4 q5
    | 11 =>
      simp only [gdI_pos i1]
      obtain ⟨v, g1, g2, q1, q2, q3, q4, q5⟩ := H11 (sX (nI (6 * i) + (1 : Int32)).toNatClampNeg) i g (by omega) hI
      rw [q1, bd_eq, q2, bd_eq]
      simp only [if_true]
      exact nx g2 q3 q4 q5
    | 12 =>
      simp only [gdI_pos i1, gdI_pos i2]
      obtain ⟨v, g1, g2, q1, q2, q3, q4, q5⟩ := H12 (sX (nI (6 * i) + (1 : Int32)).toNatClampNeg) (sX (nI (6 * i) + (2 : Int32)).toNatClampNeg) i g (by omega) hI
      rw [q1, bd_eq, q2, bd_eq]
      simp only [if_true]
      exact nx g2 q3 q4 q5
    | 13 =>
      simp only [gdI_pos i1]
      obtain ⟨v, g1, g2, q1, q2, q3, q4, q5⟩ := H13 (sX (nI (6 * i) + (1 : Int32)).toNatClampNeg) i g (by omega) hI
      rw [q1, bd_eq, q2, bd_eq]
      simp only [if_true]
      exact nx g2 q3 q4 q5
    | 14 =>
      simp only [gdI_pos i1, gdI_pos i2]
      obtain ⟨v, g1, g2, q1, q2, q3, q4, q5⟩ := H14 (sX (nI (6 * i) + (1 : Int32)).toNatClampNeg) (sX (nI (6 * i) + (2 : Int32)).toNatClampNeg) i g (by omega) hI
      rw [q1, bd_eq, q2, bd_eq]
      simp only [if_true]
      exact nx g2 q3 q4 q5
    | 15 =>
      simp only [gdI_pos i1, gdI_pos i2, gdI_pos i3]
      obtain ⟨v, g1, g2, q1, q2, q3, q4, q5⟩ := H15 (sX (nI (6 * i) + (1 : Int32)).toNatClampNeg) (sX (nI (6 * i) + (2 : Int32)).toNatClampNeg) (sX (nI (6 * i) + (3 : Int32)).toNatClampNeg) i g (by omega) hI
      rw [q1, bd_eq, q2, bd_eq]
      simp only [if_true]
      exact nx g2 q3 q4 q5
    | 16 =>
      simp only [gdI_pos i1, gdI_pos i2, gdI_pos i3, gdI_pos i4]
      obtain ⟨v, g1, g2, q1, q2, q3, q4, q5⟩ := H16 (sX (nI (6 * i) + (1 : Int32)).toNatClampNeg) (sX (nI (6 * i) + (2 : Int32)).toNatClampNeg) (sX (nI (6 * i) + (3 : Int32)).toNatClampNeg) (sX (nI (6 * i) + (4 : Int32)).toNatClampNeg) i g (by omega) hI
      rw [q1, bd_eq, q2, bd_eq]
      simp only [if_true]
      exact nx g2 q3 q4 q5
    | 17 =>
      simp only [gdI_pos i1, gdI_pos i2, gdI_pos i3]
      obtain ⟨v, g1, g2, q1, q2, q3, q4, q5⟩ := H17 (sX (nI (6 * i) + (1 : Int32)).toNatClampNeg) (sX (nI (6 * i) + (2 : Int32)).toNatClampNeg) (sX (nI (6 * i) + (3 : Int32)).toNatClampNeg) i g (by omega) hI
      rw [q1, bd_eq, q2, bd_eq]
      simp only [if_true]
      exact nx g2 q3 q4 q5
    | 18 =>
      simp only [gdI_pos i1, gdI_pos i2, gdI_pos i3, gdI_pos i4]
      obtain ⟨v, g1, g2, q1, q2, q3, q4, q5⟩ := H18 (sX (nI (6 * i) + (1 : Int32)).toNatClampNeg) (sX (nI (6 * i) + (2 : Int32)).toNatClampNeg) (sX (nI (6 * i) + (3 : Int32)).toNatClampNeg) (sX (nI (6 * i) + (4 : Int32)).toNatClampNeg) i g (by omega) hI
      rw [q1, bd_eq, q2, bd_eq]
      simp only [if_true]
      exact nx g2 q3 q4 q5
    | 19 =>
      simp only [gdI_pos i1, gdI_pos i2, gdI_pos i3, gdI_pos i4]
      obtain ⟨v, g1, g2, q1, q2, q3, q4, q5⟩ := H19 (sX (nI (6 * i) + (1 : Int32)).toNatClampNeg) (sX (nI (6 * i) + (2 : Int32)).toNatClampNeg) (sX (nI (6 * i) + (3 : Int32)).toNatClampNeg) (sX (nI (6 * i) + (4 : Int32)).toNatClampNeg) i g (by omega) hI
      rw [q1, bd_eq, q2, bd_eq]
      simp only [lg_cmp_self, if_true]
      exact nx g2 q3 q4 q5
    | 20 =>
      simp only [gdI_pos i1, gdI_pos i2, gdI_pos i3]
      obtain ⟨v, g1, g2, q1, q2, q3, q4, q5⟩ := H20 (sX (nI (6 * i) + (1 : Int32)).toNatClampNeg) (sX (nI (6 * i) + (2 : Int32)).toNatClampNeg) (sX (nI (6 * i) + (3 : Int32)).toNatClampNeg) i g (by omega) hI
      rw [q1, bd_eq, q2, bd_eq]
      simp only [lg_cmp_self, if_true]
      exact nx g2 q3 q4 q5
    | 21 =>
      simp only [gdI_pos i1]
      obtain ⟨v, g1, g2, q1, q2, q3, q4, q5⟩ := H21 (sX (nI (6 * i) + (1 : Int32)).toNatClampNeg) i g (by omega) hI
      rw [q1, bd_eq, q2, bd_eq]
      simp only [if_true]
      exact nx g2 q3 q4 q5
    | 22 =>
      simp only [gdI_pos i1, gdI_pos i2]
      obtain ⟨v, g1, g2, q1, q2, q3, q4, q5⟩ := H22 (sX (nI (6 * i) + (1 : Int32)).toNatClampNeg) (sX (nI (6 * i) + (2 : Int32)).toNatClampNeg) i g (by omega) hI
      rw [q1, bd_eq, q2, bd_eq]
      simp only [if_true]
      exact nx g2 q3 q4 q5
    | 23 =>
      simp only [gdI_pos i1, gdI_pos i2]
      obtain ⟨v, g1, g2, q1, q2, q3, q4, q5⟩ := H23 (sX (nI (6 * i) + (1 : Int32)).toNatClampNeg) (sX (nI (6 * i) + (2 : Int32)).toNatClampNeg) i g (by omega) hI
      rw [q1, bd_eq, q2, bd_eq]
      simp only [lg_cmp_self, if_true]
      exact nx g2 q3 q4 q5
    | 24 =>
      simp only [gdI_pos i1]
      obtain ⟨v, g1, g2, q1, q2, q3, q4, q5⟩ := H24 (sX (nI (6 * i) + (1 : Int32)).toNatClampNeg) i g (by omega) hI
      rw [q1, bd_eq, q2, bd_eq]
      simp only [if_true]
      exact nx g2 q3 q4 q5
    | 25 =>
      simp only [gdI_pos i1, gdI_pos i2]
      obtain ⟨v, g1, g2, q1, q2, q3, q4, q5⟩ := H25 (sX (nI (6 * i) + (1 : Int32)).toNatClampNeg) (sX (nI (6 * i) + (2 : Int32)).toNatClampNeg) i g (by omega) hI
      rw [q1, bd_eq, q2, bd_eq]
      simp only [if_true]
      exact nx g2 q3 q4 q5
    | 26 =>
      simp only [gdI_pos i1, gdI_pos i2]
      obtain ⟨v, g1, g2, q1, q2, q3, q4, q5⟩ := H26 (sX (nI (6 * i) + (1 : Int32)).toNatClampNeg) (sX (nI (6 * i) + (2 : Int32)).toNatClampNeg) i g (by omega) hI
      rw [q1, bd_eq, q2, bd_eq]
      simp only [lg_cmp_self, if_true]
      exact nx g2 q3 q4 q5
    | 27 =>
      simp only [gdI_pos i1, gdI_pos i2]
      obtain ⟨v, g1, g2, q1, q2, q3, q4, q5⟩ := H27 (sX (nI (6 * i) + (1 : Int32)).toNatClampNeg) (sX (nI (6 * i) + (2 : Int32)).toNatClampNeg) i g (by omega) hI
      rw [q1, bd_eq, q2, bd_eq]
      simp only [if_true]
      exact nx g2 q3 q4 q5
    | 28 =>
      simp only [gdI_pos i1, gdI_pos i2]
      obtain ⟨v, g1, g2, q1, q2, q3, q4, q5⟩ := H28 (sX (nI (6 * i) + (1 : Int32)).toNatClampNeg) (sX (nI (6 * i) + (2 : Int32)).toNatClampNeg) i g (by omega) hI
      rw [q1, bd_eq, q2, bd_eq]
      simp only [if_true]
      exact nx g2 q3 q4 q5
    | 29 =>
      simp only [gdI_pos i1, gdI_pos i2]
      obtain ⟨v, g1, g2, q1, q2, q3, q4, q5⟩ := H29 (sX (nI (6 * i) + (1 : Int32)).toNatClampNeg) (sX (nI (6 * i) + (2 : Int32)).toNatClampNeg) i g (by omega) hI
      rw [q1, bd_eq, q2, bd_eq]
      simp only [if_true]
      exact nx g2 q3 q4 q5
    | 30 =>
      simp only [gdI_pos i1]
      obtain ⟨v, g1, g2, q1, q2, q3, q4, q5⟩ := H30 (sX (nI (6 * i) + (1 : Int32)).toNatClampNeg) i g (by omega) hI
      rw [q1, bd_eq, q2, bd_eq]
      simp only [lg_cmp_self, if_true]
      exact nx g2 q3 q4 q5
    | 31 =>
      simp only [gdI_pos i1, gdI_pos i2]
      obtain ⟨v, g1, g2, q1, q2, q3, q4, q5⟩ := H31 (sX (nI (6 * i) + (1 : Int32)).toNatClampNeg) (sX (nI (6 * i) + (2 : Int32)).toNatClampNeg) i g (by omega) hI
      rw [q1, bd_eq, q2, bd_eq]
      simp only [lg_cmp_self, if_true]
      exact nx g2 q3 q4 q5
    | 32 =>
      simp only [gdI_pos i1, gdI_pos i2]
      obtain ⟨v, g1, g2, q1, q2, q3, q4, q5⟩ := H32 (sX (nI (6 * i) + (1 : Int32)).toNatClampNeg) (sX (nI (6 * i) + (2 : Int32)).toNatClampNeg) i g (by omega) hI
      rw [q1, bd_eq, q2, bd_eq]
      simp only [if_true]
      exact nx g2 q3 q4 q5
    | 33 =>
      simp only [gdI_pos i1, gdI_pos i2]
      obtain ⟨v, g1, g2, q1, q2, q3, q4, q5⟩ := H33 (sX (nI (6 * i) + (1 : Int32)).toNatClampNeg) (sX (nI (6 * i) + (2 : Int32)).toNatClampNeg) i g (by omega) hI
      rw [q1, bd_eq, q2, bd_eq]
      simp only [if_true]
      exact nx g2 q3 q4 q5
    | 34 =>
      simp only [gdI_pos i1, gdI_pos i2]
      obtain ⟨v, g1, g2, q1, q2, q3, q4, q5⟩ := H34 (sX (nI (6 * i) + (1 : Int32)).toNatClampNeg) (sX (nI (6 * i) + (2 : Int32)).toNatClampNeg) i g (by omega) hI
      rw [q1, bd_eq, q2, bd_eq]
      simp only [if_true]
      exact nx g2 q3 q4 q5
    | 35 =>
      simp only [gdI_pos i1, gdI_pos i2, gdI_pos i3, gdI_pos i4, gdI_pos i5]
      obtain ⟨v, g1, g2, q1, q2, q3, q4, q5⟩ := H35 (sX (nI (6 * i) + (1 : Int32)).toNatClampNeg) (sX (nI (6 * i) + (2 : Int32)).toNatClampNeg) (sX (nI (6 * i) + (3 : Int32)).toNatClampNeg) (sX (nI (6 * i) + (4 : Int32)).toNatClampNeg) (sX (nI (6 * i) + (5 : Int32)).toNatClampNeg) i g (by omega) hI
      rw [q1, bd_eq, q2, bd_eq]
      simp only [lg_cmp_self, if_true]
      exact nx g2 q3 q4 q5
    | 36 =>
      simp only [gdI_pos i1, gdI_pos i2, gdI_pos i3]
      obtain ⟨v, g1, g2, q1, q2, q3, q4, q5⟩ := H36 (sX (nI (6 * i) + (1 : Int32)).toNatClampNeg) (sX (nI (6 * i) + (2 : Int32)).toNatClampNeg) (sX (nI (6 * i) + (3 : Int32)).toNatClampNeg) i g (by omega) hI
      rw [q1, bd_eq, q2, bd_eq]
      simp only [if_true]
      exact nx g2 q3 q4 q5
    | 37 =>
      simp only [gdI_pos i1, gdI_pos i2, gdI_pos i3]
      obtain ⟨v, g1, g2, q1, q2, q3, q4, q5⟩ := H37 (sX (nI (6 * i) + (1 : Int32)).toNatClampNeg) (sX (nI (6 * i) + (2 : Int32)).toNatClampNeg) (sX (nI (6 * i) + (3 : Int32)).toNatClampNeg) i g (by omega) hI
      rw [q1, bd_eq, q2, bd_eq]
      simp only [if_true]
      exact nx g2 q3 q4 q5
    | 38 =>
      simp only [gdI_pos i1, gdI_pos i2, gdI_pos i3, gdI_pos i4]
      obtain ⟨v, g1, g2, q1, q2, q3, q4, q5⟩ := H38 (sX (nI (6 * i) + (1 : Int32)).toNatClampNeg) (sX (nI (6 * i) + (2 : Int32)).toNatClampNeg) ((((sX (nI (6 * i) + (3 : Int32)).toNatClampNeg).toInt64) <<< ((32 : Int32).toInt64 &&& 63)) ||| (((sX (nI (6 * i) + (4 : Int32)).toNatClampNeg).toInt64) &&& (4294967295 : Int64))) i g (by omega) hI
      rw [q1, bd_eq, q2, bd_eq]
      simp only [lg_cmp_self, if_true]
      exact nx g2 q3 q4 q5
    | 39 =>
      simp only [gdI_pos i1, gdI_pos i2, gdI_pos i3, gdI_pos i4]
      obtain ⟨v, g1, g2, q1, q2, q3, q4, q5⟩ := H39 (sX (nI (6 * i) + (1 : Int32)).toNatClampNeg) (sX (nI (6 * i) + (2 : Int32)).toNatClampNeg) (sX (nI (6 * i) + (3 : Int32)).toNatClampNeg) (sX (nI (6 * i) + (4 : Int32)).toNatClampNeg) i g (by omega) hI
      rw [q1, bd_eq, q2, bd_eq]
      simp only [if_true]
      exact nx g2 q3 q4 q5
    | 40 =>
      simp only [gdI_pos i1]
      obtain ⟨v, g1, g2, q1, q2, q3, q4, q5⟩ := H40 (sX (nI (6 * i) + (1 : Int32)).toNatClampNeg) i g (by omega) hI
      rw [q1, bd_eq, q2, bd_eq]
      simp only [if_true]
      exact nx g2 q3 q4 q5
    | 41 =>
      simp only [gdI_pos i1]
      obtain ⟨v, g1, g2, q1, q2, q3, q4, q5⟩ := H41 (sX (nI (6 * i) + (1 : Int32)).toNatClampNeg) i g (by omega) hI
      rw [q1, bd_eq, q2, bd_eq]
      simp only [if_true]
      exact nx g2 q3 q4 q5
    | 42 =>
      simp only [gdI_pos i1]
      obtain ⟨v, g1, g2, q1, q2, q3, q4, q5⟩ := H42 (sX (nI (6 * i) + (1 : Int32)).toNatClampNeg) i g (by omega) hI
      rw [q1, bd_eq, q2, bd_eq]
      simp only [if_true]
      exact nx g2 q3 q4 q5
    | mm + 43 => exact nx g (HM i g hI) (by omega) (by omega)
  · have hlt : nI L - (6 : Int32) < nI (6 * i) := by
      rw [c6, toInt_lt, pk_sub_toInt (by omega) (by omega), nI_toInt (by omega)]
      omega
    rw [if_pos hlt]
    exact ⟨g, rfl, by omega, by omega⟩
