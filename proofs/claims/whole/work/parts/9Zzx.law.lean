/-! THE LAW: run by run of calls. -/
section LAW
variable {X : Nat → Prop} {A : Nat → Int32} {g : G} {ag L i : Nat} {xs : Nat → Int32}
theorem lg_cmp_s (v : Int64) : lg_cmp v v = 0 := by
  unfold lg_cmp
  simp
theorem lt6 (hL : L ≤ 3072) (hi : i ≤ 3100) : ((nI L) - (6 : Int32)) < nI i ↔ L < i + 6 := by
  rcases Nat.lt_or_ge L 6 with z | z
  · have n : (nI L - (6 : Int32)) < 0 := by
      obtain rfl | rfl | rfl | rfl | rfl | rfl : L = 0 ∨ L = 1 ∨ L = 2 ∨ L = 3 ∨ L = 4 ∨ L = 5 := by omega
      all_goals decide
    have p : (0 : Int32) ≤ nI i := nI_le (a := 0) (by omega) (by omega)
    exact ⟨fun _ => by omega, fun _ => Int32.lt_of_lt_of_le n p⟩
  · rw [show (6 : Int32) = nI 6 from rfl, pk_sub z, nI_ltI (by omega) (by omega)]
    omega
theorem law_18 (hL : L ≤ 3072) (xs : Nat → Int32) : ∀ m fu i g X A ag, L < i + 6 + 6 * m → m < fu → i ≤ 3072 → Inv X A ag g → ag + 100 * m ≤ 60000 → gn g + 1000 * m ≤ 600000 → gs g + 10000 * m ≤ 7302250 → ∃ g', f_L_law_18 L xs fu 0 136 (nI i) g = some (true, g') ∧ gn g' ≤ 600000 ∧ gs g' ≤ 7302250 := by
  intro m
  induction m with
  | zero =>
    intro fu i g X A ag h1 h2 h3 h h4 h5 h6
    obtain ⟨n, rfl⟩ : ∃ n, fu = n + 1 := ⟨fu - 1, by omega⟩
    refine ⟨g, ?_, by omega, by omega⟩
    rw [f_L_law_18, if_pos ((lt6 hL (by omega)).mpr (by omega))]
  | succ m ih =>
    intro fu i g X A ag h1 h2 h3 h h4 h5 h6
    obtain ⟨n, rfl⟩ : ∃ n, fu = n + 1 := ⟨fu - 1, by omega⟩
    by_cases z : L < i + 6
    · refine ⟨g, ?_, by omega, by omega⟩
      rw [f_L_law_18, if_pos ((lt6 hL (by omega)).mpr z)]
    · have e1 : nI i + (1 : Int32) = nI (i + 1) := lad1 i
      have e2 : nI i + (2 : Int32) = nI (i + 2) := lad2 i
      have e3 : nI i + (3 : Int32) = nI (i + 3) := lad3 i
      have e4 : nI i + (4 : Int32) = nI (i + 4) := lad4 i
      have e5 : nI i + (5 : Int32) = nI (i + 5) := lad5 i
      have d1 : ∀ (x : Option (Bool × G)), gdI (nI (i + 1)) L x = x := fun x => gdI_nI (by omega) (by omega)
      have d2 : ∀ (x : Option (Bool × G)), gdI (nI (i + 2)) L x = x := fun x => gdI_nI (by omega) (by omega)
      have d3 : ∀ (x : Option (Bool × G)), gdI (nI (i + 3)) L x = x := fun x => gdI_nI (by omega) (by omega)
      have d4 : ∀ (x : Option (Bool × G)), gdI (nI (i + 4)) L x = x := fun x => gdI_nI (by omega) (by omega)
      have d5 : ∀ (x : Option (Bool × G)), gdI (nI (i + 5)) L x = x := fun x => gdI_nI (by omega) (by omega)
      have c1 : (nI (i + 1)).toNatClampNeg = i + 1 := nI_clamp (by omega)
      have c2 : (nI (i + 2)).toNatClampNeg = i + 2 := nI_clamp (by omega)
      have c3 : (nI (i + 3)).toNatClampNeg = i + 3 := nI_clamp (by omega)
      have c4 : (nI (i + 4)).toNatClampNeg = i + 4 := nI_clamp (by omega)
      have c5 : (nI (i + 5)).toNatClampNeg = i + 5 := nI_clamp (by omega)
      have go : ∀ g2 X A ag', Inv X A ag' g2 → ag' ≤ ag + 100 → gn g2 ≤ gn g + 1000 → gs g2 ≤ gs g + 10000 → ∃ g', f_L_law_1817 L xs (f_L_law_18 L xs n) 0 136 (nI i) g2 = some (true, g') ∧ gn g' ≤ 600000 ∧ gs g' ≤ 7302250 := fun g2 X A ag' q1 q2 q3 q4 => by
        rw [f_L_law_1817, lad6]
        exact ih n (i + 6) g2 X A ag' (by omega) (by omega) (by omega) q1 (by omega) (by omega) (by omega)
      have st : ∀ {c : Option (Int32 × G)} {r : G → Option (Int32 × G)}, CA ag g c r → ∃ g', bd c (fun v g1 => bd (r g1) (fun v' g2 => if v = v' then (f_L_law_1817 L xs (f_L_law_18 L xs n) 0 136 (nI i) g2) else (some (false, g2)))) = some (true, g') ∧ gn g' ≤ 600000 ∧ gs g' ≤ 7302250 := fun q => by
        obtain ⟨v, g1, g2, X, A, ag', a1, a2, a3, a4, a5, a6⟩ := q
        rw [a1, bd_eq, a2, bd_eq, if_pos rfl]
        exact go g2 X A ag' a3 a4 a5 a6
      have stL : ∀ {c : Option (Int64 × G)} {r : G → Option (Int64 × G)}, CA ag g c r → ∃ g', bd c (fun v g1 => bd (r g1) (fun v' g2 => if (lg_cmp v v') = 0 then (f_L_law_1817 L xs (f_L_law_18 L xs n) 0 136 (nI i) g2) else (some (false, g2)))) = some (true, g') ∧ gn g' ≤ 600000 ∧ gs g' ≤ 7302250 := fun q => by
        obtain ⟨v, g1, g2, X, A, ag', a1, a2, a3, a4, a5, a6⟩ := q
        rw [a1, bd_eq, a2, bd_eq, if_pos (lg_cmp_s v)]
        exact go g2 X A ag' a3 a4 a5 a6
      have no := go g X A ag h (by omega) (by omega) (by omega)
      rw [f_L_law_18, if_neg (fun u => z ((lt6 hL (by omega)).mp u)), gdI_nI (show i < L by omega) (by omega)]
      generalize ((xs (nI i).toNatClampNeg) &&& (63 : Int32)).toInt = tt
      by_cases zt : tt < 0
      · rw [if_pos zt]
        exact no
      rw [if_neg zt]
      generalize (tt - 0).toNat = t
      split
      · simp only [e1, e2, e3, e4, e5, d1, d2, d3, d4, d5, c1, c2, c3, c4, c5]
        exact st (q_feed h _ _ _ _ _)
      · simp only [e1, e2, e3, e4, e5, d1, d2, d3, d4, d5, c1, c2, c3, c4, c5]
        exact st (q_field h _)
      · simp only [e1, e2, e3, e4, e5, d1, d2, d3, d4, d5, c1, c2, c3, c4, c5]
        exact st (q_fault h _)
      · simp only [e1, e2, e3, e4, e5, d1, d2, d3, d4, d5, c1, c2, c3, c4, c5]
        exact st (q_cell h _ _)
      · simp only [e1, e2, e3, e4, e5, d1, d2, d3, d4, d5, c1, c2, c3, c4, c5]
        exact st (q_pair h _ _)
      · simp only [e1, e2, e3, e4, e5, d1, d2, d3, d4, d5, c1, c2, c3, c4, c5]
        exact st ((q_why h.1 (by omega) _ _ _).ca h)
      · simp only [e1, e2, e3, e4, e5, d1, d2, d3, d4, d5, c1, c2, c3, c4, c5]
        exact st ((q_by h.1 (by omega) _ _ _ _).ca h)
      · simp only [e1, e2, e3, e4, e5, d1, d2, d3, d4, d5, c1, c2, c3, c4, c5]
        exact st (q_lead h (by omega) _ _ _)
      · simp only [e1, e2, e3, e4, e5, d1, d2, d3, d4, d5, c1, c2, c3, c4, c5]
        exact st (q_wall h _)
      · simp only [e1, e2, e3, e4, e5, d1, d2, d3, d4, d5, c1, c2, c3, c4, c5]
        exact st (q_put h _ _ _)
      · simp only [e1, e2, e3, e4, e5, d1, d2, d3, d4, d5, c1, c2, c3, c4, c5]
        exact st (q_mood h _ _)
      · simp only [e1, e2, e3, e4, e5, d1, d2, d3, d4, d5, c1, c2, c3, c4, c5]
        exact st (q_undo h _)
      · simp only [e1, e2, e3, e4, e5, d1, d2, d3, d4, d5, c1, c2, c3, c4, c5]
        exact st (q_judge h (by omega) _ _)
      · simp only [e1, e2, e3, e4, e5, d1, d2, d3, d4, d5, c1, c2, c3, c4, c5]
        exact st (q_perform h (by omega) _)
      · simp only [e1, e2, e3, e4, e5, d1, d2, d3, d4, d5, c1, c2, c3, c4, c5]
        exact st (q_day h (by omega) _ _)
      · simp only [e1, e2, e3, e4, e5, d1, d2, d3, d4, d5, c1, c2, c3, c4, c5]
        exact st ((q_soonest h.1 (by omega) _ _ _).ca h)
      · simp only [e1, e2, e3, e4, e5, d1, d2, d3, d4, d5, c1, c2, c3, c4, c5]
        exact st ((q_way h.1 (by omega) _ _ _ _).ca h)
      · simp only [e1, e2, e3, e4, e5, d1, d2, d3, d4, d5, c1, c2, c3, c4, c5]
        exact st ((q_cheapest h.1 (by omega) _ _ _).ca h)
      · simp only [e1, e2, e3, e4, e5, d1, d2, d3, d4, d5, c1, c2, c3, c4, c5]
        exact st ((q_cheapWay h.1 (by omega) _ _ _ _).ca h)
      · simp only [e1, e2, e3, e4, e5, d1, d2, d3, d4, d5, c1, c2, c3, c4, c5]
        exact stL ((q_rows h.1 (by omega) _ _ _ _).ca h)
      · simp only [e1, e2, e3, e4, e5, d1, d2, d3, d4, d5, c1, c2, c3, c4, c5]
        exact stL ((q_needed h.1 (by omega) _ _ _).ca h)
      · simp only [e1, e2, e3, e4, e5, d1, d2, d3, d4, d5, c1, c2, c3, c4, c5]
        exact st ((q_errands h.1 (by omega) h.2.2.2.2.2.2.2 _).ca h)
      · simp only [e1, e2, e3, e4, e5, d1, d2, d3, d4, d5, c1, c2, c3, c4, c5]
        exact st ((q_errandWay h.1 (by omega) h.2.2.2.2.2.2.2 _ _).ca h)
      · simp only [e1, e2, e3, e4, e5, d1, d2, d3, d4, d5, c1, c2, c3, c4, c5]
        exact stL ((q_reach h.1 (by omega) _ _).ca h)
      · simp only [e1, e2, e3, e4, e5, d1, d2, d3, d4, d5, c1, c2, c3, c4, c5]
        exact st ((q_stands h.1 (by omega) _).ca h)
      · simp only [e1, e2, e3, e4, e5, d1, d2, d3, d4, d5, c1, c2, c3, c4, c5]
        exact st ((q_farthest h.1 (by omega) _ _).ca h)
      · simp only [e1, e2, e3, e4, e5, d1, d2, d3, d4, d5, c1, c2, c3, c4, c5]
        exact stL ((q_round h.1 (by omega) _ _).ca h)
      · simp only [e1, e2, e3, e4, e5, d1, d2, d3, d4, d5, c1, c2, c3, c4, c5]
        exact st ((q_spans h.1 (by omega) _ _).ca h)
      · simp only [e1, e2, e3, e4, e5, d1, d2, d3, d4, d5, c1, c2, c3, c4, c5]
        exact st ((q_forces h.1 (by omega) _ _).ca h)
      · simp only [e1, e2, e3, e4, e5, d1, d2, d3, d4, d5, c1, c2, c3, c4, c5]
        exact st ((q_best h.1 (by omega) _ _).ca h)
      · simp only [e1, e2, e3, e4, e5, d1, d2, d3, d4, d5, c1, c2, c3, c4, c5]
        exact stL ((q_power h.1 (by omega) _).ca h)
      · simp only [e1, e2, e3, e4, e5, d1, d2, d3, d4, d5, c1, c2, c3, c4, c5]
        exact stL ((q_tried h.1 (by omega) h.2.1 _ _).ca h)
      · simp only [e1, e2, e3, e4, e5, d1, d2, d3, d4, d5, c1, c2, c3, c4, c5]
        exact st ((q_many h.1 (by omega) h.2.1 _ _).ca h)
      · simp only [e1, e2, e3, e4, e5, d1, d2, d3, d4, d5, c1, c2, c3, c4, c5]
        exact st ((q_attempt h.1 (by omega) h.2.1 _ _).ca h)
      · simp only [e1, e2, e3, e4, e5, d1, d2, d3, d4, d5, c1, c2, c3, c4, c5]
        exact st ((q_moods h.1 (by omega) h.2.1 _ _).ca h)
      · simp only [e1, e2, e3, e4, e5, d1, d2, d3, d4, d5, c1, c2, c3, c4, c5]
        exact stL ((q_chance h.1 (by omega) _ _ _ _ _).ca h)
      · simp only [e1, e2, e3, e4, e5, d1, d2, d3, d4, d5, c1, c2, c3, c4, c5]
        exact st ((q_likeliest h.1 (by omega) _ _ _).ca h)
      · simp only [e1, e2, e3, e4, e5, d1, d2, d3, d4, d5, c1, c2, c3, c4, c5]
        exact st (q_numbers h _ _ _)
      · simp only [e1, e2, e3, e4, e5, d1, d2, d3, d4, d5, c1, c2, c3, c4, c5]
        exact stL (q_write h _ _ _)
      · simp only [e1, e2, e3, e4, e5, d1, d2, d3, d4, d5, c1, c2, c3, c4, c5]
        exact st (q_lists h (by omega) _ _ _ _)
      · simp only [e1, e2, e3, e4, e5, d1, d2, d3, d4, d5, c1, c2, c3, c4, c5]
        exact st (q_image h _)
      · simp only [e1, e2, e3, e4, e5, d1, d2, d3, d4, d5, c1, c2, c3, c4, c5]
        exact st (q_restore h _)
      · simp only [e1, e2, e3, e4, e5, d1, d2, d3, d4, d5, c1, c2, c3, c4, c5]
        exact st (q_count h _)
      · exact no
/-- THE PURE CLAIM -/
theorem pure_claim (L : Nat) (hL : L ≤ 3072) (xs0 : Nat → Int32) : ∃ g', f_L_law L xs0 gE = some (true, g') ∧ gn g' ≤ 600000 ∧ gs g' ≤ 7302250 := by
  have k1 : gn gB + 1000 * 512 ≤ 600000 := by
    rw [gB_n]
    decide
  have k2 : gs gB + 10000 * 512 ≤ 7302250 := Nat.le_trans (Nat.add_le_add_right gB_s _) (by decide)
  obtain ⟨g', a1, a2, a3⟩ := law_18 hL xs0 512 FU 0 gB X0 A0 0 (Nat.lt_of_le_of_lt hL (by decide)) (FU_gt (by decide)) (by decide) b_inv (by decide) k1 k2
  refine ⟨g', ?_, a2, a3⟩
  have e0 : gn gE = 0 := rfl
  have e1 : nw gE 11 0 18 = gA1 := rfl
  have e2 : nw gA 12 0 36 = gB1 := rfl
  have a1' : f_L_law_18 L xs0 FU 0 136 0 gB = some (true, g') := a1
  rw [f_L_law, lg, ln, e0, e1, gA_eq, bd_eq, lg, ln, gA_n, e2, gB_eq, bd_eq, a1']
end LAW
