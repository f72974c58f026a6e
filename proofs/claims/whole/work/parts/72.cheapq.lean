/-! WHAT IS CHEAPEST is read off. -/
section CHQ
variable {A : Nat → Int32} {F : Nat → Bool} {p m : Nat} {g g' : G} {n : Nat} {q pa la dp len ord : Nat → Nat} {N : Nat → Nat → Option Nat} {wt : Nat → Nat → Nat} {one two : Int32}
theorem c_len3 (hs : Sh g) (hG : GRw g 2 n q pa la dp) (hn : n ≤ 232) (hq : ∀ i, i < n → q i < 1296) (hD : DF (nxI N q n) wt n len ord) (hC : CHr (nxI N q n) wt g n len ord) (one two : Int32) : ∀ fu k, k ≤ n → n < fu + k → (∀ i, i < k → fitB (q (ord i)) one two = false) → (∃ e, e < n ∧ fitB (q (ord e)) one two = true ∧ (∀ i, i < e → fitB (q (ord i)) one two = false) ∧ f_X1_lengthTo_3 fu 16 2 one two (nI k) g = some (nI (len (ord e)), g)) ∨ ((∀ i, i < n → fitB (q (ord i)) one two = false) ∧ f_X1_lengthTo_3 fu 16 2 one two (nI k) g = some (nI 1000000000, g)) := by
  intro fu
  induction fu with
  | zero => intro k _ h; omega
  | succ fu ih =>
    intro k hk hf hno
    obtain ⟨h4, h17, h19, h18⟩ := id hC
    rw [f_X1_lengthTo_3, h4]
    rcases Nat.lt_or_ge k n with z | z
    · have ok := hD.1 k z
      rw [if_neg (nI_ge z (by omega)), md16_3 hs, gk19 hs, sn19 hs, gdI_nI (by omega) (by decide), nI_clamp (by omega), h19 k z, c_fits (Or.inl rfl) hs hG.1 (by omega) ok (hG.2.1 _ ok).1 (hq _ ok), bd_eq]
      cases hfi : fitB (q (ord k)) one two with
      | true =>
        rw [ibT, md16_1 hs, md16_3 hs, gk19 hs, sn19 hs, gdI_nI (by omega) (by decide), gk17 hs, sn17 hs, h19 k z, gdI_nI (by omega) (by decide), nI_clamp (by omega), h17 _ ok]
        exact Or.inl ⟨k, z, hfi, hno, rfl⟩
      | false =>
        rw [ibF, lad1]
        exact ih (k + 1) (by omega) (by omega) (fun i hi => by
          rcases Nat.eq_or_lt_of_le (Nat.le_of_lt_succ hi) with w | w
          · rw [w]; exact hfi
          · exact hno i w)
    · rw [if_pos (nI_le z (by omega)), lFC]
      exact Or.inr ⟨fun i hi => hno i (by omega), rfl⟩
theorem c_lengthTo (hs : Sh g) (hG : GRw g 2 n q pa la dp) (hn : n ≤ 232) (hq : ∀ i, i < n → q i < 1296) (hD : DF (nxI N q n) wt n len ord) (hC : CHr (nxI N q n) wt g n len ord) (one two : Int32) : (∃ e, e < n ∧ fitB (q (ord e)) one two = true ∧ (∀ i, i < e → fitB (q (ord i)) one two = false) ∧ f_X1_lengthTo 16 2 one two g = some (nI (len (ord e)), g)) ∨ ((∀ i, i < n → fitB (q (ord i)) one two = false) ∧ f_X1_lengthTo 16 2 one two g = some (nI 1000000000, g)) := c_len3 hs hG hn hq hD hC one two FU 0 (Nat.zero_le _) (by have := @FU_gt n (by omega); omega) (fun i hi => by omega)
/-- whether a lead goes on -/
def lnB (nx : Nat → Nat → Option Nat) (wt : Nat → Nat → Nat) (len gd : Nat → Nat) (s l : Nat) : Bool := match nx s l with
  | none => false
  | some t => decide (gd t = 1 ∧ len s + wt s l = len t)
theorem lnB_iff {nx : Nat → Nat → Option Nat} {gd : Nat → Nat} {s l : Nat} : lnB nx wt len gd s l = true ↔ ∃ t, nx s l = some t ∧ gd t = 1 ∧ len s + wt s l = len t := by
  unfold lnB
  cases nx s l with
  | none => simp
  | some y => simp
theorem c_leadsOn (hs : Sh g) (hB : BF N q pa la dp n n 0) (hG : GRw g 2 n q pa la dp) (hN : GNx N g 2 n q n 0) (hn : n ≤ 232) (hD : DF (nxI N q n) wt n len ord) (hC : CHr (nxI N q n) wt g n len ord) (hw : ∀ u l, wt u l ≤ 202753) {gd : Nat → Nat} (hgd : ∀ v, v < n → gI g 21 v = nI (gd v) ∧ gd v ≤ 1) {s l : Nat} (hsn : s < n) (hl : l < 8) : f_X1_leadsOn 16 2 (nI s) (nI l) g = some (lnB (nxI N q n) wt len gd s l, g) := by
  obtain ⟨h4, h17, h19, h18⟩ := id hC
  rw [f_X1_leadsOn, c_nextOf (Or.inl rfl) hs hB hG hN hn hsn hl, bd_eq]
  unfold lnB
  cases hx : nxI N q n s l with
  | none => rw [show oI none = -1 from rfl, c_has1, bd_eq, ibF]
  | some t =>
    obtain ⟨o1, -⟩ := nxI_o hB hsn hl hx
    obtain ⟨g1, g2⟩ := hgd t o1
    have ls := hD.2.2.2.2.2.2.2 s hsn
    have lt := hD.2.2.2.2.2.2.2 t o1
    have hw1 := hw s l
    rw [show oI (some t) = nI t from rfl, c_has hG.1 (by omega) (by omega), bd_eq, decide_eq_true o1, ibT, md16_7 hs, gk21 hs, sn21 hs, gdI_nI (by omega) (by decide), nI_clamp (by omega), g1]
    dsimp only
    by_cases z : gd t = 1
    · rw [if_pos (show nI (gd t) = 1 by rw [z]; rfl), md16_1 hs, gk17 hs, sn17 hs, gdI_nI (by omega) (by decide), md16_2 hs, gk18 hs, sn18 hs, lmu8, nI_add, gdI_nI (by omega) (by decide), gdI_nI (by omega) (by decide), nI_clamp (by omega), nI_clamp (by omega), h17 s hsn, h17 t o1, h18 s l t hsn hl hx, nI_add]
      by_cases y : len s + wt s l = len t
      · rw [if_pos (by rw [y]), decide_eq_true ⟨z, y⟩]
      · rw [if_neg (fun u => y ((nI_eq (by omega) (by omega)).mp u)), decide_eq_false (fun u => y u.2)]
    · rw [if_neg (show ¬ nI (gd t) = 1 from fun u => z ((nI_eq (b := 1) (by omega) (by decide)).mp u)), decide_eq_false (fun u => z u.1)]
theorem c_fon2 (hs : Sh g) (hB : BF N q pa la dp n n 0) (hG : GRw g 2 n q pa la dp) (hN : GNx N g 2 n q n 0) (hn : n ≤ 232) (hD : DF (nxI N q n) wt n len ord) (hC : CHr (nxI N q n) wt g n len ord) (hw : ∀ u l, wt u l ≤ 202753) {gd : Nat → Nat} (hgd : ∀ v, v < n → gI g 21 v = nI (gd v) ∧ gd v ≤ 1) {s : Nat} (hsn : s < n) : ∀ fu l, l ≤ 8 → 8 < fu + l → (∀ j, j < l → lnB (nxI N q n) wt len gd s j = false) → f_X1_firstOn_2 fu 16 2 (nI s) (nI l) g = some (if fstB (lnB (nxI N q n) wt len gd s) 8 < 8 then nI (fstB (lnB (nxI N q n) wt len gd s) 8) else -1, g) := by
  intro fu
  induction fu with
  | zero => intro l _ h; omega
  | succ fu ih =>
    intro l hl hf hno
    rw [f_X1_firstOn_2]
    rcases Nat.lt_or_ge l 8 with z | z
    · rw [if_neg (lnge8 z), c_leadsOn hs hB hG hN hn hD hC hw hgd hsn z, bd_eq]
      cases h : lnB (nxI N q n) wt len gd s l with
      | true => rw [ibT, fst_eq z h hno, if_pos z]
      | false =>
        rw [ibF, lad1]
        exact ih (l + 1) (by omega) (by omega) (fun j hj => by
          rcases Nat.eq_or_lt_of_le (Nat.le_of_lt_succ hj) with w | w
          · rw [w]; exact h
          · exact hno j w)
    · have : l = 8 := by omega
      subst this
      rw [if_pos (lle8 (by decide) (by decide)), if_neg (fun u => by
        have := fst_ok _ 8 u
        rw [hno _ u] at this
        cases this)]
theorem c_firstOn (hs : Sh g) (hB : BF N q pa la dp n n 0) (hG : GRw g 2 n q pa la dp) (hN : GNx N g 2 n q n 0) (hn : n ≤ 232) (hD : DF (nxI N q n) wt n len ord) (hC : CHr (nxI N q n) wt g n len ord) (hw : ∀ u l, wt u l ≤ 202753) {gd : Nat → Nat} (hgd : ∀ v, v < n → gI g 21 v = nI (gd v) ∧ gd v ≤ 1) {s : Nat} (hsn : s < n) : f_X1_firstOn 16 2 (nI s) g = some (if fstB (lnB (nxI N q n) wt len gd s) 8 < 8 then nI (fstB (lnB (nxI N q n) wt len gd s) 8) else -1, g) := c_fon2 hs hB hG hN hn hD hC hw hgd hsn FU 0 (by decide) (by have := @FU_gt 8 (by decide); omega) (fun j hj => by omega)
theorem Lp_lt (hA : Dm A) {s : Nat} (h : (LSf A F p m 1 one two) s < 1073741824) : Lp A F p m one two s < 1000000000 ∧ Lp A F p m one two s / 1024 = (LSf A F p m 1 one two) s / 10000 ∧ Lp A F p m one two s % 1024 = (LSf A F p m 1 one two) s % 10000 := by
  obtain ⟨c, k, d1, d2, d3⟩ := L1_dec hA h
  unfold Lp
  generalize LSf A F p m 1 one two s = x at *
  omega
/-- the stands on the way are marked -/
theorem c_mark16 (hA : Dm A) (hsp : sp A p ≤ 10) (hB : BF (nxS A F p m) q pa la dp n n 0) (hq : ∀ i, i < n → stB A F p (q i) = true) (hn : n ≤ 232) (hD : DF (nxI (nxS A F p m) q n) (wtI A F p m q n) n len ord) (hF : (LSf A F p m 1 one two) (q 0) < 1073741824) : ∀ fu r g (gd : Nat → Nat), Sh g → GRw g 2 n q pa la dp → GNx (nxS A F p m) g 2 n q n 0 → CHr (nxI (nxS A F p m) q n) (wtI A F p m q n) g n len ord → (∀ v, v < n → gI g 21 v = nI (gd v) ∧ gd v ≤ 1) → (∀ j, r ≤ j → j < n → (gd (ord j) = 1 ↔ gdP A F p m one two q len (ord j))) → r ≤ n → r < fu → ∃ (g' : G) (gd' : Nat → Nat), f_X1_mark_16 fu 16 2 one two (nI (Lp A F p m one two (q 0))) (if r = 0 then -1 else nI (r - 1)) g = some ((), g') ∧ Fi [21] g g' ∧ (∀ v, v < n → gI g' 21 v = nI (gd' v) ∧ gd' v ≤ 1) ∧ ∀ v, v < n → (gd' v = 1 ↔ gdP A F p m one two q len v) := by
  obtain ⟨pl, -, -⟩ := Lp_lt hA hF
  have hw := wtI_le (m := m) hA hq
  intro fu
  induction fu with
  | zero => intro r g gd _ _ _ _ _ _ _ h; omega
  | succ fu ih =>
    intro r g gd hs hG hN hC hgd hok hr hf
    rw [f_X1_mark_16]
    rcases Nat.eq_zero_or_pos r with z | z
    · rw [if_pos z, if_pos (by decide)]
      refine ⟨g, gd, rfl, Fi.rf, hgd, fun v hv => ?_⟩
      obtain ⟨i, i1, i2⟩ := hD.2.2.1 v hv
      rw [← i2]
      exact hok i (by omega) i1
    · obtain ⟨i, rfl⟩ : ∃ i, r = i + 1 := ⟨r - 1, by omega⟩
      have oi := hD.1 i (by omega)
      have li' := hD.2.2.2.2.2.2.2 _ oi
      obtain ⟨h4, h17, h19, h18⟩ := id hC
      have fin : ∀ x : Nat, x ≤ 1 → (x = 1 ↔ gdP A F p m one two q len (ord i)) → ∃ (g' : G) (gd' : Nat → Nat), f_X1_mark_99 (f_X1_mark_16 fu) 16 2 one two (nI (Lp A F p m one two (q 0))) (nI i) (nI x) (nI (ord i)) 21 g = some ((), g') ∧ Fi [21] g g' ∧ (∀ v, v < n → gI g' 21 v = nI (gd' v) ∧ gd' v ≤ 1) ∧ ∀ v, v < n → (gd' v = 1 ↔ gdP A F p m one two q len v) := fun x hx hxx => by
        have x1 : Fi [21] g (sI g 21 (ord i) (nI x)) := Fi.rf.si (by decide)
        obtain ⟨g2, gd2, r1, r2, r3⟩ := ih i _ (ins gd (ord i) x) (Sh.fi x1 hs) (hG.fi x1 (fun k hk u => by simp at u; omega)) (hN.fi x1 (fun k hk u => by simp at u; omega)) (hC.fi x1 (by decide) (by decide) (by decide) (by decide)) (fun v hv => by
          rw [gI_sIs]
          by_cases e : v = ord i
          · rw [e, pk_us, ins_s]
            exact ⟨rfl, hx⟩
          · rw [pk_un e, ins_n e]
            exact hgd v hv) (fun j h1 h2 => by
          rcases Nat.eq_or_lt_of_le h1 with e | e
          · rw [← e, ins_s]
            exact hxx
          · have ne : ord j ≠ ord i := fun u => by
              have := hD.2.1 j i h2 (by omega) u
              omega
            rw [ins_n ne]
            exact hok j e h2) (by omega) (by omega)
        have e1 : nI i + (-1 : Int32) = (if i = 0 then -1 else nI (i - 1)) := by
          by_cases e : i = 0
          · rw [if_pos e, e]
            rfl
          · rw [if_neg e]
            obtain ⟨j, rfl⟩ : ∃ j, i = j + 1 := ⟨i - 1, by omega⟩
            exact pk_m1 j
        rw [f_X1_mark_99, sn21 hs, gdI_nI (by omega) (by decide), nI_clamp (by omega), lg, e1]
        exact ⟨g2, gd2, r1, x1.tr r2, r3⟩
      have m80 : ¬ gdP A F p m one two q len (ord i) → ∃ (g' : G) (gd' : Nat → Nat), f_X1_mark_80 (f_X1_mark_16 fu) 16 2 one two (nI (Lp A F p m one two (q 0))) (nI i) (nI (ord i)) g = some ((), g') ∧ Fi [21] g g' ∧ (∀ v, v < n → gI g' 21 v = nI (gd' v) ∧ gd' v ≤ 1) ∧ ∀ v, v < n → (gd' v = 1 ↔ gdP A F p m one two q len v) := fun h => by
        rw [f_X1_mark_80, f_X1_mark_81, md16_7 hs, if_pos rfl, gk21 hs]
        exact fin 0 (by decide) ⟨fun u => (by cases u), fun u => absurd u h⟩
      rw [if_neg (Nat.succ_ne_zero i), show i + 1 - 1 = i from rfl, if_neg (nI_pos (by omega)), md16_3 hs, gk19 hs, sn19 hs, gdI_nI (by omega) (by decide), nI_clamp (by omega), h19 i (by omega), li, md16_1 hs, gk17 hs, sn17 hs, gdI_nI (by omega) (by decide), nI_clamp (by omega), h17 _ oi]
      by_cases y : len (ord i) = Lp A F p m one two (q 0)
      · rw [if_pos (by rw [y]), c_fits (Or.inl rfl) hs hG.1 (by omega) oi (hG.2.1 _ oi).1 (stB_lt hA (hq _ oi)), bd_eq, f_X1_mark_81, md16_7 hs]
        cases hf : fitB (q (ord i)) one two with
        | true =>
          rw [ibT, gk21 hs]
          refine fin 1 (by decide) ⟨fun _ => ?_, fun _ => rfl⟩
          have l0 := (LS_0 (m := m) (ch := 1) hA hsp one two (hq _ oi)).mpr hf
          refine ⟨by omega, ?_⟩
          have : Lp A F p m one two (q (ord i)) = 0 := by
            unfold Lp
            rw [l0]
          omega
        | false =>
          rw [ibF, gk21 hs]
          refine fin 0 (by decide) ⟨fun u => (by cases u), fun u => ?_⟩
          exfalso
          have e0 : Lp A F p m one two (q (ord i)) = 0 := by
            have := u.2
            omega
          have l0 : (LSf A F p m 1 one two) (q (ord i)) = 0 := by
            unfold Lp at e0
            omega
          have := (LS_0 (m := m) (ch := 1) hA hsp one two (hq _ oi)).mp l0
          rw [hf] at this
          cases this
      · rw [if_neg (fun u => y ((nI_eq (by omega) (by omega)).mp u))]
        by_cases w : Lp A F p m one two (q 0) ≤ len (ord i)
        · rw [if_pos (nI_le w (by omega))]
          exact m80 (fun u => by
            have := u.2
            omega)
        · have wlt := Nat.lt_of_not_le w
          rw [if_neg (nI_ge wlt (by omega)), c_firstOn hs hB hG hN hn hD hC hw hgd oi, bd_eq]
          have later : ∀ l t, l < 8 → (nxI (nxS A F p m) q n) (ord i) l = some t → len (ord i) + (wtI A F p m q n) (ord i) l = len t → (gd t = 1 ↔ gdP A F p m one two q len t) := fun l t hl hx e => by
            obtain ⟨o1, o2⟩ := nxI_o hB oi hl hx
            obtain ⟨j, j1, j2⟩ := hD.2.2.1 t o1
            rw [wtI_s oi o2] at e
            rcases Nat.lt_or_ge i j with u | u
            · rw [← j2]
              exact hok j u j1
            · exfalso
              have : len (ord j) ≤ len (ord i) := by
                rcases Nat.eq_or_lt_of_le u with v | v
                · rw [v]
                  exact Nat.le_refl _
                · exact hD.2.2.2.2.2.2.1 j i v (by omega)
              rw [j2] at this
              omega
          by_cases v : fstB (lnB (nxI (nxS A F p m) q n) (wtI A F p m q n) len gd (ord i)) 8 < 8
          · rw [if_pos v, if_neg (nI_ne1 (by omega)), f_X1_mark_81, md16_7 hs, if_neg (by decide), gk21 hs]
            refine fin 1 (by decide) ⟨fun _ => ?_, fun _ => rfl⟩
            obtain ⟨t, t1, t2, t3⟩ := lnB_iff.mp (fst_ok _ 8 v)
            exact good_of hA hsp hB hq hD oi v t1 ((later _ t v t1 t3).mp t2) t3
          · rw [if_neg v, if_pos rfl]
            refine m80 (fun u => v ?_)
            have p0 : 0 < (LSf A F p m 1 one two) (q (ord i)) := by
              rcases Nat.eq_zero_or_pos ((LSf A F p m 1 one two) (q (ord i))) with a | a
              · exfalso
                have e0 : Lp A F p m one two (q (ord i)) = 0 := by
                  unfold Lp
                  rw [a]
                have := u.2
                omega
              · exact a
            obtain ⟨l, t, l1, l2, l3⟩ := good_ex hA hsp hB oi u p0
            obtain ⟨a1, a2⟩ := (good_on hA hsp hB hq hD oi l1 l2 u).mpr l3
            exact fst_lt l1 (lnB_iff.mpr ⟨t, l2, (later l t l1 l2 a2).mpr a1, a2⟩)
theorem c_lt52 (hA : Dm A) (hsp : sp A p ≤ 10) (hB : BF (nxS A F p m) q pa la dp n n 0) (hq : ∀ i, i < n → stB A F p (q i) = true) (hn : n ≤ 232) (hD : DF (nxI (nxS A F p m) q n) (wtI A F p m q n) n len ord) (hF : (LSf A F p m 1 one two) (q 0) < 1073741824) {gd : Nat → Nat} (hs : Sh g) (hG : GRw g 2 n q pa la dp) (hN : GNx (nxS A F p m) g 2 n q n 0) (hC : CHr (nxI (nxS A F p m) q n) (wtI A F p m q n) g n len ord) (hgd : ∀ v, v < n → gI g 21 v = nI (gd v) ∧ gd v ≤ 1) (hok : ∀ v, v < n → (gd v = 1 ↔ gdP A F p m one two q len v)) {i : Nat} (hi : i < (LSf A F p m 1 one two) (q 0) % 10000) : ∀ fu k s (l7 : Int32), k ≤ i + 1 → s < n → q s = (gS (nxS A F p m) (wS A F p m 1) (LSf A F p m 1 one two) (q 0)) k → gdP A F p m one two q len s → (k = i + 1 → l7 = nI ((gQ (nxS A F p m) (wS A F p m 1) (LSf A F p m 1 one two) (q 0)) i)) → i + 1 < fu + k → f_X1_leadTo_52 fu 16 2 (nI i) (nI s) l7 (nI k) g = some (nI ((gQ (nxS A F p m) (wS A F p m 1) (LSf A F p m 1 one two) (q 0)) i), g) := by
  have hw := wtI_le (m := m) hA hq
  have sq := ch_seq (one := one) (two := two) (m := m) hA hsp (hq 0 hB.1.1) hF
  have i232 : i < 232 := by
    obtain ⟨c, k, d1, d2, -⟩ := L1_dec hA hF
    omega
  intro fu
  induction fu with
  | zero => intro k s l7 _ _ _ _ _ h; omega
  | succ fu ih =>
    intro k s l7 hk hsn hqs hg h7 hf
    rw [f_X1_leadTo_52]
    rcases Nat.eq_or_lt_of_le hk with z | z
    · rw [if_pos (nI_lt (by omega) (by omega)), h7 z]
    · obtain ⟨a1, a2, a3, a4, a5, a6, a7⟩ := sq.1 k (by omega)
      have same : ∀ l, l < 8 → lnB (nxI (nxS A F p m) q n) (wtI A F p m q n) len gd s l = onB (nxS A F p m) (wS A F p m 1) (LSf A F p m 1 one two) ((gS (nxS A F p m) (wS A F p m 1) (LSf A F p m 1 one two) (q 0)) k) l := fun l hl => by
        rw [Bool.eq_iff_iff, lnB_iff, onB_iff]
        constructor
        · rintro ⟨t, t1, t2, t3⟩
          obtain ⟨o1, o2⟩ := nxI_o hB hsn hl t1
          rw [← hqs]
          exact ⟨q t, o2, (good_on hA hsp hB hq hD hsn hl t1 hg).mp ⟨(hok t o1).mp t2, t3⟩⟩
        · rintro ⟨y, y1, y2⟩
          rw [← hqs] at y1 y2
          obtain ⟨j, j1, j2, -⟩ := hB.ed (Or.inl hsn) hsn hl y1
          subst j2
          have hx := nxI_s hB.2.1 j1 y1
          obtain ⟨b1, b2⟩ := (good_on hA hsp hB hq hD hsn hl hx hg).mpr y2
          exact ⟨j, hx, (hok j j1).mpr b1, b2⟩
      have fe : fstB (lnB (nxI (nxS A F p m) q n) (wtI A F p m q n) len gd s) 8 = (gQ (nxS A F p m) (wS A F p m 1) (LSf A F p m 1 one two) (q 0)) k := by
        refine fst_eq a4 ?_ (fun j hj => ?_)
        · rw [same _ a4]
          exact fst_ok _ 8 a4
        · rw [same j (by omega)]
          exact fst_no _ 8 j hj
      have a5' := a5
      rw [← hqs] at a5'
      obtain ⟨j, j1, j2, -⟩ := hB.ed (Or.inl hsn) hsn a4 a5'
      have hx : (nxI (nxS A F p m) q n) s ((gQ (nxS A F p m) (wS A F p m 1) (LSf A F p m 1 one two) (q 0)) k) = some j := nxI_s hB.2.1 j1 (by rw [j2]; exact a5')
      have gj := ((good_on hA hsp hB hq hD hsn a4 hx hg).mpr (by rw [j2, hqs]; exact a6)).1
      rw [if_neg (nI_nlt (by omega) (by omega)), if_neg (lnge256 (by omega)), c_has hG.1 (by omega) (by omega), bd_eq, decide_eq_true hsn, ibT, c_firstOn hs hB hG hN hn hD hC hw hgd hsn, bd_eq, fe, if_pos a4, c_nextOf (Or.inl rfl) hs hB hG hN hn hsn a4, bd_eq, hx, show oI (some j) = nI j from rfl, lad1]
      exact ih (k + 1) j _ (by omega) j1 j2 gj (fun e => by rw [show k = i by omega]) (by omega)
theorem c_leadTo (hA : Dm A) (hsp : sp A p ≤ 10) (hB : BF (nxS A F p m) q pa la dp n n 0) (hq : ∀ i, i < n → stB A F p (q i) = true) (hn : n ≤ 232) (hD : DF (nxI (nxS A F p m) q n) (wtI A F p m q n) n len ord) (hs : Sh g) (hG : GRw g 2 n q pa la dp) (hN : GNx (nxS A F p m) g 2 n q n 0) (hC : CHr (nxI (nxS A F p m) q n) (wtI A F p m q n) g n len ord) {i : Nat} (hi : i < 2 ^ 31) (one two : Int32) : ∃ g', f_X1_leadTo 16 2 one two (nI i) g = some (if (LSf A F p m 1 one two) (q 0) = 1073741824 then -1 else if i < (LSf A F p m 1 one two) (q 0) % 10000 then nI ((gQ (nxS A F p m) (wS A F p m 1) (LSf A F p m 1 one two) (q 0)) i) else -1, g') ∧ Fi [21] g g' := by
  rw [f_X1_leadTo]
  rcases c_lengthTo hs hG hn (fun i hi => stB_lt hA (hq i hi)) hD hC one two with ⟨e, e1, e2, e3, e4⟩ | ⟨e1, e2⟩
  · obtain ⟨l1, l2⟩ := chp_found hA hsp hB hq hD e1 e2 e3
    obtain ⟨p1, p2, p3⟩ := Lp_lt hA l1
    have ll := hD.2.2.2.2.2.2.2 _ (hD.1 e e1)
    obtain ⟨c, k, d1, d2, -⟩ := L1_dec hA l1
    rw [e4, bd_eq, ← l2, lFC, if_neg (fun u => by
      have := (nI_eq (by omega) (by decide)).mp u
      omega), if_neg (nI_pos hi), ldi1024 (by omega), lmo1024, p3, if_neg (show ¬ (LSf A F p m 1 one two) (q 0) = 1073741824 by omega)]
    by_cases z : i < (LSf A F p m 1 one two) (q 0) % 10000
    · rw [if_pos (nI_lt z (by omega)), if_pos z, f_X1_mark, md16_7 hs, gk21 hs]
      obtain ⟨g1, f1, f2, f3, f4⟩ := c_fill (g := g) (a := 21) (len := 256) (by decide) (sn21 hs) 0
      have hs1 := Sh.fi f2 hs
      have hG1 := hG.fi f2 (fun k hk u => by simp at u; omega)
      have hN1 := hN.fi f2 (fun k hk u => by simp at u; omega)
      have hC1 := hC.fi f2 (by decide) (by decide) (by decide) (by decide)
      have n0 := hB.1.1
      obtain ⟨g2, gd, m1, m2, m3, m4⟩ := c_mark16 hA hsp hB hq hn hD l1 FU n g1 (fun _ => 0) hs1 hG1 hN1 hC1 (fun v hv => ⟨by rw [f4 v (by omega)]; rfl, by decide⟩) (fun j h1 h2 => by omega) (Nat.le_refl _) (FU_gt (by omega))
      rw [if_neg (by omega)] at m1
      rw [f1, bd_eq, hC1.1, lsu1 (by omega), li, m1, bd_eq]
      have g0 : gdP A F p m one two q len 0 := ⟨l1, by rw [hD.2.2.2.1]; omega⟩
      refine ⟨g2, ?_, f2.tr m2⟩
      exact c_lt52 hA hsp hB hq hn hD l1 (Sh.fi m2 hs1) (hG1.fi m2 (fun k hk u => by simp at u; omega)) (hN1.fi m2 (fun k hk u => by simp at u; omega)) (hC1.fi m2 (by decide) (by decide) (by decide) (by decide)) m3 m4 z FU 0 0 (-1) (by omega) n0 rfl g0 (fun u => by omega) (by have := @FU_gt 10001 (by decide); omega)
    · rw [if_neg (nI_nlt (by omega) (by omega)), if_neg z]
      exact ⟨g, rfl, Fi.rf⟩
  · rw [e2, bd_eq, lFC, if_pos rfl, chp_none hA hsp hB hq hD e1, if_pos rfl]
    exact ⟨g, rfl, Fi.rf⟩
theorem c_costTo (hA : Dm A) (hsp : sp A p ≤ 10) (hB : BF (nxS A F p m) q pa la dp n n 0) (hq : ∀ i, i < n → stB A F p (q i) = true) (hn : n ≤ 232) (hD : DF (nxI (nxS A F p m) q n) (wtI A F p m q n) n len ord) (hs : Sh g) (hG : GRw g 2 n q pa la dp) (hC : CHr (nxI (nxS A F p m) q n) (wtI A F p m q n) g n len ord) (one two : Int32) : f_X1_costTo 16 2 one two g = some (if (LSf A F p m 1 one two) (q 0) = 1073741824 then -1 else nI ((LSf A F p m 1 one two) (q 0) / 10000), g) := by
  rw [f_X1_costTo]
  rcases c_lengthTo hs hG hn (fun i hi => stB_lt hA (hq i hi)) hD hC one two with ⟨e, e1, e2, e3, e4⟩ | ⟨e1, e2⟩
  · obtain ⟨l1, l2⟩ := chp_found hA hsp hB hq hD e1 e2 e3
    obtain ⟨p1, p2, p3⟩ := Lp_lt hA l1
    rw [e4, bd_eq, ← l2, lFC, if_neg (fun u => by
      have := (nI_eq (by omega) (by decide)).mp u
      omega), ldi1024 (by omega), p2, if_neg (show ¬ (LSf A F p m 1 one two) (q 0) = 1073741824 by omega)]
  · rw [e2, bd_eq, lFC, if_pos rfl, chp_none hA hsp hB hq hD e1, if_pos rfl]
end CHQ
