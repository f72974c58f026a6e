/-! THE CLASS'S ODDS. -/
section ODC
variable {A : Nat → Int32} {g g' : G} {n : Nat} {q pa la dp : Nat → Nat} {N : Nat → Nat → Option Nat}
def OR (g : G) (a n : Nat) (f : Nat → Nat) : Prop := ∀ i, i < n → gL g a i = lN (f i)
def So : List Nat := [35, 37, 38]
theorem lN_z {x : Nat} (h : x < 2 ^ 63) : (lN x = 0) ↔ x = 0 := pk_lEQ (b := 0) h (by decide)
theorem c_go84 (hB : BF N q pa la dp n n 0) (hn : n ≤ 232) {i a : Nat} (hi : i < n) (ha : a = 37 ∨ a = 38) {f0 : Nat → Nat} {w : Nat} : ∀ fu l g, Sh g → GRw g 2 n q pa la dp → GNx N g 2 n q n 0 → OR g a n (fun t => f0 t + w * ldN (nxI N q n) i t l) → l ≤ 8 → 8 < fu + l → ∃ g', f_X6_goOnFrom_84 fu 2 (nI i) a (lN w) (nI l) g = some ((), g') ∧ Fi [a] g g' ∧ gI g' = gI g ∧ OR g' a n (fun t => f0 t + w * ldN (nxI N q n) i t 8) := by
  have no : ∀ k, k ≤ 6 → 2 + k ∉ [a] := fun k hk u => by
    have := List.mem_singleton.mp u
    omega
  intro fu
  induction fu with
  | zero => intro l g _ _ _ _ _ h; omega
  | succ fu ih =>
    intro l g hs hG hN hO hl hf
    have gn : gN g a = 256 := by
      rcases ha with e | e
      · rw [e]; exact sn37 hs
      · rw [e]; exact sn38 hs
    rw [f_X6_goOnFrom_84]
    rcases Nat.lt_or_ge l 8 with z | z
    · rw [if_neg (lnge8 z), c_nextOf (Or.inl rfl) hs hB hG hN hn hi z, bd_eq]
      cases hx : (nxI N q n) i l with
      | none =>
        rw [show oI none = -1 from rfl, c_has1, bd_eq, ibF, f_X6_goOnFrom_119, lad1]
        refine ih (l + 1) g hs hG hN (fun t ht => ?_) (by omega) (by omega)
        rw [hO t ht]
        have : ldN (nxI N q n) i t (l + 1) = ldN (nxI N q n) i t l := by
          show ldN (nxI N q n) i t l + (if (nxI N q n) i l = some t then 1 else 0) = _
          rw [hx, if_neg (by intro u; cases u), Nat.add_zero]
        dsimp only
        rw [this]
      | some y =>
        obtain ⟨o1, -⟩ := nxI_o hB hi z hx
        have x1 : Fi [a] g (sL g a y (gL g a y + lN w)) := Fi.rf.sl (List.mem_singleton.mpr rfl)
        rw [show oI (some y) = nI y from rfl, c_has hG.1 (by omega) (by omega), bd_eq, decide_eq_true o1, ibT, gn, gdI_nI (by omega) (by decide), nI_clamp (by omega), lg, f_X6_goOnFrom_119, lad1]
        obtain ⟨g2, e1, e2, e3, e4⟩ := ih (l + 1) _ (Sh.fi x1 hs) (hG.fi x1 no) (hN.fi x1 no) (fun t ht => by
          rw [gL_sLs]
          have ls : ldN (nxI N q n) i t (l + 1) = ldN (nxI N q n) i t l + (if (nxI N q n) i l = some t then 1 else 0) := rfl
          by_cases e : t = y
          · rw [e, pk_uLs, hO y o1, lNa]
            congr 1
            rw [e] at ls
            rw [hx, if_pos rfl] at ls
            dsimp only
            rw [ls, Nat.mul_add]
            omega
          · rw [pk_uLn e, hO t ht]
            dsimp only
            rw [ls, hx, if_neg (fun u => e (Option.some.inj u).symm), Nat.add_zero]) (by omega) (by omega)
        exact ⟨g2, e1, x1.tr e2, e3, e4⟩
    · have e8 : l = 8 := by omega
      subst e8
      rw [if_pos (lle8 (by decide) (by decide))]
      exact ⟨g, rfl, Fi.rf, rfl, hO⟩
theorem c_go6 (hB : BF N q pa la dp n n 0) (hn : n ≤ 232) {i a : Nat} (hi : i < n) (ha : a = 37 ∨ a = 38) {f0 : Nat → Nat} {num sh : Nat} (hsh : sh = 0 ∨ sh = 840) (hs : Sh g) (hG : GRw g 2 n q pa la dp) (hN : GNx N g 2 n q n 0) (hO : OR g a n f0) : ∀ fu l, l ≤ 8 → 8 < fu + l → ∃ g', f_X6_goOnFrom_6 fu 2 (nI i) (lN num) (lN sh) a (nI (canN (nxI N q n) i l)) (nI l) g = some ((), g') ∧ Fi [a] g g' ∧ gI g' = gI g ∧ OR g' a n (fun t => f0 t + num * cbV (nxI N q n) sh i t) := by
  have gn : gN g a = 256 := by
    rcases ha with e | e
    · rw [e]; exact sn37 hs
    · rw [e]; exact sn38 hs
  intro fu
  induction fu with
  | zero => intro l _ h; omega
  | succ fu ih =>
    intro l hl hf
    rw [f_X6_goOnFrom_6]
    rcases Nat.lt_or_ge l 8 with z | z
    · have i' := ih (l + 1) (by omega) (by omega)
      have cs : canN (nxI N q n) i (l + 1) = canN (nxI N q n) i l + (if (nxI N q n) i l = none then 0 else 1) := rfl
      rw [cs] at i'
      rw [if_neg (lnge8 z), c_nextOf (Or.inl rfl) hs hB hG hN hn hi z, bd_eq]
      cases hx : (nxI N q n) i l with
      | none =>
        rw [hx, if_pos rfl] at i'
        rw [show oI none = -1 from rfl, c_has1, bd_eq, ibF, f_X6_goOnFrom_34, show (0 : Int32) = nI 0 from rfl, nI_add, li, lad1]
        exact i'
      | some y =>
        obtain ⟨o1, -⟩ := nxI_o hB hi z hx
        rw [hx, if_neg (by intro u; cases u)] at i'
        rw [show oI (some y) = nI y from rfl, c_has hG.1 (by omega) (by omega), bd_eq, decide_eq_true o1, ibT, f_X6_goOnFrom_34, lad1, li, lad1]
        exact i'
    · have e8 : l = 8 := by omega
      subst e8
      have cl := canN_le (N := (nxI N q n)) i 8
      rw [if_pos (lle8 (by decide) (by decide))]
      by_cases c0 : canN (nxI N q n) i 8 = 0
      · have x1 : Fi [a] g (sL g a i (gL g a i + lN num * lN sh)) := Fi.rf.sl (List.mem_singleton.mpr rfl)
        rw [c0, if_pos (show nI 0 = 0 from rfl), gn, gdI_nI (by omega) (by decide), nI_clamp (by omega), lg]
        refine ⟨_, rfl, x1, rfl, fun t ht => ?_⟩
        rw [gL_sLs]
        unfold cbV
        dsimp only
        rw [c0, if_pos rfl]
        by_cases e : t = i
        · rw [e, pk_uLs, hO i hi, lNm, lNa, if_pos rfl]
        · rw [pk_uLn e, hO t ht, if_neg e, Nat.mul_zero]
          rfl
      · have c1 : 0 < canN (nxI N q n) i 8 := by omega
        have fin : ∀ w, w = num * shN (nxI N q n) sh i → ∃ g', f_X6_goOnFrom_79 2 (nI i) a (lN w) g = some ((), g') ∧ Fi [a] g g' ∧ gI g' = gI g ∧ OR g' a n (fun t => f0 t + num * cbV (nxI N q n) sh i t) := fun w hw => by
          obtain ⟨g2, e1, e2, e3, e4⟩ := c_go84 hB hn hi ha (f0 := f0) (w := w) FU 0 g hs hG hN (fun t ht => by
            rw [hO t ht]
            congr 1) (by decide) (by have := @FU_gt 8 (by decide); omega)
          refine ⟨g2, e1, e2, e3, fun t ht => ?_⟩
          rw [e4 t ht]
          congr 1
          unfold cbV
          dsimp only
          rw [if_neg c0, hw, Nat.mul_assoc]
        rw [if_neg (nI_ne0 c1 (by omega)), i0l]
        rcases hsh with e | e
        · rw [e, if_pos (show lN 0 = 0 from rfl)]
          rw [e] at fin
          exact fin num (by unfold shN; rw [if_pos rfl, Nat.mul_one])
        · rw [e, if_neg (by decide), nI_l (by omega), gdZl_pos (fun u => c0 ((lN_z (by omega)).mp u)), pk_lDiv (by decide) c1 (by omega), lNm]
          rw [e] at fin
          exact fin _ (by unfold shN; rw [if_neg (by decide)])
/-- the numbers now -/
def OD (g : G) (n : Nat) (f : Nat → Nat) : Prop := ∃ w, w < 2 ∧ gI g 35 1 = nI w ∧ OR g (37 + w) n f
theorem c_go32 (hB : BF N q pa la dp n n 0) (hn : n ≤ 232) {f : Nat → Nat} (hf : ∀ i, i < n → f i < 2 ^ 63) {w sh b : Nat} (hw : w < 2) (hsh : sh = 0 ∧ b = 0 ∨ sh = 840 ∧ b = 1) : ∀ fu s g, Sh g → GRw g 2 n q pa la dp → GNx N g 2 n q n 0 → gI g 35 1 = nI w → OR g (37 + w) n f → OR g (37 + (1 - w)) n (fun t => sumN (fun i => f i * cbV (nxI N q n) sh i t) s) → s ≤ n → n < fu + s → ∃ g', f_X6_goOn_32 fu 35 2 (nI b) (37 + w) (37 + (1 - w)) (nI s) g = some ((), g') ∧ Fi So g g' ∧ OD g' n (nxV (nxI N q n) sh n f) := by
  have nw : 37 + w ≠ 37 + (1 - w) := by omega
  intro fu
  induction fu with
  | zero => intro s g _ _ _ _ _ _ _ h; omega
  | succ fu ih =>
    intro s g hs hG hN hnow hO hT hl hfu
    have gn : gN g (37 + w) = 256 := by
      obtain rfl | rfl : w = 0 ∨ w = 1 := by omega
      · exact sn37 hs
      · exact sn38 hs
    rw [f_X6_goOn_32, hG.1]
    rcases Nat.lt_or_ge s n with z | z
    · rw [if_neg (nI_ge z (by omega)), if_neg (lnge256 (by omega)), gn, gdI_nI (by omega) (by decide), nI_clamp (by omega), hO s z, i0l]
      by_cases f0 : f s = 0
      · rw [f0, if_pos (show lN 0 = 0 from rfl), f_X6_goOn_81, lad1]
        refine ih (s + 1) g hs hG hN hnow hO (fun t ht => ?_) (by omega) (by omega)
        rw [hT t ht]
        dsimp only
        rw [sN_s, f0, Nat.zero_mul, Nat.add_zero]
      · rw [if_neg (fun u => f0 ((lN_z (hf s z)).mp u))]
        have c76 : ∃ g', f_X6_goOn_76 (f_X6_goOn_32 fu) 35 2 (nI b) (37 + w) (37 + (1 - w)) (nI s) (lN sh) (lN (f s)) (nI s) 2 g = some ((), g') ∧ Fi So g g' ∧ OD g' n (nxV (nxI N q n) sh n f) := by
          obtain ⟨g2, e1, e2, e3, e4⟩ := c_go6 hB hn z (a := 37 + (1 - w)) (by omega) (num := f s) (sh := sh) (by omega) hs hG hN hT FU 0 (by decide) (by have := @FU_gt 8 (by decide); omega)
          have so : Fi So g g2 := e2.mono (fun a ha => by
            rw [List.mem_singleton.mp ha]
            obtain rfl | rfl : w = 0 ∨ w = 1 := by omega
            · decide
            · decide)
          have no : ∀ k, k ≤ 6 → 2 + k ∉ [37 + (1 - w)] := fun k hk u => by
            have := List.mem_singleton.mp u
            omega
          rw [f_X6_goOn_76, f_X6_goOnFrom, show (0 : Int32) = nI 0 from rfl]
          have e1' : f_X6_goOnFrom_6 FU 2 (nI s) (lN (f s)) (lN sh) (37 + (1 - w)) (nI 0) (nI 0) g = some ((), g2) := e1
          rw [e1', bd_eq, f_X6_goOn_81, lad1]
          obtain ⟨g3, d1, d2, d3⟩ := ih (s + 1) g2 (Sh.fi e2 hs) (hG.fi e2 no) (hN.fi e2 no) (by rw [e3]; exact hnow) (fun i hi => by
            rw [e2.L (fun u => nw (List.mem_singleton.mp u))]
            exact hO i hi) (fun t ht => by rw [e4 t ht]; rfl) (by omega) (by omega)
          exact ⟨g3, d1, so.tr d2, d3⟩
        rcases hsh with ⟨e, eb⟩ | ⟨e, eb⟩
        · rw [eb, if_pos (show nI 0 = 0 from rfl)]
          rw [e, eb] at c76
          exact (by rw [e]; exact c76)
        · rw [eb, if_neg (by decide)]
          rw [e, eb] at c76
          exact (by rw [e]; exact c76)
    · have e : s = n := by omega
      subst e
      rw [if_pos (nI_le z (by omega)), f_X6_goOn_87, hnow, nI_sub1 hw, lg]
      refine ⟨_, rfl, Fi.rf.si (by decide), 1 - w, by omega, by rw [gI_sIs]; exact pk_us, hT⟩
theorem c_goOn (hB : BF N q pa la dp n n 0) (hn : n ≤ 232) {f : Nat → Nat} (hf : ∀ i, i < n → f i < 2 ^ 63) {sh b : Nat} (hsh : sh = 0 ∧ b = 0 ∨ sh = 840 ∧ b = 1) (hs : Sh g) (hG : GRw g 2 n q pa la dp) (hN : GNx N g 2 n q n 0) (h : OD g n f) : ∃ g', f_X6_goOn 35 2 (nI b) g = some ((), g') ∧ Fi So g g' ∧ OD g' n (nxV (nxI N q n) sh n f) := by
  obtain ⟨w, w2, h1, h2⟩ := h
  have dk : ∀ g, Sh g → ∀ k (x : Option (Unit × G)), k < 2 → gdK g (37 + k) 15 x = x ∧ gN g (37 + k) = 256 := fun g hs k x hk => by
    obtain rfl | rfl : k = 0 ∨ k = 1 := by omega
    · exact ⟨gk37 hs, sn37 hs⟩
    · exact ⟨gk38 hs, sn38 hs⟩
  have dr36 : ∀ k (f : Nat → Option (Unit × G)), k < 2 → dr (gR g 36 k) f = f (37 + k) := fun k f hk => by
    obtain rfl | rfl : k = 0 ∨ k = 1 := by omega
    · exact md36_0 hs f
    · exact md36_1 hs f
  obtain ⟨g1, e1, e2, e3, e4⟩ := c_fillL (g := g) (a := 37 + (1 - w)) (len := 256) (by decide) (dk g hs (1 - w) none (by omega)).2 0
  have hs1 := Sh.fi e2 hs
  have no : ∀ k, k ≤ 6 → 2 + k ∉ [37 + (1 - w)] := fun k hk u => by
    have := List.mem_singleton.mp u
    omega
  obtain ⟨g2, d1, d2, d3⟩ := c_go32 hB hn hf (w := w) (b := b) w2 hsh FU 0 g1 hs1 (hG.fi e2 no) (hN.fi e2 no) (by rw [e3]; exact h1) (fun i hi => by
    rw [e2.L (fun u => by have := List.mem_singleton.mp u; omega)]
    exact h2 i hi) (fun t ht => e4 t (by omega)) (Nat.zero_le _) (by have := @FU_gt n (by omega); omega)
  have so : Fi So g g1 := e2.mono (fun a ha => by
    rw [List.mem_singleton.mp ha]
    obtain rfl | rfl : w = 0 ∨ w = 1 := by omega
    · decide
    · decide)
  rw [f_X6_goOn, md35_0 hs, gk36 hs, sn36 hs, h1, gdI_nI w2 (by decide), nI_clamp (by omega), nI_sub1 w2, dr36 w _ w2, gdI_nI (by omega) (by decide), nI_clamp (by omega), dr36 (1 - w) _ (by omega), (dk g hs (1 - w) _ (by omega)).1, e1, bd_eq, (dk g1 hs1 w _ w2).1, show (0 : Int32) = nI 0 from rfl, d1]
  exact ⟨g2, rfl, so.tr d2, d3⟩
theorem c_start (hs : Sh g) (hn : n ≤ 232) : ∃ g', f_X6_start 35 g = some ((), g') ∧ Fi So g g' ∧ OD g' n (dlt 0) := by
  have x1 : Fi So g (sI g 35 1 (nI 0)) := Fi.rf.si (by decide)
  have hs1 := Sh.fi x1 hs
  obtain ⟨g2, e1, e2, e3, e4⟩ := c_fillL (g := sI g 35 1 (nI 0)) (a := 37) (len := 256) (by decide) (sn37 hs1) 0
  have hs2 := Sh.fi e2 hs1
  rw [f_X6_start, show (0 : Int32) = nI 0 from rfl, lg, md35_0 hs1, gk36 hs1, sn36 hs1, gdI_nI (by decide) (by decide), nI_clamp (by decide), md36_0 hs1, gk37 hs1, e1, bd_eq, md35_0 hs2, gk36 hs2, sn36 hs2, gdI_nI (by decide) (by decide), md36_0 hs2, gk37 hs2, sn37 hs2, gdI_nI (by decide) (by decide), lg]
  refine ⟨_, rfl, (x1.tr (e2.mono (by decide))).sl (by decide), 0, by decide, ?_, fun i hi => ?_⟩
  · show gI (sL g2 37 0 1) 35 1 = nI 0
    rw [gI_sL, e3, gI_sIs]
    exact pk_us
  · show gL (sL g2 37 0 1) 37 i = lN (dlt 0 i)
    rw [gL_sLs]
    unfold dlt
    by_cases e : i = 0
    · rw [e, pk_uLs, if_pos rfl]
      rfl
    · rw [pk_uLn e, e4 i (by omega), if_neg e]
      rfl
theorem c_sum6 (hs : Sh g) (hG : GRw g 2 n q pa la dp) (hn : n ≤ 232) (hq : ∀ i, i < n → q i < 1296) {f : Nat → Nat} (h : OD g n f) (one two : Int32) : ∀ fu k, k ≤ n → n < fu + k → f_X6_sumAt_6 fu 35 2 one two (lN (sumN (fun i => if fitB (q i) one two = true then f i else 0) k)) (nI k) g = some (lN (sumN (fun i => if fitB (q i) one two = true then f i else 0) n), g) := by
  obtain ⟨w, w2, h1, h2⟩ := h
  intro fu
  induction fu with
  | zero => intro k _ h; omega
  | succ fu ih =>
    intro k hk hf
    rw [f_X6_sumAt_6, hG.1]
    rcases Nat.lt_or_ge k n with z | z
    · have i := ih (k + 1) (by omega) (by omega)
      rw [sN_s] at i
      rw [if_neg (nI_ge z (by omega)), if_neg (lnge256 (by omega)), c_fits (Or.inl rfl) hs hG.1 (by omega) z (hG.2.1 k z).1 (hq k z), bd_eq]
      cases hf : fitB (q k) one two with
      | false =>
        rw [hf, if_neg (by decide)] at i
        rw [ibF, f_X6_sumAt_52, show (0 : Int64) = lN 0 from rfl, lNa, ll, lad1]
        exact i
      | true =>
        rw [hf, if_pos rfl] at i
        have d36 : ∀ (F : Nat → Option (Int64 × G)), dr (gR g 36 w) F = F (37 + w) := fun F => by
          obtain rfl | rfl : w = 0 ∨ w = 1 := by omega
          · exact md36_0 hs F
          · exact md36_1 hs F
        have dk : ∀ (x : Option (Int64 × G)), gdK g (37 + w) 15 x = x := fun x => by
          obtain rfl | rfl : w = 0 ∨ w = 1 := by omega
          · exact gk37 hs
          · exact gk38 hs
        have dn : gN g (37 + w) = 256 := by
          obtain rfl | rfl : w = 0 ∨ w = 1 := by omega
          · exact sn37 hs
          · exact sn38 hs
        rw [ibT, md35_0 hs, gk36 hs, sn36 hs, h1, gdI_nI w2 (by decide), nI_clamp (by omega), d36, dk, dn, gdI_nI (by omega) (by decide), nI_clamp (by omega), h2 k z, f_X6_sumAt_52, lNa, ll, lad1]
        exact i
    · have e : k = n := by omega
      subst e
      rw [if_pos (nI_le z (by omega)), f_X6_sumAt_61]
theorem c_sumAt (hs : Sh g) (hG : GRw g 2 n q pa la dp) (hn : n ≤ 232) (hq : ∀ i, i < n → q i < 1296) {f : Nat → Nat} (h : OD g n f) (one two : Int32) : f_X6_sumAt 35 2 one two g = some (lN (sumN (fun i => if fitB (q i) one two = true then f i else 0) n), g) := c_sum6 hs hG hn hq h one two FU 0 (Nat.zero_le _) (by have := @FU_gt n (by omega); omega)
/-! the cell in which a twin is most -/
def gtW (f : Nat → Nat) : Nat → Nat
  | 0 => 0
  | k + 1 => if f (gtW f k) < f (k + 1) then k + 1 else gtW f k
theorem gtW_le (f : Nat → Nat) : ∀ k, gtW f k ≤ k
  | 0 => Nat.le_refl _
  | k + 1 => by
    have := gtW_le f k
    unfold gtW
    split <;> omega
theorem c_gr77 (hs : Sh g) {f : Nat → Nat} (hf : ∀ c, c < 36 → f c < 2 ^ 63) (h39 : ∀ c, c < 36 → gL g 39 c = lN (f c)) : ∀ fu k, k < 36 → 35 < fu + k → f_X6_greatestOf_77 fu 35 (nI (gtW f k)) (nI (k + 1)) g = some (nI (gtW f 35), g) := by
  intro fu
  induction fu with
  | zero => intro k _ h; omega
  | succ fu ih =>
    intro k hk hfu
    have gl := gtW_le f k
    rw [f_X6_greatestOf_77]
    rcases Nat.lt_or_ge (k + 1) 36 with z | z
    · have i := ih (k + 1) z (by omega)
      have gs : gtW f (k + 1) = if f (gtW f k) < f (k + 1) then k + 1 else gtW f k := rfl
      rw [gs] at i
      have a1 := hf (k + 1) z
      have a2 := hf (gtW f k) (by omega)
      rw [if_neg (lnge36 z), md35_2 hs, gk39 hs, sn39 hs, gdI_nI z (by decide), gdI_nI (by omega) (by decide), nI_clamp (by omega), nI_clamp (by omega), h39 _ z, h39 _ (by omega), f_X6_greatestOf_107, f_X6_greatestOf_107, lad1]
      by_cases w : f (gtW f k) < f (k + 1)
      · rw [if_pos w] at i
        rw [if_neg (fun u => by
          rw [← Int32.not_lt, lg_cmp_gt, pk_lLT a2 a1] at u
          exact u w)]
        exact i
      · rw [if_neg w] at i
        rw [if_pos (by
          rw [← Int32.not_lt, lg_cmp_gt, pk_lLT a2 a1]
          exact w)]
        exact i
    · have e : k = 35 := by omega
      subst e
      rw [if_pos (lle36 (by decide) (by decide))]
theorem c_gr10 (hG0 : True) (hn : n ≤ 232) (hq : ∀ i, i < n → q i < 1296) {t : Nat} (ht : t < 2) {f : Nat → Nat} (hb : sumN f n < 2 ^ 63) : ∀ fu k g, Sh g → GRw g 2 n q pa la dp → OD g n f → (∀ c, c < 36 → gL g 39 c = lN (sumN (fun i => if ceI q t i = c then f i else 0) k)) → k ≤ n → n < fu + k → ∃ g', f_X6_greatestOf_10 fu 35 2 (nI t) (nI k) g = some (nI (gtW (fun c => sumN (fun i => if ceI q t i = c then f i else 0) n) 35), g') ∧ Fi [39] g g' := by
  intro fu
  induction fu with
  | zero => intro k g _ _ _ _ _ h; omega
  | succ fu ih =>
    intro k g hs hG h h39 hk hf
    rw [f_X6_greatestOf_10, hG.1]
    rcases Nat.lt_or_ge k n with z | z
    · have q1 := hq k z
      have ol : ceI q t k < 36 := by
        unfold ceI
        exact ow_lt (by omega) (by omega)
      obtain ⟨w, w2, h1, h2⟩ := id h
      have d36 : ∀ (F : Nat → Option (Int32 × G)), dr (gR g 36 w) F = F (37 + w) := fun F => by
        obtain rfl | rfl : w = 0 ∨ w = 1 := by omega
        · exact md36_0 hs F
        · exact md36_1 hs F
      have dk : ∀ (x : Option (Int32 × G)), gdK g (37 + w) 15 x = x := fun x => by
        obtain rfl | rfl : w = 0 ∨ w = 1 := by omega
        · exact gk37 hs
        · exact gk38 hs
      have dn : gN g (37 + w) = 256 := by
        obtain rfl | rfl : w = 0 ∨ w = 1 := by omega
        · exact sn37 hs
        · exact sn38 hs
      have x1 : Fi [39] g (sL g 39 (ceI q t k) (gL g 39 (ceI q t k) + gL g (37 + w) k)) := Fi.rf.sl (by decide)
      obtain ⟨g2, e1, e2⟩ := ih (k + 1) _ (Sh.fi x1 hs) (hG.fi x1 (fun j hj u => by simp at u; omega)) ⟨w, w2, h1, fun i hi => by
        rw [gL_sLn (by omega)]
        exact h2 i hi⟩ (fun c hc => by
        rw [gL_sLs, sN_s]
        by_cases e : c = ceI q t k
        · rw [e, pk_uLs, h39 _ ol, h2 k z, lNa, if_pos rfl]
        · rw [pk_uLn e, h39 c hc, if_neg (fun u => e u.symm), Nat.add_zero]) (by omega) (by omega)
      rw [if_neg (nI_ge z (by omega)), if_neg (lnge256 (by omega)), c_cellOf (Or.inl rfl) hs hG hn z q1 ht, bd_eq, show ow t (q k / 36) (q k % 36) = ceI q t k from rfl, if_neg (nI_pos (by omega)), if_neg (lnge36 ol), md35_2 hs, gk39 hs, sn39 hs, gdI_nI ol (by decide), md35_0 hs, gk36 hs, sn36 hs, h1, gdI_nI w2 (by decide), nI_clamp (show w < 2 ^ 31 by omega), d36, dk, dn, gdI_nI (by omega) (by decide), lg, nI_clamp (show ceI q t k < 2 ^ 31 by omega), nI_clamp (show k < 2 ^ 31 by omega), f_X6_greatestOf_66, lad1]
      exact ⟨g2, e1, x1.tr e2⟩
    · have e : k = n := by omega
      subst e
      rw [if_pos (nI_le z (by omega)), f_X6_greatestOf_72]
      refine ⟨g, ?_, Fi.rf⟩
      refine c_gr77 hs (f := fun c => sumN (fun i => if ceI q t i = c then f i else 0) k) (fun c hc => Nat.lt_of_le_of_lt (sN_mo (fun i hi => ?_)) hb) h39 FU 0 (by decide) (by have := @FU_gt 35 (by decide); omega)
      split <;> omega
theorem c_greatestOf (hs : Sh g) (hG : GRw g 2 n q pa la dp) (hn : n ≤ 232) (hq : ∀ i, i < n → q i < 1296) {t : Nat} (ht : t < 2) {f : Nat → Nat} (hb : sumN f n < 2 ^ 63) (h : OD g n f) : ∃ g', f_X6_greatestOf 35 2 (nI t) g = some (nI (gtW (fun c => sumN (fun i => if ceI q t i = c then f i else 0) n) 35), g') ∧ Fi [39] g g' := by
  obtain ⟨g1, e1, e2, e3, e4⟩ := c_fillL (g := g) (a := 39) (len := 36) (by decide) (sn39 hs) 0
  obtain ⟨w, w2, h1, h2⟩ := id h
  obtain ⟨g2, d1, d2⟩ := c_gr10 trivial hn hq ht hb FU 0 g1 (Sh.fi e2 hs) (hG.fi e2 (fun j hj u => by simp at u; omega)) ⟨w, w2, by rw [e3]; exact h1, fun i hi => by
    rw [e2.L (fun u => by simp at u; omega)]
    exact h2 i hi⟩ (fun c hc => by rw [e4 c hc]; rfl) (Nat.zero_le _) (by have := @FU_gt n (by omega); omega)
  rw [f_X6_greatestOf, md35_2 hs, gk39 hs, e1, bd_eq]
  exact ⟨g2, d1, e2.tr d2⟩
end ODC
