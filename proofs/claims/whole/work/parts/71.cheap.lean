/-! THE CLASS'S CHEAP: the nearest first, over the graph. -/
section CHP
variable {X : Nat → Prop} {A : Nat → Int32} {F : Nat → Bool} {p m ag : Nat} {g g' : G} {b n : Nat} {q pa la dp : Nat → Nat} {N : Nat → Nat → Option Nat}
theorem lFC : (1000000000 : Int32) = nI 1000000000 := lI 1000000000
theorem c_nextOf (hb : Gc b) (hs : Sh g) (hB : BF N q pa la dp n n 0) (hG : GRw g b n q pa la dp) (hN : GNx N g b n q n 0) (hn : n ≤ 232) {i l : Nat} (hi : i < n) (hl : l < 8) : f_X4_nextOf b (nI i) (nI l) g = some (oI (nxI N q n i l), g) := by
  rw [f_X4_nextOf, c_has hG.1 (by omega) (by omega), bd_eq, decide_eq_true hi, ibT, if_neg (nI_pos (by omega)), if_neg (lnge8 hl), g_dr hb hs (by decide) (by decide), g_gk hb hs (by decide) (by decide), g_n5 hb hs, lmu8, nI_add, gdI_nI (by omega) (by decide), nI_clamp (by omega)]
  rcases hN i l (Or.inl hi) hl with ⟨h1, h2⟩ | ⟨j, j1, j2, j3⟩
  · rw [h2, nxI_n h1]
    rfl
  · rw [j3, nxI_s hB.2.1 j1 j2]
    rfl
theorem c_next1 (e0 : gI g b 0 = nI n) (hn : n ≤ 232) {i : Nat} (hi : i < n) : f_X4_nextOf b (nI i) (-1) g = some (-1, g) := by
  rw [f_X4_nextOf, c_has e0 (by omega) (by omega), bd_eq, decide_eq_true hi, ibT, if_pos (by decide)]
/-- the rows while it goes on -/
def CR (g : G) (n : Nat) (len opn ord : Nat → Nat) (os k : Nat) : Prop := gI g 16 6 = nI os ∧ (gI g 16 4 = nI k ∧ gI g 16 0 = 1) ∧ (∀ v, v < n → gI g 17 v = nI (len v)) ∧ (∀ i, i < os → gI g 20 i = nI (opn i)) ∧ ∀ i, i < k → gI g 19 i = nI (ord i)
def CW (nx : Nat → Nat → Option Nat) (wt : Nat → Nat → Nat) (g : G) (ord : Nat → Nat) (k l0 : Nat) : Prop := ∀ i l v, i < k → l < 8 → (i + 1 < k ∨ l < l0) → nx (ord i) l = some v → gI g 18 (ord i * 8 + l) = nI (wt (ord i) l)
variable {len opn ord : Nat → Nat} {os k : Nat}
theorem c_take4 (hs : Sh g) (h6 : gI g 16 6 = nI os) (h17 : ∀ v, v < n → gI g 17 v = nI (len v)) (h20 : ∀ i, i < os → gI g 20 i = nI (opn i)) (ho : ∀ i, i < os → opn i < n) (hl : ∀ i, i < os → len (opn i) < 1000000000) (hos : os ≤ 232) (hn : n ≤ 232) : ∀ fu i a, a < i → i ≤ os → (∀ j, j < i → len (opn a) ≤ len (opn j)) → os < fu + i → ∃ a', a' < os ∧ (∀ j, j < os → len (opn a') ≤ len (opn j)) ∧ f_X1_takeNearest_4 fu 16 (nI a) (nI i) g = some (nI (opn a'), sI (sI g 16 6 (nI (os - 1))) 20 a' (nI (opn (os - 1)))) := by
  intro fu
  induction fu with
  | zero => intro i a h1 h2 h3 h4; omega
  | succ fu ih =>
    intro i a ha hi hm hf
    rw [f_X1_takeNearest_4, h6]
    rcases Nat.lt_or_ge i os with z | z
    · have oi := ho i z
      have oa := ho a (by omega)
      have li' := hl i z
      have la' := hl a (by omega)
      rw [if_neg (nI_ge z (by omega)), md16_1 hs, md16_5 hs, gk20 hs, sn20 hs, gdI_nI (by omega) (by decide), gk17 hs, sn17 hs, nI_clamp (by omega), h20 i z, gdI_nI (by omega) (by decide), gdI_nI (by omega) (by decide), nI_clamp (by omega), h20 a (by omega), gdI_nI (by omega) (by decide), nI_clamp (by omega), nI_clamp (by omega), h17 _ oi, h17 _ oa, f_X1_takeNearest_39, f_X1_takeNearest_39, lad1]
      by_cases w : len (opn a) ≤ len (opn i)
      · rw [if_pos (nI_le w (by omega))]
        exact ih (i + 1) a (by omega) z (fun j hj => by
          rcases Nat.eq_or_lt_of_le (Nat.le_of_lt_succ hj) with e | e
          · rw [e]; exact w
          · exact hm j e) (by omega)
      · rw [if_neg (nI_ge (Nat.lt_of_not_le w) (by omega))]
        exact ih (i + 1) i (by omega) z (fun j hj => by
          rcases Nat.eq_or_lt_of_le (Nat.le_of_lt_succ hj) with e | e
          · rw [e]; exact Nat.le_refl _
          · have := hm j e
            omega) (by omega)
    · have e : i = os := by omega
      subst e
      refine ⟨a, ha, hm, ?_⟩
      have c6 : gI (sI g 16 6 (nI (i - 1))) 16 6 = nI (i - 1) := by
        rw [gI_sIs]
        exact pk_us
      have c20 : gI (sI g 16 6 (nI (i - 1))) 20 (i - 1) = nI (opn (i - 1)) := by
        rw [gI_sIn (by decide)]
        exact h20 _ (by omega)
      rw [if_pos (nI_le z (by omega)), md16_5 hs, gk20 hs, sn20 hs, gdI_nI (by omega) (by decide), li, nI_clamp (by omega), lsu1 (by omega), lg, c6, gN_sI, sn20 hs, gdI_nI (by omega) (by decide), lg, nI_clamp (by omega), c20, h20 a ha]
def Sc : List Nat := [16, 17, 18, 19, 20, 69, 73, 74, 75]
theorem GRw.sc (h : GRw g 2 n q pa la dp) (x : Fi Sc g g') : GRw g' 2 n q pa la dp := h.fi x (fun k hk z => by
  simp only [Sc, List.mem_cons, List.not_mem_nil, or_false] at z
  omega)
theorem GNx.sc (h : GNx N g 2 n q n 0) (x : Fi Sc g g') : GNx N g' 2 n q n 0 := h.fi x (fun k hk z => by
  simp only [Sc, List.mem_cons, List.not_mem_nil, or_false] at z
  omega)
theorem c_rx120 (hs : Sh g) (h17 : ∀ v, v < n → gI g 17 v = nI (len v)) (hn : n ≤ 232) {s t : Nat} (hsn : s < n) (ht : t < n) (w : Nat) : f_X1_relax_120 16 (nI s) (nI t) (nI w) g = some ((), sI g 17 t (nI (len s + w))) := by
  rw [f_X1_relax_120, md16_1 hs, gk17 hs, sn17 hs, gdI_nI (by omega) (by decide), gdI_nI (by omega) (by decide), lg, nI_clamp (by omega), nI_clamp (by omega), h17 s hsn, nI_add]
/-- one lead of the stand that was settled last -/
theorem c_relax (hE : EV X A p) (hP : SP X A F p m ag g) (hB : BF (nxS A F p m) q pa la dp n n 0) (hG : GRw g 2 n q pa la dp) (hN : GNx (nxS A F p m) g 2 n q n 0) (hq : ∀ i, i < n → stB A F p (q i) = true) (hn : n ≤ 232) (hk : 0 < k) {l : Nat} (hl : l < 8) (hD : DJ (nxI (nxS A F p m) q n) (wtI A F p m q n) n len opn ord os k l) (hC : CR g n len opn ord os k) (hW : CW (nxI (nxS A F p m) q n) (wtI A F p m q n) g ord k l) : ∃ g' len' opn' os', f_X1_relax 16 2 68 (nI (ord (k - 1))) (nI l) g = some ((), g') ∧ Fi Sc g g' ∧ SP X A F p m ag g' ∧ DJ (nxI (nxS A F p m) q n) (wtI A F p m q n) n len' opn' ord os' k (l + 1) ∧ CR g' n len' opn' ord os' k ∧ CW (nxI (nxS A F p m) q n) (wtI A F p m q n) g' ord k (l + 1) := by
  have hs := hP.1.1
  have hb : Gc 2 := Or.inl rfl
  obtain ⟨so, sl⟩ := hD.1.2 (k - 1) (by omega)
  have hkn := hD.kn
  have hon := hD.on
  rw [f_X1_relax, c_nextOf hb hs hB hG hN hn so hl, bd_eq]
  cases hx : (nxI (nxS A F p m) q n) (ord (k - 1)) l with
  | none =>
    rw [show oI none = -1 from rfl, c_has1, bd_eq, ibF]
    refine ⟨g, len, opn, os, rfl, Fi.rf, hP, hD.skip (fun v hv => by rw [hx] at hv; cases hv), hC, fun i l' v h1 h2 h3 h4 => ?_⟩
    by_cases e : i = k - 1 ∧ l' = l
    · rw [e.1, e.2, hx] at h4
      cases h4
    · exact hW i l' v h1 h2 (by omega) h4
  | some t =>
    obtain ⟨o1, o2⟩ := nxI_o hB so hl hx
    obtain ⟨h6, h4, h17, h20, h19⟩ := hC
    obtain ⟨⟨s1, s2, -⟩, -⟩ := stB_iff.mp (hq _ so)
    obtain ⟨⟨t1, t2, -⟩, -⟩ := stB_iff.mp (hq _ o1)
    obtain ⟨g1, e1, e2, e3⟩ := c_costOf hP hE s1 s2 t1 t2
    have hs1 := e3.1.1
    have wle := wtI_le (m := m) hE.2.1 hq (ord (k - 1)) l
    have we : 1024 * csS A p m (q (ord (k - 1))) (q t) + 1 = (wtI A F p m q n) (ord (k - 1)) l := (wtI_s so o2).symm
    have r17 := (hG.2.1 _ so).1
    have r17' := (hG.2.1 _ o1).1
    have x1 : Fi Sc g g1 := e2.mono (by decide)
    obtain ⟨g2, hg2⟩ : ∃ g2, g2 = sI g1 18 (ord (k - 1) * 8 + l) (nI ((wtI A F p m q n) (ord (k - 1)) l)) := ⟨_, rfl⟩
    have x2 : Fi Sc g g2 := by
      rw [hg2]
      exact x1.si (by decide)
    have hs2 := Sh.fi x2 hs
    have f17 : gI g2 17 = gI g 17 := by rw [hg2, gI_sIn (by decide), e2.I (by decide)]
    have f18 : gI g2 18 = upd (gI g 18) (ord (k - 1) * 8 + l) (nI ((wtI A F p m q n) (ord (k - 1)) l)) := by rw [hg2, gI_sIs, e2.I (by decide)]
    have f16 : gI g2 16 = gI g 16 := by rw [hg2, gI_sIn (by decide), e2.I (by decide)]
    have f19 : gI g2 19 = gI g 19 := by rw [hg2, gI_sIn (by decide), e2.I (by decide)]
    have f20 : gI g2 20 = gI g 20 := by rw [hg2, gI_sIn (by decide), e2.I (by decide)]
    have tl : len t ≤ 1000000000 := hD.2.2.2.1.2 t o1
    have cw : ∀ g3, gI g3 18 = gI g2 18 → CW (nxI (nxS A F p m) q n) (wtI A F p m q n) g3 ord k (l + 1) := fun g3 e i l' v h1 h2 h3 h4 => by
      rw [e, f18]
      by_cases z : ord i * 8 + l' = ord (k - 1) * 8 + l
      · rw [z, pk_us]
        have z1 : ord i = ord (k - 1) := by omega
        have z2 : l' = l := by omega
        rw [z1, z2]
      · rw [pk_un z]
        refine hW i l' v h1 h2 ?_ h4
        rcases Nat.lt_or_ge (i + 1) k with u | u
        · exact Or.inl u
        · right
          have hi : i = k - 1 := by omega
          rw [hi] at z
          omega
    have sp2 : ∀ g3, Fi [16, 17, 18, 20] g1 g3 → SP X A F p m ag g3 := fun g3 x => e3.fi hE.1 x (by decide)
    have rw1 : ∀ (y : Nat → Option (Unit × G)), True := fun _ => trivial
    rw [show oI (some t) = nI t from rfl, c_has hG.1 (by omega) (by omega), bd_eq, decide_eq_true o1, ibT, g_dr hb hs (by decide) (by decide), g_gk hb hs (by decide) (by decide), g_gn hb hs (by decide) (by decide), gdI_nI (by omega) (by decide), gdI_nI (by omega) (by decide), nI_clamp (by omega), nI_clamp (by omega), r17, r17', show cx (q (ord (k - 1))) = 64 * (q (ord (k - 1)) / 36) + q (ord (k - 1)) % 36 from rfl, show cx (q t) = 64 * (q t / 36) + q t % 36 from rfl, e1, bd_eq, show cst A p m 0 (q (ord (k - 1)) / 36) (q t / 36) + cst A p m 1 (q (ord (k - 1)) % 36) (q t % 36) = csS A p m (q (ord (k - 1))) (q t) from rfl, lmu1024, Nat.mul_comm _ 1024, lad1, we, li, md16_2 hs1, gk18 hs1, sn18 hs1, lmu8, nI_add, gdI_nI (by omega) (by decide), nI_clamp (by omega), lg, ← hg2, md16_1 hs2, gk17 hs2, sn17 hs2, gdI_nI (by omega) (by decide), gdI_nI (by omega) (by decide), f17, h17 _ so, h17 _ o1, nI_add]
    by_cases z : len t ≤ len (ord (k - 1)) + (wtI A F p m q n) (ord (k - 1)) l
    · rw [if_pos (nI_le z (by omega))]
      refine ⟨g2, len, opn, os, rfl, x2, sp2 g2 (by rw [hg2]; exact Fi.rf.si (by decide)), hD.skip (fun v hv => by rw [hx] at hv; rw [← Option.some.inj hv]; exact z), ⟨by rw [f16]; exact h6, by rw [f16]; exact h4, by rw [f17]; exact h17, by rw [f20]; exact h20, by rw [f19]; exact h19⟩, cw g2 rfl⟩
    · have zlt := Nat.lt_of_not_le z
      rw [if_neg (nI_ge zlt (by omega))]
      by_cases y : len t = 1000000000
      · obtain ⟨g4, hg4⟩ : ∃ g4, g4 = sI (sI g2 20 os (nI t)) 16 6 (nI (os + 1)) := ⟨_, rfl⟩
        have x4 : Fi Sc g g4 := by
          rw [hg4]
          exact (x2.si (by decide)).si (by decide)
        have hs4 := Sh.fi x4 hs
        have i17 : gI g4 17 = gI g 17 := by rw [hg4, gI_sIn (by decide), gI_sIn (by decide), f17]
        have hd' := hD.rel hk hl hx o1 wle (by omega) zlt (Or.inr ⟨y, rfl, rfl⟩)
        have on' := hd'.on
        rw [y, lFC, if_pos rfl, f16, h6, if_neg (lnge256 (by omega)), md16_5 hs2, gk20 hs2, sn20 hs2, gdI_nI (by omega) (by decide), nI_clamp (by omega), lg, show gI (sI g2 20 os (nI t)) 16 6 = nI os by rw [gI_sIn (by decide), f16]; exact h6, lad1, lg, ← hg4, c_rx120 (len := len) hs4 (by rw [i17]; exact h17) hn so o1]
        refine ⟨_, _, _, _, rfl, x4.si (by decide), sp2 _ (by rw [hg4, hg2]; exact (((Fi.rf.si (by decide)).si (by decide)).si (by decide)).si (by decide)), hd', ⟨?_, ?_, fun v hv => ?_, fun i hi => ?_, fun i hi => ?_⟩, cw _ (by rw [gI_sIn (by decide), hg4, gI_sIn (by decide), gI_sIn (by decide)])⟩
        · rw [gI_sIn (by decide), hg4, gI_sIs]
          exact pk_us
        · rw [gI_sIn (by decide), hg4, gI_sIs, pk_un (by decide), pk_un (by decide), gI_sIn (by decide), f16]
          exact h4
        · rw [gI_sIs, i17]
          by_cases e : v = t
          · rw [e, pk_us, ins_s]
          · rw [pk_un e, ins_n e]
            exact h17 v hv
        · rw [gI_sIn (by decide), hg4, gI_sIn (by decide), gI_sIs, f20]
          by_cases e : i = os
          · rw [e, pk_us, ins_s]
          · rw [pk_un e, ins_n e]
            exact h20 i (by omega)
        · rw [gI_sIn (by decide), hg4, gI_sIn (by decide), gI_sIn (by decide), f19]
          exact h19 i hi
      · rw [lFC, if_neg (fun u => y ((nI_eq (by omega) (by decide)).mp u)), c_rx120 (len := len) hs2 (by rw [f17]; exact h17) hn so o1]
        refine ⟨_, _, _, _, rfl, x2.si (by decide), sp2 _ (by rw [hg2]; exact (Fi.rf.si (by decide)).si (by decide)), hD.rel hk hl hx o1 wle (by omega) zlt (Or.inl ⟨by omega, rfl, rfl⟩), ⟨?_, ?_, fun v hv => ?_, fun i hi => ?_, fun i hi => ?_⟩, cw _ (by rw [gI_sIn (by decide)])⟩
        · rw [gI_sIn (by decide), f16]
          exact h6
        · rw [gI_sIn (by decide), f16]
          exact h4
        · rw [gI_sIs, f17]
          by_cases e : v = t
          · rw [e, pk_us, ins_s]
          · rw [pk_un e, ins_n e]
            exact h17 v hv
        · rw [gI_sIn (by decide), f20]
          exact h20 i hi
        · rw [gI_sIn (by decide), f19]
          exact h19 i hi
theorem c_ex78 (hE : EV X A p) (hB : BF (nxS A F p m) q pa la dp n n 0) (hq : ∀ i, i < n → stB A F p (q i) = true) (hn : n ≤ 232) (hk : 0 < k) {k40 : Nat → Nat → Nat → Int32 → G → Option (Unit × G)} : ∀ fu l g len opn os, SP X A F p m ag g → GRw g 2 n q pa la dp → GNx (nxS A F p m) g 2 n q n 0 → DJ (nxI (nxS A F p m) q n) (wtI A F p m q n) n len opn ord os k l → CR g n len opn ord os k → CW (nxI (nxS A F p m) q n) (wtI A F p m q n) g ord k l → l ≤ 8 → 8 < fu + l → ∃ g' len' opn' os', f_X1_explore_78 k40 fu 16 2 68 (nI (k - 1)) (nI (ord (k - 1))) (nI l) g = k40 16 2 68 (nI k) g' ∧ Fi Sc g g' ∧ SP X A F p m ag g' ∧ DJ (nxI (nxS A F p m) q n) (wtI A F p m q n) n len' opn' ord os' k 8 ∧ CR g' n len' opn' ord os' k ∧ CW (nxI (nxS A F p m) q n) (wtI A F p m q n) g' ord k 8 := by
  intro fu
  induction fu with
  | zero => intro l g len opn os _ _ _ _ _ _ _ h; omega
  | succ fu ih =>
    intro l g len opn os hP hG hN hD hC hW hl hf
    rw [f_X1_explore_78]
    rcases Nat.lt_or_ge l 8 with z | z
    · obtain ⟨g1, len1, opn1, os1, e1, e2, e3, e4, e5, e6⟩ := c_relax hE hP hB hG hN hq hn hk z hD hC hW
      rw [if_neg (lnge8 z), e1, bd_eq, lad1]
      obtain ⟨g2, len2, opn2, os2, r1, r2, r3⟩ := ih (l + 1) g1 len1 opn1 os1 e3 (hG.sc e2) (hN.sc e2) e4 e5 e6 (by omega) (by omega)
      exact ⟨g2, len2, opn2, os2, r1, e2.tr r2, r3⟩
    · have e8 : l = 8 := by omega
      subst e8
      rw [if_pos (lle8 (by decide) (by decide)), lad1, show k - 1 + 1 = k by omega]
      exact ⟨g, len, opn, os, rfl, Fi.rf, hP, hD, hC, hW⟩
theorem c_ex40 (hE : EV X A p) (hB : BF (nxS A F p m) q pa la dp n n 0) (hq : ∀ i, i < n → stB A F p (q i) = true) (hn : n ≤ 232) : ∀ fu k g len opn ord os, SP X A F p m ag g → GRw g 2 n q pa la dp → GNx (nxS A F p m) g 2 n q n 0 → DJ (nxI (nxS A F p m) q n) (wtI A F p m q n) n len opn ord os k 8 → CR g n len opn ord os k → CW (nxI (nxS A F p m) q n) (wtI A F p m q n) g ord k 8 → 300 < fu + k → ∃ g' len' ord' opn' k', f_X1_explore_40 fu 16 2 68 (nI k) g = some ((), g') ∧ Fi Sc g g' ∧ SP X A F p m ag g' ∧ DJ (nxI (nxS A F p m) q n) (wtI A F p m q n) n len' opn' ord' 0 k' 8 ∧ CR g' n len' opn' ord' 0 k' ∧ CW (nxI (nxS A F p m) q n) (wtI A F p m q n) g' ord' k' 8 := by
  intro fu
  induction fu with
  | zero =>
    intro k g len opn ord os _ _ _ hD _ _ h
    have := hD.kn
    omega
  | succ fu ih =>
    intro k g len opn ord os hP hG hN hD hC hW hf
    have hkn := hD.kn
    have hon := hD.on
    have hs := hP.1.1
    rw [f_X1_explore_40, if_neg (lnge256 (by omega)), hC.1]
    rcases Nat.eq_zero_or_pos os with z | z
    · subst z
      rw [if_pos (by decide)]
      exact ⟨g, len, ord, opn, k, rfl, Fi.rf, hP, hD, hC, hW⟩
    · obtain ⟨h6, h4, h17, h20, h19⟩ := id hC
      obtain ⟨a, a1, a2, a3⟩ := c_take4 hs h6 h17 h20 (fun i hi => (hD.1.1 i hi).1) (fun i hi => (hD.1.1 i hi).2) (by omega) hn FU 1 0 (by decide) (by omega) (fun j hj => by rw [show j = 0 by omega]; exact Nat.le_refl _) (by have := @FU_gt os (by omega); omega)
      have hD1 := hD.take a1 a2
      have kn1 := hD1.kn
      obtain ⟨g2, hg2⟩ : ∃ g2, g2 = sI (sI (sI (sI g 16 6 (nI (os - 1))) 20 a (nI (opn (os - 1)))) 19 k (nI (opn a))) 16 4 (nI (k + 1)) := ⟨_, rfl⟩
      have x2' : Fi [16, 19, 20] g g2 := by
        rw [hg2]
        exact (((Fi.rf.si (by decide)).si (by decide)).si (by decide)).si (by decide)
      have x2 : Fi Sc g g2 := x2'.mono (by decide)
      have hC2 : CR g2 n len (ins opn a (opn (os - 1))) (ins ord k (opn a)) (os - 1) (k + 1) := by
        refine ⟨?_, ?_, fun v hv => ?_, fun i hi => ?_, fun i hi => ?_⟩
        · rw [hg2, gI_sIs, pk_un (by decide), gI_sIn (by decide), gI_sIn (by decide), gI_sIs]
          exact pk_us
        · rw [hg2, gI_sIs]
          refine ⟨pk_us, ?_⟩
          rw [pk_un (by decide), gI_sIn (by decide), gI_sIn (by decide), gI_sIs, pk_un (by decide)]
          exact h4.2
        · rw [hg2, gI_sIn (by decide), gI_sIn (by decide), gI_sIn (by decide), gI_sIn (by decide)]
          exact h17 v hv
        · rw [hg2, gI_sIn (by decide), gI_sIn (by decide), gI_sIs, gI_sIn (by decide)]
          by_cases e : i = a
          · rw [e, pk_us, ins_s]
          · rw [pk_un e, ins_n e]
            exact h20 i (by omega)
        · rw [hg2, gI_sIn (by decide), gI_sIs, gI_sIn (by decide), gI_sIn (by decide)]
          by_cases e : i = k
          · rw [e, pk_us, ins_s]
          · rw [pk_un e, ins_n e]
            exact h19 i (by omega)
      have hW2 : CW (nxI (nxS A F p m) q n) (wtI A F p m q n) g2 (ins ord k (opn a)) (k + 1) 0 := fun i l v h1 h2 h3 h5 => by
        rw [ins_n (by omega)] at h5 ⊢
        rw [x2'.I (by decide)]
        exact hW i l v (by omega) h2 (Or.inr h2) h5
      obtain ⟨g3, len3, opn3, os3, r1, r2, r3, r4, r5, r6⟩ := c_ex78 hE hB hq hn (k := k + 1) (by omega) (k40 := f_X1_explore_40 fu) FU 0 g2 len _ _ (hP.fi hE.1 x2' (by decide)) (hG.sc x2) (hN.sc x2) hD1 hC2 hW2 (by decide) (by have := @FU_gt 8 (by decide); omega)
      obtain ⟨g4, len4, ord4, opn4, k4, t1, t2, t3⟩ := ih (k + 1) g3 len3 opn3 _ os3 r3 ((hG.sc x2).sc r2) ((hN.sc x2).sc r2) r4 r5 r6 (by omega)
      have ok1 : ins ord k (opn a) (k + 1 - 1) = opn a := ins_s
      rw [ok1] at r1
      rw [if_neg (nI_nle z (by omega)), f_X1_takeNearest, show (0 : Int32) = nI 0 from rfl, show (1 : Int32) = nI 1 from rfl, a3, bd_eq, gR_sI, gR_sI, md16_3 hs, gdK_sI, gdK_sI, gk19 hs, gN_sI, gN_sI, sn19 hs, gdI_nI (by omega) (by decide), lg, nI_clamp (by omega), nI_add, lg, ← hg2]
      rw [show k + 1 - 1 = k by omega] at r1
      rw [r1]
      exact ⟨g4, len4, ord4, opn4, k4, t1, (x2.tr r2).tr t2, t3⟩
/-- all that is known behind it -/
def CHr (nx : Nat → Nat → Option Nat) (wt : Nat → Nat → Nat) (g : G) (n : Nat) (len ord : Nat → Nat) : Prop := gI g 16 4 = nI n ∧ (∀ v, v < n → gI g 17 v = nI (len v)) ∧ (∀ i, i < n → gI g 19 i = nI (ord i)) ∧ ∀ u l v, u < n → l < 8 → nx u l = some v → gI g 18 (u * 8 + l) = nI (wt u l)
theorem CHr.fi {nx : Nat → Nat → Option Nat} {wt : Nat → Nat → Nat} {S : List Nat} (h : CHr nx wt g n len ord) (x : Fi S g g') (a : 16 ∉ S) (b : 17 ∉ S) (c : 18 ∉ S) (d : 19 ∉ S) : CHr nx wt g' n len ord := by
  unfold CHr
  rw [x.I a, x.I b, x.I c, x.I d]
  exact h
theorem c_explore (hE : EV X A p) (hP : SP X A F p m ag g) (hB : BF (nxS A F p m) q pa la dp n n 0) (hG : GRw g 2 n q pa la dp) (hN : GNx (nxS A F p m) g 2 n q n 0) (hq : ∀ i, i < n → stB A F p (q i) = true) (hn : n ≤ 232) : ∃ g' len ord, f_X1_explore 16 2 68 g = some ((), g') ∧ Fi Sc g g' ∧ SP X A F p m ag g' ∧ DF (nxI (nxS A F p m) q n) (wtI A F p m q n) n len ord ∧ CHr (nxI (nxS A F p m) q n) (wtI A F p m q n) g' n len ord ∧ gI g' 16 0 = 1 := by
  have hs := hP.1.1
  have n0 := hB.1.1
  obtain ⟨g1, e1, e2, e3, e4⟩ := c_fill (g := g) (a := 17) (len := 256) (by decide) (sn17 hs) (1000000000)
  have hs1 := Sh.fi e2 hs
  obtain ⟨g2, hg2⟩ : ∃ g2, g2 = sI (sI (sI (sI (sI g1 17 0 (nI 0)) 20 0 (nI 0)) 16 6 (nI 1)) 16 4 (nI 0)) 16 0 (nI 1) := ⟨_, rfl⟩
  have x2' : Fi [16, 17, 20] g g2 := by
    rw [hg2]
    exact (((((e2.mono (by decide)).si (by decide)).si (by decide)).si (by decide)).si (by decide)).si (by decide)
  have x2 : Fi Sc g g2 := x2'.mono (by decide)
  obtain ⟨n', rfl⟩ : ∃ n', n = n' + 1 := ⟨n - 1, by omega⟩
  have hC : CR g2 (n' + 1) (ins (fun _ => 1000000000) 0 0) (ins id 0 0) id 1 0 := by
    refine ⟨?_, ?_, fun v hv => ?_, fun i hi => ?_, fun i hi => by omega⟩
    · rw [hg2, gI_sIs, pk_un (by decide), gI_sIs, pk_un (by decide), gI_sIs]
      exact pk_us
    · rw [hg2, gI_sIs, pk_us, pk_un (by decide), gI_sIs]
      exact ⟨pk_us, rfl⟩
    · rw [hg2, gI_sIn (by decide), gI_sIn (by decide), gI_sIn (by decide), gI_sIn (by decide), gI_sIs]
      by_cases e : v = 0
      · rw [e, pk_us, ins_s]
      · rw [pk_un e, ins_n e, e4 v (by omega), lFC]
    · rw [hg2, gI_sIn (by decide), gI_sIn (by decide), gI_sIn (by decide), gI_sIs, show i = 0 by omega, ins_s]
      exact pk_us
  obtain ⟨g3, len, ord, opn, k, r1, r2, r3, r4, r5, r6⟩ := c_ex40 hE hB hq hn FU 0 g2 _ _ _ 1 (hP.fi hE.1 x2' (by decide)) (hG.sc x2) (hN.sc x2) DJ.ini hC (fun i l v h1 => by omega) (by have := @FU_gt 300 (by decide); omega)
  obtain ⟨kn, hDF⟩ := r4.fin (by omega) (wtI_le hE.2.1 hq) (pa := pa) (la := la) (fun v h1 h2 => by
    obtain ⟨a1, a2, a3, a4, a5⟩ := hB.2.2.2.1 v h1 h2
    exact ⟨a1, a3, nxI_s hB.2.1 h2 a4⟩)
  subst kn
  refine ⟨g3, len, ord, ?_, x2.tr r2, r3, hDF, ⟨r5.2.1.1, r5.2.2.1, r5.2.2.2.2, fun u l v hu hl hx => ?_⟩, r5.2.1.2⟩
  · rw [f_X1_explore, md16_1 hs, gk17 hs, e1, bd_eq, md16_1 hs1, gk17 hs1, sn17 hs1, show (0 : Int32) = nI 0 from rfl, gdI_nI (by decide) (by decide), nI_clamp (by decide), lg, gR_sI, md16_5 hs1, gdK_sI, gk20 hs1, gN_sI, sn20 hs1, gdI_nI (by decide) (by decide), lg, show (1 : Int32) = nI 1 from rfl, lg, lg, lg, ← hg2]
    exact r1
  · obtain ⟨i, i1, i2⟩ := hDF.2.2.1 u hu
    rw [← i2] at hx ⊢
    exact r6 i l v i1 hl (Or.inr hl) hx
end CHP
