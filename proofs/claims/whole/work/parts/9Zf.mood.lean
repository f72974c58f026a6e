/-! THE END OF A DEED; mood answered alike. -/
section DEE
variable {X : Nat → Prop} {A A1 A2 : Nat → Int32} {g g' g1 g3 g5 : G} {a b p n el ag ag' x y d : Nat} {S K : List Nat}
theorem r_twinR (hs : Sh g) (hp : p < 3) {t : Nat} (ht : t < 2) : f_X12_twinOf 136 (nI p) (nI t) g = some (gI g 137 (88 + 2 * p + t), g) := by
  rw [f_X12_twinOf, md136_1 hs, gk137 hs, sn137 hs, nI2, show (88 : Int32) = nI 88 from rfl, nI_add, nI_add, gdI_nI (by omega) (by decide), nI_clamp (by omega)]
theorem r_dn2 (hs : Sh g) (hp : p < 3) {t z : Nat} (ht : t < 2) (hz : gI g 137 (88 + 2 * p + t) = nI z) (m : Nat) : f_X12_isDone_2 (m + 1) 136 (nI p) (nI t) g = f_X12_isDone_2 m 136 (nI p) (nI (t + 1)) (if gI g 137 (46 + 2 * p + t) = nI z then sI g 137 (100 + p) (gI g 137 (100 + p) ||| ((1 : Int32) <<< (nI t &&& 31))) else g) := by
  rw [f_X12_isDone_2, if_neg (show ¬ (2 : Int32) ≤ nI t from nI_ge (a := t) (b := 2) ht (by decide)), r_twinR hs hp ht, bd_eq, md136_1 hs, gk137 hs, sn137 hs, nI2, show (46 : Int32) = nI 46 from rfl, nI_add, nI_add, gdI_nI (by omega) (by decide), nI_clamp (show 46 + 2 * p + t < 2 ^ 31 by omega), hz]
  by_cases e : gI g 137 (46 + 2 * p + t) = nI z
  · rw [if_pos e, if_pos e.symm, show (100 : Int32) = nI 100 from rfl, nI_add, gdI_nI (by omega) (by decide), nI_clamp (show 100 + p < 2 ^ 31 by omega), lg, f_X12_isDone_44, lad1]
  · rw [if_neg e, if_neg (fun u => e u.symm), f_X12_isDone_44, lad1]
theorem r_isDone (hs : Sh g) (hp : p < 3) {B : Nat → Int32} (hr : gI g 137 = B) (h1 : B (88 + 2 * p) = nI x) (h2 : B (88 + 2 * p + 1) = nI y) (hd : B (100 + p) = nI d) (d3 : d ≤ 3) : ∃ g', f_X12_isDone 136 (nI p) g = some ((), g') ∧ Fi [137] g g' ∧ gL g' = gL g ∧ gI g' 137 = upd B (100 + p) (nI (dnw B p x y d)) := by
  obtain ⟨fu, hfu⟩ : ∃ fu, FU = fu + 1 + 1 + 1 := ⟨FU - 3, rfl⟩
  obtain ⟨oc1, oc2⟩ := or_c d (by omega)
  obtain ⟨g1, hg1⟩ : ∃ g1, g1 = (if gI g 137 (46 + 2 * p + 0) = nI x then sI g 137 (100 + p) (gI g 137 (100 + p) ||| ((1 : Int32) <<< (nI 0 &&& 31))) else g) := ⟨_, rfl⟩
  have s1 := r_dn2 hs hp (t := 0) (z := x) (by decide) (by rw [hr]; exact h1) (fu + 1 + 1)
  rw [← hg1] at s1
  have x1 : Fi [137] g g1 := by
    rw [hg1]
    split
    · exact Fi.rf.si (by decide)
    · exact Fi.rf
  have l1 : gL g1 = gL g := by
    rw [hg1]
    split <;> rfl
  have v1 : gI g1 137 = upd B (100 + p) (nI (d ||| (if B (46 + 2 * p) = nI x then 1 else 0))) := by
    rw [hg1, Nat.add_zero, hr]
    by_cases e : B (46 + 2 * p) = nI x
    · rw [if_pos e, if_pos e, gI_sIs, hr, hd, or_a d (by omega)]
    · rw [if_neg e, if_neg e, oc2, hr]
      funext j
      by_cases u : j = 100 + p
      · rw [u, pk_us, hd]
      · rw [pk_un u]
  have d4 : d ||| (if B (46 + 2 * p) = nI x then 1 else 0) < 4 := by
    split
    · exact oc1
    · rw [oc2]
      omega
  obtain ⟨g2, hg2⟩ : ∃ g2, g2 = (if gI g1 137 (46 + 2 * p + 1) = nI y then sI g1 137 (100 + p) (gI g1 137 (100 + p) ||| ((1 : Int32) <<< (nI 1 &&& 31))) else g1) := ⟨_, rfl⟩
  have s2 := r_dn2 (Sh.fi x1 hs) hp (t := 1) (z := y) (by decide) (by rw [v1, pk_un (by omega)]; exact h2) (fu + 1)
  rw [← hg2] at s2
  have s1' : f_X12_isDone_2 (fu + 1 + 1 + 1) 136 (nI p) 0 g = _ := s1
  refine ⟨g2, ?_, ?_, ?_, ?_⟩
  · rw [f_X12_isDone, hfu, s1', s2, f_X12_isDone_2, if_pos (by decide)]
  · rw [hg2]
    split
    · exact x1.si (by decide)
    · exact x1
  · rw [hg2]
    split
    · exact l1
    · exact l1
  · unfold dnw
    rw [hg2, v1, pk_un (by omega), pk_us]
    by_cases e : B (46 + 2 * p + 1) = nI y
    · rw [if_pos e, if_pos e, gI_sIs, v1, or_b _ d4, upd2]
    · rw [if_neg e, if_neg e, v1, (or_c _ d4).2]
theorem CA.no1 {α : Type} {c : Option (α × G)} {r : G → Option (α × G)} {v : α} (h : Inv X A ag' g1) (hc : c = some (v, g1)) (hr : r g1 = some (v, sI g1 136 0 0)) (ha : ag' ≤ ag + 100) (en : gn g1 = gn g) (es : gs g1 = gs g) : CA ag g c r := by
  obtain ⟨a, b⟩ := h.1.fm (K := [0]) (S := []) tF0 (by decide) (by decide)
  exact ⟨v, g1, _, X, A, ag', hc, hr, ⟨a, h.2.qf h.1.2.1 h.1.1.1 b⟩, ha, by rw [gn_sI, en]; omega, by rw [gs_sI, es]; omega⟩
theorem deedEnd (h : Inv X A ag g) (w1 : WF A1) (e1 : ∀ j, j < 52 ∨ 103 ≤ j → A1 j = A j) (x3 : Fq DL g g3) (s3 : Sh g3) (b47 : BD X g3 47 A1) (si : SI ag' g3) (g10 : gI g3 0 10 = -1) (k0 : ∀ k, k ≠ 10 → gI g3 0 k = gI g 0 k) (k136 : gI g3 136 = gI g 136) (n1 : n ≤ 10) (hn : A 103 = nI n) (hi : HI X (ntA A1 (fun k => A (52 + k)) n) g3) (x5 : Fm K [137, 141, 142, 143] g3 g5) (hK : 5 ∉ K ∧ 13 ∉ K ∧ 14 ∉ K) (row : gI g5 137 = A1) (was : ∀ j, j < 51 → gI g5 143 j = A (52 + j)) : ∃ g6, f_X12_notes 136 g5 = some ((), g6) ∧ Fi [137] g5 g6 ∧ gI g6 137 = (ntA A1 (fun k => A (52 + k)) n) ∧ Inv X (ntA A1 (fun k => A (52 + k)) n) ag' g6 ∧ gn g6 = gn g ∧ gs g6 = gs g := by
  have hX := h.1.2.1
  have s5 := s3.fm x5
  obtain ⟨g6, c1, c2, c3, c4⟩ := r_notes (W := fun k => A (52 + k)) s5 row n1 (by rw [e1 103 (by omega)]; exact hn) was
  have x6 : Fi [136, 137, 141, 142, 143] g3 g6 := (x5.1.mono (by decide)).tr (c2.mono (by decide))
  have y6 : Fq DL g g6 := x3.tr (x6.q.mono (by decide))
  have nx : ∀ a ∈ [136, 137, 141, 142, 143], ¬ X a := hX.no (by decide)
  have f : ∀ k, k ∉ K → gI g6 136 k = gI g 136 k := fun k hk => by
    rw [c2.I (by decide), x5.2 k hk, k136]
  have n0 : gI g6 0 = gI g3 0 := x6.I (by decide)
  refine ⟨g6, c1, c2, c4, h.deed w1 (fun j hj => nt_lo n1 (by omega)) (fun j hj => by rw [nt_lo n1 (by omega)]; exact e1 j (by omega)) y6 (Sh.fi c2 s5) c4 (b47.fa x6.a nx (by decide)) (si.fa s3 x6.a (fun k k1 k2 => by simp; omega)) (by rw [n0]; exact g10) (fun k hk => by rw [n0]; exact k0 k hk) (f 5 hK.1) (f 13 hK.2.1) (f 14 hK.2.2) (hi.fa s3 x6.a nx (by decide)), y6.1, y6.2.1⟩
/-- the class's side of a deed that could be done -/
theorem c_deedOk (h : Inv X A ag g) (h1 : Inv X A ag g1) (x1 : Fq [52, 53, 54, 55, 56] g g1) (b52 : BD X g1 52 A) (x2 : Fi [47, 48, 49, 50, 51] g1 g') (b47 : BD X g' 47 A1) : ∃ g3 n, f_X11_keepSpare 0 g' = some ((), g3) ∧ Fq DL g g3 ∧ Sh g3 ∧ BD X g3 47 A1 ∧ SI ag g3 ∧ gI g3 0 10 = -1 ∧ (∀ k, k ≠ 10 → gI g3 0 k = gI g 0 k) ∧ gI g3 136 = gI g 136 ∧ gI g3 137 = A ∧ n ≤ 10 ∧ A 103 = nI n ∧ ∀ A1, (∀ j, (j < 52 ∨ 103 ≤ j) → A1 j = A j) → HI X (ntA A1 (fun k => A (52 + k)) n) g3 := by
  have hX := h.1.2.1
  have s1 := h1.1.1.1
  have s2 := Sh.fi x2 s1
  have hW : WF A := ⟨h.1.1.2.2.1, h.1.1.2.2.2.1, h.1.1.2.2.2.2, h.2.2.2.2.2.2.2⟩
  obtain ⟨g3, k1, k2, k3, k4, k5, n, n1, n2, n3⟩ := c_keepSpare s2 (h1.2.2.2.2.1.fa s1 x2.a (hX.no (by decide)) (by decide)) (b52.fa x2.a (hX.no (by decide)) (by decide)) hW hX
  have y2 : Fq DL g g' := (x1.mono (by decide)).tr (x2.q.mono (by decide))
  have y3 : Fq DL g g3 := y2.tr (k2.mono (by decide))
  refine ⟨g3, n, k1, y3, k3, b47.fa k2.a (hX.no (by decide)) (by decide), ?_, k4, fun k hk => ?_, ?_, ?_, n1, n2, n3⟩
  · exact (h1.1.2.2.2.1.fa s1 x2.a (fun k k1 k2 => by simp; omega)).fa s2 k2.a (fun k k1 k2 => by simp [HL]; omega)
  · rw [k5 k hk, x2.I (by decide), x1.I (by decide)]
  · rw [k2.I (by decide), x2.I (by decide), x1.I (by decide)]
  · rw [k2.I (by decide), x2.I (by decide)]
    exact h1.1.1.2.1
theorem q_mood (h : Inv X A ag g) (u v : Int32) : CA ag g (f_X11_mood 0 u v g) (fun g => f_X12_mood 136 u v g) := by
  obtain ⟨h1, h2, h3, h4, h5⟩ := id h.1
  have hs := h1.1
  have hA := h1.2.2.1
  have hB := h1.2.2.2.1
  have hL := h1.2.2.2.2
  have k3 := h1.k3
  have hW : WF A := ⟨hA, hB, hL, h.2.2.2.2.2.2.2⟩
  obtain ⟨g1, a1, a2, a3, a4, a5⟩ := c_spare h
  obtain ⟨r, g2, b1, b2, b3, b4⟩ := c_feel a5.1.2.2.1 (fun z => by have := h2 _ z; omega) hA hB hL u v
  have cc : f_X11_mood 0 u v g = bd (f_X11_deedAnswer 0 r g2) (fun v18 g19 => some (v18, g19)) := by
    rw [f_X11_mood, md0_5 hs, md0_4 hs, gk52 hs, gk47 hs, a1, bd_eq, md0_4 a3, gk47 a3, b1, bd_eq]
  have w9 : ∀ g, f_X12_within v.toInt64 0 9 g = some (inR v 10, g) := fun g => by
    have := inL_wi (g := g) (v := v.toInt64) (n := 9) (by decide)
    rw [inL_I] at this
    exact this
  rcases b4 with ⟨rfl, rfl, e⟩ | ⟨p, x, hp, hx, rfl, rfl, rfl, b5⟩
  · refine CA.no1 (v := -11) a5 ?_ ?_ (by omega) a2.1 a2.2.1
    · rw [cc, f_X11_deedAnswer, if_neg (by decide), bd_eq]
      rfl
    · show f_X12_mood 136 u v g2 = _
      rw [f_X12_mood, lg, R_isPair a5.1.1.t0, inL_I, bd_eq]
      cases e1 : inR u (nv A 3) with
      | false => rw [ibF]
      | true =>
        rw [e1, Bool.true_and] at e
        rw [ibT, w9, e, bd_eq, ibF]
  · obtain ⟨g3, n, c1, c2, c3, c4, c5, c6, c7, c8, c9, n1, n2, n3⟩ := c_deedOk h a5 a2 a4 (b2.mono (by decide)) b5
    have md9 := (hB.m hp).2
    have e1 : ∀ j, j < 52 ∨ 103 ≤ j → mA A p x j = A j := fun j hj => mA_n (by omega)
    have hr3 : RS A g3 := ⟨c3, c9, h1.2.2⟩
    have hr0 := hr3.t0
    obtain ⟨g4, d1, d2, d3⟩ := r_keeps hr0.1
    have hs4 := Sh.fi d2 hr0.1
    have row4 : gI g4 137 = A := (d2.I (by decide)).trans hr0.2.1
    have x5 : Fm [0] [137, 141, 142, 143] g3 (sI g4 137 (97 + p) (nI x)) := (tF0.mono (by decide) (by decide)).tr ((Fm.of (K := [0]) d2 (by decide)).mono (by decide) (by decide) |>.tr (Fm.of (Fi.rf.si (by decide)) (by decide)))
    have was : ∀ j, j < 51 → gI (sI g4 137 (97 + p) (nI x)) 143 j = A (52 + j) := fun j hj => by
      rw [gI_sIn (by decide), d3 j hj, hr0.2.1]
    obtain ⟨g6, m1, m2, m3, m4, m5, m6⟩ := deedEnd h (mA_wf hW hp hx) e1 c2 c3 c4 c5 c6 c7 c8 n1 n2 (n3 _ e1) x5 (by decide) (by rw [gI_sIs, row4]; rfl) was
    have hs6 := m4.1.1.1
    refine ⟨nI (md A p), g3, g6, X, _, ag, ?_, ?_, m4, by omega, by rw [m5]; omega, by rw [m6]; omega⟩
    · rw [cc, f_X11_deedAnswer, if_pos (Int32.not_lt.mp (nI_pos (by omega))), c1, bd_eq, bd_eq]
    · show f_X12_mood 136 (nI p) (nI x) g3 = _
      have w143 : gI g6 143 (45 + p) = nI (md A p) := by
        rw [m2.I (by decide), was _ (by omega), show 52 + (45 + p) = 97 + p by omega, (hB.m hp).1]
      rw [f_X12_mood, lg, R_isPair hr0, inL_I, inR_nI (by omega), decide_eq_true hp, bd_eq, ibT, w9, inR_nI (by omega), decide_eq_true (show x < 10 by omega), bd_eq, ibT, d1, bd_eq, md136_1 hs4, gk137 hs4, sn137 hs4, show (97 : Int32) = nI 97 from rfl, nI_add, gdI_nI (by omega) (by decide), nI_clamp (show 97 + p < 2 ^ 31 by omega), lg, m1, bd_eq, md136_19 hs6, gk143 hs6, sn143 hs6, show (45 : Int32) = nI 45 from rfl, nI_add, gdI_nI (by omega) (by decide), nI_clamp (show 45 + p < 2 ^ 31 by omega), w143]
end DEE
