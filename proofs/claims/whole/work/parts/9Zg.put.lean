/-! WALL, PUT answered alike. -/
section DPT
variable {X : Nat → Prop} {A A1 A2 : Nat → Int32} {g g' g1 g3 g5 : G} {a b p n el ag ag' x y d : Nat} {S K : List Nat}
theorem r_whyWall (h : RS A g) {c : Nat} (hc : c < cS A) : f_X12_whyWall 136 (lN c) g = some (if ∀ i, i < 2 * nv A 3 → tw A i ≠ c then 0 else 2, g) := by
  have cl := h.cl
  have k3 := h.k3
  have z := cT_z A c (fun _ => true) (2 * nv A 3)
  have l := cT_le A c (fun _ => true) (2 * nv A 3)
  rw [f_X12_whyWall, R_isCell h, inL_lN (by omega), decide_eq_true hc, bd_eq, ibT, l32 c (by omega), R_twinsIn h (by omega) (fun _ => true) (-1) (fun i hi => ⟨fun u => absurd u (nI_ne1 (by omega)), fun u => by cases u⟩), bd_eq]
  by_cases e : ∀ i, i < 2 * nv A 3 → tw A i ≠ c
  · rw [if_pos e, z.mpr (fun i hi _ => e i hi), if_pos (by decide)]
  · rw [if_neg e, if_neg (show ¬ nI (cT A c (fun _ => true) (2 * nv A 3)) ≤ 0 from nI_ge (a := 0) (Nat.pos_of_ne_zero (fun u => e (fun i hi => z.mp u i hi rfl))) (by omega))]
theorem xor1 : ∀ w, w ≤ 1 → nI w ^^^ (1 : Int32) = nI (1 - w) := by decide +kernel
theorem q_wall (h : Inv X A ag g) (u : Int32) : CA ag g (f_X11_wall 0 u g) (fun g => f_X12_wall 136 u g) := by
  obtain ⟨h1, h2, h3, h4, h5⟩ := id h.1
  have hs := h1.1
  have hA := h1.2.2.1
  have hB := h1.2.2.2.1
  have hL := h1.2.2.2.2
  have cl := h1.cl
  have hW : WF A := ⟨hA, hB, hL, h.2.2.2.2.2.2.2⟩
  obtain ⟨g1, a1, a2, a3, a4, a5⟩ := c_spare h
  obtain ⟨r, g2, b1, b2, b3, b4⟩ := c_turnWall a5.1.2.2.1 (fun z => by have := h2 _ z; omega) hA hB hL u
  have cc : f_X11_wall 0 u g = bd (f_X11_deedAnswer 0 r g2) (fun v18 g19 => some (v18, g19)) := by
    rw [f_X11_wall, md0_5 hs, md0_4 hs, gk52 hs, gk47 hs, a1, bd_eq, md0_4 a3, gk47 a3, b1, bd_eq]
  rcases b4 with ⟨rfl, rfl, e⟩ | ⟨c, hc, rfl, ⟨rfl, rfl, e⟩ | ⟨hno, rfl, b5⟩⟩
  · refine CA.no1 (v := -11) a5 ?_ ?_ (by omega) a2.1 a2.2.1
    · rw [cc, f_X11_deedAnswer, if_neg (by decide), bd_eq]
      rfl
    · show f_X12_wall 136 u g2 = _
      rw [f_X12_wall, lg, f_X12_whyWall, R_isCell a5.1.1.t0, inL_I, e, bd_eq, ibF, bd_eq, if_neg (by decide)]
      rfl
  · refine CA.no1 (v := -12) a5 ?_ ?_ (by omega) a2.1 a2.2.1
    · rw [cc, f_X11_deedAnswer, if_neg (by decide), bd_eq]
      rfl
    · show f_X12_wall 136 (nI c) g2 = _
      rw [f_X12_wall, lg, nI64 c (by omega), r_whyWall a5.1.1.t0 hc, bd_eq, if_neg e, if_neg (by decide)]
      rfl
  · obtain ⟨g3, n, c1, c2, c3, c4, c5, c6, c7, c8, c9, n1, n2, n3⟩ := c_deedOk h a5 a2 a4 (b2.mono (by decide)) b5
    obtain ⟨w1, w2, -⟩ := hB.w (c := c) (by omega)
    have e1 : ∀ j, j < 52 ∨ 103 ≤ j → tA A c j = A j := fun j hj => tA_n (by omega)
    have hr3 : RS A g3 := ⟨c3, c9, h1.2.2⟩
    have hr0 := hr3.t0
    obtain ⟨g4, d1, d2, d3⟩ := r_keeps hr0.1
    have hs4 := Sh.fi d2 hr0.1
    have row4 : gI g4 137 = A := (d2.I (by decide)).trans hr0.2.1
    have x5 : Fm [0] [137, 141, 142, 143] g3 (sI g4 137 (52 + c) (nI (1 - wl A c))) := (tF0.mono (by decide) (by decide)).tr ((Fm.of (K := [0]) d2 (by decide)).mono (by decide) (by decide) |>.tr (Fm.of (Fi.rf.si (by decide)) (by decide)))
    have was : ∀ j, j < 51 → gI (sI g4 137 (52 + c) (nI (1 - wl A c))) 143 j = A (52 + j) := fun j hj => by
      rw [gI_sIn (by decide), d3 j hj, hr0.2.1]
    obtain ⟨g6, m1, m2, m3, m4, m5, m6⟩ := deedEnd h (tA_wf hW hc hno) e1 c2 c3 c4 c5 c6 c7 c8 n1 n2 (n3 _ e1) x5 (by decide) (by rw [gI_sIs, row4]; rfl) was
    have hs6 := m4.1.1.1
    refine ⟨nI (1 - wl A c), g3, g6, X, _, ag, ?_, ?_, m4, by omega, by rw [m5]; omega, by rw [m6]; omega⟩
    · rw [cc, f_X11_deedAnswer, if_pos (Int32.not_lt.mp (nI_pos (by omega))), c1, bd_eq, bd_eq]
    · show f_X12_wall 136 (nI c) g3 = _
      have rw6 : gI g6 137 (52 + c) = nI (1 - wl A c) := by
        rw [m3, nt_lo n1 (by omega), tA_s]
      rw [f_X12_wall, lg, nI64 c (by omega), r_whyWall hr0 hc, bd_eq, if_pos hno, if_pos rfl, d1, bd_eq, md136_1 hs4, gk137 hs4, sn137 hs4, show (52 : Int32) = nI 52 from rfl, nI_add, gdI_nI (by omega) (by decide), nI_clamp (show 52 + c < 2 ^ 31 by omega), row4, w1, xor1 _ w2, lg, m1, bd_eq, md136_1 hs6, gk137 hs6, sn137 hs6, gdI_nI (by omega) (by decide), rw6]
theorem pA_upd (hp : p < 3) : upd (upd (upd (upd A (88 + 2 * p) (nI x)) (88 + 2 * p + 1) (nI y)) (94 + p) (nI (apS (nv A 2) x y))) (100 + p) (nI (dnw A p x y d)) = pA A p x y d := by
  funext j
  unfold pA
  by_cases e4 : j = 100 + p
  · rw [e4, pk_us, if_neg (by omega), if_neg (by omega), if_neg (by omega), if_pos rfl]
  · rw [pk_un e4]
    by_cases e3 : j = 94 + p
    · rw [e3, pk_us, if_neg (by omega), if_neg (by omega), if_pos rfl]
    · rw [pk_un e3]
      by_cases e2 : j = 88 + 2 * p + 1
      · rw [e2, pk_us, if_neg (by omega), if_pos rfl]
      · rw [pk_un e2]
        by_cases e1 : j = 88 + 2 * p
        · rw [e1, pk_us, if_pos rfl]
        · rw [pk_un e1, if_neg e1, if_neg e2, if_neg e3, if_neg e4]
theorem dnw_cg {B : Nat → Int32} (e1 : B (46 + 2 * p) = A (46 + 2 * p)) (e2 : B (46 + 2 * p + 1) = A (46 + 2 * p + 1)) : dnw B p x y d = dnw A p x y d := by
  unfold dnw
  rw [e1, e2]
theorem q_put (h : Inv X A ag g) (u v z : Int32) : CA ag g (f_X11_put 0 u v z g) (fun g => f_X12_put 136 u v z g) := by
  obtain ⟨h1, h2, h3, h4, h5⟩ := id h.1
  have hs := h1.1
  have hA := h1.2.2.1
  have hB := h1.2.2.2.1
  have hL := h1.2.2.2.2
  have cl := h1.cl
  have k3 := h1.k3
  have hW : WF A := ⟨hA, hB, hL, h.2.2.2.2.2.2.2⟩
  obtain ⟨g1, a1, a2, a3, a4, a5⟩ := c_spare h
  obtain ⟨r, g2, b1, b2, b3, b4⟩ := c_place a5.1.2.2.1 (fun k hk z => by have := h2 _ z; omega) hA hB hL u v z
  have cc : f_X11_put 0 u v z g = bd (f_X11_deedAnswer 0 r g2) (fun v18 g19 => some (v18, g19)) := by
    rw [f_X11_put, md0_5 hs, md0_4 hs, gk52 hs, gk47 hs, a1, bd_eq, md0_4 a3, gk47 a3, b1, bd_eq]
  rcases b4 with ⟨rfl, rfl, e⟩ | ⟨p, x, y, hp, hx, hy, rfl, rfl, rfl, ⟨rfl, rfl, e⟩ | ⟨fx, fy, rfl, b5⟩⟩
  · refine CA.no1 (v := -11) a5 ?_ ?_ (by omega) a2.1 a2.2.1
    · rw [cc, f_X11_deedAnswer, if_neg (by decide), bd_eq]
      rfl
    · show f_X12_put 136 u v z g2 = _
      have hr := a5.1.1.t0
      rw [f_X12_put, lg, R_isPair hr, inL_I, bd_eq]
      cases e1 : inR u (nv A 3) with
      | false => rw [ibF]
      | true =>
        rw [ibT, R_isCell hr, inL_I, bd_eq]
        cases e2 : inR v (cS A) with
        | false => rw [ibF]
        | true =>
          rw [e1, e2] at e
          rw [ibT, R_isCell hr, inL_I, bd_eq, show inR z (cS A) = false from e, ibF]
  · refine CA.no1 (v := -12) a5 ?_ ?_ (by omega) a2.1 a2.2.1
    · rw [cc, f_X11_deedAnswer, if_neg (by decide), bd_eq]
      rfl
    · show f_X12_put 136 (nI p) (nI x) (nI y) g2 = _
      have hr := a5.1.1.t0
      rw [f_X12_put, lg, R_isPair hr, inL_I, inR_nI (by omega), decide_eq_true hp, bd_eq, ibT, R_isCell hr, inL_I, inR_nI (by omega), decide_eq_true hx, bd_eq, ibT, R_isCell hr, inL_I, inR_nI (by omega), decide_eq_true hy, bd_eq, ibT, R_isFree hr (by omega) (by omega), bd_eq]
      cases e1 : fre A p x with
      | false => rw [ibF]
      | true =>
        rw [e1] at e
        rw [ibT, R_isFree hr (by omega) (by omega), show fre A p y = false from e, bd_eq, ibF]
  · obtain ⟨g3, n, c1, c2, c3, c4, c5, c6, c7, c8, c9, n1, n2, n3⟩ := c_deedOk h a5 a2 a4 (b2.mono (by decide)) b5
    have al := apS_10 hA hx hy
    have e1 : ∀ j, j < 52 ∨ 103 ≤ j → pA A p x y 0 j = A j := fun j hj => pA_n (by omega) (by omega) (by omega) (by omega)
    have hr3 : RS A g3 := ⟨c3, c9, h1.2.2⟩
    have hr0 := hr3.t0
    obtain ⟨g4, d1, d2, d3⟩ := r_keeps hr0.1
    have hs4 := Sh.fi d2 hr0.1
    have row4 : gI g4 137 = A := (d2.I (by decide)).trans hr0.2.1
    obtain ⟨ga, hga⟩ : ∃ ga, ga = sI (sI g4 137 (88 + 2 * p) (nI x)) 137 (88 + 2 * p + 1) (nI y) := ⟨_, rfl⟩
    have ya : Fi [137] g4 ga := by
      rw [hga]
      exact (Fi.rf.si (by decide)).si (by decide)
    have hsa := Sh.fi ya hs4
    have rowa : gI ga 137 = upd (upd A (88 + 2 * p) (nI x)) (88 + 2 * p + 1) (nI y) := by
      rw [hga, gI_sIs, gI_sIs, row4]
    have pla : Pl A (gI ga 137) := fun k hk => by
      rw [rowa, pk_un (by omega), pk_un (by omega)]
    have ap : f_X12_apart 136 (nI x) (nI y) ga = some (nI (apS (nv A 2) x y), ga) := by
      have := r_apart hsa (pla.d_ hA) (a := x) (b := y) (by omega) (by omega)
      rw [pla.n_ (k := 2) (by omega)] at this
      exact this
    obtain ⟨gb, hgb⟩ : ∃ gb, gb = sI ga 137 (94 + p) (nI (apS (nv A 2) x y)) := ⟨_, rfl⟩
    have yb : Fi [137] g4 gb := by
      rw [hgb]
      exact ya.si (by decide)
    have hsb := Sh.fi yb hs4
    have yc : Fi [137] g4 (sI gb 137 (100 + p) 0) := yb.si (by decide)
    have hsc := Sh.fi yc hs4
    have rowc : gI (sI gb 137 (100 + p) 0) 137 = upd (upd (upd (upd A (88 + 2 * p) (nI x)) (88 + 2 * p + 1) (nI y)) (94 + p) (nI (apS (nv A 2) x y))) (100 + p) 0 := by
      rw [gI_sIs, hgb, gI_sIs, rowa]
    obtain ⟨gd, f1, f2, f3, f4⟩ := r_isDone (p := p) (x := x) (y := y) (d := 0) hsc (by omega) rowc (by rw [pk_un (by omega), pk_un (by omega), pk_un (by omega), pk_us]) (by rw [pk_un (by omega), pk_un (by omega), pk_us]) (by rw [pk_us]; rfl) (by decide)
    rw [dnw_cg (A := A) (by rw [pk_un (by omega), pk_un (by omega), pk_un (by omega), pk_un (by omega)]) (by rw [pk_un (by omega), pk_un (by omega), pk_un (by omega), pk_un (by omega)]), upd2, pA_upd (by omega)] at f4
    have yd : Fi [137] g4 gd := yc.tr f2
    have x5 : Fm [0] [137, 141, 142, 143] g3 gd := (tF0.mono (by decide) (by decide)).tr ((Fm.of (K := [0]) d2 (by decide)).mono (by decide) (by decide) |>.tr ((Fm.of (K := [0]) yd (by decide)).mono (by decide) (by decide)))
    have was : ∀ j, j < 51 → gI gd 143 j = A (52 + j) := fun j hj => by
      rw [yd.I (by decide), d3 j hj, hr0.2.1]
    obtain ⟨g6, m1, m2, m3, m4, m5, m6⟩ := deedEnd h (pA_wf hW hp hx hy fx fy (by decide)) e1 c2 c3 c4 c5 c6 c7 c8 n1 n2 (n3 _ e1) x5 (by decide) f4 was
    have hs6 := m4.1.1.1
    refine ⟨nI (apS (nv A 2) x y), g3, g6, X, _, ag, ?_, ?_, m4, by omega, by rw [m5]; omega, by rw [m6]; omega⟩
    · rw [cc, f_X11_deedAnswer, if_pos (Int32.not_lt.mp (nI_pos (by omega))), c1, bd_eq, bd_eq]
    · show f_X12_put 136 (nI p) (nI x) (nI y) g3 = _
      have rw6 : gI g6 137 (94 + p) = nI (apS (nv A 2) x y) := by
        rw [m3, nt_lo n1 (by omega), pA_3 (by omega)]
      rw [f_X12_put, lg, R_isPair hr0, inL_I, inR_nI (by omega), decide_eq_true hp, bd_eq, ibT, R_isCell hr0, inL_I, inR_nI (by omega), decide_eq_true hx, bd_eq, ibT, R_isCell hr0, inL_I, inR_nI (by omega), decide_eq_true hy, bd_eq, ibT, R_isFree hr0 (by omega) (by omega), fx, bd_eq, ibT, R_isFree hr0 (by omega) (by omega), fy, bd_eq, ibT, d1, bd_eq, md136_1 hs4, gk137 hs4, sn137 hs4, nI2, show (88 : Int32) = nI 88 from rfl, nI_add, gdI_nI (by omega) (by decide), nI_clamp (show 88 + 2 * p < 2 ^ 31 by omega), lg, lad1, gN_sI, sn137 hs4, gdI_nI (by omega) (by decide), nI_clamp (show 88 + 2 * p + 1 < 2 ^ 31 by omega), lg, ← hga, ap, bd_eq, sn137 hsa, show (94 : Int32) = nI 94 from rfl, nI_add, gdI_nI (by omega) (by decide), nI_clamp (show 94 + p < 2 ^ 31 by omega), lg, ← hgb, md136_1 hsb, gk137 hsb, sn137 hsb, show (100 : Int32) = nI 100 from rfl, nI_add, gdI_nI (by omega) (by decide), nI_clamp (show 100 + p < 2 ^ 31 by omega), lg, f1, bd_eq, m1, bd_eq, md136_1 hs6, gk137 hs6, sn137 hs6, gdI_nI (by omega) (by decide), rw6]
end DPT
