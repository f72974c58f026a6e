/-! QUERIES answered alike: needed, chance, likeliest, errands, errandWay. -/
section QR3
variable {X : Nat → Prop} {A : Nat → Int32} {g g' : G} {p ag n : Nat} {q pa la dp : Nat → Nat} {one two : Int32}
theorem q_needed (h : QS X A ag g) (hag : ag + 2 < 2 ^ 30) (v one two : Int32) : QA X A ag g (f_X11_needed 0 v one two g) (fun g => f_X12_needed 136 v one two g) := by
  obtain ⟨h1, h2, h3, h4, h5⟩ := id h; have hA := h1.2.2.1; have hBd := h1.2.2.2.1; have k3 := h1.k3; have cl := h1.cl; have hs := h1.1
  cases hgo : goB A v one two with
  | false =>
    refine QA.of (v := -2) (g1 := g) (g2 := sI g 136 0 0) (K := [0]) (S := []) ?_ (Qf.rf h1.1) h ?_ tF0 (by decide) (by decide) (Nat.le_refl _) (by omega)
    · rw [f_X11_needed, c_isGoal h3 hA h1.1, hgo, bd_eq, ibF]
    · show f_X12_needed 136 v one two g = _
      rw [f_X12_needed, lg, r_isGoalTold h1.t0, hgo, bd_eq, ibF]
  | true =>
    obtain ⟨p, hp, rfl, c1, c2⟩ := goB_true hA hgo
    obtain ⟨g1, ag1, n, q, pa, la, dp, e1, e2, e3, e4, e5, e6⟩ := c_graphOf h hp (by omega)
    obtain ⟨B1, B2, B3, B4, B5, B6, B7⟩ := id e3.2.2.2.2.1
    have hs1 := e3.1.1
    have hq : ∀ i, i < n → q i < 1296 := fun i hi => stB_lt hA (B4 i hi)
    have sp := sp_10 hA hBd hp
    have ll' := LS_le (A := A) (F := fre A p) (p := p) (m := md A p) (ch := 0) one two (36 * tw A (2 * p) + tw A (2 * p + 1))
    rcases c_find (Or.inl rfl) hs1 B2 B7 hq one two with ⟨e, f1, f2, f3, f4⟩ | ⟨f1, f2⟩
    · have dl := B1.dp_le e f1
      obtain ⟨m1, t1, t2⟩ := c_trailTo hs1 B1 B2 B7 hq f1
      have hE : EV X A p := ⟨h2, hA, hBd, h1.2.2.2.2, hp⟩
      obtain ⟨g2, a1, a2, a3, a4⟩ := c_aim e3.2.2.1 hE hs1 e4 (by omega) (by decide)
      have hs2 := a3.1.1
      have H2 := e3.fq a2 hs2 (by decide)
      have ta := (hBd.t (i := 2 * p) (by omega)).2.1
      have tb := (hBd.t (i := 2 * p + 1) (by omega)).2.1
      obtain ⟨k1, k2⟩ := @pk_pack (tw A (2 * p)) (tw A (2 * p + 1)) (by omega)
      have hTb : ∀ c, c < 64 → bt (m1 &&& ((((1 : Int64) <<< ((nI (tw A (2 * p))).toInt64 &&& 63)) ||| ((1 : Int64) <<< ((nI (tw A (2 * p + 1))).toInt64 &&& 63))) ^^^ (-1 : Int64))) c = decide ((∃ j, j < dp e + 1 ∧ (q (anc pa e j) / 36 = c ∨ q (anc pa e j) % 36 = c)) ∧ tw A (2 * p) ≠ c ∧ tw A (2 * p + 1) ≠ c) := fun c hc => by
        rw [bt_and, bt_not hc, bt_or, bt_one (by omega), bt_one (by omega), t2 c hc, Bool.eq_iff_iff, Bool.and_eq_true, decide_eq_true_eq, decide_eq_true_eq, Bool.not_eq_true', Bool.or_eq_false_iff, decide_eq_false_iff_not, decide_eq_false_iff_not]
        exact ⟨fun ⟨a, b, c⟩ => ⟨a, fun u => b u.symm, fun u => c u.symm⟩, fun ⟨a, b, c⟩ => ⟨a, fun u => b u.symm, fun u => c u.symm⟩⟩
      obtain ⟨r, g3, F1, b1, b2, b3, b4, b5⟩ := c_nd108 (one := one) (two := two) (ag := ag1 + 1) hE (y := gL g2 68 0) (T := m1 &&& ((((1 : Int64) <<< ((nI (tw A (2 * p))).toInt64 &&& 63)) ||| ((1 : Int64) <<< ((nI (tw A (2 * p + 1))).toInt64 &&& 63))) ^^^ (-1 : Int64))) a3.1.2.2.1 (fun c hc hb => by
        rw [hTb c hc, decide_eq_true_eq] at hb
        obtain ⟨⟨j, j1, j2⟩, j3, j4⟩ := hb
        have an := (B1.anc_d f1 j (by omega)).1
        have st := stB_iff.mp (B4 _ an)
        rcases j2 with u | u
        · rw [u] at st
          exact ⟨st.1.1, st.2.1, j3, j4⟩
        · rw [u] at st
          exact ⟨st.1.2.1, st.2.2, j3, j4⟩) FU 0 0 g2 (fre A p) a3 (fun c hc => by rw [bt_0]; rfl) (by decide) (by have := @FU_gt 36 (by decide); omega)
      have b1' : f_X11_needed_108 FU 0 one two (nI (cx (36 * tw A (2 * p) + tw A (2 * p + 1)))) (m1 &&& ((((1 : Int64) <<< ((nI (tw A (2 * p))).toInt64 &&& 63)) ||| ((1 : Int64) <<< ((nI (tw A (2 * p + 1))).toInt64 &&& 63))) ^^^ (-1 : Int64))) 0 (gL g2 68 0) 0 g2 = some (r, g3) := b1
      have H3 := H2.fi b2 (by decide)
      have s3 : SI (ag1 + 1) g3 := by
        obtain ⟨-, R, W, r1, r2, r3, r4, r5⟩ := a4
        refine ⟨b3.2.1, R, W, r1, r2, ?_, ?_, ?_⟩
        · rw [b4]
          exact r3
        · rw [b4]
          exact r4
        · rw [b2.L (by decide)]
          exact r5
      obtain ⟨g4, d1, d2, -, -⟩ := r_comes (ch := 0) H3.1.t0 hp (by decide) c1 c2
      have d1' : f_X12_comes 136 (nI p) one two 0 (sI g3 136 0 0) = _ := d1
      have hr4 := H3.1.t0.fm d2 (by decide)
      obtain ⟨m', g5, w1, w2, w3⟩ := r_nd40 hp c1 c2 FU 0 0 g4 hr4 (fun c hc => by rw [bt_0]; rfl) (Nat.zero_le _) (by have := @FU_gt (cS A) (by omega); omega)
      have w1' : f_X12_needed_40 FU 136 (nI p) one two 0 0 g4 = some (m', g5) := w1
      have lf : LSf A (fre A p) p (md A p) 0 one two (36 * tw A (2 * p) + tw A (2 * p + 1)) = dp e := by
        rw [← B5]
        exact soon_found hA sp B1 B4 B7 f1 (by omega) f2 f3
      have em : r = m' := bt_ext (fun c hc => by
        rw [b5 c hc, w3 c hc]
        dsimp only
        rcases Nat.lt_or_ge c (cS A) with z | z
        · rw [decide_eq_true z, decide_eq_true (show c < 36 by omega), Bool.true_and, Bool.true_and, hTb c hc]
          by_cases y : ∃ j, j < dp e + 1 ∧ (q (anc pa e j) / 36 = c ∨ q (anc pa e j) % 36 = c)
          · cases hnd : ndB A p one two c with
            | false => rw [Bool.and_false]
            | true =>
              have hn' := hnd
              unfold ndB at hn'
              rw [Bool.and_eq_true, decide_eq_true_eq] at hn'
              rw [decide_eq_true ⟨y, hn'.2.1, hn'.2.2.1⟩]
              rfl
          · rw [nd_trail hA hBd h1.2.2.2.2 hp B1 B4 B7 B5 f1 f2 z y, Bool.and_false]
        · rw [show decide (c < cS A) = false from decide_eq_false (by omega), Bool.false_and, hTb c hc, show decide ((∃ j, j < dp e + 1 ∧ (q (anc pa e j) / 36 = c ∨ q (anc pa e j) % 36 = c)) ∧ tw A (2 * p) ≠ c ∧ tw A (2 * p + 1) ≠ c) = false from decide_eq_false (fun ⟨⟨j, j1, j2⟩, _⟩ => by
            have an := (B1.anc_d f1 j (by omega)).1
            have st := (stB_iff.mp (B4 _ an)).1
            omega), Bool.false_and, Bool.and_false])
      refine QA.of (v := r) (g1 := g3) (g2 := g5) (K := [0, 17, 18]) (S := S7) ?_ ((e2.tr (Qf.fq a2 hs2 (by decide))).tr (Qf.fi b2 hs2 (by decide))) (H3.s hp s3) ?_ (((tF0.mono (by decide) (by decide)).tr (d2.mono (by decide) (by decide))).tr (w2.mono (by decide) (by decide))) (by decide) (by decide) (by omega) (by omega)
      · rw [f_X11_needed, c_isGoal h3 hA h1.1, hgo, bd_eq, ibT, e1, bd_eq, gk2 hs1, f4, bd_eq, if_neg (nI_ne1 (by omega)), md0_4 hs1, gk47 hs1, c_standOf e3.2.2.1 hA hp, bd_eq, ldi64 (by omega), lmo64, k1, k2, ll, t1, bd_eq, ll, md0_7 hs1, md0_4 hs1, gk68 hs1, gk47 hs1, a1, bd_eq, md0_7 hs2, gk68 hs2, ll, ← cx_now (by omega), b1']
      · show f_X12_needed 136 (nI p) one two g3 = _
        rw [f_X12_needed, lg, r_isGoalTold H3.1.t0, hgo, bd_eq, ibT, d1', bd_eq, if_neg (fun u => by
          have := (toF_m ll').mp u
          omega), w1', em]
    · obtain ⟨g4, d1, d2, -, -⟩ := r_comes (ch := 0) e3.1.t0 hp (by decide) c1 c2
      have d1' : f_X12_comes 136 (nI p) one two 0 (sI g1 136 0 0) = _ := d1
      have lf : LSf A (fre A p) p (md A p) 0 one two (36 * tw A (2 * p) + tw A (2 * p + 1)) = 1073741824 := by
        rw [← B5]
        exact soon_none hA sp B1 B4 f1
      refine QA.of (v := 0) (g1 := g1) (g2 := g4) (K := [0, 17, 18]) (S := S7) ?_ e2 (e3.s hp e4) ?_ ((tF0.mono (by decide) (by decide)).tr (d2.mono (by decide) (by decide))) (by decide) (by decide) e5 (by omega)
      · rw [f_X11_needed, c_isGoal h3 hA h1.1, hgo, bd_eq, ibT, e1, bd_eq, gk2 hs1, f2, bd_eq, if_pos rfl]
      · show f_X12_needed 136 (nI p) one two g1 = _
        rw [f_X12_needed, lg, r_isGoalTold e3.1.t0, hgo, bd_eq, ibT, d1', bd_eq, if_pos ((toF_m ll').mpr lf)]
end QR3
