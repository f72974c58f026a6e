/-! FIELD answered alike. -/
section FLD
variable {X : Nat → Prop} {A : Nat → Int32} {g g' g1 : G} {ag : Nat} {S : List Nat}
theorem Ca.fr2 (h : Ca A g) (e0 : gI g' 0 10 = gI g 0 10) (e : ∀ a ∈ CL, gI g' a = gI g a) : Ca A g' := by
  unfold Ca
  rw [e0]
  exact h.imp id (fun ⟨p, n, q, pa, la, dp, a, b, c⟩ => ⟨p, n, q, pa, la, dp, a, b, c.cg e⟩)
theorem BD.gn_b {b : Nat} (h : BD X g b A) : b + 4 < gn g := h.1.2.2.2.2.2.1.2
theorem FLZ.fa (x : FLZ (gn g) g g') : Fa LLZ g g' := x
theorem r_wiT (u : Int32) {m : Nat} (hm : m < 2 ^ 31) (g : G) : f_X12_within u.toInt64 0 (nI m).toInt64 g = some (inR u (m + 1), g) := by
  rw [r_within, Int32.toInt_toInt64, Int32.toInt_toInt64, nI_toInt hm]
  congr 2
  unfold inR
  have z : (0 : Int64).toInt = 0 := rfl
  rw [z, decide_eq_decide]
  omega
theorem q_field (h : Inv X A ag g) (u : Int32) : CA ag g (f_X11_field 0 u g) (fun g => f_X12_field 136 u g) := by
  obtain ⟨h1, h2, h3, h4, h5⟩ := id h.1
  obtain ⟨t1, ⟨tn, t2, t3, t4, t5⟩, t6, t7, t8, t9, t10⟩ := id h.2
  have hs := h1.1
  have g155 := hs.1
  rcases inR_c u (tn + 1) with ⟨n, i1, i2, rfl, i4⟩ | ⟨i1, i2⟩ | ⟨i, i1, i2, rfl, i4⟩
  · obtain ⟨T, hT⟩ : ∃ T : Nat → Nat, T = fun k => nv (gI g 139) k := ⟨_, rfl⟩
    have tT : ∀ k, k < tn → T k < 256 ∧ gI g 139 k = nI (T k) ∧ gI g 1 k = byI (T k) := fun k hk => by
      obtain ⟨v, v1, v2, v3⟩ := t5 k hk
      have : T k = v := by
        rw [hT]
        show nv (gI g 139) k = v
        unfold nv
        rw [v2, nI_clamp (by omega)]
      rw [this]
      exact ⟨v1, v2, v3⟩
    obtain ⟨M, m1, m2, m3⟩ := pS_end T n
    have hz : TZ T n M := ⟨by omega, m1, m2, m3⟩
    -- the class, up to the lines
    obtain ⟨g3, hg3⟩ : ∃ g3, g3 = sI g 0 1 0 := ⟨_, rfl⟩
    have x3 : Fi [0] g g3 := by
      rw [hg3]
      exact Fi.rf.si (by decide)
    have hs3 := Sh.fi x3 hs
    obtain ⟨g4, a1, a2, a3, a4⟩ := c_pre hz hs3 (fun k hk => by
      rw [x3.I (by decide)]
      exact ⟨(tT k (by omega)).1, (tT k (by omega)).2.2⟩)
    have n4 : gn g4 = gn g := a4.1.trans x3.1.1
    have s4 : gs g4 = gs g := a4.2.1.trans x3.1.2.1
    -- a first run, for the class alone
    obtain ⟨hd, d1, d2, d3, -, -, -⟩ := r_pre hz hs t4 t2 (by omega) (fun k hk => ⟨(tT k (by omega)).1, (tT k (by omega)).2.1⟩)
    obtain ⟨b, g5, hd5, e1, -, e3, -, ⟨e5, e5', e5''⟩, e6⟩ := ls_rd hz a1 d1 a2 d2 d3
    have x5 : Fa LLZ g4 g5 := e3
    have rd : f_X8_reads 57 1 (nI n) g3 = some (b, g5) := a3.trans e1
    obtain ⟨g6, hg6⟩ : ∃ g6, g6 = sI (sI g5 0 2 (gI g5 57 1)) 0 3 (gI g5 57 2) := ⟨_, rfl⟩
    have x6 : Fi [0] g5 g6 := by
      rw [hg6]
      exact (Fi.rf.si (by decide)).si (by decide)
    have hs6 := Sh.fi x6 e5
    have i05 : ∀ k, k ≠ 1 → gI g5 0 k = gI g 0 k := fun k hk => by
      rw [x5.I (sk0 a1) (by decide), a4.I (by decide), hg3, gI_sIs, pk_un hk]
    have i06 : ∀ k, k ≠ 1 → k ≠ 2 → k ≠ 3 → gI g6 0 k = gI g 0 k := fun k k1 k2 k3 => by
      rw [hg6, gI_sIs, pk_un k3, gI_sIs, pk_un k2, i05 k k1]
    have i061 : gI g6 0 1 = 0 := by
      rw [hg6, gI_sIs, pk_un (by decide), gI_sIs, pk_un (by decide), x5.I (sk0 a1) (by decide), a4.I (by decide), hg3, gI_sIs, pk_us]
    have i062 : gI g6 0 2 = gI g5 57 1 := by
      rw [hg6, gI_sIs, pk_un (by decide), gI_sIs, pk_us]
    have i063 : gI g6 0 3 = gI g5 57 2 := by
      rw [hg6, gI_sIs, pk_us]
    have xg6 : Fa [0, 57, 59, 60, 61, 62, 63, 64, 65, 66, 67] g g6 := (((x3.a.mono (by decide)).tr (a4.a.mono (by decide))).tr (x5.mono (by decide))).tr (x6.a.mono (by decide))
    have n6 : gn g6 = gn g5 := x6.1.1
    have s6 : gs g6 = gs g5 := x6.1.2.1
    have cA : f_X11_field 0 (nI n) g = li (b2i b) (fun y15 => if y15 = 0 then (some (((-30 : Int32) - (gI g6 0 2)), g6)) else (dr (gR g6 0 4) (fun b25 => dr (gR g6 57 0) (fun b27 => gdK g6 b25 0 (gdK g6 b27 0 (bd (f_X0_copyFrom b25 b27 g6) (fun v31 g32 => dr (gR g32 0 15) (fun b35 => gdK g32 b35 5 (bd (f_X5_forget b35 g32) (fun v38 g39 => bd (f_X11_forgetWays 0 g39) (fun v42 g43 => dr (gR g43 0 4) (fun b46 => gdK g43 b46 0 (dr (gR g43 b46 0) (fun b49 => gdK g43 b49 7 (some ((gI g43 b49 5), g43)))))))))))))))) := by
      have gk57' : ∀ (k : Option (Int32 × G)), gdK g3 57 8 k = k := fun k => gk57 hs3
      have y1 : Sh (sI g5 0 2 (gI g5 57 1)) := e5
      rw [f_X11_field, if_neg (nI_pos (by omega)), t3, if_pos (nI_le (by omega) (by omega)), lg, ← hg3, md0_6 hs3, md0_0 hs3, gk57 hs3, gk1 hs3, rd, bd_eq, li, li, md0_6 e5, gk57 e5, lg, gI_sIn (by decide), lg, ← hg6]
    have t6' : gI g6 136 5 = nI tn := by
      rw [xg6.I (sk136 hs) (by decide)]
      exact t4
    cases b with
    | false =>
      obtain ⟨hr, p1, p2, p3, p4, p5, p6⟩ := r_pre hz hs6 t6' t2 (by omega) (fun k hk => by
        rw [xg6.I (sk139 hs) (by decide)]
        exact ⟨(tT k (by omega)).1, (tT k (by omega)).2.1⟩)
      obtain ⟨b', g5', hx, w1, w2, -, w4, -, w6⟩ := ls_rd hz a1 p1 a2 p2 p3
      have eq : some (b', g5') = some (false, g5) := w1.symm.trans e1
      obtain ⟨rfl, rfl⟩ : b' = false ∧ g5' = g5 := by
        cases eq
        exact ⟨rfl, rfl⟩
      have bad : BadG g5' hx := by
        rcases w6 with ⟨u, -⟩ | ⟨-, u⟩
        · cases u
        · exact u
      have sh5 := p1.fm w4
      obtain ⟨hF, v1, v2, v3, v4⟩ := r_endB sh5 bad.x
      obtain ⟨f, f1, f2, f3, f4, f5⟩ := id bad
      have y : Fm [0, 5, 6, 7, 8, 9, 10, 11, 12, 13, 14] [140] g6 hF := ((p5.mono (by decide) (by decide)).tr (w4.mono (by decide) (by decide))).tr (v2.mono (by decide) (by decide))
      have shF := hs6.fm y
      obtain ⟨SB, eS⟩ : ∃ SB : List Nat, SB = [0, 57, 59, 60, 61, 62, 63, 64, 65, 66, 67, 136, 140] := ⟨_, rfl⟩
      have xh : Fa [0, 57, 59, 60, 61, 62, 63, 64, 65, 66, 67, 136, 140] g hF := (xg6.mono (by decide)).tr (y.1.a.mono (by decide))
      have nX : ∀ a ∈ [0, 57, 59, 60, 61, 62, 63, 64, 65, 66, 67, 136, 140], ¬ X a := no_X h2 (by decide)
      have k136 : gI hF 136 5 = 0 := by
        rw [v2.2 5 (by decide), w4.2 5 (by decide)]
        exact p6
      refine ⟨(-30 : Int32) - nI f, g6, hF, X, A, ag, ?_, ?_, ⟨⟨⟨shF, ?_, h1.2.2⟩, h2, h3.fa xh nX (by decide), h4.fa hs xh (fun k k1 k2 => by simp; omega), ?_⟩, t1.fa hs xh (by decide), ⟨0, by decide, ?_, k136, fun k hk => by omega⟩, ⟨?_, ?_⟩, t7.fa hs xh nX (by decide), t8.fa hs xh nX (by decide), fun a ha => Nat.lt_of_lt_of_le (t9 a ha) xh.1, t10⟩, by omega, ?_, ?_⟩
      · rw [cA, li, ibF, i062, f3]
      · show f_X12_field 136 (nI n) g6 = _
        rw [p4, w2, v1, f4]
      · rw [y.I (by decide), xg6.I (sk137 hs) (by decide)]
        exact h1.2.1
      · refine h5.fr2 ?_ (fun a ha => ?_)
        · rw [y.I (by decide), i06 10 (by decide) (by decide) (by decide)]
        · have t : CL.all (fun a => decide (a < 40 ∧ a ≠ 0)) = true := by decide
          have t2 := of_decide_eq_true (List.all_eq_true.mp t a ha)
          exact ((xh.2 a (by omega)).2.2 (by simp; omega)).1
      · rw [y.I (by decide)]
        exact i061
      · rw [y.I (by decide), i062, f3, v3, f4]
      · rw [y.I (by decide), i063, v4, f5]
      · rw [y.1.1.1, n6]
        omega
      · rw [y.1.1.2.1, s6]
        omega
    | true =>
      obtain ⟨i', l⟩ : ∃ i', LI T n M (gn g4) i' g5 hd5 := by
        rcases e6 with ⟨-, u⟩ | ⟨u, -⟩
        · exact u
        · cases u
      obtain ⟨q, hq⟩ : ∃ q, q = gn g4 := ⟨_, rfl⟩
      rw [← hq] at l
      have q155 : 155 ≤ q := by omega
      have bdo : ∀ (hx : G) (j : Nat), LI T n M q j g5 hx → BD (fun a => q ≤ a) g6 63 (fnR (gI hx 140)) ∧ WQ (gI hx 140) := fun hx j l => by
        obtain ⟨⟨o1, o2, o3, o4⟩, ⟨o5, o6, o7, o8⟩, o9, o10, o11, o12⟩ := l
        refine ⟨(PQ.bd o1 o9 o10 o11 o5).fa x6.a (fun a ha u => ?_) (by decide), o11⟩
        simp at ha
        omega
      obtain ⟨bd1, wq1⟩ := bdo hd5 i' l
      obtain ⟨gC, c1, c2, c3, c4, c5, c6, c7, c8⟩ := c_fin hs6 q155 bd1 wq1.1.2.2.2.2.2.2.2
      have xC : Fa [0, 16, 27, 47, 48, 49, 50, 51, 57, 59, 60, 61, 62, 63, 64, 65, 66, 67, 76] g gC := (xg6.mono (by decide)).tr (c2.a.mono (by decide))
      obtain ⟨hr, p1, p2, p3, p4, p5, p6⟩ := r_pre hz c3 (m := tn) (by rw [c2.I (by decide)]; exact t6') t2 (by omega) (fun k hk => by
        rw [c2.I (by decide), xg6.I (sk139 hs) (by decide)]
        exact ⟨(tT k (by omega)).1, (tT k (by omega)).2.1⟩)
      obtain ⟨b', g5', h5', w1, w2, -, w4, -, w6⟩ := ls_rd hz a1 p1 a2 p2 p3
      have eq : some (b', g5') = some (true, g5) := w1.symm.trans e1
      obtain ⟨rfl, rfl⟩ : b' = true ∧ g5' = g5 := by
        cases eq
        exact ⟨rfl, rfl⟩
      obtain ⟨j', l2⟩ : ∃ i', LI T n M q i' g5' h5' := by
        rcases w6 with ⟨-, u⟩ | ⟨u, -⟩
        · rw [hq]
          exact u
        · cases u
      obtain ⟨F, hF⟩ : ∃ F, F = gI h5' 140 := ⟨_, rfl⟩
      obtain ⟨bd2, wq⟩ := bdo h5' j' l2
      rw [← hF] at bd2 wq
      have k3 := wq.1.2.2.2.2.2.2.2
      obtain ⟨gD, y1, -, -, y4, -⟩ := c_fin hs6 q155 bd2 k3
      have eq2 : some (F 0, gD) = some (gI hd5 140 0, gC) := y1.symm.trans c1
      have eD : gD = gC ∧ F 0 = gI hd5 140 0 := by
        have w := Prod.mk.inj (Option.some.inj eq2)
        exact ⟨w.2, w.1⟩
      rw [eD.1] at y1 y4
      have sh5 := p1.fm w4
      have r137 : gI h5' 137 = A := by
        rw [w4.I (by decide), p5.I (by decide), xC.I (sk137 hs) (by decide)]
        exact h1.2.1
      obtain ⟨hE, v1, v2, v3, v4, v5⟩ := r_endG sh5 l2.1.2.2.2.2.2.2.2.2 hF.symm r137 wq
      obtain ⟨A2, eA⟩ : ∃ A2, A2 = cpR A (fnR F) 0 1515 := ⟨_, rfl⟩
      rw [← eA] at v3
      have q2 : Wq (fnR F) A2 := fun j hj => by
        rw [eA]
        unfold cpR
        rw [if_pos (by omega), Nat.sub_zero]
      have hi2 : ∀ i, iR A2 i = iR A i := fun i => funext (fun j => by
        have : 1515 * 1 ≤ 1515 * (i + 1) := Nat.mul_le_mul_left _ (by omega)
        show A2 (1515 * (i + 1) + j) = A (1515 * (i + 1) + j)
        rw [eA]
        unfold cpR
        rw [if_neg (by omega)])
      have W := fn_wf wq
      have W2 := W.cg q2
      have y : Fm [0, 5, 6, 7, 8, 9, 10, 11, 12, 13, 14] [137, 140] gC hE := ((p5.mono (by decide) (by decide)).tr (w4.mono (by decide) (by decide))).tr (v2.mono (by decide) (by decide))
      have shE := c3.fm y
      have xh : Fa [0, 16, 27, 47, 48, 49, 50, 51, 57, 59, 60, 61, 62, 63, 64, 65, 66, 67, 76, 136, 137, 140] g hE := (xC.mono (by decide)).tr (y.1.a.mono (by decide))
      have nX : ∀ a ∈ [0, 16, 27, 47, 48, 49, 50, 51, 57, 59, 60, 61, 62, 63, 64, 65, 66, 67, 76, 136, 137, 140], ¬ X a := no_X h2 (by decide)
      have nC : gn gC = gn g5' := c2.1.trans n6
      have nE : gn hE = gn gC := y.1.1.1
      have sC : gs gC = gs g5' := c2.2.1.trans s6
      have sE : gs hE = gs gC := y.1.1.2.1
      have qg : q = gn g := by omega
      have qn5 : q + 5 ≤ gn g5' := l2.2.1.2.2.2
      obtain ⟨X2, eX⟩ : ∃ X2 : Nat → Prop, X2 = fun a => X a ∨ (q ≤ a ∧ a < gn hE) := ⟨_, rfl⟩
      have XO2 : XO X2 := fun a ha => by
        rw [eX] at ha
        rcases ha with u | u
        · exact h2 a u
        · exact Or.inr (by omega)
      have b47 : BD X2 hE 47 A2 := by
        have b1 : BD (fun a => q ≤ a) hE 47 (fnR F) := y4.fa y.1.a (fun a ha u => by simp at ha; omega) (by decide)
        exact (b1.mr (Y := X2) (fun a a1 a2 => by rw [eX]; exact Or.inr ⟨a1, a2⟩)).cg W.1 W.2.2.1 q2
      have k136 : gI hE 136 5 = 0 := by
        rw [v2.2 5 (by decide), w4.2 5 (by decide)]
        exact p6
      have ct := l2.1.2.2.1
      refine ⟨F 0, gC, hE, X2, A2, ag, ?_, ?_, ⟨⟨⟨shE, v3, W2.1, W2.2.1, W2.2.2.1⟩, XO2, b47, h4.fa hs xh (fun k k1 k2 => by simp; omega), Or.inl ?_⟩, t1.fa hs xh (by decide), ⟨0, by decide, ?_, k136, fun k hk => by omega⟩, ⟨?_, ?_⟩, ⟨0, 0, by decide, by decide, ?_, ?_, ?_, fun k hk => by omega⟩, ⟨fun i hi => ?_, ?_⟩, fun a ha => ?_, W2.2.2.2⟩, by omega, by omega, by omega⟩
      · rw [cA, li, ibT]
        exact y1
      · show f_X12_field 136 (nI n) gC = _
        rw [p4, w2, v1]
      · rw [y.I (by decide)]
        exact c5
      · rw [y.I (by decide), c6 1 (by decide)]
        exact i061
      · rw [y.I (by decide), c6 2 (by decide), i062, ct.2.1.2.1, v4]
      · rw [y.I (by decide), c6 3 (by decide), i063, ct.2.1.2.2, v5]
      · have e103 : A2 103 = fnR F 103 := by
          rw [eA]
          unfold cpR
          rw [if_pos (by omega)]
        rw [e103, fn_lo k3 (by omega)]
        exact wq.2.2.2.2.2.2.2.1
      · rw [y.I (by decide)]
        exact c7
      · rw [y.I (by decide)]
        exact c8
      · rw [hi2]
        have e1 : gI hE 138 = gI g 138 := ((xh.2 138 (by omega)).2.2 (by decide)).1
        have e2 : gR hE 41 = gR g 41 := ((xh.2 41 (by omega)).2.2 (by decide)).2.2
        rw [e1, e2]
        refine (t8.1 i hi).imp id (fun ⟨m1, b, m2, m3, m4, m5, m6⟩ => ⟨m1, b, m2, m3, fun k hk u => ?_, m5, (m6.fa xh nX (fun a ha => by simp at ha; omega)).mr (fun a a1 _ => by rw [eX]; exact Or.inl a1)⟩)
        rw [eX] at u
        rcases u with u | u
        · exact m4 k hk u
        · have := m6.gn_b
          omega
      · have e2 : gR hE 41 = gR g 41 := ((xh.2 41 (by omega)).2.2 (by decide)).2.2
        rw [e2]
        exact t8.2
      · rw [eX] at ha
        rcases ha with u | u
        · exact Nat.lt_of_lt_of_le (t9 a u) xh.1
        · exact u.2
  · refine CA.no (v := -3) h ?_ ?_
    · rw [f_X11_field, if_pos i1]
    · show f_X12_field 136 u g = _
      rw [f_X12_field, lg, gI_sIs, pk_un (by decide), t4, r_wiT u (by omega), bd_eq, i2, ibF]
  · refine CA.no (v := -3) h ?_ ?_
    · rw [f_X11_field, if_neg (nI_pos i2), t3, if_neg (nI_ge (by omega) (by omega))]
    · show f_X12_field 136 (nI i) g = _
      rw [f_X12_field, lg, gI_sIs, pk_un (by decide), t4, r_wiT _ (by omega), bd_eq, i4, ibF]
end FLD
