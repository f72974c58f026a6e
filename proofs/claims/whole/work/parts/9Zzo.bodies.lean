/-! LOCKSTEP of lines: pair, row, end of a line. -/
section BDY
variable {T : Nat → Nat} {n M i q p x y : Nat} {F F' : Nat → Int32} {g g' g1 g2 h h' h1 : G}
theorem ls_67 (hz : TZ T n M) (hp : p < 3) (q155 : 155 ≤ q) : ∀ r c fu1 fu2 F i g h, M - i ≤ r → r < fu1 → r < fu2 → c < i → Sh g → Sh h → CT T n M i g → RT T n i h → gR g 63 0 = some q → gR g 57 3 = some q → gI h 140 = F → PQ g q F → DQ g F → WQ F → nv F 3 = p → x < cS F → y < cS F → fre (fnR F) p x = true → fre (fnR F) p y = true → ∃ b g' h', f_X8_pairLine_67 fu1 57 (nI p) (nI x) (nI y) (nI c) g = some (b, g') ∧ f_X12_readPair_41 fu2 136 (nI p) (nI x) (nI y) h = some ((), h') ∧ Fq [57, q, q + 4, 64, 65, 66, 67] g g' ∧ gR g' = gR g ∧ Fm KrL [140] h h' ∧ ((b = true ∧ ∃ i', i ≤ i' ∧ CT T n M i' g' ∧ RT T n i' h' ∧ PQ g' q (gI h' 140) ∧ DQ g' (gI h' 140) ∧ WQ (gI h' 140) ∧ nv (gI h' 140) 614 = nv F 614) ∨ (b = false ∧ BadG g' h')) := by
  have M9 : M ≤ 900 := Nat.le_trans hz.2.1 hz.1
  have fin : ∀ c m1 m2 F i g h, Sh g → Sh h → CT T n M i g → RT T n i h → gR g 63 0 = some q → gR g 57 3 = some q → gI h 140 = F → PQ g q F → DQ g F → WQ F → nv F 3 = p → x < cS F → y < cS F → fre (fnR F) p x = true → fre (fnR F) p y = true → ¬ (kZ T n i = 2 ∧ (vZ T n i = 11 ∨ vZ T n i = 2)) → ∃ b g' h', f_X8_pairLine_67 (m1 + 1) 57 (nI p) (nI x) (nI y) (nI c) g = some (b, g') ∧ f_X12_readPair_41 (m2 + 1) 136 (nI p) (nI x) (nI y) h = some ((), h') ∧ Fq [57, q, q + 4, 64, 65, 66, 67] g g' ∧ gR g' = gR g ∧ Fm KrL [140] h h' ∧ ((b = true ∧ ∃ i', i ≤ i' ∧ CT T n M i' g' ∧ RT T n i' h' ∧ PQ g' q (gI h' 140) ∧ DQ g' (gI h' 140) ∧ WQ (gI h' 140) ∧ nv (gI h' 140) 614 = nv F 614) ∨ (b = false ∧ BadG g' h')) := by
    intro c m1 m2 F i g h hs hh cc rr q1 q2 hF pq dq wq pk hx hy fx fy ne
    obtain ⟨g2, a1, a2, a3, a4⟩ := c_108 hs q1 q2 q155 pq dq wq hp pk hx hy fx fy
    have w11 : f_X8_isWord 57 11 g = _ := c_isW cc (w := 11) (by decide)
    have w2 : f_X8_isWord 57 2 g = _ := c_isW cc (w := 2) (by decide)
    have i4 : f_X12_eats 136 4 h = _ := r_eatsW rr (w := 2) (by decide)
    have i3 : f_X12_eats 136 3 h = _ := r_eatsW rr (w := 11) (by decide)
    have F3 : F 3 = nI p := by
      rw [wq.1.2.2.2.2.2.2.1, pk]
    have e1 : f_X8_pairLine_67 (m1 + 1) 57 (nI p) (nI x) (nI y) (nI c) g = some (true, g2) := by
      rw [f_X8_pairLine_67, w11, bd_eq, decide_eq_false (fun u => ne ⟨u.1, Or.inl u.2⟩), ibF, w2, bd_eq, decide_eq_false (fun u => ne ⟨u.1, Or.inr u.2⟩), ibF, a1]
      split <;> rfl
    have e2 : f_X12_readPair_41 (m2 + 1) 136 (nI p) (nI x) (nI y) h = some ((), sI (sI (sI h 140 (88 + 2 * p) (nI x)) 140 (88 + 2 * p + 1) (nI y)) 140 3 (nI (p + 1))) := by
      rw [f_X12_readPair_41, if_pos rr.2.2.2.2.2, f_X12_readFlag, i4, if_neg (fun u => ne ⟨u.1, Or.inr u.2⟩), bd_eq, ibF, i3, if_neg (fun u => ne ⟨u.1, Or.inl u.2⟩), bd_eq, ibF, bd_eq, ibF, r_59 hh rr.2.2.2.2.2 hF hp F3]
    have hF' : gI (sI (sI (sI h 140 (88 + 2 * p) (nI x)) 140 (88 + 2 * p + 1) (nI y)) 140 3 (nI (p + 1))) 140 = tR F p x y := by
      rw [gI_sIs, gI_sIs, gI_sIs, hF]
      rfl
    refine ⟨true, g2, _, e1, e2, a2.q.mono (by simp), a2.R, ((Fm.rf.si (by decide) (by decide)).si (by decide) (by decide)).si (by decide) (by decide), Or.inl ⟨rfl, i, Nat.le_refl _, cc.fi a2 (fun a ha => by simp at ha; omega), rr.hh.hh.hh, ?_⟩⟩
    rw [hF']
    exact ⟨a3, a4, tR_wq wq hp pk hx hy fx fy, tR_v (by omega) (by omega) (by omega)⟩
  intro r
  induction r with
  | zero =>
    intro c fu1 fu2 F i g h hr hf1 hf2 hc hs hh cc rr q1 q2 hF pq dq wq pk hx hy fx fy
    obtain ⟨m1, rfl⟩ : ∃ m, fu1 = m + 1 := ⟨fu1 - 1, by omega⟩
    obtain ⟨m2, rfl⟩ : ∃ m, fu2 = m + 1 := ⟨fu2 - 1, by omega⟩
    refine fin c m1 m2 F i g h hs hh cc rr q1 q2 hF pq dq wq pk hx hy fx fy (fun u => ?_)
    have := (ls_next hz hs hh cc rr (by omega) (by omega)).1
    omega
  | succ r ih =>
    intro c fu1 fu2 F i g h hr hf1 hf2 hc hs hh cc rr q1 q2 hF pq dq wq pk hx hy fx fy
    obtain ⟨m1, rfl⟩ : ∃ m, fu1 = m + 1 := ⟨fu1 - 1, by omega⟩
    obtain ⟨m2, rfl⟩ : ∃ m, fu2 = m + 1 := ⟨fu2 - 1, by omega⟩
    by_cases ne : kZ T n i = 2 ∧ (vZ T n i = 11 ∨ vZ T n i = 2)
    · have iM := (ls_next hz hs hh cc rr (by omega) (by omega)).1
      have w11 : f_X8_isWord 57 11 g = _ := c_isW cc (w := 11) (by decide)
      have w2 : f_X8_isWord 57 2 g = _ := c_isW cc (w := 2) (by decide)
      have fo : FO T n M q p i F g h (f_X8_flag 57 (nI p) g) (f_X12_readFlag 136 (nI p) h) := by
        rcases ne.2 with u | u
        · exact ls_errand hz hs hh cc rr q2 hF pq dq wq q155 hp pk ⟨ne.1, u⟩
        · exact ls_mood hz hs hh cc rr hF pq dq wq q155 hp pk ⟨ne.1, u⟩
      have e1 : f_X8_pairLine_67 (m1 + 1) 57 (nI p) (nI x) (nI y) (nI c) g = f_X8_pairLine_92 (f_X8_pairLine_67 m1) 57 (nI p) (nI x) (nI y) (nI c) g := by
        rw [f_X8_pairLine_67, if_neg (lnge900 (by omega)), w11, bd_eq]
        by_cases u : vZ T n i = 11
        · rw [decide_eq_true ⟨ne.1, u⟩, ibT]
        · rw [decide_eq_false (fun w => u w.2), ibF, w2, bd_eq, decide_eq_true ⟨ne.1, ne.2.resolve_left u⟩, ibT]
      obtain ⟨bb, g2, h2, a1, a2, a3, a4, a5, a6⟩ := fo
      rw [e1, f_X8_pairLine_92, f_X12_readPair_41, if_pos rr.2.2.2.2.2, a1, a2, bd_eq, bd_eq]
      have hs2 : Sh g2 := Sh.fq a3 hs (fun q hq _ => by rw [a4]; exact hs.2.2 q hq)
      have hh2 := hh.fm a5
      rcases a6 with ⟨rfl, i2, j1, j2, j3, j4, j5, j6, j7⟩ | ⟨rfl, a6⟩
      · have e3 : nv (gI h2 140) 3 = p := (j7.nn hp (by omega)).trans pk
        have ec := j7.c hp
        rw [ibT, ibT, lad1]
        obtain ⟨bb, g3, h3, b1, b2, b3, b4, b5, b6⟩ := ih (c + 1) m1 m2 (gI h2 140) i2 g2 h2 (by omega) (by omega) (by omega) (by omega) hs2 hh2 j2 j3 (by rw [a4]; exact q1) (by rw [a4]; exact q2) rfl j4 j5 j6 e3 (by rw [ec]; exact hx) (by rw [ec]; exact hy) (by rw [j7.fre hp (by omega) (by have := cS_le wq.1; omega)]; exact fx) (by rw [j7.fre hp (by omega) (by have := cS_le wq.1; omega)]; exact fy)
        refine ⟨bb, g3, h3, b1, b2, (a3.mono (by simp)).tr b3, b4.trans a4, a5.tr b5, b6.imp (fun ⟨u, i', v1, v2⟩ => ⟨u, i', by omega, ?_⟩) id⟩
        rw [← j7.nn hp (k := 614) (by omega)]
        exact v2
      · rw [ibF, ibF, x_59 a6.x]
        exact ⟨false, g2, h2, rfl, rfl, a3.mono (by simp), a4, a5, Or.inr ⟨rfl, a6⟩⟩
    · exact fin c m1 m2 F i g h hs hh cc rr q1 q2 hF pq dq wq pk hx hy fx fy ne
theorem bd_id (o : Option (Unit × G)) : bd o (fun _ g => some ((), g)) = o := by
  cases o with
  | none => rfl
  | some p => rfl
theorem FLZ.fq {S : List Nat} (x : Fq S g g') (hq : q ≤ gn g) (hS : ∀ a ∈ S, a ∈ LLZ ∨ q ≤ a) : FLZ q g g' := FLZ.of x.a hq hS
theorem ls_pair (hz : TZ T n M) (l : LI T n M q i g h) (e : kZ T n i = 2) : LO T n M q i g h (f_X8_pairLine 57 g) (f_X12_readPair 136 h) := by
  obtain ⟨⟨hs, hh, cc, rr⟩, ⟨q1, q2, q155, qn⟩, pq, dq, wq, hN⟩ := l
  have M9 : M ≤ 900 := Nat.le_trans hz.2.1 hz.1
  have FUg := @FU_gt 902 (by decide)
  obtain ⟨F, hF⟩ : ∃ F, F = gI h 140 := ⟨_, rfl⟩
  rw [← hF] at pq dq wq hN
  have hA := wq.1
  have k3 := hA.2.2.2.2.2.2.2
  have cl := cS_le hA
  rw [f_X8_pairLine, f_X12_readPair, q2, dr_eq, gdK_pos pq.1, li, pq.2.1.2.2.2.1, md136_4 hh, gk140 hh, sn140 hh, show gdI (3 : Int32) 1515 = gdI (nI 3) 1515 (α := Unit × G) from rfl, gdI_nI (by decide) (by decide), li, show (3 : Int32).toNatClampNeg = 3 from rfl, ← hF, hA.2.2.2.2.2.2.1]
  rcases Nat.lt_or_ge (nv F 3) 3 with z | z
  · rw [if_pos (show nI (nv F 3) < (3 : Int32) from nI_lt (b := 3) z (by decide)), if_neg (show ¬ nI (nv F 3) = (3 : Int32) from fun u => by have := (nI_eq (b := 3) (by omega) (by decide)).mp u; omega), f_X12_readPair_17, if_pos rr.2.2.2.2.2]
    obtain ⟨iM, g1, h1, a1, a2, a3, a4, a5, a6⟩ := ls_next hz hs hh cc rr (by omega) (by omega)
    have hs1 := hs.fc a3
    have hh1 := hh.fm a4
    have R1 : gR g1 = gR g := a3.1.R
    have pq1 : PQ g1 q F := pq.fa a3.1.a (fun a ha => by simp at ha; omega)
    have dq1 : DQ g1 F := dq.fa hs a3.1.a (fun a ha => by simp at ha; omega)
    have hF1 : gI h1 140 = F := by
      rw [a4.I (by decide)]
      exact hF.symm
    have bdd := PQ.bd hs1 pq1 dq1 wq (by rw [R1]; exact q1)
    obtain ⟨mk, m1, m2⟩ := c_freeFor bdd (fn_wf wq).1 (fn_wf wq).2.1 k3
    have hm : ∀ c, c < 64 → bt mk c = (decide (c < cS F) && fre (fnR F) (nv F 3) c) := fun c hc => by
      rw [m2 c hc, (fn_pl k3).c_]
    rw [a1, a2, bd_eq, bd_eq, md57_0 hs1, gk63 hs1, m1, bd_eq]
    rcases ls_place hz hs1 hh1 a5 a6 hF1 wq hm with ⟨-, vx, fx, iM1, g2, h2, b1, b2, b3, b4, b5, b6, b7⟩ | ⟨v, g2, h2, b1, b2, b3, b4, b5⟩
    · have hs2 := hs1.fc b3
      have hh2 := hh1.fm b4
      have hF2 : gI h2 140 = F := by
        rw [b4.I (by decide)]
        exact hF1
      rw [b1, b2, bd_eq, bd_eq, ibT, li, b7]
      rcases ls_place hz hs2 hh2 b5 b6 hF2 wq hm with ⟨-, vy, fy, iM2, g3, h3, d1, d2, d3, d4, d5, d6, d7⟩ | ⟨v, g3, h3, d1, d2, d3, d4, d5⟩
      · have hs3 := hs2.fc d3
        have hh3 := hh2.fm d4
        have hF3 : gI h3 140 = F := by
          rw [d4.I (by decide)]
          exact hF2
        have x3 : Fi [57] g g3 := ((a3.1.mono (by simp)).tr (b3.1.mono (by simp))).tr (d3.1.mono (by simp))
        have R3 : gR g3 = gR g := x3.R
        rw [d1, d2, bd_eq, bd_eq, ibT, li, d7]
        obtain ⟨bb, g4, h4, f1, f2, f3, f4, f5, f6⟩ := ls_67 hz z q155 M 0 FU FU F (i + 1 + 1 + 1) g3 h3 (by omega) (by omega) (by omega) (by omega) hs3 hh3 d5 d6 (by rw [R3]; exact q1) (by rw [R3]; exact q2) hF3 (pq.fa x3.a (fun a ha => by simp at ha; omega)) (dq.fa hs x3.a (fun a ha => by simp at ha; omega)) wq rfl vx vy fx fy
        have f1' : f_X8_pairLine_67 FU 57 (nI (nv F 3)) (nI (vZ T n (i + 1))) (nI (vZ T n (i + 1 + 1))) 0 g3 = some (bb, g4) := f1
        rw [f1', f2]
        have R4 : gR g4 = gR g := f4.trans R3
        have hs4 : Sh g4 := Sh.fq f3 hs3 (fun q hq _ => by rw [f4]; exact hs3.2.2 q hq)
        have y4 : Fm KrL [140] h h4 := (((a4.mono (by decide) (by decide)).tr (b4.mono (by decide) (by decide))).tr (d4.mono (by decide) (by decide))).tr f5
        have n4 : gn g4 = gn g := f3.1.trans x3.1.1
        have s4 : gs g4 = gs g := f3.2.1.trans x3.1.2.1
        refine ⟨bb, g4, h4, rfl, rfl, (FLZ.fq x3.q (by omega) (fun a ha => by simp at ha; rw [ha]; exact Or.inl (by decide))).tr (FLZ.fq f3 (by have := x3.1.1; omega) (fun a ha => by simp at ha; rcases ha with rfl | rfl | rfl | rfl | rfl | rfl | rfl <;> first | exact Or.inl (by decide) | exact Or.inr (by omega))), y4, ⟨hs4, by omega, by omega⟩, f6.imp (fun ⟨u, i', v1, v2, v3, v4, v5, v6, v7⟩ => ⟨u, i', by omega, ⟨⟨hs4, hh.fm y4, v2, v3⟩, ⟨by rw [R4]; exact q1, by rw [R4]; exact q2, q155, by omega⟩, v4, v5, v6, by omega⟩, by omega, by omega⟩) id⟩
      · rw [d1, d2, bd_eq, bd_eq, ibF]
        obtain ⟨m, hm'⟩ : ∃ m, FU = m + 1 := ⟨FU - 1, rfl⟩
        rw [hm', x_41 d5.x]
        have x3 : Fi [57] g g3 := ((a3.1.mono (by simp)).tr (b3.1.mono (by simp))).tr (d3.1.mono (by simp))
        exact ⟨false, g3, h3, rfl, rfl, FLZ.fq x3.q (by omega) (fun a ha => by simp at ha; rw [ha]; exact Or.inl (by decide)), ((a4.mono (by decide) (by decide)).tr (b4.mono (by decide) (by decide))).tr (d4.mono (by decide) (by decide)), ⟨Sh.fi x3 hs, by rw [x3.1.1]; omega, by rw [x3.1.2.1]; omega⟩, Or.inr ⟨rfl, d5⟩⟩
    · rw [b1, b2, bd_eq, bd_eq, ibF, x_place (hh1.fm b4) b5.x, bd_eq]
      obtain ⟨m, hm'⟩ : ∃ m, FU = m + 1 := ⟨FU - 1, rfl⟩
      rw [hm', x_41 b5.x]
      have x3 : Fi [57] g g2 := (a3.1.mono (by simp)).tr (b3.1.mono (by simp))
      exact ⟨false, g2, h2, rfl, rfl, FLZ.fq x3.q (by omega) (fun a ha => by simp at ha; rw [ha]; exact Or.inl (by decide)), (a4.mono (by decide) (by decide)).tr (b4.mono (by decide) (by decide)), ⟨Sh.fi x3 hs, by rw [x3.1.1]; omega, by rw [x3.1.2.1]; omega⟩, Or.inr ⟨rfl, b5⟩⟩
  · obtain ⟨g2, h2, a1, a2, a3, a4, a5⟩ := ls_fail cc rr (f := 4) (by decide) (by decide) (by omega)
    have a1' : f_X8_refuse 57 4 g = some (false, g2) := a1
    have a2' : f_X12_fails 136 4 h = some ((), h2) := a2
    have e3 : nv F 3 = 3 := by omega
    rw [e3, if_neg (show ¬ nI 3 < (3 : Int32) by decide), if_pos (show nI 3 = (3 : Int32) from rfl), a1', a2', bd_eq, bd_eq, f_X12_readPair_17, if_neg a5.x]
    exact ⟨false, g2, h2, rfl, rfl, FLZ.fq a3.1.q (by omega) (fun a ha => by simp at ha; rw [ha]; exact Or.inl (by decide)), a4.mono (by decide) (by decide), ⟨hs.fc a3, by rw [a3.1.1.1]; omega, by rw [a3.1.1.2.1]; omega⟩, Or.inr ⟨rfl, a5⟩⟩
theorem ls_row (hz : TZ T n M) (l : LI T n M q i g h) (e : kZ T n i = 2) (k0 : nv (gI h 140) 3 = 0) : LO T n M q i g h (f_X8_rowLine 57 g) (f_X12_readRow 136 h) := by
  obtain ⟨⟨hs, hh, cc, rr⟩, ⟨q1, q2, q155, qn⟩, pq, dq, wq, hN⟩ := l
  have FUg := @FU_gt 902 (by decide)
  obtain ⟨F, hF⟩ : ∃ F, F = gI h 140 := ⟨_, rfl⟩
  rw [← hF] at pq dq wq hN k0
  have hA := wq.1
  obtain ⟨iM, g1, h1, a1, a2, a3, a4, a5, a6⟩ := ls_next hz hs hh cc rr (by omega) (by omega)
  have hs1 := hs.fc a3
  have hh1 := hh.fm a4
  have R1 : gR g1 = gR g := a3.1.R
  have pq1 : PQ g1 q F := pq.fa a3.1.a (fun a ha => by simp at ha; omega)
  have hF1 : gI h1 140 = F := by
    rw [a4.I (by decide)]
    exact hF.symm
  have r1 : nI (nv F 1) - (1 : Int32) = nI (nv F 1 - 1) := lsu1 hA.2.1
  rw [f_X8_rowLine, f_X12_readRow, md136_4 hh, gk140 hh, sn140 hh, show gdI (3 : Int32) 1515 = gdI (nI 3) 1515 (α := Unit × G) from rfl, gdI_nI (by decide) (by decide), show (3 : Int32).toNatClampNeg = 3 from rfl, ← hF, hA.2.2.2.2.2.2.1, k0, if_pos (show nI 0 ≤ (0 : Int32) by decide), f_X12_readRow_14, if_pos rr.2.2.2.2.2, a1, a2, bd_eq, bd_eq, R1, q2, dr_eq, gdK_pos pq1.1, pq1.2.1.1, hA.1, r1, md136_4 hh1, gk140 hh1, sn140 hh1, show gdI (1 : Int32) 1515 = gdI (nI 1) 1515 (α := Unit × G) from rfl, gdI_nI (by decide) (by decide), show (1 : Int32).toNatClampNeg = 1 from rfl, hF1, hA.1, r1]
  rcases ls_num hz hs1 hh1 a5 a6 (lo := 0) (hi := nv F 1 - 1) (by decide) (by have := hA.2.2.1; omega) with ⟨-, -, vr, iM1, g2, h2, b1, b2, b3, b4, b5, b6, b7⟩ | ⟨v, g2, h2, b1, b2, b3, b4, b5⟩
  · have b1' : f_X8_takeNumber 57 0 (nI (nv F 1 - 1)) g1 = some (true, g2) := b1
    have b2' : f_X12_takes 136 0 (nI (nv F 1 - 1)) h1 = some (nI (vZ T n (i + 1)), h2) := b2
    have hs2 := hs1.fc b3
    have hh2 := hh1.fm b4
    have x2 : Fi [57] g g2 := (a3.1.mono (by simp)).tr (b3.1.mono (by simp))
    have R2 : gR g2 = gR g := x2.R
    have pq2 : PQ g2 q F := pq.fa x2.a (fun a ha => by simp at ha; omega)
    have dq2 : DQ g2 F := dq.fa hs x2.a (fun a ha => by simp at ha; omega)
    have hF2 : gI h2 140 = F := by
      rw [b4.I (by decide)]
      exact hF1
    rw [b1', b2', bd_eq, bd_eq, ibT, R2, q2, dr_eq, gdK_pos pq2.1, li, b7, pq2.2.1.2.1, hA.2.2.2.1, pk_mul]
    obtain ⟨bb, g3, h3, d1, d2, d3, d4, d5, d6⟩ := ls_r38 (q := q) hz (r := vZ T n (i + 1)) FU 0 F (i + 1 + 1) g2 h2 hs2 hh2 b5 b6 (by rw [R2]; exact q1) (by rw [R2]; exact q2) q155 hF2 pq2 dq2 wq k0 (by have := hA.2.1; omega) (by omega) (by have := hA.2.2.2.2.2.1; omega)
    have d1' : f_X8_rowLine_38 FU 57 (nI (vZ T n (i + 1) * nv F 2)) 0 g2 = some (bb, g3) := d1
    have d2' : f_X12_readRow_42 FU 136 (nI (vZ T n (i + 1))) 0 h2 = some ((), h3) := d2
    rw [d1', d2']
    have R3 : gR g3 = gR g := d4.trans R2
    have hs3 : Sh g3 := Sh.fq d3 hs2 (fun q hq _ => by rw [d4]; exact hs2.2.2 q hq)
    have y3 : Fm KrL [140] h h3 := ((a4.mono (by decide) (by decide)).tr (b4.mono (by decide) (by decide))).tr d5
    have n3 : gn g3 = gn g := d3.1.trans x2.1.1
    have s3 : gs g3 = gs g := d3.2.1.trans x2.1.2.1
    exact ⟨bb, g3, h3, rfl, rfl, (FLZ.fq x2.q (by omega) (fun a ha => by simp at ha; rw [ha]; exact Or.inl (by decide))).tr (FLZ.fq d3 (by have := x2.1.1; omega) (fun a ha => by simp at ha; rcases ha with rfl | rfl | rfl <;> first | exact Or.inl (by decide) | exact Or.inr (by omega))), y3, ⟨hs3, by omega, by omega⟩, d6.imp (fun ⟨u, i', v1, v2, v3, v4, v5, v6, v7⟩ => ⟨u, i', by omega, ⟨⟨hs3, hh.fm y3, v2, v3⟩, ⟨by rw [R3]; exact q1, by rw [R3]; exact q2, q155, by omega⟩, v4, v5, v6, by omega⟩, by omega, by omega⟩) id⟩
  · have b1' : f_X8_takeNumber 57 0 (nI (nv F 1 - 1)) g1 = some (false, g2) := b1
    have b2' : f_X12_takes 136 0 (nI (nv F 1 - 1)) h1 = some (v, h2) := b2
    have hh2 := hh1.fm b4
    obtain ⟨m, hm'⟩ : ∃ m, FU = m + 1 := ⟨FU - 1, rfl⟩
    have e42 : f_X12_readRow_42 FU 136 v 0 h2 = some ((), h2) := by
      rw [hm', f_X12_readRow_42, md136_4 hh2, gk140 hh2, sn140 hh2, show gdI (2 : Int32) 1515 = gdI (nI 2) 1515 (α := Unit × G) from rfl, gdI_nI (by decide) (by decide), if_neg b5.x]
      split <;> rfl
    rw [b1', b2', bd_eq, bd_eq, ibF, e42]
    have x3 : Fi [57] g g2 := (a3.1.mono (by simp)).tr (b3.1.mono (by simp))
    exact ⟨false, g2, h2, rfl, rfl, FLZ.fq x3.q (by omega) (fun a ha => by simp at ha; rw [ha]; exact Or.inl (by decide)), (a4.mono (by decide) (by decide)).tr (b4.mono (by decide) (by decide)), ⟨Sh.fi x3 hs, by rw [x3.1.1]; omega, by rw [x3.1.2.1]; omega⟩, Or.inr ⟨rfl, b5⟩⟩
end BDY
