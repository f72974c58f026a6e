/-! LOCKSTEP of lines: a law, a line's end, a line. -/
section LIN
variable {T : Nat → Nat} {n M i q w : Nat} {F F' : Nat → Int32} {g g' g1 g2 h h' h1 : G} {S : List Nat}
theorem CT.fa (c : CT T n M i g) (hs : Sh g) (x : Fa S g g') (hS : ∀ a ∈ S, 61 < a) : CT T n M i g' := by
  have n : ∀ a, a ≤ 61 → a ∉ S := fun a ha u => by
    have := hS a u
    omega
  obtain ⟨c1, c2, c3, c4, c5, c6, c7⟩ := c
  unfold CT TA
  rw [x.I (sk57 hs) (n 57 (by decide)), x.I (sk59 hs) (n 59 (by decide)), x.I (sk60 hs) (n 60 (by decide)), x.I (sk61 hs) (n 61 (by decide))]
  exact ⟨c1, c2, c3, c4, c5, c6, c7⟩
theorem Sh.fq0 (hs : Sh g) (x : Fa [q] g g') (hq : 155 ≤ q) : Sh g' := by
  have t : shF.all (fun q => decide (q.1 < 155)) = true := by decide +kernel
  refine hs.fa x (fun q' h1 h2 => ?_)
  have := of_decide_eq_true (List.all_eq_true.mp t q' h1)
  simp at h2
  omega
theorem x_45 (r : gI h 136 11 ≠ 0) (a b : Int32) : f_X12_readLaw_45 136 a b h = some ((), h) := by
  rw [f_X12_readLaw_45, if_neg r]
theorem x_18 (hh : Sh h) (r : gI h 136 11 ≠ 0) (a : Int32) : f_X12_readLaw_18 136 a h = some ((), h) := by
  have xs : f_X12_readSum_T 136 0 h = some ((), h) := x_sum (hSr := (R_X12 7).1) r 0
  have xt : f_X12_readTruth_T 136 0 h = some ((), h) := x_truth (hSr := (R_X12 7).1) (hTr := (R_X12 7).2.1) (hUr := (R_X12 7).2.2) r 0
  rw [f_X12_readLaw_18, md136_4 hh, gk140 hh, sn140 hh, show gdI (614 : Int32) 1515 = gdI (nI 614) 1515 (α := Unit × G) from rfl, gdI_nI (by decide) (by decide), li, xs, xt, bd_eq, x_45 r]
  split <;> rfl
theorem ls_law (hz : TZ T n M) (l : LI T n M q i g h) (e : kZ T n i = 2) (hw : w < 2) : LO T n M q i g h (f_X8_lawLine 57 (nI (1 - w)) g) (f_X12_readLaw 136 (nI w) h) := by
  obtain ⟨⟨hs, hh, cc, rr⟩, ⟨q1, q2, q155, qn⟩, pq, dq, wq, hN⟩ := l
  have M9 : M ≤ 900 := Nat.le_trans hz.2.1 hz.1
  obtain ⟨F, hF⟩ : ∃ F, F = gI h 140 := ⟨_, rfl⟩
  rw [← hF] at pq dq wq hN
  have h614 := wq.2.2.2.2.2.2.1
  obtain ⟨iM, g1, h1, a1, a2, a3, a4, a5, a6⟩ := ls_next hz hs hh cc rr (by omega) (by omega)
  have hs1 := hs.fc a3
  have hh1 := hh.fm a4
  have hF1 : gI h1 140 = F := by
    rw [a4.I (by decide)]
    exact hF.symm
  have x2 : Fc KcL [62] g (sI g1 57 17 0) := (a3.mono (by decide) (by decide)).sf (by decide)
  have c2 : CT T n M (i + 1) (sI g1 57 17 0) := a5.fc (K := [17]) (S := []) (Fc.rf.sf (by decide)) (by decide) (by decide)
  have hs2 := hs.fc x2
  have flz : ∀ g', Fc KcL [62] g g' → FLZ q g g' := fun g' x => FLZ.fq x.1.q (by omega) (fun a ha => by simp at ha; rcases ha with rfl | rfl <;> exact Or.inl (by decide))
  rw [f_X8_lawLine, f_X12_readLaw, a1, a2, bd_eq, bd_eq, lg]
  rcases ls_take hz hs2 hh1 c2 a6 (k0 := 58) (x := 31) (by decide) (by decide) with ⟨-, iM1, g3, h3, b1, b2, b3, b4, b5, b6⟩ | ⟨-, g3, h3, b1, b2, b2', b3, b4, b5⟩
  · have b1' : f_X8_take 57 58 (sI g1 57 17 0) = some (true, g3) := b1
    have b2' : f_X12_eats 136 31 h1 = some (true, h3) := b2
    have hs3 := hs2.fc b3
    have hh3 := hh1.fm b4
    have hF3 : gI h3 140 = F := by
      rw [b4.I (by decide)]
      exact hF1
    have cd : CD [] g3 := ⟨by rw [b3.2 17 (by decide), gI_sIs, pk_us]; rfl, fun j hj => (by cases hj)⟩
    have rd : RD (nv F 614) F [] h3 := ⟨by rw [hF3]; exact h614, fun j hj => (by cases hj), fun k _ => by rw [hF3]⟩
    have x3 : Fc KcL [62] g g3 := x2.tr (b3.mono (by decide) (by decide))
    have y3 : Fm KrL [140] h h3 := (a4.mono (by decide) (by decide)).tr (b4.mono (by decide) (by decide))
    have al := ls_all (N := nv F 614) (F := F) hz 8 0 (by decide) (by decide)
    have key : ∃ bb g4 h4, (if nI (1 - w) = 0 then (bd (f_X8_sum_T 57 (0 : Int32) g3) (fun v13 g14 => if (b2i v13) = 0 then (some (false, g14)) else (f_X8_lawLine_43 57 (nI (1 - w)) g14))) else (bd (f_X8_truth_T 57 (0 : Int32) g3) (fun v18 g19 => if (b2i v18) = 0 then (some (false, g19)) else (f_X8_lawLine_43 57 (nI (1 - w)) g19)))) = (if b2i bb = 0 then some (false, g4) else f_X8_lawLine_43 57 (nI (1 - w)) g4) ∧ f_X12_readLaw_18 136 (nI w) h3 = f_X12_readLaw_45 136 (nI w) (nI (nv F 614)) h4 ∧ Fc KcL [62] g3 g4 ∧ Fm KrL [140] h3 h4 ∧ ((bb = true ∧ ∃ i', CT T n M i' g4 ∧ RT T n i' h4 ∧ ∃ L, i + 1 + 1 + L.length ≤ i' ∧ i + 1 + 1 < i' ∧ CD L g4 ∧ RD (nv F 614) F L h4 ∧ (∀ c ∈ L, c < 4000) ∧ tyL L [] = some [decide (w = 0)]) ∨ (bb = false ∧ BadG g4 h4)) := by
      have e18 : f_X12_readLaw_18 136 (nI w) h3 = if nI w = (1 : Int32) then (bd (f_X12_readSum_T 136 (0 : Int32) h3) (fun v12 g13 => f_X12_readLaw_45 136 (nI w) (nI (nv F 614)) g13)) else (bd (f_X12_readTruth_T 136 (0 : Int32) h3) (fun v8 g9 => f_X12_readLaw_45 136 (nI w) (nI (nv F 614)) g9)) := by
        rw [f_X12_readLaw_18, md136_4 hh3, gk140 hh3, sn140 hh3, show gdI (614 : Int32) 1515 = gdI (nI 614) 1515 (α := Unit × G) from rfl, gdI_nI (by decide) (by decide), li, show (614 : Int32).toNatClampNeg = 614 from rfl, hF3, h614]
      rw [e18]
      obtain rfl | rfl : w = 0 ∨ w = 1 := by omega
      · obtain ⟨bb, g4, h4, c1, c2, c3, c4, c5⟩ := al.2.1 [] (i + 1 + 1) g3 h3 hs3 hh3 b5 b6 cd rd (by simp; omega)
        have c1' : f_X8_truth_T 57 0 g3 = some (bb, g4) := c1
        have c2' : f_X12_readTruth_T 136 0 h3 = some ((), h4) := c2
        refine ⟨bb, g4, h4, ?_, ?_, c3, c4, c5.imp (fun ⟨u, i', v1, v2, L, v3, v4, v5, v6, v7, v8⟩ => ⟨u, i', v1, v2, L, v3, v4, v5, v6, v7, v8 [] (by decide)⟩) id⟩
        · rw [if_neg (by decide), c1', bd_eq]
        · rw [if_neg (by decide), c2', bd_eq]
      · obtain ⟨bb, g4, h4, c1, c2, c3, c4, c5⟩ := al.1 [] (i + 1 + 1) g3 h3 hs3 hh3 b5 b6 cd rd (by simp; omega)
        have c1' : f_X8_sum_T 57 0 g3 = some (bb, g4) := c1
        have c2' : f_X12_readSum_T 136 0 h3 = some ((), h4) := c2
        refine ⟨bb, g4, h4, ?_, ?_, c3, c4, c5.imp (fun ⟨u, i', v1, v2, L, v3, v4, v5, v6, v7, v8⟩ => ⟨u, i', v1, v2, L, v3, v4, v5, v6, v7, v8 [] (by decide)⟩) id⟩
        · rw [if_pos (by decide), c1', bd_eq]
        · rw [if_pos (by decide), c2', bd_eq]
    obtain ⟨bb, g4, h4, c1, c2, c3, c4, c5⟩ := key
    have x4 := x3.tr c3
    have y4 := y3.tr c4
    have hs4 := hs.fc x4
    have hh4 := hh.fm y4
    rw [b1', b2', bd_eq, bd_eq, ibT, ibT, c1, c2]
    rcases c5 with ⟨rfl, i', v1, v2, L, v3, v4, v5, v6, v7, v8⟩ | ⟨rfl, c5⟩
    · have iM' := v1.2.2.2.1
      have n4 : gn g4 = gn g := x4.1.1.1
      have s4 : gs g4 = gs g := x4.1.1.2.1
      have R4 : gR g4 = gR g := x4.1.R
      have pq4 : PQ g4 q F := pq.fa x4.1.a (fun a ha => by simp at ha; omega)
      have dq4 : DQ g4 F := dq.fa hs x4.1.a (fun a ha => by simp at ha; omega)
      obtain ⟨g5, d1, d2, d3, d4, d5, d6, d7, d8, d9⟩ := c_43 hs4 (by rw [R4]; exact q2) q155 (by omega) pq4.1 hw v5 (by omega)
      have kq := Kq.of hw v6 (by omega)
      have hs5 : Sh g5 := hs4.fq0 d2 q155
      rw [ibT, d1, r_45 hh4 v2.2.2.2.2.2 hw v6.1]
      have hF5 : gI (sI (sI (sI h4 140 (4 + w) 1) 140 (6 + w) (nI (nv F 614))) 140 (8 + w) (nI L.length)) 140 = lR (gI h4 140) w (nv F 614) L.length := by
        rw [gI_sIs, gI_sIs, gI_sIs]
        rfl
      have wq5 := kq.wq wq hw rfl (by omega) v7 v8
      refine ⟨true, g5, _, rfl, rfl, (flz g4 x4).tr (FLZ.of d2 (by omega) (fun a ha => by simp at ha; exact Or.inr (by omega))), ((y4.si (by decide) (by decide)).si (by decide) (by decide)).si (by decide) (by decide), ⟨hs5, by omega, by omega⟩, Or.inl ⟨rfl, i', by omega, ⟨⟨hs5, hh4, v1.fa hs4 d2 (fun a ha => by simp at ha; omega), v2.hh.hh.hh⟩, ⟨?_, ?_, q155, by omega⟩, ?_⟩, by omega, by omega⟩⟩
      · rw [d2.R (sk63 hs4) (by simp; omega), R4]
        exact q1
      · rw [d2.R (sk57 hs4) (by simp; omega), R4]
        exact q2
      · rw [hF5]
        refine ⟨kq.pq hw pq4 wq rfl (by omega) (by omega) v7 d2 d5 d6 (by rw [d7]) (by rw [← n4] at *; exact d8) d9 v8, kq.dq hw wq.1.2.2.2.2.2.2.2 (dq4.fa hs4 d2 (fun a ha => by simp at ha; omega)), wq5, ?_⟩
        have : nv (lR (gI h4 140) w (nv F 614) L.length) 614 = nv F 614 + L.length := by
          show (lR (gI h4 140) w (nv F 614) L.length 614).toNatClampNeg = _
          rw [kq.2.2.2.2.1, nI_clamp (by omega)]
        omega
    · rw [ibF, x_45 c5.x]
      exact ⟨false, g4, h4, rfl, rfl, flz g4 x4, y4, ⟨hs4, by rw [x4.1.1.1]; omega, by rw [x4.1.1.2.1]; omega⟩, Or.inr ⟨rfl, c5⟩⟩
  · have b1' : f_X8_take 57 58 (sI g1 57 17 0) = some (false, g3) := b1
    have b2'' : f_X12_eats 136 31 h1 = some (false, h1) := b2
    rw [b1', b2'', bd_eq, bd_eq, ibF, ibF, b2', bd_eq, x_18 (hh1.fm b4) b5.x]
    have x3 : Fc KcL [62] g g3 := x2.tr (b3.mono (by decide) (by decide))
    exact ⟨false, g3, h3, rfl, rfl, flz g3 x3, (a4.mono (by decide) (by decide)).tr (b4.mono (by decide) (by decide)), ⟨hs.fc x3, by rw [x3.1.1.1]; omega, by rw [x3.1.1.2.1]; omega⟩, Or.inr ⟨rfl, b5⟩⟩
/-! rows that differ in the number of lines -/
def Zq (F F' : Nat → Int32) : Prop := ∀ k, k ≠ 0 → F' k = F k
theorem Zq.nn (e : Zq F F') {k : Nat} (hk : k ≠ 0) : nv F' k = nv F k := by
  unfold nv
  rw [e k hk]
theorem Zq.c (e : Zq F F') : cS F' = cS F := by
  unfold cS
  rw [e.nn (by omega), e.nn (by omega)]
theorem Zq.lq (e : Zq F F') : Lq F F' := fun k hk => e k (by omega)
theorem Zq.wq (e : Zq F F') (h : WQ F) : WQ F' := by
  obtain ⟨h1, h2, h3, h4, h5, h6, h7, h8, h9⟩ := id h
  have Q := h.lq e.lq (by rw [e.nn (by omega)]; exact Nat.le_refl _)
  have n3 : nv F' 3 = nv F 3 := e.nn (by omega)
  have H_ : ∀ c, ht F' c = ht F c := fun c => e.nn (by omega)
  have T_ : ∀ c, tw F' c = tw F c := fun c => e.nn (by omega)
  refine ⟨?_, fun c hc => ?_, fun i hi => ?_, fun i j hi hj hij => ?_, fun r hr => ?_, Q, ?_, ?_, fun r hr => ?_⟩
  · unfold Dm
    rw [e.nn (by omega), e.nn (by omega), n3, e 1 (by omega), e 2 (by omega), e 3 (by omega)]
    exact h1
  · rw [H_, e.c, e _ (by omega)]
    exact h2 c hc
  · rw [n3] at hi
    rw [T_, H_, e.c, e _ (by omega)]
    exact h3 i hi
  · rw [n3] at hi hj
    rw [T_, T_]
    exact h4 i j hi hj hij
  · rw [show md F' r = md F r from e.nn (by omega), e _ (by omega)]
    exact h5 r hr
  · rw [e.nn (by omega), e _ (by omega)]
    exact h7
  · rw [e _ (by omega)]
    exact h8
  · rw [e _ (by omega)]
    exact h9 r hr
theorem Zq.dq (e : Zq F F') (d : DQ g F) : DQ g F' := by
  obtain ⟨d1, d2, d3, d4, d5⟩ := d
  have T_ : ∀ c, tw F' c = tw F c := fun c => e.nn (by omega)
  unfold DQ
  rw [e.nn (k := 3) (by omega)]
  refine ⟨fun c hc => ?_, fun i hi => ?_, fun r hr => ?_, fun r hr => ?_, fun r hr => ?_⟩
  · rw [e (10 + c) (by omega)]
    exact d1 c hc
  · rw [e (88 + i) (by omega)]
    exact d2 i hi
  · unfold sp
    rw [T_, T_, e.nn (k := 2) (by omega)]
    exact d3 r hr
  · rw [e (97 + r) (by omega)]
    exact d4 r hr
  · unfold dnw
    rw [T_, T_, e (46 + 2 * r) (by omega), e (46 + 2 * r + 1) (by omega)]
    exact d5 r hr
theorem Zq.pq (e : Zq F F') (h : PQ g q F) (hW : WQ F) (v : Int32) (h0 : F' 0 = v) : PQ (sI g q 5 v) q F' := by
  have L := h.lq hW e.lq
  have x : Fi [q] g (sI g q 5 v) := Fi.rf.si (by simp)
  obtain ⟨h1, h2, h3, ⟨h4, h5, h6, h7⟩, ⟨h8, h9, h10, h11⟩, h12, h13⟩ := id h
  have nS : ∀ k, k ≠ 0 → q + k ∉ [q] := fun k hk => by
    simp
    omega
  refine ⟨h1.fi x, ?_⟩
  rw [gI_sIs, x.R, x.I (nS 1 (by decide)), x.I (nS 2 (by decide)), x.I (nS 3 (by decide)), x.I (nS 4 (by decide)), e.c, e.nn (k := 2) (by omega), e 1 (by omega), e 2 (by omega), e 3 (by omega), h0, pk_un (by decide), pk_un (by decide), pk_un (by decide), pk_un (by decide), pk_us]
  refine ⟨⟨h2.1, h2.2.1, h2.2.2.1, h2.2.2.2.1, rfl⟩, h3, ⟨h4.fa x.a, h5.fa x.a, h6.fa x.a, h7.fa x.a⟩, ⟨fun c hc => ?_, h9, h10, fun i hi => ?_⟩, L.1.fa x.a (fun a ha u => by simp at ha; omega), L.2.fa x.a (fun a ha u => by simp at ha; omega)⟩
  · rw [hp_cg (c := c) (e.nn (by omega))]
    exact h8 c hc
  · rw [e _ (by omega)]
    exact h11 i hi
theorem r_e14 (hh : Sh h) : f_X12_ends_14 136 h = some ((), sI h 140 0 (gI h 140 0 + 1)) := by
  rw [f_X12_ends_14, md136_4 hh, gk140 hh, sn140 hh, show gdI (0 : Int32) 1515 = gdI (nI 0) 1515 (α := Unit × G) from rfl, gdI_nI (by decide) (by decide), lg, show (0 : Int32).toNatClampNeg = 0 from rfl]
theorem x_ends (hh : Sh h) (r : gI h 136 11 ≠ 0) : f_X12_ends 136 h = some ((), sI h 140 0 (gI h 140 0 + 1)) := by
  rw [f_X12_ends, x_eats r, bd_eq, ibF, x_fails r, bd_eq, r_e14 hh]
theorem bdI {α : Type} (o : Option (α × G)) : bd o (fun v g => some (v, g)) = o := by
  cases o with
  | none => rfl
  | some p => rfl
theorem ls_end (hz : TZ T n M) (l : LI T n M q i g h) : ∃ b g' h', f_X8_endLine 57 g = some (b, g') ∧ f_X12_ends 136 h = some ((), h') ∧ FLZ q g g' ∧ Fm KrL [140] h h' ∧ (Sh g' ∧ gn g' = gn g ∧ gs g' = gs g) ∧ ((b = true ∧ LI T n M q (i + 1) g' h') ∨ (b = false ∧ BadG g' h')) := by
  obtain ⟨⟨hs, hh, cc, rr⟩, ⟨q1, q2, q155, qn⟩, pq, dq, wq, hN⟩ := l
  obtain ⟨F, hF⟩ : ∃ F, F = gI h 140 := ⟨_, rfl⟩
  rw [← hF] at pq dq wq hN
  have x1 : Fi [q] g (sI g q 5 (F 0 + 1)) := Fi.rf.si (by simp)
  have hs1 := Sh.fi x1 hs
  have c1 : CT T n M i (sI g q 5 (F 0 + 1)) := cc.fi x1 (fun a ha => by simp at ha; omega)
  have ez : Zq F (upd F 0 (F 0 + 1)) := fun k hk => pk_un hk
  rw [f_X8_endLine, q2, dr_eq, gdK_pos pq.1, pq.2.1.2.2.2.2, lg, bdI, f_X12_ends]
  rcases ls_take hz hs1 hh c1 rr (k0 := 59) (x := 30) (by decide) (by decide) with ⟨-, iM, g2, h2, a1, a2, a3, a4, a5, a6⟩ | ⟨-, g2, h2, a1, a2, a2', a3, a4, a5⟩
  · have a1' : f_X8_take 57 59 (sI g q 5 (F 0 + 1)) = some (true, g2) := a1
    have a2' : f_X12_eats 136 30 h = some (true, h2) := a2
    have hs2 := hs1.fc a3
    have hh2 := hh.fm a4
    have hF2 : gI h2 140 = F := by
      rw [a4.I (by decide)]
      exact hF.symm
    have x2 : Fi [q, 57] g g2 := (x1.mono (by simp)).tr (a3.1.mono (by simp))
    have hF3 : gI (sI h2 140 0 (gI h2 140 0 + 1)) 140 = upd F 0 (F 0 + 1) := by
      rw [gI_sIs, hF2]
    rw [a1', a2', bd_eq, ibT, r_e14 hh2]
    refine ⟨true, g2, _, rfl, rfl, FLZ.fq x2.q (by omega) (fun a ha => by simp at ha; rcases ha with rfl | rfl; exact Or.inr (Nat.le_refl _); exact Or.inl (by decide)), (a4.mono (by decide) (by decide)).tr (Fm.rf.si (by decide) (by decide)), ⟨hs2, x2.1.1, x2.1.2.1⟩, Or.inl ⟨rfl, ⟨hs2, hh2.si, a5, a6.hh⟩, ⟨by rw [x2.R]; exact q1, by rw [x2.R]; exact q2, q155, by have := x2.1.1; omega⟩, ?_⟩⟩
    rw [hF3]
    refine ⟨(ez.pq pq wq (F 0 + 1) pk_us).fa a3.1.a (fun a ha => by simp at ha; omega), ez.dq (dq.fa hs x2.a (fun a ha => by simp at ha; omega)), ez.wq wq, ?_⟩
    rw [ez.nn (by decide)]
    omega
  · have a1' : f_X8_take 57 59 (sI g q 5 (F 0 + 1)) = some (false, g2) := a1
    have a2'' : f_X12_eats 136 30 h = some (false, h) := a2
    have hh2 := hh.fm a4
    have x2 : Fi [q, 57] g g2 := (x1.mono (by simp)).tr (a3.1.mono (by simp))
    rw [a1', a2'', bd_eq, ibF, a2', bd_eq, r_e14 hh2]
    exact ⟨false, g2, _, rfl, rfl, FLZ.fq x2.q (by omega) (fun a ha => by simp at ha; rcases ha with rfl | rfl; exact Or.inr (Nat.le_refl _); exact Or.inl (by decide)), (a4.mono (by decide) (by decide)).tr (Fm.rf.si (by decide) (by decide)), ⟨hs1.fc a3, x2.1.1, x2.1.2.1⟩, Or.inr ⟨rfl, a5.hh (by decide)⟩⟩
theorem LO.seq {c : Option (Bool × G)} {r : Option (Unit × G)} (hz : TZ T n M) (hh : Sh h) (a : LO T n M q i g h c r) : LO T n M q i g h (bd c (fun v g => if b2i v = 0 then some (false, g) else bd (f_X8_endLine 57 g) (fun v g => if b2i v = 0 then some (false, g) else some (true, g)))) (bd r (fun _ h => f_X12_ends 136 h)) := by
  obtain ⟨b, g1, h1, a1, a2, a3, a4, a5, a6⟩ := a
  rw [a1, a2, bd_eq, bd_eq]
  rcases a6 with ⟨rfl, i', v1, v2, v3, v4⟩ | ⟨rfl, a6⟩
  · obtain ⟨b2, g2, h2, b1, b2', b3, b4, ⟨b5, b5', b5''⟩, b6⟩ := ls_end hz v2
    rw [ibT, b1, b2', bd_eq]
    rcases b6 with ⟨rfl, b6⟩ | ⟨rfl, b6⟩
    · rw [ibT]
      exact ⟨true, g2, h2, rfl, rfl, a3.tr b3, a4.tr b4, ⟨b5, by omega, by omega⟩, Or.inl ⟨rfl, i' + 1, by omega, b6, by omega, by omega⟩⟩
    · rw [ibF]
      exact ⟨false, g2, h2, rfl, rfl, a3.tr b3, a4.tr b4, ⟨b5, by omega, by omega⟩, Or.inr ⟨rfl, b6⟩⟩
  · rw [ibF, x_ends (hh.fm a4) a6.x]
    exact ⟨false, g1, _, rfl, rfl, a3, a4.tr (Fm.rf.si (by decide) (by decide)), a5, Or.inr ⟨rfl, a6.hh (by decide)⟩⟩
theorem ls_line (hz : TZ T n M) (l : LI T n M q i g h) : LO T n M q i g h (f_X8_line 57 g) (bd (f_X12_readLine 136 h) (fun _ h => f_X12_ends 136 h)) := by
  obtain ⟨⟨hs, hh, cc, rr⟩, ⟨q1, q2, q155, qn⟩, pq, dq, wq, hN⟩ := id l
  have w0 := rr.2.2.2.2.2
  have W6 : f_X8_isWord 57 6 g = _ := c_isW cc (w := 6) (by decide)
  have W0 : f_X8_isWord 57 0 g = _ := c_isW cc (w := 0) (by decide)
  have W9 : f_X8_isWord 57 9 g = _ := c_isW cc (w := 9) (by decide)
  have W10 : f_X8_isWord 57 10 g = _ := c_isW cc (w := 10) (by decide)
  have I1 : f_X12_is 136 1 h = _ := r_isW rr (w := 6) (by decide)
  have I2 : f_X12_is 136 2 h = _ := r_isW rr (w := 0) (by decide)
  have I5 : f_X12_is 136 5 h = _ := r_isW rr (w := 9) (by decide)
  have I6 : f_X12_is 136 6 h = _ := r_isW rr (w := 10) (by decide)
  have bad : ∀ r, (∀ h2, f_X12_fails 136 2 h = some ((), h2) → gI h2 136 11 ≠ 0 → r = some ((), h2)) → LO T n M q i g h (bd (f_X8_refuseToken 57 g) (fun v16 g17 => some (v16, g17))) (bd r (fun _ h => f_X12_ends 136 h)) := fun r hr => by
    obtain ⟨g2, h2, a1, a2, a3, a4, a5⟩ := ls_bad cc rr
    rw [a1, bd_eq, hr h2 a2 a5.x, bd_eq, x_ends (hh.fm a4) a5.x]
    exact ⟨false, g2, _, rfl, rfl, FLZ.fq a3.1.q (by omega) (fun a ha => by simp at ha; rw [ha]; exact Or.inl (by decide)), (a4.mono (by decide) (by decide)).tr (Fm.rf.si (by decide) (by decide)), ⟨hs.fc a3, by rw [a3.1.1.1]; omega, by rw [a3.1.1.2.1]; omega⟩, Or.inr ⟨rfl, a5.hh (by decide)⟩⟩
  rw [f_X8_line, f_X12_readLine, W6, bd_eq, if_pos w0, I1, bd_eq]
  by_cases e6 : kZ T n i = 2 ∧ vZ T n i = 6
  · rw [decide_eq_true e6, ibT, ibT, q2, dr_eq, gdK_pos pq.1, pq.2.1.2.2.2.1, wq.1.2.2.2.2.2.2.1]
    rcases Nat.eq_zero_or_pos (nv (gI h 140) 3) with z | z
    · rw [z, if_pos (show nI 0 = (0 : Int32) from rfl), bd_id]
      exact (ls_row hz l e6.1 z).seq hz hh
    · have k3 := wq.1.2.2.2.2.2.2.2
      rw [if_neg (nI_ne0 z (by omega)), f_X8_line_39, W0, bd_eq, decide_eq_false (by omega), ibF, W9, bd_eq, decide_eq_false (by omega), ibF, W10, bd_eq, decide_eq_false (by omega), ibF, bd_id]
      refine bad _ (fun h2 a2 a5 => ?_)
      rw [f_X12_readRow, md136_4 hh, gk140 hh, sn140 hh, show gdI (3 : Int32) 1515 = gdI (nI 3) 1515 (α := Unit × G) from rfl, gdI_nI (by decide) (by decide), show (3 : Int32).toNatClampNeg = 3 from rfl, wq.1.2.2.2.2.2.2.1, if_neg (nI_nle z (by omega)), a2, bd_eq, f_X12_readRow_14, if_neg a5]
  · rw [decide_eq_false e6, ibF, ibF, f_X8_line_39, W0, bd_eq, I2, bd_eq]
    by_cases e0 : kZ T n i = 2 ∧ vZ T n i = 0
    · rw [decide_eq_true e0, ibT, ibT, bd_id]
      exact (ls_pair hz l e0.1).seq hz hh
    · rw [decide_eq_false e0, ibF, ibF, W9, bd_eq, I5, bd_eq]
      by_cases e9 : kZ T n i = 2 ∧ vZ T n i = 9
      · have k9 : gI h 136 9 = nI 5 := by
          rw [rr.2.2.2.1, e9.1, e9.2]
          rfl
        have l0 : nI 5 - (5 : Int32) = nI 0 := rfl
        rw [decide_eq_true e9, ibT, ibT, f_X8_line_85, cc.2.2.2.2.2.2 (Or.inl e9.1), e9.2, if_pos (show nI 9 = (9 : Int32) from rfl), f_X8_line_100, f_X12_readLine_55, bd_id, k9, l0]
        exact (ls_law (w := 0) hz l e9.1 (by decide)).seq hz hh
      · rw [decide_eq_false e9, ibF, ibF, W10, bd_eq, I6, bd_eq]
        by_cases e10 : kZ T n i = 2 ∧ vZ T n i = 10
        · have k9 : gI h 136 9 = nI 6 := by
            rw [rr.2.2.2.1, e10.1, e10.2]
            rfl
          have l0 : nI 6 - (5 : Int32) = nI 1 := rfl
          rw [decide_eq_true e10, ibT, ibT, f_X8_line_85, cc.2.2.2.2.2.2 (Or.inl e10.1), e10.2, if_neg (show ¬ nI 10 = (9 : Int32) by decide), f_X8_line_100, f_X12_readLine_55, bd_id, k9, l0]
          exact (ls_law (w := 1) hz l e10.1 (by decide)).seq hz hh
        · rw [decide_eq_false e10, ibF, ibF]
          refine bad _ (fun h2 a2 _ => ?_)
          rw [a2, bd_eq]
end LIN
