/-! JUDGE, PERFORM answered alike. -/
section JPQ
variable {X : Nat → Prop} {A B : Nat → Int32} {g g' g1 : G} {t m e ag : Nat} {f : Nat → Int64} {S K : List Nat}
theorem r_tells (hW : WF A) (hr : RS A g) (ht : t < 4) (hm : m ≤ 40) (he : e ≤ m) (ok : ∀ j, j < e → (actS (tS A f j) (f j)).1 = 0) (st : e < m → (actS (tS A f e) (f e)).1 ≠ 0) (h0 : gI g 153 t = nI m) (hf : ∀ j, j < m → gL g 154 (40 * t + j) = f j) : ∃ g', f_X12_tells 136 (nI t) g = some (nI e, g') ∧ Fm [17, 18, 20, 21] [137, 141, 142] g g' ∧ gI g' 137 = tS A f e ∧ gL g' 137 = gL g 137 ∧ gI g' 136 20 = nI (gSt A f e) ∧ gI g' 136 21 = (if e = m then 0 else nI (actS (tS A f e) (f e)).1) := by
  have x1 : Fm [17, 18, 20, 21] [137, 141, 142] g (sI (sI g 136 21 0) 136 20 0) := (Fm.rf.sf (by decide)).sf (by decide)
  have x0 : Fm [20, 21] [] g (sI (sI g 136 21 0) 136 20 0) := (Fm.rf.sf (by decide)).sf (by decide)
  obtain ⟨g2, d1, d2, d3, d4, d5, d6⟩ := r_te12 (f := f) hW ht hm he ok st FU 0 (sI (sI g 136 21 0) 136 20 0) (hr.fm x0 (by decide)) (by rw [gI_sIs, pk_us]; rfl) (by rw [gI_sIs, pk_un (by decide), gI_sIs, pk_us]) (by rw [x1.I (by decide)]; exact h0) (fun j hj => by rw [x1.L (by decide)]; exact hf j hj) (Nat.zero_le _) (by have := @FU_gt m (by omega); omega)
  have d1' : f_X12_tells_12 FU 136 (nI t) 0 (sI (sI g 136 21 0) 136 20 0) = some (nI e, g2) := d1
  exact ⟨g2, by rw [f_X12_tells, lg, lg, d1'], x1.tr d2, d3, d4, d5, d6⟩
theorem Fm.dr7 {h : G} (x : Fm K [137, 141, 142, 143] g h) (e : gI h 137 = gI g 137) (e' : gL h 137 = gL g 137) : Fm K [141, 142, 143] g h := ⟨⟨x.1.1, fun a ha => by
  by_cases u : a = 137
  · rw [u]
    exact ⟨e, e'⟩
  · exact x.1.2 a (by simp at ha ⊢; omega)⟩, x.2⟩
theorem cpR_b {B W : Nat → Int32} (h1 : ∀ j, j < 52 ∨ 103 ≤ j → B j = A j) (h2 : ∀ j, j < 51 → W j = A (52 + j)) : cpR B W 52 51 = A := by
  funext j
  unfold cpR
  by_cases u : 52 ≤ j ∧ j < 52 + 51
  · rw [if_pos u, h2 _ (by omega), show 52 + (j - 52) = j by omega]
  · rw [if_neg u, h1 j (by omega)]
theorem Inv.wf (h : Inv X A ag g) : WF A := ⟨h.1.1.2.2.1, h.1.1.2.2.2.1, h.1.1.2.2.2.2, h.2.2.2.2.2.2.2⟩
theorem q_perform (h : Inv X A ag g) (hag : ag + 60 < 2 ^ 30) (u : Int32) : CA ag g (f_X11_perform 0 u g) (fun g => f_X12_perform 136 u g) := by
  have hs := h.1.1.1
  have hX := h.1.2.1
  have hs0 : ∀ g, Sh g → Sh (sI g 136 0 0) := fun g hs => Sh.fi (S := [136]) (Fi.rf.si (by decide)) hs
  cases hu : inR u 4 with
  | false => exact CA.no (v := -2) h (by rw [f_X11_perform, c_isTray, hu, bd_eq, ibF]) (by
      show f_X12_perform 136 u g = _
      rw [f_X12_perform, lg, r_noTrayF hu, bd_eq, if_neg (by decide)])
  | true =>
    obtain ⟨t, ht, rfl⟩ := inR_true hu (by decide)
    obtain ⟨so, m, s1, s2, s3, s4, s5, s6, s7⟩ := h.2.1 t ht
    rcases s1 with e | ⟨s, e1, e2⟩
    · refine CA.no (v := -6) h ?_ ?_
      · rw [f_X11_perform, c_isTray, hu, bd_eq, ibT, md0_16 hs, gk40 hs, sn40 hs, gdI_nI ht (by decide), nI_clamp (by omega), tr_dr hs ht, tr_gk hs ht, f_X10_isMissing, s3, if_pos e, bd_eq, ibT]
      · show f_X12_perform 136 (nI t) g = _
        rw [f_X12_perform, lg, r_noTray (hs0 g hs) ht, bd_eq, gI_sIn (by decide), s4, if_pos e, if_neg (by decide)]
    · have ne : ¬ so = -1 := by
        rw [e2]
        exact nI_ne1 (by omega)
      have hW := h.wf
      obtain ⟨f, hf⟩ : ∃ f : Nat → Int64, f = fun k => gL g 154 (40 * t + k) := ⟨_, rfl⟩
      have f1 : ∀ j, j < m → gL g (129 + 2 * t) j = f j := fun j hj => by
        rw [hf]
        exact s7 j hj
      have f2 : ∀ j, j < m → gL g 154 (40 * t + j) = f j := fun j _ => by rw [hf]
      obtain ⟨e, he, ok, st⟩ := ex_end A f m
      obtain ⟨g1, a1, a2, a3, a4, a5⟩ := c_spare h
      have no1 : ∀ q, 128 ≤ q → q ∉ [52, 53, 54, 55, 56] := fun q hq z => by
        simp at z
        omega
      obtain ⟨g2, ag2, b1, b2, b3, b4, b5, b6⟩ := c_pf43 (f := f) hW hX ht s2 he ok st FU 0 g1 ag a3 a5.1.2.2.1 a5.1.2.2.2.1 (by omega) (by rw [a2.I (no1 _ (by omega))]; exact s5) (fun j hj => by rw [a2.L (no1 _ (by omega))]; exact f1 j hj) (Nat.zero_le _) (by have := @FU_gt m (by omega); omega)
      have b1' : f_X11_perform_43 FU 0 (128 + 2 * t) 0 0 g1 = f_X11_perform_84 0 (nI e) g2 := b1
      have cc : f_X11_perform 0 (nI t) g = f_X11_perform_84 0 (nI e) g2 := by
        rw [f_X11_perform, c_isTray, hu, bd_eq, ibT, md0_16 hs, gk40 hs, sn40 hs, gdI_nI ht (by decide), nI_clamp (by omega), tr_dr hs ht, tr_gk hs ht, f_X10_isMissing, s3, if_neg ne, bd_eq, ibF, md0_5 hs, md0_4 hs, gk52 hs, gk47 hs, a1, bd_eq, b1']
      have y2 : Fq CB g g2 := (a2.mono (by decide)).tr (b2.mono (by decide))
      by_cases z : e = 0
      · subst z
        have I2 : Inv X A ag2 g2 := h.cl2 y2 b3 b6 b4
        obtain ⟨so', m', s1', s2', s3', s4', s5', s6', s7'⟩ := I2.2.1 t ht
        have hr0 := I2.1.1.t0
        have q152 : gI g2 152 t = so := by
          rw [y2.I (by decide)]
          exact s4
        obtain ⟨g3, d1, d2, d3⟩ := r_keeps hr0.1
        have hr3 : RS A g3 := hr0.fi d2 (by decide)
        have x3 : Fm [0, 17, 18, 20, 21] [137, 141, 142, 143] g2 g3 := (tF0.mono (by decide) (by decide)).tr ((Fm.of (K := [0]) d2 (by decide)).mono (by decide) (by decide))
        obtain ⟨g4, k1, k2, k3, k4, k5, k6⟩ := r_tells (f := f) hW hr3 ht s2 he ok st (by rw [x3.I (by decide), y2.I (by decide)]; exact s6) (fun j hj => by rw [x3.L (by decide), y2.L (by decide)]; exact f2 j hj)
        have x4 : Fm [0, 17, 18, 20, 21] [137, 141, 142, 143] g2 g4 := x3.tr (k2.mono (by decide) (by decide))
        have x4' := x4.dr7 (by rw [k3, I2.1.1.2.1]; rfl) (by rw [k4, d2.L (by decide), gL_sI])
        refine ⟨nI 0, g2, g4, X, A, ag2, ?_, ?_, I2.ref x4' (by decide), by omega, by rw [x4.1.1.1, y2.1]; omega, by rw [x4.1.1.2.1, y2.2.1]; omega⟩
        · rw [cc, f_X11_perform_84, if_pos (by decide)]
        · show f_X12_perform 136 (nI t) g2 = _
          rw [f_X12_perform, lg, r_noTray hr0.1 ht, bd_eq, gI_sIn (by decide), q152, if_neg ne, if_pos rfl, d1, bd_eq, k1, bd_eq, if_pos (by decide)]
      · obtain ⟨g3, n, c1, c2, c3, c4, c5, c6, c7, c8, c9, n1, n2, n3⟩ := c_deedOk2 h a5 a2 a4 b2 b3 b4 b6
        have eA : ∀ j, j < 52 ∨ 103 ≤ j → tS A f e j = A j := fun j hj => tS_e hW hs f hj e
        have hr3 : RS A g3 := ⟨c3, c9, h.1.1.2.2⟩
        have hr0 := hr3.t0
        obtain ⟨g4, d1, d2, d3⟩ := r_keeps hr0.1
        have hr4 : RS A g4 := hr0.fi d2 (by decide)
        have x4 : Fm [0, 17, 18, 20, 21] [137, 141, 142, 143] g3 g4 := (tF0.mono (by decide) (by decide)).tr ((Fm.of (K := [0]) d2 (by decide)).mono (by decide) (by decide))
        obtain ⟨g5, k1, k2, k3, k4, k5, k6⟩ := r_tells (f := f) hW hr4 ht s2 he ok st (by rw [x4.I (by decide), c2.I (by decide)]; exact s6) (fun j hj => by rw [x4.L (by decide), c2.L (by decide)]; exact f2 j hj)
        have x5 : Fm [0, 17, 18, 20, 21] [137, 141, 142, 143] g3 g5 := x4.tr (k2.mono (by decide) (by decide))
        have was : ∀ j, j < 51 → gI g5 143 j = A (52 + j) := fun j hj => by
          rw [k2.I (by decide), d3 j hj, hr0.2.1]
        obtain ⟨g6, m1, m2, m3, m4, m5, m6⟩ := deedEnd h (tS_wf hW hs f e) eA c2 c3 c4 c5 c6 c7 c8 n1 n2 (n3 _ eA) x5 (by decide) k3 was
        have q152 : gI (sI g3 136 0 0) 152 t = so := by
          rw [gI_sIn (by decide), c2.I (by decide)]
          exact s4
        have ng : ¬ nI e ≤ 0 := nI_ge (a := 0) (by omega) (by omega)
        refine ⟨nI e, g3, g6, X, _, ag2, ?_, ?_, m4, by omega, by rw [m5]; omega, by rw [m6]; omega⟩
        · rw [cc, f_X11_perform_84, if_neg ng, c1, bd_eq]
        · show f_X12_perform 136 (nI t) g3 = _
          rw [f_X12_perform, lg, r_noTray hr0.1 ht, bd_eq, q152, if_neg ne, if_pos rfl, d1, bd_eq, k1, bd_eq, if_neg ng, m1, bd_eq]
theorem q_judge (h : Inv X A ag g) (hag : ag + 60 < 2 ^ 30) (u v : Int32) : CA ag g (f_X11_judge 0 u v g) (fun g => f_X12_judge 136 u v g) := by
  have hs := h.1.1.1
  have hX := h.1.2.1
  have hs0 : ∀ g, Sh g → Sh (sI g 136 0 0) := fun g hs => Sh.fi (S := [136]) (Fi.rf.si (by decide)) hs
  cases hu : inR u 4 with
  | false => exact CA.no (v := -2) h (by rw [f_X11_judge, c_isTray, hu, bd_eq, ibF]) (by
      show f_X12_judge 136 u v g = _
      rw [f_X12_judge, lg, r_wi3, bd_eq]
      cases inR v 4 with
      | false => rw [ibF]
      | true => rw [ibT, r_noTrayF hu, bd_eq, if_neg (by decide)])
  | true =>
    obtain ⟨t, ht, rfl⟩ := inR_true hu (by decide)
    have bad : inR v 4 = false → (v < 0 ∨ ¬ v ≤ 3) → CA ag g (f_X11_judge 0 (nI t) v g) (fun g => f_X12_judge 136 (nI t) v g) := fun e1 e2 => CA.no (v := -2) h (by
      rw [f_X11_judge, c_isTray, hu, bd_eq, ibT]
      rcases e2 with z | z
      · rw [if_pos z]
      · rw [if_neg z]
        split
        · rfl
        · rfl) (by
      show f_X12_judge 136 (nI t) v g = _
      rw [f_X12_judge, lg, r_wi3, e1, bd_eq, ibF])
    rcases inR_c v 4 with ⟨w, w1, w2, rfl, w4⟩ | ⟨w1, w2⟩ | ⟨w, w1, w2, rfl, w4⟩
    · have ls : nI w ≤ 3 := nI_le (b := 3) (by omega) (by decide)
      obtain ⟨so, m, s1, s2, s3, s4, s5, s6, s7⟩ := h.2.1 t ht
      rcases s1 with e | ⟨s, e1, e2⟩
      · refine CA.no (v := -6) h ?_ ?_
        · rw [f_X11_judge, c_isTray, hu, bd_eq, ibT, if_neg (nI_pos w2), if_pos ls, md0_16 hs, gk40 hs, sn40 hs, gdI_nI ht (by decide), nI_clamp (by omega), tr_dr hs ht, tr_gk hs ht, f_X10_isMissing, s3, if_pos e, bd_eq, ibT]
        · show f_X12_judge 136 (nI t) (nI w) g = _
          rw [f_X12_judge, lg, r_wi3, w4, bd_eq, ibT, r_noTray (hs0 g hs) ht, bd_eq, gI_sIn (by decide), s4, if_pos e, if_neg (by decide)]
      · have ne : ¬ so = -1 := by
          rw [e2]
          exact nI_ne1 (by omega)
        have hW := h.wf
        obtain ⟨f, hf⟩ : ∃ f : Nat → Int64, f = fun k => gL g 154 (40 * t + k) := ⟨_, rfl⟩
        have f1 : ∀ j, j < m → gL g (129 + 2 * t) j = f j := fun j hj => by
          rw [hf]
          exact s7 j hj
        have f2 : ∀ j, j < m → gL g 154 (40 * t + j) = f j := fun j _ => by rw [hf]
        obtain ⟨e, he, ok, st⟩ := ex_end A f m
        obtain ⟨g1, a1, a2, a3, a4, a5⟩ := c_spare h
        have no1 : ∀ q, 128 ≤ q → q ∉ [52, 53, 54, 55, 56] := fun q hq z => by
          simp at z
          omega
        obtain ⟨g2, ag2, b1, b2, b3, b4, b5, b6⟩ := c_ju53 (f := f) hW hX ht s2 he ok st (nI w) FU 0 g1 ag a3 a4 a5.1.2.2.2.1 (by omega) (by rw [a2.I (no1 _ (by omega))]; exact s5) (fun j hj => by rw [a2.L (no1 _ (by omega))]; exact f1 j hj) (Nat.zero_le _) (by have := @FU_gt m (by omega); omega)
        have b1' : f_X11_judge_53 FU 0 (nI w) (128 + 2 * t) 0 0 g1 = bd (f_X11_judgement 0 (nI w) (if e = m then -1 else nI e) (if e = m then 0 else nI (actS (tS A f e) (f e)).1) (nI (gSt A f e)) g2) (fun v2 g3 => some (v2, g3)) := b1
        have cc : f_X11_judge 0 (nI t) (nI w) g = bd (f_X11_judgement 0 (nI w) (if e = m then -1 else nI e) (if e = m then 0 else nI (actS (tS A f e) (f e)).1) (nI (gSt A f e)) g2) (fun v2 g3 => some (v2, g3)) := by
          rw [f_X11_judge, c_isTray, hu, bd_eq, ibT, if_neg (nI_pos w2), if_pos ls, md0_16 hs, gk40 hs, sn40 hs, gdI_nI ht (by decide), nI_clamp (by omega), tr_dr hs ht, tr_gk hs ht, f_X10_isMissing, s3, if_neg ne, bd_eq, ibF, md0_5 hs, md0_4 hs, gk52 hs, gk47 hs, a1, bd_eq, b1']
        have y2 : Fq CB g g2 := (a2.mono (by decide)).tr (b2.mono (by decide))
        have b47 : BD X g2 47 A := a5.1.2.2.1.fa b2.a (hX.no (by decide)) (by decide)
        have I2 : Inv X A ag2 g2 := h.cl2 y2 b3 b47 b4
        have hr0 := I2.1.1.t0
        have q152 : gI (sI g2 136 0 0) 152 t = so := by
          rw [gI_sIn (by decide), y2.I (by decide)]
          exact s4
        have we := tS_wf hW hs f e
        obtain ⟨g3, d1, d2, d3⟩ := r_keeps hr0.1
        have hr3 : RS A g3 := hr0.fi d2 (by decide)
        have x3 : Fm [0, 17, 18, 20, 21] [137, 141, 142, 143] g2 g3 := (tF0.mono (by decide) (by decide)).tr ((Fm.of (K := [0]) d2 (by decide)).mono (by decide) (by decide))
        obtain ⟨g4, k1, k2, k3, k4, k5, k6⟩ := r_tells (f := f) hW hr3 ht s2 he ok st (by rw [x3.I (by decide), y2.I (by decide)]; exact s6) (fun j hj => by rw [x3.L (by decide), y2.L (by decide)]; exact f2 j hj)
        have x4 : Fm [0, 17, 18, 20, 21] [137, 141, 142, 143] g2 g4 := x3.tr (k2.mono (by decide) (by decide))
        have hr4 : RS (tS A f e) g4 := ⟨hr3.1.fm k2, k3, we.1, we.2.1, we.2.2.1⟩
        have w143 : ∀ j, j < 51 → gI g4 143 j = A (52 + j) := fun j hj => by
          rw [k2.I (by decide), d3 j hj, hr0.2.1]
        obtain ⟨g5, l1, l2, l3, l4⟩ := r_isAgain (W := fun j => A (52 + j)) hr4.1 k3 w143
        rw [cpR_b (fun j hj => tS_e hW hs f hj e) (fun j _ => rfl)] at l4
        have x5 : Fm [0, 17, 18, 20, 21] [137, 141, 142, 143] g2 g5 := x4.tr ((Fm.of (K := [0]) l2 (by decide)).mono (by decide) (by decide))
        have x5' := x5.dr7 (by rw [l4, I2.1.1.2.1]) (by rw [l3, k4, d2.L (by decide), gL_sI])
        have dn2 := c_allDone b6 we.1 we.2.1
        have rdn := r_doneAll hr4
        have h21 : gI g5 136 21 = (if e = m then 0 else nI (actS (tS A f e) (f e)).1) := by
          rw [l2.I (by decide)]
          exact k6
        have h20 : gI g5 136 20 = nI (gSt A f e) := by
          rw [l2.I (by decide)]
          exact k5
        have a4' := act_4 (tS A f e) (f e)
        have rr : f_X12_judge 136 (nI t) (nI w) g2 = (if nI w = 0 then (if gI g5 136 21 = 0 then some (-1, g5) else some (nI e, g5)) else if nI w = 1 then some (gI g5 136 21, g5) else if nI w = 2 then some (nI (sumN (dnN (tS A f e)) (nv (tS A f e) 3)), g5) else some (gI g5 136 20, g5)) := by
          rw [f_X12_judge, lg, r_wi3, w4, bd_eq, ibT, r_noTray hr0.1 ht, bd_eq, q152, if_neg ne, if_pos rfl, d1, bd_eq, k1, bd_eq, rdn, bd_eq, l1, bd_eq]
        have fin : ∀ x, f_X11_judgement 0 (nI w) (if e = m then -1 else nI e) (if e = m then 0 else nI (actS (tS A f e) (f e)).1) (nI (gSt A f e)) g2 = some (x, g2) → f_X12_judge 136 (nI t) (nI w) g2 = some (x, g5) → CA ag g (f_X11_judge 0 (nI t) (nI w) g) (fun g => f_X12_judge 136 (nI t) (nI w) g) := fun x e1 e2 => ⟨x, g2, g5, X, A, ag2, by rw [cc, e1, bd_eq], e2, I2.ref x5' (by decide), by omega, by rw [x5.1.1.1, y2.1]; omega, by rw [x5.1.1.2.1, y2.2.1]; omega⟩
        obtain rfl | rfl | rfl | rfl : w = 0 ∨ w = 1 ∨ w = 2 ∨ w = 3 := by omega
        · refine fin (if e = m then -1 else nI e) (by rw [f_X11_judgement, if_pos (by decide)]) ?_
          rw [rr, if_pos (by decide), h21]
          by_cases q : e = m
          · rw [if_pos q, if_pos q, if_pos rfl]
          · have := st (by omega)
            rw [if_neg q, if_neg q, if_neg (nI_ne0 (by omega) (by omega))]
        · refine fin (if e = m then 0 else nI (actS (tS A f e) (f e)).1) (by rw [f_X11_judgement, if_neg (by decide), if_pos (by decide)]) ?_
          rw [rr, if_neg (by decide), if_pos (by decide), h21]
        · refine fin (nI (sumN (dnN (tS A f e)) (nv (tS A f e) 3))) (by rw [f_X11_judgement, if_neg (by decide), if_neg (by decide), if_pos (by decide), md0_5 b3, gk52 b3, dn2, bd_eq]) ?_
          rw [rr, if_neg (by decide), if_neg (by decide), if_pos (by decide)]
        · refine fin (nI (gSt A f e)) (by rw [f_X11_judgement, if_neg (by decide), if_neg (by decide), if_neg (by decide)]) ?_
          rw [rr, if_neg (by decide), if_neg (by decide), if_neg (by decide), h20]
    · exact bad w2 (Or.inl w1)
    · exact bad w4 (Or.inr (show ¬ nI w ≤ 3 from nI_ge (a := 3) (b := w) (by omega) w2))
end JPQ
