/-! LOCKSTEP: the first line, all lines. -/
section RDS
variable {T : Nat → Nat} {n M i q : Nat} {F : Nat → Int32} {g g' g1 g2 h h' h1 : G}
theorem ls_96 (hz : TZ T n M) : ∀ r c fu1 fu2 i g h, M - i ≤ r → r < fu1 → r + 1 < fu2 → c < i → LI T n M q i g h → ∃ b g' h', f_X8_reads_53 fu1 57 (nI c) g = some (b, g') ∧ f_X12_field_96 fu2 136 h = f_X12_field_123 136 h' ∧ FLZ q g g' ∧ Fm KrL [140] h h' ∧ (Sh g' ∧ gn g' + i ≤ gn g + M + 1 ∧ gs g' + i ≤ gs g + M + 900) ∧ ((b = true ∧ ∃ i', LI T n M q i' g' h') ∨ (b = false ∧ BadG g' h')) := by
  have M9 : M ≤ 900 := Nat.le_trans hz.2.1 hz.1
  have fin : ∀ c m1 m2 i g h, c < i → LI T n M q i g h → kZ T n i = 0 → ∃ b g' h', f_X8_reads_53 (m1 + 1) 57 (nI c) g = some (b, g') ∧ f_X12_field_96 (m2 + 1) 136 h = f_X12_field_123 136 h' ∧ FLZ q g g' ∧ Fm KrL [140] h h' ∧ (Sh g' ∧ gn g' + i ≤ gn g + M + 1 ∧ gs g' + i ≤ gs g + M + 900) ∧ ((b = true ∧ ∃ i', LI T n M q i' g' h') ∨ (b = false ∧ BadG g' h')) := by
    intro c m1 m2 i g h hc l k0
    obtain ⟨⟨hs, hh, cc, rr⟩, -⟩ := id l
    have iM := cc.2.2.2.1
    have e0 : gI g 57 12 = (0 : Int32) := (cc.k (x := 0) (by decide)).mpr k0
    have e9 : gI h 136 9 = (24 : Int32) := by
      rw [rr.2.2.2.1, (rk_k (vZ T n i) kZ_in (k0 := 0) (r := 24) (by decide)).mpr k0]
      rfl
    refine ⟨true, g, h, ?_, ?_, FLZ.rf, Fm.rf, ⟨hs, by omega, by omega⟩, Or.inl ⟨rfl, i, l⟩⟩
    · rw [f_X8_reads_53, if_pos e0]
      split <;> rfl
    · rw [f_X12_field_96, if_pos rr.2.2.2.2.2, if_pos e9]
  intro r
  induction r with
  | zero =>
    intro c fu1 fu2 i g h hr hf1 hf2 hc l
    obtain ⟨m1, rfl⟩ : ∃ m, fu1 = m + 1 := ⟨fu1 - 1, by omega⟩
    obtain ⟨m2, rfl⟩ : ∃ m, fu2 = m + 1 + 1 := ⟨fu2 - 2, by omega⟩
    by_cases k0 : kZ T n i = 0
    · exact fin c m1 (m2 + 1) i g h hc l k0
    · obtain ⟨⟨hs, hh, cc, rr⟩, -⟩ := id l
      have iM := cc.2.2.2.1
      have n9 : ¬ gI h 136 9 = (24 : Int32) := fun u => by
        rw [rr.2.2.2.1] at u
        exact k0 ((rk_k (vZ T n i) kZ_in (k0 := 0) (r := 24) (by decide)).mp ((nI_eq (b := 24) (by have := rk_lt (kZ T n i) (vZ T n i) kZ_in; omega) (by decide)).mp u))
      obtain ⟨b, g2, h2, a1, a2, a3, a4, a5, a6⟩ := ls_line hz l
      rcases a6 with ⟨rfl, i', v1, v2, v3, v4⟩ | ⟨rfl, a6⟩
      · have := v2.1.2.2.1.2.2.2.1
        omega
      · have e : f_X12_field_96 (m2 + 1 + 1) 136 h = f_X12_field_123 136 h2 := by
          rw [f_X12_field_96, if_pos rr.2.2.2.2.2, if_neg n9, ← bd_bd, a2, bd_eq, f_X12_field_96, if_neg a6.x]
        refine ⟨false, g2, h2, ?_, e, a3, a4, ⟨a5.1, by omega, by omega⟩, Or.inr ⟨rfl, a6⟩⟩
        rw [f_X8_reads_53, if_neg (lnge900 (by omega)), if_neg (show ¬ gI g 57 12 = (0 : Int32) from fun u => k0 ((cc.k (x := 0) (by decide)).mp u)), a1, bd_eq, ibF]
  | succ r ih =>
    intro c fu1 fu2 i g h hr hf1 hf2 hc l
    obtain ⟨m1, rfl⟩ : ∃ m, fu1 = m + 1 := ⟨fu1 - 1, by omega⟩
    obtain ⟨m2, rfl⟩ : ∃ m, fu2 = m + 1 + 1 := ⟨fu2 - 2, by omega⟩
    by_cases k0 : kZ T n i = 0
    · exact fin c m1 (m2 + 1) i g h hc l k0
    · obtain ⟨⟨hs, hh, cc, rr⟩, -⟩ := id l
      have iM := cc.2.2.2.1
      have n9 : ¬ gI h 136 9 = (24 : Int32) := fun u => by
        rw [rr.2.2.2.1] at u
        exact k0 ((rk_k (vZ T n i) kZ_in (k0 := 0) (r := 24) (by decide)).mp ((nI_eq (b := 24) (by have := rk_lt (kZ T n i) (vZ T n i) kZ_in; omega) (by decide)).mp u))
      obtain ⟨b, g2, h2, a1, a2, a3, a4, a5, a6⟩ := ls_line hz l
      have e1 : f_X8_reads_53 (m1 + 1) 57 (nI c) g = if b2i b = 0 then some (false, g2) else f_X8_reads_53 m1 57 (nI (c + 1)) g2 := by
        rw [f_X8_reads_53, if_neg (lnge900 (by omega)), if_neg (show ¬ gI g 57 12 = (0 : Int32) from fun u => k0 ((cc.k (x := 0) (by decide)).mp u)), a1, bd_eq, lad1]
      have e2 : f_X12_field_96 (m2 + 1 + 1) 136 h = f_X12_field_96 (m2 + 1) 136 h2 := by
        rw [f_X12_field_96, if_pos rr.2.2.2.2.2, if_neg n9, ← bd_bd, a2, bd_eq]
      rw [e1, e2]
      rcases a6 with ⟨rfl, i', v1, v2, v3, v4⟩ | ⟨rfl, a6⟩
      · have := v2.1.2.2.1.2.2.2.1
        obtain ⟨b, g3, h3, b1, b2, b3, b4, ⟨b5, b5', b5''⟩, b6⟩ := ih (c + 1) m1 (m2 + 1) i' g2 h2 (by omega) (by omega) (by omega) (by omega) v2
        rw [ibT]
        exact ⟨b, g3, h3, b1, b2, a3.tr b3, a4.tr b4, ⟨b5, by omega, by omega⟩, b6⟩
      · rw [ibF, f_X12_field_96, if_neg a6.x]
        exact ⟨false, g2, h2, rfl, rfl, a3, a4, ⟨a5.1, by omega, by omega⟩, Or.inr ⟨rfl, a6⟩⟩
theorem r_66 {v v' : Int32} {h2 : G} (hh : Sh h) (t1 : f_X12_takes 136 1 6 h = some (v, h1)) (hh1 : Sh h1) (t2 : f_X12_takes 136 1 6 (sI h1 140 1 v) = some (v', h2)) (hh2 : Sh h2) : f_X12_field_66 136 h = bd (f_X12_ends 136 (sI h2 140 2 v')) (fun _ g => f_X12_field_96 FU 136 g) := by
  have s1 : Sh (sI h1 140 1 v) := hh1
  rw [f_X12_field_66, md136_4 hh, t1, bd_eq, gk140 hh1, sn140 hh1, show gdI (1 : Int32) 1515 = gdI (nI 1) 1515 (α := Int32 × G) from rfl, gdI_nI (by decide) (by decide), show (1 : Int32).toNatClampNeg = 1 from rfl, lg, md136_4 s1, t2, bd_eq, gk140 hh2, sn140 hh2, show gdI (2 : Int32) 1515 = gdI (nI 2) 1515 (α := Int32 × G) from rfl, gdI_nI (by decide) (by decide), show (2 : Int32).toNatClampNeg = 2 from rfl, lg]
/-- the first line's row -/
def fR (F : Nat → Int32) (R W : Nat) : Nat → Int32 := upd (upd (upd F 1 (nI R)) 2 (nI W)) 0 1
theorem fR_n {F : Nat → Int32} {R W k : Nat} (hk : 2 < k) : fR F R W k = F k := by
  unfold fR
  rw [pk_un (by omega), pk_un (by omega), pk_un (by omega)]
theorem fR_wq {R W : Nat} (hF : ∀ j, j < 1515 → F j = plV j) (R1 : 1 ≤ R) (R6 : R ≤ 6) (W1 : 1 ≤ W) (W6 : W ≤ 6) : WQ (fR F R W) ∧ nv (fR F R W) 1 = R ∧ nv (fR F R W) 2 = W ∧ nv (fR F R W) 3 = 0 ∧ cS (fR F R W) = R * W := by
  have f1 : fR F R W 1 = nI R := by
    unfold fR
    rw [pk_un (by decide), pk_un (by decide), pk_us]
  have f2 : fR F R W 2 = nI W := by
    unfold fR
    rw [pk_un (by decide), pk_us]
  have z : ∀ k, 2 < k → k < 1515 → (k < 46 ∨ (52 ≤ k ∧ k < 88) ∨ 94 ≤ k) → fR F R W k = nI 0 := fun k k1 k2 k3 => by
    rw [fR_n k1, hF k k2]
    unfold plV
    rw [if_neg (by omega), if_neg (by omega)]
    rfl
  have nz : ∀ k, 2 < k → k < 1515 → (k < 46 ∨ (52 ≤ k ∧ k < 88) ∨ 94 ≤ k) → nv (fR F R W) k = 0 := fun k k1 k2 k3 => by
    unfold nv
    rw [z k k1 k2 k3]
    rfl
  have n1 : nv (fR F R W) 1 = R := by
    unfold nv
    rw [f1, nI_clamp (by omega)]
  have n2 : nv (fR F R W) 2 = W := by
    unfold nv
    rw [f2, nI_clamp (by omega)]
  have n3 := nz 3 (by decide) (by decide) (by omega)
  have c : cS (fR F R W) = R * W := by
    unfold cS
    rw [n1, n2]
  refine ⟨⟨?_, fun c hc => ?_, fun i hi => ?_, fun i j hi => ?_, fun p hp => ?_, ⟨Or.inl (z 4 (by decide) (by decide) (by omega)), Or.inl (z 5 (by decide) (by decide) (by omega))⟩, ?_, z 103 (by decide) (by decide) (by omega), fun p hp => z _ (by omega) (by omega) (by omega)⟩, n1, n2, n3, c⟩
  · unfold Dm
    rw [n1, n2, n3, f1, f2, z 3 (by decide) (by decide) (by omega)]
    exact ⟨rfl, R1, R6, rfl, W1, W6, rfl, by omega⟩
  · have : ht (fR F R W) c = 0 := nz _ (by omega) (by omega) (by omega)
    rw [this]
    exact ⟨z _ (by omega) (by omega) (by omega), by omega, fun _ => rfl⟩
  · rw [n3] at hi
    omega
  · rw [n3] at hi
    omega
  · have : md (fR F R W) p = 0 := nz _ (by omega) (by omega) (by omega)
    rw [this]
    exact ⟨z _ (by omega) (by omega) (by omega), by omega⟩
  · rw [nz 614 (by decide) (by decide) (by omega)]
    exact z 614 (by decide) (by decide) (by omega)
theorem ls_fl (hz : TZ T n M) (hs : Sh g) (hh : Sh h) (cc : CT T n M 0 g) (rr : RT T n 0 h) (hF : gI h 140 = F) (hP : ∀ j, j < 1515 → F j = plV j) : ∃ b g' h', f_X8_fieldLine 57 g = some (b, g') ∧ (bd (f_X12_eats 136 (0 : Int32) h) (fun v27 g28 => if (b2i v27) = 0 then (bd (f_X12_fails 136 (2 : Int32) g28) (fun v32 g33 => f_X12_field_66 136 g33)) else (f_X12_field_66 136 g28))) = f_X12_field_96 FU 136 h' ∧ FLZ (gn g) g g' ∧ Fm KrL [140] h h' ∧ (Sh g' ∧ gn g' ≤ gn g + 5 ∧ gs g' ≤ gs g + 126) ∧ ((b = true ∧ LI T n M (gn g) 4 g' h') ∨ (b = false ∧ BadG g' h')) := by
  have W8 : f_X8_isWord 57 8 g = _ := c_isW cc (w := 8) (by decide)
  have I0 : f_X12_eats 136 0 h = _ := r_eatsW rr (w := 8) (by decide)
  have g155 := hs.1
  have e57 : ∀ {S : List Nat} {g' : G}, Fi S g g' → (∀ a ∈ S, a ∈ LLZ) → FLZ (gn g) g g' ∧ Sh g' ∧ gn g' ≤ gn g + 5 ∧ gs g' ≤ gs g + 126 := fun x hS => ⟨FLZ.fq x.q (Nat.le_refl _) (fun a ha => Or.inl (hS a ha)), Sh.fi x hs, by rw [x.1.1]; omega, by rw [x.1.2.1]; omega⟩
  rw [f_X8_fieldLine, W8, I0, bd_eq]
  by_cases e8 : kZ T n 0 = 2 ∧ vZ T n 0 = 8
  · obtain ⟨iM, g1, h1, a1, a2, a3, a4, a5, a6⟩ := ls_next hz hs hh cc rr (by omega) (by omega)
    have hs1 := hs.fc a3
    have hh1 := hh.fm a4
    have x1 : Fi [57] g g1 := a3.1
    have hF1 : gI h1 140 = F := by
      rw [a4.I (by decide)]
      exact hF
    rw [decide_eq_true e8, ibT, if_pos e8, a2, bd_eq, bd_eq, ibT, a1, bd_eq]
    rcases ls_num hz hs1 hh1 a5 a6 (lo := 1) (hi := 6) (by decide) (by decide) with ⟨-, R1, R6, iM1, g2, h2, b1, b2, b3, b4, b5, b6, b7⟩ | ⟨v, g2, h2, b1, b2, b3, b4, b5⟩
    · have b1' : f_X8_takeNumber 57 1 6 g1 = some (true, g2) := b1
      have b2' : f_X12_takes 136 1 6 h1 = some (nI (vZ T n (0 + 1)), h2) := b2
      have hs2 := hs1.fc b3
      have hh2 := hh1.fm b4
      have x2 : Fi [57] g g2 := x1.tr (b3.1.mono (by simp))
      have hF2 : gI h2 140 = F := by
        rw [b4.I (by decide)]
        exact hF1
      have sh2 : Sh (sI h2 140 1 (nI (vZ T n (0 + 1)))) := hh2
      rw [b1', bd_eq, ibT, li, b7]
      rcases ls_num hz hs2 sh2 b5 b6.hh (lo := 1) (hi := 6) (by decide) (by decide) with ⟨-, W1, W6, iM2, g3, h3, d1, d2, d3, d4, d5, d6, d7⟩ | ⟨v, g3, h3, d1, d2, d3, d4, d5⟩
      · have d1' : f_X8_takeNumber 57 1 6 g2 = some (true, g3) := d1
        have d2' : f_X12_takes 136 1 6 (sI h2 140 1 (nI (vZ T n (0 + 1)))) = some (nI (vZ T n (0 + 1 + 1)), h3) := d2
        have hs3 := hs2.fc d3
        have hh3 := sh2.fm d4
        have x3 : Fi [57] g g3 := x2.tr (d3.1.mono (by simp))
        obtain ⟨R, hR⟩ : ∃ R, R = vZ T n (0 + 1) := ⟨_, rfl⟩
        obtain ⟨W, hW⟩ : ∃ W, W = vZ T n (0 + 1 + 1) := ⟨_, rfl⟩
        rw [← hR] at R1 R6 b2' d2' d4
        rw [← hW] at W1 W6 d2' d7
        have F3_ : gI h3 140 = upd F 1 (nI R) := by
          rw [d4.I (by decide), gI_sIs, hF2]
        obtain ⟨g4, p1, p2, p3, p4, p5, ⟨p6, p7, p8, p9⟩, p10, p11, ⟨p12, p13, p14⟩, p15, p16⟩ := c_newP hs3 R1 R6 W1 W6
        have n3 : gn g3 = gn g := x3.1.1
        have s3 : gs g3 = gs g := x3.1.2.1
        rw [n3] at p1 p2 p5 p6 p7 p8 p9 p10 p11 p12 p13 p14 p15 p16
        obtain ⟨q, hq⟩ : ∃ q, q = gn g := ⟨_, rfl⟩
        rw [← hq] at p1 p2 p5 p6 p7 p8 p9 p10 p11 p12 p13 p14 p15 p16
        have hs4 : Sh g4 := hs3.fa p4 (fun q _ hq => by cases hq)
        obtain ⟨g5, hg5⟩ : ∃ g5, g5 = sI (sR g4 57 3 (some q)) q 5 1 := ⟨_, rfl⟩
        have R5 : gR g5 = va_up (gR g4) 57 (va_up (gR g4 57) 3 (some q)) := by
          rw [hg5, gR_sI, gR_sR]
        have x5 : Fq [57, q] g4 g5 := by
          rw [hg5]
          exact (Fq.rf.sr (by simp)).si (by simp)
        have t57 : shF.all (fun q => decide (q.1 < 155 ∧ (q.1 = 57 → q.2.1 ≠ 3))) = true := by decide +kernel
        have hs5 : Sh g5 := Sh.fq x5 hs4 (fun q' h1 h2 => by
          have t := of_decide_eq_true (List.all_eq_true.mp t57 q' h1)
          rw [R5]
          by_cases e : q'.1 = 57
          · rw [e, va_up_self, va_up_ne _ _ (t.2 e), ← e]
            exact hs4.2.2 q' h1
          · rw [va_up_ne _ _ e]
            exact hs4.2.2 q' h1)
        obtain ⟨g6, c1, c2, c3, c4, c5, c6, c7, c8, c9, c10⟩ := c_clear (q := q) hs5 (by omega)
        have hs6 : Sh g6 := hs5.cp c2 c4 c5 (by decide)
        have fl6 : FLZ q g g6 := by
          have n4 : gn g4 = q + 5 := p2
          refine (((FLZ.fq (q := q) x3.q (by omega) (fun a ha => ?_)).tr (FLZ.of (q := q) p4 (by omega) (fun a ha => (by cases ha)))).tr (FLZ.fq (q := q) x5 (by omega) (fun a ha => ?_))).tr (FLZ.fq (q := q) c2 (by rw [x5.1]; omega) (fun a ha => ?_))
          · simp at ha
            rw [ha]
            exact Or.inl (by decide)
          · simp at ha
            rcases ha with rfl | rfl
            · exact Or.inl (by decide)
            · exact Or.inr (Nat.le_refl _)
          · simp at ha
            rcases ha with rfl | rfl | rfl | rfl | rfl <;> exact Or.inl (by decide)
        have n6 : gn g6 = q + 5 := by
          rw [c2.1, x5.1, p2]
        have s6 : gs g6 = gs g + 126 := by
          rw [c2.2.1, x5.2.1, p3, s3]
        have I6 : ∀ a, a < 63 ∨ (67 < a ∧ a ≠ q) → gI g6 a = gI g4 a := fun a ha => by
          rw [c2.I (by simp; omega), hg5, gI_sIn (by omega), gI_sR]
        have L6 : ∀ a, a ≠ 57 → a < 63 ∨ 67 < a → gL g6 a = gL g4 a := fun a _ ha => by
          rw [c2.L (by simp; omega), hg5, gL_sI, gL_sR]
        have Rq : gR g6 q = gR g4 q := by
          rw [c5 q (by omega), R5, va_up_ne _ _ (by omega)]
        have iq : gI g6 q = upd (gI g4 q) 5 1 := by
          rw [c2.I (by simp; omega), hg5, gI_sIs, gI_sR]
        obtain ⟨wq, m1, m2, m3, m4⟩ := fR_wq (F := F) hP R1 R6 W1 W6
        have z : ∀ k, 2 < k → k < 1515 → (k < 46 ∨ (52 ≤ k ∧ k < 88) ∨ 94 ≤ k) → fR F R W k = 0 := fun k k1 k2 k3 => by
          rw [fR_n k1, hP k k2]
          unfold plV
          rw [if_neg (by omega), if_neg (by omega)]
        have xA : Fq [57, q, 63, 64, 65, 66, 67] g4 g6 := (x5.mono (by simp)).tr (c2.mono (by simp))
        have pq : PQ g6 q (fR F R W) := by
          refine ⟨p5.fq xA, ?_⟩
          rw [iq, L6 q (by omega) (by omega), Rq, I6 (q + 1) (by omega), I6 (q + 2) (by omega), I6 (q + 3) (by omega), I6 (q + 4) (by omega), m4, m2, z 3 (by decide) (by decide) (by omega), pk_un (by decide), pk_un (by decide), pk_un (by decide), pk_un (by decide), pk_us]
          refine ⟨⟨?_, ?_, p8, p9, ?_⟩, p10, ⟨p11.1.fa xA.a, p11.2.1.fa xA.a, p11.2.2.1.fa xA.a, p11.2.2.2.fa xA.a⟩, ⟨fun c hc => ?_, fun c hc => (p13 c hc).1, fun c hc => (p13 c hc).2, fun i hi => ?_⟩, Or.inl ⟨z 4 (by decide) (by decide) (by omega), p15⟩, Or.inl ⟨z 5 (by decide) (by decide) (by omega), p16⟩⟩
          · rw [p6]
            unfold fR
            rw [pk_un (by decide), pk_un (by decide), pk_us]
          · rw [p7]
            unfold fR
            rw [pk_un (by decide), pk_us]
          · unfold fR
            rw [pk_us]
          · have : ht (fR F R W) c = 0 := by
              unfold ht nv
              rw [z _ (by omega) (by omega) (by omega)]
              rfl
            unfold hp
            rw [p12, this]
            rfl
          · rw [p14 i hi, fR_n (by omega), hP _ (by omega)]
            unfold plV
            rw [if_neg (by omega), if_pos (by omega)]
        have dq : DQ g6 (fR F R W) := by
          unfold DQ
          rw [m3, c6]
          refine ⟨fun c hc => ?_, fun i hi => ?_, fun r hr => ?_, fun r hr => ?_, fun r hr => ?_⟩
          · rw [bt_0, decide_eq_false]
            rintro ⟨u1, u2⟩
            rw [z _ (by omega) (by omega) (by omega)] at u2
            exact absurd u2 (by decide)
          · rw [c7 i hi, if_neg (by omega)]
          · rw [c8 r hr, if_neg (by omega)]
          · rw [c9 r hr, z _ (by omega) (by omega) (by omega)]
          · rw [c10 r hr, if_neg (by omega)]
        have cc6 : CT T n M (0 + 1 + 1 + 1) g6 := by
          have e : ∀ a, 57 ≤ a → a ≤ 61 → KD g3 a (gK g3 a) → gI g6 a = gI g3 a := fun a a1 a2 k => by
            rw [I6 a (by omega), p4.I k (fun u => by cases u)]
          unfold CT TA at d5 ⊢
          rw [e 57 (by decide) (by decide) ⟨rfl, (sk57 hs3).2⟩, e 59 (by decide) (by decide) ⟨rfl, (sk59 hs3).2⟩, e 60 (by decide) (by decide) ⟨rfl, (sk60 hs3).2⟩, e 61 (by decide) (by decide) ⟨rfl, (sk61 hs3).2⟩]
          exact d5
        have q573 : gR g5 57 3 = some q := by
          rw [R5, va_up_self, va_up_self]
        have q57g : gR (sR g4 57 3 (some q)) 57 3 = some q := by
          rw [gR_sR, va_up_self, va_up_self]
        have k7 : KD (sR g4 57 3 (some q)) q 7 := p5
        have i15 : gI (nw g3 7 0 12) 57 15 = nI W := by
          rw [gI_nw, va_up_ne _ _ (by omega)]
          exact d7
        have hh3' : Sh (sI h3 140 2 (nI W)) := hh3
        have h0 : gI (sI h3 140 2 (nI W)) 140 = upd (upd F 1 (nI R)) 2 (nI W) := by
          rw [gI_sIs, F3_]
        rw [r_66 hh1 b2' hh2 d2' hh3, f_X12_ends, d1', bd_eq, ibT, lg, ln, n3, ← hq, ← hR, i15, p1, bd_eq, lg, q57g, dr_eq, gdK_pos k7, lg, ← hg5, md57_0 hs5, gk63 hs5, c1, bd_eq, bdI]
        have y3 : Fm KrL [140] h (sI h3 140 2 (nI W)) := ((((a4.mono (by decide) (by decide)).tr (b4.mono (by decide) (by decide))).tr (Fm.rf.si (by decide) (by decide))).tr (d4.mono (by decide) (by decide))).tr (Fm.rf.si (by decide) (by decide))
        have q635 : gR g6 57 3 = some q := by
          rw [c5 57 (by decide)]
          exact q573
        rcases ls_take hz hs6 hh3' cc6 d6.hh (k0 := 59) (x := 30) (by decide) (by decide) with ⟨-, iM3, g7, h7, f1, f2, f3, f4, f5, f6⟩ | ⟨-, g7, h7, f1, f2, f2', f3, f4, f5⟩
        · have f1' : f_X8_take 57 59 g6 = some (true, g7) := f1
          have f2' : f_X12_eats 136 30 (sI h3 140 2 (nI W)) = some (true, h7) := f2
          have hs7 := hs6.fc f3
          have hh7 := hh3'.fm f4
          have hF7 : gI (sI h7 140 0 (gI h7 140 0 + 1)) 140 = fR F R W := by
            rw [gI_sIs, f4.I (by decide), h0, pk_un (by decide), pk_un (by decide), hP 0 (by decide)]
            rfl
          rw [f1', f2', bd_eq, ibT, r_e14 hh7, bd_eq]
          refine ⟨true, g7, _, rfl, rfl, ?_, (y3.tr (f4.mono (by decide) (by decide))).tr (Fm.rf.si (by decide) (by decide)), ⟨hs7, by rw [f3.1.1.1]; omega, by rw [f3.1.1.2.1]; omega⟩, Or.inl ⟨rfl, ⟨hs7, hh7.si, f5, f6.hh⟩, ⟨?_, ?_, by omega, by rw [f3.1.1.1]; omega⟩, ?_⟩⟩
          · exact fl6.tr (FLZ.fc f3 (by omega) (fun a ha => (by cases ha)))
          · rw [f3.1.R]
            exact c3
          · rw [f3.1.R]
            exact q635
          · rw [hF7]
            refine ⟨pq.fa f3.1.a (fun a ha => by simp at ha; omega), dq.fa hs6 f3.1.a (fun a ha => by simp at ha; omega), wq, ?_⟩
            have : nv (fR F R W) 614 = 0 := by
              unfold nv
              rw [z 614 (by decide) (by decide) (by omega)]
              rfl
            omega
        · have f1' : f_X8_take 57 59 g6 = some (false, g7) := f1
          have f2'' : f_X12_eats 136 30 (sI h3 140 2 (nI W)) = some (false, sI h3 140 2 (nI W)) := f2
          rw [f1', f2'', bd_eq, ibF, f2', bd_eq, r_e14 (hh3'.fm f4), bd_eq]
          refine ⟨false, g7, _, rfl, rfl, ?_, (y3.tr (f4.mono (by decide) (by decide))).tr (Fm.rf.si (by decide) (by decide)), ⟨hs6.fc f3, by rw [f3.1.1.1]; omega, by rw [f3.1.1.2.1]; omega⟩, Or.inr ⟨rfl, f5.hh (by decide)⟩⟩
          exact fl6.tr (FLZ.fc f3 (by omega) (fun a ha => (by cases ha)))
      · have d1' : f_X8_takeNumber 57 1 6 g2 = some (false, g3) := d1
        have d2' : f_X12_takes 136 1 6 (sI h2 140 1 (nI (vZ T n (0 + 1)))) = some (v, h3) := d2
        have hh3 := sh2.fm d4
        have hh3' : Sh (sI h3 140 2 v) := hh3
        have bb : BadG g3 (sI h3 140 2 v) := d5.hh (by decide)
        have x3 : Fi [57] g g3 := x2.tr (d3.1.mono (by simp))
        obtain ⟨y1, y2⟩ := e57 x3 (by simp [LLZ])
        rw [r_66 hh1 b2' hh2 d2' hh3, x_ends hh3' bb.x, d1', bd_eq, bd_eq, ibF]
        exact ⟨false, g3, _, rfl, rfl, y1, (((((a4.mono (by decide) (by decide)).tr (b4.mono (by decide) (by decide))).tr (Fm.rf.si (by decide) (by decide))).tr (d4.mono (by decide) (by decide))).tr (Fm.rf.si (by decide) (by decide))).tr (Fm.rf.si (by decide) (by decide)), y2, Or.inr ⟨rfl, bb.hh (by decide)⟩⟩
    · have b1' : f_X8_takeNumber 57 1 6 g1 = some (false, g2) := b1
      have b2' : f_X12_takes 136 1 6 h1 = some (v, h2) := b2
      have hh2 := hh1.fm b4
      have sh2 : Sh (sI h2 140 1 v) := hh2
      have b3' : BadG g2 (sI h2 140 1 v) := b5.hh (by decide)
      have sh3 : Sh (sI (sI h2 140 1 v) 140 2 (gI (sI h2 140 1 v) 136 10)) := hh2
      have bb : BadG g2 (sI (sI h2 140 1 v) 140 2 (gI (sI h2 140 1 v) 136 10)) := b3'.hh (by decide)
      have x2 : Fi [57] g g2 := x1.tr (b3.1.mono (by simp))
      obtain ⟨y1, y2⟩ := e57 x2 (by simp [LLZ])
      rw [r_66 hh1 b2' hh2 (x_takes b3'.x 1 6) sh2, x_ends sh3 bb.x, b1', bd_eq, bd_eq, ibF]
      exact ⟨false, g2, _, rfl, rfl, y1, ((((a4.mono (by decide) (by decide)).tr (b4.mono (by decide) (by decide))).tr (Fm.rf.si (by decide) (by decide))).tr (Fm.rf.si (by decide) (by decide))).tr (Fm.rf.si (by decide) (by decide)), y2, Or.inr ⟨rfl, bb.hh (by decide)⟩⟩
  · obtain ⟨g2, h2, a1, a2, a3, a4, a5⟩ := ls_bad cc rr
    have hh2 := hh.fm a4
    have sh2 : Sh (sI h2 140 1 (gI h2 136 10)) := hh2
    have b3' : BadG g2 (sI h2 140 1 (gI h2 136 10)) := a5.hh (by decide)
    have sh3 : Sh (sI (sI h2 140 1 (gI h2 136 10)) 140 2 (gI (sI h2 140 1 (gI h2 136 10)) 136 10)) := hh2
    have bb : BadG g2 (sI (sI h2 140 1 (gI h2 136 10)) 140 2 (gI (sI h2 140 1 (gI h2 136 10)) 136 10)) := b3'.hh (by decide)
    obtain ⟨y1, y2⟩ := e57 a3.1 (by simp [LLZ])
    rw [decide_eq_false e8, ibF, if_neg e8, bd_eq, ibF, a1, a2, bd_eq, bd_eq, r_66 hh2 (x_takes a5.x 1 6) hh2 (x_takes b3'.x 1 6) sh2, x_ends sh3 bb.x, bd_eq]
    exact ⟨false, g2, _, rfl, rfl, y1, (((a4.mono (by decide) (by decide)).tr (Fm.rf.si (by decide) (by decide))).tr (Fm.rf.si (by decide) (by decide))).tr (Fm.rf.si (by decide) (by decide)), y2, Or.inr ⟨rfl, bb.hh (by decide)⟩⟩
end RDS
