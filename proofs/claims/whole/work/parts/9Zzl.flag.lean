/-! LOCKSTEP of lines: flags of a pair. -/
section FLG
variable {T : Nat → Nat} {n M i q p v x y : Nat} {F F' F2 : Nat → Int32} {g g' g1 g2 h h' h1 : G} {S : List Nat}
theorem hp_cg {F F' : Nat → Int32} {c : Nat} (e : nv F' (10 + c) = nv F (10 + c)) : hp F' c = hp F c := by
  unfold hp ht
  rw [e]
theorem fre_d {A : Nat → Int32} {r c : Nat} : fre A r c = decide (wl A c = 0 ∧ ∀ i, i < 2 * nv A 3 → i / 2 ≠ r → tw A i ≠ c) := rfl
/-- a row where of the pair to be told mood and errands have changed -/
def Gq (p : Nat) (F F' : Nat → Int32) : Prop := ∀ k, k ≠ 97 + p → k ≠ 46 + 2 * p → k ≠ 46 + 2 * p + 1 → F' k = F k
theorem Gq.rf : Gq p F F := fun _ _ _ _ => rfl
theorem Gq.tr (a : Gq p F F') (b : Gq p F' F2) : Gq p F F2 := fun k k1 k2 k3 => (b k k1 k2 k3).trans (a k k1 k2 k3)
theorem Gq.nn (e : Gq p F F') (hp : p < 3) {k : Nat} (hk : k < 46 ∨ (52 ≤ k ∧ k < 97) ∨ 100 ≤ k) : nv F' k = nv F k := by
  unfold nv
  rw [e k (by omega) (by omega) (by omega)]
theorem Gq.k (e : Gq p F F') (hp : p < 3) {k : Nat} (hk : k < 46 ∨ (52 ≤ k ∧ k < 97) ∨ 100 ≤ k) : F' k = F k := e k (by omega) (by omega) (by omega)
theorem Gq.lq (e : Gq p F F') (hp : p < 3) : Lq F F' := fun k hk => e.k hp (by omega)
theorem Gq.c (e : Gq p F F') (hp : p < 3) : cS F' = cS F := by
  unfold cS
  rw [e.nn hp (by omega), e.nn hp (by omega)]
theorem Gq.wq (e : Gq p F F') (h : WQ F) (hp : p < 3) (pk : nv F 3 = p) (m1 : F' (97 + p) = nI v) (m2 : v ≤ 9) : WQ F' := by
  obtain ⟨h1, h2, h3, h4, h5, h6, h7, h8, h9⟩ := id h
  have cl := cS_le h1
  have Q := h.lq (e.lq hp) (by rw [e.nn hp (by omega)]; exact Nat.le_refl _)
  have T_ : ∀ i, i < 6 → tw F' i = tw F i := fun i hi => e.nn hp (by omega)
  have H_ : ∀ c, c < 36 → ht F' c = ht F c := fun c hc => e.nn hp (by omega)
  have n3 : nv F' 3 = nv F 3 := e.nn hp (by omega)
  refine ⟨?_, fun c hc => ?_, fun i hi => ?_, fun i j hi hj hij => ?_, fun r hr => ?_, Q, ?_, ?_, fun r hr => ?_⟩
  · unfold Dm
    rw [e.nn hp (by omega), e.nn hp (by omega), n3, e.k hp (by omega), e.k hp (by omega), e.k hp (by omega)]
    exact h1
  · rw [e.c hp, H_ c hc, e.k hp (by omega)]
    exact h2 c hc
  · rw [n3] at hi
    obtain ⟨t1, t2, t3⟩ := h3 i hi
    rw [e.c hp, T_ i (by omega), H_ _ (by omega), e.k hp (by omega)]
    exact ⟨t1, t2, t3⟩
  · rw [n3] at hi hj
    rw [T_ i (by omega), T_ j (by omega)]
    exact h4 i j hi hj hij
  · by_cases z : r = p
    · have : md F' p = v := by
        unfold md nv
        rw [m1, nI_clamp (by omega)]
      rw [z, this]
      exact ⟨m1, m2⟩
    · have : md F' r = md F r := by
        unfold md nv
        rw [e (97 + r) (by omega) (by omega) (by omega)]
      rw [this, e (97 + r) (by omega) (by omega) (by omega)]
      exact h5 r hr
  · rw [e.nn hp (by omega), e.k hp (by omega)]
    exact h7
  · rw [e.k hp (by omega)]
    exact h8
  · rw [e.k hp (by omega)]
    exact h9 r hr
theorem Gq.dq (e : Gq p F F') (hp : p < 3) (pk : nv F 3 = p) (d : DQ g F) (eL : gL g' 63 = gL g 63) (e1 : gI g' 64 = gI g 64) (e2 : gI g' 65 = gI g 65) (e3 : ∀ r, r < 3 → gI g' 66 r = F' (97 + r)) (e4 : gI g' 67 = gI g 67) : DQ g' F' := by
  obtain ⟨d1, d2, d3, d4, d5⟩ := d
  have n3 : nv F' 3 = nv F 3 := e.nn hp (by omega)
  have T_ : ∀ i, i < 6 → tw F' i = tw F i := fun i hi => e.nn hp (by omega)
  unfold DQ
  rw [eL, e1, e2, e4, n3]
  refine ⟨fun c hc => ?_, fun i hi => ?_, fun r hr => ?_, e3, fun r hr => ?_⟩
  · rw [d1 c hc, decide_eq_decide]
    constructor
    · rintro ⟨u1, u2⟩
      exact ⟨u1, by rw [e.k hp (by omega)]; exact u2⟩
    · rintro ⟨u1, u2⟩
      rw [e.k hp (by omega)] at u2
      exact ⟨u1, u2⟩
  · rw [d2 i hi, e.k hp (by omega)]
  · rw [d3 r hr]
    unfold sp
    rw [T_ _ (by omega), T_ _ (by omega), e.nn hp (by omega)]
  · rw [d5 r hr]
    by_cases z : r < nv F 3
    · rw [if_pos z, if_pos z]
      unfold dnw
      rw [T_ _ (by omega), T_ _ (by omega), e (46 + 2 * r) (by omega) (by omega) (by omega), e (46 + 2 * r + 1) (by omega) (by omega) (by omega)]
    · rw [if_neg z, if_neg z]
theorem Gq.pq (e : Gq p F F') (hp : p < 3) (h : PQ g q F) (hW : WQ F) (x : Fq S g g') (hS : ∀ a ∈ S, a < q ∨ a = q + 4) (hq : ∀ k, k < 6 → gI g' (q + 4) k = F' (46 + k)) : PQ g' q F' := by
  have L := h.lq hW (e.lq hp)
  obtain ⟨h1, h2, h3, ⟨h4, h5, h6, h7⟩, ⟨h8, h9, h10, h11⟩, h12, h13⟩ := id h
  have nS : ∀ k, k ≠ 4 → q + k ∉ S := fun k hk u => by
    have := hS _ u
    omega
  have nq : q ∉ S := nS 0 (by decide)
  refine ⟨h1.fq x, ?_⟩
  rw [x.I nq, x.L nq, x.R nq, x.I (nS 1 (by decide)), x.I (nS 2 (by decide)), x.I (nS 3 (by decide)), e.c hp, e.nn hp (by omega), e.k hp (by omega), e.k hp (by omega), e.k hp (by omega), e.k hp (by omega)]
  refine ⟨h2, h3, ⟨h4.fa x.a, h5.fa x.a, h6.fa x.a, h7.fa x.a⟩, ⟨fun c hc => ?_, h9, h10, hq⟩, L.1.fa x.a ?_, L.2.fa x.a ?_⟩
  · rw [hp_cg (c := c) (e.nn hp (by omega))]
    exact h8 c hc
  · intro a ha u
    have := hS a ha
    omega
  · intro a ha u
    have := hS a ha
    omega
theorem Gq.fre (e : Gq p F F') (hp : p < 3) (h3 : nv F 3 ≤ 3) {r c : Nat} (hc : c < 36) : fre (fnR F') r c = fre (fnR F) r c := by
  have n3 : nv F' 3 = nv F 3 := e.nn hp (by omega)
  have a1 : nv (fnR F') 3 = nv (fnR F) 3 := by
    rw [fn_n (by omega) (by omega), fn_n h3 (by omega), n3]
  have a2 : wl (fnR F') c = wl (fnR F) c := by
    rw [fn_wl hc, fn_wl hc, e.k hp (by omega)]
  have a3 : ∀ i, i < 6 → tw (fnR F') i = tw (fnR F) i := fun i hi => by
    unfold tw
    rw [fn_n (by omega) (by omega), fn_n h3 (by omega), e.nn hp (by omega)]
  have b3 : nv (fnR F) 3 = nv F 3 := fn_n h3 (by omega)
  rw [fre_d, fre_d, a1, a2, decide_eq_decide]
  constructor
  · rintro ⟨u1, u2⟩
    exact ⟨u1, fun i i1 i2 => by rw [← a3 i (by omega)]; exact u2 i i1 i2⟩
  · rintro ⟨u1, u2⟩
    exact ⟨u1, fun i i1 i2 => by rw [a3 i (by omega)]; exact u2 i i1 i2⟩
def FO (T : Nat → Nat) (n M q p i : Nat) (F : Nat → Int32) (g h : G) (c r : Option (Bool × G)) : Prop := ∃ b g' h', c = some (b, g') ∧ r = some (b, h') ∧ Fq [57, 66, q + 4] g g' ∧ gR g' = gR g ∧ Fm KrL [140] h h' ∧ ((b = true ∧ ∃ i', i < i' ∧ CT T n M i' g' ∧ RT T n i' h' ∧ PQ g' q (gI h' 140) ∧ DQ g' (gI h' 140) ∧ WQ (gI h' 140) ∧ Gq p F (gI h' 140)) ∨ (b = false ∧ BadG g' h'))
theorem x_74 (r : gI h 136 11 ≠ 0) : f_X12_readFlag_74 136 h = some (false, h) := by
  rw [f_X12_readFlag_74, if_neg r]
theorem r_74 (r : gI h 136 11 = 0) : f_X12_readFlag_74 136 h = some (true, h) := by
  rw [f_X12_readFlag_74, if_pos r]
theorem ls_mood (hz : TZ T n M) (hs : Sh g) (hh : Sh h) (cc : CT T n M i g) (rr : RT T n i h) (hF : gI h 140 = F) (pq : PQ g q F) (dq : DQ g F) (wq : WQ F) (q155 : 155 ≤ q) (hp : p < 3) (pk : nv F 3 = p) (e2 : kZ T n i = 2 ∧ vZ T n i = 2) : FO T n M q p i F g h (f_X8_flag 57 (nI p) g) (f_X12_readFlag 136 (nI p) h) := by
  have w2 : f_X8_isWord 57 2 g = _ := c_isW cc (w := 2) (by decide)
  have i4 : f_X12_eats 136 4 h = _ := r_eatsW rr (w := 2) (by decide)
  obtain ⟨iM, g1, h1, a1, a2, a3, a4, a5, a6⟩ := ls_next hz hs hh cc rr (by omega) (by omega)
  have hs1 := hs.fc a3
  have hh1 := hh.fm a4
  rw [f_X8_flag, f_X12_readFlag, w2, i4, if_pos e2, a2, bd_eq, bd_eq, li, decide_eq_true e2, a1, bd_eq, bd_eq, ibT, ibT, md136_4 hh1]
  have ix : (97 : Int32) + nI p = nI (97 + p) := by rw [show (97 : Int32) = nI 97 from rfl, nI_add]
  rcases ls_num hz hs1 hh1 a5 a6 (lo := 0) (hi := 9) (by decide) (by decide) with ⟨-, -, v9, iM, g2, h2, b1, b2, b3, b4, b5, b6, b7⟩ | ⟨v, g2, h2, b1, b2, b3, b4, b5⟩
  · have b1' : f_X8_takeNumber 57 0 9 g1 = some (true, g2) := b1
    have b2' : f_X12_takes 136 0 9 h1 = some (nI (vZ T n (i + 1)), h2) := b2
    have hs2 := hs1.fc b3
    have hh2 := hh1.fm b4
    have x2 : Fi [57] g g2 := (a3.1.mono (by simp)).tr (b3.1.mono (by simp))
    have F2_ : gI h2 140 = F := by
      rw [b4.I (by decide), a4.I (by decide)]
      exact hF
    rw [b1', b2', bd_eq, bd_eq, ibT, md57_0 hs2, gk63 hs2, md63_4 hs2, gk66 hs2, sn66 hs2, gdI_nI hp (by decide), nI_clamp (by omega), b7, lg, gk140 hh2, sn140 hh2, ix, gdI_nI (by omega) (by decide), nI_clamp (by omega), lg, r_74 (by rw [gI_sIn (by decide)]; exact b6.2.2.2.2.2)]
    have hF3 : gI (sI h2 140 (97 + p) (nI (vZ T n (i + 1)))) 140 = upd F (97 + p) (nI (vZ T n (i + 1))) := by
      rw [gI_sIs, F2_]
    have eg : Gq p F (upd F (97 + p) (nI (vZ T n (i + 1)))) := fun k k1 _ _ => pk_un k1
    have x3 : Fi [57, 66, q + 4] g (sI g2 66 p (nI (vZ T n (i + 1)))) := (x2.mono (by simp)).si (by simp)
    refine ⟨true, _, _, rfl, rfl, x3.q, x3.R, (((a4.mono (by decide) (by decide)).tr (b4.mono (by decide) (by decide))).tr (Fm.rf.si (by decide) (by decide))), Or.inl ⟨rfl, i + 1 + 1, by omega, b5.fi (S := [66]) (Fi.rf.si (by simp)) (by simp), b6.hh, ?_⟩⟩
    rw [hF3]
    refine ⟨eg.pq hp pq wq x3.q (fun a ha => by simp at ha; omega) (fun k hk => ?_), eg.dq hp pk dq ?_ ?_ ?_ (fun r hr => ?_) ?_, eg.wq wq hp pk pk_us v9, eg⟩
    · rw [gI_sIn (by omega), x2.I (by simp; omega), pk_un (by omega)]
      exact pq.2.2.2.2.1.2.2.2 k hk
    · rw [gL_sI, x2.L (by decide)]
    · rw [gI_sIn (by decide), x2.I (by decide)]
    · rw [gI_sIn (by decide), x2.I (by decide)]
    · rw [gI_sIs, x2.I (by decide)]
      by_cases z : r = p
      · rw [z, pk_us, pk_us]
      · rw [pk_un z, pk_un (by omega)]
        exact dq.2.2.2.1 r hr
    · rw [gI_sIn (by decide), x2.I (by decide)]
  · have b1' : f_X8_takeNumber 57 0 9 g1 = some (false, g2) := b1
    have b2' : f_X12_takes 136 0 9 h1 = some (v, h2) := b2
    have hh2 := hh1.fm b4
    have x2 : Fi [57, 66, q + 4] g g2 := (a3.1.mono (by simp)).tr (b3.1.mono (by simp))
    have bb : BadG g2 (sI h2 140 (97 + p) v) := b5.hh (by decide)
    rw [b1', b2', bd_eq, bd_eq, ibF, gk140 hh2, sn140 hh2, ix, gdI_nI (by omega) (by decide), nI_clamp (by omega), lg, x_74 bb.x]
    exact ⟨false, _, _, rfl, rfl, x2.q, x2.R, (((a4.mono (by decide) (by decide)).tr (b4.mono (by decide) (by decide))).tr (Fm.rf.si (by decide) (by decide))), Or.inr ⟨rfl, bb⟩⟩
theorem ls_errand (hz : TZ T n M) (hs : Sh g) (hh : Sh h) (cc : CT T n M i g) (rr : RT T n i h) (q2 : gR g 57 3 = some q) (hF : gI h 140 = F) (pq : PQ g q F) (dq : DQ g F) (wq : WQ F) (q155 : 155 ≤ q) (hp : p < 3) (pk : nv F 3 = p) (e2 : kZ T n i = 2 ∧ vZ T n i = 11) : FO T n M q p i F g h (f_X8_flag 57 (nI p) g) (f_X12_readFlag 136 (nI p) h) := by
  have hA' := wq.1
  have w2 : f_X8_isWord 57 2 g = _ := c_isW cc (w := 2) (by decide)
  have i4 : f_X12_eats 136 4 h = _ := r_eatsW rr (w := 2) (by decide)
  have i3 : f_X12_eats 136 3 h = _ := r_eatsW rr (w := 11) (by decide)
  obtain ⟨iM, g1, h1, a1, a2, a3, a4, a5, a6⟩ := ls_next hz hs hh cc rr (by omega) (by omega)
  have hs1 := hs.fc a3
  have hh1 := hh.fm a4
  have F1_ : gI h1 140 = F := by
    rw [a4.I (by decide)]
    exact hF
  have pq1 : PQ g1 q F := pq.fa a3.1.a (fun a ha => by simp at ha; omega)
  have q21 : gR g1 57 3 = some q := by
    rw [a3.1.R]
    exact q2
  have ix1 : (46 : Int32) + (2 : Int32) * nI p = nI (46 + 2 * p) := by rw [nI2, show (46 : Int32) = nI 46 from rfl, nI_add]
  have n2 : ¬ (kZ T n i = 2 ∧ vZ T n i = 2) := by omega
  rw [f_X8_flag, f_X12_readFlag, w2, i4, if_neg n2, bd_eq, bd_eq, li, decide_eq_false n2, a1, bd_eq, ibF, ibF, i3, if_pos e2, a2, bd_eq, bd_eq, ibT, md136_4 hh1, q21, dr_eq, gdK_pos pq1.1]
  rcases ls_err hz hs1 hh1 a5 a6 F1_ hA' pq1.2.2.1 with ⟨-, vx, iM1, g2, h2, b1, b2, b3, b4, b5, b6, b7⟩ | ⟨v, g2, h2, b1, b2, b3, b4, b5⟩
  · have hs2 := hs1.fc b3
    have hh2 := hh1.fm b4
    have x2 : Fi [57] g g2 := (a3.1.mono (by simp)).tr (b3.1.mono (by simp))
    have R2 : gR g2 = gR g := x2.R
    have pq2 : PQ g2 q F := pq.fa x2.a (fun a ha => by simp at ha; omega)
    have F2_ : gI h2 140 = F := by
      rw [b4.I (by decide)]
      exact F1_
    obtain ⟨e1, e1a, e1b⟩ := pq2.2.2.2.1.2.2.2
    rw [b1, b2, bd_eq, bd_eq, ibT, R2, q2, dr_eq, gdK_pos pq2.1, ← R2, e1, dr_eq, gdK_pos e1a, e1b, nI2, gdI_nI (by omega) (by decide), nI_clamp (by omega), b7, lg, gk140 hh2, sn140 hh2, ← nI2, ix1, gdI_nI (by omega) (by decide), nI_clamp (by omega), lg]
    obtain ⟨g3, hg3⟩ : ∃ g3, g3 = sI g2 (q + 4) (2 * p) (nI (vZ T n (i + 1))) := ⟨_, rfl⟩
    obtain ⟨h3, hh3⟩ : ∃ h3, h3 = sI h2 140 (46 + 2 * p) (nI (vZ T n (i + 1))) := ⟨_, rfl⟩
    rw [← hg3, ← hh3]
    have x3 : Fi [57, 66, q + 4] g g3 := by
      rw [hg3]
      exact (x2.mono (by simp)).si (by simp)
    have y3 : Fm KrL [140] h h3 := by
      rw [hh3]
      exact ((a4.mono (by decide) (by decide)).tr (b4.mono (by decide) (by decide))).tr (Fm.rf.si (by decide) (by decide))
    have c3 : CT T n M (i + 1 + 1) g3 := by
      rw [hg3]
      exact b5.fi (S := [q + 4]) (Fi.rf.si (by simp)) (fun a ha => by simp at ha; omega)
    have r3 : RT T n (i + 1 + 1) h3 := by
      rw [hh3]
      exact b6.hh
    have hs3 := Sh.fi x3 hs
    have sh3 := hh.fm y3
    obtain ⟨F3, hF3⟩ : ∃ F3, F3 = gI h3 140 := ⟨_, rfl⟩
    have eF3 : F3 = upd F (46 + 2 * p) (nI (vZ T n (i + 1))) := by
      rw [hF3, hh3, gI_sIs, F2_]
    have eg3 : Gq p F F3 := fun k _ k2 _ => by
      rw [eF3]
      exact pk_un k2
    have md0 := wq.2.2.2.2.1 p hp
    have wq3 : WQ F3 := eg3.wq wq hp pk (v := md F p) (by rw [eF3, pk_un (by omega)]; exact md0.1) md0.2
    have pq3 : PQ g3 q F3 := eg3.pq hp pq wq x3.q (fun a ha => by simp at ha; omega) (fun k hk => by
      rw [hg3, gI_sIs, x2.I (by simp; omega), eF3]
      by_cases z : k = 2 * p
      · rw [z, pk_us, pk_us]
      · rw [pk_un z, pk_un (by omega)]
        exact pq.2.2.2.2.1.2.2.2 k hk)
    have gq3 : gL g3 q = gL g2 q := by
      rw [hg3]
      rfl
    rw [md136_4 sh3]
    rcases ls_err hz hs3 sh3 c3 r3 hF3.symm wq3.1 pq3.2.2.1 with ⟨-, vy, iM2, g4, h4, d1, d2, d3, d4, d5, d6, d7⟩ | ⟨v, g4, h4, d1, d2, d3, d4, d5⟩
    · have hs4 := hs3.fc d3
      have sh4 := sh3.fm d4
      have x4 : Fi [57, 66, q + 4] g g4 := x3.tr (d3.1.mono (by simp))
      have R4 : gR g4 = gR g := x4.R
      have pq4 : PQ g4 q F3 := pq3.fa d3.1.a (fun a ha => by simp at ha; omega)
      obtain ⟨f1, f1a, f1b⟩ := pq4.2.2.2.1.2.2.2
      have F4_ : gI h4 140 = F3 := by
        rw [d4.I (by decide)]
        exact hF3.symm
      rw [d1, d2, bd_eq, bd_eq, ibT, R4, q2, dr_eq, gdK_pos pq4.1, ← R4, f1, dr_eq, gdK_pos f1a, f1b, nI2, lad1, gdI_nI (by omega) (by decide), nI_clamp (by omega), d7, lg, gk140 sh4, sn140 sh4, lad1, gdI_nI (by omega) (by decide), nI_clamp (by omega), lg, r_74 (by rw [gI_sIn (by decide)]; exact d6.2.2.2.2.2)]
      have hF5 : gI (sI h4 140 (46 + 2 * p + 1) (nI (vZ T n (i + 1 + 1)))) 140 = upd F3 (46 + 2 * p + 1) (nI (vZ T n (i + 1 + 1))) := by
        rw [gI_sIs, F4_]
      have eg5 : Gq p F (upd F3 (46 + 2 * p + 1) (nI (vZ T n (i + 1 + 1)))) := eg3.tr (fun k _ _ k3 => pk_un k3)
      have x5 : Fi [57, 66, q + 4] g (sI g4 (q + 4) (2 * p + 1) (nI (vZ T n (i + 1 + 1)))) := x4.si (by simp)
      refine ⟨true, _, _, rfl, rfl, x5.q, x5.R, (y3.tr (d4.mono (by decide) (by decide))).tr (Fm.rf.si (by decide) (by decide)), Or.inl ⟨rfl, i + 1 + 1 + 1, by omega, d5.fi (S := [q + 4]) (Fi.rf.si (by simp)) (fun a ha => by simp at ha; omega), d6.hh, ?_⟩⟩
      have g66 : gI g4 66 = gI g 66 := by
        rw [d3.1.I (by decide), hg3, gI_sIn (by omega), x2.I (by decide)]
      rw [hF5]
      refine ⟨eg5.pq hp pq wq x5.q (fun a ha => by simp at ha; omega) (fun k hk => ?_), eg5.dq hp pk dq ?_ ?_ ?_ (fun r hr => ?_) ?_, eg5.wq wq hp pk (v := md F p) (by rw [pk_un (by omega), eF3, pk_un (by omega)]; exact md0.1) md0.2, eg5⟩
      · rw [gI_sIs]
        by_cases z : k = 2 * p + 1
        · rw [z, pk_us, ← Nat.add_assoc, pk_us]
        · rw [pk_un z, pk_un (by omega)]
          exact pq4.2.2.2.2.1.2.2.2 k hk
      · show gL g4 63 = _
        rw [d3.1.L (by decide), hg3, gL_sI, x2.L (by decide)]
      · rw [gI_sIn (by omega), d3.1.I (by decide), hg3, gI_sIn (by omega), x2.I (by decide)]
      · rw [gI_sIn (by omega), d3.1.I (by decide), hg3, gI_sIn (by omega), x2.I (by decide)]
      · rw [gI_sIn (by omega), g66, pk_un (by omega), eF3, pk_un (by omega)]
        exact dq.2.2.2.1 r hr
      · rw [gI_sIn (by omega), d3.1.I (by decide), hg3, gI_sIn (by omega), x2.I (by decide)]
    · have sh4 := sh3.fm d4
      have x4 : Fi [57, 66, q + 4] g g4 := x3.tr (d3.1.mono (by simp))
      have bb : BadG g4 (sI h4 140 (46 + 2 * p + 1) v) := d5.hh (by decide)
      rw [d1, d2, bd_eq, bd_eq, ibF, gk140 sh4, sn140 sh4, lad1, gdI_nI (by omega) (by decide), nI_clamp (by omega), lg, x_74 bb.x]
      exact ⟨false, _, _, rfl, rfl, x4.q, x4.R, (y3.tr (d4.mono (by decide) (by decide))).tr (Fm.rf.si (by decide) (by decide)), Or.inr ⟨rfl, bb⟩⟩
  · have hh2 := hh1.fm b4
    have x2 : Fi [57, 66, q + 4] g g2 := (a3.1.mono (by simp)).tr (b3.1.mono (by simp))
    have b3' : BadG g2 (sI h2 140 (46 + 2 * p) v) := b5.hh (by decide)
    have sh3 : Sh (sI h2 140 (46 + 2 * p) v) := hh2.si
    have bb : BadG g2 (sI (sI h2 140 (46 + 2 * p) v) 140 (46 + 2 * p + 1) (gI (sI h2 140 (46 + 2 * p) v) 136 10)) := b3'.hh (by decide)
    rw [b1, b2, bd_eq, bd_eq, ibF, gk140 hh2, sn140 hh2, ix1, gdI_nI (by omega) (by decide), nI_clamp (by omega), lg, md136_4 sh3, x_place sh3 b3'.x, bd_eq, gk140 sh3, sn140 sh3, lad1, gdI_nI (by omega) (by decide), nI_clamp (by omega), lg, x_74 bb.x]
    exact ⟨false, _, _, rfl, rfl, x2.q, x2.R, (((a4.mono (by decide) (by decide)).tr (b4.mono (by decide) (by decide))).tr (Fm.rf.si (by decide) (by decide))).tr (Fm.rf.si (by decide) (by decide)), Or.inr ⟨rfl, bb⟩⟩
end FLG
