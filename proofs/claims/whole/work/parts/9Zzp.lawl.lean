/-! LOCKSTEP of lines: a law is kept. -/
section LWL
variable {T : Nat → Nat} {n M i q N w : Nat} {F F' : Nat → Int32} {L : List Nat} {g g' g1 g2 h h' h1 : G} {b : Bool}
/-- the class keeps what it has written -/
theorem c_43 (hs : Sh g) (q2 : gR g 57 3 = some q) (q155 : 155 ≤ q) (qn : q + 5 ≤ gn g) (pk : KD g q 7) (hw : w < 2) (cd : CD L g) (hl : L.length < 900) : ∃ g', f_X8_lawLine_43 57 (nI (1 - w)) g = some (true, g') ∧ Fa [q] g g' ∧ gn g' = gn g + 1 ∧ gs g' = gs g + L.length ∧ gI g' q = gI g q ∧ gL g' q = gL g q ∧ gR g' q = va_up (gR g q) (10 + w) (some (gn g)) ∧ Ar g' (some (gn g)) (gn g) L.length ∧ ∀ j, j < L.length → gI g' (gn g) j = nI (cm (L.getD j 0)) := by
  have g155 := hs.1
  obtain ⟨g1, hg1⟩ : ∃ g1, g1 = nw g 14 L.length L.length := ⟨_, rfl⟩
  obtain ⟨g2, hg2⟩ : ∃ g2, g2 = rI g1 (gn g) (va_cpy (gI g1 62) (gI g1 (gn g)) 0 0 L.length) := ⟨_, rfl⟩
  have n62 : gN g1 62 = 900 := by
    rw [hg1, gN_nw, va_up_ne _ _ (by omega), sn62 hs]
  have na : gN g1 (gn g) = L.length := by
    rw [hg1, gN_nw, va_up_self]
  have R2 : ∀ a, a ≠ gn g → gR g2 a = gR g a := fun a ha => by
    rw [hg2]
    show gR g1 a = _
    rw [hg1, gR_nw, va_up_ne _ _ ha]
  have I2 : ∀ a, a ≠ gn g → gI g2 a = gI g a := fun a ha => by
    rw [hg2, gI_rIn ha, hg1, gI_nw, va_up_ne _ _ ha]
  have L2 : ∀ a, a ≠ gn g → gL g2 a = gL g a := fun a ha => by
    rw [hg2]
    show gL g1 a = _
    rw [hg1, gL_nw, va_up_ne _ _ ha]
  have K2 : ∀ a, a ≠ gn g → gK g2 a = gK g a := fun a ha => by
    rw [hg2]
    show gK g1 a = _
    rw [hg1, gK_nw, va_up_ne _ _ ha]
  have N2 : ∀ a, a ≠ gn g → gN g2 a = gN g a := fun a ha => by
    rw [hg2]
    show gN g1 a = _
    rw [hg1, gN_nw, va_up_ne _ _ ha]
  have n2 : gn g2 = gn g + 1 := by
    rw [hg2]
    show gn g1 = _
    rw [hg1, gn_nw]
  have s2 : gs g2 = gs g + L.length := by
    rw [hg2]
    show gs g1 = _
    rw [hg1, gs_nw]
  have cp : f_J7_copyOf_59c91 62 (nI L.length) g = some (gn g, g2) := by
    have mn : f_J9_min_7cf53 (nI 900) (nI L.length) g1 = some (nI L.length, g1) := by
      rw [f_J9_min_7cf53, if_pos (nI_lt hl (by decide))]
    have gC : ∀ {α : Type} (k : Option α), gdC (0 : Int32) 0 (nI L.length) 900 L.length k = k := fun k => by
      unfold gdC
      refine if_neg ?_
      have e0 : (0 : Int32).toNatClampNeg = 0 := rfl
      rw [nI_clamp (by omega), e0]
      rintro (u | u | u | u | u)
      · exact absurd u (by decide)
      · exact absurd u (by decide)
      · exact nI_pos (by omega) u
      · omega
      · omega
    have gA : ∀ {α : Type} (k : Option α), gdA (nI L.length) k = k := fun k => by
      unfold gdA
      refine if_neg ?_
      rw [nI_clamp (by omega)]
      rintro (u | u)
      · exact nI_pos (by omega) u
      · omega
    rw [f_J7_copyOf_59c91, sn62 hs, if_neg (show ¬ nI L.length = nI 900 by rw [nI_eq (by omega) (by decide)]; omega), gA, nI_clamp (by omega), lg, ← hg1, ln, n62, mn, bd_eq, n62, na, gC, show (0 : Int32).toNatClampNeg = 0 from rfl, nI_clamp (by omega), lg, ← hg2]
  have kq : KD g2 q 7 := ⟨(K2 q (by omega)).trans pk.1, by rw [n2]; omega⟩
  have q22 : gR g2 57 3 = some q := by
    rw [R2 57 (by omega)]
    exact q2
  refine ⟨sR g2 q (10 + w) (some (gn g)), ?_, ⟨?_, fun a ha => ⟨?_, ?_, fun hn => ⟨?_, ?_, ?_⟩⟩⟩, ?_, ?_, ?_, ?_, ?_, ⟨rfl, ⟨?_, ?_⟩, ?_⟩, fun j hj => ?_⟩
  · rw [f_X8_lawLine_43, md57_16 hs, gk62 hs, cd.1, cp, bd_eq, q22, dr_eq, dr_eq, gdK_pos kq, gdK_pos kq, lg, lg]
    obtain rfl | rfl : w = 0 ∨ w = 1 := by omega
    · rw [if_neg (by decide)]
    · rw [if_pos (by decide)]
  · rw [gn_sR, n2]
    omega
  · rw [gK_sR, K2 a (by omega)]
  · rw [gN_sR, N2 a (by omega)]
  · rw [gI_sR, I2 a (by omega)]
  · rw [gL_sR, L2 a (by omega)]
  · rw [gR_sR, va_up_ne _ _ (fun u => hn (by rw [u]; simp)), R2 a (by omega)]
  · rw [gn_sR, n2]
  · rw [gs_sR, s2]
  · rw [gI_sR, I2 q (by omega)]
  · rw [gL_sR, L2 q (by omega)]
  · rw [gR_sR, va_up_self, R2 q (by omega)]
  · rw [gK_sR, hg2]
    show gK g1 (gn g) = 14
    rw [hg1, gK_nw, va_up_self]
  · rw [gn_sR, n2]
    omega
  · rw [gN_sR, hg2]
    show gN g1 (gn g) = _
    exact na
  · rw [gI_sR, hg2, gI_rIs, va_cpy_all hj, hg1, gI_nw, va_up_ne _ _ (by omega)]
    exact cd.2 j hj
/-- the row with the law kept -/
def lR (F4 : Nat → Int32) (w N m : Nat) : Nat → Int32 := upd (upd (upd F4 (4 + w) (nI 1)) (6 + w) (nI N)) (8 + w) (nI m)
theorem r_45 (hh : Sh h) (wr : gI h 136 11 = 0) (hw : w < 2) {m : Nat} (h6 : gI h 140 614 = nI (N + m)) : f_X12_readLaw_45 136 (nI w) (nI N) h = some ((), sI (sI (sI h 140 (4 + w) 1) 140 (6 + w) (nI N)) 140 (8 + w) (nI m)) := by
  have s1 : Sh (sI h 140 (4 + w) 1) := hh
  have s2 : Sh (sI (sI h 140 (4 + w) 1) 140 (6 + w) (nI N)) := hh
  rw [f_X12_readLaw_45, if_pos wr, md136_4 hh, gk140 hh, sn140 hh, show (4 : Int32) = nI 4 from rfl, nI_add, gdI_nI (by omega) (by decide), nI_clamp (by omega), lg]
  show gdI ((6 : Int32) + nI w) (gN (sI h 140 (4 + w) 1) 140) _ = _
  rw [sn140 s1, show (6 : Int32) = nI 6 from rfl, nI_add, gdI_nI (by omega) (by decide), nI_clamp (by omega), lg, sn140 s2, show (614 : Int32) = nI 614 from rfl, gdI_nI (by decide) (by decide), show (8 : Int32) = nI 8 from rfl, nI_add, gdI_nI (by omega) (by decide), nI_clamp (show 8 + w < 2 ^ 31 by omega), nI_clamp (show 614 < 2 ^ 31 by decide), gI_sIs, pk_un (by omega), gI_sIs, pk_un (by omega), h6, Nat.add_comm N m, nI_sub0, lg]
theorem LV.cg4 (k : LV F w b) (e8 : F' (8 + w) = F (8 + w)) (e6 : F' (6 + w) = F (6 + w)) (hN : nv F (6 + w) + nv F (8 + w) ≤ N) (e : ∀ k, 615 ≤ k → k < 615 + N → F' k = F k) : LV F' w b := by
  obtain ⟨k1, k2, k3, k4, k5⟩ := k
  have n8 : nv F' (8 + w) = nv F (8 + w) := by
    unfold nv
    rw [e8]
  have n6 : nv F' (6 + w) = nv F (6 + w) := by
    unfold nv
    rw [e6]
  have en : ∀ k, 615 ≤ k → k < 615 + N → nv F' k = nv F k := fun k h1 h2 => by
    unfold nv
    rw [e k h1 h2]
  refine ⟨by rw [n8, e8]; exact k1, by rw [n6, e6]; exact k2, by rw [n8, n6]; exact k3, fun j hj => ?_, ?_⟩
  · rw [n8] at hj
    rw [n6, e _ (by omega) (by omega), en _ (by omega) (by omega)]
    exact k4 j hj
  · have : lawL F' w = lawL F w := by
      unfold lawL
      rw [n8, n6]
      apply List.map_congr_left
      intro j hj
      rw [List.mem_range] at hj
      exact en _ (by omega) (by omega)
    rw [this]
    exact k5
theorem LR.cg4 {X : Nat → Prop} {o : Option Nat} (k : LR X g o F w) (e4 : F' (4 + w) = F (4 + w)) (e8 : F' (8 + w) = F (8 + w)) (e6 : F' (6 + w) = F (6 + w)) (hN : F (4 + w) = nI 0 ∨ nv F (6 + w) + nv F (8 + w) ≤ N) (e : ∀ k, 615 ≤ k → k < 615 + N → F' k = F k) : LR X g o F' w := by
  have n8 : nv F' (8 + w) = nv F (8 + w) := by
    unfold nv
    rw [e8]
  have n6 : nv F' (6 + w) = nv F (6 + w) := by
    unfold nv
    rw [e6]
  have en : ∀ k, 615 ≤ k → k < 615 + N → nv F' k = nv F k := fun k h1 h2 => by
    unfold nv
    rw [e k h1 h2]
  rcases k with z | z
  · exact Or.inl ⟨e4.trans z.1, z.2⟩
  · have := hN.resolve_left z.1
    refine Or.inr ⟨by rw [e4]; exact z.1, ?_⟩
    rw [n8, n6]
    exact z.2.cg (fun j hj => by rw [en _ (by omega) (by omega)])
/-- what a row with a law more is, against the one before -/
def Kq (w N : Nat) (L : List Nat) (F F' : Nat → Int32) : Prop := (∀ k, k < 614 ∨ (615 ≤ k ∧ k < 615 + N) → k ≠ 4 + w → k ≠ 6 + w → k ≠ 8 + w → F' k = F k) ∧ F' (4 + w) = nI 1 ∧ F' (6 + w) = nI N ∧ F' (8 + w) = nI L.length ∧ F' 614 = nI (N + L.length) ∧ ∀ j, j < L.length → F' (615 + N + j) = nI (L.getD j 0)
theorem Kq.of (hw : w < 2) (rd : RD N F L h) (hl : N + L.length < 900) : Kq w N L F (lR (gI h 140) w N L.length) := by
  obtain ⟨r1, r2, r3⟩ := rd
  unfold lR
  refine ⟨fun k hk k1 k2 k3 => ?_, ?_, ?_, pk_us, ?_, fun j hj => ?_⟩
  · rw [pk_un k3, pk_un k2, pk_un k1]
    exact r3 k hk
  · rw [pk_un (by omega), pk_un (by omega), pk_us]
  · rw [pk_un (by omega), pk_us]
  · rw [pk_un (by omega), pk_un (by omega), pk_un (by omega)]
    exact r1
  · rw [pk_un (by omega), pk_un (by omega), pk_un (by omega)]
    exact r2 j hj
theorem Kq.lv (e : Kq w N L F F') (hl : N + L.length < 900) (hc : ∀ c ∈ L, c < 4000) (ht : tyL L [] = some [b]) : LV F' w b ∧ nv F' (6 + w) = N ∧ nv F' (8 + w) = L.length ∧ ∀ j, j < L.length → nv F' (615 + N + j) = L.getD j 0 := by
  obtain ⟨e0, e4, e6, e8, e9, ej⟩ := e
  have n6 : nv F' (6 + w) = N := by
    unfold nv
    rw [e6, nI_clamp (by omega)]
  have n8 : nv F' (8 + w) = L.length := by
    unfold nv
    rw [e8, nI_clamp (by omega)]
  have gl : ∀ j, j < L.length → L.getD j 0 < 4000 := fun j hj => by
    rw [List.getD_eq_getElem?_getD, List.getElem?_eq_getElem hj]
    exact hc _ (List.getElem_mem hj)
  have nj : ∀ j, j < L.length → nv F' (615 + N + j) = L.getD j 0 := fun j hj => by
    unfold nv
    rw [ej j hj, nI_clamp (by have := gl j hj; omega)]
  have lw : lawL F' w = L := by
    unfold lawL
    rw [n6, n8]
    apply List.ext_getElem
    · rw [List.length_map, List.length_range]
    · intro j h1 h2
      rw [List.getElem_map, List.getElem_range, nj j h2, List.getD_eq_getElem?_getD, List.getElem?_eq_getElem h2]
      rfl
  refine ⟨⟨by rw [n8]; exact e8, by rw [n6]; exact e6, by rw [n6, n8]; omega, fun j hj => ?_, by rw [lw]; exact ht⟩, n6, n8, nj⟩
  rw [n8] at hj
  rw [n6, nj j hj]
  exact ⟨ej j hj, gl j hj⟩
theorem Kq.nn (e : Kq w N L F F') (hw : w < 2) {k : Nat} (hk : k < 4 ∨ (10 ≤ k ∧ k < 614)) : nv F' k = nv F k := by
  unfold nv
  rw [e.1 k (by omega) (by omega) (by omega) (by omega)]
theorem Kq.k (e : Kq w N L F F') (hw : w < 2) {k : Nat} (hk : k < 4 ∨ (10 ≤ k ∧ k < 614)) : F' k = F k := e.1 k (by omega) (by omega) (by omega) (by omega)
theorem Kq.c (e : Kq w N L F F') (hw : w < 2) : cS F' = cS F := by
  unfold cS
  rw [e.nn hw (by omega), e.nn hw (by omega)]
theorem Kq.wq (e : Kq w N L F F') (h : WQ F) (hw : w < 2) (hN : nv F 614 = N) (hl : N + L.length < 900) (hc : ∀ c ∈ L, c < 4000) (hty : tyL L [] = some [decide (w = 0)]) : WQ F' := by
  obtain ⟨h1, h2, h3, h4, h5, h6, h7, h8, h9⟩ := id h
  have cl := cS_le h1
  have k3 := h1.2.2.2.2.2.2.2
  obtain ⟨v1, v2, v3, v4⟩ := e.lv hl hc hty
  have n614 : nv F' 614 = N + L.length := by
    unfold nv
    rw [e.2.2.2.2.1, nI_clamp (by omega)]
  refine ⟨?_, fun c hc => ?_, fun i hi => ?_, fun i j hi hj hij => ?_, fun r hr => ?_, ?_, ?_, ?_, fun r hr => ?_⟩
  · unfold Dm
    rw [e.nn hw (by omega), e.nn hw (by omega), e.nn hw (by omega), e.k hw (by omega), e.k hw (by omega), e.k hw (by omega)]
    exact h1
  · unfold ht
    rw [e.c hw, e.nn hw (by omega), e.k hw (by omega)]
    exact h2 c hc
  · rw [e.nn hw (by omega)] at hi
    obtain ⟨t1, t2, t3⟩ := h3 i hi
    have et : tw F' i = tw F i := e.nn hw (by omega)
    rw [e.c hw, et, e.k hw (by omega)]
    refine ⟨t1, t2, ?_⟩
    unfold ht
    rw [e.nn hw (by omega)]
    exact t3
  · rw [e.nn hw (by omega)] at hi hj
    rw [show tw F' i = tw F i from e.nn hw (by omega), show tw F' j = tw F j from e.nn hw (by omega)]
    exact h4 i j hi hj hij
  · rw [show md F' r = md F r from e.nn hw (by omega), e.k hw (by omega)]
    exact h5 r hr
  · rw [n614]
    obtain ⟨a0, a1⟩ := h6
    obtain rfl | rfl : w = 0 ∨ w = 1 := by omega
    · refine ⟨Or.inr ⟨v1, by rw [show nv F' 6 = N from v2, show nv F' 8 = L.length from v3]; exact Nat.le_refl _⟩, ?_⟩
      rw [e.1 5 (by omega) (by omega) (by omega) (by omega)]
      refine a1.imp id (fun u => ⟨u.1.cg4 (N := N) (e.1 9 (by omega) (by omega) (by omega) (by omega)) (e.1 7 (by omega) (by omega) (by omega) (by omega)) (show nv F 7 + nv F 9 ≤ N by have := u.2; omega) (fun k k1 k2 => e.1 k (by omega) (by omega) (by omega) (by omega)), ?_⟩)
      unfold nv
      rw [e.1 9 (by omega) (by omega) (by omega) (by omega), e.1 7 (by omega) (by omega) (by omega) (by omega)]
      have := u.2
      unfold nv at this hN
      omega
    · refine ⟨?_, Or.inr ⟨v1, by rw [show nv F' 7 = N from v2, show nv F' 9 = L.length from v3]; exact Nat.le_refl _⟩⟩
      rw [e.1 4 (by omega) (by omega) (by omega) (by omega)]
      refine a0.imp id (fun u => ⟨u.1.cg4 (N := N) (e.1 8 (by omega) (by omega) (by omega) (by omega)) (e.1 6 (by omega) (by omega) (by omega) (by omega)) (show nv F 6 + nv F 8 ≤ N by have := u.2; omega) (fun k k1 k2 => e.1 k (by omega) (by omega) (by omega) (by omega)), ?_⟩)
      unfold nv
      rw [e.1 8 (by omega) (by omega) (by omega) (by omega), e.1 6 (by omega) (by omega) (by omega) (by omega)]
      have := u.2
      unfold nv at this hN
      omega
  · rw [n614]
    exact e.2.2.2.2.1
  · rw [e.k hw (by omega)]
    exact h8
  · rw [e.k hw (by omega)]
    exact h9 r hr
theorem Kq.dq (e : Kq w N L F F') (hw : w < 2) (h3 : nv F 3 ≤ 3) (d : DQ g F) : DQ g F' := by
  obtain ⟨d1, d2, d3, d4, d5⟩ := d
  have T_ : ∀ i, i < 6 → tw F' i = tw F i := fun i hi => e.nn hw (by omega)
  unfold DQ
  rw [e.nn hw (k := 3) (by omega)]
  refine ⟨fun c hc => ?_, fun i hi => ?_, fun r hr => ?_, fun r hr => ?_, fun r hr => ?_⟩
  · rw [d1 c hc, decide_eq_decide]
    constructor
    · rintro ⟨u1, u2⟩
      exact ⟨u1, by rw [e.k hw (by omega)]; exact u2⟩
    · rintro ⟨u1, u2⟩
      rw [e.k hw (by omega)] at u2
      exact ⟨u1, u2⟩
  · rw [d2 i hi, e.k hw (by omega)]
  · rw [d3 r hr]
    unfold sp
    rw [T_ _ (by omega), T_ _ (by omega), e.nn hw (by omega)]
  · rw [d4 r hr, e.k hw (by omega)]
  · rw [d5 r hr]
    unfold dnw
    rw [T_ _ (by omega), T_ _ (by omega), e.k hw (by omega), e.k hw (by omega)]
theorem Kq.pq (e : Kq w N L F F') (hw : w < 2) (h : PQ g q F) (hW : WQ F) (hN : nv F 614 = N) (qn : q + 5 ≤ gn g) (hl : N + L.length < 900) (hc : ∀ c ∈ L, c < 4000) (x : Fa [q] g g') (iq : gI g' q = gI g q) (lq : gL g' q = gL g q) (rq : gR g' q = va_up (gR g q) (10 + w) (some (gn g))) (ar : Ar g' (some (gn g)) (gn g) L.length) (aj : ∀ j, j < L.length → gI g' (gn g) j = nI (cm (L.getD j 0))) (hty : tyL L [] = some [b]) : PQ g' q F' := by
  obtain ⟨h1, h2, h3, ⟨h4, h5, h6, h7⟩, ⟨h8, h9, h10, h11⟩, h12, h13⟩ := id h
  obtain ⟨v1, v2, v3, v4⟩ := e.lv hl hc hty
  have nS : ∀ k, k ≠ 0 → q + k ∉ [q] := fun k hk => by
    simp
    omega
  have nx : ∀ a ∈ [q], ¬ (fun a => q + 5 ≤ a) a := fun a ha u => by
    simp at ha
    omega
  have new : LR (fun a => q + 5 ≤ a) g' (some (gn g)) F' w := by
    refine Or.inr ⟨by rw [e.2.1]; decide, gn g, qn, by rw [v3]; exact ar, fun j hj => ?_⟩
    rw [v3] at hj
    dsimp only
    rw [v2, v4 j hj]
    exact aj j hj
  obtain ⟨o0, o1⟩ := hW.2.2.2.2.2.1
  refine ⟨h1.fa x, ?_⟩
  rw [iq, lq, rq, x.I h4.2.1 (nS 1 (by decide)), x.I h5.2.1 (nS 2 (by decide)), x.I h6.2.1 (nS 3 (by decide)), x.I h7.2.1 (nS 4 (by decide)), e.c hw, e.nn hw (k := 2) (by omega), e.k hw (by omega), e.k hw (by omega), e.k hw (by omega), e.k hw (by omega), va_up_ne _ _ (by omega), va_up_ne _ _ (by omega), va_up_ne _ _ (by omega), va_up_ne _ _ (by omega)]
  refine ⟨h2, h3, ⟨h4.fa x, h5.fa x, h6.fa x, h7.fa x⟩, ⟨fun c hc => ?_, h9, h10, fun i hi => ?_⟩, ?_⟩
  · rw [hp_cg (c := c) (e.nn hw (by omega))]
    exact h8 c hc
  · rw [e.k hw (by omega)]
    exact h11 i hi
  · obtain rfl | rfl : w = 0 ∨ w = 1 := by omega
    · rw [va_up_self, va_up_ne _ _ (by omega)]
      exact ⟨new, (h13.fa x nx).cg4 (N := N) (e.1 5 (by omega) (by omega) (by omega) (by omega)) (e.1 9 (by omega) (by omega) (by omega) (by omega)) (e.1 7 (by omega) (by omega) (by omega) (by omega)) (o1.imp id (fun u => (show nv F 7 + nv F 9 ≤ N by have := u.2; omega))) (fun k k1 k2 => e.1 k (by omega) (by omega) (by omega) (by omega))⟩
    · rw [va_up_self, va_up_ne _ _ (by omega)]
      exact ⟨(h12.fa x nx).cg4 (N := N) (e.1 4 (by omega) (by omega) (by omega) (by omega)) (e.1 8 (by omega) (by omega) (by omega) (by omega)) (e.1 6 (by omega) (by omega) (by omega) (by omega)) (o0.imp id (fun u => (show nv F 6 + nv F 8 ≤ N by have := u.2; omega))) (fun k k1 k2 => e.1 k (by omega) (by omega) (by omega) (by omega)), new⟩
end LWL
