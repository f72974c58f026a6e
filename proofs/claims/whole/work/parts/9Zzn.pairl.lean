/-! LOCKSTEP of lines: a pair. -/
section PRL
variable {T : Nat → Nat} {n M i q p x y : Nat} {F F' : Nat → Int32} {g g' g1 g2 h h' h1 : G}
/-- the row with the pair told -/
def tR (F : Nat → Int32) (p x y : Nat) : Nat → Int32 := upd (upd (upd F (88 + 2 * p) (nI x)) (88 + 2 * p + 1) (nI y)) 3 (nI (p + 1))
theorem tR_n {k : Nat} (h1 : k ≠ 88 + 2 * p) (h2 : k ≠ 88 + 2 * p + 1) (h3 : k ≠ 3) : tR F p x y k = F k := by
  unfold tR
  rw [pk_un h3, pk_un h2, pk_un h1]
theorem tR_v {k : Nat} (h1 : k ≠ 88 + 2 * p) (h2 : k ≠ 88 + 2 * p + 1) (h3 : k ≠ 3) : nv (tR F p x y) k = nv F k := by
  unfold nv
  rw [tR_n h1 h2 h3]
theorem tR_3 : tR F p x y 3 = nI (p + 1) := pk_us
theorem tR_3v (hp : p < 3) : nv (tR F p x y) 3 = p + 1 := by
  unfold nv
  rw [tR_3, nI_clamp (by omega)]
theorem tR_x : tR F p x y (88 + 2 * p) = nI x := by
  unfold tR
  rw [pk_un (by omega), pk_un (by omega), pk_us]
theorem tR_y : tR F p x y (88 + 2 * p + 1) = nI y := by
  unfold tR
  rw [pk_un (by omega), pk_us]
theorem tR_tw (hx : x < 36) (hy : y < 36) (i : Nat) : tw (tR F p x y) i = if i = 2 * p then x else if i = 2 * p + 1 then y else tw F i := by
  unfold tw
  by_cases e1 : i = 2 * p
  · rw [if_pos e1, e1]
    unfold nv
    rw [tR_x, nI_clamp (by omega)]
  · rw [if_neg e1]
    by_cases e2 : i = 2 * p + 1
    · rw [if_pos e2, e2, ← Nat.add_assoc]
      unfold nv
      rw [tR_y, nI_clamp (by omega)]
    · rw [if_neg e2, tR_v (by omega) (by omega) (by omega)]
theorem tR_c : cS (tR F p x y) = cS F := by
  unfold cS
  rw [tR_v (by omega) (by omega) (by omega), tR_v (by omega) (by omega) (by omega)]
theorem tR_lq (hp : p < 3) : Lq F (tR F p x y) := fun k hk => tR_n (by omega) (by omega) (by omega)
theorem tR_wq (h : WQ F) (hp : p < 3) (pk : nv F 3 = p) (hx : x < cS F) (hy : y < cS F) (fx : fre (fnR F) p x = true) (fy : fre (fnR F) p y = true) : WQ (tR F p x y) := by
  obtain ⟨h1, h2, h3, h4, h5, h6, h7, h8, h9⟩ := id h
  have cl := cS_le h1
  have Q := h.lq (F' := tR F p x y) (tR_lq hp) (by rw [tR_v (by omega) (by omega) (by omega)]; exact Nat.le_refl _)
  have TW := tR_tw (F := F) (p := p) (x := x) (y := y) (by omega) (by omega)
  have nf : ∀ z, z < cS F → fre (fnR F) p z = true → ht F z ≠ 9 ∧ ∀ i, i < 2 * p → tw F i ≠ z := fun z hz fz => by
    obtain ⟨u1, u2⟩ := fre_no fz
    refine ⟨fun u => ?_, fun i hi => ?_⟩
    · rw [fn_wl (by omega), if_pos (by rw [(h2 z (by omega)).1, u])] at u1
      cases u1
    · have := u2 i (by rw [fn_n (by omega) (by omega), pk]; exact hi) (by omega)
      unfold tw at this
      rw [fn_n (by omega) (by omega)] at this
      exact this
  have nx := nf x hx fx
  have ny := nf y hy fy
  refine ⟨?_, fun c hc => ?_, fun i hi => ?_, fun i j hi hj hij => ?_, fun r hr => ?_, Q, ?_, ?_, fun r hr => ?_⟩
  · unfold Dm
    rw [tR_v (k := 1) (by omega) (by omega) (by omega), tR_v (k := 2) (by omega) (by omega) (by omega), tR_3v hp, tR_n (by omega) (by omega) (by omega), tR_n (by omega) (by omega) (by omega), tR_3]
    exact ⟨h1.1, h1.2.1, h1.2.2.1, h1.2.2.2.1, h1.2.2.2.2.1, h1.2.2.2.2.2.1, rfl, by omega⟩
  · unfold ht
    rw [tR_c, tR_v (by omega) (by omega) (by omega), tR_n (by omega) (by omega) (by omega)]
    exact h2 c hc
  · rw [tR_3v hp] at hi
    rw [TW i, tR_c]
    by_cases e1 : i = 2 * p
    · rw [if_pos e1, e1, tR_x]
      refine ⟨rfl, hx, ?_⟩
      unfold ht
      rw [tR_v (by omega) (by omega) (by omega)]
      exact nx.1
    · rw [if_neg e1]
      by_cases e2 : i = 2 * p + 1
      · rw [if_pos e2, e2, ← Nat.add_assoc, tR_y]
        refine ⟨rfl, hy, ?_⟩
        unfold ht
        rw [tR_v (by omega) (by omega) (by omega)]
        exact ny.1
      · obtain ⟨t1, t2, t3⟩ := h3 i (by omega)
        rw [if_neg e2, tR_n (by omega) (by omega) (by omega)]
        refine ⟨t1, t2, ?_⟩
        unfold ht
        rw [tR_v (by omega) (by omega) (by omega)]
        exact t3
  · rw [tR_3v hp] at hi hj
    rw [TW i, TW j]
    by_cases a1 : i < 2 * p
    · rw [if_neg (by omega), if_neg (by omega)]
      by_cases b1 : j < 2 * p
      · rw [if_neg (by omega), if_neg (by omega)]
        exact h4 i j (by omega) (by omega) hij
      · by_cases b2 : j = 2 * p
        · rw [if_pos b2]
          exact nx.2 i a1
        · rw [if_neg b2, if_pos (by omega)]
          exact ny.2 i a1
    · have b1 : j < 2 * p := by omega
      rw [if_neg (show ¬ j = 2 * p by omega), if_neg (show ¬ j = 2 * p + 1 by omega)]
      by_cases a2 : i = 2 * p
      · rw [if_pos a2]
        exact (nx.2 j b1).symm
      · rw [if_neg a2, if_pos (by omega)]
        exact (ny.2 j b1).symm
  · unfold md
    rw [tR_v (by omega) (by omega) (by omega), tR_n (by omega) (by omega) (by omega)]
    exact h5 r hr
  · rw [tR_v (by omega) (by omega) (by omega), tR_n (by omega) (by omega) (by omega)]
    exact h7
  · rw [tR_n (by omega) (by omega) (by omega)]
    exact h8
  · rw [tR_n (by omega) (by omega) (by omega)]
    exact h9 r hr
theorem c_108 (hs : Sh g) (q1 : gR g 63 0 = some q) (q2 : gR g 57 3 = some q) (q155 : 155 ≤ q) (pq : PQ g q F) (dq : DQ g F) (wq : WQ F) (hp : p < 3) (pk : nv F 3 = p) (hx : x < cS F) (hy : y < cS F) (fx : fre (fnR F) p x = true) (fy : fre (fnR F) p y = true) : ∃ g', f_X8_pairLine_108 57 (nI p) (nI x) (nI y) g = some (true, g') ∧ Fi [q, 64, 65, 67] g g' ∧ PQ g' q (tR F p x y) ∧ DQ g' (tR F p x y) := by
  have hA := wq.1
  have cl := cS_le hA
  have x1 : Fi [q] g (sI g q 4 (nI (p + 1))) := Fi.rf.si (by simp)
  have s1 := Sh.fi x1 hs
  have bd := zR_bd hs pq dq wq q1 q155 pk hp
  have fr : ∀ z, z < cS F → fre (fnR F) p z = true → fre (zR F p) p z = true := fun z hz fz => by
    obtain ⟨u1, u2⟩ := fre_no fz
    refine decide_eq_true ⟨?_, fun i i1 i2 => ?_⟩
    · rw [zR_wl hp (by omega)]
      rw [fn_wl (by omega)] at u1
      exact u1
    · rw [zR_3v hp] at i1
      rw [zR_tw hp (by omega)]
      have := u2 i (by rw [fn_n (by omega) (by omega), pk]; omega) i2
      unfold tw at this
      rw [fn_n (by omega) (by omega)] at this
      exact this
  obtain ⟨r, g2, a1, a2, a3, a4, a5, a6, a7⟩ := c_place2 bd (fun k hk u => by omega) (zR_dm hp hA) (fun c hc => by rw [zR_wl hp hc]; split <;> omega) (fun i i1 i2 => by
    rw [zR_3v hp] at i1
    rw [zR_tw hp (by omega)]
    have := (wq.2.2.1 i (by omega)).2.1
    omega) (by rw [zR_3v hp]; omega) (by rw [zR_c hp]; exact hx) (by rw [zR_c hp]; exact hy) (fr x hx fx) (fr y hy fy)
  have x2 : Fi [q, 64, 65, 67] g g2 := (x1.mono (by simp)).tr (a2.mono (by simp))
  have TW := tR_tw (F := F) (p := p) (x := x) (y := y) (by omega) (by omega)
  rw [zR_lv hp (by omega)] at a5
  have dz : dnw (zR F p) p x y 0 = dnw (tR F p x y) p x y 0 := by
    unfold dnw
    rw [zR_lo hp (by omega), zR_lo hp (by omega), tR_n (by omega) (by omega) (by omega), tR_n (by omega) (by omega) (by omega)]
  refine ⟨g2, ?_, x2, ?_, ?_⟩
  · rw [f_X8_pairLine_108, q2, dr_eq, gdK_pos pq.1, lad1, lg, md57_0 s1, gk63 s1, a1, bd_eq]
  · have L := pq.lq wq (tR_lq (x := x) (y := y) hp)
    obtain ⟨h1, h2, h3, ⟨h4, h5, h6, h7⟩, ⟨h8, h9, h10, h11⟩, h12, h13⟩ := id pq
    have nS : ∀ k, k ≠ 0 → q + k ∉ [q, 64, 65, 67] := fun k hk => by
      simp
      omega
    have iq : gI g2 q = upd (gI g q) 4 (nI (p + 1)) := by
      rw [a2.I (by simp; omega), gI_sIs]
    have lq' : gL g2 q = gL g q := by
      rw [a3]
      rfl
    refine ⟨h1.fi x2, ?_⟩
    rw [iq, lq', x2.R, x2.I (nS 1 (by decide)), x2.I (nS 2 (by decide)), x2.I (nS 3 (by decide)), x2.I (nS 4 (by decide)), tR_c, tR_v (k := 2) (by omega) (by omega) (by omega), tR_n (k := 1) (by omega) (by omega) (by omega), tR_n (k := 2) (by omega) (by omega) (by omega), tR_n (k := 0) (by omega) (by omega) (by omega), tR_3, pk_un (by decide), pk_un (by decide), pk_un (by decide), pk_us, pk_un (by decide)]
    refine ⟨⟨h2.1, h2.2.1, h2.2.2.1, rfl, h2.2.2.2.2⟩, h3, ⟨h4.fa x2.a, h5.fa x2.a, h6.fa x2.a, h7.fa x2.a⟩, ⟨fun c hc => ?_, h9, h10, fun i hi => ?_⟩, L.1.fa x2.a (fun a ha u => by simp at ha; omega), L.2.fa x2.a (fun a ha u => by simp at ha; omega)⟩
    · rw [hp_cg (c := c) (F := F) (F' := tR F p x y) (tR_v (by omega) (by omega) (by omega))]
      exact h8 c hc
    · rw [tR_n (by omega) (by omega) (by omega)]
      exact h11 i hi
  · obtain ⟨d1, d2, d3, d4, d5⟩ := id dq
    have e64 : gI g2 64 = upd (upd (gI g 64) (2 * p) (nI x)) (2 * p + 1) (nI y) := by
      have : gI g2 64 = _ := a4
      rw [this, gI_sIn (by omega)]
    have e65 : gI g2 65 = upd (gI g 65) p (nI (apS (nv F 2) x y)) := by
      have : gI g2 65 = _ := a5
      rw [this, gI_sIn (by omega)]
    have e67 : gI g2 67 p = nI (dnw (tR F p x y) p x y 0) := by
      rw [← dz]
      exact a6
    have e67' : ∀ r, r ≠ p → gI g2 67 r = gI g 67 r := fun r hr => by
      have : gI g2 67 r = _ := a7 r hr
      rw [this, gI_sIn (by omega)]
    unfold DQ
    rw [show gL g2 63 = gL g 63 by rw [a3]; rfl, e64, e65, x2.I (a := 66) (by simp; omega), tR_3v hp]
    rw [pk] at d2 d3 d5
    refine ⟨fun c hc => ?_, fun i hi => ?_, fun r hr => ?_, fun r hr => ?_, fun r hr => ?_⟩
    · rw [d1 c hc, decide_eq_decide]
      constructor
      · rintro ⟨u1, u2⟩
        exact ⟨u1, by rw [tR_n (by omega) (by omega) (by omega)]; exact u2⟩
      · rintro ⟨u1, u2⟩
        rw [tR_n (by omega) (by omega) (by omega)] at u2
        exact ⟨u1, u2⟩
    · by_cases e2 : i = 2 * p + 1
      · rw [e2, pk_us, if_pos (by omega), ← Nat.add_assoc, tR_y]
      · rw [pk_un e2]
        by_cases e1 : i = 2 * p
        · rw [e1, pk_us, if_pos (by omega), tR_x]
        · rw [pk_un e1, d2 i hi]
          by_cases e : i < 2 * p
          · rw [if_pos e, if_pos (by omega), tR_n (by omega) (by omega) (by omega)]
          · rw [if_neg e, if_neg (by omega)]
    · unfold sp
      rw [TW, TW, tR_v (k := 2) (by omega) (by omega) (by omega)]
      by_cases e : r = p
      · rw [e, pk_us, if_pos (by omega), if_pos rfl, if_neg (by omega), if_pos rfl]
      · rw [pk_un e, d3 r hr]
        by_cases e3 : r < p
        · rw [if_pos e3, if_pos (by omega), if_neg (by omega), if_neg (by omega), if_neg (by omega), if_neg (by omega)]
          rfl
        · rw [if_neg e3, if_neg (by omega)]
    · rw [d4 r hr, tR_n (by omega) (by omega) (by omega)]
    · rw [TW, TW]
      by_cases e : r = p
      · rw [e, e67, if_pos (by omega), if_pos rfl, if_neg (by omega), if_pos rfl]
      · rw [e67' r e, d5 r hr]
        by_cases e3 : r < p
        · rw [if_pos e3, if_pos (by omega), if_neg (by omega), if_neg (by omega), if_neg (by omega), if_neg (by omega)]
          unfold dnw
          rw [tR_n (by omega) (by omega) (by omega), tR_n (by omega) (by omega) (by omega)]
        · rw [if_neg e3, if_neg (by omega)]
theorem r_59 (hh : Sh h) (w : gI h 136 11 = 0) (hF : gI h 140 = F) (hp : p < 3) (h3 : F 3 = nI p) : f_X12_readPair_59 136 (nI p) (nI x) (nI y) h = some ((), sI (sI (sI h 140 (88 + 2 * p) (nI x)) 140 (88 + 2 * p + 1) (nI y)) 140 3 (nI (p + 1))) := by
  have ix1 : (88 : Int32) + (2 : Int32) * nI p = nI (88 + 2 * p) := by rw [nI2, show (88 : Int32) = nI 88 from rfl, nI_add]
  have s1 : Sh (sI h 140 (88 + 2 * p) (nI x)) := hh
  have s2 : Sh (sI (sI h 140 (88 + 2 * p) (nI x)) 140 (88 + 2 * p + 1) (nI y)) := hh
  rw [f_X12_readPair_59, if_pos w, md136_4 hh, gk140 hh, sn140 hh, ix1, gdI_nI (by omega) (by decide), nI_clamp (by omega), lg, lad1, sn140 s1, gdI_nI (by omega) (by decide), nI_clamp (by omega), lg, sn140 s2, show gdI (3 : Int32) 1515 = gdI (nI 3) 1515 (α := Unit × G) from rfl, gdI_nI (by decide) (by decide), show (3 : Int32).toNatClampNeg = 3 from rfl, gI_sIs, pk_un (by omega), gI_sIs, pk_un (by omega), hF, h3, lad1, lg]
theorem x_59 (w : gI h 136 11 ≠ 0) (a b c : Int32) : f_X12_readPair_59 136 a b c h = some ((), h) := by
  rw [f_X12_readPair_59, if_neg w]
theorem x_41 (w : gI h 136 11 ≠ 0) (a b c : Int32) (m : Nat) : f_X12_readPair_41 (m + 1) 136 a b c h = some ((), h) := by
  rw [f_X12_readPair_41, if_neg w, x_59 w]
end PRL
