/-! MANY answered alike. -/
section TRY8
variable {X : Nat → Prop} {A : Nat → Int32} {g g' : G} {p t n ag : Nat} {f : Nat → Nat}
theorem sm64 : ∀ k, k < 64 → ((nI k).toInt64 &&& 63).toBitVec.smod 64 = BitVec.ofNat 64 k := by decide +kernel
theorem bt_sar (x : Int64) {k : Nat} (hk : k < 64) : bt (x >>> ((nI k).toInt64 &&& 63)) 0 = bt x k := by
  show (x >>> ((nI k).toInt64 &&& 63)).toBitVec.getLsbD 0 = x.toBitVec.getLsbD k
  have e : (x >>> ((nI k).toInt64 &&& 63)).toBitVec = x.toBitVec.sshiftRight (((nI k).toInt64 &&& 63).toBitVec.smod 64).toNat := rfl
  rw [e, sm64 k hk, BitVec.toNat_ofNat, Nat.mod_eq_of_lt (by omega), BitVec.getLsbD_sshiftRight, Nat.add_zero, if_pos hk]
  rfl
theorem r_isIn (m : Int64) {k : Nat} (hk : k < 64) : f_X12_isIn m (nI k) g = some (bt m k, g) := by
  have b1 : ∀ c, bt 1 c = decide (c = 0) := fun c => bt_one (k := 0) (by decide) c
  rw [f_X12_isIn]
  cases hb : bt m k with
  | false =>
    rw [if_neg (fun u => by
      rw [lg_cmp_eq] at u
      have v := congrArg (fun z => bt z 0) u
      rw [bt_and, bt_sar m hk, hb, b1 0, Bool.false_and] at v
      cases v)]
  | true =>
    rw [if_pos (by
      rw [lg_cmp_eq]
      refine bt_ext (fun c hc => ?_)
      rw [bt_and, b1 c]
      by_cases e : c = 0
      · rw [e, bt_sar m hk, hb]
        rfl
      · rw [decide_eq_false e, Bool.and_false])]
theorem r_bo4 (m : Int64) : ∀ fu k, k ≤ 36 → 36 < fu + k → f_X12_bitsOf_4 fu m (nI (cntB (bt m) k)) (nI k) g = some (nI (cntB (bt m) 36), g) := by
  intro fu
  induction fu with
  | zero => intro k _ h; omega
  | succ fu ih =>
    intro k hk hf
    rw [f_X12_bitsOf_4]
    rcases Nat.lt_or_ge k 36 with z | z
    · have i := ih (k + 1) (by omega) (by omega)
      have e : cntB (bt m) (k + 1) = cntB (bt m) k + (if bt m k = true then 1 else 0) := rfl
      rw [e] at i
      rw [if_neg (lnge36 z), r_isIn m (by omega), bd_eq, f_X12_bitsOf_24, f_X12_bitsOf_24, show (0 : Int32) = nI 0 from rfl, nI_add, lad1, lad1, li, li]
      cases hb : bt m k with
      | false =>
        rw [hb, if_neg (by decide)] at i
        rw [if_pos (show b2i false = nI 0 from rfl)]
        exact i
      | true =>
        rw [hb, if_pos rfl] at i
        rw [if_neg (by decide)]
        exact i
    · have e : k = 36 := by omega
      subst e
      rw [if_pos (lle36 (by decide) (by decide))]
theorem q_many (h : QS X A ag g) (hag : ag + 2 < 2 ^ 30) (hT : TR g) (v w : Int32) : QA X A ag g (f_X11_many 0 v w g) (fun g => f_X12_many 136 v w g) := by
  obtain ⟨h1, h2, h3, h4, h5⟩ := id h
  have cl := h1.cl
  obtain ⟨z, z1, z2, z3⟩ := tries h1 h3 hT v w
  have r0 : ∀ g', Qf g g' → RS A g' → f_X12_noTried 136 v w (sI g' 136 0 0) = some (z, sI g' 136 0 0) := fun g' x hr => z2 _ hr.t0 (by rw [gI_sIn (by decide)]; exact x.1.I (by decide)) (by rw [gI_sIn (by decide)]; exact x.1.I (by decide)) (by rw [gL_sI]; exact x.1.L (by decide))
  by_cases e : z = 0
  · obtain ⟨t, p, n, f, ht, rfl, hp, rfl, hN⟩ := z3 e
    obtain ⟨r, g1, c1, c2, c3, c4, c5⟩ := c_cellsTried h hp (by omega) ht hN
    obtain ⟨m1, m2, m3, m4, m5⟩ := hN.qf ht c2
    have x0 : Fm [0] [] g1 (sI g1 136 0 0) := tF0
    obtain ⟨r', g2, d1, d2, d3⟩ := r_ts5 (f := f) hp ht m2 FU 0 0 (sI g1 136 0 0) c3.1.t0 (by rw [x0.I (by decide)]; exact m4) (fun k hk => by
      rw [x0.L (by decide)]
      exact ⟨(m5 k hk).1, (m5 k hk).2.1, (m5 k hk).2.2.2⟩) (fun c hc => by rw [bt_0]; rfl) (Nat.zero_le _) (by have := @FU_gt (cS A) (by omega); omega)
    have d1' : f_X12_triedSet_5 FU 136 (nI t) (nI p) 0 0 (sI g1 136 0 0) = some (r', g2) := d1
    have em : r = r' := bt_ext (fun c hc => (c5 c hc).trans (d3 c hc).symm)
    have bo := r_bo4 (g := g2) r' FU 0 (by decide) (by have := @FU_gt 36 (by decide); omega)
    have bo' : f_X12_bitsOf_4 FU r' 0 0 g2 = some (nI (cntB (bt r') 36), g2) := bo
    have ec : cntB (bt r) 64 = cntB (bt r') 36 := by
      rw [← em, cntB_sum, cntB_sum, sN_cut (a := 36) 64 (by decide) (fun i i1 i2 => by
        rw [c5 i i2, decide_eq_false (show ¬ i < cS A by omega)]
        rfl)]
    refine QA.of (v := nI (cntB (bt r) 64)) (g1 := g1) (g2 := g2) (K := [0, 17, 18, 31, 32]) (S := [141, 142]) ?_ c2 c3 ?_ ((tF0.mono (by decide) (by decide)).tr (d2.mono (by decide) (by decide))) (by decide) (by decide) (by omega) (by omega)
    · rw [f_X11_many, z1, bd_eq, if_pos e, c1, bd_eq, j_bitCount, bd_eq]
    · show f_X12_many 136 (nI t) (nI p) g1 = _
      rw [f_X12_many, lg, r0 g1 c2 c3.1, bd_eq, if_pos e, f_X12_triedSet, d1', bd_eq, f_X12_bitsOf, bo', bd_eq, ec]
  · refine QA.of (v := z) (g1 := g) (g2 := sI g 136 0 0) (K := [0]) (S := []) ?_ (Qf.rf h1.1) h ?_ tF0 (by decide) (by decide) (Nat.le_refl _) (by omega)
    · rw [f_X11_many, z1, bd_eq, if_neg e]
    · show f_X12_many 136 v w g = _
      rw [f_X12_many, lg, r0 g (Qf.rf h1.1) h1, bd_eq, if_neg e]
end TRY8
