/-! LOCKSTEP of numbers, cells. -/
section NUM
variable {T : Nat → Nat} {n M i : Nat} {F : Nat → Int32} {g g' g1 h h' h1 : G} {b : Bool}
def KnL : List Nat := [1, 2, 11, 12, 13, 14, 15]
theorem r_wi2 {v lo hi : Nat} (hv : v < 2 ^ 31) (hl : lo < 2 ^ 31) (hh : hi < 2 ^ 31) (h : G) : f_X12_within (nI v).toInt64 (nI lo).toInt64 (nI hi).toInt64 h = some (decide (lo ≤ v ∧ v ≤ hi), h) := by
  rw [r_within, Int32.toInt_toInt64, Int32.toInt_toInt64, Int32.toInt_toInt64, nI_toInt hv, nI_toInt hl, nI_toInt hh]
  congr 2
  rw [decide_eq_decide]
  omega
theorem x_37 (r : gI h 136 11 ≠ 0) : f_X12_takes_37 136 h = some (gI h 136 10, h) := by
  rw [f_X12_takes_37, li, if_neg r]
theorem x_takes (r : gI h 136 11 ≠ 0) (x y : Int32) : f_X12_takes 136 x y h = some (gI h 136 10, h) := by
  rw [f_X12_takes, x_is r, bd_eq, ibF, x_fails r, bd_eq, x_37 r]
theorem x_p49 (hh : Sh h) (r : gI h 136 11 ≠ 0) : f_X12_readPlace_49 136 h = some (gI h 136 10, h) := by
  rw [f_X12_readPlace_49, md136_4 hh, gk140 hh, sn140 hh, show (1 : Int32) = nI 1 from rfl, gdI_nI (by decide) (by decide), show (2 : Int32) = nI 2 from rfl, gdI_nI (by decide) (by decide), x_takes r, bd_eq]
theorem x_place (hh : Sh h) (r : gI h 136 11 ≠ 0) (x : Int32) : f_X12_readPlace 136 x h = some (gI h 136 10, h) := by
  rw [f_X12_readPlace]
  by_cases e : x = 0
  · rw [if_pos e, x_p49 hh r]
  · rw [if_neg e, x_is r, bd_eq, ibF, x_p49 hh r]
theorem r_37 (r : RT T n i h) (k : kZ T n i = 3) : f_X12_takes_37 136 h = bd (f_X12_next 136 h) (fun _ g => some (nI (vZ T n i), g)) := by
  rw [f_X12_takes_37, li, if_pos r.2.2.2.2.2, r.2.2.2.2.1 k]
theorem ls_num (hz : TZ T n M) (hs : Sh g) (hh : Sh h) (c : CT T n M i g) (r : RT T n i h) {lo hi : Nat} (hlo : lo < 2 ^ 31) (hhi : hi < 2 ^ 31) : (kZ T n i = 3 ∧ lo ≤ vZ T n i ∧ vZ T n i ≤ hi ∧ i < M ∧ ∃ g' h', f_X8_takeNumber 57 (nI lo) (nI hi) g = some (true, g') ∧ f_X12_takes 136 (nI lo) (nI hi) h = some (nI (vZ T n i), h') ∧ Fc KnL [] g g' ∧ Fm KrL [] h h' ∧ CT T n M (i + 1) g' ∧ RT T n (i + 1) h' ∧ gI g' 57 15 = nI (vZ T n i)) ∨ (∃ v g' h', f_X8_takeNumber 57 (nI lo) (nI hi) g = some (false, g') ∧ f_X12_takes 136 (nI lo) (nI hi) h = some (v, h') ∧ Fc KnL [] g g' ∧ Fm KrL [] h h' ∧ BadG g' h') := by
  have i23 : f_X12_is 136 23 h = some (decide (kZ T n i = 3), h) := r_isK r (k0 := 3) (x := 23) (by decide)
  have c3 : gI g 57 12 = (3 : Int32) ↔ kZ T n i = 3 := c.k (x := 3) (by decide)
  by_cases e3 : kZ T n i = 3
  · have vl := vZ_lt (Or.inr e3)
    have v14 := c.2.2.2.2.2.2 (Or.inr e3)
    by_cases q : lo ≤ vZ T n i ∧ vZ T n i ≤ hi
    · have x1 : Fc KnL [] g (sI g 57 15 (nI (vZ T n i))) := Fc.rf.sf (by decide)
      obtain ⟨iM, g2, h2, a1, a2, a3, a4, a5, a6⟩ := ls_next hz (hs.fc x1) hh (c.fc (K := [15]) (S := []) (Fc.rf.sf (by decide)) (by decide) (by decide)) r (by omega) (by omega)
      refine Or.inl ⟨e3, q.1, q.2, iM, g2, h2, ?_, ?_, x1.tr (a3.mono (by decide) (by decide)), a4.mono (by decide) (by decide), a5, a6, ?_⟩
      · rw [f_X8_takeNumber, if_pos (c3.mpr e3), v14, if_neg (nI_nlt q.1 (by omega)), if_pos (nI_le q.2 hhi), lg, a1, bd_eq]
      · rw [f_X12_takes, i23, bd_eq, decide_eq_true e3, ibT, r.2.2.2.2.1 e3, r_wi2 (by omega) hlo hhi, bd_eq, decide_eq_true q, ibT, r_37 r e3, a2, bd_eq]
      · rw [a3.2 15 (by decide), gI_sIs, pk_us]
    · obtain ⟨g2, h2, a1, a2, a3, a4, a5⟩ := ls_fail c r (f := 3) (by decide) (by decide) (by omega)
      have a1' : f_X8_refuse 57 3 g = some (false, g2) := a1
      have a2' : f_X12_fails 136 3 h = some ((), h2) := a2
      refine Or.inr ⟨gI h2 136 10, g2, h2, ?_, ?_, a3.mono (by decide) (by decide), a4.mono (by decide) (by decide), a5⟩
      · rw [f_X8_takeNumber, if_pos (c3.mpr e3), v14]
        by_cases u : vZ T n i < lo
        · rw [if_pos (nI_lt u hlo), f_X8_takeNumber_29, a1', bd_eq]
        · rw [if_neg (nI_nlt (by omega) (by omega)), if_neg (nI_ge (by omega) (by omega)), f_X8_takeNumber_29, a1', bd_eq]
      · rw [f_X12_takes, i23, bd_eq, decide_eq_true e3, ibT, r.2.2.2.2.1 e3, r_wi2 (by omega) hlo hhi, bd_eq, decide_eq_false q, ibF, a2', bd_eq, x_37 a5.x]
  · obtain ⟨g2, h2, a1, a2, a3, a4, a5⟩ := ls_bad c r
    refine Or.inr ⟨gI h2 136 10, g2, h2, ?_, ?_, a3.mono (by decide) (by decide), a4.mono (by decide) (by decide), a5⟩
    · rw [f_X8_takeNumber, if_neg (fun u => e3 (c3.mp u)), a1, bd_eq]
    · rw [f_X12_takes, i23, bd_eq, decide_eq_false e3, ibF, a2, bd_eq, x_37 a5.x]
/-- the class takes a cell out of a set -/
theorem c_cell (hz : TZ T n M) (c : CT T n M i g) {m : Int64} {P : Nat → Bool} (hA : Dm F) (hm : ∀ c, c < 64 → bt m c = (decide (c < cS F) && P c)) : f_X8_takeCell 57 m g = if kZ T n i = 3 then (if vZ T n i < cS F ∧ P (vZ T n i) = true then bd (f_X8_look 57 (sI g 57 15 (nI (vZ T n i)))) (fun _ g => some (true, g)) else bd (f_X8_refuse 57 3 g) (fun v g => some (v, g))) else bd (f_X8_refuseToken 57 g) (fun v g => some (v, g)) := by
  have cl := cS_le hA
  have c3 : gI g 57 12 = (3 : Int32) ↔ kZ T n i = 3 := c.k (x := 3) (by decide)
  rw [f_X8_takeCell]
  by_cases e3 : kZ T n i = 3
  · have vl := vZ_lt (Or.inr e3)
    have v14 := c.2.2.2.2.2.2 (Or.inr e3)
    rw [if_pos (c3.mpr e3), if_pos e3, v14]
    by_cases u : 36 ≤ vZ T n i
    · rw [if_pos (lle36 u (by omega)), if_neg (by omega), f_X8_takeCell_35]
    · rw [if_neg (lnge36 (by omega)), ibt (by omega), hm _ (by omega)]
      by_cases q : vZ T n i < cS F ∧ P (vZ T n i) = true
      · rw [if_pos q, decide_eq_true q.1, q.2, lg]
        rfl
      · rw [if_neg q]
        have : (decide (vZ T n i < cS F) && P (vZ T n i)) = false := by
          by_cases w : vZ T n i < cS F
          · rw [decide_eq_true w, Bool.true_and]
            cases z : P (vZ T n i) with
            | false => rfl
            | true => exact absurd ⟨w, z⟩ q
          · rw [decide_eq_false w, Bool.false_and]
        rw [this, f_X8_takeCell_35]
        rfl
  · rw [if_neg (fun u => e3 (c3.mp u)), if_neg e3]
theorem r_p49 (hh : Sh h) (hF : gI h 140 = F) (hA : Dm F) : f_X12_readPlace_49 136 h = f_X12_takes 136 (nI 0) (nI (cS F - 1)) h := by
  have cl := cS_le hA
  have t : ∀ o : Option (Int32 × G), bd o (fun v6 g7 => some (v6, g7)) = o := fun o => by
    cases o with
    | none => rfl
    | some p => rfl
  rw [f_X12_readPlace_49, md136_4 hh, gk140 hh, sn140 hh, show (1 : Int32) = nI 1 from rfl, gdI_nI (by decide) (by decide), show (2 : Int32) = nI 2 from rfl, gdI_nI (by decide) (by decide), nI_clamp (by decide), nI_clamp (by decide), hF, hA.1, hA.2.2.2.1, pk_mul, t]
  show f_X12_takes 136 0 (nI (cS F) - nI 1) h = _
  rw [pk_sub cl.1]
  rfl
theorem ls_err (hz : TZ T n M) (hs : Sh g) (hh : Sh h) (c : CT T n M i g) (r : RT T n i h) (hF : gI h 140 = F) (hA : Dm F) {m : Int64} (hm : ∀ c, c < 64 → bt m c = decide (c < cS F)) : (kZ T n i = 3 ∧ vZ T n i < cS F ∧ i < M ∧ ∃ g' h', f_X8_takeCell 57 m g = some (true, g') ∧ f_X12_readPlace 136 0 h = some (nI (vZ T n i), h') ∧ Fc KnL [] g g' ∧ Fm KrL [] h h' ∧ CT T n M (i + 1) g' ∧ RT T n (i + 1) h' ∧ gI g' 57 15 = nI (vZ T n i)) ∨ (∃ v g' h', f_X8_takeCell 57 m g = some (false, g') ∧ f_X12_readPlace 136 0 h = some (v, h') ∧ Fc KnL [] g g' ∧ Fm KrL [] h h' ∧ BadG g' h') := by
  have cl := cS_le hA
  rw [c_cell (P := fun _ => true) hz c hA (fun c hc => by rw [hm c hc, Bool.and_true]), f_X12_readPlace, if_pos rfl, r_p49 hh hF hA]
  have i23 : f_X12_is 136 23 h = some (decide (kZ T n i = 3), h) := r_isK r (k0 := 3) (x := 23) (by decide)
  by_cases e3 : kZ T n i = 3
  · have vl := vZ_lt (Or.inr e3)
    rw [if_pos e3, f_X12_takes, i23, bd_eq, decide_eq_true e3, ibT, r.2.2.2.2.1 e3, r_wi2 (by omega) (by decide) (by omega), bd_eq]
    by_cases q : vZ T n i < cS F
    · have x1 : Fc KnL [] g (sI g 57 15 (nI (vZ T n i))) := Fc.rf.sf (by decide)
      obtain ⟨iM, g2, h2, a1, a2, a3, a4, a5, a6⟩ := ls_next hz (hs.fc x1) hh (c.fc (K := [15]) (S := []) (Fc.rf.sf (by decide)) (by decide) (by decide)) r (by omega) (by omega)
      refine Or.inl ⟨e3, q, iM, g2, h2, ?_, ?_, x1.tr (a3.mono (by decide) (by decide)), a4.mono (by decide) (by decide), a5, a6, ?_⟩
      · rw [if_pos ⟨q, rfl⟩, a1, bd_eq]
      · rw [decide_eq_true (by omega), ibT, r_37 r e3, a2, bd_eq]
      · rw [a3.2 15 (by decide), gI_sIs, pk_us]
    · obtain ⟨g2, h2, a1, a2, a3, a4, a5⟩ := ls_fail c r (f := 3) (by decide) (by decide) (by omega)
      have a1' : f_X8_refuse 57 3 g = some (false, g2) := a1
      have a2' : f_X12_fails 136 3 h = some ((), h2) := a2
      refine Or.inr ⟨gI h2 136 10, g2, h2, ?_, ?_, a3.mono (by decide) (by decide), a4.mono (by decide) (by decide), a5⟩
      · rw [if_neg (fun u => q u.1), a1', bd_eq]
      · rw [decide_eq_false (by omega), ibF, a2', bd_eq, x_37 a5.x]
  · obtain ⟨g2, h2, a1, a2, a3, a4, a5⟩ := ls_bad c r
    rw [if_neg e3]
    refine Or.inr ⟨gI h2 136 10, g2, h2, ?_, ?_, a3.mono (by decide) (by decide), a4.mono (by decide) (by decide), a5⟩
    · rw [a1, bd_eq]
    · rw [f_X12_takes, i23, bd_eq, decide_eq_false e3, ibF, a2, bd_eq, x_37 a5.x]
theorem r_tk18 (hh : Sh h) (hF : gI h 140 = F) (hW : WQ F) {c : Nat} (hc : c < cS F) : ∀ fu k, k ≤ 2 * nv F 3 → 2 * nv F 3 < fu + k → ∃ b, f_X12_isTaken_18 fu 136 (nI c) (nI k) h = some (b, h) ∧ (b = true ↔ ∃ j, k ≤ j ∧ j < 2 * nv F 3 ∧ tw F j = c) := by
  have k3 := hW.1.2.2.2.2.2.2.2
  have cl := cS_le hW.1
  intro fu
  induction fu with
  | zero => intro k h1 h2; omega
  | succ fu ih =>
    intro k h1 h2
    rw [f_X12_isTaken_18, md136_4 hh, gk140 hh, sn140 hh, show (3 : Int32) = nI 3 from rfl, gdI_nI (by decide) (by decide), nI_clamp (by decide), hF, hW.1.2.2.2.2.2.2.1, nI2]
    rcases Nat.lt_or_ge k (2 * nv F 3) with z | z
    · obtain ⟨t1, t2, t3⟩ := hW.2.2.1 k z
      rw [if_neg (nI_ge z (by omega)), show (88 : Int32) = nI 88 from rfl, nI_add, gdI_nI (by omega) (by decide), nI_clamp (by omega), t1]
      by_cases e : tw F k = c
      · rw [if_pos (by rw [e])]
        exact ⟨true, rfl, fun _ => ⟨k, Nat.le_refl _, z, e⟩, fun _ => rfl⟩
      · rw [if_neg (by rw [nI_eq (by omega) (by omega)]; exact e), lad1]
        obtain ⟨b, b1, b2⟩ := ih (k + 1) (by omega) (by omega)
        refine ⟨b, b1, fun u => ?_, fun ⟨j, j1, j2, j3⟩ => b2.mpr ⟨j, ?_, j2, j3⟩⟩
        · obtain ⟨j, j1, j2, j3⟩ := b2.mp u
          exact ⟨j, by omega, j2, j3⟩
        · rcases Nat.lt_or_ge k j with y | y
          · omega
          · rw [show j = k by omega] at j3
            exact absurd j3 e
    · rw [if_pos (nI_le z (by omega))]
      refine ⟨false, rfl, fun u => (by cases u), fun ⟨j, j1, j2, _⟩ => ?_⟩
      omega
theorem r_isTaken (hh : Sh h) (hF : gI h 140 = F) (hW : WQ F) {c : Nat} (hc : c < cS F) : f_X12_isTaken 136 (nI c) h = some (!fre (fnR F) (nv F 3) c, h) := by
  have k3 := hW.1.2.2.2.2.2.2.2
  have cl := cS_le hW.1
  obtain ⟨a1, a2, a3⟩ := hW.2.1 c (by omega)
  rw [f_X12_isTaken, md136_4 hh, gk140 hh, sn140 hh, show (10 : Int32) = nI 10 from rfl, nI_add, gdI_nI (by omega) (by decide), nI_clamp (by omega), hF]
  have n3 : nv (fnR F) 3 = nv F 3 := fn_n k3 (by omega)
  have tt : ∀ j, j < 2 * nv F 3 → tw (fnR F) j = tw F j := fun j hj => fn_n k3 (by omega)
  by_cases e : F (10 + c) = (9 : Int32)
  · rw [if_pos e]
    have : fre (fnR F) (nv F 3) c = false := decide_eq_false (fun u => by
      have := u.1
      rw [fn_wl (by omega), if_pos (show F (10 + c) = nI 9 from e)] at this
      cases this)
    rw [this]
    rfl
  · obtain ⟨b, e0, eb⟩ := r_tk18 hh hF hW hc FU 0 (by omega) (by have := @FU_gt 10 (by decide); omega)
    have e0' : f_X12_isTaken_18 FU 136 (nI c) 0 h = some (b, h) := e0
    rw [if_neg e, e0']
    congr 2
    cases b with
    | true =>
      obtain ⟨j, j1, j2, j3⟩ := eb.mp rfl
      have : fre (fnR F) (nv F 3) c = false := decide_eq_false (fun u => u.2 j (by rw [n3]; exact j2) (by omega) (by rw [tt j j2]; exact j3))
      rw [this]
      rfl
    | false =>
      have : fre (fnR F) (nv F 3) c = true := decide_eq_true ⟨by rw [fn_wl (by omega), if_neg (show ¬ F (10 + c) = nI 9 from e)], fun j j1 j2 j3 => by
        rw [n3] at j1
        rw [tt j j1] at j3
        have := eb.mpr ⟨j, by omega, j1, j3⟩
        cases this⟩
      rw [this]
      rfl
theorem ls_place (hz : TZ T n M) (hs : Sh g) (hh : Sh h) (c : CT T n M i g) (r : RT T n i h) (hF : gI h 140 = F) (hW : WQ F) {m : Int64} (hm : ∀ c, c < 64 → bt m c = (decide (c < cS F) && fre (fnR F) (nv F 3) c)) : (kZ T n i = 3 ∧ vZ T n i < cS F ∧ fre (fnR F) (nv F 3) (vZ T n i) = true ∧ i < M ∧ ∃ g' h', f_X8_takeCell 57 m g = some (true, g') ∧ f_X12_readPlace 136 1 h = some (nI (vZ T n i), h') ∧ Fc KnL [] g g' ∧ Fm KrL [] h h' ∧ CT T n M (i + 1) g' ∧ RT T n (i + 1) h' ∧ gI g' 57 15 = nI (vZ T n i)) ∨ (∃ v g' h', f_X8_takeCell 57 m g = some (false, g') ∧ f_X12_readPlace 136 1 h = some (v, h') ∧ Fc KnL [] g g' ∧ Fm KrL [] h h' ∧ BadG g' h') := by
  have hA := hW.1
  have cl := cS_le hA
  have i23 : f_X12_is 136 23 h = some (decide (kZ T n i = 3), h) := r_isK r (k0 := 3) (x := 23) (by decide)
  rw [c_cell hz c hA hm, f_X12_readPlace, if_neg (show ¬ (1 : Int32) = 0 by decide), i23, bd_eq]
  by_cases e3 : kZ T n i = 3
  · have vl := vZ_lt (Or.inr e3)
    rw [if_pos e3, decide_eq_true e3, ibT, md136_4 hh, gk140 hh, sn140 hh, show gdI (1 : Int32) 1515 = gdI (nI 1) 1515 (α := Int32 × G) from rfl, gdI_nI (by decide) (by decide), show gdI (2 : Int32) 1515 = gdI (nI 2) 1515 (α := Int32 × G) from rfl, gdI_nI (by decide) (by decide), show (1 : Int32).toNatClampNeg = 1 from rfl, show (2 : Int32).toNatClampNeg = 2 from rfl, hF, hA.1, hA.2.2.2.1, pk_mul, r.2.2.2.2.1 e3]
    have tk : ∀ h, RT T n i h → f_X12_is 136 23 h = some (true, h) := fun h r => by
      have : f_X12_is 136 23 h = some (decide (kZ T n i = 3), h) := r_isK r (k0 := 3) (x := 23) (by decide)
      rw [this, decide_eq_true e3]
    by_cases q : vZ T n i < cS F
    · rw [if_neg (show ¬ nI (nv F 1 * nv F 2) ≤ nI (vZ T n i) from nI_ge q (show cS F < 2 ^ 31 by omega)), r_isTaken hh hF hW q, bd_eq]
      cases fz : fre (fnR F) (nv F 3) (vZ T n i) with
      | true =>
        have x1 : Fc KnL [] g (sI g 57 15 (nI (vZ T n i))) := Fc.rf.sf (by decide)
        obtain ⟨iM, g2, h2, a1, a2, a3, a4, a5, a6⟩ := ls_next hz (hs.fc x1) hh (c.fc (K := [15]) (S := []) (Fc.rf.sf (by decide)) (by decide) (by decide)) r (by omega) (by omega)
        refine Or.inl ⟨e3, q, rfl, iM, g2, h2, ?_, ?_, x1.tr (a3.mono (by decide) (by decide)), a4.mono (by decide) (by decide), a5, a6, ?_⟩
        · rw [if_pos ⟨q, rfl⟩, a1, bd_eq]
        · show (if b2i false = 0 then _ else _) = _
          rw [ibF, r_p49 hh hF hA, f_X12_takes, i23, bd_eq, decide_eq_true e3, ibT, r.2.2.2.2.1 e3, r_wi2 (by omega) (by decide) (by omega), bd_eq, decide_eq_true (by omega), ibT, r_37 r e3, a2, bd_eq]
        · rw [a3.2 15 (by decide), gI_sIs, pk_us]
      | false =>
        obtain ⟨g2, h2, a1, a2, a3, a4, a5⟩ := ls_fail c r (f := 3) (by decide) (by decide) (by omega)
        have a1' : f_X8_refuse 57 3 g = some (false, g2) := a1
        have a2' : f_X12_fails 136 3 h = some ((), h2) := a2
        refine Or.inr ⟨gI h2 136 10, g2, h2, ?_, ?_, a3.mono (by decide) (by decide), a4.mono (by decide) (by decide), a5⟩
        · rw [if_neg (fun u => by cases u.2), a1', bd_eq]
        · show (if b2i true = 0 then _ else _) = _
          rw [ibT, a2', bd_eq, x_p49 (hh.fm a4) a5.x]
    · obtain ⟨g2, h2, a1, a2, a3, a4, a5⟩ := ls_fail c r (f := 3) (by decide) (by decide) (by omega)
      have a1' : f_X8_refuse 57 3 g = some (false, g2) := a1
      have a2' : f_X12_fails 136 3 h = some ((), h2) := a2
      refine Or.inr ⟨gI h2 136 10, g2, h2, ?_, ?_, a3.mono (by decide) (by decide), a4.mono (by decide) (by decide), a5⟩
      · rw [if_neg (fun u => q u.1), a1', bd_eq]
      · rw [if_pos (show nI (nv F 1 * nv F 2) ≤ nI (vZ T n i) from nI_le (show cS F ≤ vZ T n i by omega) (by omega)), r_p49 hh hF hA, f_X12_takes, i23, bd_eq, decide_eq_true e3, ibT, r.2.2.2.2.1 e3, r_wi2 (by omega) (by decide) (by omega), bd_eq, decide_eq_false (by omega), ibF, a2', bd_eq, x_37 a5.x]
  · obtain ⟨g2, h2, a1, a2, a3, a4, a5⟩ := ls_bad c r
    rw [if_neg e3, decide_eq_false e3, ibF, r_p49 hh hF hA]
    refine Or.inr ⟨gI h2 136 10, g2, h2, ?_, ?_, a3.mono (by decide) (by decide), a4.mono (by decide) (by decide), a5⟩
    · rw [a1, bd_eq]
    · rw [f_X12_takes, i23, bd_eq, decide_eq_false e3, ibF, a2, bd_eq, x_37 a5.x]
end NUM
