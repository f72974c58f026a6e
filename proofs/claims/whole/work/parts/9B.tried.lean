/-! WHAT CAN BE TRIED: class and reference refuse alike. -/
section TRY2
variable {X : Nat → Prop} {A : Nat → Int32} {g g' : G} {t : Nat}
theorem r_lw {v : Int64} {b : Nat} (hb : b < 2 ^ 30) : f_X12_within v 0 (lN b) g = some (decide (0 ≤ v.toInt ∧ v.toInt ≤ b), g) := by
  have z0 : (0 : Int64).toInt = 0 := rfl
  have o : (lN b).toInt = b := lN_toInt (by omega)
  rw [r_within, z0, o]
theorem r_lwN {n b : Nat} (hn : n < 2 ^ 63) (hb : b < 2 ^ 30) : f_X12_within (lN n) 0 (lN b) g = some (decide (n ≤ b), g) := by
  have e : (lN n).toInt = (n : Int) := lg_ofNat_toInt hn
  rw [r_lw hb, e]
  have : decide (0 ≤ (n : Int) ∧ (n : Int) ≤ b) = decide (n ≤ b) := by
    rw [decide_eq_decide]
    omega
  rw [this]
theorem r_nt59 (hs : Sh g) (ht : t < 4) {m : Nat} (hm : m ≤ 12) (h0 : gI g 153 t = nI m) : ∀ fu k, k ≤ m → m < fu + k → (∀ j, j < k → okN (gL g 154 (40 * t + j)) = true) → f_X12_noTried_59 fu 136 (nI t) (nI k) g = some (okR (fun j => gL g 154 (40 * t + j)) m, g) := by
  intro fu
  induction fu with
  | zero => intro k _ h; omega
  | succ fu ih =>
    intro k hk hf hok
    rw [f_X12_noTried_59, md136_34 hs, gk153 hs, sn153 hs, gdI_nI ht (by decide), nI_clamp (show t < 2 ^ 31 by omega), h0]
    rcases Nat.lt_or_ge k m with z | z
    · rw [if_neg (nI_ge z (by omega)), md136_35 hs, gk154 hs, sn154 hs, lum40, nI_add, gdI_nI (by omega) (by decide), nI_clamp (by omega), ll]
      by_cases ng : gL g 154 (40 * t + k) < 0
      · rw [if_pos ((lg_cmp_lt _ _).mpr ng), okR_stop (f := fun j => gL g 154 (40 * t + j)) z (okN_neg ng)]
      · rw [if_neg (fun u => ng ((lg_cmp_lt _ _).mp u))]
        obtain ⟨n, n1, n2⟩ := l_nn ng
        have ok := okN_nn n1
        rw [← n2] at ok
        rw [n2, show (10 : Int64) = lN 10 from rfl, pk_lRem n1 (by decide) (by decide), pk_lDiv n1 (by decide) (by decide), show (3 : Int64) = lN 3 from rfl, show (1 : Int64) = lN 1 from rfl, r_lwN (by omega) (by decide), bd_eq]
        by_cases a : n / 10 ≤ 3
        · rw [decide_eq_true a, ibT, r_lwN (by omega) (by decide), bd_eq]
          by_cases b : n % 10 ≤ 1
          · rw [decide_eq_true ⟨a, b⟩] at ok
            rw [decide_eq_true b, ibT, lad1]
            refine ih (k + 1) z (by omega) (fun j hj => ?_)
            by_cases e : j = k
            · rw [e]
              exact ok
            · exact hok j (by omega)
          · rw [decide_eq_false (fun u => b u.2)] at ok
            rw [decide_eq_false b, ibF, okR_stop (f := fun j => gL g 154 (40 * t + j)) z ok]
        · rw [decide_eq_false (fun u => a u.1)] at ok
          rw [decide_eq_false a, ibF, okR_stop (f := fun j => gL g 154 (40 * t + j)) z ok]
    · rw [if_pos (nI_le z (by omega))]
      unfold okR
      rw [if_pos (fun j hj => hok j (by omega))]
theorem okR_congr {f h : Nat → Int64} {m : Nat} (e : ∀ k, k < m → f k = h k) : okR f m = okR h m := by
  unfold okR
  by_cases u : ∀ k, k < m → okN (f k) = true
  · rw [if_pos u, if_pos (fun k hk => by rw [← e k hk]; exact u k hk)]
  · rw [if_neg u, if_neg (fun w => u (fun k hk => by rw [e k hk]; exact w k hk))]
theorem okR_0 {f : Nat → Int64} {m : Nat} (h : okR f m = 0) : ∀ k, k < m → ∃ n, f k = lN n ∧ n / 10 ≤ 3 ∧ n % 10 ≤ 1 := by
  unfold okR at h
  split at h
  · next u =>
    intro k hk
    obtain ⟨n, n1, n2, n3⟩ := of_decide_eq_true (u k hk)
    exact ⟨n, n2, n3⟩
  · cases h
/-- the row of a tray: it is there, and it can be tried -/
def TN (g : G) (t m : Nat) (f : Nat → Nat) : Prop := 1 ≤ m ∧ m ≤ 12 ∧ gI g (128 + 2 * t) 0 = nI m ∧ gI g 153 t = nI m ∧ ∀ k, k < m → f k / 10 ≤ 3 ∧ f k % 10 ≤ 1 ∧ gL g (129 + 2 * t) k = lN (f k) ∧ gL g 154 (40 * t + k) = lN (f k)
theorem tries (h : RS A g) (hD : BD X g 47 A) (hT : TR g) (v w : Int32) : ∃ z, f_X11_triesRefused 0 v w g = some (z, g) ∧ (∀ g', RS A g' → gI g' 152 = gI g 152 → gI g' 153 = gI g 153 → gL g' 154 = gL g 154 → f_X12_noTried 136 v w g' = some (z, g')) ∧ (z = 0 → ∃ t p m f, t < 4 ∧ v = nI t ∧ p < nv A 3 ∧ w = nI p ∧ TN g t m f) := by
  have hs := h.1
  have hA := h.2.2.1
  rw [f_X11_triesRefused, c_isTray, bd_eq]
  cases hv : inR v 4 with
  | false => exact ⟨-2, by rw [ibF], fun g' hr _ _ _ => by rw [f_X12_noTried, r_wi3, hv, bd_eq, ibF], fun u => by cases u⟩
  | true =>
    rw [ibT, md0_4 hs, gk47 hs, c_isPair hD hA, bd_eq]
    cases hw : inR w (nv A 3) with
    | false => exact ⟨-2, by rw [ibF], fun g' hr _ _ _ => by rw [f_X12_noTried, r_wi3, hv, bd_eq, ibT, R_isPair hr, inL_I, hw, bd_eq, ibF], fun u => by cases u⟩
    | true =>
      obtain ⟨t, ht, rfl⟩ := inR_true hv (by decide)
      obtain ⟨p, hp, rfl⟩ := pr_t hA hw
      obtain ⟨so, m, s1, s2, s3, s4, s5, s6, s7⟩ := hT t ht
      rw [ibT, md0_16 hs, gk40 hs, sn40 hs, gdI_nI ht (by decide), nI_clamp (by omega), tr_dr hs ht, tr_gk hs ht, f_X10_isMissing, s3]
      rcases s1 with e | ⟨s, e1, e2⟩
      · exact ⟨-6, by rw [if_pos e, bd_eq, ibT], fun g' hr q1 _ _ => by rw [f_X12_noTried, r_wi3, hv, bd_eq, ibT, R_isPair hr, inL_I, hw, bd_eq, ibT, f_X12_noTray, r_wi3, hv, bd_eq, ibT, md136_33 hr.1, gk152 hr.1, sn152 hr.1, gdI_nI ht (by decide), nI_clamp (by omega), q1, s4, if_pos e, bd_eq, if_neg (by decide)], fun u => by cases u⟩
      · have ne : ¬ so = -1 := by
          rw [e2]
          exact nI_ne1 (by omega)
        have wi : ∀ g, f_X12_within (nI m).toInt64 1 12 g = some (decide (1 ≤ m ∧ m ≤ 12), g) := fun g => by
          have z0 : (1 : Int64).toInt = 1 := rfl
          have o : (12 : Int64).toInt = 12 := rfl
          rw [r_within, Int32.toInt_toInt64, nI_toInt (by omega), z0, o]
          have : decide (1 ≤ (m : Int) ∧ (m : Int) ≤ 12) = decide (1 ≤ m ∧ m ≤ 12) := by
            rw [decide_eq_decide]
            omega
          rw [this]
        have rn : ∀ g', RS A g' → gI g' 152 = gI g 152 → gI g' 153 = gI g 153 → f_X12_noTried 136 (nI t) (nI p) g' = if b2i (decide (1 ≤ m ∧ m ≤ 12)) = 0 then some (-4, g') else f_X12_noTried_59 FU 136 (nI t) 0 g' := fun g' hr q1 q2 => by
          rw [f_X12_noTried, r_wi3, hv, bd_eq, ibT, R_isPair hr, inL_I, hw, bd_eq, ibT, f_X12_noTray, r_wi3, hv, bd_eq, ibT, md136_33 hr.1, gk152 hr.1, sn152 hr.1, gdI_nI ht (by decide), nI_clamp (by omega), q1, s4, if_neg ne, bd_eq, if_pos rfl, md136_34 hr.1, gk153 hr.1, sn153 hr.1, gdI_nI ht (by decide), q2, s6, wi, bd_eq]
        rw [if_neg ne, bd_eq, ibF, s5]
        by_cases mm : 1 ≤ m ∧ m ≤ 12
        · have cc := c_tr61 hs ht mm.2 s5 FU 0 (Nat.zero_le _) (by have := @FU_gt m (by omega); omega) (fun j hj => by omega)
          have cc' : f_X11_triesRefused_61 FU (128 + 2 * t) 0 g = _ := cc
          refine ⟨okR (gL g (129 + 2 * t)) m, ?_, fun g' hr q1 q2 q3 => ?_, fun u => ?_⟩
          · rw [if_neg (show ¬ nI m < 1 from nI_nlt (b := 1) mm.1 (by omega)), if_pos (show nI m ≤ 12 from nI_le (b := 12) mm.2 (by decide)), cc']
          · have rr := r_nt59 hr.1 ht mm.2 (by rw [q2]; exact s6) FU 0 (Nat.zero_le _) (by have := @FU_gt m (by omega); omega) (fun j hj => by omega)
            have rr' : f_X12_noTried_59 FU 136 (nI t) 0 g' = _ := rr
            rw [rn g' hr q1 q2, decide_eq_true mm, ibT, rr', okR_congr (fun k hk => s7 k hk), q3]
          · have o := okR_0 u
            refine ⟨t, p, m, fun k => (gL g (129 + 2 * t) k).toInt.toNat, ht, rfl, hp, rfl, mm.1, mm.2, s5, s6, fun k hk => ?_⟩
            obtain ⟨n, n1, n2, n3⟩ := o k hk
            have e : (lN n).toInt = (n : Int) := lg_ofNat_toInt (by omega)
            dsimp only
            rw [n1, e, Int.toNat_natCast, ← s7 k hk]
            exact ⟨n2, n3, rfl, n1⟩
        · refine ⟨-4, ?_, fun g' hr q1 q2 _ => by rw [rn g' hr q1 q2, decide_eq_false mm, ibF], fun u => by cases u⟩
          by_cases a : 1 ≤ m
          · rw [if_neg (show ¬ nI m < 1 from nI_nlt (b := 1) a (by omega)), if_neg (show ¬ nI m ≤ 12 from nI_ge (b := m) (a := 12) (by omega) (by omega))]
          · rw [if_pos (show nI m < 1 from nI_lt (b := 1) (by omega) (by decide))]
end TRY2
