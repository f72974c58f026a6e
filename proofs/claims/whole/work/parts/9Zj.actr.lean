/-! A DEED OUT OF A TRAY: class and reference. -/
section ACR
variable {X : Nat → Prop} {A A1 A2 : Nat → Int32} {g g' g1 g3 g5 : G} {a b n ag ag' : Nat} {S K : List Nat}
theorem cmpL {m k : Nat} (hm : m < 2 ^ 63) (hk : k < 2 ^ 63) : (lg_cmp (lN m) (lN k) < 0) ↔ m < k := by
  rw [lg_cmp_lt, pk_lLT hm hk]
theorem cmpG {m k : Nat} (hm : m < 2 ^ 63) (hk : k < 2 ^ 63) : (0 < lg_cmp (lN m) (lN k)) ↔ k < m := by
  rw [lg_cmp_gt, pk_lLT hk hm]
theorem c_act (h : BD X g b A) (hW : WF A) (hs : Sh g) (hX : XO X) (hXb : ∀ k, k ≤ 4 → ¬ X (b + k)) (hI : SI ag g) (hag : ag + 1 < 2 ^ 30) (hb : ∀ a ∈ [68, 69, 70, 71, 72, 73, 74, 75], a < b ∨ b + 4 < a) (v : Int64) : ∃ r g' ag', f_X0_act b 68 v g = some (r, g') ∧ Fq (AL b) g g' ∧ Sh g' ∧ SI ag' g' ∧ ag ≤ ag' ∧ ag' ≤ ag + 1 ∧ BD X g' b (actS A v).2.1 ∧ aR r (actS A v) := by
  obtain ⟨hA, hB, hL, hE⟩ := id hW
  have k3 := hA.2.2.2.2.2.2.2
  have cl := cS_le hA
  have bad : f_X0_act b 68 v g = some (-1, g) → actS A v = (1, A, 0) → ∃ r g' ag', f_X0_act b 68 v g = some (r, g') ∧ Fq (AL b) g g' ∧ Sh g' ∧ SI ag' g' ∧ ag ≤ ag' ∧ ag' ≤ ag + 1 ∧ BD X g' b (actS A v).2.1 ∧ aR r (actS A v) := fun e1 e2 => by
    rw [e2]
    exact ⟨-1, g, ag, e1, Fq.rf, hs, hI, Nat.le_refl _, by omega, h, Or.inr ⟨Nat.le_refl _, by dsimp only; omega, rfl⟩⟩
  have m1 : f_X0_act_177 (-1) g = some (-1, g) := act_neg (by decide)
  by_cases neg : v < 0
  · have lt : ∀ k : Nat, k < 2 ^ 63 → v < lN k := fun k hk => by
      rw [Int64.lt_iff_toInt_lt] at neg ⊢
      have e : (lN k).toInt = (k : Int) := lg_ofNat_toInt hk
      have z : (0 : Int64).toInt = 0 := rfl
      rw [e]
      omega
    refine bad ?_ ?_
    · rw [f_X0_act, if_pos ((lg_cmp_lt _ _).mpr neg), f_X0_act_107, if_pos (show lg_cmp v 1000 < 0 from (lg_cmp_lt _ _).mpr (lt 1000 (by decide))), f_X0_act_141, if_pos (show lg_cmp v 2000 < 0 from (lg_cmp_lt _ _).mpr (lt 2000 (by decide))), m1]
    · unfold actS
      rw [if_pos neg]
  · obtain ⟨n, hn, rfl⟩ := l_nn neg
    have aS := actS_N (A := A) hn
    have c0 : ¬ lg_cmp (lN n) 0 < 0 := fun u => by
      have := (cmpL (k := 0) hn (by decide)).mp u
      omega
    have c399 : (0 < lg_cmp (lN n) 399) ↔ 399 < n := cmpG (k := 399) hn (by decide)
    have c1000 : (lg_cmp (lN n) 1000 < 0) ↔ n < 1000 := cmpL (k := 1000) hn (by decide)
    have c1099 : (0 < lg_cmp (lN n) 1099) ↔ 1099 < n := cmpG (k := 1099) hn (by decide)
    have c2000 : (lg_cmp (lN n) 2000 < 0) ↔ n < 2000 := cmpL (k := 2000) hn (by decide)
    have c2099 : (0 < lg_cmp (lN n) 2099) ↔ 2099 < n := cmpG (k := 2099) hn (by decide)
    have to107 : 399 < n → f_X0_act b 68 (lN n) g = f_X0_act_107 b (lN n) g := fun u => by
      rw [f_X0_act, if_neg c0, if_pos (c399.mpr u)]
    rcases Nat.lt_or_ge 399 n with z | z
    · by_cases w1 : 1000 ≤ n ∧ n ≤ 1099
      · have aw : actS A (lN n) = aW A (n - 1000) := by
          rw [aS]
          unfold aN
          rw [if_neg (by omega), if_pos w1]
        obtain ⟨r, g2, b1, b2, b3, b4⟩ := c_turnWall h (hXb 0 (by decide)) hA hB hL (nI (n - 1000))
        have x2 : Fq (AL b) g g2 := b2.q.mono (fun j hj => by
          unfold AL
          simp at hj ⊢
          omega)
        have run : f_X0_act b 68 (lN n) g = f_X0_act_177 r g2 := by
          rw [to107 z, f_X0_act_107, if_neg (fun u => by have := c1000.mp u; omega), if_neg (fun u => by have := c1099.mp u; omega), l32b n (by omega), show (1000 : Int32) = nI 1000 from rfl, pk_sub w1.1, b1, bd_eq]
        have si : SI ag g2 := hI.fa hs b2.a (fun k k1 k2 u => by
          have := hb k (by simp; omega)
          simp at u
          omega)
        rw [aw]
        unfold aW
        rcases b4 with ⟨rfl, rfl, e⟩ | ⟨c, hc, ec, ⟨rfl, rfl, e⟩ | ⟨hno, rfl, b5⟩⟩
        · rw [inR_nI (by omega), decide_eq_false_iff_not] at e
          rw [if_neg e]
          exact ⟨-1, g2, ag, by rw [run, act_neg (by decide)], x2, hs, hI, Nat.le_refl _, by omega, h, Or.inr ⟨Nat.le_refl _, by dsimp only; omega, rfl⟩⟩
        · have ec' : n - 1000 = c := (nI_eq (by omega) (by omega)).mp ec
          rw [if_pos (by omega), ec', if_neg e]
          exact ⟨-2, g2, ag, by rw [run, act_neg (by decide)], x2, hs, hI, Nat.le_refl _, by omega, h, Or.inr ⟨by dsimp only; omega, by dsimp only; omega, rfl⟩⟩
        · have ec' : n - 1000 = c := (nI_eq (by omega) (by omega)).mp ec
          rw [if_pos (by omega), ec', if_pos hno]
          exact ⟨0, g2, ag, by rw [run, act_min (by omega)], x2, Sh.fi b2 hs, si, Nat.le_refl _, by omega, b5, Or.inl ⟨rfl, rfl⟩⟩
      · by_cases w2 : 2000 ≤ n ∧ n ≤ 2099
        · have aw : actS A (lN n) = aM A ((n - 2000) / 10) (n % 10) := by
            rw [aS]
            unfold aN
            rw [if_neg (by omega), if_neg w1, if_pos w2]
          obtain ⟨r, g2, b1, b2, b3, b4⟩ := c_feel h (hXb 3 (by decide)) hA hB hL (nI ((n - 2000) / 10)) (nI (n % 10))
          have x2 : Fq (AL b) g g2 := b2.q.mono (fun j hj => by
            unfold AL
            simp at hj ⊢
            omega)
          have run : f_X0_act b 68 (lN n) g = f_X0_act_177 r g2 := by
            rw [to107 z, f_X0_act_107, if_neg (fun u => by have := c1000.mp u; omega), if_pos (c1099.mpr (by omega)), f_X0_act_141, if_neg (fun u => by have := c2000.mp u; omega), if_neg (fun u => by have := c2099.mp u; omega), l32b n (by omega), show (2000 : Int32) = nI 2000 from rfl, pk_sub w2.1, ldi10 (by omega), ldi10 (by omega), lmo10, b1, bd_eq]
          have si : SI ag g2 := hI.fa hs b2.a (fun k k1 k2 u => by
            have := hb k (by simp; omega)
            simp at u
            omega)
          rw [aw]
          unfold aM
          rcases b4 with ⟨rfl, rfl, e⟩ | ⟨p, x, hp, hx, e1, e2, rfl, b5⟩
          · rw [inR_nI (by omega), inR_nI (by omega), decide_eq_true (show (n % 10) < 10 by omega), Bool.and_true, decide_eq_false_iff_not] at e
            rw [if_neg e]
            exact ⟨-1, g2, ag, by rw [run, act_neg (by decide)], x2, hs, hI, Nat.le_refl _, by omega, h, Or.inr ⟨Nat.le_refl _, by dsimp only; omega, rfl⟩⟩
          · have e1' : (n - 2000) / 10 = p := (nI_eq (by omega) (by omega)).mp e1
            have e2' : (n % 10) = x := (nI_eq (by omega) (by omega)).mp e2
            have m9 := (hB.m hp).2
            rw [e1', e2', if_pos hp]
            exact ⟨0, g2, ag, by rw [run, act_min (by omega)], x2, Sh.fi b2 hs, si, Nat.le_refl _, by omega, b5, Or.inl ⟨rfl, rfl⟩⟩
        · have aw : actS A (lN n) = (1, A, 0) := by
            rw [aS]
            unfold aN
            rw [if_neg (by omega), if_neg w1, if_neg w2]
          have s141 : f_X0_act_141 b (lN n) (-1) g = some (-1, g) := by
            rw [f_X0_act_141]
            by_cases u : n < 2000
            · rw [if_pos (c2000.mpr u), m1]
            · rw [if_neg (fun k => u (c2000.mp k)), if_pos (c2099.mpr (by omega)), m1]
          refine bad ?_ aw
          rw [to107 z, f_X0_act_107]
          by_cases u : n < 1000
          · rw [if_pos (c1000.mpr u), s141]
          · rw [if_neg (fun k => u (c1000.mp k)), if_pos (c1099.mpr (by omega)), s141]
    · have aw : actS A (lN n) = aL A n := by
        rw [aS]
        unfold aN
        rw [if_pos z]
      rw [aw]
      exact c_actL h hW hs hX hXb hI hag hb z
theorem r_wiN {m lo hi : Nat} (hm : m < 2 ^ 63) (hlo : lo < 2 ^ 63) (hhi : hi < 2 ^ 63) : f_X12_within (lN m) (lN lo) (lN hi) g = some (decide (lo ≤ m ∧ m ≤ hi), g) := by
  have e1 : (lN m).toInt = (m : Int) := lg_ofNat_toInt hm
  have e2 : (lN lo).toInt = (lo : Int) := lg_ofNat_toInt hlo
  have e3 : (lN hi).toInt = (hi : Int) := lg_ofNat_toInt hhi
  rw [r_within, e1, e2, e3]
  congr 2
  rw [decide_eq_decide]
  omega
/-- the reference holds where a told lead comes to -/
def LDv (A : Nat → Int32) (v : Int64) (g : G) : Prop := ∀ n, v = lN n → n ≤ 399 → gI g 136 17 = nI (lS A (n / 100) (n / 10 % 10) (n % 10)).2.1 ∧ gI g 136 18 = nI (lS A (n / 100) (n / 10 % 10) (n % 10)).2.2
theorem LDv.fm {v : Int64} (h : LDv A v g) (x : Fm K S g g') (h1 : 17 ∉ K) (h2 : 18 ∉ K) : LDv A v g' := fun n e hn => by
  rw [x.2 17 h1, x.2 18 h2]
  exact h n e hn
theorem lSub {m k : Nat} (h : k ≤ m) (hm : m < 2 ^ 63) : lN m - lN k = lN (m - k) := by
  apply Int64.toInt_inj.mp
  have e1 : (lN m).toInt = (m : Int) := lg_ofNat_toInt hm
  have e2 : (lN k).toInt = (k : Int) := lg_ofNat_toInt (by omega)
  have e3 : (lN (m - k)).toInt = ((m - k : Nat) : Int) := lg_ofNat_toInt (by omega)
  rw [Int64.toInt_sub, e1, e2, e3]
  rw [Int.bmod_eq_of_le (by omega) (by omega)]
  omega
theorem r_whyNot (h : RS A g) (hW : WF A) (v : Int64) : ∃ g', f_X12_whyNot 136 v g = some (nI (actS A v).1, g') ∧ Fm [17, 18] [141, 142] g g' ∧ ((actS A v).1 = 0 → LDv A v g') := by
  have k3 := h.k3
  have cl := h.cl
  by_cases neg : v < 0
  · have z : (0 : Int64).toInt = 0 := rfl
    have w : ∀ lo hi : Nat, lo < 2 ^ 63 → f_X12_within v (lN lo) (lN hi) g = some (false, g) := fun lo hi hlo => by
      rw [r_within, decide_eq_false (fun u => by
        rw [Int64.lt_iff_toInt_lt, z] at neg
        have e2 : (lN lo).toInt = (lo : Int) := lg_ofNat_toInt hlo
        rw [e2] at u
        omega)]
    have a1 : actS A v = (1, A, 0) := by
      unfold actS
      rw [if_pos neg]
    refine ⟨g, ?_, Fm.rf, fun u => by rw [a1] at u; cases u⟩
    rw [a1, f_X12_whyNot, show (0 : Int64) = lN 0 from rfl, show (399 : Int64) = lN 399 from rfl, w 0 399 (by decide), bd_eq, ibF, show (1000 : Int64) = lN 1000 from rfl, show (1099 : Int64) = lN 1099 from rfl, w 1000 1099 (by decide), bd_eq, ibF, show (2000 : Int64) = lN 2000 from rfl, show (2099 : Int64) = lN 2099 from rfl, w 2000 2099 (by decide), bd_eq, ibF]
    rfl
  · obtain ⟨n, hn, rfl⟩ := l_nn neg
    have aS := actS_N (A := A) hn
    have w0 : f_X12_within (lN n) 0 399 g = some (decide (0 ≤ n ∧ n ≤ 399), g) := r_wiN (lo := 0) (hi := 399) hn (by decide) (by decide)
    have w1 : f_X12_within (lN n) 1000 1099 g = some (decide (1000 ≤ n ∧ n ≤ 1099), g) := r_wiN (lo := 1000) (hi := 1099) hn (by decide) (by decide)
    have w2 : f_X12_within (lN n) 2000 2099 g = some (decide (2000 ≤ n ∧ n ≤ 2099), g) := r_wiN (lo := 2000) (hi := 2099) hn (by decide) (by decide)
    have ld : 399 < n → ∀ g', LDv A (lN n) g' := fun u g' m e hm => by
      rcases Nat.lt_or_ge m (2 ^ 63) with q | q
      · have := lN_inj hn q e
        omega
      · omega
    rw [aS, f_X12_whyNot, w0, bd_eq]
    rcases Nat.lt_or_ge 399 n with z | z
    · rw [decide_eq_false (show ¬ (0 ≤ n ∧ n ≤ 399) by omega), ibF, w1, bd_eq]
      by_cases u1 : 1000 ≤ n ∧ n ≤ 1099
      · have aw : aN A n = aW A (n - 1000) := by
          unfold aN
          rw [if_neg (show ¬ n ≤ 399 by omega), if_pos u1]
        rw [aw, decide_eq_true u1, ibT, show (1000 : Int64) = lN 1000 from rfl, lSub u1.1 hn]
        unfold aW
        by_cases hc : n - 1000 < cS A
        · rw [r_whyWall h hc, bd_eq, if_pos hc]
          refine ⟨g, ?_, Fm.rf, fun _ => ld z g⟩
          split <;> rfl
        · rw [f_X12_whyWall, R_isCell h, inL_lN (by omega), decide_eq_false hc, bd_eq, ibF, bd_eq, if_neg hc]
          exact ⟨g, rfl, Fm.rf, fun _ => ld z g⟩
      · rw [decide_eq_false u1, ibF, w2, bd_eq]
        by_cases u2 : 2000 ≤ n ∧ n ≤ 2099
        · have aw : aN A n = aM A ((n - 2000) / 10) (n % 10) := by
            unfold aN
            rw [if_neg (show ¬ n ≤ 399 by omega), if_neg u1, if_pos u2]
          rw [aw, decide_eq_true u2, ibT, show (2000 : Int64) = lN 2000 from rfl, lSub u2.1 hn, show (10 : Int64) = lN 10 from rfl, pk_lDiv (by omega) (by decide) (by decide), R_isPair h, inL_lN (by omega), bd_eq]
          unfold aM
          by_cases hp : (n - 2000) / 10 < nv A 3
          · rw [decide_eq_true hp, ibT, if_pos hp]
            exact ⟨g, rfl, Fm.rf, fun _ => ld z g⟩
          · rw [decide_eq_false hp, ibF, if_neg hp]
            exact ⟨g, rfl, Fm.rf, fun _ => ld z g⟩
        · have aw : aN A n = (1, A, 0) := by
            unfold aN
            rw [if_neg (show ¬ n ≤ 399 by omega), if_neg u1, if_neg u2]
          rw [aw, decide_eq_false u2, ibF]
          exact ⟨g, rfl, Fm.rf, fun _ => ld z g⟩
    · have aw : aN A n = aL A n := by
        unfold aN
        rw [if_pos z]
      rw [aw, decide_eq_true (show 0 ≤ n ∧ n ≤ 399 by omega), ibT, show (100 : Int64) = lN 100 from rfl, show (10 : Int64) = lN 10 from rfl, pk_lDiv (b := 100) hn (by decide) (by decide), pk_lRem (b := 10) hn (by decide) (by decide), pk_lDiv (b := 10) hn (by decide) (by decide), pk_lRem (b := 10) (show n / 10 < 2 ^ 63 by omega) (by decide) (by decide)]
      unfold aL
      by_cases ok : (n / 100) < nv A 3 ∧ (n / 10 % 10) < 2 ∧ (n % 10) < 4
      · obtain ⟨g1, e1, e2, e3⟩ := r_whyT (p := (n / 100)) (t := (n / 10 % 10)) (w := (n % 10)) h ok.1 ok.2.1 ok.2.2
        rw [e1, bd_eq, if_pos ok]
        refine ⟨g1, ?_, e2, fun u m em hm => ?_⟩
        · by_cases q : (lS A (n / 100) (n / 10 % 10) (n % 10)).1 = 0
          · rw [if_pos q, q]
          · rw [if_neg q]
        · have := lN_inj hn (by omega) em
          subst this
          by_cases q : (lS A (n / 100) (n / 10 % 10) (n % 10)).1 = 0
          · exact e3 q
          · rw [if_neg q] at u
            exact absurd u q
      · rw [if_neg ok, r_whyF h (by
          rw [inL_lN (by omega), inL_lN (by omega), inL_lN (by omega)]
          by_cases q1 : (n / 100) < nv A 3
          · by_cases q2 : (n / 10 % 10) < 2
            · rw [decide_eq_false (show ¬ (n % 10) < 4 from fun q3 => ok ⟨q1, q2, q3⟩), Bool.and_false, Bool.and_false]
            · rw [decide_eq_false q2, Bool.false_and, Bool.and_false]
          · rw [decide_eq_false q1, Bool.false_and]), bd_eq]
        exact ⟨g, rfl, Fm.rf, fun u => by cases u⟩
end ACR
