/-! QUERIES answered alike: spans. -/
section QSP
variable {X : Nat → Prop} {A : Nat → Int32} {g g' : G} {p ag n : Nat}
theorem sN_cut {f : Nat → Nat} {a : Nat} : ∀ b, a ≤ b → (∀ i, a ≤ i → i < b → f i = 0) → sumN f b = sumN f a
  | 0, h, _ => by rw [show a = 0 by omega]
  | b + 1, h, h0 => by
    rcases Nat.lt_or_ge b a with z | z
    · rw [show a = b + 1 by omega]
    · rw [sN_s, sN_cut b z (fun i h1 h2 => h0 i h1 (by omega)), h0 b z (by omega), Nat.add_zero]
theorem cntB_sum {P : Nat → Bool} : ∀ n, cntB P n = sumN (fun i => if P i = true then 1 else 0) n
  | 0 => rfl
  | n + 1 => by
    rw [sN_s, ← cntB_sum n]
    rfl
def spB (A : Nat → Int32) (p d a b : Nat) : Nat := if fre A p a = true ∧ fre A p b = true ∧ apS (nv A 2) a b = d then 1 else 0
theorem r_sp49 (h : RS A g) (hp : p < nv A 3) {d a s : Nat} (hd : d ≤ 10) (ha : a < cS A) {k37 : Nat → Int32 → Int32 → Int32 → Int32 → G → Option (Int32 × G)} : ∀ fu k, k ≤ cS A → cS A < fu + k → f_X12_spans_49 k37 fu 136 (nI p) (nI d) (nI (s + sumN (spB A p d a) k)) (nI a) (nI k) g = k37 136 (nI p) (nI d) (nI (s + sumN (spB A p d a) (cS A))) (nI (a + 1)) g := by
  have cl := h.cl
  have k3 := h.k3
  intro fu
  induction fu with
  | zero => intro k _ h; omega
  | succ fu ih =>
    intro k hk hf
    rw [f_X12_spans_49, R_cells h, bd_eq]
    rcases Nat.lt_or_ge k (cS A) with z | z
    · have i := ih (k + 1) (by omega) (by omega)
      rw [sN_s] at i
      have skip : spB A p d a k = 0 → f_X12_spans_95 k37 (f_X12_spans_49 k37 fu) 136 (nI p) (nI d) (nI a) (nI k) (nI (s + sumN (spB A p d a) k)) g = k37 136 (nI p) (nI d) (nI (s + sumN (spB A p d a) (cS A))) (nI (a + 1)) g := fun u => by
        rw [u, Nat.add_zero] at i
        rw [f_X12_spans_95, f_X12_spans_96, show (0 : Int32) = nI 0 from rfl, nI_add, li, lad1]
        exact i
      rw [if_neg (nI_ge z (by omega)), R_isFree h (by omega) (by omega), bd_eq]
      cases f1 : fre A p a with
      | false =>
        rw [ibF]
        exact skip (by unfold spB; rw [if_neg (fun u => by rw [f1] at u; cases u.1)])
      | true =>
        rw [ibT, R_isFree h (by omega) (by omega), bd_eq]
        cases f2 : fre A p k with
        | false =>
          rw [ibF]
          exact skip (by unfold spB; rw [if_neg (fun u => by rw [f2] at u; cases u.2.1)])
        | true =>
          have al := apS_10 h.2.2.1 ha z
          rw [ibT, R_apart h (by omega) (by omega), bd_eq]
          by_cases w : apS (nv A 2) a k = d
          · have e1 : spB A p d a k = 1 := by
              unfold spB
              rw [if_pos ⟨f1, f2, w⟩]
            rw [e1] at i
            rw [if_pos (by rw [w]), f_X12_spans_96, lad1, li, lad1]
            exact i
          · rw [if_neg (fun u => w ((nI_eq (by omega) (by omega)).mp u))]
            exact skip (by unfold spB; rw [if_neg (fun u => w u.2.2)])
    · have e : k = cS A := by omega
      subst e
      rw [if_pos (nI_le z (by omega)), lad1]
theorem r_sp37 (h : RS A g) (hp : p < nv A 3) {d : Nat} (hd : d ≤ 10) : ∀ fu k, k ≤ cS A → cS A < fu + k → f_X12_spans_37 fu 136 (nI p) (nI d) (nI (sumN (fun a => sumN (spB A p d a) (cS A)) k)) (nI k) g = some (nI (sumN (fun a => sumN (spB A p d a) (cS A)) (cS A)), g) := by
  have cl := h.cl
  intro fu
  induction fu with
  | zero => intro k _ h; omega
  | succ fu ih =>
    intro k hk hf
    rw [f_X12_spans_37, R_cells h, bd_eq]
    rcases Nat.lt_or_ge k (cS A) with z | z
    · have i := ih (k + 1) (by omega) (by omega)
      rw [sN_s] at i
      have r := r_sp49 h hp hd z (s := sumN (fun a => sumN (spB A p d a) (cS A)) k) (k37 := f_X12_spans_37 fu) FU 0 (Nat.zero_le _) (by have := @FU_gt (cS A) (by omega); omega)
      have r' : f_X12_spans_49 (f_X12_spans_37 fu) FU 136 (nI p) (nI d) (nI (sumN (fun a => sumN (spB A p d a) (cS A)) k)) (nI k) 0 g = _ := r
      rw [if_neg (nI_ge z (by omega)), r']
      exact i
    · have e : k = cS A := by omega
      subst e
      rw [if_pos (nI_le z (by omega))]
theorem c_sp44 (hA : Dm A) (h : SP X A (fre A p) p (md A p) ag g) {d : Nat} (hd : d ≤ 10) : ∀ fu k, k ≤ 36 → 36 < fu + k → f_X11_spans_44 fu 0 (nI d) (nI (sumN (fun a => if a < cS A then sumN (spB A p d a) (cS A) else 0) k)) (nI k) g = some (nI (sumN (fun a => if a < cS A then sumN (spB A p d a) (cS A) else 0) 36), g) := by
  have cl := cS_le hA
  have hs := h.1.1
  intro fu
  induction fu with
  | zero => intro k _ h; omega
  | succ fu ih =>
    intro k hk hf
    rw [f_X11_spans_44]
    rcases Nat.lt_or_ge k 36 with z | z
    · have i := ih (k + 1) (by omega) (by omega)
      rw [sN_s] at i
      rw [if_neg (lnge36 z), md0_7 hs, gk68 hs, ibt (by omega), h.1.2.2.1 k (by omega)]
      by_cases w : k < cS A ∧ fre A p k = true
      · have cb : cntB (bt (gL g 68 0 &&& gL g 70 (d * 36 + k))) 64 = sumN (spB A p d k) (cS A) := by
          rw [cntB_sum, sN_cut (a := cS A) 64 (by omega) (fun e e1 e2 => by
            rw [bt_and, h.1.2.2.1 e e2, decide_eq_false (show ¬ e < cS A by omega)]
            rfl)]
          refine sN_congr (fun e he => ?_)
          rw [bt_and, h.1.2.2.1 e (by omega), h.1.2.2.2.2.2.2 _ _ _ hd z (by omega), decide_eq_true he, Bool.true_and]
          unfold spB
          have c1 : ((fre A p e && decide (k < nv A 1 * nv A 2 ∧ e < nv A 1 * nv A 2 ∧ apS (nv A 2) k e = d)) = true) ↔ (fre A p k = true ∧ fre A p e = true ∧ apS (nv A 2) k e = d) := by
            rw [Bool.and_eq_true, decide_eq_true_eq]
            exact ⟨fun ⟨a, b⟩ => ⟨w.2, a, b.2.2⟩, fun ⟨_, b, c⟩ => ⟨b, w.1, he, c⟩⟩
          by_cases y : fre A p k = true ∧ fre A p e = true ∧ apS (nv A 2) k e = d
          · rw [if_pos y, if_pos (c1.mpr y)]
          · rw [if_neg y, if_neg (fun u => y (c1.mp u))]
        rw [if_pos w.1] at i
        rw [decide_eq_true w.1, w.2, if_pos (show (true && true) = true from rfl), c_ring hs hd z, bd_eq, j_bitCount, bd_eq, cb, nI_add, li, f_X11_spans_92, lad1]
        exact i
      · have e0 : (if k < cS A then sumN (spB A p d k) (cS A) else 0) = 0 := by
          by_cases y : k < cS A
          · rw [if_pos y]
            refine sN_0 (fun e _ => ?_)
            unfold spB
            rw [if_neg (fun u => w ⟨y, u.1⟩)]
          · rw [if_neg y]
        rw [e0, Nat.add_zero] at i
        rw [if_neg (fun u => by
          rw [Bool.and_eq_true, decide_eq_true_eq] at u
          exact w u), f_X11_spans_92, lad1]
        exact i
    · have e : k = 36 := by omega
      subst e
      rw [if_pos (lle36 (by decide) (by decide))]
theorem q_spans (h : QS X A ag g) (hag : ag + 2 < 2 ^ 30) (v k : Int32) : QA X A ag g (f_X11_spans 0 v k g) (fun g => f_X12_spans 136 v k g) := by
  obtain ⟨h1, h2, h3, h4, h5⟩ := id h; have hA := h1.2.2.1; have hBd := h1.2.2.2.1; have k3 := h1.k3; have cl := h1.cl; have hs := h1.1
  have w10 : ∀ g, f_X12_within k.toInt64 0 10 g = some (decide (0 ≤ k.toInt ∧ k.toInt ≤ 10), g) := fun g => r_wib k 10 (by decide)
  cases hp' : inR v (nv A 3) with
  | false =>
    refine QA.of (v := -2) (g1 := g) (g2 := sI g 136 0 0) (K := [0]) (S := []) ?_ (Qf.rf h1.1) h ?_ tF0 (by decide) (by decide) (Nat.le_refl _) (by omega)
    · rw [f_X11_spans, md0_4 hs, gk47 hs, c_isPair h3 hA, hp', bd_eq, ibF]
    · show f_X12_spans 136 v k g = _
      rw [f_X12_spans, lg, R_isPair h1.t0, inL_I, hp', bd_eq, ibF]
  | true =>
    rcases wi_n k 10 (by decide) with ⟨d, hd, rfl⟩ | kn
    · have kb : decide (0 ≤ (nI d).toInt ∧ (nI d).toInt ≤ 10) = true := decide_eq_true (by rw [nI_toInt (by omega)]; omega)
      obtain ⟨p, hp, rfl⟩ := pr_t hA hp'
      obtain ⟨g1, a1, a2, a3, a4⟩ := h.aim hp (by omega)
      have r := r_sp37 a3.1.t0 hp hd FU 0 (Nat.zero_le _) (by have := @FU_gt (cS A) (by omega); omega)
      have r' : f_X12_spans_37 FU 136 (nI p) (nI d) 0 0 (sI g1 136 0 0) = _ := r
      have c := c_sp44 hA a4 hd FU 0 (by decide) (by have := @FU_gt 36 (by decide); omega)
      have c' : f_X11_spans_44 FU 0 (nI d) 0 0 g1 = _ := c
      have em : sumN (fun a => if a < cS A then sumN (spB A p d a) (cS A) else 0) 36 = sumN (fun a => sumN (spB A p d a) (cS A)) (cS A) := by
        rw [sN_cut (a := cS A) 36 (by omega) (fun i i1 i2 => if_neg (by omega))]
        exact sN_congr (fun i hi => if_pos hi)
      refine QA.of (v := nI (sumN (fun a => sumN (spB A p d a) (cS A)) (cS A))) (g1 := g1) (g2 := sI g1 136 0 0) (K := [0]) (S := []) ?_ a2 a3 ?_ tF0 (by decide) (by decide) (by omega) (by omega)
      · rw [f_X11_spans, md0_4 hs, gk47 hs, c_isPair h3 hA, hp', bd_eq, ibT, if_neg (nI_pos (by omega)), if_pos (show nI d ≤ 10 from nI_le (b := 10) hd (by decide)), md0_7 hs, md0_4 hs, gk68 hs, gk47 hs, a1, bd_eq, c', em]
      · show f_X12_spans 136 (nI p) (nI d) g1 = _
        rw [f_X12_spans, lg, R_isPair a3.1.t0, inL_I, hp', bd_eq, ibT, w10, kb, bd_eq, ibT, r']
    · refine QA.of (v := -3) (g1 := g) (g2 := sI g 136 0 0) (K := [0]) (S := []) ?_ (Qf.rf h1.1) h ?_ tF0 (by decide) (by decide) (Nat.le_refl _) (by omega)
      · rw [f_X11_spans, md0_4 hs, gk47 hs, c_isPair h3 hA, hp', bd_eq, ibT]
        rcases (show k < 0 ∨ ¬ k < 0 ∧ ¬ k ≤ 10 from out_of (b := 10) (by decide) kn) with y | ⟨y, y'⟩
        · rw [if_pos y]
        · rw [if_neg y, if_neg y']
      · show f_X12_spans 136 v k g = _
        rw [f_X12_spans, lg, R_isPair h1.t0, inL_I, hp', bd_eq, ibT, w10, decide_eq_false (show ¬ (0 ≤ k.toInt ∧ k.toInt ≤ 10) from kn), bd_eq, ibF]
end QSP
