/-! QUERIES answered alike: round. -/
section QRO
variable {X : Nat → Prop} {A : Nat → Int32} {g g' : G} {p ag n : Nat}
def rdB (A : Nat → Int32) (p a c : Nat) : Bool := fre A p c && decide (apS (nv A 2) a c = sp A p)
theorem r_ro32 (h : RS A g) (hp : p < nv A 3) {a : Nat} (ha : a < cS A) : ∀ fu k (m : Int64), (∀ c, c < 64 → bt m c = (decide (c < k) && rdB A p a c)) → k ≤ cS A → cS A < fu + k → ∃ m', f_X12_round_32 fu 136 (nI p) (nI a) m (nI k) g = some (m', g) ∧ ∀ c, c < 64 → bt m' c = (decide (c < cS A) && rdB A p a c) := by
  have cl := h.cl
  have k3 := h.k3
  intro fu
  induction fu with
  | zero => intro k m _ _ h; omega
  | succ fu ih =>
    intro k m hm hk hf
    rw [f_X12_round_32, R_cells h, bd_eq]
    rcases Nat.lt_or_ge k (cS A) with z | z
    · have skip : rdB A p a k = false → ∃ m', f_X12_round_78 (f_X12_round_32 fu) 136 (nI p) (nI a) (nI k) m g = some (m', g) ∧ ∀ c, c < 64 → bt m' c = (decide (c < cS A) && rdB A p a c) := fun u => by
        rw [f_X12_round_78, f_X12_round_79, ll, lad1]
        refine ih (k + 1) _ (fun c hc => ?_) (by omega) (by omega)
        rw [bt_or, bt_0, Bool.or_false]
        exact adv1 u hm c hc
      rw [if_neg (nI_ge z (by omega)), R_isFree h (by omega) (by omega), bd_eq]
      cases hfr : fre A p k with
      | false =>
        rw [ibF]
        exact skip (by unfold rdB; rw [hfr, Bool.false_and])
      | true =>
        have al : apS (nv A 2) a k ≤ 80 := by
          have := apS_10 h.2.2.1 ha z
          omega
        have sl := sp_10 h.2.2.1 h.2.2.2.1 hp
        rw [ibT, R_apart h (by omega) (by omega), bd_eq, md136_1 h.1, gk137 h.1, sn137 h.1, show (94 : Int32) = nI 94 from rfl, nI_add, gdI_nI (by omega) (by decide), nI_clamp (by omega), h.span hp]
        by_cases w : apS (nv A 2) a k = sp A p
        · rw [if_pos (by rw [w]), f_X12_round_79, ll, lad1]
          exact ih (k + 1) _ (adv2 (by omega) (by unfold rdB; rw [hfr, decide_eq_true w]; rfl) hm) (by omega) (by omega)
        · rw [if_neg (fun u => w ((nI_eq (by omega) (by omega)).mp u))]
          exact skip (by unfold rdB; rw [decide_eq_false w, Bool.and_false])
    · have e : k = cS A := by omega
      subst e
      rw [if_pos (nI_le z (by omega))]
      exact ⟨m, rfl, hm⟩
theorem QS.aim (h : QS X A ag g) (hp : p < nv A 3) (hag : ag + 1 < 2 ^ 30) : ∃ g', f_X9_aim 68 47 (nI p) g = some ((), g') ∧ Qf g g' ∧ QS X A (ag + 1) g' ∧ SP X A (fre A p) p (md A p) (ag + 1) g' := by
  obtain ⟨h1, h2, h3, h4, h5⟩ := id h
  have hE : EV X A p := ⟨h2, h1.2.2.1, h1.2.2.2.1, h1.2.2.2.2, hp⟩
  obtain ⟨g1, a1, a2, a3, a4⟩ := c_aim h3 hE h1.1 h4 hag (by decide)
  refine ⟨g1, a1, Qf.fq a2 a3.1.1 (by decide), ⟨⟨a3.1.1, (a2.I (by decide)).trans h1.2.1, h1.2.2⟩, h2, h3.fa a2.a (h2.no (by decide)) (by decide), a4, ?_⟩, a3⟩
  unfold Ca
  rw [a2.I (by decide)]
  refine h5.imp id (fun ⟨p, n, q, pa, la, dp, a, b, c⟩ => ⟨p, n, q, pa, la, dp, a, b, c.cg (fun a ha => a2.I ?_)⟩)
  have t : CL.all (fun a => decide (a ∉ [68, 69, 70])) = true := by decide
  exact of_decide_eq_true (List.all_eq_true.mp t a ha)
theorem q_round (h : QS X A ag g) (hag : ag + 2 < 2 ^ 30) (v w : Int32) : QA X A ag g (f_X11_round 0 v w g) (fun g => f_X12_round 136 v w g) := by
  obtain ⟨h1, h2, h3, h4, h5⟩ := id h; have hA := h1.2.2.1; have hBd := h1.2.2.2.1; have k3 := h1.k3; have cl := h1.cl; have hs := h1.1
  obtain ⟨pl, pl1, pl2⟩ := h3.2.1
  cases hp' : inR v (nv A 3) with
  | false =>
    refine QA.of (v := -2) (g1 := g) (g2 := sI g 136 0 0) (K := [0]) (S := []) ?_ (Qf.rf h1.1) h ?_ tF0 (by decide) (by decide) (Nat.le_refl _) (by omega)
    · rw [f_X11_round, md0_4 hs, gk47 hs, c_isPair h3 hA, hp', bd_eq, ibF, f_X11_round_25]
    · show f_X12_round 136 v w g = _
      rw [f_X12_round, lg, R_isPair h1.t0, inL_I, hp', bd_eq, ibF, f_X12_round_23]
  | true =>
    cases hc' : inR w (cS A) with
    | false =>
      refine QA.of (v := -2) (g1 := g) (g2 := sI g 136 0 0) (K := [0]) (S := []) ?_ (Qf.rf h1.1) h ?_ tF0 (by decide) (by decide) (Nat.le_refl _) (by omega)
      · rw [f_X11_round, md0_4 hs, gk47 hs, c_isPair h3 hA, hp', bd_eq, ibT, md0_4 hs, gk47 hs, pl1, dr_eq, gdK_pos pl2.2.1, c_isCell pl2 hA, hc', bd_eq, ibF, f_X11_round_25]
      · show f_X12_round 136 v w g = _
        rw [f_X12_round, lg, R_isPair h1.t0, inL_I, hp', bd_eq, ibT, R_isCell h1.t0, inL_I, hc', bd_eq, ibF, f_X12_round_23]
    | true =>
      obtain ⟨p, hp, rfl⟩ := pr_t hA hp'
      obtain ⟨c, hc, rfl⟩ := ce_t hA hc'
      obtain ⟨g1, a1, a2, a3, a4⟩ := h.aim hp (by omega)
      have hs1 := a3.1.1
      have s10 := sp_10 hA hBd hp
      obtain ⟨m', r1, r2⟩ := r_ro32 a3.1.t0 hp hc FU 0 0 (fun c hc => by rw [bt_0]; rfl) (Nat.zero_le _) (by have := @FU_gt (cS A) (by omega); omega)
      have r1' : f_X12_round_32 FU 136 (nI p) (nI c) 0 0 (sI g1 136 0 0) = some (m', sI g1 136 0 0) := r1
      have em : gL g1 68 0 &&& gL g1 70 (sp A p * 36 + c) = m' := bt_ext (fun d hd => by
        rw [bt_and, a4.1.2.2.1 d hd, a4.1.2.2.2.2.2.2 _ _ _ s10 (by omega) hd, r2 d hd]
        unfold rdB
        rw [Bool.eq_iff_iff, Bool.and_eq_true, Bool.and_eq_true, Bool.and_eq_true, Bool.and_eq_true, decide_eq_true_eq, decide_eq_true_eq, decide_eq_true_eq]
        exact ⟨fun ⟨⟨x, y⟩, z⟩ => ⟨x, y, z.2.2⟩, fun ⟨x, y, z⟩ => ⟨⟨x, y⟩, hc, x, z⟩⟩)
      refine QA.of (v := m') (g1 := g1) (g2 := sI g1 136 0 0) (K := [0]) (S := []) ?_ a2 a3 ?_ tF0 (by decide) (by decide) (by omega) (by omega)
      · rw [f_X11_round, md0_4 hs, gk47 hs, c_isPair h3 hA, hp', bd_eq, ibT, md0_4 hs, gk47 hs, pl1, dr_eq, gdK_pos pl2.2.1, c_isCell pl2 hA, hc', bd_eq, ibT, md0_7 hs, md0_4 hs, gk68 hs, gk47 hs, a1, bd_eq, md0_7 hs1, gk68 hs1, md0_4 hs1, gk47 hs1, md47_3 hs1, gk49 hs1, sn49 hs1, gdI_nI (by omega) (by decide), nI_clamp (by omega), show gI g1 49 p = nI (sp A p) from a3.2.2.1.2.2.2.2.1 p hp, c_ring hs1 s10 (by omega), bd_eq, em]
      · show f_X12_round 136 (nI p) (nI c) g1 = _
        rw [f_X12_round, lg, R_isPair a3.1.t0, inL_I, hp', bd_eq, ibT, R_isCell a3.1.t0, inL_I, hc', bd_eq, ibT, r1']
end QRO
