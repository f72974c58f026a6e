/-! TRIED cells: the reference. -/
section TRY6
variable {A : Nat → Int32} {g g' : G} {p t n : Nat} {f : Nat → Nat}
theorem r_isFirst (h : RS A g) (hp : p < nv A 3) {c : Nat} (hc : c < cS A) : f_X12_isFirst 136 (nI p) (nI c) g = some (rdB A p (tw A (2 * p)) c, g) := by
  have cl := h.cl
  have k3 := h.k3
  have ta := (now_lt h hp).1
  have tw0 : f_X12_twinOf 136 (nI p) 0 g = some (nI (tw A (2 * p)), g) := R_twinOf h hp (t := 0) (by decide)
  rw [f_X12_isFirst, R_isFree h (by omega) (by omega), bd_eq]
  unfold rdB
  cases fre A p c with
  | false =>
    rw [ibF]
    rfl
  | true =>
    have al := apS_10 h.2.2.1 ta hc
    have sl := sp_10 h.2.2.1 h.2.2.2.1 hp
    rw [ibT, tw0, bd_eq, R_apart h (by omega) (by omega), bd_eq, md136_1 h.1, gk137 h.1, sn137 h.1, show (94 : Int32) = nI 94 from rfl, nI_add, gdI_nI (by omega) (by decide), nI_clamp (by omega), h.span hp, Bool.true_and]
    by_cases w : apS (nv A 2) (tw A (2 * p)) c = sp A p
    · rw [if_pos (by rw [w]), decide_eq_true w]
    · rw [if_neg (fun u => w ((nI_eq (by omega) (by omega)).mp u)), decide_eq_false w]
theorem r_ts5 (hp : p < nv A 3) (ht : t < 4) (hn : n ≤ 12) : ∀ fu k (m : Int64) g, RS A g → gI g 153 t = nI n → (∀ k, k < n → f k / 10 ≤ 3 ∧ f k % 10 ≤ 1 ∧ gL g 154 (40 * t + k) = lN (f k)) → (∀ c, c < 64 → bt m c = (decide (c < k) && (fun c => rdB A p (tw A (2 * p)) c && (tgo A (fre A p) p (md A p) f (tw A (2 * p), c) n).isSome) c)) → k ≤ cS A → cS A < fu + k → ∃ m' g', f_X12_triedSet_5 fu 136 (nI t) (nI p) m (nI k) g = some (m', g') ∧ Fm [17, 18, 31, 32] [141, 142] g g' ∧ ∀ c, c < 64 → bt m' c = (decide (c < cS A) && (fun c => rdB A p (tw A (2 * p)) c && (tgo A (fre A p) p (md A p) f (tw A (2 * p), c) n).isSome) c) := by
  intro fu
  induction fu with
  | zero => intro k m g _ _ _ _ _ h; omega
  | succ fu ih =>
    intro k m g h h0 hf hm hk hfu
    have cl := h.cl
    rw [f_X12_triedSet_5, R_cells h, bd_eq]
    rcases Nat.lt_or_ge k (cS A) with z | z
    · have skip : ∀ g1, Fm [17, 18, 31, 32] [141, 142] g g1 → (fun c => rdB A p (tw A (2 * p)) c && (tgo A (fre A p) p (md A p) f (tw A (2 * p), c) n).isSome) k = false → ∃ m' g', f_X12_triedSet_43 (f_X12_triedSet_5 fu) 136 (nI t) (nI p) (nI k) m g1 = some (m', g') ∧ Fm [17, 18, 31, 32] [141, 142] g g' ∧ ∀ c, c < 64 → bt m' c = (decide (c < cS A) && (fun c => rdB A p (tw A (2 * p)) c && (tgo A (fre A p) p (md A p) f (tw A (2 * p), c) n).isSome) c) := fun g1 x u => by
        rw [f_X12_triedSet_43, f_X12_triedSet_44, ll, lad1]
        obtain ⟨m2, g2, d1, d2, d3⟩ := ih (k + 1) (m ||| 0) g1 (h.fm x (by decide)) (by rw [x.I (by decide)]; exact h0) (fun j hj => by rw [x.L (by decide)]; exact hf j hj) (fun c hc => by
          rw [bt_or, bt_0, Bool.or_false]
          exact adv1 u hm c hc) (by omega) (by omega)
        exact ⟨m2, g2, d1, x.tr d2, d3⟩
      rw [if_neg (nI_ge z (by omega)), r_isFirst h hp z, bd_eq]
      cases hr : rdB A p (tw A (2 * p)) k with
      | false =>
        rw [ibF]
        exact skip g Fm.rf (by dsimp only; rw [hr, Bool.false_and])
      | true =>
        have wb : wl A k = 0 := by
          unfold rdB at hr
          rw [Bool.and_eq_true] at hr
          exact (of_decide_eq_true hr.1).1
        obtain ⟨g1, e1, e2, -⟩ := r_isTried h hp ht hn h0 hf z wb
        rw [ibT, e1, bd_eq]
        cases hso : (tgo A (fre A p) p (md A p) f (tw A (2 * p), k) n).isSome with
        | false =>
          rw [ibF]
          exact skip g1 e2 (by dsimp only; rw [hso, Bool.and_false])
        | true =>
          rw [ibT, f_X12_triedSet_44, ll, lad1]
          obtain ⟨m2, g2, d1, d2, d3⟩ := ih (k + 1) _ g1 (h.fm e2 (by decide)) (by rw [e2.I (by decide)]; exact h0) (fun j hj => by rw [e2.L (by decide)]; exact hf j hj) (adv2 (P := (fun c => rdB A p (tw A (2 * p)) c && (tgo A (fre A p) p (md A p) f (tw A (2 * p), c) n).isSome)) (by omega) (by rw [hr, hso]; rfl) hm) (by omega) (by omega)
          exact ⟨m2, g2, d1, e2.tr d2, d3⟩
    · have e : k = cS A := by omega
      subst e
      rw [if_pos (nI_le z (by omega))]
      exact ⟨m, g, rfl, Fm.rf, hm⟩
end TRY6
