/-! TRIED cells: class and reference. -/
section TRY5
variable {X : Nat → Prop} {A : Nat → Int32} {g g' : G} {p t n ag : Nat} {f : Nat → Nat}
theorem tgR_neg {o : Option (Nat × Nat)} (h : ∀ s, o = some s → 64 * s.1 + s.2 < 2 ^ 31) : (tgR o < 0) ↔ o.isSome = false := by
  cases o with
  | none => exact ⟨fun _ => rfl, fun _ => by decide⟩
  | some s => exact ⟨fun u => absurd u (nI_pos (h s rfl)), fun u => by cases u⟩
theorem tgo_lt {F : Nat → Bool} {m : Nat} (hA : Dm A) {s : Nat × Nat} (h1 : s.1 < cS A) (h2 : s.2 < cS A) : ∀ k s', tgo A F p m f s k = some s' → s'.1 < cS A ∧ s'.2 < cS A
  | 0, s', e => by
    have := Option.some.inj e
    rw [← this]
    exact ⟨h1, h2⟩
  | k + 1, s', e => by
    cases hk : tgo A F p m f s k with
    | none =>
      rw [tgo, hk] at e
      cases e
    | some r =>
      obtain ⟨r1, r2⟩ := tgo_lt hA h1 h2 k r hk
      rw [tgo_s hk] at e
      unfold tg1 at e
      split at e
      · next u =>
        obtain ⟨a1, a2, -⟩ := stS_ok hA r1 r2 u
        split at e
        · have := Option.some.inj e
          rw [← this]
          exact ⟨a1, a2⟩
        · cases e
      · split at e
        · cases e
        · have := Option.some.inj e
          rw [← this]
          exact ⟨r1, r2⟩
theorem c_ct57 (hE : EV X A p) (ht : t < 4) (hn : n ≤ 12) {T : Int64} (hT : ∀ c, c < 64 → bt T c = (decide (c < cS A) && rdB A p (tw A (2 * p)) c)) : ∀ fu k (m : Int64) g, SP X A (fre A p) p (md A p) ag g → gI g (128 + 2 * t) 0 = nI n → (∀ k, k < n → f k / 10 ≤ 3 ∧ f k % 10 ≤ 1 ∧ gL g (129 + 2 * t) k = lN (f k)) → (∀ c, c < 64 → bt m c = (decide (c < k) && (bt T c && (tgo A (fre A p) p (md A p) f (tw A (2 * p), c) n).isSome))) → k ≤ 36 → 36 < fu + k → ∃ m' g', f_X11_cellsTried_57 fu 0 (nI t) (nI (64 * tw A (2 * p) + tw A (2 * p + 1))) T m (nI k) g = some (m', g') ∧ Fi [69, 71, 72, 75] g g' ∧ SP X A (fre A p) p (md A p) ag g' ∧ ∀ c, c < 64 → bt m' c = (decide (c < 36) && (bt T c && (tgo A (fre A p) p (md A p) f (tw A (2 * p), c) n).isSome)) := by
  have cl := cS_le hE.2.1
  have ta := (hE.2.2.1.t (i := 2 * p) (by have := hE.2.2.2.2; omega)).2.1
  have tb := (hE.2.2.1.t (i := 2 * p + 1) (by have := hE.2.2.2.2; omega)).2.1
  obtain ⟨k1, k2⟩ := @pk_pack (tw A (2 * p)) (tw A (2 * p + 1)) (by omega)
  intro fu
  induction fu with
  | zero => intro k m g _ _ _ _ _ h; omega
  | succ fu ih =>
    intro k m g h h0 hf hm hk hfu
    have hs := h.1.1
    rw [f_X11_cellsTried_57]
    rcases Nat.lt_or_ge k 36 with z | z
    · rw [if_neg (lnge36 z), ibt (by omega)]
      by_cases bk : bt T k = true
      · have hk' : k < cS A := by
          have := hT k (by omega)
          rw [bk] at this
          have := this.symm
          rw [Bool.and_eq_true, decide_eq_true_eq] at this
          exact this.1
        obtain ⟨g1, e1, e2, e3⟩ := c_be11 (a0 := tw A (2 * p)) (b0 := k) (f := f) hE ht hn FU 0 g (tw A (2 * p)) k h h0 hf rfl ta hk' (Nat.zero_le _) (by have := @FU_gt n (by omega); omega)
        have e1' : f_X9_behind_11 FU 68 (128 + 2 * t) (nI (64 * tw A (2 * p) + k)) 0 g = _ := e1
        have no : ∀ q, 128 ≤ q → q ∉ [69, 71, 72, 75] := fun q hq u => by
          simp at u
          omega
        have fin : ∀ m', (∀ c, c < 64 → bt m' c = (decide (c < k + 1) && (bt T c && (tgo A (fre A p) p (md A p) f (tw A (2 * p), c) n).isSome))) → ∃ m'' g', f_X11_cellsTried_107 (f_X11_cellsTried_57 fu) 0 (nI t) (nI (64 * tw A (2 * p) + tw A (2 * p + 1))) T m' (nI k) g1 = some (m'', g') ∧ Fi [69, 71, 72, 75] g g' ∧ SP X A (fre A p) p (md A p) ag g' ∧ ∀ c, c < 64 → bt m'' c = (decide (c < 36) && (bt T c && (tgo A (fre A p) p (md A p) f (tw A (2 * p), c) n).isSome)) := fun m' hm' => by
          rw [f_X11_cellsTried_107, lad1]
          obtain ⟨m2, g2, d1, d2, d3, d4⟩ := ih (k + 1) m' g1 e3 (by rw [e2.I (no _ (by omega))]; exact h0) (fun j hj => by rw [e2.L (no _ (by omega))]; exact hf j hj) hm' (by omega) (by omega)
          exact ⟨m2, g2, d1, e2.tr d2, d3, d4⟩
        have tn := tgR_neg (o := tgo A (fre A p) p (md A p) f (tw A (2 * p), k) n) (fun s hs => by
          have := tgo_lt hE.2.1 (s := (tw A (2 * p), k)) ta hk' n s hs
          omega)
        rw [if_pos bk, md0_7 hs, md0_16 hs, gk40 hs, sn40 hs, gdI_nI ht (by decide), nI_clamp (by omega), tr_dr hs ht, gk68 hs, tr_gk hs ht, f_X9_behind, ldi64 (by omega), k1, lmu64, nI_add, li, Nat.mul_comm (tw A (2 * p)) 64, e1', bd_eq]
        cases hso : (tgo A (fre A p) p (md A p) f (tw A (2 * p), k) n).isSome with
        | false =>
          rw [if_pos (tn.mpr hso)]
          exact fin _ (adv1 (P := fun c => bt T c && (tgo A (fre A p) p (md A p) f (tw A (2 * p), c) n).isSome) (by
            show (bt T k && (tgo A (fre A p) p (md A p) f (tw A (2 * p), k) n).isSome) = false
            rw [hso, Bool.and_false]) hm)
        | true =>
          rw [if_neg (fun u => by
            rw [tn.mp u] at hso
            cases hso), ll]
          exact fin _ (adv2 (P := fun c => bt T c && (tgo A (fre A p) p (md A p) f (tw A (2 * p), c) n).isSome) (by omega) (by
            show (bt T k && (tgo A (fre A p) p (md A p) f (tw A (2 * p), k) n).isSome) = true
            rw [hso, bk]
            rfl) hm)
      · rw [if_neg bk, f_X11_cellsTried_107, lad1]
        exact ih (k + 1) m g h h0 hf (adv1 (P := fun c => bt T c && (tgo A (fre A p) p (md A p) f (tw A (2 * p), c) n).isSome) (by
          show (bt T k && (tgo A (fre A p) p (md A p) f (tw A (2 * p), k) n).isSome) = false
          rw [Bool.eq_false_iff.mpr bk, Bool.false_and]) hm) (by omega) (by omega)
    · have e : k = 36 := by omega
      subst e
      rw [if_pos (lle36 (by decide) (by decide))]
      exact ⟨m, g, rfl, Fi.rf, h, hm⟩
end TRY5
