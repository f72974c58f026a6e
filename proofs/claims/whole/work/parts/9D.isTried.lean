/-! A TRIAL: the reference. -/
section TRY4
variable {A : Nat → Int32} {g g' : G} {p t n : Nat} {f : Nat → Nat} {a0 b0 : Nat}
theorem r_it18 (hp : p < nv A 3) (ht : t < 4) (hn : n ≤ 12) : ∀ fu k g a b, RS A g → gI g 153 t = nI n → (∀ k, k < n → f k / 10 ≤ 3 ∧ f k % 10 ≤ 1 ∧ gL g 154 (40 * t + k) = lN (f k)) → (tgo A (fre A p) p (md A p) f (a0, b0)) k = some (a, b) → a < cS A → b < cS A → wl A a = 0 → wl A b = 0 → gI g 136 31 = nI a → gI g 136 32 = nI b → k ≤ n → n < fu + k → ∃ g', f_X12_isTried_18 fu 136 (nI t) (nI p) (nI k) g = some (((tgo A (fre A p) p (md A p) f (a0, b0)) n).isSome, g') ∧ Fm [17, 18, 31, 32] [141, 142] g g' ∧ ∀ s, (tgo A (fre A p) p (md A p) f (a0, b0)) n = some s → gI g' 136 31 = nI s.1 ∧ gI g' 136 32 = nI s.2 := by
  intro fu
  induction fu with
  | zero => intro k g a b _ _ _ _ _ _ _ _ _ _ _ h; omega
  | succ fu ih =>
    intro k g a b h h0 hf hk ha hb wa wb g31 g32 hkn hfu
    have hs := h.1
    have cl := h.cl
    rw [f_X12_isTried_18, md136_34 hs, gk153 hs, sn153 hs, gdI_nI ht (by decide), nI_clamp (show t < 2 ^ 31 by omega), h0]
    rcases Nat.lt_or_ge k n with z | z
    · obtain ⟨f1, f2, f3⟩ := hf k z
      obtain ⟨g1, e1, e2, e3⟩ := r_whyBy h hp (t := 0) (w := f k / 10) (by decide) ha hb (by omega) wa wb
      have e1' : f_X12_whyBy 136 (nI p) 0 (nI a) (nI b) (nI (f k / 10)) g = some (nI (stS A (fre A p) p (md A p) 0 a b (f k / 10)).1, g1) := e1
      have ts := tgo_s hk
      dsimp only at ts
      have hr1 := h.fm e2 (by decide)
      have c1 : (nI (f k % 10) = (1 : Int32)) ↔ f k % 10 = 1 := nI_eq (b := 1) (by omega) (by decide)
      have w := stS_why (A := A) (F := fre A p) (p := p) (m := md A p) (t := 0) (a := a) (b := b) (w := f k / 10)
      rw [if_neg (nI_ge z (by omega)), md136_35 hs, gk154 hs, sn154 hs, lum40, nI_add, gdI_nI (by omega) (by decide), nI_clamp (show 40 * t + k < 2 ^ 31 by omega), f3, l32 _ (by omega), li, ldi10 (by omega), g31, g32, e1', bd_eq, f_X12_isTried_71, f_X12_isTried_71, ldi10 (by omega), lmo10]
      have x1 : Fm [17, 18, 31, 32] [141, 142] g g1 := e2.mono (by decide) (by decide)
      have go : ∀ a' b', a' < cS A → b' < cS A → wl A a' = 0 → wl A b' = 0 → (tgo A (fre A p) p (md A p) f (a0, b0)) (k + 1) = some (a', b') → ∃ g', f_X12_isTried_18 fu 136 (nI t) (nI p) (nI (k + 1)) (sI (sI g1 136 31 (nI a')) 136 32 (nI b')) = some (((tgo A (fre A p) p (md A p) f (a0, b0)) n).isSome, g') ∧ Fm [17, 18, 31, 32] [141, 142] g g' ∧ ∀ s, (tgo A (fre A p) p (md A p) f (a0, b0)) n = some s → gI g' 136 31 = nI s.1 ∧ gI g' 136 32 = nI s.2 := fun a' b' p1 p2 p3 p4 p5 => by
        have x2 : Fm [17, 18, 31, 32] [141, 142] g (sI (sI g1 136 31 (nI a')) 136 32 (nI b')) := (x1.sf (by decide)).sf (by decide)
        obtain ⟨g2, d1, d2, d3⟩ := ih (k + 1) _ a' b' (h.fm x2 (by decide)) (by rw [x2.I (by decide)]; exact h0) (fun j hj => by rw [x2.L (by decide)]; exact hf j hj) p5 p1 p2 p3 p4 (by rw [gI_sIs, pk_un (by decide), gI_sIs, pk_us]) (by rw [gI_sIs, pk_us]) z (by omega)
        exact ⟨g2, d1, x2.tr d2, d3⟩
      by_cases r0 : (stS A (fre A p) p (md A p) 0 a b (f k / 10)).1 = 0
      · obtain ⟨s1, s2, s3, s4, -⟩ := stS_ok h.2.2.1 ha hb r0
        obtain ⟨l1, l2⟩ := e3 r0
        unfold tg1 at ts
        rw [if_pos r0] at ts
        rw [r0, if_pos (show nI 0 = 0 from rfl)]
        by_cases x : f k % 10 = 1
        · rw [if_pos x] at ts
          rw [if_pos (c1.mpr x), f_X12_isTried_89, if_pos rfl, if_neg (by decide), f_X12_isTried_111, lg, if_neg (by decide), f_X12_isTried_131, lg, lad1, l1, gI_sIs, pk_un (by decide), l2]
          exact go _ _ s1 s2 (of_decide_eq_true s3).1 (of_decide_eq_true s4).1 ts
        · rw [if_neg x] at ts
          rw [if_neg (fun u => x (c1.mp u)), f_X12_isTried_89, if_neg (by decide), tgo_none ts n z]
          exact ⟨g1, rfl, x1, fun s u => by cases u⟩
      · unfold tg1 at ts
        rw [if_neg r0] at ts
        rw [if_neg (nI_ne0 (by omega) (by omega))]
        by_cases x : f k % 10 = 1
        · rw [if_pos x] at ts
          rw [if_pos (c1.mpr x), f_X12_isTried_89, if_neg (by decide), tgo_none ts n z]
          exact ⟨g1, rfl, x1, fun s u => by cases u⟩
        · rw [if_neg x] at ts
          have k31 : gI g1 136 31 = nI a := by
            rw [e2.f (by decide)]
            exact g31
          have k32 : gI g1 136 32 = nI b := by
            rw [e2.f (by decide)]
            exact g32
          rw [if_neg (fun u => x (c1.mp u)), f_X12_isTried_89, if_pos rfl, if_pos rfl, f_X12_isTried_111, lg, if_pos rfl, f_X12_isTried_131, lg, lad1, k31, gI_sIs, pk_un (by decide), k32]
          exact go _ _ ha hb wa wb ts
    · have e : k = n := by omega
      subst e
      rw [if_pos (nI_le z (by omega)), hk]
      refine ⟨g, rfl, Fm.rf, fun s u => ?_⟩
      have := Option.some.inj u
      rw [← this]
      exact ⟨g31, g32⟩
theorem r_isTried (h : RS A g) (hp : p < nv A 3) (ht : t < 4) (hn : n ≤ 12) (h0 : gI g 153 t = nI n) (hf : ∀ k, k < n → f k / 10 ≤ 3 ∧ f k % 10 ≤ 1 ∧ gL g 154 (40 * t + k) = lN (f k)) {b : Nat} (hb : b < cS A) (wb : wl A b = 0) : ∃ g', f_X12_isTried 136 (nI t) (nI p) (nI b) g = some ((tgo A (fre A p) p (md A p) f (tw A (2 * p), b) n).isSome, g') ∧ Fm [17, 18, 31, 32] [141, 142] g g' ∧ ∀ s, tgo A (fre A p) p (md A p) f (tw A (2 * p), b) n = some s → gI g' 136 31 = nI s.1 ∧ gI g' 136 32 = nI s.2 := by
  have tt := h.tw (p := p) (t := 0) hp (by decide)
  rw [Nat.add_zero] at tt
  have x2 : Fm [17, 18, 31, 32] [141, 142] g (sI (sI g 136 31 (nI (tw A (2 * p)))) 136 32 (nI b)) := (Fm.rf.sf (by decide)).sf (by decide)
  obtain ⟨g2, d1, d2, d3⟩ := r_it18 (a0 := tw A (2 * p)) (b0 := b) (f := f) hp ht hn FU 0 _ (tw A (2 * p)) b (h.fm x2 (by decide)) (by rw [x2.I (by decide)]; exact h0) (fun j hj => by rw [x2.L (by decide)]; exact hf j hj) rfl tt.1 hb tt.2 wb (by rw [gI_sIs, pk_un (by decide), gI_sIs, pk_us]) (by rw [gI_sIs, pk_us]) (Nat.zero_le _) (by have := @FU_gt n (by omega); omega)
  have d1' : f_X12_isTried_18 FU 136 (nI t) (nI p) 0 (sI (sI g 136 31 (nI (tw A (2 * p)))) 136 32 (nI b)) = _ := d1
  have tw0 : f_X12_twinOf 136 (nI p) 0 g = some (nI (tw A (2 * p)), g) := R_twinOf h hp (t := 0) (by decide)
  rw [f_X12_isTried, tw0, bd_eq, lg, lg, d1']
  exact ⟨g2, rfl, x2.tr d2, d3⟩
end TRY4
