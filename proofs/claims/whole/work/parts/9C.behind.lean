/-! A TRIAL: the steps of a tray, one after another. -/
section TRY3
variable {X : Nat → Prop} {A : Nat → Int32} {F : Nat → Bool} {g g' : G} {p m ag t n : Nat} {f : Nat → Nat} {a0 b0 : Nat}
def tg1 (r : Nat × Nat × Nat) (n : Nat) (s : Nat × Nat) : Option (Nat × Nat) := if r.1 = 0 then (if n % 10 = 1 then some (r.2.1, r.2.2) else none) else (if n % 10 = 1 then none else some s)
def tgo (A : Nat → Int32) (F : Nat → Bool) (p m : Nat) (f : Nat → Nat) (s : Nat × Nat) : Nat → Option (Nat × Nat)
  | 0 => some s
  | k + 1 => match tgo A F p m f s k with
    | none => none
    | some s' => tg1 (stS A F p m 0 s'.1 s'.2 (f k / 10)) (f k) s'
theorem tgo_s {s s' : Nat × Nat} {k : Nat} (h : tgo A F p m f s k = some s') : tgo A F p m f s (k + 1) = tg1 (stS A F p m 0 s'.1 s'.2 (f k / 10)) (f k) s' := by
  rw [tgo, h]
theorem tgo_none {s : Nat × Nat} {k : Nat} (h : tgo A F p m f s k = none) : ∀ j, k ≤ j → tgo A F p m f s j = none
  | 0, hj => by rw [← h, show k = 0 by omega]
  | j + 1, hj => by
    rcases Nat.lt_or_ge j k with z | z
    · rw [show j + 1 = k by omega]
      exact h
    · rw [tgo, tgo_none h j z]
theorem l32 : ∀ n, n < 40 → (lN n).toInt32 = nI n := by decide +kernel
/-- what is told of a trial's end -/
def tgR (o : Option (Nat × Nat)) : Int32 := match o with
  | none => -1
  | some s => nI (64 * s.1 + s.2)
theorem c_be11 (hE : EV X A p) (ht : t < 4) (hn : n ≤ 12) : ∀ fu k g a b, SP X A F p m ag g → gI g (128 + 2 * t) 0 = nI n → (∀ k, k < n → f k / 10 ≤ 3 ∧ f k % 10 ≤ 1 ∧ gL g (129 + 2 * t) k = lN (f k)) → (tgo A F p m f (a0, b0)) k = some (a, b) → a < cS A → b < cS A → k ≤ n → n < fu + k → ∃ g', f_X9_behind_11 fu 68 (128 + 2 * t) (nI (64 * a + b)) (nI k) g = some (tgR ((tgo A F p m f (a0, b0)) n), g') ∧ Fi [69, 71, 72, 75] g g' ∧ SP X A F p m ag g' := by
  have cl := cS_le hE.2.1
  intro fu
  induction fu with
  | zero => intro k g a b _ _ _ _ _ _ _ h; omega
  | succ fu ih =>
    intro k g a b h h0 hf hk ha hb hkn hfu
    have hs := h.1.1
    rw [f_X9_behind_11, h0]
    rcases Nat.lt_or_ge k n with z | z
    · obtain ⟨f1, f2, f3⟩ := hf k z
      obtain ⟨g1, e1, e2, e3⟩ := c_step h hE (t := 0) (w := f k / 10) (by decide) ha hb (by omega)
      have e1' : f_X9_step 68 (nI (64 * a + b)) 0 (nI (f k / 10)) g = some (rC 0 (stS A F p m 0 a b (f k / 10)), g1) := e1
      have ts := tgo_s hk
      dsimp only at ts
      have no : ∀ q, 128 ≤ q → q ∉ [69, 71, 72, 75] := fun q hq u => by
        simp at u
        omega
      have h0' : gI g1 (128 + 2 * t) 0 = nI n := by
        rw [e2.I (no _ (by omega))]
        exact h0
      have hf' : ∀ k, k < n → f k / 10 ≤ 3 ∧ f k % 10 ≤ 1 ∧ gL g1 (129 + 2 * t) k = lN (f k) := fun j hj => by
        rw [e2.L (no _ (by omega))]
        exact hf j hj
      rw [if_neg (nI_ge z (by omega)), c_at hs ht (by omega), bd_eq, f3, l32 _ (by omega), li, ldi10 (by omega), e1', bd_eq, f_X9_behind_53, f_X9_behind_53, ldi10 (by omega), lmo10]
      have c1 : (nI (f k % 10) = (1 : Int32)) ↔ f k % 10 = 1 := nI_eq (b := 1) (by omega) (by decide)
      by_cases r0 : (stS A F p m 0 a b (f k / 10)).1 = 0
      · obtain ⟨s1, s2, -⟩ := stS_ok hE.2.1 ha hb r0
        unfold tg1 at ts
        rw [if_pos r0] at ts
        have rv : rC 0 (stS A F p m 0 a b (f k / 10)) = nI (64 * (stS A F p m 0 a b (f k / 10)).2.1 + (stS A F p m 0 a b (f k / 10)).2.2) := by
          unfold rC
          rw [if_pos r0, if_pos rfl]
        rw [rv, if_neg (nI_pos (by omega))]
        by_cases x : f k % 10 = 1
        · rw [if_pos x] at ts
          rw [if_pos (c1.mpr x), f_X9_behind_71, if_pos rfl, if_neg (by decide), f_X9_behind_88, lad1]
          obtain ⟨g2, d1, d2, d3⟩ := ih (k + 1) g1 _ _ e3 h0' hf' ts s1 s2 z (by omega)
          exact ⟨g2, d1, e2.tr d2, d3⟩
        · rw [if_neg x] at ts
          rw [if_neg (fun u => x (c1.mp u)), f_X9_behind_71, if_neg (by decide), tgo_none ts n z]
          exact ⟨g1, rfl, e2, e3⟩
      · have w := stS_why (A := A) (F := F) (p := p) (m := m) (t := 0) (a := a) (b := b) (w := f k / 10)
        unfold tg1 at ts
        rw [if_neg r0] at ts
        have rn : rC 0 (stS A F p m 0 a b (f k / 10)) < 0 := by
          unfold rC
          rw [if_neg r0]
          obtain u | u | u : (stS A F p m 0 a b (f k / 10)).1 = 2 ∨ (stS A F p m 0 a b (f k / 10)).1 = 3 ∨ (stS A F p m 0 a b (f k / 10)).1 = 4 := by omega
          · rw [u]
            decide
          · rw [u]
            decide
          · rw [u]
            decide
        rw [if_pos rn]
        by_cases x : f k % 10 = 1
        · rw [if_pos x] at ts
          rw [if_pos (c1.mpr x), f_X9_behind_71, if_neg (by decide), tgo_none ts n z]
          exact ⟨g1, rfl, e2, e3⟩
        · rw [if_neg x] at ts
          rw [if_neg (fun u => x (c1.mp u)), f_X9_behind_71, if_pos rfl, if_pos rfl, f_X9_behind_88, lad1]
          obtain ⟨g2, d1, d2, d3⟩ := ih (k + 1) g1 _ _ e3 h0' hf' ts ha hb z (by omega)
          exact ⟨g2, d1, e2.tr d2, d3⟩
    · have e : k = n := by omega
      subst e
      rw [if_pos (nI_le z (by omega)), hk]
      exact ⟨g, rfl, Fi.rf, h⟩
end TRY3
