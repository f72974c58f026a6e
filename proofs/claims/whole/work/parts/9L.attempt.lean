/-! ATTEMPT: in which direction the tries part best; the class. -/
section ATM
variable {X : Nat → Prop} {A : Nat → Int32} {g g' : G} {p t n ag : Nat} {f : Nat → Nat}
def lsI (a b : Int32) : Int32 := if b < a then b else a
def couO (A : Nat → Int32) (p w : Nat) (o : Option (Nat × Nat)) : Bool := match o with
  | none => false
  | some s => decide ((stS A (fre A p) p (md A p) 0 s.1 s.2 w).1 = 0)
/-- a cell from which one could step that way behind what was tried -/
def cou (A : Nat → Int32) (p : Nat) (f : Nat → Nat) (n w c : Nat) : Bool := decide (c < cS A) && (rdB A p (tw A (2 * p)) c && couO A p w (tgo A (fre A p) p (md A p) f (tw A (2 * p), c) n))
theorem cou_no {w c : Nat} (h : (decide (c < cS A) && (fun c => rdB A p (tw A (2 * p)) c && (tgo A (fre A p) p (md A p) f (tw A (2 * p), c) n).isSome) c) = false) : (cou A p f n w) c = false := by
  unfold cou
  dsimp only at h
  cases h1 : decide (c < cS A) with
  | false => rfl
  | true =>
    cases h2 : rdB A p (tw A (2 * p)) c with
    | false => rfl
    | true =>
      rw [h1, h2] at h
      cases h3 : tgo A (fre A p) p (md A p) f (tw A (2 * p), c) n with
      | none => rfl
      | some s =>
        rw [h3] at h
        cases h
theorem cou_so {w c : Nat} {s : Nat × Nat} (h1 : c < cS A) (h2 : rdB A p (tw A (2 * p)) c = true) (h3 : tgo A (fre A p) p (md A p) f (tw A (2 * p), c) n = some s) : (cou A p f n w) c = decide ((stS A (fre A p) p (md A p) 0 s.1 s.2 w).1 = 0) := by
  unfold cou
  rw [decide_eq_true h1, h2, h3]
  rfl
/-- the first direction whose lesser part is greatest -/
def aP (f : Nat → Nat) (tot : Int32) : Nat → Int32 × Int32
  | 0 => (-1, -1)
  | k + 1 => if lsI (nI (f k)) (tot - nI (f k)) ≤ (aP f tot k).2 then aP f tot k else (nI k, lsI (nI (f k)) (tot - nI (f k)))
theorem rC_neg {F : Nat → Bool} {m a b w : Nat} (hA : Dm A) (ha : a < cS A) (hb : b < cS A) : (rC 0 (stS A F p m 0 a b w) < 0) ↔ ¬ (stS A F p m 0 a b w).1 = 0 := by
  have cl := cS_le hA
  have w1 := stS_why (A := A) (F := F) (p := p) (m := m) (t := 0) (a := a) (b := b) (w := w)
  by_cases r0 : (stS A F p m 0 a b w).1 = 0
  · obtain ⟨s1, s2, -⟩ := stS_ok hA ha hb r0
    have rv : rC 0 (stS A F p m 0 a b w) = nI (64 * (stS A F p m 0 a b w).2.1 + (stS A F p m 0 a b w).2.2) := by
      unfold rC
      rw [if_pos r0, if_pos rfl]
    rw [rv]
    exact ⟨fun u => absurd u (nI_pos (by omega)), fun u => absurd r0 u⟩
  · refine ⟨fun _ => r0, fun _ => ?_⟩
    unfold rC
    rw [if_neg r0]
    obtain u | u | u : (stS A F p m 0 a b w).1 = 2 ∨ (stS A F p m 0 a b w).1 = 3 ∨ (stS A F p m 0 a b w).1 = 4 := by omega
    · rw [u]
      decide
    · rw [u]
      decide
    · rw [u]
      decide
theorem c_at64 (hE : EV X A p) (ht : t < 4) (hn : n ≤ 12) {T : Int64} (hT : ∀ c, c < 64 → bt T c = (decide (c < cS A) && (fun c => rdB A p (tw A (2 * p)) c && (tgo A (fre A p) p (md A p) f (tw A (2 * p), c) n).isSome) c)) {K : Nat → Int32 → Int64 → Int32 → Int32 → Int32 → Int32 → Int32 → G → Option (Int32 × G)} {w : Nat} (hw : w < 4) (tot ch mo : Int32) : ∀ fu k g, SP X A (fre A p) p (md A p) ag g → gI g (128 + 2 * t) 0 = nI n → (∀ k, k < n → f k / 10 ≤ 3 ∧ f k % 10 ≤ 1 ∧ gL g (129 + 2 * t) k = lN (f k)) → k ≤ 36 → 36 < fu + k → ∃ g', f_X11_attempt_64 K fu 0 (nI t) T (nI (64 * tw A (2 * p) + tw A (2 * p + 1))) tot ch mo (nI w) (nI (cntB (cou A p f n w) k)) (nI k) g = K 0 (nI t) T (nI (64 * tw A (2 * p) + tw A (2 * p + 1))) tot (if (lsI (nI (cntB (cou A p f n w) 36)) (tot - nI (cntB (cou A p f n w) 36))) ≤ mo then ch else nI w) (if (lsI (nI (cntB (cou A p f n w) 36)) (tot - nI (cntB (cou A p f n w) 36))) ≤ mo then mo else (lsI (nI (cntB (cou A p f n w) 36)) (tot - nI (cntB (cou A p f n w) 36)))) (nI (w + 1)) g' ∧ Fi [69, 71, 72, 75] g g' ∧ SP X A (fre A p) p (md A p) ag g' := by
  have cl := cS_le hE.2.1
  have ta := (hE.2.2.1.t (i := 2 * p) (by have := hE.2.2.2.2; omega)).2.1
  have tb := (hE.2.2.1.t (i := 2 * p + 1) (by have := hE.2.2.2.2; omega)).2.1
  obtain ⟨k1, k2⟩ := @pk_pack (tw A (2 * p)) (tw A (2 * p + 1)) (by omega)
  have no : ∀ q, 128 ≤ q → q ∉ [69, 71, 72, 75] := fun q hq u => by
    simp at u
    omega
  intro fu
  induction fu with
  | zero => intro k g _ _ _ _ h; omega
  | succ fu ih =>
    intro k g h h0 hf hk hfu
    have hs := h.1.1
    have ce : cntB (cou A p f n w) (k + 1) = cntB (cou A p f n w) k + (if (cou A p f n w) k = true then 1 else 0) := rfl
    rw [f_X11_attempt_64]
    rcases Nat.lt_or_ge k 36 with z | z
    · have skip : ∀ g1, Fi [69, 71, 72, 75] g g1 → SP X A (fre A p) p (md A p) ag g1 → (cou A p f n w) k = false → ∃ g', f_X11_attempt_64 K fu 0 (nI t) T (nI (64 * tw A (2 * p) + tw A (2 * p + 1))) tot ch mo (nI w) (nI (cntB (cou A p f n w) k)) (nI (k + 1)) g1 = K 0 (nI t) T (nI (64 * tw A (2 * p) + tw A (2 * p + 1))) tot (if (lsI (nI (cntB (cou A p f n w) 36)) (tot - nI (cntB (cou A p f n w) 36))) ≤ mo then ch else nI w) (if (lsI (nI (cntB (cou A p f n w) 36)) (tot - nI (cntB (cou A p f n w) 36))) ≤ mo then mo else (lsI (nI (cntB (cou A p f n w) 36)) (tot - nI (cntB (cou A p f n w) 36)))) (nI (w + 1)) g' ∧ Fi [69, 71, 72, 75] g g' ∧ SP X A (fre A p) p (md A p) ag g' := fun g1 x h1 u => by
        obtain ⟨g2, d1, d2, d3⟩ := ih (k + 1) g1 h1 (by rw [x.I (no _ (by omega))]; exact h0) (fun j hj => by rw [x.L (no _ (by omega))]; exact hf j hj) (by omega) (by omega)
        rw [ce, u, if_neg (by decide), Nat.add_zero] at d1
        exact ⟨g2, d1, x.tr d2, d3⟩
      rw [if_neg (lnge36 z), ibt (by omega)]
      by_cases bk : bt T k = true
      · have hb := hT k (by omega)
        rw [bk] at hb
        have hb' := hb.symm
        dsimp only at hb'
        rw [Bool.and_eq_true, Bool.and_eq_true, decide_eq_true_eq] at hb'
        obtain ⟨hk', hr, hso⟩ := hb'
        obtain ⟨s, hs'⟩ := Option.isSome_iff_exists.mp hso
        obtain ⟨l1, l2⟩ := tgo_lt hE.2.1 (s := (tw A (2 * p), k)) ta hk' n s hs'
        have hc := cou_so (w := w) hk' hr hs'
        obtain ⟨g1, e1, e2, e3⟩ := c_be11 (a0 := tw A (2 * p)) (b0 := k) (f := f) hE ht hn FU 0 g (tw A (2 * p)) k h h0 hf rfl ta hk' (Nat.zero_le _) (by have := @FU_gt n (by omega); omega)
        rw [hs'] at e1
        have e1' : f_X9_behind_11 FU 68 (128 + 2 * t) (nI (64 * tw A (2 * p) + k)) 0 g = some (nI (64 * s.1 + s.2), g1) := e1
        have hs1 := e3.1.1
        obtain ⟨g2, b1, b2, b3⟩ := c_step e3 hE (t := 0) (w := w) (by decide) l1 l2 hw
        have b1' : f_X9_step 68 (nI (64 * s.1 + s.2)) 0 (nI w) g1 = some (rC 0 (stS A (fre A p) p (md A p) 0 s.1 s.2 w), g2) := b1
        rw [if_pos bk, md0_7 hs, md0_16 hs, gk40 hs, sn40 hs, gdI_nI ht (by decide), nI_clamp (by omega), tr_dr hs ht, gk68 hs, tr_gk hs ht, f_X9_behind, ldi64 (by omega), k1, lmu64, nI_add, li, Nat.mul_comm (tw A (2 * p)) 64, e1', bd_eq, if_neg (nI_pos (by omega)), md0_7 hs1, gk68 hs1, b1', bd_eq]
        have rn := rC_neg (F := fre A p) (m := md A p) (p := p) (w := w) hE.2.1 l1 l2
        by_cases r0 : (stS A (fre A p) p (md A p) 0 s.1 s.2 w).1 = 0
        · rw [decide_eq_true r0] at hc
          rw [if_neg (fun u => rn.mp u r0), f_X11_attempt_132, show (1 : Int32) = nI 1 from rfl, nI_add, li, f_X11_attempt_135, lad1]
          obtain ⟨g3, d1, d2, d3⟩ := ih (k + 1) g2 b3 (by rw [b2.I (no _ (by omega)), e2.I (no _ (by omega))]; exact h0) (fun j hj => by rw [b2.L (no _ (by omega)), e2.L (no _ (by omega))]; exact hf j hj) (by omega) (by omega)
          rw [ce, hc, if_pos rfl] at d1
          exact ⟨g3, d1, (e2.tr b2).tr d2, d3⟩
        · rw [decide_eq_false r0] at hc
          rw [if_pos (rn.mpr r0), f_X11_attempt_131, f_X11_attempt_132, show (0 : Int32) = nI 0 from rfl, nI_add, Nat.add_zero, li, f_X11_attempt_135, lad1]
          exact skip g2 (e2.tr b2) b3 hc
      · rw [if_neg bk, f_X11_attempt_135, lad1]
        exact skip g Fi.rf h (cou_no (by rw [← hT k (by omega)]; exact Bool.eq_false_iff.mpr bk))
    · have e : k = 36 := by omega
      subst e
      have mi : f_J9_min_7cf53 (nI (cntB (cou A p f n w) 36)) (tot - nI (cntB (cou A p f n w) 36)) g = some ((lsI (nI (cntB (cou A p f n w) 36)) (tot - nI (cntB (cou A p f n w) 36))), g) := by
        rw [f_J9_min_7cf53]
        unfold lsI
        split <;> rfl
      rw [if_pos (lle36 (by decide) (by decide)), mi, bd_eq, f_X11_attempt_168, f_X11_attempt_168, lad1]
      by_cases u : (lsI (nI (cntB (cou A p f n w) 36)) (tot - nI (cntB (cou A p f n w) 36))) ≤ mo
      · rw [if_pos u, if_pos u, if_pos u]
        exact ⟨g, rfl, Fi.rf, h⟩
      · rw [if_neg u, if_neg u, if_neg u]
        exact ⟨g, rfl, Fi.rf, h⟩
theorem c_at47 (hE : EV X A p) (ht : t < 4) (hn : n ≤ 12) {T : Int64} (hT : ∀ c, c < 64 → bt T c = (decide (c < cS A) && (fun c => rdB A p (tw A (2 * p)) c && (tgo A (fre A p) p (md A p) f (tw A (2 * p), c) n).isSome) c)) {tot : Int32} (h0t : ¬ tot ≤ 0) : ∀ fu w g, SP X A (fre A p) p (md A p) ag g → gI g (128 + 2 * t) 0 = nI n → (∀ k, k < n → f k / 10 ≤ 3 ∧ f k % 10 ≤ 1 ∧ gL g (129 + 2 * t) k = lN (f k)) → w ≤ 4 → 4 < fu + w → ∃ g', f_X11_attempt_47 fu 0 (nI t) T (nI (64 * tw A (2 * p) + tw A (2 * p + 1))) tot (aP (fun w => cntB (cou A p f n w) 36) tot w).1 (aP (fun w => cntB (cou A p f n w) 36) tot w).2 (nI w) g = some ((aP (fun w => cntB (cou A p f n w) 36) tot 4).1, g') ∧ Fi [69, 71, 72, 75] g g' ∧ SP X A (fre A p) p (md A p) ag g' := by
  have no : ∀ q, 128 ≤ q → q ∉ [69, 71, 72, 75] := fun q hq u => by
    simp at u
    omega
  intro fu
  induction fu with
  | zero => intro w g _ _ _ _ h; omega
  | succ fu ih =>
    intro w g h h0 hf hw hfu
    rw [f_X11_attempt_47]
    rcases Nat.lt_or_ge w 4 with z | z
    · rw [if_neg (lnge4 z), if_neg h0t]
      obtain ⟨g1, e1, e2, e3⟩ := c_at64 (f := f) (K := f_X11_attempt_47 fu) hE ht hn hT z tot (aP (fun w => cntB (cou A p f n w) 36) tot w).1 (aP (fun w => cntB (cou A p f n w) 36) tot w).2 FU 0 g h h0 hf (by decide) (by have := @FU_gt 36 (by decide); omega)
      have e1' : f_X11_attempt_64 (f_X11_attempt_47 fu) FU 0 (nI t) T (nI (64 * tw A (2 * p) + tw A (2 * p + 1))) tot (aP (fun w => cntB (cou A p f n w) 36) tot w).1 (aP (fun w => cntB (cou A p f n w) 36) tot w).2 (nI w) 0 0 g = _ := e1
      obtain ⟨g2, d1, d2, d3⟩ := ih (w + 1) g1 e3 (by rw [e2.I (no _ (by omega))]; exact h0) (fun j hj => by rw [e2.L (no _ (by omega))]; exact hf j hj) z (by omega)
      rw [e1']
      refine ⟨g2, ?_, e2.tr d2, d3⟩
      rw [← d1]
      have st : aP (fun w => cntB (cou A p f n w) 36) tot (w + 1) = if (lsI (nI (cntB (cou A p f n w) 36)) (tot - nI (cntB (cou A p f n w) 36))) ≤ (aP (fun w => cntB (cou A p f n w) 36) tot w).2 then aP (fun w => cntB (cou A p f n w) 36) tot w else (nI w, (lsI (nI (cntB (cou A p f n w) 36)) (tot - nI (cntB (cou A p f n w) 36)))) := rfl
      rw [st]
      by_cases u : (lsI (nI (cntB (cou A p f n w) 36)) (tot - nI (cntB (cou A p f n w) 36))) ≤ (aP (fun w => cntB (cou A p f n w) 36) tot w).2
      · rw [if_pos u, if_pos u, if_pos u]
      · rw [if_neg u, if_neg u, if_neg u]
    · have e : w = 4 := by omega
      subst e
      rw [if_pos (lle4 (by decide) (by decide))]
      exact ⟨g, rfl, Fi.rf, h⟩
end ATM
