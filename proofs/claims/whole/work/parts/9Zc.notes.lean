/-! THE REFERENCE keeps, takes back, notes. -/
section NTS
variable {X : Nat → Prop} {A A' : Nat → Int32} {g g' : G} {b p : Nat}
/-- the same board on the same plan -/
def Wq (A A' : Nat → Int32) : Prop := ∀ j, j < 103 ∨ (614 ≤ j ∧ j < 1515) → A' j = A j
theorem Wq.rf : Wq A A := fun _ _ => rfl
theorem Wq.pl (h : Wq A A') : Pl A A' := fun k hk => h k (by omega)
theorem Wq.n (h : Wq A A') {k : Nat} (hk : k < 103) : nv A' k = nv A k := by
  unfold nv
  rw [h k (Or.inl hk)]
theorem Wq.spp (h : Wq A A') (hp : p < 3) : sp A' p = sp A p := by
  unfold sp tw
  rw [h.n (by omega), h.n (by omega), h.n (by omega)]
theorem WF.cg (h : WF A) (e : Wq A A') : WF A' := by
  obtain ⟨hA, hB, hL, hE⟩ := h
  have cl := cS_le hA
  have k3 := hA.2.2.2.2.2.2.2
  have P := e.pl
  have n3 : nv A' 3 = nv A 3 := e.n (by omega)
  have T : ∀ i, i < 6 → tw A' i = tw A i := fun i hi => e.n (by omega)
  have W : ∀ c, c < 36 → wl A' c = wl A c := fun c hc => e.n (by omega)
  have D : ∀ r, r < 3 → dn A' r = dn A r := fun r hr => e.n (by omega)
  have M : ∀ r, r < 3 → md A' r = md A r := fun r hr => e.n (by omega)
  refine ⟨P.d_ hA, VB.of (fun c hc => ?_) (fun i hi => ?_) (fun i j hi hj hij => ?_) (fun r hr => ?_) (fun r hr => ?_) (fun r hr => ?_), P.lw_ hL, fun r hr => ?_⟩
  · rw [P.c_, W c hc, e _ (by omega)]
    exact hB.w hc
  · rw [n3] at hi
    obtain ⟨t1, t2, t3⟩ := hB.t hi
    rw [P.c_, T i (by omega), W _ (by omega), e _ (by omega)]
    exact ⟨t1, t2, t3⟩
  · rw [n3] at hi hj
    rw [T i (by omega), T j (by omega)]
    exact hB.d hi hj hij
  · rw [n3] at hr
    rw [e.spp (by omega), e _ (by omega)]
    exact hB.s hr
  · rw [n3] at hr
    rw [M r (by omega), e _ (by omega)]
    exact hB.m hr
  · rw [n3] at hr
    rw [D r (by omega), e _ (by omega)]
    exact hB.o hr
  · rw [n3] at hr
    unfold VEp
    rw [T _ (by omega), T _ (by omega), D r (by omega), e (46 + 2 * r) (by omega), e (46 + 2 * r + 1) (by omega)]
    exact hE r hr
theorem BD.cg (h : BD X g b A) (hA : Dm A) (hL : LW A) (e : Wq A A') : BD X g b A' := by
  have k3 := hA.2.2.2.2.2.2.2
  refine h.new hA hL e.pl (Fi.rf (S := [])) (fun a ha => by cases ha) (fun c hc => ?_) (fun i hi => ?_) (fun r hr => ?_) (fun r hr => ?_) (fun r hr => ?_)
  · rw [h.2.2.1 c hc, decide_eq_decide]
    constructor
    · rintro ⟨u1, u2⟩
      exact ⟨u1, by rw [show wl A' c = wl A c from e.n (by omega)]; exact u2⟩
    · rintro ⟨u1, u2⟩
      rw [show wl A' c = wl A c from e.n (by omega)] at u2
      exact ⟨u1, u2⟩
  · rw [show tw A' i = tw A i from e.n (by omega)]
    exact h.2.2.2.1 i hi
  · rw [e.spp (by omega)]
    exact h.2.2.2.2.1 r hr
  · rw [show md A' r = md A r from e.n (by omega)]
    exact h.2.2.2.2.2.1 r hr
  · rw [show dn A' r = dn A r from e.n (by omega)]
    exact h.2.2.2.2.2.2 r hr
theorem r_ke2 : ∀ fu k g, Sh g → (∀ j, j < k → gI g 143 j = gI g 137 (52 + j)) → k ≤ 51 → 51 < fu + k → ∃ g', f_X12_keeps_2 fu 136 (nI k) g = some ((), g') ∧ Fi [143] g g' ∧ ∀ j, j < 51 → gI g' 143 j = gI g 137 (52 + j) := by
  intro fu
  induction fu with
  | zero => intro k g _ _ _ h; omega
  | succ fu ih =>
    intro k g hs h0 hk hfu
    rw [f_X12_keeps_2]
    rcases Nat.lt_or_ge k 51 with z | z
    · have x1 : Fi [143] g (sI g 143 k (gI g 137 (52 + k))) := Fi.rf.si (by decide)
      obtain ⟨g2, d1, d2, d3⟩ := ih (k + 1) _ (Sh.fi x1 hs) (fun j hj => by
        rw [gI_sIs, gI_sIn (by decide)]
        by_cases u : j = k
        · rw [u, pk_us]
        · rw [pk_un u]
          exact h0 j (by omega)) z (by omega)
      refine ⟨g2, ?_, x1.tr d2, fun j hj => ?_⟩
      · rw [if_neg (show ¬ (51 : Int32) ≤ nI k from nI_ge (a := k) (b := 51) z (by decide)), md136_19 hs, md136_1 hs, gk137 hs, sn137 hs, show (52 : Int32) = nI 52 from rfl, nI_add, gdI_nI (by omega) (by decide), gk143 hs, sn143 hs, gdI_nI z (by decide), nI_clamp (show k < 2 ^ 31 by omega), nI_clamp (show 52 + k < 2 ^ 31 by omega), lg, lad1, d1]
      · rw [d3 j hj, gI_sIn (by decide)]
    · have e : k = 51 := by omega
      subst e
      rw [if_pos (by decide)]
      exact ⟨g, rfl, Fi.rf, h0⟩
theorem r_keeps (hs : Sh g) : ∃ g', f_X12_keeps 136 g = some ((), g') ∧ Fi [143] g g' ∧ ∀ j, j < 51 → gI g' 143 j = gI g 137 (52 + j) := r_ke2 FU 0 g hs (fun j hj => by omega) (by decide) (by have := @FU_gt 51 (by decide); omega)
/-- copying n ints of a row: pointwise -/
def cpR (B : Nat → Int32) (W : Nat → Int32) (f n : Nat) : Nat → Int32 := fun j => if f ≤ j ∧ j < f + n then W (j - f) else B j
theorem cpR_s {B W : Nat → Int32} {f n : Nat} : upd (cpR B W f n) (f + n) (W n) = cpR B W f (n + 1) := by
  funext j
  unfold cpR
  by_cases u : j = f + n
  · rw [u, pk_us, if_pos (by omega), show f + n - f = n by omega]
  · rw [pk_un u]
    by_cases v : f ≤ j ∧ j < f + n
    · rw [if_pos v, if_pos (by omega)]
    · rw [if_neg v, if_neg (by omega)]
theorem cpR_0 {B W : Nat → Int32} {f : Nat} : cpR B W f 0 = B := by
  funext j
  unfold cpR
  rw [if_neg (by omega)]
theorem r_ag2 {B W : Nat → Int32} : ∀ fu k g, Sh g → gI g 137 = cpR B W 52 k → (∀ j, j < 51 → gI g 143 j = W j) → k ≤ 51 → 51 < fu + k → ∃ g', f_X12_isAgain_2 fu 136 (nI k) g = some ((), g') ∧ Fi [137] g g' ∧ gL g' = gL g ∧ gI g' 137 = cpR B W 52 51 := by
  intro fu
  induction fu with
  | zero => intro k g _ _ _ _ h; omega
  | succ fu ih =>
    intro k g hs hr hw hk hfu
    rw [f_X12_isAgain_2]
    rcases Nat.lt_or_ge k 51 with z | z
    · have x1 : Fi [137] g (sI g 137 (52 + k) (W k)) := Fi.rf.si (by decide)
      obtain ⟨g2, d1, d2, d2', d3⟩ := ih (k + 1) _ (Sh.fi x1 hs) (by rw [gI_sIs, hr, cpR_s]) (fun j hj => by rw [gI_sIn (by decide)]; exact hw j hj) z (by omega)
      refine ⟨g2, ?_, x1.tr d2, d2', d3⟩
      rw [if_neg (show ¬ (51 : Int32) ≤ nI k from nI_ge (a := k) (b := 51) z (by decide)), md136_1 hs, md136_19 hs, gk143 hs, sn143 hs, gdI_nI z (by decide), gk137 hs, sn137 hs, show (52 : Int32) = nI 52 from rfl, nI_add, gdI_nI (by omega) (by decide), nI_clamp (show k < 2 ^ 31 by omega), nI_clamp (show 52 + k < 2 ^ 31 by omega), hw k z, lg, lad1, d1]
    · have e : k = 51 := by omega
      subst e
      rw [if_pos (by decide)]
      exact ⟨g, rfl, Fi.rf, rfl, hr⟩
theorem r_isAgain {B W : Nat → Int32} (hs : Sh g) (hr : gI g 137 = B) (hw : ∀ j, j < 51 → gI g 143 j = W j) : ∃ g', f_X12_isAgain 136 g = some ((), g') ∧ Fi [137] g g' ∧ gL g' = gL g ∧ gI g' 137 = cpR B W 52 51 := r_ag2 FU 0 g hs (by rw [cpR_0]; exact hr) hw (by decide) (by have := @FU_gt 51 (by decide); omega)
/-- the row behind a deed noted -/
def ntA (B W : Nat → Int32) (n : Nat) : Nat → Int32 := if n = 10 then upd (cpR (upd (cpR B (fun k => B (155 + k)) 104 459) 103 (nI 9)) W (104 + 51 * 9) 51) 103 (nI 10) else upd (cpR B W (104 + 51 * n) 51) 103 (nI (n + 1))
theorem r_no59 {B W : Nat → Int32} {m : Nat} (hm : m ≤ 9) (hB : B 103 = nI m) : ∀ fu k g, Sh g → gI g 137 = cpR B W (104 + 51 * m) k → (∀ j, j < 51 → gI g 143 j = W j) → k ≤ 51 → 51 < fu + k → ∃ g', f_X12_notes_59 fu 136 (nI k) g = some ((), g') ∧ Fi [137] g g' ∧ gL g' = gL g ∧ gI g' 137 = upd (cpR B W (104 + 51 * m) 51) 103 (nI (m + 1)) := by
  intro fu
  induction fu with
  | zero => intro k g _ _ _ _ h; omega
  | succ fu ih =>
    intro k g hs hr hw hk hfu
    have e103 : gI g 137 103 = nI m := by
      rw [hr]
      unfold cpR
      rw [if_neg (by omega)]
      exact hB
    rw [f_X12_notes_59]
    rcases Nat.lt_or_ge k 51 with z | z
    · have x1 : Fi [137] g (sI g 137 (104 + 51 * m + k) (W k)) := Fi.rf.si (by decide)
      obtain ⟨g2, d1, d2, d2', d3⟩ := ih (k + 1) _ (Sh.fi x1 hs) (by rw [gI_sIs, hr, cpR_s]) (fun j hj => by rw [gI_sIn (by decide)]; exact hw j hj) z (by omega)
      refine ⟨g2, ?_, x1.tr d2, d2', d3⟩
      rw [if_neg (show ¬ (51 : Int32) ≤ nI k from nI_ge (a := k) (b := 51) z (by decide)), md136_1 hs, gk137 hs, sn137 hs, show (103 : Int32) = nI 103 from rfl, gdI_nI (by decide) (by decide), md136_19 hs, gk143 hs, sn143 hs, gdI_nI z (by decide), nI_clamp (show 103 < 2 ^ 31 by decide), e103, show (51 : Int32) = nI 51 from rfl, pk_mul, show (104 : Int32) = nI 104 from rfl, nI_add, nI_add, gdI_nI (by omega) (by decide), nI_clamp (show 104 + 51 * m + k < 2 ^ 31 by omega), nI_clamp (show k < 2 ^ 31 by omega), hw k z, lg, lad1, d1]
    · have e : k = 51 := by omega
      subst e
      rw [if_pos (by decide), md136_1 hs, gk137 hs, sn137 hs, show (103 : Int32) = nI 103 from rfl, gdI_nI (by decide) (by decide), nI_clamp (show 103 < 2 ^ 31 by decide), e103, lad1, lg]
      exact ⟨_, rfl, Fi.rf.si (by decide), rfl, by rw [gI_sIs, hr]⟩
theorem r_no14 {B W : Nat → Int32} (hB : B 103 = nI 10) : ∀ fu k g, Sh g → gI g 137 = cpR B (fun k => B (155 + k)) 104 k → (∀ j, j < 51 → gI g 143 j = W j) → k ≤ 459 → 459 < fu + k → ∃ g', f_X12_notes_14 fu 136 (nI k) g = some ((), g') ∧ Fi [137] g g' ∧ gL g' = gL g ∧ gI g' 137 = ntA B W 10 := by
  intro fu
  induction fu with
  | zero => intro k g _ _ _ _ h; omega
  | succ fu ih =>
    intro k g hs hr hw hk hfu
    rw [f_X12_notes_14]
    rcases Nat.lt_or_ge k 459 with z | z
    · have x1 : Fi [137] g (sI g 137 (104 + k) (B (155 + k))) := Fi.rf.si (by decide)
      obtain ⟨g2, d1, d2, d2', d3⟩ := ih (k + 1) _ (Sh.fi x1 hs) (by
        rw [gI_sIs, hr]
        exact cpR_s (W := fun k => B (155 + k))) (fun j hj => by rw [gI_sIn (by decide)]; exact hw j hj) z (by omega)
      have e155 : gI g 137 (155 + k) = B (155 + k) := by
        rw [hr]
        unfold cpR
        rw [if_neg (by omega)]
      refine ⟨g2, ?_, x1.tr d2, d2', d3⟩
      rw [if_neg (show ¬ (459 : Int32) ≤ nI k from nI_ge (a := k) (b := 459) z (by decide)), md136_1 hs, gk137 hs, sn137 hs, show (155 : Int32) = nI 155 from rfl, show (104 : Int32) = nI 104 from rfl, nI_add, nI_add, gdI_nI (by omega) (by decide), gdI_nI (by omega) (by decide), nI_clamp (show 104 + k < 2 ^ 31 by omega), nI_clamp (show 155 + k < 2 ^ 31 by omega), e155, lg, lad1, d1]
    · have e : k = 459 := by omega
      subst e
      have e103 : gI g 137 103 = nI 10 := by
        rw [hr]
        unfold cpR
        rw [if_neg (by omega)]
        exact hB
      have x1 : Fi [137] g (sI g 137 103 (nI 9)) := Fi.rf.si (by decide)
      obtain ⟨g2, d1, d2, d2', d3⟩ := r_no59 (B := upd (cpR B (fun k => B (155 + k)) 104 459) 103 (nI 9)) (W := W) (m := 9) (by decide) pk_us FU 0 (sI g 137 103 (nI 9)) (Sh.fi x1 hs) (by rw [gI_sIs, hr, cpR_0]) (fun j hj => by rw [gI_sIn (by decide)]; exact hw j hj) (by decide) (by have := @FU_gt 51 (by decide); omega)
      have d1' : f_X12_notes_59 FU 136 0 (sI g 137 103 (nI 9)) = some ((), g2) := d1
      refine ⟨g2, ?_, x1.tr d2, d2', ?_⟩
      · rw [if_pos (by decide), md136_1 hs, gk137 hs, sn137 hs, show (103 : Int32) = nI 103 from rfl, gdI_nI (by decide) (by decide), nI_clamp (show 103 < 2 ^ 31 by decide), e103, show (1 : Int32) = nI 1 from rfl, pk_sub (by decide), lg, f_X12_notes_57, d1']
      · rw [d3]
        unfold ntA
        rw [if_pos rfl]
theorem r_notes {B W : Nat → Int32} {n : Nat} (hs : Sh g) (hr : gI g 137 = B) (hn : n ≤ 10) (hB : B 103 = nI n) (hw : ∀ j, j < 51 → gI g 143 j = W j) : ∃ g', f_X12_notes 136 g = some ((), g') ∧ Fi [137] g g' ∧ gL g' = gL g ∧ gI g' 137 = ntA B W n := by
  rw [f_X12_notes, md136_1 hs, gk137 hs, sn137 hs, show (103 : Int32) = nI 103 from rfl, gdI_nI (by decide) (by decide), nI_clamp (show 103 < 2 ^ 31 by decide), hr, hB]
  by_cases e : n = 10
  · subst e
    rw [if_pos (by decide)]
    exact r_no14 hB FU 0 g hs (by rw [cpR_0]; exact hr) hw (by decide) (by have := @FU_gt 459 (by decide); omega)
  · rw [if_neg (show ¬ nI n = 10 from fun u => e ((nI_eq (b := 10) (by omega) (by decide)).mp u)), f_X12_notes_57]
    obtain ⟨g2, d1, d2, d2', d3⟩ := r_no59 (B := B) (W := W) (m := n) (by omega) hB FU 0 g hs (by rw [cpR_0]; exact hr) hw (by decide) (by have := @FU_gt 51 (by decide); omega)
    refine ⟨g2, d1, d2, d2', ?_⟩
    rw [d3]
    unfold ntA
    rw [if_neg e]
end NTS
