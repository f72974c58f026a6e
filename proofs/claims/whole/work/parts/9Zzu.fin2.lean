/-! FIELD: the reference's end, the class's end. -/
section FIM
variable {X : Nat → Prop} {T : Nat → Nat} {n M i q p : Nat} {A C F : Nat → Int32} {g g' g1 g2 h h' h1 : G}
def sR2 (B F : Nat → Int32) (k : Nat) : Nat → Int32 := fun j => if 94 ≤ j ∧ j < 94 + k then nI (sp F (j - 94)) else if 100 ≤ j ∧ j < 100 + k then nI (dnw F (j - 100) (tw F (2 * (j - 100))) (tw F (2 * (j - 100) + 1)) 0) else B j
theorem r_two (hh : Sh h) (hp : p < 3) {t : Nat} (ht : t < 2) : f_X12_twinOf 136 (nI p) (nI t) h = some (gI h 137 (88 + 2 * p + t), h) := by
  rw [f_X12_twinOf, md136_1 hh, gk137 hh, sn137 hh, nI2, show (88 : Int32) = nI 88 from rfl, nI_add, nI_add, gdI_nI (by omega) (by decide), nI_clamp (by omega)]
theorem r_236 (wq : WQ F) (hC : ∀ j, j < 1515 → C j = F j) : ∀ fu k h, Sh h → gI h 137 = sR2 (wR C F 36) F k → k ≤ nv F 3 → nv F 3 < fu + k → ∃ h', f_X12_field_236 fu 136 (nI k) h = some (F 0, h') ∧ Fi [137] h h' ∧ gI h' 137 = sR2 (wR C F 36) F (nv F 3) := by
  have k3 := wq.1.2.2.2.2.2.2.2
  have cl := cS_le wq.1
  have lo : ∀ k, k ≤ 3 → ∀ j, j < 1515 → (j < 52 ∨ (88 ≤ j ∧ j < 94) ∨ (94 + k ≤ j ∧ j < 100) ∨ 100 + k ≤ j) → sR2 (wR C F 36) F k j = F j := fun k hk j hj h1 => by
    unfold sR2 wR
    rw [if_neg (by omega), if_neg (by omega), if_neg (by omega), hC j hj]
  intro fu
  induction fu with
  | zero => intro k h _ _ h1 h2; omega
  | succ fu ih =>
    intro k h hh hr hk hf
    have e3 : gI h 137 3 = nI (nv F 3) := by
      rw [hr, lo k (by omega) 3 (by decide) (by omega)]
      exact wq.1.2.2.2.2.2.2.1
    rw [f_X12_field_236, md136_1 hh, gk137 hh, sn137 hh, show gdI (3 : Int32) 4545 = gdI (nI 3) 4545 (α := Int32 × G) from rfl, gdI_nI (by decide) (by decide), show (3 : Int32).toNatClampNeg = 3 from rfl, e3]
    rcases Nat.lt_or_ge k (nv F 3) with z | z
    · obtain ⟨x1, x2, -⟩ := wq.2.2.1 (2 * k) (by omega)
      obtain ⟨y1, y2, -⟩ := wq.2.2.1 (2 * k + 1) (by omega)
      have rx : gI h 137 (88 + 2 * k + 0) = nI (tw F (2 * k)) := by
        rw [hr, lo k (by omega) _ (by omega) (by omega), Nat.add_zero]
        exact x1
      have ry : gI h 137 (88 + 2 * k + 1) = nI (tw F (2 * k + 1)) := by
        rw [hr, lo k (by omega) _ (by omega) (by omega), Nat.add_assoc]
        exact y1
      have t0 : f_X12_twinOf 136 (nI k) 0 h = some (nI (tw F (2 * k)), h) := by
        rw [← rx]
        exact r_two hh (by omega) (t := 0) (by decide)
      have t1 : f_X12_twinOf 136 (nI k) 1 h = some (nI (tw F (2 * k + 1)), h) := by
        rw [← ry]
        exact r_two hh (by omega) (t := 1) (by decide)
      have nlo : ∀ j, j < 52 → nv (gI h 137) j = nv F j := fun j hj => by
        unfold nv
        rw [hr, lo k (by omega) j (by omega) (by omega)]
      have dm : Dm (gI h 137) := by
        unfold Dm
        rw [nlo 1 (by decide), nlo 2 (by decide), nlo 3 (by decide), hr, lo k (by omega) 1 (by decide) (by omega), lo k (by omega) 2 (by decide) (by omega), lo k (by omega) 3 (by decide) (by omega)]
        exact wq.1
      have ap := r_apart hh dm (a := tw F (2 * k)) (b := tw F (2 * k + 1)) (by omega) (by omega)
      rw [nlo 2 (by decide)] at ap
      obtain ⟨h2, hh2⟩ : ∃ h2, h2 = sI h 137 (94 + k) (nI (apS (nv F 2) (tw F (2 * k)) (tw F (2 * k + 1)))) := ⟨_, rfl⟩
      have s2 : Sh h2 := by
        rw [hh2]
        exact hh
      have r2 : gI h2 137 = upd (sR2 (wR C F 36) F k) (94 + k) (nI (sp F k)) := by
        rw [hh2, gI_sIs, hr]
        rfl
      obtain ⟨h3, b1, b2, b3, b4⟩ := r_isDone (g := h2) (p := k) (x := tw F (2 * k)) (y := tw F (2 * k + 1)) (d := 0) s2 (by omega) r2 (by rw [pk_un (by omega), lo k (by omega) _ (by omega) (by omega)]; exact x1) (by rw [pk_un (by omega), lo k (by omega) _ (by omega) (by omega), Nat.add_assoc]; exact y1) (by rw [pk_un (by omega), lo k (by omega) _ (by omega) (by omega)]; exact wq.2.2.2.2.2.2.2.2 k (by omega)) (by decide)
      have ed : dnw (upd (sR2 (wR C F 36) F k) (94 + k) (nI (sp F k))) k (tw F (2 * k)) (tw F (2 * k + 1)) 0 = dnw F k (tw F (2 * k)) (tw F (2 * k + 1)) 0 := by
        unfold dnw
        rw [pk_un (by omega), pk_un (by omega), lo k (by omega) _ (by omega) (by omega), lo k (by omega) _ (by omega) (by omega)]
      have r3 : gI h3 137 = sR2 (wR C F 36) F (k + 1) := by
        rw [b4, ed]
        funext j
        by_cases e1 : j = 100 + k
        · rw [e1, pk_us]
          unfold sR2
          rw [if_neg (by omega), if_pos (by omega), show 100 + k - 100 = k by omega]
        · rw [pk_un e1]
          by_cases e2 : j = 94 + k
          · rw [e2, pk_us]
            unfold sR2
            rw [if_pos (by omega), show 94 + k - 94 = k by omega]
          · rw [pk_un e2]
            unfold sR2
            by_cases e4 : 94 ≤ j ∧ j < 94 + k
            · rw [if_pos e4, if_pos (by omega)]
            · rw [if_neg e4, if_neg (show ¬ (94 ≤ j ∧ j < 94 + (k + 1)) by omega)]
              by_cases e5 : 100 ≤ j ∧ j < 100 + k
              · rw [if_pos e5, if_pos (by omega)]
              · rw [if_neg e5, if_neg (show ¬ (100 ≤ j ∧ j < 100 + (k + 1)) by omega)]
      have s3 := Sh.fi b2 s2
      obtain ⟨h4, c1, c2, c3⟩ := ih (k + 1) h3 s3 r3 (by omega) (by omega)
      have x2 : Fi [137] h h2 := by
        rw [hh2]
        exact Fi.rf.si (by decide)
      refine ⟨h4, ?_, (x2.tr b2).tr c2, c3⟩
      rw [if_neg (nI_ge z (by omega)), t0, bd_eq, t1, bd_eq, ap, bd_eq, sn137 hh, show (94 : Int32) = nI 94 from rfl, nI_add, gdI_nI (by omega) (by decide), nI_clamp (by omega), lg, ← hh2, b1, bd_eq, lad1, c1]
    · obtain rfl : k = nv F 3 := by omega
      have e0 : gI h 137 0 = F 0 := by
        rw [hr, lo _ (by omega) 0 (by decide) (by omega)]
      rw [if_pos (nI_le (Nat.le_refl _) (by omega)), show gdI (0 : Int32) 4545 = gdI (nI 0) 4545 (α := Int32 × G) from rfl, gdI_nI (by decide) (by decide), show (0 : Int32).toNatClampNeg = 0 from rfl, e0]
      exact ⟨h, rfl, Fi.rf, hr⟩
theorem r_endG (hh : Sh h) (w0 : gI h 136 11 = 0) (hF : gI h 140 = F) (hA : gI h 137 = A) (wq : WQ F) : ∃ h', f_X12_field_123 136 h = some (F 0, h') ∧ Fm [13, 14] [137] h h' ∧ gI h' 137 = cpR A (fnR F) 0 1515 ∧ gI h' 136 13 = 0 ∧ gI h' 136 14 = -1 := by
  have k3 := wq.1.2.2.2.2.2.2.2
  obtain ⟨h1, e1⟩ : ∃ h1, h1 = sI (sI h 136 13 0) 136 14 (-1) := ⟨_, rfl⟩
  have x1 : Fm [13, 14] [137] h h1 := by
    rw [e1]
    exact (Fm.rf.sf (by decide)).sf (by decide)
  have hh1 := hh.fm x1
  obtain ⟨h2, a1, a2, a3⟩ := r_167 (F := F) (A := A) FU 0 h1 hh1 (by rw [x1.I (by decide)]; exact hF) (by rw [e1, gI_sIn (by decide), gI_sIn (by decide), hA, cpR_0]) (by decide) (by have := @FU_gt 1515 (by decide); omega)
  have hC : ∀ j, j < 1515 → cpR A F 0 1515 j = F j := fun j hj => by
    unfold cpR
    rw [if_pos (by omega), Nat.sub_zero]
  have w0' : ∀ C : Nat → Int32, wR C F 0 = C := fun C => by
    funext j
    unfold wR
    rw [if_neg (by omega)]
  have s0' : ∀ C : Nat → Int32, sR2 C F 0 = C := fun C => by
    funext j
    unfold sR2
    rw [if_neg (by omega), if_neg (by omega)]
  have hh2 := Sh.fi a2 hh1
  obtain ⟨h3, b1, b2, b3⟩ := r_194 hC FU 0 h2 hh2 (by rw [a3, w0']) (by decide) (by have := @FU_gt 1515 (by decide); omega)
  have hh3 := Sh.fi b2 hh2
  obtain ⟨h4, c1, c2, c3⟩ := r_236 wq hC FU 0 h3 hh3 (by rw [b3, s0']) (by omega) (by have := @FU_gt 1515 (by decide); omega)
  have y : Fi [137] h1 h4 := (a2.tr b2).tr c2
  refine ⟨h4, ?_, x1.tr ((Fm.of (K := []) y (by decide)).mono (by simp) (by simp)), ?_, ?_, ?_⟩
  · have a1' : f_X12_field_167 FU 136 0 h1 = f_X12_field_194 FU 136 0 h2 := a1
    have b1' : f_X12_field_194 FU 136 0 h2 = f_X12_field_236 FU 136 0 h3 := b1
    have c1' : f_X12_field_236 FU 136 0 h3 = some (F 0, h4) := c1
    have z1 : gI (sI h 136 13 0) 136 11 = 0 := by
      rw [gI_sIs, pk_un (by decide)]
      exact w0
    have z2 : gI h1 136 11 = 0 := by
      rw [x1.2 11 (by decide)]
      exact w0
    rw [f_X12_field_123, w0, lg, if_pos z1, f_X12_field_147, lg, ← e1, if_pos z2, a1', b1', c1']
  · rw [c3]
    funext j
    unfold sR2 wR cpR fnR
    by_cases hj : j < 1515
    · rw [if_pos (show 0 ≤ j ∧ j < 0 + 1515 by omega), Nat.sub_zero]
      by_cases e5 : 52 ≤ j ∧ j < 88
      · rw [if_neg (by omega), if_neg (by omega), if_pos (show 52 ≤ j ∧ j < 52 + 36 by omega), if_pos e5, if_pos (show 0 ≤ j ∧ j < 0 + 1515 by omega)]
      · rw [if_neg (show ¬ (52 ≤ j ∧ j < 52 + 36) by omega), if_neg e5, if_pos (show 0 ≤ j ∧ j < 0 + 1515 by omega)]
    · rw [if_neg (by omega), if_neg (by omega), if_neg (by omega), if_neg (by omega), if_neg (by omega)]
  · rw [y.I (by decide), e1, gI_sIs, pk_un (by decide), gI_sIs, pk_us]
  · rw [y.I (by decide), e1, gI_sIs, pk_us]
theorem r_endB (hh : Sh h) (w0 : gI h 136 11 ≠ 0) : ∃ h', f_X12_field_123 136 h = some ((-30 : Int32) - gI h 136 11, h') ∧ Fm [13, 14] [] h h' ∧ gI h' 136 13 = gI h 136 11 ∧ gI h' 136 14 = gI h 136 12 := by
  obtain ⟨h1, e1⟩ : ∃ h1, h1 = sI (sI h 136 13 (gI h 136 11)) 136 14 (gI h 136 12) := ⟨_, rfl⟩
  have x1 : Fm [13, 14] [] h h1 := by
    rw [e1]
    exact (Fm.rf.sf (by decide)).sf (by decide)
  have z1 : gI (sI h 136 13 (gI h 136 11)) 136 11 = gI h 136 11 := by
    rw [gI_sIs, pk_un (by decide)]
  have z2 : gI h1 136 11 = gI h 136 11 := x1.2 11 (by decide)
  refine ⟨h1, ?_, x1, ?_, ?_⟩
  · rw [f_X12_field_123, lg, z1, if_neg w0, gI_sIs, pk_un (by decide), f_X12_field_147, lg, ← e1, z2, if_neg w0]
  · rw [e1, gI_sIs, pk_un (by decide), gI_sIs, pk_us]
  · rw [e1, gI_sIs, pk_us]
/-! the class behind the lines -/
def LCZ : List Nat := [0, 16, 27, 47, 48, 49, 50, 51, 76]
theorem c_fin (hs : Sh g) (q155 : 155 ≤ q) (bdd : BD (fun a => q ≤ a) g 63 (fnR F)) (k3 : nv F 3 ≤ 3) : ∃ g', (dr (gR g 0 4) (fun b25 => dr (gR g 57 0) (fun b27 => gdK g b25 0 (gdK g b27 0 (bd (f_X0_copyFrom b25 b27 g) (fun v31 g32 => dr (gR g32 0 15) (fun b35 => gdK g32 b35 5 (bd (f_X5_forget b35 g32) (fun v38 g39 => bd (f_X11_forgetWays 0 g39) (fun v42 g43 => dr (gR g43 0 4) (fun b46 => gdK g43 b46 0 (dr (gR g43 b46 0) (fun b49 => gdK g43 b49 7 (some ((gI g43 b49 5), g43))))))))))))))) = some (F 0, g') ∧ Fq LCZ g g' ∧ Sh g' ∧ BD (fun a => q ≤ a) g' 47 (fnR F) ∧ gI g' 0 10 = -1 ∧ (∀ k, k ≠ 10 → gI g' 0 k = gI g 0 k) ∧ gI g' 76 0 = 0 ∧ gI g' 76 1 = 0 := by
  obtain ⟨g2, b1, b2, b3, b4, b5⟩ := c_copyFrom (a := 47) (X := fun a => q ≤ a) (fun k hk u => by omega) (bS47 hs) bdd (by omega) (by rw [fn_n k3 (by omega)]; exact k3)
  have hs2 : Sh g2 := hs.cp b2 b3 b4 (by decide)
  have xf : Fi [76] g2 (sI (sI g2 76 0 0) 76 1 0) := (Fi.rf.si (by decide)).si (by decide)
  have hsf := Sh.fi xf hs2
  obtain ⟨g3, c1, c2, c3, c4⟩ := c_forget hsf
  have hs3 := Sh.fi c2 hsf
  have nX : ∀ (S : List Nat), (∀ a ∈ S, a < 155) → ∀ a ∈ S, ¬ (fun a => q ≤ a) a := fun S hS a ha u => by
    have := hS a ha
    omega
  have b47 : BD (fun a => q ≤ a) g3 47 (fnR F) := (b5.fa xf.a (nX _ (by simp)) (by decide)).fa c2.a (nX _ (by simp)) (by decide)
  have ff : f_X5_forget 76 g2 = some ((), sI (sI g2 76 0 0) 76 1 0) := by
    rw [f_X5_forget, lg, lg]
  obtain ⟨q', u1, u2⟩ := id b47.2.1
  refine ⟨g3, ?_, (b2.mono (by decide)).tr ((xf.q.mono (by decide)).tr (c2.q.mono (by decide))), hs3, b47, c3, fun k hk => by rw [c4 k hk, xf.I (by decide), b2.I (by decide)], ?_, ?_⟩
  · rw [md0_4 hs, md57_0 hs, gk47 hs, gk63 hs, b1, bd_eq, md0_15 hs2, gk76 hs2, ff, bd_eq, c1, bd_eq, md0_4 hs3, gk47 hs3, u1, dr_eq, gdK_pos u2.2.1, u2.2.2.1.2.2.2.2, fn_lo k3 (by omega)]
  · rw [c2.I (by decide), gI_sIs, pk_un (by decide), gI_sIs, pk_us]
  · rw [c2.I (by decide), gI_sIs, pk_us]
end FIM
