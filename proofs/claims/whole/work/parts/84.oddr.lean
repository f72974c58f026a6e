/-! NUMBERS FOR EACH STAND: the reference; the greatest common divisor. -/
section ODR
variable {A : Nat → Int32} {g g' : G} {p : Nat} {f : Nat → Nat}
def RV (g : G) (a : Nat) (f : Nat → Nat) : Prop := ∀ c, c < 1296 → gL g a c = lN (f c)
theorem cb_0 {N : Nat → Nat → Option Nat} (s c : Nat) : cbV N 0 s c = ldN N s c 8 := by
  unfold cbV
  split
  · next h =>
    have l := ld_sum (N := N) (s := s) (m := c + 1) 8
    have q := sN_ge (f := fun c => ldN N s c 8) (show c < c + 1 by omega)
    have z : ldN N s c 8 = 0 := by omega
    rw [z]
    split
    · rfl
    · rfl
  · unfold shN
    rw [if_pos rfl, Nat.one_mul]
theorem r_bm2 (hp : p < nv A 3) : ∀ fu k g, RS A g → (∀ c, c < k → gL g 149 c = lN (dlt (36 * tw A (2 * p) + tw A (2 * p + 1)) c)) → k ≤ 1296 → 1296 < fu + k → ∃ g', f_X12_beginsMany_2 fu 136 (nI p) (nI k) g = some ((), g') ∧ Fi [149] g g' ∧ gI g' = gI g ∧ RV g' 149 (dlt (36 * tw A (2 * p) + tw A (2 * p + 1))) := by
  intro fu
  induction fu with
  | zero => intro k g _ _ _ h; omega
  | succ fu ih =>
    intro k g h hv hk hf
    have hs := h.1
    obtain ⟨-, -, y1⟩ := now_lt h hp
    rw [f_X12_beginsMany_2]
    rcases Nat.lt_or_ge k 1296 with z | z
    · have c28 : ∀ x : Nat, x = dlt (36 * tw A (2 * p) + tw A (2 * p + 1)) k → ∃ g', f_X12_beginsMany_28 (f_X12_beginsMany_2 fu) 136 (nI p) (nI k) (lN x) (nI k) 149 g = some ((), g') ∧ Fi [149] g g' ∧ gI g' = gI g ∧ RV g' 149 (dlt (36 * tw A (2 * p) + tw A (2 * p + 1))) := fun x hx => by
        have x1 : Fi [149] g (sL g 149 k (lN x)) := Fi.rf.sl (by decide)
        obtain ⟨g2, e1, e2, e3, e4⟩ := ih (k + 1) _ (h.fi x1 (by decide)) (fun c hc => by
          rw [gL_sLs]
          rcases Nat.eq_or_lt_of_le (Nat.le_of_lt_succ hc) with w | w
          · rw [w, pk_uLs, hx]
          · rw [pk_uLn (by omega)]
            exact hv c w) (by omega) (by omega)
        rw [f_X12_beginsMany_28, sn149 hs, gdI_nI z (by decide), nI_clamp (by omega), lg, lad1]
        exact ⟨g2, e1, x1.tr e2, e3, e4⟩
      rw [if_neg (lnge1296 z), md136_28 hs, r_standNow h hp, bd_eq]
      by_cases w : k = 36 * tw A (2 * p) + tw A (2 * p + 1)
      · rw [if_pos (by rw [w]), gk149 hs]
        exact c28 1 (by unfold dlt; rw [if_pos w])
      · rw [if_neg (fun u => w ((nI_eq (by omega) (by omega)).mp u)), gk149 hs]
        exact c28 0 (by unfold dlt; rw [if_neg w])
    · rw [if_pos (lle1296 z (by omega))]
      exact ⟨g, rfl, Fi.rf, rfl, fun c hc => hv c (by omega)⟩
theorem r_isThen {h : Nat → Nat} : ∀ fu k g, Sh g → (∀ c, c < 1296 → gL g 149 c = lN (if c < k then h c else f c) ∧ gL g 150 c = lN (if c < k then 0 else h c)) → k ≤ 1296 → 1296 < fu + k → ∃ g', f_X12_isThen_2 fu 136 (nI k) g = some ((), g') ∧ Fi [149, 150] g g' ∧ gI g' = gI g ∧ RV g' 149 h ∧ RV g' 150 (fun _ => 0) := by
  intro fu
  induction fu with
  | zero => intro k g _ _ _ h; omega
  | succ fu ih =>
    intro k g hs hv hk hf
    rw [f_X12_isThen_2]
    rcases Nat.lt_or_ge k 1296 with z | z
    · have x1 : Fi [149, 150] g (sL (sL g 149 k (gL g 150 k)) 150 k (lN 0)) := (Fi.rf.sl (by decide)).sl (by decide)
      obtain ⟨g2, e1, e2, e3, e4⟩ := ih (k + 1) _ (Sh.fi x1 hs) (fun c hc => by
        rw [gL_sLs, gL_sLn (show 149 ≠ 150 by decide), gL_sLs, gL_sLn (show 150 ≠ 149 by decide)]
        obtain ⟨a1, a2⟩ := hv c hc
        by_cases e : c = k
        · rw [e, pk_uLs, pk_uLs, if_pos (by omega), if_pos (by omega), (hv k z).2, if_neg (by omega)]
          exact ⟨rfl, rfl⟩
        · rw [pk_uLn e, pk_uLn e, a1, a2]
          by_cases w : c < k
          · rw [if_pos w, if_pos w, if_pos (by omega), if_pos (by omega)]
            exact ⟨rfl, rfl⟩
          · rw [if_neg w, if_neg w, if_neg (by omega), if_neg (by omega)]
            exact ⟨rfl, rfl⟩) (by omega) (by omega)
      rw [if_neg (lnge1296 z), md136_28 hs, md136_29 hs, gk150 hs, sn150 hs, gdI_nI z (by decide), gk149 hs, sn149 hs, gdI_nI z (by decide), nI_clamp (by omega), lg, show (0 : Int64) = lN 0 from rfl, lg, lad1]
      exact ⟨g2, e1, x1.tr e2, e3, e4⟩
    · rw [if_pos (lle1296 z (by omega))]
      refine ⟨g, rfl, Fi.rf, rfl, fun c hc => ?_, fun c hc => ?_⟩
      · rw [(hv c hc).1, if_pos (by omega)]
      · rw [(hv c hc).2, if_pos (by omega)]
/-! counting rows -/
theorem r_rw95 (hA : Dm A) (hb : ∀ c, c < 1296 → f c < 2 ^ 63) (hP : ∀ c, c < 1296 → f c ≠ 0 → stB A (fre A p) p c = true) {one two n0 kk : Int32} {s : Nat} (hs1 : s < 1296) {h0 : Nat → Nat} {k74 : Nat → Int32 → Int32 → Int32 → Int32 → G → Option (Int64 × G)} {k84 : Nat → Int32 → Int32 → Int32 → Int32 → Int32 → G → Option (Int64 × G)} : ∀ fu l g, Sh g → TH A p 1296 g → RV g 149 f → RV g 150 (fun c => h0 c + f s * ldN (nxS A (fre A p) p (md A p)) s c l) → l ≤ 8 → 8 < fu + l → ∃ g', f_X12_rows_95 k74 k84 fu 136 one two n0 kk (nI s) (nI l) g = k84 136 one two n0 kk (nI (s + 1)) g' ∧ Fi [150] g g' ∧ gI g' = gI g ∧ RV g' 150 (fun c => h0 c + f s * ldN (nxS A (fre A p) p (md A p)) s c 8) := by
  intro fu
  induction fu with
  | zero => intro l g _ _ _ _ _ h; omega
  | succ fu ih =>
    intro l g hs ht hv h5 hl hf
    rw [f_X12_rows_95]
    rcases Nat.lt_or_ge l 8 with z | z
    · have fb := hb s hs1
      rw [if_neg (lnge8 z), md136_28 hs, gk149 hs, sn149 hs, gdI_nI hs1 (by decide), nI_clamp (by omega), hv s hs1]
      by_cases f0 : f s = 0
      · rw [if_pos (by
          rw [← Int32.not_lt, lg_cmp_gt, f0]
          decide), f_X12_rows_165, lad1]
        refine ⟨g, rfl, Fi.rf, rfl, fun c hc => ?_⟩
        rw [h5 c hc]
        dsimp only
        rw [f0, Nat.zero_mul, Nat.zero_mul]
      · have st := hP s hs1 f0
        obtain ⟨⟨q1, q2, -⟩, -⟩ := stB_iff.mp st
        rw [if_neg (fun u => by
          rw [← Int32.not_lt, lg_cmp_gt] at u
          exact u ((pk_lLT (a := 0) (by decide) fb).mpr (by omega))), md136_24 hs, gk145 hs, sn145 hs, lum8, nI_add, gdI_nI (by omega) (by decide), nI_clamp (by omega), ((ht s hs1).2 st l z).1]
        cases hN : (nxS A (fre A p) p (md A p)) s l with
        | none =>
          rw [ioN, f_X12_rows_159, lad1]
          refine ih (l + 1) g hs ht hv (fun c hc => ?_) (by omega) (by omega)
          rw [h5 c hc]
          dsimp only
          have : ldN (nxS A (fre A p) p (md A p)) s c (l + 1) = ldN (nxS A (fre A p) p (md A p)) s c l + (if (nxS A (fre A p) p (md A p)) s l = some c then 1 else 0) := rfl
          rw [this, hN, if_neg (by intro u; cases u), Nat.add_zero]
        | some y =>
          have y1 := stB_lt hA (nx_ok hA q1 q2 hN)
          have x1 : Fi [150] g (sL g 150 y (gL g 150 y + lN (f s))) := Fi.rf.sl (by decide)
          rw [ioS (by omega), show oI (some y) = nI y from rfl, md136_29 hs, gk150 hs, sn150 hs, gdI_nI y1 (by decide), nI_clamp (by omega), lg, f_X12_rows_159, lad1]
          obtain ⟨g2, e1, e2, e3, e4⟩ := ih (l + 1) _ (Sh.fi x1 hs) (ht.fi x1 (by decide) (by decide) (by decide)) (fun c hc => by
            rw [gL_sLn (by decide)]
            exact hv c hc) (fun c hc => by
            rw [gL_sLs]
            have ls : ldN (nxS A (fre A p) p (md A p)) s c (l + 1) = ldN (nxS A (fre A p) p (md A p)) s c l + (if (nxS A (fre A p) p (md A p)) s l = some c then 1 else 0) := rfl
            by_cases e : c = y
            · rw [e, pk_uLs, h5 y y1, lNa]
              congr 1
              rw [e] at ls
              rw [hN, if_pos rfl] at ls
              dsimp only
              rw [ls, Nat.mul_add]
              omega
            · rw [pk_uLn e, h5 c hc]
              dsimp only
              rw [ls, hN, if_neg (fun u => e (Option.some.inj u).symm), Nat.add_zero]) (by omega) (by omega)
          exact ⟨g2, e1, x1.tr e2, e3, e4⟩
    · have e8 : l = 8 := by omega
      subst e8
      rw [if_pos (lle8 (by decide) (by decide)), f_X12_rows_165, lad1]
      exact ⟨g, rfl, Fi.rf, rfl, h5⟩
theorem r_rw84 (hA : Dm A) (hb : ∀ c, c < 1296 → f c < 2 ^ 63) (hP : ∀ c, c < 1296 → f c ≠ 0 → stB A (fre A p) p c = true) {one two n0 : Int32} {kk : Nat} {k74 : Nat → Int32 → Int32 → Int32 → Int32 → G → Option (Int64 × G)} : ∀ fu s g, Sh g → TH A p 1296 g → RV g 149 f → RV g 150 (fun c => sumN (fun s => f s * cbV (nxS A (fre A p) p (md A p)) 0 s c) s) → s ≤ 1296 → 1296 < fu + s → ∃ g', f_X12_rows_84 k74 fu 136 one two n0 (nI kk) (nI s) g = k74 136 one two n0 (nI (kk + 1)) g' ∧ Fi [149, 150] g g' ∧ gI g' = gI g ∧ RV g' 149 (nxV (nxS A (fre A p) p (md A p)) 0 1296 f) ∧ RV g' 150 (fun _ => 0) := by
  intro fu
  induction fu with
  | zero => intro s g _ _ _ _ _ h; omega
  | succ fu ih =>
    intro s g hs ht hv h5 hl hf
    rw [f_X12_rows_84]
    rcases Nat.lt_or_ge s 1296 with z | z
    · obtain ⟨g1, e1, e2, e3, e4⟩ := r_rw95 hA hb hP z (one := one) (two := two) (n0 := n0) (kk := nI kk) (k74 := k74) (k84 := f_X12_rows_84 k74 fu) FU 0 g hs ht hv (h0 := fun c => sumN (fun s => f s * cbV (nxS A (fre A p) p (md A p)) 0 s c) s) (fun c hc => by
        rw [h5 c hc]
        rfl) (by decide) (by have := @FU_gt 8 (by decide); omega)
      obtain ⟨g2, d1, d2, d3, d4⟩ := ih (s + 1) g1 (Sh.fi e2 hs) (ht.fi e2 (by decide) (by decide) (by decide)) (fun c hc => by rw [e2.L (by decide)]; exact hv c hc) (fun c hc => by
        rw [e4 c hc]
        dsimp only
        rw [sN_s, cb_0]) (by omega) (by omega)
      rw [if_neg (lnge1296 z), show (0 : Int32) = nI 0 from rfl, e1]
      exact ⟨g2, d1, (e2.mono (by decide)).tr d2, d3.trans e3, d4⟩
    · have e : s = 1296 := by omega
      subst e
      obtain ⟨g1, e1, e2, e3, e4, e5⟩ := r_isThen (f := f) (h := nxV (nxS A (fre A p) p (md A p)) 0 1296 f) FU 0 g hs (fun c hc => by
        rw [if_neg (by omega), if_neg (by omega)]
        exact ⟨hv c hc, h5 c hc⟩) (by decide) (by have := @FU_gt 1296 (by decide); omega)
      have e1' : f_X12_isThen 136 g = some ((), g1) := e1
      rw [if_pos (lle1296 (by decide) (by decide)), e1', bd_eq, lad1]
      exact ⟨g1, rfl, e2, e3, e4, e5⟩
theorem r_rw187 (hs : Sh g) (hv : RV g 149 f) (one two : Int32) : ∀ fu k, k ≤ 1296 → 1296 < fu + k → f_X12_rows_187 fu 136 one two (lN (sumN (fun c => if fitB c one two = true then f c else 0) k)) (nI k) g = some (lN (sumN (fun c => if fitB c one two = true then f c else 0) 1296), g) := by
  intro fu
  induction fu with
  | zero => intro k _ h; omega
  | succ fu ih =>
    intro k hk hf
    rw [f_X12_rows_187]
    rcases Nat.lt_or_ge k 1296 with z | z
    · have i := ih (k + 1) (by omega) (by omega)
      rw [sN_s] at i
      rw [if_neg (lnge1296 z), r_isGoal z, bd_eq]
      cases hf : fitB k one two with
      | false =>
        rw [hf, if_neg (by decide)] at i
        rw [ibF, f_X12_rows_219, show (0 : Int64) = lN 0 from rfl, lNa, ll, lad1]
        exact i
      | true =>
        rw [hf, if_pos rfl] at i
        rw [ibT, md136_28 hs, gk149 hs, sn149 hs, gdI_nI z (by decide), nI_clamp (by omega), hv k z, f_X12_rows_219, lNa, ll, lad1]
        exact i
    · have e : k = 1296 := by omega
      subst e
      rw [if_pos (lle1296 (by decide) (by decide))]
theorem r_rw74 (hA : Dm A) {f0 : Nat → Nat} {n : Nat} (hn : n ≤ 15) (hb : ∀ k, k ≤ n → ∀ c, c < 1296 → itV (nxS A (fre A p) p (md A p)) 0 1296 f0 k c < 2 ^ 63) (hP : ∀ k, k ≤ n → ∀ c, c < 1296 → itV (nxS A (fre A p) p (md A p)) 0 1296 f0 k c ≠ 0 → stB A (fre A p) p c = true) (one two : Int32) : ∀ fu k g, Sh g → TH A p 1296 g → RV g 149 (itV (nxS A (fre A p) p (md A p)) 0 1296 f0 k) → RV g 150 (fun _ => 0) → k ≤ n → n < fu + k → ∃ g', f_X12_rows_74 fu 136 one two (nI n) (nI k) g = some (lN (sumN (fun c => if fitB c one two = true then itV (nxS A (fre A p) p (md A p)) 0 1296 f0 n c else 0) 1296), g') ∧ Fi [149, 150] g g' ∧ gI g' = gI g := by
  intro fu
  induction fu with
  | zero => intro k g _ _ _ _ _ h; omega
  | succ fu ih =>
    intro k g hs ht hv h5 hk hf
    rw [f_X12_rows_74]
    rcases Nat.lt_or_ge k n with z | z
    · obtain ⟨g1, e1, e2, e3, e4, e5⟩ := r_rw84 hA (hb k hk) (hP k hk) (one := one) (two := two) (n0 := nI n) (kk := k) (k74 := f_X12_rows_74 fu) FU 0 g hs ht hv (fun c hc => h5 c hc) (by decide) (by have := @FU_gt 1296 (by decide); omega)
      rw [if_neg (nI_ge z (by omega)), show (0 : Int32) = nI 0 from rfl, e1]
      obtain ⟨g2, d1, d2, d3⟩ := ih (k + 1) g1 (Sh.fi e2 hs) (ht.fi e2 (by decide) (by decide) (by decide)) e4 e5 (by omega) (by omega)
      exact ⟨g2, d1, e2.tr d2, d3.trans e3⟩
    · have e : k = n := by omega
      subst e
      rw [if_pos (nI_le z (by omega))]
      exact ⟨g, r_rw187 hs hv one two FU 0 (by decide) (by have := @FU_gt 1296 (by decide); omega), Fi.rf, rfl⟩
theorem r_rw49 (hA : Dm A) {f0 : Nat → Nat} {n : Nat} (hn : n ≤ 15) (hb : ∀ k, k ≤ n → ∀ c, c < 1296 → itV (nxS A (fre A p) p (md A p)) 0 1296 f0 k c < 2 ^ 63) (hP : ∀ k, k ≤ n → ∀ c, c < 1296 → itV (nxS A (fre A p) p (md A p)) 0 1296 f0 k c ≠ 0 → stB A (fre A p) p c = true) (one two : Int32) : ∀ fu k g, Sh g → TH A p 1296 g → RV g 149 f0 → (∀ c, c < k → gL g 150 c = lN 0) → k ≤ 1296 → 1296 < fu + k → ∃ g', f_X12_rows_49 fu 136 one two (nI n) (nI k) g = some (lN (sumN (fun c => if fitB c one two = true then itV (nxS A (fre A p) p (md A p)) 0 1296 f0 n c else 0) 1296), g') ∧ Fi [149, 150] g g' ∧ gI g' = gI g := by
  intro fu
  induction fu with
  | zero => intro k g _ _ _ _ _ h; omega
  | succ fu ih =>
    intro k g hs ht hv h5 hk hf
    rw [f_X12_rows_49]
    rcases Nat.lt_or_ge k 1296 with z | z
    · have x1 : Fi [149, 150] g (sL g 150 k (lN 0)) := Fi.rf.sl (by decide)
      obtain ⟨g2, d1, d2, d3⟩ := ih (k + 1) _ (Sh.fi x1 hs) (ht.fi x1 (by decide) (by decide) (by decide)) (fun c hc => by rw [gL_sLn (by decide)]; exact hv c hc) (fun c hc => by
        rw [gL_sLs]
        rcases Nat.eq_or_lt_of_le (Nat.le_of_lt_succ hc) with w | w
        · rw [w, pk_uLs]
        · rw [pk_uLn (by omega)]
          exact h5 c w) (by omega) (by omega)
      rw [if_neg (lnge1296 z), md136_29 hs, gk150 hs, sn150 hs, gdI_nI z (by decide), nI_clamp (by omega), show (0 : Int64) = lN 0 from rfl, lg, lad1]
      exact ⟨g2, d1, x1.tr d2, d3⟩
    · rw [if_pos (lle1296 z (by omega))]
      exact r_rw74 hA hn hb hP one two FU 0 g hs ht hv (fun c hc => h5 c (by omega)) (Nat.zero_le _) (by have := @FU_gt n (by omega); omega)
/-! sharing out -/
theorem r_can4 (hA : Dm A) (hs : Sh g) (ht : TH A p 1296 g) {s : Nat} (st : stB A (fre A p) p s = true) : ∀ fu l, l ≤ 8 → 8 < fu + l → f_X12_canFrom_4 fu 136 (nI s) (nI (canN (nxS A (fre A p) p (md A p)) s l)) (nI l) g = some (nI (canN (nxS A (fre A p) p (md A p)) s 8), g) := by
  have s1 := stB_lt hA st
  intro fu
  induction fu with
  | zero => intro l _ h; omega
  | succ fu ih =>
    intro l hl hf
    rw [f_X12_canFrom_4]
    rcases Nat.lt_or_ge l 8 with z | z
    · have i := ih (l + 1) (by omega) (by omega)
      have cs : canN (nxS A (fre A p) p (md A p)) s (l + 1) = canN (nxS A (fre A p) p (md A p)) s l + (if (nxS A (fre A p) p (md A p)) s l = none then 0 else 1) := rfl
      rw [cs] at i
      rw [if_neg (lnge8 z), md136_24 hs, gk145 hs, sn145 hs, lum8, nI_add, gdI_nI (by omega) (by decide), nI_clamp (by omega), ((ht s s1).2 st l z).1]
      cases hN : (nxS A (fre A p) p (md A p)) s l with
      | none =>
        rw [hN, if_pos rfl] at i
        rw [ioN, f_X12_canFrom_31, show (0 : Int32) = nI 0 from rfl, nI_add, li, lad1]
        exact i
      | some y =>
        obtain ⟨⟨q1, q2, -⟩, -⟩ := stB_iff.mp st
        have y1 := stB_lt hA (nx_ok hA q1 q2 hN)
        rw [hN, if_neg (by intro u; cases u)] at i
        rw [ioS (by omega), f_X12_canFrom_31, lad1, li, lad1]
        exact i
    · have e8 : l = 8 := by omega
      subst e8
      rw [if_pos (lle8 (by decide) (by decide))]
theorem r_lk102 (hA : Dm A) {n0 kk : Int32} {s : Nat} (st : stB A (fre A p) p s = true) (c1 : 0 < canN (nxS A (fre A p) p (md A p)) s 8) {h0 : Nat → Nat} {k34 : Nat → Int32 → Int32 → G → Option (Unit × G)} {k42 : Nat → Int32 → Int32 → Int32 → G → Option (Unit × G)} : ∀ fu l g, Sh g → TH A p 1296 g → RV g 149 f → RV g 150 (fun c => h0 c + f s * (840 / canN (nxS A (fre A p) p (md A p)) s 8) * ldN (nxS A (fre A p) p (md A p)) s c l) → l ≤ 8 → 8 < fu + l → ∃ g', f_X12_laysLikely_102 k34 k42 fu 136 n0 kk (nI s) (nI (canN (nxS A (fre A p) p (md A p)) s 8)) (nI l) g = k42 136 n0 kk (nI (s + 1)) g' ∧ Fi [150] g g' ∧ gI g' = gI g ∧ RV g' 150 (fun c => h0 c + f s * (840 / canN (nxS A (fre A p) p (md A p)) s 8) * ldN (nxS A (fre A p) p (md A p)) s c 8) := by
  have s1 := stB_lt hA st
  have cl := canN_le (N := (nxS A (fre A p) p (md A p))) s 8
  obtain ⟨⟨q1, q2, -⟩, -⟩ := stB_iff.mp st
  intro fu
  induction fu with
  | zero => intro l g _ _ _ _ _ h; omega
  | succ fu ih =>
    intro l g hs ht hv h5 hl hf
    rw [f_X12_laysLikely_102]
    rcases Nat.lt_or_ge l 8 with z | z
    · rw [if_neg (lnge8 z), if_neg (nI_nle c1 (by omega)), md136_24 hs, gk145 hs, sn145 hs, lum8, nI_add, gdI_nI (by omega) (by decide), nI_clamp (by omega), ((ht s s1).2 st l z).1]
      cases hN : (nxS A (fre A p) p (md A p)) s l with
      | none =>
        rw [ioN, f_X12_laysLikely_167, lad1]
        refine ih (l + 1) g hs ht hv (fun c hc => ?_) (by omega) (by omega)
        rw [h5 c hc]
        dsimp only
        have : ldN (nxS A (fre A p) p (md A p)) s c (l + 1) = ldN (nxS A (fre A p) p (md A p)) s c l + (if (nxS A (fre A p) p (md A p)) s l = some c then 1 else 0) := rfl
        rw [this, hN, if_neg (by intro u; cases u), Nat.add_zero]
      | some y =>
        have y1 := stB_lt hA (nx_ok hA q1 q2 hN)
        have x1 : Fi [150] g (sL g 150 y (gL g 150 y + lN (f s * (840 / canN (nxS A (fre A p) p (md A p)) s 8)))) := Fi.rf.sl (by decide)
        rw [ioS (by omega), show oI (some y) = nI y from rfl, md136_29 hs, gk150 hs, sn150 hs, gdI_nI y1 (by decide), md136_28 hs, gk149 hs, sn149 hs, gdI_nI s1 (by decide), nI_l (by omega), gdZl_pos (fun u => by
          have := (lN_z (by omega)).mp u
          omega), nI_clamp (show s < 2 ^ 31 by omega), nI_clamp (show y < 2 ^ 31 by omega), hv s s1, show (840 : Int64) = lN 840 from rfl, pk_lDiv (by decide) c1 (by omega), lNm, lg, f_X12_laysLikely_167, lad1]
        obtain ⟨g2, e1, e2, e3, e4⟩ := ih (l + 1) _ (Sh.fi x1 hs) (ht.fi x1 (by decide) (by decide) (by decide)) (fun c hc => by
          rw [gL_sLn (by decide)]
          exact hv c hc) (fun c hc => by
          rw [gL_sLs]
          have ls : ldN (nxS A (fre A p) p (md A p)) s c (l + 1) = ldN (nxS A (fre A p) p (md A p)) s c l + (if (nxS A (fre A p) p (md A p)) s l = some c then 1 else 0) := rfl
          by_cases e : c = y
          · rw [e, pk_uLs, h5 y y1, lNa]
            congr 1
            rw [e] at ls
            rw [hN, if_pos rfl] at ls
            dsimp only
            rw [ls, Nat.mul_add]
            omega
          · rw [pk_uLn e, h5 c hc]
            dsimp only
            rw [ls, hN, if_neg (fun u => e (Option.some.inj u).symm), Nat.add_zero]) (by omega) (by omega)
        exact ⟨g2, e1, x1.tr e2, e3, e4⟩
    · have e8 : l = 8 := by omega
      subst e8
      rw [if_pos (lle8 (by decide) (by decide)), f_X12_laysLikely_173, lad1]
      exact ⟨g, rfl, Fi.rf, rfl, h5⟩
theorem r_lk42 (hA : Dm A) (hb : ∀ c, c < 1296 → f c < 2 ^ 63) (hP : ∀ c, c < 1296 → f c ≠ 0 → stB A (fre A p) p c = true) {n0 : Int32} {kk : Nat} {k34 : Nat → Int32 → Int32 → G → Option (Unit × G)} : ∀ fu s g, Sh g → TH A p 1296 g → RV g 149 f → RV g 150 (fun c => sumN (fun s => f s * cbV (nxS A (fre A p) p (md A p)) 840 s c) s) → s ≤ 1296 → 1296 < fu + s → ∃ g', f_X12_laysLikely_42 k34 fu 136 n0 (nI kk) (nI s) g = k34 136 n0 (nI (kk + 1)) g' ∧ Fi [149, 150] g g' ∧ gI g' = gI g ∧ RV g' 149 (nxV (nxS A (fre A p) p (md A p)) 840 1296 f) ∧ RV g' 150 (fun _ => 0) := by
  intro fu
  induction fu with
  | zero => intro s g _ _ _ _ _ h; omega
  | succ fu ih =>
    intro s g hs ht hv h5 hl hf
    rw [f_X12_laysLikely_42]
    rcases Nat.lt_or_ge s 1296 with z | z
    · have fb := hb s z
      rw [if_neg (lnge1296 z), md136_28 hs, gk149 hs, sn149 hs, gdI_nI z (by decide), nI_clamp (by omega), hv s z, i0l]
      by_cases f0 : f s = 0
      · rw [f0, if_pos (show lN 0 = 0 from rfl), f_X12_laysLikely_173, lad1]
        refine ih (s + 1) g hs ht hv (fun c hc => ?_) (by omega) (by omega)
        rw [h5 c hc]
        dsimp only
        rw [sN_s, f0, Nat.zero_mul, Nat.add_zero]
      · have st := hP s z f0
        have cl := canN_le (N := (nxS A (fre A p) p (md A p))) s 8
        have cn := r_can4 hA hs ht st FU 0 (by decide) (by have := @FU_gt 8 (by decide); omega)
        have cn' : f_X12_canFrom 136 (nI s) g = some (nI (canN (nxS A (fre A p) p (md A p)) s 8), g) := cn
        rw [if_neg (fun u => f0 ((lN_z fb).mp u)), cn', bd_eq]
        by_cases c0 : canN (nxS A (fre A p) p (md A p)) s 8 = 0
        · have x1 : Fi [149, 150] g (sL g 150 s (gL g 150 s + lN (f s) * lN 840)) := Fi.rf.sl (by decide)
          have hs1 := Sh.fi x1 hs
          have f8 : FU = 999999 + 1 := rfl
          rw [c0, if_pos (show nI 0 = 0 from rfl), md136_29 hs, gk150 hs, sn150 hs, gdI_nI z (by decide), md136_28 hs, gk149 hs, sn149 hs, gdI_nI z (by decide), show (840 : Int64) = lN 840 from rfl, hv s z, lg, f_X12_laysLikely_99, f8, f_X12_laysLikely_102, if_neg (by decide), if_pos (by decide), f_X12_laysLikely_173, lad1]
          obtain ⟨g2, e1, e2, e3, e4⟩ := ih (s + 1) _ hs1 (ht.fi x1 (by decide) (by decide) (by decide)) (fun c hc => by rw [gL_sLn (by decide)]; exact hv c hc) (fun c hc => by
            rw [gL_sLs]
            dsimp only
            rw [sN_s]
            have cb : cbV (nxS A (fre A p) p (md A p)) 840 s c = if c = s then 840 else 0 := by
              unfold cbV
              rw [if_pos c0]
            rw [cb]
            by_cases e : c = s
            · rw [e, pk_uLs, h5 s z, lNm, lNa, if_pos rfl]
            · rw [pk_uLn e, h5 c hc, if_neg e, Nat.mul_zero, Nat.add_zero]) (by omega) (by omega)
          exact ⟨g2, e1, x1.tr e2, e3, e4⟩
        · have c1 : 0 < canN (nxS A (fre A p) p (md A p)) s 8 := by omega
          obtain ⟨g1, e1, e2, e3, e4⟩ := r_lk102 hA st c1 (n0 := n0) (kk := nI kk) (k34 := k34) (k42 := f_X12_laysLikely_42 k34 fu) FU 0 g hs ht hv (h0 := fun c => sumN (fun s => f s * cbV (nxS A (fre A p) p (md A p)) 840 s c) s) (fun c hc => by
            rw [h5 c hc]
            rfl) (by decide) (by have := @FU_gt 8 (by decide); omega)
          rw [if_neg (nI_ne0 c1 (by omega)), f_X12_laysLikely_99, show (0 : Int32) = nI 0 from rfl, e1]
          obtain ⟨g2, d1, d2, d3, d4⟩ := ih (s + 1) g1 (Sh.fi e2 hs) (ht.fi e2 (by decide) (by decide) (by decide)) (fun c hc => by rw [e2.L (by decide)]; exact hv c hc) (fun c hc => by
            rw [e4 c hc]
            dsimp only
            rw [sN_s]
            congr 2
            unfold cbV shN
            rw [if_neg c0, if_neg (by decide), Nat.mul_assoc]) (by omega) (by omega)
          exact ⟨g2, d1, (e2.mono (by decide)).tr d2, d3.trans e3, d4⟩
    · have e : s = 1296 := by omega
      subst e
      obtain ⟨g1, e1, e2, e3, e4, e5⟩ := r_isThen (f := f) (h := nxV (nxS A (fre A p) p (md A p)) 840 1296 f) FU 0 g hs (fun c hc => by
        rw [if_neg (by omega), if_neg (by omega)]
        exact ⟨hv c hc, h5 c hc⟩) (by decide) (by have := @FU_gt 1296 (by decide); omega)
      have e1' : f_X12_isThen 136 g = some ((), g1) := e1
      rw [if_pos (lle1296 (by decide) (by decide)), e1', bd_eq, lad1]
      exact ⟨g1, rfl, e2, e3, e4, e5⟩
theorem r_lk34 (hA : Dm A) {f0 : Nat → Nat} {n : Nat} (hn : n ≤ 5) (hb : ∀ k, k ≤ n → ∀ c, c < 1296 → itV (nxS A (fre A p) p (md A p)) 840 1296 f0 k c < 2 ^ 63) (hP : ∀ k, k ≤ n → ∀ c, c < 1296 → itV (nxS A (fre A p) p (md A p)) 840 1296 f0 k c ≠ 0 → stB A (fre A p) p c = true) : ∀ fu k g, Sh g → TH A p 1296 g → RV g 149 (itV (nxS A (fre A p) p (md A p)) 840 1296 f0 k) → RV g 150 (fun _ => 0) → k ≤ n → n < fu + k → ∃ g', f_X12_laysLikely_34 fu 136 (nI n) (nI k) g = some ((), g') ∧ Fi [149, 150] g g' ∧ gI g' = gI g ∧ RV g' 149 (itV (nxS A (fre A p) p (md A p)) 840 1296 f0 n) := by
  intro fu
  induction fu with
  | zero => intro k g _ _ _ _ _ h; omega
  | succ fu ih =>
    intro k g hs ht hv h5 hk hf
    rw [f_X12_laysLikely_34]
    rcases Nat.lt_or_ge k n with z | z
    · obtain ⟨g1, e1, e2, e3, e4, e5⟩ := r_lk42 hA (hb k hk) (hP k hk) (n0 := nI n) (kk := k) (k34 := f_X12_laysLikely_34 fu) FU 0 g hs ht hv (fun c hc => h5 c hc) (by decide) (by have := @FU_gt 1296 (by decide); omega)
      rw [if_neg (nI_ge z (by omega)), show (0 : Int32) = nI 0 from rfl, e1]
      obtain ⟨g2, d1, d2, d3, d4⟩ := ih (k + 1) g1 (Sh.fi e2 hs) (ht.fi e2 (by decide) (by decide) (by decide)) e4 e5 (by omega) (by omega)
      exact ⟨g2, d1, e2.tr d2, d3.trans e3, d4⟩
    · have e : k = n := by omega
      subst e
      rw [if_pos (nI_le z (by omega))]
      exact ⟨g, rfl, Fi.rf, rfl, hv⟩
theorem r_lk12 (hA : Dm A) {f0 : Nat → Nat} {n : Nat} (hn : n ≤ 5) (hb : ∀ k, k ≤ n → ∀ c, c < 1296 → itV (nxS A (fre A p) p (md A p)) 840 1296 f0 k c < 2 ^ 63) (hP : ∀ k, k ≤ n → ∀ c, c < 1296 → itV (nxS A (fre A p) p (md A p)) 840 1296 f0 k c ≠ 0 → stB A (fre A p) p c = true) : ∀ fu k g, Sh g → TH A p 1296 g → RV g 149 f0 → (∀ c, c < k → gL g 150 c = lN 0) → k ≤ 1296 → 1296 < fu + k → ∃ g', f_X12_laysLikely_12 fu 136 (nI n) (nI k) g = some ((), g') ∧ Fi [149, 150] g g' ∧ gI g' = gI g ∧ RV g' 149 (itV (nxS A (fre A p) p (md A p)) 840 1296 f0 n) := by
  intro fu
  induction fu with
  | zero => intro k g _ _ _ _ _ h; omega
  | succ fu ih =>
    intro k g hs ht hv h5 hk hf
    rw [f_X12_laysLikely_12]
    rcases Nat.lt_or_ge k 1296 with z | z
    · have x1 : Fi [149, 150] g (sL g 150 k (lN 0)) := Fi.rf.sl (by decide)
      obtain ⟨g2, d1, d2, d3⟩ := ih (k + 1) _ (Sh.fi x1 hs) (ht.fi x1 (by decide) (by decide) (by decide)) (fun c hc => by rw [gL_sLn (by decide)]; exact hv c hc) (fun c hc => by
        rw [gL_sLs]
        rcases Nat.eq_or_lt_of_le (Nat.le_of_lt_succ hc) with w | w
        · rw [w, pk_uLs]
        · rw [pk_uLn (by omega)]
          exact h5 c w) (by omega) (by omega)
      rw [if_neg (lnge1296 z), md136_29 hs, gk150 hs, sn150 hs, gdI_nI z (by decide), nI_clamp (by omega), show (0 : Int64) = lN 0 from rfl, lg, lad1]
      exact ⟨g2, d1, x1.tr d2, d3⟩
    · rw [if_pos (lle1296 z (by omega))]
      exact r_lk34 hA hn hb hP FU 0 g hs ht hv (fun c hc => h5 c (by omega)) (Nat.zero_le _) (by have := @FU_gt n (by omega); omega)
theorem r_li5 (hs : Sh g) (hv : RV g 149 f) {t c : Nat} (ht : t < 2) (hc : c < 36) : ∀ fu k, k ≤ 1296 → 1296 < fu + k → f_X12_likelyIn_5 fu 136 (nI t) (nI c) (lN (sumN (fun s => if ow t (s / 36) (s % 36) = c then f s else 0) k)) (nI k) g = some (lN (sumN (fun s => if ow t (s / 36) (s % 36) = c then f s else 0) 1296), g) := by
  intro fu
  induction fu with
  | zero => intro k _ h; omega
  | succ fu ih =>
    intro k hk hf
    rw [f_X12_likelyIn_5]
    rcases Nat.lt_or_ge k 1296 with z | z
    · have i := ih (k + 1) (by omega) (by omega)
      rw [sN_s] at i
      have ol : ow t (k / 36) (k % 36) < 36 := ow_lt (by omega) (by omega)
      rw [if_neg (lnge1296 z), r_inStand z ht, bd_eq]
      by_cases w : ow t (k / 36) (k % 36) = c
      · rw [if_pos w] at i
        rw [if_pos (by rw [w]), md136_28 hs, gk149 hs, sn149 hs, gdI_nI z (by decide), nI_clamp (by omega), hv k z, f_X12_likelyIn_35, lNa, ll, lad1]
        exact i
      · rw [if_neg w] at i
        rw [if_neg (fun u => w ((nI_eq (by omega) (by omega)).mp u)), f_X12_likelyIn_35, show (0 : Int64) = lN 0 from rfl, lNa, ll, lad1]
        exact i
    · have e : k = 1296 := by omega
      subst e
      rw [if_pos (lle1296 (by decide) (by decide))]
/-! the greatest common divisor -/
theorem gcd_st (a b : Nat) : Nat.gcd a b = Nat.gcd b (a % b) := by
  rw [Nat.gcd_comm a b, Nat.gcd_rec b a, Nat.gcd_comm]
theorem mod_half {b r : Nat} (hr : 0 < r) (h : r < b) : 2 * (b % r) < b := by
  have h1 := Nat.mod_lt b hr
  have h2 : b % r + r ≤ b := by
    have := Nat.div_add_mod b r
    have : 1 ≤ b / r := (Nat.one_le_div_iff hr).mpr (Nat.le_of_lt h)
    have : r * 1 ≤ r * (b / r) := Nat.mul_le_mul_left _ this
    omega
  omega
theorem r_gcd : ∀ (k n a b : Nat), b < 2 ^ k → a < 2 ^ 63 → b < 2 ^ 63 → 2 * k + 1 ≤ n → R_C n (lN a) (lN b) g = some (lN (Nat.gcd a b), g) := by
  have one : ∀ n a b, a < 2 ^ 63 → b < 2 ^ 63 → 0 < b → R_C (n + 1) (lN a) (lN b) g = bd (R_C n (lN b) (lN (a % b)) g) (fun v g => some (v, g)) := fun n a b ha hb h0 => by
    show f_X12_common (R_C n) (lN a) (lN b) g = _
    rw [f_X12_common, i0l, if_neg (fun u => by
      have := (lN_z hb).mp u
      omega), gdZl_pos (fun u => by
      have := (lN_z hb).mp u
      omega), pk_lRem ha h0 hb]
  have zero : ∀ n a, R_C (n + 1) (lN a) (lN 0) g = some (lN a, g) := fun n a => by
    show f_X12_common (R_C n) (lN a) (lN 0) g = _
    rw [f_X12_common, i0l, if_pos (show lN 0 = 0 from rfl)]
  intro k
  induction k with
  | zero =>
    intro n a b hb ha _ hn
    obtain ⟨n', rfl⟩ : ∃ n', n = n' + 1 := ⟨n - 1, by omega⟩
    have : b = 0 := by omega
    subst this
    rw [zero, Nat.gcd_zero_right]
  | succ k ih =>
    intro n a b hb ha hb2 hn
    obtain ⟨n', rfl⟩ : ∃ n', n = n' + 1 + 1 := ⟨n - 2, by omega⟩
    rcases Nat.eq_zero_or_pos b with z | z
    · subst z
      rw [zero, Nat.gcd_zero_right]
    · have l1 := Nat.mod_lt a z
      rw [one _ _ _ ha hb2 z, gcd_st a b]
      rcases Nat.eq_zero_or_pos (a % b) with y | y
      · rw [y, zero, bd_eq, Nat.gcd_zero_right]
      · have l2 := Nat.mod_lt b y
        have l3 := mod_half y l1
        rw [one _ _ _ hb2 (by omega) y, ih n' (a % b) (b % (a % b)) (by rw [Nat.pow_succ] at hb; omega) (by omega) (by omega) (by omega), bd_eq, bd_eq, ← gcd_st]
theorem c_gcd : ∀ (k n i a b : Nat), b < 2 ^ k → a < 2 ^ 63 → b < 2 ^ 63 → i + 2 * k ≤ 100 → 100 < n + i → f_X11_commonDivisor_9 n (lN a) (lN b) (nI i) g = some (lN (Nat.gcd a b), g) := by
  have zero : ∀ n i a, i ≤ 100 → f_X11_commonDivisor_9 (n + 1) (lN a) (lN 0) (nI i) g = some (lN a, g) := fun n i a hi => by
    rw [f_X11_commonDivisor_9, f_X11_commonDivisor_44]
    by_cases z : 100 ≤ i
    · rw [if_pos (lle100 z (by omega))]
    · rw [if_neg (lnge100 (by omega)), if_pos (by
        rw [← Int32.not_lt, lg_cmp_gt]
        decide)]
  have one : ∀ n i a b, i < 100 → a < 2 ^ 63 → b < 2 ^ 63 → 0 < b → f_X11_commonDivisor_9 (n + 1) (lN a) (lN b) (nI i) g = f_X11_commonDivisor_9 n (lN b) (lN (a % b)) (nI (i + 1)) g := fun n i a b hi ha hb h0 => by
    rw [f_X11_commonDivisor_9, if_neg (lnge100 hi), if_neg (fun u => by
      rw [← Int32.not_lt, lg_cmp_gt] at u
      exact u ((pk_lLT (a := 0) (by decide) hb).mpr h0)), gdZl_pos (fun u => by
      have := (lN_z hb).mp u
      omega), pk_lRem ha h0 hb, ll, lad1]
  intro k
  induction k with
  | zero =>
    intro n i a b hb ha _ hi hn
    obtain ⟨n', rfl⟩ : ∃ n', n = n' + 1 := ⟨n - 1, by omega⟩
    have : b = 0 := by omega
    subst this
    rw [zero _ _ _ (by omega), Nat.gcd_zero_right]
  | succ k ih =>
    intro n i a b hb ha hb2 hi hn
    obtain ⟨n', rfl⟩ : ∃ n', n = n' + 1 + 1 := ⟨n - 2, by omega⟩
    rcases Nat.eq_zero_or_pos b with z | z
    · subst z
      rw [zero _ _ _ (by omega), Nat.gcd_zero_right]
    · have l1 := Nat.mod_lt a z
      rw [one _ _ _ _ (by omega) ha hb2 z, gcd_st a b]
      rcases Nat.eq_zero_or_pos (a % b) with y | y
      · rw [y, zero _ _ _ (by omega), Nat.gcd_zero_right]
      · have l2 := Nat.mod_lt b y
        have l3 := mod_half y l1
        rw [one _ _ _ _ (by omega) hb2 (by omega) y, ih n' (i + 1 + 1) (a % b) (b % (a % b)) (by rw [Nat.pow_succ] at hb; omega) (by omega) (by omega) (by omega) (by omega), ← gcd_st]
end ODR
