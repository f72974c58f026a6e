/-! FILLS; THE STEPPER IS AIMED. -/
section FIL
variable {g g' : G}
theorem gI_sR {a k : Nat} {v : Option Nat} : gI (sR g a k v) = gI g := rfl
theorem gL_sR {a k : Nat} {v : Option Nat} : gL (sR g a k v) = gL g := rfl
theorem gR_sRs {a k : Nat} {v : Option Nat} : gR (sR g a k v) a = va_up (gR g a) k v := va_up_self _ _ _
theorem gR_sRn {a b k : Nat} {v : Option Nat} (h : b ≠ a) : gR (sR g a k v) b = gR g b := va_up_ne _ _ h
theorem c_fill_5 {a len : Nat} (hl : len < 2 ^ 31) (v : Int32) : ∀ n k g, gN g a = len → k ≤ len → len < n + k → ∃ g', f_J7_fill_53178_5 n a v (nI k) (nI len) g = some ((), g') ∧ Fi [a] g g' ∧ gL g' = gL g ∧ (∀ j, k ≤ j → j < len → gI g' a j = v) ∧ ∀ j, j < k ∨ len ≤ j → gI g' a j = gI g a j := by
  intro n
  induction n with
  | zero => intro k g _ h1 h2; omega
  | succ n ih =>
    intro k g hN hk hn
    rw [f_J7_fill_53178_5]
    rcases Nat.lt_or_ge k len with q | q
    · rw [if_neg (nI_ge q hl), hN, gdI_nI q hl, lg, nI_clamp (by omega), lad1]
      obtain ⟨g2, e1, e2, e3, e4, e5⟩ := ih (k + 1) (sI g a k v) hN (by omega) (by omega)
      refine ⟨g2, e1, (Fi.rf.si (List.mem_singleton.mpr rfl)).tr e2, e3, fun j j1 j2 => ?_, fun j j1 => ?_⟩
      · rcases Nat.eq_or_lt_of_le j1 with z | z
        · rw [e5 j (by omega), gI_sIs, ← z]
          exact pk_us
        · exact e4 j z j2
      · rw [e5 j (by omega), gI_sIs]
        exact pk_un (by omega)
    · rw [if_pos (nI_le q (by omega))]
      exact ⟨g, rfl, Fi.rf, rfl, fun j j1 j2 => by omega, fun _ _ => rfl⟩
theorem c_fill {a len : Nat} (hl : len < 100000) (hN : gN g a = len) (v : Int32) : ∃ g', f_J7_fill_53178 a v g = some ((), g') ∧ Fi [a] g g' ∧ gL g' = gL g ∧ (∀ j, j < len → gI g' a j = v) := by
  obtain ⟨g2, e1, e2, e3, e4, -⟩ := c_fill_5 (show len < 2 ^ 31 by omega) v FU 0 g hN (Nat.zero_le _) (by have := FU_gt hl; omega)
  rw [f_J7_fill_53178, li, hN]
  exact ⟨g2, e1, e2, e3, fun j hj => e4 j (Nat.zero_le _) hj⟩
theorem c_fillL_6 {a len : Nat} (hl : len < 2 ^ 31) (v : Int64) : ∀ n k g, gN g a = len → k ≤ len → len < n + k → ∃ g', f_J7_fill_d0a16_6 n a v (nI k) (nI len) g = some ((), g') ∧ Fi [a] g g' ∧ gI g' = gI g ∧ (∀ j, k ≤ j → j < len → gL g' a j = v) ∧ ∀ j, j < k ∨ len ≤ j → gL g' a j = gL g a j := by
  intro n
  induction n with
  | zero => intro k g _ h1 h2; omega
  | succ n ih =>
    intro k g hN hk hn
    rw [f_J7_fill_d0a16_6]
    rcases Nat.lt_or_ge k len with q | q
    · rw [if_neg (nI_ge q hl), hN, gdI_nI q hl, lg, nI_clamp (by omega), lad1]
      obtain ⟨g2, e1, e2, e3, e4, e5⟩ := ih (k + 1) (sL g a k v) hN (by omega) (by omega)
      refine ⟨g2, e1, (Fi.rf.sl (List.mem_singleton.mpr rfl)).tr e2, e3, fun j j1 j2 => ?_, fun j j1 => ?_⟩
      · rcases Nat.eq_or_lt_of_le j1 with z | z
        · rw [e5 j (by omega), gL_sLs, ← z]
          exact pk_uLs
        · exact e4 j z j2
      · rw [e5 j (by omega), gL_sLs]
        exact pk_uLn (by omega)
    · rw [if_pos (nI_le q (by omega))]
      exact ⟨g, rfl, Fi.rf, rfl, fun j j1 j2 => by omega, fun _ _ => rfl⟩
theorem c_fillL {a len : Nat} (hl : len < 100000) (hN : gN g a = len) (v : Int64) : ∃ g', f_J7_fill_d0a16 a v g = some ((), g') ∧ Fi [a] g g' ∧ gI g' = gI g ∧ (∀ j, j < len → gL g' a j = v) := by
  obtain ⟨g2, e1, e2, e3, e4, -⟩ := c_fillL_6 (show len < 2 ^ 31 by omega) v FU 0 g hN (Nat.zero_le _) (by have := FU_gt hl; omega)
  rw [f_J7_fill_d0a16, li, hN]
  exact ⟨g2, e1, e2, e3, fun j hj => e4 j (Nat.zero_le _) hj⟩
end FIL
section AIM
variable {X : Nat → Prop} {A : Nat → Int32} {F : Nat → Bool} {p m ag b q : Nat} {g g' : G}
theorem BS.fa {S : List Nat} (h : BS g b) (x : Fa S g g') (hb : b ∉ S) : BS g' b := by
  obtain ⟨h1, h2, h3, h4, h5⟩ := h
  have e := x.R h1 hb
  refine ⟨h1.fa x, ?_, ?_, ?_, ?_⟩
  · rw [e]; exact h2.fa x
  · rw [e]; exact h3.fa x
  · rw [e]; exact h4.fa x
  · rw [e]; exact h5.fa x
theorem BD.fa {S : List Nat} (h : BD X g b A) (x : Fa S g g') (hS : ∀ a ∈ S, ¬ X a) (hb : ∀ a ∈ S, a < b ∨ b + 4 < a) : BD X g' b A := by
  have no : ∀ k, k ≤ 4 → b + k ∉ S := fun k hk z => by
    have := hb _ z
    omega
  obtain ⟨h1, ⟨q, q1, q2⟩, h3, h4, h5, h6, h7⟩ := h
  have k0 : b ∉ S := no 0 (by decide)
  refine ⟨h1.fa x k0, ⟨q, ?_, q2.fa x hS⟩, ?_, ?_, ?_, ?_, ?_⟩
  · rw [x.R h1.1 k0]; exact q1
  · rw [x.L h1.1 k0]; exact h3
  · rw [x.I h1.2.1.2.1 (no 1 (by decide))]; exact h4
  · rw [x.I h1.2.2.1.2.1 (no 2 (by decide))]; exact h5
  · rw [x.I h1.2.2.2.1.2.1 (no 3 (by decide))]; exact h6
  · rw [x.I h1.2.2.2.2.2.1 (no 4 (by decide))]; exact h7
def RGp (n W a b : Nat) (f : Nat → Int64) : Prop := ∀ d c e, d ≤ 10 → c < 36 → e < 64 → bt (f (d * 36 + c)) e = decide ((c < n ∧ e < n ∧ apS W c e = d) ∧ (c < a ∨ (c = a ∧ e < b)))
theorem c_rg51 (hX : XO X) (hA : Dm A) {a : Nat} (ha : a < cS A) {k32 : Nat → Int32 → G → Option (Unit × G)} : ∀ n b g, Sh g → gR g 68 1 = some q → PR X g q A → b ≤ cS A → 36 < n + b → RGp (cS A) (nv A 2) a b (gL g 70) → ∃ g', f_X9_drawRings_51 k32 n 68 (nI a) (nI b) g = k32 68 (nI (a + 1)) g' ∧ Fi [70] g g' ∧ gI g' = gI g ∧ RGp (cS A) (nv A 2) (a + 1) 0 (gL g' 70) := by
  have cl := cS_le hA
  intro n
  induction n with
  | zero => intro b g _ _ _ _ h; omega
  | succ n ih =>
    intro b g hs q1 q2 hb hn hr
    rw [f_X9_drawRings_51, q1, dr_eq, gdK_pos q2.2.1, q2.2.2.1.2.2.1]
    rcases Nat.lt_or_ge b (cS A) with z | z
    · have ap := apS_10 hA ha z
      have mx : ∀ d c, d ≤ 10 → c < 36 → d * 36 + c = apS (nv A 2) a b * 36 + a → d = apS (nv A 2) a b ∧ c = a := fun d c h1 h2 h3 => by omega
      rw [if_neg (nI_ge z (by omega)), if_neg (lnge36 (by omega)), c_apart q2 hA ha z, bd_eq, if_neg (lngt10 ap), md68_4 hs, gk70 hs, sn70 hs, lmu36, nI_add, gdI_nI (by omega) (by decide), lg, f_X9_drawRings_101, nI_clamp (by omega), lad1]
      have x1 : Fi [70] g (sL g 70 (apS (nv A 2) a b * 36 + a) (gL g 70 (apS (nv A 2) a b * 36 + a) ||| (1 : Int64) <<< ((nI b).toInt64 &&& 63))) := Fi.rf.sl (by decide)
      obtain ⟨g2, e1, e2, e3, e4⟩ := ih (b + 1) _ (Sh.fi x1 hs) q1 (q2.fa x1.a (hX.no (by decide))) (by omega) (by omega) (fun d c e d1 c1 e1 => by
        rw [gL_sLs]
        by_cases k : d * 36 + c = apS (nv A 2) a b * 36 + a
        · obtain ⟨k1, k2⟩ := mx d c d1 c1 k
          rw [k, pk_uLs, bt_or, bt_one (by omega), ← k, hr d c e d1 c1 e1, Bool.eq_iff_iff]
          simp only [Bool.or_eq_true, decide_eq_true_eq]
          constructor
          · rintro (⟨u1, u2⟩ | u)
            · exact ⟨u1, by omega⟩
            · exact ⟨⟨by omega, by omega, by rw [k1, k2, u]⟩, by omega⟩
          · rintro ⟨u1, u2⟩
            by_cases w : e = b
            · exact Or.inr w
            · exact Or.inl ⟨u1, by omega⟩
        · rw [pk_uLn k, hr d c e d1 c1 e1, decide_eq_decide]
          constructor
          · rintro ⟨u1, u2⟩
            exact ⟨u1, by omega⟩
          · rintro ⟨u1, u2⟩
            refine ⟨u1, ?_⟩
            rcases u2 with u2 | ⟨u2, u3⟩
            · exact Or.inl u2
            · refine Or.inr ⟨u2, ?_⟩
              rcases Nat.eq_or_lt_of_le (Nat.le_of_lt_succ u3) with w | w
              · exfalso
                apply k
                rw [← u1.2.2, u2, w]
              · exact w)
      exact ⟨g2, e1, x1.tr e2, e3, e4⟩
    · have e : b = cS A := by omega
      rw [if_pos (nI_le z (by omega)), f_X9_drawRings_107, lad1]
      refine ⟨g, rfl, Fi.rf, rfl, fun d c e1 d1 c1 e2 => ?_⟩
      rw [hr d c e1 d1 c1 e2, decide_eq_decide]
      constructor
      · rintro ⟨u1, u2⟩
        exact ⟨u1, by omega⟩
      · rintro ⟨u1, u2⟩
        exact ⟨u1, by omega⟩
theorem c_rg32 (hX : XO X) (hA : Dm A) : ∀ n a g, Sh g → gR g 68 1 = some q → PR X g q A → a ≤ cS A → 36 < n + a → RGp (cS A) (nv A 2) a 0 (gL g 70) → ∃ g', f_X9_drawRings_32 n 68 (nI a) g = some ((), g') ∧ Fi [70] g g' ∧ gI g' = gI g ∧ RG (nv A 1) (nv A 2) (gL g' 70) := by
  have cl := cS_le hA
  intro n
  induction n with
  | zero => intro a g _ _ _ _ h; omega
  | succ n ih =>
    intro a g hs q1 q2 ha hn hr
    rw [f_X9_drawRings_32, q1, dr_eq, gdK_pos q2.2.1, q2.2.2.1.2.2.1]
    rcases Nat.lt_or_ge a (cS A) with z | z
    · rw [if_neg (nI_ge z (by omega)), if_neg (lnge36 (by omega))]
      obtain ⟨g1, e1, e2, e3, e4⟩ := c_rg51 hX hA z (k32 := f_X9_drawRings_32 n) FU 0 g hs q1 q2 (Nat.zero_le _) (by have := @FU_gt 36 (by decide); omega) hr
      obtain ⟨g2, d1, d2, d3, d4⟩ := ih (a + 1) g1 (Sh.fi e2 hs) (by rw [e2.R]; exact q1) (q2.fa e2.a (hX.no (by decide))) (by omega) (by omega) e4
      rw [show (0 : Int32) = nI 0 from rfl, e1]
      exact ⟨g2, d1, e2.tr d2, d3.trans e3, d4⟩
    · rw [if_pos (nI_le z (by omega))]
      refine ⟨g, rfl, Fi.rf, rfl, fun d c e d1 c1 e1 => ?_⟩
      rw [hr d c e d1 c1 e1, decide_eq_decide]
      have hcs : cS A = nv A 1 * nv A 2 := rfl
      constructor
      · rintro ⟨u1, u2⟩
        exact u1
      · rintro u
        exact ⟨u, by
          have := u.1
          omega⟩
theorem c_drawRings (hX : XO X) (hA : Dm A) (hs : Sh g) (q1 : gR g 68 1 = some q) (q2 : PR X g q A) : ∃ g', f_X9_drawRings 68 g = some ((), g') ∧ Fi [68, 70] g g' ∧ gI g' 68 = upd (upd (gI g 68) 5 (A 1)) 6 (A 2) ∧ gL g' 68 = gL g 68 ∧ RG (nv A 1) (nv A 2) (gL g' 70) := by
  obtain ⟨g1, e1, e2, e3, e4⟩ := c_fillL (g := g) (a := 70) (len := 396) (by decide) (sn70 hs) 0
  have s1 := Sh.fi e2 hs
  have p1 := q2.fa e2.a (hX.no (by decide))
  have x2 : Fi [68, 70] g (sI (sI g1 68 5 (gI g1 q 0)) 68 6 (gI (sI g1 68 5 (gI g1 q 0)) q 1)) := ((e2.mono (by decide)).si (by decide)).si (by decide)
  have p2 := q2.fa x2.a (hX.no (by decide))
  have nq := hX.ne q2.1 (show 68 < 42 ∨ (46 < 68 ∧ 68 < 155) by omega)
  obtain ⟨g2, d1, d2, d3, d4⟩ := c_rg32 hX hA FU 0 _ (Sh.fi x2 hs) (by rw [x2.R]; exact q1) p2 (Nat.zero_le _) (by have := @FU_gt 36 (by decide); omega) (fun d c e h1 h2 h3 => by
    rw [gL_sI, gL_sI, e4 _ (by omega), bt_0, eq_comm, decide_eq_false_iff_not]
    omega)
  rw [f_X9_drawRings, md68_4 hs, gk70 hs, e1, bd_eq, e2.R, q1, dr_eq, gdK_pos p1.2.1, lg, lg]
  refine ⟨g2, d1, x2.tr (d2.mono (by decide)), ?_, ?_, d4⟩
  · rw [d3, gI_sIs, gI_sIs, gI_sIn nq, p1.2.2.1.1, p1.2.2.1.2.1, e3]
  · rw [d2.L (by decide), gL_sI, gL_sI, e2.L (by decide)]
/-- the stepper between calls: its ages, its rings -/
def SI (ag : Nat) (g : G) : Prop := MI ag g ∧ ∃ R W, R ≤ 6 ∧ W ≤ 6 ∧ gI g 68 5 = nI R ∧ gI g 68 6 = nI W ∧ (R = 0 ∨ RG R W (gL g 70))
theorem SI.fa {S : List Nat} (h : SI ag g) (hs : Sh g) (x : Fa S g g') (no : ∀ k, 68 ≤ k → k ≤ 75 → k ∉ S) : SI ag g' := by
  unfold SI MI
  rw [x.I (sk68 hs) (no _ (by decide) (by decide)), x.I (sk71 hs) (no _ (by decide) (by decide)), x.I (sk73 hs) (no _ (by decide) (by decide)), x.L (sk70 hs) (no _ (by decide) (by decide))]
  exact h
theorem Sh.aim (hs : Sh g) {S : List Nat} (x : Fq S g g') (h68 : ∀ k, k ≠ 1 → gR g' 68 k = gR g 68 k) (hS : ∀ a, a ∈ S → a = 68 ∨ (∀ q ∈ shF, q.1 ≠ a)) : Sh g' := Sh.fq x hs (fun q hq hm => by
  rcases hS _ hm with e | e
  · have h1 : shF.all (fun q => decide (q.1 = 68 → q.2.1 ≠ 1)) = true := by decide +kernel
    have := of_decide_eq_true (List.all_eq_true.mp h1 q hq) e
    rw [e, h68 _ this, ← e]
    exact hs.2.2 q hq
  · exact absurd rfl (e q hq))
theorem c_aim (h : BD X g b A) (hE : EV X A p) (hs : Sh g) (hI : SI ag g) (hag : ag + 1 < 2 ^ 30) (hb : ∀ a ∈ [68, 69, 70], a < b ∨ b + 4 < a) : ∃ g', f_X9_aim 68 b (nI p) g = some ((), g') ∧ Fq [68, 69, 70] g g' ∧ SP X A (fre A p) p (md A p) (ag + 1) g' ∧ SI (ag + 1) g' := by
  obtain ⟨hX, hA, hB, hL, hp⟩ := id hE
  have k3 := hA.2.2.2.2.2.2.2
  have cl := cS_le hA
  obtain ⟨q, q1, q2⟩ := h.2.1
  have nS : ∀ a ∈ [68, 69, 70], ¬ X a := hX.no (by decide)
  have nb : b ∉ [68, 69, 70] := fun z => by
    have := hb _ z
    omega
  have nbk : ∀ k, k ≤ 4 → b + k ≠ 68 ∧ b + k ≠ 69 := fun k hk => by
    have a1 := hb 68 (by decide)
    have a2 := hb 69 (by decide)
    omega
  have x1 : Fq [68, 69, 70] g (sR g 68 1 (some q)) := Fq.rf.sr (by decide)
  have b1 := h.fa x1.a nS hb
  obtain ⟨r, r1, r2⟩ := c_freeFor b1 hA hB (show p ≤ 3 by omega)
  obtain ⟨⟨m1, m2, m3, m4⟩, R, W, R6, W6, w1, w2, w3⟩ := hI
  have nq := hX.ne q2.1 (show 68 < 42 ∨ (46 < 68 ∧ 68 < 155) by omega)
  have nq9 := hX.ne q2.1 (show 69 < 42 ∨ (46 < 69 ∧ 69 < 155) by omega)
  have gs : ∀ k, k ≠ 1 → gR (sR g 68 1 (some q)) 68 k = gR g 68 k := fun k hk => by
    rw [gR_sRs]
    exact va_up_ne _ _ hk
  have sS : ∀ a, a ∈ [68, 69, 70] → a = 68 ∨ (∀ q ∈ shF, q.1 ≠ a) := fun a ha => by
    have h1 : shF.all (fun q => decide (q.1 ≠ 69 ∧ q.1 ≠ 70)) = true := by decide +kernel
    simp only [List.mem_cons, List.not_mem_nil, or_false] at ha
    rcases ha with e | e | e
    · exact Or.inl e
    · exact Or.inr (fun q hq => by rw [e]; exact (of_decide_eq_true (List.all_eq_true.mp h1 q hq)).1)
    · exact Or.inr (fun q hq => by rw [e]; exact (of_decide_eq_true (List.all_eq_true.mp h1 q hq)).2)
  have s1 : Sh (sR g 68 1 (some q)) := hs.aim x1 gs sS
  obtain ⟨G5, hG5⟩ : ∃ G5, G5 = sI (sI (sI (sI (sL (sR g 68 1 (some q)) 68 0 r) 68 2 (nI (sp A p))) 69 0 (nI p)) 69 2 (nI (md A p))) 68 11 (nI (ag + 1)) := ⟨_, rfl⟩
  have x5 : Fq [68, 69, 70] g G5 := by
    rw [hG5]
    exact ((((x1.sl (by decide)).si (by decide)).si (by decide)).si (by decide)).si (by decide)
  have s5 : Sh G5 := by
    rw [hG5]
    exact s1
  have e68 : gI G5 68 = upd (upd (gI g 68) 2 (nI (sp A p))) 11 (nI (ag + 1)) := by
    rw [hG5, gI_sIs, gI_sIn (by decide), gI_sIn (by decide), gI_sIs]
    rfl
  have e69 : gI G5 69 = upd (upd (gI g 69) 0 (nI p)) 2 (nI (md A p)) := by
    rw [hG5, gI_sIn (by decide), gI_sIs, gI_sIs, gI_sIn (by decide)]
    rfl
  have l68 : gL G5 68 0 = r := by
    rw [hG5]
    show gL (sL (sR g 68 1 (some q)) 68 0 r) 68 0 = r
    rw [gL_sLs]
    exact pk_uLs
  have l70 : gL G5 70 = gL g 70 := by
    rw [hG5]
    show gL (sL (sR g 68 1 (some q)) 68 0 r) 70 = _
    rw [gL_sLn (by decide)]
    rfl
  have r68 : gR G5 68 1 = some q := by
    rw [hG5]
    show gR (sR g 68 1 (some q)) 68 1 = _
    rw [gR_sRs]
    exact va_up_self _ _ _
  have p5 : PR X G5 q A := q2.fa x5.a nS
  have ev : f_X9_aim 68 b (nI p) g = if nI R = A 1 then (if nI W = A 2 then some ((), G5) else f_X9_aim_81 68 G5) else f_X9_aim_81 68 G5 := by
    rw [f_X9_aim, c_isPairN h hA hp, bd_eq, ibT, q1, dr_eq, lg, r1, bd_eq, lg]
    rw [show gR (sL (sR g 68 1 (some q)) 68 0 r) b 3 = gR (sR g 68 1 (some q)) b 3 from rfl, b1.1.2.2.1.1, dr_eq, show gdK (α := Unit × G) (sL (sR g 68 1 (some q)) 68 0 r) (b + 2) 14 = gdK (sR g 68 1 (some q)) (b + 2) 14 from rfl, gdK_pos b1.1.2.2.1.2.1, show gN (sL (sR g 68 1 (some q)) 68 0 r) (b + 2) = 3 from b1.1.2.2.1.2.2, gdI_nI (by omega) (by decide), nI_clamp (by omega), show gI (sL (sR g 68 1 (some q)) 68 0 r) (b + 2) p = nI (sp A p) from b1.2.2.2.2.1 p hp, lg]
    rw [show gR (sI (sL (sR g 68 1 (some q)) 68 0 r) 68 2 (nI (sp A p))) 68 3 = gR (sR g 68 1 (some q)) 68 3 from rfl, md68_3 s1, show gdK (α := Unit × G) (sI (sL (sR g 68 1 (some q)) 68 0 r) 68 2 (nI (sp A p))) 69 14 = gdK (sR g 68 1 (some q)) 69 14 from rfl, gk69 s1, show gN (sI (sL (sR g 68 1 (some q)) 68 0 r) 68 2 (nI (sp A p))) 69 = 8 from sn69 s1, show (0 : Int32) = nI 0 from rfl, gdI_nI (by decide) (by decide), nI_clamp (by decide), lg]
    rw [show gR (sI (sI (sL (sR g 68 1 (some q)) 68 0 r) 68 2 (nI (sp A p))) 69 0 (nI p)) b 4 = gR (sR g 68 1 (some q)) b 4 from rfl, b1.1.2.2.2.1.1, dr_eq, show gdK (α := Unit × G) (sI (sI (sL (sR g 68 1 (some q)) 68 0 r) 68 2 (nI (sp A p))) 69 0 (nI p)) (b + 3) 14 = gdK (sR g 68 1 (some q)) (b + 3) 14 from rfl, gdK_pos b1.1.2.2.2.1.2.1, show gN (sI (sI (sL (sR g 68 1 (some q)) 68 0 r) 68 2 (nI (sp A p))) 69 0 (nI p)) (b + 3) = 3 from b1.1.2.2.2.1.2.2, gdI_nI (by omega) (by decide), gI_sIn (nbk 3 (by decide)).2, gI_sIn (nbk 3 (by decide)).1, show gI (sL (sR g 68 1 (some q)) 68 0 r) (b + 3) p = nI (md A p) from b1.2.2.2.2.2.1 p hp]
    rw [f_X9_assume, show gR (sI (sI (sL (sR g 68 1 (some q)) 68 0 r) 68 2 (nI (sp A p))) 69 0 (nI p)) 68 3 = gR (sR g 68 1 (some q)) 68 3 from rfl, md68_3 s1, show gdK (α := Unit × G) (sI (sI (sL (sR g 68 1 (some q)) 68 0 r) 68 2 (nI (sp A p))) 69 0 (nI p)) 69 14 = gdK (sR g 68 1 (some q)) 69 14 from rfl, gk69 s1, show gN (sI (sI (sL (sR g 68 1 (some q)) 68 0 r) 68 2 (nI (sp A p))) 69 0 (nI p)) 69 = 8 from sn69 s1, show (2 : Int32) = nI 2 from rfl, gdI_nI (by decide) (by decide), nI_clamp (by decide), lg, lg]
    rw [show gI (sI (sI (sI (sL (sR g 68 1 (some q)) 68 0 r) 68 2 (nI (sp A p))) 69 0 (nI p)) 69 2 (nI (md A p))) 68 11 + (1 : Int32) = nI (ag + 1) by
      rw [gI_sIn (by decide), gI_sIn (by decide), gI_sIs, pk_un (by decide), show gI (sL (sR g 68 1 (some q)) 68 0 r) 68 11 = gI g 68 11 from rfl, m1, lad1], ← hG5, bd_eq, r68, dr_eq, gdK_pos p5.2.1, p5.2.2.1.1, p5.2.2.1.2.1, e68, pk_un (by decide), pk_un (by decide), pk_un (by decide), pk_un (by decide), w1, w2]
  have mi : ∀ g2, gI g2 68 11 = nI (ag + 1) → gI g2 71 = gI g 71 → gI g2 73 = gI g 73 → MI (ag + 1) g2 := fun g2 y1 y2 y3 => ⟨y1, hag, fun i hi => by
    obtain ⟨j, j1, j2⟩ := m3 i hi
    exact ⟨j, by omega, by rw [y2]; exact j2⟩, fun i hi => by
    obtain ⟨j, j1, j2⟩ := m4 i hi
    exact ⟨j, by omega, by rw [y3]; exact j2⟩⟩
  have fin : ∀ g2, Sh g2 → gR g2 68 1 = some q → PR X g2 q A → gI g2 69 = gI G5 69 → gI g2 68 2 = gI G5 68 2 → gI g2 68 11 = gI G5 68 11 → gL g2 68 0 = r → gI g2 71 = gI g 71 → gI g2 73 = gI g 73 → RG (nv A 1) (nv A 2) (gL g2 70) → SP X A (fre A p) p (md A p) (ag + 1) g2 := fun g2 y1 y2 y3 y4 y5 y6 y7 y8 y9 y10 => by
    refine ⟨⟨y1, ⟨q, y2, y3⟩, by rw [y7]; exact r2, ?_, ?_, ?_, y10⟩, mi g2 ?_ y8 y9, fun _ t a c ht ha hc z => ?_, fun _ t a c ht ha hc z => ?_⟩
    · rw [y5, e68, pk_un (by decide)]
      exact pk_us
    · rw [y4, e69, pk_un (by decide)]
      exact pk_us
    · rw [y4, e69]
      exact pk_us
    · rw [y6, e68]
      exact pk_us
    · obtain ⟨j, j1, j2⟩ := m3 _ (mp_lt ht (show a < 36 by omega) (show c < 36 by omega))
      rw [y8, j2, nI_eq (by omega) (by omega)] at z
      omega
    · obtain ⟨j, j1, j2⟩ := m4 _ (mp_lt ht (show a < 36 by omega) (show c < 36 by omega))
      rw [y9, j2, nI_eq (by omega) (by omega)] at z
      omega
  have d81 : ∃ g', f_X9_aim_81 68 G5 = some ((), g') ∧ Fq [68, 69, 70] g g' ∧ SP X A (fre A p) p (md A p) (ag + 1) g' ∧ SI (ag + 1) g' := by
    obtain ⟨g6, d1, d2, d3, d4, d5⟩ := c_drawRings hX hA s5 r68 p5
    rw [f_X9_aim_81, d1, bd_eq]
    have y8 : gI g6 71 = gI g 71 := by rw [d2.I (by decide), x5.I (by decide)]
    have y9 : gI g6 73 = gI g 73 := by rw [d2.I (by decide), x5.I (by decide)]
    have y6 : gI g6 68 11 = gI G5 68 11 := by rw [d3, pk_un (by decide), pk_un (by decide)]
    refine ⟨g6, rfl, x5.tr (d2.q.mono (by decide)), fin g6 (Sh.fi d2 s5) (by rw [d2.R]; exact r68) (p5.fa d2.a (hX.no (by decide))) (d2.I (by decide)) (by rw [d3, pk_un (by decide), pk_un (by decide)]) y6 (by rw [d4]; exact l68) y8 y9 d5, mi g6 (by rw [y6, e68]; exact pk_us) y8 y9, nv A 1, nv A 2, hA.2.2.1, hA.2.2.2.2.2.1, ?_, ?_, Or.inr d5⟩
    · rw [d3, pk_un (by decide), hA.1.symm]
      exact pk_us
    · rw [d3, hA.2.2.2.1.symm]
      exact pk_us
  rw [ev]
  by_cases u1 : nI R = A 1
  · rw [if_pos u1]
    by_cases u2 : nI W = A 2
    · rw [if_pos u2]
      have eR : R = nv A 1 := by
        rw [hA.1, nI_eq (by omega) (by have := hA.2.2.1; omega)] at u1
        exact u1
      have eW : W = nv A 2 := by
        rw [hA.2.2.2.1, nI_eq (by omega) (by have := hA.2.2.2.2.2.1; omega)] at u2
        exact u2
      have y8 : gI G5 71 = gI g 71 := x5.I (by decide)
      have y9 : gI G5 73 = gI g 73 := x5.I (by decide)
      have rg : RG (nv A 1) (nv A 2) (gL G5 70) := by
        rw [l70, ← eR, ← eW]
        exact w3.resolve_left (by have := hA.2.1; omega)
      refine ⟨G5, rfl, x5, fin G5 s5 r68 p5 rfl rfl rfl l68 y8 y9 rg, mi G5 (by rw [e68]; exact pk_us) y8 y9, nv A 1, nv A 2, hA.2.2.1, hA.2.2.2.2.2.1, ?_, ?_, Or.inr rg⟩
      · rw [e68, pk_un (by decide), pk_un (by decide), w1, eR]
      · rw [e68, pk_un (by decide), pk_un (by decide), w2, eW]
    · rw [if_neg u2]
      exact d81
  · rw [if_neg u1]
    exact d81
end AIM
