/-! ERRANDS: both tell the same. -/
section ERQ
variable {X : Nat → Prop} {A : Nat → Int32} {g g' : G} {p n : Nat} {q pg lg' dg : Nat → Nat}
def EX (A : Nat → Int32) (p : Nat) (g : G) (n : Nat) (q : Nat → Nat) (sz e : Nat) (nd pa la dp : Nat → Nat) : Prop := BF (eE A p) (fun j => 4 * q (nd j / 4) + nd j % 4) pa la dp sz e 0 ∧ ER g n sz nd pa la dp ∧ e ≤ sz ∧ (∀ j, j < e → nd j % 4 ≠ 3) ∧ ((e < sz ∧ nd e % 4 = 3 ∧ gI g 22 4 = nI (nd e)) ∨ (e = sz ∧ gI g 22 4 = -1)) ∧ sz ≤ 928
theorem c_ee110 (hA : Dm A) (hq : ∀ i, i < n → stB A (fre A p) p (q i) = true) (hn : n ≤ 232) (hB0 : BF (nxS A (fre A p) p (md A p)) q pg lg' dg n n 0) : ∀ fu i g sz nd pa la dp, IE A p g n q pg lg' dg sz i 0 nd pa la dp → i ≤ sz → (∀ j, j < i → nd j % 4 ≠ 3) → 1000 < fu + i → ∃ g' sz' e nd' pa' la' dp', f_X2_explore_110 fu 22 2 (A (46 + 2 * p)) (A (46 + 2 * p + 1)) (nI sz) (nI i) g = some ((), g') ∧ Fi Se g g' ∧ EX A p g' n q sz' e nd' pa' la' dp' ∧ nd' 0 = nd 0 := by
  intro fu
  induction fu with
  | zero =>
    intro i g sz nd pa la dp h hi _ hf
    have := IE.sz h.2.2.2.1 h.2.2.2.2.1 hn
    omega
  | succ fu ih =>
    intro i g sz nd pa la dp h hi hno hf
    obtain ⟨hs, hG, hN, hB, hE, h4, hab⟩ := id h
    have s928 := IE.sz hB hE hn
    rw [f_X2_explore_110]
    rcases Nat.lt_or_ge i sz with z | z
    · obtain ⟨r1, r2, r3, -⟩ := hE.1 i z
      rw [if_neg (nI_ge z (by omega)), if_neg (lnge1024 (by omega)), md22_0 hs, gk23 hs, sn23 hs, gdI_nI (by omega) (by decide), nI_clamp (by omega), r1, li, ldi4 (by omega), lmo4]
      by_cases w : nd i % 4 = 3
      · rw [if_pos (show nI (nd i % 4) = 3 by rw [w]; rfl), lg]
        refine ⟨_, sz, i, nd, pa, la, dp, rfl, Fi.rf.si (by decide), ⟨hB, ?_, hi, hno, Or.inl ⟨z, w, by rw [gI_sIs]; exact pk_us⟩, s928⟩, rfl⟩
        unfold ER
        rw [gI_sIn (show 23 ≠ 22 by decide), gI_sIn (show 24 ≠ 22 by decide), gI_sIn (show 25 ≠ 22 by decide), gI_sIn (show 26 ≠ 22 by decide)]
        exact hE
      · rw [if_neg (show ¬ nI (nd i % 4) = 3 from fun u => w ((nI_eq (b := 3) (by omega) (by decide)).mp u))]
        obtain ⟨g1, sz1, nd1, pa1, la1, dp1, u1, u2, u3, u4, u5⟩ := c_ee152 hA hq hn hB0 (k110 := f_X2_explore_110 fu) FU 0 g sz nd pa la dp h z w (by decide) (by have := @FU_gt 8 (by decide); omega)
        rw [show (0 : Int32) = nI 0 from rfl, u1]
        obtain ⟨g2, sz2, e, nd2, pa2, la2, dp2, v1, v2, v3, v4⟩ := ih (i + 1) g1 sz1 nd1 pa1 la1 dp1 u3 (by omega) (fun j hj => by
          rw [u5 j (by omega)]
          rcases Nat.eq_or_lt_of_le (Nat.le_of_lt_succ hj) with y | y
          · rw [y]; exact w
          · exact hno j y) (by omega)
        exact ⟨g2, sz2, e, nd2, pa2, la2, dp2, v1, u2.tr v2, v3, v4.trans (u5 0 (by omega))⟩
    · rw [if_pos (nI_le z (by omega))]
      exact ⟨g, sz, i, nd, pa, la, dp, rfl, Fi.rf, ⟨hB, hE, hi, hno, Or.inr ⟨by omega, h4⟩, s928⟩, rfl⟩
/-- who is in its errand's cell has done it -/
def VEp (A : Nat → Int32) (p : Nat) : Prop := (nI (tw A (2 * p)) = A (46 + 2 * p) → dn A p % 2 = 1) ∧ (nI (tw A (2 * p + 1)) = A (46 + 2 * p + 1) → dn A p / 2 % 2 = 1)
theorem or_4d : ∀ d, d < 4 → ∀ a, a < 2 → ∀ b, b < 2 → (d ||| (a + 2 * b)) = (d ||| a ||| 2 * b) ∧ (d ||| (a + 2 * b)) < 4 ∧ (d % 2 = 1 → (d ||| 0 ||| 2 * b) = (d ||| 1 ||| 2 * b)) ∧ (d / 2 % 2 = 1 → (d ||| a ||| 0) = (d ||| a ||| 2)) := by
  intro d hd a ha b hb
  obtain rfl | rfl | rfl | rfl : d = 0 ∨ d = 1 ∨ d = 2 ∨ d = 3 := by omega
  all_goals (obtain rfl | rfl : a = 0 ∨ a = 1 := by omega)
  all_goals (obtain rfl | rfl : b = 0 ∨ b = 1 := by omega)
  all_goals decide
theorem and4 : ∀ a, a < 4 → nI a &&& 3 = nI a := by decide +kernel
def aB (x : Int32) : Nat := if x = -1 then 1 else 0
theorem aB_lt (x : Int32) : aB x < 2 := by
  unfold aB
  split <;> decide
theorem eN_ab (h : RS A g) (hp : p < nv A 3) (hV : VEp A p) : dnI A p (36 * tw A (2 * p) + tw A (2 * p + 1)) (dn A p) = (dn A p ||| (aB (A (46 + 2 * p)) + 2 * aB (A (46 + 2 * p + 1)))) := by
  have cl := h.cl
  obtain ⟨t1, t2, -⟩ := now_lt h hp
  obtain ⟨d1, d2⟩ := @cd_dm (tw A (2 * p)) (tw A (2 * p + 1)) (by omega)
  have o2 := (h.2.2.2.1.o hp).2
  have d4 : dn A p < 4 := by omega
  have e0 : dnb A p 0 (36 * tw A (2 * p) + tw A (2 * p + 1)) = aB (A (46 + 2 * p)) ∨ (dn A p % 2 = 1 ∧ dnb A p 0 (36 * tw A (2 * p) + tw A (2 * p + 1)) = 1 ∧ aB (A (46 + 2 * p)) = 0) := by
    unfold dnb aB
    rw [show ow 0 ((36 * tw A (2 * p) + tw A (2 * p + 1)) / 36) ((36 * tw A (2 * p) + tw A (2 * p + 1)) % 36) = (36 * tw A (2 * p) + tw A (2 * p + 1)) / 36 from rfl, d1, show 46 + 2 * p + 0 = 46 + 2 * p from rfl]
    by_cases z : A (46 + 2 * p) = -1
    · rw [if_pos (Or.inl z), if_pos z]
      exact Or.inl rfl
    · rw [if_neg z]
      by_cases w : nI (tw A (2 * p)) = A (46 + 2 * p)
      · rw [if_pos (Or.inr w)]
        exact Or.inr ⟨hV.1 w, rfl, rfl⟩
      · rw [if_neg (fun u => u.elim z w)]
        exact Or.inl rfl
  have e1 : dnb A p 1 (36 * tw A (2 * p) + tw A (2 * p + 1)) = 2 * aB (A (46 + 2 * p + 1)) ∨ (dn A p / 2 % 2 = 1 ∧ dnb A p 1 (36 * tw A (2 * p) + tw A (2 * p + 1)) = 2 ∧ aB (A (46 + 2 * p + 1)) = 0) := by
    unfold dnb aB
    rw [show ow 1 ((36 * tw A (2 * p) + tw A (2 * p + 1)) / 36) ((36 * tw A (2 * p) + tw A (2 * p + 1)) % 36) = (36 * tw A (2 * p) + tw A (2 * p + 1)) % 36 from rfl, d2]
    by_cases z : A (46 + 2 * p + 1) = -1
    · rw [if_pos (Or.inl z), if_pos z]
      exact Or.inl rfl
    · rw [if_neg z]
      by_cases w : nI (tw A (2 * p + 1)) = A (46 + 2 * p + 1)
      · rw [if_pos (Or.inr w)]
        exact Or.inr ⟨hV.2 w, rfl, rfl⟩
      · rw [if_neg (fun u => u.elim z w)]
        exact Or.inl rfl
  have a0 := aB_lt (A (46 + 2 * p))
  have a1 := aB_lt (A (46 + 2 * p + 1))
  unfold dnI
  rw [(or_4d _ d4 _ a0 _ a1).1]
  have x1 : (dn A p ||| dnb A p 0 (36 * tw A (2 * p) + tw A (2 * p + 1)) ||| 2 * aB (A (46 + 2 * p + 1))) = (dn A p ||| aB (A (46 + 2 * p)) ||| 2 * aB (A (46 + 2 * p + 1))) := by
    rcases e0 with z | ⟨z1, z2, z3⟩
    · rw [z]
    · rw [z2, z3]
      exact ((or_4d _ d4 0 (by decide) _ a1).2.2.1 z1).symm
  rcases e1 with z | ⟨z1, z2, z3⟩
  · rw [z, x1]
  · rw [z3] at x1 ⊢
    rw [z2]
    have b0 : dnb A p 0 (36 * tw A (2 * p) + tw A (2 * p + 1)) < 2 := by
      rcases e0 with u | ⟨-, u, -⟩
      · rw [u]; exact a0
      · rw [u]; decide
    rw [← (or_4d _ d4 _ b0 0 (by decide)).2.2.2 z1]
    exact x1
theorem ab_ok (hd : dn A p < 4) : AB A p (dn A p ||| (aB (A (46 + 2 * p)) + 2 * aB (A (46 + 2 * p + 1)))) := by
  have a0 := aB_lt (A (46 + 2 * p))
  have a1 := aB_lt (A (46 + 2 * p + 1))
  have o := or_4c _ hd _ a0 _ a1
  rw [(or_4d _ hd _ a0 _ a1).1]
  refine ⟨fun u => ?_, fun u => ?_⟩
  · rw [o.2.2.1, if_pos (by unfold aB; rw [if_pos u])]
  · rw [o.2.2.2.1, if_pos (by unfold aB; rw [if_pos u])]
theorem c_eexplore (hR : RS A g) (hD : BD X g 47 A) (hX : XO X) (hp : p < nv A 3) (hV : VEp A p) (hs : Sh g) (hB0 : BF (nxS A (fre A p) p (md A p)) q pg lg' dg n n 0) (hG : GRw g 2 n q pg lg' dg) (hN : GNx (nxS A (fre A p) p (md A p)) g 2 n q n 0) (hq : ∀ i, i < n → stB A (fre A p) p (q i) = true) (hn : n ≤ 232) (h0 : q 0 = 36 * tw A (2 * p) + tw A (2 * p + 1)) : ∃ g' sz e nd pa la dp, f_X2_explore 22 2 47 (nI p) g = some ((), g') ∧ Fi Se g g' ∧ EX A p g' n q sz e nd pa la dp ∧ 4 * q (nd 0 / 4) + nd 0 % 4 = eN A p := by
  have hA := hR.2.2.1
  have k3 := hR.k3
  have n0 := hB0.1.1
  obtain ⟨o1, o2⟩ := hR.2.2.2.1.o hp
  have d4 : dn A p < 4 := by omega
  have a0 := aB_lt (A (46 + 2 * p))
  have a1 := aB_lt (A (46 + 2 * p + 1))
  have od := (or_4d _ d4 _ a0 _ a1).2.1
  have oi := (or4 _ d4 (aB (A (46 + 2 * p)) + 2 * aB (A (46 + 2 * p + 1))) (by omega)).1
  obtain ⟨g1, e1, e2, e3, e4⟩ := c_fill (g := g) (a := 26) (len := 1024) (by decide) (sn26 hs) (-1)
  have x2 : Fi Se g (sI g1 22 4 (-1)) := (e2.mono (by decide)).si (by decide)
  have hs2 := Sh.fi x2 hs
  have noX : ∀ a ∈ Se, ¬ X a := hX.no (by decide)
  have hD2 := hD.fa x2.a noX (by decide)
  obtain ⟨qq, q1, q2⟩ := hD2.2.1
  obtain ⟨ea, ea1, ea2, ea3⟩ := q2.2.2.2.2.2.2.2.1
  obtain ⟨g4, hg4⟩ : ∃ g4, g4 = sI (sI (sI g1 22 4 (-1)) 23 0 (nI (dn A p ||| (aB (A (46 + 2 * p)) + 2 * aB (A (46 + 2 * p + 1)))))) 26 (dn A p ||| (aB (A (46 + 2 * p)) + 2 * aB (A (46 + 2 * p + 1)))) (nI 0) := ⟨_, rfl⟩
  have x4 : Fi Se g g4 := by
    rw [hg4]
    exact (x2.si (by decide)).si (by decide)
  have f23 : gI g4 23 0 = nI (dn A p ||| (aB (A (46 + 2 * p)) + 2 * aB (A (46 + 2 * p + 1)))) := by
    rw [hg4, gI_sIn (by decide), gI_sIs]
    exact pk_us
  have f26 : ∀ k, k < 1024 → gI g4 26 k = if k = (dn A p ||| (aB (A (46 + 2 * p)) + 2 * aB (A (46 + 2 * p + 1)))) then nI 0 else -1 := fun k hk => by
    rw [hg4, gI_sIs, gI_sIn (by decide), gI_sIn (by decide)]
    by_cases z : k = (dn A p ||| (aB (A (46 + 2 * p)) + 2 * aB (A (46 + 2 * p + 1))))
    · rw [if_pos z, z, pk_us]
    · rw [if_neg z, pk_un z]
      exact e4 k hk
  have hI : IE A p g4 n q pg lg' dg 1 0 0 (ins id 0 (dn A p ||| (aB (A (46 + 2 * p)) + 2 * aB (A (46 + 2 * p + 1))))) (ins id 0 0) (ins id 0 0) (ins id 0 0) := by
    refine ⟨Sh.fi x4 hs, hG.fi x4 (fun k hk u => by simp only [Se, List.mem_cons, List.not_mem_nil, or_false] at u; omega), hN.fi x4 (fun k hk u => by simp only [Se, List.mem_cons, List.not_mem_nil, or_false] at u; omega), ?_, ⟨fun j hj => ?_, fun k k1 k2 => ?_⟩, ?_, fun j hj => ?_⟩
    · exact ⟨⟨by decide, ins_s⟩, fun i j h1 h2 _ => by omega, fun i l y h => by omega, fun j h1 h2 => by omega, fun i j h1 h2 h3 => by omega⟩
    · rw [show j = 0 by omega, ins_s, ins_s]
      exact ⟨f23, by omega, by rw [f26 _ (by omega), if_pos rfl], fun u => by omega⟩
    · have := k2 0 (by decide)
      rw [ins_s] at this
      rw [f26 k k1, if_neg (fun u => this u.symm)]
    · rw [hg4, gI_sIn (by decide), gI_sIn (by decide), gI_sIs]
      exact pk_us
    · rw [show j = 0 by omega, ins_s, Nat.mod_eq_of_lt od]
      exact ab_ok d4
  obtain ⟨g5, sz, e, nd, pa, la, dp, v1, v2, v3, v4⟩ := c_ee110 hA hq hn hB0 FU 0 g4 1 _ _ _ _ hI (by decide) (fun j hj => by omega) (by have := @FU_gt 1000 (by decide); omega)
  rw [ins_s] at v4
  refine ⟨g5, sz, e, nd, pa, la, dp, ?_, x4.tr v2, v3, ?_⟩
  · have c72 : ∀ a b : Nat, a = aB (A (46 + 2 * p)) → b = 2 * aB (A (46 + 2 * p + 1)) → f_X2_explore_72 22 2 47 (nI p) (A (46 + 2 * p)) (A (46 + 2 * p + 1)) (nI b) (nI a) (sI g1 22 4 (-1)) = some ((), g5) := fun a b ha hb => by
      rw [f_X2_explore_72, nI_add, li, md22_0 hs2, hD2.1.2.2.2.2.1, dr_eq, gdK_pos hD2.1.2.2.2.2.2.1, hD2.1.2.2.2.2.2.2, gdI_nI (by omega) (by decide), nI_clamp (by omega), hD2.2.2.2.2.2.2 p hp, gk23 hs2, sn23 hs2, show (0 : Int32) = nI 0 from rfl, gdI_nI (by decide) (by decide), nI_clamp (by decide), ha, hb, oi, and4 _ od, lg, gR_sI, md22_3 hs2, gdK_sI, gk26 hs2, gN_sI, sn26 hs2, show gI (sI (sI g1 22 4 (-1)) 23 0 (nI (dn A p ||| (aB (A (46 + 2 * p)) + 2 * aB (A (46 + 2 * p + 1)))))) 23 0 = nI (dn A p ||| (aB (A (46 + 2 * p)) + 2 * aB (A (46 + 2 * p + 1)))) by rw [gI_sIs]; exact pk_us, gdI_nI (by omega) (by decide), nI_clamp (by omega), lg, ← hg4]
      exact v1
    have c61 : ∀ a : Nat, a = aB (A (46 + 2 * p)) → f_X2_explore_61 22 2 47 (nI p) (A (46 + 2 * p)) (A (46 + 2 * p + 1)) (nI a) (sI g1 22 4 (-1)) = some ((), g5) := fun a ha => by
      rw [f_X2_explore_61]
      by_cases z : A (46 + 2 * p + 1) = -1
      · rw [if_pos z]
        exact c72 a 2 ha (by unfold aB; rw [if_pos z])
      · rw [if_neg z]
        exact c72 a 0 ha (by unfold aB; rw [if_neg z])
    rw [f_X2_explore, md22_3 hs, gk26 hs, e1, bd_eq, lg, c_isPairN hD2 hA hp, bd_eq, ibT, q1, dr_eq, gdK_pos q2.2.1, ea2.1, dr_eq, gdK_pos ea2.2.1, ea2.2.2, lum2, lad1, gdI_nI (by omega) (by decide), li, gdI_nI (by omega) (by decide), li, nI_clamp (show 2 * p < 2 ^ 31 by omega), nI_clamp (show 2 * p + 1 < 2 ^ 31 by omega), show gI (sI g1 22 4 (-1)) ea (2 * p) = A (46 + 2 * p) from ea3 _ (by omega), show gI (sI g1 22 4 (-1)) ea (2 * p + 1) = A (46 + 2 * p + 1) from ea3 _ (by omega)]
    by_cases z : A (46 + 2 * p) = -1
    · rw [if_pos z]
      exact c61 1 (by unfold aB; rw [if_pos z])
    · rw [if_neg z]
      exact c61 0 (by unfold aB; rw [if_neg z])
  · rw [v4]
    unfold eN
    rw [eN_ab hR hp hV, Nat.div_eq_of_lt od, Nat.mod_eq_of_lt od, h0]
variable {sz e : Nat} {nd pa la dp : Nat → Nat}
theorem c_elen (hs : Sh g) (hX : EX A p g n q sz e nd pa la dp) (hn : n ≤ 232) : f_X2_length 22 g = some (if e < sz then nI (dp e) else -1, g) := by
  rw [f_X2_length]
  rcases hX.2.2.2.2.1 with ⟨h1, h2, h3⟩ | ⟨h1, h2⟩
  · obtain ⟨r1, r2, r3, -⟩ := hX.2.1.1 e h1
    rw [h3, if_pos (nI_pos' (by omega)), md22_3 hs, gk26 hs, sn26 hs, gdI_nI (by omega) (by decide), nI_clamp (by omega), r3, if_pos h1]
  · rw [h2, if_neg (by decide), if_neg (by omega)]
theorem c_el21 (hs : Sh g) (hX : EX A p g n q sz e nd pa la dp) (hn : n ≤ 232) (he : e < sz) {i : Nat} (hi : i < dp e) : ∀ fu k, k + i < dp e → dp e < fu + k → f_X2_leadAt_21 fu 22 (nI i) (nI (nd (anc pa e k))) (nI k) g = some (nI (la (anc pa e (dp e - 1 - i))), g) := by
  have hB := hX.1
  have hE := hX.2.1
  have s928 := hX.2.2.2.2.2
  have dl := hB.dp_le e he
  intro fu
  induction fu with
  | zero => intro k h1 h2; omega
  | succ fu ih =>
    intro k h1 h2
    obtain ⟨a1, a2, a3⟩ := hB.anc_d he k (by omega)
    have p0 : 0 < anc pa e k := by
      rcases Nat.eq_zero_or_pos (anc pa e k) with z | z
      · rw [z, hB.1.2] at a2
        omega
      · exact z
    obtain ⟨r1, r2, r3, r4⟩ := hE.1 _ a1
    obtain ⟨r5, r6⟩ := r4 p0
    rw [f_X2_leadAt_21, if_neg (lnge1024 (by omega)), md22_3 hs, gk26 hs, sn26 hs, gdI_nI (by omega) (by decide), nI_clamp (by omega), r3, lad1]
    by_cases z : dp (anc pa e k) ≤ i + 1
    · rw [if_pos (nI_le z (by omega)), f_X2_leadAt_53, md22_2 hs, gk25 hs, sn25 hs, gdI_nI (by omega) (by decide), nI_clamp (by omega), r6, show dp e - 1 - i = k by omega]
    · rw [if_neg (nI_ge (Nat.lt_of_not_le z) (by omega)), md22_1 hs, gk24 hs, sn24 hs, gdI_nI (by omega) (by decide), li, r5, lad1]
      exact ih (k + 1) (by omega) (by omega)
theorem c_elead (hs : Sh g) (hX : EX A p g n q sz e nd pa la dp) (hn : n ≤ 232) {i : Nat} (hi : i < 2 ^ 31) : f_X2_leadAt 22 (nI i) g = some (if e < sz ∧ i < dp e then nI (la (anc pa e (dp e - 1 - i))) else -1, g) := by
  rw [f_X2_leadAt, if_neg (nI_pos hi), c_elen hs hX hn, bd_eq]
  by_cases z : e < sz
  · have dl := hX.1.dp_le e z
    have s928 := hX.2.2.2.2.2
    have g4 : gI g 22 4 = nI (nd e) := by
      rcases hX.2.2.2.2.1 with ⟨h1, h2, h3⟩ | ⟨h1, h2⟩
      · exact h3
      · omega
    rw [if_pos z]
    by_cases w : i < dp e
    · rw [if_pos (nI_lt w (by omega)), if_pos ⟨z, w⟩, li, g4]
      exact c_el21 hs hX hn z w FU 0 (by omega) (by have := @FU_gt (dp e) (by omega); omega)
    · rw [if_neg (nI_nlt (by omega) hi), if_neg (fun u => w u.2)]
  · rw [if_neg z, if_neg (show ¬ nI i < -1 from fun u => by
      rw [Int32.lt_iff_toInt_lt, nI_toInt hi] at u
      have : (-1 : Int32).toInt = -1 := rfl
      omega), if_neg (fun u => z u.1)]
/-- as far, and the same leads -/
theorem er_found (hA : Dm A) (hq : ∀ i, i < n → stB A (fre A p) p (q i) = true) (hX : EX A p g n q sz e nd pa la dp) : LE A p (4 * q (nd 0 / 4) + nd 0 % 4) = (if e < sz then dp e else 1073741824) ∧ (e < sz → dp e ≤ 928 ∧ anc pa e (dp e) = 0 ∧ ∀ k, k < dp e → eP A p ((fun j => 4 * q (nd j / 4) + nd j % 4) (anc pa e (dp e - k))) = true ∧ 0 < LE A p ((fun j => 4 * q (nd j / 4) + nd j % 4) (anc pa e (dp e - k))) ∧ LE A p ((fun j => 4 * q (nd j / 4) + nd j % 4) (anc pa e (dp e - k))) < 1073741824 ∧ la (anc pa e (dp e - 1 - k)) < 8 ∧ (eE A p) ((fun j => 4 * q (nd j / 4) + nd j % 4) (anc pa e (dp e - k))) (la (anc pa e (dp e - 1 - k))) = some ((fun j => 4 * q (nd j / 4) + nd j % 4) (anc pa e (dp e - (k + 1)))) ∧ LE A p ((fun j => 4 * q (nd j / 4) + nd j % 4) (anc pa e (dp e - (k + 1)))) + 1 = LE A p ((fun j => 4 * q (nd j / 4) + nd j % 4) (anc pa e (dp e - k))) ∧ ∀ l' y, l' < la (anc pa e (dp e - 1 - k)) → (eE A p) ((fun j => 4 * q (nd j / 4) + nd j % 4) (anc pa e (dp e - k))) l' = some y → LE A p y + 1 ≠ LE A p ((fun j => 4 * q (nd j / 4) + nd j % 4) (anc pa e (dp e - k)))) := by
  obtain ⟨hB, hE, h1, h2, h3, h4⟩ := hX
  have eq : ∀ j, j < sz → eP A p ((fun j => 4 * q (nd j / 4) + nd j % 4) j) = true := fun j hj => by
    have := (hE.1 j hj).2.1
    unfold eP
    dsimp only
    rw [show (4 * q (nd j / 4) + nd j % 4) / 4 = q (nd j / 4) by omega]
    exact hq _ (by omega)
  have hL := LF_E hA eq
  have q3 : ∀ j, LE A p ((fun j => 4 * q (nd j / 4) + nd j % 4) j) = 0 ↔ nd j % 4 = 3 := fun j => by
    rw [LE_0 hA]
    dsimp only
    omega
  rcases h3 with ⟨a1, a2, a3⟩ | ⟨a1, a2⟩
  · have dl := hB.dp_le e a1
    have g0 := (q3 e).mpr a2
    have g1 : ∀ i, i < e → LE A p ((fun j => 4 * q (nd j / 4) + nd j % 4) i) ≠ 0 := fun i hi u => h2 i hi ((q3 i).mp u)
    have fd := hB.found hL a1 (Nat.le_refl _) g0 g1 (by omega)
    rw [if_pos a1]
    refine ⟨fd, fun _ => ⟨by omega, ?_, fun k hk => ?_⟩⟩
    · obtain ⟨b1, b2, b3⟩ := hB.anc_d a1 (dp e) (Nat.le_refl _)
      rcases Nat.eq_zero_or_pos (anc pa e (dp e)) with u | u
      · exact u
      · have := hB.d0 b1 u
        omega
    · obtain ⟨w1, w2, w3, w4, w5, w6, w7⟩ := hB.way hL a1 (Nat.le_refl _) g0 g1 (by omega) (j := dp e - 1 - k) (by omega)
      obtain ⟨b1, -, -⟩ := hB.anc_d a1 (dp e - k) (by omega)
      have j1 : dp e - 1 - k + 1 = dp e - k := by omega
      have j2 : dp e - (k + 1) = dp e - 1 - k := by omega
      rw [j1] at w4 w6 w7
      rw [j2]
      have e4 : LE A p ((fun j => 4 * q (nd j / 4) + nd j % 4) (anc pa e (dp e - k))) = dp e - k := w4
      have e3 : LE A p ((fun j => 4 * q (nd j / 4) + nd j % 4) (anc pa e (dp e - 1 - k))) = dp e - 1 - k := w3
      refine ⟨eq _ b1, ?_, ?_, w5, w6, ?_, w7⟩
      · rw [e4]
        omega
      · rw [e4]
        omega
      · rw [e4, e3]
        omega
  · subst a1
    rw [if_neg (Nat.lt_irrefl _)]
    refine ⟨Nat.le_antisymm (LE_le _) ?_, fun u => absurd u (Nat.lt_irrefl _)⟩
    exact hB.far hL (fun i hi u => h2 i hi ((q3 i).mp u))
end ERQ
