/-! A PAIR is put on the draft. -/
section PUT
variable {X : Nat → Prop} {A F : Nat → Int32} {g g' : G} {b p x y q : Nat}
theorem c_free_9 (h : BD X g b A) (hA : Dm A) {p : Nat} (hp : p ≤ 3) (hw : ∀ c, c < 36 → wl A c ≤ 1) (htw : ∀ i, i < 2 * nv A 3 → i / 2 ≠ p → tw A i < 36) : ∀ n k (m : Int64), k ≤ 6 → 6 < n + k → (∀ c, c < 64 → bt m c = decide ((c < 36 ∧ wl A c = 1) ∨ ∃ i, i < k ∧ i < 2 * nv A 3 ∧ i / 2 ≠ p ∧ tw A i = c)) → ∃ r, f_X0_freeFor_8 n b (nI p) m (nI k) g = some (r, g) ∧ FM A (fre A p) r := by
  have k3 := hA.2.2.2.2.2.2.2
  have cl := cS_le hA
  intro n
  induction n with
  | zero => intro k m h1 h2; omega
  | succ n ih =>
    intro k m h1 h2 hm
    rw [f_X0_freeFor_8]
    rcases Nat.lt_or_ge k 6 with hk | hk
    · have skip : ¬ (k < 2 * nv A 3 ∧ k / 2 ≠ p) → ∃ r, f_X0_freeFor_46 (f_X0_freeFor_8 n) b (nI p) m (nI k) g = some (r, g) ∧ FM A (fre A p) r := fun hx => by
        rw [f_X0_freeFor_46, nI_1]
        refine ih (k + 1) m hk (by omega) (fun c hc => ?_)
        rw [hm c hc, decide_eq_decide]
        constructor
        · exact fun z => z.elim Or.inl (fun ⟨i, i1, i2⟩ => Or.inr ⟨i, by omega, i2⟩)
        · refine fun z => z.elim Or.inl (fun ⟨i, i1, i2, i3, i4⟩ => Or.inr ⟨i, ?_, i2, i3, i4⟩)
          rcases Nat.lt_or_ge i k with y | y
          · exact y
          · have : i = k := by omega
            subst this
            exact absurd ⟨i2, i3⟩ hx
      rw [if_neg (lnge6 hk), show (2 : Int32) = nI 2 from rfl, pk_div (by omega) (by decide) (by decide)]
      by_cases e1 : k / 2 = p
      · rw [if_pos (by rw [e1])]
        exact skip (fun z => z.2 e1)
      · rw [if_neg (fun z => e1 ((nI_eq (by omega) (by omega)).mp z)), c_isPair h hA, inR_nI (by omega), bd_eq]
        by_cases e2 : k < 2 * nv A 3
        · have t2 := htw k e2 e1
          rw [decide_eq_true (show k / 2 < nv A 3 by omega), ibT, c_tw h hk, nI_clamp (by omega), h.2.2.2.1 k e2, ll, f_X0_freeFor_46, nI_1]
          refine ih (k + 1) _ hk (by omega) (fun c hc => ?_)
          rw [bt_or, hm c hc, bt_one (by omega), ← Bool.decide_or, decide_eq_decide]
          constructor
          · rintro ((z | ⟨i, i1, i2⟩) | z)
            · exact Or.inl z
            · exact Or.inr ⟨i, by omega, i2⟩
            · exact Or.inr ⟨k, by omega, e2, e1, z.symm⟩
          · rintro (z | ⟨i, i1, i2, i3, i4⟩)
            · exact Or.inl (Or.inl z)
            · rcases Nat.lt_or_ge i k with y | y
              · exact Or.inl (Or.inr ⟨i, y, i2, i3, i4⟩)
              · have : i = k := by omega
                subst this
                exact Or.inr i4.symm
        · rw [decide_eq_false (show ¬ k / 2 < nv A 3 by omega), ibF]
          exact skip (fun z => e2 z.1)
    · have : k = 6 := by omega
      subst this
      obtain ⟨q, q1, q2⟩ := h.2.1
      rw [if_pos (lle6 (Nat.le_refl _) (by decide)), q1, dr_eq, gdK_pos q2.2.1]
      refine ⟨_, rfl, fun c hc => ?_⟩
      rw [bt_and, q2.2.2.2.1 c hc, bt_not hc, hm c hc, ← decide_not]
      by_cases e : c < cS A
      · have w2 := hw c (by omega)
        rw [decide_eq_true e, Bool.true_and, Bool.true_and]
        unfold fre
        rw [decide_eq_decide]
        constructor
        · intro z
          refine ⟨?_, fun i i1 i2 i3 => z (Or.inr ⟨i, by omega, i1, i2, i3⟩)⟩
          have : ¬ wl A c = 1 := fun y => z (Or.inl ⟨by omega, y⟩)
          omega
        · rintro ⟨z1, z2⟩ (⟨y1, y2⟩ | ⟨i, i1, i2, i3, i4⟩)
          · omega
          · exact z2 i i2 i3 i4
      · rw [decide_eq_false e]
        rfl
theorem c_isFree9 (h : BD X g b A) (hA : Dm A) {p c : Nat} (hp : p ≤ 3) (hw : ∀ c, c < 36 → wl A c ≤ 1) (htw : ∀ i, i < 2 * nv A 3 → i / 2 ≠ p → tw A i < 36) (hc : c < cS A) : f_X0_isFreeFor b (nI p) (nI c) g = some (fre A p c, g) := by
  have cl := cS_le hA
  obtain ⟨q, q1, q2⟩ := h.2.1
  obtain ⟨r, r1, r2⟩ := c_free_9 h hA hp hw htw FU 0 (gL g b 1) (by decide) (FU_gt (by decide)) (fun c hc => by
    rw [h.2.2.1 c hc, decide_eq_decide]
    exact ⟨Or.inl, fun z => z.elim id (fun ⟨i, i1, _⟩ => by omega)⟩)
  have r1' : f_X0_freeFor b (nI p) g = some (r, g) := r1
  rw [f_X0_isFreeFor, q1, dr_eq, gdK_pos q2.2.1, c_isCellN q2 hA hc, bd_eq, ibT, r1', bd_eq, ibt (by omega), r2 c (by omega), decide_eq_true hc, Bool.true_and]
  cases fre A p c <;> rfl
theorem c_place2 (h : BD X g b A) (hX : ∀ k, k ≤ 4 → ¬ X (b + k)) (hA : Dm A) (hw : ∀ c, c < 36 → wl A c ≤ 1) (htw : ∀ i, i < 2 * nv A 3 → i / 2 ≠ p → tw A i < 36) (hp : p < nv A 3) (hx : x < cS A) (hy : y < cS A) (fx : fre A p x = true) (fy : fre A p y = true) : ∃ r g', f_X0_place b (nI p) (nI x) (nI y) g = some (r, g') ∧ Fi [b + 1, b + 2, b + 4] g g' ∧ gL g' = gL g ∧ gI g' (b + 1) = upd (upd (gI g (b + 1)) (2 * p) (nI x)) (2 * p + 1) (nI y) ∧ gI g' (b + 2) = upd (gI g (b + 2)) p (nI (apS (nv A 2) x y)) ∧ gI g' (b + 4) p = nI (dnw A p x y 0) ∧ ∀ r, r ≠ p → gI g' (b + 4) r = gI g (b + 4) r := by
  have cl := cS_le hA
  have k3 := hA.2.2.2.2.2.2.2
  obtain ⟨q, q1, q2⟩ := h.2.1
  have x1 : Fi [b + 2, b + 4] g (sI (sI g (b + 2) p (nI (apS (nv A 2) x y))) (b + 4) p 0) := (Fi.rf.si (by simp)).si (by simp)
  have hS1 := h.1.fi x1
  have nX1 : ∀ a ∈ [b + 2, b + 4], ¬ X a := nX2 hX (by simp)
  obtain ⟨g2, e1, e2, e3, e4, e5, e6⟩ := c_go0 (x := x) (y := y) (d := 0) hS1 (by rw [x1.R]; exact q1) (q2.fa x1.a nX1) (hX 1 (by decide)) (hX 4 (by decide)) hA hp (by omega) (by omega) (by rw [gI_sIs, pk_us]; rfl) (by decide)
  have y2 : Fi [b + 1, b + 2, b + 4] g g2 := (x1.mono (by simp)).tr (e2.mono (by simp))
  have xS : Fi [b + 2] g (sI g (b + 2) p (nI (apS (nv A 2) x y))) := Fi.rf.si (by simp)
  have bS := h.1.fi xS
  have e1' : f_X0_go b (nI p) (nI x * 64 + nI y) (sI (sI g (b + 2) p (nI (apS (nv A 2) x y))) (b + 4) p 0) = some ((), g2) := by
    rw [lmu64, nI_add, Nat.mul_comm x 64]
    exact e1
  have bG : BS g2 b := hS1.fi e2
  have i2 : gI g2 (b + 2) = upd (gI g (b + 2)) p (nI (apS (nv A 2) x y)) := by
    rw [e2.I (by simp), gI_sIn (by omega), gI_sIs]
  refine ⟨nI (apS (nv A 2) x y), g2, ?_, y2, e3, ?_, i2, e5, fun r hr => ?_⟩
  · rw [f_X0_place, c_isPairN h hA hp, bd_eq, ibT, q1, dr_eq, gdK_pos q2.2.1, c_isCellN q2 hA hx, bd_eq, ibT, q1, dr_eq, gdK_pos q2.2.1, c_isCellN q2 hA hy, bd_eq, ibT, c_isFree9 h hA (by omega) hw htw hx, bd_eq, fx, ibT, c_isFree9 h hA (by omega) hw htw hy, bd_eq, fy, ibT, h.1.2.2.1.1, dr_eq, q1, dr_eq, gdK_pos q2.2.1, c_apart q2 hA hx hy, bd_eq, gdK_pos h.1.2.2.1.2.1, h.1.2.2.1.2.2, gdI_nI (by omega) (by decide), nI_clamp (show p < 2 ^ 31 by omega), lg, bS.2.2.2.2.get (by omega) (by decide), lg, e1', bd_eq, bG.2.2.1.get (by omega) (by decide), i2, pk_us]
  · rw [e4, gI_sIn (by omega), gI_sIn (by omega)]
  · rw [e6 r hr, gI_sIs, pk_un hr, gI_sIn (by omega)]
/-- the row with a pair more, told nowhere -/
def zR (F : Nat → Int32) (p : Nat) : Nat → Int32 := fun j => if j = 88 + 2 * p ∨ j = 88 + 2 * p + 1 ∨ j = 94 + p ∨ j = 100 + p then 0 else fnR (upd F 3 (nI (p + 1))) j
theorem z3 (hp : p < 3) : nv (upd F 3 (nI (p + 1))) 3 = p + 1 := by
  unfold nv
  rw [pk_us, nI_clamp (by omega)]
theorem zv {k : Nat} (hk : k ≠ 3) : nv (upd F 3 (nI (p + 1))) k = nv F k := by
  unfold nv
  rw [pk_un hk]
theorem zR_n {j : Nat} (h1 : j ≠ 88 + 2 * p) (h2 : j ≠ 88 + 2 * p + 1) (h3 : j ≠ 94 + p) (h4 : j ≠ 100 + p) : zR F p j = fnR (upd F 3 (nI (p + 1))) j := if_neg (by omega)
theorem zR_v {j : Nat} (h1 : j ≠ 88 + 2 * p) (h2 : j ≠ 88 + 2 * p + 1) (h3 : j ≠ 94 + p) (h4 : j ≠ 100 + p) : nv (zR F p) j = nv (fnR (upd F 3 (nI (p + 1)))) j := by
  unfold nv
  rw [zR_n h1 h2 h3 h4]
theorem zR_lo (hp : p < 3) {j : Nat} (hj : (j < 52 ∧ j ≠ 3) ∨ (97 ≤ j ∧ j < 100) ∨ 103 ≤ j) : zR F p j = F j := by
  rw [zR_n (by omega) (by omega) (by omega) (by omega), fn_lo (by rw [z3 hp]; omega) (by omega), pk_un (by omega)]
theorem zR_lv (hp : p < 3) {j : Nat} (hj : (j < 52 ∧ j ≠ 3) ∨ (97 ≤ j ∧ j < 100) ∨ 103 ≤ j) : nv (zR F p) j = nv F j := by
  unfold nv
  rw [zR_lo hp hj]
theorem zR_3 (hp : p < 3) : zR F p 3 = nI (p + 1) := by
  rw [zR_n (by omega) (by omega) (by omega) (by omega), fn_lo (by rw [z3 hp]; omega) (by omega), pk_us]
theorem zR_3v (hp : p < 3) : nv (zR F p) 3 = p + 1 := by
  unfold nv
  rw [zR_3 hp, nI_clamp (by omega)]
theorem zR_wl (hp : p < 3) {c : Nat} (hc : c < 36) : wl (zR F p) c = if F (10 + c) = nI 9 then 1 else 0 := by
  unfold wl
  rw [zR_v (by omega) (by omega) (by omega) (by omega)]
  have := fn_wl (F := upd F 3 (nI (p + 1))) hc
  unfold wl at this
  rw [this, pk_un (by omega)]
theorem zR_tw (hp : p < 3) {i : Nat} (hi : i < 2 * p) : tw (zR F p) i = tw F i := by
  unfold tw
  rw [zR_v (by omega) (by omega) (by omega) (by omega), fn_n (by rw [z3 hp]; omega) (by omega), zv (by omega)]
theorem zR_t0 {i : Nat} (h : i = 2 * p ∨ i = 2 * p + 1) : tw (zR F p) i = 0 := by
  unfold tw nv zR
  rw [if_pos (by omega)]
  rfl
theorem zR_dm (hp : p < 3) (hA : Dm F) : Dm (zR F p) := by
  unfold Dm
  rw [zR_lv hp (by omega), zR_lv hp (by omega), zR_lo hp (by omega), zR_lo hp (by omega), zR_3v hp, zR_3 hp]
  exact ⟨hA.1, hA.2.1, hA.2.2.1, hA.2.2.2.1, hA.2.2.2.2.1, hA.2.2.2.2.2.1, rfl, by omega⟩
theorem zR_c (hp : p < 3) : cS (zR F p) = cS F := by
  unfold cS
  rw [zR_lv hp (by omega), zR_lv hp (by omega)]
theorem zR_bd (hs : Sh g) (h : PQ g q F) (d : DQ g F) (hW : WQ F) (hq : gR g 63 0 = some q) (q155 : 155 ≤ q) (pk : nv F 3 = p) (hp : p < 3) : BD (fun a => q ≤ a) (sI g q 4 (nI (p + 1))) 63 (zR F p) := by
  have hA := hW.1
  have x : Fi [q] g (sI g q 4 (nI (p + 1))) := Fi.rf.si (by simp)
  obtain ⟨h1, h2, h3, ⟨h4, h5, h6, h7⟩, ⟨h8, h9, h10, h11⟩, h12, h13⟩ := id h
  obtain ⟨d1, d2, d3, d4, d5⟩ := id d
  have cl := cS_le hA
  have nS : ∀ k, k ≠ 0 → q + k ∉ [q] := fun k hk => by
    simp
    omega
  have lq : Lq F (zR F p) := fun k hk => zR_lo hp (by omega)
  have L := h.lq hW lq
  have pr : PR (fun a => q ≤ a) (sI g q 4 (nI (p + 1))) q (zR F p) := by
    unfold PR
    rw [x.R, zR_c hp, zR_3v hp, zR_lv hp (j := 2) (by omega), zR_lo hp (j := 1) (by omega), zR_lo hp (j := 2) (by omega), zR_lo hp (j := 0) (by omega), zR_3 hp, gI_sIs, pk_un (by decide), pk_un (by decide), pk_un (by decide), pk_us, pk_un (by decide)]
    refine ⟨Nat.le_refl _, h1.fi x, ⟨h2.1, h2.2.1, h2.2.2.1, rfl, h2.2.2.2.2⟩, h3, ⟨q + 1, by omega, h4.fa x.a, fun c hc => ?_⟩, ⟨q + 2, by omega, h5.fa x.a, fun c hc => ?_⟩, ⟨q + 3, by omega, h6.fa x.a, fun c hc => ?_⟩, ⟨q + 4, by omega, h7.fa x.a, fun i hi => ?_⟩, (L.1.fa x.a (fun a ha u => by simp at ha; omega)).mx (fun a ha => by omega), (L.2.fa x.a (fun a ha u => by simp at ha; omega)).mx (fun a ha => by omega)⟩
    · rw [x.I (nS 1 (by decide)), h8 c (by omega)]
      dsimp only
      rw [hp_cg (c := c) (F := F) (F' := zR F p) (zR_lv hp (by omega))]
    · rw [x.I (nS 2 (by decide))]
      exact h9 c hc
    · rw [x.I (nS 3 (by decide))]
      exact h10 c hc
    · dsimp only
      rw [x.I (nS 4 (by decide)), zR_lo hp (by omega)]
      exact h11 i (by omega)
  have ap0 : ∀ w, apS w 0 0 = 0 := fun w => by
    unfold apS dif
    simp
  refine ⟨bS63 (Sh.fi x hs), ⟨q, hq, pr⟩, fun c hc => ?_, fun i hi => ?_, fun r hr => ?_, fun r hr => ?_, fun r hr => ?_⟩
  · rw [x.L (by simp; omega), d1 c hc, decide_eq_decide]
    constructor
    · rintro ⟨u1, u2⟩
      exact ⟨u1, by rw [zR_wl hp u1, if_pos u2]⟩
    · rintro ⟨u1, u2⟩
      rw [zR_wl hp u1] at u2
      by_cases e : F (10 + c) = nI 9
      · exact ⟨u1, e⟩
      · rw [if_neg e] at u2
        cases u2
  · rw [zR_3v hp] at hi
    rw [x.I (by simp; omega), d2 i (by omega), pk]
    by_cases e : i < 2 * p
    · rw [if_pos e, zR_tw hp e, (hW.2.2.1 i (by omega)).1]
    · rw [if_neg e, zR_t0 (by omega)]
      rfl
  · rw [zR_3v hp] at hr
    rw [x.I (by simp; omega), d3 r (by omega), pk]
    unfold sp
    by_cases e : r < p
    · rw [if_pos e, zR_tw hp (by omega), zR_tw hp (by omega), zR_lv hp (by omega)]
    · rw [if_neg e, zR_t0 (by omega), zR_t0 (by omega), ap0]
      rfl
  · rw [zR_3v hp] at hr
    have : md (zR F p) r = md F r := zR_lv hp (by omega)
    rw [x.I (by simp; omega), d4 r (by omega), this]
    exact (hW.2.2.2.2.1 r (by omega)).1
  · rw [zR_3v hp] at hr
    rw [x.I (by simp; omega), d5 r (by omega), pk]
    by_cases e : r < p
    · have e3 : nv (upd F 3 (nI (p + 1))) 3 ≤ 3 := by
        rw [z3 hp]
        omega
      have t1 : tw (upd F 3 (nI (p + 1))) (2 * r) = tw F (2 * r) := zv (by omega)
      have t2 : tw (upd F 3 (nI (p + 1))) (2 * r + 1) = tw F (2 * r + 1) := zv (by omega)
      have t3 : dnw (upd F 3 (nI (p + 1))) r (tw F (2 * r)) (tw F (2 * r + 1)) 0 = dnw F r (tw F (2 * r)) (tw F (2 * r + 1)) 0 := by
        unfold dnw
        rw [pk_un (by omega), pk_un (by omega)]
      rw [if_pos e]
      unfold dn nv
      rw [zR_n (by omega) (by omega) (by omega) (by omega), fn_d e3 (by rw [z3 hp]; omega), t1, t2, t3, nI_clamp (by have := @dn_lt F r (tw F (2 * r)) (tw F (2 * r + 1)); omega)]
    · rw [if_neg e]
      have : r = p := by omega
      rw [this]
      unfold dn nv zR
      rw [if_pos (by omega)]
      rfl
end PUT
