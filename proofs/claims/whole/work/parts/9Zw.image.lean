/-! IMAGE answered alike. -/
section IMG
variable {X : Nat → Prop} {A A' B : Nat → Int32} {g g' g1 : G} {ag : Nat} {S : List Nat}
theorem TR.fa2 (h : TR g) (hs : Sh g) (x : Fa S g g') (m : ∀ a ∈ S, a < 128 ∨ (135 < a ∧ a < 152) ∨ 155 ≤ a) : TR g' := by
  have e : ∀ a, ((128 ≤ a ∧ a ≤ 135) ∨ (152 ≤ a ∧ a < 155)) → gI g' a = gI g a ∧ gL g' a = gL g a := fun a ha => by
    have := (x.2 a (by have := hs.1; omega)).2.2 (fun u => by have := m _ u; omega)
    exact ⟨this.1, this.2.1⟩
  intro t ht
  obtain ⟨so, n, s1, s2, s3, s4, s5, s6, s7⟩ := h t ht
  refine ⟨so, n, s1, s2, ?_, ?_, ?_, ?_, fun k hk => ?_⟩
  · rw [(e (128 + 2 * t) (by omega)).1]
    exact s3
  · rw [(e 152 (by omega)).1]
    exact s4
  · rw [(e (128 + 2 * t) (by omega)).1]
    exact s5
  · rw [(e 153 (by omega)).1]
    exact s6
  · rw [(e (129 + 2 * t) (by omega)).2, (e 154 (by omega)).2]
    exact s7 k hk
theorem Ca.fr (h : Ca A g) (e0 : gI g' 0 = gI g 0) (e : ∀ a ∈ CL, gI g' a = gI g a) : Ca A g' := by
  unfold Ca
  rw [e0]
  exact h.imp id (fun ⟨p, n, q, pa, la, dp, a, b, c⟩ => ⟨p, n, q, pa, la, dp, a, b, c.cg e⟩)
theorem HI.cg (h : HI X A g) (e : Wq A A') (e2 : ∀ j, 103 ≤ j → j < 614 → A' j = A j) : HI X A' g := by
  obtain ⟨n, el, h1, h2, h3, h4, h5, h6⟩ := h
  refine ⟨n, el, h1, h2, (e2 103 (by decide) (by decide)).trans h3, h4, h5, fun k hk => ?_⟩
  have q : Wq (hR A k) (hR A' k) := fun j hj => by
    unfold hR
    split
    · exact e2 _ (by omega) (by omega)
    · exact e j hj
  exact ⟨(h6 k hk).1.cg q, (h6 k hk).2.cg (h6 k hk).1.1 (h6 k hk).1.2.2.1 q⟩
theorem Sh.im (hs : Sh g) (i : Nat) (v : Option Nat) : Sh (sR g 41 i v) := by
  have t : shF.all (fun q => decide (q.1 ≠ 41)) = true := by decide +kernel
  refine Sh.fq (S := [41]) (Fq.rf.sr (by decide)) hs (fun q hq hS => ?_)
  have := of_decide_eq_true (List.all_eq_true.mp t q hq)
  exact absurd (List.mem_singleton.mp hS) this
theorem c_image (h : Inv X A ag g) {i : Nat} (hi : i < 2) : ∃ b g2, f_X11_image 0 (nI i) g = some (0, g2) ∧ Sh g2 ∧ Fa [41, b, b + 1, b + 2, b + 3, b + 4] g g2 ∧ 155 ≤ b ∧ (∀ k, k ≤ 4 → ¬ X (b + k)) ∧ gR g2 41 i = some b ∧ gR g2 41 (1 - i) = gR g 41 (1 - i) ∧ BD X g2 b A ∧ (∀ c, gR g 41 (1 - i) = some c → b + 4 < c ∨ c + 4 < b) ∧ gn g2 ≤ gn g + 5 ∧ gs g2 ≤ gs g + 21 := by
  obtain ⟨h1, h2, h3, h4, h5⟩ := id h.1
  have hs := h1.1
  have k3 := h1.2.2.1.2.2.2.2.2.2.2
  obtain ⟨im1, im2⟩ := h.2.2.2.2.2.1
  have Xl := h.2.2.2.2.2.2.1
  obtain ⟨q, q1, q2⟩ := id h3.2.1
  have dis : ∀ b c, gR g 41 i = some b → gR g 41 (1 - i) = some c → b + 4 < c ∨ c + 4 < b := fun b c e1 e2 => by
    obtain rfl | rfl : i = 0 ∨ i = 1 := by omega
    · exact im2 b c e1 e2
    · exact (im2 c b e2 e1).symm
  have cA : f_X11_image 0 (nI i) g = (if (gR g 41 i) = none then (lg (nw g 0 0 6) (fun g8 => ln (gn g) (fun a10 => dr (gR g8 0 4) (fun b13 => gdK g8 b13 0 (dr (gR g8 b13 0) (fun b16 => gdK g8 b16 7 (bd (f_X0_init a10 b16 g8) (fun v19 g20 => dr (gR g20 0 17) (fun b23 => gdK g20 b23 17 (gdI (nI i) (gN g20 b23) (lg (sR g20 b23 (nI i).toNatClampNeg (some a10)) (fun g27 => f_X11_image_45 0 (some a10) g27)))))))))))) else (f_X11_image_45 0 (gR g 41 i) g)) := by
    rw [f_X11_image, if_neg (nI_pos (by omega)), if_pos (show nI i < 2 from nI_lt (b := 2) hi (by decide)), md0_17 hs, gk41 hs, sn41 hs, gdI_nI hi (by decide), nI_clamp (by omega)]
  rcases im1 i hi with ⟨m1, m2⟩ | ⟨m1, b, m2, m3, m4, m5, m6⟩
  · have x8 : Fa [] g (nw g 0 0 6) := ⟨Nat.le_succ _, fun a ha => by
      simp (disch := omega) only [gK_nw, gN_nw, gI_nw, gL_nw, gR_nw, va_up_ne]
      exact ⟨trivial, trivial, fun _ => ⟨trivial, trivial, trivial⟩⟩⟩
    have hs8 := hs.fa x8 (fun q _ hq => by cases hq)
    have q8 : gR (nw g 0 0 6) 47 0 = some q := by
      rw [x8.R (sk47 hs) (by decide)]
      exact q1
    obtain ⟨g20, a1, a2, a3, a4, a5, a6⟩ := c_newB q g
    have hs20 := hs.fa a4 (fun q _ hq => by cases hq)
    have x27 : Fq [41] g20 (sR g20 41 i (some (gn g))) := Fq.rf.sr (by decide)
    have hs27 := hs20.im i (some (gn g))
    obtain ⟨g27, e27⟩ : ∃ g27, g27 = sR g20 41 i (some (gn g)) := ⟨_, rfl⟩
    rw [← e27] at x27 hs27
    have nX : ∀ k, k ≤ 4 → ¬ X (gn g + k) := fun k _ u => by
      have := Xl _ u
      omega
    have g155 := hs.1
    have B27 : BD X g27 47 A := (h3.fa a4 (fun a ha => by cases ha) (fun a ha => by cases ha)).fa x27.a (h2.no (by decide)) (by decide)
    obtain ⟨g2, b1, b2, b3, b4, b5⟩ := c_copyFrom (a := gn g) nX (a5.fa x27.a (by simp; omega)) B27 (by omega) k3
    have hs2 : Sh g2 := hs27.cp b2 b3 b4 (by simp; omega)
    have xx : Fa [41, gn g, gn g + 1, gn g + 2, gn g + 3, gn g + 4] g g2 := ((a4.mono (fun a ha => by cases ha)).tr (x27.a.mono (by simp))).tr (b2.a.mono (by simp))
    have r41 : gR g2 41 = va_up (gR g20 41) i (some (gn g)) := by
      rw [b4 41 (by omega), e27, gR_sR, va_up_self]
    refine ⟨gn g, g2, ?_, hs2, xx, g155, nX, ?_, ?_, b5, fun c hc => Or.inr ?_, ?_, ?_⟩
    · rw [cA, if_pos m2, lg, ln, md0_4 hs8, gk47 hs8, q8, dr_eq, gdK_pos (q2.2.1.fa x8), a1, bd_eq, md0_17 hs20, gk41 hs20, sn41 hs20, gdI_nI hi (by decide), nI_clamp (by omega), lg, ← e27, f_X11_image_45, md0_4 hs27, dr_eq, gdK_pos ((a5.fa x27.a (by simp; omega)).1), gk47 hs27, b1, bd_eq]
    · rw [r41, va_up_self]
    · rw [r41, va_up_ne _ _ (by omega), a4.R (sk41 hs) (by decide)]
    · rcases im1 (1 - i) (by omega) with ⟨n1, n2⟩ | ⟨n1, c', n2, n3, n4, n5, n6⟩
      · rw [n2] at hc
        cases hc
      · rw [n2] at hc
        cases hc
        exact n6.1.2.2.2.2.2.1.2
    · rw [b2.1, x27.1, a2]
      exact Nat.le_refl _
    · rw [b2.2.1, x27.2.1, a3]
      exact Nat.le_refl _
  · obtain ⟨g2, b1, b2, b3, b4, b5⟩ := c_copyFrom (a := b) m4 m6.1 h3 (by omega) k3
    have hs2 : Sh g2 := hs.cp b2 b3 b4 (by simp; omega)
    refine ⟨b, g2, ?_, hs2, b2.a.mono (by simp), m3, m4, ?_, ?_, b5, fun c hc => dis b c m2 hc, ?_, ?_⟩
    · rw [cA, if_neg (by rw [m2]; exact fun u => by cases u), f_X11_image_45, md0_4 hs, m2, dr_eq, gdK_pos m6.1.1, gk47 hs, b1, bd_eq]
    · rw [b4 41 (by omega)]
      exact m2
    · rw [b4 41 (by omega)]
    · rw [b2.1]
      omega
    · rw [b2.2.1]
      omega
theorem q_image (h : Inv X A ag g) (u : Int32) : CA ag g (f_X11_image 0 u g) (fun g => f_X12_image 136 u g) := by
  obtain ⟨h1, h2, h3, h4, h5⟩ := id h.1
  have hs := h1.1
  have wi : ∀ g, f_X12_within u.toInt64 0 1 g = some (inR u 2, g) := fun g => by rw [r_wi1, inL_I]
  rcases inR_c u 2 with ⟨i, i1, i2, rfl, i4⟩ | ⟨i1, i2⟩ | ⟨i, i1, i2, rfl, i4⟩
  · obtain ⟨t1, ⟨tn, t2, t3, t4, t5⟩, t6, t7, ⟨im1, im2⟩, t9, t10⟩ := h.2
    have W : WF A := ⟨h1.2.2.1, h1.2.2.2.1, h1.2.2.2.2, t10⟩
    obtain ⟨b, g2, a1, a2, a3, a4, a5, a6, a7, a8, a9, a10, a11⟩ := c_image h i1
    have x20 : Fi [136, 137, 138] g2 (sI g2 136 0 0) := Fi.rf.si (by decide)
    have hs20 := Sh.fi x20 a2
    have row2 : gI (sI g2 136 0 0) 137 = A := by
      rw [gI_sIn (by decide), a3.I (sk137 hs) (by simp; omega)]
      exact h1.2.1
    obtain ⟨g5, d1, d2, d3, d4⟩ := r_im20 (A := A) i1 FU 0 (sI g2 136 0 0) hs20 (by rw [row2, cpR_0]) (by decide) (by have := @FU_gt 1515 (by decide); omega)
    have d1' : f_X12_image_20 FU 136 (nI i) 0 (sI g2 136 0 0) = some (0, g5) := d1
    have x5 : Fi [136, 137, 138] g2 g5 := x20.tr (d2.mono (by decide))
    have hs5 := Sh.fi d2 hs20
    have g155 := hs.1
    obtain ⟨SS, eS⟩ : ∃ SS, SS = [136, 137, 138, 41, b, b + 1, b + 2, b + 3, b + 4] := ⟨_, rfl⟩
    have x : Fa SS g g5 := by
      rw [eS]
      exact (a3.mono (fun a ha => by simp at ha ⊢; omega)).tr (x5.a.mono (fun a ha => by simp at ha ⊢; omega))
    have m : ∀ a ∈ SS, (135 < a ∧ a < 139) ∨ a = 41 ∨ (b ≤ a ∧ a ≤ b + 4) := fun a ha => by
      rw [eS] at ha
      simp at ha
      omega
    have nX : ∀ a ∈ SS, ¬ X a := fun a ha v => by
      rcases m a ha with z | z | z
      · have := h2 _ v
        omega
      · have := h2 _ v
        omega
      · exact a5 (a - b) (by omega) (by rw [show b + (a - b) = a by omega]; exact v)
    have le : 1515 * (i + 1) ≤ 1515 * 2 := Nat.mul_le_mul_left _ (by omega)
    have ge : 1515 * 1 ≤ 1515 * (i + 1) := Nat.mul_le_mul_left _ (by omega)
    obtain ⟨A2, eA⟩ : ∃ A2, A2 = cpR A A (1515 * (i + 1)) 1515 := ⟨_, rfl⟩
    rw [← eA] at d3
    have lo : ∀ j, j < 1515 → A2 j = A j := fun j hj => by
      rw [eA]
      unfold cpR
      rw [if_neg (by omega)]
    have q2 : Wq A A2 := fun j hj => lo j (by omega)
    have W2 := W.cg q2
    have qi : Wq A (iR A2 i) := fun j hj => by
      show A2 (1515 * (i + 1) + j) = A j
      rw [eA]
      unfold cpR
      rw [if_pos (by omega), show 1515 * (i + 1) + j - 1515 * (i + 1) = j by omega]
    have qo : Wq (iR A (1 - i)) (iR A2 (1 - i)) := fun j hj => by
      show A2 (1515 * (1 - i + 1) + j) = A (1515 * (1 - i + 1) + j)
      rw [eA]
      unfold cpR
      rw [if_neg]
      obtain rfl | rfl : i = 0 ∨ i = 1 := by omega
      · omega
      · omega
    have I_ : ∀ a, a < 155 → a ∉ SS → gI g5 a = gI g a := fun a ha hn => ((x.2 a (by omega)).2.2 hn).1
    have no : ∀ a, a < 136 ∨ (138 < a ∧ a < 155) → a ≠ 41 → a ∉ SS := fun a ha hn v => by
      have := m a v
      omega
    have r41 : gR g5 41 = gR g2 41 := congrFun x5.R 41
    have i138 : gI g5 138 = upd (gI g 138) i 1 := by
      rw [d4, gI_sIn (by decide), a3.I (sk138 hs) (by simp; omega)]
    have bi : BD X g5 b A := a8.fa x5.a (h2.no (by decide)) (fun a ha => by simp at ha; omega)
    have t136 : ∀ k, k ≠ 0 → gI g5 136 k = gI g 136 k := fun k hk => by
      rw [d2.I (by decide), gI_sIs, pk_un hk, a3.I (sk136 hs) (by simp; omega)]
    have im5 : ∀ j, j < 2 → (gI g5 138 j = 0 ∧ gR g5 41 j = none) ∨ (gI g5 138 j = 1 ∧ ∃ b, gR g5 41 j = some b ∧ 155 ≤ b ∧ (∀ k, k ≤ 4 → ¬ X (b + k)) ∧ WF (iR A2 j) ∧ BD X g5 b (iR A2 j)) := fun j hj => by
      by_cases e : j = i
      · rw [e]
        exact Or.inr ⟨by rw [i138, pk_us], b, by rw [r41]; exact a6, a4, a5, W.cg qi, bi.cg W.1 W.2.2.1 qi⟩
      · have e' : j = 1 - i := by omega
        rw [e', r41, a7, i138, pk_un (by omega)]
        exact (im1 (1 - i) (by omega)).imp id (fun ⟨n1, c, n2, n3, n4, n5, n6⟩ => ⟨n1, c, n2, n3, n4, n5.cg qo, (n6.fa x nX (fun a ha => by
          have := m a ha
          have := a9 c n2
          omega)).cg n5.1 n5.2.2.1 qo⟩)
    refine ⟨0, g2, g5, X, A2, ag, a1, ?_, ⟨⟨⟨hs5, d3, W2.1, W2.2.1, W2.2.2.1⟩, h2, (h3.fa x nX (fun a ha => by have := m a ha; omega)).cg W.1 W.2.2.1 q2, h4.fa hs x (fun k k1 k2 => no k (by omega) (by omega)), ?_⟩, t1.fa2 hs x (fun a ha => by have := m a ha; omega), ⟨tn, t2, ?_, (t136 5 (by decide)).trans t4, ?_⟩, ⟨?_, ?_⟩, (t7.fa hs x nX (List.all_eq_true.mpr (fun a ha => decide_eq_true (by have := m a ha; omega)))).cg q2 (fun j _ hj => lo j (by omega)), ⟨im5, ?_⟩, fun a ha => Nat.lt_of_lt_of_le (t9 a ha) x.1, W2.2.2.2⟩, by omega, ?_, ?_⟩
    · show f_X12_image 136 (nI i) g2 = _
      rw [f_X12_image, lg, wi, i4, bd_eq, ibT, d1']
    · refine (h5.fr (I_ 0 (by decide) (no 0 (by decide) (by decide))) (fun a ha => ?_)).cg W q2
      have t : CL.all (fun a => decide (a < 40)) = true := by decide
      have t2 : a < 40 := of_decide_eq_true (List.all_eq_true.mp t a ha)
      exact I_ a (by omega) (no a (by omega) (by omega))
    · rw [I_ 0 (by decide) (no 0 (by decide) (by decide))]
      exact t3
    · rw [I_ 1 (by decide) (no 1 (by decide) (by decide)), I_ 139 (by decide) (no 139 (by decide) (by decide))]
      exact t5
    · rw [I_ 0 (by decide) (no 0 (by decide) (by decide)), t136 13 (by decide)]
      exact t6.1
    · rw [I_ 0 (by decide) (no 0 (by decide) (by decide)), t136 14 (by decide)]
      exact t6.2
    · intro c d e1 e2
      rw [r41] at e1 e2
      obtain rfl | rfl : i = 0 ∨ i = 1 := by omega
      · rw [a6] at e1
        cases e1
        exact a9 d (by rw [← a7]; exact e2)
      · rw [a6] at e2
        cases e2
        exact (a9 c (by rw [← a7]; exact e1)).symm
    · rw [x5.1.1]
      omega
    · rw [x5.1.2.1]
      omega
  · refine CA.no (v := -2) h ?_ ?_
    · rw [f_X11_image, if_pos i1]
    · show f_X12_image 136 u g = _
      rw [f_X12_image, lg, wi, i2, bd_eq, ibF]
  · refine CA.no (v := -2) h ?_ ?_
    · rw [f_X11_image, if_neg (nI_pos i2), if_neg (show ¬ nI i < 2 from nI_nlt (b := 2) i1 (by omega))]
    · show f_X12_image 136 (nI i) g = _
      rw [f_X12_image, lg, wi, i4, bd_eq, ibF]
end IMG
