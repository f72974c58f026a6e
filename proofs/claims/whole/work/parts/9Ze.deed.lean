/-! BEHIND A DEED: the invariant again. -/
section DED
variable {X : Nat → Prop} {A A1 A2 : Nat → Int32} {g g' g3 : G} {a b p n el ag ag' : Nat} {S : List Nat}
def DL : List Nat := [0, 16, 27, 47, 48, 49, 50, 51, 52, 53, 54, 55, 56, 68, 69, 70, 71, 72, 73, 74, 75, 76, 78, 79, 80, 81, 82, 83, 84, 85, 86, 87, 88, 89, 90, 91, 92, 93, 94, 95, 96, 97, 98, 99, 100, 101, 102, 103, 104, 105, 106, 107, 108, 109, 110, 111, 112, 113, 114, 115, 116, 117, 118, 119, 120, 121, 122, 123, 124, 125, 126, 127, 136, 137, 141, 142, 143]
theorem c_forget (hs : Sh g) : ∃ g', f_X11_forgetWays 0 g = some ((), g') ∧ Fi [0, 16, 27] g g' ∧ gI g' 0 10 = -1 ∧ ∀ k, k ≠ 10 → gI g' 0 k = gI g 0 k := by
  have x1 : Fi [0, 16, 27] g (sI g 0 10 (-1)) := Fi.rf.si (by decide)
  have x2 : Fi [0, 16, 27] g (sI (sI g 0 10 (-1)) 16 0 0) := x1.si (by decide)
  have x3 : Fi [0, 16, 27] g (sI (sI (sI g 0 10 (-1)) 16 0 0) 27 0 0) := x2.si (by decide)
  refine ⟨_, ?_, x3, ?_, fun k hk => ?_⟩
  · rw [f_X11_forgetWays, lg, md0_11 (Sh.fi x1 hs), gk16 (Sh.fi x1 hs), lg, md0_13 (Sh.fi x2 hs), gk27 (Sh.fi x2 hs), lg]
  · rw [gI_sIn (by decide), gI_sIn (by decide), gI_sIs, pk_us]
  · rw [gI_sIn (by decide), gI_sIn (by decide), gI_sIs, pk_un hk]
theorem c_keepSpare (hs : Sh g) (hI : HI X A g) (hb : BD X g 52 A) (hW : WF A) (hX : XO X) : ∃ g', f_X11_keepSpare 0 g = some ((), g') ∧ Fq (0 :: 16 :: 27 :: HL) g g' ∧ Sh g' ∧ gI g' 0 10 = -1 ∧ (∀ k, k ≠ 10 → gI g' 0 k = gI g 0 k) ∧ ∃ n, n ≤ 10 ∧ A 103 = nI n ∧ ∀ A1, (∀ j, (j < 52 ∨ 103 ≤ j) → A1 j = A j) → HI X (ntA A1 (fun k => A (52 + k)) n) g' := by
  obtain ⟨g1, a1, a2, a3, n, n1, n2, n3⟩ := c_keep hs hI hb hW hX
  obtain ⟨g2, b1, b2, b3, b4⟩ := c_forget a3
  refine ⟨g2, ?_, (a2.mono (fun a ha => by simp [ha])).tr (b2.q.mono (by decide)), Sh.fi b2 a3, b3, fun k hk => ?_, n, n1, n2, fun A1 h1 => (n3 A1 h1).fa a3 b2.a (hX.no (by decide)) (by decide)⟩
  · rw [f_X11_keepSpare, md0_15 hs, md0_5 hs, gk76 hs, gk52 hs, a1, bd_eq, b1, bd_eq]
  · rw [b4 k hk, a2.I (by decide)]
theorem Inv.deed (h : Inv X A ag g) (w1 : WF A1) (q2 : Wq A1 A2) (i2 : ∀ j, 1515 ≤ j → A2 j = A j) (x : Fq DL g g3) (s3 : Sh g3) (row : gI g3 137 = A2) (b47 : BD X g3 47 A1) (si : SI ag' g3) (g10 : gI g3 0 10 = -1) (k0 : ∀ k, k ≠ 10 → gI g3 0 k = gI g 0 k) (k5 : gI g3 136 5 = gI g 136 5) (k13 : gI g3 136 13 = gI g 136 13) (k14 : gI g3 136 14 = gI g 136 14) (hi : HI X A2 g3) : Inv X A2 ag' g3 := by
  obtain ⟨⟨h1, h2, h3, h4, h5⟩, t1, ⟨tn, t2, t3, t4, t5⟩, t6, t7, t8, t9, t10⟩ := h
  have hs := h1.1
  have w2 := w1.cg q2
  have im := t8.fa hs x.a (h2.no (by decide)) (by decide)
  have ie : ∀ i, iR A2 i = iR A i := fun i => funext (fun j => i2 _ (by
    have : 1515 * 1 ≤ 1515 * (i + 1) := Nat.mul_le_mul_left _ (by omega)
    omega))
  refine ⟨⟨⟨s3, row, w2.1, w2.2.1, w2.2.2.1⟩, h2, b47.cg w1.1 w1.2.2.1 q2, si, Or.inl g10⟩, t1.fa hs x.a (by decide), ⟨tn, t2, (k0 1 (by decide)).trans t3, k5.trans t4, ?_⟩, ⟨?_, ?_⟩, hi, ⟨fun i hi => ?_, im.2⟩, fun a ha => by rw [x.1]; exact t9 a ha, w2.2.2.2⟩
  · rw [x.I (by decide), x.I (by decide)]
    exact t5
  · rw [k0 2 (by decide), k13]
    exact t6.1
  · rw [k0 3 (by decide), k14]
    exact t6.2
  · rw [ie]
    exact im.1 i hi
/-- where the spare board alone has changed -/
theorem Inv.spare (h : Inv X A ag g) (x : Fq [52, 53, 54, 55, 56] g g') (hs' : Sh g') : Inv X A ag g' := by
  have hs := h.1.1.1
  have n0 : gI g' 0 = gI g 0 := x.I (by decide)
  have n1 : gI g' 136 = gI g 136 := x.I (by decide)
  exact ⟨h.1.fr x hs' (by decide), h.2.ft h.1.2.1 hs x.a (by decide) (h.2.1.fa hs x.a (by decide)) (by rw [n0]) (by rw [n0]) (by rw [n0]) (by rw [n1]) (by rw [n1]) (by rw [n1])⟩
theorem c_spare (h : Inv X A ag g) : ∃ g', f_X0_copyFrom 52 47 g = some ((), g') ∧ Fq [52, 53, 54, 55, 56] g g' ∧ Sh g' ∧ BD X g' 52 A ∧ Inv X A ag g' := by
  obtain ⟨g1, b1, b2, b3, b4, b5⟩ := c_copyFrom (a := 52) (fun k hk u => by
    have := h.1.2.1 _ u
    omega) (bS52 h.1.1.1) h.1.2.2.1 (by decide) h.1.1.k3
  have hs1 := h.1.1.1.cp b2 b3 b4 (by decide)
  exact ⟨g1, b1, b2, hs1, b5, h.spare b2 hs1⟩
end DED
