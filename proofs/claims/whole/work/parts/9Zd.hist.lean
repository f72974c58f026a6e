/-! HISTORY: a deed kept. -/
section HIS
variable {X : Nat → Prop} {A A' A1 : Nat → Int32} {g g' : G} {a b p n el : Nat} {S : List Nat}
def HL : List Nat := [76, 78, 79, 80, 81, 82, 83, 84, 85, 86, 87, 88, 89, 90, 91, 92, 93, 94, 95, 96, 97, 98, 99, 100, 101, 102, 103, 104, 105, 106, 107, 108, 109, 110, 111, 112, 113, 114, 115, 116, 117, 118, 119, 120, 121, 122, 123, 124, 125, 126, 127]
theorem bS47 (hs : Sh g) : BS g 47 := ⟨sk47 hs, ⟨sr47_2 hs, sk48 hs, sn48 hs⟩, ⟨sr47_3 hs, sk49 hs, sn49 hs⟩, ⟨sr47_4 hs, sk50 hs, sn50 hs⟩, ⟨sr47_5 hs, sk51 hs, sn51 hs⟩⟩
theorem bS52 (hs : Sh g) : BS g 52 := ⟨sk52 hs, ⟨sr52_2 hs, sk53 hs, sn53 hs⟩, ⟨sr52_3 hs, sk54 hs, sn54 hs⟩, ⟨sr52_4 hs, sk55 hs, sn55 hs⟩, ⟨sr52_5 hs, sk56 hs, sn56 hs⟩⟩
theorem bS63 (hs : Sh g) : BS g 63 := ⟨sk63 hs, ⟨sr63_2 hs, sk64 hs, sn64 hs⟩, ⟨sr63_3 hs, sk65 hs, sn65 hs⟩, ⟨sr63_4 hs, sk66 hs, sn66 hs⟩, ⟨sr63_5 hs, sk67 hs, sn67 hs⟩⟩
theorem bS78 (hs : Sh g) {i : Nat} (hi : i < 10) : BS g (78 + 5 * i) := by
  obtain rfl | rfl | rfl | rfl | rfl | rfl | rfl | rfl | rfl | rfl : i = 0 ∨ i = 1 ∨ i = 2 ∨ i = 3 ∨ i = 4 ∨ i = 5 ∨ i = 6 ∨ i = 7 ∨ i = 8 ∨ i = 9 := by omega
  · exact ⟨sk78 hs, ⟨sr78_2 hs, sk79 hs, sn79 hs⟩, ⟨sr78_3 hs, sk80 hs, sn80 hs⟩, ⟨sr78_4 hs, sk81 hs, sn81 hs⟩, ⟨sr78_5 hs, sk82 hs, sn82 hs⟩⟩
  · exact ⟨sk83 hs, ⟨sr83_2 hs, sk84 hs, sn84 hs⟩, ⟨sr83_3 hs, sk85 hs, sn85 hs⟩, ⟨sr83_4 hs, sk86 hs, sn86 hs⟩, ⟨sr83_5 hs, sk87 hs, sn87 hs⟩⟩
  · exact ⟨sk88 hs, ⟨sr88_2 hs, sk89 hs, sn89 hs⟩, ⟨sr88_3 hs, sk90 hs, sn90 hs⟩, ⟨sr88_4 hs, sk91 hs, sn91 hs⟩, ⟨sr88_5 hs, sk92 hs, sn92 hs⟩⟩
  · exact ⟨sk93 hs, ⟨sr93_2 hs, sk94 hs, sn94 hs⟩, ⟨sr93_3 hs, sk95 hs, sn95 hs⟩, ⟨sr93_4 hs, sk96 hs, sn96 hs⟩, ⟨sr93_5 hs, sk97 hs, sn97 hs⟩⟩
  · exact ⟨sk98 hs, ⟨sr98_2 hs, sk99 hs, sn99 hs⟩, ⟨sr98_3 hs, sk100 hs, sn100 hs⟩, ⟨sr98_4 hs, sk101 hs, sn101 hs⟩, ⟨sr98_5 hs, sk102 hs, sn102 hs⟩⟩
  · exact ⟨sk103 hs, ⟨sr103_2 hs, sk104 hs, sn104 hs⟩, ⟨sr103_3 hs, sk105 hs, sn105 hs⟩, ⟨sr103_4 hs, sk106 hs, sn106 hs⟩, ⟨sr103_5 hs, sk107 hs, sn107 hs⟩⟩
  · exact ⟨sk108 hs, ⟨sr108_2 hs, sk109 hs, sn109 hs⟩, ⟨sr108_3 hs, sk110 hs, sn110 hs⟩, ⟨sr108_4 hs, sk111 hs, sn111 hs⟩, ⟨sr108_5 hs, sk112 hs, sn112 hs⟩⟩
  · exact ⟨sk113 hs, ⟨sr113_2 hs, sk114 hs, sn114 hs⟩, ⟨sr113_3 hs, sk115 hs, sn115 hs⟩, ⟨sr113_4 hs, sk116 hs, sn116 hs⟩, ⟨sr113_5 hs, sk117 hs, sn117 hs⟩⟩
  · exact ⟨sk118 hs, ⟨sr118_2 hs, sk119 hs, sn119 hs⟩, ⟨sr118_3 hs, sk120 hs, sn120 hs⟩, ⟨sr118_4 hs, sk121 hs, sn121 hs⟩, ⟨sr118_5 hs, sk122 hs, sn122 hs⟩⟩
  · exact ⟨sk123 hs, ⟨sr123_2 hs, sk124 hs, sn124 hs⟩, ⟨sr123_3 hs, sk125 hs, sn125 hs⟩, ⟨sr123_4 hs, sk126 hs, sn126 hs⟩, ⟨sr123_5 hs, sk127 hs, sn127 hs⟩⟩
theorem hb_dr {α : Type} (hs : Sh g) {i : Nat} (hi : i < 10) (f : Nat → Option α) : dr (gR g 77 i) f = f (78 + 5 * i) := by
  obtain rfl | rfl | rfl | rfl | rfl | rfl | rfl | rfl | rfl | rfl : i = 0 ∨ i = 1 ∨ i = 2 ∨ i = 3 ∨ i = 4 ∨ i = 5 ∨ i = 6 ∨ i = 7 ∨ i = 8 ∨ i = 9 := by omega
  · exact md77_0 hs f
  · exact md77_1 hs f
  · exact md77_2 hs f
  · exact md77_3 hs f
  · exact md77_4 hs f
  · exact md77_5 hs f
  · exact md77_6 hs f
  · exact md77_7 hs f
  · exact md77_8 hs f
  · exact md77_9 hs f
theorem Sh.cp (hs : Sh g) (x : Fq S g g') (h1 : ∀ k, k ≠ 0 → gR g' a k = gR g a k) (h2 : ∀ j, j ≠ a → gR g' j = gR g j) (h0 : a ∉ [0, 22, 35, 36, 40, 57, 77]) : Sh g' := by
  have t : shF.all (fun q => decide (q.2.1 ≠ 0 ∨ q.1 ∈ [0, 22, 35, 36, 40, 57, 77])) = true := by decide +kernel
  refine Sh.fq x hs (fun q hq _ => ?_)
  by_cases e : q.1 = a
  · have := of_decide_eq_true (List.all_eq_true.mp t q hq)
    rw [e] at this
    rw [e, h1 _ (this.resolve_right h0), ← e]
    exact hs.2.2 q hq
  · rw [h2 _ e]
    exact hs.2.2 q hq
theorem nt_lo {B W : Nat → Int32} (hn : n ≤ 10) {j : Nat} (hj : j < 103 ∨ 614 ≤ j) : ntA B W n j = B j := by
  unfold ntA
  by_cases e : n = 10
  · rw [if_pos e, pk_un (by omega)]
    unfold cpR
    rw [if_neg (by omega), pk_un (by omega), if_neg (by omega)]
  · rw [if_neg e, pk_un (by omega)]
    unfold cpR
    rw [if_neg (by omega)]
theorem nt_103 {B W : Nat → Int32} : ntA B W n 103 = nI (if n = 10 then 10 else n + 1) := by
  unfold ntA
  by_cases e : n = 10
  · rw [if_pos e, if_pos e, pk_us]
  · rw [if_neg e, if_neg e, pk_us]
theorem nt_k {B W : Nat → Int32} (hn : n < 10) {k i : Nat} (hk : k < n) (hi : i < 51) : ntA B W n (104 + 51 * k + i) = B (104 + 51 * k + i) := by
  unfold ntA
  rw [if_neg (by omega), pk_un (by omega)]
  unfold cpR
  rw [if_neg (by omega)]
theorem nt_n {B W : Nat → Int32} (hn : n < 10) {i : Nat} (hi : i < 51) : ntA B W n (104 + 51 * n + i) = W i := by
  unfold ntA
  rw [if_neg (by omega), pk_un (by omega)]
  unfold cpR
  rw [if_pos (by omega), show 104 + 51 * n + i - (104 + 51 * n) = i by omega]
theorem nt_k10 {B W : Nat → Int32} {k i : Nat} (hk : k < 9) (hi : i < 51) : ntA B W 10 (104 + 51 * k + i) = B (104 + 51 * (k + 1) + i) := by
  unfold ntA
  rw [if_pos rfl, pk_un (by omega)]
  unfold cpR
  rw [if_neg (by omega), pk_un (by omega), if_pos (by omega)]
  dsimp only
  rw [show 155 + (104 + 51 * k + i - 104) = 104 + 51 * (k + 1) + i by omega]
theorem nt_n10 {B W : Nat → Int32} {i : Nat} (hi : i < 51) : ntA B W 10 (104 + 51 * 9 + i) = W i := by
  unfold ntA
  rw [if_pos rfl, pk_un (by omega)]
  unfold cpR
  rw [if_pos (by omega), show 104 + 51 * 9 + i - (104 + 51 * 9) = i by omega]
/-- rows of history, by what they tell -/
theorem hR_q {B C : Nat → Int32} {k : Nat} (h1 : ∀ j, j < 52 ∨ (614 ≤ j ∧ j < 1515) → B j = C j) (h2 : ∀ i, i < 51 → B (104 + 51 * k + i) = C (52 + i)) : Wq C (hR B k) := fun j hj => by
  unfold hR
  by_cases u : 52 ≤ j ∧ j < 103
  · rw [if_pos u, h2 _ (by omega), show 52 + (j - 52) = j by omega]
  · rw [if_neg u]
    exact h1 j (by omega)
theorem hR_in {k i : Nat} (hi : i < 51) : hR A k (52 + i) = A (104 + 51 * k + i) := by
  unfold hR
  rw [if_pos (by omega), show 52 + i - 52 = i by omega]
theorem hR_out {k j : Nat} (hj : j < 52 ∨ 103 ≤ j) : hR A k j = A j := by
  unfold hR
  rw [if_neg (by omega)]
theorem c_keep (hs : Sh g) (hI : HI X A g) (hb : BD X g 52 A) (hW : WF A) (hX : XO X) : ∃ g', f_X5_keep 76 52 g = some ((), g') ∧ Fq HL g g' ∧ Sh g' ∧ ∃ n, n ≤ 10 ∧ A 103 = nI n ∧ ∀ A1, (∀ j, (j < 52 ∨ 103 ≤ j) → A1 j = A j) → HI X (ntA A1 (fun k => A (52 + k)) n) g' := by
  obtain ⟨n, el, n1, e1, a103, s0, s1, hk⟩ := hI
  have nX : ∀ k, k ≤ 4 → ¬ X (78 + 5 * ((el + n) % 10) + k) := fun k k4 u => by
    have := hX _ u
    omega
  obtain ⟨g1, b1, b2, b3, b4, b5⟩ := c_copyFrom nX (bS78 hs (i := (el + n) % 10) (by omega)) hb (by omega) hW.1.2.2.2.2.2.2.2
  have hs1 : Sh g1 := hs.cp b2 b3 b4 (by simp; omega)
  have mem : ∀ j, 78 ≤ j → j ≤ 127 → j ∈ HL := fun j h1 h2 => by
    have t : (List.range 50).all (fun i => decide (78 + i ∈ HL)) = true := by decide
    have := of_decide_eq_true (List.all_eq_true.mp t (j - 78) (List.mem_range.mpr (by omega)))
    rw [show 78 + (j - 78) = j by omega] at this
    exact this
  have x1 : Fq HL g g1 := b2.mono (fun j hj => by
    simp at hj
    exact mem j (by omega) (by omega))
  have g76 : gI g1 76 = gI g 76 := b2.I (by simp; omega)
  have t0 : gI g1 76 0 = nI n := by
    rw [g76]
    exact s0
  have t1 : gI g1 76 1 = nI el := by
    rw [g76]
    exact s1
  have nXl : ∀ j ∈ [78 + 5 * ((el + n) % 10), 78 + 5 * ((el + n) % 10) + 1, 78 + 5 * ((el + n) % 10) + 2, 78 + 5 * ((el + n) % 10) + 3, 78 + 5 * ((el + n) % 10) + 4], ¬ X j := fun j hj u => by
    have := hX _ u
    simp at hj
    omega
  -- the boards that stay
  have stay : ∀ k, k < n → (el + k) % 10 ≠ (el + n) % 10 → ∀ g', Fi [76] g1 g' → ∀ C, Wq (hR A k) C → WF C ∧ BD X g' (78 + 5 * ((el + k) % 10)) C := fun k k1 k2 g' y C q => by
    obtain ⟨w1, w2⟩ := hk k k1
    have w3 := (w2.fa b2.a nXl (fun j hj => by simp at hj; omega)).fa y.a (hX.no (by decide)) (fun j hj => by simp at hj; omega)
    exact ⟨w1.cg q, w3.cg w1.1 w1.2.2.1 q⟩
  have fresh : ∀ g', Fi [76] g1 g' → ∀ C, Wq A C → WF C ∧ BD X g' (78 + 5 * ((el + n) % 10)) C := fun g' y C q => ⟨hW.cg q, (b5.fa y.a (hX.no (by decide)) (fun j hj => by simp at hj; omega)).cg hW.1 hW.2.2.1 q⟩
  have run : f_X5_keep 76 52 g = (if (10 : Int32) ≤ nI n then some ((), sI g1 76 1 (nI ((el + 1) % 10))) else some ((), sI g1 76 0 (nI (n + 1)))) := by
    rw [f_X5_keep, md76_2 hs, gk77 hs, sn77 hs, s0, s1, nI_add, ldi10 (by omega), lmo10, gdI_nI (by omega) (by decide), nI_clamp (by omega), hb_dr hs (by omega), gdK_pos (bS78 hs (by omega)).1, b1, bd_eq, t0, t1, lad1, lad1, ldi10 (by omega), lmo10, lg, lg]
  by_cases e : n = 10
  · subst e
    have y1 : Fi [76] g1 (sI g1 76 1 (nI ((el + 1) % 10))) := Fi.rf.si (by decide)
    refine ⟨_, by rw [run, if_pos (by decide)], x1.tr (y1.q.mono (by decide)), Sh.fi y1 hs1, 10, n1, a103, fun A1 h1 => ⟨10, (el + 1) % 10, by decide, by omega, ?_, ?_, ?_, fun k hk' => ?_⟩⟩
    · rw [nt_103, if_pos rfl]
    · rw [gI_sIs, pk_un (by decide)]
      exact t0
    · rw [gI_sIs, pk_us]
    · by_cases u : k = 9
      · subst u
        have f := fresh _ y1 (hR (ntA A1 (fun k => A (52 + k)) 10) 9) (hR_q (fun j hj => by rw [nt_lo (by decide) (by omega)]; exact h1 j (by omega)) (fun i hi => nt_n10 hi))
        rw [show ((el + 1) % 10 + 9) % 10 = (el + 10) % 10 by omega]
        exact f
      · have f := stay (k + 1) (by omega) (by omega) _ y1 (hR (ntA A1 (fun k => A (52 + k)) 10) k) (hR_q (fun j hj => by rw [nt_lo (by decide) (by omega), hR_out (by omega)]; exact h1 j (by omega)) (fun i hi => by rw [nt_k10 (by omega) hi, hR_in hi]; exact h1 _ (by omega)))
        rw [show ((el + 1) % 10 + k) % 10 = (el + (k + 1)) % 10 by omega]
        exact f
  · have y1 : Fi [76] g1 (sI g1 76 0 (nI (n + 1))) := Fi.rf.si (by decide)
    refine ⟨_, by rw [run, if_neg (show ¬ (10 : Int32) ≤ nI n from nI_ge (a := n) (b := 10) (by omega) (by decide))], x1.tr (y1.q.mono (by decide)), Sh.fi y1 hs1, n, n1, a103, fun A1 h1 => ⟨n + 1, el, by omega, e1, ?_, ?_, ?_, fun k hk' => ?_⟩⟩
    · rw [nt_103, if_neg e]
    · rw [gI_sIs, pk_us]
    · rw [gI_sIs, pk_un (by decide)]
      exact t1
    · by_cases u : k = n
      · subst u
        exact fresh _ y1 _ (hR_q (fun j hj => by rw [nt_lo n1 (by omega)]; exact h1 j (by omega)) (fun i hi => nt_n (by omega) hi))
      · exact stay k (by omega) (by omega) _ y1 _ (hR_q (fun j hj => by rw [nt_lo n1 (by omega), hR_out (by omega)]; exact h1 j (by omega)) (fun i hi => by rw [nt_k (by omega) (by omega) hi, hR_in hi]; exact h1 _ (by omega)))
end HIS
