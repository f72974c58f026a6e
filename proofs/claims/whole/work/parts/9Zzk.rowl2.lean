/-! LOCKSTEP of lines: a row's heights. -/
section RWM
variable {T : Nat → Nat} {n M i q : Nat} {F : Nat → Int32} {g g' g1 g2 h h' h1 : G}
/-- between lines -/
def LI (T : Nat → Nat) (n M q i : Nat) (g h : G) : Prop := (Sh g ∧ Sh h ∧ CT T n M i g ∧ RT T n i h) ∧ (gR g 63 0 = some q ∧ gR g 57 3 = some q ∧ 155 ≤ q ∧ q + 5 ≤ gn g) ∧ PQ g q (gI h 140) ∧ DQ g (gI h 140) ∧ WQ (gI h 140) ∧ nv (gI h 140) 614 + 3 ≤ i
/-- what a line does -/
def LO (T : Nat → Nat) (n M q i : Nat) (g h : G) (c : Option (Bool × G)) (r : Option (Unit × G)) : Prop := ∃ b g' h', c = some (b, g') ∧ r = some ((), h') ∧ FLZ q g g' ∧ Fm KrL [140] h h' ∧ (Sh g' ∧ gn g' ≤ gn g + 1 ∧ gs g' ≤ gs g + 900) ∧ ((b = true ∧ ∃ i', i < i' ∧ LI T n M q i' g' h' ∧ gn g' + i ≤ gn g + i' ∧ gs g' + i ≤ gs g + i') ∨ (b = false ∧ BadG g' h'))
theorem BadG.hh (b : BadG g h) {a k : Nat} {v : Int32} (ha : a ≠ 136) : BadG g (sI h a k v) := by
  obtain ⟨f, f1, f2, f3, f4, f5⟩ := b
  exact ⟨f, f1, f2, f3, by rw [gI_sIn ha.symm]; exact f4, by rw [gI_sIn ha.symm]; exact f5⟩
theorem RT.hh (c : RT T n i h) {k : Nat} {v : Int32} : RT T n i (sI h 140 k v) := c.fm (K := []) (S := [140]) (Fm.rf.si (by decide) (by decide)) (by decide) (by decide)
theorem CT.fi {S : List Nat} (c : CT T n M i g) (x : Fi S g g') (hS : ∀ a ∈ S, 61 < a) : CT T n M i g' := by
  have n : ∀ a, a ≤ 61 → a ∉ S := fun a ha u => by
    have := hS a u
    omega
  obtain ⟨c1, c2, c3, c4, c5, c6, c7⟩ := c
  unfold CT TA
  rw [x.I (n 57 (by decide)), x.I (n 59 (by decide)), x.I (n 60 (by decide)), x.I (n 61 (by decide))]
  exact ⟨c1, c2, c3, c4, c5, c6, c7⟩
theorem ls_r38 (hz : TZ T n M) {r : Nat} : ∀ fu k F i g h, Sh g → Sh h → CT T n M i g → RT T n i h → gR g 63 0 = some q → gR g 57 3 = some q → 155 ≤ q → gI h 140 = F → PQ g q F → DQ g F → WQ F → nv F 3 = 0 → r < nv F 1 → k ≤ nv F 2 → nv F 2 < fu + k → ∃ b g' h', f_X8_rowLine_38 fu 57 (nI (r * nv F 2)) (nI k) g = some (b, g') ∧ f_X12_readRow_42 fu 136 (nI r) (nI k) h = some ((), h') ∧ Fq [57, 63, q + 1] g g' ∧ gR g' = gR g ∧ Fm KrL [140] h h' ∧ ((b = true ∧ ∃ i', i ≤ i' ∧ CT T n M i' g' ∧ RT T n i' h' ∧ PQ g' q (gI h' 140) ∧ DQ g' (gI h' 140) ∧ WQ (gI h' 140) ∧ nv (gI h' 140) 614 = nv F 614) ∨ (b = false ∧ BadG g' h')) := by
  intro fu
  induction fu with
  | zero => intro k F i g h _ _ _ _ _ _ _ _ _ _ _ _ _ h1 h2; omega
  | succ fu ih =>
    intro k F i g h hs hh cc rr q1 q2 q3 hF pq dq wq k0 hr hk hfu
    have hA' := wq.1
    have w6 := hA'.2.2.2.2.2.1
    have r6 := hA'.2.2.1
    rw [f_X8_rowLine_38, f_X12_readRow_42, q2, dr_eq, gdK_pos pq.1, pq.2.1.2.1, md136_4 hh, gk140 hh, sn140 hh, show gdI (2 : Int32) 1515 = gdI (nI 2) 1515 (α := Unit × G) from rfl, gdI_nI (by decide) (by decide), show (2 : Int32).toNatClampNeg = 2 from rfl, hF, hA'.2.2.2.1]
    rcases Nat.lt_or_ge k (nv F 2) with z | z
    · have cl : r * nv F 2 + k < cS F := by
        have : r * nv F 2 + nv F 2 ≤ nv F 1 * nv F 2 := by
          rw [← Nat.succ_mul]
          exact Nat.mul_le_mul_right _ hr
        unfold cS
        omega
      have c36 := cS_le hA'
      rw [if_neg (nI_ge z (by omega)), if_neg (nI_ge z (by omega)), if_pos rr.2.2.2.2.2]
      have ix : ((10 : Int32) + (nI (nv F 2) * nI r)) + nI k = nI (10 + (r * nv F 2 + k)) := by
        rw [pk_mul, show (10 : Int32) = nI 10 from rfl, nI_add, nI_add, Nat.mul_comm, Nat.add_assoc]
      rcases ls_num hz hs hh cc rr (lo := 0) (hi := 9) (by decide) (by decide) with ⟨-, -, v9, iM, g2, h2, a1, a2, a3, a4, a5, a6, a7⟩ | ⟨v, g2, h2, a1, a2, a3, a4, a5⟩
      · have a1' : f_X8_takeNumber 57 0 9 g = some (true, g2) := a1
        have a2' : f_X12_takes 136 0 9 h = some (nI (vZ T n i), h2) := a2
        have hs2 := hs.fc a3
        have hh2 := hh.fm a4
        have R2 : gR g2 = gR g := a3.1.R
        have pq2 : PQ g2 q F := pq.fa a3.1.a (fun a ha => by simp at ha; omega)
        have dq2 : DQ g2 F := dq.fa hs a3.1.a (fun a ha => by simp at ha; omega)
        obtain ⟨g3, b1, b2, b3, b4⟩ := c_tell hs2 (by rw [R2]; exact q2) pq2 dq2 wq k0 cl v9 q3
        have hF2 : gI h2 140 = F := by
          rw [a4.I (by decide)]
          exact hF
        have hF3 : gI (sI h2 140 (10 + (r * nv F 2 + k)) (nI (vZ T n i))) 140 = hA F (r * nv F 2 + k) (vZ T n i) := by
          rw [gI_sIs, hF2]
          rfl
        have e2 : nv (hA F (r * nv F 2 + k) (vZ T n i)) 2 = nv F 2 := hA_v (by omega)
        have R3 : gR g3 = gR g := b2.R.trans R2
        obtain ⟨bb, g4, h4, d1, d2, d3, d4, d5, d6⟩ := ih (k + 1) (hA F (r * nv F 2 + k) (vZ T n i)) (i + 1) g3 (sI h2 140 (10 + (r * nv F 2 + k)) (nI (vZ T n i))) (Sh.fi b2 hs2) hh2.si (a5.fi b2 (fun a ha => by simp at ha; omega)) a6.hh (by rw [R3]; exact q1) (by rw [R3]; exact q2) q3 hF3 b3 b4 (hA_wq wq k0 cl v9) ((hA_v (by omega)).trans k0) (by rw [hA_v (by omega)]; exact hr) (by rw [e2]; omega) (by rw [e2]; omega)
        rw [e2] at d1
        rw [a1', a2', bd_eq, bd_eq, ibT, a7, nI_add, b1, bd_eq, lad1, ix, sn140 hh2, gdI_nI (by omega) (by decide), nI_clamp (by omega), lg]
        refine ⟨bb, g4, h4, d1, d2, ((a3.1.q.mono (by simp)).tr (b2.q.mono (by simp))).tr d3, d4.trans R3, ((a4.mono (by decide) (by decide)).tr (Fm.rf.si (by decide) (by decide))).tr d5, d6.imp (fun ⟨u, i', v1, v2⟩ => ⟨u, i', by omega, ?_⟩) id⟩
        rw [show nv F 614 = nv (hA F (r * nv F 2 + k) (vZ T n i)) 614 from (hA_v (by omega)).symm]
        exact v2
      · have a1' : f_X8_takeNumber 57 0 9 g = some (false, g2) := a1
        have a2' : f_X12_takes 136 0 9 h = some (v, h2) := a2
        have hh2 := hh.fm a4
        obtain ⟨m, rfl⟩ : ∃ m, fu = m + 1 := ⟨fu - 1, by omega⟩
        rw [a1', a2', bd_eq, bd_eq, ibF, ix, sn140 hh2, gdI_nI (by omega) (by decide), nI_clamp (by omega), lg]
        have b3 : BadG g2 (sI h2 140 (10 + (r * nv F 2 + k)) v) := a5.hh (by decide)
        have hh3 : Sh (sI h2 140 (10 + (r * nv F 2 + k)) v) := hh2.si
        refine ⟨false, g2, _, rfl, ?_, a3.1.q.mono (by simp), a3.1.R, (a4.mono (by decide) (by decide)).tr (Fm.rf.si (by decide) (by decide)), Or.inr ⟨rfl, b3⟩⟩
        rw [f_X12_readRow_42, md136_4 hh3, gk140 hh3, sn140 hh3, show gdI (2 : Int32) 1515 = gdI (nI 2) 1515 (α := Unit × G) from rfl, gdI_nI (by decide) (by decide), if_neg b3.x]
        split
        · rfl
        · rfl
    · rw [if_pos (nI_le z (by omega)), if_pos (nI_le z (by omega))]
      rw [← hF] at pq dq wq
      exact ⟨true, g, h, rfl, rfl, Fq.rf, rfl, Fm.rf, Or.inl ⟨rfl, i, Nat.le_refl _, cc, rr, pq, dq, wq, by rw [hF]⟩⟩
end RWM
