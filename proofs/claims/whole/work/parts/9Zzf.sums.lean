/-! LOCKSTEP of laws: atoms, loops, units. -/
section LWU
variable {T : Nat → Nat} {n M i N d lim : Nat} {F : Nat → Int32} {LC : List Nat} {g g' g1 h h' h1 : G} {b : Bool}
theorem ls_atom (hz : TZ T n M) (hd : d ≤ 6) {hSc : Nat → Int32 → G → Option (Bool × G)} {hSr : Nat → Int32 → G → Option (Unit × G)} (HS : d < 6 → PFZ T n M N F false 63 (d + 1) hSc hSr) : PFZ T n M N F false 65 d (f_X8_atom hSc) (f_X12_readAtom hSr) := by
  intro LC i g h hs hh c r cd rd hb
  have kin := kZ_in (T := T) (n := n) (i := i)
  have iM := c.2.2.2.1
  have M9 : M ≤ 900 := Nat.le_trans hz.2.1 hz.1
  have w0 := r.2.2.2.2.2
  have i23 : f_X12_is 136 23 h = some (decide (kZ T n i = 3), h) := r_isK r (k0 := 3) (x := 23) (by decide)
  have i35 : f_X12_is 136 35 h = some (decide (kZ T n i = 40), h) := r_isK r (k0 := 40) (x := 35) (by decide)
  have c40 : gI g 57 12 = (40 : Int32) ↔ kZ T n i = 40 := c.k (x := 40) (by decide)
  have c3 : gI g 57 12 = (3 : Int32) ↔ kZ T n i = 3 := c.k (x := 3) (by decide)
  have c2 : gI g 57 12 = (2 : Int32) ↔ kZ T n i = 2 := c.k (x := 2) (by decide)
  have bad : f_X8_atom hSc 57 (nI d) g = f_X8_atom_95 hSc 57 g → f_X12_readAtom hSr 136 (nI d) h = (bd (f_X12_fails 136 2 h) (fun _ g7 => some ((), g7))) → LSZ T n M (LPZ N F false 65 d LC i) g h (f_X8_atom hSc 57 (nI d) g) (f_X12_readAtom hSr 136 (nI d) h) := fun e1 e2 => by
    obtain ⟨g2, h2, a1, a2, a3, a4, a5⟩ := ls_bad c r
    rw [e1, e2, f_X8_atom_95, a1, a2, bd_eq, bd_eq]
    exact ⟨false, g2, h2, rfl, rfl, a3.mono (by decide) (by decide), a4.mono (by decide) (by decide), Or.inr ⟨rfl, a5⟩⟩
  have em : ∀ x, x < 1008 → kZ T n i ≠ 0 → kZ T n i ≠ 1 → f_X8_atom hSc 57 (nI d) g = (bd (f_X8_emit 57 (nI x) g) (fun _ g => f_X8_atom_100 hSc 57 g)) → f_X12_readAtom hSr 136 (nI d) h = bd (f_X12_codes 136 (nI x) h) (fun _ g => bd (f_X12_next 136 g) (fun _ g => some ((), g))) → LSZ T n M (LPZ N F false 65 d LC i) g h (f_X8_atom hSc 57 (nI d) g) (f_X12_readAtom hSr 136 (nI d) h) := fun x hx k0 k1 e1 e2 => by
    obtain ⟨g2, h2, a1, a2, a3, a4, a5, a6⟩ := ls_emit hs hh cd rd w0 (by omega) x
    have cx : cm x = x := if_pos (by omega)
    rw [cx] at a1
    obtain ⟨iM', g3, h3, b1, b2, b3, b4, b5, b6⟩ := ls_next hz (hs.fc a3) (hh.fm a4) (c.fc a3 (by decide) (by decide)) (r.fm a4 (by decide) (by decide)) k0 k1
    rw [e1, e2, a1, a2, bd_eq, bd_eq, f_X8_atom_100, b1, b2, bd_eq, bd_eq]
    exact ⟨true, g3, h3, rfl, rfl, (a3.mono (by decide) (by decide)).tr (b3.mono (by decide) (by decide)), (a4.mono (by decide) (by decide)).tr (b4.mono (by decide) (by decide)), Or.inl ⟨rfl, i + 1, b5, b6, [x], Nat.le_refl _, Nat.lt_succ_self _, a5.cg (b3.2 17 (by decide)) (b3.I (by decide)), a6.cg (b4.I (by decide)), fun c hc => by rw [List.mem_singleton.mp hc]; omega, fun ts hts => tyL_x hx (by omega)⟩⟩
  by_cases e40 : kZ T n i = 40
  · have e1 : f_X8_atom hSc 57 (nI d) g = (bd (f_X8_deeper 57 (nI d) g) (fun v13 g14 => if (b2i v13) = 0 then (some (false, g14)) else (bd (hSc 57 (nI (d + 1)) g14) (fun v18 g19 => if (b2i v18) = 0 then (some (false, g19)) else (bd (f_X8_take 57 (41 : Int32) g19) (fun v23 g24 => if (b2i v23) = 0 then (some (false, g24)) else (some (true, g24)))))))) := by
      rw [f_X8_atom, if_pos (c40.mpr e40), lad1]
    have e2 : f_X12_readAtom hSr 136 (nI d) h = (bd (f_X12_goesIn 136 (nI d) h) (fun v10 g11 => if (b2i v10) = 0 then (some ((), g11)) else (bd (hSr 136 (nI (d + 1)) g11) (fun _ g16 => bd (f_X12_eats 136 (36 : Int32) g16) (fun v19 g20 => if (b2i v19) = 0 then (bd (f_X12_fails 136 (2 : Int32) g20) (fun _ g25 => some ((), g25))) else (some ((), g20))))))) := by
      rw [f_X12_readAtom, i23, bd_eq, decide_eq_false (by omega), ibF, if_pos w0, r.2.2.2.1, r_woK _ _ kin (by omega), bd_eq, if_pos rfl, f_X12_readAtom_66, i35, bd_eq, decide_eq_true e40, ibT, lad1]
    rw [e1, e2]
    rcases ls_in hz hs hh c r (by omega) (by omega) hd with ⟨d6, iM', g2, h2, a1, a2, a3, a4, a5, a6⟩ | ⟨g2, h2, a1, a2, a3, a4, a5⟩
    · have hs2 := hs.fc a3
      have hh2 := hh.fm a4
      obtain ⟨bb, g3, h3, b1, b2, b3, b4, b5⟩ := HS d6 LC (i + 1) g2 h2 hs2 hh2 a5 a6 (cd.cg (a3.2 17 (by decide)) (a3.I (by decide))) (rd.cg (a4.I (by decide))) (by omega)
      have x3 : Fc KcL [62] g g3 := (a3.mono (by decide) (by decide)).tr b3
      have y3 : Fm KrL [140] h h3 := (a4.mono (by decide) (by decide)).tr b4
      rw [a1, a2, bd_eq, bd_eq, ibT, ibT, b1, b2, bd_eq, bd_eq]
      rcases b5 with ⟨rfl, i3, c3', r3, L, l1, l2, l3, l4, l5, l6⟩ | ⟨rfl, b5⟩
      · rw [ibT]
        rcases ls_take hz (hs.fc x3) (hh.fm y3) c3' r3 (k0 := 41) (x := 36) (by decide) (by decide) with ⟨-, iM3, g4, h4, d1, d2, d3, d4, d5, d6⟩ | ⟨-, g4, h4, d1, d2, d2', d3, d4, d5⟩
        · have d1' : f_X8_take 57 41 g3 = some (true, g4) := d1
          have d2' : f_X12_eats 136 36 h3 = some (true, h4) := d2
          rw [d1', d2', bd_eq, bd_eq, ibT, ibT]
          exact ⟨true, g4, h4, rfl, rfl, x3.tr (d3.mono (by decide) (by decide)), y3.tr (d4.mono (by decide) (by decide)), Or.inl ⟨rfl, i3 + 1, d5, d6, L, by omega, by omega, l3.cg (d3.2 17 (by decide)) (d3.I (by decide)), l4.cg (d4.I (by decide)), l5, fun ts hts => l6 ts (by omega)⟩⟩
        · have d1' : f_X8_take 57 41 g3 = some (false, g4) := d1
          have d2'' : f_X12_eats 136 36 h3 = some (false, h3) := d2
          rw [d1', d2'', bd_eq, bd_eq, ibF, ibF, d2', bd_eq]
          exact ⟨false, g4, h4, rfl, rfl, x3.tr (d3.mono (by decide) (by decide)), y3.tr (d4.mono (by decide) (by decide)), Or.inr ⟨rfl, d5⟩⟩
      · rw [ibF, x_eats b5.x, bd_eq, ibF, x_fails b5.x, bd_eq]
        exact ⟨false, g3, h3, rfl, rfl, x3, y3, Or.inr ⟨rfl, b5⟩⟩
    · rw [a1, a2, bd_eq, bd_eq, ibF, ibF]
      exact ⟨false, g2, h2, rfl, rfl, a3.mono (by decide) (by decide), a4.mono (by decide) (by decide), Or.inr ⟨rfl, a5⟩⟩
  · by_cases e3 : kZ T n i = 3
    · have := vZ_lt (Or.inr e3)
      refine em (vZ T n i) (by omega) (by omega) (by omega) ?_ ?_
      · rw [f_X8_atom, if_neg (fun u => e40 (c40.mp u)), if_pos (c3.mpr e3), c.2.2.2.2.2.2 (Or.inr e3)]
      · rw [f_X12_readAtom, i23, bd_eq, decide_eq_true e3, ibT, r.2.2.2.2.1 e3]
    · by_cases e2 : kZ T n i = 2
      · have v1 := vZ_lt (Or.inl e2)
        have k9 : gI h 136 9 = nI (pmT (vZ T n i)) := by
          rw [r.2.2.2.1, e2]
          rfl
        by_cases e8 : vZ T n i < 8
        · refine em (1000 + vZ T n i) (by omega) (by omega) (by omega) ?_ ?_
          · rw [f_X8_atom, if_neg (fun u => e40 (c40.mp u)), if_neg (fun u => e3 (c3.mp u)), if_pos (c2.mpr e2), c.2.2.2.2.2.2 (Or.inl e2), if_neg (lnge8 e8), lda1000]
          · rw [f_X12_readAtom, i23, bd_eq, decide_eq_false e3, ibF, if_pos w0, k9, r_wo2, bd_eq, if_pos e8, if_neg (nI_ne1 (by omega)), k9, r_wo2, bd_eq, if_pos e8, lda1000]
        · refine bad ?_ ?_
          · rw [f_X8_atom, if_neg (fun u => e40 (c40.mp u)), if_neg (fun u => e3 (c3.mp u)), if_pos (c2.mpr e2), c.2.2.2.2.2.2 (Or.inl e2), if_pos (lle8 (by omega) (by omega))]
          · rw [f_X12_readAtom, i23, bd_eq, decide_eq_false e3, ibF, if_pos w0, k9, r_wo2, bd_eq, if_neg e8, if_pos rfl, f_X12_readAtom_66, i35, bd_eq, decide_eq_false e40, ibF]
      · refine bad ?_ ?_
        · rw [f_X8_atom, if_neg (fun u => e40 (c40.mp u)), if_neg (fun u => e3 (c3.mp u)), if_neg (fun u => e2 (c2.mp u))]
        · rw [f_X12_readAtom, i23, bd_eq, decide_eq_false e3, ibF, if_pos w0, r.2.2.2.1, r_woK _ _ kin e2, bd_eq, if_pos rfl, f_X12_readAtom_66, i35, bd_eq, decide_eq_false e40, ibF]
theorem ls_loop {lc : Nat → Int32 → G → Option (Bool × G)} {lr : Nat → G → Option (Unit × G)} {fc : Nat → Int32 → G → Option (Bool × G)} {fr : Nat → Int32 → G → Option (Unit × G)} {C : Nat → Prop} {x : Nat → Nat} (hz : TZ T n M) (HA : PFZ T n M N F b (lim + 1) d fc fr) (hC : ∀ i, C i → kZ T n i ≠ 0 ∧ kZ T n i ≠ 1) (hx : ∀ i, C i → x i < 4000 ∧ ∀ ts, tyL [x i] (b :: b :: ts) = some (b :: ts)) (s1 : ∀ m c i g, CT T n M i g → ¬ C i → lc (m + 1) c g = some (true, g)) (s2 : ∀ m i h, RT T n i h → ¬ C i → lr (m + 1) h = some ((), h)) (s3 : ∀ m c i g, CT T n M i g → C i → c < 900 → lc (m + 1) (nI c) g = bd (f_X8_look 57 g) (fun _ g1 => bd (fc 57 (nI d) g1) (fun v g2 => if b2i v = 0 then some (false, g2) else bd (f_X8_emit 57 (nI (cm (x i))) g2) (fun _ g3 => lc m (nI (c + 1)) g3)))) (s4 : ∀ m i h, RT T n i h → C i → lr (m + 1) h = bd (f_X12_next 136 h) (fun _ h1 => bd (fr 136 (nI d) h1) (fun _ h2 => bd (f_X12_codes 136 (nI (x i)) h2) (fun _ h3 => lr m h3)))) (s5 : ∀ m h, gI h 136 11 ≠ 0 → lr (m + 1) h = some ((), h)) : ∀ r LC i c fu1 fu2 g h, M - i ≤ r → r < fu1 → r < fu2 → c < i → Sh g → Sh h → CT T n M i g → RT T n i h → CD LC g → RD N F LC h → N + LC.length + 3 ≤ i → LSZ T n M (fun i' g' h' => i ≤ i' ∧ LQZ N F b lim d LC i i' g' h') g h (lc fu1 (nI c) g) (lr fu2 h) := by
  have M9 : M ≤ 900 := Nat.le_trans hz.2.1 hz.1
  intro r
  induction r with
  | zero =>
    intro LC i c fu1 fu2 g h hr hf1 hf2 hc hs hh cc rr cd rd hb
    obtain ⟨m1, rfl⟩ : ∃ m, fu1 = m + 1 := ⟨fu1 - 1, by omega⟩
    obtain ⟨m2, rfl⟩ : ∃ m, fu2 = m + 1 := ⟨fu2 - 1, by omega⟩
    have nC : ¬ C i := fun u => by
      have := (ls_next hz hs hh cc rr (hC i u).1 (hC i u).2).1
      omega
    rw [s1 m1 _ i g cc nC, s2 m2 i h rr nC]
    exact ⟨true, g, h, rfl, rfl, Fc.rf, Fm.rf, Or.inl ⟨rfl, i, cc, rr, Nat.le_refl _, [], Nat.le_refl _, by rw [List.append_nil]; exact cd, by rw [List.append_nil]; exact rd, fun c hc => (by cases hc), fun ts _ => rfl⟩⟩
  | succ r ih =>
    intro LC i c fu1 fu2 g h hr hf1 hf2 hc hs hh cc rr cd rd hb
    obtain ⟨m1, rfl⟩ : ∃ m, fu1 = m + 1 := ⟨fu1 - 1, by omega⟩
    obtain ⟨m2, rfl⟩ : ∃ m, fu2 = m + 1 := ⟨fu2 - 1, by omega⟩
    by_cases hCi : C i
    · obtain ⟨iM, g2, h2, a1, a2, a3, a4, a5, a6⟩ := ls_next hz hs hh cc rr (hC i hCi).1 (hC i hCi).2
      obtain ⟨x4, xt⟩ := hx i hCi
      rw [s3 m1 c i g cc hCi (by omega), s4 m2 i h rr hCi, a1, a2, bd_eq, bd_eq]
      obtain ⟨bb, g3, h3, b1, b2, b3, b4, b5⟩ := HA LC (i + 1) g2 h2 (hs.fc a3) (hh.fm a4) a5 a6 (cd.cg (a3.2 17 (by decide)) (a3.I (by decide))) (rd.cg (a4.I (by decide))) (by omega)
      have x3 : Fc KcL [62] g g3 := (a3.mono (by decide) (by decide)).tr b3
      have y3 : Fm KrL [140] h h3 := (a4.mono (by decide) (by decide)).tr b4
      rw [b1, b2, bd_eq, bd_eq]
      rcases b5 with ⟨rfl, i3, c3, r3, L, l1, l2, l3, l4, l5, l6⟩ | ⟨rfl, b5⟩
      · have iM3 := c3.2.2.2.1
        have ll : (LC ++ L).length = LC.length + L.length := List.length_append
        obtain ⟨g4, h4, d1, d2, d3, d4, d5, d6⟩ := ls_emit (hs.fc x3) (hh.fm y3) l3 l4 r3.2.2.2.2.2 (by omega) (x i)
        have x4' : Fc KcL [62] g g4 := x3.tr (d3.mono (by decide) (by decide))
        have y4' : Fm KrL [140] h h4 := y3.tr (d4.mono (by decide) (by decide))
        rw [ibT, d1, d2, bd_eq, bd_eq]
        rw [List.append_assoc] at d5 d6
        have ll2 : (LC ++ (L ++ [x i])).length = LC.length + L.length + 1 := by
          rw [List.length_append, List.length_append]
          rfl
        refine LSZ.tr x4' y4' ((ih (LC ++ (L ++ [x i])) i3 (c + 1) m1 m2 g4 h4 (by omega) (by omega) (by omega) (by omega) (hs.fc x4') (hh.fm y4') (c3.fc d3 (by decide) (by decide)) (r3.fm d4 (by decide) (by decide)) d5 d6 (by omega)).mono (fun i' g' h' q => ⟨by have := q.1; omega, LQZ.app (by rw [List.length_append]; simp; omega) (fun c hc => (List.mem_append.mp hc).elim (l5 c) (fun u => by rw [List.mem_singleton.mp u]; exact x4)) (fun ts hts => ?_) q.2⟩))
        rw [tyL_2 (l6 (b :: ts) (by rw [List.length_cons]; omega))]
        exact xt ts
      · obtain ⟨m3, rfl⟩ : ∃ m, m2 = m + 1 := ⟨m2 - 1, by omega⟩
        rw [ibF, x_codes b5.x, bd_eq, s5 m3 h3 b5.x]
        exact ⟨false, g3, h3, rfl, rfl, x3, y3, Or.inr ⟨rfl, b5⟩⟩
    · rw [s1 m1 _ i g cc hCi, s2 m2 i h rr hCi]
      exact ⟨true, g, h, rfl, rfl, Fc.rf, Fm.rf, Or.inl ⟨rfl, i, cc, rr, Nat.le_refl _, [], Nat.le_refl _, by rw [List.append_nil]; exact cd, by rw [List.append_nil]; exact rd, fun c hc => (by cases hc), fun ts _ => rfl⟩⟩
theorem ls_seq {lc : Nat → Int32 → G → Option (Bool × G)} {lr : Nat → G → Option (Unit × G)} {fc gc : Nat → Int32 → G → Option (Bool × G)} {fr gr : Nat → Int32 → G → Option (Unit × G)} (hz : TZ T n M) (HA : PFZ T n M N F b (lim + 1) d fc fr) (HL : ∀ r LC i c fu1 fu2 g h, M - i ≤ r → r < fu1 → r < fu2 → c < i → Sh g → Sh h → CT T n M i g → RT T n i h → CD LC g → RD N F LC h → N + LC.length + 3 ≤ i → LSZ T n M (fun i' g' h' => i ≤ i' ∧ LQZ N F b lim d LC i i' g' h') g h (lc fu1 (nI c) g) (lr fu2 h)) (s5 : ∀ m h, gI h 136 11 ≠ 0 → lr (m + 1) h = some ((), h)) (e1 : ∀ g, gc 57 (nI d) g = bd (fc 57 (nI d) g) (fun v g2 => if b2i v = 0 then some (false, g2) else lc FU (nI 0) g2)) (e2 : ∀ h, gr 136 (nI d) h = bd (fr 136 (nI d) h) (fun _ h2 => lr FU h2)) : PFZ T n M N F b lim d gc gr := by
  have M9 : M ≤ 900 := Nat.le_trans hz.2.1 hz.1
  have FUg := @FU_gt 902 (by decide)
  intro LC i g h hs hh cc rr cd rd hb
  rw [e1, e2]
  obtain ⟨bb, g3, h3, b1, b2, b3, b4, b5⟩ := HA LC i g h hs hh cc rr cd rd hb
  rw [b1, b2, bd_eq, bd_eq]
  rcases b5 with ⟨rfl, i3, c3, r3, L, l1, l2, l3, l4, l5, l6⟩ | ⟨rfl, b5⟩
  · have ll : (LC ++ L).length = LC.length + L.length := List.length_append
    rw [ibT]
    exact LSZ.tr b3 b4 ((HL M (LC ++ L) i3 0 FU FU g3 h3 (by omega) (by omega) (by omega) (by omega) (hs.fc b3) (hh.fm b4) c3 r3 l3 l4 (by omega)).mono (fun i' g' h' q => LPZ.app (lim' := lim + 1) l1 l2 q.1 l5 l6 (by omega) q.2))
  · obtain ⟨m3, hm⟩ : ∃ m, FU = m + 1 := ⟨FU - 1, rfl⟩
    rw [ibF, hm, s5 m3 h3 b5.x]
    exact ⟨false, g3, h3, rfl, rfl, b3, b4, Or.inr ⟨rfl, b5⟩⟩
end LWU
