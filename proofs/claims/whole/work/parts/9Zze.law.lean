/-! LOCKSTEP of laws: what is written, atoms, terms, sums. -/
section LWS
variable {T : Nat → Nat} {n M i N d lim : Nat} {F : Nat → Int32} {LC : List Nat} {g g' g1 h h' h1 : G} {b : Bool}
theorem tyL_app (m : List Nat) : ∀ (l : List Nat) (ts : List Bool), tyL (l ++ m) ts = (tyL l ts).bind (tyL m)
  | [], ts => rfl
  | c :: l, ts => by
    rw [List.cons_append, tyL_cons, tyL_cons]
    by_cases q1 : c < 3000
    · rw [if_pos q1, if_pos q1]
      by_cases q2 : c < 1008 ∧ ts.length < 60
      · rw [if_pos q2, if_pos q2]
        exact tyL_app m l _
      · rw [if_neg q2, if_neg q2]
        rfl
    · rw [if_neg q1, if_neg q1]
      by_cases q2 : c = 3006
      · rw [if_pos q2, if_pos q2]
        rcases ts with _ | ⟨_ | _, s⟩
        · rfl
        · rfl
        · exact tyL_app m l _
      · rw [if_neg q2, if_neg q2]
        by_cases q3 : c < 3003
        · rw [if_pos q3, if_pos q3]
          rcases ts with _ | ⟨_ | _, _ | ⟨_ | _, s⟩⟩
          · rfl
          · rfl
          · exact tyL_app m l _
          · rfl
          · rfl
          · rfl
          · rfl
        · rw [if_neg q3, if_neg q3]
          by_cases q4 : c < 3006
          · rw [if_pos q4, if_pos q4]
            rcases ts with _ | ⟨_ | _, _ | ⟨_ | _, s⟩⟩
            · rfl
            · rfl
            · exact tyL_app m l _
            · rfl
            · rfl
            · rfl
            · rfl
          · rw [if_neg q4, if_neg q4]
            by_cases q5 : c < 3009
            · rw [if_pos q5, if_pos q5]
              rcases ts with _ | ⟨_ | _, _ | ⟨_ | _, s⟩⟩
              · rfl
              · rfl
              · rfl
              · rfl
              · rfl
              · rfl
              · exact tyL_app m l _
            · rw [if_neg q5, if_neg q5]
              rfl
theorem tyL_2 {l m : List Nat} {ts r : List Bool} (h : tyL l ts = some r) : tyL (l ++ m) ts = tyL m r := by
  rw [tyL_app, h]
  rfl
theorem tyL_x {x : Nat} {ts : List Bool} (h : x < 1008) (h2 : ts.length < 60) : tyL [x] ts = some (false :: ts) := by
  rw [tyL_cons, if_pos (by omega), if_pos ⟨h, h2⟩]
  rfl
def CD (LC : List Nat) (g : G) : Prop := gI g 57 17 = nI LC.length ∧ ∀ j, j < LC.length → gI g 62 j = nI (cm (LC.getD j 0))
def RD (N : Nat) (F : Nat → Int32) (LC : List Nat) (h : G) : Prop := gI h 140 614 = nI (N + LC.length) ∧ (∀ j, j < LC.length → gI h 140 (615 + N + j) = nI (LC.getD j 0)) ∧ ∀ k, k < 614 ∨ (615 ≤ k ∧ k < 615 + N) → gI h 140 k = F k
theorem CD.cg (c : CD LC g) (e1 : gI g' 57 17 = gI g 57 17) (e2 : gI g' 62 = gI g 62) : CD LC g' := ⟨e1.trans c.1, by rw [e2]; exact c.2⟩
theorem RD.cg (r : RD N F LC h) (e : gI h' 140 = gI h 140) : RD N F LC h' := by
  unfold RD
  rw [e]
  exact r
theorem gd_1 {x j : Nat} (hj : j < LC.length + 1) : (LC ++ [x]).getD j 0 = if j = LC.length then x else LC.getD j 0 := by
  by_cases e : j = LC.length
  · rw [if_pos e, gd_r (by omega), e, Nat.sub_self]
    rfl
  · rw [if_neg e, gd_l (by omega)]
theorem ls_emit (hs : Sh g) (hh : Sh h) (c : CD LC g) (r : RD N F LC h) (w : gI h 136 11 = 0) (hb : N + LC.length < 900) (x : Nat) : ∃ g' h', f_X8_emit 57 (nI (cm x)) g = some (true, g') ∧ f_X12_codes 136 (nI x) h = some ((), h') ∧ Fc [17] [62] g g' ∧ Fm [] [140] h h' ∧ CD (LC ++ [x]) g' ∧ RD N F (LC ++ [x]) h' := by
  have c6 : (614 : Int32).toNatClampNeg = 614 := rfl
  have ll : (LC ++ [x]).length = LC.length + 1 := by simp
  refine ⟨sI (sI g 62 LC.length (nI (cm x))) 57 17 (nI (LC.length + 1)), sI (sI h 140 (615 + N + LC.length) (nI x)) 140 614 (nI (N + LC.length + 1)), ?_, ?_, (Fc.rf.si (by decide) (by decide)).sf (by decide), (Fm.rf.si (by decide) (by decide)).si (by decide) (by decide), ⟨?_, fun j hj => ?_⟩, ⟨?_, fun j hj => ?_, fun k hk => ?_⟩⟩
  · rw [f_X8_emit, md57_16 hs, gk62 hs, sn62 hs, c.1, if_neg (show ¬ nI 900 ≤ nI LC.length from nI_ge (by omega) (by decide)), gdI_nI (by omega) (by decide), nI_clamp (by omega), lg, gI_sIn (by decide), c.1, lad1, lg]
  · rw [f_X12_codes, if_pos w, md136_4 hh, gk140 hh, sn140 hh, show (614 : Int32) = nI 614 from rfl, gdI_nI (by decide) (by decide), nI_clamp (by decide), r.1, show (615 : Int32) = nI 615 from rfl, nI_add, gdI_nI (by omega) (by decide), nI_clamp (by omega), lg, ← Nat.add_assoc, gI_sIs, pk_un (by omega), r.1, lad1, lg]
  · rw [gI_sIs, pk_us, ll]
  · rw [ll] at hj
    rw [gI_sIn (by decide), gI_sIs, gd_1 hj]
    by_cases e : j = LC.length
    · rw [e, pk_us, if_pos rfl]
    · rw [pk_un e, if_neg e]
      exact c.2 j (by omega)
  · rw [gI_sIs, pk_us, ll, Nat.add_assoc]
  · rw [ll] at hj
    rw [gI_sIs, pk_un (by omega), gI_sIs, gd_1 hj]
    by_cases e : j = LC.length
    · rw [e, pk_us, if_pos rfl]
    · rw [pk_un (by omega), if_neg e]
      exact r.2.1 j (by omega)
  · rw [gI_sIs, pk_un (by omega), gI_sIs, pk_un (by omega)]
    exact r.2.2 k hk
def KcL : List Nat := [1, 2, 11, 12, 13, 14, 17]
def KrL : List Nat := [6, 7, 9, 10, 11, 12]
def LSZ (T : Nat → Nat) (n M : Nat) (P : Nat → G → G → Prop) (g h : G) (c : Option (Bool × G)) (r : Option (Unit × G)) : Prop := ∃ b g' h', c = some (b, g') ∧ r = some ((), h') ∧ Fc KcL [62] g g' ∧ Fm KrL [140] h h' ∧ ((b = true ∧ ∃ i', CT T n M i' g' ∧ RT T n i' h' ∧ P i' g' h') ∨ (b = false ∧ BadG g' h'))
theorem LSZ.tr {P : Nat → G → G → Prop} {c : Option (Bool × G)} {r : Option (Unit × G)} (x : Fc KcL [62] g g1) (y : Fm KrL [140] h h1) (l : LSZ T n M P g1 h1 c r) : LSZ T n M P g h c r := by
  obtain ⟨b, g2, h2, a1, a2, a3, a4, a5⟩ := l
  exact ⟨b, g2, h2, a1, a2, x.tr a3, y.tr a4, a5⟩
theorem LSZ.mono {P Q : Nat → G → G → Prop} {c : Option (Bool × G)} {r : Option (Unit × G)} (l : LSZ T n M P g h c r) (k : ∀ i g h, P i g h → Q i g h) : LSZ T n M Q g h c r := by
  obtain ⟨b, g2, h2, a1, a2, a3, a4, a5⟩ := l
  exact ⟨b, g2, h2, a1, a2, a3, a4, a5.imp (fun ⟨u, i', v1, v2, v3⟩ => ⟨u, i', v1, v2, k _ _ _ v3⟩) id⟩
def LPZ (N : Nat) (F : Nat → Int32) (b : Bool) (lim d : Nat) (LC : List Nat) (i i' : Nat) (g' h' : G) : Prop := ∃ L, i + L.length ≤ i' ∧ i < i' ∧ CD (LC ++ L) g' ∧ RD N F (LC ++ L) h' ∧ (∀ c ∈ L, c < 4000) ∧ ∀ ts : List Bool, ts.length + 6 * (7 - d) < lim → tyL L ts = some (b :: ts)
def LQZ (N : Nat) (F : Nat → Int32) (b : Bool) (lim d : Nat) (LC : List Nat) (i i' : Nat) (g' h' : G) : Prop := ∃ L, i + L.length ≤ i' ∧ CD (LC ++ L) g' ∧ RD N F (LC ++ L) h' ∧ (∀ c ∈ L, c < 4000) ∧ ∀ ts : List Bool, ts.length + 6 * (7 - d) < lim → tyL L (b :: ts) = some (b :: ts)
def PFZ (T : Nat → Nat) (n M N : Nat) (F : Nat → Int32) (b : Bool) (lim d : Nat) (fc : Nat → Int32 → G → Option (Bool × G)) (fr : Nat → Int32 → G → Option (Unit × G)) : Prop := ∀ LC i g h, Sh g → Sh h → CT T n M i g → RT T n i h → CD LC g → RD N F LC h → N + LC.length + 3 ≤ i → LSZ T n M (LPZ N F b lim d LC i) g h (fc 57 (nI d) g) (fr 136 (nI d) h)
/-- a loop's body and a function: the pieces one behind the other -/
theorem LQZ.app {L : List Nat} {j i' : Nat} (hj : i + L.length ≤ j) (hc : ∀ c ∈ L, c < 4000) (ht : ∀ ts : List Bool, ts.length + 6 * (7 - d) < lim → tyL L (b :: ts) = some (b :: ts)) (q : LQZ N F b lim d (LC ++ L) j i' g' h') : LQZ N F b lim d LC i i' g' h' := by
  obtain ⟨L2, a1, a2, a3, a4, a5⟩ := q
  refine ⟨L ++ L2, by rw [List.length_append]; omega, by rw [← List.append_assoc]; exact a2, by rw [← List.append_assoc]; exact a3, fun c hh => (List.mem_append.mp hh).elim (hc c) (a4 c), fun ts u => by rw [tyL_2 (ht ts u)]; exact a5 ts u⟩
theorem LPZ.app {L : List Nat} {j i' lim' : Nat} (hj : i + L.length ≤ j) (h1 : i < j) (h2 : j ≤ i') (hc : ∀ c ∈ L, c < 4000) (ht : ∀ ts : List Bool, ts.length + 6 * (7 - d) < lim' → tyL L ts = some (b :: ts)) (le : lim ≤ lim') (q : LQZ N F b lim d (LC ++ L) j i' g' h') : LPZ N F b lim d LC i i' g' h' := by
  obtain ⟨L2, a1, a2, a3, a4, a5⟩ := q
  refine ⟨L ++ L2, by rw [List.length_append]; omega, by omega, by rw [← List.append_assoc]; exact a2, by rw [← List.append_assoc]; exact a3, fun c hh => (List.mem_append.mp hh).elim (hc c) (a4 c), fun ts u => by rw [tyL_2 (ht ts (by omega))]; exact a5 ts u⟩
theorem ls_take (hz : TZ T n M) (hs : Sh g) (hh : Sh h) (c : CT T n M i g) (r : RT T n i h) {k0 x : Nat} (h0 : (k0, x) ∈ KPZ) (k1 : 1 < k0) : (kZ T n i = k0 ∧ i < M ∧ ∃ g' h', f_X8_take 57 (nI k0) g = some (true, g') ∧ f_X12_eats 136 (nI x) h = some (true, h') ∧ Fc [11, 12, 13, 14] [] g g' ∧ Fm [6, 7, 9, 10] [] h h' ∧ CT T n M (i + 1) g' ∧ RT T n (i + 1) h') ∨ (kZ T n i ≠ k0 ∧ ∃ g' h', f_X8_take 57 (nI k0) g = some (false, g') ∧ f_X12_eats 136 (nI x) h = some (false, h) ∧ f_X12_fails 136 2 h = some ((), h') ∧ Fc [1, 2] [] g g' ∧ Fm [11, 12] [] h h' ∧ BadG g' h') := by
  have t : KPZ.all (fun p => decide (p.1 < 128)) = true := by decide
  have k128 := of_decide_eq_true (List.all_eq_true.mp t _ h0)
  by_cases e : kZ T n i = k0
  · obtain ⟨iM, g2, h2, a1, a2, a3, a4, a5, a6⟩ := ls_next hz hs hh c r (by omega) (by omega)
    refine Or.inl ⟨e, iM, g2, h2, ?_, ?_, a3, a4, a5, a6⟩
    · rw [f_X8_take, if_pos ((c.k k128).mpr e), a1, bd_eq]
    · rw [f_X12_eats, r_isK r h0, bd_eq, decide_eq_true e, ibT, a2, bd_eq]
  · obtain ⟨g2, h2, a1, a2, a3⟩ := ls_bad c r
    refine Or.inr ⟨e, g2, h2, ?_, ?_, a2, a3⟩
    · rw [f_X8_take, if_neg (fun u => e ((c.k k128).mp u)), a1, bd_eq]
    · rw [f_X12_eats, r_isK r h0, bd_eq, decide_eq_false e, ibF]
theorem ls_in (hz : TZ T n M) (hs : Sh g) (hh : Sh h) (c : CT T n M i g) (r : RT T n i h) (k0 : kZ T n i ≠ 0) (k1 : kZ T n i ≠ 1) (hd : d ≤ 6) : (d < 6 ∧ i < M ∧ ∃ g' h', f_X8_deeper 57 (nI d) g = some (true, g') ∧ f_X12_goesIn 136 (nI d) h = some (true, h') ∧ Fc [11, 12, 13, 14] [] g g' ∧ Fm [6, 7, 9, 10] [] h h' ∧ CT T n M (i + 1) g' ∧ RT T n (i + 1) h') ∨ (∃ g' h', f_X8_deeper 57 (nI d) g = some (false, g') ∧ f_X12_goesIn 136 (nI d) h = some (false, h') ∧ Fc [1, 2] [] g g' ∧ Fm [11, 12] [] h h' ∧ BadG g' h') := by
  rcases Nat.lt_or_ge d 6 with z | z
  · obtain ⟨iM, g2, h2, a1, a2, a3, a4, a5, a6⟩ := ls_next hz hs hh c r k0 k1
    refine Or.inl ⟨z, iM, g2, h2, ?_, ?_, a3, a4, a5, a6⟩
    · rw [f_X8_deeper, if_pos (show nI d < (6 : Int32) from nI_lt (b := 6) z (by decide)), a1, bd_eq]
    · rw [f_X12_goesIn, if_neg (show ¬ nI d = (6 : Int32) from fun u => by have := (nI_eq (b := 6) (by omega) (by decide)).mp u; omega), f_X12_goesIn_11, if_pos r.2.2.2.2.2, a2, bd_eq, f_X12_goesIn_22, if_pos a6.2.2.2.2.2]
  · obtain ⟨g2, h2, a1, a2, a3, a4, a5⟩ := ls_fail c r (f := 4) (by decide) (by decide) k1
    obtain rfl : d = 6 := by omega
    have a1' : f_X8_refuse 57 4 g = some (false, g2) := a1
    have a2' : f_X12_fails 136 4 h = some ((), h2) := a2
    refine Or.inr ⟨g2, h2, ?_, ?_, a3, a4, a5⟩
    · rw [f_X8_deeper, if_neg (by decide), a1', bd_eq]
    · rw [f_X12_goesIn, if_pos (by decide), a2', bd_eq, f_X12_goesIn_11, if_neg a5.x, f_X12_goesIn_22, if_neg a5.x]
theorem r_wo2 (v : Nat) (h : G) : f_X12_wordOf 136 (nI (pmT v)) h = some (if v < 8 then nI v else -1, h) := by
  rcases Nat.lt_or_ge v 15 with z | z
  · obtain rfl | rfl | rfl | rfl | rfl | rfl | rfl | rfl | rfl | rfl | rfl | rfl | rfl | rfl | rfl : v = 0 ∨ v = 1 ∨ v = 2 ∨ v = 3 ∨ v = 4 ∨ v = 5 ∨ v = 6 ∨ v = 7 ∨ v = 8 ∨ v = 9 ∨ v = 10 ∨ v = 11 ∨ v = 12 ∨ v = 13 ∨ v = 14 := by omega
    all_goals rfl
  · rw [pm_22 z, if_neg (by omega)]
    rfl
theorem r_woK {k : Nat} (v : Nat) (h : G) (hk : k ∈ KSZ) (h2 : k ≠ 2) : f_X12_wordOf 136 (nI (rkT k v)) h = some (-1, h) := by
  rw [rk_v h2]
  unfold KSZ SGT at hk
  simp only [List.mem_cons, List.not_mem_nil, or_false] at hk
  rcases hk with rfl | rfl | rfl | rfl | rfl | rfl | rfl | rfl | rfl | rfl | rfl | rfl | rfl | rfl | rfl | rfl
  all_goals first
    | exact absurd rfl h2
    | rfl
end LWS
