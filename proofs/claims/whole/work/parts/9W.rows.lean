/-! ROWS behind deeds. -/
section ROW
variable {X : Nat → Prop} {A : Nat → Int32} {g g' : G} {p x y d : Nat}
theorem VB.of (h1 : ∀ c, c < 36 → A (52 + c) = nI (wl A c) ∧ wl A c ≤ 1 ∧ (cS A ≤ c → wl A c = 0)) (h2 : ∀ i, i < 2 * nv A 3 → A (88 + i) = nI (tw A i) ∧ tw A i < cS A ∧ wl A (tw A i) = 0) (h3 : ∀ i j, i < 2 * nv A 3 → j < 2 * nv A 3 → i / 2 ≠ j / 2 → tw A i ≠ tw A j) (h4 : ∀ p, p < nv A 3 → A (94 + p) = nI (sp A p)) (h5 : ∀ p, p < nv A 3 → A (97 + p) = nI (md A p) ∧ md A p ≤ 9) (h6 : ∀ p, p < nv A 3 → A (100 + p) = nI (dn A p) ∧ dn A p ≤ 3) : VB A (bo A) := by
  refine ⟨h1, fun i hi => ?_, fun i j hi hj hij => ?_, fun p hp => ?_, fun p hp => ?_, fun p hp => ?_⟩
  · simp only [nv_bo, bo, ← Nat.add_assoc, Nat.reduceAdd]
    exact h2 i hi
  · simp only [nv_bo, bo, ← Nat.add_assoc, Nat.reduceAdd]
    exact h3 i j hi hj hij
  · simp only [nv_bo, bo, ← Nat.add_assoc, Nat.reduceAdd]
    exact h4 p hp
  · simp only [nv_bo, bo, ← Nat.add_assoc, Nat.reduceAdd]
    exact h5 p hp
  · simp only [nv_bo, bo, ← Nat.add_assoc, Nat.reduceAdd]
    exact h6 p hp
/-- errands done by a pair that comes to x and y, d being done already -/
def dnw (A : Nat → Int32) (p x y d : Nat) : Nat := (d ||| (if A (46 + 2 * p) = nI x then 1 else 0)) ||| (if A (46 + 2 * p + 1) = nI y then 2 else 0)
theorem or_3 : ∀ d, d < 4 → (d ||| 1 ||| 2) < 4 ∧ (d ||| 1 ||| 0) < 4 ∧ (d ||| 0 ||| 2) < 4 ∧ (d ||| 0 ||| 0) < 4 ∧ (d ||| 1 ||| 2) % 2 = 1 ∧ (d ||| 1 ||| 0) % 2 = 1 ∧ (d ||| 1 ||| 2) / 2 % 2 = 1 ∧ (d ||| 0 ||| 2) / 2 % 2 = 1 := by decide
theorem dnw_3 (hd : d ≤ 3) : dnw A p x y d ≤ 3 := by
  have o := or_3 d (by omega)
  unfold dnw
  split <;> split <;> omega
/-- a pair is in x and y -/
def pA (A : Nat → Int32) (p x y d : Nat) : Nat → Int32 := fun j => if j = 88 + 2 * p then nI x else if j = 88 + 2 * p + 1 then nI y else if j = 94 + p then nI (apS (nv A 2) x y) else if j = 100 + p then nI (dnw A p x y d) else A j
theorem pA_n {j : Nat} (h1 : j ≠ 88 + 2 * p) (h2 : j ≠ 88 + 2 * p + 1) (h3 : j ≠ 94 + p) (h4 : j ≠ 100 + p) : pA A p x y d j = A j := by
  unfold pA
  rw [if_neg h1, if_neg h2, if_neg h3, if_neg h4]
theorem pA_v {j : Nat} (h1 : j ≠ 88 + 2 * p) (h2 : j ≠ 88 + 2 * p + 1) (h3 : j ≠ 94 + p) (h4 : j ≠ 100 + p) : nv (pA A p x y d) j = nv A j := by
  unfold nv
  rw [pA_n h1 h2 h3 h4]
theorem pA_1 : pA A p x y d (88 + 2 * p) = nI x := if_pos rfl
theorem pA_2 : pA A p x y d (88 + 2 * p + 1) = nI y := by
  unfold pA
  rw [if_neg (by omega), if_pos rfl]
theorem pA_3 (hp : p < 3) : pA A p x y d (94 + p) = nI (apS (nv A 2) x y) := by
  unfold pA
  rw [if_neg (by omega), if_neg (by omega), if_pos rfl]
theorem pA_4 (hp : p < 3) : pA A p x y d (100 + p) = nI (dnw A p x y d) := by
  unfold pA
  rw [if_neg (by omega), if_neg (by omega), if_neg (by omega), if_pos rfl]
theorem pA_pl (hp : p < 3) : Pl A (pA A p x y d) := fun k hk => pA_n (by omega) (by omega) (by omega) (by omega)
theorem pA_tw (hp : p < 3) (hx : x < 2 ^ 31) (hy : y < 2 ^ 31) {i : Nat} (hi : i < 6) : tw (pA A p x y d) i = if i = 2 * p then x else if i = 2 * p + 1 then y else tw A i := by
  unfold tw
  by_cases e1 : i = 2 * p
  · rw [if_pos e1, e1]
    unfold nv
    rw [pA_1, nI_clamp hx]
  · rw [if_neg e1]
    by_cases e2 : i = 2 * p + 1
    · rw [if_pos e2, e2, ← Nat.add_assoc]
      unfold nv
      rw [pA_2, nI_clamp hy]
    · rw [if_neg e2, pA_v (by omega) (by omega) (by omega) (by omega)]
theorem pA_wl (hp : p < 3) {c : Nat} (hc : c < 36) : wl (pA A p x y d) c = wl A c := pA_v (by omega) (by omega) (by omega) (by omega)
theorem pA_md (hp : p < 3) {r : Nat} (hr : r < 3) : md (pA A p x y d) r = md A r := pA_v (by omega) (by omega) (by omega) (by omega)
theorem pA_sp (hp : p < 3) (hx : x < 2 ^ 31) (hy : y < 2 ^ 31) {r : Nat} (hr : r < 3) : sp (pA A p x y d) r = if r = p then apS (nv A 2) x y else sp A r := by
  unfold sp
  rw [pA_tw hp hx hy (by omega), pA_tw hp hx hy (by omega), pA_v (j := 2) (by omega) (by omega) (by omega) (by omega)]
  by_cases e : r = p
  · rw [if_pos (by omega), if_neg (by omega), if_pos (by omega), if_pos e]
  · rw [if_neg (by omega), if_neg (by omega), if_neg (by omega), if_neg (by omega), if_neg e]
theorem pA_dn (hp : p < 3) (hd : d ≤ 3) {r : Nat} (hr : r < 3) : dn (pA A p x y d) r = if r = p then dnw A p x y d else dn A r := by
  have o := dnw_3 (A := A) (p := p) (x := x) (y := y) hd
  unfold dn
  by_cases e : r = p
  · rw [if_pos e, e]
    unfold nv
    rw [pA_4 hp, nI_clamp (by omega)]
  · rw [if_neg e, pA_v (by omega) (by omega) (by omega) (by omega)]
theorem fre_no {r c : Nat} (h : fre A r c = true) : wl A c = 0 ∧ ∀ i, i < 2 * nv A 3 → i / 2 ≠ r → tw A i ≠ c := of_decide_eq_true h
theorem pA_wf (h : WF A) (hp : p < nv A 3) (hx : x < cS A) (hy : y < cS A) (fx : fre A p x = true) (fy : fre A p y = true) (hd : d ≤ 3) : WF (pA A p x y d) := by
  obtain ⟨hA, hB, hL, hE⟩ := h
  have cl := cS_le hA
  have k3 := hA.2.2.2.2.2.2.2
  have P := pA_pl (A := A) (x := x) (y := y) (d := d) (show p < 3 by omega)
  have n3 : nv (pA A p x y d) 3 = nv A 3 := P.n_ (by omega)
  have n2 : nv (pA A p x y d) 2 = nv A 2 := P.n_ (by omega)
  have T : ∀ i, i < 6 → tw (pA A p x y d) i = if i = 2 * p then x else if i = 2 * p + 1 then y else tw A i := fun i hi => pA_tw (by omega) (by omega) (by omega) hi
  obtain ⟨x1, x2⟩ := fre_no fx
  obtain ⟨y1, y2⟩ := fre_no fy
  refine ⟨P.d_ hA, VB.of (fun c hc => ?_) (fun i hi => ?_) (fun i j hi hj hij => ?_) (fun r hr => ?_) (fun r hr => ?_) (fun r hr => ?_), P.lw_ hL, fun r hr => ?_⟩
  · rw [P.c_, pA_wl (by omega) hc, pA_n (by omega) (by omega) (by omega) (by omega)]
    exact hB.w hc
  · rw [n3] at hi
    have W : ∀ c, c < cS A → wl (pA A p x y d) c = wl A c := fun c hc => pA_wl (by omega) (by omega)
    rw [P.c_, T i (by omega)]
    by_cases e1 : i = 2 * p
    · rw [if_pos e1, e1, pA_1, W x hx]
      exact ⟨rfl, hx, x1⟩
    · rw [if_neg e1]
      by_cases e2 : i = 2 * p + 1
      · rw [if_pos e2, e2, ← Nat.add_assoc, pA_2, W y hy]
        exact ⟨rfl, hy, y1⟩
      · obtain ⟨t1, t2, t3⟩ := hB.t hi
        rw [if_neg e2, pA_n (by omega) (by omega) (by omega) (by omega), W _ t2]
        exact ⟨t1, t2, t3⟩
  · rw [n3] at hi hj
    rw [T i (by omega), T j (by omega)]
    by_cases a1 : i / 2 = p
    · have c1 : (if i = 2 * p then x else if i = 2 * p + 1 then y else tw A i) = x ∨ (if i = 2 * p then x else if i = 2 * p + 1 then y else tw A i) = y := by
        by_cases e : i = 2 * p
        · exact Or.inl (if_pos e)
        · right
          rw [if_neg e, if_pos (by omega)]
      rw [if_neg (show ¬ j = 2 * p by omega), if_neg (show ¬ j = 2 * p + 1 by omega)]
      rcases c1 with c1 | c1
      · rw [c1]
        exact (x2 j hj (by omega)).symm
      · rw [c1]
        exact (y2 j hj (by omega)).symm
    · rw [if_neg (show ¬ i = 2 * p by omega), if_neg (show ¬ i = 2 * p + 1 by omega)]
      by_cases b1 : j = 2 * p
      · rw [if_pos b1]
        exact x2 i hi a1
      · rw [if_neg b1]
        by_cases b2 : j = 2 * p + 1
        · rw [if_pos b2]
          exact y2 i hi a1
        · rw [if_neg b2]
          exact hB.d hi hj hij
  · rw [n3] at hr
    rw [pA_sp (by omega) (by omega) (by omega) (by omega)]
    by_cases e : r = p
    · rw [if_pos e, e, pA_3 (by omega)]
    · rw [if_neg e, pA_n (by omega) (by omega) (by omega) (by omega)]
      exact hB.s hr
  · rw [n3] at hr
    rw [pA_md (by omega) (by omega), pA_n (by omega) (by omega) (by omega) (by omega)]
    exact hB.m hr
  · rw [n3] at hr
    rw [pA_dn (by omega) hd (by omega)]
    by_cases e : r = p
    · rw [if_pos e, e, pA_4 (by omega)]
      exact ⟨rfl, dnw_3 hd⟩
    · rw [if_neg e, pA_n (by omega) (by omega) (by omega) (by omega)]
      exact hB.o hr
  · rw [n3] at hr
    unfold VEp
    rw [pA_n (j := 46 + 2 * r) (by omega) (by omega) (by omega) (by omega), pA_n (j := 46 + 2 * r + 1) (by omega) (by omega) (by omega) (by omega)]
    by_cases e : r = p
    · subst e
      have o := or_3 d (by omega)
      have e1 : tw (pA A r x y d) (2 * r) = x := by
        rw [T _ (by omega), if_pos rfl]
      have e2 : tw (pA A r x y d) (2 * r + 1) = y := by
        rw [T _ (by omega), if_neg (by omega), if_pos rfl]
      have e3 : dn (pA A r x y d) r = dnw A r x y d := by
        rw [pA_dn (by omega) hd (by omega), if_pos rfl]
      rw [e1, e2, e3]
      unfold dnw
      refine ⟨fun u => ?_, fun u => ?_⟩
      · rw [if_pos u.symm]
        split <;> omega
      · rw [if_pos u.symm]
        split <;> omega
    · have e1 : tw (pA A p x y d) (2 * r) = tw A (2 * r) := by
        rw [T _ (by omega), if_neg (by omega), if_neg (by omega)]
      have e2 : tw (pA A p x y d) (2 * r + 1) = tw A (2 * r + 1) := by
        rw [T _ (by omega), if_neg (by omega), if_neg (by omega)]
      have e3 : dn (pA A p x y d) r = dn A r := by
        rw [pA_dn (by omega) hd (by omega), if_neg e]
      rw [e1, e2, e3]
      exact hE r hr
end ROW
