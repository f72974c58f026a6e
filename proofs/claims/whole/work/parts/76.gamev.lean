/-! FORCING: levels, by numbers made less and by numbers found; no heap here. -/
section GMV
def lmin (v : Nat → Nat) : List Nat → Nat
  | [] => 1073741824
  | y :: ys => if v y < lmin v ys then v y else lmin v ys
def lmax (v : Nat → Nat) : List Nat → Nat
  | [] => 0
  | y :: ys => if lmax v ys < v y then v y else lmax v ys
variable {v u : Nat → Nat}
theorem lmin_le {y : Nat} : ∀ {L : List Nat}, y ∈ L → lmin v L ≤ v y
  | [], h => by cases h
  | z :: L, h => by
    unfold lmin
    rcases List.mem_cons.mp h with e | e
    · rw [e]
      split <;> omega
    · have := lmin_le e
      split <;> omega
theorem lmin_far : ∀ (L : List Nat), lmin v L ≤ 1073741824
  | [] => Nat.le_refl _
  | z :: L => by
    have := lmin_far L
    unfold lmin
    split <;> omega
theorem lmin_at : ∀ {L : List Nat}, L ≠ [] → (∀ y ∈ L, v y ≤ 1073741824) → ∃ y, y ∈ L ∧ v y = lmin v L
  | [], h, _ => absurd rfl h
  | z :: L, _, hv => by
    unfold lmin
    split
    · exact ⟨z, List.mem_cons_self, rfl⟩
    · next h =>
      cases L with
      | nil =>
        have := hv z List.mem_cons_self
        unfold lmin at h ⊢
        exact ⟨z, List.mem_cons_self, by omega⟩
      | cons w L =>
        obtain ⟨y, y1, y2⟩ := lmin_at (L := w :: L) (by simp) (fun y hy => hv y (List.mem_cons_of_mem _ hy))
        exact ⟨y, List.mem_cons_of_mem _ y1, y2⟩
theorem lmax_ge {y : Nat} : ∀ {L : List Nat}, y ∈ L → v y ≤ lmax v L
  | [], h => by cases h
  | z :: L, h => by
    unfold lmax
    rcases List.mem_cons.mp h with e | e
    · rw [e]
      split <;> omega
    · have := lmax_ge e
      split <;> omega
theorem lmax_at : ∀ {L : List Nat}, L ≠ [] → ∃ y, y ∈ L ∧ v y = lmax v L
  | [], h => absurd rfl h
  | z :: L, _ => by
    unfold lmax
    split
    · exact ⟨z, List.mem_cons_self, rfl⟩
    · next h =>
      cases L with
      | nil =>
        unfold lmax at h ⊢
        exact ⟨z, List.mem_cons_self, by omega⟩
      | cons w L =>
        obtain ⟨y, y1, y2⟩ := lmax_at (L := w :: L) (by simp)
        exact ⟨y, List.mem_cons_of_mem _ y1, y2⟩
theorem lmin_mo (h : ∀ j, v j ≤ u j) : ∀ L, lmin v L ≤ lmin u L
  | [] => Nat.le_refl _
  | z :: L => by
    have := lmin_mo h L
    have := h z
    unfold lmin
    split <;> split <;> omega
theorem lmax_mo (h : ∀ j, v j ≤ u j) : ∀ L, lmax v L ≤ lmax u L
  | [] => Nat.le_refl _
  | z :: L => by
    have := lmax_mo h L
    have := h z
    unfold lmax
    split <;> split <;> omega
theorem lmin_ap (y : Nat) : ∀ L, lmin v (L ++ [y]) = if v y < lmin v L then v y else lmin v L
  | [] => rfl
  | z :: L => by
    have ih := lmin_ap y L
    show (if v z < lmin v (L ++ [y]) then v z else lmin v (L ++ [y])) = _
    rw [ih]
    show _ = if v y < (if v z < lmin v L then v z else lmin v L) then v y else (if v z < lmin v L then v z else lmin v L)
    by_cases h1 : v y < lmin v L
    · rw [if_pos h1]
      by_cases h2 : v z < lmin v L
      · rw [if_pos h2]
        by_cases h3 : v z < v y
        · rw [if_pos h3, if_neg (by omega)]
        · rw [if_neg h3]
          by_cases h4 : v y < v z
          · rw [if_pos h4]
          · rw [if_neg h4]
            omega
      · rw [if_neg h2, if_pos h1, if_neg (by omega)]
    · rw [if_neg h1]
      by_cases h2 : v z < lmin v L
      · rw [if_pos h2, if_neg (by omega)]
      · rw [if_neg h2, if_neg h1]
theorem lmax_ap (y : Nat) : ∀ L, lmax v (L ++ [y]) = if lmax v L < v y then v y else lmax v L
  | [] => rfl
  | z :: L => by
    have ih := lmax_ap y L
    show (if lmax v (L ++ [y]) < v z then v z else lmax v (L ++ [y])) = _
    rw [ih]
    show _ = if (if lmax v L < v z then v z else lmax v L) < v y then v y else (if lmax v L < v z then v z else lmax v L)
    by_cases h1 : lmax v L < v y
    · rw [if_pos h1]
      by_cases h2 : lmax v L < v z
      · rw [if_pos h2]
        by_cases h3 : v y < v z
        · rw [if_pos h3, if_neg (by omega)]
        · rw [if_neg h3]
          by_cases h4 : v z < v y
          · rw [if_pos h4]
          · rw [if_neg h4]
            omega
      · rw [if_neg h2, if_pos h1, if_neg (by omega)]
    · rw [if_neg h1]
      by_cases h2 : lmax v L < v z
      · rw [if_pos h2, if_neg (by omega)]
      · rw [if_neg h2, if_neg h1]
/-- what the nodes behind a node give: the least, if twin 0 leads, else the most -/
def gOp (sl : Nat → List Nat) (v : Nat → Nat) (x : Nat) : Nat := if x % 2 = 0 then lmin v (sl x) else lmax v (sl x)
def gT (P : Nat → Bool) (sl : Nat → List Nat) (v : Nat → Nat) (x : Nat) : Nat := if P x = true then (if gOp sl v x + 1 < v x then gOp sl v x + 1 else v x) else v x
variable {P : Nat → Bool} {sl : Nat → List Nat}
theorem gOp_mo (h : ∀ j, v j ≤ u j) (x : Nat) : gOp sl v x ≤ gOp sl u x := by
  unfold gOp
  split
  · exact lmin_mo h _
  · exact lmax_mo h _
theorem gT_mo : Mo (gT P sl) := fun v u h j => by
  have := gOp_mo (sl := sl) h j
  have := h j
  unfold gT
  split
  · split <;> split <;> omega
  · assumption
theorem gT_dc : Dc (gT P sl) := fun v j => by
  unfold gT
  split
  · split <;> omega
  · exact Nat.le_refl _
theorem gT_Q (v : Nat → Nat) (x : Nat) (h : gT P sl v x < v x) : P x = true := by
  unfold gT at h
  split at h
  · assumption
  · omega
theorem gT_cc {B : Nat → Nat} {n : Nat} (hne : ∀ x, sl x ≠ []) (u : Nat → Nat) (hu : ∀ x, u x ≤ 1073741824) (x : Nat) (hx : B x < n) (h : gT P sl (sw_j (gT P sl) B n u) x < sw_j (gT P sl) B n u x) : ∃ y, sw_j (gT P sl) B n u y < u y ∧ sw_j (gT P sl) B n u y < gT P sl (sw_j (gT P sl) B n u) x := by
  have hp := gT_Q _ _ h
  have e1 : sw_j (gT P sl) B n u x = gT P sl u x := if_pos hx
  have dl : ∀ y, sw_j (gT P sl) B n u y ≤ u y := sj_dec gT_dc u
  have e2 : gT P sl (sw_j (gT P sl) B n u) x = gOp sl (sw_j (gT P sl) B n u) x + 1 := by
    unfold gT at h ⊢
    rw [if_pos hp] at h ⊢
    split
    · rfl
    · next q =>
      rw [if_neg q] at h
      omega
  have e3 : gT P sl u x ≤ gOp sl u x + 1 := by
    unfold gT
    rw [if_pos hp]
    split <;> omega
  rw [e2] at h ⊢
  rw [e1] at h
  have lt : gOp sl (sw_j (gT P sl) B n u) x < gOp sl u x := by omega
  unfold gOp at lt ⊢
  by_cases z : x % 2 = 0
  · rw [if_pos z, if_pos z] at lt
    rw [if_pos z]
    obtain ⟨y, y1, y2⟩ := lmin_at (v := sw_j (gT P sl) B n u) (hne x) (fun y _ => Nat.le_trans (dl y) (hu y))
    have := lmin_le (v := u) y1
    exact ⟨y, by omega, by omega⟩
  · rw [if_neg z, if_neg z] at lt
    rw [if_neg z]
    obtain ⟨y, y1, y2⟩ := lmax_at (v := u) (hne x)
    have := lmax_ge (v := sw_j (gT P sl) B n u) y1
    exact ⟨y, by omega, by omega⟩
/-- the numbers behind all turns -/
def gL' (P : Nat → Bool) (sl : Nat → List Nat) (B : Nat → Nat) (n M : Nat) (v : Nat → Nat) : Nat → Nat := itN (sw_j (gT P sl) B n) M v
theorem gL_fix {B : Nat → Nat} {n M N : Nat} (hne : ∀ x, sl x ≠ []) (hN : ∀ x, B x < n → x < N) (hP : ∀ x, P x = true → B x < n) (hM : N ≤ M) {v : Nat → Nat} (hv : ∀ x, v x ≤ 1073741824) {j : Nat} (hj : B j < n) : gT P sl (gL' P sl B n M v) j = gL' P sl B n M v j := by
  refine Nat.le_antisymm (gT_dc _ j) (Nat.not_lt.mp (fun q => ?_))
  have le : ∀ k x, itN (sw_j (gT P sl) B n) k v x ≤ 1073741824 := fun k x => Nat.le_trans (ij_le gT_dc v k x) (hv x)
  -- the chain, for the rows that are reached
  have ch : ∀ k x, B x < n → gT P sl (itN (sw_j (gT P sl) B n) k v) x < itN (sw_j (gT P sl) B n) k v x → ∃ L : List Nat, L.length = k + 1 ∧ L.Nodup ∧ (∀ y ∈ L, P y = true) ∧ ∀ y ∈ L, itN (sw_j (gT P sl) B n) (k + 1) v y ≤ itN (sw_j (gT P sl) B n) (k + 1) v x := fun k => by
    induction k with
    | zero =>
      intro x hx h
      exact ⟨[x], rfl, by simp, fun y hy => by rw [List.mem_singleton.mp hy]; exact gT_Q _ x h, fun y hy => by rw [List.mem_singleton.mp hy]; exact Nat.le_refl _⟩
    | succ k ih =>
      intro x hx h
      obtain ⟨y, y1, y2⟩ := gT_cc (B := B) (n := n) hne (itN (sw_j (gT P sl) B n) k v) (le k) x hx h
      have hy : B y < n := by
        apply Classical.byContradiction
        intro q
        unfold sw_j at y1
        rw [if_neg q] at y1
        omega
      have y3 : gT P sl (itN (sw_j (gT P sl) B n) k v) y < itN (sw_j (gT P sl) B n) k v y := by
        have : sw_j (gT P sl) B n (itN (sw_j (gT P sl) B n) k v) y = gT P sl (itN (sw_j (gT P sl) B n) k v) y := if_pos hy
        omega
      obtain ⟨L, l1, l2, l3, l4⟩ := ih y hy y3
      have ex : itN (sw_j (gT P sl) B n) (k + 2) v x = gT P sl (itN (sw_j (gT P sl) B n) (k + 1) v) x := if_pos hx
      have e1 : itN (sw_j (gT P sl) B n) (k + 1) v = sw_j (gT P sl) B n (itN (sw_j (gT P sl) B n) k v) := rfl
      have hn : x ∉ L := fun q => by
        have := l4 x q
        rw [e1] at this h
        omega
      refine ⟨x :: L, by rw [List.length_cons, l1], List.nodup_cons.mpr ⟨hn, l2⟩, fun z hz => ?_, fun z hz => ?_⟩
      · rcases List.mem_cons.mp hz with e | e
        · rw [e]; exact gT_Q _ x h
        · exact l3 z e
      · rcases List.mem_cons.mp hz with e | e
        · rw [e]; exact Nat.le_refl _
        · have a1 := l4 z e
          have a2 := ij_dec (T := gT P sl) (B := B) (n := n) gT_dc v (k + 1) z
          rw [ex]
          have a3 : itN (sw_j (gT P sl) B n) (k + 1) v y < gT P sl (itN (sw_j (gT P sl) B n) (k + 1) v) x := y2
          omega
  obtain ⟨L, l1, l2, l3, -⟩ := ch M j hj q
  have := pig L P N l2 (fun y hy => ⟨hN y (hP y (l3 y hy)), l3 y hy⟩)
  have := cntB_le P N
  omega
theorem gL_le {B : Nat → Nat} {n M : Nat} (v : Nat → Nat) (x : Nat) : gL' P sl B n M v x ≤ v x := ij_le gT_dc v M x
/-- what isn't told less is as it was; what is told less is just one more than what stands behind -/
theorem gL_or {B : Nat → Nat} {n : Nat} {v : Nat → Nat} : ∀ (M x : Nat), gL' P sl B n M v x = v x ∨ (P x = true ∧ gOp sl (gL' P sl B n M v) x + 1 ≤ gL' P sl B n M v x)
  | 0, x => Or.inl rfl
  | M + 1, x => by
    have dn : ∀ y, gL' P sl B n (M + 1) v y ≤ gL' P sl B n M v y := fun y => ij_dec gT_dc v M y
    have om := gOp_mo (sl := sl) dn x
    have ih := gL_or (B := B) (n := n) (v := v) M x
    have ih' : gL' P sl B n M v x = v x ∨ (P x = true ∧ gOp sl (gL' P sl B n (M + 1) v) x + 1 ≤ gL' P sl B n M v x) := ih.elim Or.inl (fun ⟨a, b⟩ => Or.inr ⟨a, by omega⟩)
    have e : gL' P sl B n (M + 1) v x = sw_j (gT P sl) B n (gL' P sl B n M v) x := rfl
    have e2 : sw_j (gT P sl) B n (gL' P sl B n M v) x = gL' P sl B n M v x ∨ (P x = true ∧ sw_j (gT P sl) B n (gL' P sl B n M v) x = gOp sl (gL' P sl B n M v) x + 1) := by
      unfold sw_j
      split
      · unfold gT
        split
        · next hp =>
          split
          · exact Or.inr ⟨hp, rfl⟩
          · exact Or.inl rfl
        · exact Or.inl rfl
      · exact Or.inl rfl
    rcases e2 with z | ⟨z1, z2⟩
    · rw [e, z]
      exact ih'
    · rw [e, z2]
      exact Or.inr ⟨z1, by omega⟩
theorem gL_bd {B : Nat → Nat} {n : Nat} {v : Nat → Nat} (hne : ∀ x, sl x ≠ []) (h0 : ∀ x, v x = 0 ∨ v x = 1073741824) : ∀ (M x : Nat), gL' P sl B n M v x < 1073741824 → gL' P sl B n M v x ≤ M
  | 0, x, h => by
    have e : gL' P sl B n 0 v x = v x := rfl
    rw [e] at h ⊢
    rcases h0 x with z | z <;> omega
  | M + 1, x, h => by
    have ih := gL_bd (B := B) (n := n) (v := v) hne h0 M
    have hvl : ∀ x, v x ≤ 1073741824 := fun x => by
      rcases h0 x with z | z <;> omega
    have lle : ∀ x, gL' P sl B n M v x ≤ 1073741824 := fun x => Nat.le_trans (gL_le v x) (hvl x)
    have e : gL' P sl B n (M + 1) v x = sw_j (gT P sl) B n (gL' P sl B n M v) x := rfl
    have e2 : sw_j (gT P sl) B n (gL' P sl B n M v) x = gL' P sl B n M v x ∨ sw_j (gT P sl) B n (gL' P sl B n M v) x = gOp sl (gL' P sl B n M v) x + 1 := by
      unfold sw_j
      split
      · unfold gT
        split
        · split
          · exact Or.inr rfl
          · exact Or.inl rfl
        · exact Or.inl rfl
      · exact Or.inl rfl
    rcases e2 with z | z
    · rw [e, z] at h ⊢
      have := ih x h
      omega
    · rw [e, z] at h ⊢
      unfold gOp at h ⊢
      split
      · next h2 =>
        rw [if_pos h2] at h
        obtain ⟨y, y1, y2⟩ := lmin_at (v := gL' P sl B n M v) (hne x) (fun y _ => lle y)
        have := ih y (by omega)
        omega
      · next h2 =>
        rw [if_neg h2] at h
        obtain ⟨y, y1, y2⟩ := lmax_at (v := gL' P sl B n M v) (hne x)
        have := ih y (by omega)
        omega
/-- levels: unknown is none; such a row of levels is the only one -/
def Lv (sl : Nat → List Nat) (tg : Nat → Bool) (D : Nat → Prop) (lv : Nat → Option Nat) : Prop := (∀ x, D x → tg x = true → lv x = some 0) ∧ (∀ x k, D x → tg x = false → lv x = some k → (∃ y, y ∈ sl x ∧ ∃ j, lv y = some j ∧ k = j + 1) ∧ (x % 2 = 0 → ∀ y j, y ∈ sl x → lv y = some j → k ≤ j + 1) ∧ (x % 2 = 1 → ∀ y, y ∈ sl x → ∃ j, lv y = some j ∧ j + 1 ≤ k)) ∧ ∀ x, D x → tg x = false → lv x = none → (x % 2 = 0 → ∀ y, y ∈ sl x → lv y = none) ∧ (x % 2 = 1 → ∃ y, y ∈ sl x ∧ lv y = none)
theorem Lv_uniq {sl sl' : Nat → List Nat} {tg tg' : Nat → Bool} {D : Nat → Prop} {D' : Nat → Prop} {lv lw : Nat → Option Nat} {f : Nat → Nat} (h : Lv sl tg D lv) (h' : Lv sl' tg' D' lw) (hf : ∀ x, D x → D' (f x) ∧ tg' (f x) = tg x ∧ f x % 2 = x % 2 ∧ sl' (f x) = (sl x).map f) (hc : ∀ x, D x → ∀ y, y ∈ sl x → D y) : ∀ x, D x → lw (f x) = lv x := by
  have key : ∀ k x, D x → (lv x = some k ↔ lw (f x) = some k) := fun k => by
    induction k using Nat.strongRecOn with
    | _ k ih =>
      have up : ∀ x, D x → lv x = some k → lw (f x) = some k := fun x hx e => by
        obtain ⟨f1, f2, f3, f4⟩ := hf x hx
        cases ht : tg x with
        | true =>
          rw [h.1 x hx ht] at e
          rw [← Option.some.inj e]
          exact h'.1 _ f1 (f2.trans ht)
        | false =>
          obtain ⟨⟨y, y1, j, y2, y3⟩, c2, c3⟩ := h.2.1 x k hx ht e
          have wy := (ih j (by omega) y (hc x hx y y1)).mp y2
          have my : f y ∈ sl' (f x) := by
            rw [f4]
            exact List.mem_map_of_mem y1
          cases hw : lw (f x) with
          | none =>
            exfalso
            obtain ⟨n1, n2⟩ := h'.2.2 _ f1 (f2.trans ht) hw
            obtain z | z : x % 2 = 0 ∨ x % 2 = 1 := by omega
            · rw [n1 (by omega) _ my] at wy
              cases wy
            · obtain ⟨w, w1, w2⟩ := n2 (by omega)
              rw [f4] at w1
              obtain ⟨u, u1, u2⟩ := List.mem_map.mp w1
              obtain ⟨i, i1, i2⟩ := c3 z u u1
              have := (ih i (by omega) u (hc x hx u u1)).mp i1
              rw [u2, w2] at this
              cases this
          | some m =>
            obtain ⟨⟨w, w1, i, w2, w3⟩, d2, d3⟩ := h'.2.1 _ m f1 (f2.trans ht) hw
            rw [f4] at w1
            obtain ⟨u, u1, u2⟩ := List.mem_map.mp w1
            have : m = k := by
              obtain z | z : x % 2 = 0 ∨ x % 2 = 1 := by omega
              · have a1 := d2 (by omega) (f y) j my wy
                rcases Nat.lt_or_ge i k with q | q
                · rw [← u2] at w2
                  have a2 := (ih i q u (hc x hx u u1)).mpr w2
                  have a3 := c2 z u i u1 a2
                  omega
                · omega
              · obtain ⟨j', a1, a2⟩ := d3 (by omega) (f y) my
                rw [wy] at a1
                have a3 := Option.some.inj a1
                obtain ⟨i', b1, b2⟩ := c3 z u u1
                have b3 := (ih i' (by omega) u (hc x hx u u1)).mp b1
                rw [u2, w2] at b3
                have b4 := Option.some.inj b3
                omega
            rw [this]
      refine fun x hx => ⟨up x hx, fun e => ?_⟩
      obtain ⟨f1, f2, f3, f4⟩ := hf x hx
      cases ht : tg x with
      | true =>
        rw [h'.1 _ f1 (f2.trans ht)] at e
        rw [← Option.some.inj e]
        exact h.1 x hx ht
      | false =>
        obtain ⟨⟨w, w1, j, y2, y3⟩, c2, c3⟩ := h'.2.1 _ k f1 (f2.trans ht) e
        rw [f4] at w1
        obtain ⟨y, y1, y4⟩ := List.mem_map.mp w1
        rw [← y4] at y2
        have vy := (ih j (by omega) y (hc x hx y y1)).mpr y2
        cases hv : lv x with
        | none =>
          exfalso
          obtain ⟨n1, n2⟩ := h.2.2 x hx ht hv
          obtain z | z : x % 2 = 0 ∨ x % 2 = 1 := by omega
          · rw [n1 z y y1] at vy
            cases vy
          · obtain ⟨u, u1, u2⟩ := n2 z
            obtain ⟨i, i1, i2⟩ := c3 (by omega) (f u) (by rw [f4]; exact List.mem_map_of_mem u1)
            have := (ih i (by omega) u (hc x hx u u1)).mpr i1
            rw [u2] at this
            cases this
        | some m =>
          rcases Nat.lt_trichotomy m k with q | q | q
          · have := (ih m q x hx).mp hv
            rw [e] at this
            have := Option.some.inj this
            omega
          · rw [q]
          · exfalso
            obtain ⟨⟨u, u1, i, u2, u3⟩, d2, d3⟩ := h.2.1 x m hx ht hv
            obtain z | z : x % 2 = 0 ∨ x % 2 = 1 := by omega
            · have := d2 z y j y1 vy
              omega
            · obtain ⟨i', a1, a2⟩ := c3 (by omega) (f u) (by rw [f4]; exact List.mem_map_of_mem u1)
              have := (ih i' (by omega) u (hc x hx u u1)).mpr a1
              rw [u2] at this
              have := Option.some.inj this
              omega
  intro x hx
  cases hv : lv x with
  | some k => exact (key k x hx).mp hv
  | none =>
    cases hw : lw (f x) with
    | none => rfl
    | some m =>
      have := (key m x hx).mpr hw
      rw [hv] at this
      cases this
/-- the numbers as levels -/
def toLv (v : Nat → Nat) (x : Nat) : Option Nat := if v x < 1073741824 then some (v x) else none
theorem Lv_gL {B : Nat → Nat} {n M N : Nat} {tg : Nat → Bool} (hne : ∀ x, sl x ≠ []) (hN : ∀ x, B x < n → x < N) (hP : ∀ x, P x = true → B x < n) (hM : N ≤ M) (hMM : M < 1000000) {D : Nat → Prop} (hD : ∀ x, D x → P x = !tg x) (hc : ∀ x, D x → ∀ y, y ∈ sl x → D y) (v : Nat → Nat) (h0 : ∀ x, v x = 0 ∨ v x = 1073741824) (hv : ∀ x, D x → (v x = 0 ↔ tg x = true)) : Lv sl tg D (toLv (gL' P sl B n M v)) := by
  have hvl : ∀ x, v x ≤ 1073741824 := fun x => by
    rcases h0 x with z | z <;> omega
  have lle : ∀ x, gL' P sl B n M v x ≤ 1073741824 := fun x => Nat.le_trans (gL_le v x) (hvl x)
  have op : ∀ x, D x → tg x = false → gL' P sl B n M v x ≤ gOp sl (gL' P sl B n M v) x + 1 := fun x hx ht => by
    have hp : P x = true := by
      rw [hD x hx, ht]
      rfl
    have f := gL_fix (P := P) hne hN hP hM hvl (hP x hp)
    unfold gT at f
    rw [if_pos hp] at f
    split at f <;> omega
  refine ⟨fun x hx ht => ?_, fun x k hx ht e => ?_, fun x hx ht e => ?_⟩
  · have : gL' P sl B n M v x = 0 := by
      have := gL_le (P := P) (sl := sl) (B := B) (n := n) (M := M) v x
      have := (hv x hx).mpr ht
      omega
    unfold toLv
    rw [this, if_pos (by decide)]
  · unfold toLv at e
    split at e
    · next lt =>
      have ek := Option.some.inj e
      have o1 := op x hx ht
      have vx : v x = 1073741824 := (h0 x).resolve_left (fun z => by
        have := (hv x hx).mp z
        rw [ht] at this
        cases this)
      rcases gL_or (P := P) (sl := sl) (B := B) (n := n) (v := v) M x with z | ⟨z1, z2⟩
      · omega
      · have z3 : gL' P sl B n M v x = gOp sl (gL' P sl B n M v) x + 1 := by omega
        unfold gOp at z3
        refine ⟨?_, fun h2 y j y1 y2 => ?_, fun h2 y y1 => ?_⟩
        · split at z3
          · obtain ⟨y, y1, y2⟩ := lmin_at (v := gL' P sl B n M v) (hne x) (fun y _ => lle y)
            refine ⟨y, y1, gL' P sl B n M v y, ?_, by omega⟩
            unfold toLv
            rw [if_pos (by omega)]
          · obtain ⟨y, y1, y2⟩ := lmax_at (v := gL' P sl B n M v) (hne x)
            refine ⟨y, y1, gL' P sl B n M v y, ?_, by omega⟩
            unfold toLv
            rw [if_pos (by omega)]
        · rw [if_pos h2] at z3
          have := lmin_le (v := gL' P sl B n M v) y1
          unfold toLv at y2
          split at y2
          · have := Option.some.inj y2
            omega
          · cases y2
        · rw [if_neg (by omega)] at z3
          have := lmax_ge (v := gL' P sl B n M v) y1
          refine ⟨gL' P sl B n M v y, ?_, by omega⟩
          unfold toLv
          rw [if_pos (by omega)]
    · cases e
  · have lx : gL' P sl B n M v x = 1073741824 := by
      unfold toLv at e
      split at e
      · cases e
      · have := lle x
        omega
    have o1 := op x hx ht
    unfold gOp at o1
    refine ⟨fun h2 y y1 => ?_, fun h2 => ?_⟩
    · rw [if_pos h2] at o1
      have := lmin_le (v := gL' P sl B n M v) y1
      unfold toLv
      rw [if_neg (fun q => by
        have := gL_bd (P := P) (B := B) (n := n) hne h0 M y q
        omega)]
    · rw [if_neg (by omega)] at o1
      obtain ⟨y, y1, y2⟩ := lmax_at (v := gL' P sl B n M v) (hne x)
      refine ⟨y, y1, ?_⟩
      unfold toLv
      rw [if_neg (fun q => by
        have := gL_bd (P := P) (B := B) (n := n) hne h0 M y q
        omega)]
end GMV
