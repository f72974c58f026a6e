/-! SWEEPS: rows of numbers made less till nothing becomes less; BFS by positions. No heap here. -/
section
def sw_p (T : (Nat → Nat) → Nat → Nat) (B : Nat → Nat) : Nat → (Nat → Nat) → (Nat → Nat)
  | 0, v => v
  | k + 1, v => fun j => if B j = k then T (sw_p T B k v) j else sw_p T B k v j
def sw_j (T : (Nat → Nat) → Nat → Nat) (B : Nat → Nat) (n : Nat) (v : Nat → Nat) : Nat → Nat := fun j => if B j < n then T v j else v j
def itN (f : (Nat → Nat) → (Nat → Nat)) : Nat → (Nat → Nat) → (Nat → Nat)
  | 0, v => v
  | k + 1, v => f (itN f k v)
def Mo (T : (Nat → Nat) → Nat → Nat) : Prop := ∀ v w : Nat → Nat, (∀ j, v j ≤ w j) → ∀ j, T v j ≤ T w j
def Dc (T : (Nat → Nat) → Nat → Nat) : Prop := ∀ (v : Nat → Nat) j, T v j ≤ v j
variable {T : (Nat → Nat) → Nat → Nat} {B : Nat → Nat} {n : Nat} {v w : Nat → Nat}
theorem sw_dec (hd : Dc T) : ∀ k (v : Nat → Nat) j, sw_p T B k v j ≤ v j
  | 0, v, j => Nat.le_refl _
  | k + 1, v, j => by
    have ih := sw_dec hd k v j
    show (if B j = k then T (sw_p T B k v) j else sw_p T B k v j) ≤ v j
    split
    · exact Nat.le_trans (hd _ j) ih
    · exact ih
theorem sw_frz : ∀ k (v : Nat → Nat) j, k ≤ B j → sw_p T B k v j = v j
  | 0, v, j, _ => rfl
  | k + 1, v, j, h => by
    show (if B j = k then T (sw_p T B k v) j else sw_p T B k v j) = v j
    rw [if_neg (by omega)]
    exact sw_frz k v j (by omega)
theorem sw_fin {j k : Nat} (v : Nat → Nat) (h : B j < k) : ∀ m, sw_p T B (k + m) v j = sw_p T B k v j
  | 0 => rfl
  | m + 1 => by
    show (if B j = k + m then T (sw_p T B (k + m) v) j else sw_p T B (k + m) v j) = _
    rw [if_neg (by omega)]
    exact sw_fin v h m
theorem sw_at {j : Nat} (v : Nat → Nat) (h : B j < n) : sw_p T B n v j = T (sw_p T B (B j) v) j := by
  obtain ⟨m, rfl⟩ : ∃ m, n = (B j + 1) + m := ⟨n - (B j + 1), by omega⟩
  rw [sw_fin v (Nat.lt_succ_self _) m]
  show (if B j = B j then _ else _) = _
  rw [if_pos rfl]
theorem sw_lej (hm : Mo T) (hd : Dc T) (v : Nat → Nat) (j : Nat) : sw_p T B n v j ≤ sw_j T B n v j := by
  unfold sw_j
  split
  · next h =>
    rw [sw_at v h]
    exact hm _ _ (sw_dec hd _ v) j
  · exact sw_dec hd n v j
theorem sw_ge (hm : Mo T) {L : Nat → Nat} (hL : ∀ j, B j < n → L j ≤ T L j) (h : ∀ j, L j ≤ v j) : ∀ k, k ≤ n → ∀ j, L j ≤ sw_p T B k v j
  | 0, _, j => h j
  | k + 1, hk, j => by
    have ih := sw_ge hm hL h k (by omega)
    show L j ≤ (if B j = k then T (sw_p T B k v) j else sw_p T B k v j)
    split
    · next e => exact Nat.le_trans (hL j (by omega)) (hm _ _ ih j)
    · exact ih j
theorem sw_same (h : ∀ j, sw_p T B n v j = v j) {j : Nat} (hj : B j < n) : T v j = v j := by
  have e : sw_p T B (B j) v = v := by
    funext i
    rcases Nat.lt_or_ge (B i) (B j) with q | q
    · obtain ⟨m, hm⟩ : ∃ m, n = B j + m := ⟨n - B j, by omega⟩
      have h2 := h i
      rw [hm, sw_fin v q m] at h2
      exact h2
    · exact sw_frz _ v i q
  have := sw_at (T := T) v hj
  rw [e] at this
  rw [← this]
  exact h j
theorem sj_mono (hm : Mo T) (h : ∀ j, v j ≤ w j) (j : Nat) : sw_j T B n v j ≤ sw_j T B n w j := by
  unfold sw_j
  split
  · exact hm _ _ h j
  · exact h j
theorem sj_dec (hd : Dc T) (v : Nat → Nat) (j : Nat) : sw_j T B n v j ≤ v j := by
  unfold sw_j
  split
  · exact hd _ j
  · exact Nat.le_refl _
theorem ij_mono (hm : Mo T) (h : ∀ j, v j ≤ w j) : ∀ k j, itN (sw_j T B n) k v j ≤ itN (sw_j T B n) k w j
  | 0, j => h j
  | k + 1, j => sj_mono hm (ij_mono hm h k) j
theorem ij_dec (hd : Dc T) (v : Nat → Nat) (k j : Nat) : itN (sw_j T B n) (k + 1) v j ≤ itN (sw_j T B n) k v j := sj_dec hd _ j
theorem ij_le (hd : Dc T) (v : Nat → Nat) : ∀ k j, itN (sw_j T B n) k v j ≤ v j
  | 0, _ => Nat.le_refl _
  | k + 1, j => Nat.le_trans (ij_dec hd v k j) (ij_le hd v k j)
theorem ij_fix (h : ∀ j, B j < n → T v j = v j) : ∀ k, itN (sw_j T B n) k v = v
  | 0 => rfl
  | k + 1 => by
    show sw_j T B n (itN (sw_j T B n) k v) = v
    rw [ij_fix h k]
    funext j
    unfold sw_j
    split
    · next q => exact h j q
    · rfl
/-- the rows behind k sweeps: between the limit and the k-th of the slower rows -/
theorem sw_run (hm : Mo T) (hd : Dc T) {M : Nat} (hM : ∀ j, B j < n → T (itN (sw_j T B n) M v) j = itN (sw_j T B n) M v j) : ∀ k j, itN (sw_j T B n) M v j ≤ itN (sw_p T B n) k v j ∧ itN (sw_p T B n) k v j ≤ itN (sw_j T B n) k v j
  | 0, j => ⟨ij_le hd v M j, Nat.le_refl _⟩
  | k + 1, j => by
    have ih := sw_run hm hd hM k
    exact ⟨sw_ge hm (fun i hi => Nat.le_of_eq (hM i hi).symm) (fun i => (ih i).1) n (Nat.le_refl _) j, Nat.le_trans (sw_lej hm hd _ j) (sj_mono hm (fun i => (ih i).2) j)⟩
theorem sw_end (hm : Mo T) (hd : Dc T) {M : Nat} (hM : ∀ j, B j < n → T (itN (sw_j T B n) M v) j = itN (sw_j T B n) M v j) {k : Nat} (h : ∀ j, sw_p T B n (itN (sw_p T B n) k v) j = itN (sw_p T B n) k v j) : itN (sw_p T B n) k v = itN (sw_j T B n) M v := by
  have r := sw_run hm hd hM k
  have f := ij_fix (v := itN (sw_p T B n) k v) (fun j hj => sw_same h hj) M
  have le : ∀ j, itN (sw_p T B n) k v j ≤ v j := fun j => Nat.le_trans (r j).2 (ij_le hd v k j)
  funext j
  refine Nat.le_antisymm ?_ (r j).1
  have := ij_mono (B := B) (n := n) hm le M j
  rw [f] at this
  exact this
theorem sw_stop (hm : Mo T) (hd : Dc T) {M : Nat} (hM : ∀ j, B j < n → T (itN (sw_j T B n) M v) j = itN (sw_j T B n) M v j) {k : Nat} (hk : M ≤ k) (j : Nat) : sw_p T B n (itN (sw_p T B n) k v) j = itN (sw_p T B n) k v j := by
  have le : ∀ m j, itN (sw_j T B n) (M + m) v j = itN (sw_j T B n) M v j := fun m => by
    induction m with
    | zero => intro j; rfl
    | succ m ih =>
      intro j
      show sw_j T B n (itN (sw_j T B n) (M + m) v) j = _
      rw [show itN (sw_j T B n) (M + m) v = itN (sw_j T B n) M v from funext ih]
      unfold sw_j
      split
      · next q => exact hM j q
      · rfl
  have e1 := le (k - M) j
  have e2 := le (k + 1 - M) j
  rw [show M + (k - M) = k by omega] at e1
  rw [show M + (k + 1 - M) = k + 1 by omega] at e2
  have r1 := sw_run hm hd hM k j
  have r2 := sw_run hm hd hM (k + 1) j
  have e3 : itN (sw_p T B n) (k + 1) v j = sw_p T B n (itN (sw_p T B n) k v) j := rfl
  omega
/-- where the slower rows still change in the k-th turn there is a row of k + 1 nodes -/
theorem sw_chain (hd : Dc T) {Q : Nat → Bool} (hQ : ∀ (v : Nat → Nat) x, B x < n → T v x < v x → Q x = true) (cc : ∀ (u : Nat → Nat) x, B x < n → T (sw_j T B n u) x < sw_j T B n u x → ∃ y, sw_j T B n u y < u y ∧ sw_j T B n u y < T (sw_j T B n u) x) : ∀ k x, B x < n → T (itN (sw_j T B n) k v) x < itN (sw_j T B n) k v x → ∃ L : List Nat, L.length = k + 1 ∧ L.Nodup ∧ (∀ y ∈ L, Q y = true) ∧ ∀ y ∈ L, itN (sw_j T B n) (k + 1) v y ≤ itN (sw_j T B n) (k + 1) v x
  | 0, x, hx, h => ⟨[x], rfl, by simp, fun y hy => by rw [List.mem_singleton.mp hy]; exact hQ _ x hx h, fun y hy => by rw [List.mem_singleton.mp hy]; exact Nat.le_refl _⟩
  | k + 1, x, hx, h => by
    obtain ⟨y, y1, y2⟩ := cc (itN (sw_j T B n) k v) x hx h
    have hy : B y < n := by
      apply Classical.byContradiction
      intro q
      unfold sw_j at y1
      rw [if_neg q] at y1
      omega
    have y3 : T (itN (sw_j T B n) k v) y < itN (sw_j T B n) k v y := by
      have : sw_j T B n (itN (sw_j T B n) k v) y = T (itN (sw_j T B n) k v) y := if_pos hy
      omega
    obtain ⟨L, l1, l2, l3, l4⟩ := sw_chain hd hQ cc k y hy y3
    have ex : itN (sw_j T B n) (k + 2) v x = T (itN (sw_j T B n) (k + 1) v) x := if_pos hx
    have ey : itN (sw_j T B n) (k + 1) v y = sw_j T B n (itN (sw_j T B n) k v) y := rfl
    have e1 : itN (sw_j T B n) (k + 1) v = sw_j T B n (itN (sw_j T B n) k v) := rfl
    have hn : x ∉ L := fun q => by
      have := l4 x q
      rw [e1] at this h
      omega
    refine ⟨x :: L, by rw [List.length_cons, l1], List.nodup_cons.mpr ⟨hn, l2⟩, fun z hz => ?_, fun z hz => ?_⟩
    · rcases List.mem_cons.mp hz with e | e
      · rw [e]; exact hQ _ x hx h
      · exact l3 z e
    · rcases List.mem_cons.mp hz with e | e
      · rw [e]; exact Nat.le_refl _
      · have a1 := l4 z e
        have a2 := ij_dec (B := B) (n := n) hd v (k + 1) z
        rw [ex]
        have a3 : itN (sw_j T B n) (k + 1) v y < T (itN (sw_j T B n) (k + 1) v) x := y2
        omega
theorem cntB_rm {Q : Nat → Bool} {x : Nat} (hq : Q x = true) : ∀ {n : Nat}, x < n → cntB Q n = cntB (fun y => Q y && decide (y ≠ x)) n + 1
  | 0, h => by omega
  | n + 1, h => by
    unfold cntB
    rcases Nat.lt_or_ge x n with q | q
    · rw [cntB_rm hq q]
      have : decide (n ≠ x) = true := decide_eq_true (by omega)
      rw [this, Bool.and_true]
      omega
    · have e : x = n := by omega
      subst e
      rw [hq, cntB_congr (P := fun y => Q y && decide (y ≠ x)) (Q := Q) (fun c hc => by
        have : decide (c ≠ x) = true := decide_eq_true (by omega)
        show (Q c && decide (c ≠ x)) = Q c
        rw [this, Bool.and_true])]
      simp
theorem pig : ∀ (L : List Nat) (Q : Nat → Bool) (n : Nat), L.Nodup → (∀ y ∈ L, y < n ∧ Q y = true) → L.length ≤ cntB Q n
  | [], _, _, _, _ => Nat.zero_le _
  | x :: L, Q, n, h, hL => by
    obtain ⟨h1, h2⟩ := List.nodup_cons.mp h
    obtain ⟨x1, x2⟩ := hL x List.mem_cons_self
    have := pig L (fun y => Q y && decide (y ≠ x)) n h2 (fun y hy => by
      obtain ⟨y1, y2⟩ := hL y (List.mem_cons_of_mem _ hy)
      refine ⟨y1, ?_⟩
      have : decide (y ≠ x) = true := decide_eq_true (fun e => h1 (e ▸ hy))
      show (Q y && decide (y ≠ x)) = true
      rw [this, y2]
      rfl)
    rw [cntB_rm x2 x1, List.length_cons]
    omega
theorem sw_stab (hd : Dc T) {Q : Nat → Bool} {N : Nat} (hN : ∀ x, B x < n → x < N) (hQ : ∀ (v : Nat → Nat) x, B x < n → T v x < v x → Q x = true) (cc : ∀ (u : Nat → Nat) x, B x < n → T (sw_j T B n u) x < sw_j T B n u x → ∃ y, sw_j T B n u y < u y ∧ sw_j T B n u y < T (sw_j T B n u) x) (hQN : ∀ x, Q x = true → x < N) {M : Nat} (hc : cntB Q N ≤ M) {j : Nat} (hj : B j < n) : T (itN (sw_j T B n) M v) j = itN (sw_j T B n) M v j := by
  refine Nat.le_antisymm (hd _ j) (Nat.not_lt.mp (fun q => ?_))
  obtain ⟨L, l1, l2, l3, -⟩ := sw_chain hd hQ cc M j hj q
  have := pig L Q N l2 (fun y hy => ⟨hQN y (l3 y hy), l3 y hy⟩)
  omega
end
section
/-! ways with weights -/
def wmn (v : Nat → Nat) (E : Nat → Nat → Option Nat) (w : Nat → Nat → Nat) (s : Nat) : Nat → Nat
  | 0 => v s
  | l + 1 => match E s l with
    | none => wmn v E w s l
    | some u => if v u + w s l < wmn v E w s l then v u + w s l else wmn v E w s l
def wgT (P : Nat → Bool) (E : Nat → Nat → Option Nat) (w : Nat → Nat → Nat) (v : Nat → Nat) (s : Nat) : Nat := if P s = true then wmn v E w s 8 else v s
variable {P : Nat → Bool} {E : Nat → Nat → Option Nat} {w : Nat → Nat → Nat} {v u : Nat → Nat}
theorem wmn_le (v : Nat → Nat) (E : Nat → Nat → Option Nat) (w : Nat → Nat → Nat) (s : Nat) : ∀ k, wmn v E w s k ≤ v s
  | 0 => Nat.le_refl _
  | l + 1 => by
    have ih := wmn_le v E w s l
    unfold wmn
    split
    · exact ih
    · split <;> omega
theorem wmn_ed {s l y : Nat} (he : E s l = some y) : ∀ k, l < k → wmn v E w s k ≤ v y + w s l
  | 0, h => by omega
  | k + 1, h => by
    unfold wmn
    rcases Nat.lt_or_ge l k with q | q
    · have ih := wmn_ed he k q
      split
      · exact ih
      · split <;> omega
    · have : k = l := by omega
      subst this
      rw [he]
      show (if v y + w s k < wmn v E w s k then v y + w s k else wmn v E w s k) ≤ v y + w s k
      split <;> omega
theorem wmn_or {s : Nat} : ∀ k, wmn v E w s k = v s ∨ ∃ l y, l < k ∧ E s l = some y ∧ wmn v E w s k = v y + w s l
  | 0 => Or.inl rfl
  | k + 1 => by
    have ih := wmn_or (s := s) k
    have ih' : wmn v E w s k = v s ∨ ∃ l y, l < k + 1 ∧ E s l = some y ∧ wmn v E w s k = v y + w s l := ih.elim Or.inl (fun ⟨l, y, a, b, c⟩ => Or.inr ⟨l, y, by omega, b, c⟩)
    cases he : E s k with
    | none =>
      have e : wmn v E w s (k + 1) = wmn v E w s k := by
        show (match E s k with | none => _ | some u => _) = _
        rw [he]
      rw [e]
      exact ih'
    | some y =>
      have e : wmn v E w s (k + 1) = if v y + w s k < wmn v E w s k then v y + w s k else wmn v E w s k := by
        show (match E s k with | none => _ | some u => _) = _
        rw [he]
      rw [e]
      split
      · exact Or.inr ⟨k, y, Nat.lt_succ_self _, he, rfl⟩
      · exact ih'
theorem wmn_mo (h : ∀ j, v j ≤ u j) (s : Nat) : ∀ k, wmn v E w s k ≤ wmn u E w s k := fun k => by
  rcases wmn_or (v := u) (E := E) (w := w) (s := s) k with e | ⟨l, y, a, b, c⟩
  · rw [e]
    exact Nat.le_trans (wmn_le v E w s k) (h s)
  · rw [c]
    have := wmn_ed (v := v) (w := w) b k a
    have := h y
    omega
theorem wgT_mo : Mo (wgT P E w) := fun v u h j => by
  unfold wgT
  split
  · exact wmn_mo h j 8
  · exact h j
theorem wgT_dc : Dc (wgT P E w) := fun v j => by
  unfold wgT
  split
  · exact wmn_le v E w j 8
  · exact Nat.le_refl _
theorem wgT_Q (v : Nat → Nat) (x : Nat) (h : wgT P E w v x < v x) : P x = true := by
  unfold wgT at h
  split at h
  · assumption
  · omega
theorem wgT_cc {n : Nat} (hw : ∀ s l, 0 < w s l) (u : Nat → Nat) (x : Nat) (hx : x < n) (h : wgT P E w (sw_j (wgT P E w) id n u) x < sw_j (wgT P E w) id n u x) : ∃ y, sw_j (wgT P E w) id n u y < u y ∧ sw_j (wgT P E w) id n u y < wgT P E w (sw_j (wgT P E w) id n u) x := by
  have hp := wgT_Q _ _ h
  have e1 : sw_j (wgT P E w) id n u x = wgT P E w u x := if_pos hx
  have e2 : ∀ v, wgT P E w v x = wmn v E w x 8 := fun v => if_pos hp
  rw [e2] at h ⊢
  rcases wmn_or (v := sw_j (wgT P E w) id n u) (E := E) (w := w) (s := x) 8 with e | ⟨l, y, a, b, c⟩
  · omega
  · rw [c] at h ⊢
    rw [e1, e2] at h
    have := wmn_ed (v := u) (w := w) b 8 a
    have := hw x l
    exact ⟨y, by omega, by omega⟩
/-- THE LEAST: what is left behind all turns -/
def wL (P : Nat → Bool) (E : Nat → Nat → Option Nat) (w : Nat → Nat → Nat) (n M : Nat) (v : Nat → Nat) : Nat → Nat := itN (sw_j (wgT P E w) id n) M v
theorem wL_fix {n M : Nat} (hw : ∀ s l, 0 < w s l) (hP : ∀ x, P x = true → x < n) (hc : cntB P n ≤ M) (v : Nat → Nat) {j : Nat} (hj : j < n) : wgT P E w (wL P E w n M v) j = wL P E w n M v j := sw_stab (T := wgT P E w) (B := id) (n := n) (N := n) (v := v) wgT_dc (fun x h => h) (fun v x _ h => wgT_Q v x h) (fun u x hx h => wgT_cc hw u x hx h) hP hc hj
theorem wL_1 {n M : Nat} (hw : ∀ s l, 0 < w s l) (hP : ∀ x, P x = true → x < n) (hc : cntB P n ≤ M) {s l y : Nat} (hs : P s = true) (hl : l < 8) (he : E s l = some y) : wL P E w n M v s ≤ wL P E w n M v y + w s l := by
  have := wL_fix (E := E) hw hP hc v (hP s hs)
  rw [← this]
  unfold wgT
  rw [if_pos hs]
  exact wmn_ed he 8 hl
theorem wL_or {n : Nat} (hP : ∀ x, P x = true → x < n) : ∀ (M s : Nat), wL P E w n M v s = v s ∨ ∃ l y, P s = true ∧ l < 8 ∧ E s l = some y ∧ wL P E w n M v y + w s l ≤ wL P E w n M v s
  | 0, s => Or.inl rfl
  | M + 1, s => by
    have dn : ∀ y, wL P E w n (M + 1) v y ≤ wL P E w n M v y := fun y => ij_dec wgT_dc v M y
    have ih := wL_or hP M s
    have ih' : wL P E w n M v s = v s ∨ ∃ l y, P s = true ∧ l < 8 ∧ E s l = some y ∧ wL P E w n (M + 1) v y + w s l ≤ wL P E w n M v s := ih.elim Or.inl (fun ⟨l, y, a, b, c, d⟩ => Or.inr ⟨l, y, a, b, c, by have := dn y; omega⟩)
    by_cases hp : P s = true
    · have e : wL P E w n (M + 1) v s = wmn (wL P E w n M v) E w s 8 := by
        show sw_j (wgT P E w) id n (wL P E w n M v) s = _
        rw [show sw_j (wgT P E w) id n (wL P E w n M v) s = wgT P E w (wL P E w n M v) s from if_pos (hP s hp)]
        exact if_pos hp
      rcases wmn_or (v := wL P E w n M v) (E := E) (w := w) (s := s) 8 with q | ⟨l, y, a, b, c⟩
      · rw [e, q]
        exact ih'
      · rw [e, c]
        exact Or.inr ⟨l, y, hp, a, b, by have := dn y; omega⟩
    · have e : wL P E w n (M + 1) v s = wL P E w n M v s := by
        show sw_j (wgT P E w) id n (wL P E w n M v) s = _
        unfold sw_j wgT
        rw [if_neg hp]
        split <;> rfl
      rw [e]
      exact ih'
theorem wL_2 {n M : Nat} (hw : ∀ s l, 0 < w s l) (hP : ∀ x, P x = true → x < n) (hc : cntB P n ≤ M) (s : Nat) : wL P E w n M v s = v s ∨ ∃ l y, P s = true ∧ l < 8 ∧ E s l = some y ∧ wL P E w n M v y + w s l = wL P E w n M v s :=
  (wL_or hP M s).elim Or.inl (fun ⟨l, y, a, b, c, d⟩ => Or.inr ⟨l, y, a, b, c, by have := wL_1 (v := v) hw hP hc a b c; omega⟩)
theorem wL_le {n : Nat} (M s : Nat) : wL P E w n M v s ≤ v s := ij_le wgT_dc v M s
theorem wL_0 {n M : Nat} (hw : ∀ s l, 0 < w s l) (hP : ∀ x, P x = true → x < n) (hc : cntB P n ≤ M) (s : Nat) : wL P E w n M v s = 0 ↔ v s = 0 := by
  constructor
  · intro h
    rcases wL_2 (v := v) (E := E) hw hP hc s with e | ⟨l, y, -, -, -, d⟩
    · omega
    · have := hw s l
      omega
  · intro h
    have := wL_le (P := P) (E := E) (w := w) (v := v) (n := n) M s
    omega
/-- how many leads: the rest behind the scale -/
theorem wL_sc {n K F : Nat} (hK : ∀ s l, ∃ c, w s l = K * c + 1) (h0 : ∀ s, v s = 0 ∨ v s = F) (hP : ∀ x, P x = true → x < n) : ∀ (M s : Nat), wL P E w n M v s < F → ∃ c k, k ≤ M ∧ wL P E w n M v s = K * c + k
  | 0, s, h => ⟨0, 0, Nat.le_refl _, by
    have h' : v s < F := h
    have e : wL P E w n 0 v s = v s := rfl
    rw [e]
    rcases h0 s with q | q
    · omega
    · omega⟩
  | M + 1, s, h => by
    by_cases hp : P s = true
    · have e : wL P E w n (M + 1) v s = wmn (wL P E w n M v) E w s 8 := by
        show sw_j (wgT P E w) id n (wL P E w n M v) s = _
        rw [show sw_j (wgT P E w) id n (wL P E w n M v) s = wgT P E w (wL P E w n M v) s from if_pos (hP s hp)]
        exact if_pos hp
      rcases wmn_or (v := wL P E w n M v) (E := E) (w := w) (s := s) 8 with q | ⟨l, y, a, b, c⟩
      · rw [e, q] at h ⊢
        obtain ⟨c, k, k1, k2⟩ := wL_sc hK h0 hP M s h
        exact ⟨c, k, by omega, k2⟩
      · rw [e, c] at h ⊢
        obtain ⟨c', k, k1, k2⟩ := wL_sc hK h0 hP M y (by omega)
        obtain ⟨d, hd⟩ := hK s l
        exact ⟨c' + d, k + 1, by omega, by rw [k2, hd, Nat.mul_add]; omega⟩
    · have e : wL P E w n (M + 1) v s = wL P E w n M v s := by
        show sw_j (wgT P E w) id n (wL P E w n M v) s = _
        unfold sw_j wgT
        rw [if_neg hp]
        split <;> rfl
      rw [e] at h ⊢
      obtain ⟨c, k, k1, k2⟩ := wL_sc hK h0 hP M s h
      exact ⟨c, k, by omega, k2⟩
end
