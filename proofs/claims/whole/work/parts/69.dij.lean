/-! THE NEAREST FIRST: lengths by scale; no heap here. -/
section DIJ
def DJ (nx : Nat → Nat → Option Nat) (wt : Nat → Nat → Nat) (n : Nat) (len opn ord : Nat → Nat) (os k l0 : Nat) : Prop :=
  ((∀ i, i < os → opn i < n ∧ len (opn i) < 1000000000) ∧ (∀ i, i < k → ord i < n ∧ len (ord i) < 1000000000)) ∧
  ((∀ i j, i < os → j < os → opn i = opn j → i = j) ∧ (∀ i j, i < k → j < k → ord i = ord j → i = j) ∧ ∀ i j, i < os → j < k → opn i ≠ ord j) ∧
  (∀ v, v < n → len v < 1000000000 → (∃ i, i < os ∧ opn i = v) ∨ ∃ i, i < k ∧ ord i = v) ∧
  (len 0 = 0 ∧ ∀ v, v < n → len v ≤ 1000000000) ∧
  (∀ v, v < n → len v < 1000000000 → v = 0 ∨ ∃ i l, i < k ∧ l < 8 ∧ nx (ord i) l = some v ∧ len v = len (ord i) + wt (ord i) l) ∧
  (∀ i l v, i < k → l < 8 → (i + 1 < k ∨ l < l0) → nx (ord i) l = some v → len v ≤ len (ord i) + wt (ord i) l) ∧
  ((∀ i j, i < j → j < k → len (ord i) ≤ len (ord j)) ∧ ∀ i j, i < k → j < os → len (ord i) ≤ len (opn j)) ∧
  ((∀ i, i < k → len (ord i) ≤ i * 202753) ∧ ∀ v, v < n → len v < 1000000000 → len v ≤ k * 202753)
variable {nx : Nat → Nat → Option Nat} {wt : Nat → Nat → Nat} {n : Nat} {len opn ord : Nat → Nat} {os k l0 : Nat}
theorem inj_le {f : Nat → Nat} {m n : Nat} (h1 : ∀ i, i < m → f i < n) (h2 : ∀ i j, i < m → j < m → f i = f j → i = j) : m ≤ n := by
  have nd : ((List.range m).map f).Nodup := by
    rw [List.nodup_iff_pairwise_ne, List.pairwise_map]
    exact List.Pairwise.imp_of_mem (fun {a b} ha hb (hab : a < b) e => by
      have := h2 a b (List.mem_range.mp ha) (List.mem_range.mp hb) e
      omega) List.pairwise_lt_range
  have := pig _ (fun _ => true) n nd (fun y hy => by
    obtain ⟨i, i1, i2⟩ := List.mem_map.mp hy
    have := h1 i (List.mem_range.mp i1)
    rw [← i2]
    exact ⟨this, rfl⟩)
  rw [List.length_map, List.length_range] at this
  exact Nat.le_trans this (cntB_le _ n)
theorem DJ.kn (h : DJ nx wt n len opn ord os k l0) : k ≤ n := inj_le (fun i hi => (h.1.2 i hi).1) h.2.1.2.1
theorem DJ.on (h : DJ nx wt n len opn ord os k l0) : os ≤ n := inj_le (fun i hi => (h.1.1 i hi).1) h.2.1.1
theorem DJ.take (h : DJ nx wt n len opn ord os k 8) {a : Nat} (ha : a < os) (hm : ∀ j, j < os → len (opn a) ≤ len (opn j)) : DJ nx wt n len (ins opn a (opn (os - 1))) (ins ord k (opn a)) (os - 1) (k + 1) 0 := by
  obtain ⟨⟨o1, o2⟩, ⟨i1, i2, i3⟩, c, z, r, x, ⟨w1, w2⟩, b1, b2⟩ := h
  have po : ∀ i, i < os - 1 → ∃ j, j < os ∧ j ≠ a ∧ ins opn a (opn (os - 1)) i = opn j ∧ ((i = a ∧ j = os - 1) ∨ (i ≠ a ∧ j = i)) := fun i hi => by
    by_cases e : i = a
    · exact ⟨os - 1, by omega, by omega, by rw [e, ins_s], Or.inl ⟨e, rfl⟩⟩
    · exact ⟨i, by omega, e, ins_n e, Or.inr ⟨e, rfl⟩⟩
  have pk : ∀ i, i < k → ins ord k (opn a) i = ord i := fun i hi => ins_n (by omega)
  refine ⟨⟨fun i hi => ?_, fun i hi => ?_⟩, ⟨fun i j hi hj e => ?_, fun i j hi hj e => ?_, fun i j hi hj e => ?_⟩, fun v h1 h2 => ?_, z, fun v h1 h2 => ?_, fun i l v h1 h2 h3 h4 => ?_, ⟨fun i j h1 h2 => ?_, fun i j h1 h2 => ?_⟩, fun i hi => ?_, fun v h1 h2 => ?_⟩
  · obtain ⟨j, j1, -, j3, -⟩ := po i hi
    rw [j3]
    exact o1 j j1
  · by_cases e : i = k
    · rw [e, ins_s]
      exact o1 a ha
    · rw [ins_n e]
      exact o2 i (by omega)
  · obtain ⟨x1, x2, x3, x4, x5⟩ := po i hi
    obtain ⟨y1, y2, y3, y4, y5⟩ := po j hj
    rw [x4, y4] at e
    have := i1 x1 y1 x2 y2 e
    omega
  · by_cases e1 : i = k
    · by_cases e2 : j = k
      · omega
      · rw [e1, ins_s, pk j (by omega)] at e
        exact absurd e (i3 a j ha (by omega))
    · by_cases e2 : j = k
      · rw [e2, ins_s, pk i (by omega)] at e
        exact absurd e.symm (i3 a i ha (by omega))
      · rw [pk i (by omega), pk j (by omega)] at e
        exact i2 i j (by omega) (by omega) e
  · obtain ⟨x1, x2, x3, x4, x5⟩ := po i hi
    rw [x4] at e
    by_cases e2 : j = k
    · rw [e2, ins_s] at e
      exact x3 (i1 x1 a x2 ha e)
    · rw [pk j (by omega)] at e
      exact i3 x1 j x2 (by omega) e
  · rcases c v h1 h2 with ⟨i, u1, u2⟩ | ⟨i, u1, u2⟩
    · by_cases e : i = a
      · exact Or.inr ⟨k, by omega, by rw [ins_s, ← e]; exact u2⟩
      · by_cases e3 : i = os - 1
        · exact Or.inl ⟨a, by omega, by rw [ins_s, ← e3]; exact u2⟩
        · exact Or.inl ⟨i, by omega, by rw [ins_n e]; exact u2⟩
    · exact Or.inr ⟨i, by omega, by rw [pk i u1]; exact u2⟩
  · rcases r v h1 h2 with e | ⟨i, l, u1, u2, u3, u4⟩
    · exact Or.inl e
    · exact Or.inr ⟨i, l, by omega, u2, by rw [pk i u1]; exact u3, by rw [pk i u1]; exact u4⟩
  · have hi : i < k := by omega
    rw [pk i hi] at h4 ⊢
    exact x i l v hi h2 (Or.inr h2) h4
  · by_cases e : j = k
    · rw [e, ins_s, pk i (by omega)]
      exact w2 i a (by omega) ha
    · rw [pk i (by omega), pk j (by omega)]
      exact w1 i j h1 (by omega)
  · obtain ⟨y1, y2, y3, y4, y5⟩ := po j h2
    rw [y4]
    by_cases e : i = k
    · rw [e, ins_s]
      exact hm y1 y2
    · rw [pk i (by omega)]
      exact w2 i y1 (by omega) y2
  · by_cases e : i = k
    · rw [e, ins_s]
      exact b2 _ (o1 a ha).1 (o1 a ha).2
    · rw [pk i (by omega)]
      exact b1 i (by omega)
  · exact Nat.le_trans (b2 v h1 h2) (Nat.mul_le_mul_right _ (Nat.le_succ k))
theorem DJ.skip (h : DJ nx wt n len opn ord os k l0) (hs : ∀ v, nx (ord (k - 1)) l0 = some v → len v ≤ len (ord (k - 1)) + wt (ord (k - 1)) l0) : DJ nx wt n len opn ord os k (l0 + 1) := by
  obtain ⟨o, i, c, z, r, x, w, b⟩ := h
  refine ⟨o, i, c, z, r, fun i l v h1 h2 h3 h4 => ?_, w, b⟩
  by_cases e : i = k - 1 ∧ l = l0
  · rw [e.1, e.2] at h4 ⊢
    exact hs v h4
  · exact x i l v h1 h2 (by omega) h4
theorem DJ.rel (h : DJ nx wt n len opn ord os k l0) (hk : 0 < k) (hl : l0 < 8) {t : Nat} (ht : nx (ord (k - 1)) l0 = some t) (htn : t < n) (hw : wt (ord (k - 1)) l0 ≤ 202753) (hn : n ≤ 256) (hlt : len (ord (k - 1)) + wt (ord (k - 1)) l0 < len t) {os' : Nat} {opn' : Nat → Nat} (hop : (len t < 1000000000 ∧ os' = os ∧ opn' = opn) ∨ (len t = 1000000000 ∧ os' = os + 1 ∧ opn' = ins opn os t)) : DJ nx wt n (ins len t (len (ord (k - 1)) + wt (ord (k - 1)) l0)) opn' ord os' k (l0 + 1) := by
  have hkn := h.kn
  obtain ⟨⟨o1, o2⟩, ⟨i1, i2, i3⟩, c, ⟨z1, z2⟩, r, x, ⟨w1, w2⟩, b1, b2⟩ := h
  have sl := b1 (k - 1) (by omega)
  have ls : ∀ i, i < k → len (ord i) ≤ len (ord (k - 1)) := fun i hi => by
    rcases Nat.lt_or_ge i (k - 1) with e | e
    · exact w1 i (k - 1) e (by omega)
    · rw [show i = k - 1 by omega]
      exact Nat.le_refl _
  have nt : ∀ i, i < k → ord i ≠ t := fun i hi e => by
    have := ls i hi
    rw [e] at this
    omega
  have lo : ∀ i, i < k → ins len t (len (ord (k - 1)) + wt (ord (k - 1)) l0) (ord i) = len (ord i) := fun i hi => ins_n (nt i hi)
  have t0 : t ≠ 0 := fun e => by
    rw [e, z1] at hlt
    omega
  have nb : len (ord (k - 1)) + wt (ord (k - 1)) l0 < 1000000000 := by
    have : (k - 1) * 202753 ≤ 255 * 202753 := Nat.mul_le_mul_right _ (by omega)
    omega
  -- what is open now
  have op : (∀ i, i < os' → opn' i < n ∧ (opn' i = t ∨ len (opn' i) < 1000000000)) ∧ (∀ i j, i < os' → j < os' → opn' i = opn' j → i = j) ∧ (∀ i j, i < os' → j < k → opn' i ≠ ord j) ∧ (∃ i, i < os' ∧ opn' i = t) ∧ (∀ i, i < os → ∃ j, j < os' ∧ opn' j = opn i) ∧ ∀ j, j < os' → opn' j = t ∨ ∃ i, i < os ∧ opn i = opn' j := by
    rcases hop with ⟨e1, e2, e3⟩ | ⟨e1, e2, e3⟩
    · rw [e2, e3]
      refine ⟨fun i hi => ⟨(o1 i hi).1, Or.inr (o1 i hi).2⟩, i1, i3, ?_, fun i hi => ⟨i, hi, rfl⟩, fun j hj => Or.inr ⟨j, hj, rfl⟩⟩
      rcases c t htn e1 with u | ⟨i, u1, u2⟩
      · exact u
      · exact absurd u2 (nt i u1)
    · rw [e2, e3]
      have no : ∀ i, i < os → opn i ≠ t := fun i hi e => by
        have := (o1 i hi).2
        rw [e] at this
        omega
      refine ⟨fun i hi => ?_, fun i j hi hj e => ?_, fun i j hi hj => ?_, ⟨os, by omega, ins_s⟩, fun i hi => ⟨i, by omega, ins_n (by omega)⟩, fun j hj => ?_⟩
      · by_cases e : i = os
        · rw [e, ins_s]
          exact ⟨htn, Or.inl rfl⟩
        · rw [ins_n e]
          exact ⟨(o1 i (by omega)).1, Or.inr (o1 i (by omega)).2⟩
      · by_cases e4 : i = os
        · by_cases e5 : j = os
          · omega
          · rw [e4, ins_s, ins_n e5] at e
            exact absurd e.symm (no j (by omega))
        · by_cases e5 : j = os
          · rw [e5, ins_s, ins_n e4] at e
            exact absurd e (no i (by omega))
          · rw [ins_n e4, ins_n e5] at e
            exact i1 i j (by omega) (by omega) e
      · by_cases e4 : i = os
        · rw [e4, ins_s]
          exact fun e => nt j hj e.symm
        · rw [ins_n e4]
          exact i3 i j (by omega) hj
      · by_cases e4 : j = os
        · rw [e4, ins_s]
          exact Or.inl rfl
        · rw [ins_n e4]
          exact Or.inr ⟨j, by omega, rfl⟩
  obtain ⟨p1, p2, p3, p4, p5, p6⟩ := op
  refine ⟨⟨fun i hi => ?_, fun i hi => ?_⟩, ⟨p2, i2, p3⟩, fun v h1 h2 => ?_, ⟨?_, fun v h1 => ?_⟩, fun v h1 h2 => ?_, fun i l v h1 h2 h3 h4 => ?_, ⟨fun i j h1 h2 => ?_, fun i j h1 h2 => ?_⟩, fun i hi => ?_, fun v h1 h2 => ?_⟩
  · refine ⟨(p1 i hi).1, ?_⟩
    by_cases e : opn' i = t
    · rw [e, ins_s]
      exact nb
    · rw [ins_n e]
      exact (p1 i hi).2.resolve_left e
  · rw [lo i hi]
    exact o2 i hi
  · by_cases e : v = t
    · rw [e]
      exact Or.inl p4
    · rw [ins_n e] at h2
      rcases c v h1 h2 with ⟨i, u1, u2⟩ | u
      · obtain ⟨j, j1, j2⟩ := p5 i u1
        exact Or.inl ⟨j, j1, j2.trans u2⟩
      · exact Or.inr u
  · rw [ins_n t0.symm]
    exact z1
  · by_cases e : v = t
    · rw [e, ins_s]
      omega
    · rw [ins_n e]
      exact z2 v h1
  · by_cases e : v = t
    · right
      refine ⟨k - 1, l0, by omega, hl, by rw [e]; exact ht, ?_⟩
      rw [e, ins_s, lo _ (by omega)]
    · rw [ins_n e] at h2 ⊢
      rcases r v h1 h2 with u | ⟨i, l, u1, u2, u3, u4⟩
      · exact Or.inl u
      · exact Or.inr ⟨i, l, u1, u2, u3, by rw [lo i u1]; exact u4⟩
  · rw [lo i h1]
    by_cases e : v = t
    · rw [e, ins_s]
      by_cases e2 : i = k - 1 ∧ l = l0
      · rw [e2.1, e2.2]
        exact Nat.le_refl _
      · have := x i l t h1 h2 (by omega) (by rw [← e]; exact h4)
        omega
    · rw [ins_n e]
      by_cases e2 : i = k - 1 ∧ l = l0
      · rw [e2.1, e2.2, ht] at h4
        exact absurd (Option.some.inj h4).symm e
      · exact x i l v h1 h2 (by omega) h4
  · rw [lo i (by omega), lo j h2]
    exact w1 i j h1 h2
  · rw [lo i h1]
    rcases p6 j h2 with e | ⟨i', u1, u2⟩
    · rw [e, ins_s]
      have := ls i h1
      omega
    · rw [← u2]
      by_cases e : opn i' = t
      · rw [e, ins_s]
        have := ls i h1
        omega
      · rw [ins_n e]
        exact w2 i i' h1 u1
  · rw [lo i hi]
    exact b1 i hi
  · by_cases e : v = t
    · rw [e, ins_s]
      have : k * 202753 = (k - 1) * 202753 + 202753 := by
        obtain ⟨k', rfl⟩ : ∃ k', k = k' + 1 := ⟨k - 1, by omega⟩
        rw [Nat.add_sub_cancel, Nat.add_mul]
      omega
    · rw [ins_n e] at h2 ⊢
      exact b2 v h1 h2
theorem DJ.ini : DJ nx wt (n + 1) (ins (fun _ => 1000000000) 0 0) (ins id 0 0) id 1 0 8 := by
  refine ⟨⟨fun i hi => ?_, fun i hi => by omega⟩, ⟨fun i j hi hj _ => by omega, fun i j hi hj _ => by omega, fun i j hi hj => by omega⟩, fun v h1 h2 => ?_, ⟨ins_s, fun v h1 => ?_⟩, fun v h1 h2 => ?_, fun i l v h1 => by omega, ⟨fun i j h1 h2 => by omega, fun i j h1 h2 => by omega⟩, fun i hi => by omega, fun v h1 h2 => ?_⟩
  · rw [show i = 0 by omega, ins_s, ins_s]
    exact ⟨by omega, by decide⟩
  · by_cases e : v = 0
    · exact Or.inl ⟨0, by decide, by rw [ins_s, e]⟩
    · rw [ins_n e] at h2
      omega
  · by_cases e : v = 0
    · rw [e, ins_s]
      decide
    · rw [ins_n e]
      exact Nat.le_refl _
  · by_cases e : v = 0
    · exact Or.inl e
    · rw [ins_n e] at h2
      omega
  · by_cases e : v = 0
    · rw [e, ins_s]
      omega
    · rw [ins_n e] at h2
      omega
/-- all is settled -/
def DF (nx : Nat → Nat → Option Nat) (wt : Nat → Nat → Nat) (n : Nat) (len ord : Nat → Nat) : Prop := (∀ i, i < n → ord i < n) ∧ (∀ i j, i < n → j < n → ord i = ord j → i = j) ∧ (∀ v, v < n → ∃ i, i < n ∧ ord i = v) ∧ len 0 = 0 ∧ (∀ v, v < n → v = 0 ∨ ∃ u l, u < n ∧ l < 8 ∧ nx u l = some v ∧ len v = len u + wt u l) ∧ (∀ u l v, u < n → l < 8 → nx u l = some v → len v ≤ len u + wt u l) ∧ (∀ i j, i < j → j < n → len (ord i) ≤ len (ord j)) ∧ ∀ v, v < n → len v < 1000000000
theorem DJ.fin (h : DJ nx wt n len opn ord 0 k 8) (hn : n ≤ 256) (hw : ∀ u l, wt u l ≤ 202753) {pa la : Nat → Nat} (hp : ∀ v, 0 < v → v < n → pa v < v ∧ la v < 8 ∧ nx (pa v) (la v) = some v) : k = n ∧ DF nx wt n len ord := by
  have hkn := h.kn
  obtain ⟨⟨o1, o2⟩, ⟨i1, i2, i3⟩, c, ⟨z1, z2⟩, r, x, ⟨w1, w2⟩, b1, b2⟩ := h
  have all : ∀ v, v < n → len v < 1000000000 := fun v => by
    induction v using Nat.strongRecOn with
    | _ v ih =>
      intro hv
      rcases Nat.eq_zero_or_pos v with e | e
      · rw [e, z1]
        decide
      · obtain ⟨p1, p2, p3⟩ := hp v e hv
        have lp := ih (pa v) p1 (by omega)
        rcases c (pa v) (by omega) lp with ⟨i, u1, -⟩ | ⟨i, u1, u2⟩
        · omega
        · have := x i (la v) v u1 p2 (Or.inr p2) (by rw [u2]; exact p3)
          have h1 := b1 i u1
          have h2 := hw (ord i) (la v)
          have : i * 202753 ≤ 255 * 202753 := Nat.mul_le_mul_right _ (by omega)
          omega
  have sur : ∀ v, v < n → ∃ i, i < k ∧ ord i = v := fun v hv => (c v hv (all v hv)).resolve_left (fun ⟨i, u, _⟩ => by omega)
  have kn : k = n := by
    refine Nat.le_antisymm hkn ?_
    have ch : ∀ v, ∃ i, v < n → i < k ∧ ord i = v := fun v => by
      by_cases hv : v < n
      · obtain ⟨i, hi⟩ := sur v hv
        exact ⟨i, fun _ => hi⟩
      · exact ⟨0, fun z => absurd z hv⟩
    obtain ⟨f, hf⟩ := Classical.axiomOfChoice ch
    exact inj_le (f := f) (fun i hi => (hf i hi).1) (fun i j hi hj e => by
      have a1 := (hf i hi).2
      have a2 := (hf j hj).2
      rw [e] at a1
      exact a1.symm.trans a2)
  subst kn
  refine ⟨rfl, fun i hi => (o2 i hi).1, i2, sur, z1, fun v hv => ?_, fun u l v hu hl he => ?_, w1, all⟩
  · rcases r v hv (all v hv) with e | ⟨i, l, u1, u2, u3, u4⟩
    · exact Or.inl e
    · exact Or.inr ⟨ord i, l, (o2 i u1).1, u2, u3, u4⟩
  · obtain ⟨i, u1, u2⟩ := sur u hu
    rw [← u2] at he ⊢
    exact x i l v u1 hl (Or.inr hl) he
end DIJ
