/-! STANDS as codes (36 times the one cell, and the other one); THE CLASS'S GRAPH. -/
section NXT
def cx (c : Nat) : Nat := 64 * (c / 36) + c % 36
def nxS (A : Nat → Int32) (F : Nat → Bool) (p m c l : Nat) : Option Nat := if (stS A F p m (l / 4) (ow (l / 4) (c / 36) (c % 36)) (ow (l / 4) (c % 36) (c / 36)) (l % 4)).1 = 0 then some (36 * ow (l / 4) (stS A F p m (l / 4) (ow (l / 4) (c / 36) (c % 36)) (ow (l / 4) (c % 36) (c / 36)) (l % 4)).2.1 (stS A F p m (l / 4) (ow (l / 4) (c / 36) (c % 36)) (ow (l / 4) (c % 36) (c / 36)) (l % 4)).2.2 + ow (l / 4) (stS A F p m (l / 4) (ow (l / 4) (c / 36) (c % 36)) (ow (l / 4) (c % 36) (c / 36)) (l % 4)).2.2 (stS A F p m (l / 4) (ow (l / 4) (c / 36) (c % 36)) (ow (l / 4) (c % 36) (c / 36)) (l % 4)).2.1) else none
/-- a stand: both cells are free, just so far apart -/
def stB (A : Nat → Int32) (F : Nat → Bool) (p c : Nat) : Bool := decide (c / 36 < cS A ∧ c % 36 < cS A ∧ apS (nv A 2) (c / 36) (c % 36) = sp A p) && F (c / 36) && F (c % 36)
variable {A : Nat → Int32} {F : Nat → Bool} {p m : Nat}
theorem stB_iff {c : Nat} : stB A F p c = true ↔ (c / 36 < cS A ∧ c % 36 < cS A ∧ apS (nv A 2) (c / 36) (c % 36) = sp A p) ∧ F (c / 36) = true ∧ F (c % 36) = true := by
  simp only [stB, Bool.and_eq_true, decide_eq_true_eq]
  exact ⟨fun z => ⟨z.1.1, z.1.2, z.2⟩, fun z => ⟨⟨z.1, z.2.1⟩, z.2.2⟩⟩
theorem ow_lt {t a b n : Nat} (ha : a < n) (hb : b < n) : ow t a b < n := by
  unfold ow
  split <;> assumption
theorem ow_F {t a b : Nat} (ha : F a = true) (hb : F b = true) : F (ow t a b) = true := by
  unfold ow
  split <;> assumption
theorem cd_dm {a b : Nat} (h : b < 36) : (36 * a + b) / 36 = a ∧ (36 * a + b) % 36 = b := by omega
theorem cd_lt {a b n : Nat} (hn : n ≤ 36) (ha : a < n) (hb : b < n) : 36 * a + b < 1296 := by omega
theorem stB_lt (hA : Dm A) {c : Nat} (h : stB A F p c = true) : c < 1296 := by
  have := cS_le hA
  have := (stB_iff.mp h).1
  omega
theorem nx_ok (hA : Dm A) {c l y : Nat} (h1 : c / 36 < cS A) (h2 : c % 36 < cS A) (h : nxS A F p m c l = some y) : stB A F p y = true := by
  have cl := cS_le hA
  unfold nxS at h
  split at h
  · next e =>
    obtain ⟨s1, s2, s3, s4, s5, -⟩ := stS_ok hA (ow_lt h1 h2) (ow_lt h2 h1) e
    have hy := Option.some.inj h
    have o1 := ow_lt (t := l / 4) s1 s2
    have o2 := ow_lt (t := l / 4) s2 s1
    obtain ⟨d1, d2⟩ := @cd_dm (ow (l / 4) (stS A F p m (l / 4) (ow (l / 4) (c / 36) (c % 36)) (ow (l / 4) (c % 36) (c / 36)) (l % 4)).2.1 (stS A F p m (l / 4) (ow (l / 4) (c / 36) (c % 36)) (ow (l / 4) (c % 36) (c / 36)) (l % 4)).2.2) (ow (l / 4) (stS A F p m (l / 4) (ow (l / 4) (c / 36) (c % 36)) (ow (l / 4) (c % 36) (c / 36)) (l % 4)).2.2 (stS A F p m (l / 4) (ow (l / 4) (c / 36) (c % 36)) (ow (l / 4) (c % 36) (c / 36)) (l % 4)).2.1) (by omega)
    rw [hy] at d1 d2
    rw [stB_iff, d1, d2]
    refine ⟨⟨o1, o2, ?_⟩, ow_F s3 s4, ow_F s4 s3⟩
    generalize stS A F p m (l / 4) (ow (l / 4) (c / 36) (c % 36)) (ow (l / 4) (c % 36) (c / 36)) (l % 4) = r at *
    unfold ow
    split
    · exact s5
    · rw [apS_comm]
      exact s5
  · cases h
theorem nx_rC (hA : Dm A) {c l : Nat} (h1 : c / 36 < cS A) (h2 : c % 36 < cS A) (hl : l < 8) : (∃ y, nxS A F p m c l = some y ∧ rC (l / 4) (stS A F p m (l / 4) (ow (l / 4) (c / 36) (c % 36)) (ow (l / 4) (c % 36) (c / 36)) (l % 4)) = nI (cx y)) ∨ (nxS A F p m c l = none ∧ rC (l / 4) (stS A F p m (l / 4) (ow (l / 4) (c / 36) (c % 36)) (ow (l / 4) (c % 36) (c / 36)) (l % 4)) < 0) := by
  have cl := cS_le hA
  by_cases e : (stS A F p m (l / 4) (ow (l / 4) (c / 36) (c % 36)) (ow (l / 4) (c % 36) (c / 36)) (l % 4)).1 = 0
  · left
    obtain ⟨s1, s2, -⟩ := stS_ok hA (ow_lt h1 h2) (ow_lt h2 h1) e
    refine ⟨_, by unfold nxS; rw [if_pos e], ?_⟩
    unfold rC cx
    rw [if_pos e]
    have o1 := ow_lt (t := l / 4) s1 s2
    have o2 := ow_lt (t := l / 4) s2 s1
    obtain ⟨d1, d2⟩ := @cd_dm (ow (l / 4) (stS A F p m (l / 4) (ow (l / 4) (c / 36) (c % 36)) (ow (l / 4) (c % 36) (c / 36)) (l % 4)).2.1 (stS A F p m (l / 4) (ow (l / 4) (c / 36) (c % 36)) (ow (l / 4) (c % 36) (c / 36)) (l % 4)).2.2) (ow (l / 4) (stS A F p m (l / 4) (ow (l / 4) (c / 36) (c % 36)) (ow (l / 4) (c % 36) (c / 36)) (l % 4)).2.2 (stS A F p m (l / 4) (ow (l / 4) (c / 36) (c % 36)) (ow (l / 4) (c % 36) (c / 36)) (l % 4)).2.1) (by omega)
    rw [d1, d2]
    generalize stS A F p m (l / 4) (ow (l / 4) (c / 36) (c % 36)) (ow (l / 4) (c % 36) (c / 36)) (l % 4) = r at *
    unfold ow
    split <;> rfl
  · right
    refine ⟨by unfold nxS; rw [if_neg e], ?_⟩
    unfold rC
    rw [if_neg e]
    rcases stS_why (A := A) (F := F) (p := p) (m := m) (t := l / 4) (a := ow (l / 4) (c / 36) (c % 36)) (b := ow (l / 4) (c % 36) (c / 36)) (w := l % 4) with z | ⟨z1, z2⟩
    · exact absurd z e
    · generalize (stS A F p m (l / 4) (ow (l / 4) (c / 36) (c % 36)) (ow (l / 4) (c % 36) (c / 36)) (l % 4)).1 = k at *
      obtain rfl | rfl | rfl : k = 2 ∨ k = 3 ∨ k = 4 := by omega
      · decide
      · decide
      · decide
/-- at most 232 stands are just so far apart -/
def cwB (W d c : Nat) : Bool := Nat.blt (c / 36) (6 * W) && (Nat.blt (c % 36) (6 * W) && Nat.beq (apS W (c / 36) (c % 36)) d)
theorem cw_232 : ∀ W, W < 7 → ∀ d, d < 11 → Nat.ble (cntB (cwB W d) 1296) 232 = true := by decide +kernel
theorem cntB_mo {P Q : Nat → Bool} : ∀ {n : Nat}, (∀ c, c < n → P c = true → Q c = true) → cntB P n ≤ cntB Q n
  | 0, _ => Nat.le_refl _
  | n + 1, h => by
    have ih := cntB_mo (P := P) (Q := Q) (n := n) (fun c hc => h c (by omega))
    have h1 := h n (Nat.lt_succ_self _)
    unfold cntB
    cases hp : P n with
    | false => simp; omega
    | true =>
      rw [h1 hp]
      simp
      omega
theorem st_232 (hA : Dm A) (hs : sp A p ≤ 10) : cntB (stB A F p) 1296 ≤ 232 := by
  refine Nat.le_trans (cntB_mo (Q := cwB (nv A 2) (sp A p)) (fun c _ h => ?_)) (Nat.le_of_ble_eq_true (cw_232 (nv A 2) (by have := hA.2.2.2.2.2.1; omega) (sp A p) (by omega)))
  obtain ⟨⟨h1, h2, h3⟩, -⟩ := stB_iff.mp h
  have hc : cS A ≤ 6 * nv A 2 := Nat.mul_le_mul_right _ hA.2.2.1
  unfold cwB
  rw [Bool.and_eq_true, Bool.and_eq_true, Nat.blt_eq, Nat.blt_eq, Nat.beq_eq]
  exact ⟨by omega, by omega, h3⟩
theorem st_inj (hA : Dm A) (hs : sp A p ≤ 10) {q : Nat → Nat} {n : Nat} (hi : ∀ i j, i < n → j < n → q i = q j → i = j) (hq : ∀ i, i < n → stB A F p (q i) = true) : n ≤ 232 := by
  have nd : ((List.range n).map q).Nodup := by
    rw [List.nodup_iff_pairwise_ne, List.pairwise_map]
    exact List.Pairwise.imp_of_mem (fun {a b} ha hb (hab : a < b) e => by
      have := hi a b (List.mem_range.mp ha) (List.mem_range.mp hb) e
      omega) List.pairwise_lt_range
  have := pig _ (stB A F p) 1296 nd (fun y hy => by
    obtain ⟨i, i1, i2⟩ := List.mem_map.mp hy
    have := hq i (List.mem_range.mp i1)
    rw [← i2]
    exact ⟨stB_lt hA this, this⟩)
  rw [List.length_map, List.length_range] at this
  exact Nat.le_trans this (st_232 hA hs)
end NXT
section BFA
def ins (f : Nat → Nat) (n v : Nat) : Nat → Nat := fun i => if i = n then v else f i
theorem ins_s {f : Nat → Nat} {n v : Nat} : ins f n v n = v := if_pos rfl
theorem ins_n {f : Nat → Nat} {n v i : Nat} (h : i ≠ n) : ins f n v i = f i := if_neg h
variable {N : Nat → Nat → Option Nat} {q pa la dp : Nat → Nat} {n s l : Nat}
theorem BF.ini {y : Nat} : BF N (ins q 0 y) (ins pa 0 0) (ins la 0 0) (ins dp 0 0) 1 0 0 := ⟨⟨by decide, ins_s⟩, fun i j h1 h2 _ => by omega, fun i l y h => by omega, fun j h1 h2 => by omega, fun i j h1 h2 h3 => by omega⟩
theorem BF.non (h : BF N q pa la dp n s l) (he : N (q s) l = none) : BF N q pa la dp n s (l + 1) := by
  refine ⟨h.1, h.2.1, fun i l' y h1 h2 h3 => ?_, fun j h1 h2 => ?_, h.2.2.2.2⟩
  · by_cases e : i = s ∧ l' = l
    · rw [e.1, e.2, he] at h3
      cases h3
    · exact h.2.2.1 i l' y (by omega) h2 h3
  · obtain ⟨a1, a2, a3⟩ := h.2.2.2.1 j h1 h2
    exact ⟨a1, by omega, a3⟩
theorem BF.old (h : BF N q pa la dp n s l) {k : Nat} (hk : k < n) (he : N (q s) l = some (q k)) : BF N q pa la dp n s (l + 1) := by
  refine ⟨h.1, h.2.1, fun i l' y h1 h2 h3 => ?_, fun j h1 h2 => ?_, h.2.2.2.2⟩
  · by_cases e : i = s ∧ l' = l
    · rw [e.1, e.2, he] at h3
      refine ⟨k, hk, Option.some.inj h3, ?_⟩
      rcases Nat.eq_zero_or_pos k with z | z
      · exact Or.inl z
      · have := (h.2.2.2.1 k z hk).2.1
        omega
    · exact h.2.2.1 i l' y (by omega) h2 h3
  · obtain ⟨a1, a2, a3⟩ := h.2.2.2.1 j h1 h2
    exact ⟨a1, by omega, a3⟩
theorem BF.new (h : BF N q pa la dp n s l) (hs : s < n) (hl : l < 8) {y : Nat} (he : N (q s) l = some y) (hy : ∀ i, i < n → q i ≠ y) : BF N (ins q n y) (ins pa n s) (ins la n l) (ins dp n (dp s + 1)) (n + 1) s (l + 1) := by
  have n0 := h.1.1
  refine ⟨⟨by omega, by rw [ins_n (by omega)]; exact h.1.2⟩, fun i j h1 h2 h3 => ?_, fun i l' z h1 h2 h3 => ?_, fun j h1 h2 => ?_, fun i j h1 h2 h3 => ?_⟩
  · by_cases e1 : i = n
    · by_cases e2 : j = n
      · omega
      · rw [e1, ins_s, ins_n e2] at h3
        exact absurd h3.symm (hy j (by omega))
    · by_cases e2 : j = n
      · rw [e2, ins_s, ins_n e1] at h3
        exact absurd h3 (hy i (by omega))
      · rw [ins_n e1, ins_n e2] at h3
        exact h.2.1 i j (by omega) (by omega) h3
  · rw [ins_n (show i ≠ n by omega)] at h3
    by_cases e : i = s ∧ l' = l
    · rw [e.1, e.2, he] at h3
      refine ⟨n, by omega, by rw [ins_s]; exact Option.some.inj h3, ?_⟩
      rw [ins_s, ins_s]
      omega
    · obtain ⟨j, j1, j2, j3⟩ := h.2.2.1 i l' z (by omega) h2 h3
      refine ⟨j, by omega, ?_, ?_⟩
      · rw [ins_n (by omega)]
        exact j2
      · rw [ins_n (by omega), ins_n (by omega)]
        exact j3
  · by_cases e : j = n
    · rw [e, ins_s, ins_s, ins_s, ins_s, ins_n (by omega), ins_n (by omega)]
      exact ⟨hs, by omega, hl, he, rfl⟩
    · obtain ⟨a1, a2, a3, a4, a5⟩ := h.2.2.2.1 j h1 (by omega)
      rw [ins_n e, ins_n e, ins_n e, ins_n e, ins_n (by omega), ins_n (by omega)]
      exact ⟨a1, by omega, a3, a4, a5⟩
  · by_cases e : j = n
    · rw [e, ins_s, ins_s, ins_n (by omega), ins_n (by omega)]
      have := (h.2.2.2.1 i h1 (by omega)).2.1
      omega
    · rw [ins_n e, ins_n e, ins_n (by omega), ins_n (by omega)]
      exact h.2.2.2.2 i j h1 h2 (by omega)
theorem BF.nxt (h : BF N q pa la dp n s 8) : BF N q pa la dp n (s + 1) 0 := by
  refine ⟨h.1, h.2.1, fun i l' y h1 h2 h3 => h.2.2.1 i l' y (by omega) h2 h3, fun j h1 h2 => ?_, h.2.2.2.2⟩
  obtain ⟨a1, a2, a3⟩ := h.2.2.2.1 j h1 h2
  exact ⟨a1, by omega, a3⟩
theorem BF.dp_le (h : BF N q pa la dp n s l) : ∀ j, j < n → dp j ≤ j := by
  intro j
  induction j using Nat.strongRecOn with
  | _ j ih =>
    intro hj
    rcases Nat.eq_zero_or_pos j with z | z
    · rw [z, h.1.2]
      exact Nat.le_refl _
    · obtain ⟨a1, a2, a3, a4, a5⟩ := h.2.2.2.1 j z hj
      have := ih (pa j) a1 (by omega)
      omega
end BFA
section GRA
variable {g g' : G} {b : Nat}
def Gc (b : Nat) : Prop := b = 2 ∨ b = 9
theorem g_dr (hb : Gc b) (h : Sh g) {α : Type} {k : Nat} (h1 : 1 ≤ k) (h6 : k ≤ 6) (f : Nat → Option α) : dr (gR g b k) f = f (b + k) := by
  obtain rfl | rfl | rfl | rfl | rfl | rfl : k = 1 ∨ k = 2 ∨ k = 3 ∨ k = 4 ∨ k = 5 ∨ k = 6 := by omega
  · rcases hb with rfl | rfl
    · exact md2_1 h f
    · exact md9_1 h f
  · rcases hb with rfl | rfl
    · exact md2_2 h f
    · exact md9_2 h f
  · rcases hb with rfl | rfl
    · exact md2_3 h f
    · exact md9_3 h f
  · rcases hb with rfl | rfl
    · exact md2_4 h f
    · exact md9_4 h f
  · rcases hb with rfl | rfl
    · exact md2_5 h f
    · exact md9_5 h f
  · rcases hb with rfl | rfl
    · exact md2_6 h f
    · exact md9_6 h f
theorem g_gk (hb : Gc b) (h : Sh g) {α : Type} {k : Nat} (h1 : 1 ≤ k) (h6 : k ≤ 6) (x : Option α) : gdK g (b + k) 14 x = x := by
  obtain rfl | rfl | rfl | rfl | rfl | rfl : k = 1 ∨ k = 2 ∨ k = 3 ∨ k = 4 ∨ k = 5 ∨ k = 6 := by omega
  · rcases hb with rfl | rfl
    · exact gk3 h
    · exact gk10 h
  · rcases hb with rfl | rfl
    · exact gk4 h
    · exact gk11 h
  · rcases hb with rfl | rfl
    · exact gk5 h
    · exact gk12 h
  · rcases hb with rfl | rfl
    · exact gk6 h
    · exact gk13 h
  · rcases hb with rfl | rfl
    · exact gk7 h
    · exact gk14 h
  · rcases hb with rfl | rfl
    · exact gk8 h
    · exact gk15 h
theorem g_gn (hb : Gc b) (h : Sh g) {k : Nat} (h1 : 1 ≤ k) (h6 : k ≤ 4) : gN g (b + k) = 256 := by
  obtain rfl | rfl | rfl | rfl : k = 1 ∨ k = 2 ∨ k = 3 ∨ k = 4 := by omega
  · rcases hb with rfl | rfl
    · exact sn3 h
    · exact sn10 h
  · rcases hb with rfl | rfl
    · exact sn4 h
    · exact sn11 h
  · rcases hb with rfl | rfl
    · exact sn5 h
    · exact sn12 h
  · rcases hb with rfl | rfl
    · exact sn6 h
    · exact sn13 h
theorem g_n5 (hb : Gc b) (h : Sh g) : gN g (b + 5) = 2048 := by
  rcases hb with rfl | rfl
  · exact sn7 h
  · exact sn14 h
theorem g_n6 (hb : Gc b) (h : Sh g) : gN g (b + 6) = 1296 := by
  rcases hb with rfl | rfl
  · exact sn8 h
  · exact sn15 h
def Sg (b : Nat) : List Nat := [b, b + 1, b + 2, b + 3, b + 4, b + 5, b + 6]
theorem Sg_m {k : Nat} (h : k ≤ 6) : b + k ∈ Sg b := by
  obtain rfl | rfl | rfl | rfl | rfl | rfl | rfl : k = 0 ∨ k = 1 ∨ k = 2 ∨ k = 3 ∨ k = 4 ∨ k = 5 ∨ k = 6 := by omega
  all_goals simp [Sg]
/-- the rows of a graph -/
def GRw (g : G) (b n : Nat) (q pa la dp : Nat → Nat) : Prop := gI g b 0 = nI n ∧ (∀ i, i < n → gI g (b + 1) i = nI (cx (q i)) ∧ gI g (b + 2) i = nI (dp i) ∧ (0 < i → gI g (b + 3) i = nI (pa i) ∧ gI g (b + 4) i = nI (la i))) ∧ (gI g (b + 3) 0 = -1 ∧ gI g (b + 4) 0 = -1) ∧ ∀ c, c < 1296 → (∃ i, i < n ∧ q i = c ∧ gI g (b + 6) c = nI i) ∨ ((∀ i, i < n → q i ≠ c) ∧ gI g (b + 6) c = -1)
def GNx (N : Nat → Nat → Option Nat) (g : G) (b n : Nat) (q : Nat → Nat) (s l0 : Nat) : Prop := ∀ i l, (i < s ∨ (i = s ∧ l < l0)) → l < 8 → (N (q i) l = none ∧ gI g (b + 5) (i * 8 + l) = -1) ∨ ∃ j, j < n ∧ N (q i) l = some (q j) ∧ gI g (b + 5) (i * 8 + l) = nI j
theorem GRw.fi {n : Nat} {q pa la dp : Nat → Nat} {S : List Nat} (h : GRw g b n q pa la dp) (x : Fi S g g') (hS : ∀ k, k ≤ 6 → b + k ∉ S) : GRw g' b n q pa la dp := by
  unfold GRw
  rw [x.I (show b ∉ S from hS 0 (by decide)), x.I (hS 1 (by decide)), x.I (hS 2 (by decide)), x.I (hS 3 (by decide)), x.I (hS 4 (by decide)), x.I (hS 6 (by decide))]
  exact h
theorem GNx.fi {N : Nat → Nat → Option Nat} {n s l : Nat} {q : Nat → Nat} {S : List Nat} (h : GNx N g b n q s l) (x : Fi S g g') (hS : ∀ k, k ≤ 6 → b + k ∉ S) : GNx N g' b n q s l := by
  unfold GNx
  rw [x.I (hS 5 (by decide))]
  exact h
theorem cx_lt {c : Nat} (h : c < 1296) : cx c < 2304 := by
  unfold cx
  omega
theorem cx_dm (c : Nat) : cx c / 64 = c / 36 ∧ cx c % 64 = c % 36 := by
  unfold cx
  omega
theorem cx_at (c : Nat) : cx c / 64 * 36 + cx c % 64 = c := by
  obtain ⟨h1, h2⟩ := cx_dm c
  rw [h1, h2]
  omega
theorem c_addOld (hb : Gc b) (hs : Sh g) {n y k : Nat} {q pa la dp : Nat → Nat} (hG : GRw g b n q pa la dp) (hy : y < 1296) (hk : k < n) (hn : n ≤ 256) (hi : ∀ i j, i < n → j < n → q i = q j → i = j) (e : q k = y) (d v w : Int32) : f_X4_add b (nI (cx y)) d v w g = some (nI k, g) := by
  have c1 := cx_lt hy
  rw [f_X4_add, li, ldi64 (by omega), lmo64, lmu36, nI_add, cx_at, if_neg (nI_pos (by omega)), if_pos (llt1296 hy), g_dr hb hs (by decide) (by decide), g_gk hb hs (by decide) (by decide), g_n6 hb hs, gdI_nI hy (by decide), nI_clamp (by omega)]
  have v : gI g (b + 6) y = nI k := by
    rcases hG.2.2.2 y hy with ⟨i, i1, i2, i3⟩ | ⟨z, -⟩
    · rw [i3, hi i k i1 hk (i2.trans e.symm)]
    · exact absurd e (z k hk)
  rw [v, if_neg (nI_ne1 (by omega)), f_X4_add_112, g_dr hb hs (by decide) (by decide), g_gk hb hs (by decide) (by decide), g_n6 hb hs, gdI_nI hy (by decide), nI_clamp (by omega), v]
theorem c_addNew (hb : Gc b) (hs : Sh g) {n y d pv lv : Nat} {q pa la dp : Nat → Nat} (v w : Int32) (hG : GRw g b n q pa la dp ∨ (n = 0 ∧ gI g b 0 = nI 0 ∧ ∀ c, c < 1296 → gI g (b + 6) c = -1)) (hy : y < 1296) (hn : n < 256) (hno : ∀ i, i < n → q i ≠ y) (hvw : (n = 0 ∧ v = -1 ∧ w = -1) ∨ (0 < n ∧ v = nI pv ∧ w = nI lv)) : ∃ g', f_X4_add b (nI (cx y)) (nI d) v w g = some (nI n, g') ∧ Fi (Sg b) g g' ∧ gI g' (b + 5) = gI g (b + 5) ∧ GRw g' b (n + 1) (ins q n y) (ins pa n pv) (ins la n lv) (ins dp n d) := by
  have c1 := cx_lt hy
  have e6 : gI g (b + 6) y = -1 := by
    rcases hG with hG | hG
    · rcases hG.2.2.2 y hy with ⟨i, i1, i2, -⟩ | ⟨-, z⟩
      · exact absurd i2 (hno i i1)
      · exact z
    · exact hG.2.2 y hy
  have e0 : gI g b 0 = nI n := by
    rcases hG with hG | hG
    · exact hG.1
    · rw [hG.1]; exact hG.2.1
  have m : ∀ {k}, k ≤ 6 → b + k ∈ Sg b := fun h => Sg_m h
  obtain ⟨g6, h6⟩ : ∃ g6, g6 = sI (sI (sI (sI (sI (sI g (b + 6) y (nI n)) (b + 1) n (nI (cx y))) (b + 2) n (nI d)) (b + 3) n v) (b + 4) n w) b 0 (nI (n + 1)) := ⟨_, rfl⟩
  have x6 : Fi (Sg b) g g6 := by
    rw [h6]
    exact (((((Fi.rf.si (m (by decide))).si (m (by decide))).si (m (by decide))).si (m (by decide))).si (m (by decide))).si (m (k := 0) (by decide))
  have s6 := Sh.fi x6 hs
  have ne : ∀ k, 0 < k → b ≠ b + k := fun k hk => by omega
  have i6 : gI g6 (b + 6) = upd (gI g (b + 6)) y (nI n) := by
    rw [h6, gI_sIn (by omega), gI_sIn (by omega), gI_sIn (by omega), gI_sIn (by omega), gI_sIn (by omega), gI_sIs]
  have i1 : gI g6 (b + 1) = upd (gI g (b + 1)) n (nI (cx y)) := by
    rw [h6, gI_sIn (by omega), gI_sIn (by omega), gI_sIn (by omega), gI_sIn (by omega), gI_sIs, gI_sIn (by omega)]
  have i2 : gI g6 (b + 2) = upd (gI g (b + 2)) n (nI d) := by
    rw [h6, gI_sIn (by omega), gI_sIn (by omega), gI_sIn (by omega), gI_sIs, gI_sIn (by omega), gI_sIn (by omega)]
  have i3 : gI g6 (b + 3) = upd (gI g (b + 3)) n v := by
    rw [h6, gI_sIn (by omega), gI_sIn (by omega), gI_sIs, gI_sIn (by omega), gI_sIn (by omega), gI_sIn (by omega)]
  have i4 : gI g6 (b + 4) = upd (gI g (b + 4)) n w := by
    rw [h6, gI_sIn (by omega), gI_sIs, gI_sIn (by omega), gI_sIn (by omega), gI_sIn (by omega), gI_sIn (by omega)]
  have i5 : gI g6 (b + 5) = gI g (b + 5) := by
    rw [h6, gI_sIn (by omega), gI_sIn (by omega), gI_sIn (by omega), gI_sIn (by omega), gI_sIn (by omega), gI_sIn (by omega)]
  have i0 : gI g6 b = upd (gI g b) 0 (nI (n + 1)) := by
    rw [h6, gI_sIs, gI_sIn (by omega), gI_sIn (by omega), gI_sIn (by omega), gI_sIn (by omega), gI_sIn (by omega)]
  refine ⟨g6, ?_, x6, i5, ?_⟩
  · rw [f_X4_add, li, ldi64 (by omega), lmo64, lmu36, nI_add, cx_at, if_neg (nI_pos (by omega)), if_pos (llt1296 hy), g_dr hb hs (by decide) (by decide), g_gk hb hs (by decide) (by decide), g_n6 hb hs, gdI_nI hy (by decide), nI_clamp (by omega), e6, if_pos rfl, e0, if_neg (lnge256 hn), lg]
    have c0 : gI (sI g (b + 6) y (nI n)) b 0 = nI n := by rw [gI_sIn (ne 6 (by decide))]; exact e0
    have n1 := g_gn hb hs (k := 1) (by decide) (by decide)
    have n2 := g_gn hb hs (k := 2) (by decide) (by decide)
    have n3 := g_gn hb hs (k := 3) (by decide) (by decide)
    have n4 := g_gn hb hs (k := 4) (by decide) (by decide)
    rw [gR_sI, g_dr hb hs (by decide) (by decide), gdK_sI, g_gk hb hs (by decide) (by decide), gN_sI, n1, c0, gdI_nI hn (by decide), nI_clamp (by omega), lg]
    have c2 : gI (sI (sI g (b + 6) y (nI n)) (b + 1) n (nI (cx y))) b 0 = nI n := by rw [gI_sIn (ne 1 (by decide))]; exact c0
    rw [gR_sI, gR_sI, g_dr hb hs (by decide) (by decide), gdK_sI, gdK_sI, g_gk hb hs (by decide) (by decide), gN_sI, gN_sI, n2, c2, gdI_nI hn (by decide), nI_clamp (by omega), lg]
    have c3 : gI (sI (sI (sI g (b + 6) y (nI n)) (b + 1) n (nI (cx y))) (b + 2) n (nI d)) b 0 = nI n := by rw [gI_sIn (ne 2 (by decide))]; exact c2
    rw [gR_sI, gR_sI, gR_sI, g_dr hb hs (by decide) (by decide), gdK_sI, gdK_sI, gdK_sI, g_gk hb hs (by decide) (by decide), gN_sI, gN_sI, gN_sI, n3, c3, gdI_nI hn (by decide), nI_clamp (by omega), lg]
    have c4 : gI (sI (sI (sI (sI g (b + 6) y (nI n)) (b + 1) n (nI (cx y))) (b + 2) n (nI d)) (b + 3) n v) b 0 = nI n := by rw [gI_sIn (ne 3 (by decide))]; exact c3
    rw [gR_sI, gR_sI, gR_sI, gR_sI, g_dr hb hs (by decide) (by decide), gdK_sI, gdK_sI, gdK_sI, gdK_sI, g_gk hb hs (by decide) (by decide), gN_sI, gN_sI, gN_sI, gN_sI, n4, c4, gdI_nI hn (by decide), nI_clamp (by omega), lg]
    rw [show gI (sI (sI (sI (sI (sI g (b + 6) y (nI n)) (b + 1) n (nI (cx y))) (b + 2) n (nI d)) (b + 3) n v) (b + 4) n w) b 0 = nI n by rw [gI_sIn (ne 4 (by decide))]; exact c4, lad1, lg, ← h6, f_X4_add_112, g_dr hb s6 (by decide) (by decide), g_gk hb s6 (by decide) (by decide), g_n6 hb s6, gdI_nI hy (by decide), nI_clamp (by omega), i6, pk_us]
  · refine ⟨by rw [i0]; exact pk_us, fun i hi => ?_, ?_, fun c hc => ?_⟩
    · rw [i1, i2, i3, i4]
      by_cases e : i = n
      · rw [e, pk_us, pk_us, pk_us, pk_us, ins_s, ins_s, ins_s, ins_s]
        refine ⟨rfl, rfl, fun z => ?_⟩
        rcases hvw with ⟨z1, -⟩ | ⟨-, z1, z2⟩
        · omega
        · exact ⟨z1, z2⟩
      · rw [pk_un e, pk_un e, pk_un e, pk_un e, ins_n e, ins_n e, ins_n e, ins_n e]
        rcases hG with hG | hG
        · exact hG.2.1 i (by omega)
        · omega
    · rw [i3, i4]
      rcases hvw with ⟨z1, z2, z3⟩ | ⟨z1, -⟩
      · rw [← z1, pk_us, pk_us]
        exact ⟨z2, z3⟩
      · rw [pk_un (by omega), pk_un (by omega)]
        rcases hG with hG | hG
        · exact hG.2.2.1
        · omega
    · rw [i6]
      by_cases e : c = y
      · left
        exact ⟨n, by omega, by rw [ins_s, e], by rw [e]; exact pk_us⟩
      · rw [pk_un e]
        rcases hG with hG | hG
        · rcases hG.2.2.2 c hc with ⟨i, u1, u2, u3⟩ | ⟨u1, u2⟩
          · exact Or.inl ⟨i, by omega, by rw [ins_n (by omega)]; exact u2, u3⟩
          · refine Or.inr ⟨fun i hi => ?_, u2⟩
            by_cases ei : i = n
            · rw [ei, ins_s]
              exact fun z => e z.symm
            · rw [ins_n ei]
              exact u1 i (by omega)
        · refine Or.inr ⟨fun i hi => ?_, hG.2.2 c hc⟩
          rw [show i = n by omega, ins_s]
          exact fun z => e z.symm
end GRA
