/-! FORCING, THE CLASS: links, then the queue. -/
section GMC
def Lch (lim : Nat) (lf nl : Nat → Int32) : Int32 → List Nat → Prop
  | a, [] => a = -1
  | a, x :: xs => ∃ k, k < lim ∧ a = nI k ∧ lf k = nI x ∧ Lch lim lf nl (nl k) xs
theorem Lch.up {lim lim' : Nat} {lf nl lf' nl' : Nat → Int32} (h1 : lim ≤ lim') (h2 : ∀ k, k < lim → lf' k = lf k ∧ nl' k = nl k) : ∀ {L : List Nat} {a : Int32}, Lch lim lf nl a L → Lch lim' lf' nl' a L
  | [], a, h => h
  | x :: xs, a, ⟨k, k1, k2, k3, k4⟩ => ⟨k, by omega, k2, by rw [(h2 k k1).1]; exact k3, by rw [(h2 k k1).2]; exact Lch.up h1 h2 k4⟩
def insL (f : Nat → List Nat) (n : Nat) (v : List Nat) : Nat → List Nat := fun i => if i = n then v else f i
theorem insL_s {f : Nat → List Nat} {n : Nat} {v : List Nat} : insL f n v n = v := if_pos rfl
theorem insL_n {f : Nat → List Nat} {n i : Nat} {v : List Nat} (h : i ≠ n) : insL f n v i = f i := if_neg h
/-- the links as they stand: S the nodes behind each node -/
def GL1 (g : G) (m : Nat) (S pl : Nat → List Nat) (lk : Nat) : Prop := (gI g 27 4 = nI lk ∧ lk ≤ 2048) ∧ (∀ y, y < m → Lch lk (gI g 30) (gI g 29) (gI g 28 y) (pl y) ∧ (pl y).length ≤ lk ∧ ∀ x ∈ pl y, x < m) ∧ (∀ x, x < m → gI g 31 x = nI (S x).length) ∧ ∀ x y, x < m → y < m → cN x (pl y) = cN y (S x)
theorem GL1.fi {g g' : G} {m lk : Nat} {S pl : Nat → List Nat} {Z : List Nat} (h : GL1 g m S pl lk) (x : Fi Z g g') (a : 27 ∉ Z) (b : 28 ∉ Z) (c : 29 ∉ Z) (d : 30 ∉ Z) (e : 31 ∉ Z) : GL1 g' m S pl lk := by
  unfold GL1
  rw [x.I a, x.I b, x.I c, x.I d, x.I e]
  exact h
variable {g g' : G} {m lk n s : Nat} {S pl : Nat → List Nat} {q pa la dp : Nat → Nat} {N : Nat → Nat → Option Nat}
def Sm : List Nat := [27, 28, 29, 30, 31]
theorem c_link (hs : Sh g) (h : GL1 g m S pl lk) (hm : m ≤ 512) (hS : ∀ x, x < m → (S x).length < 10) (hk : lk < 2048) {a b : Nat} (ha : a < m) (hb : b < m) : ∃ g', f_X3_link 27 (nI a) (nI b) g = some ((), g') ∧ Fi Sm g g' ∧ gI g' 27 0 = gI g 27 0 ∧ GL1 g' m (insL S a (S a ++ [b])) (insL pl b (a :: pl b)) (lk + 1) := by
  obtain ⟨⟨h4, -⟩, h2, h3, hc⟩ := h
  have sl := hS a ha
  obtain ⟨g5, hg5⟩ : ∃ g5, g5 = sI (sI (sI (sI (sI g 30 lk (nI a)) 29 lk (gI g 28 b)) 28 b (nI lk)) 31 a (nI ((S a).length + 1))) 27 4 (nI (lk + 1)) := ⟨_, rfl⟩
  have x5 : Fi Sm g g5 := by
    rw [hg5]
    exact ((((Fi.rf.si (by decide)).si (by decide)).si (by decide)).si (by decide)).si (by decide)
  have f30 : gI g5 30 = upd (gI g 30) lk (nI a) := by rw [hg5, gI_sIn (by decide), gI_sIn (by decide), gI_sIn (by decide), gI_sIn (by decide), gI_sIs]
  have f29 : gI g5 29 = upd (gI g 29) lk (gI g 28 b) := by rw [hg5, gI_sIn (by decide), gI_sIn (by decide), gI_sIn (by decide), gI_sIs, gI_sIn (by decide)]
  have f28 : gI g5 28 = upd (gI g 28) b (nI lk) := by rw [hg5, gI_sIn (by decide), gI_sIn (by decide), gI_sIs, gI_sIn (by decide), gI_sIn (by decide)]
  have f31 : gI g5 31 = upd (gI g 31) a (nI ((S a).length + 1)) := by rw [hg5, gI_sIn (by decide), gI_sIs, gI_sIn (by decide), gI_sIn (by decide), gI_sIn (by decide)]
  have f27 : gI g5 27 = upd (gI g 27) 4 (nI (lk + 1)) := by rw [hg5, gI_sIs, gI_sIn (by decide), gI_sIn (by decide), gI_sIn (by decide), gI_sIn (by decide)]
  refine ⟨g5, ?_, x5, by rw [f27, pk_un (by decide)], ⟨by rw [f27]; exact pk_us, by omega⟩, fun y hy => ?_, fun x hx => ?_, fun x y hx hy => ?_⟩
  · rw [f_X3_link, md27_2 hs, gk29 hs, sn29 hs, h4, if_neg (nI_ge hk (by decide)), md27_3 hs, gk30 hs, sn30 hs, gdI_nI hk (by decide), nI_clamp (by omega), lg, gR_sI, md27_1 hs, gdK_sI, gk28 hs, gN_sI, sn28 hs, gdI_nI (by omega) (by decide), gI_sIn (show 27 ≠ 30 by decide), h4, sn29 hs, gdI_nI hk (by decide), nI_clamp (by omega), nI_clamp (by omega), gI_sIn (show 28 ≠ 30 by decide), lg, gI_sIn (show 27 ≠ 29 by decide), gI_sIn (show 27 ≠ 30 by decide), h4, lg, gR_sI, gR_sI, gR_sI, md27_5 hs, gdK_sI, gdK_sI, gdK_sI, gk31 hs, gN_sI, gN_sI, gN_sI, sn31 hs, gdI_nI (by omega) (by decide), nI_clamp (by omega), gI_sIn (show 31 ≠ 28 by decide), gI_sIn (show 31 ≠ 29 by decide), gI_sIn (show 31 ≠ 30 by decide), h3 a ha, lad1, lg, gI_sIn (show 27 ≠ 31 by decide), gI_sIn (show 27 ≠ 28 by decide), gI_sIn (show 27 ≠ 29 by decide), gI_sIn (show 27 ≠ 30 by decide), h4, lad1, lg, ← hg5]
  · have up : ∀ {L a}, Lch lk (gI g 30) (gI g 29) a L → Lch (lk + 1) (gI g5 30) (gI g5 29) a L := fun h => Lch.up (Nat.le_succ _) (fun k hk => by rw [f30, f29, pk_un (by omega), pk_un (by omega)]; exact ⟨rfl, rfl⟩) h
    obtain ⟨c1, c2, c3⟩ := h2 y hy
    rw [f28]
    by_cases e : y = b
    · rw [e, pk_us, insL_s]
      obtain ⟨b1, b2, b3⟩ := h2 b hb
      refine ⟨⟨lk, by omega, rfl, by rw [f30]; exact pk_us, ?_⟩, by rw [List.length_cons]; omega, fun x hx => ?_⟩
      · rw [show gI g5 29 lk = gI g 28 b by rw [f29]; exact pk_us]
        exact up b1
      · rcases List.mem_cons.mp hx with u | u
        · rw [u]; exact ha
        · exact b3 x u
    · rw [pk_un e, insL_n e]
      exact ⟨up c1, by omega, c3⟩
  · rw [f31]
    by_cases e : x = a
    · rw [e, pk_us, insL_s, List.length_append]
      rfl
    · rw [pk_un e, insL_n e]
      exact h3 x hx
  · have h0 := hc x y hx hy
    have e1 : cN x (a :: pl b) = cN x (pl b) + (if a = x then 1 else 0) := by
      show cP _ (pl b) + (if decide (a = x) = true then 1 else 0) = _
      by_cases u : a = x
      · rw [decide_eq_true u, if_pos rfl, if_pos u]
        rfl
      · rw [decide_eq_false u, if_neg (by decide), if_neg u]
        rfl
    by_cases ey : y = b
    · by_cases ex : x = a
      · subst ey
        subst ex
        rw [insL_s, insL_s, cN_sn, if_pos rfl, e1, if_pos rfl, h0]
      · rw [ey, insL_s, insL_n ex, e1, if_neg (fun u => ex u.symm), ← ey]
        exact h0
    · rw [insL_n ey]
      by_cases ex : x = a
      · rw [ex, insL_s, cN_sn, if_neg (fun u => ey u.symm), ← ex]
        exact h0
      · rw [insL_n ex]
        exact h0
/-- what is linked when leads below l of the stand s are through -/
def pt (t l : Nat) : Nat := if l - 4 * t ≤ 4 then l - 4 * t else 4
def scp (N2 : Nat → Nat → Option Nat) (s l x : Nat) : List Nat := if x / 2 < s then slC N2 x else if x / 2 = s then opL N2 s (x % 2) (pt (x % 2) l) else []
/-- then: twins below t, that have none, stay -/
def scq (N2 : Nat → Nat → Option Nat) (s t x : Nat) : List Nat := if x / 2 < s then slC N2 x else if x / 2 = s then (if x % 2 < t then slC N2 x else opL N2 s (x % 2) 4) else []
theorem opL_len (N2 : Nat → Nat → Option Nat) (s t : Nat) : ∀ k, (opL N2 s t k).length ≤ k
  | 0 => Nat.le_refl _
  | k + 1 => by
    have ih := opL_len N2 s t k
    show (opL N2 s t k ++ (match N2 s (4 * t + k) with | none => [] | some y => [2 * y + 1 - t])).length ≤ k + 1
    rw [List.length_append]
    cases N2 s (4 * t + k) with
    | none =>
      show _ + 0 ≤ _
      omega
    | some y =>
      show _ + 1 ≤ _
      omega
theorem slC_len (N2 : Nat → Nat → Option Nat) (x : Nat) : (slC N2 x).length ≤ 4 := by
  unfold slC
  split
  · exact Nat.le_of_ble_eq_true rfl
  · exact opL_len _ _ _ 4
theorem scp_len (N2 : Nat → Nat → Option Nat) (s l x : Nat) : (scp N2 s l x).length ≤ 4 := by
  unfold scp
  split
  · exact slC_len _ _
  · split
    · refine Nat.le_trans (opL_len _ _ _ _) ?_
      unfold pt
      split <;> omega
    · exact Nat.zero_le _
theorem scq_len (N2 : Nat → Nat → Option Nat) (s t x : Nat) : (scq N2 s t x).length ≤ 4 := by
  unfold scq
  split
  · exact slC_len _ _
  · split
    · split
      · exact slC_len _ _
      · exact opL_len _ _ _ 4
    · exact Nat.zero_le _
theorem scp_no {N2 : Nat → Nat → Option Nat} {s l : Nat} (hl : l < 8) (h : N2 s l = none) : scp N2 s (l + 1) = scp N2 s l := by
  funext x
  unfold scp
  split
  · rfl
  · split
    · by_cases e : x % 2 = l / 4
      · have e1 : pt (x % 2) l = l % 4 := by
          unfold pt
          rw [if_pos (by omega)]
          omega
        have e2 : pt (x % 2) (l + 1) = l % 4 + 1 := by
          unfold pt
          rw [if_pos (by omega)]
          omega
        rw [e1, e2, opL_0 (by rw [show 4 * (x % 2) + l % 4 = l by omega]; exact h)]
      · have e1 : pt (x % 2) (l + 1) = pt (x % 2) l := by
          unfold pt
          split <;> split <;> omega
        rw [e1]
    · rfl
theorem scp_so {N2 : Nat → Nat → Option Nat} {s l y : Nat} (hl : l < 8) (h : N2 s l = some y) : scp N2 s (l + 1) = insL (scp N2 s l) (2 * s + l / 4) (scp N2 s l (2 * s + l / 4) ++ [2 * y + 1 - l / 4]) := by
  have xa : (2 * s + l / 4) / 2 = s ∧ (2 * s + l / 4) % 2 = l / 4 := by omega
  have at1 : pt (l / 4) l = l % 4 := by
    unfold pt
    rw [if_pos (by omega)]
    omega
  funext x
  by_cases ex : x = 2 * s + l / 4
  · rw [ex, insL_s]
    unfold scp
    rw [xa.1, xa.2, if_neg (Nat.lt_irrefl _), if_pos rfl, if_neg (Nat.lt_irrefl _), if_pos rfl, at1]
    have e2 : pt (l / 4) (l + 1) = l % 4 + 1 := by
      unfold pt
      rw [if_pos (by omega)]
      omega
    rw [e2, opL_1 (by rw [show 4 * (l / 4) + l % 4 = l by omega]; exact h)]
  · rw [insL_n ex]
    unfold scp
    split
    · rfl
    · split
      · have e1 : pt (x % 2) (l + 1) = pt (x % 2) l := by
          unfold pt
          split <;> split <;> omega
        rw [e1]
      · rfl
theorem scp_8 (N2 : Nat → Nat → Option Nat) (s : Nat) : scp N2 s 8 = scq N2 s 0 := by
  funext x
  unfold scp scq
  have : pt (x % 2) 8 = 4 := by
    unfold pt
    split <;> omega
  rw [this]
  split
  · rfl
  · split
    · rw [if_neg (Nat.not_lt_zero _)]
    · rfl
theorem scq_2 (N2 : Nat → Nat → Option Nat) (s : Nat) : scq N2 s 2 = scp N2 (s + 1) 0 := by
  funext x
  unfold scp scq
  by_cases h1 : x / 2 < s
  · rw [if_pos h1, if_pos (by omega)]
  · rw [if_neg h1]
    by_cases h2 : x / 2 = s
    · rw [if_pos h2, if_pos (by omega), if_pos (by omega)]
    · rw [if_neg h2, if_neg (by omega)]
      split
      · have : pt (x % 2) 0 = 0 := by
          unfold pt
          rw [if_pos (by omega)]
          omega
        rw [this]
        rfl
      · rfl
theorem scq_1 {N2 : Nat → Nat → Option Nat} {s t : Nat} (ht : t < 2) : scq N2 s (t + 1) = insL (scq N2 s t) (2 * s + t) (slC N2 (2 * s + t)) ∧ scq N2 s t (2 * s + t) = opL N2 s t 4 := by
  have xa : (2 * s + t) / 2 = s ∧ (2 * s + t) % 2 = t := by omega
  constructor
  · funext x
    by_cases ex : x = 2 * s + t
    · rw [ex, insL_s]
      unfold scq
      rw [xa.1, xa.2, if_neg (Nat.lt_irrefl _), if_pos rfl, if_pos (Nat.lt_succ_self _)]
    · rw [insL_n ex]
      unfold scq
      split
      · rfl
      · split
        · by_cases u : x % 2 < t
          · rw [if_pos u, if_pos (by omega)]
          · rw [if_neg u, if_neg (by omega)]
        · rfl
  · unfold scq
    rw [xa.1, xa.2, if_neg (Nat.lt_irrefl _), if_pos rfl, if_neg (Nat.lt_irrefl _)]
/-- how many links there are -/
def sS (S : Nat → List Nat) (s : Nat) : Nat := 8 * s + (S (2 * s)).length + (S (2 * s + 1)).length
def GL2 (g : G) (n : Nat) (S : Nat → List Nat) (s : Nat) : Prop := ∃ pl lk, GL1 g (2 * n) S pl lk ∧ lk ≤ sS S s
theorem sS_p (N2 : Nat → Nat → Option Nat) (s : Nat) : sS (scq N2 s 2) s ≤ sS (scp N2 (s + 1) 0) (s + 1) := by
  unfold sS
  have h1 := scq_len N2 s 2 (2 * s)
  have h2 := scq_len N2 s 2 (2 * s + 1)
  omega
theorem GL2.sg (h : GL2 g n S s) (hS : ∀ x, (S x).length ≤ 4) (hn : n ≤ 232) (hs : s < n) {a b : Nat} (ha : a = 2 * s ∨ a = 2 * s + 1) (hb : b < 2 * n) (hla : (S a).length < 4) (hG : Sh g) : ∃ g', f_X3_link 27 (nI a) (nI b) g = some ((), g') ∧ Fi Sm g g' ∧ gI g' 27 0 = gI g 27 0 ∧ GL2 g' n (insL S a (S a ++ [b])) s := by
  obtain ⟨pl, lk, h1, h2⟩ := h
  have l0 := hS (2 * s)
  have l1 := hS (2 * s + 1)
  have lk2 : lk < 2048 := by
    unfold sS at h2
    omega
  obtain ⟨g2, e1, e2, e3, e4⟩ := c_link hG h1 (by omega) (fun x _ => by have := hS x; omega) lk2 (a := a) (b := b) (by omega) hb
  refine ⟨g2, e1, e2, e3, _, _, e4, ?_⟩
  unfold sS at h2 ⊢
  rcases ha with e | e
  · rw [e, insL_s, insL_n (by omega), List.length_append]
    show lk + 1 ≤ 8 * s + ((S (2 * s)).length + 1) + (S (2 * s + 1)).length
    omega
  · rw [e, insL_s, insL_n (by omega), List.length_append]
    show lk + 1 ≤ 8 * s + (S (2 * s)).length + ((S (2 * s + 1)).length + 1)
    omega
theorem GRw.sm (h : GRw g 2 n q pa la dp) (x : Fi Sm g g') : GRw g' 2 n q pa la dp := h.fi x (fun k hk z => by
  simp only [Sm, List.mem_cons, List.not_mem_nil, or_false] at z
  omega)
theorem GNx.sm (h : GNx N g 2 n q n 0) (x : Fi Sm g g') : GNx N g' 2 n q n 0 := h.fi x (fun k hk z => by
  simp only [Sm, List.mem_cons, List.not_mem_nil, or_false] at z
  omega)
theorem c_la100 {k28 : Nat → Nat → Int32 → G → Option (Unit × G)} (hn : n ≤ 232) {s : Nat} (hsn : s < n) : ∀ fu t g, Sh g → GL2 g n (scq (nxI N q n) s t) s → t ≤ 2 → 2 < fu + t → ∃ g', f_X3_linkAll_100 k28 fu 27 2 (nI s) (nI t) g = k28 27 2 (nI (s + 1)) g' ∧ Fi Sm g g' ∧ gI g' 27 0 = gI g 27 0 ∧ GL2 g' n (scp (nxI N q n) (s + 1) 0) (s + 1) := by
  intro fu
  induction fu with
  | zero => intro t g _ _ _ h; omega
  | succ fu ih =>
    intro t g hs h ht hf
    rw [f_X3_linkAll_100]
    rcases Nat.lt_or_ge t 2 with z | z
    · obtain ⟨e1, e2⟩ := scq_1 (N2 := (nxI N q n)) (s := s) z
      obtain ⟨pl, lk, h1, h2⟩ := id h
      have r31 := h1.2.2.1 (2 * s + t) (by omega)
      rw [e2] at r31
      have ol := opL_len (nxI N q n) s t 4
      rw [if_neg (lnge2 z), md27_5 hs, gk31 hs, sn31 hs, lum2, nI_add, gdI_nI (by omega) (by decide), nI_clamp (by omega), r31]
      have xa : (2 * s + t) / 2 = s ∧ (2 * s + t) % 2 = t := by omega
      by_cases w : opL (nxI N q n) s t 4 = []
      · have sl : slC (nxI N q n) (2 * s + t) = [2 * s + 1 - t] := by
          unfold slC
          rw [xa.1, xa.2, if_pos w]
        obtain ⟨g2, u1, u2, u3, u4⟩ := h.sg (scq_len _ _ _) hn hsn (a := 2 * s + t) (b := 2 * s + 1 - t) (by omega) (by omega) (by rw [e2, w]; decide) hs
        rw [e2, w, List.nil_append, ← sl, ← e1] at u4
        rw [w, if_pos (show nI (List.length ([] : List Nat)) = 0 from rfl), lad1, pk_sub (by omega), u1, bd_eq, f_X3_linkAll_134, lad1]
        obtain ⟨g3, v1, v2, v3, v4⟩ := ih (t + 1) g2 (Sh.fi u2 hs) u4 (by omega) (by omega)
        exact ⟨g3, v1, u2.tr v2, v3.trans u3, v4⟩
      · have sl : slC (nxI N q n) (2 * s + t) = opL (nxI N q n) s t 4 := by
          unfold slC
          rw [xa.1, xa.2, if_neg w]
        have e3 : scq (nxI N q n) s (t + 1) = scq (nxI N q n) s t := by
          rw [e1, sl, ← e2]
          funext x
          by_cases ex : x = 2 * s + t
          · rw [ex, insL_s]
          · rw [insL_n ex]
        have l0 : 0 < (opL (nxI N q n) s t 4).length := List.length_pos_iff.mpr w
        rw [if_neg (nI_ne0 l0 (by omega)), f_X3_linkAll_134, lad1]
        exact ih (t + 1) g hs (by rw [e3]; exact h) (by omega) (by omega)
    · have e2 : t = 2 := by omega
      subst e2
      rw [if_pos (lle2 (by decide) (by decide)), lad1]
      obtain ⟨pl, lk, h1, h2⟩ := h
      rw [scq_2] at h1
      exact ⟨g, rfl, Fi.rf, rfl, pl, lk, h1, Nat.le_trans h2 (sS_p _ s)⟩
theorem c_la45 (hB : BF N q pa la dp n n 0) (hn : n ≤ 232) {k28 : Nat → Nat → Int32 → G → Option (Unit × G)} {s : Nat} (hsn : s < n) : ∀ fu l g, Sh g → GRw g 2 n q pa la dp → GNx N g 2 n q n 0 → GL2 g n (scp (nxI N q n) s l) s → l ≤ 8 → 8 < fu + l → ∃ g', f_X3_linkAll_45 k28 fu 27 2 (nI s) (nI l) g = k28 27 2 (nI (s + 1)) g' ∧ Fi Sm g g' ∧ gI g' 27 0 = gI g 27 0 ∧ GL2 g' n (scp (nxI N q n) (s + 1) 0) (s + 1) := by
  intro fu
  induction fu with
  | zero => intro l g _ _ _ _ _ h; omega
  | succ fu ih =>
    intro l g hs hG hN h hl hf
    rw [f_X3_linkAll_45]
    rcases Nat.lt_or_ge l 8 with z | z
    · rw [if_neg (lnge8 z), ldi4 (by omega), li, c_nextOf (Or.inl rfl) hs hB hG hN hn hsn z, bd_eq]
      cases hx : (nxI N q n) s l with
      | none =>
        rw [show oI none = -1 from rfl, c_has1, bd_eq, ibF, f_X3_linkAll_92, lad1]
        exact ih (l + 1) g hs hG hN (by rw [scp_no z hx]; exact h) (by omega) (by omega)
      | some y =>
        obtain ⟨o1, -⟩ := nxI_o hB hsn z hx
        have la4 : (scp (nxI N q n) s l (2 * s + l / 4)).length < 4 := by
          unfold scp
          rw [show (2 * s + l / 4) / 2 = s by omega, show (2 * s + l / 4) % 2 = l / 4 by omega, if_neg (Nat.lt_irrefl _), if_pos rfl]
          have := opL_len (nxI N q n) s (l / 4) (pt (l / 4) l)
          unfold pt at this ⊢
          split at this
          · split <;> omega
          · omega
        obtain ⟨g2, u1, u2, u3, u4⟩ := h.sg (scp_len _ _ _) hn hsn (a := 2 * s + l / 4) (b := 2 * y + 1 - l / 4) (by omega) (by omega) la4 hs
        rw [← scp_so z hx] at u4
        rw [show oI (some y) = nI y from rfl, c_has hG.1 (by omega) (by omega), bd_eq, decide_eq_true o1, ibT, lum2, nI_add, lum2, lad1, pk_sub (by omega), u1, bd_eq, f_X3_linkAll_92, lad1]
        obtain ⟨g3, v1, v2, v3, v4⟩ := ih (l + 1) g2 (Sh.fi u2 hs) (hG.sm u2) (hN.sm u2) u4 (by omega) (by omega)
        exact ⟨g3, v1, u2.tr v2, v3.trans u3, v4⟩
    · have e8 : l = 8 := by omega
      subst e8
      rw [if_pos (lle8 (by decide) (by decide))]
      obtain ⟨pl, lk, h1, h2⟩ := h
      rw [scp_8] at h1 h2
      exact c_la100 hn hsn FU 0 g hs ⟨pl, lk, h1, h2⟩ (by decide) (by have := @FU_gt 2 (by decide); omega)
theorem c_la28 (hB : BF N q pa la dp n n 0) (hn : n ≤ 232) : ∀ fu s g, Sh g → GRw g 2 n q pa la dp → GNx N g 2 n q n 0 → GL2 g n (scp (nxI N q n) s 0) s → s ≤ n → n < fu + s → ∃ g', f_X3_linkAll_28 fu 27 2 (nI s) g = some ((), g') ∧ Fi Sm g g' ∧ gI g' 27 0 = gI g 27 0 ∧ GL2 g' n (scp (nxI N q n) n 0) n := by
  intro fu
  induction fu with
  | zero => intro s g _ _ _ _ _ h; omega
  | succ fu ih =>
    intro s g hs hG hN h hl hf
    rw [f_X3_linkAll_28, hG.1]
    rcases Nat.lt_or_ge s n with z | z
    · obtain ⟨g2, u1, u2, u3, u4⟩ := c_la45 hB hn z (k28 := f_X3_linkAll_28 fu) FU 0 g hs hG hN h (by decide) (by have := @FU_gt 8 (by decide); omega)
      rw [if_neg (nI_ge z (by omega)), if_neg (lnge256 (by omega)), show (0 : Int32) = nI 0 from rfl, u1]
      obtain ⟨g3, v1, v2, v3, v4⟩ := ih (s + 1) g2 (Sh.fi u2 hs) (hG.sm u2) (hN.sm u2) u4 (by omega) (by omega)
      exact ⟨g3, v1, u2.tr v2, v3.trans u3, v4⟩
    · have e : s = n := by omega
      subst e
      rw [if_pos (nI_le z (by omega))]
      exact ⟨g, rfl, Fi.rf, rfl, h⟩
/-- the links of a graph are told -/
def GMr (N2 : Nat → Nat → Option Nat) (n : Nat) (g : G) : Prop := gI g 27 0 = 1 ∧ ∃ pl lk, GL1 g (2 * n) (slC N2) pl lk
theorem c_linkAll (hB : BF N q pa la dp n n 0) (hn : n ≤ 232) (hs : Sh g) (hG : GRw g 2 n q pa la dp) (hN : GNx N g 2 n q n 0) : ∃ g', f_X3_linkAll 27 2 g = some ((), g') ∧ Fi Sm g g' ∧ GMr (nxI N q n) n g' := by
  have x0 : Fi Sm g (sI g 27 0 1) := Fi.rf.si (by decide)
  have hs0 := Sh.fi x0 hs
  obtain ⟨g1, e1, e2, e3, e4⟩ := c_fill (g := sI g 27 0 1) (a := 28) (len := 512) (by decide) (sn28 hs0) (-1)
  have hs1 := Sh.fi e2 hs0
  obtain ⟨g2, d1, d2, d3, d4⟩ := c_fill (g := g1) (a := 31) (len := 512) (by decide) (sn31 hs1) 0
  have x3 : Fi Sm g (sI g2 27 4 (nI 0)) := ((x0.tr (e2.mono (by decide))).tr (d2.mono (by decide))).si (by decide)
  have hs3 := Sh.fi x3 hs
  have z0 : ∀ x, scp (nxI N q n) 0 0 x = [] := fun x => by
    unfold scp
    rw [if_neg (by omega)]
    split
    · have : pt (x % 2) 0 = 0 := by
        unfold pt
        rw [if_pos (by omega)]
        omega
      rw [this]
      rfl
    · rfl
  have h0 : GL2 (sI g2 27 4 (nI 0)) n (scp (nxI N q n) 0 0) 0 := by
    refine ⟨fun _ => [], 0, ⟨⟨by rw [gI_sIs]; exact pk_us, by decide⟩, fun y hy => ⟨?_, Nat.le_refl _, fun x hx => (by cases hx)⟩, fun x hx => ?_, fun x y hx hy => ?_⟩, Nat.zero_le _⟩
    · show gI (sI g2 27 4 (nI 0)) 28 y = -1
      rw [gI_sIn (by decide), d2.I (by decide)]
      exact e4 y (by omega)
    · rw [gI_sIn (by decide), d4 x (by omega), z0 x]
      rfl
    · rw [z0 x]
      rfl
  obtain ⟨g4, u1, u2, u3, u4⟩ := c_la28 hB hn FU 0 _ hs3 (hG.sm x3) (hN.sm x3) h0 (Nat.zero_le _) (by have := @FU_gt n (by omega); omega)
  rw [f_X3_linkAll, lg, md27_1 hs0, gk28 hs0, e1, bd_eq, md27_5 hs1, gk31 hs1, d1, bd_eq, lg]
  obtain ⟨pl, lk, h1, -⟩ := u4
  refine ⟨g4, u1, x3.tr u2, ?_, pl, lk, h1.1, h1.2.1, fun x hx => ?_, fun x y hx hy => ?_⟩
  · rw [u3, gI_sIs, pk_un (by decide), d2.I (by decide), e2.I (by decide), gI_sIs]
    exact pk_us
  · have := h1.2.2.1 x hx
    unfold scp at this
    rw [if_pos (by omega)] at this
    exact this
  · have := h1.2.2.2 x y hx hy
    unfold scp at this
    rw [if_pos (by omega)] at this
    exact this
end GMC
