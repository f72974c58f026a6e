/-! FORCING, THE REFERENCE. -/
section GMR
def opL (N : Nat → Nat → Option Nat) (s t : Nat) : Nat → List Nat
  | 0 => []
  | k + 1 => opL N s t k ++ (match N s (4 * t + k) with | none => [] | some y => [2 * y + 1 - t])
def slC (N : Nat → Nat → Option Nat) (x : Nat) : List Nat := if opL N (x / 2) (x % 2) 4 = [] then [2 * (x / 2) + 1 - x % 2] else opL N (x / 2) (x % 2) 4
theorem slC_ne (N : Nat → Nat → Option Nat) (x : Nat) : slC N x ≠ [] := by
  unfold slC
  split
  · simp
  · assumption
theorem opL_mem {N : Nat → Nat → Option Nat} {s t z : Nat} : ∀ {k : Nat}, z ∈ opL N s t k ↔ ∃ d y, d < k ∧ N s (4 * t + d) = some y ∧ z = 2 * y + 1 - t
  | 0 => ⟨fun h => (by cases h), fun ⟨d, y, h, _⟩ => (by omega)⟩
  | k + 1 => by
    have ih := opL_mem (N := N) (s := s) (t := t) (z := z) (k := k)
    show z ∈ opL N s t k ++ (match N s (4 * t + k) with | none => [] | some y => [2 * y + 1 - t]) ↔ _
    rw [List.mem_append, ih]
    constructor
    · rintro (⟨d, y, h1, h2, h3⟩ | h)
      · exact ⟨d, y, by omega, h2, h3⟩
      · cases hN : N s (4 * t + k) with
        | none =>
          rw [hN] at h
          cases h
        | some y =>
          rw [hN] at h
          exact ⟨k, y, by omega, hN, List.mem_singleton.mp h⟩
    · rintro ⟨d, y, h1, h2, h3⟩
      rcases Nat.eq_or_lt_of_le (Nat.le_of_lt_succ h1) with e | e
      · right
        rw [e] at h2
        rw [h2]
        exact List.mem_singleton.mpr h3
      · exact Or.inl ⟨d, y, e, h2, h3⟩
variable {A : Nat → Int32} {g g' : G} {p c : Nat} {v : Nat → Nat}
def SG (g : G) (v : Nat → Nat) : Prop := ∀ s, s < 1296 → gI g 147 s = nI (v (2 * s)) ∧ gI g 151 s = nI (v (2 * s + 1))
def nfa (z : Nat) : Nat := if z = 1073741824 then 1073741824 else z + 1
theorem opL_0 {N : Nat → Nat → Option Nat} {s t k : Nat} (h : N s (4 * t + k) = none) : opL N s t (k + 1) = opL N s t k := by
  show opL N s t k ++ (match N s (4 * t + k) with | none => [] | some y => [2 * y + 1 - t]) = _
  rw [h]
  exact List.append_nil _
theorem opL_1 {N : Nat → Nat → Option Nat} {s t k y : Nat} (h : N s (4 * t + k) = some y) : opL N s t (k + 1) = opL N s t k ++ [2 * y + 1 - t] := by
  show opL N s t k ++ (match N s (4 * t + k) with | none => [] | some y => [2 * y + 1 - t]) = _
  rw [h]
theorem r_forcedBy (hs : Sh g) (ht : TH A p 1296 g) (hv : SG g v) (hA : Dm A) {s l : Nat} (hP : stB A (fre A p) p s = true) (hl : l < 8) : f_X12_forcedBy 136 (nI s) (nI l) g = some (match (nxS A (fre A p) p (md A p)) s l with | none => -1 | some y => nI (v (2 * y + 1)), g) := by
  have s1 := stB_lt hA hP
  obtain ⟨⟨q1, q2, -⟩, -⟩ := stB_iff.mp hP
  have t1 := ((ht s s1).2 hP l hl).1
  rw [f_X12_forcedBy, md136_24 hs, gk145 hs, sn145 hs, lum8, nI_add, gdI_nI (by omega) (by decide), li, nI_clamp (by omega), t1]
  cases hN : (nxS A (fre A p) p (md A p)) s l with
  | none => rw [ioN]
  | some y =>
    have y1 := stB_lt hA (nx_ok hA q1 q2 hN)
    rw [ioS (by omega), md136_30 hs, gk151 hs, sn151 hs, show oI (some y) = nI y from rfl, gdI_nI (by omega) (by decide), nI_clamp (by omega), (hv y y1).2]
theorem r_f62 {z : Nat} (hz : z ≤ 1073741824) : f_X12_forcedOne_62 (nI z) g = some (nI (nfa z), g) ∧ f_X12_forcedOther_69 (nI z) g = some (nI (nfa z), g) := by
  rw [f_X12_forcedOne_62, f_X12_forcedOther_69, lFA, lad1]
  unfold nfa
  by_cases e : z = 1073741824
  · rw [if_pos e, if_pos (by rw [e])]
    exact ⟨rfl, rfl⟩
  · rw [if_neg e, if_neg (fun u => e ((nI_eq (by omega) (by decide)).mp u))]
    exact ⟨rfl, rfl⟩
theorem r_fOne4 (hs : Sh g) (ht : TH A p 1296 g) (hv : SG g v) (hle : ∀ x, v x ≤ 1073741824) (hA : Dm A) {s : Nat} (hP : stB A (fre A p) p s = true) : ∀ n k, k ≤ 4 → 4 < n + k → f_X12_forcedOne_4 n 136 (nI s) (if opL (nxS A (fre A p) p (md A p)) s 0 k = [] then -1 else nI (lmin v (opL (nxS A (fre A p) p (md A p)) s 0 k))) (nI k) g = some (nI (nfa (lmin v (slC (nxS A (fre A p) p (md A p)) (2 * s)))), g) := by
  have s1 := stB_lt hA hP
  have lf : ∀ L, lmin v L < 2 ^ 31 := fun L => by
    have := lmin_far (v := v) L
    omega
  intro n
  induction n with
  | zero => intro k _ h; omega
  | succ n ih =>
    intro k hk hn
    rw [f_X12_forcedOne_4]
    rcases Nat.lt_or_ge k 4 with z | z
    · have i := ih (k + 1) (by omega) (by omega)
      have b1 := r_forcedBy hs ht hv hA hP (l := k) (by omega)
      have k0 : 4 * 0 + k = k := by omega
      rw [if_neg (lnge4 z), b1, bd_eq]
      cases hN : (nxS A (fre A p) p (md A p)) s k with
      | none =>
        rw [opL_0 (t := 0) (by rw [k0]; exact hN)] at i
        dsimp only
        rw [if_pos rfl, f_X12_forcedOne_41, lad1]
        exact i
      | some y =>
        rw [opL_1 (t := 0) (by rw [k0]; exact hN)] at i
        rw [hN] at b1
        dsimp only at b1 ⊢
        have vy := hle (2 * y + 1)
        rw [if_neg (by simp), show 2 * y + 1 - 0 = 2 * y + 1 from rfl, lmin_ap] at i
        rw [if_neg (nI_ne1 (by omega))]
        by_cases e : opL (nxS A (fre A p) p (md A p)) s 0 k = []
        · rw [e] at i ⊢
          rw [if_pos rfl, if_pos rfl, f_X12_forcedOne_34, b1, bd_eq, f_X12_forcedOne_41, lad1]
          have : (if v (2 * y + 1) < lmin v [] then v (2 * y + 1) else lmin v []) = v (2 * y + 1) := by
            unfold lmin
            split <;> omega
          rw [this] at i
          exact i
        · rw [if_neg e, if_neg (nI_ne1 (lf _)), b1, bd_eq]
          by_cases w : v (2 * y + 1) < lmin v (opL (nxS A (fre A p) p (md A p)) s 0 k)
          · rw [if_neg (nI_ge w (lf _)), f_X12_forcedOne_34, b1, bd_eq, f_X12_forcedOne_41, lad1]
            rw [if_pos w] at i
            exact i
          · rw [if_pos (nI_le (Nat.le_of_not_lt w) (by omega)), f_X12_forcedOne_41, lad1]
            rw [if_neg w] at i
            exact i
    · have e4 : k = 4 := by omega
      subst e4
      rw [if_pos (lle4 (by decide) (by decide))]
      unfold slC
      rw [show 2 * s / 2 = s by omega, show 2 * s % 2 = 0 by omega]
      by_cases e : opL (nxS A (fre A p) p (md A p)) s 0 4 = []
      · rw [if_pos e, if_pos rfl, if_pos e, md136_30 hs, gk151 hs, sn151 hs, gdI_nI (by omega) (by decide), nI_clamp (by omega), (hv s s1).2, (r_f62 (hle _)).1]
        have : lmin v [2 * s + 1 - 0] = v (2 * s + 1) := by
          have := hle (2 * s + 1)
          unfold lmin lmin
          rw [show 2 * s + 1 - 0 = 2 * s + 1 from rfl]
          split <;> omega
        rw [this]
      · rw [if_neg e, if_neg (nI_ne1 (lf _)), if_neg e, (r_f62 (lmin_far _)).1]
theorem r_forcedOne (hs : Sh g) (ht : TH A p 1296 g) (hv : SG g v) (hle : ∀ x, v x ≤ 1073741824) (hA : Dm A) {s : Nat} (hP : stB A (fre A p) p s = true) : f_X12_forcedOne 136 (nI s) g = some (nI (nfa (lmin v (slC (nxS A (fre A p) p (md A p)) (2 * s)))), g) := r_fOne4 hs ht hv hle hA hP FU 0 (by decide) (by have := @FU_gt 4 (by decide); omega)
theorem lmax_le (hle : ∀ x, v x ≤ 1073741824) : ∀ L, lmax v L ≤ 1073741824
  | [] => Nat.zero_le _
  | y :: L => by
    have := lmax_le hle L
    have := hle y
    unfold lmax
    split <;> omega
theorem r_fOth4 (hs : Sh g) (ht : TH A p 1296 g) (hv : SG g v) (hle : ∀ x, v x ≤ 1073741824) (hA : Dm A) {s : Nat} (hP : stB A (fre A p) p s = true) : ∀ n k, k ≤ 4 → 4 < n + k → f_X12_forcedOther_4 n 136 (nI s) (if opL (nxS A (fre A p) p (md A p)) s 1 k = [] then -1 else nI (lmax v (opL (nxS A (fre A p) p (md A p)) s 1 k))) (nI (4 + k)) g = some (nI (nfa (lmax v (slC (nxS A (fre A p) p (md A p)) (2 * s + 1)))), g) := by
  have s1 := stB_lt hA hP
  obtain ⟨⟨q1, q2, -⟩, -⟩ := stB_iff.mp hP
  have lf : ∀ L, lmax v L < 2 ^ 31 := fun L => by
    have := lmax_le hle L
    omega
  intro n
  induction n with
  | zero => intro k _ h; omega
  | succ n ih =>
    intro k hk hn
    rw [f_X12_forcedOther_4]
    rcases Nat.lt_or_ge k 4 with z | z
    · have i := ih (k + 1) (by omega) (by omega)
      have t1 := ((ht s s1).2 hP (4 + k) (by omega)).1
      have k0 : 4 * 1 + k = 4 + k := by omega
      rw [if_neg (lnge8 (show 4 + k < 8 by omega)), md136_24 hs, gk145 hs, sn145 hs, lum8, nI_add, gdI_nI (by omega) (by decide), li, nI_clamp (by omega), t1]
      cases hN : (nxS A (fre A p) p (md A p)) s (4 + k) with
      | none =>
        rw [opL_0 (t := 1) (by rw [k0]; exact hN)] at i
        rw [ioN, f_X12_forcedOther_48, lad1]
        exact i
      | some y =>
        have y1 := stB_lt hA (nx_ok hA q1 q2 hN)
        have vy := hle (2 * y)
        rw [opL_1 (t := 1) (by rw [k0]; exact hN), if_neg (by simp), show 2 * y + 1 - 1 = 2 * y from rfl, lmax_ap] at i
        rw [ioS (by omega), md136_26 hs, gk147 hs, sn147 hs, show oI (some y) = nI y from rfl, gdI_nI (by omega) (by decide), nI_clamp (by omega), (hv y y1).1]
        by_cases e : opL (nxS A (fre A p) p (md A p)) s 1 k = []
        · rw [e] at i ⊢
          rw [if_pos rfl, if_neg (fun u => by
            rw [Int32.le_iff_toInt_le, nI_toInt (by omega)] at u
            have : (-1 : Int32).toInt = -1 := rfl
            omega), li, f_X12_forcedOther_48, lad1]
          have : (if lmax v [] < v (2 * y) then v (2 * y) else lmax v []) = v (2 * y) := by
            unfold lmax
            split <;> omega
          rw [this] at i
          exact i
        · rw [if_neg e]
          by_cases w : lmax v (opL (nxS A (fre A p) p (md A p)) s 1 k) < v (2 * y)
          · rw [if_neg (nI_ge w (by omega)), li, f_X12_forcedOther_48, lad1]
            rw [if_pos w] at i
            exact i
          · rw [if_pos (nI_le (Nat.le_of_not_lt w) (lf _)), f_X12_forcedOther_48, lad1]
            rw [if_neg w] at i
            exact i
    · have e4 : k = 4 := by omega
      subst e4
      rw [if_pos (lle8 (by decide) (by decide))]
      unfold slC
      rw [show (2 * s + 1) / 2 = s by omega, show (2 * s + 1) % 2 = 1 by omega]
      by_cases e : opL (nxS A (fre A p) p (md A p)) s 1 4 = []
      · rw [if_pos e, if_pos rfl, if_pos e, md136_26 hs, gk147 hs, sn147 hs, gdI_nI (by omega) (by decide), nI_clamp (by omega), (hv s s1).1, (r_f62 (hle _)).2]
        have : lmax v [2 * s + 1 - 1] = v (2 * s) := by
          unfold lmax lmax
          rw [show 2 * s + 1 - 1 = 2 * s from rfl]
          split <;> omega
        rw [this]
      · rw [if_neg e, if_neg (nI_ne1 (lf _)), if_neg e, (r_f62 (lmax_le hle _)).2]
theorem r_forcedOther (hs : Sh g) (ht : TH A p 1296 g) (hv : SG g v) (hle : ∀ x, v x ≤ 1073741824) (hA : Dm A) {s : Nat} (hP : stB A (fre A p) p s = true) : f_X12_forcedOther 136 (nI s) g = some (nI (nfa (lmax v (slC (nxS A (fre A p) p (md A p)) (2 * s + 1)))), g) := r_fOth4 hs ht hv hle hA hP FU 0 (by decide) (by have := @FU_gt 4 (by decide); omega)
/-- the nodes of which something is told: stands, twin 0 not yet in the cell -/
def gP (A : Nat → Int32) (p c x : Nat) : Bool := stB A (fre A p) p (x / 2) && decide (x / 2 / 36 ≠ c)
theorem gT_nf {P : Nat → Bool} {sl : Nat → List Nat} {x : Nat} (hP : P x = true) (hv : v x ≤ 1073741824) : gT P sl v x = if v x ≤ nfa (gOp sl v x) then v x else nfa (gOp sl v x) := by
  unfold gT nfa
  rw [if_pos hP]
  by_cases e : gOp sl v x = 1073741824
  · rw [if_pos e, if_neg (by omega), if_pos hv]
  · rw [if_neg e]
    by_cases w : gOp sl v x + 1 < v x
    · rw [if_pos w, if_neg (by omega)]
    · rw [if_neg w, if_pos (by omega)]
theorem r_fo69 (hA : Dm A) (hc : c < 36) (hle : ∀ x, v x ≤ 1073741824) {k60 : Nat → Int32 → Int32 → Int32 → G → Option (Int32 × G)} : ∀ n k fl g, Sh g → TH A p 1296 g → SG g (sw_p (gT (gP A p c) (slC (nxS A (fre A p) p (md A p)))) (· / 2) k v) → FG fl (sw_p (gT (gP A p c) (slC (nxS A (fre A p) p (md A p)))) (· / 2) k v) v → k ≤ 1296 → 1296 < n + k → ∃ g' fl' V, f_X12_laysForced_69 k60 n 136 (nI p) (nI c) (nI fl) (nI k) g = k60 136 (nI p) (nI c) (nI fl') g' ∧ Fi [147, 151] g g' ∧ SG g' V ∧ FG fl' V v ∧ V = sw_p (gT (gP A p c) (slC (nxS A (fre A p) p (md A p)))) (· / 2) 1296 v := by
  intro n
  induction n with
  | zero => intro k fl g _ _ _ _ _ h; omega
  | succ n ih =>
    intro k fl g hs ht hv hf hk hn
    rw [f_X12_laysForced_69]
    rcases Nat.lt_or_ge k 1296 with z | z
    · obtain ⟨u, hu⟩ : ∃ u, u = sw_p (gT (gP A p c) (slC (nxS A (fre A p) p (md A p)))) (· / 2) k v := ⟨_, rfl⟩
      have ule : ∀ x, u x ≤ 1073741824 := fun x => by
        rw [hu]
        exact Nat.le_trans (sw_dec gT_dc k v x) (hle x)
      have es : ∀ j, sw_p (gT (gP A p c) (slC (nxS A (fre A p) p (md A p)))) (· / 2) (k + 1) v j = if j / 2 = k then (gT (gP A p c) (slC (nxS A (fre A p) p (md A p)))) u j else u j := fun j => by
        rw [hu]
        rfl
      rw [← hu] at hv hf
      have skip : gP A p c (2 * k) = false → ∃ g' fl' V, f_X12_laysForced_210 k60 (f_X12_laysForced_69 k60 n) 136 (nI p) (nI c) (nI fl) (nI k) g = k60 136 (nI p) (nI c) (nI fl') g' ∧ Fi [147, 151] g g' ∧ SG g' V ∧ FG fl' V v ∧ V = sw_p (gT (gP A p c) (slC (nxS A (fre A p) p (md A p)))) (· / 2) 1296 v := fun h0 => by
        have e1 : sw_p (gT (gP A p c) (slC (nxS A (fre A p) p (md A p)))) (· / 2) (k + 1) v = u := by
          funext j
          rw [es j]
          split
          · next e =>
            unfold gT
            have : gP A p c j = gP A p c (2 * k) := by
              unfold gP
              rw [e, show 2 * k / 2 = k by omega]
            rw [this, h0, if_neg (by decide)]
          · rfl
        rw [f_X12_laysForced_210, lad1]
        exact ih (k + 1) fl g hs ht (by rw [e1]; exact hv) (by rw [e1]; exact hf) (by omega) (by omega)
      rw [if_neg (lnge1296 z), md136_23 hs, gk144 hs, sn144 hs, gdI_nI z (by decide), nI_clamp (by omega), (ht k z).1]
      cases hP : stB A (fre A p) p k with
      | false =>
        rw [ibF]
        refine skip ?_
        unfold gP
        rw [show 2 * k / 2 = k by omega, hP]
        rfl
      | true =>
        rw [ibT, show (0 : Int32) = nI 0 from rfl, r_inStand z (by decide), bd_eq, show ow 0 (k / 36) (k % 36) = k / 36 from rfl]
        by_cases w : k / 36 = c
        · rw [if_pos (by rw [w])]
          refine skip ?_
          unfold gP
          rw [show 2 * k / 2 = k by omega, decide_eq_false (fun q => q w), Bool.and_false]
        · rw [if_neg (fun q => w ((nI_eq (by omega) (by omega)).mp q))]
          have P0 : gP A p c (2 * k) = true := by
            unfold gP
            rw [show 2 * k / 2 = k by omega, hP, decide_eq_true w]
            rfl
          have P1 : gP A p c (2 * k + 1) = true := by
            unfold gP
            rw [show (2 * k + 1) / 2 = k by omega, hP, decide_eq_true w]
            rfl
          obtain ⟨a, ha⟩ : ∃ a, a = nfa (lmin u (slC (nxS A (fre A p) p (md A p)) (2 * k))) := ⟨_, rfl⟩
          obtain ⟨b, hb⟩ : ∃ b, b = nfa (lmax u (slC (nxS A (fre A p) p (md A p)) (2 * k + 1))) := ⟨_, rfl⟩
          have nfl : ∀ z, z ≤ 1073741824 → nfa z ≤ 1073741824 := fun z hz => by
            unfold nfa
            split <;> omega
          have al : a ≤ 1073741824 := by rw [ha]; exact nfl _ (lmin_far _)
          have bl : b ≤ 1073741824 := by rw [hb]; exact nfl _ (lmax_le ule _)
          have T0 : (gT (gP A p c) (slC (nxS A (fre A p) p (md A p)))) u (2 * k) = if u (2 * k) ≤ a then u (2 * k) else a := by
            rw [gT_nf P0 (ule _), ha]
            unfold gOp
            rw [if_pos (show 2 * k % 2 = 0 by omega)]
          have T1 : (gT (gP A p c) (slC (nxS A (fre A p) p (md A p)))) u (2 * k + 1) = if u (2 * k + 1) ≤ b then u (2 * k + 1) else b := by
            rw [gT_nf P1 (ule _), hb]
            unfold gOp
            rw [if_neg (show ¬ (2 * k + 1) % 2 = 0 by omega)]
          obtain ⟨a', ha'⟩ : ∃ a', a' = (if u (2 * k) ≤ a then u (2 * k) else a) := ⟨_, rfl⟩
          obtain ⟨b', hb'⟩ : ∃ b', b' = (if u (2 * k + 1) ≤ b then u (2 * k + 1) else b) := ⟨_, rfl⟩
          have u0 := ule (2 * k)
          have u1 := ule (2 * k + 1)
          have e1 : sw_p (gT (gP A p c) (slC (nxS A (fre A p) p (md A p)))) (· / 2) (k + 1) v = ins (ins u (2 * k) a') (2 * k + 1) b' := by
            funext j
            rw [es j]
            by_cases j1 : j = 2 * k + 1
            · rw [j1, ins_s, if_pos (by omega), T1, hb']
            · rw [ins_n j1]
              by_cases j0 : j = 2 * k
              · rw [j0, ins_s, if_pos (by omega), T0, ha']
              · rw [ins_n j0, if_neg (by omega)]
          obtain ⟨g2, hg2⟩ : ∃ g2, g2 = sI (sI g 147 k (nI a')) 151 k (nI b') := ⟨_, rfl⟩
          have x2 : Fi [147, 151] g g2 := by
            rw [hg2]
            exact (Fi.rf.si (by decide)).si (by decide)
          have hv2 : SG g2 (ins (ins u (2 * k) a') (2 * k + 1) b') := fun s hs1 => by
            rw [hg2, gI_sIs, gI_sIn (show 147 ≠ 151 by decide), gI_sIs, gI_sIn (show 151 ≠ 147 by decide)]
            by_cases e : s = k
            · rw [e, pk_us, pk_us, ins_n (by omega), ins_s, ins_s]
              exact ⟨rfl, rfl⟩
            · rw [pk_un e, pk_un e, ins_n (by omega), ins_n (by omega), ins_n (by omega), ins_n (by omega)]
              exact hv s hs1
          have hs2 := Sh.fi x2 hs
          have go : ∀ fl', FG fl' (ins (ins u (2 * k) a') (2 * k + 1) b') v → ∃ g' fl'' V, f_X12_laysForced_69 k60 n 136 (nI p) (nI c) (nI fl') (nI (k + 1)) g2 = k60 136 (nI p) (nI c) (nI fl'') g' ∧ Fi [147, 151] g g' ∧ SG g' V ∧ FG fl'' V v ∧ V = sw_p (gT (gP A p c) (slC (nxS A (fre A p) p (md A p)))) (· / 2) 1296 v := fun fl' hf' => by
            obtain ⟨g3, fl3, V, r1, r2, r3⟩ := ih (k + 1) fl' g2 hs2 (ht.fi x2 (by decide) (by decide) (by decide)) (by rw [e1]; exact hv2) (by rw [e1]; exact hf') (by omega) (by omega)
            exact ⟨g3, fl3, V, r1, x2.tr r2, r3⟩
          have c178 : ∀ y : Nat, f_X12_laysForced_178 k60 (f_X12_laysForced_69 k60 n) 136 (nI p) (nI c) (nI y) (nI k) (nI b) (nI a') (nI k) 147 g = f_X12_laysForced_69 k60 n 136 (nI p) (nI c) (nI y) (nI (k + 1)) g2 := fun y => by
            rw [f_X12_laysForced_178, sn147 hs, gdI_nI (by omega) (by decide), nI_clamp (by omega), lg, gR_sI, md136_30 hs, gdK_sI, gk151 hs, gN_sI, sn151 hs, gdI_nI z (by decide), gI_sIn (show 151 ≠ 147 by decide), (hv k z).2]
            have c9 : ∀ x, x = b' → f_X12_laysForced_209 k60 (f_X12_laysForced_69 k60 n) 136 (nI p) (nI c) (nI y) (nI k) (nI x) (nI k) 151 (sI g 147 k (nI a')) = f_X12_laysForced_69 k60 n 136 (nI p) (nI c) (nI y) (nI (k + 1)) g2 := fun x hx => by
              rw [f_X12_laysForced_209, gN_sI, sn151 hs, gdI_nI z (by decide), nI_clamp (by omega), lg, hx, ← hg2, f_X12_laysForced_210, lad1]
            by_cases q : u (2 * k + 1) ≤ b
            · rw [if_pos (nI_le q (by omega))]
              exact c9 _ (by rw [hb', if_pos q])
            · rw [if_neg (nI_ge (Nat.lt_of_not_le q) (by omega))]
              exact c9 _ (by rw [hb', if_neg q])
          have c146 : ∀ fb, fb < 2 → f_X12_laysForced_146 k60 (f_X12_laysForced_69 k60 n) 136 (nI p) (nI c) (nI k) (nI a) (nI b) (nI fb) (nI fl) g = f_X12_laysForced_69 k60 n 136 (nI p) (nI c) (nI (if fl = 0 then fb else 1)) (nI (k + 1)) g2 := fun fb hfb => by
            rw [f_X12_laysForced_146, li, nI_or01 hf.1 hfb, md136_26 hs, gk147 hs, sn147 hs, gdI_nI (by omega) (by decide), nI_clamp (by omega), (hv k z).1]
            by_cases q : u (2 * k) ≤ a
            · rw [if_pos (nI_le q (by omega)), show u (2 * k) = a' by rw [ha', if_pos q]]
              exact c178 _
            · rw [if_neg (nI_ge (Nat.lt_of_not_le q) (by omega))]
              have : a = a' := by rw [ha', if_neg q]
              rw [show nI a = nI a' by rw [← this]]
              exact c178 _
          have a'l : a' ≤ u (2 * k) := by
            rw [ha']
            split <;> omega
          have b'l : b' ≤ u (2 * k + 1) := by
            rw [hb']
            split <;> omega
          have less : a' < u (2 * k) ∨ b' < u (2 * k + 1) → FG 1 (ins (ins u (2 * k) a') (2 * k + 1) b') v := fun q => by
            have h0 := hf.2.2.2 (2 * k)
            have h1 := hf.2.2.2 (2 * k + 1)
            refine ⟨by decide, fun y => (by cases y), fun _ => ?_, fun j => ?_⟩
            · rcases q with q | q
              · exact ⟨2 * k, by rw [ins_n (by omega), ins_s]; omega⟩
              · exact ⟨2 * k + 1, by rw [ins_s]; omega⟩
            · by_cases j1 : j = 2 * k + 1
              · rw [j1, ins_s]
                omega
              · rw [ins_n j1]
                by_cases j0 : j = 2 * k
                · rw [j0, ins_s]
                  omega
                · rw [ins_n j0]
                  exact hf.2.2.2 j
          have c141 : f_X12_laysForced_141 k60 (f_X12_laysForced_69 k60 n) 136 (nI p) (nI c) (nI k) (nI a) (nI b) (nI fl) g = f_X12_laysForced_69 k60 n 136 (nI p) (nI c) (nI 1) (nI (k + 1)) g2 := by
            rw [f_X12_laysForced_141, show (1 : Int32) = nI 1 from rfl, c146 1 (by decide)]
            by_cases q : fl = 0
            · rw [if_pos q]
            · rw [if_neg q]
          rw [r_forcedOne hs ht hv ule hA hP, bd_eq, r_forcedOther hs ht hv ule hA hP, bd_eq, ← ha, ← hb, md136_26 hs, gk147 hs, sn147 hs, gdI_nI (by omega) (by decide), (hv k z).1]
          by_cases q : a < u (2 * k)
          · rw [if_pos (nI_lt q (by omega)), c141]
            exact go 1 (less (Or.inl (by rw [ha', if_neg (by omega)]; exact q)))
          · rw [if_neg (nI_nlt (by omega) (by omega)), md136_30 hs, gk151 hs, sn151 hs, gdI_nI z (by decide), (hv k z).2]
            by_cases q2 : u (2 * k + 1) ≤ b
            · rw [if_pos (nI_le q2 (by omega)), c146 0 (by decide)]
              have same : ins (ins u (2 * k) a') (2 * k + 1) b' = u := by
                rw [show a' = u (2 * k) by rw [ha', if_pos (by omega)], show b' = u (2 * k + 1) by rw [hb', if_pos q2], ins_id, ins_id]
              have fe : (if fl = 0 then 0 else 1) = fl := by
                have := hf.1
                split <;> omega
              rw [fe]
              exact go fl (by rw [same]; exact hf)
            · rw [if_neg (nI_ge (Nat.lt_of_not_le q2) (by omega)), c141]
              exact go 1 (less (Or.inr (by rw [hb', if_neg q2]; omega)))
    · have : k = 1296 := by omega
      rw [if_pos (lle1296 z (by omega))]
      exact ⟨g, fl, _, rfl, Fi.rf, hv, hf, by rw [this]⟩
def M6 : Nat := 2592
/-- at first -/
def v0G (A : Nat → Int32) (p c x : Nat) : Nat := if stB A (fre A p) p (x / 2) = true ∧ x / 2 / 36 = c then 0 else 1073741824
theorem v0G_le (x : Nat) : v0G A p c x ≤ 1073741824 := by
  unfold v0G
  split <;> omega
def LG (A : Nat → Int32) (p c : Nat) : Nat → Nat := gL' (gP A p c) (slC (nxS A (fre A p) p (md A p))) (· / 2) 1296 M6 (v0G A p c)
theorem LG_le (x : Nat) : LG A p c x ≤ 1073741824 := Nat.le_trans (gL_le _ x) (v0G_le x)
theorem gP_lt (hA : Dm A) {x : Nat} (h : gP A p c x = true) : x / 2 < 1296 := by
  unfold gP at h
  rw [Bool.and_eq_true] at h
  exact stB_lt hA h.1
theorem r_fo60 (hp : p < nv A 3) (hc : c < 36) {M : Nat} (hM6 : M = M6) : ∀ n k g, RS A g → TH A p 1296 g → SG g (itN (sw_p (gT (gP A p c) (slC (nxS A (fre A p) p (md A p)))) (· / 2) 1296) k (v0G A p c)) → 2600 < n + k → k ≤ M → ∃ g', f_X12_laysForced_60 n 136 (nI p) (nI c) 1 g = some (nI (LG A p c (2 * (36 * tw A (2 * p) + tw A (2 * p + 1)))), g') ∧ Fi [147, 151] g g' ∧ SG g' (LG A p c) := by
  have m6 : M = 2592 := hM6
  intro n
  induction n with
  | zero => intro k g _ _ _ h1 h2; omega
  | succ n ih =>
    intro k g h ht hv hn hk
    have hA := h.2.2.1
    have hL : LG A p c = itN (sw_j (gT (gP A p c) (slC (nxS A (fre A p) p (md A p)))) (· / 2) 1296) M (v0G A p c) := by
      rw [hM6]
      rfl
    have hM : ∀ j, (· / 2) j < 1296 → (gT (gP A p c) (slC (nxS A (fre A p) p (md A p)))) (itN (sw_j (gT (gP A p c) (slC (nxS A (fre A p) p (md A p)))) (· / 2) 1296) M (v0G A p c)) j = itN (sw_j (gT (gP A p c) (slC (nxS A (fre A p) p (md A p)))) (· / 2) 1296) M (v0G A p c) j := fun j hj => gL_fix (P := gP A p c) (sl := slC (nxS A (fre A p) p (md A p))) (B := (· / 2)) (n := 1296) (N := 2592) (M := M) (slC_ne _) (fun x hx => by omega) (fun x hx => gP_lt hA hx) (by omega) v0G_le hj
    have le : ∀ k j, itN (sw_p (gT (gP A p c) (slC (nxS A (fre A p) p (md A p)))) (· / 2) 1296) k (v0G A p c) j ≤ 1073741824 := fun k j => by
      induction k generalizing j with
      | zero => exact v0G_le j
      | succ k ihk => exact Nat.le_trans (sw_dec gT_dc 1296 _ j) (ihk j)
    obtain ⟨g1, fl, V, r1, r2, r3, r4, r5⟩ := r_fo69 (p := p) hA hc (le k) (k60 := f_X12_laysForced_60 n) FU 0 0 g h.1 ht hv ⟨by decide, fun _ j => rfl, fun q => (by cases q), fun j => Nat.le_refl _⟩ (by decide) (by have := @FU_gt 1296 (by decide); omega)
    have h1 := h.fi r2 (by decide)
    have ht1 := ht.fi r2 (by decide) (by decide) (by decide)
    rw [f_X12_laysForced_60, if_neg (by decide), show (0 : Int32) = nI 0 from rfl, r1]
    have fl2 := r4.1
    obtain rfl | rfl : fl = 0 ∨ fl = 1 := by omega
    · have e0 := r4.2.1 rfl
      rw [r5] at e0
      have hend := sw_end gT_mo gT_dc hM e0
      have hv2 : SG g1 (LG A p c) := fun j hj => by
        have := r3 j hj
        rw [r5, e0, e0, hend, ← hL] at this
        exact this
      obtain ⟨n', rfl⟩ : ∃ n', n = n' + 1 := ⟨n - 1, by omega⟩
      obtain ⟨-, -, y1⟩ := now_lt h hp
      rw [f_X12_laysForced_60, if_pos (show nI 0 = 0 from rfl), md136_26 h1.1, r_standNow h1 hp, bd_eq, gk147 h1.1, sn147 h1.1, gdI_nI (by omega) (by decide), nI_clamp (by omega), (hv2 _ y1).1]
      exact ⟨g1, rfl, r2, hv2⟩
    · have kl : k < M := by
        rcases Nat.lt_or_ge k M with q | q
        · exact q
        · exfalso
          obtain ⟨j, hj⟩ := r4.2.2.1 rfl
          have := sw_stop gT_mo gT_dc hM q j
          rw [r5] at hj
          omega
      obtain ⟨g2, t1, t2, t3⟩ := ih (k + 1) g1 h1 ht1 (by rw [itN_s, ← r5]; exact r3) (by omega) (by omega)
      rw [show nI 1 = 1 from rfl, t1]
      exact ⟨g2, rfl, r2.tr t2, t3⟩
theorem r_fo2 (hp : p < nv A 3) (hc : c < 36) : ∀ n k g, RS A g → TH A p 1296 g → (∀ s, s < k → gI g 147 s = nI (v0G A p c (2 * s)) ∧ gI g 151 s = nI (v0G A p c (2 * s + 1))) → k ≤ 1296 → 1296 < n + k → ∃ g', f_X12_laysForced_2 n 136 (nI p) (nI c) (nI k) g = some (nI (LG A p c (2 * (36 * tw A (2 * p) + tw A (2 * p + 1)))), g') ∧ Fi [147, 151] g g' ∧ SG g' (LG A p c) := by
  intro n
  induction n with
  | zero => intro k g _ _ _ h1 h2; omega
  | succ n ih =>
    intro k g h ht hv hk hn
    have hs := h.1
    rw [f_X12_laysForced_2]
    rcases Nat.lt_or_ge k 1296 with z | z
    · have c39 : ∀ x : Nat, x = v0G A p c (2 * k) → ∃ g', f_X12_laysForced_39 (f_X12_laysForced_2 n) 136 (nI p) (nI c) (nI k) (nI x) (nI k) 147 g = some (nI (LG A p c (2 * (36 * tw A (2 * p) + tw A (2 * p + 1)))), g') ∧ Fi [147, 151] g g' ∧ SG g' (LG A p c) := fun x hx => by
        have x1 : Fi [147, 151] g (sI (sI g 147 k (nI x)) 151 k (nI x)) := (Fi.rf.si (by decide)).si (by decide)
        obtain ⟨g2, e1, e2, e3⟩ := ih (k + 1) _ (h.fi x1 (by decide)) (ht.fi x1 (by decide) (by decide) (by decide)) (fun j hj => by
          rw [gI_sIs, gI_sIn (show 147 ≠ 151 by decide), gI_sIs, gI_sIn (show 151 ≠ 147 by decide)]
          rcases Nat.eq_or_lt_of_le (Nat.le_of_lt_succ hj) with w | w
          · rw [w, pk_us, pk_us, hx]
            refine ⟨rfl, ?_⟩
            unfold v0G
            rw [show (2 * k + 1) / 2 = 2 * k / 2 by omega]
          · rw [pk_un (by omega), pk_un (by omega)]
            exact hv j w) (by omega) (by omega)
        rw [f_X12_laysForced_39, sn147 hs, gdI_nI (by omega) (by decide), nI_clamp (by omega), lg, gR_sI, md136_30 hs, md136_26 hs, gdK_sI, gk147 hs, gN_sI, sn147 hs, gdI_nI (by omega) (by decide), gdK_sI, gk151 hs, sn151 hs, gdI_nI z (by decide), lg, gI_sIs, pk_us, lad1]
        exact ⟨g2, e1, x1.tr e2, e3⟩
      have k2 : 2 * k / 2 = k := by omega
      rw [if_neg (lnge1296 z), md136_26 hs, md136_23 hs, gk144 hs, sn144 hs, gdI_nI z (by decide), nI_clamp (by omega), (ht k z).1]
      cases hP : stB A (fre A p) p k with
      | false =>
        rw [ibF, gk147 hs, f_X12_laysForced_36, lFA]
        exact c39 _ (by unfold v0G; rw [k2, hP, if_neg (fun q => by cases q.1)])
      | true =>
        rw [ibT, show (0 : Int32) = nI 0 from rfl, r_inStand z (by decide), bd_eq, show ow 0 (k / 36) (k % 36) = k / 36 from rfl]
        by_cases w : k / 36 = c
        · rw [if_pos (by rw [w]), gk147 hs]
          exact c39 0 (by unfold v0G; rw [k2, if_pos ⟨hP, w⟩])
        · rw [if_neg (fun q => w ((nI_eq (by omega) (by omega)).mp q)), gk147 hs, f_X12_laysForced_36, lFA]
          exact c39 _ (by unfold v0G; rw [k2, if_neg (fun q => w q.2)])
    · rw [if_pos (lle1296 z (by omega))]
      exact r_fo60 hp hc rfl FU 0 g h ht (fun j hj => hv j (by omega)) (by have := @FU_gt 2600 (by decide); omega) (Nat.zero_le _)
theorem r_laysForced (h : RS A g) (hp : p < nv A 3) (hc : c < 36) (ht : TH A p 1296 g) : ∃ g', f_X12_laysForced 136 (nI p) (nI c) g = some (nI (LG A p c (2 * (36 * tw A (2 * p) + tw A (2 * p + 1)))), g') ∧ Fi [147, 151] g g' ∧ SG g' (LG A p c) := r_fo2 hp hc FU 0 g h ht (fun s hs => by omega) (by decide) (by have := @FU_gt 1296 (by decide); omega)
end GMR
