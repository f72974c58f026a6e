/-! THE CLASS splits a text. -/
section SPL
variable {T : Nat → Nat} {n a e s : Nat} {g g' : G}
theorem sI_id {a k : Nat} {v : Int32} (h : gI g a k = v) : sI g a k v = g := by
  have e : va_up g.2.2.2.2.1 a (upd (gI g a) k v) = g.2.2.2.2.1 := by
    funext x y
    by_cases z : x = a
    · rw [z, va_up_self]
      by_cases w : y = k
      · rw [w, pk_us, ← h]
        rfl
      · rw [pk_un w]
        rfl
    · rw [va_up_ne _ _ z]
  show (g.1, g.2.1, g.2.2.1, g.2.2.2.1, va_up g.2.2.2.2.1 a (upd (gI g a) k v), g.2.2.2.2.2.1, g.2.2.2.2.2.2) = g
  rw [e]
theorem sI_sI {a k : Nat} {v w : Int32} : sI (sI g a k v) a k w = sI g a k w := by
  have e : va_up (va_up g.2.2.2.2.1 a (upd (gI g a) k v)) a (upd (gI (sI g a k v) a) k w) = va_up g.2.2.2.2.1 a (upd (gI g a) k w) := by
    funext x y
    by_cases z : x = a
    · rw [z, va_up_self, va_up_self, gI_sIs]
      by_cases u : y = k
      · rw [u, pk_us, pk_us]
      · rw [pk_un u, pk_un u, pk_un u]
    · rw [va_up_ne _ _ z, va_up_ne _ _ z, va_up_ne _ _ z]
  show (g.1, g.2.1, g.2.2.1, g.2.2.2.1, va_up (va_up g.2.2.2.2.1 a (upd (gI g a) k v)) a (upd (gI (sI g a k v) a) k w), g.2.2.2.2.2.1, g.2.2.2.2.2.2) = (g.1, g.2.1, g.2.2.1, g.2.2.2.1, va_up g.2.2.2.2.1 a (upd (gI g a) k w), g.2.2.2.2.2.1, g.2.2.2.2.2.2)
  rw [e]
theorem by_t {v : Nat} (h : v < 256) : (v < 128 → byI v = nI v) ∧ (128 ≤ v → byI v < 0) := by
  have t : (List.range 256).all (fun v => decide ((v < 128 → byI v = nI v) ∧ (128 ≤ v → byI v < 0))) = true := by decide +kernel
  exact of_decide_eq_true (List.all_eq_true.mp t v (List.mem_range.mpr h))
theorem by_eq {v c : Nat} (hv : v < 256) (hc : c < 128) : byI v = nI c ↔ v = c := by
  rcases Nat.lt_or_ge v 128 with z | z
  · rw [(by_t hv).1 z]
    exact nI_eq (by omega) (by omega)
  · have := (by_t hv).2 z
    refine ⟨fun u => ?_, fun u => by omega⟩
    rw [u] at this
    exact absurd this (nI_pos (by omega))
def TX (T : Nat → Nat) (n : Nat) (g : G) : Prop := n ≤ 900 ∧ gI g 57 5 = nI n ∧ gR g 57 4 = some 1 ∧ ∀ k, k < n → T k < 256 ∧ gI g 1 k = byI (T k)
theorem TX.sx (h : TX T n g) {k : Nat} {v : Int32} (hk : k ≠ 5) : TX T n (sI g 57 k v) := ⟨h.1, by rw [gI_sIs, pk_un hk.symm]; exact h.2.1, h.2.2.1, fun j hj => by rw [gI_sIn (by decide)]; exact h.2.2.2 j hj⟩
theorem TX.cg (h : TX T n g) (e1 : gI g' 57 5 = gI g 57 5) (e2 : gR g' 57 4 = gR g 57 4) (e3 : gI g' 1 = gI g 1) : TX T n g' := ⟨h.1, e1.trans h.2.1, e2.trans h.2.2.1, by rw [e3]; exact h.2.2.2⟩
theorem c_sign (hs : Sh g) (h : TX T n g) {j : Nat} (hj : j < n) : f_X8_signAt 57 (nI j) g = some (byI (T j), g) := by
  have := h.1
  rw [f_X8_signAt, if_neg (nI_pos (by omega)), h.2.1, if_neg (nI_ge hj (by omega)), h.2.2.1, dr_eq, gk1 hs, sn1 hs, if_neg (show ¬ nI 900 ≤ nI j from nI_ge (by omega) (by decide)), gdI_nI (by omega) (by decide), nI_clamp (by omega), (h.2.2.2 j hj).2]
theorem c_sign0 (h : TX T n g) {j : Nat} (hj : n ≤ j) (h2 : j < 2 ^ 31) : f_X8_signAt 57 (nI j) g = some (0, g) := by
  rw [f_X8_signAt, if_neg (nI_pos h2), h.2.1, if_pos (nI_le hj h2)]
theorem c_skip : ∀ k s fu g, Sh g → TX T n g → gI g 57 6 = nI s → s ≤ n → n ≤ s + k → k < fu → f_X8_skipBlanks_0 fu 57 g = some ((), sI g 57 6 (nI (rnT bkT T n k s))) := by
  intro k
  induction k with
  | zero =>
    intro s fu g hs h h6 h1 h2 hf
    have := h.1
    obtain ⟨m, rfl⟩ : ∃ m, fu = m + 1 := ⟨fu - 1, by omega⟩
    rw [f_X8_skipBlanks_0, h.2.1, h6, if_pos (nI_le (by omega) (by omega))]
    show _ = some ((), sI g 57 6 (nI s))
    rw [sI_id h6]
  | succ k ih =>
    intro s fu g hs h h6 h1 h2 hf
    have := h.1
    obtain ⟨m, rfl⟩ : ∃ m, fu = m + 1 := ⟨fu - 1, by omega⟩
    rcases Nat.lt_or_ge s n with z | z
    · have b1 := (h.2.2.2 s z).1
      have step : f_X8_skipBlanks_37 (f_X8_skipBlanks_0 m) 57 g = some ((), sI g 57 6 (nI (rnT bkT T n k (s + 1)))) := by
        rw [f_X8_skipBlanks_37, h6, lad1, lg, ih (s + 1) m (sI g 57 6 (nI (s + 1))) hs (h.sx (by decide)) (by rw [gI_sIs, pk_us]) (by omega) (by omega) (by omega), sI_sI]
      rw [f_X8_skipBlanks_0, h.2.1, h6, if_neg (nI_ge z (by omega)), c_sign hs h z, bd_eq]
      by_cases e1 : T s = 32
      · rw [if_pos (show byI (T s) = (32 : Int32) from (by_eq (c := 32) b1 (by decide)).mpr e1), step, rn_y z (by rw [e1]; rfl)]
      · rw [if_neg (show ¬ byI (T s) = (32 : Int32) from fun u => e1 ((by_eq (c := 32) b1 (by decide)).mp u)), h6, c_sign hs h z, bd_eq]
        by_cases e2 : T s = 10
        · rw [if_pos (show byI (T s) = (10 : Int32) from (by_eq (c := 10) b1 (by decide)).mpr e2), step, rn_y z (by rw [e2]; rfl)]
        · rw [if_neg (show ¬ byI (T s) = (10 : Int32) from fun u => e2 ((by_eq (c := 10) b1 (by decide)).mp u)), rn_n (fun u => by
            have := of_decide_eq_true u.2
            omega), sI_id h6]
    · rw [f_X8_skipBlanks_0, h.2.1, h6, if_pos (nI_le (by omega) (by omega)), rn_n (by omega), sI_id h6]
theorem c_letter {v : Nat} (hv : v < 256) (g : G) : f_X8_isLetter (byI v) g = some (slT v, g) := by
  unfold slT
  rcases Nat.lt_or_ge v 128 with z | z
  · rw [(by_t hv).1 z, f_X8_isLetter]
    by_cases e1 : v < 97
    · rw [if_pos (show nI v < (97 : Int32) from nI_lt (b := 97) e1 (by decide)), decide_eq_false (by omega)]
    · rw [if_neg (show ¬ nI v < (97 : Int32) from nI_nlt (b := 97) (by omega) (by omega))]
      by_cases e2 : v ≤ 122
      · rw [if_neg (show ¬ (122 : Int32) < nI v from nI_nlt (a := 122) e2 (by decide)), decide_eq_true (by omega)]
      · rw [if_pos (show (122 : Int32) < nI v from nI_lt (a := 122) (by omega) (by omega)), decide_eq_false (by omega)]
  · have := (by_t hv).2 z
    rw [f_X8_isLetter, if_pos (Int32.lt_trans this (by decide)), decide_eq_false (by omega)]
theorem c_digit {v : Nat} (hv : v < 256) (g : G) : f_X8_isDigit (byI v) g = some (dgT v, g) := by
  unfold dgT
  rcases Nat.lt_or_ge v 128 with z | z
  · rw [(by_t hv).1 z, f_X8_isDigit]
    by_cases e1 : v < 48
    · rw [if_pos (show nI v < (48 : Int32) from nI_lt (b := 48) e1 (by decide)), decide_eq_false (by omega)]
    · rw [if_neg (show ¬ nI v < (48 : Int32) from nI_nlt (b := 48) (by omega) (by omega))]
      by_cases e2 : v ≤ 57
      · rw [if_neg (show ¬ (57 : Int32) < nI v from nI_nlt (a := 57) e2 (by decide)), decide_eq_true (by omega)]
      · rw [if_pos (show (57 : Int32) < nI v from nI_lt (a := 57) (by omega) (by omega)), decide_eq_false (by omega)]
  · have := (by_t hv).2 z
    rw [f_X8_isDigit, if_pos (Int32.lt_trans this (by decide)), decide_eq_false (by omega)]
theorem c_sw5 (l1 : Int32) : ∀ k s fu g, Sh g → TX T n g → gI g 57 6 = nI s → s ≤ n → n ≤ s + k → k < fu → f_X8_splitWord_5 fu 57 l1 g = f_X8_splitWord_43 57 l1 (sI g 57 6 (nI (rnT slT T n k s))) := by
  intro k
  induction k with
  | zero =>
    intro s fu g hs h h6 h1 h2 hf
    have := h.1
    obtain ⟨m, rfl⟩ : ∃ m, fu = m + 1 := ⟨fu - 1, by omega⟩
    rw [f_X8_splitWord_5, h.2.1, h6, if_pos (nI_le (by omega) (by omega))]
    show _ = f_X8_splitWord_43 57 l1 (sI g 57 6 (nI s))
    rw [sI_id h6]
  | succ k ih =>
    intro s fu g hs h h6 h1 h2 hf
    have := h.1
    obtain ⟨m, rfl⟩ : ∃ m, fu = m + 1 := ⟨fu - 1, by omega⟩
    rcases Nat.lt_or_ge s n with z | z
    · have b1 := (h.2.2.2 s z).1
      rw [f_X8_splitWord_5, h.2.1, h6, if_neg (nI_ge z (by omega)), c_sign hs h z, bd_eq, c_letter b1, bd_eq]
      cases e1 : slT (T s) with
      | true => rw [ibT, h6, lad1, lg, ih (s + 1) m (sI g 57 6 (nI (s + 1))) hs (h.sx (by decide)) (by rw [gI_sIs, pk_us]) (by omega) (by omega) (by omega), sI_sI, rn_y z e1]
      | false => rw [ibF, rn_n (fun u => by rw [e1] at u; cases u.2), sI_id h6]
    · rw [f_X8_splitWord_5, h.2.1, h6, if_pos (nI_le (by omega) (by omega)), rn_n (by omega), sI_id h6]
/-- characters of the strings -/
def chT (l i : Nat) : Nat := ((bytJ.getD l []).getD i 0).toNatClampNeg
theorem ch_t {l i : Nat} (hl : l < 3) (hi : i < jlen l) : ((((jbyt l i) &&& (255 : Int32)).toUInt32 % 65536).toInt32) = nI (chT l i) ∧ chT l i < 128 ∧ jbyt l i = nI (chT l i) := by
  have t : (List.range 3).all (fun l => (List.range (jlen l)).all (fun i => decide (((((jbyt l i) &&& (255 : Int32)).toUInt32 % 65536).toInt32) = nI (chT l i) ∧ chT l i < 128 ∧ jbyt l i = nI (chT l i)))) = true := by decide +kernel
  have := List.all_eq_true.mp t l (List.mem_range.mpr hl)
  exact of_decide_eq_true (List.all_eq_true.mp this i (List.mem_range.mpr hi))
theorem h16 {v : Nat} (h : v < 128) : ((nI v).toUInt32 % 65536).toInt32 = nI v ∧ (nI v).toInt8.toInt32 = nI v := by
  have t : (List.range 128).all (fun v => decide (((nI v).toUInt32 % 65536).toInt32 = nI v ∧ (nI v).toInt8.toInt32 = nI v)) = true := by decide +kernel
  exact of_decide_eq_true (List.all_eq_true.mp t v (List.mem_range.mpr h))
theorem jl_lt {l : Nat} (hl : l < 3) : jlen l < 128 := by
  obtain rfl | rfl | rfl : l = 0 ∨ l = 1 ∨ l = 2 := by omega
  all_goals decide
theorem j_charAt {l i : Nat} (hl : l < 3) (hi : i < jlen l) (g : G) : f_J0_charAt_5068e l (nI i) g = some (nI (chT l i), g) := by
  obtain ⟨c1, c2, -⟩ := ch_t hl hi
  have l1 := jl_lt hl
  have la : f_J0_isLatin1_aae02 l g = some (true, g) := rfl
  rw [f_J0_charAt_5068e, la, bd_eq, ibT, f_J1_charAt_3b067, f_J0_checkIndex_df160, f_J3_checkIndex_8e157, if_neg (nI_pos (by omega)), if_pos (nI_lt hi (by omega)), bd_eq, bd_eq, gdI_nI hi (by omega), nI_clamp (by omega), c1]
  have q : ∀ {α : Type} (k : Option α), gdH (nI (chT l i)) k = k := fun k => if_pos (h16 c2).1
  rw [q, bd_eq, q]
theorem j_length {l : Nat} (g : G) : f_J0_length_8abf5 l g = some (nI (jlen l), g) := by
  have la : f_J0_coder_7d493 l g = some (0, g) := rfl
  rw [f_J0_length_8abf5, la, bd_eq]
  have : (0 : Int32) &&& 31 = 0 := rfl
  rw [this]
  show some (nI (jlen l) >>> nI 0, g) = _
  rw [show nI (jlen l) >>> nI 0 = nI (jlen l) from Int32.shiftRight_zero]
def cwZ (T : Nat → Nat) (a e : Nat) : List Nat → Nat → Nat → Bool → Nat
  | [], _, _, _ => 15
  | c :: cs, k, f, s => if c = 32 then (if s = true ∧ f = e then k else cwZ T a e cs (k + 1) a true) else cwZ T a e cs k (f + 1) (s && decide (f < e ∧ T f = c))
theorem c_sw53 (hs : Sh g) (h : TX T n g) (h6 : gI g 57 6 = nI e) (he : e ≤ n) (ha : a ≤ n) : ∀ (cs : List Nat) i k f (s : Bool) fu, (∀ j, j < cs.length → chT 2 (i + j) = cs.getD j 0) → i + cs.length = 76 → f ≤ 900 + i → cs.length < fu → f_X8_splitWord_53 fu 57 (nI a) (nI k) (nI f) (b2i s) (nI i) g = some (nI (cwZ T a e cs k f s), g) := by
  have h9 := h.1
  intro cs
  induction cs with
  | nil =>
    intro i k f s fu hc hi hf hfu
    obtain ⟨m, rfl⟩ : ∃ m, fu = m + 1 := ⟨fu - 1, by omega⟩
    simp only [List.length_nil] at hi
    rw [f_X8_splitWord_53, j_length, bd_eq, if_pos (show nI (jlen 2) ≤ nI i from nI_le (show 76 ≤ i by omega) (by omega))]
    rfl
  | cons c cs ih =>
    intro i k f s fu hc hi hf hfu
    simp only [List.length_cons] at hi hfu
    obtain ⟨m, rfl⟩ : ∃ m, fu = m + 1 := ⟨fu - 1, by omega⟩
    have c0 : chT 2 i = c := hc 0 (by simp)
    have hc' : ∀ j, j < cs.length → chT 2 (i + 1 + j) = cs.getD j 0 := fun j hj => by
      have := hc (j + 1) (by simp; omega)
      rw [show i + 1 + j = i + (j + 1) by omega, this]
      rfl
    have c128 : c < 128 := by
      rw [← c0]
      exact (ch_t (l := 2) (by decide) (show i < 76 by omega)).2.1
    rw [f_X8_splitWord_53, j_length, bd_eq, if_neg (show ¬ nI (jlen 2) ≤ nI i from nI_ge (show i < 76 by omega) (by decide)), j_charAt (by decide) (show i < 76 by omega), bd_eq, c0]
    show _ = some (nI (if c = 32 then (if s = true ∧ f = e then k else cwZ T a e cs (k + 1) a true) else cwZ T a e cs k (f + 1) (s && decide (f < e ∧ T f = c))), g)
    have n1 : f_X8_splitWord_130 (f_X8_splitWord_53 m) 57 (nI a) (nI k) (nI i) g = some (nI (cwZ T a e cs (k + 1) a true), g) := by
      rw [f_X8_splitWord_130, f_X8_splitWord_138, lad1, lad1]
      exact ih (i + 1) (k + 1) a true m hc' (by omega) (by omega) (by omega)
    have n2 : f_X8_splitWord_106 (f_X8_splitWord_53 m) 57 (nI a) (nI k) (nI f) (nI i) g = some (nI (cwZ T a e cs k (f + 1) false), g) := by
      rw [f_X8_splitWord_106, f_X8_splitWord_107, f_X8_splitWord_138, lad1, lad1]
      exact ih (i + 1) k (f + 1) false m hc' (by omega) (by omega) (by omega)
    have n3 : f_X8_splitWord_107 (f_X8_splitWord_53 m) 57 (nI a) (nI k) (nI f) (nI i) 1 g = some (nI (cwZ T a e cs k (f + 1) true), g) := by
      rw [f_X8_splitWord_107, f_X8_splitWord_138, lad1, lad1]
      exact ih (i + 1) k (f + 1) true m hc' (by omega) (by omega) (by omega)
    by_cases e1 : c = 32
    · rw [if_pos (show nI c = (32 : Int32) by rw [e1]; rfl), if_pos e1]
      cases s with
      | false => rw [ibF, n1, if_neg (fun u => by cases u.1)]
      | true =>
        rw [ibT, h6]
        by_cases e2 : f = e
        · rw [if_pos (show nI f = nI e by rw [e2]), if_pos ⟨rfl, e2⟩]
        · rw [if_neg (show ¬ nI f = nI e by rw [nI_eq (by omega) (by omega)]; exact e2), n1, if_neg (fun u => e2 u.2)]
    · rw [if_neg (show ¬ nI c = (32 : Int32) from fun u => e1 ((nI_eq (b := 32) (by omega) (by decide)).mp u)), if_neg e1]
      cases s with
      | false => rw [ibF, n2, Bool.false_and]
      | true =>
        rw [ibT, h6, Bool.true_and]
        rcases Nat.lt_or_ge f e with z | z
        · rw [if_neg (nI_ge z (by omega)), c_sign hs h (by omega), bd_eq]
          by_cases e3 : T f = c
          · rw [if_pos (show byI (T f) = nI c by rw [by_eq (h.2.2.2 f (by omega)).1 c128]; exact e3), n3, decide_eq_true ⟨z, e3⟩]
          · rw [if_neg (show ¬ byI (T f) = nI c by rw [by_eq (h.2.2.2 f (by omega)).1 c128]; exact e3), n2, decide_eq_false (fun u => e3 u.2)]
        · rw [if_pos (nI_le z (by omega)), n2, decide_eq_false (fun u => by omega)]
def mtS (T : Nat → Nat) (e : Nat) : List Nat → Nat → Bool → Bool
  | [], f, s => s && decide (f = e)
  | c :: w, f, s => mtS T e w (f + 1) (s && decide (f < e ∧ T f = c))
theorem mt_f : ∀ w f, mtS T e w f false = false
  | [], _ => rfl
  | _ :: w, f => mt_f w (f + 1)
theorem mt_eq : ∀ w f s, f ≤ e → mtS T e w f s = (s && decide (subT T f e = w))
  | [], f, s, h => by
    show (s && decide (f = e)) = _
    rw [decide_eq_decide.mpr (Iff.of_eq (sub_nil (T := T) h).symm)]
  | c :: w, f, s, h => by
    show mtS T e w (f + 1) (s && decide (f < e ∧ T f = c)) = _
    rcases Nat.lt_or_ge f e with z | z
    · rw [mt_eq w (f + 1) _ z, sub_cons z, Bool.and_assoc]
      congr 1
      by_cases q : T f = c
      · rw [decide_eq_true ⟨z, q⟩, q, Bool.true_and, decide_eq_decide]
        exact ⟨fun u => by rw [u], fun u => (List.cons.inj u).2⟩
      · rw [decide_eq_false (fun u => q u.2), Bool.false_and, decide_eq_false (fun u => q (List.cons.inj u).1)]
    · rw [decide_eq_false (fun u => by omega), Bool.and_false, mt_f, show f = e by omega, decide_eq_false (fun u => ?_), Bool.and_false]
      rw [show subT T e e = [] by rw [sub_nil (Nat.le_refl _)]] at u
      cases u
theorem cw_word (rest : List Nat) (k : Nat) : ∀ w f s, (∀ c ∈ w, c ≠ 32) → cwZ T a e (w ++ 32 :: rest) k f s = if mtS T e w f s = true then k else cwZ T a e rest (k + 1) a true
  | [], f, s, _ => by
    show (if (32 : Nat) = 32 then (if s = true ∧ f = e then k else cwZ T a e rest (k + 1) a true) else _) = if (s && decide (f = e)) = true then _ else _
    rw [if_pos rfl]
    by_cases q : s = true ∧ f = e
    · rw [if_pos q, if_pos (by rw [q.1, q.2]; simp)]
    · rw [if_neg q, if_neg (fun u => q (by simpa using u))]
  | c :: w, f, s, h => by
    show (if c = 32 then _ else cwZ T a e (w ++ 32 :: rest) k (f + 1) (s && decide (f < e ∧ T f = c))) = _
    rw [if_neg (h c List.mem_cons_self), cw_word rest k w (f + 1) _ (fun x hx => h x (List.mem_cons_of_mem _ hx))]
    rfl
def flT (ws : List (List Nat)) : List Nat := match ws with
  | [] => []
  | w :: ws => w ++ 32 :: flT ws
theorem cw_all (he : a ≤ e) : ∀ ws k, (∀ w ∈ ws, ∀ c ∈ w, c ≠ 32) → cwZ T a e (flT ws) k a true = fwT 15 (subT T a e) ws k
  | [], _, _ => rfl
  | w :: ws, k, h => by
    show cwZ T a e (w ++ 32 :: flT ws) k a true = if subT T a e = w then k else fwT 15 (subT T a e) ws (k + 1)
    rw [cw_word _ k w a true (h w List.mem_cons_self), mt_eq w a true he, Bool.true_and, cw_all he ws (k + 1) (fun w hw => h w (List.mem_cons_of_mem _ hw))]
    by_cases q : subT T a e = w
    · rw [if_pos q, if_pos (decide_eq_true q)]
    · rw [if_neg q, if_neg (by rw [decide_eq_false q]; exact fun u => by cases u)]
theorem c_splitWord (hs : Sh g) (h : TX T n g) (h6 : gI g 57 6 = nI a) (ha : a ≤ n) : f_X8_splitWord 57 g = some (nI (fwT 15 (subT T a (rnT slT T n n a)) CWT 0), sI g 57 6 (nI (rnT slT T n n a))) := by
  have h9 := h.1
  have FUg := @FU_gt 901 (by decide)
  rw [f_X8_splitWord, li, h6, c_sw5 (nI a) n a FU g hs h h6 ha (by omega) (by omega), f_X8_splitWord_43]
  have t : (List.range 76).all (fun j => decide (chT 2 (0 + j) = (flT CWT).getD j 0)) = true := by decide +kernel
  have tl : (flT CWT).length = 76 := by decide
  have := c_sw53 (g := sI g 57 6 (nI (rnT slT T n n a))) (T := T) (n := n) (a := a) (e := rnT slT T n n a) hs (h.sx (by decide)) (by rw [gI_sIs, pk_us]) (rn_le n a ha) ha (flT CWT) 0 0 a true FU (fun j hj => of_decide_eq_true (List.all_eq_true.mp t j (List.mem_range.mpr (by omega)))) (by omega) (by omega) (by omega)
  rw [cw_all (rn_ge n a) CWT 0 (by decide)] at this
  exact this
theorem c_sn2 : ∀ k s fu g (j : Nat), Sh g → TX T n g → gI g 57 6 = nI s → s = a + j → s ≤ n → n ≤ s + k → k < fu → f_X8_splitNumber_2 fu 57 (nI (cvT T a j)) g = some (nI (cvT T a (rnT dgT T n k s - a)), sI g 57 6 (nI (rnT dgT T n k s))) := by
  intro k
  induction k with
  | zero =>
    intro s fu g j hs h h6 hj h1 h2 hf
    have := h.1
    obtain ⟨m, rfl⟩ : ∃ m, fu = m + 1 := ⟨fu - 1, by omega⟩
    rw [f_X8_splitNumber_2, h.2.1, h6, if_pos (nI_le (by omega) (by omega))]
    show _ = some (nI (cvT T a (s - a)), sI g 57 6 (nI s))
    rw [sI_id h6, show s - a = j by omega]
  | succ k ih =>
    intro s fu g j hs h h6 hj h1 h2 hf
    have := h.1
    obtain ⟨m, rfl⟩ : ∃ m, fu = m + 1 := ⟨fu - 1, by omega⟩
    rcases Nat.lt_or_ge s n with z | z
    · have b1 := (h.2.2.2 s z).1
      rw [f_X8_splitNumber_2, h.2.1, h6, if_neg (nI_ge z (by omega)), c_sign hs h z, bd_eq, c_digit b1, bd_eq]
      cases e1 : dgT (T s) with
      | true =>
        have d1 := of_decide_eq_true e1
        have cl := cv_lt (T := T) (a := a) j
        have ev : ((((10 : Int32) * nI (cvT T a j)) + byI (T s)) - (48 : Int32)) = nI (10 * cvT T a j + (T s - 48)) := by
          rw [(by_t b1).1 (by omega), show (10 : Int32) = nI 10 from rfl, pk_mul, nI_add, show (48 : Int32) = nI 48 from rfl, pk_sub (by omega)]
          congr 1
          omega
        rw [ibT, h6, c_sign hs h z, bd_eq, li, ev, ldi1000 (by omega), lmo1000, h6, lad1, lg]
        have := ih (s + 1) m (sI g 57 6 (nI (s + 1))) (j + 1) hs (h.sx (by decide)) (by rw [gI_sIs, pk_us]) (by omega) (by omega) (by omega) (by omega)
        rw [show nI ((10 * cvT T a j + (T s - 48)) % 1000) = nI (cvT T a (j + 1)) by rw [hj]; rfl, this, sI_sI, rn_y z e1]
      | false => rw [ibF, rn_n (fun u => by rw [e1] at u; cases u.2), sI_id h6, show s - a = j by omega]
    · rw [f_X8_splitNumber_2, h.2.1, h6, if_pos (nI_le (by omega) (by omega)), rn_n (by omega), sI_id h6, show s - a = j by omega]
theorem c_splitNumber (hs : Sh g) (h : TX T n g) (h6 : gI g 57 6 = nI a) (ha : a ≤ n) : f_X8_splitNumber 57 g = some (nI (cvT T a (rnT dgT T n n a - a)), sI g 57 6 (nI (rnT dgT T n n a))) := by
  have h9 := h.1
  have FUg := @FU_gt 901 (by decide)
  exact c_sn2 n a FU g 0 hs h h6 rfl ha (by omega) (by omega)
theorem j_ix7 {v : Nat} (hv : v < 128) : ∀ (cs : List Nat) i fu, (∀ j, j < cs.length → chT 1 (i + j) = cs.getD j 0) → i + cs.length = 12 → cs.length < fu → ∃ r, f_J1_indexOfChar_4cfef_7 fu 1 (nI 12) (nI v) (nI i) g = some (r, g) ∧ ((¬ r < 0 ∧ v ∈ cs) ∨ (r < 0 ∧ v ∉ cs)) := by
  intro cs
  induction cs with
  | nil =>
    intro i fu hc hi hfu
    obtain ⟨m, rfl⟩ : ∃ m, fu = m + 1 := ⟨fu - 1, by omega⟩
    simp only [List.length_nil] at hi
    rw [f_J1_indexOfChar_4cfef_7, if_pos (nI_le (by omega) (by omega))]
    exact ⟨-1, rfl, Or.inr ⟨by decide, fun u => by cases u⟩⟩
  | cons c cs ih =>
    intro i fu hc hi hfu
    simp only [List.length_cons] at hi hfu
    obtain ⟨m, rfl⟩ : ∃ m, fu = m + 1 := ⟨fu - 1, by omega⟩
    have c0 : chT 1 i = c := hc 0 (by simp)
    have hc' : ∀ j, j < cs.length → chT 1 (i + 1 + j) = cs.getD j 0 := fun j hj => by
      have := hc (j + 1) (by simp; omega)
      rw [show i + 1 + j = i + (j + 1) by omega, this]
      rfl
    obtain ⟨-, c1, c2⟩ := ch_t (l := 1) (by decide) (show i < 12 by omega)
    rw [c0] at c1 c2
    rw [f_J1_indexOfChar_4cfef_7, if_neg (nI_ge (show i < 12 by omega) (by decide)), gdI_nI (show i < jlen 1 from (show i < 12 by omega)) (by decide), nI_clamp (by omega), c2]
    by_cases e : c = v
    · rw [if_pos (by rw [e])]
      exact ⟨_, rfl, Or.inl ⟨nI_pos (by omega), by rw [e]; exact List.mem_cons_self⟩⟩
    · rw [if_neg (by rw [nI_eq (by omega) (by omega)]; exact e), lad1]
      obtain ⟨r, r1, r2⟩ := ih (i + 1) m hc' (by omega) (by omega)
      refine ⟨r, r1, r2.imp (fun u => ⟨u.1, List.mem_cons_of_mem _ u.2⟩) (fun u => ⟨u.1, fun w => ?_⟩)⟩
      rcases List.mem_cons.mp w with q | q
      · exact e q.symm
      · exact u.2 q
theorem j_ix {v : Nat} (hv : v < 128) (g : G) : ∃ r, f_J0_indexOf_0f7a4 1 (((nI v).toUInt32 % 65536).toInt32) g = some (r, g) ∧ ((¬ r < 0 ∧ v ∈ SGT) ∨ (r < 0 ∧ v ∉ SGT)) := by
  have t : (List.range 12).all (fun j => decide (chT 1 (0 + j) = SGT.getD j 0)) = true := by decide +kernel
  obtain ⟨r, r1, r2⟩ := j_ix7 (g := g) hv SGT 0 FU (fun j hj => of_decide_eq_true (List.all_eq_true.mp t j (List.mem_range.mpr hj))) rfl (FU_gt (by decide))
  refine ⟨r, ?_, r2⟩
  have la : f_J0_isLatin1_aae02 1 g = some (true, g) := rfl
  have mx : f_J9_max_7cf53 (0 : Int32) 0 g = some (0, g) := rfl
  have mn : f_J9_min_7cf53 (nI (jlen 1)) (nI (jlen 1)) g = some (nI 12, g) := rfl
  have r1' : f_J1_indexOfChar_4cfef_7 FU 1 (nI 12) (nI v) 0 g = some (r, g) := r1
  rw [(h16 hv).1, f_J0_indexOf_0f7a4, f_J0_indexOf_7cf53, la, bd_eq, ibT, j_length, bd_eq, f_J1_indexOf_4cfef, f_J1_canEncode_9a6ad, if_neg (nI_pos (by omega)), if_neg (show ¬ (255 : Int32) < nI v from nI_nlt (a := 255) (by omega) (by decide)), bd_eq, ibT, mx, bd_eq, mn, bd_eq, if_pos (by decide), f_J1_indexOfChar_4cfef, (h16 hv).2, li, r1', bd_eq, bd_eq, bd_eq]
end SPL
