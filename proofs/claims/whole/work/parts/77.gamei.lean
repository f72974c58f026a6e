/-! FORCING, backwards: the queue of the nodes whose level is known; no heap here. -/
section GMI
def cP (p : Nat → Bool) : List Nat → Nat
  | [] => 0
  | y :: ys => cP p ys + (if p y = true then 1 else 0)
def cN (z : Nat) (L : List Nat) : Nat := cP (fun y => decide (y = z)) L
theorem cP_ap (p : Nat → Bool) (M : List Nat) : ∀ L, cP p (L ++ M) = cP p L + cP p M
  | [] => (Nat.zero_add _).symm
  | y :: L => by
    have ih := cP_ap p M L
    show cP p (L ++ M) + _ = (cP p L + _) + _
    rw [ih]
    omega
theorem cP_le (p : Nat → Bool) : ∀ L : List Nat, cP p L ≤ L.length
  | [] => Nat.le_refl _
  | y :: L => by
    have ih := cP_le p L
    show cP p L + (if p y = true then 1 else 0) ≤ L.length + 1
    split <;> omega
theorem cP_2 {p : Nat → Bool} {z : Nat} (hz : p z = false) : ∀ L : List Nat, cP p L + cN z L ≤ L.length
  | [] => Nat.le_refl _
  | y :: L => by
    have ih := cP_2 (p := p) hz L
    show (cP p L + (if p y = true then 1 else 0)) + (cP (fun y => decide (y = z)) L + (if decide (y = z) = true then 1 else 0)) ≤ L.length + 1
    have : cN z L = cP (fun y => decide (y = z)) L := rfl
    by_cases e : y = z
    · rw [e, hz, if_neg (by decide), decide_eq_true rfl, if_pos rfl]
      omega
    · rw [decide_eq_false e, if_neg (show ¬ false = true by decide)]
      split <;> omega
theorem cP_3 {p : Nat → Bool} {z : Nat} (hz : p z = false) : ∀ {L : List Nat} {y : Nat}, y ∈ L → p y = false → y ≠ z → cP p L + cN z L < L.length
  | [], y, h, _, _ => by cases h
  | w :: L, y, h, h1, h2 => by
    have l2 := cP_2 hz L
    have e : cN z L = cP (fun y => decide (y = z)) L := rfl
    show (cP p L + (if p w = true then 1 else 0)) + (cP (fun y => decide (y = z)) L + (if decide (w = z) = true then 1 else 0)) < L.length + 1
    rcases List.mem_cons.mp h with q | q
    · rw [← q, h1, if_neg (by decide), decide_eq_false h2, if_neg (by decide)]
      omega
    · have ih := cP_3 (p := p) hz q h1 h2
      by_cases e2 : w = z
      · rw [e2, hz, if_neg (by decide), decide_eq_true rfl, if_pos rfl]
        omega
      · rw [decide_eq_false e2, if_neg (show ¬ false = true by decide)]
        split <;> omega
theorem cP_or {p p' : Nat → Bool} {z : Nat} (hz : p z = false) (h : ∀ y, p' y = (p y || decide (y = z))) : ∀ L : List Nat, cP p' L = cP p L + cN z L
  | [] => rfl
  | y :: L => by
    have ih := cP_or hz h L
    show cP p' L + (if p' y = true then 1 else 0) = (cP p L + (if p y = true then 1 else 0)) + (cP (fun y => decide (y = z)) L + (if decide (y = z) = true then 1 else 0))
    have e : cN z L = cP (fun y => decide (y = z)) L := rfl
    rw [h y, ih, e]
    by_cases e2 : y = z
    · rw [e2, hz, decide_eq_true rfl]
      simp
      omega
    · rw [decide_eq_false e2]
      simp
      omega
theorem cN_mem {z : Nat} : ∀ {L : List Nat}, 0 < cN z L ↔ z ∈ L
  | [] => ⟨fun h => absurd h (Nat.lt_irrefl 0), fun h => by cases h⟩
  | y :: L => by
    have ih := cN_mem (z := z) (L := L)
    have e : cN z (y :: L) = cN z L + (if decide (y = z) = true then 1 else 0) := rfl
    rw [e, List.mem_cons]
    by_cases e2 : y = z
    · rw [decide_eq_true e2, if_pos rfl]
      exact ⟨fun _ => Or.inl e2.symm, fun _ => by omega⟩
    · rw [decide_eq_false e2, if_neg (by decide), Nat.add_zero]
      exact ⟨fun q => Or.inr (ih.mp q), fun q => ih.mpr (q.resolve_left (fun u => e2 u.symm))⟩
theorem cP_all {p : Nat → Bool} : ∀ {L : List Nat}, (∀ y ∈ L, p y = true) → cP p L = L.length
  | [], _ => rfl
  | y :: L, h => by
    have ih := cP_all (p := p) (L := L) (fun z hz => h z (List.mem_cons_of_mem _ hz))
    show cP p L + (if p y = true then 1 else 0) = L.length + 1
    rw [ih, h y List.mem_cons_self, if_pos rfl]
theorem cP_0 {p : Nat → Bool} : ∀ {L : List Nat}, (∀ y ∈ L, p y = false) → cP p L = 0
  | [], _ => rfl
  | y :: L, h => by
    have ih := cP_0 (p := p) (L := L) (fun z hz => h z (List.mem_cons_of_mem _ hz))
    show cP p L + (if p y = true then 1 else 0) = 0
    rw [ih, h y List.mem_cons_self, if_neg (by decide)]
def pB (qu : Nat → Nat) (i y : Nat) : Bool := decide (idx qu i y < i)
theorem pB_iff {qu : Nat → Nat} {i y : Nat} : pB qu i y = true ↔ ∃ a, a < i ∧ qu a = y := by
  unfold pB idx
  rw [decide_eq_true_eq]
  constructor
  · intro h
    exact ⟨_, h, of_decide_eq_true (fst_ok _ i h)⟩
  · rintro ⟨a, a1, a2⟩
    exact fst_lt a1 (decide_eq_true a2)
theorem pB_f {qu : Nat → Nat} {i y : Nat} : pB qu i y = false ↔ ∀ a, a < i → qu a ≠ y := by
  rw [Bool.eq_false_iff, ne_eq, pB_iff]
  exact ⟨fun h a a1 a2 => h ⟨a, a1, a2⟩, fun h ⟨a, a1, a2⟩ => h a a1 a2⟩
def GI (sc pl : Nat → List Nat) (tg : Nat → Bool) (m : Nat) (qu le lf : Nat → Nat) (sz i : Nat) (pr : List Nat) : Prop :=
  ((∀ j, j < sz → qu j < m) ∧ ∀ a b, a < sz → b < sz → qu a = qu b → a = b) ∧
  ((∀ a b, a ≤ b → b < sz → le (qu a) ≤ le (qu b)) ∧ (i < sz → ∀ a, a < sz → le (qu a) ≤ le (qu i) + 1)) ∧
  (∀ x, x < m → lf x + (cP (pB qu i) (sc x) + cN x pr) = (sc x).length) ∧
  ((∀ j, j < sz → tg (qu j) = true → le (qu j) = 0) ∧ ∀ x, x < m → tg x = true → ∃ j, j < sz ∧ qu j = x) ∧
  (∀ j, j < sz → tg (qu j) = false → (∃ y, y ∈ sc (qu j) ∧ (∃ a, a < sz ∧ qu a = y) ∧ le (qu j) = le y + 1) ∧ (qu j % 2 = 0 → ∀ y a, y ∈ sc (qu j) → a < sz → qu a = y → le (qu j) ≤ le y + 1) ∧ (qu j % 2 = 1 → ∀ y, y ∈ sc (qu j) → (∃ a, a < sz ∧ qu a = y) ∧ le y + 1 ≤ le (qu j))) ∧
  (∀ x, x < m → tg x = false → (∀ j, j < sz → qu j ≠ x) → (x % 2 = 0 → (∀ y, y ∈ sc x → ∀ a, a < i → qu a ≠ y) ∧ x ∉ pr) ∧ (x % 2 = 1 → 0 < lf x))
variable {sc pl : Nat → List Nat} {tg : Nat → Bool} {m : Nat} {qu le lf : Nat → Nat} {sz i : Nat} {pr : List Nat}
theorem GI.pos (h : GI sc pl tg m qu le lf sz i pr) (hl : ∀ x y, x < m → y < m → cN x (pl y) = cN y (sc x)) (hi : i < sz) {x : Nat} {rest : List Nat} (hx : x < m) (hp : pl (qu i) = pr ++ x :: rest) : 0 < lf x ∧ qu i ∈ sc x ∧ cN x pr + 1 ≤ cN (qu i) (sc x) := by
  have q1 := h.1.1 i hi
  have e := hl x (qu i) hx q1
  rw [hp] at e
  have e2 : cN x (pr ++ x :: rest) = cN x pr + cN x (x :: rest) := cP_ap _ _ _
  have e3 : cN x (x :: rest) = cN x rest + 1 := by
    show cP _ rest + (if decide (x = x) = true then 1 else 0) = _
    rw [decide_eq_true rfl, if_pos rfl]
    rfl
  have nz : pB qu i (qu i) = false := pB_f.mpr (fun a a1 u => by
    have := h.1.2 a i (by omega) hi u
    omega)
  have l2 := cP_2 nz (sc x)
  have l3 := h.2.2.1 x hx
  exact ⟨by omega, cN_mem.mp (by omega), by omega⟩
theorem cN_sn (x z : Nat) (L : List Nat) : cN z (L ++ [x]) = cN z L + (if x = z then 1 else 0) := by
  have e2 : cN z (L ++ [x]) = cN z L + cN z [x] := cP_ap _ _ _
  rw [e2]
  congr 1
  show 0 + (if decide (x = z) = true then 1 else 0) = _
  by_cases e : x = z
  · rw [decide_eq_true e, if_pos rfl, if_pos e]
  · rw [decide_eq_false e, if_neg (by decide), if_neg e]
/-- a link: nothing comes of it -/
theorem GI.no (h : GI sc pl tg m qu le lf sz i pr) (hl : ∀ x y, x < m → y < m → cN x (pl y) = cN y (sc x)) (hi : i < sz) {x : Nat} {rest : List Nat} (hx : x < m) (hp : pl (qu i) = pr ++ x :: rest) (hn : (∃ j, j < sz ∧ qu j = x) ∨ (x % 2 = 1 ∧ 0 < lf x - 1)) : GI sc pl tg m qu le (ins lf x (lf x - 1)) sz i (pr ++ [x]) := by
  obtain ⟨p1, p2, p3⟩ := h.pos hl hi hx hp
  obtain ⟨a, b, c, d, e, f⟩ := h
  refine ⟨a, b, fun z hz => ?_, d, e, fun z hz ht hu => ?_⟩
  · have := c z hz
    rw [cN_sn]
    by_cases u : z = x
    · rw [u] at this ⊢
      rw [ins_s, if_pos rfl]
      omega
    · rw [ins_n u, if_neg (fun w => u w.symm)]
      exact this
  · obtain ⟨f1, f2⟩ := f z hz ht hu
    refine ⟨fun h2 => ⟨(f1 h2).1, fun w => ?_⟩, fun h2 => ?_⟩
    · rcases List.mem_append.mp w with w | w
      · exact (f1 h2).2 w
      · have ez := List.mem_singleton.mp w
        rcases hn with ⟨j, j1, j2⟩ | ⟨o, -⟩
        · exact hu j j1 (j2.trans ez.symm)
        · omega
    · by_cases u : z = x
      · rw [u, ins_s]
        rcases hn with ⟨j, j1, j2⟩ | ⟨-, o⟩
        · exact absurd (j2.trans u.symm) (hu j j1)
        · exact o
      · rw [ins_n u]
        exact f2 h2
/-- a link: a node's level becomes known -/
theorem GI.add (h : GI sc pl tg m qu le lf sz i pr) (hl : ∀ x y, x < m → y < m → cN x (pl y) = cN y (sc x)) (hi : i < sz) {x : Nat} {rest : List Nat} (hx : x < m) (hp : pl (qu i) = pr ++ x :: rest) (hq : ∀ j, j < sz → qu j ≠ x) (hn : x % 2 = 0 ∨ lf x - 1 = 0) (hsc : x ∉ sc x) : GI sc pl tg m (ins qu sz x) (ins le x (le (qu i) + 1)) (ins lf x (lf x - 1)) (sz + 1) i (pr ++ [x]) := by
  obtain ⟨p1, p2, p3⟩ := h.pos hl hi hx hp
  obtain ⟨⟨a1, a2⟩, ⟨b1, b2⟩, c, ⟨d1, d2⟩, e, f⟩ := h
  have bi := b2 hi
  have tx : tg x = false := by
    cases ht : tg x with
    | false => rfl
    | true =>
      obtain ⟨j, j1, j2⟩ := d2 x hx ht
      exact absurd j2 (hq j j1)
  have lo : ∀ j, j < sz → ins le x (le (qu i) + 1) (qu j) = le (qu j) := fun j hj => ins_n (hq j hj)
  have qo : ∀ j, j < sz → ins qu sz x j = qu j := fun j hj => ins_n (by omega)
  have pBe : pB (ins qu sz x) i = pB qu i := by
    funext y
    rw [Bool.eq_iff_iff, pB_iff, pB_iff]
    constructor
    · rintro ⟨a, u1, u2⟩
      rw [qo a (by omega)] at u2
      exact ⟨a, u1, u2⟩
    · rintro ⟨a, u1, u2⟩
      exact ⟨a, u1, by rw [qo a (by omega)]; exact u2⟩
  refine ⟨⟨fun j hj => ?_, fun u w hu hw ee => ?_⟩, ⟨fun u w huw hw => ?_, fun _ u hu => ?_⟩, fun z hz => ?_, ⟨fun j hj ht => ?_, fun z hz ht => ?_⟩, fun j hj ht => ?_, fun z hz ht hu => ?_⟩
  · by_cases ej : j = sz
    · rw [ej, ins_s]
      exact hx
    · rw [ins_n ej]
      exact a1 j (by omega)
  · by_cases e1 : u = sz
    · by_cases e2 : w = sz
      · omega
      · rw [e1, ins_s, ins_n e2] at ee
        exact absurd ee.symm (hq w (by omega))
    · by_cases e2 : w = sz
      · rw [e2, ins_s, ins_n e1] at ee
        exact absurd ee (hq u (by omega))
      · rw [ins_n e1, ins_n e2] at ee
        exact a2 u w (by omega) (by omega) ee
  · by_cases e2 : w = sz
    · rw [e2, ins_s, ins_s]
      by_cases e1 : u = sz
      · rw [e1, ins_s, ins_s]
        exact Nat.le_refl _
      · rw [qo u (by omega), lo u (by omega)]
        exact bi u (by omega)
    · rw [qo u (by omega), qo w (by omega), lo u (by omega), lo w (by omega)]
      exact b1 u w huw (by omega)
  · rw [qo i hi, lo i hi]
    by_cases e1 : u = sz
    · rw [e1, ins_s, ins_s]
      exact Nat.le_refl _
    · rw [qo u (by omega), lo u (by omega)]
      exact bi u (by omega)
  · have := c z hz
    rw [cN_sn, pBe]
    by_cases u : z = x
    · rw [u] at this ⊢
      rw [ins_s, if_pos rfl]
      omega
    · rw [ins_n u, if_neg (fun w => u w.symm)]
      exact this
  · by_cases ej : j = sz
    · rw [ej, ins_s, tx] at ht
      cases ht
    · rw [qo j (by omega)] at ht ⊢
      rw [lo j (by omega)]
      exact d1 j (by omega) ht
  · obtain ⟨j, j1, j2⟩ := d2 z hz ht
    exact ⟨j, by omega, by rw [qo j j1]; exact j2⟩
  · by_cases ej : j = sz
    · rw [ej, ins_s, ins_s]
      have li : ins le x (le (qu i) + 1) (qu i) = le (qu i) := lo i hi
      refine ⟨⟨qu i, p2, ⟨i, by omega, qo i hi⟩, by rw [li]⟩, fun h2 y a y1 ha ya => ?_, fun h2 y y1 => ?_⟩
      · by_cases ea : a = sz
        · rw [ea, ins_s] at ya
          exact absurd (ya ▸ y1) hsc
        · rw [qo a (by omega)] at ya
          have na : ¬ a < i := fun q => ((f x hx tx hq).1 h2).1 y y1 a q ya
          rw [← ya, lo a (by omega)]
          have := b1 i a (by omega) (by omega)
          omega
      · have l0 : lf x - 1 = 0 := hn.resolve_left (by omega)
        have nz : pB qu i (qu i) = false := pB_f.mpr (fun a a1' u => by
          have := a2 a i (by omega) hi u
          omega)
        have cx := c x hx
        by_cases py : pB qu i y = true
        · obtain ⟨a, u1, u2⟩ := pB_iff.mp py
          refine ⟨⟨a, by omega, by rw [qo a (by omega)]; exact u2⟩, ?_⟩
          rw [← u2, lo a (by omega)]
          have := b1 a i (by omega) hi
          omega
        · by_cases ey : y = qu i
          · rw [ey, li]
            exact ⟨⟨i, by omega, qo i hi⟩, Nat.le_refl _⟩
          · exfalso
            have := cP_3 nz y1 (by simpa using py) ey
            omega
    · rw [qo j (by omega)] at ht ⊢
      rw [lo j (by omega)]
      obtain ⟨⟨y, y1, ⟨a, u1, u2⟩, y3⟩, e2, e3⟩ := e j (by omega) ht
      refine ⟨⟨y, y1, ⟨a, by omega, by rw [qo a u1]; exact u2⟩, ?_⟩, fun h2 y a y1 ha ya => ?_, fun h2 y y1 => ?_⟩
      · rw [← u2, lo a u1, u2]
        exact y3
      · by_cases ea : a = sz
        · rw [ea, ins_s] at ya
          rw [← ya, ins_s]
          have := bi j (by omega)
          omega
        · rw [qo a (by omega)] at ya
          have := e2 h2 y a y1 (by omega) ya
          rw [← ya, lo a (by omega), ya]
          exact this
      · obtain ⟨⟨a, u1, u2⟩, u3⟩ := e3 h2 y y1
        refine ⟨⟨a, by omega, by rw [qo a u1]; exact u2⟩, ?_⟩
        rw [← u2, lo a u1, u2]
        exact u3
  · have hu' : ∀ j, j < sz → qu j ≠ z := fun j hj => by
      have := hu j (by omega)
      rw [qo j hj] at this
      exact this
    have zx : z ≠ x := fun u => by
      have := hu sz (by omega)
      rw [ins_s] at this
      exact this u.symm
    obtain ⟨f1, f2⟩ := f z hz ht hu'
    refine ⟨fun h2 => ⟨fun y y1 a ha => ?_, fun w => ?_⟩, fun h2 => ?_⟩
    · rw [qo a (by omega)]
      exact (f1 h2).1 y y1 a ha
    · rcases List.mem_append.mp w with w | w
      · exact (f1 h2).2 w
      · exact zx (List.mem_singleton.mp w)
    · rw [ins_n zx]
      exact f2 h2
/-- all links to a node are through -/
theorem GI.nxt (h : GI sc pl tg m qu le lf sz i (pl (qu i))) (hl : ∀ x y, x < m → y < m → cN x (pl y) = cN y (sc x)) (hi : i < sz) : GI sc pl tg m qu le lf sz (i + 1) [] := by
  obtain ⟨⟨a1, a2⟩, ⟨b1, b2⟩, c, d, e, f⟩ := h
  have q1 := a1 i hi
  have nz : pB qu i (qu i) = false := pB_f.mpr (fun a a1' u => by
    have := a2 a i (by omega) hi u
    omega)
  have pe : ∀ y, pB qu (i + 1) y = (pB qu i y || decide (y = qu i)) := fun y => by
    rw [Bool.eq_iff_iff, pB_iff, Bool.or_eq_true, pB_iff, decide_eq_true_eq]
    constructor
    · rintro ⟨a, u1, u2⟩
      rcases Nat.eq_or_lt_of_le (Nat.le_of_lt_succ u1) with w | w
      · exact Or.inr (by rw [← u2, w])
      · exact Or.inl ⟨a, w, u2⟩
    · rintro (⟨a, u1, u2⟩ | u)
      · exact ⟨a, by omega, u2⟩
      · exact ⟨i, by omega, u.symm⟩
  refine ⟨⟨a1, a2⟩, ⟨b1, fun hs u hu => ?_⟩, fun x hx => ?_, d, e, fun x hx ht hu => ?_⟩
  · have := b2 hi u hu
    have := b1 i (i + 1) (by omega) hs
    omega
  · have := c x hx
    rw [hl x (qu i) hx q1] at this
    rw [cP_or nz pe]
    have : cN x [] = 0 := rfl
    omega
  · obtain ⟨f1, f2⟩ := f x hx ht hu
    refine ⟨fun h2 => ⟨fun y y1 a ha ya => ?_, fun w => by cases w⟩, f2⟩
    rcases Nat.eq_or_lt_of_le (Nat.le_of_lt_succ ha) with w | w
    · have : qu i ∈ sc x := by
        rw [w] at ya
        rw [ya]
        exact y1
      have c1 := cN_mem.mpr this
      rw [← hl x (qu i) hx q1] at c1
      exact (f1 h2).2 (cN_mem.mp c1)
    · exact (f1 h2).1 y y1 a w ya
/-- what is known in the end -/
def lvQ (qu le : Nat → Nat) (sz x : Nat) : Option Nat := if pB qu sz x = true then some (le x) else none
theorem GI.fin (h : GI sc pl tg m qu le lf sz sz []) : Lv sc tg (fun x => x < m) (lvQ qu le sz) := by
  obtain ⟨⟨a1, a2⟩, ⟨b1, b2⟩, c, ⟨d1, d2⟩, e, f⟩ := h
  have ls : ∀ j, j < sz → lvQ qu le sz (qu j) = some (le (qu j)) := fun j hj => by
    unfold lvQ
    rw [if_pos (pB_iff.mpr ⟨j, hj, rfl⟩)]
  have ln : ∀ x, (∀ j, j < sz → qu j ≠ x) → lvQ qu le sz x = none := fun x hx => by
    unfold lvQ
    rw [pB_f.mpr hx, if_neg (by decide)]
  have lo : ∀ x k, lvQ qu le sz x = some k → ∃ j, j < sz ∧ qu j = x ∧ le x = k := fun x k hk => by
    unfold lvQ at hk
    split at hk
    · next q =>
      obtain ⟨j, j1, j2⟩ := pB_iff.mp q
      exact ⟨j, j1, j2, Option.some.inj hk⟩
    · cases hk
  have lz : ∀ x, lvQ qu le sz x = none → ∀ j, j < sz → qu j ≠ x := fun x hx j hj e => by
    rw [← e, ls j hj] at hx
    cases hx
  refine ⟨fun x hx ht => ?_, fun x k hx ht hk => ?_, fun x hx ht hk => ?_⟩
  · obtain ⟨j, j1, j2⟩ := d2 x hx ht
    rw [← j2, ls j j1, d1 j j1 (by rw [j2]; exact ht)]
  · obtain ⟨j, j1, j2, j3⟩ := lo x k hk
    rw [← j2] at ht j3 ⊢
    obtain ⟨⟨y, y1, ⟨a, u1, u2⟩, y3⟩, e2, e3⟩ := e j j1 ht
    refine ⟨⟨y, y1, le y, by rw [← u2]; exact ls a u1, by omega⟩, fun h2 y jj y1 y2 => ?_, fun h2 y y1 => ?_⟩
    · obtain ⟨a, w1, w2, w3⟩ := lo y jj y2
      have := e2 h2 y a y1 w1 w2
      omega
    · obtain ⟨⟨a, w1, w2⟩, w3⟩ := e3 h2 y y1
      exact ⟨le y, by rw [← w2]; exact ls a w1, by omega⟩
  · have hu := lz x hk
    obtain ⟨f1, f2⟩ := f x hx ht hu
    refine ⟨fun h2 y y1 => ln y (fun a a1 ya => (f1 h2).1 y y1 a a1 ya), fun h2 => ?_⟩
    have l0 := f2 h2
    have cx := c x hx
    apply Classical.byContradiction
    intro q
    have all : ∀ y ∈ sc x, pB qu sz y = true := fun y hy => by
      cases hp : pB qu sz y with
      | true => rfl
      | false => exact absurd ⟨y, hy, ln y (pB_f.mp hp)⟩ q
    have := cP_all all
    omega
end GMI
