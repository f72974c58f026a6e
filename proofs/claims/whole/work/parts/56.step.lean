/-! THE STEP, abstractly; the reference's state in one word. -/
theorem ibF {α : Type} {x y : α} : (if b2i false = 0 then x else y) = x := if_pos rfl
theorem ibT {α : Type} {x y : α} : (if b2i true = 0 then x else y) = y := if_neg (by decide)
theorem ioN {α : Type} {x y : α} : (if oI none = (-1 : Int32) then x else y) = x := if_pos rfl
theorem oI_ne {c : Nat} (h : c < 2 ^ 31) : ¬ oI (some c) = (-1 : Int32) := fun z => by
  have z' : nI c = -nI 1 := z
  rw [nIm1 h] at z'
  exact z'
theorem nI_ne1 {c : Nat} (h : c < 2 ^ 31) : ¬ nI c = (-1 : Int32) := oI_ne h
theorem ioS {α : Type} {x y : α} {c : Nat} (h : c < 2 ^ 31) : (if oI (some c) = (-1 : Int32) then x else y) = y := if_neg (oI_ne h)
/-- the first of the least, of those that are P, below n -/
def bst (P : Nat → Bool) (d : Nat → Nat) : Nat → Option Nat
  | 0 => none
  | n + 1 => match bst P d n with
    | none => if P n = true then some n else none
    | some b => if P n = true ∧ d n < d b then some n else some b
theorem bst_none {P : Nat → Bool} {d : Nat → Nat} : ∀ {n : Nat}, bst P d n = none → ∀ c, c < n → P c = false := by
  intro n
  induction n with
  | zero => intro _ c hc; omega
  | succ n ih =>
    intro h c hc
    rw [bst] at h
    cases hb : bst P d n with
    | none =>
      rw [hb] at h
      dsimp only at h
      split at h
      · cases h
      · next q =>
        rcases Nat.lt_or_ge c n with hl | hl
        · exact ih hb c hl
        · have : c = n := by omega
          subst this
          exact Bool.eq_false_iff.mpr q
    | some b =>
      rw [hb] at h
      dsimp only at h
      split at h <;> cases h
theorem bst_some {P : Nat → Bool} {d : Nat → Nat} : ∀ {n b : Nat}, bst P d n = some b → b < n ∧ P b = true ∧ ∀ c, c < n → P c = true → d b < d c ∨ (d b = d c ∧ b ≤ c) := by
  intro n
  induction n with
  | zero => intro b h; cases h
  | succ n ih =>
    intro b h
    rw [bst] at h
    cases hb : bst P d n with
    | none =>
      rw [hb] at h
      dsimp only at h
      split at h
      · next q =>
        cases h
        refine ⟨Nat.lt_succ_self _, q, fun c hc hp => ?_⟩
        rcases Nat.lt_or_ge c n with hl | hl
        · rw [bst_none hb c hl] at hp
          cases hp
        · have : c = n := by omega
          subst this
          exact Or.inr ⟨rfl, Nat.le_refl _⟩
      · cases h
    | some b' =>
      obtain ⟨i1, i2, i3⟩ := ih hb
      rw [hb] at h
      dsimp only at h
      split at h
      · next q =>
        cases h
        refine ⟨Nat.lt_succ_self _, q.1, fun c hc hp => ?_⟩
        rcases Nat.lt_or_ge c n with hl | hl
        · have := i3 c hl hp
          have := q.2
          omega
        · have : c = n := by omega
          subst this
          exact Or.inr ⟨rfl, Nat.le_refl _⟩
      · next q =>
        cases h
        refine ⟨by omega, i2, fun c hc hp => ?_⟩
        rcases Nat.lt_or_ge c n with hl | hl
        · exact i3 c hl hp
        · have : c = n := by omega
          subst this
          have : ¬ d c < d b := fun z => q ⟨hp, z⟩
          omega
theorem bst_uniq {P : Nat → Bool} {d : Nat → Nat} {n b : Nat} (hb : b < n) (hp : P b = true) (hm : ∀ c, c < n → P c = true → d b < d c ∨ (d b = d c ∧ b ≤ c)) : bst P d n = some b := by
  cases hx : bst P d n with
  | none =>
    rw [bst_none hx b hb] at hp
    cases hp
  | some c =>
    obtain ⟨i1, i2, i3⟩ := bst_some hx
    have h1 := hm c i1 i2
    have h2 := i3 b hb hp
    have : c = b := by omega
    rw [this]
theorem bst_nil {P : Nat → Bool} {d : Nat → Nat} {n : Nat} (h : ∀ c, c < n → P c = false) : bst P d n = none := by
  cases hx : bst P d n with
  | none => rfl
  | some c =>
    obtain ⟨i1, i2, i3⟩ := bst_some hx
    rw [h c i1] at i2
    cases i2
theorem bst_congr {P Q : Nat → Bool} {d : Nat → Nat} : ∀ {n : Nat}, (∀ c, c < n → P c = Q c) → bst P d n = bst Q d n := by
  intro n
  induction n with
  | zero => intro _; rfl
  | succ n ih =>
    intro h
    rw [bst, bst, ih (fun c hc => h c (by omega)), h n (Nat.lt_succ_self _)]
/-- where the other one is drawn: t draws, is in b; the one that leads comes to c -/
def dwS (A : Nat → Int32) (F : Nat → Bool) (p m t b c : Nat) : Option Nat := if F b = true ∧ apS (nv A 2) c b = sp A p then some b else bst (fun d => F d && decide (apS (nv A 2) c d = sp A p) && may A p m t b d) (apS (nv A 2) b) (cS A)
/-- a step: why not (0: it can be), where the leading one comes to, the other one -/
def stS (A : Nat → Int32) (F : Nat → Bool) (p m t a b w : Nat) : Nat × Nat × Nat := match besS (nv A 1) (nv A 2) a w with
  | none => (2, 0, 0)
  | some c => if F c = true then (if may A p m t a c = true then (match dwS A F p m (1 - t) b c with
    | none => (4, 0, 0)
    | some d => (0, c, d)) else (3, 0, 0)) else (2, 0, 0)
theorem besS_lt {R W a w c : Nat} (h0 : 0 < W) (ha : a < R * W) (h : besS R W a w = some c) : c < R * W := by
  have d5 : a / W < R := by
    rw [Nat.div_lt_iff_lt_mul h0]
    exact ha
  have d4 : W * (a / W) + a % W = a := Nat.div_add_mod a W
  unfold besS at h
  split at h
  · split at h
    · cases h
    · cases h
      omega
  · split at h
    · split at h
      · next q =>
        cases h
        have : W * (a / W) + W ≤ W * R := by
          rw [← Nat.mul_succ]
          exact Nat.mul_le_mul_left W d5
        rw [Nat.mul_comm R W]
        omega
      · cases h
    · split at h
      · split at h
        · next q =>
          cases h
          have e : W * (a / W + 1) + W ≤ W * R := by
            rw [← Nat.mul_succ]
            exact Nat.mul_le_mul_left W q
          rw [Nat.mul_add_one] at e
          have := Nat.mod_lt a h0
          rw [Nat.mul_comm R W]
          omega
        · cases h
      · split at h
        · cases h
        · cases h
          omega
theorem dwS_ok {A : Nat → Int32} {F : Nat → Bool} {p m t b c d : Nat} (hb : b < cS A) (h : dwS A F p m t b c = some d) : d < cS A ∧ F d = true ∧ apS (nv A 2) c d = sp A p := by
  unfold dwS at h
  split at h
  · next q =>
    cases h
    exact ⟨hb, q.1, q.2⟩
  · obtain ⟨i1, i2, -⟩ := bst_some h
    simp only [Bool.and_eq_true, decide_eq_true_eq] at i2
    exact ⟨i1, i2.1.1, i2.1.2⟩
theorem stS_ok {A : Nat → Int32} {F : Nat → Bool} {p m t a b w : Nat} (hA : Dm A) (ha : a < cS A) (hb : b < cS A) (h : (stS A F p m t a b w).1 = 0) : (stS A F p m t a b w).2.1 < cS A ∧ (stS A F p m t a b w).2.2 < cS A ∧ F (stS A F p m t a b w).2.1 = true ∧ F (stS A F p m t a b w).2.2 = true ∧ apS (nv A 2) (stS A F p m t a b w).2.1 (stS A F p m t a b w).2.2 = sp A p ∧ besS (nv A 1) (nv A 2) a w = some (stS A F p m t a b w).2.1 := by
  revert h
  unfold stS
  cases hc : besS (nv A 1) (nv A 2) a w with
  | none => intro h; cases h
  | some c =>
    dsimp only
    split
    · next q =>
      split
      · cases hd : dwS A F p m (1 - t) b c with
        | none => intro h; cases h
        | some d =>
          intro _
          obtain ⟨i1, i2, i3⟩ := dwS_ok hb hd
          exact ⟨besS_lt hA.2.2.2.2.1 ha hc, i1, q, i2, i3, rfl⟩
      · intro h; cases h
    · intro h; cases h
theorem stS_why {A : Nat → Int32} {F : Nat → Bool} {p m t a b w : Nat} : (stS A F p m t a b w).1 = 0 ∨ (2 ≤ (stS A F p m t a b w).1 ∧ (stS A F p m t a b w).1 ≤ 4) := by
  unfold stS
  repeat' split
  all_goals (first | exact Or.inl rfl | exact Or.inr ⟨by decide, by decide⟩)
theorem fre_wl {A : Nat → Int32} {p c : Nat} (h : fre A p c = true) : wl A c = 0 := (of_decide_eq_true h).1
/-- A FRAME of the reference: fields K of its object and cells S may change -/
def Fm (K S : List Nat) (g g' : G) : Prop := Fi (136 :: S) g g' ∧ ∀ k, k ∉ K → gI g' 136 k = gI g 136 k
section FMS
variable {K S K' S' : List Nat} {g h k : G}
theorem Fm.rf : Fm K S g g := ⟨Fi.rf, fun _ _ => rfl⟩
theorem Fm.tr (x : Fm K S g h) (y : Fm K S h k) : Fm K S g k := ⟨x.1.tr y.1, fun j hj => (y.2 j hj).trans (x.2 j hj)⟩
theorem Fm.mono (x : Fm K S g h) (hk : ∀ a ∈ K, a ∈ K') (hs : ∀ a ∈ S, a ∈ S') : Fm K' S' g h := ⟨x.1.mono (fun a ha => (List.mem_cons.mp ha).elim (fun e => e ▸ List.mem_cons_self) (fun q => List.mem_cons_of_mem _ (hs a q))), fun j hj => x.2 j (fun q => hj (hk j q))⟩
theorem Fm.of (x : Fi S g h) (hs : 136 ∉ S) : Fm K S g h := ⟨x.mono (fun a ha => List.mem_cons_of_mem _ ha), fun j _ => congrFun (x.I hs) j⟩
theorem Fm.sf (x : Fm K S g h) {j : Nat} {v : Int32} (hj : j ∈ K) : Fm K S g (sI h 136 j v) := ⟨x.1.si List.mem_cons_self, fun i hi => by
  have hne : i ≠ j := fun e => hi (e ▸ hj)
  rw [gI_sIs, pk_un hne]
  exact x.2 i hi⟩
theorem Fm.si (x : Fm K S g h) {a j : Nat} {v : Int32} (ha : a ∈ S) (hn : 136 ≠ a) : Fm K S g (sI h a j v) := ⟨x.1.si (List.mem_cons_of_mem _ ha), fun i hi => by rw [gI_sIn hn]; exact x.2 i hi⟩
theorem Fm.sl (x : Fm K S g h) {a j : Nat} {v : Int64} (ha : a ∈ S) : Fm K S g (sL h a j v) := ⟨x.1.sl (List.mem_cons_of_mem _ ha), fun i hi => x.2 i hi⟩
theorem Fm.I (x : Fm K S g h) {a : Nat} (ha : a ∉ 136 :: S) : gI h a = gI g a := x.1.I ha
theorem Fm.L (x : Fm K S g h) {a : Nat} (ha : a ∉ 136 :: S) : gL h a = gL g a := x.1.L ha
theorem Fm.R (x : Fm K S g h) : gR h = gR g := x.1.R
theorem Fm.f (x : Fm K S g h) {j : Nat} (hj : j ∉ K) : gI h 136 j = gI g 136 j := x.2 j hj
theorem Sh.fm (hs : Sh g) (x : Fm K S g h) : Sh h := Sh.fi x.1 hs
end FMS
/-- the reference's row all is A, and well told -/
def RS (A : Nat → Int32) (g : G) : Prop := Sh g ∧ gI g 137 = A ∧ Dm A ∧ VB A (bo A) ∧ LW A
section RST
variable {A : Nat → Int32} {g g' : G} {K S : List Nat}
theorem RS.fm (h : RS A g) (x : Fm K S g g') (hs : 137 ∉ 136 :: S) : RS A g' := ⟨h.1.fm x, (x.I hs).trans h.2.1, h.2.2⟩
theorem RS.fi (h : RS A g) (x : Fi S g g') (hs : 137 ∉ S) : RS A g' := ⟨Sh.fi x h.1, (x.I hs).trans h.2.1, h.2.2⟩
theorem RS.cl (h : RS A g) : 1 ≤ cS A ∧ cS A ≤ 36 := cS_le h.2.2.1
theorem RS.k3 (h : RS A g) : nv A 3 ≤ 3 := h.2.2.1.2.2.2.2.2.2.2
theorem R_apart (h : RS A g) {a b : Nat} (ha : a < 100) (hb : b < 100) : f_X12_apart 136 (nI a) (nI b) g = some (nI (apS (nv A 2) a b), g) := by
  obtain ⟨h1, rfl, h3, h4, h5⟩ := h
  exact r_apart h1 h3 ha hb
theorem R_cells (h : RS A g) : f_X12_cells 136 g = some (nI (cS A), g) := by
  obtain ⟨h1, rfl, h3, h4, h5⟩ := h
  exact r_cells h1 h3
theorem R_isCell (h : RS A g) (v : Int64) : f_X12_isCell 136 v g = some (inL v (cS A), g) := by
  obtain ⟨h1, rfl, h3, h4, h5⟩ := h
  exact r_isCell h1 h3 v
theorem R_isPair (h : RS A g) (v : Int64) : f_X12_isPair 136 v g = some (inL v (nv A 3), g) := by
  obtain ⟨h1, rfl, h3, h4, h5⟩ := h
  exact r_isPair h1 h3 v
theorem R_beside (h : RS A g) {c w : Nat} (hc : c < cS A) (hw : w < 4) : f_X12_beside 136 (nI c) (nI w) g = some (oI (besS (nv A 1) (nv A 2) c w), g) := by
  obtain ⟨h1, rfl, h3, h4, h5⟩ := h
  exact r_beside h1 h3 hc hw
theorem R_twinOf (h : RS A g) {p t : Nat} (hp : p < nv A 3) (ht : t < 2) : f_X12_twinOf 136 (nI p) (nI t) g = some (nI (tw A (2 * p + t)), g) := by
  obtain ⟨h1, rfl, h3, h4, h5⟩ := h
  exact r_twinOf h1 h3 h4 hp ht
theorem R_heightOf (h : RS A g) {c : Nat} (hc : c < 36) : f_X12_heightOf 136 (nI c) g = some (nI (hgt A c), g) := by
  obtain ⟨h1, rfl, h3, h4, h5⟩ := h
  exact r_heightOf h1 h3 h4 h5.1 hc
theorem R_twinsIn (h : RS A g) {c : Nat} (hc : c < 36) (q : Nat → Bool) (b : Int32) (hq : ∀ i, i < 6 → (nI (i / 2) = b ↔ q i = false)) : f_X12_twinsIn 136 (nI c) b g = some (nI (cT A c q (2 * nv A 3)), g) := by
  obtain ⟨h1, rfl, h3, h4, h5⟩ := h
  exact r_twinsIn h1 h3 h4 hc q b hq
theorem R_isFree (h : RS A g) {p c : Nat} (hp : p < 3) (hc : c < 36) : f_X12_isFree 136 (nI p) (nI c) g = some (fre A p c, g) := by
  obtain ⟨h1, rfl, h3, h4, h5⟩ := h
  exact r_isFree h1 h3 h4 hp hc
theorem R_mayGo (h : RS A g) {p t a c : Nat} (hp1 : p < nv A 3) (ht : t < 2) (ha : a < cS A) (hc : c < cS A) (wa : wl A a = 0) (wc : wl A c = 0) : ∃ g', f_X12_mayGo 136 (nI p) (nI t) (nI a) (nI c) g = some (may A p (md A p) t a c, g') ∧ Fi [141, 142] g g' := by
  obtain ⟨h1, rfl, h3, h4, h5⟩ := h
  exact r_mayGo h1 h3 h4 h5 hp1 ht ha hc wa wc
theorem R_costOf (h : RS A g) {p t a c : Nat} (hp1 : p < nv A 3) (ht : t < 2) (ha : a < cS A) (hc : c < cS A) (wa : wl A a = 0) (wc : wl A c = 0) : ∃ g', f_X12_costOf 136 (nI p) (nI t) (nI a) (nI c) g = some (nI (cst A p (md A p) t a c), g') ∧ Fi [141, 142] g g' := by
  obtain ⟨h1, rfl, h3, h4, h5⟩ := h
  exact r_costOf h1 h3 h4 h5 hp1 ht ha hc wa wc
theorem RS.span (h : RS A g) {p : Nat} (hp : p < nv A 3) : gI g 137 (94 + p) = nI (sp A p) := by
  rw [h.2.1]
  exact h.2.2.2.1.s hp
theorem RS.tw (h : RS A g) {p t : Nat} (hp : p < nv A 3) (ht : t < 2) : tw A (2 * p + t) < cS A ∧ wl A (tw A (2 * p + t)) = 0 := (h.2.2.2.1.t (i := 2 * p + t) (by omega)).2
theorem sp_le (hA : Dm A) (hB : VB A (bo A)) {p : Nat} (hp : p < nv A 3) : sp A p ≤ 80 := by
  have cl := cS_le hA
  have t0 := (hB.t (i := 2 * p) (by omega)).2.1
  have t1 := (hB.t (i := 2 * p + 1) (by omega)).2.1
  exact apS_le hA.2.2.2.2.1 hA.2.2.2.2.2.1 (by omega) (by omega)
theorem nI_sub1 {t : Nat} (ht : t < 2) : (1 : Int32) - nI t = nI (1 - t) := pk_sub (a := 1) (b := t) (by omega)
theorem ap100 {W a b : Nat} (h0 : 0 < W) (h6 : W ≤ 6) (ha : a < 36) (hb : b < 36) : apS W a b < 2 ^ 31 := by
  have := apS_le h0 h6 ha hb
  omega
theorem r_why97 {p t b c : Nat} (hp : p < nv A 3) (ht : t < 2) (hb : b < cS A) (hc : c < cS A) (wb : wl A b = 0) : ∀ n k g, RS A g → gI g 136 17 = nI c → gI g 136 18 = oI (bst (fun d => fre A p d && decide (apS (nv A 2) c d = sp A p) && may A p (md A p) (1 - t) b d) (apS (nv A 2) b) k) → k ≤ cS A → cS A < n + k → ∃ g', f_X12_whyBy_97 n 136 (nI p) (nI t) (nI b) (nI k) g = some (nI (match bst (fun d => fre A p d && decide (apS (nv A 2) c d = sp A p) && may A p (md A p) (1 - t) b d) (apS (nv A 2) b) (cS A) with
    | none => 4
    | some _ => 0), g') ∧ Fm [18] [141, 142] g g' ∧ gI g' 136 18 = oI (bst (fun d => fre A p d && decide (apS (nv A 2) c d = sp A p) && may A p (md A p) (1 - t) b d) (apS (nv A 2) b) (cS A)) := by
  intro n
  induction n with
  | zero => intro k g _ _ _ h1 h2; omega
  | succ n ih =>
    intro k g h e17 e18 hk hn
    have cl := h.cl
    have k3 := h.k3
    have hsp := sp_le h.2.2.1 h.2.2.2.1 hp
    rw [f_X12_whyBy_97, R_cells h, bd_eq]
    rcases Nat.lt_or_ge k (cS A) with hlt | hge
    · rw [if_neg (nI_ge hlt (by omega)), e17, R_apart h (by omega) (by omega), bd_eq]
      have nx : ∀ g1, RS A g1 → Fm [18] [141, 142] g g1 → gI g1 136 18 = oI (bst (fun d => fre A p d && decide (apS (nv A 2) c d = sp A p) && may A p (md A p) (1 - t) b d) (apS (nv A 2) b) (k + 1)) → ∃ g', f_X12_whyBy_191 (f_X12_whyBy_97 n) 136 (nI p) (nI t) (nI b) (nI k) g1 = some (nI (match bst (fun d => fre A p d && decide (apS (nv A 2) c d = sp A p) && may A p (md A p) (1 - t) b d) (apS (nv A 2) b) (cS A) with
    | none => 4
    | some _ => 0), g') ∧ Fm [18] [141, 142] g g' ∧ gI g' 136 18 = oI (bst (fun d => fre A p d && decide (apS (nv A 2) c d = sp A p) && may A p (md A p) (1 - t) b d) (apS (nv A 2) b) (cS A)) := by
        intro g1 h1 f1 e1
        obtain ⟨g', q1, q2, q3⟩ := ih (k + 1) g1 h1 ((f1.f (by decide)).trans e17) e1 hlt (by omega)
        refine ⟨g', ?_, f1.tr q2, q3⟩
        rw [f_X12_whyBy_191, nI_1]
        exact q1
      simp only [↓md136_1 h.1, ↓gk137 h.1, sn137 h.1, show (94 : Int32) + nI p = nI (94 + p) from nI_add 94 p]
      rw [gdI_nI (by omega) (by decide), nI_clamp (by omega), h.span hp]
      generalize hP : (fun d => fre A p d && decide (apS (nv A 2) c d = sp A p) && may A p (md A p) (1 - t) b d) = P at *
      have hPk : P k = (fre A p k && decide (apS (nv A 2) c k = sp A p) && may A p (md A p) (1 - t) b k) := by rw [← hP]
      have a1 := ap100 h.2.2.1.2.2.2.2.1 h.2.2.1.2.2.2.2.2.1 (show c < 36 by omega) (show k < 36 by omega)
      have no : P k = false → gI g 136 18 = oI (bst P (apS (nv A 2) b) (k + 1)) := fun q => by
        rw [e18]
        congr 1
        rw [bst, q]
        cases bst P (apS (nv A 2) b) k with
        | none => rfl
        | some x =>
          dsimp only
          rw [if_neg (fun z => Bool.false_ne_true z.1)]
      by_cases z1 : apS (nv A 2) c k = sp A p
      · rw [if_pos (by rw [z1]), R_isFree h (by omega) (by omega), bd_eq]
        cases z2 : fre A p k with
        | false =>
          rw [ibF]
          exact nx g h Fm.rf (no (by rw [hPk, z2]; rfl))
        | true =>
          rw [ibT, nI_sub1 ht]
          obtain ⟨g2, q1, q2⟩ := R_mayGo h hp (show 1 - t < 2 by omega) hb hlt wb (fre_wl z2)
          rw [q1, bd_eq]
          have h2 := h.fi q2 (by decide)
          have f2 : Fm [18] [141, 142] g g2 := Fm.of q2 (by decide)
          have e2 : gI g2 136 18 = oI (bst P (apS (nv A 2) b) k) := by
            rw [q2.I (by decide)]
            exact e18
          cases z3 : may A p (md A p) (1 - t) b k with
          | false =>
            rw [ibF]
            exact nx g2 h2 f2 (by
              rw [e2, ← e18]
              exact no (by rw [hPk, z3, Bool.and_false]))
          | true =>
            have z4 : P k = true := by
              rw [hPk, z2, z3, decide_eq_true z1]
              rfl
            have put : gI (sI g2 136 18 (nI k)) 136 18 = nI k := by
              rw [gI_sIs]
              exact pk_us
            have f3 : Fm [18] [141, 142] g (sI g2 136 18 (nI k)) := f2.sf (by decide)
            have h3 : RS A (sI g2 136 18 (nI k)) := h.fm f3 (by decide)
            rw [ibT, e2]
            cases z5 : bst P (apS (nv A 2) b) k with
            | none =>
              rw [ioN, f_X12_whyBy_185, lg]
              exact nx _ h3 f3 (by rw [put, bst, z5]; dsimp only; rw [if_pos z4]; rfl)
            | some x =>
              obtain ⟨x1, x2, x3⟩ := bst_some z5
              have a2 := ap100 h.2.2.1.2.2.2.2.1 h.2.2.1.2.2.2.2.2.1 (show b < 36 by omega) (show k < 36 by omega)
              have a3 := ap100 h.2.2.1.2.2.2.2.1 h.2.2.1.2.2.2.2.2.1 (show b < 36 by omega) (show x < 36 by omega)
              rw [ioS (by omega), R_apart h2 (by omega) (by omega), bd_eq, e2, z5]
              rw [show oI (some x) = nI x from rfl, R_apart h2 (by omega) (by omega), bd_eq]
              by_cases z6 : apS (nv A 2) b x ≤ apS (nv A 2) b k
              · rw [if_pos (nI_le z6 (by omega))]
                exact nx g2 h2 f2 (by
                  rw [e2, z5]
                  congr 1
                  rw [bst, z5]
                  dsimp only
                  rw [if_neg (fun z => by omega)])
              · rw [if_neg (nI_ge (by omega) (by omega)), f_X12_whyBy_185, lg]
                exact nx _ h3 f3 (by
                  rw [put, bst, z5]
                  dsimp only
                  rw [if_pos ⟨z4, by omega⟩]
                  rfl)
      · rw [if_neg (fun z => z1 ((nI_eq (by omega) (by omega)).mp z))]
        exact nx g h Fm.rf (no (by rw [hPk, decide_eq_false z1, Bool.and_false]; rfl))
    · have hkk : k = cS A := by omega
      subst hkk
      rw [if_pos (nI_le (Nat.le_refl _) (by omega)), e18]
      refine ⟨g, ?_, Fm.rf, e18⟩
      cases z5 : bst (fun d => fre A p d && decide (apS (nv A 2) c d = sp A p) && may A p (md A p) (1 - t) b d) (apS (nv A 2) b) (cS A) with
      | none => rw [ioN]; rfl
      | some x =>
        obtain ⟨x1, -, -⟩ := bst_some z5
        rw [ioS (by omega)]
        rfl
theorem r_whyBy (h : RS A g) {p t a b w : Nat} (hp : p < nv A 3) (ht : t < 2) (ha : a < cS A) (hb : b < cS A) (hw : w < 4) (wa : wl A a = 0) (wb : wl A b = 0) : ∃ g', f_X12_whyBy 136 (nI p) (nI t) (nI a) (nI b) (nI w) g = some (nI (stS A (fre A p) p (md A p) t a b w).1, g') ∧ Fm [17, 18] [141, 142] g g' ∧ ((stS A (fre A p) p (md A p) t a b w).1 = 0 → gI g' 136 17 = nI (stS A (fre A p) p (md A p) t a b w).2.1 ∧ gI g' 136 18 = nI (stS A (fre A p) p (md A p) t a b w).2.2) := by
  have cl := h.cl
  have k3 := h.k3
  have hsp := sp_le h.2.2.1 h.2.2.2.1 hp
  rw [f_X12_whyBy, R_beside h ha hw, bd_eq, lg]
  cases hc : besS (nv A 1) (nv A 2) a w with
  | none =>
    have e : stS A (fre A p) p (md A p) t a b w = (2, 0, 0) := by
      unfold stS
      rw [hc]
    rw [e]
    refine ⟨sI g 136 17 (-1), ?_, Fm.rf.sf (by decide), fun z => by cases z⟩
    rw [gI_sIs, pk_us, ioN]
    rfl
  | some c =>
    have hcC : c < cS A := besS_lt h.2.2.1.2.2.2.2.1 ha hc
    have f1 : Fm [17, 18] [141, 142] g (sI g 136 17 (nI c)) := Fm.rf.sf (by decide)
    have h1 : RS A (sI g 136 17 (nI c)) := h.fm f1 (by decide)
    have e1 : gI (sI g 136 17 (nI c)) 136 17 = nI c := by
      rw [gI_sIs]
      exact pk_us
    rw [show oI (some c) = nI c from rfl]
    generalize sI g 136 17 (nI c) = g1 at *
    rw [e1, if_neg (nI_ne1 (by omega)), R_isFree h1 (by omega) (by omega), bd_eq]
    have hS : stS A (fre A p) p (md A p) t a b w = if fre A p c = true then (if may A p (md A p) t a c = true then (match dwS A (fre A p) p (md A p) (1 - t) b c with
        | none => (4, 0, 0)
        | some d => (0, c, d)) else (3, 0, 0)) else (2, 0, 0) := by
      unfold stS
      rw [hc]
    rw [hS]
    cases z1 : fre A p c with
    | false =>
      rw [ibF, if_neg Bool.false_ne_true]
      exact ⟨g1, rfl, f1, fun z => by cases z⟩
    | true =>
      obtain ⟨g2, q1, q2⟩ := R_mayGo h1 hp ht ha hcC wa (fre_wl z1)
      rw [ibT, e1, q1, bd_eq, if_pos (rfl : true = true)]
      have f2 : Fm [17, 18] [141, 142] g g2 := f1.tr (Fm.of q2 (by decide))
      have e2 : gI g2 136 17 = nI c := by
        rw [q2.I (by decide)]
        exact e1
      cases z2 : may A p (md A p) t a c with
      | false =>
        rw [ibF, if_neg Bool.false_ne_true]
        exact ⟨g2, rfl, f2, fun z => by cases z⟩
      | true =>
        rw [ibT, if_pos (rfl : true = true), lg]
        have f3 : Fm [17, 18] [141, 142] g (sI g2 136 18 (nI b)) := f2.sf (by decide)
        have h3 : RS A (sI g2 136 18 (nI b)) := h.fm f3 (by decide)
        have e3 : gI (sI g2 136 18 (nI b)) 136 17 = nI c := by
          rw [gI_sIs, pk_un (by decide)]
          exact e2
        have d3 : gI (sI g2 136 18 (nI b)) 136 18 = nI b := by
          rw [gI_sIs]
          exact pk_us
        generalize sI g2 136 18 (nI b) = g3 at *
        rw [R_isFree h3 (by omega) (by omega), bd_eq]
        have tail : ¬ (fre A p b = true ∧ apS (nv A 2) c b = sp A p) → ∃ g', f_X12_whyBy_89 136 (nI p) (nI t) (nI b) g3 = some (nI (match dwS A (fre A p) p (md A p) (1 - t) b c with
            | none => ((4, 0, 0) : Nat × Nat × Nat)
            | some d => (0, c, d)).1, g') ∧ Fm [17, 18] [141, 142] g g' ∧ ((match dwS A (fre A p) p (md A p) (1 - t) b c with
            | none => ((4, 0, 0) : Nat × Nat × Nat)
            | some d => (0, c, d)).1 = 0 → gI g' 136 17 = nI (match dwS A (fre A p) p (md A p) (1 - t) b c with
            | none => ((4, 0, 0) : Nat × Nat × Nat)
            | some d => (0, c, d)).2.1 ∧ gI g' 136 18 = nI (match dwS A (fre A p) p (md A p) (1 - t) b c with
            | none => ((4, 0, 0) : Nat × Nat × Nat)
            | some d => (0, c, d)).2.2) := fun hn => by
          have f4 : Fm [17, 18] [141, 142] g (sI g3 136 18 (-1)) := f3.sf (by decide)
          have e4 : gI (sI g3 136 18 (-1)) 136 17 = nI c := by
            rw [gI_sIs, pk_un (by decide)]
            exact e3
          obtain ⟨g', q1, q2, q3⟩ := r_why97 hp ht hb hcC wb FU 0 (sI g3 136 18 (-1)) (h.fm f4 (by decide)) e4 (by
            rw [gI_sIs]
            exact pk_us) (Nat.zero_le _) (by have := @FU_gt 40 (by decide); omega)
          have hd : dwS A (fre A p) p (md A p) (1 - t) b c = bst (fun d => fre A p d && decide (apS (nv A 2) c d = sp A p) && may A p (md A p) (1 - t) b d) (apS (nv A 2) b) (cS A) := by
            unfold dwS
            rw [if_neg hn]
          rw [f_X12_whyBy_89, lg]
          rw [← hd] at q1 q3
          have f5 : Fm [17, 18] [141, 142] g g' := f4.tr (q2.mono (by decide) (by decide))
          refine ⟨g', ?_, f5, ?_⟩
          · rw [show (0 : Int32) = nI 0 from rfl, q1]
            cases dwS A (fre A p) p (md A p) (1 - t) b c <;> rfl
          · revert q3
            cases dwS A (fre A p) p (md A p) (1 - t) b c with
            | none => intro _ z; cases z
            | some d => exact fun q3 _ => ⟨(q2.f (by decide)).trans e4, q3⟩
        cases z3 : fre A p b with
        | false =>
          rw [ibF]
          exact tail (fun z => by rw [z3] at z; cases z.1)
        | true =>
          rw [ibT, e3, R_apart h3 (by omega) (by omega), bd_eq]
          simp only [↓md136_1 h3.1, ↓gk137 h3.1, sn137 h3.1, show (94 : Int32) + nI p = nI (94 + p) from nI_add 94 p]
          rw [gdI_nI (by omega) (by decide), nI_clamp (by omega), h3.span hp]
          have a1 := ap100 h.2.2.1.2.2.2.2.1 h.2.2.1.2.2.2.2.2.1 (show c < 36 by omega) (show b < 36 by omega)
          by_cases z4 : apS (nv A 2) c b = sp A p
          · rw [if_pos (by rw [z4])]
            have hd : dwS A (fre A p) p (md A p) (1 - t) b c = some b := by
              unfold dwS
              rw [if_pos ⟨z3, z4⟩]
            rw [hd]
            exact ⟨g3, rfl, f3, fun _ => ⟨e3, d3⟩⟩
          · rw [if_neg (fun z => z4 ((nI_eq (by omega) (by omega)).mp z))]
            exact tail (fun z => z4 z.2)
end RST
