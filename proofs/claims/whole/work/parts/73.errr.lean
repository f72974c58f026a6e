/-! ERRANDS, THE REFERENCE: over stands, and which are done. -/
section ERR
/-- a lead leads elsewhere -/
theorem besS_ne {R W a w c : Nat} (h0 : 0 < W) (h : besS R W a w = some c) : c ≠ a := by
  intro e
  subst e
  unfold besS at h
  split at h
  · split at h
    · cases h
    · next z =>
      have h1 := Option.some.inj h
      have : W ≤ c := by
        rcases Nat.lt_or_ge c W with u | u
        · exact absurd (Nat.div_eq_of_lt u) z
        · exact u
      omega
  · split at h
    · split at h
      · have := Option.some.inj h
        omega
      · cases h
    · split at h
      · split at h
        · have := Option.some.inj h
          omega
        · cases h
      · split at h
        · cases h
        · next z =>
          have h1 := Option.some.inj h
          have : c ≠ 0 := fun u => z (by rw [u]; exact Nat.zero_mod _)
          omega
theorem nx_ne {A : Nat → Int32} {F : Nat → Bool} {p m c l y : Nat} (hA : Dm A) (h1 : c / 36 < cS A) (h2 : c % 36 < cS A) (h : nxS A F p m c l = some y) : y ≠ c := by
  have cl := cS_le hA
  unfold nxS at h
  split at h
  · next e =>
    obtain ⟨s1, s2, s3, s4, s5, s6⟩ := stS_ok hA (ow_lt h1 h2) (ow_lt h2 h1) e
    have hy := Option.some.inj h
    have ne := besS_ne hA.2.2.2.2.1 s6
    have o2 := ow_lt (t := l / 4) s2 s1
    generalize stS A F p m (l / 4) (ow (l / 4) (c / 36) (c % 36)) (ow (l / 4) (c % 36) (c / 36)) (l % 4) = r at *
    obtain ⟨d1, d2⟩ := @cd_dm (ow (l / 4) r.2.1 r.2.2) (ow (l / 4) r.2.2 r.2.1) (by omega)
    rw [hy] at d1 d2
    intro u
    rw [u] at d1 d2
    apply ne
    unfold ow at d1 d2 ⊢
    split
    · next z =>
      rw [if_pos z] at d1
      exact d1.symm
    · next z =>
      rw [if_neg z] at d2
      exact d2.symm
  · cases h
def dnb (A : Nat → Int32) (p t y : Nat) : Nat := if A (46 + 2 * p + t) = -1 ∨ nI (ow t (y / 36) (y % 36)) = A (46 + 2 * p + t) then 2 ^ t else 0
def dnI (A : Nat → Int32) (p y d : Nat) : Nat := (d ||| dnb A p 0 y) ||| dnb A p 1 y
theorem or4 : ∀ a, a < 4 → ∀ b, b < 4 → nI a ||| nI b = nI (a ||| b) ∧ (a ||| b) < 4 := by decide +kernel
theorem dnb_lt {A : Nat → Int32} {p t y : Nat} (ht : t < 2) : dnb A p t y < 4 := by
  unfold dnb
  obtain rfl | rfl : t = 0 ∨ t = 1 := by omega
  · split <;> decide
  · split <;> decide
theorem dnI_lt {A : Nat → Int32} {p y d : Nat} (hd : d < 4) : dnI A p y d < 4 := (or4 _ (or4 _ hd _ (dnb_lt (by decide))).2 _ (dnb_lt (by decide))).2
variable {A : Nat → Int32} {g g' : G} {p : Nat}
theorem r_dn6 (h : RS A g) (hp : p < nv A 3) {y x t n : Nat} (hy : y < 1296) (hx : x < 4) (ht : t < 2) : f_X12_doneIn_6 (n + 1) 136 (nI p) (nI y) (nI x) (nI t) g = f_X12_doneIn_6 n 136 (nI p) (nI y) (nI (x ||| dnb A p t y)) (nI (t + 1)) g := by
  have hs := h.1
  have k3 := h.k3
  have c63 : ∀ z, z < 4 → f_X12_doneIn_63 (f_X12_doneIn_6 n) 136 (nI p) (nI y) (nI t) (nI z) (nI x) g = f_X12_doneIn_6 n 136 (nI p) (nI y) (nI (x ||| z)) (nI (t + 1)) g := fun z hz => by
    rw [f_X12_doneIn_63, li, (or4 x hx z hz).1, lad1]
  have c55 : f_X12_doneIn_55 (f_X12_doneIn_6 n) 136 (nI p) (nI y) (nI t) (nI x) g = f_X12_doneIn_6 n 136 (nI p) (nI y) (nI (x ||| 2 ^ t)) (nI (t + 1)) g := by
    rw [f_X12_doneIn_55, ← c63 (2 ^ t) (by obtain rfl | rfl : t = 0 ∨ t = 1 := by omega
                                           · decide
                                           · decide)]
    obtain rfl | rfl : t = 0 ∨ t = 1 := by omega
    · rfl
    · rfl
  rw [f_X12_doneIn_6, if_neg (lnge2 ht), md136_1 hs, gk137 hs, sn137 hs, lum2, show (46 : Int32) = nI 46 from rfl, nI_add, nI_add, gdI_nI (by omega) (by decide), nI_clamp (by omega), h.2.1]
  unfold dnb
  by_cases z : A (46 + 2 * p + t) = -1
  · rw [if_pos z, if_pos (Or.inl z), c55]
  · rw [if_neg z, r_inStand hy ht, bd_eq, md136_1 hs, gk137 hs, sn137 hs, gdI_nI (by omega) (by decide), h.2.1]
    by_cases w : nI (ow t (y / 36) (y % 36)) = A (46 + 2 * p + t)
    · rw [if_pos w, if_pos (Or.inr w), c55]
    · rw [if_neg w, if_neg (fun u => u.elim z w), show (0 : Int32) = nI 0 from rfl, c63 0 (by decide)]
theorem r_doneIn (h : RS A g) (hp : p < nv A 3) {y d : Nat} (hy : y < 1296) (hd : d < 4) : f_X12_doneIn 136 (nI p) (nI y) (nI d) g = some (nI (dnI A p y d), g) := by
  have d1 := (or4 d hd _ (dnb_lt (A := A) (p := p) (y := y) (t := 0) (by decide))).2
  rw [f_X12_doneIn, show FU = 999997 + 1 + 1 + 1 from rfl, show (0 : Int32) = nI 0 from rfl, r_dn6 h hp hy hd (by decide), r_dn6 h hp hy d1 (by decide), f_X12_doneIn_6, if_pos (by decide)]
  rfl
def eE (A : Nat → Int32) (p k l : Nat) : Option Nat := match nxS A (fre A p) p (md A p) (k / 4) l with
  | none => none
  | some y => some (4 * y + dnI A p y (k % 4))
def eP (A : Nat → Int32) (p k : Nat) : Bool := stB A (fre A p) p (k / 4)
def SE (g : G) (v : Nat → Nat) : Prop := ∀ j, j < 5184 → gI g 147 j = nI (v j) ∧ v j ≤ 1073741824
theorem eE_n {k l : Nat} (h : nxS A (fre A p) p (md A p) (k / 4) l = none) : (eE A p) k l = none := by
  unfold eE
  rw [h]
theorem eE_s {k l y : Nat} (h : nxS A (fre A p) p (md A p) (k / 4) l = some y) : (eE A p) k l = some (4 * y + dnI A p y (k % 4)) := by
  unfold eE
  rw [h]
theorem eE_ok (hA : Dm A) {k l z : Nat} (hP : eP A p k = true) (h : (eE A p) k l = some z) : eP A p z = true ∧ z ≠ k ∧ z < 5184 := by
  obtain ⟨⟨q1, q2, -⟩, -⟩ := stB_iff.mp hP
  cases hN : nxS A (fre A p) p (md A p) (k / 4) l with
  | none =>
    rw [eE_n hN] at h
    cases h
  | some y =>
    rw [eE_s hN] at h
    have hz := Option.some.inj h
    have d4 := dnI_lt (A := A) (p := p) (y := y) (d := k % 4) (by omega)
    have y1 := nx_ok hA q1 q2 hN
    have y2 := stB_lt hA y1
    have y3 := nx_ne hA q1 q2 hN
    have z4 : z / 4 = y := by omega
    refine ⟨?_, fun e => ?_, by omega⟩
    · unfold eP
      rw [z4]
      exact y1
    · rw [e] at z4
      exact y3 z4.symm
variable {v : Nat → Nat}
theorem r_errandBy (h : RS A g) (hp : p < nv A 3) (ht : TH A p 1296 g) (hv : SE g v) {s d l : Nat} (hP : stB A (fre A p) p s = true) (hd : d < 4) (hl : l < 8) : f_X12_errandBy 136 (nI p) (nI s) (nI d) (nI l) g = some (nI (sbV (eE A p) (fun _ _ => 1) v (4 * s + d) l), g) := by
  have hA := h.2.2.1
  have hs := h.1
  have s1 := stB_lt hA hP
  obtain ⟨⟨q1, q2, -⟩, -⟩ := stB_iff.mp hP
  have t1 := ((ht s s1).2 hP l hl).1
  have k4 : (4 * s + d) / 4 = s := by omega
  have k5 : (4 * s + d) % 4 = d := by omega
  rw [f_X12_errandBy, md136_24 hs, gk145 hs, sn145 hs, lum8, nI_add, gdI_nI (by omega) (by decide), li, nI_clamp (by omega), t1]
  cases hN : nxS A (fre A p) p (md A p) s l with
  | none =>
    have e : sbV (eE A p) (fun _ _ => 1) v (4 * s + d) l = 1073741824 := by
      unfold sbV
      rw [eE_n (by rw [k4]; exact hN)]
    rw [ioN, e, lFA]
  | some y =>
    have y1 := stB_lt hA (nx_ok hA q1 q2 hN)
    have d4 := dnI_lt (A := A) (p := p) (y := y) hd
    obtain ⟨v1, v2⟩ := hv (4 * y + dnI A p y d) (by omega)
    have e : sbV (eE A p) (fun _ _ => 1) v (4 * s + d) l = if v (4 * y + dnI A p y d) = 1073741824 then 1073741824 else v (4 * y + dnI A p y d) + 1 := by
      unfold sbV
      rw [eE_s (y := y) (by rw [k4]; exact hN), k5]
    rw [ioS (by omega), md136_26 hs, show oI (some y) = nI y from rfl, r_doneIn h hp y1 hd, bd_eq, gk147 hs, sn147 hs, lum4, nI_add, gdI_nI (by omega) (by decide), li, nI_clamp (by omega), v1, e, lFA]
    by_cases z : v (4 * y + dnI A p y d) = 1073741824
    · rw [if_pos z, if_pos (by rw [z])]
    · rw [if_neg z, if_neg (fun u => z ((nI_eq (by omega) (by decide)).mp u)), lad1]
/-- whether something became less -/
def FG (fl : Nat) (cur v : Nat → Nat) : Prop := fl < 2 ∧ (fl = 0 → ∀ j, cur j = v j) ∧ (fl = 1 → ∃ j, cur j < v j) ∧ ∀ j, cur j ≤ v j
theorem FG.less {fl k x : Nat} {cur v : Nat → Nat} (h : FG fl cur v) (hx : x < cur k) : FG 1 (ins cur k x) v := by
  have hk := h.2.2.2 k
  refine ⟨by decide, fun z => (by cases z), fun _ => ⟨k, ?_⟩, fun j => ?_⟩
  · rw [ins_s]
    omega
  · by_cases e : j = k
    · rw [e, ins_s]
      omega
    · rw [ins_n e]
      exact h.2.2.2 j
theorem ins_id {f : Nat → Nat} {k : Nat} : ins f k (f k) = f := by
  funext j
  by_cases e : j = k
  · rw [e, ins_s]
  · rw [ins_n e]
theorem ins_2 {f : Nat → Nat} {k x y : Nat} : ins (ins f k x) k y = ins f k y := by
  funext j
  by_cases e : j = k
  · rw [e, ins_s, ins_s]
  · rw [ins_n e, ins_n e, ins_n e]
theorem r_er65 (hp : p < nv A 3) {u : Nat → Nat} (hu : ∀ j, u j ≤ 1073741824) {k : Nat} (hk : k < 5184) (hP : eP A p k = true) {k42 : Nat → Int32 → Int32 → G → Option (Int32 × G)} {k50 : Nat → Int32 → Int32 → Int32 → G → Option (Int32 × G)} : ∀ n l fl g, RS A g → TH A p 1296 g → SE g (ins u k (wmn u (eE A p) (fun _ _ => 1) k l)) → FG fl (ins u k (wmn u (eE A p) (fun _ _ => 1) k l)) v → l ≤ 8 → 8 < n + l → ∃ g' fl', f_X12_laysErrands_65 k42 k50 n 136 (nI p) (nI fl) (nI k) (nI (k / 4)) (nI l) g = k50 136 (nI p) (nI fl') (nI (k + 1)) g' ∧ Fi [147] g g' ∧ SE g' (ins u k (wmn u (eE A p) (fun _ _ => 1) k 8)) ∧ FG fl' (ins u k (wmn u (eE A p) (fun _ _ => 1) k 8)) v := by
  intro n
  induction n with
  | zero => intro l fl g _ _ _ _ _ h; omega
  | succ n ih =>
    intro l fl g h ht hv hf hl hn
    have hs := h.1
    have hA := h.2.2.1
    rw [f_X12_laysErrands_65]
    rcases Nat.lt_or_ge l 8 with z | z
    · have s1 : k / 4 < 1296 := by omega
      have cut := wmn_cut (E := (eE A p)) (w := fun _ _ => 1) hu k l
      have wl := wmn_le u (eE A p) (fun _ _ => 1) k l
      have uk := hu k
      have same : sbV (eE A p) (fun _ _ => 1) (ins u k (wmn u (eE A p) (fun _ _ => 1) k l)) k l = sbV (eE A p) (fun _ _ => 1) u k l := by
        unfold sbV
        cases he : (eE A p) k l with
        | none => rfl
        | some y =>
          have := (eE_ok hA hP he).2.1
          dsimp only
          rw [ins_n this]
      have sb31 : sbV (eE A p) (fun _ _ => 1) u k l < 2 ^ 31 := by
        unfold sbV
        split
        · decide
        · next y _ =>
          have := hu y
          dsimp only
          split <;> omega
      have k4 : 4 * (k / 4) + k % 4 = k := by omega
      have by1 := r_errandBy h hp ht hv (s := k / 4) (d := k % 4) hP (by omega) z
      rw [k4, same] at by1
      rw [if_neg (lnge8 z), md136_23 hs, gk144 hs, sn144 hs, gdI_nI s1 (by decide), nI_clamp (by omega), (ht _ s1).1, show stB A (fre A p) p (k / 4) = true from hP, ibT, ldi4 (by omega), lmo4, by1, bd_eq, md136_26 hs, gk147 hs, sn147 hs, gdI_nI hk (by decide), nI_clamp (by omega), (hv k hk).1, ins_s]
      by_cases w : sbV (eE A p) (fun _ _ => 1) u k l < wmn u (eE A p) (fun _ _ => 1) k l
      · rw [if_neg (by omega)] at cut
        have x1 : Fi [147] g (sI g 147 k (nI (sbV (eE A p) (fun _ _ => 1) u k l))) := Fi.rf.si (by decide)
        have r := ih (l + 1) 1 (sI g 147 k (nI (sbV (eE A p) (fun _ _ => 1) u k l))) (h.fi x1 (by decide)) (ht.fi x1 (by decide) (by decide) (by decide)) (by
          rw [cut]
          intro j hj
          rw [gI_sIs]
          by_cases e : j = k
          · rw [e, pk_us, ins_s]
            exact ⟨rfl, by omega⟩
          · rw [pk_un e, ins_n e]
            have := hv j hj
            rw [ins_n e] at this
            exact this) (by
          rw [cut, ← ins_2 (f := u) (x := wmn u (eE A p) (fun _ _ => 1) k l)]
          exact hf.less (by rw [ins_s]; exact w)) (by omega) (by omega)
        obtain ⟨g2, fl', r1, r2, r3⟩ := r
        rw [if_pos (nI_lt w (by omega)), by1, bd_eq, sn147 hs, gdI_nI hk (by decide), lg, f_X12_laysErrands_126, lad1]
        exact ⟨g2, fl', r1, x1.tr r2, r3⟩
      · rw [if_pos (by omega)] at cut
        rw [if_neg (nI_nlt (by omega) sb31), f_X12_laysErrands_126, lad1]
        exact ih (l + 1) fl g h ht (by rw [cut]; exact hv) (by rw [cut]; exact hf) (by omega) (by omega)
    · have : l = 8 := by omega
      subst this
      rw [if_pos (lle8 (by decide) (by decide)), f_X12_laysErrands_132, lad1]
      exact ⟨g, fl, rfl, Fi.rf, hv, hf⟩
theorem r_er50 (hp : p < nv A 3) (hv2 : ∀ j, v j ≤ 1073741824) {k42 : Nat → Int32 → Int32 → G → Option (Int32 × G)} : ∀ n k fl g, RS A g → TH A p 1296 g → SE g (sw_p (wgT (eP A p) (eE A p) (fun _ _ => 1)) id k v) → FG fl (sw_p (wgT (eP A p) (eE A p) (fun _ _ => 1)) id k v) v → k ≤ 5184 → 5184 < n + k → ∃ g' fl' V, f_X12_laysErrands_50 k42 n 136 (nI p) (nI fl) (nI k) g = k42 136 (nI p) (nI fl') g' ∧ Fi [147] g g' ∧ SE g' V ∧ FG fl' V v ∧ V = sw_p (wgT (eP A p) (eE A p) (fun _ _ => 1)) id 5184 v := by
  intro n
  induction n with
  | zero => intro k fl g _ _ _ _ _ h; omega
  | succ n ih =>
    intro k fl g h ht hv hf hk hn
    have hs := h.1
    rw [f_X12_laysErrands_50]
    rcases Nat.lt_or_ge k 5184 with z | z
    · have le : ∀ j, sw_p (wgT (eP A p) (eE A p) (fun _ _ => 1)) id k v j ≤ 1073741824 := fun j => Nat.le_trans (sw_dec wgT_dc k v j) (hv2 j)
      rw [if_neg (lnge5184 z), ldi4 (by omega), li]
      cases hP : eP A p k with
      | false =>
        have s1 : k / 4 < 1296 := by omega
        have es : sw_p (wgT (eP A p) (eE A p) (fun _ _ => 1)) id (k + 1) v = sw_p (wgT (eP A p) (eE A p) (fun _ _ => 1)) id k v := by
          funext j
          show (if id j = k then (wgT (eP A p) (eE A p) (fun _ _ => 1)) (sw_p (wgT (eP A p) (eE A p) (fun _ _ => 1)) id k v) j else sw_p (wgT (eP A p) (eE A p) (fun _ _ => 1)) id k v j) = _
          split
          · next e =>
            have e' : j = k := e
            rw [e']
            unfold wgT
            rw [if_neg (by rw [hP]; decide)]
          · rfl
        have f8 : FU = 999999 + 1 := rfl
        rw [f8, f_X12_laysErrands_65, if_neg (by decide), md136_23 hs, gk144 hs, sn144 hs, gdI_nI s1 (by decide), nI_clamp (by omega), (ht _ s1).1, show stB A (fre A p) p (k / 4) = false from hP, ibF, f_X12_laysErrands_132, lad1]
        exact ih (k + 1) fl g h ht (by rw [es]; exact hv) (by rw [es]; exact hf) (by omega) (by omega)
      | true =>
        have es : sw_p (wgT (eP A p) (eE A p) (fun _ _ => 1)) id (k + 1) v = ins (sw_p (wgT (eP A p) (eE A p) (fun _ _ => 1)) id k v) k (wmn (sw_p (wgT (eP A p) (eE A p) (fun _ _ => 1)) id k v) (eE A p) (fun _ _ => 1) k 8) := by
          funext j
          show (if id j = k then (wgT (eP A p) (eE A p) (fun _ _ => 1)) (sw_p (wgT (eP A p) (eE A p) (fun _ _ => 1)) id k v) j else sw_p (wgT (eP A p) (eE A p) (fun _ _ => 1)) id k v j) = _
          by_cases e : j = k
          · rw [if_pos (show id j = k from e), e, ins_s]
            exact if_pos hP
          · rw [if_neg (show ¬ id j = k from e), ins_n e]
        have z0 : ins (sw_p (wgT (eP A p) (eE A p) (fun _ _ => 1)) id k v) k (wmn (sw_p (wgT (eP A p) (eE A p) (fun _ _ => 1)) id k v) (eE A p) (fun _ _ => 1) k 0) = sw_p (wgT (eP A p) (eE A p) (fun _ _ => 1)) id k v := ins_id
        obtain ⟨g1, fl1, r1, r2, r3, r4⟩ := r_er65 hp le z hP (k42 := k42) (k50 := f_X12_laysErrands_50 k42 n) FU 0 fl g h ht (by rw [z0]; exact hv) (by rw [z0]; exact hf) (by decide) (by have := @FU_gt 8 (by decide); omega)
        rw [show (0 : Int32) = nI 0 from rfl, r1]
        obtain ⟨g2, fl2, V, t1, t2, t3⟩ := ih (k + 1) fl1 g1 (h.fi r2 (by decide)) (ht.fi r2 (by decide) (by decide) (by decide)) (by rw [es]; exact r3) (by rw [es]; exact r4) (by omega) (by omega)
        exact ⟨g2, fl2, V, t1, r2.tr t2, t3⟩
    · have : k = 5184 := by omega
      rw [if_pos (lle5184 z (by omega))]
      exact ⟨g, fl, _, rfl, Fi.rf, hv, hf, by rw [this]⟩
def v0E (k : Nat) : Nat := if k % 4 = 3 then 0 else 1073741824
theorem v0E_le (k : Nat) : v0E k ≤ 1073741824 := by
  unfold v0E
  split <;> omega
def M5 : Nat := 5184
def LE (A : Nat → Int32) (p : Nat) : Nat → Nat := wL (eP A p) (eE A p) (fun _ _ => 1) M5 M5 v0E
theorem eP_lt (hA : Dm A) {x : Nat} (h : eP A p x = true) : x < M5 := by
  have := stB_lt hA h
  show x < 5184
  omega
/-- where it ends -/
def eN (A : Nat → Int32) (p : Nat) : Nat := 4 * (36 * tw A (2 * p) + tw A (2 * p + 1)) + dnI A p (36 * tw A (2 * p) + tw A (2 * p + 1)) (dn A p)
theorem eN_lt (h : RS A g) (hp : p < nv A 3) : eN A p < 5184 ∧ eN A p / 4 = 36 * tw A (2 * p) + tw A (2 * p + 1) ∧ eN A p % 4 = dnI A p (36 * tw A (2 * p) + tw A (2 * p + 1)) (dn A p) := by
  obtain ⟨-, -, y1⟩ := now_lt h hp
  have := dnI_lt (A := A) (p := p) (y := 36 * tw A (2 * p) + tw A (2 * p + 1)) (d := dn A p) (by have := (h.2.2.2.1.o hp).2; omega)
  unfold eN
  omega
theorem r_er42 (hp : p < nv A 3) {M : Nat} (hM5 : M = M5) : ∀ n k g, RS A g → TH A p 1296 g → SE g (itN (sw_p (wgT (eP A p) (eE A p) (fun _ _ => 1)) id M) k v0E) → 5200 < n + k → k ≤ M → ∃ g', f_X12_laysErrands_42 n 136 (nI p) 1 g = some (nI (LE A p (eN A p)), g') ∧ Fi [147] g g' ∧ SE g' (LE A p) := by
  have m51 : M = 5184 := hM5
  intro n
  induction n with
  | zero => intro k g _ _ _ h1 h2; omega
  | succ n ih =>
    intro k g h ht hv hn hk
    have hA := h.2.2.1
    have hL : LE A p = itN (sw_j (wgT (eP A p) (eE A p) (fun _ _ => 1)) id M) M v0E := by
      rw [hM5]
      rfl
    have hM : ∀ j, id j < M → (wgT (eP A p) (eE A p) (fun _ _ => 1)) (itN (sw_j (wgT (eP A p) (eE A p) (fun _ _ => 1)) id M) M v0E) j = itN (sw_j (wgT (eP A p) (eE A p) (fun _ _ => 1)) id M) M v0E j := fun j hj => by
      have := wL_fix (P := eP A p) (E := eE A p) (w := fun _ _ => 1) (n := M) (M := M) (fun s l => Nat.one_pos) (fun x hx => by rw [hM5]; exact eP_lt hA hx) (cntB_le _ _) v0E hj
      exact this
    have le : ∀ k j, itN (sw_p (wgT (eP A p) (eE A p) (fun _ _ => 1)) id M) k v0E j ≤ 1073741824 := fun k j => by
      induction k generalizing j with
      | zero => exact v0E_le j
      | succ k ihk => exact Nat.le_trans (sw_dec wgT_dc M _ j) (ihk j)
    obtain ⟨g1, fl, V, r1, r2, r3, r4, r5⟩ := r_er50 hp (le k) (k42 := f_X12_laysErrands_42 n) FU 0 0 g h ht hv ⟨by decide, fun _ j => rfl, fun q => (by cases q), fun j => Nat.le_refl _⟩ (by decide) (by have := @FU_gt 5184 (by decide); omega)
    rw [← m51] at r5
    have h1 := h.fi r2 (by decide)
    have ht1 := ht.fi r2 (by decide) (by decide) (by decide)
    rw [f_X12_laysErrands_42, if_neg (by decide), show (0 : Int32) = nI 0 from rfl, r1]
    have fl2 := r4.1
    obtain rfl | rfl : fl = 0 ∨ fl = 1 := by omega
    · have e0 := r4.2.1 rfl
      rw [r5] at e0
      have hend := sw_end wgT_mo wgT_dc hM e0
      have hv2 : SE g1 (LE A p) := fun j hj => by
        have := r3 j hj
        rw [r5, e0 j, hend, ← hL] at this
        exact this
      obtain ⟨n', rfl⟩ : ∃ n', n = n' + 1 := ⟨n - 1, by omega⟩
      obtain ⟨-, -, y1⟩ := now_lt h hp
      obtain ⟨o1, o2⟩ := h.2.2.2.1.o hp
      obtain ⟨n1, n2, n3⟩ := eN_lt h hp
      have k3 := h.k3
      rw [f_X12_laysErrands_42, if_pos (show nI 0 = 0 from rfl), md136_26 h1.1, r_standNow h1 hp, bd_eq, r_standNow h1 hp, bd_eq, md136_1 h1.1, gk137 h1.1, sn137 h1.1, show (100 : Int32) = nI 100 from rfl, nI_add, gdI_nI (by omega) (by decide), nI_clamp (by omega), h1.2.1, o1, r_doneIn h1 hp y1 (by omega), bd_eq, gk147 h1.1, sn147 h1.1, lum4, nI_add, show 4 * (36 * tw A (2 * p) + tw A (2 * p + 1)) + dnI A p (36 * tw A (2 * p) + tw A (2 * p + 1)) (dn A p) = eN A p from rfl, gdI_nI n1 (by decide), nI_clamp (by omega), (hv2 _ n1).1]
      exact ⟨g1, rfl, r2, hv2⟩
    · have kl : k < M := by
        rcases Nat.lt_or_ge k M with q | q
        · exact q
        · exfalso
          obtain ⟨j, hj⟩ := r4.2.2.1 rfl
          have := sw_stop wgT_mo wgT_dc hM q j
          rw [r5] at hj
          omega
      obtain ⟨g2, t1, t2, t3⟩ := ih (k + 1) g1 h1 ht1 (by rw [itN_s, ← r5]; exact r3) (by omega) (by omega)
      rw [show nI 1 = 1 from rfl, t1]
      exact ⟨g2, rfl, r2.tr t2, t3⟩
theorem r_er7 (hp : p < nv A 3) : ∀ n k g, RS A g → TH A p 1296 g → (∀ j, j < k → gI g 147 j = nI (v0E j)) → k ≤ 5184 → 5184 < n + k → ∃ g', f_X12_laysErrands_7 n 136 (nI p) (nI k) g = some (nI (LE A p (eN A p)), g') ∧ Fi [147] g g' ∧ SE g' (LE A p) := by
  intro n
  induction n with
  | zero => intro k g _ _ _ h1 h2; omega
  | succ n ih =>
    intro k g h ht hv hk hn
    have hs := h.1
    rw [f_X12_laysErrands_7]
    rcases Nat.lt_or_ge k 5184 with z | z
    · have c33 : ∀ x : Nat, x = v0E k → ∃ g', f_X12_laysErrands_33 (f_X12_laysErrands_7 n) 136 (nI p) (nI k) (nI x) (nI k) 147 g = some (nI (LE A p (eN A p)), g') ∧ Fi [147] g g' ∧ SE g' (LE A p) := fun x hx => by
        have x1 : Fi [147] g (sI g 147 k (nI x)) := Fi.rf.si (by decide)
        obtain ⟨g2, e1, e2, e3⟩ := ih (k + 1) _ (h.fi x1 (by decide)) (ht.fi x1 (by decide) (by decide) (by decide)) (fun j hj => by
          rw [gI_sIs]
          rcases Nat.eq_or_lt_of_le (Nat.le_of_lt_succ hj) with w | w
          · rw [w, pk_us, hx]
          · rw [pk_un (by omega)]
            exact hv j w) (by omega) (by omega)
        rw [f_X12_laysErrands_33, sn147 hs, gdI_nI z (by decide), nI_clamp (by omega), lg, lad1]
        exact ⟨g2, e1, x1.tr e2, e3⟩
      rw [if_neg (lnge5184 z), md136_26 hs, ldi4 (by omega), lmo4]
      by_cases w : k % 4 = 3
      · rw [if_pos (show nI (k % 4) = 3 by rw [w]; rfl), gk147 hs]
        exact c33 0 (by unfold v0E; rw [if_pos w])
      · rw [if_neg (show ¬ nI (k % 4) = 3 from fun u => w ((nI_eq (b := 3) (by omega) (by decide)).mp u)), gk147 hs, lFA]
        exact c33 1073741824 (by unfold v0E; rw [if_neg w])
    · rw [if_pos (lle5184 z (by omega))]
      exact r_er42 hp rfl FU 0 g h ht (fun j hj => ⟨hv j (by omega), v0E_le j⟩) (by have := @FU_gt 5200 (by decide); omega) (Nat.zero_le _)
theorem r_laysErrands (h : RS A g) (hp : p < nv A 3) : ∃ g', f_X12_laysErrands 136 (nI p) g = some (nI (LE A p (eN A p)), g') ∧ Fm [17, 18] [141, 142, 144, 145, 146, 147] g g' ∧ TH A p 1296 g' ∧ SE g' (LE A p) := by
  obtain ⟨g1, e1, e2, e3⟩ := r_laysStands h hp
  obtain ⟨g2, d1, d2, d3⟩ := r_er7 hp FU 0 g1 (h.fm e2 (by decide)) e3 (fun j hj => by omega) (by decide) (by have := @FU_gt 5184 (by decide); omega)
  rw [f_X12_laysErrands, e1, bd_eq]
  exact ⟨g2, d1, (e2.mono (by decide) (by decide)).tr (Fm.of (d2.mono (by decide)) (by decide)), e3.fi d2 (by decide) (by decide) (by decide), d3⟩
end ERR
