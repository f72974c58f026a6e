/-! THE REFERENCE: how far it still is, the leads. -/
section STI
def wS (A : Nat → Int32) (F : Nat → Bool) (p m ch s l : Nat) : Nat := if ch = 0 then 1 else 10000 * (match nxS A F p m s l with | none => 0 | some y => csS A p m s y) + 1
def sbV (N : Nat → Nat → Option Nat) (w : Nat → Nat → Nat) (v : Nat → Nat) (s l : Nat) : Nat := match N s l with
  | none => 1073741824
  | some y => if v y = 1073741824 then 1073741824 else v y + w s l
def SV (g : G) (v : Nat → Nat) : Prop := ∀ j, j < 1296 → gI g 147 j = nI (v j) ∧ v j ≤ 1073741824
variable {A : Nat → Int32} {g g' : G} {p ch : Nat} {v : Nat → Nat}
theorem itN_s (f : (Nat → Nat) → (Nat → Nat)) (k : Nat) (v : Nat → Nat) : itN f (k + 1) v = f (itN f k v) := rfl
theorem lFA : (1073741824 : Int32) = nI 1073741824 := lI 1073741824
theorem wS_pos {F : Nat → Bool} {m : Nat} (s l : Nat) : 0 < wS A F p m ch s l := by
  unfold wS
  split <;> omega
theorem wS_le (hA : Dm A) {F : Nat → Bool} {m s l : Nat} (h1 : s / 36 < cS A) (h2 : s % 36 < cS A) : wS A F p m ch s l ≤ 1980001 := by
  unfold wS
  split
  · omega
  · cases h : nxS A F p m s l with
    | none => simp
    | some y =>
      have cl := cS_le hA
      have := csS_le hA (p := p) (m := m) (c := s) (y := y) (by omega) (stB_lt hA (nx_ok hA h1 h2 h))
      show 10000 * csS A p m s y + 1 ≤ 1980001
      omega
theorem r_countOf (hs : Sh g) (ht : TH A p 1296 g) {s l y : Nat} (hA : Dm A) (hP : stB A (fre A p) p s = true) (hl : l < 8) (hch : ch < 2) (hN : nxS A (fre A p) p (md A p) s l = some y) : f_X12_countOf 136 (nI s) (nI l) (nI ch) g = some (nI (wS A (fre A p) p (md A p) ch s l), g) := by
  have s1 := stB_lt hA hP
  rw [f_X12_countOf]
  unfold wS
  obtain rfl | rfl : ch = 0 ∨ ch = 1 := by omega
  · rw [if_pos (show nI 0 = 0 from rfl), if_pos rfl]
    rfl
  · rw [if_neg (by decide), if_neg (by decide), hN, md136_25 hs, gk146 hs, sn146 hs, lum8, nI_add, gdI_nI (by omega) (by decide), nI_clamp (by omega), ((ht s s1).2 hP l hl).2 y hN, show (10000 : Int32) = nI 10000 from rfl, pk_mul, lad1]
theorem r_stillBy (hs : Sh g) (ht : TH A p 1296 g) (hv : SV g v) {s l : Nat} (hA : Dm A) (hP : stB A (fre A p) p s = true) (hl : l < 8) (hch : ch < 2) : f_X12_stillBy 136 (nI s) (nI l) (nI ch) g = some (nI (sbV (nxS A (fre A p) p (md A p)) (wS A (fre A p) p (md A p) ch) v s l), g) := by
  have s1 := stB_lt hA hP
  obtain ⟨⟨q1, q2, -⟩, -⟩ := stB_iff.mp hP
  have t1 := ((ht s s1).2 hP l hl).1
  rw [f_X12_stillBy, md136_24 hs, gk145 hs, sn145 hs, lum8, nI_add, gdI_nI (by omega) (by decide), li, nI_clamp (by omega), t1]
  unfold sbV
  cases hN : nxS A (fre A p) p (md A p) s l with
  | none =>
    rw [ioN, f_X12_stillBy_32, lFA]
  | some y =>
    have y1 := stB_lt hA (nx_ok hA q1 q2 hN)
    obtain ⟨v1, v2⟩ := hv y y1
    rw [ioS (by omega), md136_26 hs, gk147 hs, sn147 hs, show oI (some y) = nI y from rfl, gdI_nI (by omega) (by decide), nI_clamp (by omega), v1]
    dsimp only
    by_cases e : v y = 1073741824
    · rw [e, lFA, if_pos rfl, if_pos rfl, f_X12_stillBy_32, lFA]
    · rw [lFA, if_neg (fun z => e ((nI_eq (b := 1073741824) (by omega) (by decide)).mp z)), if_neg e, r_countOf hs ht hA hP hl hch hN, bd_eq, nI_add]
theorem wmn_cut {E : Nat → Nat → Option Nat} {w : Nat → Nat → Nat} (hv : ∀ j, v j ≤ 1073741824) (s l : Nat) : wmn v E w s (l + 1) = if wmn v E w s l ≤ sbV E w v s l then wmn v E w s l else sbV E w v s l := by
  have h1 := wmn_le v E w s l
  have h2 := hv s
  cases h : E s l with
  | none =>
    have e1 : wmn v E w s (l + 1) = wmn v E w s l := by
      show (match E s l with | none => _ | some u => _) = _
      rw [h]
    have e2 : sbV E w v s l = 1073741824 := by
      unfold sbV
      rw [h]
    rw [e1, e2, if_pos (by omega)]
  | some u =>
    have e1 : wmn v E w s (l + 1) = if v u + w s l < wmn v E w s l then v u + w s l else wmn v E w s l := by
      show (match E s l with | none => _ | some u => _) = _
      rw [h]
    have e2 : sbV E w v s l = if v u = 1073741824 then 1073741824 else v u + w s l := by
      unfold sbV
      rw [h]
    have := hv u
    by_cases z : v u = 1073741824
    · rw [if_pos z] at e2
      rw [e1, e2, if_neg (by omega), if_pos (by omega)]
    · rw [if_neg z] at e2
      rw [e1, e2]
      by_cases y : v u + w s l < wmn v E w s l
      · rw [if_pos y, if_neg (by omega)]
      · rw [if_neg y, if_pos (by omega)]
theorem r_least10 (hs : Sh g) (ht : TH A p 1296 g) (hv : SV g v) (hv2 : ∀ j, v j ≤ 1073741824) {s : Nat} (hA : Dm A) (hP : stB A (fre A p) p s = true) (hch : ch < 2) : ∀ n l, l ≤ 8 → 8 < n + l → f_X12_leastBy_10 n 136 (nI s) (nI ch) (nI (wmn v (nxS A (fre A p) p (md A p)) (wS A (fre A p) p (md A p) ch) s l)) (nI l) g = some (nI (wmn v (nxS A (fre A p) p (md A p)) (wS A (fre A p) p (md A p) ch) s 8), g) := by
  intro n
  induction n with
  | zero => intro l _ h; omega
  | succ n ih =>
    intro l hl hn
    rw [f_X12_leastBy_10]
    rcases Nat.lt_or_ge l 8 with z | z
    · have i := ih (l + 1) (by omega) (by omega)
      rw [wmn_cut hv2] at i
      have h1 := wmn_le v (nxS A (fre A p) p (md A p)) (wS A (fre A p) p (md A p) ch) s l
      have h2 := hv2 s
      obtain ⟨⟨q1, q2, -⟩, -⟩ := stB_iff.mp hP
      have h3 : sbV (nxS A (fre A p) p (md A p)) (wS A (fre A p) p (md A p) ch) v s l < 2 ^ 31 := by
        have h4 := wS_le (p := p) (ch := ch) (m := md A p) (F := fre A p) (l := l) hA q1 q2
        unfold sbV
        split
        · decide
        · next y _ =>
          have := hv2 y
          split <;> omega
      rw [if_neg (lnge8 z), r_stillBy hs ht hv hA hP z hch, bd_eq, f_X12_leastBy_41, lad1]
      by_cases y : wmn v (nxS A (fre A p) p (md A p)) (wS A (fre A p) p (md A p) ch) s l ≤ sbV (nxS A (fre A p) p (md A p)) (wS A (fre A p) p (md A p) ch) v s l
      · rw [if_pos (nI_le y h3)]
        rw [if_pos y] at i
        exact i
      · rw [if_neg (nI_ge (Nat.lt_of_not_le y) (by omega)), r_stillBy hs ht hv hA hP z hch, bd_eq, f_X12_leastBy_41, lad1]
        rw [if_neg y] at i
        exact i
    · have : l = 8 := by omega
      subst this
      rw [if_pos (lle8 (by decide) (by decide))]
theorem r_leastBy (hs : Sh g) (ht : TH A p 1296 g) (hv : SV g v) (hv2 : ∀ j, v j ≤ 1073741824) {s : Nat} (hA : Dm A) (hP : stB A (fre A p) p s = true) (hch : ch < 2) : f_X12_leastBy 136 (nI s) (nI ch) g = some (nI (wmn v (nxS A (fre A p) p (md A p)) (wS A (fre A p) p (md A p) ch) s 8), g) := by
  have s1 := stB_lt hA hP
  rw [f_X12_leastBy, md136_26 hs, gk147 hs, sn147 hs, gdI_nI (by omega) (by decide), li, nI_clamp (by omega), (hv s s1).1]
  exact r_least10 hs ht hv hv2 hA hP hch FU 0 (by decide) (by have := @FU_gt 8 (by decide); omega)
theorem nI_or01 {a b : Nat} (ha : a < 2) (hb : b < 2) : nI a ||| nI b = nI (if a = 0 then b else 1) := by
  obtain rfl | rfl : a = 0 ∨ a = 1 := by omega
  · obtain rfl | rfl : b = 0 ∨ b = 1 := by omega
    · rfl
    · rfl
  · obtain rfl | rfl : b = 0 ∨ b = 1 := by omega
    · rfl
    · rfl
theorem TH.fi {k : Nat} {S : List Nat} (h : TH A p k g) (x : Fi S g g') (h4 : 144 ∉ S) (h5 : 145 ∉ S) (h6 : 146 ∉ S) : TH A p k g' := by
  unfold TH
  rw [x.I h4, x.I h5, x.I h6]
  exact h
/-- one sweep -/
theorem r_sti66 (hA : Dm A) (hch : ch < 2) (hv2 : ∀ j, v j ≤ 1073741824) {k55 : Nat → Int32 → Int32 → Int32 → G → Option (Int32 × G)} : ∀ n k fl g, Sh g → TH A p 1296 g → SV g (sw_p (wgT (stB A (fre A p) p) (nxS A (fre A p) p (md A p)) (wS A (fre A p) p (md A p) ch)) id k v) → k ≤ 1296 → 1296 < n + k → fl < 2 → (fl = 0 → ∀ j, sw_p (wgT (stB A (fre A p) p) (nxS A (fre A p) p (md A p)) (wS A (fre A p) p (md A p) ch)) id k v j = v j) → (fl = 1 → ∃ j, sw_p (wgT (stB A (fre A p) p) (nxS A (fre A p) p (md A p)) (wS A (fre A p) p (md A p) ch)) id k v j < v j) → ∃ g' fl', f_X12_laysStill_66 k55 n 136 (nI p) (nI ch) (nI fl) (nI k) g = k55 136 (nI p) (nI ch) (nI fl') g' ∧ Fi [147] g g' ∧ SV g' (sw_p (wgT (stB A (fre A p) p) (nxS A (fre A p) p (md A p)) (wS A (fre A p) p (md A p) ch)) id 1296 v) ∧ fl' < 2 ∧ (fl' = 0 → ∀ j, sw_p (wgT (stB A (fre A p) p) (nxS A (fre A p) p (md A p)) (wS A (fre A p) p (md A p) ch)) id 1296 v j = v j) ∧ (fl' = 1 → ∃ j, sw_p (wgT (stB A (fre A p) p) (nxS A (fre A p) p (md A p)) (wS A (fre A p) p (md A p) ch)) id 1296 v j < v j) := by
  intro n
  induction n with
  | zero => intro k fl g _ _ _ _ h; omega
  | succ n ih =>
    intro k fl g hs ht hv hk hn hf h0 h1
    rw [f_X12_laysStill_66]
    rcases Nat.lt_or_ge k 1296 with z | z
    · have vle : ∀ j, sw_p (wgT (stB A (fre A p) p) (nxS A (fre A p) p (md A p)) (wS A (fre A p) p (md A p) ch)) id k v j ≤ 1073741824 := fun j => Nat.le_trans (sw_dec wgT_dc k v j) (hv2 j)
      rw [if_neg (lnge1296 z), md136_23 hs, gk144 hs, sn144 hs, gdI_nI z (by decide), nI_clamp (by omega), (ht k z).1]
      cases hP : stB A (fre A p) p k with
      | false =>
        have es : sw_p (wgT (stB A (fre A p) p) (nxS A (fre A p) p (md A p)) (wS A (fre A p) p (md A p) ch)) id (k + 1) v = sw_p (wgT (stB A (fre A p) p) (nxS A (fre A p) p (md A p)) (wS A (fre A p) p (md A p) ch)) id k v := by
          funext j
          show (if id j = k then _ else _) = _
          split
          · next e =>
            have e' : j = k := e
            rw [e']
            unfold wgT
            rw [if_neg (by rw [hP]; decide)]
          · rfl
        rw [ibF, f_X12_laysStill_128, lad1]
        exact ih (k + 1) fl g hs ht (by rw [es]; exact hv) (by omega) (by omega) hf (by rw [es]; exact h0) (by rw [es]; exact h1)
      | true =>
        have tv : wgT (stB A (fre A p) p) (nxS A (fre A p) p (md A p)) (wS A (fre A p) p (md A p) ch) (sw_p (wgT (stB A (fre A p) p) (nxS A (fre A p) p (md A p)) (wS A (fre A p) p (md A p) ch)) id k v) k = wmn (sw_p (wgT (stB A (fre A p) p) (nxS A (fre A p) p (md A p)) (wS A (fre A p) p (md A p) ch)) id k v) (nxS A (fre A p) p (md A p)) (wS A (fre A p) p (md A p) ch) k 8 := if_pos hP
        have es : ∀ j, sw_p (wgT (stB A (fre A p) p) (nxS A (fre A p) p (md A p)) (wS A (fre A p) p (md A p) ch)) id (k + 1) v j = if j = k then wmn (sw_p (wgT (stB A (fre A p) p) (nxS A (fre A p) p (md A p)) (wS A (fre A p) p (md A p) ch)) id k v) (nxS A (fre A p) p (md A p)) (wS A (fre A p) p (md A p) ch) k 8 else sw_p (wgT (stB A (fre A p) p) (nxS A (fre A p) p (md A p)) (wS A (fre A p) p (md A p) ch)) id k v j := fun j => by
          show (if id j = k then _ else _) = _
          by_cases e : j = k
          · rw [if_pos (show id j = k from e), if_pos e, e, tv]
          · rw [if_neg (show ¬ id j = k from e), if_neg e]
        have wl := wmn_le (sw_p (wgT (stB A (fre A p) p) (nxS A (fre A p) p (md A p)) (wS A (fre A p) p (md A p) ch)) id k v) (nxS A (fre A p) p (md A p)) (wS A (fre A p) p (md A p) ch) k 8
        have kf : sw_p (wgT (stB A (fre A p) p) (nxS A (fre A p) p (md A p)) (wS A (fre A p) p (md A p) ch)) id k v k = v k := sw_frz k v k (Nat.le_refl _)
        have lk := vle k
        have c116 : ∀ fb, fb < 2 → f_X12_laysStill_116 k55 (f_X12_laysStill_66 k55 n) 136 (nI p) (nI ch) (nI k) (nI (wmn (sw_p (wgT (stB A (fre A p) p) (nxS A (fre A p) p (md A p)) (wS A (fre A p) p (md A p) ch)) id k v) (nxS A (fre A p) p (md A p)) (wS A (fre A p) p (md A p) ch) k 8)) (nI fb) (nI fl) g = f_X12_laysStill_66 k55 n 136 (nI p) (nI ch) (nI (if fl = 0 then fb else 1)) (nI (k + 1)) (sI g 147 k (nI (wmn (sw_p (wgT (stB A (fre A p) p) (nxS A (fre A p) p (md A p)) (wS A (fre A p) p (md A p) ch)) id k v) (nxS A (fre A p) p (md A p)) (wS A (fre A p) p (md A p) ch) k 8))) := fun fb hb => by
          rw [f_X12_laysStill_116, li, nI_or01 hf hb, md136_26 hs, gk147 hs, sn147 hs, gdI_nI (by omega) (by decide), nI_clamp (by omega), lg, f_X12_laysStill_128, lad1]
        have x1 : Fi [147] g (sI g 147 k (nI (wmn (sw_p (wgT (stB A (fre A p) p) (nxS A (fre A p) p (md A p)) (wS A (fre A p) p (md A p) ch)) id k v) (nxS A (fre A p) p (md A p)) (wS A (fre A p) p (md A p) ch) k 8))) := Fi.rf.si (by decide)
        have hv' : SV (sI g 147 k (nI (wmn (sw_p (wgT (stB A (fre A p) p) (nxS A (fre A p) p (md A p)) (wS A (fre A p) p (md A p) ch)) id k v) (nxS A (fre A p) p (md A p)) (wS A (fre A p) p (md A p) ch) k 8))) (sw_p (wgT (stB A (fre A p) p) (nxS A (fre A p) p (md A p)) (wS A (fre A p) p (md A p) ch)) id (k + 1) v) := fun j hj => by
          rw [gI_sIs, es j]
          by_cases e : j = k
          · rw [e, pk_us, if_pos rfl]
            exact ⟨rfl, by omega⟩
          · rw [pk_un e, if_neg e]
            exact hv j hj
        rw [ibT, r_leastBy hs ht hv vle hA hP hch, bd_eq, md136_26 hs, gk147 hs, sn147 hs, gdI_nI (by omega) (by decide), (hv k z).1]
        by_cases y : sw_p (wgT (stB A (fre A p) p) (nxS A (fre A p) p (md A p)) (wS A (fre A p) p (md A p) ch)) id k v k ≤ wmn (sw_p (wgT (stB A (fre A p) p) (nxS A (fre A p) p (md A p)) (wS A (fre A p) p (md A p) ch)) id k v) (nxS A (fre A p) p (md A p)) (wS A (fre A p) p (md A p) ch) k 8
        · rw [if_pos (nI_le y (by omega)), show (0 : Int32) = nI 0 from rfl, c116 0 (by decide)]
          obtain ⟨g2, fl', r1, r2, r3⟩ := ih (k + 1) (if fl = 0 then 0 else 1) _ (Sh.fi x1 hs) (ht.fi x1 (by decide) (by decide) (by decide)) hv' (by omega) (by omega) (by split <;> decide) (fun q j => by
            rw [es j]
            have f0 : fl = 0 := by
              rcases Nat.eq_zero_or_pos fl with w | w
              · exact w
              · rw [if_neg (by omega)] at q
                cases q
            split
            · next e => rw [e]; omega
            · exact h0 f0 j) (fun q => by
            have f1 : fl = 1 := by
              rcases Nat.eq_zero_or_pos fl with w | w
              · rw [if_pos w] at q
                cases q
              · omega
            obtain ⟨j, hj⟩ := h1 f1
            refine ⟨j, ?_⟩
            rw [es j]
            split
            · next e => rw [e] at hj ⊢; omega
            · exact hj)
          exact ⟨g2, fl', r1, x1.tr r2, r3⟩
        · rw [if_neg (nI_ge (Nat.lt_of_not_le y) (by omega)), show (1 : Int32) = nI 1 from rfl, c116 1 (by decide)]
          obtain ⟨g2, fl', r1, r2, r3⟩ := ih (k + 1) (if fl = 0 then 1 else 1) _ (Sh.fi x1 hs) (ht.fi x1 (by decide) (by decide) (by decide)) hv' (by omega) (by omega) (by split <;> decide) (fun q => by
            exfalso
            split at q <;> cases q) (fun _ => ⟨k, by
            rw [es k, if_pos rfl]
            omega⟩)
          exact ⟨g2, fl', r1, x1.tr r2, r3⟩
    · have : k = 1296 := by omega
      subst this
      rw [if_pos (lle1296 (by decide) (by decide))]
      exact ⟨g, fl, rfl, Fi.rf, hv, hf, h0, h1⟩
theorem r_standNow (h : RS A g) (hp : p < nv A 3) : f_X12_standNow 136 (nI p) g = some (nI (36 * tw A (2 * p) + tw A (2 * p + 1)), g) := by
  rw [f_X12_standNow, show (0 : Int32) = nI 0 from rfl, R_twinOf h hp (by decide), bd_eq, show (1 : Int32) = nI 1 from rfl, R_twinOf h hp (by decide), bd_eq, f_X12_standOf, lum36, nI_add, bd_eq]
  rfl
theorem now_lt (h : RS A g) (hp : p < nv A 3) : tw A (2 * p) < cS A ∧ tw A (2 * p + 1) < cS A ∧ 36 * tw A (2 * p) + tw A (2 * p + 1) < 1296 := by
  have cl := h.cl
  have a1 := (h.tw hp (t := 0) (by decide)).1
  have a2 := (h.tw hp (t := 1) (by decide)).1
  exact ⟨a1, a2, cd_lt cl.2 a1 a2⟩
/-- how far at first -/
def v0S (P : Nat → Bool) (one two : Int32) (j : Nat) : Nat := if P j = true ∧ fitB j one two = true then 0 else 1073741824
theorem v0S_le (P : Nat → Bool) (one two : Int32) (j : Nat) : v0S P one two j ≤ 1073741824 := by
  unfold v0S
  split <;> omega
def LSf (A : Nat → Int32) (F : Nat → Bool) (p m ch : Nat) (one two : Int32) : Nat → Nat := wL (stB A F p) (nxS A F p m) (wS A F p m ch) 1296 232 (v0S (stB A F p) one two)
theorem r_sti55 (hp : p < nv A 3) (hch : ch < 2) {one two : Int32} : ∀ n k g, RS A g → TH A p 1296 g → SV g (itN (sw_p (wgT (stB A (fre A p) p) (nxS A (fre A p) p (md A p)) (wS A (fre A p) p (md A p) ch)) id 1296) k (v0S (stB A (fre A p) p) one two)) → 400 < n + k → k ≤ 232 → ∃ g', f_X12_laysStill_55 n 136 (nI p) (nI ch) 1 g = some (nI (LSf A (fre A p) p (md A p) ch one two (36 * tw A (2 * p) + tw A (2 * p + 1))), g') ∧ Fi [147] g g' ∧ SV g' (LSf A (fre A p) p (md A p) ch one two) := by
  intro n
  induction n with
  | zero => intro k g _ _ _ h1 h2; omega
  | succ n ih =>
    intro k g h ht hv hn hk
    have hA := h.2.2.1
    have s10 := sp_10 hA h.2.2.2.1 hp
    have hM : ∀ j, id j < 1296 → wgT (stB A (fre A p) p) (nxS A (fre A p) p (md A p)) (wS A (fre A p) p (md A p) ch) (itN (sw_j (wgT (stB A (fre A p) p) (nxS A (fre A p) p (md A p)) (wS A (fre A p) p (md A p) ch)) id 1296) 232 (v0S (stB A (fre A p) p) one two)) j = itN (sw_j (wgT (stB A (fre A p) p) (nxS A (fre A p) p (md A p)) (wS A (fre A p) p (md A p) ch)) id 1296) 232 (v0S (stB A (fre A p) p) one two) j := fun j hj => wL_fix (fun s l => wS_pos s l) (fun x hx => stB_lt hA hx) (st_232 hA s10) _ hj
    have le : ∀ k j, itN (sw_p (wgT (stB A (fre A p) p) (nxS A (fre A p) p (md A p)) (wS A (fre A p) p (md A p) ch)) id 1296) k (v0S (stB A (fre A p) p) one two) j ≤ 1073741824 := fun k j => by
      induction k generalizing j with
      | zero => exact v0S_le _ _ _ j
      | succ k ihk => exact Nat.le_trans (sw_dec wgT_dc 1296 _ j) (ihk j)
    obtain ⟨g1, fl, r1, r2, r3, r4, r5, r6⟩ := r_sti66 (p := p) hA hch (le k) (k55 := f_X12_laysStill_55 n) FU 0 0 g h.1 ht hv (by decide) (by have := @FU_gt 1296 (by decide); omega) (by decide) (fun _ j => rfl) (fun q => by cases q)
    have h1 := h.fi r2 (by decide)
    have ht1 := ht.fi r2 (by decide) (by decide) (by decide)
    rw [f_X12_laysStill_55, if_neg (by decide), show (0 : Int32) = nI 0 from rfl, r1]
    obtain rfl | rfl : fl = 0 ∨ fl = 1 := by omega
    · have hend := sw_end wgT_mo wgT_dc hM (r5 rfl)
      have hv2 : SV g1 (LSf A (fre A p) p (md A p) ch one two) := fun j hj => by
        have := r3 j hj
        rw [r5 rfl j, hend] at this
        exact this
      obtain ⟨n', rfl⟩ : ∃ n', n = n' + 1 := ⟨n - 1, by omega⟩
      obtain ⟨-, -, y1⟩ := now_lt h hp
      rw [f_X12_laysStill_55, if_pos (show nI 0 = 0 from rfl), md136_26 h1.1, r_standNow h1 hp, bd_eq, gk147 h1.1, sn147 h1.1, gdI_nI (by omega) (by decide), nI_clamp (by omega), (hv2 _ y1).1]
      exact ⟨g1, rfl, r2, hv2⟩
    · have kl : k < 232 := by
        rcases Nat.lt_or_ge k 232 with q | q
        · exact q
        · exfalso
          obtain ⟨j, hj⟩ := r6 rfl
          have := sw_stop wgT_mo wgT_dc hM q j
          omega
      obtain ⟨g2, t1, t2, t3⟩ := ih (k + 1) g1 h1 ht1 (by rw [itN_s]; exact r3) (by omega) (by omega)
      rw [show nI 1 = 1 from rfl, t1]
      exact ⟨g2, rfl, r2.tr t2, t3⟩
theorem r_isGoal {s : Nat} (hs : s < 1296) (one two : Int32) : f_X12_isGoal 136 (nI s) one two g = some (fitB s one two, g) := by
  have f14 : f_X12_isGoal_14 (nI s) two g = some (decide (two = -1) || decide (nI (s % 36) = two), g) := by
    rw [f_X12_isGoal_14]
    by_cases z : two = -1
    · rw [if_pos z, decide_eq_true z, f_X12_isGoal_28]
      rfl
    · rw [if_neg z, decide_eq_false z, Bool.false_or, show (1 : Int32) = nI 1 from rfl, r_inStand hs (by decide), bd_eq, show ow 1 (s / 36) (s % 36) = s % 36 from rfl, f_X12_isGoal_28]
      by_cases y : nI (s % 36) = two
      · rw [if_pos y, decide_eq_true y]
      · rw [if_neg y, decide_eq_false y]
  rw [f_X12_isGoal, f14]
  unfold fitB
  by_cases z : one = -1
  · rw [if_pos z, decide_eq_true z]
    rfl
  · rw [if_neg z, decide_eq_false z, Bool.false_or, show (0 : Int32) = nI 0 from rfl, r_inStand hs (by decide), bd_eq, show ow 0 (s / 36) (s % 36) = s / 36 from rfl, f14]
    by_cases y : nI (s / 36) = one
    · rw [if_pos y, decide_eq_true y]
      rfl
    · rw [if_neg y, decide_eq_false y]
      rfl
theorem r_sti3 (hp : p < nv A 3) (hch : ch < 2) {one two : Int32} : ∀ n k g, RS A g → TH A p 1296 g → (∀ j, j < k → gI g 147 j = nI (v0S (stB A (fre A p) p) one two j)) → k ≤ 1296 → 1296 < n + k → ∃ g', f_X12_laysStill_3 n 136 (nI p) one two (nI ch) (nI k) g = some (nI (LSf A (fre A p) p (md A p) ch one two (36 * tw A (2 * p) + tw A (2 * p + 1))), g') ∧ Fi [147] g g' ∧ SV g' (LSf A (fre A p) p (md A p) ch one two) := by
  intro n
  induction n with
  | zero => intro k g _ _ _ h1 h2; omega
  | succ n ih =>
    intro k g h ht hv hk hn
    have hs := h.1
    rw [f_X12_laysStill_3]
    rcases Nat.lt_or_ge k 1296 with z | z
    · have c45 : ∀ x : Nat, x = v0S (stB A (fre A p) p) one two k → ∃ g', f_X12_laysStill_45 (f_X12_laysStill_3 n) 136 (nI p) one two (nI ch) (nI k) (nI x) (nI k) 147 g = some (nI (LSf A (fre A p) p (md A p) ch one two (36 * tw A (2 * p) + tw A (2 * p + 1))), g') ∧ Fi [147] g g' ∧ SV g' (LSf A (fre A p) p (md A p) ch one two) := fun x hx => by
        have x1 : Fi [147] g (sI g 147 k (nI x)) := Fi.rf.si (by decide)
        obtain ⟨g2, e1, e2, e3⟩ := ih (k + 1) _ (h.fi x1 (by decide)) (ht.fi x1 (by decide) (by decide) (by decide)) (fun j hj => by
          rw [gI_sIs]
          rcases Nat.eq_or_lt_of_le (Nat.le_of_lt_succ hj) with w | w
          · rw [w, pk_us, hx]
          · rw [pk_un (by omega)]
            exact hv j w) (by omega) (by omega)
        rw [f_X12_laysStill_45, sn147 hs, gdI_nI (by omega) (by decide), nI_clamp (by omega), lg, lad1]
        exact ⟨g2, e1, x1.tr e2, e3⟩
      rw [if_neg (lnge1296 z), md136_26 hs, md136_23 hs, gk144 hs, sn144 hs, gdI_nI z (by decide), nI_clamp (by omega), (ht k z).1]
      cases hP : stB A (fre A p) p k with
      | false =>
        rw [ibF, gk147 hs, f_X12_laysStill_42, lFA]
        exact c45 _ (by unfold v0S; rw [if_neg (by rw [hP]; intro q; cases q.1)])
      | true =>
        rw [ibT, r_isGoal z, bd_eq]
        cases hf : fitB k one two with
        | false =>
          rw [ibF, gk147 hs, f_X12_laysStill_42, lFA]
          exact c45 _ (by unfold v0S; rw [if_neg (by rw [hf]; intro q; cases q.2)])
        | true =>
          rw [ibT, gk147 hs]
          exact c45 0 (by unfold v0S; rw [if_pos ⟨hP, hf⟩])
    · have : k = 1296 := by omega
      subst this
      rw [if_pos (lle1296 (by decide) (by decide))]
      exact r_sti55 hp hch FU 0 g h ht (fun j hj => ⟨hv j hj, v0S_le _ _ _ j⟩) (by have := @FU_gt 400 (by decide); omega) (by decide)
theorem r_laysStill (h : RS A g) (hp : p < nv A 3) (hch : ch < 2) (ht : TH A p 1296 g) (one two : Int32) : ∃ g', f_X12_laysStill 136 (nI p) one two (nI ch) g = some (nI (LSf A (fre A p) p (md A p) ch one two (36 * tw A (2 * p) + tw A (2 * p + 1))), g') ∧ Fi [147] g g' ∧ SV g' (LSf A (fre A p) p (md A p) ch one two) := r_sti3 hp hch FU 0 g h ht (fun j hj => by omega) (by decide) (by have := @FU_gt 1296 (by decide); omega)
end STI
