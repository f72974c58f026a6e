/-! COMING SOONEST: the leads, told by both. -/
section WAY
def tld (l : Nat) : Nat := 10 * (l / 4) + l % 4
def Sq (N : Nat → Nat → Option Nat) (w : Nat → Nat → Nat) (L : Nat → Nat) (P : Nat → Bool) (S Q : Nat → Nat) (D : Nat) : Prop := (∀ k, k < D → P (S k) = true ∧ 0 < L (S k) ∧ L (S k) < 1073741824 ∧ Q k < 8 ∧ N (S k) (Q k) = some (S (k + 1)) ∧ L (S (k + 1)) + w (S k) (Q k) = L (S k) ∧ ∀ l' y, l' < Q k → N (S k) l' = some y → L y + w (S k) l' ≠ L (S k)) ∧ L (S D) = 0 ∧ S D < 1296
variable {A : Nat → Int32} {g g' : G} {p ch : Nat} {L : Nat → Nat}
theorem r_lead38 (hs : Sh g) (ht : TH A p 1296 g) (hv : SV g L) {s y lq k : Nat} (hA : Dm A) (hP : stB A (fre A p) p s = true) (hlq : lq < 8) (hch : ch < 2) (h0 : 0 < L s) (hF : L s < 1073741824) (hN : nxS A (fre A p) p (md A p) s lq = some y) (e : L y + wS A (fre A p) p (md A p) ch s lq = L s) (hl : ∀ l' y, l' < lq → nxS A (fre A p) p (md A p) s l' = some y → L y + wS A (fre A p) p (md A p) ch s l' ≠ L s) (i : Int32) {k25 : Nat → Int32 → Int32 → Int32 → Int32 → G → Option (Int32 × G)} : ∀ n l, l ≤ lq → lq < n + l → f_X12_leadAt_38 k25 n 136 i (nI ch) (nI s) (nI k) (nI l) g = if nI k = i then some (nI (tld lq), g) else k25 136 i (nI ch) (nI y) (nI (k + 1)) g := by
  have s1 := stB_lt hA hP
  obtain ⟨⟨q1, q2, -⟩, -⟩ := stB_iff.mp hP
  have sb : ∀ l, l < 8 → sbV (nxS A (fre A p) p (md A p)) (wS A (fre A p) p (md A p) ch) L s l < 2 ^ 31 := fun l hl => by
    have h4 := wS_le (p := p) (ch := ch) (m := md A p) (F := fre A p) (l := l) hA q1 q2
    unfold sbV
    split
    · decide
    · next z hz =>
      have := (hv z (stB_lt hA (nx_ok hA q1 q2 hz))).2
      split <;> omega
  intro n
  induction n with
  | zero => intro l _ h; omega
  | succ n ih =>
    intro l hl1 hn
    rw [f_X12_leadAt_38, r_stillBy hs ht hv hA hP (by omega) hch, bd_eq, md136_26 hs, gk147 hs, sn147 hs, gdI_nI (by omega) (by decide), nI_clamp (by omega), (hv s s1).1]
    rcases Nat.eq_or_lt_of_le hl1 with z | z
    · subst z
      have ee : sbV (nxS A (fre A p) p (md A p)) (wS A (fre A p) p (md A p) ch) L s l = L s := by
        unfold sbV
        rw [hN]
        dsimp only
        have := wS_pos (A := A) (F := fre A p) (p := p) (m := md A p) (ch := ch) s l
        rw [if_neg (by omega), e]
      rw [ee, if_pos rfl, ldi4 (by omega), lum10, lmo4, nI_add]
      by_cases w : nI k = i
      · rw [if_pos w, if_pos w]
        rfl
      · rw [if_neg w, if_neg w, md136_24 hs, gk145 hs, sn145 hs, lum8, nI_add, gdI_nI (by omega) (by decide), li, nI_clamp (by omega), ((ht s s1).2 hP l hlq).1, hN, lad1]
        rfl
    · have ne : ¬ nI (sbV (nxS A (fre A p) p (md A p)) (wS A (fre A p) p (md A p) ch) L s l) = nI (L s) := fun w => by
        have w2 := (nI_eq (sb l (by omega)) (by omega)).mp w
        unfold sbV at w2
        split at w2
        · omega
        · next z2 hz =>
          split at w2
          · omega
          · exact hl l z2 z hz w2
      rw [if_neg ne, lad1]
      exact ih (l + 1) (by omega) (by omega)
theorem r_lead25 (hs : Sh g) (ht : TH A p 1296 g) (hv : SV g L) (hA : Dm A) (hch : ch < 2) {S Q : Nat → Nat} {D : Nat} (hS : Sq (nxS A (fre A p) p (md A p)) (wS A (fre A p) p (md A p) ch) L (stB A (fre A p) p) S Q D) (hD : D < 2 ^ 30) {i : Nat} (hi : i < 2 ^ 31) : ∀ n k, k ≤ D → k ≤ i → D < n + k → f_X12_leadAt_25 n 136 (nI i) (nI ch) (nI (S k)) (nI k) g = some (if i < D then nI (tld (Q i)) else -1, g) := by
  intro n
  induction n with
  | zero => intro k _ _ h; omega
  | succ n ih =>
    intro k hk hki hn
    rw [f_X12_leadAt_25]
    rcases Nat.eq_or_lt_of_le hk with z | z
    · subst z
      have s1 := hS.2.2
      rw [md136_26 hs, gk147 hs, sn147 hs, gdI_nI (by omega) (by decide), nI_clamp (by omega), (hv _ s1).1, hS.2.1, if_pos (show nI 0 ≤ 0 by decide), if_neg (by omega)]
    · obtain ⟨a1, a2, a3, a4, a5, a6, a7⟩ := hS.1 k z
      have s1 := stB_lt hA a1
      rw [md136_26 hs, gk147 hs, sn147 hs, gdI_nI (by omega) (by decide), nI_clamp (by omega), (hv _ s1).1, if_neg (nI_nle a2 (by omega)), show (0 : Int32) = nI 0 from rfl, r_lead38 hs ht hv hA a1 a4 hch a2 a3 a5 a6 a7 (nI i) FU 0 (Nat.zero_le _) (by have := @FU_gt 8 (by decide); omega)]
      by_cases w : k = i
      · rw [if_pos (by rw [w]), w, if_pos (by omega)]
      · rw [if_neg (fun u => w ((nI_eq (by omega) hi).mp u))]
        exact ih (k + 1) z (by omega) (by omega)
theorem r_leadAt (h : RS A g) (hp : p < nv A 3) (ht : TH A p 1296 g) (hv : SV g L) (hch : ch < 2) {S Q : Nat → Nat} {D : Nat} (hS : Sq (nxS A (fre A p) p (md A p)) (wS A (fre A p) p (md A p) ch) L (stB A (fre A p) p) S Q D) (hD : D < 100000) (h0 : S 0 = 36 * tw A (2 * p) + tw A (2 * p + 1)) {i : Nat} (hi : i < 2 ^ 31) : f_X12_leadAt 136 (nI p) (nI i) (nI ch) g = some (if i < D then nI (tld (Q i)) else -1, g) := by
  obtain ⟨-, -, y1⟩ := now_lt h hp
  have hs := h.1
  have lf : L (S 0) < 1073741824 := by
    rcases Nat.eq_zero_or_pos D with z | z
    · have := hS.2.1
      rw [z] at this
      omega
    · exact (hS.1 0 z).2.2.1
  rw [f_X12_leadAt, r_standNow h hp, bd_eq, md136_26 hs, gk147 hs, sn147 hs, gdI_nI (by omega) (by decide), nI_clamp (by omega), (hv _ y1).1, ← h0, lFA, if_neg (fun z => by
    have := (nI_eq (by omega) (by decide)).mp z
    omega)]
  exact r_lead25 hs ht hv h.2.2.1 hch hS (by omega) hi FU 0 (Nat.zero_le _) (Nat.zero_le _) (by have := FU_gt hD; omega)
theorem r_leadF (h : RS A g) (hp : p < nv A 3) (hv : SV g L) (hF : L (36 * tw A (2 * p) + tw A (2 * p + 1)) = 1073741824) (i c : Int32) : f_X12_leadAt 136 (nI p) i c g = some (-1, g) := by
  obtain ⟨-, -, y1⟩ := now_lt h hp
  have hs := h.1
  rw [f_X12_leadAt, r_standNow h hp, bd_eq, md136_26 hs, gk147 hs, sn147 hs, gdI_nI (by omega) (by decide), nI_clamp (by omega), (hv _ y1).1, lFA, hF, if_pos rfl]
/-! the class -/
variable {N : Nat → Nat → Option Nat} {P : Nat → Bool} {b n e0 y0 : Nat} {q pa la dp : Nat → Nat}
theorem c_find_2 (hb : Gc b) (hs : Sh g) (hG : GRw g b n q pa la dp) (hn : n ≤ 232) (hq : ∀ i, i < n → q i < 1296) (one two : Int32) : ∀ fu k, k ≤ n → n < fu + k → (∀ i, i < k → fitB (q i) one two = false) → (∃ e, e < n ∧ fitB (q e) one two = true ∧ (∀ i, i < e → fitB (q i) one two = false) ∧ f_X4_find_2 fu b one two (nI k) g = some (nI e, g)) ∨ ((∀ i, i < n → fitB (q i) one two = false) ∧ f_X4_find_2 fu b one two (nI k) g = some (-1, g)) := by
  intro fu
  induction fu with
  | zero => intro k _ h; omega
  | succ fu ih =>
    intro k hk hf hno
    rw [f_X4_find_2, hG.1]
    rcases Nat.lt_or_ge k n with z | z
    · rw [if_neg (nI_ge z (by omega)), c_fits hb hs hG.1 (by omega) z (hG.2.1 k z).1 (hq k z), bd_eq]
      cases hfi : fitB (q k) one two with
      | true =>
        rw [ibT]
        exact Or.inl ⟨k, z, hfi, hno, rfl⟩
      | false =>
        rw [ibF, lad1]
        exact ih (k + 1) (by omega) (by omega) (fun i hi => by
          rcases Nat.eq_or_lt_of_le (Nat.le_of_lt_succ hi) with w | w
          · rw [w]; exact hfi
          · exact hno i w)
    · rw [if_pos (nI_le z (by omega))]
      exact Or.inr ⟨fun i hi => hno i (by omega), rfl⟩
theorem c_find (hb : Gc b) (hs : Sh g) (hG : GRw g b n q pa la dp) (hn : n ≤ 232) (hq : ∀ i, i < n → q i < 1296) (one two : Int32) : (∃ e, e < n ∧ fitB (q e) one two = true ∧ (∀ i, i < e → fitB (q i) one two = false) ∧ f_X4_find b one two g = some (nI e, g)) ∨ ((∀ i, i < n → fitB (q i) one two = false) ∧ f_X4_find b one two g = some (-1, g)) := c_find_2 hb hs hG hn hq one two FU 0 (Nat.zero_le _) (by have := @FU_gt n (by omega); omega) (fun i hi => by omega)
theorem c_depthOf (hb : Gc b) (hs : Sh g) (hG : GRw g b n q pa la dp) (hn : n ≤ 232) {e : Nat} (he : e < n) : f_X4_depthOf b (nI e) g = some (nI (dp e), g) := by
  rw [f_X4_depthOf, c_has hG.1 (by omega) (by omega), bd_eq, decide_eq_true he, ibT, g_dr hb hs (by decide) (by decide), g_gk hb hs (by decide) (by decide), g_gn hb hs (by decide) (by decide), gdI_nI (by omega) (by decide), nI_clamp (by omega), (hG.2.1 e he).2.1]
theorem c_depth1 : f_X4_depthOf b (-1) g = some (-1, g) := by
  rw [f_X4_depthOf, c_has1, bd_eq, ibF]
theorem c_lead20 (hb : Gc b) (hs : Sh g) (hB : BF N q pa la dp n e0 0) (hG : GRw g b n q pa la dp) (hn : n ≤ 232) {e i : Nat} (he : e < n) (hi : i < dp e) : ∀ fu k, k + i < dp e → dp e < fu + k → f_X4_leadAt_20 fu b (nI i) (nI (anc pa e k)) (nI k) g = some (nI (la (anc pa e (dp e - 1 - i))), g) := by
  have dl := hB.dp_le e he
  intro fu
  induction fu with
  | zero => intro k h1 h2; omega
  | succ fu ih =>
    intro k h1 h2
    obtain ⟨a1, a2, a3⟩ := hB.anc_d he k (by omega)
    have p0 : 0 < anc pa e k := by
      rcases Nat.eq_zero_or_pos (anc pa e k) with z | z
      · rw [z, hB.1.2] at a2
        omega
      · exact z
    obtain ⟨r1, r2, r3⟩ := hG.2.1 _ a1
    obtain ⟨r4, r5⟩ := r3 p0
    rw [f_X4_leadAt_20, if_neg (lnge256 (by omega)), c_has hG.1 (by omega) (by omega), bd_eq, decide_eq_true a1, ibT, g_dr hb hs (by decide) (by decide), g_gk hb hs (by decide) (by decide), g_gn hb hs (by decide) (by decide), gdI_nI (by omega) (by decide), nI_clamp (by omega), r2, lad1]
    by_cases z : dp (anc pa e k) = i + 1
    · rw [if_pos (by rw [z]), g_dr hb hs (by decide) (by decide), g_gk hb hs (by decide) (by decide), g_gn hb hs (by decide) (by decide), gdI_nI (by omega) (by decide), r5, show dp e - 1 - i = k by omega]
    · rw [if_neg (fun w => z ((nI_eq (by omega) (by omega)).mp w)), g_dr hb hs (by decide) (by decide), g_gk hb hs (by decide) (by decide), g_gn hb hs (by decide) (by decide), gdI_nI (by omega) (by decide), li, r4, lad1]
      exact ih (k + 1) (by omega) (by omega)
theorem c_leadAt (hb : Gc b) (hs : Sh g) (hB : BF N q pa la dp n e0 0) (hG : GRw g b n q pa la dp) (hn : n ≤ 232) {e i : Nat} (he : e < n) (hi : i < 2 ^ 31) : f_X4_leadAt b (nI e) (nI i) g = some (if i < dp e then nI (la (anc pa e (dp e - 1 - i))) else -1, g) := by
  have dl := hB.dp_le e he
  rw [f_X4_leadAt, if_neg (nI_pos hi), c_depthOf hb hs hG hn he, bd_eq]
  by_cases z : i < dp e
  · rw [if_pos (nI_lt z (by omega)), if_pos z]
    exact c_lead20 hb hs hB hG hn he z FU 0 (by omega) (by have := @FU_gt (dp e) (by omega); omega)
  · rw [if_neg (nI_nlt (by omega) (by omega)), if_neg z]
theorem c_leadN {i : Nat} (hi : i < 2 ^ 31) : f_X4_leadAt b (-1) (nI i) g = some (-1, g) := by
  rw [f_X4_leadAt, if_neg (nI_pos hi), c_depth1, bd_eq, if_neg (fun z => by
    rw [Int32.lt_iff_toInt_lt, nI_toInt hi] at z
    have : (-1 : Int32).toInt = -1 := rfl
    omega)]
theorem c_told {l : Nat} (hl : l < 8) : f_X11_told (nI l) g = some (nI (tld l), g) := by
  rw [f_X11_told, if_pos (nI_pos' (by omega)), ldi4 (by omega), lum10, lmo4, nI_add]
  rfl
theorem c_told1 : f_X11_told (-1) g = some (-1, g) := by
  rw [f_X11_told, if_neg (by decide)]
/-! both -/
variable {F : Nat → Bool} {m : Nat}
theorem wS_0 (s l : Nat) : wS A F p m 0 s l = 1 := if_pos rfl
theorem LS_le (one two : Int32) (s : Nat) : LSf A F p m ch one two s ≤ 1073741824 := Nat.le_trans (wL_le 232 s) (v0S_le _ _ _ s)
theorem LS_0 (hA : Dm A) (hs : sp A p ≤ 10) (one two : Int32) {s : Nat} (hP : stB A F p s = true) : LSf A F p m ch one two s = 0 ↔ fitB s one two = true := by
  refine (wL_0 (fun s l => wS_pos s l) (fun x hx => stB_lt hA hx) (st_232 hA hs) s).trans ?_
  unfold v0S
  constructor
  · intro h
    split at h
    · next z => exact z.2
    · cases h
  · intro h
    rw [if_pos ⟨hP, h⟩]
theorem LS_1 (hA : Dm A) (hs : sp A p ≤ 10) (one two : Int32) {s l y : Nat} (hP : stB A F p s = true) (hl : l < 8) (he : nxS A F p m s l = some y) : LSf A F p m ch one two s ≤ LSf A F p m ch one two y + wS A F p m ch s l := wL_1 (fun s l => wS_pos s l) (fun x hx => stB_lt hA hx) (st_232 hA hs) hP hl he
theorem LS_2 (hA : Dm A) (hs : sp A p ≤ 10) (one two : Int32) {s : Nat} (h0 : 0 < LSf A F p m ch one two s) (hF : LSf A F p m ch one two s < 1073741824) : ∃ l y, stB A F p s = true ∧ l < 8 ∧ nxS A F p m s l = some y ∧ LSf A F p m ch one two y + wS A F p m ch s l = LSf A F p m ch one two s := by
  rcases wL_2 (v := v0S (stB A F p) one two) (E := nxS A F p m) (w := wS A F p m ch) (fun s l => wS_pos s l) (fun x hx => stB_lt hA hx) (st_232 (F := F) hA hs) s with e | e
  · exfalso
    have e' : LSf A F p m ch one two s = v0S (stB A F p) one two s := e
    unfold v0S at e'
    split at e' <;> omega
  · exact e
theorem LF_0 (hA : Dm A) (hs : sp A p ≤ 10) (one two : Int32) (hq : ∀ i, i < n → stB A F p (q i) = true) : LF (nxS A F p m) q n 1073741824 (LSf A F p m 0 one two) := by
  refine ⟨fun i l y hi hl he => ?_, fun i hi h0 hF => ?_⟩
  · have := LS_1 (ch := 0) hA hs one two (hq i hi) hl he
    rw [wS_0] at this
    exact this
  · obtain ⟨l, y, -, l1, l2, l3⟩ := LS_2 hA hs one two h0 hF
    rw [wS_0] at l3
    exact ⟨l, y, l1, l2, l3⟩
/-- found: as deep as far -/
theorem soon_found (hA : Dm A) (hs : sp A p ≤ 10) {one two : Int32} (hB : BF (nxS A F p m) q pa la dp n e0 0) (hq : ∀ i, i < n → stB A F p (q i) = true) (hn : n ≤ 232) {e : Nat} (he : e < n) (hm : e ≤ e0) (hf : fitB (q e) one two = true) (hno : ∀ i, i < e → fitB (q i) one two = false) : LSf A F p m 0 one two (q 0) = dp e := by
  have dl := hB.dp_le e he
  exact hB.found (LF_0 hA hs one two hq) he hm ((LS_0 hA hs one two (hq e he)).mpr hf) (fun i hi z => by
    have := (LS_0 hA hs one two (hq i (by omega))).mp z
    rw [hno i hi] at this
    cases this) (by omega)
theorem soon_none (hA : Dm A) (hs : sp A p ≤ 10) {one two : Int32} (hB : BF (nxS A F p m) q pa la dp n n 0) (hq : ∀ i, i < n → stB A F p (q i) = true) (hno : ∀ i, i < n → fitB (q i) one two = false) : LSf A F p m 0 one two (q 0) = 1073741824 := by
  refine Nat.le_antisymm (LS_le one two _) (hB.far (LF_0 hA hs one two hq) (fun i hi z => ?_))
  have := (LS_0 hA hs one two (hq i hi)).mp z
  rw [hno i hi] at this
  cases this
theorem soon_seq (hA : Dm A) (hs : sp A p ≤ 10) {one two : Int32} (hB : BF (nxS A F p m) q pa la dp n e0 0) (hq : ∀ i, i < n → stB A F p (q i) = true) (hn : n ≤ 232) {e : Nat} (he : e < n) (hm : e ≤ e0) (hf : fitB (q e) one two = true) (hno : ∀ i, i < e → fitB (q i) one two = false) : Sq (nxS A F p m) (wS A F p m 0) (LSf A F p m 0 one two) (stB A F p) (fun k => q (anc pa e (dp e - k))) (fun k => la (anc pa e (dp e - 1 - k))) (dp e) ∧ anc pa e (dp e) = 0 := by
  have dl := hB.dp_le e he
  have hL := LF_0 (m := m) hA hs one two hq
  have g0 := (LS_0 (m := m) (ch := 0) hA hs one two (hq e he)).mpr hf
  have g1 : ∀ i, i < e → LSf A F p m 0 one two (q i) ≠ 0 := fun i hi z => by
    have := (LS_0 hA hs one two (hq i (by omega))).mp z
    rw [hno i hi] at this
    cases this
  have e00 : anc pa e (dp e) = 0 := by
    obtain ⟨a1, a2, a3⟩ := hB.anc_d he (dp e) (Nat.le_refl _)
    rcases Nat.eq_zero_or_pos (anc pa e (dp e)) with z | z
    · exact z
    · have := hB.d0 a1 z
      omega
  refine ⟨⟨fun k hk => ?_, ?_, ?_⟩, e00⟩
  · obtain ⟨w1, w2, w3, w4, w5, w6, w7⟩ := hB.way hL he hm g0 g1 (by omega) (j := dp e - 1 - k) (by omega)
    obtain ⟨a1, -, -⟩ := hB.anc_d he (dp e - k) (by omega)
    have j1 : dp e - 1 - k + 1 = dp e - k := by omega
    have j2 : dp e - (k + 1) = dp e - 1 - k := by omega
    rw [j1] at w4 w6 w7
    dsimp only
    rw [j2]
    refine ⟨hq _ a1, by omega, by omega, w5, w6, ?_, fun l' y h1 h2 => ?_⟩
    · rw [wS_0]
      omega
    · rw [wS_0]
      exact w7 l' y h1 h2
  · dsimp only
    rw [Nat.sub_self]
    exact g0
  · dsimp only
    rw [Nat.sub_self]
    exact stB_lt hA (hq e he)
end WAY
