/-! WHAT IS FARTHEST. -/
section FAR
variable {A : Nat → Int32} {g g' : G} {p n t : Nat} {q pa la dp : Nat → Nat}
def ceI (q : Nat → Nat) (t i : Nat) : Nat := ow t (q i / 36) (q i % 36)
/-- the first stand in which a twin is in a cell, by how many leads -/
def fiC (q : Nat → Nat) (t n c : Nat) : Nat := fstB (fun i => decide (ceI q t i = c)) n
theorem fiC_ok {c i : Nat} (hi : i < n) (hc : ceI q t i = c) : fiC q t n c < n ∧ ceI q t (fiC q t n c) = c ∧ fiC q t n c ≤ i := by
  have l := fst_lt (P := fun i => decide (ceI q t i = c)) hi (decide_eq_true hc)
  refine ⟨l, of_decide_eq_true (fst_ok _ n l), Nat.not_lt.mp (fun u => ?_)⟩
  have := fst_no _ n i u
  rw [decide_eq_true hc] at this
  cases this
/-- what is best: the most leads, then the first cell -/
def FB (q dp : Nat → Nat) (t n : Nat) (D : Nat → Prop) (b : Nat) : Prop := (∃ i, i < n ∧ ceI q t i = b) ∧ ∀ c, D c → (∃ i, i < n ∧ ceI q t i = c) → dp (fiC q t n c) < dp (fiC q t n b) ∨ (dp (fiC q t n c) = dp (fiC q t n b) ∧ b ≤ c)
theorem FB_eq {D D' : Nat → Prop} {b b' : Nat} (h : FB q dp t n D b) (h' : FB q dp t n D' b') (d : D b') (d' : D' b) : b = b' := by
  have a1 := h.2 b' d h'.1
  have a2 := h'.2 b d' h.1
  omega
def mF (fv ce : Nat → Nat) (c : Nat) : Nat → Nat
  | 0 => 1073741824
  | k + 1 => if ce k = c ∧ fv k < mF fv ce c k then fv k else mF fv ce c k
theorem mF_le {fv ce : Nat → Nat} {c : Nat} : ∀ k, mF fv ce c k ≤ 1073741824
  | 0 => Nat.le_refl _
  | k + 1 => by
    have := mF_le (fv := fv) (ce := ce) (c := c) k
    unfold mF
    split <;> omega
theorem mF_low {fv ce : Nat → Nat} {c s : Nat} (hs : ce s = c) : ∀ k, s < k → mF fv ce c k ≤ fv s
  | 0, h => by omega
  | k + 1, h => by
    unfold mF
    rcases Nat.lt_or_ge s k with z | z
    · have := mF_low (fv := fv) hs k z
      split <;> omega
    · have e : s = k := by omega
      subst e
      split <;> omega
theorem mF_or {fv ce : Nat → Nat} {c : Nat} : ∀ k, mF fv ce c k = 1073741824 ∨ ∃ s, s < k ∧ ce s = c ∧ mF fv ce c k = fv s
  | 0 => Or.inl rfl
  | k + 1 => by
    have ih := mF_or (fv := fv) (ce := ce) (c := c) k
    unfold mF
    split
    · next h => exact Or.inr ⟨k, by omega, h.1, rfl⟩
    · rcases ih with e | ⟨s, s1, s2, s3⟩
      · exact Or.inl e
      · exact Or.inr ⟨s, by omega, s2, s3⟩
def fvS (q dp : Nat → Nat) (n s : Nat) : Nat := if pB q n s = true then dp (idx q n s) else 1073741824
theorem FR.fv (h : FR q dp n g) (hi : ∀ i j, i < n → j < n → q i = q j → i = j) {s : Nat} (hs : s < 1296) : gI g 148 s = nI (fvS q dp n s) := by
  unfold fvS
  rcases h s hs with ⟨i, i1, i2, i3⟩ | ⟨i1, i2⟩
  · rw [if_pos (pB_iff.mpr ⟨i, i1, i2⟩), i3, ← i2, idx_q hi i1]
  · rw [pB_f.mpr i1, if_neg (by decide), i2]
theorem fv_q (hi : ∀ i j, i < n → j < n → q i = q j → i = j) {i : Nat} (h1 : i < n) : fvS q dp n (q i) = dp i := by
  unfold fvS
  rw [if_pos (pB_iff.mpr ⟨i, h1, rfl⟩), idx_q hi h1]
theorem r_fin7 (hs : Sh g) (h : FR q dp n g) (hi : ∀ i j, i < n → j < n → q i = q j → i = j) (hd : ∀ i, i < n → dp i < 1000) (ht : t < 2) {c : Nat} (hc : c < 36) : ∀ fu k, k ≤ 1296 → 1296 < fu + k → f_X12_firstIn_7 fu 136 (nI t) (nI c) (nI (mF (fvS q dp n) (fun s => ow t (s / 36) (s % 36)) c k)) (nI k) g = some (nI (mF (fvS q dp n) (fun s => ow t (s / 36) (s % 36)) c 1296), g) := by
  intro fu
  induction fu with
  | zero => intro k _ h; omega
  | succ fu ih =>
    intro k hk hf
    rw [f_X12_firstIn_7]
    rcases Nat.lt_or_ge k 1296 with z | z
    · have i := ih (k + 1) (by omega) (by omega)
      have cu : mF (fvS q dp n) (fun s => ow t (s / 36) (s % 36)) c (k + 1) = if ow t (k / 36) (k % 36) = c ∧ fvS q dp n k < mF (fvS q dp n) (fun s => ow t (s / 36) (s % 36)) c k then fvS q dp n k else mF (fvS q dp n) (fun s => ow t (s / 36) (s % 36)) c k := rfl
      rw [cu] at i
      have ol : ow t (k / 36) (k % 36) < 36 := ow_lt (by omega) (by omega)
      have ml := mF_le (fv := fvS q dp n) (ce := fun s => ow t (s / 36) (s % 36)) (c := c) k
      have fl : fvS q dp n k ≤ 1073741824 := by
        unfold fvS
        split
        · next hp =>
          obtain ⟨i, i1, i2⟩ := pB_iff.mp hp
          rw [← i2, idx_q hi i1]
          have := hd i i1
          omega
        · omega
      rw [if_neg (lnge1296 z), r_inStand z ht, bd_eq]
      by_cases w : ow t (k / 36) (k % 36) = c
      · rw [if_pos (by rw [w]), md136_27 hs, gk148 hs, sn148 hs, gdI_nI z (by decide), nI_clamp (by omega), h.fv hi z, li, f_X12_firstIn_44, f_X12_firstIn_44, lad1]
        by_cases v : mF (fvS q dp n) (fun s => ow t (s / 36) (s % 36)) c k ≤ fvS q dp n k
        · rw [if_pos (nI_le v (by omega))]
          rw [if_neg (fun u => by omega)] at i
          exact i
        · rw [if_neg (nI_ge (Nat.lt_of_not_le v) (by omega))]
          rw [if_pos ⟨w, by omega⟩] at i
          exact i
      · rw [if_neg (fun u => w ((nI_eq (by omega) (by omega)).mp u)), f_X12_firstIn_44, lad1]
        rw [if_neg (fun u => w u.1)] at i
        exact i
    · have e : k = 1296 := by omega
      subst e
      rw [if_pos (lle1296 (by decide) (by decide))]
theorem r_firstIn (hs : Sh g) (h : FR q dp n g) {N : Nat → Nat → Option Nat} (hB : BF N q pa la dp n n 0) (hn : n ≤ 232) (hq : ∀ i, i < n → q i < 1296) (ht : t < 2) {c : Nat} (hc : c < 36) : (∃ i, i < n ∧ ceI q t i = c) ∧ f_X12_firstIn 136 (nI t) (nI c) g = some (nI (dp (fiC q t n c)), g) ∨ (∀ i, i < n → ceI q t i ≠ c) ∧ f_X12_firstIn 136 (nI t) (nI c) g = some (nI 1073741824, g) := by
  have hi := hB.2.1
  have hd : ∀ i, i < n → dp i < 1000 := fun i h1 => by
    have := hB.dp_le i h1
    omega
  have e := r_fin7 hs h hi hd ht hc FU 0 (by decide) (by have := @FU_gt 1296 (by decide); omega)
  have e' : f_X12_firstIn 136 (nI t) (nI c) g = some (nI (mF (fvS q dp n) (fun s => ow t (s / 36) (s % 36)) c 1296), g) := by
    rw [f_X12_firstIn, lFA]
    exact e
  by_cases r : ∃ i, i < n ∧ ceI q t i = c
  · left
    refine ⟨r, ?_⟩
    obtain ⟨i, i1, i2⟩ := r
    obtain ⟨f1, f2, f3⟩ := fiC_ok i1 i2
    have lo := mF_low (fv := fvS q dp n) (ce := fun s => ow t (s / 36) (s % 36)) (c := c) (s := q (fiC q t n c)) f2 1296 (hq _ f1)
    rw [fv_q hi f1] at lo
    have d1 := hd _ f1
    rw [e']
    congr 3
    rcases mF_or (fv := fvS q dp n) (ce := fun s => ow t (s / 36) (s % 36)) (c := c) 1296 with u | ⟨s, s1, s2, s3⟩
    · omega
    · rw [s3] at lo ⊢
      have hp : pB q n s = true := by
        cases hp : pB q n s with
        | true => rfl
        | false =>
          unfold fvS at lo
          rw [hp, if_neg (by decide)] at lo
          omega
      obtain ⟨j, j1, j2⟩ := pB_iff.mp hp
      rw [← j2, fv_q hi j1] at lo ⊢
      have s2' : ceI q t j = c := by
        unfold ceI
        rw [j2]
        exact s2
      have := hB.mono j j1 _ (fiC_ok j1 s2').2.2
      omega
  · right
    refine ⟨fun i i1 i2 => r ⟨i, i1, i2⟩, ?_⟩
    rw [e']
    congr 3
    rcases mF_or (fv := fvS q dp n) (ce := fun s => ow t (s / 36) (s % 36)) (c := c) 1296 with u | ⟨s, s1, s2, s3⟩
    · exact u
    · rw [s3]
      unfold fvS
      rw [if_neg (fun hp => by
        obtain ⟨j, j1, j2⟩ := pB_iff.mp hp
        exact r ⟨j, j1, by unfold ceI; rw [j2]; exact s2⟩)]
theorem r_far37 (h : RS A g) (hF : FR q dp n g) {N : Nat → Nat → Option Nat} (hB : BF N q pa la dp n n 0) (hn : n ≤ 232) (hq : ∀ i, i < n → q i < 1296) (hcs : ∀ i, i < n → ceI q t i < cS A) (ht : t < 2) : ∀ fu k (b m : Int32), ((b = -1 ∧ m = -1 ∧ ∀ c, c < k → ∀ i, i < n → ceI q t i ≠ c) ∨ ∃ b', b' < k ∧ b = nI b' ∧ m = nI (dp (fiC q t n b')) ∧ FB q dp t n (fun c => c < k) b') → k ≤ cS A → cS A < fu + k → ∃ b', f_X12_farthest_37 fu 136 (nI t) b m (nI k) g = some (nI b', g) ∧ b' < cS A ∧ FB q dp t n (fun c => c < cS A) b' := by
  have cl := h.cl
  have hd : ∀ i, i < n → dp i < 1000 := fun i h1 => by
    have := hB.dp_le i h1
    omega
  intro fu
  induction fu with
  | zero => intro k b m _ _ h; omega
  | succ fu ih =>
    intro k b m hI hk hf
    rw [f_X12_farthest_37, R_cells h, bd_eq]
    rcases Nat.lt_or_ge k (cS A) with z | z
    · rw [if_neg (nI_ge z (by omega))]
      rcases r_firstIn h.1 hF hB hn hq ht (show k < 36 by omega) with ⟨r, e⟩ | ⟨r, e⟩
      · obtain ⟨i, i1, i2⟩ := r
        obtain ⟨f1, f2, f3⟩ := fiC_ok i1 i2
        have d1 := hd _ f1
        rw [e, bd_eq, lFA, if_neg (fun u => by
          have := (nI_eq (by omega) (by decide)).mp u
          omega)]
        rcases hI with ⟨h1, h2, h3⟩ | ⟨b', b1, b2, b3, b4⟩
        · rw [h2, if_pos (by
            rw [Int32.lt_iff_toInt_lt, nI_toInt (by omega)]
            have : (-1 : Int32).toInt = -1 := rfl
            omega), f_X12_farthest_80, lad1]
          refine ih (k + 1) _ _ (Or.inr ⟨k, by omega, rfl, rfl, ⟨i, i1, i2⟩, fun c hc hr => ?_⟩) (by omega) (by omega)
          obtain ⟨j, j1, j2⟩ := hr
          rcases Nat.eq_or_lt_of_le (Nat.le_of_lt_succ hc) with w | w
          · rw [w]
            exact Or.inr ⟨rfl, Nat.le_refl _⟩
          · exact absurd j2 (h3 c w j j1)
        · obtain ⟨j, j1, j2⟩ := b4.1
          have d2 := hd _ (fiC_ok j1 j2).1
          rw [b3]
          by_cases w : dp (fiC q t n b') < dp (fiC q t n k)
          · rw [if_pos (nI_lt w (by omega)), f_X12_farthest_80, lad1]
            refine ih (k + 1) _ _ (Or.inr ⟨k, by omega, rfl, rfl, ⟨i, i1, i2⟩, fun c hc hr => ?_⟩) (by omega) (by omega)
            rcases Nat.eq_or_lt_of_le (Nat.le_of_lt_succ hc) with v | v
            · rw [v]
              exact Or.inr ⟨rfl, Nat.le_refl _⟩
            · have := b4.2 c v hr
              omega
          · rw [if_neg (nI_nlt (by omega) (by omega)), f_X12_farthest_80, lad1]
            refine ih (k + 1) _ _ (Or.inr ⟨b', by omega, b2, rfl, b4.1, fun c hc hr => ?_⟩) (by omega) (by omega)
            rcases Nat.eq_or_lt_of_le (Nat.le_of_lt_succ hc) with v | v
            · rw [v]
              omega
            · exact b4.2 c v hr
      · rw [e, bd_eq, lFA, if_pos rfl, f_X12_farthest_80, lad1]
        refine ih (k + 1) _ _ ?_ (by omega) (by omega)
        rcases hI with ⟨h1, h2, h3⟩ | ⟨b', b1, b2, b3, b4⟩
        · refine Or.inl ⟨h1, h2, fun c hc => ?_⟩
          rcases Nat.eq_or_lt_of_le (Nat.le_of_lt_succ hc) with v | v
          · rw [v]; exact r
          · exact h3 c v
        · refine Or.inr ⟨b', by omega, b2, b3, b4.1, fun c hc hr => ?_⟩
          rcases Nat.eq_or_lt_of_le (Nat.le_of_lt_succ hc) with v | v
          · obtain ⟨j, j1, j2⟩ := hr
            rw [v] at j2
            exact absurd j2 (r j j1)
          · exact b4.2 c v hr
    · have e : k = cS A := by omega
      subst e
      rw [if_pos (nI_le z (by omega))]
      rcases hI with ⟨h1, h2, h3⟩ | ⟨b', b1, b2, b3, b4⟩
      · exact absurd rfl (h3 _ (hcs 0 hB.1.1) 0 hB.1.1)
      · exact ⟨b', by rw [b2], b1, b4⟩
theorem c_lc11 (hs : Sh g) (hG : GRw g 2 n q pa la dp) {N : Nat → Nat → Option Nat} (hB : BF N q pa la dp n n 0) (hn : n ≤ 232) (hq : ∀ i, i < n → q i < 1296) (ht : t < 2) : ∀ fu k (m : Int64) (b l : Int32), (∀ c, c < 64 → bt m c = decide (∃ i, i < k ∧ ceI q t i = c)) → ((k = 0 ∧ b = -1 ∧ l = -1) ∨ ∃ b', b = nI b' ∧ l = nI (dp (fiC q t n b')) ∧ fiC q t n b' < k ∧ FB q dp t n (fun c => fiC q t n c < k) b') → k ≤ n → n < fu + k → ∃ b', f_X4_lastCellOf_11 fu 2 (nI t) m b l (nI k) g = some (nI b', g) ∧ FB q dp t n (fun c => fiC q t n c < n) b' := by
  intro fu
  induction fu with
  | zero => intro k m b l _ _ _ h; omega
  | succ fu ih =>
    intro k m b l hm hI hk hf
    rw [f_X4_lastCellOf_11, hG.1]
    rcases Nat.lt_or_ge k n with z | z
    · have q1 := hq k z
      have ol : ceI q t k < 36 := by
        unfold ceI
        exact ow_lt (by omega) (by omega)
      have dk := hB.dp_le k z
      rw [if_neg (nI_ge z (by omega)), c_cellOf (Or.inl rfl) hs hG hn z q1 ht, bd_eq, show ow t (q k / 36) (q k % 36) = ceI q t k from rfl, ibt (show ceI q t k < 64 by omega), hm _ (by omega)]
      have hm' : ∀ c, c < 64 → bt (m ||| (1 : Int64) <<< ((nI (ceI q t k)).toInt64 &&& 63)) c = decide (∃ i, i < k + 1 ∧ ceI q t i = c) := fun c hc => by
        rw [bt_or, bt_one (by omega), hm c hc, Bool.eq_iff_iff, Bool.or_eq_true, decide_eq_true_eq, decide_eq_true_eq, decide_eq_true_eq]
        constructor
        · rintro (⟨i, i1, i3⟩ | u)
          · exact ⟨i, by omega, i3⟩
          · exact ⟨k, by omega, u.symm⟩
        · rintro ⟨i, i1, i3⟩
          by_cases e : i = k
          · right
            rw [← i3, e]
          · exact Or.inl ⟨i, by omega, i3⟩
      by_cases seen : ∃ i, i < k ∧ ceI q t i = ceI q t k
      · rw [if_pos (decide_eq_true seen), f_X4_lastCellOf_79, lad1]
        obtain ⟨i, i1, i2⟩ := seen
        have fk := (fiC_ok (show i < n by omega) i2).2.2
        refine ih (k + 1) m b l (fun c hc => ?_) ?_ (by omega) (by omega)
        · rw [hm c hc, decide_eq_decide]
          constructor
          · rintro ⟨j, j1, j2⟩
            exact ⟨j, by omega, j2⟩
          · rintro ⟨j, j1, j2⟩
            by_cases e : j = k
            · exact ⟨i, i1, by rw [i2, ← e]; exact j2⟩
            · exact ⟨j, by omega, j2⟩
        · rcases hI with ⟨h1, -⟩ | ⟨b', b1, b2, b3, b4⟩
          · omega
          · refine Or.inr ⟨b', b1, b2, by omega, b4.1, fun c hc hr => ?_⟩
            refine b4.2 c ?_ hr
            obtain ⟨j, j1, j2⟩ := hr
            obtain ⟨f1, f2, f3⟩ := fiC_ok j1 j2
            show fiC q t n c < k
            rcases Nat.eq_or_lt_of_le (Nat.le_of_lt_succ hc) with v | v
            · exfalso
              rw [v] at f2
              have := (fiC_ok (show i < n by omega) (i2.trans f2)).2.2
              omega
            · exact v
      · have fk : fiC q t n (ceI q t k) = k := by
          obtain ⟨f1, f2, f3⟩ := fiC_ok (q := q) (t := t) z rfl
          rcases Nat.eq_or_lt_of_le f3 with v | v
          · exact v
          · exact absurd ⟨_, v, f2⟩ seen
        rw [if_neg (fun u => seen (of_decide_eq_true u)), ll, g_dr (Or.inl rfl) hs (by decide) (by decide), g_gk (Or.inl rfl) hs (by decide) (by decide), g_gn (Or.inl rfl) hs (by decide) (by decide), gdI_nI (by omega) (by decide), nI_clamp (by omega), (hG.2.1 k z).2.1]
        have c66 : ∀ {P : Prop}, ((∀ c, fiC q t n c < k → (∃ i, i < n ∧ ceI q t i = c) → dp (fiC q t n c) < dp k ∨ (dp (fiC q t n c) = dp k ∧ ceI q t k ≤ c))) → ∃ b', f_X4_lastCellOf_66 (f_X4_lastCellOf_11 fu) 2 (nI t) (m ||| (1 : Int64) <<< ((nI (ceI q t k)).toInt64 &&& 63)) (nI k) (nI (ceI q t k)) g = some (nI b', g) ∧ FB q dp t n (fun c => fiC q t n c < n) b' := fun {P} hc => by
          rw [f_X4_lastCellOf_66, g_dr (Or.inl rfl) hs (by decide) (by decide), g_gk (Or.inl rfl) hs (by decide) (by decide), g_gn (Or.inl rfl) hs (by decide) (by decide), gdI_nI (by omega) (by decide), li, nI_clamp (by omega), (hG.2.1 k z).2.1, f_X4_lastCellOf_79, lad1]
          refine ih (k + 1) _ _ _ hm' (Or.inr ⟨ceI q t k, rfl, by rw [fk], by omega, ⟨k, z, rfl⟩, fun c h1 hr => ?_⟩) (by omega) (by omega)
          rw [fk]
          rcases Nat.eq_or_lt_of_le (Nat.le_of_lt_succ h1) with v | v
          · right
            obtain ⟨j, j1, j2⟩ := hr
            have := (fiC_ok j1 j2).2.1
            rw [v] at this ⊢
            exact ⟨rfl, Nat.le_of_eq this⟩
          · exact hc c v hr
        rcases hI with ⟨h1, h2, h3⟩ | ⟨b', b1, b2, b3, b4⟩
        · rw [h3, if_pos (by
            rw [Int32.lt_iff_toInt_lt, nI_toInt (by omega)]
            have : (-1 : Int32).toInt = -1 := rfl
            omega)]
          exact c66 (P := True) (fun c hc => by omega)
        · have db := hB.dp_le _ (show fiC q t n b' < n by omega)
          have mono := hB.mono k z _ (Nat.le_of_lt b3)
          obtain ⟨j, j1, j2⟩ := b4.1
          have b36 : b' < 36 := by
            rw [← j2]
            unfold ceI
            have := hq j j1
            exact ow_lt (by omega) (by omega)
          rw [b2]
          by_cases w : dp (fiC q t n b') < dp k
          · rw [if_pos (nI_lt w (by omega))]
            exact c66 (P := True) (fun c hc hr => by
              have := b4.2 c hc hr
              omega)
          · rw [if_neg (nI_nlt (by omega) (by omega)), b1]
            by_cases v : b' ≤ ceI q t k
            · rw [if_pos (nI_le v (by omega)), f_X4_lastCellOf_79, lad1]
              refine ih (k + 1) _ _ _ hm' (Or.inr ⟨b', rfl, rfl, by omega, b4.1, fun c h1 hr => ?_⟩) (by omega) (by omega)
              rcases Nat.eq_or_lt_of_le (Nat.le_of_lt_succ h1) with x | x
              · right
                obtain ⟨j, j1, j2⟩ := hr
                have := (fiC_ok j1 j2).2.1
                rw [x] at this ⊢
                exact ⟨by omega, by rw [← this]; exact v⟩
              · exact b4.2 c x hr
            · rw [if_neg (nI_ge (Nat.lt_of_not_le v) (by omega))]
              exact c66 (P := True) (fun c hc hr => by
                have := b4.2 c hc hr
                omega)
    · have e : k = n := by omega
      subst e
      rw [if_pos (nI_le z (by omega))]
      rcases hI with ⟨h1, -⟩ | ⟨b', b1, b2, b3, b4⟩
      · have := hB.1.1
        omega
      · exact ⟨b', by rw [b1], b4⟩
end FAR
