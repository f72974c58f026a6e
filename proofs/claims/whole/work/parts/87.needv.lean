/-! A WALL MORE: what it changes, and the ways that stay. -/
section NDV
variable {A : Nat → Int32} {F F' : Nat → Bool} {p m c n : Nat} {q pa la dp : Nat → Nat}
def wA (A : Nat → Int32) (c : Nat) : Nat → Int32 := upd A (52 + c) (nI 1)
theorem wA_n {k : Nat} (h : k ≠ 52 + c) : wA A c k = A k := pk_un h
theorem wA_s : wA A c (52 + c) = nI 1 := pk_us
theorem wA_v {k : Nat} (h : k ≠ 52 + c) : nv (wA A c) k = nv A k := by
  unfold nv
  rw [wA_n h]
theorem wA_tw (hc : c < 36) (i : Nat) : tw (wA A c) i = tw A i := wA_v (by omega)
theorem wA_sp (hc : c < 36) (p : Nat) : sp (wA A c) p = sp A p := by
  unfold sp
  rw [wA_tw hc, wA_tw hc, wA_v (by omega)]
theorem wA_cS (hc : c < 36) : cS (wA A c) = cS A := by
  unfold cS
  rw [wA_v (by omega), wA_v (by omega)]
theorem wA_md (hc : c < 36) (p : Nat) : md (wA A c) p = md A p := wA_v (by omega)
theorem wA_L (hc : c < 36) {w : Nat} (hw : w < 2) : lawL (wA A c) w = lawL A w := by
  unfold lawL
  rw [wA_v (k := 8 + w) (by omega), wA_v (k := 6 + w) (by omega)]
  congr 1
  funext j
  exact wA_v (by omega)
theorem wA_hp (hc : c < 36) {a : Nat} (ha : a < 36) : hp (wA A c) a = hp A a := by
  unfold hp ht
  rw [wA_v (by omega)]
theorem wA_may (hc : c < 36) {t a b : Nat} (ha : a < 36) (hb : b < 36) : may (wA A c) p m t a b = may A p m t a b := by
  unfold may lawT lawV
  rw [wA_L hc (by decide), wA_hp hc ha, wA_hp hc hb, wA_v (k := 2) (by omega), wA_n (k := 4) (by omega)]
theorem wA_dw (hA : Dm A) (hc : c < 36) {t b x : Nat} (hb : b < cS A) : dwS (wA A c) F p m t b x = dwS A F p m t b x := by
  have cl := cS_le hA
  unfold dwS
  rw [wA_v (k := 2) (by omega), wA_sp hc, wA_cS hc]
  by_cases z : F b = true ∧ apS (nv A 2) x b = sp A p
  · rw [if_pos z, if_pos z]
  · rw [if_neg z, if_neg z]
    exact bst_congr (fun d hd => by rw [wA_may hc (by omega) (by omega)])
theorem wA_st (hA : Dm A) (hc : c < 36) {t a b w : Nat} (ha : a < cS A) (hb : b < cS A) : stS (wA A c) F p m t a b w = stS A F p m t a b w := by
  have cl := cS_le hA
  unfold stS
  rw [wA_v (k := 1) (by omega), wA_v (k := 2) (by omega)]
  cases hx : besS (nv A 1) (nv A 2) a w with
  | none => rfl
  | some x =>
    have hx' : x < cS A := besS_lt (by have := hA.2.2.2.2.1; omega) ha hx
    dsimp only
    rw [wA_may hc (by omega) (by omega), wA_dw hA hc hb]
theorem wA_nx (hA : Dm A) (hc : c < 36) {s l : Nat} (h1 : s / 36 < cS A) (h2 : s % 36 < cS A) : nxS (wA A c) F p m s l = nxS A F p m s l := by
  unfold nxS
  rw [wA_st hA hc (ow_lt h1 h2) (ow_lt h2 h1)]
theorem wA_stB (hc : c < 36) (s : Nat) : stB (wA A c) F p s = stB A F p s := by
  unfold stB
  rw [wA_cS hc, wA_v (by omega), wA_sp hc]
theorem wA_wl {d : Nat} : wl (wA A c) d = if d = c then 1 else wl A d := by
  unfold wl
  by_cases e : d = c
  · rw [if_pos e, e]
    unfold nv
    rw [wA_s]
    rfl
  · rw [if_neg e, wA_v (by omega)]
theorem wA_fre (hc : c < 36) (p d : Nat) : fre (wA A c) p d = (fre A p d && decide (d ≠ c)) := by
  unfold fre
  rw [wA_wl, wA_v (k := 3) (by omega)]
  by_cases e : d = c
  · rw [if_pos e, decide_eq_false (fun u => absurd u.1 (by decide)), show decide (d ≠ c) = false from decide_eq_false (fun u => u e), Bool.and_false]
  · rw [if_neg e, decide_eq_true e, Bool.and_true, decide_eq_decide]
    constructor
    · rintro ⟨a1, a2⟩
      exact ⟨a1, fun i h1 h2 => by
        rw [← wA_tw hc]
        exact a2 i h1 h2⟩
    · rintro ⟨a1, a2⟩
      exact ⟨a1, fun i h1 h2 => by
        rw [wA_tw hc]
        exact a2 i h1 h2⟩
theorem wA_LV (hc : c < 36) {w : Nat} (hw : w < 2) {b : Bool} (h : LV A w b) : LV (wA A c) w b := by
  unfold LV at h ⊢
  rw [wA_L hc hw, wA_v (k := 8 + w) (by omega), wA_v (k := 6 + w) (by omega), wA_n (k := 8 + w) (by omega), wA_n (k := 6 + w) (by omega)]
  refine ⟨h.1, h.2.1, h.2.2.1, fun j hj => ?_, h.2.2.2.2⟩
  rw [wA_n (by omega), wA_v (by omega)]
  exact h.2.2.2.1 j hj
theorem wA_ok (hA : Dm A) (hB : VB A (bo A)) (hL : LW A) (hc : c < cS A) (hno : ∀ i, i < 2 * nv A 3 → tw A i ≠ c) : Dm (wA A c) ∧ VB (wA A c) (bo (wA A c)) ∧ LW (wA A c) := by
  have cl := cS_le hA
  have c36 : c < 36 := by omega
  have bn : ∀ k, k ≠ c → bo (wA A c) k = bo A k := fun k h => wA_n (by omega)
  have nn : ∀ k, k ≠ c → nv (bo (wA A c)) k = nv (bo A) k := fun k h => by
    unfold nv
    rw [bn k h]
  have k3 := hA.2.2.2.2.2.2.2
  refine ⟨?_, ⟨fun d hd => ?_, fun i hi => ?_, fun i j hi hj hij => ?_, fun p hp => ?_, fun p hp => ?_, fun p hp => ?_⟩, ?_⟩
  · unfold Dm at hA ⊢
    rw [wA_v (k := 1) (by omega), wA_v (k := 2) (by omega), wA_v (k := 3) (by omega), wA_n (k := 1) (by omega), wA_n (k := 2) (by omega), wA_n (k := 3) (by omega)]
    exact hA
  · rw [wA_cS c36]
    by_cases e : d = c
    · have e1 : bo (wA A c) d = nI 1 := by
        rw [e]
        exact wA_s
      have e2 : nv (bo (wA A c)) d = 1 := by
        unfold nv
        rw [e1]
        rfl
      rw [e1, e2]
      exact ⟨rfl, Nat.le_refl _, fun u => by omega⟩
    · rw [bn d e, nn d e]
      exact hB.1 d hd
  · rw [wA_v (k := 3) (by omega)] at hi
    have t1 := hno i hi
    have t2 : nv (bo A) (36 + i) ≠ c := fun u => t1 (by
      unfold tw
      rw [show 88 + i = 52 + (36 + i) by omega]
      exact u)
    rw [wA_cS c36, bn _ (by omega), nn (36 + i) (by omega), nn _ t2]
    exact hB.2.1 i hi
  · rw [wA_v (k := 3) (by omega)] at hi hj
    rw [nn _ (by omega), nn _ (by omega)]
    exact hB.2.2.1 i j hi hj hij
  · rw [wA_v (k := 3) (by omega)] at hp
    rw [bn _ (by omega), nn _ (by omega), nn _ (by omega), wA_v (k := 2) (by omega)]
    exact hB.2.2.2.1 p hp
  · rw [wA_v (k := 3) (by omega)] at hp
    rw [bn _ (by omega), nn _ (by omega)]
    exact hB.2.2.2.2.1 p hp
  · rw [wA_v (k := 3) (by omega)] at hp
    rw [bn _ (by omega), nn _ (by omega)]
    exact hB.2.2.2.2.2 p hp
  · obtain ⟨h1, h2, h3⟩ := hL
    refine ⟨fun d hd => ?_, ?_, ?_⟩
    · have := h1 d hd
      unfold ht at this ⊢
      rw [wA_n (by omega), wA_v (by omega)]
      exact this
    · rw [wA_n (by omega)]
      exact h2.imp id (fun u => wA_LV c36 (by decide) u)
    · rw [wA_n (by omega)]
      exact h3.imp id (fun u => wA_LV c36 (by decide) u)
theorem BF.cg {N N' : Nat → Nat → Option Nat} (h : BF N q pa la dp n m 0) (hm : m ≤ n) (e : ∀ i l, i < n → l < 8 → N' (q i) l = N (q i) l) : BF N' q pa la dp n m 0 := ⟨h.1, h.2.1, fun i l y hi hl hN => h.2.2.1 i l y hi hl (by rw [← e i l (by omega) hl]; exact hN), fun j j0 jn => by
  obtain ⟨a1, a2, a3, a4, a5⟩ := h.2.2.2.1 j j0 jn
  exact ⟨a1, a2, a3, by rw [e _ _ (by omega) a3]; exact a4, a5⟩, h.2.2.2.2⟩
theorem dw_sub (hF : ∀ d, d ≠ c → F' d = F d) (hFc : F' c = false) {t b x d : Nat} (hb : b ≠ c) (hd : d ≠ c) (h : dwS A F p m t b x = some d) : dwS A F' p m t b x = some d := by
  unfold dwS at h ⊢
  rw [hF b hb]
  by_cases z : F b = true ∧ apS (nv A 2) x b = sp A p
  · rw [if_pos z] at h ⊢
    exact h
  · rw [if_neg z] at h ⊢
    obtain ⟨i1, i2, i3⟩ := bst_some h
    refine bst_uniq i1 ?_ (fun e he hp => i3 e he ?_)
    · show (F' d && decide (apS (nv A 2) x d = sp A p) && may A p m t b d) = true
      rw [hF d hd]
      exact i2
    · have hp' : (F' e && decide (apS (nv A 2) x e = sp A p) && may A p m t b e) = true := hp
      by_cases ec : e = c
      · rw [ec, hFc, Bool.false_and, Bool.false_and] at hp'
        cases hp'
      · rw [hF e ec] at hp'
        exact hp'
theorem st_sub (hF : ∀ d, d ≠ c → F' d = F d) (hFc : F' c = false) {t a b w : Nat} (hb : b ≠ c) (h : (stS A F p m t a b w).1 = 0) (h1 : (stS A F p m t a b w).2.1 ≠ c) (h2 : (stS A F p m t a b w).2.2 ≠ c) : stS A F' p m t a b w = stS A F p m t a b w := by
  revert h h1 h2
  unfold stS
  cases hx : besS (nv A 1) (nv A 2) a w with
  | none => intro h; cases h
  | some x =>
    dsimp only
    by_cases f : F x = true
    · rw [if_pos f]
      by_cases y : may A p m t a x = true
      · rw [if_pos y]
        cases hd : dwS A F p m (1 - t) b x with
        | none => intro h; cases h
        | some d =>
          intro _ h1 h2
          have h1' : x ≠ c := h1
          have h2' : d ≠ c := h2
          rw [hF x h1', if_pos f, if_pos y, dw_sub hF hFc hb h2' hd]
      · rw [if_neg y]
        intro h
        cases h
    · rw [if_neg f]
      intro h
      cases h
theorem ow_ne {t x d : Nat} (h1 : ow t x d ≠ c) (h2 : ow t d x ≠ c) : x ≠ c ∧ d ≠ c := by
  unfold ow at h1 h2
  by_cases e : t = 0
  · rw [if_pos e] at h1 h2
    exact ⟨h1, h2⟩
  · rw [if_neg e] at h1 h2
    exact ⟨h2, h1⟩
theorem ow_no {t x d : Nat} (h1 : x ≠ c) (h2 : d ≠ c) : ow t x d ≠ c := by
  unfold ow
  split
  · exact h1
  · exact h2
theorem nx_sub (hA : Dm A) (hF : ∀ d, d ≠ c → F' d = F d) (hFc : F' c = false) {s l y : Nat} (h1 : s / 36 < cS A) (h2 : s % 36 < cS A) (n1 : s / 36 ≠ c) (n2 : s % 36 ≠ c) (y1 : y / 36 ≠ c) (y2 : y % 36 ≠ c) (h : nxS A F p m s l = some y) : nxS A F' p m s l = some y := by
  have cl := cS_le hA
  have h0 := h
  unfold nxS at h
  split at h
  · next e =>
    obtain ⟨s1, s2, -⟩ := stS_ok hA (ow_lt h1 h2) (ow_lt h2 h1) e
    have hy := Option.some.inj h
    have o1 := ow_lt (t := l / 4) s1 s2
    have o2 := ow_lt (t := l / 4) s2 s1
    obtain ⟨d1, d2⟩ := @cd_dm (ow (l / 4) (stS A F p m (l / 4) (ow (l / 4) (s / 36) (s % 36)) (ow (l / 4) (s % 36) (s / 36)) (l % 4)).2.1 (stS A F p m (l / 4) (ow (l / 4) (s / 36) (s % 36)) (ow (l / 4) (s % 36) (s / 36)) (l % 4)).2.2) (ow (l / 4) (stS A F p m (l / 4) (ow (l / 4) (s / 36) (s % 36)) (ow (l / 4) (s % 36) (s / 36)) (l % 4)).2.2 (stS A F p m (l / 4) (ow (l / 4) (s / 36) (s % 36)) (ow (l / 4) (s % 36) (s / 36)) (l % 4)).2.1) (by omega)
    rw [hy] at d1 d2
    rw [d1] at y1
    rw [d2] at y2
    obtain ⟨x1, x2⟩ := ow_ne y1 y2
    have := st_sub hF hFc (A := A) (p := p) (m := m) (ow_no n2 n1) e x1 x2
    unfold nxS at h0 ⊢
    rw [this]
    exact h0
  · cases h
theorem stB_sub (hF : ∀ d, d ≠ c → F' d = F d) {s : Nat} (n1 : s / 36 ≠ c) (n2 : s % 36 ≠ c) (h : stB A F p s = true) : stB A F' p s = true := by
  rw [stB_iff] at h ⊢
  rw [hF _ n1, hF _ n2]
  exact h
theorem way_sub (hA : Dm A) (hA' : Dm (wA A c)) (hs : sp A p ≤ 10) (hc : c < 36) {e0 : Nat} {one two : Int32} (hB : BF (nxS A F p m) q pa la dp n e0 0) (hq : ∀ i, i < n → stB A F p (q i) = true) {e : Nat} (he : e < n) (hf : fitB (q e) one two = true) (hF : ∀ d, d ≠ c → F' d = F d) (hFc : F' c = false) (hno : ∀ k, k ≤ dp e → q (anc pa e k) / 36 ≠ c ∧ q (anc pa e k) % 36 ≠ c) : LSf (wA A c) F' p m 0 one two (q 0) ≤ dp e := by
  have hs' : sp (wA A c) p ≤ 10 := by
    rw [wA_sp hc]
    exact hs
  have st : ∀ k, k ≤ dp e → stB (wA A c) F' p (q (anc pa e k)) = true := fun k hk => by
    rw [wA_stB hc]
    exact stB_sub hF (hno k hk).1 (hno k hk).2 (hq _ (hB.anc_d he k hk).1)
  have L : ∀ k, k ≤ dp e → LSf (wA A c) F' p m 0 one two (q (anc pa e k)) ≤ k := by
    intro k
    induction k with
    | zero =>
      intro hk
      rw [(LS_0 hA' hs' one two (st 0 hk)).mpr hf]
      exact Nat.le_refl _
    | succ k ih =>
      intro hk
      have i := ih (by omega)
      obtain ⟨a1, a2, a3⟩ := hB.anc_d he k (by omega)
      have j0 : 0 < anc pa e k := by
        rcases Nat.eq_zero_or_pos (anc pa e k) with z | z
        · rw [z, hB.1.2] at a2
          omega
        · exact z
      obtain ⟨b1, -, b3, b4, -⟩ := hB.2.2.2.1 _ j0 a1
      have q1 := (stB_iff.mp (hq (pa (anc pa e k)) (by omega))).1
      have n1 := hno k (by omega)
      have n2 := hno (k + 1) hk
      have b5 := nx_sub hA hF hFc q1.1 q1.2.1 n2.1 n2.2 n1.1 n1.2 b4
      rw [← wA_nx hA hc q1.1 q1.2.1] at b5
      have := LS_1 (ch := 0) hA' hs' one two (st (k + 1) hk) b3 b5
      rw [wS_0] at this
      exact Nat.le_trans this (Nat.succ_le_succ i)
  have a0 : anc pa e (dp e) = 0 := by
    obtain ⟨a1, a2, -⟩ := hB.anc_d he (dp e) (Nat.le_refl _)
    rcases Nat.eq_zero_or_pos (anc pa e (dp e)) with z | z
    · exact z
    · have := (hB.2.2.2.1 _ z a1).2.2.2.2
      omega
  have := L (dp e) (Nat.le_refl _)
  rw [a0] at this
  exact this
end NDV
