/-! MOODS answered alike. -/
section MDS
variable {X : Nat → Prop} {A : Nat → Int32} {F F' : Nat → Bool} {g g' : G} {p t n ag : Nat} {f : Nat → Nat}
theorem st_F (hA : Dm A) (hF : ∀ d, d < cS A → F' d = F d) {m t a b w : Nat} (ha : a < cS A) (hb : b < cS A) : stS A F' p m t a b w = stS A F p m t a b w := by
  unfold stS
  cases hx : besS (nv A 1) (nv A 2) a w with
  | none => rfl
  | some y =>
    have hy : y < cS A := besS_lt (by have := hA.2.2.2.2.1; omega) ha hx
    dsimp only
    have e : dwS A F' p m (1 - t) b y = dwS A F p m (1 - t) b y := by
      unfold dwS
      rw [hF b hb]
      by_cases z : F b = true ∧ apS (nv A 2) y b = sp A p
      · rw [if_pos z, if_pos z]
      · rw [if_neg z, if_neg z]
        exact bst_congr (fun d hd => by rw [hF d hd])
    rw [hF y hy, e]
theorem mA_st2 {x : Nat} (hA : Dm A) (hp : p < 3) {m a b w : Nat} (ha : a < cS A) (hb : b < cS A) : stS (mA A p x) (fre (mA A p x) p) p m 0 a b w = stS A (fre A p) p m 0 a b w := by
  have cl := cS_le hA
  have e : ∀ d, d < cS A → fre (mA A p x) p d = fre A p d := fun d hd => mA_fre hA hp (show d < 36 by omega) p
  rw [mA_st hA hp ha hb]
  exact st_F hA e ha hb
theorem mA_tgo {x : Nat} (hA : Dm A) (hp : p < 3) {s : Nat × Nat} (h1 : s.1 < cS A) (h2 : s.2 < cS A) (k : Nat) : tgo (mA A p x) (fre (mA A p x) p) p x f s k = tgo A (fre A p) p x f s k := by
  induction k with
  | zero =>
    have e1 : ∀ B F, tgo B F p x f s 0 = some s := fun _ _ => rfl
    rw [e1, e1]
  | succ k ih =>
    cases hk : tgo A (fre A p) p x f s k with
    | none =>
      rw [hk] at ih
      rw [tgo_none ih (k + 1) (Nat.le_succ k), tgo_none hk (k + 1) (Nat.le_succ k)]
    | some r =>
      obtain ⟨r1, r2⟩ := tgo_lt hA h1 h2 k r hk
      rw [hk] at ih
      rw [tgo_s ih, tgo_s hk, mA_st2 hA hp r1 r2]
def moS (P : Nat → Bool) : Nat → Int32
  | 0 => 0
  | k + 1 => if P k = true then moS P k ||| ((1 : Int32) <<< (nI k &&& 31)) else moS P k
theorem c_mo41 (hE : EV X A p) (ht : t < 4) (hn : n ≤ 12) : ∀ fu k g m, SP X A (fre A p) p m (ag + k) g → ag + 10 < 2 ^ 30 → gI g (128 + 2 * t) 0 = nI n → (∀ k, k < n → f k / 10 ≤ 3 ∧ f k % 10 ≤ 1 ∧ gL g (129 + 2 * t) k = lN (f k)) → k ≤ 10 → 10 < fu + k → ∃ g' m', f_X11_moods_41 fu 0 (nI t) (nI (64 * tw A (2 * p) + tw A (2 * p + 1))) (moS (fun x => (tgo A (fre A p) p x f (tw A (2 * p), tw A (2 * p + 1)) n).isSome) k) (nI k) g = some (moS (fun x => (tgo A (fre A p) p x f (tw A (2 * p), tw A (2 * p + 1)) n).isSome) 10, g') ∧ Fi [68, 69, 71, 72, 75] g g' ∧ SP X A (fre A p) p m' (ag + 10) g' ∧ gI g' 68 5 = gI g 68 5 ∧ gI g' 68 6 = gI g 68 6 := by
  have cl := cS_le hE.2.1
  have ta := (hE.2.2.1.t (i := 2 * p) (by have := hE.2.2.2.2; omega)).2.1
  have tb := (hE.2.2.1.t (i := 2 * p + 1) (by have := hE.2.2.2.2; omega)).2.1
  obtain ⟨k1, k2⟩ := @pk_pack (tw A (2 * p)) (tw A (2 * p + 1)) (by omega)
  have no : ∀ q, 128 ≤ q → q ∉ [68, 69, 71, 72, 75] := fun q hq u => by
    simp at u
    omega
  intro fu
  induction fu with
  | zero => intro k g m _ _ _ _ _ h; omega
  | succ fu ih =>
    intro k g m h hag h0 hf hk hfu
    have hs := h.1.1
    rw [f_X11_moods_41]
    rcases Nat.lt_or_ge k 10 with z | z
    · obtain ⟨g1, a1, a2, a3, a4, a5⟩ := c_assume (m' := k) h hE.1 hE.2.1 (by omega)
      have hs1 := a3.1.1
      have x1 : Fi [68, 69, 71, 72, 75] g g1 := a2.mono (by decide)
      obtain ⟨g2, e1, e2, e3⟩ := c_be11 (a0 := tw A (2 * p)) (b0 := tw A (2 * p + 1)) (f := f) hE ht hn FU 0 g1 (tw A (2 * p)) (tw A (2 * p + 1)) a3 (by rw [x1.I (no _ (by omega))]; exact h0) (fun j hj => by rw [x1.L (no _ (by omega))]; exact hf j hj) rfl ta tb (Nat.zero_le _) (by have := @FU_gt n (by omega); omega)
      have e1' : f_X9_behind_11 FU 68 (128 + 2 * t) (nI (64 * tw A (2 * p) + tw A (2 * p + 1))) 0 g1 = _ := e1
      have x2 : Fi [68, 69, 71, 72, 75] g g2 := x1.tr (e2.mono (by decide))
      have tn := tgR_neg (o := tgo A (fre A p) p k f (tw A (2 * p), tw A (2 * p + 1)) n) (fun s hs => by
        have := tgo_lt hE.2.1 (s := (tw A (2 * p), tw A (2 * p + 1))) ta tb n s hs
        omega)
      have ms : moS (fun x => (tgo A (fre A p) p x f (tw A (2 * p), tw A (2 * p + 1)) n).isSome) (k + 1) = if (tgo A (fre A p) p k f (tw A (2 * p), tw A (2 * p + 1)) n).isSome = true then moS (fun x => (tgo A (fre A p) p x f (tw A (2 * p), tw A (2 * p + 1)) n).isSome) k ||| ((1 : Int32) <<< (nI k &&& 31)) else moS (fun x => (tgo A (fre A p) p x f (tw A (2 * p), tw A (2 * p + 1)) n).isSome) k := rfl
      obtain ⟨g3, m', d1, d2, d3, d4, d5⟩ := ih (k + 1) g2 k (by rw [← Nat.add_assoc]; exact e3) hag (by rw [x2.I (no _ (by omega))]; exact h0) (fun j hj => by rw [x2.L (no _ (by omega))]; exact hf j hj) z (by omega)
      have q5 : gI g3 68 5 = gI g 68 5 := by
        rw [d4, e2.I (by decide)]
        exact a5 5 (by decide)
      have q6 : gI g3 68 6 = gI g 68 6 := by
        rw [d5, e2.I (by decide)]
        exact a5 6 (by decide)
      refine ⟨g3, m', ?_, x2.tr d2, d3, q5, q6⟩
      rw [if_neg (show ¬ (10 : Int32) ≤ nI k from nI_ge (a := k) (b := 10) z (by decide)), md0_7 hs, gk68 hs, a1, bd_eq, md0_7 hs1, md0_16 hs1, gk40 hs1, sn40 hs1, gdI_nI ht (by decide), nI_clamp (by omega), tr_dr hs1 ht, gk68 hs1, tr_gk hs1 ht, f_X9_behind, ldi64 (by omega), lmo64, k1, k2, lmu64, nI_add, li, Nat.mul_comm (tw A (2 * p)) 64, e1', bd_eq, li, f_X11_moods_92, f_X11_moods_92, lad1]
      cases hso : (tgo A (fre A p) p k f (tw A (2 * p), tw A (2 * p + 1)) n).isSome with
      | false =>
        rw [hso, if_neg (by decide)] at ms
        rw [ms] at d1
        rw [if_pos (tn.mpr hso), d1]
      | true =>
        rw [hso, if_pos rfl] at ms
        rw [ms] at d1
        rw [if_neg (fun u => by
          rw [tn.mp u] at hso
          cases hso), d1]
    · have e : k = 10 := by omega
      subst e
      rw [if_pos (by decide)]
      exact ⟨g, m, rfl, Fi.rf, h, rfl, rfl⟩
theorem Fm.d137 {K : List Nat} {h : G} (x : Fm K [137, 141, 142] g h) (e : gI h 137 = gI g 137) (e' : gL h 137 = gL g 137) : Fm K [141, 142] g h := ⟨⟨x.1.1, fun a ha => by
  by_cases u : a = 137
  · rw [u]
    exact ⟨e, e'⟩
  · exact x.1.2 a (by simp at ha ⊢; omega)⟩, x.2⟩
theorem upd2 {B : Nat → Int32} {k : Nat} {v w : Int32} : upd (upd B k v) k w = upd B k w := by
  funext j
  by_cases e : j = k
  · rw [e, pk_us, pk_us]
  · rw [pk_un e, pk_un e, pk_un e]
theorem r_mo35 (hA : Dm A) (hB : VB A (bo A)) (hL : LW A) (hp : p < nv A 3) (ht : t < 4) (hn : n ≤ 12) : ∀ fu k g, Sh g → (∃ v, gI g 137 = upd A (97 + p) v) → gI g 153 t = nI n → (∀ k, k < n → f k / 10 ≤ 3 ∧ f k % 10 ≤ 1 ∧ gL g 154 (40 * t + k) = lN (f k)) → k ≤ 10 → 10 < fu + k → ∃ g', f_X12_moods_35 fu 136 (nI t) (nI p) (A (97 + p)) (moS (fun x => (tgo A (fre A p) p x f (tw A (2 * p), tw A (2 * p + 1)) n).isSome) k) (nI k) g = some (moS (fun x => (tgo A (fre A p) p x f (tw A (2 * p), tw A (2 * p + 1)) n).isSome) 10, g') ∧ Fm [17, 18, 31, 32] [137, 141, 142] g g' ∧ gI g' 137 = A ∧ gL g' 137 = gL g 137 := by
  have k3 := hA.2.2.2.2.2.2.2
  have cl := cS_le hA
  have ta := hB.t (i := 2 * p) (by omega)
  have tb := hB.t (i := 2 * p + 1) (by omega)
  intro fu
  induction fu with
  | zero => intro k g _ _ _ _ _ h; omega
  | succ fu ih =>
    intro k g hs ⟨v, hv⟩ h0 hf hk hfu
    rw [f_X12_moods_35]
    rcases Nat.lt_or_ge k 10 with z | z
    · have x1 : Fm [17, 18, 31, 32] [137, 141, 142] g (sI g 137 (97 + p) (nI k)) := Fm.of (Fi.rf.si (by decide)) (by decide)
      have hrow : gI (sI g 137 (97 + p) (nI k)) 137 = mA A p k := by
        rw [gI_sIs, hv, upd2]
        rfl
      have gl1 : gL (sI g 137 (97 + p) (nI k)) 137 = gL g 137 := rfl
      obtain ⟨o1, o2, o3⟩ := mA_ok (x := k) hA hB hL hp (by omega)
      have hs1 : Sh (sI g 137 (97 + p) (nI k)) := hs.fm x1
      have hr : RS (mA A p k) (sI g 137 (97 + p) (nI k)) := ⟨hs1, hrow, o1, o2, o3⟩
      have nv3 : nv (mA A p k) 3 = nv A 3 := mA_v (by omega)
      have hp' : p < nv (mA A p k) 3 := by
        rw [nv3]
        exact hp
      have tw1 : f_X12_twinOf 136 (nI p) (1 : Int32) (sI g 137 (97 + p) (nI k)) = some (nI (tw A (2 * p + 1)), sI g 137 (97 + p) (nI k)) := by
        have := R_twinOf hr hp' (t := 1) (by decide)
        rw [mA_tw (by omega)] at this
        exact this
      have tt : tw (mA A p k) (2 * p) = tw A (2 * p) := mA_tw (by omega)
      obtain ⟨g2, e1, e2, -⟩ := r_isTried (f := f) (b := tw A (2 * p + 1)) hr hp' ht hn (by rw [x1.I (by decide)]; exact h0) (fun j hj => by rw [x1.L (by decide)]; exact hf j hj) (by rw [mA_cS]; exact tb.2.1) (by rw [mA_wl (by omega)]; exact tb.2.2)
      rw [tt, mA_md (by omega), mA_tgo hA (by omega) (s := (tw A (2 * p), tw A (2 * p + 1))) ta.2.1 tb.2.1] at e1
      have x2 : Fm [17, 18, 31, 32] [137, 141, 142] g g2 := x1.tr (e2.mono (by decide) (by decide))
      have row2 : gI g2 137 = upd A (97 + p) (nI k) := (e2.I (by decide)).trans hrow
      have gl2 : gL g2 137 = gL g 137 := (e2.L (by decide)).trans gl1
      obtain ⟨g3, d1, d2, d3, d4⟩ := ih (k + 1) g2 (hs.fm x2) ⟨_, row2⟩ (by rw [x2.I (by decide)]; exact h0) (fun j hj => by rw [x2.L (by decide)]; exact hf j hj) z (by omega)
      refine ⟨g3, ?_, x2.tr d2, d3, d4.trans gl2⟩
      have ms : moS (fun x => (tgo A (fre A p) p x f (tw A (2 * p), tw A (2 * p + 1)) n).isSome) (k + 1) = if (tgo A (fre A p) p k f (tw A (2 * p), tw A (2 * p + 1)) n).isSome = true then moS (fun x => (tgo A (fre A p) p x f (tw A (2 * p), tw A (2 * p + 1)) n).isSome) k ||| ((1 : Int32) <<< (nI k &&& 31)) else moS (fun x => (tgo A (fre A p) p x f (tw A (2 * p), tw A (2 * p + 1)) n).isSome) k := rfl
      rw [if_neg (show ¬ (10 : Int32) ≤ nI k from nI_ge (a := k) (b := 10) z (by decide)), md136_1 hs, gk137 hs, sn137 hs, show (97 : Int32) = nI 97 from rfl, nI_add, gdI_nI (by omega) (by decide), nI_clamp (show 97 + p < 2 ^ 31 by omega), lg, tw1, bd_eq, e1, bd_eq, f_X12_moods_78, f_X12_moods_78, li, li, lad1]
      cases hso : (tgo A (fre A p) p k f (tw A (2 * p), tw A (2 * p + 1)) n).isSome with
      | false =>
        rw [hso, if_neg (by decide)] at ms
        rw [ms] at d1
        rw [ibF, Int32.or_zero, d1]
      | true =>
        rw [hso, if_pos rfl] at ms
        rw [ms] at d1
        rw [ibT, d1]
    · have e : k = 10 := by omega
      subst e
      rw [if_pos (by decide), md136_1 hs, gk137 hs, sn137 hs, show (97 : Int32) = nI 97 from rfl, nI_add, gdI_nI (by omega) (by decide), nI_clamp (show 97 + p < 2 ^ 31 by omega), lg]
      refine ⟨_, rfl, Fm.of (Fi.rf.si (by decide)) (by decide), ?_, rfl⟩
      rw [gI_sIs, hv]
      rw [upd2]
      funext j
      by_cases e : j = 97 + p
      · rw [e, pk_us]
      · rw [pk_un e]
end MDS
