/-! WHAT IS NEEDED: the class; both answer the same. -/
section NDC
variable {X : Nat → Prop} {A : Nat → Int32} {g g' : G} {p ag n : Nat} {q pa la dp : Nat → Nat} {one two : Int32} {N : Nat → Nat → Option Nat}
theorem now_st (hA : Dm A) (hB : VB A (bo A)) (hp : p < nv A 3) : stB A (fre A p) p (36 * tw A (2 * p) + tw A (2 * p + 1)) = true := by
  have cl := cS_le hA
  obtain ⟨-, a1, a2⟩ := hB.t (i := 2 * p) (by omega)
  obtain ⟨-, b1, b2⟩ := hB.t (i := 2 * p + 1) (by omega)
  obtain ⟨d1, d2⟩ := @cd_dm (tw A (2 * p)) (tw A (2 * p + 1)) (by omega)
  rw [stB_iff, d1, d2]
  exact ⟨⟨a1, b1, rfl⟩, decide_eq_true ⟨a2, fun i hi hip => hB.d hi (by omega) (by omega)⟩, decide_eq_true ⟨b2, fun i hi hip => hB.d hi (by omega) (by omega)⟩⟩
theorem c_tr8 (hs : Sh g) (hB : BF N q pa la dp n n 0) (hG : GRw g 2 n q pa la dp) (hn : n ≤ 232) (hq : ∀ i, i < n → q i < 1296) {e : Nat} (he : e < n) : ∀ fu k (m : Int64), k ≤ dp e → (∀ c, c < 64 → bt m c = decide (∃ j, j < k ∧ (q (anc pa e j) / 36 = c ∨ q (anc pa e j) % 36 = c))) → dp e + 2 ≤ fu + k → ∃ m', f_X4_trailTo_8 fu 2 m (nI (anc pa e k)) (nI k) g = some (m', g) ∧ ∀ c, c < 64 → bt m' c = decide (∃ j, j < dp e + 1 ∧ (q (anc pa e j) / 36 = c ∨ q (anc pa e j) % 36 = c)) := by
  have dl := hB.dp_le e he
  intro fu
  induction fu with
  | zero => intro k m _ _ h; omega
  | succ fu ih =>
    intro k m hk hm hf
    obtain ⟨a1, a2, a3⟩ := hB.anc_d he k hk
    have q1 := hq _ a1
    have c1 := cx_lt q1
    obtain ⟨d1, d2⟩ := cx_dm (q (anc pa e k))
    have st : ∀ c, c < 64 → bt (m ||| (((1 : Int64) <<< ((nI (q (anc pa e k) / 36)).toInt64 &&& 63)) ||| ((1 : Int64) <<< ((nI (q (anc pa e k) % 36)).toInt64 &&& 63)))) c = decide (∃ j, j < k + 1 ∧ (q (anc pa e j) / 36 = c ∨ q (anc pa e j) % 36 = c)) := fun c hc => by
      rw [bt_or, bt_or, bt_one (by omega), bt_one (by omega), hm c hc, Bool.eq_iff_iff, Bool.or_eq_true, Bool.or_eq_true, decide_eq_true_eq, decide_eq_true_eq, decide_eq_true_eq, decide_eq_true_eq]
      constructor
      · rintro (⟨j, j1, j2⟩ | u | u)
        · exact ⟨j, by omega, j2⟩
        · exact ⟨k, by omega, Or.inl u.symm⟩
        · exact ⟨k, by omega, Or.inr u.symm⟩
      · rintro ⟨j, j1, j2⟩
        by_cases ej : j = k
        · rw [ej] at j2
          exact Or.inr (j2.imp Eq.symm Eq.symm)
        · exact Or.inl ⟨j, by omega, j2⟩
    rw [f_X4_trailTo_8, if_neg (lnge256 (by omega)), c_has hG.1 (by omega) (by omega), bd_eq, decide_eq_true a1, ibT, md2_1 hs, gk3 hs, sn3 hs, gdI_nI (by omega) (by decide), nI_clamp (by omega), show gI g 3 (anc pa e k) = nI (cx (q (anc pa e k))) from (hG.2.1 _ a1).1, ldi64 (by omega), lmo64, d1, d2, ll, md2_3 hs, gk5 hs, sn5 hs, gdI_nI (by omega) (by decide), li, lad1]
    rcases Nat.lt_or_ge k (dp e) with z | z
    · have j0 : 0 < anc pa e k := by
        rcases Nat.eq_zero_or_pos (anc pa e k) with u | u
        · rw [u, hB.1.2] at a2
          omega
        · exact u
      rw [show gI g 5 (anc pa e k) = nI (pa (anc pa e k)) from ((hG.2.1 _ a1).2.2 j0).1]
      exact ih (k + 1) _ z st (by omega)
    · have ek : k = dp e := by omega
      have j0 : anc pa e k = 0 := by
        rcases Nat.eq_zero_or_pos (anc pa e k) with u | u
        · exact u
        · have := (hB.2.2.2.1 _ u a1).2.2.2.2
          omega
      rw [show gI g 5 (anc pa e k) = -1 by rw [j0]; exact hG.2.2.1.1]
      obtain ⟨fu', rfl⟩ : ∃ fu', fu = fu' + 1 := ⟨fu - 1, by omega⟩
      rw [f_X4_trailTo_8, if_neg (lnge256 (by omega)), c_has1, bd_eq, ibF, f_X4_trailTo_68, ← ek]
      exact ⟨_, rfl, st⟩
theorem c_trailTo (hs : Sh g) (hB : BF N q pa la dp n n 0) (hG : GRw g 2 n q pa la dp) (hn : n ≤ 232) (hq : ∀ i, i < n → q i < 1296) {e : Nat} (he : e < n) : ∃ m, f_X4_trailTo 2 (nI e) g = some (m, g) ∧ ∀ c, c < 64 → bt m c = decide (∃ j, j < dp e + 1 ∧ (q (anc pa e j) / 36 = c ∨ q (anc pa e j) % 36 = c)) := by
  have dl := hB.dp_le e he
  exact c_tr8 hs hB hG hn hq he FU 0 0 (Nat.zero_le _) (fun c hc => by
    rw [bt_0, eq_comm, decide_eq_false_iff_not]
    rintro ⟨j, j1, -⟩
    omega) (by have := @FU_gt 500 (by decide); omega)
theorem SP.free {F F' : Nat → Bool} {m : Nat} (h : SP X A F p m ag g) (hX : XO X) {v : Int64} (hv : FM A F' v) : SP X A F' p m ag (sL g 68 0 v) := by
  have x : Fi [68] g (sL g 68 0 v) := Fi.rf.sl (by decide)
  obtain ⟨⟨h1, ⟨q, q1, q2⟩, h3, h4, h5, h6, h7⟩, h8⟩ := h
  refine ⟨⟨Sh.fi x h1, ⟨q, q1, q2.fa x.a (hX.no (by decide))⟩, ?_, h4, h5, h6, ?_⟩, h8⟩
  · rw [gL_sLs, pk_uLs]
    exact hv
  · rw [gL_sLn (by decide)]
    exact h7
def Snd : List Nat := [9, 10, 11, 12, 13, 14, 15, 68, 69, 71, 72, 75]
theorem c_nd108 (hE : EV X A p) {y T : Int64} (hM : FM A (fre A p) y) (hT : ∀ c, c < 64 → bt T c = true → c < cS A ∧ fre A p c = true ∧ tw A (2 * p) ≠ c ∧ tw A (2 * p + 1) ≠ c) : ∀ fu k (r : Int64) g F0, SP X A F0 p (md A p) ag g → (∀ c, c < 64 → bt r c = (decide (c < k) && (fun c => bt T c && ndB A p one two c) c)) → k ≤ 36 → 36 < fu + k → ∃ r' g' F1, f_X11_needed_108 fu 0 one two (nI (cx (36 * tw A (2 * p) + tw A (2 * p + 1)))) T r y (nI k) g = some (r', g') ∧ Fi Snd g g' ∧ SP X A F1 p (md A p) ag g' ∧ gI g' 68 = gI g 68 ∧ ∀ c, c < 64 → bt r' c = (decide (c < 36) && (fun c => bt T c && ndB A p one two c) c) := by
  obtain ⟨hX, hA, hB, hL, hp⟩ := id hE
  have cl := cS_le hA
  intro fu
  induction fu with
  | zero => intro k r g F0 _ _ _ h; omega
  | succ fu ih =>
    intro k r g F0 h hm hk hf
    have hs := h.1.1
    rw [f_X11_needed_108]
    rcases Nat.lt_or_ge k 36 with z | z
    · rw [if_neg (lnge36 z), ibt (by omega)]
      by_cases bk : bt T k = true
      · obtain ⟨k1, k2, k3, k4⟩ := hT k (by omega) bk
        have fr := of_decide_eq_true k2
        rw [if_pos bk]
        have hv : FM A (fre (wA A k) p) (y &&& (((1 : Int64) <<< ((nI k).toInt64 &&& 63)) ^^^ (-1 : Int64))) := fun c hc => by
          rw [bt_and, bt_not hc, bt_one (by omega), hM c hc, wA_fre z, Bool.and_assoc]
          congr 2
          rw [← decide_not]
        have h1 := h.free hX hv
        have x1 : Fi Snd g (sL g 68 0 (y &&& (((1 : Int64) <<< ((nI k).toInt64 &&& 63)) ^^^ (-1 : Int64)))) := Fi.rf.sl (by decide)
        obtain ⟨o1, o2, o3⟩ := wA_ok hA hB hL k1 (fun i hi => by
          by_cases ip : i / 2 = p
          · rcases Nat.mod_two_eq_zero_or_one i with u | u
            · rw [show i = 2 * p by omega]
              exact k3
            · rw [show i = 2 * p + 1 by omega]
              exact k4
          · exact fr.2 i hi ip)
        have hF : ∀ d, d ≠ k → (fre (wA A k) p) d = fre A p d := fun d hd => by
          rw [wA_fre z, decide_eq_true hd, Bool.and_true]
        obtain ⟨d1, d2⟩ := @cd_dm (tw A (2 * p)) (tw A (2 * p + 1)) (by have := (hB.t (i := 2 * p + 1) (by omega)).2.1; omega)
        have ns : stB A (fre (wA A k) p) p (36 * tw A (2 * p) + tw A (2 * p + 1)) = true := stB_sub hF (by rw [d1]; exact k3) (by rw [d2]; exact k4) (now_st hA hB hp)
        obtain ⟨g2, n, e, q, pa, la, dp, b1, b2, b3, ⟨B1, B2, B3, B4, B5, B6, B7⟩, b5, b6⟩ := c_build (b := 9) (Or.inr rfl) hE h1 ns one two
        have hs2 := b3.1.1
        have x2 : Fi Snd g g2 := x1.tr (b2.mono (by decide))
        have sp' : sp (wA A k) p ≤ 10 := by
          rw [wA_sp z]
          exact sp_10 hA hB hp
        have hq : ∀ i, i < n → q i < 1296 := fun i hi => stB_lt hA (B4 i hi)
        have hq' : ∀ i, i < n → stB (wA A k) (fre (wA A k) p) p (q i) = true := fun i hi => by
          rw [wA_stB z]
          exact B4 i hi
        have cg : ∀ i l, i < n → l < 8 → nxS (wA A k) (fre (wA A k) p) p (md (wA A k) p) (q i) l = nxS A (fre (wA A k) p) p (md A p) (q i) l := fun i l hi _ => by
          have := (stB_iff.mp (B4 i hi)).1
          rw [wA_md z, wA_nx hA z this.1 this.2.1]
        have en : 36 * tw (wA A k) (2 * p) + tw (wA A k) (2 * p + 1) = q 0 := by
          rw [wA_tw z, wA_tw z, B5]
        have nd : ndB A p one two k = decide (LSf (wA A k) (fre (wA A k) p) p (md (wA A k) p) 0 one two (q 0) = 1073741824) := by
          unfold ndB
          rw [k2, Bool.true_and, en, decide_eq_decide]
          exact ⟨fun u => u.2.2, fun u => ⟨k3, k4, u⟩⟩
        have fin : ∀ r', (∀ c, c < 64 → bt r' c = (decide (c < k + 1) && (fun c => bt T c && ndB A p one two c) c)) → ∃ r'' g' F1, f_X11_needed_185 (f_X11_needed_108 fu) 0 one two (nI (cx (36 * tw A (2 * p) + tw A (2 * p + 1)))) T r' y (nI k) g2 = some (r'', g') ∧ Fi Snd g g' ∧ SP X A F1 p (md A p) ag g' ∧ gI g' 68 = gI g 68 ∧ ∀ c, c < 64 → bt r'' c = (decide (c < 36) && (fun c => bt T c && ndB A p one two c) c) := fun r' hr' => by
          rw [f_X11_needed_185, lad1]
          obtain ⟨r2, g3, F2, e1, e2, e3, e4, e5⟩ := ih (k + 1) r' g2 _ b3 hr' (by omega) (by omega)
          exact ⟨r2, g3, F2, e1, x2.tr e2, e3, e4.trans (b2.I (by decide)), e5⟩
        rw [md0_7 hs, gk68 hs, lg, md0_9 (Sh.fi x1 hs), gk9 (Sh.fi x1 hs), b1, bd_eq, md0_9 hs2, gk9 hs2]
        rcases c_find (b := 9) (Or.inr rfl) hs2 B2 B7 hq one two with ⟨e', f1, f2, f3, f4⟩ | ⟨f1, f2⟩
        · have ee : e' ≤ e := by
            rcases Nat.lt_or_ge e e' with u | u
            · have := b6 (by omega)
              rw [f3 e u] at this
              cases this
            · exact u
          have dl := B1.dp_le e' f1
          have sf := soon_found o1 sp' (B1.cg B6 cg) hq' B7 f1 ee f2 f3
          rw [f4, bd_eq, if_neg (nI_ne1 (by omega))]
          refine fin r (adv1 ?_ hm)
          show (bt T k && ndB A p one two k) = false
          rw [nd, sf, decide_eq_false (by omega), Bool.and_false]
        · have ee : e = n := by
            rcases Nat.lt_or_ge e n with u | u
            · have := b6 u
              rw [f1 e u] at this
              cases this
            · omega
          subst ee
          have sf := soon_none o1 sp' (B1.cg B6 cg) hq' f1
          rw [f2, bd_eq, if_pos rfl, ll]
          refine fin _ (adv2 (by omega) ?_ hm)
          show (bt T k && ndB A p one two k) = true
          rw [nd, sf, bk]
          rfl
      · rw [if_neg bk, f_X11_needed_185, lad1]
        refine ih (k + 1) r g F0 h (adv1 ?_ hm) (by omega) (by omega)
        show (bt T k && ndB A p one two k) = false
        rw [Bool.eq_false_iff.mpr bk, Bool.false_and]
    · have e : k = 36 := by omega
      subst e
      rw [if_pos (lle36 (by decide) (by decide))]
      exact ⟨r, g, F0, rfl, Fi.rf, h, rfl, hm⟩
/-- a way that stays: what is not on it is not needed -/
theorem nd_trail (hA : Dm A) (hB : VB A (bo A)) (hL : LW A) (hp : p < nv A 3) (hF : BF (nxS A (fre A p) p (md A p)) q pa la dp n n 0) (hq : ∀ i, i < n → stB A (fre A p) p (q i) = true) (hn : n ≤ 232) (h0 : q 0 = (36 * tw A (2 * p) + tw A (2 * p + 1))) {e c : Nat} (he : e < n) (hf : fitB (q e) one two = true) (hc : c < cS A) (hno : ¬ ∃ j, j < dp e + 1 ∧ (q (anc pa e j) / 36 = c ∨ q (anc pa e j) % 36 = c)) : ndB A p one two c = false := by
  have cl := cS_le hA
  have c36 : c < 36 := by omega
  cases hnd : ndB A p one two c with
  | false => rfl
  | true =>
    exfalso
    unfold ndB at hnd
    rw [Bool.and_eq_true, decide_eq_true_eq] at hnd
    obtain ⟨k2, k3, k4, w⟩ := hnd
    have fr := of_decide_eq_true k2
    obtain ⟨o1, -, -⟩ := wA_ok hA hB hL hc (fun i hi => by
      by_cases ip : i / 2 = p
      · rcases Nat.mod_two_eq_zero_or_one i with u | u
        · rw [show i = 2 * p by omega]
          exact k3
        · rw [show i = 2 * p + 1 by omega]
          exact k4
      · exact fr.2 i hi ip)
    have := way_sub (F' := fre (wA A c) p) hA o1 (sp_10 hA hB hp) c36 hF hq he hf (fun d hd => by
      rw [wA_fre c36, decide_eq_true hd, Bool.and_true]) (by
      rw [wA_fre c36, show decide (c ≠ c) = false from decide_eq_false (fun u => u rfl), Bool.and_false]) (fun k hk => ⟨fun u => hno ⟨k, by omega, Or.inl u⟩, fun u => hno ⟨k, by omega, Or.inr u⟩⟩)
    have dl := hF.dp_le e he
    rw [wA_tw c36, wA_tw c36, ← h0, wA_md c36] at w
    omega
end NDC
