/-! A DEED OUT OF A TRAY done by the reference; what stands behind deeds. -/
section DOE
variable {X : Nat → Prop} {A A1 A2 : Nat → Int32} {g g' g1 g3 g5 : G} {a b n ag ag' : Nat} {S K : List Nat}
/-- a deed that can be done is one of three -/
theorem act_c (A : Nat → Int32) (v : Int64) : ((actS A v).1 ≠ 0 ∧ (actS A v).2.1 = A ∧ (actS A v).2.2 = 0) ∨ (∃ n, n ≤ 399 ∧ v = lN n ∧ ((n / 100) < nv A 3 ∧ (n / 10 % 10) < 2 ∧ (n % 10) < 4) ∧ (lS A (n / 100) (n / 10 % 10) (n % 10)).1 = 0 ∧ actS A v = (0, pA A (n / 100) (ow (n / 10 % 10) (lS A (n / 100) (n / 10 % 10) (n % 10)).2.1 (lS A (n / 100) (n / 10 % 10) (n % 10)).2.2) (ow (n / 10 % 10) (lS A (n / 100) (n / 10 % 10) (n % 10)).2.2 (lS A (n / 100) (n / 10 % 10) (n % 10)).2.1) (dn A (n / 100)), 1 + apS (nv A 2) (tw A (2 * (n / 100) + (1 - (n / 10 % 10)))) (lS A (n / 100) (n / 10 % 10) (n % 10)).2.2)) ∨ (∃ c, c < cS A ∧ c ≤ 99 ∧ v = lN (1000 + c) ∧ (∀ i, i < 2 * nv A 3 → tw A i ≠ c) ∧ actS A v = (0, tA A c, 0)) ∨ (∃ p x, p < nv A 3 ∧ p ≤ 9 ∧ x ≤ 9 ∧ v = lN (2000 + 10 * p + x) ∧ actS A v = (0, mA A p x, 0)) := by
  by_cases neg : v < 0
  · left
    unfold actS
    rw [if_pos neg]
    exact ⟨(fun u => by cases u), rfl, rfl⟩
  · obtain ⟨n, hn, rfl⟩ := l_nn neg
    rw [actS_N hn]
    unfold aN
    by_cases z : n ≤ 399
    · rw [if_pos z]
      unfold aL
      by_cases ok : (n / 100) < nv A 3 ∧ (n / 10 % 10) < 2 ∧ (n % 10) < 4
      · rw [if_pos ok]
        by_cases e : (lS A (n / 100) (n / 10 % 10) (n % 10)).1 = 0
        · right
          left
          rw [if_pos e]
          exact ⟨n, z, rfl, ok, e, rfl⟩
        · left
          rw [if_neg e]
          exact ⟨e, rfl, rfl⟩
      · left
        rw [if_neg ok]
        exact ⟨(fun u => by cases u), rfl, rfl⟩
    · rw [if_neg z]
      by_cases u1 : 1000 ≤ n ∧ n ≤ 1099
      · rw [if_pos u1]
        unfold aW
        by_cases hc : n - 1000 < cS A
        · rw [if_pos hc]
          by_cases e : ∀ i, i < 2 * nv A 3 → tw A i ≠ n - 1000
          · right
            right
            left
            rw [if_pos e]
            exact ⟨n - 1000, hc, by omega, by rw [show 1000 + (n - 1000) = n by omega], e, rfl⟩
          · left
            rw [if_neg e]
            exact ⟨(fun u => by cases u), rfl, rfl⟩
        · left
          rw [if_neg hc]
          exact ⟨(fun u => by cases u), rfl, rfl⟩
      · rw [if_neg u1]
        by_cases u2 : 2000 ≤ n ∧ n ≤ 2099
        · rw [if_pos u2]
          unfold aM
          by_cases hp : (n - 2000) / 10 < nv A 3
          · right
            right
            right
            rw [if_pos hp]
            exact ⟨(n - 2000) / 10, (n % 10), hp, by omega, by omega, by rw [show 2000 + 10 * ((n - 2000) / 10) + (n % 10) = n by omega], rfl⟩
          · left
            rw [if_neg hp]
            exact ⟨(fun u => by cases u), rfl, rfl⟩
        · left
          rw [if_neg u2]
          exact ⟨(fun u => by cases u), rfl, rfl⟩
theorem act_wf (h : WF A) (hs : Sh g) (v : Int64) : WF (actS A v).2.1 := by
  have hr := RSx h hs
  rcases act_c A v with ⟨-, e, -⟩ | ⟨n, hn, rfl, ok, e0, e⟩ | ⟨c, hc, -, rfl, hno, e⟩ | ⟨p, x, hp, -, hx, rfl, e⟩
  · rw [e]
    exact h
  · rw [e]
    obtain ⟨x1, x2, x3, x4, -⟩ := lS_xy hr ok.1 ok.2.1 e0
    exact pA_wf h ok.1 x1 x2 x3 x4 (h.2.1.o ok.1).2
  · rw [e]
    exact tA_wf h hc hno
  · rw [e]
    exact mA_wf h hp hx
theorem act_e (h : WF A) (v : Int64) {j : Nat} (hj : j < 52 ∨ 103 ≤ j) : (actS A v).2.1 j = A j := by
  have cl := cS_le h.1
  have k3 := h.1.2.2.2.2.2.2.2
  rcases act_c A v with ⟨-, e, -⟩ | ⟨n, hn, rfl, ok, e0, e⟩ | ⟨c, hc, -, rfl, hno, e⟩ | ⟨p, x, hp, -, hx, rfl, e⟩
  · rw [e]
  · rw [e]
    exact pA_n (by omega) (by omega) (by omega) (by omega)
  · rw [e]
    exact tA_n (by omega)
  · rw [e]
    exact mA_n (by omega)
theorem act_st (h : WF A) (hs : Sh g) (v : Int64) : (actS A v).2.2 ≤ 81 := by
  have hr := RSx h hs
  have cl := cS_le h.1
  rcases act_c A v with ⟨-, -, e⟩ | ⟨n, hn, rfl, ok, e0, e⟩ | ⟨c, hc, -, rfl, hno, e⟩ | ⟨p, x, hp, -, hx, rfl, e⟩
  · rw [e]
    exact Nat.zero_le _
  · rw [e]
    obtain ⟨x1, x2, -⟩ := lS_ok hr ok.1 ok.2.1 e0
    have tb := hr.tw (p := (n / 100)) (t := 1 - (n / 10 % 10)) ok.1 (by omega)
    have := apS_le (W := nv A 2) h.1.2.2.2.2.1 h.1.2.2.2.2.2.1 (show tw A (2 * (n / 100) + (1 - (n / 10 % 10))) < 36 by omega) (show (lS A (n / 100) (n / 10 % 10) (n % 10)).2.2 < 36 by omega)
    dsimp only
    omega
  · rw [e]
    exact Nat.zero_le _
  · rw [e]
    exact Nat.zero_le _
section RLL
variable {p t w : Nat}
theorem r_leadsL (h : RS A g) (hp : p < nv A 3) (ht : t < 2) (h0 : (lS A p t w).1 = 0) (e17 : gI g 136 17 = nI (lS A p t w).2.1) (e18 : gI g 136 18 = nI (lS A p t w).2.2) : ∃ g', f_X12_leads 136 (nI p) (nI t) g = some ((), g') ∧ Fm [20] [137] g g' ∧ gI g' 137 = pA A p (ow t (lS A p t w).2.1 (lS A p t w).2.2) (ow t (lS A p t w).2.2 (lS A p t w).2.1) (dn A p) ∧ gI g' 136 20 = gI g 136 20 + ((1 : Int32) + nI (apS (nv A 2) (tw A (2 * p + (1 - t))) (lS A p t w).2.2)) ∧ gL g' 137 = gL g 137 := by
  have k3 := h.k3
  have cl := h.cl
  have hs := h.1
  have hB := h.2.2.2.1
  obtain ⟨s1, s2, s3, s4, s5⟩ := lS_ok h hp ht h0
  obtain ⟨x1, x2, x3, x4, x5⟩ := lS_xy h hp ht h0
  have tb := h.tw (p := p) (t := 1 - t) hp (by omega)
  obtain ⟨v, hv⟩ : ∃ v, v = gI g 136 20 + ((1 : Int32) + nI (apS (nv A 2) (tw A (2 * p + (1 - t))) (lS A p t w).2.2)) := ⟨_, rfl⟩
  obtain ⟨ga, hga⟩ : ∃ ga, ga = sI g 136 20 v := ⟨_, rfl⟩
  have ya : Fm [20] [137] g ga := by
    rw [hga]
    exact Fm.rf.sf (by decide)
  have hsa := hs.fm ya
  have a17 : gI ga 136 17 = nI (lS A p t w).2.1 := by
    rw [ya.2 17 (by decide)]
    exact e17
  have a18 : gI ga 136 18 = nI (lS A p t w).2.2 := by
    rw [ya.2 18 (by decide)]
    exact e18
  obtain ⟨gb, hgb⟩ : ∃ gb, gb = sI (sI ga 137 (88 + 2 * p + t) (nI (lS A p t w).2.1)) 137 (88 + 2 * p + 1 - t) (nI (lS A p t w).2.2) := ⟨_, rfl⟩
  have yb : Fi [137] ga gb := by
    rw [hgb]
    exact (Fi.rf.si (by decide)).si (by decide)
  have rowa : gI ga 137 = A := by
    rw [hga, gI_sIn (by decide)]
    exact h.2.1
  have rowb : gI gb 137 = upd (upd A (88 + 2 * p) (nI (ow t (lS A p t w).2.1 (lS A p t w).2.2))) (88 + 2 * p + 1) (nI (ow t (lS A p t w).2.2 (lS A p t w).2.1)) := by
    rw [hgb, gI_sIs, gI_sIs, rowa]
    obtain rfl | rfl : t = 0 ∨ t = 1 := by omega
    · rfl
    · rw [show 88 + 2 * p + 1 - 1 = 88 + 2 * p by omega, upd_sw (by omega)]
      rfl
  obtain ⟨o1, o2⟩ := hB.o hp
  obtain ⟨gc, f1, f2, f3, f4⟩ := r_isDone (p := p) (x := (ow t (lS A p t w).2.1 (lS A p t w).2.2)) (y := (ow t (lS A p t w).2.2 (lS A p t w).2.1)) (d := dn A p) (Sh.fi yb hsa) (by omega) rowb (by rw [pk_un (by omega), pk_us]) (by rw [pk_us]) (by rw [pk_un (by omega), pk_un (by omega)]; exact o1) o2
  rw [dnw_cg (A := A) (by rw [pk_un (by omega), pk_un (by omega)]) (by rw [pk_un (by omega), pk_un (by omega)]), pA_updL (by omega) (by rw [x5]; exact hB.s hp)] at f4
  have yc : Fi [137] ga gc := yb.tr f2
  refine ⟨gc, ?_, ya.tr (Fm.of yc (by decide)), f4, ?_, by rw [f3, hgb, hga]; rfl⟩
  · rw [f_X12_leads, nI_sub1 ht, R_twinOf h hp (by omega), bd_eq, e18, R_apart h (by omega) (by omega), bd_eq, ← hv, lg, ← hga, md136_1 hsa, gk137 hsa, sn137 hsa, nI2, show (88 : Int32) = nI 88 from rfl, nI_add, nI_add, gdI_nI (by omega) (by decide), nI_clamp (show 88 + 2 * p + t < 2 ^ 31 by omega), a17, lg, lad1, pk_sub (by omega), gN_sI, sn137 hsa, gdI_nI (by omega) (by decide), nI_clamp (show 88 + 2 * p + 1 - t < 2 ^ 31 by omega), gI_sIn (by decide), a18, lg, ← hgb, f1, bd_eq]
  · rw [yc.I (by decide), hga, gI_sIs, pk_us, hv]
end RLL
theorem r_does (h : RS A g) (v : Int64) (h0 : (actS A v).1 = 0) (ld : LDv A v g) : ∃ g', f_X12_does 136 v.toInt32 g = some ((), g') ∧ Fm [20] [137] g g' ∧ gI g' 137 = (actS A v).2.1 ∧ gI g' 136 20 = gI g 136 20 + nI (actS A v).2.2 ∧ gL g' 137 = gL g 137 := by
  have hs := h.1
  have cl := h.cl
  have k3 := h.k3
  have z0 : ∀ x : Int32, x + nI 0 = x := fun x => Int32.add_zero x
  rcases act_c A v with ⟨e, -⟩ | ⟨n, hn, rfl, ok, e0, e⟩ | ⟨c, hc, c9, rfl, hno, e⟩ | ⟨p, x, hp, p9, hx, rfl, e⟩
  · exact absurd h0 e
  · obtain ⟨l17, l18⟩ := ld n rfl hn
    obtain ⟨g1, a1, a2, a3, a4, a5⟩ := r_leadsL (w := (n % 10)) h ok.1 ok.2.1 e0 l17 l18
    rw [e]
    refine ⟨g1, ?_, a2, a3, ?_, a5⟩
    · rw [l32b n (by omega), f_X12_does, if_neg (show ¬ (400 : Int32) ≤ nI n from nI_ge (a := n) (b := 400) (by omega) (by decide)), ldi100 (by omega), ldi10 (by omega), ldi10 (by omega), lmo10, a1, bd_eq]
    · rw [a4, show (1 : Int32) = nI 1 from rfl, nI_add]
  · obtain ⟨w1, w2, -⟩ := h.2.2.2.1.w (c := c) (by omega)
    rw [e]
    refine ⟨sI g 137 (52 + c) (nI (1 - wl A c)), ?_, Fm.of (Fi.rf.si (by decide)) (by decide), ?_, ?_, rfl⟩
    · rw [l32b _ (by omega), f_X12_does, if_pos (show (400 : Int32) ≤ nI (1000 + c) from nI_le (a := 400) (by omega) (by omega)), if_neg (show ¬ (2000 : Int32) ≤ nI (1000 + c) from nI_ge (b := 2000) (by omega) (by decide)), md136_1 hs, gk137 hs, sn137 hs, show (52 : Int32) = nI 52 from rfl, nI_add, show (1000 : Int32) = nI 1000 from rfl, pk_sub (by omega), show 52 + (1000 + c) - 1000 = 52 + c by omega, gdI_nI (by omega) (by decide), nI_clamp (show 52 + c < 2 ^ 31 by omega), h.2.1, w1, xor1 _ w2, lg]
    · rw [gI_sIs, h.2.1]
      rfl
    · rw [gI_sIn (by decide), z0]
  · rw [e]
    refine ⟨sI g 137 (97 + p) (nI x), ?_, Fm.of (Fi.rf.si (by decide)) (by decide), ?_, ?_, rfl⟩
    · rw [l32b _ (by omega), f_X12_does, if_pos (show (400 : Int32) ≤ nI (2000 + 10 * p + x) from nI_le (a := 400) (by omega) (by omega)), if_pos (show (2000 : Int32) ≤ nI (2000 + 10 * p + x) from nI_le (a := 2000) (by omega) (by omega)), md136_1 hs, gk137 hs, sn137 hs, show (2000 : Int32) = nI 2000 from rfl, pk_sub (by omega), ldi10 (by omega), ldi10 (by omega), lmo10, show (97 : Int32) = nI 97 from rfl, nI_add, show (2000 + 10 * p + x - 2000) / 10 = p by omega, show (2000 + 10 * p + x) % 10 = x by omega, gdI_nI (by omega) (by decide), nI_clamp (show 97 + p < 2 ^ 31 by omega), lg]
    · rw [gI_sIs, h.2.1]
      rfl
    · rw [gI_sIn (by decide), z0]
/-- rows and steps behind deeds -/
def tS (A : Nat → Int32) (f : Nat → Int64) : Nat → (Nat → Int32)
  | 0 => A
  | k + 1 => (actS (tS A f k) (f k)).2.1
def gSt (A : Nat → Int32) (f : Nat → Int64) : Nat → Nat
  | 0 => 0
  | k + 1 => gSt A f k + (actS (tS A f k) (f k)).2.2
theorem tS_wf (h : WF A) (hs : Sh g) (f : Nat → Int64) : ∀ k, WF (tS A f k)
  | 0 => h
  | k + 1 => act_wf (tS_wf h hs f k) hs (f k)
theorem tS_e (h : WF A) (hs : Sh g) (f : Nat → Int64) {j : Nat} (hj : j < 52 ∨ 103 ≤ j) : ∀ k, tS A f k j = A j
  | 0 => rfl
  | k + 1 => (act_e (tS_wf h hs f k) (f k) hj).trans (tS_e h hs f hj k)
theorem ex_end (A : Nat → Int32) (f : Nat → Int64) : ∀ m, ∃ e, e ≤ m ∧ (∀ j, j < e → (actS (tS A f j) (f j)).1 = 0) ∧ (e < m → (actS (tS A f e) (f e)).1 ≠ 0)
  | 0 => ⟨0, Nat.le_refl _, fun j hj => by omega, fun u => by omega⟩
  | m + 1 => by
    obtain ⟨e, e1, e2, e3⟩ := ex_end A f m
    rcases Nat.lt_or_ge e m with z | z
    · exact ⟨e, by omega, e2, fun _ => e3 z⟩
    · have : e = m := by omega
      subst this
      by_cases u : (actS (tS A f e) (f e)).1 = 0
      · refine ⟨e + 1, Nat.le_refl _, fun j hj => ?_, fun w => by omega⟩
        by_cases w : j = e
        · rw [w]
          exact u
        · exact e2 j (by omega)
      · exact ⟨e, by omega, e2, fun _ => u⟩
theorem Inv.ref (h : Inv X A ag g) (x : Fm K [141, 142, 143] g g') (hK : 5 ∉ K ∧ 13 ∉ K ∧ 14 ∉ K) : Inv X A ag g' := by
  have hs := h.1.1.1
  have n0 : gI g' 0 = gI g 0 := x.I (by decide)
  exact ⟨h.1.fr x.1.q (hs.fm x) (by decide), h.2.ft h.1.2.1 hs x.1.a (by decide) (h.2.1.fa hs x.1.a (by decide)) (by rw [n0]) (by rw [n0]) (by rw [n0]) (x.2 5 hK.1) (x.2 13 hK.2.1) (x.2 14 hK.2.2)⟩
def CB : List Nat := [47, 48, 49, 50, 51, 52, 53, 54, 55, 56, 68, 69, 70, 71, 72, 73, 74, 75]
theorem Inv.cl2 (h : Inv X A ag g) (x : Fq CB g g') (hs' : Sh g') (b47 : BD X g' 47 A) (si : SI ag' g') : Inv X A ag' g' := by
  obtain ⟨⟨h1, h2, h3, h4, h5⟩, hR⟩ := h
  have hs := h1.1
  have n0 : gI g' 0 = gI g 0 := x.I (by decide)
  have n1 : gI g' 136 = gI g 136 := x.I (by decide)
  refine ⟨⟨⟨hs', (x.I (by decide)).trans h1.2.1, h1.2.2⟩, h2, b47, si, ?_⟩, hR.ft h2 hs x.a (by decide) (hR.1.fa hs x.a (by decide)) (by rw [n0]) (by rw [n0]) (by rw [n0]) (by rw [n1]) (by rw [n1]) (by rw [n1])⟩
  unfold Ca
  rw [n0]
  refine h5.imp id (fun ⟨p, n, q, pa, la, dp, a, b, c⟩ => ⟨p, n, q, pa, la, dp, a, b, c.cg (fun a ha => x.I ?_)⟩)
  have t : CL.all (fun a => decide (a ∉ CB)) = true := by decide
  exact of_decide_eq_true (List.all_eq_true.mp t a ha)
theorem c_deedOk2 (h : Inv X A ag g) (h1 : Inv X A ag g1) (x1 : Fq [52, 53, 54, 55, 56] g g1) (b52 : BD X g1 52 A) (x2 : Fq (AL 47) g1 g') (s2 : Sh g') (si : SI ag' g') (b47 : BD X g' 47 A1) : ∃ g3 n, f_X11_keepSpare 0 g' = some ((), g3) ∧ Fq DL g g3 ∧ Sh g3 ∧ BD X g3 47 A1 ∧ SI ag' g3 ∧ gI g3 0 10 = -1 ∧ (∀ k, k ≠ 10 → gI g3 0 k = gI g 0 k) ∧ gI g3 136 = gI g 136 ∧ gI g3 137 = A ∧ n ≤ 10 ∧ A 103 = nI n ∧ ∀ A1, (∀ j, (j < 52 ∨ 103 ≤ j) → A1 j = A j) → HI X (ntA A1 (fun k => A (52 + k)) n) g3 := by
  have hX := h.1.2.1
  have s1 := h1.1.1.1
  have hW : WF A := ⟨h.1.1.2.2.1, h.1.1.2.2.2.1, h.1.1.2.2.2.2, h.2.2.2.2.2.2.2⟩
  obtain ⟨g3, k1, k2, k3, k4, k5, n, n1, n2, n3⟩ := c_keepSpare s2 (h1.2.2.2.2.1.fa s1 x2.a (hX.no (by decide)) (by decide)) (b52.fa x2.a (hX.no (by decide)) (by decide)) hW hX
  have y2 : Fq DL g g' := (x1.mono (by decide)).tr (x2.mono (by decide))
  have y3 : Fq DL g g3 := y2.tr (k2.mono (by decide))
  refine ⟨g3, n, k1, y3, k3, b47.fa k2.a (hX.no (by decide)) (by decide), si.fa s2 k2.a (fun k k1 k2 => by simp [HL]; omega), k4, fun k hk => ?_, ?_, ?_, n1, n2, n3⟩
  · rw [k5 k hk, x2.I (by decide), x1.I (by decide)]
  · rw [k2.I (by decide), x2.I (by decide), x1.I (by decide)]
  · rw [k2.I (by decide), x2.I (by decide)]
    exact h1.1.1.2.1
end DOE
