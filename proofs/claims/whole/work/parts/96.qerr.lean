/-! QUERIES answered alike: errands, errandWay. -/
section QER
variable {X : Nat → Prop} {A : Nat → Int32} {g g' : G} {p ag n : Nat} {q pa la dp : Nat → Nat} {one two : Int32}
theorem q_errands (h : QS X A ag g) (hag : ag + 2 < 2 ^ 30) (hV : ∀ p, p < nv A 3 → VEp A p) (v : Int32) : QA X A ag g (f_X11_errands 0 v g) (fun g => f_X12_errands 136 v g) := by
  obtain ⟨h1, h2, h3, h4, h5⟩ := id h; have hA := h1.2.2.1; have hBd := h1.2.2.2.1; have k3 := h1.k3; have cl := h1.cl; have hs := h1.1
  cases hp' : inR v (nv A 3) with
  | false =>
    refine QA.of (v := -2) (g1 := g) (g2 := sI g 136 0 0) (K := [0]) (S := []) ?_ (Qf.rf h1.1) h ?_ tF0 (by decide) (by decide) (Nat.le_refl _) (by omega)
    · rw [f_X11_errands, md0_4 hs, gk47 hs, c_isPair h3 hA, hp', bd_eq, ibF]
    · show f_X12_errands 136 v g = _
      rw [f_X12_errands, lg, R_isPair h1.t0, inL_I, hp', bd_eq, ibF]
  | true =>
    obtain ⟨p, hp, rfl⟩ := pr_t hA hp'
    obtain ⟨g1, ag', n, q, pa, la, dp, e1, e2, e3, e4, e5, e6⟩ := c_graphOf h hp (by omega)
    obtain ⟨B1, B2, B3, B4, B5, B6, B7⟩ := id e3.2.2.2.2.1
    have hs1 := e3.1.1
    obtain ⟨g2, sz, e, nd, pe, le, de, a1, a2, a3, a4⟩ := c_eexplore e3.1 e3.2.2.1 h2 hp (hV p hp) hs1 B1 B2 B3 B4 B7 B5
    have e3' := e3.fi a2 (by decide)
    have hs2 := e3'.1.1
    have e4' := e4.fa hs1 a2.a (fun k k1 k2 => by simp [Se]; omega)
    obtain ⟨f1, f2⟩ := er_found hA B4 a3
    rw [a4] at f1
    obtain ⟨g3, d1, d2, -, -⟩ := r_laysErrands e3'.1.t0 hp
    refine QA.of (v := if e < sz then nI (de e) else -1) (g1 := g2) (g2 := g3) (K := [0, 17, 18]) (S := S7) ?_ (e2.tr (Qf.fi a2 hs1 (by decide))) (e3'.s hp e4') ?_ ((tF0.mono (by decide) (by decide)).tr (d2.mono (by decide) (by decide))) (by decide) (by decide) e5 (by omega)
    · rw [f_X11_errands, md0_4 hs, gk47 hs, c_isPair h3 hA, hp', bd_eq, ibT, md0_12 hs, e1, bd_eq, md0_4 hs1, gk22 hs1, gk2 hs1, gk47 hs1, a1, bd_eq, md0_12 hs2, gk22 hs2, c_elen hs2 a3 B7, bd_eq]
    · show f_X12_errands 136 (nI p) g2 = _
      rw [f_X12_errands, lg, R_isPair e3'.1.t0, inL_I, hp', bd_eq, ibT, d1, bd_eq, f_X12_toldFar, lFA, f1]
      by_cases z : e < sz
      · have := (f2 z).1
        rw [if_pos z, if_pos z, if_neg (fun u => by
          rw [nI_eq (by omega) (by decide)] at u
          omega), if_pos rfl, bd_eq]
      · rw [if_neg z, if_neg z, if_pos rfl, bd_eq]
theorem q_errandWay (h : QS X A ag g) (hag : ag + 2 < 2 ^ 30) (hV : ∀ p, p < nv A 3 → VEp A p) (v k : Int32) : QA X A ag g (f_X11_errandWay 0 v k g) (fun g => f_X12_errandWay 136 v k g) := by
  obtain ⟨h1, h2, h3, h4, h5⟩ := id h; have hA := h1.2.2.1; have hBd := h1.2.2.2.1; have k3 := h1.k3; have cl := h1.cl; have hs := h1.1
  cases hp' : inR v (nv A 3) with
  | false =>
    refine QA.of (v := -2) (g1 := g) (g2 := sI g 136 0 0) (K := [0]) (S := []) ?_ (Qf.rf h1.1) h ?_ tF0 (by decide) (by decide) (Nat.le_refl _) (by omega)
    · rw [f_X11_errandWay, md0_4 hs, gk47 hs, c_isPair h3 hA, hp', bd_eq, ibF]
    · show f_X12_errandWay 136 v k g = _
      rw [f_X12_errandWay, lg, R_isPair h1.t0, inL_I, hp', bd_eq, ibF]
  | true =>
    rcases i_nn k with ⟨i, hi, rfl, ki⟩ | kn
    · obtain ⟨p, hp, rfl⟩ := pr_t hA hp'
      obtain ⟨g1, ag', n, q, pa, la, dp, e1, e2, e3, e4, e5, e6⟩ := c_graphOf h hp (by omega)
      obtain ⟨B1, B2, B3, B4, B5, B6, B7⟩ := id e3.2.2.2.2.1
      have hs1 := e3.1.1
      obtain ⟨g2, sz, e, nd, pe, le, de, a1, a2, a3, a4⟩ := c_eexplore e3.1 e3.2.2.1 h2 hp (hV p hp) hs1 B1 B2 B3 B4 B7 B5
      have e3' := e3.fi a2 (by decide)
      have hs2 := e3'.1.1
      have e4' := e4.fa hs1 a2.a (fun k k1 k2 => by simp [Se]; omega)
      obtain ⟨f1, f2⟩ := er_found hA B4 a3
      rw [a4] at f1
      obtain ⟨g3, d1, d2, d3, d4⟩ := r_laysErrands e3'.1.t0 hp
      have hr3 := e3'.1.t0.fm d2 (by decide)
      have dl : dn A p < 4 := by have := (hBd.o hp).2; omega
      have dd := dnI_lt (A := A) (p := p) (y := (36 * tw A (2 * p) + tw A (2 * p + 1))) dl
      have nl := (now_lt h1 hp).2.2
      have rv : (bd (f_X12_standNow 136 (nI p) g3) (fun v15 g16 => dr (gR g16 136 1) (fun b19 => gdK g16 b19 14 (gdI ((100 : Int32) + nI p) (gN g16 b19) (bd (f_X12_doneIn 136 (nI p) v15 (gI g16 b19 ((100 : Int32) + nI p).toNatClampNeg) g16) (fun v23 g24 => f_X12_errandWay_72 FU 136 (nI p) (nI i) v15 v23 (0 : Int32) g24)))))) = f_X12_errandWay_72 FU 136 (nI p) (nI i) (nI (36 * tw A (2 * p) + tw A (2 * p + 1))) (nI (dnI A p (36 * tw A (2 * p) + tw A (2 * p + 1)) (dn A p))) 0 g3 := by
        rw [r_standNow hr3 hp, bd_eq, md136_1 hr3.1, gk137 hr3.1, sn137 hr3.1, show (100 : Int32) = nI 100 from rfl, nI_add, gdI_nI (by omega) (by decide), nI_clamp (by omega), hr3.2.1, (hBd.o hp).1, r_doneIn hr3 hp nl dl, bd_eq]
      refine QA.of (v := if e < sz ∧ i < de e then nI (tld (le (anc pe e (de e - 1 - i)))) else -1) (g1 := g2) (g2 := g3) (K := [0, 17, 18]) (S := S7) ?_ (e2.tr (Qf.fi a2 hs1 (by decide))) (e3'.s hp e4') ?_ ((tF0.mono (by decide) (by decide)).tr (d2.mono (by decide) (by decide))) (by decide) (by decide) e5 (by omega)
      · rw [f_X11_errandWay, md0_4 hs, gk47 hs, c_isPair h3 hA, hp', bd_eq, ibT, if_pos ki, md0_12 hs, e1, bd_eq, md0_4 hs1, gk22 hs1, gk2 hs1, gk47 hs1, a1, bd_eq, md0_12 hs2, gk22 hs2, c_elead hs2 a3 B7 hi, bd_eq]
        by_cases z : e < sz ∧ i < de e
        · rw [if_pos z, if_pos z, c_told ((f2 z.1).2.2 i z.2).2.2.2.1, bd_eq]
        · rw [if_neg z, if_neg z, c_told1, bd_eq]
      · show f_X12_errandWay 136 (nI p) (nI i) g2 = _
        rw [f_X12_errandWay, lg, R_isPair e3'.1.t0, inL_I, hp', bd_eq, ibT, if_pos ki, d1, bd_eq, lFA, f1]
        by_cases z : e < sz
        · obtain ⟨u1, u2, u3⟩ := f2 z
          rw [if_pos z, if_neg (fun u => by
            rw [nI_eq (by omega) (by decide)] at u
            omega)]
          by_cases w : i < de e
          · have s0 : (fun j => 4 * q (nd j / 4) + nd j % 4) (anc pe e (de e - 0)) = 4 * (36 * tw A (2 * p) + tw A (2 * p + 1)) + dnI A p (36 * tw A (2 * p) + tw A (2 * p + 1)) (dn A p) := by
              rw [Nat.sub_zero, u2]
              exact a4
            have rr := r_ew72 (S := fun k => (fun j => 4 * q (nd j / 4) + nd j % 4) (anc pe e (de e - k))) (Q := fun k => le (anc pe e (de e - 1 - k))) (D := de e) hr3 hp d3 d4 u3 w (by omega) FU 0 (Nat.zero_le _) (by have := @FU_gt 1000 (by decide); omega)
            dsimp only at rr s0
            rw [s0, show (4 * (36 * tw A (2 * p) + tw A (2 * p + 1)) + dnI A p (36 * tw A (2 * p) + tw A (2 * p + 1)) (dn A p)) / 4 = (36 * tw A (2 * p) + tw A (2 * p + 1)) by omega, show (4 * (36 * tw A (2 * p) + tw A (2 * p + 1)) + dnI A p (36 * tw A (2 * p) + tw A (2 * p + 1)) (dn A p)) % 4 = dnI A p (36 * tw A (2 * p) + tw A (2 * p + 1)) (dn A p) by omega] at rr
            have rr' : f_X12_errandWay_72 FU 136 (nI p) (nI i) (nI (36 * tw A (2 * p) + tw A (2 * p + 1))) (nI (dnI A p (36 * tw A (2 * p) + tw A (2 * p + 1)) (dn A p))) 0 g3 = _ := rr
            rw [if_pos (nI_lt w (by omega)), if_pos ⟨z, w⟩, rv, rr']
          · rw [if_neg (nI_nlt (by omega) hi), if_neg (fun u => w u.2)]
        · rw [if_neg z, if_pos rfl, if_neg (fun u => z u.1)]
    · refine QA.of (v := -3) (g1 := g) (g2 := sI g 136 0 0) (K := [0]) (S := []) ?_ (Qf.rf h1.1) h ?_ tF0 (by decide) (by decide) (Nat.le_refl _) (by omega)
      · rw [f_X11_errandWay, md0_4 hs, gk47 hs, c_isPair h3 hA, hp', bd_eq, ibT, if_neg kn]
      · show f_X12_errandWay 136 v k g = _
        rw [f_X12_errandWay, lg, R_isPair h1.t0, inL_I, hp', bd_eq, ibT, if_neg kn]
end QER
