/-! FORCING, THE CLASS: the queue; levels. -/
section GMP
def tgI (q : Nat → Nat) (c x : Nat) : Bool := decide (q (x / 2) / 36 = c)
variable {g g' : G} {n c : Nat} {q pa la dp : Nat → Nat} {N : Nat → Nat → Option Nat}
/-- the rows of the queue -/
def GQ (g : G) (m : Nat) (qu le lf : Nat → Nat) (sz : Nat) : Prop := (∀ j, j < sz → gI g 34 j = nI (qu j) ∧ le (qu j) ≤ j) ∧ (∀ x, x < m → gI g 33 x = if pB qu sz x = true then nI (le x) else -1) ∧ ∀ x, x < m → gI g 32 x = nI (lf x)
theorem nxI_bd (hB : BF N q pa la dp n n 0) {x y : Nat} (hx : x < 2 * n) (hy : y ∈ (slC (nxI N q n)) x) : y < 2 * n ∧ y ≠ x := by
  unfold slC at hy
  split at hy
  · have := List.mem_singleton.mp hy
    omega
  · obtain ⟨d, z, h1, h2, h3⟩ := opL_mem.mp hy
    obtain ⟨o1, -⟩ := nxI_o hB (show x / 2 < n by omega) (by omega) h2
    omega
theorem c_pl132 (hB : BF N q pa la dp n n 0) (hn : n ≤ 232) {lk : Nat} {pl : Nat → List Nat} {k101 : Nat → Int32 → Int32 → G → Option (Unit × G)} {i : Nat} : ∀ fu rest g qu le lf sz pr (a : Int32), Sh g → GL1 g (2 * n) (slC (nxI N q n)) pl lk → GI (slC (nxI N q n)) pl (tgI q c) (2 * n) qu le lf sz i pr → GQ g (2 * n) qu le lf sz → i < sz → pl (qu i) = pr ++ rest → Lch lk (gI g 30) (gI g 29) a rest → rest.length < fu → ∃ g' qu' le' lf' sz', f_X3_play_132 k101 fu 27 (nI sz) (nI i) a (nI pr.length) g = k101 27 (nI sz') (nI (i + 1)) g' ∧ Fi [32, 33, 34] g g' ∧ GI (slC (nxI N q n)) pl (tgI q c) (2 * n) qu' le' lf' sz' (i + 1) [] ∧ GQ g' (2 * n) qu' le' lf' sz' ∧ sz ≤ sz' := by
  intro fu
  induction fu with
  | zero => intro rest g qu le lf sz pr a _ _ _ _ _ _ _ h; omega
  | succ fu ih =>
    intro rest g qu le lf sz pr a hs hL hI hQ hi hp hc hf
    have hl := hL.2.2.2
    have sz464 : sz ≤ 464 := Nat.le_trans (inj_le hI.1.1 hI.1.2) (by omega)
    have qi := hI.1.1 i hi
    have plen := (hL.2.1 (qu i) qi).2.1
    have lk2 := hL.1.2
    rw [hp, List.length_append] at plen
    rw [f_X3_play_132, md27_3 hs, gk30 hs, sn30 hs]
    cases rest with
    | nil =>
      have ha : a = -1 := hc
      rw [List.append_nil] at hp
      have fin : ∃ g' qu' le' lf' sz', f_X3_play_264 k101 27 (nI sz) (nI i) g = k101 27 (nI sz') (nI (i + 1)) g' ∧ Fi [32, 33, 34] g g' ∧ GI (slC (nxI N q n)) pl (tgI q c) (2 * n) qu' le' lf' sz' (i + 1) [] ∧ GQ g' (2 * n) qu' le' lf' sz' ∧ sz ≤ sz' := by
        rw [f_X3_play_264, lad1]
        refine ⟨g, qu, le, lf, sz, rfl, Fi.rf, ?_, hQ, Nat.le_refl _⟩
        rw [← hp] at hI
        exact hI.nxt hl hi
      by_cases z : 2048 ≤ pr.length
      · rw [if_pos (nI_le z (by omega))]
        exact fin
      · rw [if_neg (nI_ge (Nat.lt_of_not_le z) (by decide)), ha, if_pos rfl]
        exact fin
    | cons x rest =>
      obtain ⟨k, k1, k2, k3, k4⟩ := hc
      rw [List.length_cons] at plen hf
      have hx : x < 2 * n := (hL.2.1 (qu i) qi).2.2 x (by rw [hp]; exact List.mem_append_right _ List.mem_cons_self)
      obtain ⟨p1, p2, p3⟩ := hI.pos hl hi hx hp
      have lfl : lf x ≤ 4 := by
        have := hI.2.2.1 x hx
        have := slC_len (nxI N q n) x
        omega
      obtain ⟨r34, r33, r32⟩ := hQ
      have x1 : Fi [32, 33, 34] g (sI g 32 x (nI (lf x - 1))) := Fi.rf.si (by decide)
      have hs1 := Sh.fi x1 hs
      have pl1 : (pr ++ [x]).length = pr.length + 1 := by rw [List.length_append]; rfl
      have hp1 : pl (qu i) = (pr ++ [x]) ++ rest := by rw [hp, List.append_assoc]; rfl
      have i33 : gI (sI g 32 x (nI (lf x - 1))) 33 = gI g 33 := gI_sIn (by decide)
      have i32 : gI (sI g 32 x (nI (lf x - 1))) 32 = upd (gI g 32) x (nI (lf x - 1)) := gI_sIs
      have i29 : gI (sI g 32 x (nI (lf x - 1))) 29 = gI g 29 := gI_sIn (by decide)
      have n32 : ∀ z, z < 2 * n → upd (gI g 32) x (nI (lf x - 1)) z = nI (ins lf x (lf x - 1) z) := fun z hz => by
        by_cases e : z = x
        · rw [e, pk_us, ins_s]
        · rw [pk_un e, ins_n e]
          exact r32 z hz
      rw [if_neg (nI_ge (show pr.length < 2048 by omega) (by decide)), k2, if_neg (nI_ne1 (by omega)), gdI_nI (by omega) (by decide), li, nI_clamp (by omega), k3, md27_6 hs, gk32 hs, sn32 hs, gdI_nI (by omega) (by decide), nI_clamp (by omega), r32 x hx, lsu1 p1, lg, gR_sI, md27_7 hs, gdK_sI, gk33 hs, gN_sI, sn33 hs, gdI_nI (by omega) (by decide), i33, i32, pk_us]
      -- nothing comes of it
      have no : ((∃ j, j < sz ∧ qu j = x) ∨ (x % 2 = 1 ∧ 0 < lf x - 1)) → ∃ g' qu' le' lf' sz', f_X3_play_200 k101 (f_X3_play_132 k101 fu) 27 (nI sz) (nI i) (nI k) (nI pr.length) (nI x) (sI g 32 x (nI (lf x - 1))) = k101 27 (nI sz') (nI (i + 1)) g' ∧ Fi [32, 33, 34] g g' ∧ GI (slC (nxI N q n)) pl (tgI q c) (2 * n) qu' le' lf' sz' (i + 1) [] ∧ GQ g' (2 * n) qu' le' lf' sz' ∧ sz ≤ sz' := fun hn' => by
        obtain ⟨g2, qu2, le2, lf2, sz2, u1, u2, u3⟩ := ih rest _ qu le (ins lf x (lf x - 1)) sz (pr ++ [x]) (gI g 29 k) hs1 (hL.fi x1 (by decide) (by decide) (by decide) (by decide) (by decide)) (hI.no hl hi hx hp hn') ⟨by rw [gI_sIn (by decide)]; exact r34, by rw [i33]; exact r33, by rw [i32]; exact n32⟩ hi hp1 (by rw [gI_sIn (show 30 ≠ 32 by decide), i29]; exact k4) (by omega)
        rw [f_X3_play_200, f_X3_play_201, if_pos rfl, f_X3_play_249, gR_sI, md27_2 hs, gdK_sI, gk29 hs, gN_sI, sn29 hs, gdI_nI (by omega) (by decide), li, nI_clamp (by omega), i29, lad1, ← pl1]
        exact ⟨g2, qu2, le2, lf2, sz2, u1, x1.tr u2, u3⟩
      have lei := (r34 i hi).2
      have pi : pB qu sz (qu i) = true := pB_iff.mpr ⟨i, hi, rfl⟩
      have yes : (∀ j, j < sz → qu j ≠ x) → (x % 2 = 0 ∨ lf x - 1 = 0) → ∃ g' qu' le' lf' sz', f_X3_play_196 k101 (f_X3_play_132 k101 fu) 27 (nI sz) (nI i) (nI k) (nI pr.length) (nI x) (sI g 32 x (nI (lf x - 1))) = k101 27 (nI sz') (nI (i + 1)) g' ∧ Fi [32, 33, 34] g g' ∧ GI (slC (nxI N q n)) pl (tgI q c) (2 * n) qu' le' lf' sz' (i + 1) [] ∧ GQ g' (2 * n) qu' le' lf' sz' ∧ sz ≤ sz' := fun hq hn' => by
        have hI' := hI.add hl hi hx hp hq hn' (fun u => (nxI_bd hB hx u).2 rfl)
        have sz' : sz + 1 ≤ 464 := Nat.le_trans (inj_le hI'.1.1 hI'.1.2) (by omega)
        obtain ⟨g3, hg3⟩ : ∃ g3, g3 = sI (sI (sI g 32 x (nI (lf x - 1))) 33 x (nI (le (qu i) + 1))) 34 sz (nI x) := ⟨_, rfl⟩
        have x3 : Fi [32, 33, 34] g g3 := by
          rw [hg3]
          exact (x1.si (by decide)).si (by decide)
        have hs3 := Sh.fi x3 hs
        have j34 : gI g3 34 = upd (gI g 34) sz (nI x) := by rw [hg3, gI_sIs, gI_sIn (by decide), gI_sIn (by decide)]
        have j33 : gI g3 33 = upd (gI g 33) x (nI (le (qu i) + 1)) := by rw [hg3, gI_sIn (by decide), gI_sIs, gI_sIn (by decide)]
        have j32 : gI g3 32 = upd (gI g 32) x (nI (lf x - 1)) := by rw [hg3, gI_sIn (by decide), gI_sIn (by decide), gI_sIs]
        have j29 : gI g3 29 = gI g 29 := x3.I (by decide)
        have hQ' : GQ g3 (2 * n) (ins qu sz x) (ins le x (le (qu i) + 1)) (ins lf x (lf x - 1)) (sz + 1) := by
          refine ⟨fun j hj => ?_, fun z hz => ?_, fun z hz => by rw [j32]; exact n32 z hz⟩
          · rw [j34]
            by_cases e : j = sz
            · rw [e, pk_us, ins_s, ins_s]
              exact ⟨rfl, by omega⟩
            · rw [pk_un e, ins_n e, ins_n (hq j (by omega))]
              exact r34 j (by omega)
          · rw [j33]
            by_cases e : z = x
            · rw [e, pk_us, ins_s, if_pos (pB_iff.mpr ⟨sz, by omega, ins_s⟩)]
            · rw [pk_un e, ins_n e, r33 z hz]
              have : pB (ins qu sz x) (sz + 1) z = pB qu sz z := by
                rw [Bool.eq_iff_iff, pB_iff, pB_iff]
                constructor
                · rintro ⟨a, a1, a2⟩
                  by_cases ea : a = sz
                  · rw [ea, ins_s] at a2
                    exact absurd a2.symm e
                  · rw [ins_n ea] at a2
                    exact ⟨a, by omega, a2⟩
                · rintro ⟨a, a1, a2⟩
                  exact ⟨a, by omega, by rw [ins_n (by omega)]; exact a2⟩
              rw [this]
        obtain ⟨g4, qu4, le4, lf4, sz4, u1, u2, u3, u4, u5⟩ := ih rest g3 _ _ _ (sz + 1) (pr ++ [x]) (gI g 29 k) hs3 (hL.fi x3 (by decide) (by decide) (by decide) (by decide) (by decide)) hI' hQ' (by omega) (by rw [ins_n (by omega)]; exact hp1) (by rw [x3.I (show 30 ∉ [32, 33, 34] by decide), j29]; exact k4) (by omega)
        rw [f_X3_play_196, f_X3_play_201, if_neg (show ¬ (1 : Int32) = 0 by decide), gR_sI, md27_8 hs, gdK_sI, gk34 hs, gN_sI, sn34 hs, if_neg (nI_ge (show sz < 512 by omega) (by decide)), md27_7 hs, gdI_nI (by omega) (by decide), gdK_sI, gk33 hs, gI_sIn (show 34 ≠ 32 by decide), nI_clamp (by omega), (r34 i hi).1, sn33 hs, gdI_nI (by omega) (by decide), gdI_nI (by omega) (by decide), nI_clamp (show x < 2 ^ 31 by omega), nI_clamp (show qu i < 2 ^ 31 by omega), i33, r33 _ qi, if_pos pi, lad1, lg, gN_sI, gN_sI, sn34 hs, gdI_nI (by omega) (by decide), nI_clamp (show sz < 2 ^ 31 by omega), lg, ← hg3, f_X3_play_249, md27_2 hs3, gk29 hs3, sn29 hs3, gdI_nI (by omega) (by decide), li, nI_clamp (by omega), j29, lad1, lad1, ← pl1]
        exact ⟨g4, qu4, le4, lf4, sz4, u1, x3.tr u2, u3, u4, by omega⟩
      rw [r33 x hx]
      cases hpx : pB qu sz x with
      | true =>
        obtain ⟨j, j1, j2⟩ := pB_iff.mp hpx
        have lj := (r34 j j1).2
        rw [j2] at lj
        rw [if_pos rfl, if_neg (nI_ne1 (by omega))]
        exact no (Or.inl ⟨j, j1, j2⟩)
      | false =>
        have hq := pB_f.mp hpx
        rw [if_neg (show ¬ false = true by decide), if_pos rfl, ldi2 (by omega), lmo2]
        by_cases e : x % 2 = 0
        · rw [if_pos (show nI (x % 2) = 0 by rw [e]; rfl)]
          exact yes hq (Or.inl e)
        · rw [if_neg (nI_ne0 (by omega) (by omega))]
          by_cases e2 : lf x - 1 = 0
          · rw [if_pos (show nI (lf x - 1) = 0 by rw [e2]; rfl)]
            exact yes hq (Or.inr e2)
          · rw [if_neg (nI_ne0 (by omega) (by omega))]
            exact no (Or.inr ⟨by omega, by omega⟩)
theorem c_pl101 (hB : BF N q pa la dp n n 0) (hn : n ≤ 232) {lk : Nat} {pl : Nat → List Nat} : ∀ fu i g qu le lf sz, Sh g → GL1 g (2 * n) (slC (nxI N q n)) pl lk → GI (slC (nxI N q n)) pl (tgI q c) (2 * n) qu le lf sz i [] → GQ g (2 * n) qu le lf sz → i ≤ sz → 500 < fu + i → ∃ g' qu' le' lf' sz', f_X3_play_101 fu 27 (nI sz) (nI i) g = some ((), g') ∧ Fi [32, 33, 34] g g' ∧ GI (slC (nxI N q n)) pl (tgI q c) (2 * n) qu' le' lf' sz' sz' [] ∧ GQ g' (2 * n) qu' le' lf' sz' := by
  intro fu
  induction fu with
  | zero =>
    intro i g qu le lf sz _ _ hI _ _ h
    have : sz ≤ 464 := Nat.le_trans (inj_le hI.1.1 hI.1.2) (by omega)
    omega
  | succ fu ih =>
    intro i g qu le lf sz hs hL hI hQ hi hf
    have sz464 : sz ≤ 464 := Nat.le_trans (inj_le hI.1.1 hI.1.2) (by omega)
    rw [f_X3_play_101]
    rcases Nat.lt_or_ge i sz with z | z
    · have qi := hI.1.1 i z
      obtain ⟨c1, c2, c3⟩ := hL.2.1 _ qi
      have lk2 := hL.1.2
      obtain ⟨g2, qu2, le2, lf2, sz2, u1, u2, u3, u4, u5⟩ := c_pl132 hB hn (k101 := f_X3_play_101 fu) FU (pl (qu i)) g qu le lf sz [] _ hs hL hI hQ z rfl c1 (FU_gt (by omega))
      rw [if_neg (nI_ge z (by omega)), if_neg (lnge512 (by omega)), md27_1 hs, md27_8 hs, gk34 hs, sn34 hs, gdI_nI (by omega) (by decide), nI_clamp (by omega), (hQ.1 i z).1, gk28 hs, sn28 hs, gdI_nI (by omega) (by decide), li, nI_clamp (by omega), show (0 : Int32) = nI ([] : List Nat).length from rfl, u1]
      have i2 : i < sz2 := by omega
      obtain ⟨g3, qu3, le3, lf3, sz3, v1, v2, v3⟩ := ih (i + 1) g2 qu2 le2 lf2 sz2 (Sh.fi u2 hs) (hL.fi u2 (by decide) (by decide) (by decide) (by decide) (by decide)) u3 u4 (by omega) (by omega)
      exact ⟨g3, qu3, le3, lf3, sz3, v1, u2.tr v2, v3⟩
    · have e : i = sz := by omega
      subst e
      rw [if_pos (nI_le z (by omega))]
      exact ⟨g, qu, le, lf, i, rfl, Fi.rf, hI, hQ⟩
/-- the nodes where twin 0 is in the cell already -/
theorem c_pl41 (hB : BF N q pa la dp n n 0) (hn : n ≤ 232) (hq : ∀ i, i < n → q i < 1296) (hc : c < 36) {lk : Nat} {pl : Nat → List Nat} : ∀ fu k g qu sz, Sh g → GRw g 2 n q pa la dp → GL1 g (2 * n) (slC (nxI N q n)) pl lk → (∀ j, j < sz → gI g 34 j = nI (qu j) ∧ qu j < k ∧ (tgI q c) (qu j) = true) → (∀ a b, a < sz → b < sz → qu a = qu b → a = b) → (∀ x, x < k → (tgI q c) x = true → ∃ j, j < sz ∧ qu j = x) → (∀ x, x < 2 * n → gI g 33 x = if pB qu sz x = true then nI 0 else -1) → (∀ x, x < 2 * n → gI g 32 x = nI ((slC (nxI N q n)) x).length) → k ≤ 2 * n → 500 < fu + k → ∃ g' qu' le' lf' sz', f_X3_play_41 fu 27 2 (nI c) (nI sz) (nI k) g = some ((), g') ∧ Fi [32, 33, 34] g g' ∧ GI (slC (nxI N q n)) pl (tgI q c) (2 * n) qu' le' lf' sz' sz' [] ∧ GQ g' (2 * n) qu' le' lf' sz' := by
  intro fu
  induction fu with
  | zero => intro k g qu sz _ _ _ _ _ _ _ _ _ h; omega
  | succ fu ih =>
    intro k g qu sz hs hG hL h34 hinj hall h33 h32 hk hf
    have szk : sz ≤ k := inj_le (fun j hj => (h34 j hj).2.1) hinj
    rw [f_X3_play_41, hG.1, lum2]
    rcases Nat.lt_or_ge k (2 * n) with z | z
    · have k2 : k / 2 < n := by omega
      rw [if_neg (nI_ge z (by omega)), if_neg (lnge512 (by omega)), ldi2 (by omega), show (0 : Int32) = nI 0 from rfl, c_cellOf (Or.inl rfl) hs hG hn k2 (hq _ k2) (by decide), bd_eq, show ow 0 (q (k / 2) / 36) (q (k / 2) % 36) = q (k / 2) / 36 from rfl]
      have q36 : q (k / 2) / 36 < 36 := by
        have := hq _ k2
        omega
      by_cases w : q (k / 2) / 36 = c
      · have tk : (tgI q c) k = true := decide_eq_true w
        obtain ⟨g2, hg2⟩ : ∃ g2, g2 = sI (sI g 33 k (nI 0)) 34 sz (nI k) := ⟨_, rfl⟩
        have x2 : Fi [32, 33, 34] g g2 := by
          rw [hg2]
          exact (Fi.rf.si (by decide)).si (by decide)
        have j34 : gI g2 34 = upd (gI g 34) sz (nI k) := by rw [hg2, gI_sIs, gI_sIn (by decide)]
        have j33 : gI g2 33 = upd (gI g 33) k (nI 0) := by rw [hg2, gI_sIn (by decide), gI_sIs]
        have j32 : gI g2 32 = gI g 32 := by rw [hg2, gI_sIn (by decide), gI_sIn (by decide)]
        obtain ⟨g3, qu3, le3, lf3, sz3, u1, u2, u3⟩ := ih (k + 1) g2 (ins qu sz k) (sz + 1) (Sh.fi x2 hs) (hG.fi x2 (fun i hi u => by simp only [List.mem_cons, List.not_mem_nil, or_false] at u; omega)) (hL.fi x2 (by decide) (by decide) (by decide) (by decide) (by decide)) (fun j hj => by
          rw [j34]
          by_cases e : j = sz
          · rw [e, pk_us, ins_s]
            exact ⟨rfl, by omega, tk⟩
          · rw [pk_un e, ins_n e]
            obtain ⟨a1, a2, a3⟩ := h34 j (by omega)
            exact ⟨a1, by omega, a3⟩) (fun a b ha hb e => by
          by_cases e1 : a = sz
          · by_cases e2 : b = sz
            · omega
            · rw [e1, ins_s, ins_n e2] at e
              have := (h34 b (by omega)).2.1
              omega
          · by_cases e2 : b = sz
            · rw [e2, ins_s, ins_n e1] at e
              have := (h34 a (by omega)).2.1
              omega
            · rw [ins_n e1, ins_n e2] at e
              exact hinj a b (by omega) (by omega) e) (fun x hx ht => by
          rcases Nat.eq_or_lt_of_le (Nat.le_of_lt_succ hx) with e | e
          · exact ⟨sz, by omega, by rw [ins_s, e]⟩
          · obtain ⟨j, j1, j2⟩ := hall x e ht
            exact ⟨j, by omega, by rw [ins_n (by omega)]; exact j2⟩) (fun x hx => by
          rw [j33]
          by_cases e : x = k
          · rw [e, pk_us, if_pos (pB_iff.mpr ⟨sz, by omega, ins_s⟩)]
          · rw [pk_un e, h33 x hx]
            have : pB (ins qu sz k) (sz + 1) x = pB qu sz x := by
              rw [Bool.eq_iff_iff, pB_iff, pB_iff]
              constructor
              · rintro ⟨a, a1, a2⟩
                by_cases ea : a = sz
                · rw [ea, ins_s] at a2
                  exact absurd a2.symm e
                · rw [ins_n ea] at a2
                  exact ⟨a, by omega, a2⟩
              · rintro ⟨a, a1, a2⟩
                exact ⟨a, by omega, by rw [ins_n (by omega)]; exact a2⟩
            rw [this]) (fun x hx => by rw [j32]; exact h32 x hx) (by omega) (by omega)
        rw [if_pos (by rw [w]), md27_7 hs, gk33 hs, sn33 hs, gdI_nI (by omega) (by decide), nI_clamp (by omega), lg, gR_sI, md27_8 hs, gdK_sI, gk34 hs, gN_sI, sn34 hs, gdI_nI (by omega) (by decide), nI_clamp (by omega), lg, ← hg2, f_X3_play_92, lad1, lad1]
        exact ⟨g3, qu3, le3, lf3, sz3, u1, x2.tr u2, u3⟩
      · rw [if_neg (fun u => w ((nI_eq (by omega) (by omega)).mp u)), f_X3_play_92, lad1]
        exact ih (k + 1) g qu sz hs hG hL (fun j hj => ⟨(h34 j hj).1, by have := (h34 j hj).2.1; omega, (h34 j hj).2.2⟩) hinj (fun x hx ht => by
          rcases Nat.eq_or_lt_of_le (Nat.le_of_lt_succ hx) with e | e
          · rw [e] at ht
            exact absurd (of_decide_eq_true ht) w
          · exact hall x e ht) h33 h32 (by omega) (by omega)
    · have e : k = 2 * n := by omega
      subst e
      rw [if_pos (nI_le z (by omega)), f_X3_play_98]
      have p0 : ∀ y, pB qu 0 y = false := fun y => pB_f.mpr (fun a ha => by omega)
      refine c_pl101 hB hn FU 0 g qu (fun _ => 0) (fun x => ((slC (nxI N q n)) x).length) sz hs hL ⟨⟨fun j hj => (h34 j hj).2.1, hinj⟩, ⟨fun a b _ _ => Nat.le_refl _, fun _ a _ => Nat.zero_le _⟩, fun x hx => ?_, ⟨fun j _ _ => rfl, hall⟩, fun j hj ht => ?_, fun x hx ht hu => ⟨fun _ => ⟨fun y _ a ha => by omega, fun u => by cases u⟩, fun _ => ?_⟩⟩ ⟨fun j hj => ⟨(h34 j hj).1, Nat.zero_le _⟩, h33, h32⟩ (Nat.zero_le _) (by have := @FU_gt 500 (by decide); omega)
      · rw [cP_0 (fun y _ => p0 y)]
        rfl
      · rw [(h34 j hj).2.2] at ht
        cases ht
      · exact List.length_pos_iff.mpr (slC_ne _ x)
theorem va_cpy_all {f h : Nat → Int32} {k j : Nat} (hj : j < k) : va_cpy f h 0 0 k j = f j := by
  rw [pk_cpy_in (Nat.zero_le _) (by omega)]
  congr 1
  omega
theorem gI_rIs {g : G} {a : Nat} {f : Nat → Int32} : gI (rI g a f) a = f := va_up_self _ _ _
theorem gI_rIn {g : G} {a b : Nat} {f : Nat → Int32} (h : b ≠ a) : gI (rI g a f) b = gI g b := va_up_ne _ _ h
def Sn : List Nat := [27, 28, 29, 30, 31, 32, 33, 34]
theorem Fi.ri {S : List Nat} {g h : G} (x : Fi S g h) {a : Nat} {v : Nat → Int32} (ha : a ∈ S) : Fi S g (rI h a v) := x.tr ⟨⟨rfl, rfl, rfl, rfl, rfl⟩, fun b hb => ⟨va_up_ne _ _ (fun e => hb (e ▸ ha)), rfl⟩⟩
theorem c_play (hB : BF N q pa la dp n n 0) (hn : n ≤ 232) (hq : ∀ i, i < n → q i < 1296) (hc : c < 36) (hs : Sh g) (hG : GRw g 2 n q pa la dp) (hN : GNx N g 2 n q n 0) (hM : gI g 27 0 = 0 ∨ GMr (nxI N q n) n g) : ∃ g' lv, f_X3_play 27 2 (nI c) g = some ((), g') ∧ Fi Sn g g' ∧ GMr (nxI N q n) n g' ∧ (∀ x, x < 2 * n → gI g' 33 x = oI (lv x)) ∧ (∀ x k, x < 2 * n → lv x = some k → k < 1000) ∧ Lv (slC (nxI N q n)) (tgI q c) (fun x => x < 2 * n) lv := by
  have main : ∀ g0, Sh g0 → GRw g0 2 n q pa la dp → GMr (nxI N q n) n g0 → ∃ g' lv, f_X3_play_12 27 2 (nI c) g0 = some ((), g') ∧ Fi Sn g0 g' ∧ GMr (nxI N q n) n g' ∧ (∀ x, x < 2 * n → gI g' 33 x = oI (lv x)) ∧ (∀ x k, x < 2 * n → lv x = some k → k < 1000) ∧ Lv (slC (nxI N q n)) (tgI q c) (fun x => x < 2 * n) lv := fun g0 hs0 hG0 hM0 => by
    obtain ⟨h27, pl, lk, hL⟩ := hM0
    obtain ⟨g1, e1, e2, e3, e4⟩ := c_fill (g := g0) (a := 33) (len := 512) (by decide) (sn33 hs0) (-1)
    have hs1 := Sh.fi e2 hs0
    obtain ⟨g2, hg2⟩ : ∃ g2, g2 = rI g1 32 (va_cpy (gI g1 31) (gI g1 32) 0 0 512) := ⟨_, rfl⟩
    have x2' : Fi [32, 33, 34] g0 g2 := by
      rw [hg2]
      exact (e2.mono (by decide)).ri (by decide)
    have hs2 := Sh.fi x2' hs0
    have hL2 := hL.fi x2' (by decide) (by decide) (by decide) (by decide) (by decide)
    have j32 : gI g2 32 = va_cpy (gI g1 31) (gI g1 32) 0 0 512 := by
      rw [hg2]
      exact gI_rIs
    have j33 : gI g2 33 = gI g1 33 := by
      rw [hg2]
      exact gI_rIn (by decide)
    obtain ⟨g3, qu, le, lf, sz, u1, u2, u3, u4⟩ := c_pl41 hB hn hq hc FU 0 g2 id 0 hs2 (hG0.fi x2' (fun i hi u => by simp only [List.mem_cons, List.not_mem_nil, or_false] at u; omega)) hL2 (fun j hj => by omega) (fun a b ha => by omega) (fun x hx => by omega) (fun x hx => by
      rw [j33, e4 x (by omega), if_neg (by rw [pB_f.mpr (fun a ha => by omega)]; decide)]) (fun x hx => by
      rw [j32, va_cpy_all (by omega), e2.I (by decide)]
      exact hL.2.2.1 x hx) (Nat.zero_le _) (by have := @FU_gt 500 (by decide); omega)
    have x3 : Fi [32, 33, 34] g0 g3 := x2'.tr u2
    have sz464 : sz ≤ 464 := Nat.le_trans (inj_le u3.1.1 u3.1.2) (by omega)
    refine ⟨g3, lvQ qu le sz, ?_, x3.mono (by decide), ⟨by rw [x3.I (by decide)]; exact h27, pl, lk, hL.fi x3 (by decide) (by decide) (by decide) (by decide) (by decide)⟩, fun x hx => ?_, fun x k hx hk => ?_, u3.fin⟩
    · have cg : ∀ x : Option (Unit × G), gdC (0 : Int32) (0 : Int32) (512 : Int32) 512 512 x = x := fun x => if_neg (by decide)
      rw [f_X3_play_12, md27_7 hs0, gk33 hs0, e1, bd_eq, md27_5 hs1, md27_6 hs1, gk31 hs1, gk32 hs1, sn31 hs1, sn32 hs1, cg, lg, show (0 : Int32).toNatClampNeg = 0 from rfl, show (512 : Int32).toNatClampNeg = 512 from rfl, ← hg2]
      exact u1
    · rw [u4.2.1 x hx]
      unfold lvQ
      split
      · rfl
      · rfl
    · unfold lvQ at hk
      split at hk
      · next h =>
        obtain ⟨j, j1, j2⟩ := pB_iff.mp h
        have := (u4.1 j j1).2
        rw [j2] at this
        have := Option.some.inj hk
        omega
      · cases hk
  rw [f_X3_play]
  rcases hM with h | h
  · obtain ⟨g1, e1, e2, e3⟩ := c_linkAll hB hn hs hG hN
    obtain ⟨g2, lv, d1, d2, d3⟩ := main g1 (Sh.fi e2 hs) (hG.sm e2) e3
    rw [h, if_pos rfl, e1, bd_eq]
    exact ⟨g2, lv, d1, (e2.mono (by decide)).tr d2, d3⟩
  · rw [h.1, if_neg (by decide)]
    exact main g hs hG h
end GMP
