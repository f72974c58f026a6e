/-! FORCING: both tell the same. -/
section GMQ
variable {A : Nat → Int32} {g g' : G} {p c n : Nat} {q pa la dp : Nat → Nat}
def fC (q : Nat → Nat) (x : Nat) : Nat := 2 * q (x / 2) + x % 2
theorem opL_map {N : Nat → Nat → Option Nat} (hB : BF N q pa la dp n n 0) {i t : Nat} (hi : i < n) (ht : t < 2) : ∀ k, k ≤ 4 → opL N (q i) t k = (opL (nxI N q n) i t k).map (fC q)
  | 0, _ => rfl
  | k + 1, hk => by
    have ih := opL_map hB hi ht k (by omega)
    cases hN : nxI N q n i (4 * t + k) with
    | none =>
      have e : N (q i) (4 * t + k) = none := by
        unfold nxI at hN
        cases h : N (q i) (4 * t + k) with
        | none => rfl
        | some y =>
          rw [h] at hN
          cases hN
      rw [opL_0 e, opL_0 hN, ih]
    | some j =>
      obtain ⟨j1, j2⟩ := nxI_o hB hi (by omega) hN
      rw [opL_1 j2, opL_1 hN, ih, List.map_append]
      congr 1
      show [2 * q j + 1 - t] = [fC q (2 * j + 1 - t)]
      unfold fC
      obtain rfl | rfl : t = 0 ∨ t = 1 := by omega
      · rw [show (2 * j + 1 - 0) / 2 = j by omega, show (2 * j + 1 - 0) % 2 = 1 by omega]
        rfl
      · rw [show (2 * j + 1 - 1) / 2 = j by omega, show (2 * j + 1 - 1) % 2 = 0 by omega]
        rfl
theorem slC_map {N : Nat → Nat → Option Nat} (hB : BF N q pa la dp n n 0) {x : Nat} (hx : x < 2 * n) : slC N (fC q x) = (slC (nxI N q n) x).map (fC q) := by
  have f1 : fC q x / 2 = q (x / 2) := by
    unfold fC
    omega
  have f2 : fC q x % 2 = x % 2 := by
    unfold fC
    omega
  have om := opL_map hB (show x / 2 < n by omega) (show x % 2 < 2 by omega) 4 (Nat.le_refl _)
  unfold slC
  rw [f1, f2, om]
  by_cases e : opL (nxI N q n) (x / 2) (x % 2) 4 = []
  · rw [e, if_pos (by rfl), if_pos rfl]
    show [2 * q (x / 2) + 1 - x % 2] = [fC q (2 * (x / 2) + 1 - x % 2)]
    unfold fC
    obtain h | h : x % 2 = 0 ∨ x % 2 = 1 := by omega
    · rw [h, show (2 * (x / 2) + 1 - 0) / 2 = x / 2 by omega, show (2 * (x / 2) + 1 - 0) % 2 = 1 by omega]
      rfl
    · rw [h, show (2 * (x / 2) + 1 - 1) / 2 = x / 2 by omega, show (2 * (x / 2) + 1 - 1) % 2 = 0 by omega]
      rfl
  · rw [if_neg e, if_neg (fun u => e (List.map_eq_nil_iff.mp u))]
theorem gm_same (hA : Dm A) (hB : BF (nxS A (fre A p) p (md A p)) q pa la dp n n 0) (hq : ∀ i, i < n → stB A (fre A p) p (q i) = true) {lv : Nat → Option Nat} (hl : Lv (slC (nxI (nxS A (fre A p) p (md A p)) q n)) (tgI q c) (fun x => x < 2 * n) lv) {x : Nat} (hx : x < 2 * n) : lv x = toLv (LG A p c) (fC q x) := by
  have fz : ∀ x, fC q x / 2 = q (x / 2) ∧ fC q x % 2 = x % 2 := fun x => by
    unfold fC
    omega
  have hC : ∀ y, stB A (fre A p) p (y / 2) = true → ∀ z, z ∈ slC (nxS A (fre A p) p (md A p)) y → stB A (fre A p) p (z / 2) = true := fun y hy z hz => by
    obtain ⟨⟨q1, q2, -⟩, -⟩ := stB_iff.mp hy
    unfold slC at hz
    split at hz
    · rw [List.mem_singleton.mp hz, show (2 * (y / 2) + 1 - y % 2) / 2 = y / 2 by omega]
      exact hy
    · obtain ⟨d, w, h1, h2, h3⟩ := opL_mem.mp hz
      rw [h3, show (2 * w + 1 - y % 2) / 2 = w by omega]
      exact nx_ok hA q1 q2 h2
  have L2 : Lv (slC (nxS A (fre A p) p (md A p))) (fun y => decide (y / 2 / 36 = c)) (fun y => stB A (fre A p) p (y / 2) = true) (toLv (LG A p c)) := Lv_gL (P := gP A p c) (B := (· / 2)) (n := 1296) (M := M6) (N := 2592) (slC_ne _) (fun x hx => by omega) (fun x hx => gP_lt hA hx) (Nat.le_refl _) (by decide) (fun y hy => by
    unfold gP
    rw [hy, Bool.true_and]
    simp) hC (v0G A p c) (fun y => by
    unfold v0G
    split
    · exact Or.inl rfl
    · exact Or.inr rfl) (fun y hy => by
    unfold v0G
    rw [decide_eq_true_eq]
    constructor
    · intro h
      split at h
      · next u => exact u.2
      · cases h
    · intro h
      rw [if_pos ⟨hy, h⟩])
  exact (Lv_uniq (f := fC q) hl L2 (fun y hy => ⟨by rw [(fz y).1]; exact hq _ (by omega), by unfold tgI; rw [(fz y).1], (fz y).2, slC_map hB hy⟩) (fun y hy z hz => (nxI_bd hB hy hz).1) x hx).symm
/-- the first best direction -/
def bsB (A : Nat → Int32) (p c d : Nat) : Bool := match (nxS A (fre A p) p (md A p)) (36 * tw A (2 * p) + tw A (2 * p + 1)) d with
  | none => false
  | some y => decide (LG A p c (2 * y + 1) + 1 = LG A p c (2 * (36 * tw A (2 * p) + tw A (2 * p + 1))))
def bsR (A : Nat → Int32) (p c : Nat) : Int32 := if LG A p c (2 * (36 * tw A (2 * p) + tw A (2 * p + 1))) = 1073741824 then -1 else if LG A p c (2 * (36 * tw A (2 * p) + tw A (2 * p + 1))) = 0 then -1 else if fstB (bsB A p c) 4 < 4 then nI (fstB (bsB A p c) 4) else -1
theorem r_best54 (h : RS A g) (hp : p < nv A 3) (ht : TH A p 1296 g) (hv : SG g (LG A p c)) (hP : stB A (fre A p) p (36 * tw A (2 * p) + tw A (2 * p + 1)) = true) (h0 : 0 < LG A p c (2 * (36 * tw A (2 * p) + tw A (2 * p + 1)))) : ∀ fu k, k ≤ 4 → 4 < fu + k → (∀ d, d < k → bsB A p c d = false) → f_X12_best_54 fu 136 (nI p) (nI (LG A p c (2 * (36 * tw A (2 * p) + tw A (2 * p + 1))))) (nI k) g = some (if fstB (bsB A p c) 4 < 4 then nI (fstB (bsB A p c) 4) else -1, g) := by
  intro fu
  induction fu with
  | zero => intro k _ h; omega
  | succ fu ih =>
    intro k hk hf hno
    have ll := LG_le (A := A) (p := p) (c := c) (2 * (36 * tw A (2 * p) + tw A (2 * p + 1)))
    rw [f_X12_best_54]
    rcases Nat.lt_or_ge k 4 with z | z
    · rw [if_neg (lnge4 z), r_standNow h hp, bd_eq, r_forcedBy h.1 ht hv h.2.2.1 hP (by omega), bd_eq, lsu1 h0]
      have nx : bsB A p c k = false → f_X12_best_54 fu 136 (nI p) (nI (LG A p c (2 * (36 * tw A (2 * p) + tw A (2 * p + 1))))) (nI (k + 1)) g = some (if fstB (bsB A p c) 4 < 4 then nI (fstB (bsB A p c) 4) else -1, g) := fun hb => ih (k + 1) (by omega) (by omega) (fun d hd => by
        rcases Nat.eq_or_lt_of_le (Nat.le_of_lt_succ hd) with e | e
        · rw [e]; exact hb
        · exact hno d e)
      cases hN : (nxS A (fre A p) p (md A p)) (36 * tw A (2 * p) + tw A (2 * p + 1)) k with
      | none =>
        dsimp only
        rw [if_neg (fun u => nI_ne1 (c := LG A p c (2 * (36 * tw A (2 * p) + tw A (2 * p + 1))) - 1) (by omega) u.symm), lad1]
        refine nx ?_
        unfold bsB
        rw [hN]
      | some y =>
        dsimp only
        have ly := LG_le (A := A) (p := p) (c := c) (2 * y + 1)
        by_cases e : LG A p c (2 * y + 1) = LG A p c (2 * (36 * tw A (2 * p) + tw A (2 * p + 1))) - 1
        · have hb : bsB A p c k = true := by
            unfold bsB
            rw [hN]
            exact decide_eq_true (by omega)
          rw [if_pos (by rw [e]), fst_eq z hb hno, if_pos z]
        · rw [if_neg (fun u => e ((nI_eq (by omega) (by omega)).mp u)), lad1]
          refine nx ?_
          unfold bsB
          rw [hN]
          exact decide_eq_false (by omega)
    · have e4 : k = 4 := by omega
      subst e4
      rw [if_pos (lle4 (by decide) (by decide)), if_neg (fun u => by
        have := fst_ok _ 4 u
        rw [hno _ u] at this
        cases this)]
theorem c_fb2 (hA : Dm A) (hB : BF (nxS A (fre A p) p (md A p)) q pa la dp n n 0) (hn : n ≤ 232) (hq : ∀ i, i < n → stB A (fre A p) p (q i) = true) (hs : Sh g) (hG : GRw g 2 n q pa la dp) (hN : GNx (nxS A (fre A p) p (md A p)) g 2 n q n 0) (h0 : q 0 = 36 * tw A (2 * p) + tw A (2 * p + 1)) {lv : Nat → Option Nat} (h33 : ∀ x, x < 2 * n → gI g 33 x = oI (lv x)) (hl : Lv (slC (nxI (nxS A (fre A p) p (md A p)) q n)) (tgI q c) (fun x => x < 2 * n) lv) : ∀ fu k, k ≤ 4 → 4 < fu + k → (∀ d, d < k → LG A p c (2 * (36 * tw A (2 * p) + tw A (2 * p + 1))) < 1073741824 → bsB A p c d = false) → f_X3_firstBest_2 fu 27 2 (nI k) g = some (bsR A p c, g) := by
  have n0 := hB.1.1
  intro fu
  induction fu with
  | zero => intro k _ h; omega
  | succ fu ih =>
    intro k hk hf hno
    have ll := LG_le (A := A) (p := p) (c := c) (2 * (36 * tw A (2 * p) + tw A (2 * p + 1)))
    have v0 : lv 0 = toLv (LG A p c) (2 * (36 * tw A (2 * p) + tw A (2 * p + 1))) := by
      rw [gm_same hA hB hq hl (show 0 < 2 * n by omega)]
      unfold fC
      rw [h0]
      rfl
    rw [f_X3_firstBest_2]
    unfold bsR
    rcases Nat.lt_or_ge k 4 with z | z
    · rw [if_neg (lnge4 z), md27_7 hs, gk33 hs, sn33 hs, show (0 : Int32) = nI 0 from rfl, gdI_nI (by decide) (by decide), nI_clamp (by decide), h33 0 (by omega), v0]
      unfold toLv
      by_cases w : LG A p c (2 * (36 * tw A (2 * p) + tw A (2 * p + 1))) < 1073741824
      · rw [if_pos w, if_neg (show ¬ LG A p c (2 * (36 * tw A (2 * p) + tw A (2 * p + 1))) = 1073741824 by omega), show oI (some (LG A p c (2 * (36 * tw A (2 * p) + tw A (2 * p + 1))))) = nI (LG A p c (2 * (36 * tw A (2 * p) + tw A (2 * p + 1)))) from rfl]
        rcases Nat.eq_zero_or_pos (LG A p c (2 * (36 * tw A (2 * p) + tw A (2 * p + 1)))) with y | y
        · rw [if_pos y, y, if_pos (by decide)]
        · have i := ih (k + 1) (by omega) (by omega)
          have nx : bsB A p c k = false → f_X3_firstBest_2 fu 27 2 (nI (k + 1)) g = some (if fstB (bsB A p c) 4 < 4 then nI (fstB (bsB A p c) 4) else -1, g) := fun hb => by
            have := i (fun d hd hw => by
              rcases Nat.eq_or_lt_of_le (Nat.le_of_lt_succ hd) with e | e
              · rw [e]; exact hb
              · exact hno d e hw)
            unfold bsR at this
            rw [if_neg (show ¬ LG A p c (2 * (36 * tw A (2 * p) + tw A (2 * p + 1))) = 1073741824 by omega), if_neg (show ¬ LG A p c (2 * (36 * tw A (2 * p) + tw A (2 * p + 1))) = 0 by omega)] at this
            exact this
          rw [if_neg (show ¬ LG A p c (2 * (36 * tw A (2 * p) + tw A (2 * p + 1))) = 0 by omega), if_neg (show ¬ nI (LG A p c (2 * (36 * tw A (2 * p) + tw A (2 * p + 1)))) ≤ nI 0 from nI_nle y (by omega)), c_nextOf (Or.inl rfl) hs hB hG hN hn n0 (by omega), bd_eq]
          cases hx : nxI (nxS A (fre A p) p (md A p)) q n 0 k with
          | none =>
            rw [show oI none = -1 from rfl, c_has1, bd_eq, show (if b2i false = nI 0 then _ else _) = _ from ibF, f_X3_firstBest_54, lad1]
            refine nx ?_
            unfold bsB
            rw [← h0]
            unfold nxI at hx
            cases hy : (nxS A (fre A p) p (md A p)) (q 0) k with
            | none => rfl
            | some u =>
              rw [hy] at hx
              cases hx
          | some t =>
            obtain ⟨t1, t2⟩ := nxI_o hB n0 (by omega) hx
            have vt : lv (2 * t + 1) = toLv (LG A p c) (2 * q t + 1) := by
              rw [gm_same hA hB hq hl (show 2 * t + 1 < 2 * n by omega)]
              unfold fC
              rw [show (2 * t + 1) / 2 = t by omega, show (2 * t + 1) % 2 = 1 by omega]
            have lt := LG_le (A := A) (p := p) (c := c) (2 * q t + 1)
            rw [show oI (some t) = nI t from rfl, c_has hG.1 (by omega) (by omega), bd_eq, decide_eq_true t1, show (if b2i true = nI 0 then _ else _) = _ from ibT, md27_7 hs, gk33 hs, sn33 hs, lum2, lad1, gdI_nI (by omega) (by decide), gdI_nI (by decide) (by decide), nI_clamp (by omega), h33 _ (show 2 * t + 1 < 2 * n by omega), vt, h33 0 (by omega), v0, show oI (toLv (LG A p c) (2 * (36 * tw A (2 * p) + tw A (2 * p + 1)))) - (1 : Int32) = nI (LG A p c (2 * (36 * tw A (2 * p) + tw A (2 * p + 1))) - 1) by unfold toLv; rw [if_pos w]; exact lsu1 y]
            have e0 : bsB A p c k = decide (LG A p c (2 * q t + 1) + 1 = LG A p c (2 * (36 * tw A (2 * p) + tw A (2 * p + 1)))) := by
              unfold bsB
              rw [← h0, t2]
            by_cases e : LG A p c (2 * q t + 1) + 1 = LG A p c (2 * (36 * tw A (2 * p) + tw A (2 * p + 1)))
            · have hb : bsB A p c k = true := by rw [e0]; exact decide_eq_true e
              rw [if_pos (by unfold toLv; rw [if_pos (by omega), show LG A p c (2 * (36 * tw A (2 * p) + tw A (2 * p + 1))) - 1 = LG A p c (2 * q t + 1) by omega]; rfl), fst_eq z hb (fun d hd => hno d hd w), if_pos z]
            · rw [if_neg (fun u => e (by
                unfold toLv at u
                split at u
                · have u2 : nI (LG A p c (2 * q t + 1)) = nI (LG A p c (2 * (36 * tw A (2 * p) + tw A (2 * p + 1))) - 1) := u
                  have := (nI_eq (by omega) (by omega)).mp u2
                  omega
                · exact absurd u.symm (nI_ne1 (by omega)))), f_X3_firstBest_54, lad1]
              exact nx (by rw [e0]; exact decide_eq_false e)
      · rw [if_neg w, if_pos (show LG A p c (2 * (36 * tw A (2 * p) + tw A (2 * p + 1))) = 1073741824 by omega), show oI none = -1 from rfl, if_pos (by decide)]
    · have e4 : k = 4 := by omega
      subst e4
      rw [if_pos (lle4 (by decide) (by decide))]
      by_cases w : LG A p c (2 * (36 * tw A (2 * p) + tw A (2 * p + 1))) < 1073741824
      · rw [if_neg (show ¬ LG A p c (2 * (36 * tw A (2 * p) + tw A (2 * p + 1))) = 1073741824 by omega)]
        by_cases y : LG A p c (2 * (36 * tw A (2 * p) + tw A (2 * p + 1))) = 0
        · rw [if_pos y]
        · rw [if_neg y, if_neg (fun u => by
            have := fst_ok _ 4 u
            rw [hno _ u w] at this
            cases this)]
      · rw [if_pos (show LG A p c (2 * (36 * tw A (2 * p) + tw A (2 * p + 1))) = 1073741824 by omega)]
end GMQ
