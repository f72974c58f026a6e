/-! ERRANDS: the reference's way; the class. -/
section ERW
variable {A : Nat → Int32} {g g' : G} {p : Nat}
theorem r_ew75 (h : RS A g) (hp : p < nv A 3) (ht : TH A p 1296 g) (hv : SE g (LE A p)) {s y lq k : Nat} (hP : eP A p s = true) (hlq : lq < 8) (h0 : 0 < LE A p s) (hF : LE A p s < 1073741824) (hN : (eE A p) s lq = some y) (e : LE A p y + 1 = LE A p s) (hl : ∀ l' y, l' < lq → (eE A p) s l' = some y → LE A p y + 1 ≠ LE A p s) (i : Int32) {k72 : Nat → Int32 → Int32 → Int32 → Int32 → Int32 → G → Option (Int32 × G)} : ∀ n l, l ≤ lq → lq < n + l → f_X12_errandWay_75 k72 n 136 (nI p) i (nI (s / 4)) (nI (s % 4)) (nI k) (nI l) g = if nI k = i then some (nI (tld lq), g) else k72 136 (nI p) i (nI (y / 4)) (nI (y % 4)) (nI (k + 1)) g := by
  have hA := h.2.2.1
  have hs := h.1
  have s1 := stB_lt hA hP
  have s2 : s < 5184 := by omega
  obtain ⟨⟨q1, q2, -⟩, -⟩ := stB_iff.mp hP
  have k4 : 4 * (s / 4) + s % 4 = s := by omega
  have sb : ∀ l, sbV (eE A p) (fun _ _ => 1) (LE A p) s l < 2 ^ 31 := fun l => by
    unfold sbV
    split
    · decide
    · next z hz =>
      have := (hv z (eE_ok hA hP hz).2.2).2
      dsimp only
      split <;> omega
  intro n
  induction n with
  | zero => intro l _ h; omega
  | succ n ih =>
    intro l hl1 hn
    have by1 := r_errandBy h hp ht hv (s := s / 4) (d := s % 4) (l := l) hP (by omega) (by omega)
    rw [k4] at by1
    rw [f_X12_errandWay_75, by1, bd_eq, md136_26 hs, gk147 hs, sn147 hs, lum4, nI_add, k4, gdI_nI s2 (by decide), nI_clamp (by omega), (hv s s2).1]
    rcases Nat.eq_or_lt_of_le hl1 with z | z
    · subst z
      have ee : sbV (eE A p) (fun _ _ => 1) (LE A p) s l = LE A p s := by
        unfold sbV
        rw [hN]
        dsimp only
        rw [if_neg (by omega), e]
      rw [ee, if_pos rfl, ldi4 (by omega), lum10, lmo4, nI_add]
      by_cases w : nI k = i
      · rw [if_pos w, if_pos w]
        rfl
      · cases hx : nxS A (fre A p) p (md A p) (s / 4) l with
        | none =>
          rw [eE_n hx] at hN
          cases hN
        | some z =>
          rw [eE_s hx] at hN
          have hz := Option.some.inj hN
          have z1 := stB_lt hA (nx_ok hA q1 q2 hx)
          have d4 := dnI_lt (A := A) (p := p) (y := z) (d := s % 4) (by omega)
          rw [if_neg w, if_neg w, md136_24 hs, gk145 hs, sn145 hs, lum8, nI_add, gdI_nI (by omega) (by decide), li, nI_clamp (by omega), ((ht _ s1).2 hP l hlq).1, hx, show oI (some z) = nI z from rfl, r_doneIn h hp z1 (by omega), bd_eq, lad1, show y / 4 = z by omega, show y % 4 = dnI A p z (s % 4) by omega]
    · have ne : ¬ nI (sbV (eE A p) (fun _ _ => 1) (LE A p) s l) = nI (LE A p s) := fun w => by
        have w2 := (nI_eq (sb l) (by omega)).mp w
        unfold sbV at w2
        split at w2
        · omega
        · next z2 hz =>
          dsimp only at w2
          split at w2
          · omega
          · exact hl l z2 z hz w2
      rw [if_neg ne, lad1]
      exact ih (l + 1) (by omega) (by omega)
theorem r_ew72 (h : RS A g) (hp : p < nv A 3) (ht : TH A p 1296 g) (hv : SE g (LE A p)) {S Q : Nat → Nat} {D : Nat} (hS : ∀ k, k < D → eP A p (S k) = true ∧ 0 < LE A p (S k) ∧ LE A p (S k) < 1073741824 ∧ Q k < 8 ∧ (eE A p) (S k) (Q k) = some (S (k + 1)) ∧ LE A p (S (k + 1)) + 1 = LE A p (S k) ∧ ∀ l' y, l' < Q k → (eE A p) (S k) l' = some y → LE A p y + 1 ≠ LE A p (S k)) {i : Nat} (hi : i < D) (hD : D < 100000) : ∀ n k, k ≤ i → i < n + k → f_X12_errandWay_72 n 136 (nI p) (nI i) (nI (S k / 4)) (nI (S k % 4)) (nI k) g = some (nI (tld (Q i)), g) := by
  intro n
  induction n with
  | zero => intro k _ h; omega
  | succ n ih =>
    intro k hk hn
    obtain ⟨a1, a2, a3, a4, a5, a6, a7⟩ := hS k (by omega)
    rw [f_X12_errandWay_72, show (0 : Int32) = nI 0 from rfl, r_ew75 h hp ht hv a1 a4 a2 a3 a5 a6 a7 (nI i) FU 0 (Nat.zero_le _) (by have := @FU_gt 8 (by decide); omega)]
    by_cases w : k = i
    · rw [if_pos (by rw [w]), w]
    · rw [if_neg (fun u => w ((nI_eq (by omega) (by omega)).mp u))]
      exact ih (k + 1) (by omega) (by omega)
/-! what is known of LE -/
theorem LE_le (s : Nat) : LE A p s ≤ 1073741824 := Nat.le_trans (wL_le M5 s) (v0E_le s)
theorem LE_0 (hA : Dm A) (s : Nat) : LE A p s = 0 ↔ s % 4 = 3 := by
  refine (wL_0 (fun s l => Nat.one_pos) (fun x hx => eP_lt hA hx) (cntB_le _ _) s).trans ?_
  unfold v0E
  constructor
  · intro h
    split at h
    · assumption
    · cases h
  · intro h
    rw [if_pos h]
theorem LF_E (hA : Dm A) {Q : Nat → Nat} {n : Nat} (hq : ∀ i, i < n → eP A p (Q i) = true) : LF (eE A p) Q n 1073741824 (LE A p) := by
  refine ⟨fun i l y hi hl he => wL_1 (w := fun _ _ => 1) (fun s l => Nat.one_pos) (fun x hx => eP_lt hA hx) (cntB_le _ _) (hq i hi) hl he, fun i hi h0 hF => ?_⟩
  rcases wL_2 (v := v0E) (E := eE A p) (w := fun _ _ => 1) (P := eP A p) (n := M5) (M := M5) (fun s l => Nat.one_pos) (fun x hx => eP_lt hA hx) (cntB_le _ _) (Q i) with e | ⟨l, y, -, l1, l2, l3⟩
  · exfalso
    have e' : LE A p (Q i) = v0E (Q i) := e
    unfold v0E at e'
    split at e' <;> omega
  · exact ⟨l, y, l1, l2, l3⟩
end ERW
section ERC
variable {A : Nat → Int32} {g g' : G} {p n : Nat} {q pa la dp : Nat → Nat}
theorem c_cellOf {b : Nat} (hb : Gc b) (hs : Sh g) {qa : Nat → Nat} {pa' la' dp' : Nat → Nat} (hG : GRw g b n qa pa' la' dp') (hn : n ≤ 232) {s t : Nat} (hsn : s < n) (hq : qa s < 1296) (ht : t < 2) : f_X4_cellOf b (nI s) (nI t) g = some (nI (ow t (qa s / 36) (qa s % 36)), g) := by
  have c1 := cx_lt hq
  obtain ⟨d1, d2⟩ := cx_dm (qa s)
  rw [f_X4_cellOf, c_has hG.1 (by omega) (by omega), bd_eq, decide_eq_true hsn, ibT]
  obtain rfl | rfl : t = 0 ∨ t = 1 := by omega
  · rw [if_pos (show nI 0 = 0 from rfl), g_dr hb hs (by decide) (by decide), g_gk hb hs (by decide) (by decide), g_gn hb hs (by decide) (by decide), gdI_nI (by omega) (by decide), nI_clamp (by omega), (hG.2.1 s hsn).1, ldi64 (by omega), d1]
    rfl
  · rw [if_neg (by decide), g_dr hb hs (by decide) (by decide), g_gk hb hs (by decide) (by decide), g_gn hb hs (by decide) (by decide), gdI_nI (by omega) (by decide), nI_clamp (by omega), (hG.2.1 s hsn).1, ldi64 (by omega), lmo64, d2]
    rfl
/-- absent errands are done -/
def AB (A : Nat → Int32) (p d : Nat) : Prop := (A (46 + 2 * p) = -1 → d % 2 = 1) ∧ (A (46 + 2 * p + 1) = -1 → d / 2 % 2 = 1)
def cb (x y : Int32) (k : Nat) : Nat := if x = y then k else 0
theorem or_4c : ∀ d, d < 4 → ∀ a, a < 2 → ∀ b, b < 2 → (d % 2 = 1 → (d ||| 0 ||| 2 * b) = (d ||| 1 ||| 2 * b)) ∧ (d / 2 % 2 = 1 → (d ||| a ||| 0) = (d ||| a ||| 2)) ∧ (d ||| a ||| 2 * b) % 2 = (if a = 1 then 1 else d % 2) ∧ (d ||| a ||| 2 * b) / 2 % 2 = (if b = 1 then 1 else d / 2 % 2) ∧ (d ||| a ||| 2 * b) < 4 := by
  intro d hd a ha b hb
  obtain rfl | rfl | rfl | rfl : d = 0 ∨ d = 1 ∨ d = 2 ∨ d = 3 := by omega
  all_goals (obtain rfl | rfl : a = 0 ∨ a = 1 := by omega)
  all_goals (obtain rfl | rfl : b = 0 ∨ b = 1 := by omega)
  all_goals decide
theorem dnC_I {y d : Nat} (hy : y < 1296) (hd : d < 4) (h : AB A p d) : (d ||| cb (nI (y / 36)) (A (46 + 2 * p)) 1) ||| cb (nI (y % 36)) (A (46 + 2 * p + 1)) 2 = dnI A p y d ∧ AB A p (dnI A p y d) := by
  have n1 := nI_ne1 (show y / 36 < 2 ^ 31 by omega)
  have n2 := nI_ne1 (show y % 36 < 2 ^ 31 by omega)
  have e1 : ∃ a a', a < 2 ∧ a' < 2 ∧ cb (nI (y / 36)) (A (46 + 2 * p)) 1 = a ∧ dnb A p 0 y = a' ∧ (a = a' ∨ (A (46 + 2 * p) = -1 ∧ a = 0 ∧ a' = 1)) ∧ (A (46 + 2 * p) = -1 → a' = 1) := by
    unfold cb dnb
    rw [show ow 0 (y / 36) (y % 36) = y / 36 from rfl, show 46 + 2 * p + 0 = 46 + 2 * p from rfl]
    by_cases z : A (46 + 2 * p) = -1
    · rw [if_pos (Or.inl z), if_neg (fun u => n1 (u.trans z))]
      exact ⟨0, 1, by decide, by decide, rfl, rfl, Or.inr ⟨z, rfl, rfl⟩, fun _ => rfl⟩
    · by_cases w : nI (y / 36) = A (46 + 2 * p)
      · rw [if_pos w, if_pos (Or.inr w)]
        exact ⟨1, 1, by decide, by decide, rfl, rfl, Or.inl rfl, fun u => absurd u z⟩
      · rw [if_neg w, if_neg (fun u => u.elim z w)]
        exact ⟨0, 0, by decide, by decide, rfl, rfl, Or.inl rfl, fun u => absurd u z⟩
  have e2 : ∃ b b', b < 2 ∧ b' < 2 ∧ cb (nI (y % 36)) (A (46 + 2 * p + 1)) 2 = 2 * b ∧ dnb A p 1 y = 2 * b' ∧ (b = b' ∨ (A (46 + 2 * p + 1) = -1 ∧ b = 0 ∧ b' = 1)) ∧ (A (46 + 2 * p + 1) = -1 → b' = 1) := by
    unfold cb dnb
    rw [show ow 1 (y / 36) (y % 36) = y % 36 from rfl]
    by_cases z : A (46 + 2 * p + 1) = -1
    · rw [if_pos (Or.inl z), if_neg (fun u => n2 (u.trans z))]
      exact ⟨0, 1, by decide, by decide, rfl, rfl, Or.inr ⟨z, rfl, rfl⟩, fun _ => rfl⟩
    · by_cases w : nI (y % 36) = A (46 + 2 * p + 1)
      · rw [if_pos w, if_pos (Or.inr w)]
        exact ⟨1, 1, by decide, by decide, rfl, rfl, Or.inl rfl, fun u => absurd u z⟩
      · rw [if_neg w, if_neg (fun u => u.elim z w)]
        exact ⟨0, 0, by decide, by decide, rfl, rfl, Or.inl rfl, fun u => absurd u z⟩
  obtain ⟨a, a', a1, a2, a3, a4, a5, a6⟩ := e1
  obtain ⟨b, b', b1, b2, b3, b4, b5, b6⟩ := e2
  unfold dnI AB
  rw [a3, a4, b3, b4]
  refine ⟨?_, fun u => ?_, fun u => ?_⟩
  · have x1 : (d ||| a ||| 2 * b) = (d ||| a' ||| 2 * b) := by
      rcases a5 with z | ⟨z1, z2, z3⟩
      · rw [z]
      · rw [z2, z3]
        exact (or_4c d hd 0 (by decide) b b1).1 (h.1 z1)
    rw [x1]
    rcases b5 with z | ⟨z1, z2, z3⟩
    · rw [z]
    · rw [z2, z3]
      exact (or_4c d hd a' a2 0 (by decide)).2.1 (h.2 z1)
  · rw [(or_4c d hd a' a2 b' b2).2.2.1, if_pos (a6 u)]
  · rw [(or_4c d hd a' a2 b' b2).2.2.2.1, if_pos (b6 u)]
/-- the rows -/
def ER (g : G) (n sz : Nat) (nd pa la dp : Nat → Nat) : Prop := (∀ j, j < sz → gI g 23 j = nI (nd j) ∧ nd j < 4 * n ∧ gI g 26 (nd j) = nI (dp j) ∧ (0 < j → gI g 24 (nd j) = nI (nd (pa j)) ∧ gI g 25 (nd j) = nI (la j))) ∧ ∀ k, k < 1024 → (∀ j, j < sz → nd j ≠ k) → gI g 26 k = -1
def IE (A : Nat → Int32) (p : Nat) (g : G) (n : Nat) (q pg lg' dg : Nat → Nat) (sz i l : Nat) (nd pa la dp : Nat → Nat) : Prop := Sh g ∧ GRw g 2 n q pg lg' dg ∧ GNx (nxS A (fre A p) p (md A p)) g 2 n q n 0 ∧ BF (eE A p) (fun j => 4 * q (nd j / 4) + nd j % 4) pa la dp sz i l ∧ ER g n sz nd pa la dp ∧ gI g 22 4 = -1 ∧ ∀ j, j < sz → AB A p (nd j % 4)
variable {pg lg' dg nd : Nat → Nat}
theorem IE.inj {sz i l : Nat} (hB : BF (eE A p) (fun j => 4 * q (nd j / 4) + nd j % 4) pa la dp sz i l) {a b : Nat} (ha : a < sz) (hb : b < sz) (e : nd a = nd b) : a = b := hB.2.1 a b ha hb (by dsimp only; rw [e])
theorem IE.sz {sz i l : Nat} (hB : BF (eE A p) (fun j => 4 * q (nd j / 4) + nd j % 4) pa la dp sz i l) (hE : ER g n sz nd pa la dp) (hn : n ≤ 232) : sz ≤ 928 := Nat.le_trans (inj_le (f := nd) (fun i hi => (hE.1 i hi).2.1) (fun a b ha hb e => IE.inj hB ha hb e)) (by omega)
def Se : List Nat := [22, 23, 24, 25, 26]
theorem c_ee152 (hA : Dm A) (hq : ∀ i, i < n → stB A (fre A p) p (q i) = true) (hn : n ≤ 232) (hB0 : BF (nxS A (fre A p) p (md A p)) q pg lg' dg n n 0) {k110 : Nat → Nat → Int32 → Int32 → Int32 → Int32 → G → Option (Unit × G)} {i : Nat} : ∀ fu l g sz nd pa la dp, IE A p g n q pg lg' dg sz i l nd pa la dp → i < sz → nd i % 4 ≠ 3 → l ≤ 8 → 8 < fu + l → ∃ g' sz' nd' pa' la' dp', f_X2_explore_152 k110 fu 22 2 (A (46 + 2 * p)) (A (46 + 2 * p + 1)) (nI sz) (nI i) (nI (nd i)) (nI l) g = k110 22 2 (A (46 + 2 * p)) (A (46 + 2 * p + 1)) (nI sz') (nI (i + 1)) g' ∧ Fi Se g g' ∧ IE A p g' n q pg lg' dg sz' (i + 1) 0 nd' pa' la' dp' ∧ sz ≤ sz' ∧ ∀ j, j < sz → nd' j = nd j := by
  intro fu
  induction fu with
  | zero => intro l g sz nd pa la dp _ _ _ _ h; omega
  | succ fu ih =>
    intro l g sz nd pa la dp h hi h3 hl hf
    obtain ⟨hs, hG, hN, hB, hE, h4, hab⟩ := id h
    have s928 := IE.sz hB hE hn
    rw [f_X2_explore_152]
    rcases Nat.lt_or_ge l 8 with z | z
    · obtain ⟨r1, r2, r3, -⟩ := hE.1 i hi
      have ii : nd i / 4 < n := by omega
      rw [if_neg (lnge8 z), ldi4 (by omega), c_nextOf (Or.inl rfl) hs hB0 hG hN hn ii z, bd_eq]
      cases hx : nxI (nxS A (fre A p) p (md A p)) q n (nd i / 4) l with
      | none =>
        have e0 : (eE A p) (4 * q (nd i / 4) + nd i % 4) l = none := by
          refine eE_n ?_
          rw [show (4 * q (nd i / 4) + nd i % 4) / 4 = q (nd i / 4) by omega]
          cases hy : nxS A (fre A p) p (md A p) (q (nd i / 4)) l with
          | none => rfl
          | some y =>
            unfold nxI at hx
            rw [hy] at hx
            cases hx
        rw [show oI none = -1 from rfl, c_has1, bd_eq, ibF, f_X2_explore_299, lad1]
        exact ih (l + 1) g sz nd pa la dp ⟨hs, hG, hN, hB.non e0, hE, h4, hab⟩ hi h3 (by omega) (by omega)
      | some t =>
        obtain ⟨t1, t2⟩ := nxI_o hB0 ii z hx
        have qt := stB_lt hA (hq t t1)
        have d4 : nd i % 4 < 4 := by omega
        obtain ⟨c1, c2⟩ := dnC_I (A := A) (p := p) qt d4 (hab i hi)
        have dl := dnI_lt (A := A) (p := p) (y := q t) d4
        have e0 : (eE A p) (4 * q (nd i / 4) + nd i % 4) l = some (4 * q t + dnI A p (q t) (nd i % 4)) := by
          have := eE_s (A := A) (p := p) (k := 4 * q (nd i / 4) + nd i % 4) (l := l) (y := q t) (by rw [show (4 * q (nd i / 4) + nd i % 4) / 4 = q (nd i / 4) by omega]; exact t2)
          rw [show (4 * q (nd i / 4) + nd i % 4) % 4 = nd i % 4 by omega] at this
          exact this
        have cbl : ∀ (x y : Int32) (k : Nat), k < 4 → cb x y k < 4 := fun x y k hk => by
          unfold cb
          split <;> omega
        have q36 : q t / 36 < 36 := by omega
        -- what comes of it
        have c222 : ∀ b : Nat, b < 4 → ((nd i % 4 ||| cb (nI (q t / 36)) (A (46 + 2 * p)) 1) ||| b) = dnI A p (q t) (nd i % 4) → ∃ g' sz' nd' pa' la' dp', f_X2_explore_222 k110 (f_X2_explore_152 k110 fu) 22 2 (A (46 + 2 * p)) (A (46 + 2 * p + 1)) (nI sz) (nI i) (nI (nd i)) (nI l) (nI t) (nI b) (nI (nd i % 4) ||| nI (cb (nI (q t / 36)) (A (46 + 2 * p)) 1)) g = k110 22 2 (A (46 + 2 * p)) (A (46 + 2 * p + 1)) (nI sz') (nI (i + 1)) g' ∧ Fi Se g g' ∧ IE A p g' n q pg lg' dg sz' (i + 1) 0 nd' pa' la' dp' ∧ sz ≤ sz' ∧ ∀ j, j < sz → nd' j = nd j := fun b hb eb => by
          obtain ⟨o1, o2⟩ := or4 _ d4 _ (cbl (nI (q t / 36)) (A (46 + 2 * p)) 1 (by decide))
          obtain ⟨o3, o4⟩ := or4 _ o2 _ hb
          have to1 : t * 4 + dnI A p (q t) (nd i % 4) < 4 * n := by omega
          have Qe : ∀ j, j < sz → (4 * q (nd j / 4) + nd j % 4 = 4 * q t + dnI A p (q t) (nd i % 4) ↔ nd j = t * 4 + dnI A p (q t) (nd i % 4)) := fun j hj => by
            have nj := (hE.1 j hj).2.1
            constructor
            · intro u
              have v1 : q (nd j / 4) = q t := by omega
              have v2 := hB0.2.1 (nd j / 4) t (by omega) t1 v1
              omega
            · intro u
              rw [u, show (t * 4 + dnI A p (q t) (nd i % 4)) / 4 = t by omega, show (t * 4 + dnI A p (q t) (nd i % 4)) % 4 = dnI A p (q t) (nd i % 4) by omega]
          rw [f_X2_explore_222, o1, li, o3, eb, lmu4, nI_add, li, md22_3 hs, gk26 hs, sn26 hs, gdI_nI (by omega) (by decide), nI_clamp (by omega)]
          by_cases seen : ∃ j, j < sz ∧ nd j = t * 4 + dnI A p (q t) (nd i % 4)
          · obtain ⟨j, j1, j2⟩ := seen
            have dj := hB.dp_le j j1
            have v26 : gI g 26 (t * 4 + dnI A p (q t) (nd i % 4)) = nI (dp j) := by
              rw [← j2]
              exact (hE.1 j j1).2.2.1
            rw [v26, if_neg (nI_ne1 (by omega)), f_X2_explore_299, lad1]
            exact ih (l + 1) g sz nd pa la dp ⟨hs, hG, hN, hB.old j1 (by rw [e0]; exact congrArg some ((Qe j j1).mpr j2).symm), hE, h4, hab⟩ hi h3 (by omega) (by omega)
          · have no : ∀ j, j < sz → nd j ≠ t * 4 + dnI A p (q t) (nd i % 4) := fun j hj u => seen ⟨j, hj, u⟩
            have v26 := hE.2 (t * 4 + dnI A p (q t) (nd i % 4)) (by omega) no
            have di := hB.dp_le i hi
            obtain ⟨g5, hg5⟩ : ∃ g5, g5 = sI (sI (sI (sI g 26 (t * 4 + dnI A p (q t) (nd i % 4)) (nI (dp i + 1))) 24 (t * 4 + dnI A p (q t) (nd i % 4)) (nI (nd i))) 25 (t * 4 + dnI A p (q t) (nd i % 4)) (nI l)) 23 sz (nI (t * 4 + dnI A p (q t) (nd i % 4))) := ⟨_, rfl⟩
            have x5 : Fi Se g g5 := by
              rw [hg5]
              exact (((Fi.rf.si (by decide)).si (by decide)).si (by decide)).si (by decide)
            have x5' : Fi [23, 24, 25, 26] g g5 := by
              rw [hg5]
              exact (((Fi.rf.si (by decide)).si (by decide)).si (by decide)).si (by decide)
            have f23 : gI g5 23 = upd (gI g 23) sz (nI (t * 4 + dnI A p (q t) (nd i % 4))) := by rw [hg5, gI_sIs, gI_sIn (by decide), gI_sIn (by decide), gI_sIn (by decide)]
            have f24 : gI g5 24 = upd (gI g 24) (t * 4 + dnI A p (q t) (nd i % 4)) (nI (nd i)) := by rw [hg5, gI_sIn (by decide), gI_sIn (by decide), gI_sIs, gI_sIn (by decide)]
            have f25 : gI g5 25 = upd (gI g 25) (t * 4 + dnI A p (q t) (nd i % 4)) (nI l) := by rw [hg5, gI_sIn (by decide), gI_sIs, gI_sIn (by decide), gI_sIn (by decide)]
            have f26 : gI g5 26 = upd (gI g 26) (t * 4 + dnI A p (q t) (nd i % 4)) (nI (dp i + 1)) := by rw [hg5, gI_sIn (by decide), gI_sIn (by decide), gI_sIn (by decide), gI_sIs]
            have QQe : (fun j => 4 * q (ins nd sz (t * 4 + dnI A p (q t) (nd i % 4)) j / 4) + ins nd sz (t * 4 + dnI A p (q t) (nd i % 4)) j % 4) = ins (fun j => 4 * q (nd j / 4) + nd j % 4) sz (4 * q t + dnI A p (q t) (nd i % 4)) := by
              funext j
              by_cases e : j = sz
              · rw [e, ins_s, ins_s, show (t * 4 + dnI A p (q t) (nd i % 4)) / 4 = t by omega, show (t * 4 + dnI A p (q t) (nd i % 4)) % 4 = dnI A p (q t) (nd i % 4) by omega]
              · rw [ins_n e, ins_n e]
            have hI : IE A p g5 n q pg lg' dg (sz + 1) i (l + 1) (ins nd sz (t * 4 + dnI A p (q t) (nd i % 4))) (ins pa sz i) (ins la sz l) (ins dp sz (dp i + 1)) := by
              refine ⟨Sh.fi x5 hs, hG.fi x5 (fun k hk u => by simp only [Se, List.mem_cons, List.not_mem_nil, or_false] at u; omega), hN.fi x5 (fun k hk u => by simp only [Se, List.mem_cons, List.not_mem_nil, or_false] at u; omega), ?_, ⟨fun j hj => ?_, fun k k1 k2 => ?_⟩, by rw [x5'.I (by decide)]; exact h4, fun j hj => ?_⟩
              · rw [QQe]
                exact hB.new hi z e0 (fun j hj u => no j hj ((Qe j hj).mp u))
              · rw [f23, f24, f25, f26]
                by_cases e : j = sz
                · rw [e, ins_s, ins_s, ins_s, ins_s, pk_us, pk_us, pk_us, pk_us, ins_n (by omega)]
                  exact ⟨rfl, to1, rfl, fun _ => ⟨rfl, rfl⟩⟩
                · have nj := no j (by omega)
                  rw [ins_n e, ins_n e, ins_n e, ins_n e, pk_un e, pk_un nj, pk_un nj, pk_un nj]
                  obtain ⟨w1, w2, w3, w4⟩ := hE.1 j (by omega)
                  refine ⟨w1, w2, w3, fun u => ?_⟩
                  obtain ⟨b1, -⟩ := hB.2.2.2.1 j u (by omega)
                  rw [ins_n (by omega)]
                  exact w4 u
              · rw [f26]
                have ks := k2 sz (by omega)
                rw [ins_s] at ks
                rw [pk_un (fun u => ks u.symm)]
                refine hE.2 k k1 (fun j hj => ?_)
                have := k2 j (by omega)
                rw [ins_n (by omega)] at this
                exact this
              · by_cases e : j = sz
                · rw [e, ins_s, show (t * 4 + dnI A p (q t) (nd i % 4)) % 4 = dnI A p (q t) (nd i % 4) by omega]
                  exact c2
                · rw [ins_n e]
                  exact hab j (by omega)
            rw [v26, if_pos rfl, if_neg (lnge1024 (by omega)), gdI_nI (by omega) (by decide), nI_clamp (by omega), r3, lad1, lg, gR_sI, md22_1 hs, gdK_sI, gk24 hs, gN_sI, sn24 hs, gdI_nI (by omega) (by decide), lg, gR_sI, gR_sI, md22_2 hs, gdK_sI, gdK_sI, gk25 hs, gN_sI, gN_sI, sn25 hs, gdI_nI (by omega) (by decide), lg, gR_sI, gR_sI, gR_sI, md22_0 hs, gdK_sI, gdK_sI, gdK_sI, gk23 hs, gN_sI, gN_sI, gN_sI, sn23 hs, gdI_nI (by omega) (by decide), nI_clamp (by omega), lg, ← hg5, f_X2_explore_299, lad1, lad1]
            have ni : ins nd sz (t * 4 + dnI A p (q t) (nd i % 4)) i = nd i := ins_n (by omega)
            obtain ⟨g6, sz', nd', pa', la', dp', u1, u2, u3, u4, u5⟩ := ih (l + 1) g5 (sz + 1) _ _ _ _ hI (by omega) (by rw [ni]; exact h3) (by omega) (by omega)
            rw [ni] at u1
            exact ⟨g6, sz', nd', pa', la', dp', u1, x5.tr u2, u3, by omega, fun j hj => by rw [u5 j (by omega), ins_n (by omega)]⟩
        have c204 : ∀ a : Nat, a = cb (nI (q t / 36)) (A (46 + 2 * p)) 1 → ∃ g' sz' nd' pa' la' dp', f_X2_explore_204 k110 (f_X2_explore_152 k110 fu) 22 2 (A (46 + 2 * p)) (A (46 + 2 * p + 1)) (nI sz) (nI i) (nI (nd i)) (nI l) (nI t) (nI a) (nI (nd i % 4)) g = k110 22 2 (A (46 + 2 * p)) (A (46 + 2 * p + 1)) (nI sz') (nI (i + 1)) g' ∧ Fi Se g g' ∧ IE A p g' n q pg lg' dg sz' (i + 1) 0 nd' pa' la' dp' ∧ sz ≤ sz' ∧ ∀ j, j < sz → nd' j = nd j := fun a ha => by
          rw [f_X2_explore_204, show (1 : Int32) = nI 1 from rfl, c_cellOf (Or.inl rfl) hs hG hn t1 qt (by decide), bd_eq, show ow 1 (q t / 36) (q t % 36) = q t % 36 from rfl, ha]
          by_cases w : nI (q t % 36) = A (46 + 2 * p + 1)
          · rw [if_pos w]
            refine c222 2 (by decide) ?_
            rw [← c1]
            unfold cb
            rw [if_pos w]
          · rw [if_neg w]
            refine c222 0 (by decide) ?_
            rw [← c1]
            unfold cb
            rw [if_neg w]
        rw [show oI (some t) = nI t from rfl, c_has hG.1 (by omega) (by omega), bd_eq, decide_eq_true t1, ibT, show (0 : Int32) = nI 0 from rfl, c_cellOf (Or.inl rfl) hs hG hn t1 qt (by decide), bd_eq, show ow 0 (q t / 36) (q t % 36) = q t / 36 from rfl, lmo4]
        by_cases w : nI (q t / 36) = A (46 + 2 * p)
        · rw [if_pos w]
          exact c204 1 (by unfold cb; rw [if_pos w])
        · rw [if_neg w]
          exact c204 0 (by unfold cb; rw [if_neg w])
    · have e8 : l = 8 := by omega
      subst e8
      rw [if_pos (lle8 (by decide) (by decide)), lad1]
      exact ⟨g, sz, nd, pa, la, dp, rfl, Fi.rf, ⟨hs, hG, hN, hB.nxt, hE, h4, hab⟩, Nat.le_refl _, fun _ _ => rfl⟩
end ERC
