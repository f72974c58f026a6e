/-! FEED answered alike. -/
section FED
variable {X : Nat → Prop} {A : Nat → Int32} {g g' g1 : G} {ag n : Nat}
theorem by_a (y : Int32) : ∃ v, v < 256 ∧ y &&& (255 : Int32) = nI v ∧ y.toInt8.toInt32 = byI v := by
  refine ⟨y.toBitVec.toNat % 256, Nat.mod_lt _ (by decide), ?_, ?_⟩
  · apply Int32.toBitVec_inj.mp
    apply BitVec.eq_of_toNat_eq
    show (y.toBitVec &&& 255#32).toNat = (BitVec.ofNat 32 (y.toBitVec.toNat % 256)).toNat
    rw [BitVec.toNat_and, BitVec.toNat_ofNat, BitVec.toNat_ofNat]
    have e : (255 % 2 ^ 32 : Nat) = 2 ^ 8 - 1 := by decide
    rw [e, Nat.and_two_pow_sub_one_eq_mod]
    have : y.toBitVec.toNat % 2 ^ 8 < 256 := Nat.mod_lt _ (by decide)
    omega
  · unfold byI
    congr 1
    apply Int8.toBitVec_inj.mp
    apply BitVec.eq_of_toNat_eq
    show (y.toBitVec.signExtend 8).toNat = ((BitVec.ofNat 32 (y.toBitVec.toNat % 256)).signExtend 8).toNat
    rw [BitVec.signExtend_eq_setWidth_of_le _ (by decide), BitVec.signExtend_eq_setWidth_of_le _ (by decide), BitVec.toNat_setWidth, BitVec.toNat_setWidth, BitVec.toNat_ofNat]
    omega
theorem c_fs (hs : Sh g) (hn : n < 900) (h : gI g 0 1 = nI n) (w : Int32) {l2 : Int32} (hl : ¬ l2 < 0) (m : Nat) : f_X11_feedWord_3 (m + 1) 0 w l2 g = f_X11_feedWord_3 m 0 w (l2 + (-8)) (sI (sI g 1 n ((w >>> (l2 &&& 31)).toInt8.toInt32)) 0 1 (nI (n + 1))) := by
  rw [f_X11_feedWord_3, if_neg hl, h, if_neg (show ¬ (900 : Int32) ≤ nI n from nI_ge (a := n) (b := 900) hn (by decide)), md0_0 hs, gk1 hs, sn1 hs, gdI_nI hn (by decide), nI_clamp (by omega), pk_vb, lg, gI_sIn (by decide), h, lad1, lg]
/-- bytes are told behind n: all else stands -/
def FW (g g' : G) (n k : Nat) (y : Nat → Int32) : Prop := Fi [0, 1] g g' ∧ gI g' 0 1 = nI (n + k) ∧ (∀ j, j ≠ 1 → gI g' 0 j = gI g 0 j) ∧ (∀ j, j < n → gI g' 1 j = gI g 1 j) ∧ ∀ i, i < k → gI g' 1 (n + i) = (y i).toInt8.toInt32
theorem FW.one (h : gI g 0 1 = nI n) (y : Nat → Int32) : FW g (sI (sI g 1 n (y 0).toInt8.toInt32) 0 1 (nI (n + 1))) n 1 y := by
  refine ⟨(Fi.rf.si (by decide)).si (by decide), by rw [gI_sIs, pk_us], fun j hj => ?_, fun j hj => ?_, fun i hi => ?_⟩
  · rw [gI_sIs, pk_un hj, gI_sIn (by decide)]
  · rw [gI_sIn (by decide), gI_sIs, pk_un (by omega)]
  · rw [gI_sIn (by decide), gI_sIs, show i = 0 by omega, Nat.add_zero, pk_us]
theorem FW.tr {k m : Nat} {y : Nat → Int32} (a : FW g g1 n k y) (b : FW g1 g' (n + k) m (fun i => y (k + i))) : FW g g' n (k + m) y := by
  obtain ⟨a1, a2, a3, a4, a5⟩ := a
  obtain ⟨b1, b2, b3, b4, b5⟩ := b
  refine ⟨a1.tr b1, by rw [b2, Nat.add_assoc], fun j hj => (b3 j hj).trans (a3 j hj), fun j hj => (b4 j (by omega)).trans (a4 j hj), fun i hi => ?_⟩
  rcases Nat.lt_or_ge i k with z | z
  · rw [b4 _ (by omega), a5 i z]
  · have := b5 (i - k) (by omega)
    dsimp only at this
    rw [show n + k + (i - k) = n + i by omega, show k + (i - k) = i by omega] at this
    exact this
/-- the byte that is the i-th of words -/
def yW (f : Nat → Int32) (i : Nat) : Int32 := f (i / 4) >>> (nI (24 - 8 * (i % 4)) &&& 31)
theorem c_feedWord (hs : Sh g) (hn : n + 4 ≤ 900) (h : gI g 0 1 = nI n) (w : Int32) : ∃ g', f_X11_feedWord 0 w g = some ((), g') ∧ FW g g' n 4 (fun i => w >>> (nI (24 - 8 * (i % 4)) &&& 31)) := by
  obtain ⟨m, hm⟩ : ∃ m, FU = m + 1 + 1 + 1 + 1 + 1 := ⟨FU - 5, rfl⟩
  have a1 := FW.one (g := g) h (fun i => w >>> (nI (24 - 8 * (i % 4)) &&& 31))
  obtain ⟨g1, hg1⟩ : ∃ g1, g1 = sI (sI g 1 n ((w >>> ((24 : Int32) &&& 31)).toInt8.toInt32)) 0 1 (nI (n + 1)) := ⟨_, rfl⟩
  have a1' : FW g g1 n 1 (fun i => w >>> (nI (24 - 8 * (i % 4)) &&& 31)) := by
    rw [hg1]
    exact a1
  have s1 := Sh.fi a1'.1 hs
  have b1 := FW.one (g := g1) a1'.2.1 (fun i => w >>> (nI (24 - 8 * ((1 + i) % 4)) &&& 31))
  obtain ⟨g2, hg2⟩ : ∃ g2, g2 = sI (sI g1 1 (n + 1) ((w >>> ((16 : Int32) &&& 31)).toInt8.toInt32)) 0 1 (nI (n + 1 + 1)) := ⟨_, rfl⟩
  have a2' : FW g g2 n 2 (fun i => w >>> (nI (24 - 8 * (i % 4)) &&& 31)) := by
    rw [hg2]
    exact a1'.tr b1
  have s2 := Sh.fi a2'.1 hs
  have b2 := FW.one (g := g2) a2'.2.1 (fun i => w >>> (nI (24 - 8 * ((2 + i) % 4)) &&& 31))
  obtain ⟨g3, hg3⟩ : ∃ g3, g3 = sI (sI g2 1 (n + 2) ((w >>> ((8 : Int32) &&& 31)).toInt8.toInt32)) 0 1 (nI (n + 2 + 1)) := ⟨_, rfl⟩
  have a3' : FW g g3 n 3 (fun i => w >>> (nI (24 - 8 * (i % 4)) &&& 31)) := by
    rw [hg3]
    exact a2'.tr b2
  have s3 := Sh.fi a3'.1 hs
  have b3 := FW.one (g := g3) a3'.2.1 (fun i => w >>> (nI (24 - 8 * ((3 + i) % 4)) &&& 31))
  obtain ⟨g4, hg4⟩ : ∃ g4, g4 = sI (sI g3 1 (n + 3) ((w >>> ((0 : Int32) &&& 31)).toInt8.toInt32)) 0 1 (nI (n + 3 + 1)) := ⟨_, rfl⟩
  have a4' : FW g g4 n 4 (fun i => w >>> (nI (24 - 8 * (i % 4)) &&& 31)) := by
    rw [hg4]
    exact a3'.tr b3
  refine ⟨g4, ?_, a4'⟩
  rw [f_X11_feedWord, hm, c_fs hs (by omega) h w (by decide), ← hg1, show (24 : Int32) + (-8) = 16 from rfl, c_fs s1 (by omega) a1'.2.1 w (by decide), ← hg2, show (16 : Int32) + (-8) = 8 from rfl, c_fs s2 (by omega) a2'.2.1 w (by decide), ← hg3, show (8 : Int32) + (-8) = 0 from rfl, c_fs s3 (by omega) a3'.2.1 w (by decide), ← hg4, f_X11_feedWord_3, if_pos (by decide)]
theorem r_fd24 (a b c d e : Int32) {f : Nat → Int32} (hf : f = fun i => if i = 0 then a else if i = 1 then b else if i = 2 then c else if i = 3 then d else e) (hn : n + 20 ≤ 900) : ∀ fu k g, Sh g → gI g 136 5 = nI (n + k) → (∀ i, i < k → gI g 139 (n + i) = yW f i &&& 255) → k ≤ 20 → 20 < fu + k → ∃ g', f_X12_feed_24 fu 136 a b c d e (nI k) g = some (nI (n + 20), g') ∧ Fm [5] [139] g g' ∧ gI g' 136 5 = nI (n + 20) ∧ (∀ j, j < n → gI g' 139 j = gI g 139 j) ∧ ∀ i, i < 20 → gI g' 139 (n + i) = yW f i &&& 255 := by
  intro fu
  induction fu with
  | zero => intro k g _ _ _ _ h; omega
  | succ fu ih =>
    intro k g hs h5 h0 hk hfu
    rw [f_X12_feed_24]
    rcases Nat.lt_or_ge k 20 with z | z
    · have x1 : Fm [5] [139] g (sI (sI g 139 (n + k) (yW f k &&& 255)) 136 5 (nI (n + k + 1))) := (Fm.of (K := [5]) (Fi.rf.si (S := [139]) (by decide)) (by decide)).sf (by decide)
      obtain ⟨g2, d1, d2, d3, d4, d5⟩ := ih (k + 1) _ (hs.fm x1) (by rw [gI_sIs, pk_us, Nat.add_assoc]) (fun i hi => by
        rw [gI_sIn (by decide), gI_sIs]
        by_cases u : i = k
        · rw [u, pk_us]
        · rw [pk_un (by omega)]
          exact h0 i (by omega)) z (by omega)
      have st : ∀ s0, s0 = f (k / 4) → f_X12_feed_77 (f_X12_feed_24 fu) 136 a b c d e (nI k) s0 g = some (nI (n + 20), g2) := fun s0 e0 => by
        have ei : (24 : Int32) - (8 : Int32) * nI (k % 4) = nI (24 - 8 * (k % 4)) := by
          rw [show (8 : Int32) = nI 8 from rfl, pk_mul, show (24 : Int32) = nI 24 from rfl, pk_sub (by omega)]
        rw [f_X12_feed_77, md136_3 hs, gk139 hs, sn139 hs, h5, gdI_nI (by omega) (by decide), nI_clamp (show n + k < 2 ^ 31 by omega), show (4 : Int32) = nI 4 from rfl, remI (by omega) (by decide) (by decide), ei, e0, show (f (k / 4) >>> (nI (24 - 8 * (k % 4)) &&& 31)) = yW f k from rfl, lg, gI_sIn (by decide), h5, lad1, lg, lad1, d1]
      have lt : ∀ m : Nat, m < 2 ^ 31 → ((nI m ≤ nI k) ↔ m ≤ k) := fun m hm => by rw [nI_leI hm (by omega)]
      have l20 : ¬ (20 : Int32) ≤ nI k := fun u => by have := (lt 20 (by decide)).mp u; omega
      refine ⟨g2, ?_, x1.tr d2, d3, fun j hj => ?_, d5⟩
      · rw [if_neg l20]
        by_cases q1 : 4 ≤ k
        · rw [if_pos (show (4 : Int32) ≤ nI k from (lt 4 (by decide)).mpr q1)]
          by_cases q2 : 8 ≤ k
          · rw [if_pos (show (8 : Int32) ≤ nI k from (lt 8 (by decide)).mpr q2)]
            by_cases q3 : 12 ≤ k
            · rw [if_pos (show (12 : Int32) ≤ nI k from (lt 12 (by decide)).mpr q3)]
              by_cases q4 : 16 ≤ k
              · rw [if_pos (show (16 : Int32) ≤ nI k from (lt 16 (by decide)).mpr q4)]
                exact st e (by rw [hf]; dsimp only; rw [if_neg (by omega), if_neg (by omega), if_neg (by omega), if_neg (by omega)])
              · rw [if_neg (show ¬ (16 : Int32) ≤ nI k from fun u => q4 ((lt 16 (by decide)).mp u))]
                exact st d (by rw [hf]; dsimp only; rw [if_neg (by omega), if_neg (by omega), if_neg (by omega), if_pos (by omega)])
            · rw [if_neg (show ¬ (12 : Int32) ≤ nI k from fun u => q3 ((lt 12 (by decide)).mp u))]
              exact st c (by rw [hf]; dsimp only; rw [if_neg (by omega), if_neg (by omega), if_pos (by omega)])
          · rw [if_neg (show ¬ (8 : Int32) ≤ nI k from fun u => q2 ((lt 8 (by decide)).mp u))]
            exact st b (by rw [hf]; dsimp only; rw [if_neg (by omega), if_pos (by omega)])
        · rw [if_neg (show ¬ (4 : Int32) ≤ nI k from fun u => q1 ((lt 4 (by decide)).mp u))]
          exact st a (by rw [hf]; dsimp only; rw [if_pos (by omega)])
      · rw [d4 j hj, gI_sIn (by decide), gI_sIs, pk_un (by omega)]
    · have e1 : k = 20 := by omega
      subst e1
      rw [if_pos (by decide), h5]
      exact ⟨g, rfl, Fm.rf, h5, fun _ _ => rfl, h0⟩
end FED
