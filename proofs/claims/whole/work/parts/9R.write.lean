/-! WRITE answered alike. -/
section TRX
variable {X : Nat → Prop} {A : Nat → Int32} {g g' : G} {t ag : Nat}
def cutS (so : Int32) (v : Int64) : Int64 := if so = 0 then (((v.toInt32).toInt8.toInt32).toInt64) else (if so = (1 : Int32) then (((v.toInt32).toInt16.toInt32).toInt64) else (if so = (2 : Int32) then ((v.toInt32).toInt64) else v))
theorem c_cut (a : Nat) (v : Int64) : f_X10_cut a v g = some (cutS (gI g a 1) v, g) := by
  rw [f_X10_cut]
  unfold cutS
  split
  · rfl
  · split
    · rfl
    · split <;> rfl
theorem r_cut (so : Int32) (v : Int64) : f_X12_cut v so g = some (cutS so v, g) := by
  rw [f_X12_cut]
  unfold cutS
  split
  · rfl
  · split
    · rfl
    · split <;> rfl
theorem c_set (hs : Sh g) (ht : t < 4) {k : Nat} (hk : k < 40) (v : Int64) : f_X10_set (128 + 2 * t) (nI k) v g = some (cutS (gI g (128 + 2 * t) 1) v, sL g (129 + 2 * t) k (cutS (gI g (128 + 2 * t) 1) v)) := by
  have hs1 : Sh (sL g (129 + 2 * t) k (cutS (gI g (128 + 2 * t) 1) v)) := Sh.fi (S := [129 + 2 * t]) (Fi.rf.sl (List.mem_singleton.mpr rfl)) hs
  rw [f_X10_set, if_neg (nI_pos (by omega)), if_pos (show nI k < 40 from nI_lt (b := 40) hk (by decide)), tr_d2 hs ht, c_cut, bd_eq, tr_g2 hs ht, tr_n2 hs ht, gdI_nI hk (by decide), nI_clamp (by omega), lg, tr_d2 hs1 ht, tr_g2 hs1 ht, tr_n2 hs1 ht, gdI_nI hk (by decide), gL_sLs, pk_uLs]
theorem r_noTray (hs : Sh g) (ht : t < 4) : f_X12_noTray 136 (nI t) g = some (if gI g 152 t = -1 then -6 else 0, g) := by
  have hu : inR (nI t) 4 = true := by
    rw [inR_nI (by omega)]
    exact decide_eq_true ht
  rw [f_X12_noTray, r_wi3, hu, bd_eq, ibT, md136_33 hs, gk152 hs, sn152 hs, gdI_nI ht (by decide), nI_clamp (by omega)]
  split <;> rfl
theorem r_noTrayF {u : Int32} (hu : inR u 4 = false) : f_X12_noTray 136 u g = some (-2, g) := by
  rw [f_X12_noTray, r_wi3, hu, bd_eq, ibF]
theorem q_write (h : Inv X A ag g) (u i : Int32) (v : Int64) : CA ag g (f_X11_write 0 u i v g) (fun g => f_X12_write 136 u i v g) := by
  have hs := h.1.1.1
  have hs0 : ∀ g, Sh g → Sh (sI g 136 0 0) := fun g hs => Sh.fi (S := [136]) (Fi.rf.si (by decide)) hs
  cases hu : inR u 4 with
  | false => exact CA.no (v := -2) h (by rw [f_X11_write, c_isTray, hu, bd_eq, ibF]) (by
      show f_X12_write 136 u i v g = _
      rw [f_X12_write, lg, r_noTrayF hu, bd_eq, if_neg (by decide)]
      rfl)
  | true =>
    obtain ⟨t, ht, rfl⟩ := inR_true hu (by decide)
    obtain ⟨so, m, s1, s2, s3, s4, s5, s6, s7⟩ := h.2.1 t ht
    rcases s1 with e | ⟨s, e1, e2⟩
    · refine CA.no (v := -6) h ?_ ?_
      · rw [f_X11_write, c_isTray, hu, bd_eq, ibT, md0_16 hs, gk40 hs, sn40 hs, gdI_nI ht (by decide), nI_clamp (by omega), tr_dr hs ht, tr_gk hs ht, f_X10_isMissing, s3, if_pos e, bd_eq, ibT]
      · show f_X12_write 136 (nI t) i v g = _
        rw [f_X12_write, lg, r_noTray (hs0 g hs) ht, bd_eq, gI_sIn (by decide), s4, if_pos e, if_neg (by decide)]
        rfl
    · have ne : ¬ so = -1 := by
        rw [e2]
        exact nI_ne1 (by omega)
      have rw1 : ∀ g', Sh g' → gI g' 152 t = so → gI g' 153 t = nI m → f_X12_write 136 (nI t) i v g' = (if b2i (inR i m) = 0 then some (-7, sI g' 136 0 0) else (dr (gR (sI g' 136 0 0) 136 35) (fun b17 => dr (gR (sI g' 136 0 0) 136 33) (fun b19 => gdK (sI g' 136 0 0) b19 14 (gdI (nI t) (gN (sI g' 136 0 0) b19) (bd (f_X12_cut v (gI (sI g' 136 0 0) b19 (nI t).toNatClampNeg) (sI g' 136 0 0)) (fun v23 g24 => gdK g24 b17 15 (gdI (((40 : Int32) * nI t) + i) (gN g24 b17) (lg (sL g24 b17 (((40 : Int32) * nI t) + i).toNatClampNeg v23) (fun g29 => dr (gR g29 136 35) (fun b31 => gdK g29 b31 15 (gdI (((40 : Int32) * nI t) + i) (gN g29 b31) (some ((gL g29 b31 (((40 : Int32) * nI t) + i).toNatClampNeg), g29)))))))))))))) := fun g' hg q1 q2 => by
        have hz := hs0 g' hg
        rw [f_X12_write, lg, r_noTray hz ht, bd_eq, gI_sIn (by decide), q1, if_neg ne, if_pos rfl, md136_34 hz, gk153 hz, sn153 hz, gdI_nI ht (by decide), nI_clamp (show t < 2 ^ 31 by omega), gI_sIn (by decide), q2, show (1 : Int32) = nI 1 from rfl, r_in _ (n := m) (nI_m1_toInt (by omega)), bd_eq, inL_I]
      have cw : f_X11_write 0 (nI t) i v g = if i < 0 then some (-7, g) else if i < nI m then bd (f_X10_set (128 + 2 * t) i v g) (fun v30 g31 => some (v30, g31)) else some (-7, g) := by
        rw [f_X11_write, c_isTray, hu, bd_eq, ibT, md0_16 hs, gk40 hs, sn40 hs, gdI_nI ht (by decide), nI_clamp (by omega), tr_dr hs ht, tr_gk hs ht, f_X10_isMissing, s3, if_neg ne, bd_eq, ibF, f_X11_write_44, md0_16 hs, gk40 hs, sn40 hs, gdI_nI ht (by decide), tr_dr hs ht, tr_gk hs ht, s5, tr_dr hs ht, tr_gk hs ht]
      rcases inR_c i m with ⟨j, j1, j2, rfl, j4⟩ | ⟨j1, j2⟩ | ⟨j, j1, j2, rfl, j4⟩
      · have x1 : Fi TRL g (sL g (129 + 2 * t) j (cutS so v)) := Fi.rf.sl (tL2 ht)
        have hs1 := Sh.fi x1 hs
        have hs2 := hs0 _ hs1
        have x3 : Fi TRL g (sL (sI (sL g (129 + 2 * t) j (cutS so v)) 136 0 0) 154 (40 * t + j) (cutS so v)) := (x1.si (by decide)).sl (by decide)
        have hs3 := Sh.fi x3 hs
        refine ⟨cutS so v, sL g (129 + 2 * t) j (cutS so v), _, X, A, ag, ?_, ?_, h.tr x3 (fun k hk => ?_) (h.2.1.one ht (fun r r1 r2 => ⟨?_, ?_, ?_, ?_, fun k hk => ?_⟩) ⟨so, m, Or.inr ⟨s, e1, e2⟩, s2, ?_, ?_, ?_, ?_, fun k hk => ?_⟩), by omega, by rw [x3.1.1]; omega, by rw [x3.1.2.1]; omega⟩
        · rw [cw, if_neg (nI_pos j2), if_pos (nI_lt j1 (by omega)), c_set hs ht (by omega), s3, bd_eq]
        · show f_X12_write 136 (nI t) (nI j) v (sL g (129 + 2 * t) j (cutS so v)) = _
          rw [rw1 _ hs1 (by rw [gI_sL]; exact s4) (by rw [gI_sL]; exact s6), j4, ibT, md136_35 hs2, md136_33 hs2, gk152 hs2, sn152 hs2, gdI_nI ht (by decide), nI_clamp (show t < 2 ^ 31 by omega), gI_sIn (by decide), gI_sL, s4, r_cut, bd_eq, gk154 hs2, sn154 hs2, lum40, nI_add, gdI_nI (by omega) (by decide), nI_clamp (by omega), lg, md136_35 hs3, gk154 hs3, sn154 hs3, gdI_nI (by omega) (by decide), gL_sLs, pk_uLs]
        · rw [gI_sL, gI_sIs, pk_un hk, gI_sL]
        · rw [gI_sL, gI_sIn (by omega), gI_sL]
        · rw [gL_sLn (by omega), gL_sI, gL_sLn (by omega)]
        · rw [gI_sL, gI_sIn (by decide), gI_sL]
        · rw [gI_sL, gI_sIn (by decide), gI_sL]
        · rw [gL_sLs, pk_uLn (by omega), gL_sI, gL_sLn (by omega)]
        · rw [gI_sL, gI_sIn (by omega), gI_sL]
          exact s3
        · rw [gI_sL, gI_sIn (by decide), gI_sL]
          exact s4
        · rw [gI_sL, gI_sIn (by omega), gI_sL]
          exact s5
        · rw [gI_sL, gI_sIn (by decide), gI_sL]
          exact s6
        · rw [gL_sLn (by omega), gL_sI, gL_sLs, gL_sLs]
          by_cases w : k = j
          · rw [w, pk_uLs, pk_uLs]
          · rw [pk_uLn w, pk_uLn (by omega), gL_sI, gL_sLn (by omega)]
            exact s7 k hk
      · refine CA.no (v := -7) h ?_ ?_
        · rw [cw, if_pos j1]
        · show f_X12_write 136 (nI t) i v g = _
          rw [rw1 g hs s4 s6, j2, ibF]
      · refine CA.no (v := -7) h ?_ ?_
        · rw [cw, if_neg (nI_pos j2), if_neg (nI_nlt j1 (by omega))]
        · show f_X12_write 136 (nI t) (nI j) v g = _
          rw [rw1 g hs s4 s6, j4, ibF]
end TRX
