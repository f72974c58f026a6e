/-! THE START: the invariant holds of what the constructors make. -/
section STA
theorem pl29_f : ∀ fu a l (g g' : G), f_X12_plain_29 fu a l g = some ((), g') → Fi [a] g g' := by
  intro fu
  induction fu with
  | zero => intro a l g g' h; cases h
  | succ fu ih =>
    intro a l g g' h
    rw [f_X12_plain_29] at h
    split at h
    · cases h
      exact Fi.rf
    · obtain ⟨-, h⟩ := gdI_some h
      rw [lg] at h
      obtain ⟨-, h⟩ := gdI_some h
      rw [lg] at h
      exact ((Fi.rf.si (by simp)).si (by simp)).tr (ih _ _ _ _ h)
theorem pl2_f : ∀ fu a l (g g' : G), f_X12_plain_2 fu a l g = some ((), g') → Fi [a] g g' := by
  intro fu
  induction fu with
  | zero => intro a l g g' h; cases h
  | succ fu ih =>
    intro a l g g' h
    rw [f_X12_plain_2] at h
    split at h
    · obtain ⟨-, h⟩ := gdI_some h
      rw [lg] at h
      obtain ⟨-, h⟩ := gdI_some h
      rw [lg] at h
      exact ((Fi.rf.si (by simp)).si (by simp)).tr (pl29_f _ _ _ _ _ h)
    · obtain ⟨-, h⟩ := gdI_some h
      rw [lg] at h
      exact (Fi.rf.si (by simp)).tr (ih _ _ _ _ h)
theorem gI_A {a : Nat} (ha : a < 136) : gI gB a = gI gA a := by
  have e := gB_eq
  have n_g : gn gB1 = 137 := by
    show gn gA + 1 = 137
    rw [gA_n]
  have i_g : gI gB1 a = gI gA a := by
    have : gI gB1 = va_up (gI gA) (gn gA) (fun _ => 0) := rfl
    rw [this, va_up_ne _ _ (by rw [gA_n]; omega)]
  rw [f_X12_init] at e
  obtain ⟨g1, h_g1, e⟩ := lg_some e
  have n_g1 : gn g1 = 138 := by rw [h_g1, gn_nw, n_g]
  have i_g1 : gI g1 a = gI gA a := by rw [h_g1, gI_nw, va_up_ne _ _ (by rw [n_g]; omega), i_g]
  obtain ⟨a3, h_a3, e⟩ := ln_some e
  rw [n_g] at h_a3
  obtain ⟨g6, h_g6, e⟩ := lg_some e
  have n_g6 : gn g6 = 138 := by rw [h_g6, gn_sR, n_g1]
  have i_g6 : gI g6 a = gI gA a := by rw [h_g6, gI_sR, i_g1]
  have r_g6 : gR g6 136 1 = some 137 := by rw [h_g6, gR_sR, va_up_self, va_up_self, h_a3]
  obtain ⟨g8, h_g8, e⟩ := lg_some e
  have n_g8 : gn g8 = 139 := by rw [h_g8, gn_nw, n_g6]
  have i_g8 : gI g8 a = gI gA a := by rw [h_g8, gI_nw, va_up_ne _ _ (by rw [n_g6]; omega), i_g6]
  have r_g8 : gR g8 136 1 = some 137 := by rw [h_g8, gR_nw, va_up_ne _ _ (by rw [n_g6]; decide), r_g6]
  obtain ⟨a10, h_a10, e⟩ := ln_some e
  rw [n_g6] at h_a10
  obtain ⟨g13, h_g13, e⟩ := lg_some e
  have n_g13 : gn g13 = 139 := by rw [h_g13, gn_sR, n_g8]
  have i_g13 : gI g13 a = gI gA a := by rw [h_g13, gI_sR, i_g8]
  have r_g13 : gR g13 136 1 = some 137 := by rw [h_g13, gR_sR, va_up_self, va_up_ne _ _ (by decide), r_g8]
  obtain ⟨g15, h_g15, e⟩ := lg_some e
  have n_g15 : gn g15 = 140 := by rw [h_g15, gn_nw, n_g13]
  have i_g15 : gI g15 a = gI gA a := by rw [h_g15, gI_nw, va_up_ne _ _ (by rw [n_g13]; omega), i_g13]
  have r_g15 : gR g15 136 1 = some 137 := by rw [h_g15, gR_nw, va_up_ne _ _ (by rw [n_g13]; decide), r_g13]
  obtain ⟨a17, h_a17, e⟩ := ln_some e
  rw [n_g13] at h_a17
  obtain ⟨g20, h_g20, e⟩ := lg_some e
  have n_g20 : gn g20 = 140 := by rw [h_g20, gn_sR, n_g15]
  have i_g20 : gI g20 a = gI gA a := by rw [h_g20, gI_sR, i_g15]
  have r_g20 : gR g20 136 1 = some 137 := by rw [h_g20, gR_sR, va_up_self, va_up_ne _ _ (by decide), r_g15]
  obtain ⟨g22, h_g22, e⟩ := lg_some e
  have n_g22 : gn g22 = 141 := by rw [h_g22, gn_nw, n_g20]
  have i_g22 : gI g22 a = gI gA a := by rw [h_g22, gI_nw, va_up_ne _ _ (by rw [n_g20]; omega), i_g20]
  have r_g22 : gR g22 136 1 = some 137 := by rw [h_g22, gR_nw, va_up_ne _ _ (by rw [n_g20]; decide), r_g20]
  obtain ⟨a24, h_a24, e⟩ := ln_some e
  rw [n_g20] at h_a24
  obtain ⟨g27, h_g27, e⟩ := lg_some e
  have n_g27 : gn g27 = 141 := by rw [h_g27, gn_sR, n_g22]
  have i_g27 : gI g27 a = gI gA a := by rw [h_g27, gI_sR, i_g22]
  have r_g27 : gR g27 136 1 = some 137 := by rw [h_g27, gR_sR, va_up_self, va_up_ne _ _ (by decide), r_g22]
  obtain ⟨g29, h_g29, e⟩ := lg_some e
  have n_g29 : gn g29 = 141 := by rw [h_g29, gn_sI, n_g27]
  have i_g29 : gI g29 a = gI gA a := by rw [h_g29, gI_sIn (by omega), i_g27]
  have r_g29 : gR g29 136 1 = some 137 := by rw [h_g29, gR_sI, r_g27]
  obtain ⟨g31, h_g31, e⟩ := lg_some e
  have n_g31 : gn g31 = 142 := by rw [h_g31, gn_nw, n_g29]
  have i_g31 : gI g31 a = gI gA a := by rw [h_g31, gI_nw, va_up_ne _ _ (by rw [n_g29]; omega), i_g29]
  have r_g31 : gR g31 136 1 = some 137 := by rw [h_g31, gR_nw, va_up_ne _ _ (by rw [n_g29]; decide), r_g29]
  obtain ⟨a33, h_a33, e⟩ := ln_some e
  rw [n_g29] at h_a33
  obtain ⟨g36, h_g36, e⟩ := lg_some e
  have n_g36 : gn g36 = 142 := by rw [h_g36, gn_sR, n_g31]
  have i_g36 : gI g36 a = gI gA a := by rw [h_g36, gI_sR, i_g31]
  have r_g36 : gR g36 136 1 = some 137 := by rw [h_g36, gR_sR, va_up_self, va_up_ne _ _ (by decide), r_g31]
  obtain ⟨g38, h_g38, e⟩ := lg_some e
  have n_g38 : gn g38 = 143 := by rw [h_g38, gn_nw, n_g36]
  have i_g38 : gI g38 a = gI gA a := by rw [h_g38, gI_nw, va_up_ne _ _ (by rw [n_g36]; omega), i_g36]
  have r_g38 : gR g38 136 1 = some 137 := by rw [h_g38, gR_nw, va_up_ne _ _ (by rw [n_g36]; decide), r_g36]
  obtain ⟨a40, h_a40, e⟩ := ln_some e
  rw [n_g36] at h_a40
  obtain ⟨g43, h_g43, e⟩ := lg_some e
  have n_g43 : gn g43 = 143 := by rw [h_g43, gn_sR, n_g38]
  have i_g43 : gI g43 a = gI gA a := by rw [h_g43, gI_sR, i_g38]
  have r_g43 : gR g43 136 1 = some 137 := by rw [h_g43, gR_sR, va_up_self, va_up_ne _ _ (by decide), r_g38]
  obtain ⟨g45, h_g45, e⟩ := lg_some e
  have n_g45 : gn g45 = 144 := by rw [h_g45, gn_nw, n_g43]
  have i_g45 : gI g45 a = gI gA a := by rw [h_g45, gI_nw, va_up_ne _ _ (by rw [n_g43]; omega), i_g43]
  have r_g45 : gR g45 136 1 = some 137 := by rw [h_g45, gR_nw, va_up_ne _ _ (by rw [n_g43]; decide), r_g43]
  obtain ⟨a47, h_a47, e⟩ := ln_some e
  rw [n_g43] at h_a47
  obtain ⟨g50, h_g50, e⟩ := lg_some e
  have n_g50 : gn g50 = 144 := by rw [h_g50, gn_sR, n_g45]
  have i_g50 : gI g50 a = gI gA a := by rw [h_g50, gI_sR, i_g45]
  have r_g50 : gR g50 136 1 = some 137 := by rw [h_g50, gR_sR, va_up_self, va_up_ne _ _ (by decide), r_g45]
  obtain ⟨g52, h_g52, e⟩ := lg_some e
  have n_g52 : gn g52 = 145 := by rw [h_g52, gn_nw, n_g50]
  have i_g52 : gI g52 a = gI gA a := by rw [h_g52, gI_nw, va_up_ne _ _ (by rw [n_g50]; omega), i_g50]
  have r_g52 : gR g52 136 1 = some 137 := by rw [h_g52, gR_nw, va_up_ne _ _ (by rw [n_g50]; decide), r_g50]
  obtain ⟨a54, h_a54, e⟩ := ln_some e
  rw [n_g50] at h_a54
  obtain ⟨g57, h_g57, e⟩ := lg_some e
  have n_g57 : gn g57 = 145 := by rw [h_g57, gn_sR, n_g52]
  have i_g57 : gI g57 a = gI gA a := by rw [h_g57, gI_sR, i_g52]
  have r_g57 : gR g57 136 1 = some 137 := by rw [h_g57, gR_sR, va_up_self, va_up_ne _ _ (by decide), r_g52]
  obtain ⟨g59, h_g59, e⟩ := lg_some e
  have n_g59 : gn g59 = 146 := by rw [h_g59, gn_nw, n_g57]
  have i_g59 : gI g59 a = gI gA a := by rw [h_g59, gI_nw, va_up_ne _ _ (by rw [n_g57]; omega), i_g57]
  have r_g59 : gR g59 136 1 = some 137 := by rw [h_g59, gR_nw, va_up_ne _ _ (by rw [n_g57]; decide), r_g57]
  obtain ⟨a61, h_a61, e⟩ := ln_some e
  rw [n_g57] at h_a61
  obtain ⟨g64, h_g64, e⟩ := lg_some e
  have n_g64 : gn g64 = 146 := by rw [h_g64, gn_sR, n_g59]
  have i_g64 : gI g64 a = gI gA a := by rw [h_g64, gI_sR, i_g59]
  have r_g64 : gR g64 136 1 = some 137 := by rw [h_g64, gR_sR, va_up_self, va_up_ne _ _ (by decide), r_g59]
  obtain ⟨g66, h_g66, e⟩ := lg_some e
  have n_g66 : gn g66 = 147 := by rw [h_g66, gn_nw, n_g64]
  have i_g66 : gI g66 a = gI gA a := by rw [h_g66, gI_nw, va_up_ne _ _ (by rw [n_g64]; omega), i_g64]
  have r_g66 : gR g66 136 1 = some 137 := by rw [h_g66, gR_nw, va_up_ne _ _ (by rw [n_g64]; decide), r_g64]
  obtain ⟨a68, h_a68, e⟩ := ln_some e
  rw [n_g64] at h_a68
  obtain ⟨g71, h_g71, e⟩ := lg_some e
  have n_g71 : gn g71 = 147 := by rw [h_g71, gn_sR, n_g66]
  have i_g71 : gI g71 a = gI gA a := by rw [h_g71, gI_sR, i_g66]
  have r_g71 : gR g71 136 1 = some 137 := by rw [h_g71, gR_sR, va_up_self, va_up_ne _ _ (by decide), r_g66]
  obtain ⟨g73, h_g73, e⟩ := lg_some e
  have n_g73 : gn g73 = 148 := by rw [h_g73, gn_nw, n_g71]
  have i_g73 : gI g73 a = gI gA a := by rw [h_g73, gI_nw, va_up_ne _ _ (by rw [n_g71]; omega), i_g71]
  have r_g73 : gR g73 136 1 = some 137 := by rw [h_g73, gR_nw, va_up_ne _ _ (by rw [n_g71]; decide), r_g71]
  obtain ⟨a75, h_a75, e⟩ := ln_some e
  rw [n_g71] at h_a75
  obtain ⟨g78, h_g78, e⟩ := lg_some e
  have n_g78 : gn g78 = 148 := by rw [h_g78, gn_sR, n_g73]
  have i_g78 : gI g78 a = gI gA a := by rw [h_g78, gI_sR, i_g73]
  have r_g78 : gR g78 136 1 = some 137 := by rw [h_g78, gR_sR, va_up_self, va_up_ne _ _ (by decide), r_g73]
  obtain ⟨g80, h_g80, e⟩ := lg_some e
  have n_g80 : gn g80 = 149 := by rw [h_g80, gn_nw, n_g78]
  have i_g80 : gI g80 a = gI gA a := by rw [h_g80, gI_nw, va_up_ne _ _ (by rw [n_g78]; omega), i_g78]
  have r_g80 : gR g80 136 1 = some 137 := by rw [h_g80, gR_nw, va_up_ne _ _ (by rw [n_g78]; decide), r_g78]
  obtain ⟨a82, h_a82, e⟩ := ln_some e
  rw [n_g78] at h_a82
  obtain ⟨g85, h_g85, e⟩ := lg_some e
  have n_g85 : gn g85 = 149 := by rw [h_g85, gn_sR, n_g80]
  have i_g85 : gI g85 a = gI gA a := by rw [h_g85, gI_sR, i_g80]
  have r_g85 : gR g85 136 1 = some 137 := by rw [h_g85, gR_sR, va_up_self, va_up_ne _ _ (by decide), r_g80]
  obtain ⟨g87, h_g87, e⟩ := lg_some e
  have n_g87 : gn g87 = 150 := by rw [h_g87, gn_nw, n_g85]
  have i_g87 : gI g87 a = gI gA a := by rw [h_g87, gI_nw, va_up_ne _ _ (by rw [n_g85]; omega), i_g85]
  have r_g87 : gR g87 136 1 = some 137 := by rw [h_g87, gR_nw, va_up_ne _ _ (by rw [n_g85]; decide), r_g85]
  obtain ⟨a89, h_a89, e⟩ := ln_some e
  rw [n_g85] at h_a89
  obtain ⟨g92, h_g92, e⟩ := lg_some e
  have n_g92 : gn g92 = 150 := by rw [h_g92, gn_sR, n_g87]
  have i_g92 : gI g92 a = gI gA a := by rw [h_g92, gI_sR, i_g87]
  have r_g92 : gR g92 136 1 = some 137 := by rw [h_g92, gR_sR, va_up_self, va_up_ne _ _ (by decide), r_g87]
  obtain ⟨g94, h_g94, e⟩ := lg_some e
  have n_g94 : gn g94 = 151 := by rw [h_g94, gn_nw, n_g92]
  have i_g94 : gI g94 a = gI gA a := by rw [h_g94, gI_nw, va_up_ne _ _ (by rw [n_g92]; omega), i_g92]
  have r_g94 : gR g94 136 1 = some 137 := by rw [h_g94, gR_nw, va_up_ne _ _ (by rw [n_g92]; decide), r_g92]
  obtain ⟨a96, h_a96, e⟩ := ln_some e
  rw [n_g92] at h_a96
  obtain ⟨g99, h_g99, e⟩ := lg_some e
  have n_g99 : gn g99 = 151 := by rw [h_g99, gn_sR, n_g94]
  have i_g99 : gI g99 a = gI gA a := by rw [h_g99, gI_sR, i_g94]
  have r_g99 : gR g99 136 1 = some 137 := by rw [h_g99, gR_sR, va_up_self, va_up_ne _ _ (by decide), r_g94]
  obtain ⟨g101, h_g101, e⟩ := lg_some e
  have n_g101 : gn g101 = 152 := by rw [h_g101, gn_nw, n_g99]
  have i_g101 : gI g101 a = gI gA a := by rw [h_g101, gI_nw, va_up_ne _ _ (by rw [n_g99]; omega), i_g99]
  have r_g101 : gR g101 136 1 = some 137 := by rw [h_g101, gR_nw, va_up_ne _ _ (by rw [n_g99]; decide), r_g99]
  obtain ⟨a103, h_a103, e⟩ := ln_some e
  rw [n_g99] at h_a103
  obtain ⟨g106, h_g106, e⟩ := lg_some e
  have n_g106 : gn g106 = 152 := by rw [h_g106, gn_sR, n_g101]
  have i_g106 : gI g106 a = gI gA a := by rw [h_g106, gI_sR, i_g101]
  have r_g106 : gR g106 136 1 = some 137 := by rw [h_g106, gR_sR, va_up_self, va_up_ne _ _ (by decide), r_g101]
  obtain ⟨g108, h_g108, e⟩ := lg_some e
  have n_g108 : gn g108 = 153 := by rw [h_g108, gn_nw, n_g106]
  have i_g108 : gI g108 a = gI gA a := by rw [h_g108, gI_nw, va_up_ne _ _ (by rw [n_g106]; omega), i_g106]
  have r_g108 : gR g108 136 1 = some 137 := by rw [h_g108, gR_nw, va_up_ne _ _ (by rw [n_g106]; decide), r_g106]
  obtain ⟨a110, h_a110, e⟩ := ln_some e
  rw [n_g106] at h_a110
  obtain ⟨-, e⟩ := gdI_some e
  obtain ⟨g114, h_g114, e⟩ := lg_some e
  have n_g114 : gn g114 = 153 := by rw [h_g114, gn_sI, n_g108]
  have i_g114 : gI g114 a = gI gA a := by rw [h_g114, gI_sIn (by rw [h_a110]; omega), i_g108]
  have r_g114 : gR g114 136 1 = some 137 := by rw [h_g114, gR_sI, r_g108]
  obtain ⟨-, e⟩ := gdI_some e
  obtain ⟨g117, h_g117, e⟩ := lg_some e
  have n_g117 : gn g117 = 153 := by rw [h_g117, gn_sI, n_g114]
  have i_g117 : gI g117 a = gI gA a := by rw [h_g117, gI_sIn (by rw [h_a110]; omega), i_g114]
  have r_g117 : gR g117 136 1 = some 137 := by rw [h_g117, gR_sI, r_g114]
  obtain ⟨-, e⟩ := gdI_some e
  obtain ⟨g120, h_g120, e⟩ := lg_some e
  have n_g120 : gn g120 = 153 := by rw [h_g120, gn_sI, n_g117]
  have i_g120 : gI g120 a = gI gA a := by rw [h_g120, gI_sIn (by rw [h_a110]; omega), i_g117]
  have r_g120 : gR g120 136 1 = some 137 := by rw [h_g120, gR_sI, r_g117]
  obtain ⟨-, e⟩ := gdI_some e
  obtain ⟨g123, h_g123, e⟩ := lg_some e
  have n_g123 : gn g123 = 153 := by rw [h_g123, gn_sI, n_g120]
  have i_g123 : gI g123 a = gI gA a := by rw [h_g123, gI_sIn (by rw [h_a110]; omega), i_g120]
  have r_g123 : gR g123 136 1 = some 137 := by rw [h_g123, gR_sI, r_g120]
  obtain ⟨g125, h_g125, e⟩ := lg_some e
  have n_g125 : gn g125 = 153 := by rw [h_g125, gn_sR, n_g123]
  have i_g125 : gI g125 a = gI gA a := by rw [h_g125, gI_sR, i_g123]
  have r_g125 : gR g125 136 1 = some 137 := by rw [h_g125, gR_sR, va_up_self, va_up_ne _ _ (by decide), r_g123]
  obtain ⟨g127, h_g127, e⟩ := lg_some e
  have n_g127 : gn g127 = 154 := by rw [h_g127, gn_nw, n_g125]
  have i_g127 : gI g127 a = gI gA a := by rw [h_g127, gI_nw, va_up_ne _ _ (by rw [n_g125]; omega), i_g125]
  have r_g127 : gR g127 136 1 = some 137 := by rw [h_g127, gR_nw, va_up_ne _ _ (by rw [n_g125]; decide), r_g125]
  obtain ⟨a129, h_a129, e⟩ := ln_some e
  rw [n_g125] at h_a129
  obtain ⟨g132, h_g132, e⟩ := lg_some e
  have n_g132 : gn g132 = 154 := by rw [h_g132, gn_sR, n_g127]
  have i_g132 : gI g132 a = gI gA a := by rw [h_g132, gI_sR, i_g127]
  have r_g132 : gR g132 136 1 = some 137 := by rw [h_g132, gR_sR, va_up_self, va_up_ne _ _ (by decide), r_g127]
  obtain ⟨g134, h_g134, e⟩ := lg_some e
  have n_g134 : gn g134 = 155 := by rw [h_g134, gn_nw, n_g132]
  have i_g134 : gI g134 a = gI gA a := by rw [h_g134, gI_nw, va_up_ne _ _ (by rw [n_g132]; omega), i_g132]
  have r_g134 : gR g134 136 1 = some 137 := by rw [h_g134, gR_nw, va_up_ne _ _ (by rw [n_g132]; decide), r_g132]
  obtain ⟨a136, h_a136, e⟩ := ln_some e
  rw [n_g132] at h_a136
  obtain ⟨g139, h_g139, e⟩ := lg_some e
  have n_g139 : gn g139 = 155 := by rw [h_g139, gn_sR, n_g134]
  have i_g139 : gI g139 a = gI gA a := by rw [h_g139, gI_sR, i_g134]
  have r_g139 : gR g139 136 1 = some 137 := by rw [h_g139, gR_sR, va_up_self, va_up_ne _ _ (by decide), r_g134]
  obtain ⟨b, hb, e⟩ := dr_some e
  rw [r_g139] at hb
  obtain ⟨-, e⟩ := gdK_some e
  obtain ⟨v, gz, e1, e2⟩ := bd_some e
  rw [f_X12_plain] at e1
  have x := pl2_f _ _ _ _ _ e1
  have eg : gz = gB := (Prod.mk.inj (Option.some.inj e2)).2
  have hb' : b = 137 := (Option.some.inj hb).symm
  have f := x.I (a := a) (by rw [hb']; simp; omega)
  rw [eg] at f
  rw [f, i_g139]
end STA
