theorem dX4_build_0 : decode cX4_build 0 = .ok (.aload_n 0, 1) := by decide +kernel
theorem dX4_build_1 : decode cX4_build 1 = .ok (.getfield 27, 3) := by decide +kernel
theorem dX4_build_4 : decode cX4_build 4 = .ok (.iconst (-1), 1) := by decide +kernel
theorem dX4_build_5 : decode cX4_build 5 = .ok (.invokestatic 30, 3) := by decide +kernel
theorem dX4_build_8 : decode cX4_build 8 = .ok (.aload_n 0, 1) := by decide +kernel
theorem dX4_build_9 : decode cX4_build 9 = .ok (.iconst 0, 1) := by decide +kernel
theorem dX4_build_10 : decode cX4_build 10 = .ok (.putfield 36, 3) := by decide +kernel
theorem dX4_build_13 : decode cX4_build 13 = .ok (.aload_n 0, 1) := by decide +kernel
theorem dX4_build_14 : decode cX4_build 14 = .ok (.iload_n 2, 1) := by decide +kernel
theorem dX4_build_15 : decode cX4_build 15 = .ok (.iconst 0, 1) := by decide +kernel
theorem dX4_build_16 : decode cX4_build 16 = .ok (.iconst (-1), 1) := by decide +kernel
theorem dX4_build_17 : decode cX4_build 17 = .ok (.iconst (-1), 1) := by decide +kernel
theorem dX4_build_18 : decode cX4_build 18 = .ok (.invokevirtual 40, 3) := by decide +kernel
theorem dX4_build_21 : decode cX4_build 21 = .ok (.pop, 1) := by decide +kernel
theorem dX4_build_22 : decode cX4_build 22 = .ok (.iconst 0, 1) := by decide +kernel
theorem dX4_build_23 : decode cX4_build 23 = .ok (.istore 5, 2) := by decide +kernel
theorem dX4_build_25 : decode cX4_build 25 = .ok (.iload 5, 2) := by decide +kernel
theorem dX4_build_27 : decode cX4_build 27 = .ok (.aload_n 0, 1) := by decide +kernel
theorem dX4_build_28 : decode cX4_build 28 = .ok (.getfield 36, 3) := by decide +kernel
theorem dX4_build_31 : decode cX4_build 31 = .ok (.if_icmp .ge 107, 3) := by decide +kernel
theorem dX4_build_34 : decode cX4_build 34 = .ok (.iload 5, 2) := by decide +kernel
theorem dX4_build_36 : decode cX4_build 36 = .ok (.sipush 256, 3) := by decide +kernel
theorem dX4_build_39 : decode cX4_build 39 = .ok (.if_icmp .ge 99, 3) := by decide +kernel
theorem dX4_build_42 : decode cX4_build 42 = .ok (.aload_n 0, 1) := by decide +kernel
theorem dX4_build_43 : decode cX4_build 43 = .ok (.iload 5, 2) := by decide +kernel
theorem dX4_build_45 : decode cX4_build 45 = .ok (.iload_n 3, 1) := by decide +kernel
theorem dX4_build_46 : decode cX4_build 46 = .ok (.iload 4, 2) := by decide +kernel
theorem dX4_build_48 : decode cX4_build 48 = .ok (.invokevirtual 44, 3) := by decide +kernel
theorem dX4_build_51 : decode cX4_build 51 = .ok (.ifCond .ne 87, 3) := by decide +kernel
theorem dX4_build_54 : decode cX4_build 54 = .ok (.iconst 0, 1) := by decide +kernel
theorem dX4_build_55 : decode cX4_build 55 = .ok (.istore 6, 2) := by decide +kernel
theorem dX4_build_57 : decode cX4_build 57 = .ok (.iload 6, 2) := by decide +kernel
theorem dX4_build_59 : decode cX4_build 59 = .ok (.bipush 8, 2) := by decide +kernel
theorem dX4_build_61 : decode cX4_build 61 = .ok (.if_icmp .ge 71, 3) := by decide +kernel
theorem dX4_build_64 : decode cX4_build 64 = .ok (.aload_n 1, 1) := by decide +kernel
theorem dX4_build_65 : decode cX4_build 65 = .ok (.aload_n 0, 1) := by decide +kernel
theorem dX4_build_66 : decode cX4_build 66 = .ok (.getfield 9, 3) := by decide +kernel
theorem dX4_build_69 : decode cX4_build 69 = .ok (.iload 5, 2) := by decide +kernel
theorem dX4_build_71 : decode cX4_build 71 = .ok (.iaload, 1) := by decide +kernel
theorem dX4_build_72 : decode cX4_build 72 = .ok (.iload 6, 2) := by decide +kernel
theorem dX4_build_74 : decode cX4_build 74 = .ok (.iconst 4, 1) := by decide +kernel
theorem dX4_build_75 : decode cX4_build 75 = .ok (.idiv, 1) := by decide +kernel
theorem dX4_build_76 : decode cX4_build 76 = .ok (.iload 6, 2) := by decide +kernel
theorem dX4_build_78 : decode cX4_build 78 = .ok (.iconst 4, 1) := by decide +kernel
theorem dX4_build_79 : decode cX4_build 79 = .ok (.irem, 1) := by decide +kernel
theorem dX4_build_80 : decode cX4_build 80 = .ok (.invokevirtual 48, 3) := by decide +kernel
theorem dX4_build_83 : decode cX4_build 83 = .ok (.istore 7, 2) := by decide +kernel
theorem dX4_build_85 : decode cX4_build 85 = .ok (.aload_n 0, 1) := by decide +kernel
theorem dX4_build_86 : decode cX4_build 86 = .ok (.getfield 24, 3) := by decide +kernel
theorem dX4_build_89 : decode cX4_build 89 = .ok (.iload 5, 2) := by decide +kernel
theorem dX4_build_91 : decode cX4_build 91 = .ok (.bipush 8, 2) := by decide +kernel
theorem dX4_build_93 : decode cX4_build 93 = .ok (.imul, 1) := by decide +kernel
theorem dX4_build_94 : decode cX4_build 94 = .ok (.iload 6, 2) := by decide +kernel
theorem dX4_build_96 : decode cX4_build 96 = .ok (.iadd, 1) := by decide +kernel
theorem dX4_build_97 : decode cX4_build 97 = .ok (.iload 7, 2) := by decide +kernel
theorem dX4_build_99 : decode cX4_build 99 = .ok (.ifCond .ge 7, 3) := by decide +kernel
theorem dX4_build_102 : decode cX4_build 102 = .ok (.iconst (-1), 1) := by decide +kernel
theorem dX4_build_103 : decode cX4_build 103 = .ok (.goto 22, 3) := by decide +kernel
theorem dX4_build_106 : decode cX4_build 106 = .ok (.aload_n 0, 1) := by decide +kernel
theorem dX4_build_107 : decode cX4_build 107 = .ok (.iload 7, 2) := by decide +kernel
theorem dX4_build_109 : decode cX4_build 109 = .ok (.aload_n 0, 1) := by decide +kernel
theorem dX4_build_110 : decode cX4_build 110 = .ok (.getfield 15, 3) := by decide +kernel
theorem dX4_build_113 : decode cX4_build 113 = .ok (.iload 5, 2) := by decide +kernel
theorem dX4_build_115 : decode cX4_build 115 = .ok (.iaload, 1) := by decide +kernel
theorem dX4_build_116 : decode cX4_build 116 = .ok (.iconst 1, 1) := by decide +kernel
theorem dX4_build_117 : decode cX4_build 117 = .ok (.iadd, 1) := by decide +kernel
theorem dX4_build_118 : decode cX4_build 118 = .ok (.iload 5, 2) := by decide +kernel
theorem dX4_build_120 : decode cX4_build 120 = .ok (.iload 6, 2) := by decide +kernel
theorem dX4_build_122 : decode cX4_build 122 = .ok (.invokevirtual 40, 3) := by decide +kernel
theorem dX4_build_125 : decode cX4_build 125 = .ok (.iastore, 1) := by decide +kernel
theorem dX4_build_126 : decode cX4_build 126 = .ok (.iinc 6 1, 3) := by decide +kernel
theorem dX4_build_129 : decode cX4_build 129 = .ok (.goto (-72), 3) := by decide +kernel
theorem dX4_build_132 : decode cX4_build 132 = .ok (.iinc 5 1, 3) := by decide +kernel
theorem dX4_build_135 : decode cX4_build 135 = .ok (.goto (-110), 3) := by decide +kernel
theorem dX4_build_138 : decode cX4_build 138 = .ok (.return_, 1) := by decide +kernel
set_option maxRecDepth 20000 in
set_option maxHeartbeats 2000000 in
theorem w_X4_build_125 {X : CX} {d : Nat} (hd : 5 ≤ d) {g' : G} {rx : Unit} (k25 : Nat → Nat → Int32 → Int32 → Int32 → G → Option (Unit × G)) (hk25 : ∀ (l0 : Nat) (l1 : Nat) (l3 : Int32) (l4 : Int32) (l5 : Int32) (g : G), KD g l0 4 → KD g l1 9 → k25 l0 l1 l3 l4 l5 g = some (rx, g') → SemF X m_X4_build d 25 [(0, .ref (ad X l0)), (1, .ref (ad X l1)), (3, .int l3), (4, .int l4), (5, .int l5)] [] g none g') (k57 : Nat → Nat → Int32 → Int32 → Int32 → Int32 → G → Option (Unit × G)) (hk57 : ∀ (l0 : Nat) (l1 : Nat) (l3 : Int32) (l4 : Int32) (l5 : Int32) (l6 : Int32) (g : G), KD g l0 4 → KD g l1 9 → k57 l0 l1 l3 l4 l5 l6 g = some (rx, g') → SemF X m_X4_build d 57 [(0, .ref (ad X l0)), (1, .ref (ad X l1)), (3, .int l3), (4, .int l4), (5, .int l5), (6, .int l6)] [] g none g') (l0 : Nat) (l1 : Nat) (l3 : Int32) (l4 : Int32) (l5 : Int32) (l6 : Int32) (s0 : Int32) (s1 : Int32) (s2 : Nat) (g : G) (k_l0 : KD g l0 4) (k_l1 : KD g l1 9) (k_s2 : KD g s2 14) (h : f_X4_build_125 k25 k57 l0 l1 l3 l4 l5 l6 s0 s1 s2 g = some (rx, g')) : SemF X m_X4_build d 125 [(0, .ref (ad X l0)), (1, .ref (ad X l1)), (3, .int l3), (4, .int l4), (5, .int l5), (6, .int l6)] [.int s0, .int s1, .ref (ad X s2)] g none g' := by
  rw [f_X4_build_125] at h
  obtain ⟨i1, h⟩ := gdI_some h
  refine SF_iast 126 dX4_build_125 k_s2.1 i1 rfl ?_
  obtain ⟨g2, e3, h⟩ := lg_some h
  rw [← e3]
  have k_l0 := KD.eq e3 k_l0
  have k_l1 := KD.eq e3 k_l1
  have k_s2 := KD.eq e3 k_s2
  have i1 := vp_eq e3 i1
  refine SF_iinc 5 (l6 + (1 : Int32)) [(6, .int (l6 + (1 : Int32))), (0, .ref (ad X l0)), (1, .ref (ad X l1)), (3, .int l3), (4, .int l4), (5, .int l5)] 129 dX4_build_126 rfl rfl (by decide) rfl rfl ?_
  refine SF_goto 57 dX4_build_129 rfl ?_
  refine SF_sub [1, 2, 3, 4, 5, 0] rfl ?_
  exact hk57 l0 l1 l3 l4 l5 (l6 + (1 : Int32)) g2 k_l0 k_l1 h

set_option maxRecDepth 20000 in
set_option maxHeartbeats 2000000 in
theorem w_X4_build_57 {X : CX} {d : Nat} (hd : 5 ≤ d) {g' : G} {rx : Unit} (k25 : Nat → Nat → Int32 → Int32 → Int32 → G → Option (Unit × G)) (hk25 : ∀ (l0 : Nat) (l1 : Nat) (l3 : Int32) (l4 : Int32) (l5 : Int32) (g : G), KD g l0 4 → KD g l1 9 → k25 l0 l1 l3 l4 l5 g = some (rx, g') → SemF X m_X4_build d 25 [(0, .ref (ad X l0)), (1, .ref (ad X l1)), (3, .int l3), (4, .int l4), (5, .int l5)] [] g none g') : ∀ (n : Nat) (l0 : Nat) (l1 : Nat) (l3 : Int32) (l4 : Int32) (l5 : Int32) (l6 : Int32) (g : G), KD g l0 4 → KD g l1 9 → f_X4_build_57 k25 n l0 l1 l3 l4 l5 l6 g = some (rx, g') → SemF X m_X4_build d 57 [(0, .ref (ad X l0)), (1, .ref (ad X l1)), (3, .int l3), (4, .int l4), (5, .int l5), (6, .int l6)] [] g none g' := by
  intro n
  induction n with
  | zero =>
    intro l0 l1 l3 l4 l5 l6 g k_l0 k_l1 h
    rw [f_X4_build_57] at h
    cases h
  | succ n ih =>
  intro l0 l1 l3 l4 l5 l6 g k_l0 k_l1 h
  rw [f_X4_build_57] at h
  refine SF_iload 5 59 dX4_build_57 rfl rfl ?_
  refine SF_bipush (8 : Int32) 61 dX4_build_59 rfl rfl ?_
  refine SF_icge 132 64 dX4_build_61 rfl rfl (fun c1 => ?_) (fun c1 => ?_)
  · have h := ite_t c1 h
    refine SF_iinc 4 (l5 + (1 : Int32)) [(5, .int (l5 + (1 : Int32))), (0, .ref (ad X l0)), (1, .ref (ad X l1)), (3, .int l3), (4, .int l4), (6, .int l6)] 135 dX4_build_132 rfl rfl (by decide) rfl rfl ?_
    refine SF_goto 25 dX4_build_135 rfl ?_
    refine SF_sub [1, 2, 3, 4, 0] rfl ?_
    exact hk25 l0 l1 l3 l4 (l5 + (1 : Int32)) g k_l0 k_l1 h
  · have h := ite_f c1 h
    refine SF_aload_n 1 65 dX4_build_64 rfl rfl rfl ?_
    refine SF_aload_n 0 66 dX4_build_65 rfl rfl rfl ?_
    obtain ⟨b2, r3, h⟩ := dr_some h
    refine SF_getR 69 fl_X4_9 dX4_build_66 k_l0.1 r3 rfl ?_
    refine SF_iload 4 71 dX4_build_69 rfl rfl ?_
    obtain ⟨k4, h⟩ := gdK_some h
    obtain ⟨i5, h⟩ := gdI_some h
    refine SF_iald 72 dX4_build_71 k4.1 i5 rfl ?_
    refine SF_iload 5 74 dX4_build_72 rfl rfl ?_
    refine SF_iconst (4 : Int32) 75 dX4_build_74 rfl rfl ?_
    refine SF_idiv 76 dX4_build_75 (by decide) rfl ?_
    refine SF_iload 5 78 dX4_build_76 rfl rfl ?_
    refine SF_iconst (4 : Int32) 79 dX4_build_78 rfl rfl ?_
    refine SF_irem 80 dX4_build_79 (by decide) rfl ?_
    obtain ⟨v6, g7, q8, h⟩ := bd_some h
    have s9 := w_X9_step (X := X) (Nat.le_refl 4) l1 (gI g b2 l5.toNatClampNeg) (l6 / (4 : Int32)) (l6 - l6 / (4 : Int32) * (4 : Int32)) g g7 v6 k_l1 q8
    refine SF_callVi 83 mi_X9_step ml_X4_48 dX4_build_80 (Nat.le_trans (by decide) hd) s9 k_l1.1 rfl rfl (Nat.le_of_ble_eq_true rfl) rfl ?_
    have k_l0 := k_l0.ext s9.1
    have k_l1 := k_l1.ext s9.1
    have k4 := k4.ext s9.1
    refine SF_istore [(7, .int v6), (0, .ref (ad X l0)), (1, .ref (ad X l1)), (3, .int l3), (4, .int l4), (5, .int l5), (6, .int l6)] 85 dX4_build_83 (by decide) rfl rfl ?_
    refine SF_aload_n 1 86 dX4_build_85 rfl rfl rfl ?_
    obtain ⟨b10, r11, h⟩ := dr_some h
    refine SF_getR 89 fl_X4_24 dX4_build_86 k_l0.1 r11 rfl ?_
    refine SF_iload 5 91 dX4_build_89 rfl rfl ?_
    refine SF_bipush (8 : Int32) 93 dX4_build_91 rfl rfl ?_
    refine SF_imul 94 dX4_build_93 rfl ?_
    refine SF_iload 6 96 dX4_build_94 rfl rfl ?_
    refine SF_iadd 97 dX4_build_96 rfl ?_
    refine SF_iload 0 99 dX4_build_97 rfl rfl ?_
    refine SF_ifge 106 102 dX4_build_99 rfl rfl (fun c12 => ?_) (fun c12 => ?_)
    · have h := ite_t c12 h
      refine SF_aload_n 1 107 dX4_build_106 rfl rfl rfl ?_
      refine SF_iload 0 109 dX4_build_107 rfl rfl ?_
      refine SF_aload_n 1 110 dX4_build_109 rfl rfl rfl ?_
      obtain ⟨b13, r14, h⟩ := dr_some h
      refine SF_getR 113 fl_X4_15 dX4_build_110 k_l0.1 r14 rfl ?_
      refine SF_iload 5 115 dX4_build_113 rfl rfl ?_
      obtain ⟨k15, h⟩ := gdK_some h
      obtain ⟨i16, h⟩ := gdI_some h
      refine SF_iald 116 dX4_build_115 k15.1 i16 rfl ?_
      refine SF_iconst (1 : Int32) 117 dX4_build_116 rfl rfl ?_
      refine SF_iadd 118 dX4_build_117 rfl ?_
      refine SF_iload 5 120 dX4_build_118 rfl rfl ?_
      refine SF_iload 6 122 dX4_build_120 rfl rfl ?_
      obtain ⟨v17, g18, q19, h⟩ := bd_some h
      have s20 := w_X4_add (X := X) (Nat.le_refl 0) l0 v6 ((gI g7 b13 l5.toNatClampNeg) + (1 : Int32)) l5 l6 g7 g18 v17 k_l0 q19
      refine SF_callVi 125 mi_X4_add ml_X4_40 dX4_build_122 (Nat.le_trans (by decide) hd) s20 k_l0.1 rfl rfl (Nat.le_of_ble_eq_true rfl) rfl ?_
      have k_l0 := k_l0.ext s20.1
      have k_l1 := k_l1.ext s20.1
      have k4 := k4.ext s20.1
      have k15 := k15.ext s20.1
      obtain ⟨k21, h⟩ := gdK_some h
      refine SF_sub [1, 2, 3, 4, 5, 6] rfl ?_
      exact w_X4_build_125 hd k25 hk25 (f_X4_build_57 k25 n) ih l0 l1 l3 l4 l5 l6 v17 ((l5 * (8 : Int32)) + l6) b10 g18 k_l0 k_l1 k21 h
    · have h := ite_f c12 h
      refine SF_iconst (-1 : Int32) 103 dX4_build_102 rfl rfl ?_
      refine SF_goto 125 dX4_build_103 rfl ?_
      obtain ⟨k22, h⟩ := gdK_some h
      refine SF_sub [1, 2, 3, 4, 5, 6] rfl ?_
      exact w_X4_build_125 hd k25 hk25 (f_X4_build_57 k25 n) ih l0 l1 l3 l4 l5 l6 (-1 : Int32) ((l5 * (8 : Int32)) + l6) b10 g7 k_l0 k_l1 k22 h

set_option maxRecDepth 20000 in
set_option maxHeartbeats 2000000 in
theorem w_X4_build_25 {X : CX} {d : Nat} (hd : 5 ≤ d) {g' : G} {rx : Unit} : ∀ (n : Nat) (l0 : Nat) (l1 : Nat) (l3 : Int32) (l4 : Int32) (l5 : Int32) (g : G), KD g l0 4 → KD g l1 9 → f_X4_build_25 n l0 l1 l3 l4 l5 g = some (rx, g') → SemF X m_X4_build d 25 [(0, .ref (ad X l0)), (1, .ref (ad X l1)), (3, .int l3), (4, .int l4), (5, .int l5)] [] g none g' := by
  intro n
  induction n with
  | zero =>
    intro l0 l1 l3 l4 l5 g k_l0 k_l1 h
    rw [f_X4_build_25] at h
    cases h
  | succ n ih =>
  intro l0 l1 l3 l4 l5 g k_l0 k_l1 h
  rw [f_X4_build_25] at h
  refine SF_iload 4 27 dX4_build_25 rfl rfl ?_
  refine SF_aload_n 0 28 dX4_build_27 rfl rfl rfl ?_
  refine SF_getI 31 fl_X4_36 dX4_build_28 k_l0.1 rfl ?_
  refine SF_icge 138 34 dX4_build_31 rfl rfl (fun c1 => ?_) (fun c1 => ?_)
  · have h := ite_t c1 h
    exact RT_v rfl dX4_build_138 h
  · have h := ite_f c1 h
    refine SF_iload 4 36 dX4_build_34 rfl rfl ?_
    refine SF_sipush (256 : Int32) 39 dX4_build_36 rfl rfl ?_
    refine SF_icge 138 42 dX4_build_39 rfl rfl (fun c2 => ?_) (fun c2 => ?_)
    · have h := ite_t c2 h
      exact RT_v rfl dX4_build_138 h
    · have h := ite_f c2 h
      refine SF_aload_n 0 43 dX4_build_42 rfl rfl rfl ?_
      refine SF_iload 4 45 dX4_build_43 rfl rfl ?_
      refine SF_iload_n 2 46 dX4_build_45 rfl rfl rfl ?_
      refine SF_iload 3 48 dX4_build_46 rfl rfl ?_
      obtain ⟨v3, g4, q5, h⟩ := bd_some h
      have s6 := w_X4_fits (X := X) (Nat.le_refl 1) l0 l5 l3 l4 g g4 v3 k_l0 q5
      refine SF_callVb 51 mi_X4_fits ml_X4_44 dX4_build_48 (Nat.le_trans (by decide) hd) s6 k_l0.1 rfl rfl (Nat.le_of_ble_eq_true rfl) rfl ?_
      have k_l0 := k_l0.ext s6.1
      have k_l1 := k_l1.ext s6.1
      refine SF_ifne 138 54 dX4_build_51 rfl rfl (fun c7 => ?_) (fun c7 => ?_)
      · have h := ite_f c7 h
        exact RT_v rfl dX4_build_138 h
      · have h := ite_t c7 h
        refine SF_iconst (0 : Int32) 55 dX4_build_54 rfl rfl ?_
        refine SF_istore [(6, .int (0 : Int32)), (0, .ref (ad X l0)), (1, .ref (ad X l1)), (3, .int l3), (4, .int l4), (5, .int l5)] 57 dX4_build_55 (by decide) rfl rfl ?_
        refine SF_sub [1, 2, 3, 4, 5, 0] rfl ?_
        exact w_X4_build_57 hd (f_X4_build_25 n) ih FU l0 l1 l3 l4 l5 (0 : Int32) g4 k_l0 k_l1 h

set_option maxRecDepth 20000 in
set_option maxHeartbeats 2000000 in
theorem w_X4_build {X : CX} {d : Nat} (hd : 5 ≤ d) (l0 : Nat) (l1 : Nat) (l2 : Int32) (l3 : Int32) (l4 : Int32) (g g' : G) (rx : Unit) (k_l0 : KD g l0 4) (k_l1 : KD g l1 9) (h : f_X4_build l0 l1 l2 l3 l4 g = some (rx, g')) : Sem X m_X4_build d [.ref (ad X l0), .ref (ad X l1), .int l2, .int l3, .int l4] g none g' := by
  refine Sem_of (lo := [(0, .ref (ad X l0)), (1, .ref (ad X l1)), (2, .int l2), (3, .int l3), (4, .int l4)]) (by decide +kernel) rfl (Nat.le_of_ble_eq_true rfl) ?_
  rw [f_X4_build] at h
  refine SF_aload_n 0 1 dX4_build_0 rfl rfl rfl ?_
  obtain ⟨b1, r2, h⟩ := dr_some h
  refine SF_getR 4 fl_X4_27 dX4_build_1 k_l0.1 r2 rfl ?_
  refine SF_iconst (-1 : Int32) 5 dX4_build_4 rfl rfl ?_
  obtain ⟨k3, h⟩ := gdK_some h
  obtain ⟨v4, g5, q6, h⟩ := bd_some h
  have s7 := w_J7_fill_53178 (X := X) (Nat.le_refl 0) b1 (-1 : Int32) g g5 v4 k3 q6
  refine SF_callSv 8 mi_J7_fill_53178 ml_X4_30 dX4_build_5 (Nat.le_trans (by decide) hd) s7 rfl rfl (Nat.le_of_ble_eq_true rfl) rfl ?_
  have k_l0 := k_l0.ext s7.1
  have k_l1 := k_l1.ext s7.1
  have k3 := k3.ext s7.1
  refine SF_aload_n 0 9 dX4_build_8 rfl rfl rfl ?_
  refine SF_iconst (0 : Int32) 10 dX4_build_9 rfl rfl ?_
  refine SF_putI 13 fl_X4_36 dX4_build_10 k_l0.1 (fn_int _) (Or.inl rfl) rfl ?_
  obtain ⟨g8, e9, h⟩ := lg_some h
  rw [← e9]
  have k_l0 := KD.eq e9 k_l0
  have k_l1 := KD.eq e9 k_l1
  have k3 := KD.eq e9 k3
  refine SF_aload_n 0 14 dX4_build_13 rfl rfl rfl ?_
  refine SF_iload_n 2 15 dX4_build_14 rfl rfl rfl ?_
  refine SF_iconst (0 : Int32) 16 dX4_build_15 rfl rfl ?_
  refine SF_iconst (-1 : Int32) 17 dX4_build_16 rfl rfl ?_
  refine SF_iconst (-1 : Int32) 18 dX4_build_17 rfl rfl ?_
  obtain ⟨v10, g11, q12, h⟩ := bd_some h
  have s13 := w_X4_add (X := X) (Nat.le_refl 0) l0 l2 (0 : Int32) (-1 : Int32) (-1 : Int32) g8 g11 v10 k_l0 q12
  refine SF_callVi 21 mi_X4_add ml_X4_40 dX4_build_18 (Nat.le_trans (by decide) hd) s13 k_l0.1 rfl rfl (Nat.le_of_ble_eq_true rfl) rfl ?_
  have k_l0 := k_l0.ext s13.1
  have k_l1 := k_l1.ext s13.1
  have k3 := k3.ext s13.1
  refine SF_pop 22 dX4_build_21 rfl rfl ?_
  refine SF_iconst (0 : Int32) 23 dX4_build_22 rfl rfl ?_
  refine SF_istore [(5, .int (0 : Int32)), (0, .ref (ad X l0)), (1, .ref (ad X l1)), (2, .int l2), (3, .int l3), (4, .int l4)] 25 dX4_build_23 (by decide) rfl rfl ?_
  refine SF_sub [1, 2, 4, 5, 0] rfl ?_
  exact w_X4_build_25 hd FU l0 l1 l3 l4 (0 : Int32) g11 k_l0 k_l1 h

theorem dX11_graphOf_0 : decode cX11_graphOf 0 = .ok (.aload_n 0, 1) := by decide +kernel
theorem dX11_graphOf_1 : decode cX11_graphOf 1 = .ok (.getfield 27, 3) := by decide +kernel
theorem dX11_graphOf_4 : decode cX11_graphOf 4 = .ok (.iload_n 1, 1) := by decide +kernel
theorem dX11_graphOf_5 : decode cX11_graphOf 5 = .ok (.if_icmp .eq 47, 3) := by decide +kernel
theorem dX11_graphOf_8 : decode cX11_graphOf 8 = .ok (.aload_n 0, 1) := by decide +kernel
theorem dX11_graphOf_9 : decode cX11_graphOf 9 = .ok (.getfield 95, 3) := by decide +kernel
theorem dX11_graphOf_12 : decode cX11_graphOf 12 = .ok (.aload_n 0, 1) := by decide +kernel
theorem dX11_graphOf_13 : decode cX11_graphOf 13 = .ok (.getfield 78, 3) := by decide +kernel
theorem dX11_graphOf_16 : decode cX11_graphOf 16 = .ok (.iload_n 1, 1) := by decide +kernel
theorem dX11_graphOf_17 : decode cX11_graphOf 17 = .ok (.invokevirtual 306, 3) := by decide +kernel
theorem dX11_graphOf_20 : decode cX11_graphOf 20 = .ok (.aload_n 0, 1) := by decide +kernel
theorem dX11_graphOf_21 : decode cX11_graphOf 21 = .ok (.getfield 20, 3) := by decide +kernel
theorem dX11_graphOf_24 : decode cX11_graphOf 24 = .ok (.aload_n 0, 1) := by decide +kernel
theorem dX11_graphOf_25 : decode cX11_graphOf 25 = .ok (.getfield 95, 3) := by decide +kernel
theorem dX11_graphOf_28 : decode cX11_graphOf 28 = .ok (.aload_n 0, 1) := by decide +kernel
theorem dX11_graphOf_29 : decode cX11_graphOf 29 = .ok (.getfield 78, 3) := by decide +kernel
theorem dX11_graphOf_32 : decode cX11_graphOf 32 = .ok (.iload_n 1, 1) := by decide +kernel
theorem dX11_graphOf_33 : decode cX11_graphOf 33 = .ok (.invokevirtual 183, 3) := by decide +kernel
theorem dX11_graphOf_36 : decode cX11_graphOf 36 = .ok (.bipush (-2), 2) := by decide +kernel
theorem dX11_graphOf_38 : decode cX11_graphOf 38 = .ok (.bipush (-2), 2) := by decide +kernel
theorem dX11_graphOf_40 : decode cX11_graphOf 40 = .ok (.invokevirtual 314, 3) := by decide +kernel
theorem dX11_graphOf_43 : decode cX11_graphOf 43 = .ok (.aload_n 0, 1) := by decide +kernel
theorem dX11_graphOf_44 : decode cX11_graphOf 44 = .ok (.invokevirtual 133, 3) := by decide +kernel
theorem dX11_graphOf_47 : decode cX11_graphOf 47 = .ok (.aload_n 0, 1) := by decide +kernel
theorem dX11_graphOf_48 : decode cX11_graphOf 48 = .ok (.iload_n 1, 1) := by decide +kernel
theorem dX11_graphOf_49 : decode cX11_graphOf 49 = .ok (.putfield 27, 3) := by decide +kernel
theorem dX11_graphOf_52 : decode cX11_graphOf 52 = .ok (.aload_n 0, 1) := by decide +kernel
theorem dX11_graphOf_53 : decode cX11_graphOf 53 = .ok (.getfield 20, 3) := by decide +kernel
theorem dX11_graphOf_56 : decode cX11_graphOf 56 = .ok (.areturn, 1) := by decide +kernel
set_option maxRecDepth 20000 in
set_option maxHeartbeats 2000000 in
theorem w_X11_graphOf_52 {X : CX} {d : Nat} (hd : 6 ≤ d) {g' : G} {rx : Nat} (l0 : Nat) (g : G) (k_l0 : KD g l0 11) (h : f_X11_graphOf_52 l0 g = some (rx, g')) : SemF X m_X11_graphOf d 52 [(0, .ref (ad X l0))] [] g (some (.ref (ad X rx))) g' := by
  rw [f_X11_graphOf_52] at h
  refine SF_aload_n 0 53 dX11_graphOf_52 rfl rfl rfl ?_
  obtain ⟨b1, r2, h⟩ := dr_some h
  refine SF_getR 56 fl_X11_20 dX11_graphOf_53 k_l0.1 r2 rfl ?_
  exact RT_a rfl (Or.inl ⟨_, rfl⟩) dX11_graphOf_56 h

set_option maxRecDepth 20000 in
set_option maxHeartbeats 2000000 in
theorem w_X11_graphOf {X : CX} {d : Nat} (hd : 6 ≤ d) (l0 : Nat) (l1 : Int32) (g g' : G) (rx : Nat) (k_l0 : KD g l0 11) (h : f_X11_graphOf l0 l1 g = some (rx, g')) : Sem X m_X11_graphOf d [.ref (ad X l0), .int l1] g (some (.ref (ad X rx))) g' := by
  refine Sem_of (lo := [(0, .ref (ad X l0)), (1, .int l1)]) (by decide +kernel) rfl (Nat.le_of_ble_eq_true rfl) ?_
  rw [f_X11_graphOf] at h
  refine SF_aload_n 0 1 dX11_graphOf_0 rfl rfl rfl ?_
  refine SF_getI 4 fl_X11_27 dX11_graphOf_1 k_l0.1 rfl ?_
  refine SF_iload_n 1 5 dX11_graphOf_4 rfl rfl rfl ?_
  refine SF_iceq 52 8 dX11_graphOf_5 rfl rfl (fun c1 => ?_) (fun c1 => ?_)
  · have h := ite_t c1 h
    refine SF_sub [0] rfl ?_
    exact w_X11_graphOf_52 hd l0 g k_l0 h
  · have h := ite_f c1 h
    refine SF_aload_n 0 9 dX11_graphOf_8 rfl rfl rfl ?_
    obtain ⟨b2, r3, h⟩ := dr_some h
    refine SF_getR 12 fl_X11_95 dX11_graphOf_9 k_l0.1 r3 rfl ?_
    refine SF_aload_n 0 13 dX11_graphOf_12 rfl rfl rfl ?_
    obtain ⟨b4, r5, h⟩ := dr_some h
    refine SF_getR 16 fl_X11_78 dX11_graphOf_13 k_l0.1 r5 rfl ?_
    refine SF_iload_n 1 17 dX11_graphOf_16 rfl rfl rfl ?_
    obtain ⟨k6, h⟩ := gdK_some h
    obtain ⟨k7, h⟩ := gdK_some h
    obtain ⟨v8, g9, q10, h⟩ := bd_some h
    have s11 := w_X9_aim (X := X) (Nat.le_refl 3) b2 b4 l1 g g9 v8 k6 k7 q10
    refine SF_callVv 20 mi_X9_aim ml_X11_306 dX11_graphOf_17 (Nat.le_trans (by decide) hd) s11 k6.1 rfl rfl (Nat.le_of_ble_eq_true rfl) rfl ?_
    have k_l0 := k_l0.ext s11.1
    have k6 := k6.ext s11.1
    have k7 := k7.ext s11.1
    refine SF_aload_n 0 21 dX11_graphOf_20 rfl rfl rfl ?_
    obtain ⟨b12, r13, h⟩ := dr_some h
    refine SF_getR 24 fl_X11_20 dX11_graphOf_21 k_l0.1 r13 rfl ?_
    refine SF_aload_n 0 25 dX11_graphOf_24 rfl rfl rfl ?_
    obtain ⟨b14, r15, h⟩ := dr_some h
    refine SF_getR 28 fl_X11_95 dX11_graphOf_25 k_l0.1 r15 rfl ?_
    refine SF_aload_n 0 29 dX11_graphOf_28 rfl rfl rfl ?_
    obtain ⟨b16, r17, h⟩ := dr_some h
    refine SF_getR 32 fl_X11_78 dX11_graphOf_29 k_l0.1 r17 rfl ?_
    refine SF_iload_n 1 33 dX11_graphOf_32 rfl rfl rfl ?_
    obtain ⟨k18, h⟩ := gdK_some h
    obtain ⟨v19, g20, q21, h⟩ := bd_some h
    have s22 := w_X0_standOf (X := X) (Nat.le_refl 1) b16 l1 g9 g20 v19 k18 q21
    refine SF_callVi 36 mi_X0_standOf ml_X11_183 dX11_graphOf_33 (Nat.le_trans (by decide) hd) s22 k18.1 rfl rfl (Nat.le_of_ble_eq_true rfl) rfl ?_
    have k_l0 := k_l0.ext s22.1
    have k6 := k6.ext s22.1
    have k7 := k7.ext s22.1
    have k18 := k18.ext s22.1
    refine SF_bipush (-2 : Int32) 38 dX11_graphOf_36 rfl rfl ?_
    refine SF_bipush (-2 : Int32) 40 dX11_graphOf_38 rfl rfl ?_
    obtain ⟨k23, h⟩ := gdK_some h
    obtain ⟨k24, h⟩ := gdK_some h
    obtain ⟨v25, g26, q27, h⟩ := bd_some h
    have s28 := w_X4_build (X := X) (Nat.le_refl 5) b12 b14 v19 (-2 : Int32) (-2 : Int32) g20 g26 v25 k23 k24 q27
    refine SF_callVv 43 mi_X4_build ml_X11_314 dX11_graphOf_40 (Nat.le_trans (by decide) hd) s28 k23.1 rfl rfl (Nat.le_of_ble_eq_true rfl) rfl ?_
    have k_l0 := k_l0.ext s28.1
    have k6 := k6.ext s28.1
    have k7 := k7.ext s28.1
    have k18 := k18.ext s28.1
    have k23 := k23.ext s28.1
    have k24 := k24.ext s28.1
    refine SF_aload_n 0 44 dX11_graphOf_43 rfl rfl rfl ?_
    obtain ⟨v29, g30, q31, h⟩ := bd_some h
    have s32 := w_X11_forgetWays (X := X) (Nat.le_refl 0) l0 g26 g30 v29 k_l0 q31
    refine SF_callVv 47 mi_X11_forgetWays ml_X11_133 dX11_graphOf_44 (Nat.le_trans (by decide) hd) s32 k_l0.1 rfl rfl (Nat.le_of_ble_eq_true rfl) rfl ?_
    have k_l0 := k_l0.ext s32.1
    have k6 := k6.ext s32.1
    have k7 := k7.ext s32.1
    have k18 := k18.ext s32.1
    have k23 := k23.ext s32.1
    have k24 := k24.ext s32.1
    refine SF_aload_n 0 48 dX11_graphOf_47 rfl rfl rfl ?_
    refine SF_iload_n 1 49 dX11_graphOf_48 rfl rfl rfl ?_
    refine SF_putI 52 fl_X11_27 dX11_graphOf_49 k_l0.1 (fn_int _) (Or.inl rfl) rfl ?_
    obtain ⟨g33, e34, h⟩ := lg_some h
    rw [← e34]
    have k_l0 := KD.eq e34 k_l0
    have k6 := KD.eq e34 k6
    have k7 := KD.eq e34 k7
    have k18 := KD.eq e34 k18
    have k23 := KD.eq e34 k23
    have k24 := KD.eq e34 k24
    refine SF_sub [0] rfl ?_
    exact w_X11_graphOf_52 hd l0 g33 k_l0 h

theorem dX4_find_0 : decode cX4_find 0 = .ok (.iconst 0, 1) := by decide +kernel
theorem dX4_find_1 : decode cX4_find 1 = .ok (.istore_n 3, 1) := by decide +kernel
theorem dX4_find_2 : decode cX4_find 2 = .ok (.iload_n 3, 1) := by decide +kernel
theorem dX4_find_3 : decode cX4_find 3 = .ok (.aload_n 0, 1) := by decide +kernel
theorem dX4_find_4 : decode cX4_find 4 = .ok (.getfield 36, 3) := by decide +kernel
theorem dX4_find_7 : decode cX4_find 7 = .ok (.if_icmp .ge 21, 3) := by decide +kernel
theorem dX4_find_10 : decode cX4_find 10 = .ok (.aload_n 0, 1) := by decide +kernel
theorem dX4_find_11 : decode cX4_find 11 = .ok (.iload_n 3, 1) := by decide +kernel
theorem dX4_find_12 : decode cX4_find 12 = .ok (.iload_n 1, 1) := by decide +kernel
theorem dX4_find_13 : decode cX4_find 13 = .ok (.iload_n 2, 1) := by decide +kernel
theorem dX4_find_14 : decode cX4_find 14 = .ok (.invokevirtual 44, 3) := by decide +kernel
theorem dX4_find_17 : decode cX4_find 17 = .ok (.ifCond .eq 5, 3) := by decide +kernel
theorem dX4_find_20 : decode cX4_find 20 = .ok (.iload_n 3, 1) := by decide +kernel
theorem dX4_find_21 : decode cX4_find 21 = .ok (.ireturn, 1) := by decide +kernel
theorem dX4_find_22 : decode cX4_find 22 = .ok (.iinc 3 1, 3) := by decide +kernel
theorem dX4_find_25 : decode cX4_find 25 = .ok (.goto (-23), 3) := by decide +kernel
theorem dX4_find_28 : decode cX4_find 28 = .ok (.iconst (-1), 1) := by decide +kernel
theorem dX4_find_29 : decode cX4_find 29 = .ok (.ireturn, 1) := by decide +kernel
set_option maxRecDepth 20000 in
set_option maxHeartbeats 2000000 in
theorem w_X4_find_2 {X : CX} {d : Nat} (hd : 2 ≤ d) {g' : G} {rx : Int32} : ∀ (n : Nat) (l0 : Nat) (l1 : Int32) (l2 : Int32) (l3 : Int32) (g : G), KD g l0 4 → f_X4_find_2 n l0 l1 l2 l3 g = some (rx, g') → SemF X m_X4_find d 2 [(0, .ref (ad X l0)), (1, .int l1), (2, .int l2), (3, .int l3)] [] g (some (.int rx)) g' := by
  intro n
  induction n with
  | zero =>
    intro l0 l1 l2 l3 g k_l0 h
    rw [f_X4_find_2] at h
    cases h
  | succ n ih =>
  intro l0 l1 l2 l3 g k_l0 h
  rw [f_X4_find_2] at h
  refine SF_iload_n 3 3 dX4_find_2 rfl rfl rfl ?_
  refine SF_aload_n 0 4 dX4_find_3 rfl rfl rfl ?_
  refine SF_getI 7 fl_X4_36 dX4_find_4 k_l0.1 rfl ?_
  refine SF_icge 28 10 dX4_find_7 rfl rfl (fun c1 => ?_) (fun c1 => ?_)
  · have h := ite_t c1 h
    refine SF_iconst (-1 : Int32) 29 dX4_find_28 rfl rfl ?_
    exact RT_i rfl dX4_find_29 h
  · have h := ite_f c1 h
    refine SF_aload_n 0 11 dX4_find_10 rfl rfl rfl ?_
    refine SF_iload_n 3 12 dX4_find_11 rfl rfl rfl ?_
    refine SF_iload_n 1 13 dX4_find_12 rfl rfl rfl ?_
    refine SF_iload_n 2 14 dX4_find_13 rfl rfl rfl ?_
    obtain ⟨v2, g3, q4, h⟩ := bd_some h
    have s5 := w_X4_fits (X := X) (Nat.le_refl 1) l0 l3 l1 l2 g g3 v2 k_l0 q4
    refine SF_callVb 17 mi_X4_fits ml_X4_44 dX4_find_14 (Nat.le_trans (by decide) hd) s5 k_l0.1 rfl rfl (Nat.le_of_ble_eq_true rfl) rfl ?_
    have k_l0 := k_l0.ext s5.1
    refine SF_ifeq 22 20 dX4_find_17 rfl rfl (fun c6 => ?_) (fun c6 => ?_)
    · have h := ite_t c6 h
      refine SF_iinc 3 (l3 + (1 : Int32)) [(3, .int (l3 + (1 : Int32))), (0, .ref (ad X l0)), (1, .int l1), (2, .int l2)] 25 dX4_find_22 rfl rfl (by decide) rfl rfl ?_
      refine SF_goto 2 dX4_find_25 rfl ?_
      refine SF_sub [1, 2, 3, 0] rfl ?_
      exact ih l0 l1 l2 (l3 + (1 : Int32)) g3 k_l0 h
    · have h := ite_f c6 h
      refine SF_iload_n 3 21 dX4_find_20 rfl rfl rfl ?_
      exact RT_i rfl dX4_find_21 h

set_option maxRecDepth 20000 in
set_option maxHeartbeats 2000000 in
theorem w_X4_find {X : CX} {d : Nat} (hd : 2 ≤ d) (l0 : Nat) (l1 : Int32) (l2 : Int32) (g g' : G) (rx : Int32) (k_l0 : KD g l0 4) (h : f_X4_find l0 l1 l2 g = some (rx, g')) : Sem X m_X4_find d [.ref (ad X l0), .int l1, .int l2] g (some (.int rx)) g' := by
  refine Sem_of (lo := [(0, .ref (ad X l0)), (1, .int l1), (2, .int l2)]) (by decide +kernel) rfl (Nat.le_of_ble_eq_true rfl) ?_
  rw [f_X4_find] at h
  refine SF_iconst (0 : Int32) 1 dX4_find_0 rfl rfl ?_
  refine SF_istore_n [(3, .int (0 : Int32)), (0, .ref (ad X l0)), (1, .int l1), (2, .int l2)] 2 dX4_find_1 rfl (by decide) rfl rfl ?_
  refine SF_sub [1, 2, 3, 0] rfl ?_
  exact w_X4_find_2 hd FU l0 l1 l2 (0 : Int32) g k_l0 h

theorem dX4_depthOf_0 : decode cX4_depthOf 0 = .ok (.aload_n 0, 1) := by decide +kernel
theorem dX4_depthOf_1 : decode cX4_depthOf 1 = .ok (.iload_n 1, 1) := by decide +kernel
theorem dX4_depthOf_2 : decode cX4_depthOf 2 = .ok (.invokevirtual 54, 3) := by decide +kernel
theorem dX4_depthOf_5 : decode cX4_depthOf 5 = .ok (.ifCond .eq 12, 3) := by decide +kernel
theorem dX4_depthOf_8 : decode cX4_depthOf 8 = .ok (.aload_n 0, 1) := by decide +kernel
theorem dX4_depthOf_9 : decode cX4_depthOf 9 = .ok (.getfield 15, 3) := by decide +kernel
theorem dX4_depthOf_12 : decode cX4_depthOf 12 = .ok (.iload_n 1, 1) := by decide +kernel
theorem dX4_depthOf_13 : decode cX4_depthOf 13 = .ok (.iaload, 1) := by decide +kernel
theorem dX4_depthOf_14 : decode cX4_depthOf 14 = .ok (.goto 4, 3) := by decide +kernel
theorem dX4_depthOf_17 : decode cX4_depthOf 17 = .ok (.iconst (-1), 1) := by decide +kernel
theorem dX4_depthOf_18 : decode cX4_depthOf 18 = .ok (.ireturn, 1) := by decide +kernel
set_option maxRecDepth 20000 in
set_option maxHeartbeats 2000000 in
theorem w_X4_depthOf {X : CX} {d : Nat} (hd : 1 ≤ d) (l0 : Nat) (l1 : Int32) (g g' : G) (rx : Int32) (k_l0 : KD g l0 4) (h : f_X4_depthOf l0 l1 g = some (rx, g')) : Sem X m_X4_depthOf d [.ref (ad X l0), .int l1] g (some (.int rx)) g' := by
  refine Sem_of (lo := [(0, .ref (ad X l0)), (1, .int l1)]) (by decide +kernel) rfl (Nat.le_of_ble_eq_true rfl) ?_
  rw [f_X4_depthOf] at h
  refine SF_aload_n 0 1 dX4_depthOf_0 rfl rfl rfl ?_
  refine SF_iload_n 1 2 dX4_depthOf_1 rfl rfl rfl ?_
  obtain ⟨v1, g2, q3, h⟩ := bd_some h
  have s4 := w_X4_has (X := X) (Nat.le_refl 0) l0 l1 g g2 v1 k_l0 q3
  refine SF_callVb 5 mi_X4_has ml_X4_54 dX4_depthOf_2 (Nat.le_trans (by decide) hd) s4 k_l0.1 rfl rfl (Nat.le_of_ble_eq_true rfl) rfl ?_
  have k_l0 := k_l0.ext s4.1
  refine SF_ifeq 17 8 dX4_depthOf_5 rfl rfl (fun c5 => ?_) (fun c5 => ?_)
  · have h := ite_t c5 h
    refine SF_iconst (-1 : Int32) 18 dX4_depthOf_17 rfl rfl ?_
    exact RT_i rfl dX4_depthOf_18 h
  · have h := ite_f c5 h
    refine SF_aload_n 0 9 dX4_depthOf_8 rfl rfl rfl ?_
    obtain ⟨b6, r7, h⟩ := dr_some h
    refine SF_getR 12 fl_X4_15 dX4_depthOf_9 k_l0.1 r7 rfl ?_
    refine SF_iload_n 1 13 dX4_depthOf_12 rfl rfl rfl ?_
    obtain ⟨k8, h⟩ := gdK_some h
    obtain ⟨i9, h⟩ := gdI_some h
    refine SF_iald 14 dX4_depthOf_13 k8.1 i9 rfl ?_
    refine SF_goto 18 dX4_depthOf_14 rfl ?_
    exact RT_i rfl dX4_depthOf_18 h

theorem dX11_soonest_0 : decode cX11_soonest 0 = .ok (.aload_n 0, 1) := by decide +kernel
theorem dX11_soonest_1 : decode cX11_soonest 1 = .ok (.iload_n 1, 1) := by decide +kernel
theorem dX11_soonest_2 : decode cX11_soonest 2 = .ok (.iload_n 2, 1) := by decide +kernel
theorem dX11_soonest_3 : decode cX11_soonest 3 = .ok (.iload_n 3, 1) := by decide +kernel
theorem dX11_soonest_4 : decode cX11_soonest 4 = .ok (.invokevirtual 255, 3) := by decide +kernel
theorem dX11_soonest_7 : decode cX11_soonest 7 = .ok (.ifCond .ne 6, 3) := by decide +kernel
theorem dX11_soonest_10 : decode cX11_soonest 10 = .ok (.bipush (-2), 2) := by decide +kernel
theorem dX11_soonest_12 : decode cX11_soonest 12 = .ok (.ireturn, 1) := by decide +kernel
theorem dX11_soonest_13 : decode cX11_soonest 13 = .ok (.aload_n 0, 1) := by decide +kernel
theorem dX11_soonest_14 : decode cX11_soonest 14 = .ok (.iload_n 1, 1) := by decide +kernel
theorem dX11_soonest_15 : decode cX11_soonest 15 = .ok (.invokevirtual 259, 3) := by decide +kernel
theorem dX11_soonest_18 : decode cX11_soonest 18 = .ok (.astore 4, 2) := by decide +kernel
theorem dX11_soonest_20 : decode cX11_soonest 20 = .ok (.aload 4, 2) := by decide +kernel
theorem dX11_soonest_22 : decode cX11_soonest 22 = .ok (.aload 4, 2) := by decide +kernel
theorem dX11_soonest_24 : decode cX11_soonest 24 = .ok (.iload_n 2, 1) := by decide +kernel
theorem dX11_soonest_25 : decode cX11_soonest 25 = .ok (.iload_n 3, 1) := by decide +kernel
theorem dX11_soonest_26 : decode cX11_soonest 26 = .ok (.invokevirtual 263, 3) := by decide +kernel
theorem dX11_soonest_29 : decode cX11_soonest 29 = .ok (.invokevirtual 266, 3) := by decide +kernel
theorem dX11_soonest_32 : decode cX11_soonest 32 = .ok (.ireturn, 1) := by decide +kernel
set_option maxRecDepth 20000 in
set_option maxHeartbeats 2000000 in
theorem w_X11_soonest {X : CX} {d : Nat} (hd : 7 ≤ d) (l0 : Nat) (l1 : Int32) (l2 : Int32) (l3 : Int32) (g g' : G) (rx : Int32) (k_l0 : KD g l0 11) (h : f_X11_soonest l0 l1 l2 l3 g = some (rx, g')) : Sem X m_X11_soonest d [.ref (ad X l0), .int l1, .int l2, .int l3] g (some (.int rx)) g' := by
  refine Sem_of (lo := [(0, .ref (ad X l0)), (1, .int l1), (2, .int l2), (3, .int l3)]) (by decide +kernel) rfl (Nat.le_of_ble_eq_true rfl) ?_
  rw [f_X11_soonest] at h
  refine SF_aload_n 0 1 dX11_soonest_0 rfl rfl rfl ?_
  refine SF_iload_n 1 2 dX11_soonest_1 rfl rfl rfl ?_
  refine SF_iload_n 2 3 dX11_soonest_2 rfl rfl rfl ?_
  refine SF_iload_n 3 4 dX11_soonest_3 rfl rfl rfl ?_
  obtain ⟨v1, g2, q3, h⟩ := bd_some h
  have s4 := w_X11_isGoal (X := X) (Nat.le_refl 2) l0 l1 l2 l3 g g2 v1 k_l0 q3
  refine SF_callVb 7 mi_X11_isGoal ml_X11_255 dX11_soonest_4 (Nat.le_trans (by decide) hd) s4 k_l0.1 rfl rfl (Nat.le_of_ble_eq_true rfl) rfl ?_
  have k_l0 := k_l0.ext s4.1
  refine SF_ifne 13 10 dX11_soonest_7 rfl rfl (fun c5 => ?_) (fun c5 => ?_)
  · have h := ite_f c5 h
    refine SF_aload_n 0 14 dX11_soonest_13 rfl rfl rfl ?_
    refine SF_iload_n 1 15 dX11_soonest_14 rfl rfl rfl ?_
    obtain ⟨v6, g7, q8, h⟩ := bd_some h
    have s9 := w_X11_graphOf (X := X) (Nat.le_refl 6) l0 l1 g2 g7 v6 k_l0 q8
    refine SF_callVr 18 mi_X11_graphOf ml_X11_259 dX11_soonest_15 (Nat.le_trans (by decide) hd) s9 k_l0.1 rfl rfl (Nat.le_of_ble_eq_true rfl) rfl ?_
    have k_l0 := k_l0.ext s9.1
    refine SF_astore [(4, .ref (ad X v6)), (0, .ref (ad X l0)), (1, .int l1), (2, .int l2), (3, .int l3)] 20 dX11_soonest_18 (by decide) rfl rfl ?_
    refine SF_aload 0 22 dX11_soonest_20 rfl rfl ?_
    refine SF_aload 0 24 dX11_soonest_22 rfl rfl ?_
    refine SF_iload_n 3 25 dX11_soonest_24 rfl rfl rfl ?_
    refine SF_iload_n 4 26 dX11_soonest_25 rfl rfl rfl ?_
    obtain ⟨k10, h⟩ := gdK_some h
    obtain ⟨v11, g12, q13, h⟩ := bd_some h
    have s14 := w_X4_find (X := X) (Nat.le_refl 2) v6 l2 l3 g7 g12 v11 k10 q13
    refine SF_callVi 29 mi_X4_find ml_X11_263 dX11_soonest_26 (Nat.le_trans (by decide) hd) s14 k10.1 rfl rfl (Nat.le_of_ble_eq_true rfl) rfl ?_
    have k_l0 := k_l0.ext s14.1
    have k10 := k10.ext s14.1
    obtain ⟨v15, g16, q17, h⟩ := bd_some h
    have s18 := w_X4_depthOf (X := X) (Nat.le_refl 1) v6 v11 g12 g16 v15 k10 q17
    refine SF_callVi 32 mi_X4_depthOf ml_X11_266 dX11_soonest_29 (Nat.le_trans (by decide) hd) s18 k10.1 rfl rfl (Nat.le_of_ble_eq_true rfl) rfl ?_
    have k_l0 := k_l0.ext s18.1
    have k10 := k10.ext s18.1
    exact RT_i rfl dX11_soonest_32 h
  · have h := ite_t c5 h
    refine SF_bipush (-2 : Int32) 12 dX11_soonest_10 rfl rfl ?_
    exact RT_i rfl dX11_soonest_12 h

theorem dX12_isGoalTold_0 : decode cX12_isGoalTold 0 = .ok (.aload_n 0, 1) := by decide +kernel
theorem dX12_isGoalTold_1 : decode cX12_isGoalTold 1 = .ok (.iload_n 1, 1) := by decide +kernel
theorem dX12_isGoalTold_2 : decode cX12_isGoalTold 2 = .ok (.i2l, 1) := by decide +kernel
theorem dX12_isGoalTold_3 : decode cX12_isGoalTold 3 = .ok (.invokevirtual 255, 3) := by decide +kernel
theorem dX12_isGoalTold_6 : decode cX12_isGoalTold 6 = .ok (.ifCond .eq 35, 3) := by decide +kernel
theorem dX12_isGoalTold_9 : decode cX12_isGoalTold 9 = .ok (.iload_n 2, 1) := by decide +kernel
theorem dX12_isGoalTold_10 : decode cX12_isGoalTold 10 = .ok (.iconst (-1), 1) := by decide +kernel
theorem dX12_isGoalTold_11 : decode cX12_isGoalTold 11 = .ok (.if_icmp .eq 12, 3) := by decide +kernel
theorem dX12_isGoalTold_14 : decode cX12_isGoalTold 14 = .ok (.aload_n 0, 1) := by decide +kernel
theorem dX12_isGoalTold_15 : decode cX12_isGoalTold 15 = .ok (.iload_n 2, 1) := by decide +kernel
theorem dX12_isGoalTold_16 : decode cX12_isGoalTold 16 = .ok (.i2l, 1) := by decide +kernel
theorem dX12_isGoalTold_17 : decode cX12_isGoalTold 17 = .ok (.invokevirtual 264, 3) := by decide +kernel
theorem dX12_isGoalTold_20 : decode cX12_isGoalTold 20 = .ok (.ifCond .eq 21, 3) := by decide +kernel
theorem dX12_isGoalTold_23 : decode cX12_isGoalTold 23 = .ok (.iload_n 3, 1) := by decide +kernel
theorem dX12_isGoalTold_24 : decode cX12_isGoalTold 24 = .ok (.iconst (-1), 1) := by decide +kernel
theorem dX12_isGoalTold_25 : decode cX12_isGoalTold 25 = .ok (.if_icmp .eq 12, 3) := by decide +kernel
theorem dX12_isGoalTold_28 : decode cX12_isGoalTold 28 = .ok (.aload_n 0, 1) := by decide +kernel
theorem dX12_isGoalTold_29 : decode cX12_isGoalTold 29 = .ok (.iload_n 3, 1) := by decide +kernel
theorem dX12_isGoalTold_30 : decode cX12_isGoalTold 30 = .ok (.i2l, 1) := by decide +kernel
theorem dX12_isGoalTold_31 : decode cX12_isGoalTold 31 = .ok (.invokevirtual 264, 3) := by decide +kernel
theorem dX12_isGoalTold_34 : decode cX12_isGoalTold 34 = .ok (.ifCond .eq 7, 3) := by decide +kernel
theorem dX12_isGoalTold_37 : decode cX12_isGoalTold 37 = .ok (.iconst 1, 1) := by decide +kernel
theorem dX12_isGoalTold_38 : decode cX12_isGoalTold 38 = .ok (.goto 4, 3) := by decide +kernel
theorem dX12_isGoalTold_41 : decode cX12_isGoalTold 41 = .ok (.iconst 0, 1) := by decide +kernel
theorem dX12_isGoalTold_42 : decode cX12_isGoalTold 42 = .ok (.ireturn, 1) := by decide +kernel
set_option maxRecDepth 20000 in
set_option maxHeartbeats 2000000 in
theorem w_X12_isGoalTold_37 {X : CX} {d : Nat} (hd : 2 ≤ d) {g' : G} {rx : Bool} (g : G) (h : f_X12_isGoalTold_37 g = some (rx, g')) : SemF X m_X12_isGoalTold d 37 [] [] g (some (.int (b2i rx))) g' := by
  rw [f_X12_isGoalTold_37] at h
  refine SF_iconst (1 : Int32) 38 dX12_isGoalTold_37 rfl rfl ?_
  refine SF_goto 42 dX12_isGoalTold_38 rfl ?_
  exact RT_b rfl rfl dX12_isGoalTold_42 h

set_option maxRecDepth 20000 in
set_option maxHeartbeats 2000000 in
theorem w_X12_isGoalTold_23 {X : CX} {d : Nat} (hd : 2 ≤ d) {g' : G} {rx : Bool} (l0 : Nat) (l3 : Int32) (g : G) (k_l0 : KD g l0 12) (h : f_X12_isGoalTold_23 l0 l3 g = some (rx, g')) : SemF X m_X12_isGoalTold d 23 [(0, .ref (ad X l0)), (3, .int l3)] [] g (some (.int (b2i rx))) g' := by
  rw [f_X12_isGoalTold_23] at h
  refine SF_iload_n 1 24 dX12_isGoalTold_23 rfl rfl rfl ?_
  refine SF_iconst (-1 : Int32) 25 dX12_isGoalTold_24 rfl rfl ?_
  refine SF_iceq 37 28 dX12_isGoalTold_25 rfl rfl (fun c1 => ?_) (fun c1 => ?_)
  · have h := ite_t c1 h
    refine SF_sub [] rfl ?_
    exact w_X12_isGoalTold_37 hd g  h
  · have h := ite_f c1 h
    refine SF_aload_n 0 29 dX12_isGoalTold_28 rfl rfl rfl ?_
    refine SF_iload_n 1 30 dX12_isGoalTold_29 rfl rfl rfl ?_
    refine SF_i2l 31 dX12_isGoalTold_30 rfl ?_
    obtain ⟨v2, g3, q4, h⟩ := bd_some h
    have s5 := w_X12_isCell (X := X) (Nat.le_refl 1) l0 (l3.toInt64) g g3 v2 k_l0 q4
    refine SF_callVb 34 mi_X12_isCell ml_X12_264 dX12_isGoalTold_31 (Nat.le_trans (by decide) hd) s5 k_l0.1 rfl rfl (Nat.le_of_ble_eq_true rfl) rfl ?_
    have k_l0 := k_l0.ext s5.1
    refine SF_ifeq 41 37 dX12_isGoalTold_34 rfl rfl (fun c6 => ?_) (fun c6 => ?_)
    · have h := ite_t c6 h
      refine SF_iconst (0 : Int32) 42 dX12_isGoalTold_41 rfl rfl ?_
      exact RT_b rfl rfl dX12_isGoalTold_42 h
    · have h := ite_f c6 h
      refine SF_sub [] rfl ?_
      exact w_X12_isGoalTold_37 hd g3  h

set_option maxRecDepth 20000 in
set_option maxHeartbeats 2000000 in
theorem w_X12_isGoalTold {X : CX} {d : Nat} (hd : 2 ≤ d) (l0 : Nat) (l1 : Int32) (l2 : Int32) (l3 : Int32) (g g' : G) (rx : Bool) (k_l0 : KD g l0 12) (h : f_X12_isGoalTold l0 l1 l2 l3 g = some (rx, g')) : Sem X m_X12_isGoalTold d [.ref (ad X l0), .int l1, .int l2, .int l3] g (some (.int (b2i rx))) g' := by
  refine Sem_of (lo := [(0, .ref (ad X l0)), (1, .int l1), (2, .int l2), (3, .int l3)]) (by decide +kernel) rfl (Nat.le_of_ble_eq_true rfl) ?_
  rw [f_X12_isGoalTold] at h
  refine SF_aload_n 0 1 dX12_isGoalTold_0 rfl rfl rfl ?_
  refine SF_iload_n 1 2 dX12_isGoalTold_1 rfl rfl rfl ?_
  refine SF_i2l 3 dX12_isGoalTold_2 rfl ?_
  obtain ⟨v1, g2, q3, h⟩ := bd_some h
  have s4 := w_X12_isPair (X := X) (Nat.le_refl 1) l0 (l1.toInt64) g g2 v1 k_l0 q3
  refine SF_callVb 6 mi_X12_isPair ml_X12_255 dX12_isGoalTold_3 (Nat.le_trans (by decide) hd) s4 k_l0.1 rfl rfl (Nat.le_of_ble_eq_true rfl) rfl ?_
  have k_l0 := k_l0.ext s4.1
  refine SF_ifeq 41 9 dX12_isGoalTold_6 rfl rfl (fun c5 => ?_) (fun c5 => ?_)
  · have h := ite_t c5 h
    refine SF_iconst (0 : Int32) 42 dX12_isGoalTold_41 rfl rfl ?_
    exact RT_b rfl rfl dX12_isGoalTold_42 h
  · have h := ite_f c5 h
    refine SF_iload_n 2 10 dX12_isGoalTold_9 rfl rfl rfl ?_
    refine SF_iconst (-1 : Int32) 11 dX12_isGoalTold_10 rfl rfl ?_
    refine SF_iceq 23 14 dX12_isGoalTold_11 rfl rfl (fun c6 => ?_) (fun c6 => ?_)
    · have h := ite_t c6 h
      refine SF_sub [0, 3] rfl ?_
      exact w_X12_isGoalTold_23 hd l0 l3 g2 k_l0 h
    · have h := ite_f c6 h
      refine SF_aload_n 0 15 dX12_isGoalTold_14 rfl rfl rfl ?_
      refine SF_iload_n 2 16 dX12_isGoalTold_15 rfl rfl rfl ?_
      refine SF_i2l 17 dX12_isGoalTold_16 rfl ?_
      obtain ⟨v7, g8, q9, h⟩ := bd_some h
      have s10 := w_X12_isCell (X := X) (Nat.le_refl 1) l0 (l2.toInt64) g2 g8 v7 k_l0 q9
      refine SF_callVb 20 mi_X12_isCell ml_X12_264 dX12_isGoalTold_17 (Nat.le_trans (by decide) hd) s10 k_l0.1 rfl rfl (Nat.le_of_ble_eq_true rfl) rfl ?_
      have k_l0 := k_l0.ext s10.1
      refine SF_ifeq 41 23 dX12_isGoalTold_20 rfl rfl (fun c11 => ?_) (fun c11 => ?_)
      · have h := ite_t c11 h
        refine SF_iconst (0 : Int32) 42 dX12_isGoalTold_41 rfl rfl ?_
        exact RT_b rfl rfl dX12_isGoalTold_42 h
      · have h := ite_f c11 h
        refine SF_sub [0, 3] rfl ?_
        exact w_X12_isGoalTold_23 hd l0 l3 g8 k_l0 h

theorem dX12_inStand_0 : decode cX12_inStand 0 = .ok (.iload_n 1, 1) := by decide +kernel
theorem dX12_inStand_1 : decode cX12_inStand 1 = .ok (.ifCond .ne 10, 3) := by decide +kernel
theorem dX12_inStand_4 : decode cX12_inStand 4 = .ok (.iload_n 0, 1) := by decide +kernel
theorem dX12_inStand_5 : decode cX12_inStand 5 = .ok (.bipush 36, 2) := by decide +kernel
theorem dX12_inStand_7 : decode cX12_inStand 7 = .ok (.idiv, 1) := by decide +kernel
theorem dX12_inStand_8 : decode cX12_inStand 8 = .ok (.goto 7, 3) := by decide +kernel
theorem dX12_inStand_11 : decode cX12_inStand 11 = .ok (.iload_n 0, 1) := by decide +kernel
theorem dX12_inStand_12 : decode cX12_inStand 12 = .ok (.bipush 36, 2) := by decide +kernel
theorem dX12_inStand_14 : decode cX12_inStand 14 = .ok (.irem, 1) := by decide +kernel
theorem dX12_inStand_15 : decode cX12_inStand 15 = .ok (.ireturn, 1) := by decide +kernel
set_option maxRecDepth 20000 in
set_option maxHeartbeats 2000000 in
theorem w_X12_inStand {X : CX} {d : Nat} (hd : 0 ≤ d) (l0 : Int32) (l1 : Int32) (g g' : G) (rx : Int32) (h : f_X12_inStand l0 l1 g = some (rx, g')) : Sem X m_X12_inStand d [.int l0, .int l1] g (some (.int rx)) g' := by
  refine Sem_of (lo := [(0, .int l0), (1, .int l1)]) (by decide +kernel) rfl (Nat.le_of_ble_eq_true rfl) ?_
  rw [f_X12_inStand] at h
  refine SF_iload_n 1 1 dX12_inStand_0 rfl rfl rfl ?_
  refine SF_ifne 11 4 dX12_inStand_1 rfl rfl (fun c1 => ?_) (fun c1 => ?_)
  · have h := ite_f c1 h
    refine SF_iload_n 0 12 dX12_inStand_11 rfl rfl rfl ?_
    refine SF_bipush (36 : Int32) 14 dX12_inStand_12 rfl rfl ?_
    refine SF_irem 15 dX12_inStand_14 (by decide) rfl ?_
    exact RT_i rfl dX12_inStand_15 h
  · have h := ite_t c1 h
    refine SF_iload_n 0 5 dX12_inStand_4 rfl rfl rfl ?_
    refine SF_bipush (36 : Int32) 7 dX12_inStand_5 rfl rfl ?_
    refine SF_idiv 8 dX12_inStand_7 (by decide) rfl ?_
    refine SF_goto 15 dX12_inStand_8 rfl ?_
    exact RT_i rfl dX12_inStand_15 h

theorem dX12_standOf_0 : decode cX12_standOf 0 = .ok (.bipush 36, 2) := by decide +kernel
theorem dX12_standOf_2 : decode cX12_standOf 2 = .ok (.iload_n 0, 1) := by decide +kernel
theorem dX12_standOf_3 : decode cX12_standOf 3 = .ok (.imul, 1) := by decide +kernel
theorem dX12_standOf_4 : decode cX12_standOf 4 = .ok (.iload_n 1, 1) := by decide +kernel
theorem dX12_standOf_5 : decode cX12_standOf 5 = .ok (.iadd, 1) := by decide +kernel
theorem dX12_standOf_6 : decode cX12_standOf 6 = .ok (.ireturn, 1) := by decide +kernel
set_option maxRecDepth 20000 in
set_option maxHeartbeats 2000000 in
theorem w_X12_standOf {X : CX} {d : Nat} (hd : 0 ≤ d) (l0 : Int32) (l1 : Int32) (g g' : G) (rx : Int32) (h : f_X12_standOf l0 l1 g = some (rx, g')) : Sem X m_X12_standOf d [.int l0, .int l1] g (some (.int rx)) g' := by
  refine Sem_of (lo := [(0, .int l0), (1, .int l1)]) (by decide +kernel) rfl (Nat.le_of_ble_eq_true rfl) ?_
  rw [f_X12_standOf] at h
  refine SF_bipush (36 : Int32) 2 dX12_standOf_0 rfl rfl ?_
  refine SF_iload_n 0 3 dX12_standOf_2 rfl rfl rfl ?_
  refine SF_imul 4 dX12_standOf_3 rfl ?_
  refine SF_iload_n 1 5 dX12_standOf_4 rfl rfl rfl ?_
  refine SF_iadd 6 dX12_standOf_5 rfl ?_
  exact RT_i rfl dX12_standOf_6 h

theorem dX12_laysLead_0 : decode cX12_laysLead 0 = .ok (.iload_n 3, 1) := by decide +kernel
theorem dX12_laysLead_1 : decode cX12_laysLead 1 = .ok (.iconst 4, 1) := by decide +kernel
theorem dX12_laysLead_2 : decode cX12_laysLead 2 = .ok (.idiv, 1) := by decide +kernel
theorem dX12_laysLead_3 : decode cX12_laysLead 3 = .ok (.istore 4, 2) := by decide +kernel
theorem dX12_laysLead_5 : decode cX12_laysLead 5 = .ok (.iload_n 2, 1) := by decide +kernel
theorem dX12_laysLead_6 : decode cX12_laysLead 6 = .ok (.iload 4, 2) := by decide +kernel
theorem dX12_laysLead_8 : decode cX12_laysLead 8 = .ok (.invokestatic 347, 3) := by decide +kernel
theorem dX12_laysLead_11 : decode cX12_laysLead 11 = .ok (.istore 5, 2) := by decide +kernel
theorem dX12_laysLead_13 : decode cX12_laysLead 13 = .ok (.iload_n 2, 1) := by decide +kernel
theorem dX12_laysLead_14 : decode cX12_laysLead 14 = .ok (.iconst 1, 1) := by decide +kernel
theorem dX12_laysLead_15 : decode cX12_laysLead 15 = .ok (.iload 4, 2) := by decide +kernel
theorem dX12_laysLead_17 : decode cX12_laysLead 17 = .ok (.isub, 1) := by decide +kernel
theorem dX12_laysLead_18 : decode cX12_laysLead 18 = .ok (.invokestatic 347, 3) := by decide +kernel
theorem dX12_laysLead_21 : decode cX12_laysLead 21 = .ok (.istore 6, 2) := by decide +kernel
theorem dX12_laysLead_23 : decode cX12_laysLead 23 = .ok (.aload_n 0, 1) := by decide +kernel
theorem dX12_laysLead_24 : decode cX12_laysLead 24 = .ok (.getfield 42, 3) := by decide +kernel
theorem dX12_laysLead_27 : decode cX12_laysLead 27 = .ok (.bipush 8, 2) := by decide +kernel
theorem dX12_laysLead_29 : decode cX12_laysLead 29 = .ok (.iload_n 2, 1) := by decide +kernel
theorem dX12_laysLead_30 : decode cX12_laysLead 30 = .ok (.imul, 1) := by decide +kernel
theorem dX12_laysLead_31 : decode cX12_laysLead 31 = .ok (.iload_n 3, 1) := by decide +kernel
theorem dX12_laysLead_32 : decode cX12_laysLead 32 = .ok (.iadd, 1) := by decide +kernel
theorem dX12_laysLead_33 : decode cX12_laysLead 33 = .ok (.iconst (-1), 1) := by decide +kernel
theorem dX12_laysLead_34 : decode cX12_laysLead 34 = .ok (.iastore, 1) := by decide +kernel
theorem dX12_laysLead_35 : decode cX12_laysLead 35 = .ok (.aload_n 0, 1) := by decide +kernel
theorem dX12_laysLead_36 : decode cX12_laysLead 36 = .ok (.iload_n 1, 1) := by decide +kernel
theorem dX12_laysLead_37 : decode cX12_laysLead 37 = .ok (.iload 4, 2) := by decide +kernel
theorem dX12_laysLead_39 : decode cX12_laysLead 39 = .ok (.iload 5, 2) := by decide +kernel
theorem dX12_laysLead_41 : decode cX12_laysLead 41 = .ok (.iload 6, 2) := by decide +kernel
theorem dX12_laysLead_43 : decode cX12_laysLead 43 = .ok (.iload_n 3, 1) := by decide +kernel
theorem dX12_laysLead_44 : decode cX12_laysLead 44 = .ok (.iconst 4, 1) := by decide +kernel
theorem dX12_laysLead_45 : decode cX12_laysLead 45 = .ok (.irem, 1) := by decide +kernel
theorem dX12_laysLead_46 : decode cX12_laysLead 46 = .ok (.invokevirtual 261, 3) := by decide +kernel
theorem dX12_laysLead_49 : decode cX12_laysLead 49 = .ok (.ifCond .eq 4, 3) := by decide +kernel
theorem dX12_laysLead_52 : decode cX12_laysLead 52 = .ok (.return_, 1) := by decide +kernel
theorem dX12_laysLead_53 : decode cX12_laysLead 53 = .ok (.aload_n 0, 1) := by decide +kernel
theorem dX12_laysLead_54 : decode cX12_laysLead 54 = .ok (.getfield 42, 3) := by decide +kernel
theorem dX12_laysLead_57 : decode cX12_laysLead 57 = .ok (.bipush 8, 2) := by decide +kernel
theorem dX12_laysLead_59 : decode cX12_laysLead 59 = .ok (.iload_n 2, 1) := by decide +kernel
theorem dX12_laysLead_60 : decode cX12_laysLead 60 = .ok (.imul, 1) := by decide +kernel
theorem dX12_laysLead_61 : decode cX12_laysLead 61 = .ok (.iload_n 3, 1) := by decide +kernel
theorem dX12_laysLead_62 : decode cX12_laysLead 62 = .ok (.iadd, 1) := by decide +kernel
theorem dX12_laysLead_63 : decode cX12_laysLead 63 = .ok (.iload 4, 2) := by decide +kernel
theorem dX12_laysLead_65 : decode cX12_laysLead 65 = .ok (.ifCond .ne 17, 3) := by decide +kernel
theorem dX12_laysLead_68 : decode cX12_laysLead 68 = .ok (.aload_n 0, 1) := by decide +kernel
theorem dX12_laysLead_69 : decode cX12_laysLead 69 = .ok (.getfield 241, 3) := by decide +kernel
theorem dX12_laysLead_72 : decode cX12_laysLead 72 = .ok (.aload_n 0, 1) := by decide +kernel
theorem dX12_laysLead_73 : decode cX12_laysLead 73 = .ok (.getfield 252, 3) := by decide +kernel
theorem dX12_laysLead_76 : decode cX12_laysLead 76 = .ok (.invokestatic 344, 3) := by decide +kernel
theorem dX12_laysLead_79 : decode cX12_laysLead 79 = .ok (.goto 14, 3) := by decide +kernel
theorem dX12_laysLead_82 : decode cX12_laysLead 82 = .ok (.aload_n 0, 1) := by decide +kernel
theorem dX12_laysLead_83 : decode cX12_laysLead 83 = .ok (.getfield 252, 3) := by decide +kernel
theorem dX12_laysLead_86 : decode cX12_laysLead 86 = .ok (.aload_n 0, 1) := by decide +kernel
theorem dX12_laysLead_87 : decode cX12_laysLead 87 = .ok (.getfield 241, 3) := by decide +kernel
theorem dX12_laysLead_90 : decode cX12_laysLead 90 = .ok (.invokestatic 344, 3) := by decide +kernel
theorem dX12_laysLead_93 : decode cX12_laysLead 93 = .ok (.iastore, 1) := by decide +kernel
theorem dX12_laysLead_94 : decode cX12_laysLead 94 = .ok (.aload_n 0, 1) := by decide +kernel
theorem dX12_laysLead_95 : decode cX12_laysLead 95 = .ok (.getfield 45, 3) := by decide +kernel
theorem dX12_laysLead_98 : decode cX12_laysLead 98 = .ok (.bipush 8, 2) := by decide +kernel
theorem dX12_laysLead_100 : decode cX12_laysLead 100 = .ok (.iload_n 2, 1) := by decide +kernel
theorem dX12_laysLead_101 : decode cX12_laysLead 101 = .ok (.imul, 1) := by decide +kernel
theorem dX12_laysLead_102 : decode cX12_laysLead 102 = .ok (.iload_n 3, 1) := by decide +kernel
theorem dX12_laysLead_103 : decode cX12_laysLead 103 = .ok (.iadd, 1) := by decide +kernel
theorem dX12_laysLead_104 : decode cX12_laysLead 104 = .ok (.aload_n 0, 1) := by decide +kernel
theorem dX12_laysLead_105 : decode cX12_laysLead 105 = .ok (.iload_n 1, 1) := by decide +kernel
theorem dX12_laysLead_106 : decode cX12_laysLead 106 = .ok (.iload 4, 2) := by decide +kernel
theorem dX12_laysLead_108 : decode cX12_laysLead 108 = .ok (.iload 5, 2) := by decide +kernel
theorem dX12_laysLead_110 : decode cX12_laysLead 110 = .ok (.aload_n 0, 1) := by decide +kernel
theorem dX12_laysLead_111 : decode cX12_laysLead 111 = .ok (.getfield 241, 3) := by decide +kernel
theorem dX12_laysLead_114 : decode cX12_laysLead 114 = .ok (.invokevirtual 274, 3) := by decide +kernel
theorem dX12_laysLead_117 : decode cX12_laysLead 117 = .ok (.aload_n 0, 1) := by decide +kernel
theorem dX12_laysLead_118 : decode cX12_laysLead 118 = .ok (.iload_n 1, 1) := by decide +kernel
theorem dX12_laysLead_119 : decode cX12_laysLead 119 = .ok (.iconst 1, 1) := by decide +kernel
theorem dX12_laysLead_120 : decode cX12_laysLead 120 = .ok (.iload 4, 2) := by decide +kernel
theorem dX12_laysLead_122 : decode cX12_laysLead 122 = .ok (.isub, 1) := by decide +kernel
theorem dX12_laysLead_123 : decode cX12_laysLead 123 = .ok (.iload 6, 2) := by decide +kernel
theorem dX12_laysLead_125 : decode cX12_laysLead 125 = .ok (.aload_n 0, 1) := by decide +kernel
theorem dX12_laysLead_126 : decode cX12_laysLead 126 = .ok (.getfield 252, 3) := by decide +kernel
theorem dX12_laysLead_129 : decode cX12_laysLead 129 = .ok (.invokevirtual 274, 3) := by decide +kernel
theorem dX12_laysLead_132 : decode cX12_laysLead 132 = .ok (.iadd, 1) := by decide +kernel
theorem dX12_laysLead_133 : decode cX12_laysLead 133 = .ok (.iastore, 1) := by decide +kernel
theorem dX12_laysLead_134 : decode cX12_laysLead 134 = .ok (.return_, 1) := by decide +kernel
set_option maxRecDepth 20000 in
set_option maxHeartbeats 2000000 in
theorem w_X12_laysLead_93 {X : CX} {d : Nat} (hd : 5 ≤ d) {g' : G} {rx : Unit} (l0 : Nat) (l1 : Int32) (l2 : Int32) (l3 : Int32) (l4 : Int32) (l5 : Int32) (l6 : Int32) (s0 : Int32) (s1 : Int32) (s2 : Nat) (g : G) (k_l0 : KD g l0 12) (k_s2 : KD g s2 14) (h : f_X12_laysLead_93 l0 l1 l2 l3 l4 l5 l6 s0 s1 s2 g = some (rx, g')) : SemF X m_X12_laysLead d 93 [(0, .ref (ad X l0)), (1, .int l1), (2, .int l2), (3, .int l3), (4, .int l4), (5, .int l5), (6, .int l6)] [.int s0, .int s1, .ref (ad X s2)] g none g' := by
  rw [f_X12_laysLead_93] at h
  obtain ⟨i1, h⟩ := gdI_some h
  refine SF_iast 94 dX12_laysLead_93 k_s2.1 i1 rfl ?_
  obtain ⟨g2, e3, h⟩ := lg_some h
  rw [← e3]
  have k_l0 := KD.eq e3 k_l0
  have k_s2 := KD.eq e3 k_s2
  have i1 := vp_eq e3 i1
  refine SF_aload_n 0 95 dX12_laysLead_94 rfl rfl rfl ?_
  obtain ⟨b4, r5, h⟩ := dr_some h
  refine SF_getR 98 fl_X12_45 dX12_laysLead_95 k_l0.1 r5 rfl ?_
  refine SF_bipush (8 : Int32) 100 dX12_laysLead_98 rfl rfl ?_
  refine SF_iload_n 2 101 dX12_laysLead_100 rfl rfl rfl ?_
  refine SF_imul 102 dX12_laysLead_101 rfl ?_
  refine SF_iload_n 3 103 dX12_laysLead_102 rfl rfl rfl ?_
  refine SF_iadd 104 dX12_laysLead_103 rfl ?_
  refine SF_aload_n 0 105 dX12_laysLead_104 rfl rfl rfl ?_
  refine SF_iload_n 1 106 dX12_laysLead_105 rfl rfl rfl ?_
  refine SF_iload 4 108 dX12_laysLead_106 rfl rfl ?_
  refine SF_iload 5 110 dX12_laysLead_108 rfl rfl ?_
  refine SF_aload_n 0 111 dX12_laysLead_110 rfl rfl rfl ?_
  refine SF_getI 114 fl_X12_241 dX12_laysLead_111 k_l0.1 rfl ?_
  obtain ⟨v6, g7, q8, h⟩ := bd_some h
  have s9 := w_X12_costOf (X := X) (Nat.le_refl 3) l0 l1 l4 l5 (gI g2 l0 17) g2 g7 v6 k_l0 q8
  refine SF_callVi 117 mi_X12_costOf ml_X12_274 dX12_laysLead_114 (Nat.le_trans (by decide) hd) s9 k_l0.1 rfl rfl (Nat.le_of_ble_eq_true rfl) rfl ?_
  have k_l0 := k_l0.ext s9.1
  have k_s2 := k_s2.ext s9.1
  refine SF_aload_n 0 118 dX12_laysLead_117 rfl rfl rfl ?_
  refine SF_iload_n 1 119 dX12_laysLead_118 rfl rfl rfl ?_
  refine SF_iconst (1 : Int32) 120 dX12_laysLead_119 rfl rfl ?_
  refine SF_iload 4 122 dX12_laysLead_120 rfl rfl ?_
  refine SF_isub 123 dX12_laysLead_122 rfl ?_
  refine SF_iload 6 125 dX12_laysLead_123 rfl rfl ?_
  refine SF_aload_n 0 126 dX12_laysLead_125 rfl rfl rfl ?_
  refine SF_getI 129 fl_X12_252 dX12_laysLead_126 k_l0.1 rfl ?_
  obtain ⟨v10, g11, q12, h⟩ := bd_some h
  have s13 := w_X12_costOf (X := X) (Nat.le_refl 3) l0 l1 ((1 : Int32) - l4) l6 (gI g7 l0 18) g7 g11 v10 k_l0 q12
  refine SF_callVi 132 mi_X12_costOf ml_X12_274 dX12_laysLead_129 (Nat.le_trans (by decide) hd) s13 k_l0.1 rfl rfl (Nat.le_of_ble_eq_true rfl) rfl ?_
  have k_l0 := k_l0.ext s13.1
  have k_s2 := k_s2.ext s13.1
  refine SF_iadd 133 dX12_laysLead_132 rfl ?_
  obtain ⟨k14, h⟩ := gdK_some h
  obtain ⟨i15, h⟩ := gdI_some h
  refine SF_iast 134 dX12_laysLead_133 k14.1 i15 rfl ?_
  obtain ⟨g16, e17, h⟩ := lg_some h
  rw [← e17]
  have k_l0 := KD.eq e17 k_l0
  have k_s2 := KD.eq e17 k_s2
  have k14 := KD.eq e17 k14
  have i15 := vp_eq e17 i15
  exact RT_v rfl dX12_laysLead_134 h

set_option maxRecDepth 20000 in
set_option maxHeartbeats 2000000 in
theorem w_X12_laysLead {X : CX} {d : Nat} (hd : 5 ≤ d) (l0 : Nat) (l1 : Int32) (l2 : Int32) (l3 : Int32) (g g' : G) (rx : Unit) (k_l0 : KD g l0 12) (h : f_X12_laysLead l0 l1 l2 l3 g = some (rx, g')) : Sem X m_X12_laysLead d [.ref (ad X l0), .int l1, .int l2, .int l3] g none g' := by
  refine Sem_of (lo := [(0, .ref (ad X l0)), (1, .int l1), (2, .int l2), (3, .int l3)]) (by decide +kernel) rfl (Nat.le_of_ble_eq_true rfl) ?_
  rw [f_X12_laysLead] at h
  refine SF_iload_n 3 1 dX12_laysLead_0 rfl rfl rfl ?_
  refine SF_iconst (4 : Int32) 2 dX12_laysLead_1 rfl rfl ?_
  refine SF_idiv 3 dX12_laysLead_2 (by decide) rfl ?_
  obtain ⟨y1, e2, h⟩ := li_some h
  refine SF_eqI e2 ?_
  refine SF_istore [(4, .int y1), (0, .ref (ad X l0)), (1, .int l1), (2, .int l2), (3, .int l3)] 5 dX12_laysLead_3 (by decide) rfl rfl ?_
  refine SF_iload_n 3 6 dX12_laysLead_5 rfl rfl rfl ?_
  refine SF_iload 0 8 dX12_laysLead_6 rfl rfl ?_
  obtain ⟨v3, g4, q5, h⟩ := bd_some h
  have s6 := w_X12_inStand (X := X) (Nat.le_refl 0) l2 y1 g g4 v3 q5
  refine SF_callSi 11 mi_X12_inStand ml_X12_347 dX12_laysLead_8 (Nat.le_trans (by decide) hd) s6 rfl rfl (Nat.le_of_ble_eq_true rfl) rfl ?_
  have k_l0 := k_l0.ext s6.1
  refine SF_istore [(5, .int v3), (4, .int y1), (0, .ref (ad X l0)), (1, .int l1), (2, .int l2), (3, .int l3)] 13 dX12_laysLead_11 (by decide) rfl rfl ?_
  refine SF_iload_n 4 14 dX12_laysLead_13 rfl rfl rfl ?_
  refine SF_iconst (1 : Int32) 15 dX12_laysLead_14 rfl rfl ?_
  refine SF_iload 1 17 dX12_laysLead_15 rfl rfl ?_
  refine SF_isub 18 dX12_laysLead_17 rfl ?_
  obtain ⟨v7, g8, q9, h⟩ := bd_some h
  have s10 := w_X12_inStand (X := X) (Nat.le_refl 0) l2 ((1 : Int32) - y1) g4 g8 v7 q9
  refine SF_callSi 21 mi_X12_inStand ml_X12_347 dX12_laysLead_18 (Nat.le_trans (by decide) hd) s10 rfl rfl (Nat.le_of_ble_eq_true rfl) rfl ?_
  have k_l0 := k_l0.ext s10.1
  refine SF_istore [(6, .int v7), (5, .int v3), (4, .int y1), (0, .ref (ad X l0)), (1, .int l1), (2, .int l2), (3, .int l3)] 23 dX12_laysLead_21 (by decide) rfl rfl ?_
  refine SF_aload_n 3 24 dX12_laysLead_23 rfl rfl rfl ?_
  obtain ⟨b11, r12, h⟩ := dr_some h
  refine SF_getR 27 fl_X12_42 dX12_laysLead_24 k_l0.1 r12 rfl ?_
  refine SF_bipush (8 : Int32) 29 dX12_laysLead_27 rfl rfl ?_
  refine SF_iload_n 5 30 dX12_laysLead_29 rfl rfl rfl ?_
  refine SF_imul 31 dX12_laysLead_30 rfl ?_
  refine SF_iload_n 6 32 dX12_laysLead_31 rfl rfl rfl ?_
  refine SF_iadd 33 dX12_laysLead_32 rfl ?_
  refine SF_iconst (-1 : Int32) 34 dX12_laysLead_33 rfl rfl ?_
  obtain ⟨k13, h⟩ := gdK_some h
  obtain ⟨i14, h⟩ := gdI_some h
  refine SF_iast 35 dX12_laysLead_34 k13.1 i14 rfl ?_
  obtain ⟨g15, e16, h⟩ := lg_some h
  rw [← e16]
  have k_l0 := KD.eq e16 k_l0
  have k13 := KD.eq e16 k13
  have r12 := gR_eq e16 r12
  have i14 := vp_eq e16 i14
  refine SF_aload_n 3 36 dX12_laysLead_35 rfl rfl rfl ?_
  refine SF_iload_n 4 37 dX12_laysLead_36 rfl rfl rfl ?_
  refine SF_iload 2 39 dX12_laysLead_37 rfl rfl ?_
  refine SF_iload 1 41 dX12_laysLead_39 rfl rfl ?_
  refine SF_iload 0 43 dX12_laysLead_41 rfl rfl ?_
  refine SF_iload_n 6 44 dX12_laysLead_43 rfl rfl rfl ?_
  refine SF_iconst (4 : Int32) 45 dX12_laysLead_44 rfl rfl ?_
  refine SF_irem 46 dX12_laysLead_45 (by decide) rfl ?_
  obtain ⟨v17, g18, q19, h⟩ := bd_some h
  have s20 := w_X12_whyBy (X := X) (Nat.le_refl 4) l0 l1 y1 v3 v7 (l3 - l3 / (4 : Int32) * (4 : Int32)) g15 g18 v17 k_l0 q19
  refine SF_callVi 49 mi_X12_whyBy ml_X12_261 dX12_laysLead_46 (Nat.le_trans (by decide) hd) s20 k_l0.1 rfl rfl (Nat.le_of_ble_eq_true rfl) rfl ?_
  have k_l0 := k_l0.ext s20.1
  have k13 := k13.ext s20.1
  refine SF_ifeq 53 52 dX12_laysLead_49 rfl rfl (fun c21 => ?_) (fun c21 => ?_)
  · have h := ite_t c21 h
    refine SF_aload_n 3 54 dX12_laysLead_53 rfl rfl rfl ?_
    obtain ⟨b22, r23, h⟩ := dr_some h
    refine SF_getR 57 fl_X12_42 dX12_laysLead_54 k_l0.1 r23 rfl ?_
    refine SF_bipush (8 : Int32) 59 dX12_laysLead_57 rfl rfl ?_
    refine SF_iload_n 5 60 dX12_laysLead_59 rfl rfl rfl ?_
    refine SF_imul 61 dX12_laysLead_60 rfl ?_
    refine SF_iload_n 6 62 dX12_laysLead_61 rfl rfl rfl ?_
    refine SF_iadd 63 dX12_laysLead_62 rfl ?_
    refine SF_iload 2 65 dX12_laysLead_63 rfl rfl ?_
    refine SF_ifne 82 68 dX12_laysLead_65 rfl rfl (fun c24 => ?_) (fun c24 => ?_)
    · have h := ite_f c24 h
      refine SF_aload_n 3 83 dX12_laysLead_82 rfl rfl rfl ?_
      refine SF_getI 86 fl_X12_252 dX12_laysLead_83 k_l0.1 rfl ?_
      refine SF_aload_n 3 87 dX12_laysLead_86 rfl rfl rfl ?_
      refine SF_getI 90 fl_X12_241 dX12_laysLead_87 k_l0.1 rfl ?_
      obtain ⟨v25, g26, q27, h⟩ := bd_some h
      have s28 := w_X12_standOf (X := X) (Nat.le_refl 0) (gI g18 l0 18) (gI g18 l0 17) g18 g26 v25 q27
      refine SF_callSi 93 mi_X12_standOf ml_X12_344 dX12_laysLead_90 (Nat.le_trans (by decide) hd) s28 rfl rfl (Nat.le_of_ble_eq_true rfl) rfl ?_
      have k_l0 := k_l0.ext s28.1
      have k13 := k13.ext s28.1
      obtain ⟨k29, h⟩ := gdK_some h
      refine SF_sub [3, 4, 5, 6, 2, 1, 0] rfl ?_
      exact w_X12_laysLead_93 hd l0 l1 l2 l3 y1 v3 v7 v25 (((8 : Int32) * l2) + l3) b22 g26 k_l0 k29 h
    · have h := ite_t c24 h
      refine SF_aload_n 3 69 dX12_laysLead_68 rfl rfl rfl ?_
      refine SF_getI 72 fl_X12_241 dX12_laysLead_69 k_l0.1 rfl ?_
      refine SF_aload_n 3 73 dX12_laysLead_72 rfl rfl rfl ?_
      refine SF_getI 76 fl_X12_252 dX12_laysLead_73 k_l0.1 rfl ?_
      obtain ⟨v30, g31, q32, h⟩ := bd_some h
      have s33 := w_X12_standOf (X := X) (Nat.le_refl 0) (gI g18 l0 17) (gI g18 l0 18) g18 g31 v30 q32
      refine SF_callSi 79 mi_X12_standOf ml_X12_344 dX12_laysLead_76 (Nat.le_trans (by decide) hd) s33 rfl rfl (Nat.le_of_ble_eq_true rfl) rfl ?_
      have k_l0 := k_l0.ext s33.1
      have k13 := k13.ext s33.1
      refine SF_goto 93 dX12_laysLead_79 rfl ?_
      obtain ⟨k34, h⟩ := gdK_some h
      refine SF_sub [3, 4, 5, 6, 2, 1, 0] rfl ?_
      exact w_X12_laysLead_93 hd l0 l1 l2 l3 y1 v3 v7 v30 (((8 : Int32) * l2) + l3) b22 g31 k_l0 k34 h
  · have h := ite_f c21 h
    exact RT_v rfl dX12_laysLead_52 h

theorem dX12_laysStands_0 : decode cX12_laysStands 0 = .ok (.iconst 0, 1) := by decide +kernel
theorem dX12_laysStands_1 : decode cX12_laysStands 1 = .ok (.istore_n 2, 1) := by decide +kernel
theorem dX12_laysStands_2 : decode cX12_laysStands 2 = .ok (.iload_n 2, 1) := by decide +kernel
theorem dX12_laysStands_3 : decode cX12_laysStands 3 = .ok (.sipush 1296, 3) := by decide +kernel
theorem dX12_laysStands_6 : decode cX12_laysStands 6 = .ok (.if_icmp .ge 123, 3) := by decide +kernel
theorem dX12_laysStands_9 : decode cX12_laysStands 9 = .ok (.iload_n 2, 1) := by decide +kernel
theorem dX12_laysStands_10 : decode cX12_laysStands 10 = .ok (.iconst 0, 1) := by decide +kernel
theorem dX12_laysStands_11 : decode cX12_laysStands 11 = .ok (.invokestatic 347, 3) := by decide +kernel
theorem dX12_laysStands_14 : decode cX12_laysStands 14 = .ok (.istore_n 3, 1) := by decide +kernel
theorem dX12_laysStands_15 : decode cX12_laysStands 15 = .ok (.iload_n 2, 1) := by decide +kernel
theorem dX12_laysStands_16 : decode cX12_laysStands 16 = .ok (.iconst 1, 1) := by decide +kernel
theorem dX12_laysStands_17 : decode cX12_laysStands 17 = .ok (.invokestatic 347, 3) := by decide +kernel
theorem dX12_laysStands_20 : decode cX12_laysStands 20 = .ok (.istore 4, 2) := by decide +kernel
theorem dX12_laysStands_22 : decode cX12_laysStands 22 = .ok (.aload_n 0, 1) := by decide +kernel
theorem dX12_laysStands_23 : decode cX12_laysStands 23 = .ok (.getfield 39, 3) := by decide +kernel
theorem dX12_laysStands_26 : decode cX12_laysStands 26 = .ok (.iload_n 2, 1) := by decide +kernel
theorem dX12_laysStands_27 : decode cX12_laysStands 27 = .ok (.aload_n 0, 1) := by decide +kernel
theorem dX12_laysStands_28 : decode cX12_laysStands 28 = .ok (.iload_n 3, 1) := by decide +kernel
theorem dX12_laysStands_29 : decode cX12_laysStands 29 = .ok (.i2l, 1) := by decide +kernel
theorem dX12_laysStands_30 : decode cX12_laysStands 30 = .ok (.invokevirtual 264, 3) := by decide +kernel
theorem dX12_laysStands_33 : decode cX12_laysStands 33 = .ok (.ifCond .eq 55, 3) := by decide +kernel
theorem dX12_laysStands_36 : decode cX12_laysStands 36 = .ok (.aload_n 0, 1) := by decide +kernel
theorem dX12_laysStands_37 : decode cX12_laysStands 37 = .ok (.iload 4, 2) := by decide +kernel
theorem dX12_laysStands_39 : decode cX12_laysStands 39 = .ok (.i2l, 1) := by decide +kernel
theorem dX12_laysStands_40 : decode cX12_laysStands 40 = .ok (.invokevirtual 264, 3) := by decide +kernel
theorem dX12_laysStands_43 : decode cX12_laysStands 43 = .ok (.ifCond .eq 45, 3) := by decide +kernel
theorem dX12_laysStands_46 : decode cX12_laysStands 46 = .ok (.aload_n 0, 1) := by decide +kernel
theorem dX12_laysStands_47 : decode cX12_laysStands 47 = .ok (.iload_n 3, 1) := by decide +kernel
theorem dX12_laysStands_48 : decode cX12_laysStands 48 = .ok (.iload 4, 2) := by decide +kernel
theorem dX12_laysStands_50 : decode cX12_laysStands 50 = .ok (.invokevirtual 208, 3) := by decide +kernel
theorem dX12_laysStands_53 : decode cX12_laysStands 53 = .ok (.aload_n 0, 1) := by decide +kernel
theorem dX12_laysStands_54 : decode cX12_laysStands 54 = .ok (.getfield 13, 3) := by decide +kernel
theorem dX12_laysStands_57 : decode cX12_laysStands 57 = .ok (.bipush 94, 2) := by decide +kernel
theorem dX12_laysStands_59 : decode cX12_laysStands 59 = .ok (.iload_n 1, 1) := by decide +kernel
theorem dX12_laysStands_60 : decode cX12_laysStands 60 = .ok (.iadd, 1) := by decide +kernel
theorem dX12_laysStands_61 : decode cX12_laysStands 61 = .ok (.iaload, 1) := by decide +kernel
theorem dX12_laysStands_62 : decode cX12_laysStands 62 = .ok (.if_icmp .ne 26, 3) := by decide +kernel
theorem dX12_laysStands_65 : decode cX12_laysStands 65 = .ok (.aload_n 0, 1) := by decide +kernel
theorem dX12_laysStands_66 : decode cX12_laysStands 66 = .ok (.iload_n 1, 1) := by decide +kernel
theorem dX12_laysStands_67 : decode cX12_laysStands 67 = .ok (.iload_n 3, 1) := by decide +kernel
theorem dX12_laysStands_68 : decode cX12_laysStands 68 = .ok (.invokevirtual 244, 3) := by decide +kernel
theorem dX12_laysStands_71 : decode cX12_laysStands 71 = .ok (.ifCond .eq 17, 3) := by decide +kernel
theorem dX12_laysStands_74 : decode cX12_laysStands 74 = .ok (.aload_n 0, 1) := by decide +kernel
theorem dX12_laysStands_75 : decode cX12_laysStands 75 = .ok (.iload_n 1, 1) := by decide +kernel
theorem dX12_laysStands_76 : decode cX12_laysStands 76 = .ok (.iload 4, 2) := by decide +kernel
theorem dX12_laysStands_78 : decode cX12_laysStands 78 = .ok (.invokevirtual 244, 3) := by decide +kernel
theorem dX12_laysStands_81 : decode cX12_laysStands 81 = .ok (.ifCond .eq 7, 3) := by decide +kernel
theorem dX12_laysStands_84 : decode cX12_laysStands 84 = .ok (.iconst 1, 1) := by decide +kernel
theorem dX12_laysStands_85 : decode cX12_laysStands 85 = .ok (.goto 4, 3) := by decide +kernel
theorem dX12_laysStands_88 : decode cX12_laysStands 88 = .ok (.iconst 0, 1) := by decide +kernel
theorem dX12_laysStands_89 : decode cX12_laysStands 89 = .ok (.bastore, 1) := by decide +kernel
theorem dX12_laysStands_90 : decode cX12_laysStands 90 = .ok (.iconst 0, 1) := by decide +kernel
theorem dX12_laysStands_91 : decode cX12_laysStands 91 = .ok (.istore 5, 2) := by decide +kernel
theorem dX12_laysStands_93 : decode cX12_laysStands 93 = .ok (.iload 5, 2) := by decide +kernel
theorem dX12_laysStands_95 : decode cX12_laysStands 95 = .ok (.bipush 8, 2) := by decide +kernel
theorem dX12_laysStands_97 : decode cX12_laysStands 97 = .ok (.if_icmp .ge 26, 3) := by decide +kernel
theorem dX12_laysStands_100 : decode cX12_laysStands 100 = .ok (.aload_n 0, 1) := by decide +kernel
theorem dX12_laysStands_101 : decode cX12_laysStands 101 = .ok (.getfield 39, 3) := by decide +kernel
theorem dX12_laysStands_104 : decode cX12_laysStands 104 = .ok (.iload_n 2, 1) := by decide +kernel
theorem dX12_laysStands_105 : decode cX12_laysStands 105 = .ok (.baload, 1) := by decide +kernel
theorem dX12_laysStands_106 : decode cX12_laysStands 106 = .ok (.ifCond .eq 17, 3) := by decide +kernel
theorem dX12_laysStands_109 : decode cX12_laysStands 109 = .ok (.aload_n 0, 1) := by decide +kernel
theorem dX12_laysStands_110 : decode cX12_laysStands 110 = .ok (.iload_n 1, 1) := by decide +kernel
theorem dX12_laysStands_111 : decode cX12_laysStands 111 = .ok (.iload_n 2, 1) := by decide +kernel
theorem dX12_laysStands_112 : decode cX12_laysStands 112 = .ok (.iload 5, 2) := by decide +kernel
theorem dX12_laysStands_114 : decode cX12_laysStands 114 = .ok (.invokevirtual 350, 3) := by decide +kernel
theorem dX12_laysStands_117 : decode cX12_laysStands 117 = .ok (.iinc 5 1, 3) := by decide +kernel
theorem dX12_laysStands_120 : decode cX12_laysStands 120 = .ok (.goto (-27), 3) := by decide +kernel
theorem dX12_laysStands_123 : decode cX12_laysStands 123 = .ok (.iinc 2 1, 3) := by decide +kernel
theorem dX12_laysStands_126 : decode cX12_laysStands 126 = .ok (.goto (-124), 3) := by decide +kernel
theorem dX12_laysStands_129 : decode cX12_laysStands 129 = .ok (.return_, 1) := by decide +kernel
set_option maxRecDepth 20000 in
set_option maxHeartbeats 2000000 in
theorem w_X12_laysStands_123 {X : CX} {d : Nat} (hd : 6 ≤ d) {g' : G} {rx : Unit} (k2 : Nat → Int32 → Int32 → G → Option (Unit × G)) (hk2 : ∀ (l0 : Nat) (l1 : Int32) (l2 : Int32) (g : G), KD g l0 12 → k2 l0 l1 l2 g = some (rx, g') → SemF X m_X12_laysStands d 2 [(0, .ref (ad X l0)), (1, .int l1), (2, .int l2)] [] g none g') (l0 : Nat) (l1 : Int32) (l2 : Int32) (g : G) (k_l0 : KD g l0 12) (h : f_X12_laysStands_123 k2 l0 l1 l2 g = some (rx, g')) : SemF X m_X12_laysStands d 123 [(0, .ref (ad X l0)), (1, .int l1), (2, .int l2)] [] g none g' := by
  rw [f_X12_laysStands_123] at h
  refine SF_iinc 2 (l2 + (1 : Int32)) [(2, .int (l2 + (1 : Int32))), (0, .ref (ad X l0)), (1, .int l1)] 126 dX12_laysStands_123 rfl rfl (by decide) rfl rfl ?_
  refine SF_goto 2 dX12_laysStands_126 rfl ?_
  refine SF_sub [1, 2, 0] rfl ?_
  exact hk2 l0 l1 (l2 + (1 : Int32)) g k_l0 h

set_option maxRecDepth 20000 in
set_option maxHeartbeats 2000000 in
theorem w_X12_laysStands_93 {X : CX} {d : Nat} (hd : 6 ≤ d) {g' : G} {rx : Unit} (k2 : Nat → Int32 → Int32 → G → Option (Unit × G)) (hk2 : ∀ (l0 : Nat) (l1 : Int32) (l2 : Int32) (g : G), KD g l0 12 → k2 l0 l1 l2 g = some (rx, g') → SemF X m_X12_laysStands d 2 [(0, .ref (ad X l0)), (1, .int l1), (2, .int l2)] [] g none g') : ∀ (n : Nat) (l0 : Nat) (l1 : Int32) (l2 : Int32) (l5 : Int32) (g : G), KD g l0 12 → f_X12_laysStands_93 k2 n l0 l1 l2 l5 g = some (rx, g') → SemF X m_X12_laysStands d 93 [(0, .ref (ad X l0)), (1, .int l1), (2, .int l2), (5, .int l5)] [] g none g' := by
  intro n
  induction n with
  | zero =>
    intro l0 l1 l2 l5 g k_l0 h
    rw [f_X12_laysStands_93] at h
    cases h
  | succ n ih =>
  intro l0 l1 l2 l5 g k_l0 h
  rw [f_X12_laysStands_93] at h
  refine SF_iload 3 95 dX12_laysStands_93 rfl rfl ?_
  refine SF_bipush (8 : Int32) 97 dX12_laysStands_95 rfl rfl ?_
  refine SF_icge 123 100 dX12_laysStands_97 rfl rfl (fun c1 => ?_) (fun c1 => ?_)
  · have h := ite_t c1 h
    refine SF_sub [0, 1, 2] rfl ?_
    exact w_X12_laysStands_123 hd k2 hk2 l0 l1 l2 g k_l0 h
  · have h := ite_f c1 h
    refine SF_aload_n 0 101 dX12_laysStands_100 rfl rfl rfl ?_
    obtain ⟨b2, r3, h⟩ := dr_some h
    refine SF_getR 104 fl_X12_39 dX12_laysStands_101 k_l0.1 r3 rfl ?_
    refine SF_iload_n 2 105 dX12_laysStands_104 rfl rfl rfl ?_
    obtain ⟨k4, h⟩ := gdK_some h
    obtain ⟨i5, h⟩ := gdI_some h
    refine SF_zald 106 dX12_laysStands_105 k4.1 i5 rfl ?_
    refine SF_ifeq 123 109 dX12_laysStands_106 rfl rfl (fun c6 => ?_) (fun c6 => ?_)
    · have h := ite_t c6 h
      refine SF_sub [0, 1, 2] rfl ?_
      exact w_X12_laysStands_123 hd k2 hk2 l0 l1 l2 g k_l0 h
    · have h := ite_f c6 h
      refine SF_aload_n 0 110 dX12_laysStands_109 rfl rfl rfl ?_
      refine SF_iload_n 1 111 dX12_laysStands_110 rfl rfl rfl ?_
      refine SF_iload_n 2 112 dX12_laysStands_111 rfl rfl rfl ?_
      refine SF_iload 3 114 dX12_laysStands_112 rfl rfl ?_
      obtain ⟨v7, g8, q9, h⟩ := bd_some h
      have s10 := w_X12_laysLead (X := X) (Nat.le_refl 5) l0 l1 l2 l5 g g8 v7 k_l0 q9
      refine SF_callVv 117 mi_X12_laysLead ml_X12_350 dX12_laysStands_114 (Nat.le_trans (by decide) hd) s10 k_l0.1 rfl rfl (Nat.le_of_ble_eq_true rfl) rfl ?_
      have k_l0 := k_l0.ext s10.1
      have k4 := k4.ext s10.1
      refine SF_iinc 3 (l5 + (1 : Int32)) [(5, .int (l5 + (1 : Int32))), (0, .ref (ad X l0)), (1, .int l1), (2, .int l2)] 120 dX12_laysStands_117 rfl rfl (by decide) rfl rfl ?_
      refine SF_goto 93 dX12_laysStands_120 rfl ?_
      refine SF_sub [1, 2, 3, 0] rfl ?_
      exact ih l0 l1 l2 (l5 + (1 : Int32)) g8 k_l0 h

set_option maxRecDepth 20000 in
set_option maxHeartbeats 2000000 in
theorem w_X12_laysStands_89 {X : CX} {d : Nat} (hd : 6 ≤ d) {g' : G} {rx : Unit} (k2 : Nat → Int32 → Int32 → G → Option (Unit × G)) (hk2 : ∀ (l0 : Nat) (l1 : Int32) (l2 : Int32) (g : G), KD g l0 12 → k2 l0 l1 l2 g = some (rx, g') → SemF X m_X12_laysStands d 2 [(0, .ref (ad X l0)), (1, .int l1), (2, .int l2)] [] g none g') (l0 : Nat) (l1 : Int32) (l2 : Int32) (s0 : Int32) (s1 : Int32) (s2 : Nat) (g : G) (k_l0 : KD g l0 12) (k_s2 : KD g s2 16) (h : f_X12_laysStands_89 k2 l0 l1 l2 s0 s1 s2 g = some (rx, g')) : SemF X m_X12_laysStands d 89 [(0, .ref (ad X l0)), (1, .int l1), (2, .int l2)] [.int s0, .int s1, .ref (ad X s2)] g none g' := by
  rw [f_X12_laysStands_89] at h
  obtain ⟨i1, h⟩ := gdI_some h
  refine SF_zast 90 dX12_laysStands_89 k_s2.1 i1 rfl ?_
  obtain ⟨g2, e3, h⟩ := lg_some h
  rw [← e3]
  have k_l0 := KD.eq e3 k_l0
  have k_s2 := KD.eq e3 k_s2
  have i1 := vp_eq e3 i1
  refine SF_iconst (0 : Int32) 91 dX12_laysStands_90 rfl rfl ?_
  refine SF_istore [(5, .int (0 : Int32)), (0, .ref (ad X l0)), (1, .int l1), (2, .int l2)] 93 dX12_laysStands_91 (by decide) rfl rfl ?_
  refine SF_sub [1, 2, 3, 0] rfl ?_
  exact w_X12_laysStands_93 hd k2 hk2 FU l0 l1 l2 (0 : Int32) g2 k_l0 h

set_option maxRecDepth 20000 in
set_option maxHeartbeats 2000000 in
theorem w_X12_laysStands_88 {X : CX} {d : Nat} (hd : 6 ≤ d) {g' : G} {rx : Unit} (k2 : Nat → Int32 → Int32 → G → Option (Unit × G)) (hk2 : ∀ (l0 : Nat) (l1 : Int32) (l2 : Int32) (g : G), KD g l0 12 → k2 l0 l1 l2 g = some (rx, g') → SemF X m_X12_laysStands d 2 [(0, .ref (ad X l0)), (1, .int l1), (2, .int l2)] [] g none g') (l0 : Nat) (l1 : Int32) (l2 : Int32) (s0 : Int32) (s1 : Nat) (g : G) (k_l0 : KD g l0 12) (k_s1 : KD g s1 16) (h : f_X12_laysStands_88 k2 l0 l1 l2 s0 s1 g = some (rx, g')) : SemF X m_X12_laysStands d 88 [(0, .ref (ad X l0)), (1, .int l1), (2, .int l2)] [.int s0, .ref (ad X s1)] g none g' := by
  rw [f_X12_laysStands_88] at h
  refine SF_iconst (0 : Int32) 89 dX12_laysStands_88 rfl rfl ?_
  exact w_X12_laysStands_89 hd k2 hk2 l0 l1 l2 (0 : Int32) s0 s1 g k_l0 k_s1 h

set_option maxRecDepth 20000 in
set_option maxHeartbeats 2000000 in
theorem w_X12_laysStands_2 {X : CX} {d : Nat} (hd : 6 ≤ d) {g' : G} {rx : Unit} : ∀ (n : Nat) (l0 : Nat) (l1 : Int32) (l2 : Int32) (g : G), KD g l0 12 → f_X12_laysStands_2 n l0 l1 l2 g = some (rx, g') → SemF X m_X12_laysStands d 2 [(0, .ref (ad X l0)), (1, .int l1), (2, .int l2)] [] g none g' := by
  intro n
  induction n with
  | zero =>
    intro l0 l1 l2 g k_l0 h
    rw [f_X12_laysStands_2] at h
    cases h
  | succ n ih =>
  intro l0 l1 l2 g k_l0 h
  rw [f_X12_laysStands_2] at h
  refine SF_iload_n 2 3 dX12_laysStands_2 rfl rfl rfl ?_
  refine SF_sipush (1296 : Int32) 6 dX12_laysStands_3 rfl rfl ?_
  refine SF_icge 129 9 dX12_laysStands_6 rfl rfl (fun c1 => ?_) (fun c1 => ?_)
  · have h := ite_t c1 h
    exact RT_v rfl dX12_laysStands_129 h
  · have h := ite_f c1 h
    refine SF_iload_n 2 10 dX12_laysStands_9 rfl rfl rfl ?_
    refine SF_iconst (0 : Int32) 11 dX12_laysStands_10 rfl rfl ?_
    obtain ⟨v2, g3, q4, h⟩ := bd_some h
    have s5 := w_X12_inStand (X := X) (Nat.le_refl 0) l2 (0 : Int32) g g3 v2 q4
    refine SF_callSi 14 mi_X12_inStand ml_X12_347 dX12_laysStands_11 (Nat.le_trans (by decide) hd) s5 rfl rfl (Nat.le_of_ble_eq_true rfl) rfl ?_
    have k_l0 := k_l0.ext s5.1
    refine SF_istore_n [(3, .int v2), (0, .ref (ad X l0)), (1, .int l1), (2, .int l2)] 15 dX12_laysStands_14 rfl (by decide) rfl rfl ?_
    refine SF_iload_n 3 16 dX12_laysStands_15 rfl rfl rfl ?_
    refine SF_iconst (1 : Int32) 17 dX12_laysStands_16 rfl rfl ?_
    obtain ⟨v6, g7, q8, h⟩ := bd_some h
    have s9 := w_X12_inStand (X := X) (Nat.le_refl 0) l2 (1 : Int32) g3 g7 v6 q8
    refine SF_callSi 20 mi_X12_inStand ml_X12_347 dX12_laysStands_17 (Nat.le_trans (by decide) hd) s9 rfl rfl (Nat.le_of_ble_eq_true rfl) rfl ?_
    have k_l0 := k_l0.ext s9.1
    refine SF_istore [(4, .int v6), (3, .int v2), (0, .ref (ad X l0)), (1, .int l1), (2, .int l2)] 22 dX12_laysStands_20 (by decide) rfl rfl ?_
    refine SF_aload_n 2 23 dX12_laysStands_22 rfl rfl rfl ?_
    obtain ⟨b10, r11, h⟩ := dr_some h
    refine SF_getR 26 fl_X12_39 dX12_laysStands_23 k_l0.1 r11 rfl ?_
    refine SF_iload_n 4 27 dX12_laysStands_26 rfl rfl rfl ?_
    refine SF_aload_n 2 28 dX12_laysStands_27 rfl rfl rfl ?_
    refine SF_iload_n 1 29 dX12_laysStands_28 rfl rfl rfl ?_
    refine SF_i2l 30 dX12_laysStands_29 rfl ?_
    obtain ⟨v12, g13, q14, h⟩ := bd_some h
    have s15 := w_X12_isCell (X := X) (Nat.le_refl 1) l0 (v2.toInt64) g7 g13 v12 k_l0 q14
    refine SF_callVb 33 mi_X12_isCell ml_X12_264 dX12_laysStands_30 (Nat.le_trans (by decide) hd) s15 k_l0.1 rfl rfl (Nat.le_of_ble_eq_true rfl) rfl ?_
    have k_l0 := k_l0.ext s15.1
    refine SF_ifeq 88 36 dX12_laysStands_33 rfl rfl (fun c16 => ?_) (fun c16 => ?_)
    · have h := ite_t c16 h
      obtain ⟨k17, h⟩ := gdK_some h
      refine SF_sub [2, 3, 4] rfl ?_
      exact w_X12_laysStands_88 hd (f_X12_laysStands_2 n) ih l0 l1 l2 l2 b10 g13 k_l0 k17 h
    · have h := ite_f c16 h
      refine SF_aload_n 2 37 dX12_laysStands_36 rfl rfl rfl ?_
      refine SF_iload 0 39 dX12_laysStands_37 rfl rfl ?_
      refine SF_i2l 40 dX12_laysStands_39 rfl ?_
      obtain ⟨v18, g19, q20, h⟩ := bd_some h
      have s21 := w_X12_isCell (X := X) (Nat.le_refl 1) l0 (v6.toInt64) g13 g19 v18 k_l0 q20
      refine SF_callVb 43 mi_X12_isCell ml_X12_264 dX12_laysStands_40 (Nat.le_trans (by decide) hd) s21 k_l0.1 rfl rfl (Nat.le_of_ble_eq_true rfl) rfl ?_
      have k_l0 := k_l0.ext s21.1
      refine SF_ifeq 88 46 dX12_laysStands_43 rfl rfl (fun c22 => ?_) (fun c22 => ?_)
      · have h := ite_t c22 h
        obtain ⟨k23, h⟩ := gdK_some h
        refine SF_sub [2, 3, 4] rfl ?_
        exact w_X12_laysStands_88 hd (f_X12_laysStands_2 n) ih l0 l1 l2 l2 b10 g19 k_l0 k23 h
      · have h := ite_f c22 h
        refine SF_aload_n 2 47 dX12_laysStands_46 rfl rfl rfl ?_
        refine SF_iload_n 1 48 dX12_laysStands_47 rfl rfl rfl ?_
        refine SF_iload 0 50 dX12_laysStands_48 rfl rfl ?_
        obtain ⟨v24, g25, q26, h⟩ := bd_some h
        have s27 := w_X12_apart (X := X) (Nat.le_refl 1) l0 v2 v6 g19 g25 v24 k_l0 q26
        refine SF_callVi 53 mi_X12_apart ml_X12_208 dX12_laysStands_50 (Nat.le_trans (by decide) hd) s27 k_l0.1 rfl rfl (Nat.le_of_ble_eq_true rfl) rfl ?_
        have k_l0 := k_l0.ext s27.1
        refine SF_aload_n 2 54 dX12_laysStands_53 rfl rfl rfl ?_
        obtain ⟨b28, r29, h⟩ := dr_some h
        refine SF_getR 57 fl_X12_13 dX12_laysStands_54 k_l0.1 r29 rfl ?_
        refine SF_bipush (94 : Int32) 59 dX12_laysStands_57 rfl rfl ?_
        refine SF_iload_n 3 60 dX12_laysStands_59 rfl rfl rfl ?_
        refine SF_iadd 61 dX12_laysStands_60 rfl ?_
        obtain ⟨k30, h⟩ := gdK_some h
        obtain ⟨i31, h⟩ := gdI_some h
        refine SF_iald 62 dX12_laysStands_61 k30.1 i31 rfl ?_
        refine SF_icne 88 65 dX12_laysStands_62 rfl rfl (fun c32 => ?_) (fun c32 => ?_)
        · have h := ite_f c32 h
          obtain ⟨k33, h⟩ := gdK_some h
          refine SF_sub [2, 3, 4] rfl ?_
          exact w_X12_laysStands_88 hd (f_X12_laysStands_2 n) ih l0 l1 l2 l2 b10 g25 k_l0 k33 h
        · have h := ite_t c32 h
          refine SF_aload_n 2 66 dX12_laysStands_65 rfl rfl rfl ?_
          refine SF_iload_n 3 67 dX12_laysStands_66 rfl rfl rfl ?_
          refine SF_iload_n 1 68 dX12_laysStands_67 rfl rfl rfl ?_
          obtain ⟨v34, g35, q36, h⟩ := bd_some h
          have s37 := w_X12_isFree (X := X) (Nat.le_refl 1) l0 l1 v2 g25 g35 v34 k_l0 q36
          refine SF_callVb 71 mi_X12_isFree ml_X12_244 dX12_laysStands_68 (Nat.le_trans (by decide) hd) s37 k_l0.1 rfl rfl (Nat.le_of_ble_eq_true rfl) rfl ?_
          have k_l0 := k_l0.ext s37.1
          have k30 := k30.ext s37.1
          refine SF_ifeq 88 74 dX12_laysStands_71 rfl rfl (fun c38 => ?_) (fun c38 => ?_)
          · have h := ite_t c38 h
            obtain ⟨k39, h⟩ := gdK_some h
            refine SF_sub [2, 3, 4] rfl ?_
            exact w_X12_laysStands_88 hd (f_X12_laysStands_2 n) ih l0 l1 l2 l2 b10 g35 k_l0 k39 h
          · have h := ite_f c38 h
            refine SF_aload_n 2 75 dX12_laysStands_74 rfl rfl rfl ?_
            refine SF_iload_n 3 76 dX12_laysStands_75 rfl rfl rfl ?_
            refine SF_iload 0 78 dX12_laysStands_76 rfl rfl ?_
            obtain ⟨v40, g41, q42, h⟩ := bd_some h
            have s43 := w_X12_isFree (X := X) (Nat.le_refl 1) l0 l1 v6 g35 g41 v40 k_l0 q42
            refine SF_callVb 81 mi_X12_isFree ml_X12_244 dX12_laysStands_78 (Nat.le_trans (by decide) hd) s43 k_l0.1 rfl rfl (Nat.le_of_ble_eq_true rfl) rfl ?_
            have k_l0 := k_l0.ext s43.1
            have k30 := k30.ext s43.1
            refine SF_ifeq 88 84 dX12_laysStands_81 rfl rfl (fun c44 => ?_) (fun c44 => ?_)
            · have h := ite_t c44 h
              obtain ⟨k45, h⟩ := gdK_some h
              refine SF_sub [2, 3, 4] rfl ?_
              exact w_X12_laysStands_88 hd (f_X12_laysStands_2 n) ih l0 l1 l2 l2 b10 g41 k_l0 k45 h
            · have h := ite_f c44 h
              refine SF_iconst (1 : Int32) 85 dX12_laysStands_84 rfl rfl ?_
              refine SF_goto 89 dX12_laysStands_85 rfl ?_
              obtain ⟨k46, h⟩ := gdK_some h
              refine SF_sub [2, 3, 4] rfl ?_
              exact w_X12_laysStands_89 hd (f_X12_laysStands_2 n) ih l0 l1 l2 (1 : Int32) l2 b10 g41 k_l0 k46 h

set_option maxRecDepth 20000 in
set_option maxHeartbeats 2000000 in
theorem w_X12_laysStands {X : CX} {d : Nat} (hd : 6 ≤ d) (l0 : Nat) (l1 : Int32) (g g' : G) (rx : Unit) (k_l0 : KD g l0 12) (h : f_X12_laysStands l0 l1 g = some (rx, g')) : Sem X m_X12_laysStands d [.ref (ad X l0), .int l1] g none g' := by
  refine Sem_of (lo := [(0, .ref (ad X l0)), (1, .int l1)]) (by decide +kernel) rfl (Nat.le_of_ble_eq_true rfl) ?_
  rw [f_X12_laysStands] at h
  refine SF_iconst (0 : Int32) 1 dX12_laysStands_0 rfl rfl ?_
  refine SF_istore_n [(2, .int (0 : Int32)), (0, .ref (ad X l0)), (1, .int l1)] 2 dX12_laysStands_1 rfl (by decide) rfl rfl ?_
  refine SF_sub [1, 2, 0] rfl ?_
  exact w_X12_laysStands_2 hd FU l0 l1 (0 : Int32) g k_l0 h

theorem dX12_isGoal_0 : decode cX12_isGoal 0 = .ok (.iload_n 2, 1) := by decide +kernel
theorem dX12_isGoal_1 : decode cX12_isGoal 1 = .ok (.iconst (-1), 1) := by decide +kernel
theorem dX12_isGoal_2 : decode cX12_isGoal 2 = .ok (.if_icmp .eq 12, 3) := by decide +kernel
theorem dX12_isGoal_5 : decode cX12_isGoal 5 = .ok (.iload_n 1, 1) := by decide +kernel
theorem dX12_isGoal_6 : decode cX12_isGoal 6 = .ok (.iconst 0, 1) := by decide +kernel
theorem dX12_isGoal_7 : decode cX12_isGoal 7 = .ok (.invokestatic 347, 3) := by decide +kernel
theorem dX12_isGoal_10 : decode cX12_isGoal 10 = .ok (.iload_n 2, 1) := by decide +kernel
theorem dX12_isGoal_11 : decode cX12_isGoal 11 = .ok (.if_icmp .ne 21, 3) := by decide +kernel
theorem dX12_isGoal_14 : decode cX12_isGoal 14 = .ok (.iload_n 3, 1) := by decide +kernel
theorem dX12_isGoal_15 : decode cX12_isGoal 15 = .ok (.iconst (-1), 1) := by decide +kernel
theorem dX12_isGoal_16 : decode cX12_isGoal 16 = .ok (.if_icmp .eq 12, 3) := by decide +kernel
theorem dX12_isGoal_19 : decode cX12_isGoal 19 = .ok (.iload_n 1, 1) := by decide +kernel
theorem dX12_isGoal_20 : decode cX12_isGoal 20 = .ok (.iconst 1, 1) := by decide +kernel
theorem dX12_isGoal_21 : decode cX12_isGoal 21 = .ok (.invokestatic 347, 3) := by decide +kernel
theorem dX12_isGoal_24 : decode cX12_isGoal 24 = .ok (.iload_n 3, 1) := by decide +kernel
theorem dX12_isGoal_25 : decode cX12_isGoal 25 = .ok (.if_icmp .ne 7, 3) := by decide +kernel
theorem dX12_isGoal_28 : decode cX12_isGoal 28 = .ok (.iconst 1, 1) := by decide +kernel
theorem dX12_isGoal_29 : decode cX12_isGoal 29 = .ok (.goto 4, 3) := by decide +kernel
theorem dX12_isGoal_32 : decode cX12_isGoal 32 = .ok (.iconst 0, 1) := by decide +kernel
theorem dX12_isGoal_33 : decode cX12_isGoal 33 = .ok (.ireturn, 1) := by decide +kernel
set_option maxRecDepth 20000 in
set_option maxHeartbeats 2000000 in
theorem w_X12_isGoal_28 {X : CX} {d : Nat} (hd : 1 ≤ d) {g' : G} {rx : Bool} (g : G) (h : f_X12_isGoal_28 g = some (rx, g')) : SemF X m_X12_isGoal d 28 [] [] g (some (.int (b2i rx))) g' := by
  rw [f_X12_isGoal_28] at h
  refine SF_iconst (1 : Int32) 29 dX12_isGoal_28 rfl rfl ?_
  refine SF_goto 33 dX12_isGoal_29 rfl ?_
  exact RT_b rfl rfl dX12_isGoal_33 h

set_option maxRecDepth 20000 in
set_option maxHeartbeats 2000000 in
theorem w_X12_isGoal_14 {X : CX} {d : Nat} (hd : 1 ≤ d) {g' : G} {rx : Bool} (l1 : Int32) (l3 : Int32) (g : G) (h : f_X12_isGoal_14 l1 l3 g = some (rx, g')) : SemF X m_X12_isGoal d 14 [(1, .int l1), (3, .int l3)] [] g (some (.int (b2i rx))) g' := by
  rw [f_X12_isGoal_14] at h
  refine SF_iload_n 1 15 dX12_isGoal_14 rfl rfl rfl ?_
  refine SF_iconst (-1 : Int32) 16 dX12_isGoal_15 rfl rfl ?_
  refine SF_iceq 28 19 dX12_isGoal_16 rfl rfl (fun c1 => ?_) (fun c1 => ?_)
  · have h := ite_t c1 h
    refine SF_sub [] rfl ?_
    exact w_X12_isGoal_28 hd g  h
  · have h := ite_f c1 h
    refine SF_iload_n 0 20 dX12_isGoal_19 rfl rfl rfl ?_
    refine SF_iconst (1 : Int32) 21 dX12_isGoal_20 rfl rfl ?_
    obtain ⟨v2, g3, q4, h⟩ := bd_some h
    have s5 := w_X12_inStand (X := X) (Nat.le_refl 0) l1 (1 : Int32) g g3 v2 q4
    refine SF_callSi 24 mi_X12_inStand ml_X12_347 dX12_isGoal_21 (Nat.le_trans (by decide) hd) s5 rfl rfl (Nat.le_of_ble_eq_true rfl) rfl ?_
    refine SF_iload_n 1 25 dX12_isGoal_24 rfl rfl rfl ?_
    refine SF_icne 32 28 dX12_isGoal_25 rfl rfl (fun c6 => ?_) (fun c6 => ?_)
    · have h := ite_f c6 h
      refine SF_iconst (0 : Int32) 33 dX12_isGoal_32 rfl rfl ?_
      exact RT_b rfl rfl dX12_isGoal_33 h
    · have h := ite_t c6 h
      refine SF_sub [] rfl ?_
      exact w_X12_isGoal_28 hd g3  h

set_option maxRecDepth 20000 in
set_option maxHeartbeats 2000000 in
theorem w_X12_isGoal {X : CX} {d : Nat} (hd : 1 ≤ d) (l0 : Nat) (l1 : Int32) (l2 : Int32) (l3 : Int32) (g g' : G) (rx : Bool) (k_l0 : KD g l0 12) (h : f_X12_isGoal l0 l1 l2 l3 g = some (rx, g')) : Sem X m_X12_isGoal d [.ref (ad X l0), .int l1, .int l2, .int l3] g (some (.int (b2i rx))) g' := by
  refine Sem_of (lo := [(0, .ref (ad X l0)), (1, .int l1), (2, .int l2), (3, .int l3)]) (by decide +kernel) rfl (Nat.le_of_ble_eq_true rfl) ?_
  rw [f_X12_isGoal] at h
  refine SF_iload_n 2 1 dX12_isGoal_0 rfl rfl rfl ?_
  refine SF_iconst (-1 : Int32) 2 dX12_isGoal_1 rfl rfl ?_
  refine SF_iceq 14 5 dX12_isGoal_2 rfl rfl (fun c1 => ?_) (fun c1 => ?_)
  · have h := ite_t c1 h
    refine SF_sub [1, 3] rfl ?_
    exact w_X12_isGoal_14 hd l1 l3 g  h
  · have h := ite_f c1 h
    refine SF_iload_n 1 6 dX12_isGoal_5 rfl rfl rfl ?_
    refine SF_iconst (0 : Int32) 7 dX12_isGoal_6 rfl rfl ?_
    obtain ⟨v2, g3, q4, h⟩ := bd_some h
    have s5 := w_X12_inStand (X := X) (Nat.le_refl 0) l1 (0 : Int32) g g3 v2 q4
    refine SF_callSi 10 mi_X12_inStand ml_X12_347 dX12_isGoal_7 (Nat.le_trans (by decide) hd) s5 rfl rfl (Nat.le_of_ble_eq_true rfl) rfl ?_
    have k_l0 := k_l0.ext s5.1
    refine SF_iload_n 2 11 dX12_isGoal_10 rfl rfl rfl ?_
    refine SF_icne 32 14 dX12_isGoal_11 rfl rfl (fun c6 => ?_) (fun c6 => ?_)
    · have h := ite_f c6 h
      refine SF_iconst (0 : Int32) 33 dX12_isGoal_32 rfl rfl ?_
      exact RT_b rfl rfl dX12_isGoal_33 h
    · have h := ite_t c6 h
      refine SF_sub [1, 3] rfl ?_
      exact w_X12_isGoal_14 hd l1 l3 g3  h

theorem dX12_countOf_0 : decode cX12_countOf 0 = .ok (.iload_n 3, 1) := by decide +kernel
theorem dX12_countOf_1 : decode cX12_countOf 1 = .ok (.ifCond .eq 23, 3) := by decide +kernel
theorem dX12_countOf_4 : decode cX12_countOf 4 = .ok (.sipush 10000, 3) := by decide +kernel
theorem dX12_countOf_7 : decode cX12_countOf 7 = .ok (.aload_n 0, 1) := by decide +kernel
theorem dX12_countOf_8 : decode cX12_countOf 8 = .ok (.getfield 45, 3) := by decide +kernel
theorem dX12_countOf_11 : decode cX12_countOf 11 = .ok (.bipush 8, 2) := by decide +kernel
theorem dX12_countOf_13 : decode cX12_countOf 13 = .ok (.iload_n 1, 1) := by decide +kernel
theorem dX12_countOf_14 : decode cX12_countOf 14 = .ok (.imul, 1) := by decide +kernel
theorem dX12_countOf_15 : decode cX12_countOf 15 = .ok (.iload_n 2, 1) := by decide +kernel
theorem dX12_countOf_16 : decode cX12_countOf 16 = .ok (.iadd, 1) := by decide +kernel
theorem dX12_countOf_17 : decode cX12_countOf 17 = .ok (.iaload, 1) := by decide +kernel
theorem dX12_countOf_18 : decode cX12_countOf 18 = .ok (.imul, 1) := by decide +kernel
theorem dX12_countOf_19 : decode cX12_countOf 19 = .ok (.iconst 1, 1) := by decide +kernel
theorem dX12_countOf_20 : decode cX12_countOf 20 = .ok (.iadd, 1) := by decide +kernel
theorem dX12_countOf_21 : decode cX12_countOf 21 = .ok (.goto 4, 3) := by decide +kernel
theorem dX12_countOf_24 : decode cX12_countOf 24 = .ok (.iconst 1, 1) := by decide +kernel
theorem dX12_countOf_25 : decode cX12_countOf 25 = .ok (.ireturn, 1) := by decide +kernel
set_option maxRecDepth 20000 in
set_option maxHeartbeats 2000000 in
theorem w_X12_countOf {X : CX} {d : Nat} (hd : 0 ≤ d) (l0 : Nat) (l1 : Int32) (l2 : Int32) (l3 : Int32) (g g' : G) (rx : Int32) (k_l0 : KD g l0 12) (h : f_X12_countOf l0 l1 l2 l3 g = some (rx, g')) : Sem X m_X12_countOf d [.ref (ad X l0), .int l1, .int l2, .int l3] g (some (.int rx)) g' := by
  refine Sem_of (lo := [(0, .ref (ad X l0)), (1, .int l1), (2, .int l2), (3, .int l3)]) (by decide +kernel) rfl (Nat.le_of_ble_eq_true rfl) ?_
  rw [f_X12_countOf] at h
  refine SF_iload_n 3 1 dX12_countOf_0 rfl rfl rfl ?_
  refine SF_ifeq 24 4 dX12_countOf_1 rfl rfl (fun c1 => ?_) (fun c1 => ?_)
  · have h := ite_t c1 h
    refine SF_iconst (1 : Int32) 25 dX12_countOf_24 rfl rfl ?_
    exact RT_i rfl dX12_countOf_25 h
  · have h := ite_f c1 h
    refine SF_sipush (10000 : Int32) 7 dX12_countOf_4 rfl rfl ?_
    refine SF_aload_n 0 8 dX12_countOf_7 rfl rfl rfl ?_
    obtain ⟨b2, r3, h⟩ := dr_some h
    refine SF_getR 11 fl_X12_45 dX12_countOf_8 k_l0.1 r3 rfl ?_
    refine SF_bipush (8 : Int32) 13 dX12_countOf_11 rfl rfl ?_
    refine SF_iload_n 1 14 dX12_countOf_13 rfl rfl rfl ?_
    refine SF_imul 15 dX12_countOf_14 rfl ?_
    refine SF_iload_n 2 16 dX12_countOf_15 rfl rfl rfl ?_
    refine SF_iadd 17 dX12_countOf_16 rfl ?_
    obtain ⟨k4, h⟩ := gdK_some h
    obtain ⟨i5, h⟩ := gdI_some h
    refine SF_iald 18 dX12_countOf_17 k4.1 i5 rfl ?_
    refine SF_imul 19 dX12_countOf_18 rfl ?_
    refine SF_iconst (1 : Int32) 20 dX12_countOf_19 rfl rfl ?_
    refine SF_iadd 21 dX12_countOf_20 rfl ?_
    refine SF_goto 25 dX12_countOf_21 rfl ?_
    exact RT_i rfl dX12_countOf_25 h

theorem dX12_stillBy_0 : decode cX12_stillBy 0 = .ok (.aload_n 0, 1) := by decide +kernel
theorem dX12_stillBy_1 : decode cX12_stillBy 1 = .ok (.getfield 42, 3) := by decide +kernel
theorem dX12_stillBy_4 : decode cX12_stillBy 4 = .ok (.bipush 8, 2) := by decide +kernel
theorem dX12_stillBy_6 : decode cX12_stillBy 6 = .ok (.iload_n 1, 1) := by decide +kernel
theorem dX12_stillBy_7 : decode cX12_stillBy 7 = .ok (.imul, 1) := by decide +kernel
theorem dX12_stillBy_8 : decode cX12_stillBy 8 = .ok (.iload_n 2, 1) := by decide +kernel
theorem dX12_stillBy_9 : decode cX12_stillBy 9 = .ok (.iadd, 1) := by decide +kernel
theorem dX12_stillBy_10 : decode cX12_stillBy 10 = .ok (.iaload, 1) := by decide +kernel
theorem dX12_stillBy_11 : decode cX12_stillBy 11 = .ok (.istore 4, 2) := by decide +kernel
theorem dX12_stillBy_13 : decode cX12_stillBy 13 = .ok (.iload 4, 2) := by decide +kernel
theorem dX12_stillBy_15 : decode cX12_stillBy 15 = .ok (.iconst (-1), 1) := by decide +kernel
theorem dX12_stillBy_16 : decode cX12_stillBy 16 = .ok (.if_icmp .eq 16, 3) := by decide +kernel
theorem dX12_stillBy_19 : decode cX12_stillBy 19 = .ok (.aload_n 0, 1) := by decide +kernel
theorem dX12_stillBy_20 : decode cX12_stillBy 20 = .ok (.getfield 48, 3) := by decide +kernel
theorem dX12_stillBy_23 : decode cX12_stillBy 23 = .ok (.iload 4, 2) := by decide +kernel
theorem dX12_stillBy_25 : decode cX12_stillBy 25 = .ok (.iaload, 1) := by decide +kernel
theorem dX12_stillBy_26 : decode cX12_stillBy 26 = .ok (.ldc_w 354, 3) := by decide +kernel
theorem dX12_stillBy_29 : decode cX12_stillBy 29 = .ok (.if_icmp .ne 9, 3) := by decide +kernel
theorem dX12_stillBy_32 : decode cX12_stillBy 32 = .ok (.ldc_w 354, 3) := by decide +kernel
theorem dX12_stillBy_35 : decode cX12_stillBy 35 = .ok (.goto 18, 3) := by decide +kernel
theorem dX12_stillBy_38 : decode cX12_stillBy 38 = .ok (.aload_n 0, 1) := by decide +kernel
theorem dX12_stillBy_39 : decode cX12_stillBy 39 = .ok (.getfield 48, 3) := by decide +kernel
theorem dX12_stillBy_42 : decode cX12_stillBy 42 = .ok (.iload 4, 2) := by decide +kernel
theorem dX12_stillBy_44 : decode cX12_stillBy 44 = .ok (.iaload, 1) := by decide +kernel
theorem dX12_stillBy_45 : decode cX12_stillBy 45 = .ok (.aload_n 0, 1) := by decide +kernel
theorem dX12_stillBy_46 : decode cX12_stillBy 46 = .ok (.iload_n 1, 1) := by decide +kernel
theorem dX12_stillBy_47 : decode cX12_stillBy 47 = .ok (.iload_n 2, 1) := by decide +kernel
theorem dX12_stillBy_48 : decode cX12_stillBy 48 = .ok (.iload_n 3, 1) := by decide +kernel
theorem dX12_stillBy_49 : decode cX12_stillBy 49 = .ok (.invokevirtual 355, 3) := by decide +kernel
theorem dX12_stillBy_52 : decode cX12_stillBy 52 = .ok (.iadd, 1) := by decide +kernel
theorem dX12_stillBy_53 : decode cX12_stillBy 53 = .ok (.ireturn, 1) := by decide +kernel
set_option maxRecDepth 20000 in
set_option maxHeartbeats 2000000 in
theorem w_X12_stillBy_32 {X : CX} {d : Nat} (hd : 1 ≤ d) {g' : G} {rx : Int32} (g : G) (h : f_X12_stillBy_32 g = some (rx, g')) : SemF X m_X12_stillBy d 32 [] [] g (some (.int rx)) g' := by
  rw [f_X12_stillBy_32] at h
  refine SF_ldcw 35 dX12_stillBy_32 ki_X12_354 rfl ?_
  refine SF_goto 53 dX12_stillBy_35 rfl ?_
  exact RT_i rfl dX12_stillBy_53 h

set_option maxRecDepth 20000 in
set_option maxHeartbeats 2000000 in
theorem w_X12_stillBy {X : CX} {d : Nat} (hd : 1 ≤ d) (l0 : Nat) (l1 : Int32) (l2 : Int32) (l3 : Int32) (g g' : G) (rx : Int32) (k_l0 : KD g l0 12) (h : f_X12_stillBy l0 l1 l2 l3 g = some (rx, g')) : Sem X m_X12_stillBy d [.ref (ad X l0), .int l1, .int l2, .int l3] g (some (.int rx)) g' := by
  refine Sem_of (lo := [(0, .ref (ad X l0)), (1, .int l1), (2, .int l2), (3, .int l3)]) (by decide +kernel) rfl (Nat.le_of_ble_eq_true rfl) ?_
  rw [f_X12_stillBy] at h
  refine SF_aload_n 0 1 dX12_stillBy_0 rfl rfl rfl ?_
  obtain ⟨b1, r2, h⟩ := dr_some h
  refine SF_getR 4 fl_X12_42 dX12_stillBy_1 k_l0.1 r2 rfl ?_
  refine SF_bipush (8 : Int32) 6 dX12_stillBy_4 rfl rfl ?_
  refine SF_iload_n 1 7 dX12_stillBy_6 rfl rfl rfl ?_
  refine SF_imul 8 dX12_stillBy_7 rfl ?_
  refine SF_iload_n 2 9 dX12_stillBy_8 rfl rfl rfl ?_
  refine SF_iadd 10 dX12_stillBy_9 rfl ?_
  obtain ⟨k3, h⟩ := gdK_some h
  obtain ⟨i4, h⟩ := gdI_some h
  refine SF_iald 11 dX12_stillBy_10 k3.1 i4 rfl ?_
  obtain ⟨y5, e6, h⟩ := li_some h
  refine SF_eqI e6 ?_
  refine SF_istore [(4, .int y5), (0, .ref (ad X l0)), (1, .int l1), (2, .int l2), (3, .int l3)] 13 dX12_stillBy_11 (by decide) rfl rfl ?_
  refine SF_iload 0 15 dX12_stillBy_13 rfl rfl ?_
  refine SF_iconst (-1 : Int32) 16 dX12_stillBy_15 rfl rfl ?_
  refine SF_iceq 32 19 dX12_stillBy_16 rfl rfl (fun c7 => ?_) (fun c7 => ?_)
  · have h := ite_t c7 h
    refine SF_sub [] rfl ?_
    exact w_X12_stillBy_32 hd g  h
  · have h := ite_f c7 h
    refine SF_aload_n 1 20 dX12_stillBy_19 rfl rfl rfl ?_
    obtain ⟨b8, r9, h⟩ := dr_some h
    refine SF_getR 23 fl_X12_48 dX12_stillBy_20 k_l0.1 r9 rfl ?_
    refine SF_iload 0 25 dX12_stillBy_23 rfl rfl ?_
    obtain ⟨k10, h⟩ := gdK_some h
    obtain ⟨i11, h⟩ := gdI_some h
    refine SF_iald 26 dX12_stillBy_25 k10.1 i11 rfl ?_
    refine SF_ldcw 29 dX12_stillBy_26 ki_X12_354 rfl ?_
    refine SF_icne 38 32 dX12_stillBy_29 rfl rfl (fun c12 => ?_) (fun c12 => ?_)
    · have h := ite_f c12 h
      refine SF_aload_n 1 39 dX12_stillBy_38 rfl rfl rfl ?_
      refine SF_getR 42 fl_X12_48 dX12_stillBy_39 k_l0.1 r9 rfl ?_
      refine SF_iload 0 44 dX12_stillBy_42 rfl rfl ?_
      refine SF_iald 45 dX12_stillBy_44 k10.1 i11 rfl ?_
      refine SF_aload_n 1 46 dX12_stillBy_45 rfl rfl rfl ?_
      refine SF_iload_n 2 47 dX12_stillBy_46 rfl rfl rfl ?_
      refine SF_iload_n 3 48 dX12_stillBy_47 rfl rfl rfl ?_
      refine SF_iload_n 4 49 dX12_stillBy_48 rfl rfl rfl ?_
      obtain ⟨v13, g14, q15, h⟩ := bd_some h
      have s16 := w_X12_countOf (X := X) (Nat.le_refl 0) l0 l1 l2 l3 g g14 v13 k_l0 q15
      refine SF_callVi 52 mi_X12_countOf ml_X12_355 dX12_stillBy_49 (Nat.le_trans (by decide) hd) s16 k_l0.1 rfl rfl (Nat.le_of_ble_eq_true rfl) rfl ?_
      have k_l0 := k_l0.ext s16.1
      have k3 := k3.ext s16.1
      have k10 := k10.ext s16.1
      refine SF_iadd 53 dX12_stillBy_52 rfl ?_
      exact RT_i rfl dX12_stillBy_53 h
    · have h := ite_t c12 h
      refine SF_sub [] rfl ?_
      exact w_X12_stillBy_32 hd g  h

theorem dX12_leastBy_0 : decode cX12_leastBy 0 = .ok (.aload_n 0, 1) := by decide +kernel
theorem dX12_leastBy_1 : decode cX12_leastBy 1 = .ok (.getfield 48, 3) := by decide +kernel
theorem dX12_leastBy_4 : decode cX12_leastBy 4 = .ok (.iload_n 1, 1) := by decide +kernel
theorem dX12_leastBy_5 : decode cX12_leastBy 5 = .ok (.iaload, 1) := by decide +kernel
theorem dX12_leastBy_6 : decode cX12_leastBy 6 = .ok (.istore_n 3, 1) := by decide +kernel
theorem dX12_leastBy_7 : decode cX12_leastBy 7 = .ok (.iconst 0, 1) := by decide +kernel
theorem dX12_leastBy_8 : decode cX12_leastBy 8 = .ok (.istore 4, 2) := by decide +kernel
theorem dX12_leastBy_10 : decode cX12_leastBy 10 = .ok (.iload 4, 2) := by decide +kernel
theorem dX12_leastBy_12 : decode cX12_leastBy 12 = .ok (.bipush 8, 2) := by decide +kernel
theorem dX12_leastBy_14 : decode cX12_leastBy 14 = .ok (.if_icmp .ge 34, 3) := by decide +kernel
theorem dX12_leastBy_17 : decode cX12_leastBy 17 = .ok (.aload_n 0, 1) := by decide +kernel
theorem dX12_leastBy_18 : decode cX12_leastBy 18 = .ok (.iload_n 1, 1) := by decide +kernel
theorem dX12_leastBy_19 : decode cX12_leastBy 19 = .ok (.iload 4, 2) := by decide +kernel
theorem dX12_leastBy_21 : decode cX12_leastBy 21 = .ok (.iload_n 2, 1) := by decide +kernel
theorem dX12_leastBy_22 : decode cX12_leastBy 22 = .ok (.invokevirtual 359, 3) := by decide +kernel
theorem dX12_leastBy_25 : decode cX12_leastBy 25 = .ok (.iload_n 3, 1) := by decide +kernel
theorem dX12_leastBy_26 : decode cX12_leastBy 26 = .ok (.if_icmp .ge 14, 3) := by decide +kernel
theorem dX12_leastBy_29 : decode cX12_leastBy 29 = .ok (.aload_n 0, 1) := by decide +kernel
theorem dX12_leastBy_30 : decode cX12_leastBy 30 = .ok (.iload_n 1, 1) := by decide +kernel
theorem dX12_leastBy_31 : decode cX12_leastBy 31 = .ok (.iload 4, 2) := by decide +kernel
theorem dX12_leastBy_33 : decode cX12_leastBy 33 = .ok (.iload_n 2, 1) := by decide +kernel
theorem dX12_leastBy_34 : decode cX12_leastBy 34 = .ok (.invokevirtual 359, 3) := by decide +kernel
theorem dX12_leastBy_37 : decode cX12_leastBy 37 = .ok (.goto 4, 3) := by decide +kernel
theorem dX12_leastBy_40 : decode cX12_leastBy 40 = .ok (.iload_n 3, 1) := by decide +kernel
theorem dX12_leastBy_41 : decode cX12_leastBy 41 = .ok (.istore_n 3, 1) := by decide +kernel
theorem dX12_leastBy_42 : decode cX12_leastBy 42 = .ok (.iinc 4 1, 3) := by decide +kernel
theorem dX12_leastBy_45 : decode cX12_leastBy 45 = .ok (.goto (-35), 3) := by decide +kernel
theorem dX12_leastBy_48 : decode cX12_leastBy 48 = .ok (.iload_n 3, 1) := by decide +kernel
theorem dX12_leastBy_49 : decode cX12_leastBy 49 = .ok (.ireturn, 1) := by decide +kernel
set_option maxRecDepth 20000 in
set_option maxHeartbeats 2000000 in
theorem w_X12_leastBy_41 {X : CX} {d : Nat} (hd : 2 ≤ d) {g' : G} {rx : Int32} (k10 : Nat → Int32 → Int32 → Int32 → Int32 → G → Option (Int32 × G)) (hk10 : ∀ (l0 : Nat) (l1 : Int32) (l2 : Int32) (l3 : Int32) (l4 : Int32) (g : G), KD g l0 12 → k10 l0 l1 l2 l3 l4 g = some (rx, g') → SemF X m_X12_leastBy d 10 [(0, .ref (ad X l0)), (1, .int l1), (2, .int l2), (3, .int l3), (4, .int l4)] [] g (some (.int rx)) g') (l0 : Nat) (l1 : Int32) (l2 : Int32) (l4 : Int32) (s0 : Int32) (g : G) (k_l0 : KD g l0 12) (h : f_X12_leastBy_41 k10 l0 l1 l2 l4 s0 g = some (rx, g')) : SemF X m_X12_leastBy d 41 [(0, .ref (ad X l0)), (1, .int l1), (2, .int l2), (4, .int l4)] [.int s0] g (some (.int rx)) g' := by
  rw [f_X12_leastBy_41] at h
  refine SF_istore_n [(3, .int s0), (0, .ref (ad X l0)), (1, .int l1), (2, .int l2), (4, .int l4)] 42 dX12_leastBy_41 rfl (by decide) rfl rfl ?_
  refine SF_iinc 4 (l4 + (1 : Int32)) [(4, .int (l4 + (1 : Int32))), (3, .int s0), (0, .ref (ad X l0)), (1, .int l1), (2, .int l2)] 45 dX12_leastBy_42 rfl rfl (by decide) rfl rfl ?_
  refine SF_goto 10 dX12_leastBy_45 rfl ?_
  refine SF_sub [2, 3, 4, 1, 0] rfl ?_
  exact hk10 l0 l1 l2 s0 (l4 + (1 : Int32)) g k_l0 h

set_option maxRecDepth 20000 in
set_option maxHeartbeats 2000000 in
theorem w_X12_leastBy_10 {X : CX} {d : Nat} (hd : 2 ≤ d) {g' : G} {rx : Int32} : ∀ (n : Nat) (l0 : Nat) (l1 : Int32) (l2 : Int32) (l3 : Int32) (l4 : Int32) (g : G), KD g l0 12 → f_X12_leastBy_10 n l0 l1 l2 l3 l4 g = some (rx, g') → SemF X m_X12_leastBy d 10 [(0, .ref (ad X l0)), (1, .int l1), (2, .int l2), (3, .int l3), (4, .int l4)] [] g (some (.int rx)) g' := by
  intro n
  induction n with
  | zero =>
    intro l0 l1 l2 l3 l4 g k_l0 h
    rw [f_X12_leastBy_10] at h
    cases h
  | succ n ih =>
  intro l0 l1 l2 l3 l4 g k_l0 h
  rw [f_X12_leastBy_10] at h
  refine SF_iload 4 12 dX12_leastBy_10 rfl rfl ?_
  refine SF_bipush (8 : Int32) 14 dX12_leastBy_12 rfl rfl ?_
  refine SF_icge 48 17 dX12_leastBy_14 rfl rfl (fun c1 => ?_) (fun c1 => ?_)
  · have h := ite_t c1 h
    refine SF_iload_n 3 49 dX12_leastBy_48 rfl rfl rfl ?_
    exact RT_i rfl dX12_leastBy_49 h
  · have h := ite_f c1 h
    refine SF_aload_n 0 18 dX12_leastBy_17 rfl rfl rfl ?_
    refine SF_iload_n 1 19 dX12_leastBy_18 rfl rfl rfl ?_
    refine SF_iload 4 21 dX12_leastBy_19 rfl rfl ?_
    refine SF_iload_n 2 22 dX12_leastBy_21 rfl rfl rfl ?_
    obtain ⟨v2, g3, q4, h⟩ := bd_some h
    have s5 := w_X12_stillBy (X := X) (Nat.le_refl 1) l0 l1 l4 l2 g g3 v2 k_l0 q4
    refine SF_callVi 25 mi_X12_stillBy ml_X12_359 dX12_leastBy_22 (Nat.le_trans (by decide) hd) s5 k_l0.1 rfl rfl (Nat.le_of_ble_eq_true rfl) rfl ?_
    have k_l0 := k_l0.ext s5.1
    refine SF_iload_n 3 26 dX12_leastBy_25 rfl rfl rfl ?_
    refine SF_icge 40 29 dX12_leastBy_26 rfl rfl (fun c6 => ?_) (fun c6 => ?_)
    · have h := ite_t c6 h
      refine SF_iload_n 3 41 dX12_leastBy_40 rfl rfl rfl ?_
      refine SF_sub [0, 1, 2, 4] rfl ?_
      exact w_X12_leastBy_41 hd (f_X12_leastBy_10 n) ih l0 l1 l2 l4 l3 g3 k_l0 h
    · have h := ite_f c6 h
      refine SF_aload_n 0 30 dX12_leastBy_29 rfl rfl rfl ?_
      refine SF_iload_n 1 31 dX12_leastBy_30 rfl rfl rfl ?_
      refine SF_iload 4 33 dX12_leastBy_31 rfl rfl ?_
      refine SF_iload_n 2 34 dX12_leastBy_33 rfl rfl rfl ?_
      obtain ⟨v7, g8, q9, h⟩ := bd_some h
      have s10 := w_X12_stillBy (X := X) (Nat.le_refl 1) l0 l1 l4 l2 g3 g8 v7 k_l0 q9
      refine SF_callVi 37 mi_X12_stillBy ml_X12_359 dX12_leastBy_34 (Nat.le_trans (by decide) hd) s10 k_l0.1 rfl rfl (Nat.le_of_ble_eq_true rfl) rfl ?_
      have k_l0 := k_l0.ext s10.1
      refine SF_goto 41 dX12_leastBy_37 rfl ?_
      refine SF_sub [0, 1, 2, 4] rfl ?_
      exact w_X12_leastBy_41 hd (f_X12_leastBy_10 n) ih l0 l1 l2 l4 v7 g8 k_l0 h

set_option maxRecDepth 20000 in
set_option maxHeartbeats 2000000 in
theorem w_X12_leastBy {X : CX} {d : Nat} (hd : 2 ≤ d) (l0 : Nat) (l1 : Int32) (l2 : Int32) (g g' : G) (rx : Int32) (k_l0 : KD g l0 12) (h : f_X12_leastBy l0 l1 l2 g = some (rx, g')) : Sem X m_X12_leastBy d [.ref (ad X l0), .int l1, .int l2] g (some (.int rx)) g' := by
  refine Sem_of (lo := [(0, .ref (ad X l0)), (1, .int l1), (2, .int l2)]) (by decide +kernel) rfl (Nat.le_of_ble_eq_true rfl) ?_
  rw [f_X12_leastBy] at h
  refine SF_aload_n 0 1 dX12_leastBy_0 rfl rfl rfl ?_
  obtain ⟨b1, r2, h⟩ := dr_some h
  refine SF_getR 4 fl_X12_48 dX12_leastBy_1 k_l0.1 r2 rfl ?_
  refine SF_iload_n 1 5 dX12_leastBy_4 rfl rfl rfl ?_
  obtain ⟨k3, h⟩ := gdK_some h
  obtain ⟨i4, h⟩ := gdI_some h
  refine SF_iald 6 dX12_leastBy_5 k3.1 i4 rfl ?_
  obtain ⟨y5, e6, h⟩ := li_some h
  refine SF_eqI e6 ?_
  refine SF_istore_n [(3, .int y5), (0, .ref (ad X l0)), (1, .int l1), (2, .int l2)] 7 dX12_leastBy_6 rfl (by decide) rfl rfl ?_
  refine SF_iconst (0 : Int32) 8 dX12_leastBy_7 rfl rfl ?_
  refine SF_istore [(4, .int (0 : Int32)), (3, .int y5), (0, .ref (ad X l0)), (1, .int l1), (2, .int l2)] 10 dX12_leastBy_8 (by decide) rfl rfl ?_
  refine SF_sub [2, 3, 4, 1, 0] rfl ?_
  exact w_X12_leastBy_10 hd FU l0 l1 l2 y5 (0 : Int32) g k_l0 h

theorem dX12_standNow_0 : decode cX12_standNow 0 = .ok (.aload_n 0, 1) := by decide +kernel
theorem dX12_standNow_1 : decode cX12_standNow 1 = .ok (.iload_n 1, 1) := by decide +kernel
theorem dX12_standNow_2 : decode cX12_standNow 2 = .ok (.iconst 0, 1) := by decide +kernel
theorem dX12_standNow_3 : decode cX12_standNow 3 = .ok (.invokevirtual 205, 3) := by decide +kernel
theorem dX12_standNow_6 : decode cX12_standNow 6 = .ok (.aload_n 0, 1) := by decide +kernel
theorem dX12_standNow_7 : decode cX12_standNow 7 = .ok (.iload_n 1, 1) := by decide +kernel
theorem dX12_standNow_8 : decode cX12_standNow 8 = .ok (.iconst 1, 1) := by decide +kernel
theorem dX12_standNow_9 : decode cX12_standNow 9 = .ok (.invokevirtual 205, 3) := by decide +kernel
theorem dX12_standNow_12 : decode cX12_standNow 12 = .ok (.invokestatic 344, 3) := by decide +kernel
theorem dX12_standNow_15 : decode cX12_standNow 15 = .ok (.ireturn, 1) := by decide +kernel
set_option maxRecDepth 20000 in
set_option maxHeartbeats 2000000 in
theorem w_X12_standNow {X : CX} {d : Nat} (hd : 1 ≤ d) (l0 : Nat) (l1 : Int32) (g g' : G) (rx : Int32) (k_l0 : KD g l0 12) (h : f_X12_standNow l0 l1 g = some (rx, g')) : Sem X m_X12_standNow d [.ref (ad X l0), .int l1] g (some (.int rx)) g' := by
  refine Sem_of (lo := [(0, .ref (ad X l0)), (1, .int l1)]) (by decide +kernel) rfl (Nat.le_of_ble_eq_true rfl) ?_
  rw [f_X12_standNow] at h
  refine SF_aload_n 0 1 dX12_standNow_0 rfl rfl rfl ?_
  refine SF_iload_n 1 2 dX12_standNow_1 rfl rfl rfl ?_
  refine SF_iconst (0 : Int32) 3 dX12_standNow_2 rfl rfl ?_
  obtain ⟨v1, g2, q3, h⟩ := bd_some h
  have s4 := w_X12_twinOf (X := X) (Nat.le_refl 0) l0 l1 (0 : Int32) g g2 v1 k_l0 q3
  refine SF_callVi 6 mi_X12_twinOf ml_X12_205 dX12_standNow_3 (Nat.le_trans (by decide) hd) s4 k_l0.1 rfl rfl (Nat.le_of_ble_eq_true rfl) rfl ?_
  have k_l0 := k_l0.ext s4.1
  refine SF_aload_n 0 7 dX12_standNow_6 rfl rfl rfl ?_
  refine SF_iload_n 1 8 dX12_standNow_7 rfl rfl rfl ?_
  refine SF_iconst (1 : Int32) 9 dX12_standNow_8 rfl rfl ?_
  obtain ⟨v5, g6, q7, h⟩ := bd_some h
  have s8 := w_X12_twinOf (X := X) (Nat.le_refl 0) l0 l1 (1 : Int32) g2 g6 v5 k_l0 q7
  refine SF_callVi 12 mi_X12_twinOf ml_X12_205 dX12_standNow_9 (Nat.le_trans (by decide) hd) s8 k_l0.1 rfl rfl (Nat.le_of_ble_eq_true rfl) rfl ?_
  have k_l0 := k_l0.ext s8.1
  obtain ⟨v9, g10, q11, h⟩ := bd_some h
  have s12 := w_X12_standOf (X := X) (Nat.le_refl 0) v1 v5 g6 g10 v9 q11
  refine SF_callSi 15 mi_X12_standOf ml_X12_344 dX12_standNow_12 (Nat.le_trans (by decide) hd) s12 rfl rfl (Nat.le_of_ble_eq_true rfl) rfl ?_
  have k_l0 := k_l0.ext s12.1
  exact RT_i rfl dX12_standNow_15 h

theorem dX12_laysStill_0 : decode cX12_laysStill 0 = .ok (.iconst 0, 1) := by decide +kernel
theorem dX12_laysStill_1 : decode cX12_laysStill 1 = .ok (.istore 5, 2) := by decide +kernel
theorem dX12_laysStill_3 : decode cX12_laysStill 3 = .ok (.iload 5, 2) := by decide +kernel
theorem dX12_laysStill_5 : decode cX12_laysStill 5 = .ok (.sipush 1296, 3) := by decide +kernel
theorem dX12_laysStill_8 : decode cX12_laysStill 8 = .ok (.if_icmp .ge 44, 3) := by decide +kernel
theorem dX12_laysStill_11 : decode cX12_laysStill 11 = .ok (.aload_n 0, 1) := by decide +kernel
theorem dX12_laysStill_12 : decode cX12_laysStill 12 = .ok (.getfield 48, 3) := by decide +kernel
theorem dX12_laysStill_15 : decode cX12_laysStill 15 = .ok (.iload 5, 2) := by decide +kernel
theorem dX12_laysStill_17 : decode cX12_laysStill 17 = .ok (.aload_n 0, 1) := by decide +kernel
theorem dX12_laysStill_18 : decode cX12_laysStill 18 = .ok (.getfield 39, 3) := by decide +kernel
theorem dX12_laysStill_21 : decode cX12_laysStill 21 = .ok (.iload 5, 2) := by decide +kernel
theorem dX12_laysStill_23 : decode cX12_laysStill 23 = .ok (.baload, 1) := by decide +kernel
theorem dX12_laysStill_24 : decode cX12_laysStill 24 = .ok (.ifCond .eq 18, 3) := by decide +kernel
theorem dX12_laysStill_27 : decode cX12_laysStill 27 = .ok (.aload_n 0, 1) := by decide +kernel
theorem dX12_laysStill_28 : decode cX12_laysStill 28 = .ok (.iload 5, 2) := by decide +kernel
theorem dX12_laysStill_30 : decode cX12_laysStill 30 = .ok (.iload_n 2, 1) := by decide +kernel
theorem dX12_laysStill_31 : decode cX12_laysStill 31 = .ok (.iload_n 3, 1) := by decide +kernel
theorem dX12_laysStill_32 : decode cX12_laysStill 32 = .ok (.invokevirtual 362, 3) := by decide +kernel
theorem dX12_laysStill_35 : decode cX12_laysStill 35 = .ok (.ifCond .eq 7, 3) := by decide +kernel
theorem dX12_laysStill_38 : decode cX12_laysStill 38 = .ok (.iconst 0, 1) := by decide +kernel
theorem dX12_laysStill_39 : decode cX12_laysStill 39 = .ok (.goto 6, 3) := by decide +kernel
theorem dX12_laysStill_42 : decode cX12_laysStill 42 = .ok (.ldc_w 354, 3) := by decide +kernel
theorem dX12_laysStill_45 : decode cX12_laysStill 45 = .ok (.iastore, 1) := by decide +kernel
theorem dX12_laysStill_46 : decode cX12_laysStill 46 = .ok (.iinc 5 1, 3) := by decide +kernel
theorem dX12_laysStill_49 : decode cX12_laysStill 49 = .ok (.goto (-46), 3) := by decide +kernel
theorem dX12_laysStill_52 : decode cX12_laysStill 52 = .ok (.iconst 1, 1) := by decide +kernel
theorem dX12_laysStill_53 : decode cX12_laysStill 53 = .ok (.istore 5, 2) := by decide +kernel
theorem dX12_laysStill_55 : decode cX12_laysStill 55 = .ok (.iload 5, 2) := by decide +kernel
theorem dX12_laysStill_57 : decode cX12_laysStill 57 = .ok (.ifCond .eq 80, 3) := by decide +kernel
theorem dX12_laysStill_60 : decode cX12_laysStill 60 = .ok (.iconst 0, 1) := by decide +kernel
theorem dX12_laysStill_61 : decode cX12_laysStill 61 = .ok (.istore 5, 2) := by decide +kernel
theorem dX12_laysStill_63 : decode cX12_laysStill 63 = .ok (.iconst 0, 1) := by decide +kernel
theorem dX12_laysStill_64 : decode cX12_laysStill 64 = .ok (.istore 6, 2) := by decide +kernel
theorem dX12_laysStill_66 : decode cX12_laysStill 66 = .ok (.iload 6, 2) := by decide +kernel
theorem dX12_laysStill_68 : decode cX12_laysStill 68 = .ok (.sipush 1296, 3) := by decide +kernel
theorem dX12_laysStill_71 : decode cX12_laysStill 71 = .ok (.if_icmp .ge 63, 3) := by decide +kernel
theorem dX12_laysStill_74 : decode cX12_laysStill 74 = .ok (.aload_n 0, 1) := by decide +kernel
theorem dX12_laysStill_75 : decode cX12_laysStill 75 = .ok (.getfield 39, 3) := by decide +kernel
theorem dX12_laysStill_78 : decode cX12_laysStill 78 = .ok (.iload 6, 2) := by decide +kernel
theorem dX12_laysStill_80 : decode cX12_laysStill 80 = .ok (.baload, 1) := by decide +kernel
theorem dX12_laysStill_81 : decode cX12_laysStill 81 = .ok (.ifCond .ne 6, 3) := by decide +kernel
theorem dX12_laysStill_84 : decode cX12_laysStill 84 = .ok (.goto 44, 3) := by decide +kernel
theorem dX12_laysStill_87 : decode cX12_laysStill 87 = .ok (.aload_n 0, 1) := by decide +kernel
theorem dX12_laysStill_88 : decode cX12_laysStill 88 = .ok (.iload 6, 2) := by decide +kernel
theorem dX12_laysStill_90 : decode cX12_laysStill 90 = .ok (.iload 4, 2) := by decide +kernel
theorem dX12_laysStill_92 : decode cX12_laysStill 92 = .ok (.invokevirtual 366, 3) := by decide +kernel
theorem dX12_laysStill_95 : decode cX12_laysStill 95 = .ok (.istore 7, 2) := by decide +kernel
theorem dX12_laysStill_97 : decode cX12_laysStill 97 = .ok (.iload 5, 2) := by decide +kernel
theorem dX12_laysStill_99 : decode cX12_laysStill 99 = .ok (.iload 7, 2) := by decide +kernel
theorem dX12_laysStill_101 : decode cX12_laysStill 101 = .ok (.aload_n 0, 1) := by decide +kernel
theorem dX12_laysStill_102 : decode cX12_laysStill 102 = .ok (.getfield 48, 3) := by decide +kernel
theorem dX12_laysStill_105 : decode cX12_laysStill 105 = .ok (.iload 6, 2) := by decide +kernel
theorem dX12_laysStill_107 : decode cX12_laysStill 107 = .ok (.iaload, 1) := by decide +kernel
theorem dX12_laysStill_108 : decode cX12_laysStill 108 = .ok (.if_icmp .ge 7, 3) := by decide +kernel
theorem dX12_laysStill_111 : decode cX12_laysStill 111 = .ok (.iconst 1, 1) := by decide +kernel
theorem dX12_laysStill_112 : decode cX12_laysStill 112 = .ok (.goto 4, 3) := by decide +kernel
theorem dX12_laysStill_115 : decode cX12_laysStill 115 = .ok (.iconst 0, 1) := by decide +kernel
theorem dX12_laysStill_116 : decode cX12_laysStill 116 = .ok (.ior, 1) := by decide +kernel
theorem dX12_laysStill_117 : decode cX12_laysStill 117 = .ok (.istore 5, 2) := by decide +kernel
theorem dX12_laysStill_119 : decode cX12_laysStill 119 = .ok (.aload_n 0, 1) := by decide +kernel
theorem dX12_laysStill_120 : decode cX12_laysStill 120 = .ok (.getfield 48, 3) := by decide +kernel
theorem dX12_laysStill_123 : decode cX12_laysStill 123 = .ok (.iload 6, 2) := by decide +kernel
theorem dX12_laysStill_125 : decode cX12_laysStill 125 = .ok (.iload 7, 2) := by decide +kernel
theorem dX12_laysStill_127 : decode cX12_laysStill 127 = .ok (.iastore, 1) := by decide +kernel
theorem dX12_laysStill_128 : decode cX12_laysStill 128 = .ok (.iinc 6 1, 3) := by decide +kernel
theorem dX12_laysStill_131 : decode cX12_laysStill 131 = .ok (.goto (-65), 3) := by decide +kernel
theorem dX12_laysStill_134 : decode cX12_laysStill 134 = .ok (.goto (-79), 3) := by decide +kernel
theorem dX12_laysStill_137 : decode cX12_laysStill 137 = .ok (.aload_n 0, 1) := by decide +kernel
theorem dX12_laysStill_138 : decode cX12_laysStill 138 = .ok (.getfield 48, 3) := by decide +kernel
theorem dX12_laysStill_141 : decode cX12_laysStill 141 = .ok (.aload_n 0, 1) := by decide +kernel
theorem dX12_laysStill_142 : decode cX12_laysStill 142 = .ok (.iload_n 1, 1) := by decide +kernel
theorem dX12_laysStill_143 : decode cX12_laysStill 143 = .ok (.invokevirtual 370, 3) := by decide +kernel
theorem dX12_laysStill_146 : decode cX12_laysStill 146 = .ok (.iaload, 1) := by decide +kernel
theorem dX12_laysStill_147 : decode cX12_laysStill 147 = .ok (.ireturn, 1) := by decide +kernel
set_option maxRecDepth 20000 in
set_option maxHeartbeats 2000000 in
theorem w_X12_laysStill_45 {X : CX} {d : Nat} (hd : 3 ≤ d) {g' : G} {rx : Int32} (k3 : Nat → Int32 → Int32 → Int32 → Int32 → Int32 → G → Option (Int32 × G)) (hk3 : ∀ (l0 : Nat) (l1 : Int32) (l2 : Int32) (l3 : Int32) (l4 : Int32) (l5 : Int32) (g : G), KD g l0 12 → k3 l0 l1 l2 l3 l4 l5 g = some (rx, g') → SemF X m_X12_laysStill d 3 [(0, .ref (ad X l0)), (1, .int l1), (2, .int l2), (3, .int l3), (4, .int l4), (5, .int l5)] [] g (some (.int rx)) g') (l0 : Nat) (l1 : Int32) (l2 : Int32) (l3 : Int32) (l4 : Int32) (l5 : Int32) (s0 : Int32) (s1 : Int32) (s2 : Nat) (g : G) (k_l0 : KD g l0 12) (k_s2 : KD g s2 14) (h : f_X12_laysStill_45 k3 l0 l1 l2 l3 l4 l5 s0 s1 s2 g = some (rx, g')) : SemF X m_X12_laysStill d 45 [(0, .ref (ad X l0)), (1, .int l1), (2, .int l2), (3, .int l3), (4, .int l4), (5, .int l5)] [.int s0, .int s1, .ref (ad X s2)] g (some (.int rx)) g' := by
  rw [f_X12_laysStill_45] at h
  obtain ⟨i1, h⟩ := gdI_some h
  refine SF_iast 46 dX12_laysStill_45 k_s2.1 i1 rfl ?_
  obtain ⟨g2, e3, h⟩ := lg_some h
  rw [← e3]
  have k_l0 := KD.eq e3 k_l0
  have k_s2 := KD.eq e3 k_s2
  have i1 := vp_eq e3 i1
  refine SF_iinc 5 (l5 + (1 : Int32)) [(5, .int (l5 + (1 : Int32))), (0, .ref (ad X l0)), (1, .int l1), (2, .int l2), (3, .int l3), (4, .int l4)] 49 dX12_laysStill_46 rfl rfl (by decide) rfl rfl ?_
  refine SF_goto 3 dX12_laysStill_49 rfl ?_
  refine SF_sub [1, 2, 3, 4, 5, 0] rfl ?_
  exact hk3 l0 l1 l2 l3 l4 (l5 + (1 : Int32)) g2 k_l0 h

set_option maxRecDepth 20000 in
set_option maxHeartbeats 2000000 in
theorem w_X12_laysStill_42 {X : CX} {d : Nat} (hd : 3 ≤ d) {g' : G} {rx : Int32} (k3 : Nat → Int32 → Int32 → Int32 → Int32 → Int32 → G → Option (Int32 × G)) (hk3 : ∀ (l0 : Nat) (l1 : Int32) (l2 : Int32) (l3 : Int32) (l4 : Int32) (l5 : Int32) (g : G), KD g l0 12 → k3 l0 l1 l2 l3 l4 l5 g = some (rx, g') → SemF X m_X12_laysStill d 3 [(0, .ref (ad X l0)), (1, .int l1), (2, .int l2), (3, .int l3), (4, .int l4), (5, .int l5)] [] g (some (.int rx)) g') (l0 : Nat) (l1 : Int32) (l2 : Int32) (l3 : Int32) (l4 : Int32) (l5 : Int32) (s0 : Int32) (s1 : Nat) (g : G) (k_l0 : KD g l0 12) (k_s1 : KD g s1 14) (h : f_X12_laysStill_42 k3 l0 l1 l2 l3 l4 l5 s0 s1 g = some (rx, g')) : SemF X m_X12_laysStill d 42 [(0, .ref (ad X l0)), (1, .int l1), (2, .int l2), (3, .int l3), (4, .int l4), (5, .int l5)] [.int s0, .ref (ad X s1)] g (some (.int rx)) g' := by
  rw [f_X12_laysStill_42] at h
  refine SF_ldcw 45 dX12_laysStill_42 ki_X12_354 rfl ?_
  exact w_X12_laysStill_45 hd k3 hk3 l0 l1 l2 l3 l4 l5 (1073741824 : Int32) s0 s1 g k_l0 k_s1 h

set_option maxRecDepth 20000 in
set_option maxHeartbeats 2000000 in
theorem w_X12_laysStill_128 {X : CX} {d : Nat} (hd : 3 ≤ d) {g' : G} {rx : Int32} (k55 : Nat → Int32 → Int32 → Int32 → G → Option (Int32 × G)) (hk55 : ∀ (l0 : Nat) (l1 : Int32) (l4 : Int32) (l5 : Int32) (g : G), KD g l0 12 → k55 l0 l1 l4 l5 g = some (rx, g') → SemF X m_X12_laysStill d 55 [(0, .ref (ad X l0)), (1, .int l1), (4, .int l4), (5, .int l5)] [] g (some (.int rx)) g') (k66 : Nat → Int32 → Int32 → Int32 → Int32 → G → Option (Int32 × G)) (hk66 : ∀ (l0 : Nat) (l1 : Int32) (l4 : Int32) (l5 : Int32) (l6 : Int32) (g : G), KD g l0 12 → k66 l0 l1 l4 l5 l6 g = some (rx, g') → SemF X m_X12_laysStill d 66 [(0, .ref (ad X l0)), (1, .int l1), (4, .int l4), (5, .int l5), (6, .int l6)] [] g (some (.int rx)) g') (l0 : Nat) (l1 : Int32) (l4 : Int32) (l5 : Int32) (l6 : Int32) (g : G) (k_l0 : KD g l0 12) (h : f_X12_laysStill_128 k55 k66 l0 l1 l4 l5 l6 g = some (rx, g')) : SemF X m_X12_laysStill d 128 [(0, .ref (ad X l0)), (1, .int l1), (4, .int l4), (5, .int l5), (6, .int l6)] [] g (some (.int rx)) g' := by
  rw [f_X12_laysStill_128] at h
  refine SF_iinc 4 (l6 + (1 : Int32)) [(6, .int (l6 + (1 : Int32))), (0, .ref (ad X l0)), (1, .int l1), (4, .int l4), (5, .int l5)] 131 dX12_laysStill_128 rfl rfl (by decide) rfl rfl ?_
  refine SF_goto 66 dX12_laysStill_131 rfl ?_
  refine SF_sub [1, 2, 3, 4, 0] rfl ?_
  exact hk66 l0 l1 l4 l5 (l6 + (1 : Int32)) g k_l0 h

set_option maxRecDepth 20000 in
set_option maxHeartbeats 2000000 in
theorem w_X12_laysStill_116 {X : CX} {d : Nat} (hd : 3 ≤ d) {g' : G} {rx : Int32} (k55 : Nat → Int32 → Int32 → Int32 → G → Option (Int32 × G)) (hk55 : ∀ (l0 : Nat) (l1 : Int32) (l4 : Int32) (l5 : Int32) (g : G), KD g l0 12 → k55 l0 l1 l4 l5 g = some (rx, g') → SemF X m_X12_laysStill d 55 [(0, .ref (ad X l0)), (1, .int l1), (4, .int l4), (5, .int l5)] [] g (some (.int rx)) g') (k66 : Nat → Int32 → Int32 → Int32 → Int32 → G → Option (Int32 × G)) (hk66 : ∀ (l0 : Nat) (l1 : Int32) (l4 : Int32) (l5 : Int32) (l6 : Int32) (g : G), KD g l0 12 → k66 l0 l1 l4 l5 l6 g = some (rx, g') → SemF X m_X12_laysStill d 66 [(0, .ref (ad X l0)), (1, .int l1), (4, .int l4), (5, .int l5), (6, .int l6)] [] g (some (.int rx)) g') (l0 : Nat) (l1 : Int32) (l4 : Int32) (l6 : Int32) (l7 : Int32) (s0 : Int32) (s1 : Int32) (g : G) (k_l0 : KD g l0 12) (h : f_X12_laysStill_116 k55 k66 l0 l1 l4 l6 l7 s0 s1 g = some (rx, g')) : SemF X m_X12_laysStill d 116 [(0, .ref (ad X l0)), (1, .int l1), (4, .int l4), (6, .int l6), (7, .int l7)] [.int s0, .int s1] g (some (.int rx)) g' := by
  rw [f_X12_laysStill_116] at h
  refine SF_ior 117 dX12_laysStill_116 rfl ?_
  obtain ⟨y1, e2, h⟩ := li_some h
  refine SF_eqI e2 ?_
  refine SF_istore [(5, .int y1), (0, .ref (ad X l0)), (1, .int l1), (4, .int l4), (6, .int l6), (7, .int l7)] 119 dX12_laysStill_117 (by decide) rfl rfl ?_
  refine SF_aload_n 1 120 dX12_laysStill_119 rfl rfl rfl ?_
  obtain ⟨b3, r4, h⟩ := dr_some h
  refine SF_getR 123 fl_X12_48 dX12_laysStill_120 k_l0.1 r4 rfl ?_
  refine SF_iload 4 125 dX12_laysStill_123 rfl rfl ?_
  refine SF_iload 5 127 dX12_laysStill_125 rfl rfl ?_
  obtain ⟨k5, h⟩ := gdK_some h
  obtain ⟨i6, h⟩ := gdI_some h
  refine SF_iast 128 dX12_laysStill_127 k5.1 i6 rfl ?_
  obtain ⟨g7, e8, h⟩ := lg_some h
  rw [← e8]
  have k_l0 := KD.eq e8 k_l0
  have k5 := KD.eq e8 k5
  have r4 := gR_eq e8 r4
  have i6 := vp_eq e8 i6
  refine SF_sub [1, 2, 3, 0, 4] rfl ?_
  exact w_X12_laysStill_128 hd k55 hk55 k66 hk66 l0 l1 l4 y1 l6 g7 k_l0 h

set_option maxRecDepth 20000 in
set_option maxHeartbeats 2000000 in
theorem w_X12_laysStill_66 {X : CX} {d : Nat} (hd : 3 ≤ d) {g' : G} {rx : Int32} (k55 : Nat → Int32 → Int32 → Int32 → G → Option (Int32 × G)) (hk55 : ∀ (l0 : Nat) (l1 : Int32) (l4 : Int32) (l5 : Int32) (g : G), KD g l0 12 → k55 l0 l1 l4 l5 g = some (rx, g') → SemF X m_X12_laysStill d 55 [(0, .ref (ad X l0)), (1, .int l1), (4, .int l4), (5, .int l5)] [] g (some (.int rx)) g') : ∀ (n : Nat) (l0 : Nat) (l1 : Int32) (l4 : Int32) (l5 : Int32) (l6 : Int32) (g : G), KD g l0 12 → f_X12_laysStill_66 k55 n l0 l1 l4 l5 l6 g = some (rx, g') → SemF X m_X12_laysStill d 66 [(0, .ref (ad X l0)), (1, .int l1), (4, .int l4), (5, .int l5), (6, .int l6)] [] g (some (.int rx)) g' := by
  intro n
  induction n with
  | zero =>
    intro l0 l1 l4 l5 l6 g k_l0 h
    rw [f_X12_laysStill_66] at h
    cases h
  | succ n ih =>
  intro l0 l1 l4 l5 l6 g k_l0 h
  rw [f_X12_laysStill_66] at h
  refine SF_iload 4 68 dX12_laysStill_66 rfl rfl ?_
  refine SF_sipush (1296 : Int32) 71 dX12_laysStill_68 rfl rfl ?_
  refine SF_icge 134 74 dX12_laysStill_71 rfl rfl (fun c1 => ?_) (fun c1 => ?_)
  · have h := ite_t c1 h
    refine SF_goto 55 dX12_laysStill_134 rfl ?_
    refine SF_sub [0, 1, 2, 3] rfl ?_
    exact hk55 l0 l1 l4 l5 g k_l0 h
  · have h := ite_f c1 h
    refine SF_aload_n 0 75 dX12_laysStill_74 rfl rfl rfl ?_
    obtain ⟨b2, r3, h⟩ := dr_some h
    refine SF_getR 78 fl_X12_39 dX12_laysStill_75 k_l0.1 r3 rfl ?_
    refine SF_iload 4 80 dX12_laysStill_78 rfl rfl ?_
    obtain ⟨k4, h⟩ := gdK_some h
    obtain ⟨i5, h⟩ := gdI_some h
    refine SF_zald 81 dX12_laysStill_80 k4.1 i5 rfl ?_
    refine SF_ifne 87 84 dX12_laysStill_81 rfl rfl (fun c6 => ?_) (fun c6 => ?_)
    · have h := ite_f c6 h
      refine SF_aload_n 0 88 dX12_laysStill_87 rfl rfl rfl ?_
      refine SF_iload 4 90 dX12_laysStill_88 rfl rfl ?_
      refine SF_iload 2 92 dX12_laysStill_90 rfl rfl ?_
      obtain ⟨v7, g8, q9, h⟩ := bd_some h
      have s10 := w_X12_leastBy (X := X) (Nat.le_refl 2) l0 l6 l4 g g8 v7 k_l0 q9
      refine SF_callVi 95 mi_X12_leastBy ml_X12_366 dX12_laysStill_92 (Nat.le_trans (by decide) hd) s10 k_l0.1 rfl rfl (Nat.le_of_ble_eq_true rfl) rfl ?_
      have k_l0 := k_l0.ext s10.1
      have k4 := k4.ext s10.1
      refine SF_istore [(7, .int v7), (0, .ref (ad X l0)), (1, .int l1), (4, .int l4), (5, .int l5), (6, .int l6)] 97 dX12_laysStill_95 (by decide) rfl rfl ?_
      refine SF_iload 4 99 dX12_laysStill_97 rfl rfl ?_
      refine SF_iload 0 101 dX12_laysStill_99 rfl rfl ?_
      refine SF_aload_n 1 102 dX12_laysStill_101 rfl rfl rfl ?_
      obtain ⟨b11, r12, h⟩ := dr_some h
      refine SF_getR 105 fl_X12_48 dX12_laysStill_102 k_l0.1 r12 rfl ?_
      refine SF_iload 5 107 dX12_laysStill_105 rfl rfl ?_
      obtain ⟨k13, h⟩ := gdK_some h
      obtain ⟨i14, h⟩ := gdI_some h
      refine SF_iald 108 dX12_laysStill_107 k13.1 i14 rfl ?_
      refine SF_icge 115 111 dX12_laysStill_108 rfl rfl (fun c15 => ?_) (fun c15 => ?_)
      · have h := ite_t c15 h
        refine SF_iconst (0 : Int32) 116 dX12_laysStill_115 rfl rfl ?_
        refine SF_sub [1, 2, 3, 5, 0] rfl ?_
        exact w_X12_laysStill_116 hd k55 hk55 (f_X12_laysStill_66 k55 n) ih l0 l1 l4 l6 v7 (0 : Int32) l5 g8 k_l0 h
      · have h := ite_f c15 h
        refine SF_iconst (1 : Int32) 112 dX12_laysStill_111 rfl rfl ?_
        refine SF_goto 116 dX12_laysStill_112 rfl ?_
        refine SF_sub [1, 2, 3, 5, 0] rfl ?_
        exact w_X12_laysStill_116 hd k55 hk55 (f_X12_laysStill_66 k55 n) ih l0 l1 l4 l6 v7 (1 : Int32) l5 g8 k_l0 h
    · have h := ite_t c6 h
      refine SF_goto 128 dX12_laysStill_84 rfl ?_
      exact w_X12_laysStill_128 hd k55 hk55 (f_X12_laysStill_66 k55 n) ih l0 l1 l4 l5 l6 g k_l0 h

set_option maxRecDepth 20000 in
set_option maxHeartbeats 2000000 in
theorem w_X12_laysStill_55 {X : CX} {d : Nat} (hd : 3 ≤ d) {g' : G} {rx : Int32} : ∀ (n : Nat) (l0 : Nat) (l1 : Int32) (l4 : Int32) (l5 : Int32) (g : G), KD g l0 12 → f_X12_laysStill_55 n l0 l1 l4 l5 g = some (rx, g') → SemF X m_X12_laysStill d 55 [(0, .ref (ad X l0)), (1, .int l1), (4, .int l4), (5, .int l5)] [] g (some (.int rx)) g' := by
  intro n
  induction n with
  | zero =>
    intro l0 l1 l4 l5 g k_l0 h
    rw [f_X12_laysStill_55] at h
    cases h
  | succ n ih =>
  intro l0 l1 l4 l5 g k_l0 h
  rw [f_X12_laysStill_55] at h
  refine SF_iload 3 57 dX12_laysStill_55 rfl rfl ?_
  refine SF_ifeq 137 60 dX12_laysStill_57 rfl rfl (fun c1 => ?_) (fun c1 => ?_)
  · have h := ite_t c1 h
    refine SF_aload_n 0 138 dX12_laysStill_137 rfl rfl rfl ?_
    obtain ⟨b2, r3, h⟩ := dr_some h
    refine SF_getR 141 fl_X12_48 dX12_laysStill_138 k_l0.1 r3 rfl ?_
    refine SF_aload_n 0 142 dX12_laysStill_141 rfl rfl rfl ?_
    refine SF_iload_n 1 143 dX12_laysStill_142 rfl rfl rfl ?_
    obtain ⟨v4, g5, q6, h⟩ := bd_some h
    have s7 := w_X12_standNow (X := X) (Nat.le_refl 1) l0 l1 g g5 v4 k_l0 q6
    refine SF_callVi 146 mi_X12_standNow ml_X12_370 dX12_laysStill_143 (Nat.le_trans (by decide) hd) s7 k_l0.1 rfl rfl (Nat.le_of_ble_eq_true rfl) rfl ?_
    have k_l0 := k_l0.ext s7.1
    obtain ⟨k8, h⟩ := gdK_some h
    obtain ⟨i9, h⟩ := gdI_some h
    refine SF_iald 147 dX12_laysStill_146 k8.1 i9 rfl ?_
    exact RT_i rfl dX12_laysStill_147 h
  · have h := ite_f c1 h
    refine SF_iconst (0 : Int32) 61 dX12_laysStill_60 rfl rfl ?_
    refine SF_istore [(5, .int (0 : Int32)), (0, .ref (ad X l0)), (1, .int l1), (4, .int l4)] 63 dX12_laysStill_61 (by decide) rfl rfl ?_
    refine SF_iconst (0 : Int32) 64 dX12_laysStill_63 rfl rfl ?_
    refine SF_istore [(6, .int (0 : Int32)), (5, .int (0 : Int32)), (0, .ref (ad X l0)), (1, .int l1), (4, .int l4)] 66 dX12_laysStill_64 (by decide) rfl rfl ?_
    refine SF_sub [2, 3, 4, 1, 0] rfl ?_
    exact w_X12_laysStill_66 hd (f_X12_laysStill_55 n) ih FU l0 l1 l4 (0 : Int32) (0 : Int32) g k_l0 h

set_option maxRecDepth 20000 in
set_option maxHeartbeats 2000000 in
theorem w_X12_laysStill_3 {X : CX} {d : Nat} (hd : 3 ≤ d) {g' : G} {rx : Int32} : ∀ (n : Nat) (l0 : Nat) (l1 : Int32) (l2 : Int32) (l3 : Int32) (l4 : Int32) (l5 : Int32) (g : G), KD g l0 12 → f_X12_laysStill_3 n l0 l1 l2 l3 l4 l5 g = some (rx, g') → SemF X m_X12_laysStill d 3 [(0, .ref (ad X l0)), (1, .int l1), (2, .int l2), (3, .int l3), (4, .int l4), (5, .int l5)] [] g (some (.int rx)) g' := by
  intro n
  induction n with
  | zero =>
    intro l0 l1 l2 l3 l4 l5 g k_l0 h
    rw [f_X12_laysStill_3] at h
    cases h
  | succ n ih =>
  intro l0 l1 l2 l3 l4 l5 g k_l0 h
  rw [f_X12_laysStill_3] at h
  refine SF_iload 5 5 dX12_laysStill_3 rfl rfl ?_
  refine SF_sipush (1296 : Int32) 8 dX12_laysStill_5 rfl rfl ?_
  refine SF_icge 52 11 dX12_laysStill_8 rfl rfl (fun c1 => ?_) (fun c1 => ?_)
  · have h := ite_t c1 h
    refine SF_iconst (1 : Int32) 53 dX12_laysStill_52 rfl rfl ?_
    refine SF_istore [(5, .int (1 : Int32)), (0, .ref (ad X l0)), (1, .int l1), (2, .int l2), (3, .int l3), (4, .int l4)] 55 dX12_laysStill_53 (by decide) rfl rfl ?_
    refine SF_sub [1, 2, 5, 0] rfl ?_
    exact w_X12_laysStill_55 hd FU l0 l1 l4 (1 : Int32) g k_l0 h
  · have h := ite_f c1 h
    refine SF_aload_n 0 12 dX12_laysStill_11 rfl rfl rfl ?_
    obtain ⟨b2, r3, h⟩ := dr_some h
    refine SF_getR 15 fl_X12_48 dX12_laysStill_12 k_l0.1 r3 rfl ?_
    refine SF_iload 5 17 dX12_laysStill_15 rfl rfl ?_
    refine SF_aload_n 0 18 dX12_laysStill_17 rfl rfl rfl ?_
    obtain ⟨b4, r5, h⟩ := dr_some h
    refine SF_getR 21 fl_X12_39 dX12_laysStill_18 k_l0.1 r5 rfl ?_
    refine SF_iload 5 23 dX12_laysStill_21 rfl rfl ?_
    obtain ⟨k6, h⟩ := gdK_some h
    obtain ⟨i7, h⟩ := gdI_some h
    refine SF_zald 24 dX12_laysStill_23 k6.1 i7 rfl ?_
    refine SF_ifeq 42 27 dX12_laysStill_24 rfl rfl (fun c8 => ?_) (fun c8 => ?_)
    · have h := ite_t c8 h
      obtain ⟨k9, h⟩ := gdK_some h
      exact w_X12_laysStill_42 hd (f_X12_laysStill_3 n) ih l0 l1 l2 l3 l4 l5 l5 b2 g k_l0 k9 h
    · have h := ite_f c8 h
      refine SF_aload_n 0 28 dX12_laysStill_27 rfl rfl rfl ?_
      refine SF_iload 5 30 dX12_laysStill_28 rfl rfl ?_
      refine SF_iload_n 2 31 dX12_laysStill_30 rfl rfl rfl ?_
      refine SF_iload_n 3 32 dX12_laysStill_31 rfl rfl rfl ?_
      obtain ⟨v10, g11, q12, h⟩ := bd_some h
      have s13 := w_X12_isGoal (X := X) (Nat.le_refl 1) l0 l5 l2 l3 g g11 v10 k_l0 q12
      refine SF_callVb 35 mi_X12_isGoal ml_X12_362 dX12_laysStill_32 (Nat.le_trans (by decide) hd) s13 k_l0.1 rfl rfl (Nat.le_of_ble_eq_true rfl) rfl ?_
      have k_l0 := k_l0.ext s13.1
      have k6 := k6.ext s13.1
      refine SF_ifeq 42 38 dX12_laysStill_35 rfl rfl (fun c14 => ?_) (fun c14 => ?_)
      · have h := ite_t c14 h
        obtain ⟨k15, h⟩ := gdK_some h
        exact w_X12_laysStill_42 hd (f_X12_laysStill_3 n) ih l0 l1 l2 l3 l4 l5 l5 b2 g11 k_l0 k15 h
      · have h := ite_f c14 h
        refine SF_iconst (0 : Int32) 39 dX12_laysStill_38 rfl rfl ?_
        refine SF_goto 45 dX12_laysStill_39 rfl ?_
        obtain ⟨k16, h⟩ := gdK_some h
        exact w_X12_laysStill_45 hd (f_X12_laysStill_3 n) ih l0 l1 l2 l3 l4 l5 (0 : Int32) l5 b2 g11 k_l0 k16 h

set_option maxRecDepth 20000 in
set_option maxHeartbeats 2000000 in
theorem w_X12_laysStill {X : CX} {d : Nat} (hd : 3 ≤ d) (l0 : Nat) (l1 : Int32) (l2 : Int32) (l3 : Int32) (l4 : Int32) (g g' : G) (rx : Int32) (k_l0 : KD g l0 12) (h : f_X12_laysStill l0 l1 l2 l3 l4 g = some (rx, g')) : Sem X m_X12_laysStill d [.ref (ad X l0), .int l1, .int l2, .int l3, .int l4] g (some (.int rx)) g' := by
  refine Sem_of (lo := [(0, .ref (ad X l0)), (1, .int l1), (2, .int l2), (3, .int l3), (4, .int l4)]) (by decide +kernel) rfl (Nat.le_of_ble_eq_true rfl) ?_
  rw [f_X12_laysStill] at h
  refine SF_iconst (0 : Int32) 1 dX12_laysStill_0 rfl rfl ?_
  refine SF_istore [(5, .int (0 : Int32)), (0, .ref (ad X l0)), (1, .int l1), (2, .int l2), (3, .int l3), (4, .int l4)] 3 dX12_laysStill_1 (by decide) rfl rfl ?_
  refine SF_sub [1, 2, 3, 4, 5, 0] rfl ?_
  exact w_X12_laysStill_3 hd FU l0 l1 l2 l3 l4 (0 : Int32) g k_l0 h

theorem dX12_toldFar_0 : decode cX12_toldFar 0 = .ok (.iload_n 0, 1) := by decide +kernel
theorem dX12_toldFar_1 : decode cX12_toldFar 1 = .ok (.ldc_w 354, 3) := by decide +kernel
theorem dX12_toldFar_4 : decode cX12_toldFar 4 = .ok (.if_icmp .ne 7, 3) := by decide +kernel
theorem dX12_toldFar_7 : decode cX12_toldFar 7 = .ok (.iconst (-1), 1) := by decide +kernel
theorem dX12_toldFar_8 : decode cX12_toldFar 8 = .ok (.goto 16, 3) := by decide +kernel
theorem dX12_toldFar_11 : decode cX12_toldFar 11 = .ok (.iload_n 1, 1) := by decide +kernel
theorem dX12_toldFar_12 : decode cX12_toldFar 12 = .ok (.ifCond .eq 11, 3) := by decide +kernel
theorem dX12_toldFar_15 : decode cX12_toldFar 15 = .ok (.iload_n 0, 1) := by decide +kernel
theorem dX12_toldFar_16 : decode cX12_toldFar 16 = .ok (.sipush 10000, 3) := by decide +kernel
theorem dX12_toldFar_19 : decode cX12_toldFar 19 = .ok (.idiv, 1) := by decide +kernel
theorem dX12_toldFar_20 : decode cX12_toldFar 20 = .ok (.goto 4, 3) := by decide +kernel
theorem dX12_toldFar_23 : decode cX12_toldFar 23 = .ok (.iload_n 0, 1) := by decide +kernel
theorem dX12_toldFar_24 : decode cX12_toldFar 24 = .ok (.ireturn, 1) := by decide +kernel
set_option maxRecDepth 20000 in
set_option maxHeartbeats 2000000 in
theorem w_X12_toldFar {X : CX} {d : Nat} (hd : 0 ≤ d) (l0 : Int32) (l1 : Int32) (g g' : G) (rx : Int32) (h : f_X12_toldFar l0 l1 g = some (rx, g')) : Sem X m_X12_toldFar d [.int l0, .int l1] g (some (.int rx)) g' := by
  refine Sem_of (lo := [(0, .int l0), (1, .int l1)]) (by decide +kernel) rfl (Nat.le_of_ble_eq_true rfl) ?_
  rw [f_X12_toldFar] at h
  refine SF_iload_n 0 1 dX12_toldFar_0 rfl rfl rfl ?_
  refine SF_ldcw 4 dX12_toldFar_1 ki_X12_354 rfl ?_
  refine SF_icne 11 7 dX12_toldFar_4 rfl rfl (fun c1 => ?_) (fun c1 => ?_)
  · have h := ite_f c1 h
    refine SF_iload_n 1 12 dX12_toldFar_11 rfl rfl rfl ?_
    refine SF_ifeq 23 15 dX12_toldFar_12 rfl rfl (fun c2 => ?_) (fun c2 => ?_)
    · have h := ite_t c2 h
      refine SF_iload_n 0 24 dX12_toldFar_23 rfl rfl rfl ?_
      exact RT_i rfl dX12_toldFar_24 h
    · have h := ite_f c2 h
      refine SF_iload_n 0 16 dX12_toldFar_15 rfl rfl rfl ?_
      refine SF_sipush (10000 : Int32) 19 dX12_toldFar_16 rfl rfl ?_
      refine SF_idiv 20 dX12_toldFar_19 (by decide) rfl ?_
      refine SF_goto 24 dX12_toldFar_20 rfl ?_
      exact RT_i rfl dX12_toldFar_24 h
  · have h := ite_t c1 h
    refine SF_iconst (-1 : Int32) 8 dX12_toldFar_7 rfl rfl ?_
    refine SF_goto 24 dX12_toldFar_8 rfl ?_
    exact RT_i rfl dX12_toldFar_24 h

theorem dX12_comes_0 : decode cX12_comes 0 = .ok (.aload_n 0, 1) := by decide +kernel
theorem dX12_comes_1 : decode cX12_comes 1 = .ok (.iload_n 1, 1) := by decide +kernel
theorem dX12_comes_2 : decode cX12_comes 2 = .ok (.iload_n 2, 1) := by decide +kernel
theorem dX12_comes_3 : decode cX12_comes 3 = .ok (.iload_n 3, 1) := by decide +kernel
theorem dX12_comes_4 : decode cX12_comes 4 = .ok (.invokevirtual 373, 3) := by decide +kernel
theorem dX12_comes_7 : decode cX12_comes 7 = .ok (.ifCond .ne 6, 3) := by decide +kernel
theorem dX12_comes_10 : decode cX12_comes 10 = .ok (.bipush (-2), 2) := by decide +kernel
theorem dX12_comes_12 : decode cX12_comes 12 = .ok (.ireturn, 1) := by decide +kernel
theorem dX12_comes_13 : decode cX12_comes 13 = .ok (.aload_n 0, 1) := by decide +kernel
theorem dX12_comes_14 : decode cX12_comes 14 = .ok (.iload_n 1, 1) := by decide +kernel
theorem dX12_comes_15 : decode cX12_comes 15 = .ok (.invokevirtual 376, 3) := by decide +kernel
theorem dX12_comes_18 : decode cX12_comes 18 = .ok (.aload_n 0, 1) := by decide +kernel
theorem dX12_comes_19 : decode cX12_comes 19 = .ok (.iload_n 1, 1) := by decide +kernel
theorem dX12_comes_20 : decode cX12_comes 20 = .ok (.iload_n 2, 1) := by decide +kernel
theorem dX12_comes_21 : decode cX12_comes 21 = .ok (.iload_n 3, 1) := by decide +kernel
theorem dX12_comes_22 : decode cX12_comes 22 = .ok (.iload 4, 2) := by decide +kernel
theorem dX12_comes_24 : decode cX12_comes 24 = .ok (.invokevirtual 379, 3) := by decide +kernel
theorem dX12_comes_27 : decode cX12_comes 27 = .ok (.iload 4, 2) := by decide +kernel
theorem dX12_comes_29 : decode cX12_comes 29 = .ok (.invokestatic 383, 3) := by decide +kernel
theorem dX12_comes_32 : decode cX12_comes 32 = .ok (.ireturn, 1) := by decide +kernel
set_option maxRecDepth 20000 in
set_option maxHeartbeats 2000000 in
theorem w_X12_comes {X : CX} {d : Nat} (hd : 7 ≤ d) (l0 : Nat) (l1 : Int32) (l2 : Int32) (l3 : Int32) (l4 : Int32) (g g' : G) (rx : Int32) (k_l0 : KD g l0 12) (h : f_X12_comes l0 l1 l2 l3 l4 g = some (rx, g')) : Sem X m_X12_comes d [.ref (ad X l0), .int l1, .int l2, .int l3, .int l4] g (some (.int rx)) g' := by
  refine Sem_of (lo := [(0, .ref (ad X l0)), (1, .int l1), (2, .int l2), (3, .int l3), (4, .int l4)]) (by decide +kernel) rfl (Nat.le_of_ble_eq_true rfl) ?_
  rw [f_X12_comes] at h
  refine SF_aload_n 0 1 dX12_comes_0 rfl rfl rfl ?_
  refine SF_iload_n 1 2 dX12_comes_1 rfl rfl rfl ?_
  refine SF_iload_n 2 3 dX12_comes_2 rfl rfl rfl ?_
  refine SF_iload_n 3 4 dX12_comes_3 rfl rfl rfl ?_
  obtain ⟨v1, g2, q3, h⟩ := bd_some h
  have s4 := w_X12_isGoalTold (X := X) (Nat.le_refl 2) l0 l1 l2 l3 g g2 v1 k_l0 q3
  refine SF_callVb 7 mi_X12_isGoalTold ml_X12_373 dX12_comes_4 (Nat.le_trans (by decide) hd) s4 k_l0.1 rfl rfl (Nat.le_of_ble_eq_true rfl) rfl ?_
  have k_l0 := k_l0.ext s4.1
  refine SF_ifne 13 10 dX12_comes_7 rfl rfl (fun c5 => ?_) (fun c5 => ?_)
  · have h := ite_f c5 h
    refine SF_aload_n 0 14 dX12_comes_13 rfl rfl rfl ?_
    refine SF_iload_n 1 15 dX12_comes_14 rfl rfl rfl ?_
    obtain ⟨v6, g7, q8, h⟩ := bd_some h
    have s9 := w_X12_laysStands (X := X) (Nat.le_refl 6) l0 l1 g2 g7 v6 k_l0 q8
    refine SF_callVv 18 mi_X12_laysStands ml_X12_376 dX12_comes_15 (Nat.le_trans (by decide) hd) s9 k_l0.1 rfl rfl (Nat.le_of_ble_eq_true rfl) rfl ?_
    have k_l0 := k_l0.ext s9.1
    refine SF_aload_n 0 19 dX12_comes_18 rfl rfl rfl ?_
    refine SF_iload_n 1 20 dX12_comes_19 rfl rfl rfl ?_
    refine SF_iload_n 2 21 dX12_comes_20 rfl rfl rfl ?_
    refine SF_iload_n 3 22 dX12_comes_21 rfl rfl rfl ?_
    refine SF_iload 4 24 dX12_comes_22 rfl rfl ?_
    obtain ⟨v10, g11, q12, h⟩ := bd_some h
    have s13 := w_X12_laysStill (X := X) (Nat.le_refl 3) l0 l1 l2 l3 l4 g7 g11 v10 k_l0 q12
    refine SF_callVi 27 mi_X12_laysStill ml_X12_379 dX12_comes_24 (Nat.le_trans (by decide) hd) s13 k_l0.1 rfl rfl (Nat.le_of_ble_eq_true rfl) rfl ?_
    have k_l0 := k_l0.ext s13.1
    refine SF_iload 4 29 dX12_comes_27 rfl rfl ?_
    obtain ⟨v14, g15, q16, h⟩ := bd_some h
    have s17 := w_X12_toldFar (X := X) (Nat.le_refl 0) v10 l4 g11 g15 v14 q16
    refine SF_callSi 32 mi_X12_toldFar ml_X12_383 dX12_comes_29 (Nat.le_trans (by decide) hd) s17 rfl rfl (Nat.le_of_ble_eq_true rfl) rfl ?_
    have k_l0 := k_l0.ext s17.1
    exact RT_i rfl dX12_comes_32 h
  · have h := ite_t c5 h
    refine SF_bipush (-2 : Int32) 12 dX12_comes_10 rfl rfl ?_
    exact RT_i rfl dX12_comes_12 h

theorem dX12_soonest_0 : decode cX12_soonest 0 = .ok (.aload_n 0, 1) := by decide +kernel
theorem dX12_soonest_1 : decode cX12_soonest 1 = .ok (.iconst 0, 1) := by decide +kernel
theorem dX12_soonest_2 : decode cX12_soonest 2 = .ok (.putfield 1, 3) := by decide +kernel
theorem dX12_soonest_5 : decode cX12_soonest 5 = .ok (.aload_n 0, 1) := by decide +kernel
theorem dX12_soonest_6 : decode cX12_soonest 6 = .ok (.iload_n 1, 1) := by decide +kernel
theorem dX12_soonest_7 : decode cX12_soonest 7 = .ok (.iload_n 2, 1) := by decide +kernel
theorem dX12_soonest_8 : decode cX12_soonest 8 = .ok (.iload_n 3, 1) := by decide +kernel
theorem dX12_soonest_9 : decode cX12_soonest 9 = .ok (.iconst 0, 1) := by decide +kernel
theorem dX12_soonest_10 : decode cX12_soonest 10 = .ok (.invokevirtual 389, 3) := by decide +kernel
theorem dX12_soonest_13 : decode cX12_soonest 13 = .ok (.ireturn, 1) := by decide +kernel
set_option maxRecDepth 20000 in
set_option maxHeartbeats 2000000 in
theorem w_X12_soonest {X : CX} {d : Nat} (hd : 8 ≤ d) (l0 : Nat) (l1 : Int32) (l2 : Int32) (l3 : Int32) (g g' : G) (rx : Int32) (k_l0 : KD g l0 12) (h : f_X12_soonest l0 l1 l2 l3 g = some (rx, g')) : Sem X m_X12_soonest d [.ref (ad X l0), .int l1, .int l2, .int l3] g (some (.int rx)) g' := by
  refine Sem_of (lo := [(0, .ref (ad X l0)), (1, .int l1), (2, .int l2), (3, .int l3)]) (by decide +kernel) rfl (Nat.le_of_ble_eq_true rfl) ?_
  rw [f_X12_soonest] at h
  refine SF_aload_n 0 1 dX12_soonest_0 rfl rfl rfl ?_
  refine SF_iconst (0 : Int32) 2 dX12_soonest_1 rfl rfl ?_
  refine SF_putI 5 fl_X12_1 dX12_soonest_2 k_l0.1 (fn_int _) (Or.inl rfl) rfl ?_
  obtain ⟨g1, e2, h⟩ := lg_some h
  rw [← e2]
  have k_l0 := KD.eq e2 k_l0
  refine SF_aload_n 0 6 dX12_soonest_5 rfl rfl rfl ?_
  refine SF_iload_n 1 7 dX12_soonest_6 rfl rfl rfl ?_
  refine SF_iload_n 2 8 dX12_soonest_7 rfl rfl rfl ?_
  refine SF_iload_n 3 9 dX12_soonest_8 rfl rfl rfl ?_
  refine SF_iconst (0 : Int32) 10 dX12_soonest_9 rfl rfl ?_
  obtain ⟨v3, g4, q5, h⟩ := bd_some h
  have s6 := w_X12_comes (X := X) (Nat.le_refl 7) l0 l1 l2 l3 (0 : Int32) g1 g4 v3 k_l0 q5
  refine SF_callVi 13 mi_X12_comes ml_X12_389 dX12_soonest_10 (Nat.le_trans (by decide) hd) s6 k_l0.1 rfl rfl (Nat.le_of_ble_eq_true rfl) rfl ?_
  have k_l0 := k_l0.ext s6.1
  exact RT_i rfl dX12_soonest_13 h

theorem dX4_leadAt_0 : decode cX4_leadAt 0 = .ok (.iload_n 2, 1) := by decide +kernel
theorem dX4_leadAt_1 : decode cX4_leadAt 1 = .ok (.ifCond .lt 12, 3) := by decide +kernel
theorem dX4_leadAt_4 : decode cX4_leadAt 4 = .ok (.iload_n 2, 1) := by decide +kernel
theorem dX4_leadAt_5 : decode cX4_leadAt 5 = .ok (.aload_n 0, 1) := by decide +kernel
theorem dX4_leadAt_6 : decode cX4_leadAt 6 = .ok (.iload_n 1, 1) := by decide +kernel
theorem dX4_leadAt_7 : decode cX4_leadAt 7 = .ok (.invokevirtual 58, 3) := by decide +kernel
theorem dX4_leadAt_10 : decode cX4_leadAt 10 = .ok (.if_icmp .lt 5, 3) := by decide +kernel
theorem dX4_leadAt_13 : decode cX4_leadAt 13 = .ok (.iconst (-1), 1) := by decide +kernel
theorem dX4_leadAt_14 : decode cX4_leadAt 14 = .ok (.ireturn, 1) := by decide +kernel
theorem dX4_leadAt_15 : decode cX4_leadAt 15 = .ok (.iload_n 1, 1) := by decide +kernel
theorem dX4_leadAt_16 : decode cX4_leadAt 16 = .ok (.istore_n 3, 1) := by decide +kernel
theorem dX4_leadAt_17 : decode cX4_leadAt 17 = .ok (.iconst 0, 1) := by decide +kernel
theorem dX4_leadAt_18 : decode cX4_leadAt 18 = .ok (.istore 4, 2) := by decide +kernel
theorem dX4_leadAt_20 : decode cX4_leadAt 20 = .ok (.iload 4, 2) := by decide +kernel
theorem dX4_leadAt_22 : decode cX4_leadAt 22 = .ok (.sipush 256, 3) := by decide +kernel
theorem dX4_leadAt_25 : decode cX4_leadAt 25 = .ok (.if_icmp .ge 43, 3) := by decide +kernel
theorem dX4_leadAt_28 : decode cX4_leadAt 28 = .ok (.aload_n 0, 1) := by decide +kernel
theorem dX4_leadAt_29 : decode cX4_leadAt 29 = .ok (.iload_n 3, 1) := by decide +kernel
theorem dX4_leadAt_30 : decode cX4_leadAt 30 = .ok (.invokevirtual 54, 3) := by decide +kernel
theorem dX4_leadAt_33 : decode cX4_leadAt 33 = .ok (.ifCond .eq 35, 3) := by decide +kernel
theorem dX4_leadAt_36 : decode cX4_leadAt 36 = .ok (.aload_n 0, 1) := by decide +kernel
theorem dX4_leadAt_37 : decode cX4_leadAt 37 = .ok (.getfield 15, 3) := by decide +kernel
theorem dX4_leadAt_40 : decode cX4_leadAt 40 = .ok (.iload_n 3, 1) := by decide +kernel
theorem dX4_leadAt_41 : decode cX4_leadAt 41 = .ok (.iaload, 1) := by decide +kernel
theorem dX4_leadAt_42 : decode cX4_leadAt 42 = .ok (.iload_n 2, 1) := by decide +kernel
theorem dX4_leadAt_43 : decode cX4_leadAt 43 = .ok (.iconst 1, 1) := by decide +kernel
theorem dX4_leadAt_44 : decode cX4_leadAt 44 = .ok (.iadd, 1) := by decide +kernel
theorem dX4_leadAt_45 : decode cX4_leadAt 45 = .ok (.if_icmp .ne 10, 3) := by decide +kernel
theorem dX4_leadAt_48 : decode cX4_leadAt 48 = .ok (.aload_n 0, 1) := by decide +kernel
theorem dX4_leadAt_49 : decode cX4_leadAt 49 = .ok (.getfield 21, 3) := by decide +kernel
theorem dX4_leadAt_52 : decode cX4_leadAt 52 = .ok (.iload_n 3, 1) := by decide +kernel
theorem dX4_leadAt_53 : decode cX4_leadAt 53 = .ok (.iaload, 1) := by decide +kernel
theorem dX4_leadAt_54 : decode cX4_leadAt 54 = .ok (.ireturn, 1) := by decide +kernel
theorem dX4_leadAt_55 : decode cX4_leadAt 55 = .ok (.aload_n 0, 1) := by decide +kernel
theorem dX4_leadAt_56 : decode cX4_leadAt 56 = .ok (.getfield 18, 3) := by decide +kernel
theorem dX4_leadAt_59 : decode cX4_leadAt 59 = .ok (.iload_n 3, 1) := by decide +kernel
theorem dX4_leadAt_60 : decode cX4_leadAt 60 = .ok (.iaload, 1) := by decide +kernel
theorem dX4_leadAt_61 : decode cX4_leadAt 61 = .ok (.istore_n 3, 1) := by decide +kernel
theorem dX4_leadAt_62 : decode cX4_leadAt 62 = .ok (.iinc 4 1, 3) := by decide +kernel
theorem dX4_leadAt_65 : decode cX4_leadAt 65 = .ok (.goto (-45), 3) := by decide +kernel
theorem dX4_leadAt_68 : decode cX4_leadAt 68 = .ok (.iconst (-1), 1) := by decide +kernel
theorem dX4_leadAt_69 : decode cX4_leadAt 69 = .ok (.ireturn, 1) := by decide +kernel
set_option maxRecDepth 20000 in
set_option maxHeartbeats 2000000 in
theorem w_X4_leadAt_20 {X : CX} {d : Nat} (hd : 2 ≤ d) {g' : G} {rx : Int32} : ∀ (n : Nat) (l0 : Nat) (l2 : Int32) (l3 : Int32) (l4 : Int32) (g : G), KD g l0 4 → f_X4_leadAt_20 n l0 l2 l3 l4 g = some (rx, g') → SemF X m_X4_leadAt d 20 [(0, .ref (ad X l0)), (2, .int l2), (3, .int l3), (4, .int l4)] [] g (some (.int rx)) g' := by
  intro n
  induction n with
  | zero =>
    intro l0 l2 l3 l4 g k_l0 h
    rw [f_X4_leadAt_20] at h
    cases h
  | succ n ih =>
  intro l0 l2 l3 l4 g k_l0 h
  rw [f_X4_leadAt_20] at h
  refine SF_iload 3 22 dX4_leadAt_20 rfl rfl ?_
  refine SF_sipush (256 : Int32) 25 dX4_leadAt_22 rfl rfl ?_
  refine SF_icge 68 28 dX4_leadAt_25 rfl rfl (fun c1 => ?_) (fun c1 => ?_)
  · have h := ite_t c1 h
    refine SF_iconst (-1 : Int32) 69 dX4_leadAt_68 rfl rfl ?_
    exact RT_i rfl dX4_leadAt_69 h
  · have h := ite_f c1 h
    refine SF_aload_n 0 29 dX4_leadAt_28 rfl rfl rfl ?_
    refine SF_iload_n 2 30 dX4_leadAt_29 rfl rfl rfl ?_
    obtain ⟨v2, g3, q4, h⟩ := bd_some h
    have s5 := w_X4_has (X := X) (Nat.le_refl 0) l0 l3 g g3 v2 k_l0 q4
    refine SF_callVb 33 mi_X4_has ml_X4_54 dX4_leadAt_30 (Nat.le_trans (by decide) hd) s5 k_l0.1 rfl rfl (Nat.le_of_ble_eq_true rfl) rfl ?_
    have k_l0 := k_l0.ext s5.1
    refine SF_ifeq 68 36 dX4_leadAt_33 rfl rfl (fun c6 => ?_) (fun c6 => ?_)
    · have h := ite_t c6 h
      refine SF_iconst (-1 : Int32) 69 dX4_leadAt_68 rfl rfl ?_
      exact RT_i rfl dX4_leadAt_69 h
    · have h := ite_f c6 h
      refine SF_aload_n 0 37 dX4_leadAt_36 rfl rfl rfl ?_
      obtain ⟨b7, r8, h⟩ := dr_some h
      refine SF_getR 40 fl_X4_15 dX4_leadAt_37 k_l0.1 r8 rfl ?_
      refine SF_iload_n 2 41 dX4_leadAt_40 rfl rfl rfl ?_
      obtain ⟨k9, h⟩ := gdK_some h
      obtain ⟨i10, h⟩ := gdI_some h
      refine SF_iald 42 dX4_leadAt_41 k9.1 i10 rfl ?_
      refine SF_iload_n 1 43 dX4_leadAt_42 rfl rfl rfl ?_
      refine SF_iconst (1 : Int32) 44 dX4_leadAt_43 rfl rfl ?_
      refine SF_iadd 45 dX4_leadAt_44 rfl ?_
      refine SF_icne 55 48 dX4_leadAt_45 rfl rfl (fun c11 => ?_) (fun c11 => ?_)
      · have h := ite_f c11 h
        refine SF_aload_n 0 56 dX4_leadAt_55 rfl rfl rfl ?_
        obtain ⟨b12, r13, h⟩ := dr_some h
        refine SF_getR 59 fl_X4_18 dX4_leadAt_56 k_l0.1 r13 rfl ?_
        refine SF_iload_n 2 60 dX4_leadAt_59 rfl rfl rfl ?_
        obtain ⟨k14, h⟩ := gdK_some h
        obtain ⟨i15, h⟩ := gdI_some h
        refine SF_iald 61 dX4_leadAt_60 k14.1 i15 rfl ?_
        obtain ⟨y16, e17, h⟩ := li_some h
        refine SF_eqI e17 ?_
        refine SF_istore_n [(3, .int y16), (0, .ref (ad X l0)), (2, .int l2), (4, .int l4)] 62 dX4_leadAt_61 rfl (by decide) rfl rfl ?_
        refine SF_iinc 3 (l4 + (1 : Int32)) [(4, .int (l4 + (1 : Int32))), (3, .int y16), (0, .ref (ad X l0)), (2, .int l2)] 65 dX4_leadAt_62 rfl rfl (by decide) rfl rfl ?_
        refine SF_goto 20 dX4_leadAt_65 rfl ?_
        refine SF_sub [2, 3, 1, 0] rfl ?_
        exact ih l0 l2 y16 (l4 + (1 : Int32)) g3 k_l0 h
      · have h := ite_t c11 h
        refine SF_aload_n 0 49 dX4_leadAt_48 rfl rfl rfl ?_
        obtain ⟨b18, r19, h⟩ := dr_some h
        refine SF_getR 52 fl_X4_21 dX4_leadAt_49 k_l0.1 r19 rfl ?_
        refine SF_iload_n 2 53 dX4_leadAt_52 rfl rfl rfl ?_
        obtain ⟨k20, h⟩ := gdK_some h
        obtain ⟨i21, h⟩ := gdI_some h
        refine SF_iald 54 dX4_leadAt_53 k20.1 i21 rfl ?_
        exact RT_i rfl dX4_leadAt_54 h

set_option maxRecDepth 20000 in
set_option maxHeartbeats 2000000 in
theorem w_X4_leadAt {X : CX} {d : Nat} (hd : 2 ≤ d) (l0 : Nat) (l1 : Int32) (l2 : Int32) (g g' : G) (rx : Int32) (k_l0 : KD g l0 4) (h : f_X4_leadAt l0 l1 l2 g = some (rx, g')) : Sem X m_X4_leadAt d [.ref (ad X l0), .int l1, .int l2] g (some (.int rx)) g' := by
  refine Sem_of (lo := [(0, .ref (ad X l0)), (1, .int l1), (2, .int l2)]) (by decide +kernel) rfl (Nat.le_of_ble_eq_true rfl) ?_
  rw [f_X4_leadAt] at h
  refine SF_iload_n 2 1 dX4_leadAt_0 rfl rfl rfl ?_
  refine SF_iflt 13 4 dX4_leadAt_1 rfl rfl (fun c1 => ?_) (fun c1 => ?_)
  · have h := ite_t c1 h
    refine SF_iconst (-1 : Int32) 14 dX4_leadAt_13 rfl rfl ?_
    exact RT_i rfl dX4_leadAt_14 h
  · have h := ite_f c1 h
    refine SF_iload_n 2 5 dX4_leadAt_4 rfl rfl rfl ?_
    refine SF_aload_n 0 6 dX4_leadAt_5 rfl rfl rfl ?_
    refine SF_iload_n 1 7 dX4_leadAt_6 rfl rfl rfl ?_
    obtain ⟨v2, g3, q4, h⟩ := bd_some h
    have s5 := w_X4_depthOf (X := X) (Nat.le_refl 1) l0 l1 g g3 v2 k_l0 q4
    refine SF_callVi 10 mi_X4_depthOf ml_X4_58 dX4_leadAt_7 (Nat.le_trans (by decide) hd) s5 k_l0.1 rfl rfl (Nat.le_of_ble_eq_true rfl) rfl ?_
    have k_l0 := k_l0.ext s5.1
    refine SF_iclt 15 13 dX4_leadAt_10 rfl rfl (fun c6 => ?_) (fun c6 => ?_)
    · have h := ite_t c6 h
      refine SF_iload_n 1 16 dX4_leadAt_15 rfl rfl rfl ?_
      refine SF_istore_n [(3, .int l1), (0, .ref (ad X l0)), (1, .int l1), (2, .int l2)] 17 dX4_leadAt_16 rfl (by decide) rfl rfl ?_
      refine SF_iconst (0 : Int32) 18 dX4_leadAt_17 rfl rfl ?_
      refine SF_istore [(4, .int (0 : Int32)), (3, .int l1), (0, .ref (ad X l0)), (1, .int l1), (2, .int l2)] 20 dX4_leadAt_18 (by decide) rfl rfl ?_
      refine SF_sub [2, 4, 1, 0] rfl ?_
      exact w_X4_leadAt_20 hd FU l0 l2 l1 (0 : Int32) g3 k_l0 h
    · have h := ite_f c6 h
      refine SF_iconst (-1 : Int32) 14 dX4_leadAt_13 rfl rfl ?_
      exact RT_i rfl dX4_leadAt_14 h

theorem dX11_told_0 : decode cX11_told 0 = .ok (.iload_n 0, 1) := by decide +kernel
theorem dX11_told_1 : decode cX11_told 1 = .ok (.ifCond .ge 7, 3) := by decide +kernel
theorem dX11_told_4 : decode cX11_told 4 = .ok (.iconst (-1), 1) := by decide +kernel
theorem dX11_told_5 : decode cX11_told 5 = .ok (.goto 13, 3) := by decide +kernel
theorem dX11_told_8 : decode cX11_told 8 = .ok (.bipush 10, 2) := by decide +kernel
theorem dX11_told_10 : decode cX11_told 10 = .ok (.iload_n 0, 1) := by decide +kernel
theorem dX11_told_11 : decode cX11_told 11 = .ok (.iconst 4, 1) := by decide +kernel
theorem dX11_told_12 : decode cX11_told 12 = .ok (.idiv, 1) := by decide +kernel
theorem dX11_told_13 : decode cX11_told 13 = .ok (.imul, 1) := by decide +kernel
theorem dX11_told_14 : decode cX11_told 14 = .ok (.iload_n 0, 1) := by decide +kernel
theorem dX11_told_15 : decode cX11_told 15 = .ok (.iconst 4, 1) := by decide +kernel
theorem dX11_told_16 : decode cX11_told 16 = .ok (.irem, 1) := by decide +kernel
theorem dX11_told_17 : decode cX11_told 17 = .ok (.iadd, 1) := by decide +kernel
theorem dX11_told_18 : decode cX11_told 18 = .ok (.ireturn, 1) := by decide +kernel
set_option maxRecDepth 20000 in
set_option maxHeartbeats 2000000 in
theorem w_X11_told {X : CX} {d : Nat} (hd : 0 ≤ d) (l0 : Int32) (g g' : G) (rx : Int32) (h : f_X11_told l0 g = some (rx, g')) : Sem X m_X11_told d [.int l0] g (some (.int rx)) g' := by
  refine Sem_of (lo := [(0, .int l0)]) (by decide +kernel) rfl (Nat.le_of_ble_eq_true rfl) ?_
  rw [f_X11_told] at h
  refine SF_iload_n 0 1 dX11_told_0 rfl rfl rfl ?_
  refine SF_ifge 8 4 dX11_told_1 rfl rfl (fun c1 => ?_) (fun c1 => ?_)
  · have h := ite_t c1 h
    refine SF_bipush (10 : Int32) 10 dX11_told_8 rfl rfl ?_
    refine SF_iload_n 0 11 dX11_told_10 rfl rfl rfl ?_
    refine SF_iconst (4 : Int32) 12 dX11_told_11 rfl rfl ?_
    refine SF_idiv 13 dX11_told_12 (by decide) rfl ?_
    refine SF_imul 14 dX11_told_13 rfl ?_
    refine SF_iload_n 0 15 dX11_told_14 rfl rfl rfl ?_
    refine SF_iconst (4 : Int32) 16 dX11_told_15 rfl rfl ?_
    refine SF_irem 17 dX11_told_16 (by decide) rfl ?_
    refine SF_iadd 18 dX11_told_17 rfl ?_
    exact RT_i rfl dX11_told_18 h
  · have h := ite_f c1 h
    refine SF_iconst (-1 : Int32) 5 dX11_told_4 rfl rfl ?_
    refine SF_goto 18 dX11_told_5 rfl ?_
    exact RT_i rfl dX11_told_18 h

theorem dX11_way_0 : decode cX11_way 0 = .ok (.aload_n 0, 1) := by decide +kernel
theorem dX11_way_1 : decode cX11_way 1 = .ok (.iload_n 1, 1) := by decide +kernel
theorem dX11_way_2 : decode cX11_way 2 = .ok (.iload_n 2, 1) := by decide +kernel
theorem dX11_way_3 : decode cX11_way 3 = .ok (.iload_n 3, 1) := by decide +kernel
theorem dX11_way_4 : decode cX11_way 4 = .ok (.invokevirtual 255, 3) := by decide +kernel
theorem dX11_way_7 : decode cX11_way 7 = .ok (.ifCond .ne 6, 3) := by decide +kernel
theorem dX11_way_10 : decode cX11_way 10 = .ok (.bipush (-2), 2) := by decide +kernel
theorem dX11_way_12 : decode cX11_way 12 = .ok (.ireturn, 1) := by decide +kernel
theorem dX11_way_13 : decode cX11_way 13 = .ok (.iload 4, 2) := by decide +kernel
theorem dX11_way_15 : decode cX11_way 15 = .ok (.ifCond .ge 6, 3) := by decide +kernel
theorem dX11_way_18 : decode cX11_way 18 = .ok (.bipush (-3), 2) := by decide +kernel
theorem dX11_way_20 : decode cX11_way 20 = .ok (.ireturn, 1) := by decide +kernel
theorem dX11_way_21 : decode cX11_way 21 = .ok (.aload_n 0, 1) := by decide +kernel
theorem dX11_way_22 : decode cX11_way 22 = .ok (.iload_n 1, 1) := by decide +kernel
theorem dX11_way_23 : decode cX11_way 23 = .ok (.invokevirtual 259, 3) := by decide +kernel
theorem dX11_way_26 : decode cX11_way 26 = .ok (.astore 5, 2) := by decide +kernel
theorem dX11_way_28 : decode cX11_way 28 = .ok (.aload 5, 2) := by decide +kernel
theorem dX11_way_30 : decode cX11_way 30 = .ok (.aload 5, 2) := by decide +kernel
theorem dX11_way_32 : decode cX11_way 32 = .ok (.iload_n 2, 1) := by decide +kernel
theorem dX11_way_33 : decode cX11_way 33 = .ok (.iload_n 3, 1) := by decide +kernel
theorem dX11_way_34 : decode cX11_way 34 = .ok (.invokevirtual 263, 3) := by decide +kernel
theorem dX11_way_37 : decode cX11_way 37 = .ok (.iload 4, 2) := by decide +kernel
theorem dX11_way_39 : decode cX11_way 39 = .ok (.invokevirtual 269, 3) := by decide +kernel
theorem dX11_way_42 : decode cX11_way 42 = .ok (.invokestatic 272, 3) := by decide +kernel
theorem dX11_way_45 : decode cX11_way 45 = .ok (.ireturn, 1) := by decide +kernel
set_option maxRecDepth 20000 in
set_option maxHeartbeats 2000000 in
theorem w_X11_way {X : CX} {d : Nat} (hd : 7 ≤ d) (l0 : Nat) (l1 : Int32) (l2 : Int32) (l3 : Int32) (l4 : Int32) (g g' : G) (rx : Int32) (k_l0 : KD g l0 11) (h : f_X11_way l0 l1 l2 l3 l4 g = some (rx, g')) : Sem X m_X11_way d [.ref (ad X l0), .int l1, .int l2, .int l3, .int l4] g (some (.int rx)) g' := by
  refine Sem_of (lo := [(0, .ref (ad X l0)), (1, .int l1), (2, .int l2), (3, .int l3), (4, .int l4)]) (by decide +kernel) rfl (Nat.le_of_ble_eq_true rfl) ?_
  rw [f_X11_way] at h
  refine SF_aload_n 0 1 dX11_way_0 rfl rfl rfl ?_
  refine SF_iload_n 1 2 dX11_way_1 rfl rfl rfl ?_
  refine SF_iload_n 2 3 dX11_way_2 rfl rfl rfl ?_
  refine SF_iload_n 3 4 dX11_way_3 rfl rfl rfl ?_
  obtain ⟨v1, g2, q3, h⟩ := bd_some h
  have s4 := w_X11_isGoal (X := X) (Nat.le_refl 2) l0 l1 l2 l3 g g2 v1 k_l0 q3
  refine SF_callVb 7 mi_X11_isGoal ml_X11_255 dX11_way_4 (Nat.le_trans (by decide) hd) s4 k_l0.1 rfl rfl (Nat.le_of_ble_eq_true rfl) rfl ?_
  have k_l0 := k_l0.ext s4.1
  refine SF_ifne 13 10 dX11_way_7 rfl rfl (fun c5 => ?_) (fun c5 => ?_)
  · have h := ite_f c5 h
    refine SF_iload 4 15 dX11_way_13 rfl rfl ?_
    refine SF_ifge 21 18 dX11_way_15 rfl rfl (fun c6 => ?_) (fun c6 => ?_)
    · have h := ite_t c6 h
      refine SF_aload_n 0 22 dX11_way_21 rfl rfl rfl ?_
      refine SF_iload_n 1 23 dX11_way_22 rfl rfl rfl ?_
      obtain ⟨v7, g8, q9, h⟩ := bd_some h
      have s10 := w_X11_graphOf (X := X) (Nat.le_refl 6) l0 l1 g2 g8 v7 k_l0 q9
      refine SF_callVr 26 mi_X11_graphOf ml_X11_259 dX11_way_23 (Nat.le_trans (by decide) hd) s10 k_l0.1 rfl rfl (Nat.le_of_ble_eq_true rfl) rfl ?_
      have k_l0 := k_l0.ext s10.1
      refine SF_astore [(5, .ref (ad X v7)), (0, .ref (ad X l0)), (1, .int l1), (2, .int l2), (3, .int l3), (4, .int l4)] 28 dX11_way_26 (by decide) rfl rfl ?_
      refine SF_aload 0 30 dX11_way_28 rfl rfl ?_
      refine SF_aload 0 32 dX11_way_30 rfl rfl ?_
      refine SF_iload_n 3 33 dX11_way_32 rfl rfl rfl ?_
      refine SF_iload_n 4 34 dX11_way_33 rfl rfl rfl ?_
      obtain ⟨k11, h⟩ := gdK_some h
      obtain ⟨v12, g13, q14, h⟩ := bd_some h
      have s15 := w_X4_find (X := X) (Nat.le_refl 2) v7 l2 l3 g8 g13 v12 k11 q14
      refine SF_callVi 37 mi_X4_find ml_X11_263 dX11_way_34 (Nat.le_trans (by decide) hd) s15 k11.1 rfl rfl (Nat.le_of_ble_eq_true rfl) rfl ?_
      have k_l0 := k_l0.ext s15.1
      have k11 := k11.ext s15.1
      refine SF_iload 5 39 dX11_way_37 rfl rfl ?_
      obtain ⟨v16, g17, q18, h⟩ := bd_some h
      have s19 := w_X4_leadAt (X := X) (Nat.le_refl 2) v7 v12 l4 g13 g17 v16 k11 q18
      refine SF_callVi 42 mi_X4_leadAt ml_X11_269 dX11_way_39 (Nat.le_trans (by decide) hd) s19 k11.1 rfl rfl (Nat.le_of_ble_eq_true rfl) rfl ?_
      have k_l0 := k_l0.ext s19.1
      have k11 := k11.ext s19.1
      obtain ⟨v20, g21, q22, h⟩ := bd_some h
      have s23 := w_X11_told (X := X) (Nat.le_refl 0) v16 g17 g21 v20 q22
      refine SF_callSi 45 mi_X11_told ml_X11_272 dX11_way_42 (Nat.le_trans (by decide) hd) s23 rfl rfl (Nat.le_of_ble_eq_true rfl) rfl ?_
      have k_l0 := k_l0.ext s23.1
      have k11 := k11.ext s23.1
      exact RT_i rfl dX11_way_45 h
    · have h := ite_f c6 h
      refine SF_bipush (-3 : Int32) 20 dX11_way_18 rfl rfl ?_
      exact RT_i rfl dX11_way_20 h
  · have h := ite_t c5 h
    refine SF_bipush (-2 : Int32) 12 dX11_way_10 rfl rfl ?_
    exact RT_i rfl dX11_way_12 h

theorem dX12_leadAt_0 : decode cX12_leadAt 0 = .ok (.aload_n 0, 1) := by decide +kernel
theorem dX12_leadAt_1 : decode cX12_leadAt 1 = .ok (.iload_n 1, 1) := by decide +kernel
theorem dX12_leadAt_2 : decode cX12_leadAt 2 = .ok (.invokevirtual 370, 3) := by decide +kernel
theorem dX12_leadAt_5 : decode cX12_leadAt 5 = .ok (.istore 4, 2) := by decide +kernel
theorem dX12_leadAt_7 : decode cX12_leadAt 7 = .ok (.aload_n 0, 1) := by decide +kernel
theorem dX12_leadAt_8 : decode cX12_leadAt 8 = .ok (.getfield 48, 3) := by decide +kernel
theorem dX12_leadAt_11 : decode cX12_leadAt 11 = .ok (.iload 4, 2) := by decide +kernel
theorem dX12_leadAt_13 : decode cX12_leadAt 13 = .ok (.iaload, 1) := by decide +kernel
theorem dX12_leadAt_14 : decode cX12_leadAt 14 = .ok (.ldc_w 354, 3) := by decide +kernel
theorem dX12_leadAt_17 : decode cX12_leadAt 17 = .ok (.if_icmp .ne 5, 3) := by decide +kernel
theorem dX12_leadAt_20 : decode cX12_leadAt 20 = .ok (.iconst (-1), 1) := by decide +kernel
theorem dX12_leadAt_21 : decode cX12_leadAt 21 = .ok (.ireturn, 1) := by decide +kernel
theorem dX12_leadAt_22 : decode cX12_leadAt 22 = .ok (.iconst 0, 1) := by decide +kernel
theorem dX12_leadAt_23 : decode cX12_leadAt 23 = .ok (.istore 5, 2) := by decide +kernel
theorem dX12_leadAt_25 : decode cX12_leadAt 25 = .ok (.aload_n 0, 1) := by decide +kernel
theorem dX12_leadAt_26 : decode cX12_leadAt 26 = .ok (.getfield 48, 3) := by decide +kernel
theorem dX12_leadAt_29 : decode cX12_leadAt 29 = .ok (.iload 4, 2) := by decide +kernel
theorem dX12_leadAt_31 : decode cX12_leadAt 31 = .ok (.iaload, 1) := by decide +kernel
theorem dX12_leadAt_32 : decode cX12_leadAt 32 = .ok (.ifCond .le 71, 3) := by decide +kernel
theorem dX12_leadAt_35 : decode cX12_leadAt 35 = .ok (.iconst 0, 1) := by decide +kernel
theorem dX12_leadAt_36 : decode cX12_leadAt 36 = .ok (.istore 6, 2) := by decide +kernel
theorem dX12_leadAt_38 : decode cX12_leadAt 38 = .ok (.aload_n 0, 1) := by decide +kernel
theorem dX12_leadAt_39 : decode cX12_leadAt 39 = .ok (.iload 4, 2) := by decide +kernel
theorem dX12_leadAt_41 : decode cX12_leadAt 41 = .ok (.iload 6, 2) := by decide +kernel
theorem dX12_leadAt_43 : decode cX12_leadAt 43 = .ok (.iload_n 3, 1) := by decide +kernel
theorem dX12_leadAt_44 : decode cX12_leadAt 44 = .ok (.invokevirtual 359, 3) := by decide +kernel
theorem dX12_leadAt_47 : decode cX12_leadAt 47 = .ok (.aload_n 0, 1) := by decide +kernel
theorem dX12_leadAt_48 : decode cX12_leadAt 48 = .ok (.getfield 48, 3) := by decide +kernel
theorem dX12_leadAt_51 : decode cX12_leadAt 51 = .ok (.iload 4, 2) := by decide +kernel
theorem dX12_leadAt_53 : decode cX12_leadAt 53 = .ok (.iaload, 1) := by decide +kernel
theorem dX12_leadAt_54 : decode cX12_leadAt 54 = .ok (.if_icmp .eq 9, 3) := by decide +kernel
theorem dX12_leadAt_57 : decode cX12_leadAt 57 = .ok (.iinc 6 1, 3) := by decide +kernel
theorem dX12_leadAt_60 : decode cX12_leadAt 60 = .ok (.goto (-22), 3) := by decide +kernel
theorem dX12_leadAt_63 : decode cX12_leadAt 63 = .ok (.iload 5, 2) := by decide +kernel
theorem dX12_leadAt_65 : decode cX12_leadAt 65 = .ok (.iload_n 2, 1) := by decide +kernel
theorem dX12_leadAt_66 : decode cX12_leadAt 66 = .ok (.if_icmp .ne 16, 3) := by decide +kernel
theorem dX12_leadAt_69 : decode cX12_leadAt 69 = .ok (.bipush 10, 2) := by decide +kernel
theorem dX12_leadAt_71 : decode cX12_leadAt 71 = .ok (.iload 6, 2) := by decide +kernel
theorem dX12_leadAt_73 : decode cX12_leadAt 73 = .ok (.iconst 4, 1) := by decide +kernel
theorem dX12_leadAt_74 : decode cX12_leadAt 74 = .ok (.idiv, 1) := by decide +kernel
theorem dX12_leadAt_75 : decode cX12_leadAt 75 = .ok (.imul, 1) := by decide +kernel
theorem dX12_leadAt_76 : decode cX12_leadAt 76 = .ok (.iload 6, 2) := by decide +kernel
theorem dX12_leadAt_78 : decode cX12_leadAt 78 = .ok (.iconst 4, 1) := by decide +kernel
theorem dX12_leadAt_79 : decode cX12_leadAt 79 = .ok (.irem, 1) := by decide +kernel
theorem dX12_leadAt_80 : decode cX12_leadAt 80 = .ok (.iadd, 1) := by decide +kernel
theorem dX12_leadAt_81 : decode cX12_leadAt 81 = .ok (.ireturn, 1) := by decide +kernel
theorem dX12_leadAt_82 : decode cX12_leadAt 82 = .ok (.aload_n 0, 1) := by decide +kernel
theorem dX12_leadAt_83 : decode cX12_leadAt 83 = .ok (.getfield 42, 3) := by decide +kernel
theorem dX12_leadAt_86 : decode cX12_leadAt 86 = .ok (.bipush 8, 2) := by decide +kernel
theorem dX12_leadAt_88 : decode cX12_leadAt 88 = .ok (.iload 4, 2) := by decide +kernel
theorem dX12_leadAt_90 : decode cX12_leadAt 90 = .ok (.imul, 1) := by decide +kernel
theorem dX12_leadAt_91 : decode cX12_leadAt 91 = .ok (.iload 6, 2) := by decide +kernel
theorem dX12_leadAt_93 : decode cX12_leadAt 93 = .ok (.iadd, 1) := by decide +kernel
theorem dX12_leadAt_94 : decode cX12_leadAt 94 = .ok (.iaload, 1) := by decide +kernel
theorem dX12_leadAt_95 : decode cX12_leadAt 95 = .ok (.istore 4, 2) := by decide +kernel
theorem dX12_leadAt_97 : decode cX12_leadAt 97 = .ok (.iinc 5 1, 3) := by decide +kernel
theorem dX12_leadAt_100 : decode cX12_leadAt 100 = .ok (.goto (-75), 3) := by decide +kernel
theorem dX12_leadAt_103 : decode cX12_leadAt 103 = .ok (.iconst (-1), 1) := by decide +kernel
theorem dX12_leadAt_104 : decode cX12_leadAt 104 = .ok (.ireturn, 1) := by decide +kernel
set_option maxRecDepth 20000 in
set_option maxHeartbeats 2000000 in
theorem w_X12_leadAt_38 {X : CX} {d : Nat} (hd : 2 ≤ d) {g' : G} {rx : Int32} (k25 : Nat → Int32 → Int32 → Int32 → Int32 → G → Option (Int32 × G)) (hk25 : ∀ (l0 : Nat) (l2 : Int32) (l3 : Int32) (l4 : Int32) (l5 : Int32) (g : G), KD g l0 12 → k25 l0 l2 l3 l4 l5 g = some (rx, g') → SemF X m_X12_leadAt d 25 [(0, .ref (ad X l0)), (2, .int l2), (3, .int l3), (4, .int l4), (5, .int l5)] [] g (some (.int rx)) g') : ∀ (n : Nat) (l0 : Nat) (l2 : Int32) (l3 : Int32) (l4 : Int32) (l5 : Int32) (l6 : Int32) (g : G), KD g l0 12 → f_X12_leadAt_38 k25 n l0 l2 l3 l4 l5 l6 g = some (rx, g') → SemF X m_X12_leadAt d 38 [(0, .ref (ad X l0)), (2, .int l2), (3, .int l3), (4, .int l4), (5, .int l5), (6, .int l6)] [] g (some (.int rx)) g' := by
  intro n
  induction n with
  | zero =>
    intro l0 l2 l3 l4 l5 l6 g k_l0 h
    rw [f_X12_leadAt_38] at h
    cases h
  | succ n ih =>
  intro l0 l2 l3 l4 l5 l6 g k_l0 h
  rw [f_X12_leadAt_38] at h
  refine SF_aload_n 0 39 dX12_leadAt_38 rfl rfl rfl ?_
  refine SF_iload 3 41 dX12_leadAt_39 rfl rfl ?_
  refine SF_iload 5 43 dX12_leadAt_41 rfl rfl ?_
  refine SF_iload_n 2 44 dX12_leadAt_43 rfl rfl rfl ?_
  obtain ⟨v1, g2, q3, h⟩ := bd_some h
  have s4 := w_X12_stillBy (X := X) (Nat.le_refl 1) l0 l4 l6 l3 g g2 v1 k_l0 q3
  refine SF_callVi 47 mi_X12_stillBy ml_X12_359 dX12_leadAt_44 (Nat.le_trans (by decide) hd) s4 k_l0.1 rfl rfl (Nat.le_of_ble_eq_true rfl) rfl ?_
  have k_l0 := k_l0.ext s4.1
  refine SF_aload_n 0 48 dX12_leadAt_47 rfl rfl rfl ?_
  obtain ⟨b5, r6, h⟩ := dr_some h
  refine SF_getR 51 fl_X12_48 dX12_leadAt_48 k_l0.1 r6 rfl ?_
  refine SF_iload 3 53 dX12_leadAt_51 rfl rfl ?_
  obtain ⟨k7, h⟩ := gdK_some h
  obtain ⟨i8, h⟩ := gdI_some h
  refine SF_iald 54 dX12_leadAt_53 k7.1 i8 rfl ?_
  refine SF_iceq 63 57 dX12_leadAt_54 rfl rfl (fun c9 => ?_) (fun c9 => ?_)
  · have h := ite_t c9 h
    refine SF_iload 4 65 dX12_leadAt_63 rfl rfl ?_
    refine SF_iload_n 1 66 dX12_leadAt_65 rfl rfl rfl ?_
    refine SF_icne 82 69 dX12_leadAt_66 rfl rfl (fun c10 => ?_) (fun c10 => ?_)
    · have h := ite_f c10 h
      refine SF_aload_n 0 83 dX12_leadAt_82 rfl rfl rfl ?_
      obtain ⟨b11, r12, h⟩ := dr_some h
      refine SF_getR 86 fl_X12_42 dX12_leadAt_83 k_l0.1 r12 rfl ?_
      refine SF_bipush (8 : Int32) 88 dX12_leadAt_86 rfl rfl ?_
      refine SF_iload 3 90 dX12_leadAt_88 rfl rfl ?_
      refine SF_imul 91 dX12_leadAt_90 rfl ?_
      refine SF_iload 5 93 dX12_leadAt_91 rfl rfl ?_
      refine SF_iadd 94 dX12_leadAt_93 rfl ?_
      obtain ⟨k13, h⟩ := gdK_some h
      obtain ⟨i14, h⟩ := gdI_some h
      refine SF_iald 95 dX12_leadAt_94 k13.1 i14 rfl ?_
      obtain ⟨y15, e16, h⟩ := li_some h
      refine SF_eqI e16 ?_
      refine SF_istore [(4, .int y15), (0, .ref (ad X l0)), (2, .int l2), (3, .int l3), (5, .int l5), (6, .int l6)] 97 dX12_leadAt_95 (by decide) rfl rfl ?_
      refine SF_iinc 4 (l5 + (1 : Int32)) [(5, .int (l5 + (1 : Int32))), (4, .int y15), (0, .ref (ad X l0)), (2, .int l2), (3, .int l3), (6, .int l6)] 100 dX12_leadAt_97 rfl rfl (by decide) rfl rfl ?_
      refine SF_goto 25 dX12_leadAt_100 rfl ?_
      refine SF_sub [2, 3, 4, 1, 0] rfl ?_
      exact hk25 l0 l2 l3 y15 (l5 + (1 : Int32)) g2 k_l0 h
    · have h := ite_t c10 h
      refine SF_bipush (10 : Int32) 71 dX12_leadAt_69 rfl rfl ?_
      refine SF_iload 5 73 dX12_leadAt_71 rfl rfl ?_
      refine SF_iconst (4 : Int32) 74 dX12_leadAt_73 rfl rfl ?_
      refine SF_idiv 75 dX12_leadAt_74 (by decide) rfl ?_
      refine SF_imul 76 dX12_leadAt_75 rfl ?_
      refine SF_iload 5 78 dX12_leadAt_76 rfl rfl ?_
      refine SF_iconst (4 : Int32) 79 dX12_leadAt_78 rfl rfl ?_
      refine SF_irem 80 dX12_leadAt_79 (by decide) rfl ?_
      refine SF_iadd 81 dX12_leadAt_80 rfl ?_
      exact RT_i rfl dX12_leadAt_81 h
  · have h := ite_f c9 h
    refine SF_iinc 5 (l6 + (1 : Int32)) [(6, .int (l6 + (1 : Int32))), (0, .ref (ad X l0)), (2, .int l2), (3, .int l3), (4, .int l4), (5, .int l5)] 60 dX12_leadAt_57 rfl rfl (by decide) rfl rfl ?_
    refine SF_goto 38 dX12_leadAt_60 rfl ?_
    refine SF_sub [1, 2, 3, 4, 5, 0] rfl ?_
    exact ih l0 l2 l3 l4 l5 (l6 + (1 : Int32)) g2 k_l0 h

set_option maxRecDepth 20000 in
set_option maxHeartbeats 2000000 in
theorem w_X12_leadAt_25 {X : CX} {d : Nat} (hd : 2 ≤ d) {g' : G} {rx : Int32} : ∀ (n : Nat) (l0 : Nat) (l2 : Int32) (l3 : Int32) (l4 : Int32) (l5 : Int32) (g : G), KD g l0 12 → f_X12_leadAt_25 n l0 l2 l3 l4 l5 g = some (rx, g') → SemF X m_X12_leadAt d 25 [(0, .ref (ad X l0)), (2, .int l2), (3, .int l3), (4, .int l4), (5, .int l5)] [] g (some (.int rx)) g' := by
  intro n
  induction n with
  | zero =>
    intro l0 l2 l3 l4 l5 g k_l0 h
    rw [f_X12_leadAt_25] at h
    cases h
  | succ n ih =>
  intro l0 l2 l3 l4 l5 g k_l0 h
  rw [f_X12_leadAt_25] at h
  refine SF_aload_n 0 26 dX12_leadAt_25 rfl rfl rfl ?_
  obtain ⟨b1, r2, h⟩ := dr_some h
  refine SF_getR 29 fl_X12_48 dX12_leadAt_26 k_l0.1 r2 rfl ?_
  refine SF_iload 3 31 dX12_leadAt_29 rfl rfl ?_
  obtain ⟨k3, h⟩ := gdK_some h
  obtain ⟨i4, h⟩ := gdI_some h
  refine SF_iald 32 dX12_leadAt_31 k3.1 i4 rfl ?_
  refine SF_ifle 103 35 dX12_leadAt_32 rfl rfl (fun c5 => ?_) (fun c5 => ?_)
  · have h := ite_t c5 h
    refine SF_iconst (-1 : Int32) 104 dX12_leadAt_103 rfl rfl ?_
    exact RT_i rfl dX12_leadAt_104 h
  · have h := ite_f c5 h
    refine SF_iconst (0 : Int32) 36 dX12_leadAt_35 rfl rfl ?_
    refine SF_istore [(6, .int (0 : Int32)), (0, .ref (ad X l0)), (2, .int l2), (3, .int l3), (4, .int l4), (5, .int l5)] 38 dX12_leadAt_36 (by decide) rfl rfl ?_
    refine SF_sub [1, 2, 3, 4, 5, 0] rfl ?_
    exact w_X12_leadAt_38 hd (f_X12_leadAt_25 n) ih FU l0 l2 l3 l4 l5 (0 : Int32) g k_l0 h

set_option maxRecDepth 20000 in
set_option maxHeartbeats 2000000 in
theorem w_X12_leadAt {X : CX} {d : Nat} (hd : 2 ≤ d) (l0 : Nat) (l1 : Int32) (l2 : Int32) (l3 : Int32) (g g' : G) (rx : Int32) (k_l0 : KD g l0 12) (h : f_X12_leadAt l0 l1 l2 l3 g = some (rx, g')) : Sem X m_X12_leadAt d [.ref (ad X l0), .int l1, .int l2, .int l3] g (some (.int rx)) g' := by
  refine Sem_of (lo := [(0, .ref (ad X l0)), (1, .int l1), (2, .int l2), (3, .int l3)]) (by decide +kernel) rfl (Nat.le_of_ble_eq_true rfl) ?_
  rw [f_X12_leadAt] at h
  refine SF_aload_n 0 1 dX12_leadAt_0 rfl rfl rfl ?_
  refine SF_iload_n 1 2 dX12_leadAt_1 rfl rfl rfl ?_
  obtain ⟨v1, g2, q3, h⟩ := bd_some h
  have s4 := w_X12_standNow (X := X) (Nat.le_refl 1) l0 l1 g g2 v1 k_l0 q3
  refine SF_callVi 5 mi_X12_standNow ml_X12_370 dX12_leadAt_2 (Nat.le_trans (by decide) hd) s4 k_l0.1 rfl rfl (Nat.le_of_ble_eq_true rfl) rfl ?_
  have k_l0 := k_l0.ext s4.1
  refine SF_istore [(4, .int v1), (0, .ref (ad X l0)), (1, .int l1), (2, .int l2), (3, .int l3)] 7 dX12_leadAt_5 (by decide) rfl rfl ?_
  refine SF_aload_n 1 8 dX12_leadAt_7 rfl rfl rfl ?_
  obtain ⟨b5, r6, h⟩ := dr_some h
  refine SF_getR 11 fl_X12_48 dX12_leadAt_8 k_l0.1 r6 rfl ?_
  refine SF_iload 0 13 dX12_leadAt_11 rfl rfl ?_
  obtain ⟨k7, h⟩ := gdK_some h
  obtain ⟨i8, h⟩ := gdI_some h
  refine SF_iald 14 dX12_leadAt_13 k7.1 i8 rfl ?_
  refine SF_ldcw 17 dX12_leadAt_14 ki_X12_354 rfl ?_
  refine SF_icne 22 20 dX12_leadAt_17 rfl rfl (fun c9 => ?_) (fun c9 => ?_)
  · have h := ite_f c9 h
    refine SF_iconst (0 : Int32) 23 dX12_leadAt_22 rfl rfl ?_
    refine SF_istore [(5, .int (0 : Int32)), (4, .int v1), (0, .ref (ad X l0)), (1, .int l1), (2, .int l2), (3, .int l3)] 25 dX12_leadAt_23 (by decide) rfl rfl ?_
    refine SF_sub [2, 4, 5, 1, 0] rfl ?_
    exact w_X12_leadAt_25 hd FU l0 l2 l3 v1 (0 : Int32) g2 k_l0 h
  · have h := ite_t c9 h
    refine SF_iconst (-1 : Int32) 21 dX12_leadAt_20 rfl rfl ?_
    exact RT_i rfl dX12_leadAt_21 h

theorem dX12_comesBy_0 : decode cX12_comesBy 0 = .ok (.aload_n 0, 1) := by decide +kernel
theorem dX12_comesBy_1 : decode cX12_comesBy 1 = .ok (.iload_n 1, 1) := by decide +kernel
theorem dX12_comesBy_2 : decode cX12_comesBy 2 = .ok (.iload_n 2, 1) := by decide +kernel
theorem dX12_comesBy_3 : decode cX12_comesBy 3 = .ok (.iload_n 3, 1) := by decide +kernel
theorem dX12_comesBy_4 : decode cX12_comesBy 4 = .ok (.invokevirtual 373, 3) := by decide +kernel
theorem dX12_comesBy_7 : decode cX12_comesBy 7 = .ok (.ifCond .ne 6, 3) := by decide +kernel
theorem dX12_comesBy_10 : decode cX12_comesBy 10 = .ok (.bipush (-2), 2) := by decide +kernel
theorem dX12_comesBy_12 : decode cX12_comesBy 12 = .ok (.ireturn, 1) := by decide +kernel
theorem dX12_comesBy_13 : decode cX12_comesBy 13 = .ok (.iload 4, 2) := by decide +kernel
theorem dX12_comesBy_15 : decode cX12_comesBy 15 = .ok (.ifCond .ge 6, 3) := by decide +kernel
theorem dX12_comesBy_18 : decode cX12_comesBy 18 = .ok (.bipush (-3), 2) := by decide +kernel
theorem dX12_comesBy_20 : decode cX12_comesBy 20 = .ok (.ireturn, 1) := by decide +kernel
theorem dX12_comesBy_21 : decode cX12_comesBy 21 = .ok (.aload_n 0, 1) := by decide +kernel
theorem dX12_comesBy_22 : decode cX12_comesBy 22 = .ok (.iload_n 1, 1) := by decide +kernel
theorem dX12_comesBy_23 : decode cX12_comesBy 23 = .ok (.invokevirtual 376, 3) := by decide +kernel
theorem dX12_comesBy_26 : decode cX12_comesBy 26 = .ok (.aload_n 0, 1) := by decide +kernel
theorem dX12_comesBy_27 : decode cX12_comesBy 27 = .ok (.iload_n 1, 1) := by decide +kernel
theorem dX12_comesBy_28 : decode cX12_comesBy 28 = .ok (.iload_n 2, 1) := by decide +kernel
theorem dX12_comesBy_29 : decode cX12_comesBy 29 = .ok (.iload_n 3, 1) := by decide +kernel
theorem dX12_comesBy_30 : decode cX12_comesBy 30 = .ok (.iload 5, 2) := by decide +kernel
theorem dX12_comesBy_32 : decode cX12_comesBy 32 = .ok (.invokevirtual 379, 3) := by decide +kernel
theorem dX12_comesBy_35 : decode cX12_comesBy 35 = .ok (.pop, 1) := by decide +kernel
theorem dX12_comesBy_36 : decode cX12_comesBy 36 = .ok (.aload_n 0, 1) := by decide +kernel
theorem dX12_comesBy_37 : decode cX12_comesBy 37 = .ok (.iload_n 1, 1) := by decide +kernel
theorem dX12_comesBy_38 : decode cX12_comesBy 38 = .ok (.iload 4, 2) := by decide +kernel
theorem dX12_comesBy_40 : decode cX12_comesBy 40 = .ok (.iload 5, 2) := by decide +kernel
theorem dX12_comesBy_42 : decode cX12_comesBy 42 = .ok (.invokevirtual 386, 3) := by decide +kernel
theorem dX12_comesBy_45 : decode cX12_comesBy 45 = .ok (.ireturn, 1) := by decide +kernel
set_option maxRecDepth 20000 in
set_option maxHeartbeats 2000000 in
theorem w_X12_comesBy {X : CX} {d : Nat} (hd : 7 ≤ d) (l0 : Nat) (l1 : Int32) (l2 : Int32) (l3 : Int32) (l4 : Int32) (l5 : Int32) (g g' : G) (rx : Int32) (k_l0 : KD g l0 12) (h : f_X12_comesBy l0 l1 l2 l3 l4 l5 g = some (rx, g')) : Sem X m_X12_comesBy d [.ref (ad X l0), .int l1, .int l2, .int l3, .int l4, .int l5] g (some (.int rx)) g' := by
  refine Sem_of (lo := [(0, .ref (ad X l0)), (1, .int l1), (2, .int l2), (3, .int l3), (4, .int l4), (5, .int l5)]) (by decide +kernel) rfl (Nat.le_of_ble_eq_true rfl) ?_
  rw [f_X12_comesBy] at h
  refine SF_aload_n 0 1 dX12_comesBy_0 rfl rfl rfl ?_
  refine SF_iload_n 1 2 dX12_comesBy_1 rfl rfl rfl ?_
  refine SF_iload_n 2 3 dX12_comesBy_2 rfl rfl rfl ?_
  refine SF_iload_n 3 4 dX12_comesBy_3 rfl rfl rfl ?_
  obtain ⟨v1, g2, q3, h⟩ := bd_some h
  have s4 := w_X12_isGoalTold (X := X) (Nat.le_refl 2) l0 l1 l2 l3 g g2 v1 k_l0 q3
  refine SF_callVb 7 mi_X12_isGoalTold ml_X12_373 dX12_comesBy_4 (Nat.le_trans (by decide) hd) s4 k_l0.1 rfl rfl (Nat.le_of_ble_eq_true rfl) rfl ?_
  have k_l0 := k_l0.ext s4.1
  refine SF_ifne 13 10 dX12_comesBy_7 rfl rfl (fun c5 => ?_) (fun c5 => ?_)
  · have h := ite_f c5 h
    refine SF_iload 4 15 dX12_comesBy_13 rfl rfl ?_
    refine SF_ifge 21 18 dX12_comesBy_15 rfl rfl (fun c6 => ?_) (fun c6 => ?_)
    · have h := ite_t c6 h
      refine SF_aload_n 0 22 dX12_comesBy_21 rfl rfl rfl ?_
      refine SF_iload_n 1 23 dX12_comesBy_22 rfl rfl rfl ?_
      obtain ⟨v7, g8, q9, h⟩ := bd_some h
      have s10 := w_X12_laysStands (X := X) (Nat.le_refl 6) l0 l1 g2 g8 v7 k_l0 q9
      refine SF_callVv 26 mi_X12_laysStands ml_X12_376 dX12_comesBy_23 (Nat.le_trans (by decide) hd) s10 k_l0.1 rfl rfl (Nat.le_of_ble_eq_true rfl) rfl ?_
      have k_l0 := k_l0.ext s10.1
      refine SF_aload_n 0 27 dX12_comesBy_26 rfl rfl rfl ?_
      refine SF_iload_n 1 28 dX12_comesBy_27 rfl rfl rfl ?_
      refine SF_iload_n 2 29 dX12_comesBy_28 rfl rfl rfl ?_
      refine SF_iload_n 3 30 dX12_comesBy_29 rfl rfl rfl ?_
      refine SF_iload 5 32 dX12_comesBy_30 rfl rfl ?_
      obtain ⟨v11, g12, q13, h⟩ := bd_some h
      have s14 := w_X12_laysStill (X := X) (Nat.le_refl 3) l0 l1 l2 l3 l5 g8 g12 v11 k_l0 q13
      refine SF_callVi 35 mi_X12_laysStill ml_X12_379 dX12_comesBy_32 (Nat.le_trans (by decide) hd) s14 k_l0.1 rfl rfl (Nat.le_of_ble_eq_true rfl) rfl ?_
      have k_l0 := k_l0.ext s14.1
      refine SF_pop 36 dX12_comesBy_35 rfl rfl ?_
      refine SF_aload_n 0 37 dX12_comesBy_36 rfl rfl rfl ?_
      refine SF_iload_n 1 38 dX12_comesBy_37 rfl rfl rfl ?_
      refine SF_iload 4 40 dX12_comesBy_38 rfl rfl ?_
      refine SF_iload 5 42 dX12_comesBy_40 rfl rfl ?_
      obtain ⟨v15, g16, q17, h⟩ := bd_some h
      have s18 := w_X12_leadAt (X := X) (Nat.le_refl 2) l0 l1 l4 l5 g12 g16 v15 k_l0 q17
      refine SF_callVi 45 mi_X12_leadAt ml_X12_386 dX12_comesBy_42 (Nat.le_trans (by decide) hd) s18 k_l0.1 rfl rfl (Nat.le_of_ble_eq_true rfl) rfl ?_
      have k_l0 := k_l0.ext s18.1
      exact RT_i rfl dX12_comesBy_45 h
    · have h := ite_f c6 h
      refine SF_bipush (-3 : Int32) 20 dX12_comesBy_18 rfl rfl ?_
      exact RT_i rfl dX12_comesBy_20 h
  · have h := ite_t c5 h
    refine SF_bipush (-2 : Int32) 12 dX12_comesBy_10 rfl rfl ?_
    exact RT_i rfl dX12_comesBy_12 h

theorem dX12_way_0 : decode cX12_way 0 = .ok (.aload_n 0, 1) := by decide +kernel
theorem dX12_way_1 : decode cX12_way 1 = .ok (.iconst 0, 1) := by decide +kernel
theorem dX12_way_2 : decode cX12_way 2 = .ok (.putfield 1, 3) := by decide +kernel
theorem dX12_way_5 : decode cX12_way 5 = .ok (.aload_n 0, 1) := by decide +kernel
theorem dX12_way_6 : decode cX12_way 6 = .ok (.iload_n 1, 1) := by decide +kernel
theorem dX12_way_7 : decode cX12_way 7 = .ok (.iload_n 2, 1) := by decide +kernel
theorem dX12_way_8 : decode cX12_way 8 = .ok (.iload_n 3, 1) := by decide +kernel
theorem dX12_way_9 : decode cX12_way 9 = .ok (.iload 4, 2) := by decide +kernel
theorem dX12_way_11 : decode cX12_way 11 = .ok (.iconst 0, 1) := by decide +kernel
theorem dX12_way_12 : decode cX12_way 12 = .ok (.invokevirtual 392, 3) := by decide +kernel
theorem dX12_way_15 : decode cX12_way 15 = .ok (.ireturn, 1) := by decide +kernel
set_option maxRecDepth 20000 in
set_option maxHeartbeats 2000000 in
theorem w_X12_way {X : CX} {d : Nat} (hd : 8 ≤ d) (l0 : Nat) (l1 : Int32) (l2 : Int32) (l3 : Int32) (l4 : Int32) (g g' : G) (rx : Int32) (k_l0 : KD g l0 12) (h : f_X12_way l0 l1 l2 l3 l4 g = some (rx, g')) : Sem X m_X12_way d [.ref (ad X l0), .int l1, .int l2, .int l3, .int l4] g (some (.int rx)) g' := by
  refine Sem_of (lo := [(0, .ref (ad X l0)), (1, .int l1), (2, .int l2), (3, .int l3), (4, .int l4)]) (by decide +kernel) rfl (Nat.le_of_ble_eq_true rfl) ?_
  rw [f_X12_way] at h
  refine SF_aload_n 0 1 dX12_way_0 rfl rfl rfl ?_
  refine SF_iconst (0 : Int32) 2 dX12_way_1 rfl rfl ?_
  refine SF_putI 5 fl_X12_1 dX12_way_2 k_l0.1 (fn_int _) (Or.inl rfl) rfl ?_
  obtain ⟨g1, e2, h⟩ := lg_some h
  rw [← e2]
  have k_l0 := KD.eq e2 k_l0
  refine SF_aload_n 0 6 dX12_way_5 rfl rfl rfl ?_
  refine SF_iload_n 1 7 dX12_way_6 rfl rfl rfl ?_
  refine SF_iload_n 2 8 dX12_way_7 rfl rfl rfl ?_
  refine SF_iload_n 3 9 dX12_way_8 rfl rfl rfl ?_
  refine SF_iload 4 11 dX12_way_9 rfl rfl ?_
  refine SF_iconst (0 : Int32) 12 dX12_way_11 rfl rfl ?_
  obtain ⟨v3, g4, q5, h⟩ := bd_some h
  have s6 := w_X12_comesBy (X := X) (Nat.le_refl 7) l0 l1 l2 l3 l4 (0 : Int32) g1 g4 v3 k_l0 q5
  refine SF_callVi 15 mi_X12_comesBy ml_X12_392 dX12_way_12 (Nat.le_trans (by decide) hd) s6 k_l0.1 rfl rfl (Nat.le_of_ble_eq_true rfl) rfl ?_
  have k_l0 := k_l0.ext s6.1
  exact RT_i rfl dX12_way_15 h

theorem dX1_takeNearest_0 : decode cX1_takeNearest 0 = .ok (.iconst 0, 1) := by decide +kernel
theorem dX1_takeNearest_1 : decode cX1_takeNearest 1 = .ok (.istore_n 1, 1) := by decide +kernel
theorem dX1_takeNearest_2 : decode cX1_takeNearest 2 = .ok (.iconst 1, 1) := by decide +kernel
theorem dX1_takeNearest_3 : decode cX1_takeNearest 3 = .ok (.istore_n 2, 1) := by decide +kernel
theorem dX1_takeNearest_4 : decode cX1_takeNearest 4 = .ok (.iload_n 2, 1) := by decide +kernel
theorem dX1_takeNearest_5 : decode cX1_takeNearest 5 = .ok (.aload_n 0, 1) := by decide +kernel
theorem dX1_takeNearest_6 : decode cX1_takeNearest 6 = .ok (.getfield 34, 3) := by decide +kernel
theorem dX1_takeNearest_9 : decode cX1_takeNearest 9 = .ok (.if_icmp .ge 36, 3) := by decide +kernel
theorem dX1_takeNearest_12 : decode cX1_takeNearest 12 = .ok (.aload_n 0, 1) := by decide +kernel
theorem dX1_takeNearest_13 : decode cX1_takeNearest 13 = .ok (.getfield 9, 3) := by decide +kernel
theorem dX1_takeNearest_16 : decode cX1_takeNearest 16 = .ok (.aload_n 0, 1) := by decide +kernel
theorem dX1_takeNearest_17 : decode cX1_takeNearest 17 = .ok (.getfield 21, 3) := by decide +kernel
theorem dX1_takeNearest_20 : decode cX1_takeNearest 20 = .ok (.iload_n 2, 1) := by decide +kernel
theorem dX1_takeNearest_21 : decode cX1_takeNearest 21 = .ok (.iaload, 1) := by decide +kernel
theorem dX1_takeNearest_22 : decode cX1_takeNearest 22 = .ok (.iaload, 1) := by decide +kernel
theorem dX1_takeNearest_23 : decode cX1_takeNearest 23 = .ok (.aload_n 0, 1) := by decide +kernel
theorem dX1_takeNearest_24 : decode cX1_takeNearest 24 = .ok (.getfield 9, 3) := by decide +kernel
theorem dX1_takeNearest_27 : decode cX1_takeNearest 27 = .ok (.aload_n 0, 1) := by decide +kernel
theorem dX1_takeNearest_28 : decode cX1_takeNearest 28 = .ok (.getfield 21, 3) := by decide +kernel
theorem dX1_takeNearest_31 : decode cX1_takeNearest 31 = .ok (.iload_n 1, 1) := by decide +kernel
theorem dX1_takeNearest_32 : decode cX1_takeNearest 32 = .ok (.iaload, 1) := by decide +kernel
theorem dX1_takeNearest_33 : decode cX1_takeNearest 33 = .ok (.iaload, 1) := by decide +kernel
theorem dX1_takeNearest_34 : decode cX1_takeNearest 34 = .ok (.if_icmp .ge 5, 3) := by decide +kernel
theorem dX1_takeNearest_37 : decode cX1_takeNearest 37 = .ok (.iload_n 2, 1) := by decide +kernel
theorem dX1_takeNearest_38 : decode cX1_takeNearest 38 = .ok (.istore_n 1, 1) := by decide +kernel
theorem dX1_takeNearest_39 : decode cX1_takeNearest 39 = .ok (.iinc 2 1, 3) := by decide +kernel
theorem dX1_takeNearest_42 : decode cX1_takeNearest 42 = .ok (.goto (-38), 3) := by decide +kernel
theorem dX1_takeNearest_45 : decode cX1_takeNearest 45 = .ok (.aload_n 0, 1) := by decide +kernel
theorem dX1_takeNearest_46 : decode cX1_takeNearest 46 = .ok (.getfield 21, 3) := by decide +kernel
theorem dX1_takeNearest_49 : decode cX1_takeNearest 49 = .ok (.iload_n 1, 1) := by decide +kernel
theorem dX1_takeNearest_50 : decode cX1_takeNearest 50 = .ok (.iaload, 1) := by decide +kernel
theorem dX1_takeNearest_51 : decode cX1_takeNearest 51 = .ok (.istore_n 2, 1) := by decide +kernel
theorem dX1_takeNearest_52 : decode cX1_takeNearest 52 = .ok (.aload_n 0, 1) := by decide +kernel
theorem dX1_takeNearest_53 : decode cX1_takeNearest 53 = .ok (.dup, 1) := by decide +kernel
theorem dX1_takeNearest_54 : decode cX1_takeNearest 54 = .ok (.getfield 34, 3) := by decide +kernel
theorem dX1_takeNearest_57 : decode cX1_takeNearest 57 = .ok (.iconst 1, 1) := by decide +kernel
theorem dX1_takeNearest_58 : decode cX1_takeNearest 58 = .ok (.isub, 1) := by decide +kernel
theorem dX1_takeNearest_59 : decode cX1_takeNearest 59 = .ok (.putfield 34, 3) := by decide +kernel
theorem dX1_takeNearest_62 : decode cX1_takeNearest 62 = .ok (.aload_n 0, 1) := by decide +kernel
theorem dX1_takeNearest_63 : decode cX1_takeNearest 63 = .ok (.getfield 21, 3) := by decide +kernel
theorem dX1_takeNearest_66 : decode cX1_takeNearest 66 = .ok (.iload_n 1, 1) := by decide +kernel
theorem dX1_takeNearest_67 : decode cX1_takeNearest 67 = .ok (.aload_n 0, 1) := by decide +kernel
theorem dX1_takeNearest_68 : decode cX1_takeNearest 68 = .ok (.getfield 21, 3) := by decide +kernel
theorem dX1_takeNearest_71 : decode cX1_takeNearest 71 = .ok (.aload_n 0, 1) := by decide +kernel
theorem dX1_takeNearest_72 : decode cX1_takeNearest 72 = .ok (.getfield 34, 3) := by decide +kernel
theorem dX1_takeNearest_75 : decode cX1_takeNearest 75 = .ok (.iaload, 1) := by decide +kernel
theorem dX1_takeNearest_76 : decode cX1_takeNearest 76 = .ok (.iastore, 1) := by decide +kernel
theorem dX1_takeNearest_77 : decode cX1_takeNearest 77 = .ok (.iload_n 2, 1) := by decide +kernel
theorem dX1_takeNearest_78 : decode cX1_takeNearest 78 = .ok (.ireturn, 1) := by decide +kernel
set_option maxRecDepth 20000 in
set_option maxHeartbeats 2000000 in
theorem w_X1_takeNearest_39 {X : CX} {d : Nat} (hd : 0 ≤ d) {g' : G} {rx : Int32} (k4 : Nat → Int32 → Int32 → G → Option (Int32 × G)) (hk4 : ∀ (l0 : Nat) (l1 : Int32) (l2 : Int32) (g : G), KD g l0 1 → k4 l0 l1 l2 g = some (rx, g') → SemF X m_X1_takeNearest d 4 [(0, .ref (ad X l0)), (1, .int l1), (2, .int l2)] [] g (some (.int rx)) g') (l0 : Nat) (l1 : Int32) (l2 : Int32) (g : G) (k_l0 : KD g l0 1) (h : f_X1_takeNearest_39 k4 l0 l1 l2 g = some (rx, g')) : SemF X m_X1_takeNearest d 39 [(0, .ref (ad X l0)), (1, .int l1), (2, .int l2)] [] g (some (.int rx)) g' := by
  rw [f_X1_takeNearest_39] at h
  refine SF_iinc 2 (l2 + (1 : Int32)) [(2, .int (l2 + (1 : Int32))), (0, .ref (ad X l0)), (1, .int l1)] 42 dX1_takeNearest_39 rfl rfl (by decide) rfl rfl ?_
  refine SF_goto 4 dX1_takeNearest_42 rfl ?_
  refine SF_sub [1, 2, 0] rfl ?_
  exact hk4 l0 l1 (l2 + (1 : Int32)) g k_l0 h

set_option maxRecDepth 20000 in
set_option maxHeartbeats 2000000 in
theorem w_X1_takeNearest_4 {X : CX} {d : Nat} (hd : 0 ≤ d) {g' : G} {rx : Int32} : ∀ (n : Nat) (l0 : Nat) (l1 : Int32) (l2 : Int32) (g : G), KD g l0 1 → f_X1_takeNearest_4 n l0 l1 l2 g = some (rx, g') → SemF X m_X1_takeNearest d 4 [(0, .ref (ad X l0)), (1, .int l1), (2, .int l2)] [] g (some (.int rx)) g' := by
  intro n
  induction n with
  | zero =>
    intro l0 l1 l2 g k_l0 h
    rw [f_X1_takeNearest_4] at h
    cases h
  | succ n ih =>
  intro l0 l1 l2 g k_l0 h
  rw [f_X1_takeNearest_4] at h
  refine SF_iload_n 2 5 dX1_takeNearest_4 rfl rfl rfl ?_
  refine SF_aload_n 0 6 dX1_takeNearest_5 rfl rfl rfl ?_
  refine SF_getI 9 fl_X1_34 dX1_takeNearest_6 k_l0.1 rfl ?_
  refine SF_icge 45 12 dX1_takeNearest_9 rfl rfl (fun c1 => ?_) (fun c1 => ?_)
  · have h := ite_t c1 h
    refine SF_aload_n 0 46 dX1_takeNearest_45 rfl rfl rfl ?_
    obtain ⟨b2, r3, h⟩ := dr_some h
    refine SF_getR 49 fl_X1_21 dX1_takeNearest_46 k_l0.1 r3 rfl ?_
    refine SF_iload_n 1 50 dX1_takeNearest_49 rfl rfl rfl ?_
    obtain ⟨k4, h⟩ := gdK_some h
    obtain ⟨i5, h⟩ := gdI_some h
    refine SF_iald 51 dX1_takeNearest_50 k4.1 i5 rfl ?_
    obtain ⟨y6, e7, h⟩ := li_some h
    refine SF_eqI e7 ?_
    refine SF_istore_n [(2, .int y6), (0, .ref (ad X l0)), (1, .int l1)] 52 dX1_takeNearest_51 rfl (by decide) rfl rfl ?_
    refine SF_aload_n 1 53 dX1_takeNearest_52 rfl rfl rfl ?_
    refine SF_dup 54 dX1_takeNearest_53 rfl rfl ?_
    refine SF_getI 57 fl_X1_34 dX1_takeNearest_54 k_l0.1 rfl ?_
    refine SF_iconst (1 : Int32) 58 dX1_takeNearest_57 rfl rfl ?_
    refine SF_isub 59 dX1_takeNearest_58 rfl ?_
    refine SF_putI 62 fl_X1_34 dX1_takeNearest_59 k_l0.1 (fn_int _) (Or.inl rfl) rfl ?_
    obtain ⟨g8, e9, h⟩ := lg_some h
    rw [← e9]
    have k_l0 := KD.eq e9 k_l0
    have k4 := KD.eq e9 k4
    have r3 := gR_eq e9 r3
    have i5 := vp_eq e9 i5
    refine SF_aload_n 1 63 dX1_takeNearest_62 rfl rfl rfl ?_
    refine SF_getR 66 fl_X1_21 dX1_takeNearest_63 k_l0.1 r3 rfl ?_
    refine SF_iload_n 2 67 dX1_takeNearest_66 rfl rfl rfl ?_
    refine SF_aload_n 1 68 dX1_takeNearest_67 rfl rfl rfl ?_
    refine SF_getR 71 fl_X1_21 dX1_takeNearest_68 k_l0.1 r3 rfl ?_
    refine SF_aload_n 1 72 dX1_takeNearest_71 rfl rfl rfl ?_
    refine SF_getI 75 fl_X1_34 dX1_takeNearest_72 k_l0.1 rfl ?_
    obtain ⟨i10, h⟩ := gdI_some h
    refine SF_iald 76 dX1_takeNearest_75 k4.1 i10 rfl ?_
    refine SF_iast 77 dX1_takeNearest_76 k4.1 i5 rfl ?_
    obtain ⟨g11, e12, h⟩ := lg_some h
    rw [← e12]
    have k_l0 := KD.eq e12 k_l0
    have k4 := KD.eq e12 k4
    have r3 := gR_eq e12 r3
    have i5 := vp_eq e12 i5
    have i10 := vp_eq e12 i10
    refine SF_iload_n 0 78 dX1_takeNearest_77 rfl rfl rfl ?_
    exact RT_i rfl dX1_takeNearest_78 h
  · have h := ite_f c1 h
    refine SF_aload_n 0 13 dX1_takeNearest_12 rfl rfl rfl ?_
    obtain ⟨b13, r14, h⟩ := dr_some h
    refine SF_getR 16 fl_X1_9 dX1_takeNearest_13 k_l0.1 r14 rfl ?_
    refine SF_aload_n 0 17 dX1_takeNearest_16 rfl rfl rfl ?_
    obtain ⟨b15, r16, h⟩ := dr_some h
    refine SF_getR 20 fl_X1_21 dX1_takeNearest_17 k_l0.1 r16 rfl ?_
    refine SF_iload_n 2 21 dX1_takeNearest_20 rfl rfl rfl ?_
    obtain ⟨k17, h⟩ := gdK_some h
    obtain ⟨i18, h⟩ := gdI_some h
    refine SF_iald 22 dX1_takeNearest_21 k17.1 i18 rfl ?_
    obtain ⟨k19, h⟩ := gdK_some h
    obtain ⟨i20, h⟩ := gdI_some h
    refine SF_iald 23 dX1_takeNearest_22 k19.1 i20 rfl ?_
    refine SF_aload_n 0 24 dX1_takeNearest_23 rfl rfl rfl ?_
    refine SF_getR 27 fl_X1_9 dX1_takeNearest_24 k_l0.1 r14 rfl ?_
    refine SF_aload_n 0 28 dX1_takeNearest_27 rfl rfl rfl ?_
    refine SF_getR 31 fl_X1_21 dX1_takeNearest_28 k_l0.1 r16 rfl ?_
    refine SF_iload_n 1 32 dX1_takeNearest_31 rfl rfl rfl ?_
    obtain ⟨i21, h⟩ := gdI_some h
    refine SF_iald 33 dX1_takeNearest_32 k17.1 i21 rfl ?_
    obtain ⟨i22, h⟩ := gdI_some h
    refine SF_iald 34 dX1_takeNearest_33 k19.1 i22 rfl ?_
    refine SF_icge 39 37 dX1_takeNearest_34 rfl rfl (fun c23 => ?_) (fun c23 => ?_)
    · have h := ite_t c23 h
      exact w_X1_takeNearest_39 hd (f_X1_takeNearest_4 n) ih l0 l1 l2 g k_l0 h
    · have h := ite_f c23 h
      refine SF_iload_n 2 38 dX1_takeNearest_37 rfl rfl rfl ?_
      refine SF_istore_n [(1, .int l2), (0, .ref (ad X l0)), (2, .int l2)] 39 dX1_takeNearest_38 rfl (by decide) rfl rfl ?_
      refine SF_sub [1, 0, 2] rfl ?_
      exact w_X1_takeNearest_39 hd (f_X1_takeNearest_4 n) ih l0 l2 l2 g k_l0 h

set_option maxRecDepth 20000 in
set_option maxHeartbeats 2000000 in
theorem w_X1_takeNearest {X : CX} {d : Nat} (hd : 0 ≤ d) (l0 : Nat) (g g' : G) (rx : Int32) (k_l0 : KD g l0 1) (h : f_X1_takeNearest l0 g = some (rx, g')) : Sem X m_X1_takeNearest d [.ref (ad X l0)] g (some (.int rx)) g' := by
  refine Sem_of (lo := [(0, .ref (ad X l0))]) (by decide +kernel) rfl (Nat.le_of_ble_eq_true rfl) ?_
  rw [f_X1_takeNearest] at h
  refine SF_iconst (0 : Int32) 1 dX1_takeNearest_0 rfl rfl ?_
  refine SF_istore_n [(1, .int (0 : Int32)), (0, .ref (ad X l0))] 2 dX1_takeNearest_1 rfl (by decide) rfl rfl ?_
  refine SF_iconst (1 : Int32) 3 dX1_takeNearest_2 rfl rfl ?_
  refine SF_istore_n [(2, .int (1 : Int32)), (1, .int (0 : Int32)), (0, .ref (ad X l0))] 4 dX1_takeNearest_3 rfl (by decide) rfl rfl ?_
  refine SF_sub [2, 1, 0] rfl ?_
  exact w_X1_takeNearest_4 hd FU l0 (0 : Int32) (1 : Int32) g k_l0 h

theorem dX4_nextOf_0 : decode cX4_nextOf 0 = .ok (.aload_n 0, 1) := by decide +kernel
theorem dX4_nextOf_1 : decode cX4_nextOf 1 = .ok (.iload_n 1, 1) := by decide +kernel
theorem dX4_nextOf_2 : decode cX4_nextOf 2 = .ok (.invokevirtual 54, 3) := by decide +kernel
theorem dX4_nextOf_5 : decode cX4_nextOf 5 = .ok (.ifCond .eq 27, 3) := by decide +kernel
theorem dX4_nextOf_8 : decode cX4_nextOf 8 = .ok (.iload_n 2, 1) := by decide +kernel
theorem dX4_nextOf_9 : decode cX4_nextOf 9 = .ok (.ifCond .lt 23, 3) := by decide +kernel
theorem dX4_nextOf_12 : decode cX4_nextOf 12 = .ok (.iload_n 2, 1) := by decide +kernel
theorem dX4_nextOf_13 : decode cX4_nextOf 13 = .ok (.bipush 8, 2) := by decide +kernel
theorem dX4_nextOf_15 : decode cX4_nextOf 15 = .ok (.if_icmp .ge 17, 3) := by decide +kernel
theorem dX4_nextOf_18 : decode cX4_nextOf 18 = .ok (.aload_n 0, 1) := by decide +kernel
theorem dX4_nextOf_19 : decode cX4_nextOf 19 = .ok (.getfield 24, 3) := by decide +kernel
theorem dX4_nextOf_22 : decode cX4_nextOf 22 = .ok (.iload_n 1, 1) := by decide +kernel
theorem dX4_nextOf_23 : decode cX4_nextOf 23 = .ok (.bipush 8, 2) := by decide +kernel
theorem dX4_nextOf_25 : decode cX4_nextOf 25 = .ok (.imul, 1) := by decide +kernel
theorem dX4_nextOf_26 : decode cX4_nextOf 26 = .ok (.iload_n 2, 1) := by decide +kernel
theorem dX4_nextOf_27 : decode cX4_nextOf 27 = .ok (.iadd, 1) := by decide +kernel
theorem dX4_nextOf_28 : decode cX4_nextOf 28 = .ok (.iaload, 1) := by decide +kernel
theorem dX4_nextOf_29 : decode cX4_nextOf 29 = .ok (.goto 4, 3) := by decide +kernel
theorem dX4_nextOf_32 : decode cX4_nextOf 32 = .ok (.iconst (-1), 1) := by decide +kernel
theorem dX4_nextOf_33 : decode cX4_nextOf 33 = .ok (.ireturn, 1) := by decide +kernel
set_option maxRecDepth 20000 in
set_option maxHeartbeats 2000000 in
theorem w_X4_nextOf {X : CX} {d : Nat} (hd : 1 ≤ d) (l0 : Nat) (l1 : Int32) (l2 : Int32) (g g' : G) (rx : Int32) (k_l0 : KD g l0 4) (h : f_X4_nextOf l0 l1 l2 g = some (rx, g')) : Sem X m_X4_nextOf d [.ref (ad X l0), .int l1, .int l2] g (some (.int rx)) g' := by
  refine Sem_of (lo := [(0, .ref (ad X l0)), (1, .int l1), (2, .int l2)]) (by decide +kernel) rfl (Nat.le_of_ble_eq_true rfl) ?_
  rw [f_X4_nextOf] at h
  refine SF_aload_n 0 1 dX4_nextOf_0 rfl rfl rfl ?_
  refine SF_iload_n 1 2 dX4_nextOf_1 rfl rfl rfl ?_
  obtain ⟨v1, g2, q3, h⟩ := bd_some h
  have s4 := w_X4_has (X := X) (Nat.le_refl 0) l0 l1 g g2 v1 k_l0 q3
  refine SF_callVb 5 mi_X4_has ml_X4_54 dX4_nextOf_2 (Nat.le_trans (by decide) hd) s4 k_l0.1 rfl rfl (Nat.le_of_ble_eq_true rfl) rfl ?_
  have k_l0 := k_l0.ext s4.1
  refine SF_ifeq 32 8 dX4_nextOf_5 rfl rfl (fun c5 => ?_) (fun c5 => ?_)
  · have h := ite_t c5 h
    refine SF_iconst (-1 : Int32) 33 dX4_nextOf_32 rfl rfl ?_
    exact RT_i rfl dX4_nextOf_33 h
  · have h := ite_f c5 h
    refine SF_iload_n 2 9 dX4_nextOf_8 rfl rfl rfl ?_
    refine SF_iflt 32 12 dX4_nextOf_9 rfl rfl (fun c6 => ?_) (fun c6 => ?_)
    · have h := ite_t c6 h
      refine SF_iconst (-1 : Int32) 33 dX4_nextOf_32 rfl rfl ?_
      exact RT_i rfl dX4_nextOf_33 h
    · have h := ite_f c6 h
      refine SF_iload_n 2 13 dX4_nextOf_12 rfl rfl rfl ?_
      refine SF_bipush (8 : Int32) 15 dX4_nextOf_13 rfl rfl ?_
      refine SF_icge 32 18 dX4_nextOf_15 rfl rfl (fun c7 => ?_) (fun c7 => ?_)
      · have h := ite_t c7 h
        refine SF_iconst (-1 : Int32) 33 dX4_nextOf_32 rfl rfl ?_
        exact RT_i rfl dX4_nextOf_33 h
      · have h := ite_f c7 h
        refine SF_aload_n 0 19 dX4_nextOf_18 rfl rfl rfl ?_
        obtain ⟨b8, r9, h⟩ := dr_some h
        refine SF_getR 22 fl_X4_24 dX4_nextOf_19 k_l0.1 r9 rfl ?_
        refine SF_iload_n 1 23 dX4_nextOf_22 rfl rfl rfl ?_
        refine SF_bipush (8 : Int32) 25 dX4_nextOf_23 rfl rfl ?_
        refine SF_imul 26 dX4_nextOf_25 rfl ?_
        refine SF_iload_n 2 27 dX4_nextOf_26 rfl rfl rfl ?_
        refine SF_iadd 28 dX4_nextOf_27 rfl ?_
        obtain ⟨k10, h⟩ := gdK_some h
        obtain ⟨i11, h⟩ := gdI_some h
        refine SF_iald 29 dX4_nextOf_28 k10.1 i11 rfl ?_
        refine SF_goto 33 dX4_nextOf_29 rfl ?_
        exact RT_i rfl dX4_nextOf_33 h

theorem dX1_relax_0 : decode cX1_relax 0 = .ok (.aload_n 1, 1) := by decide +kernel
theorem dX1_relax_1 : decode cX1_relax 1 = .ok (.iload_n 3, 1) := by decide +kernel
theorem dX1_relax_2 : decode cX1_relax 2 = .ok (.iload 4, 2) := by decide +kernel
theorem dX1_relax_4 : decode cX1_relax 4 = .ok (.invokevirtual 53, 3) := by decide +kernel
theorem dX1_relax_7 : decode cX1_relax 7 = .ok (.istore 5, 2) := by decide +kernel
theorem dX1_relax_9 : decode cX1_relax 9 = .ok (.aload_n 1, 1) := by decide +kernel
theorem dX1_relax_10 : decode cX1_relax 10 = .ok (.iload 5, 2) := by decide +kernel
theorem dX1_relax_12 : decode cX1_relax 12 = .ok (.invokevirtual 59, 3) := by decide +kernel
theorem dX1_relax_15 : decode cX1_relax 15 = .ok (.ifCond .ne 4, 3) := by decide +kernel
theorem dX1_relax_18 : decode cX1_relax 18 = .ok (.return_, 1) := by decide +kernel
theorem dX1_relax_19 : decode cX1_relax 19 = .ok (.aload_n 2, 1) := by decide +kernel
theorem dX1_relax_20 : decode cX1_relax 20 = .ok (.aload_n 1, 1) := by decide +kernel
theorem dX1_relax_21 : decode cX1_relax 21 = .ok (.getfield 63, 3) := by decide +kernel
theorem dX1_relax_24 : decode cX1_relax 24 = .ok (.iload_n 3, 1) := by decide +kernel
theorem dX1_relax_25 : decode cX1_relax 25 = .ok (.iaload, 1) := by decide +kernel
theorem dX1_relax_26 : decode cX1_relax 26 = .ok (.aload_n 1, 1) := by decide +kernel
theorem dX1_relax_27 : decode cX1_relax 27 = .ok (.getfield 63, 3) := by decide +kernel
theorem dX1_relax_30 : decode cX1_relax 30 = .ok (.iload 5, 2) := by decide +kernel
theorem dX1_relax_32 : decode cX1_relax 32 = .ok (.iaload, 1) := by decide +kernel
theorem dX1_relax_33 : decode cX1_relax 33 = .ok (.invokevirtual 66, 3) := by decide +kernel
theorem dX1_relax_36 : decode cX1_relax 36 = .ok (.sipush 1024, 3) := by decide +kernel
theorem dX1_relax_39 : decode cX1_relax 39 = .ok (.imul, 1) := by decide +kernel
theorem dX1_relax_40 : decode cX1_relax 40 = .ok (.iconst 1, 1) := by decide +kernel
theorem dX1_relax_41 : decode cX1_relax 41 = .ok (.iadd, 1) := by decide +kernel
theorem dX1_relax_42 : decode cX1_relax 42 = .ok (.istore 6, 2) := by decide +kernel
theorem dX1_relax_44 : decode cX1_relax 44 = .ok (.aload_n 0, 1) := by decide +kernel
theorem dX1_relax_45 : decode cX1_relax 45 = .ok (.getfield 15, 3) := by decide +kernel
theorem dX1_relax_48 : decode cX1_relax 48 = .ok (.iload_n 3, 1) := by decide +kernel
theorem dX1_relax_49 : decode cX1_relax 49 = .ok (.bipush 8, 2) := by decide +kernel
theorem dX1_relax_51 : decode cX1_relax 51 = .ok (.imul, 1) := by decide +kernel
theorem dX1_relax_52 : decode cX1_relax 52 = .ok (.iload 4, 2) := by decide +kernel
theorem dX1_relax_54 : decode cX1_relax 54 = .ok (.iadd, 1) := by decide +kernel
theorem dX1_relax_55 : decode cX1_relax 55 = .ok (.iload 6, 2) := by decide +kernel
theorem dX1_relax_57 : decode cX1_relax 57 = .ok (.iastore, 1) := by decide +kernel
theorem dX1_relax_58 : decode cX1_relax 58 = .ok (.aload_n 0, 1) := by decide +kernel
theorem dX1_relax_59 : decode cX1_relax 59 = .ok (.getfield 9, 3) := by decide +kernel
theorem dX1_relax_62 : decode cX1_relax 62 = .ok (.iload_n 3, 1) := by decide +kernel
theorem dX1_relax_63 : decode cX1_relax 63 = .ok (.iaload, 1) := by decide +kernel
theorem dX1_relax_64 : decode cX1_relax 64 = .ok (.iload 6, 2) := by decide +kernel
theorem dX1_relax_66 : decode cX1_relax 66 = .ok (.iadd, 1) := by decide +kernel
theorem dX1_relax_67 : decode cX1_relax 67 = .ok (.aload_n 0, 1) := by decide +kernel
theorem dX1_relax_68 : decode cX1_relax 68 = .ok (.getfield 9, 3) := by decide +kernel
theorem dX1_relax_71 : decode cX1_relax 71 = .ok (.iload 5, 2) := by decide +kernel
theorem dX1_relax_73 : decode cX1_relax 73 = .ok (.iaload, 1) := by decide +kernel
theorem dX1_relax_74 : decode cX1_relax 74 = .ok (.if_icmp .ge 62, 3) := by decide +kernel
theorem dX1_relax_77 : decode cX1_relax 77 = .ok (.aload_n 0, 1) := by decide +kernel
theorem dX1_relax_78 : decode cX1_relax 78 = .ok (.getfield 9, 3) := by decide +kernel
theorem dX1_relax_81 : decode cX1_relax 81 = .ok (.iload 5, 2) := by decide +kernel
theorem dX1_relax_83 : decode cX1_relax 83 = .ok (.iaload, 1) := by decide +kernel
theorem dX1_relax_84 : decode cX1_relax 84 = .ok (.ldc 27, 2) := by decide +kernel
theorem dX1_relax_86 : decode cX1_relax 86 = .ok (.if_icmp .ne 34, 3) := by decide +kernel
theorem dX1_relax_89 : decode cX1_relax 89 = .ok (.aload_n 0, 1) := by decide +kernel
theorem dX1_relax_90 : decode cX1_relax 90 = .ok (.getfield 34, 3) := by decide +kernel
theorem dX1_relax_93 : decode cX1_relax 93 = .ok (.sipush 256, 3) := by decide +kernel
theorem dX1_relax_96 : decode cX1_relax 96 = .ok (.if_icmp .ge 24, 3) := by decide +kernel
theorem dX1_relax_99 : decode cX1_relax 99 = .ok (.aload_n 0, 1) := by decide +kernel
theorem dX1_relax_100 : decode cX1_relax 100 = .ok (.getfield 21, 3) := by decide +kernel
theorem dX1_relax_103 : decode cX1_relax 103 = .ok (.aload_n 0, 1) := by decide +kernel
theorem dX1_relax_104 : decode cX1_relax 104 = .ok (.getfield 34, 3) := by decide +kernel
theorem dX1_relax_107 : decode cX1_relax 107 = .ok (.iload 5, 2) := by decide +kernel
theorem dX1_relax_109 : decode cX1_relax 109 = .ok (.iastore, 1) := by decide +kernel
theorem dX1_relax_110 : decode cX1_relax 110 = .ok (.aload_n 0, 1) := by decide +kernel
theorem dX1_relax_111 : decode cX1_relax 111 = .ok (.dup, 1) := by decide +kernel
theorem dX1_relax_112 : decode cX1_relax 112 = .ok (.getfield 34, 3) := by decide +kernel
theorem dX1_relax_115 : decode cX1_relax 115 = .ok (.iconst 1, 1) := by decide +kernel
theorem dX1_relax_116 : decode cX1_relax 116 = .ok (.iadd, 1) := by decide +kernel
theorem dX1_relax_117 : decode cX1_relax 117 = .ok (.putfield 34, 3) := by decide +kernel
theorem dX1_relax_120 : decode cX1_relax 120 = .ok (.aload_n 0, 1) := by decide +kernel
theorem dX1_relax_121 : decode cX1_relax 121 = .ok (.getfield 9, 3) := by decide +kernel
theorem dX1_relax_124 : decode cX1_relax 124 = .ok (.iload 5, 2) := by decide +kernel
theorem dX1_relax_126 : decode cX1_relax 126 = .ok (.aload_n 0, 1) := by decide +kernel
theorem dX1_relax_127 : decode cX1_relax 127 = .ok (.getfield 9, 3) := by decide +kernel
theorem dX1_relax_130 : decode cX1_relax 130 = .ok (.iload_n 3, 1) := by decide +kernel
theorem dX1_relax_131 : decode cX1_relax 131 = .ok (.iaload, 1) := by decide +kernel
theorem dX1_relax_132 : decode cX1_relax 132 = .ok (.iload 6, 2) := by decide +kernel
theorem dX1_relax_134 : decode cX1_relax 134 = .ok (.iadd, 1) := by decide +kernel
theorem dX1_relax_135 : decode cX1_relax 135 = .ok (.iastore, 1) := by decide +kernel
theorem dX1_relax_136 : decode cX1_relax 136 = .ok (.return_, 1) := by decide +kernel
set_option maxRecDepth 20000 in
set_option maxHeartbeats 2000000 in
theorem w_X1_relax_120 {X : CX} {d : Nat} (hd : 4 ≤ d) {g' : G} {rx : Unit} (l0 : Nat) (l3 : Int32) (l5 : Int32) (l6 : Int32) (g : G) (k_l0 : KD g l0 1) (h : f_X1_relax_120 l0 l3 l5 l6 g = some (rx, g')) : SemF X m_X1_relax d 120 [(0, .ref (ad X l0)), (3, .int l3), (5, .int l5), (6, .int l6)] [] g none g' := by
  rw [f_X1_relax_120] at h
  refine SF_aload_n 0 121 dX1_relax_120 rfl rfl rfl ?_
  obtain ⟨b1, r2, h⟩ := dr_some h
  refine SF_getR 124 fl_X1_9 dX1_relax_121 k_l0.1 r2 rfl ?_
  refine SF_iload 2 126 dX1_relax_124 rfl rfl ?_
  refine SF_aload_n 0 127 dX1_relax_126 rfl rfl rfl ?_
  refine SF_getR 130 fl_X1_9 dX1_relax_127 k_l0.1 r2 rfl ?_
  refine SF_iload_n 1 131 dX1_relax_130 rfl rfl rfl ?_
  obtain ⟨k3, h⟩ := gdK_some h
  obtain ⟨i4, h⟩ := gdI_some h
  refine SF_iald 132 dX1_relax_131 k3.1 i4 rfl ?_
  refine SF_iload 3 134 dX1_relax_132 rfl rfl ?_
  refine SF_iadd 135 dX1_relax_134 rfl ?_
  obtain ⟨i5, h⟩ := gdI_some h
  refine SF_iast 136 dX1_relax_135 k3.1 i5 rfl ?_
  obtain ⟨g6, e7, h⟩ := lg_some h
  rw [← e7]
  have k_l0 := KD.eq e7 k_l0
  have k3 := KD.eq e7 k3
  have r2 := gR_eq e7 r2
  have i4 := vp_eq e7 i4
  have i5 := vp_eq e7 i5
  exact RT_v rfl dX1_relax_136 h

set_option maxRecDepth 20000 in
set_option maxHeartbeats 2000000 in
theorem w_X1_relax {X : CX} {d : Nat} (hd : 4 ≤ d) (l0 : Nat) (l1 : Nat) (l2 : Nat) (l3 : Int32) (l4 : Int32) (g g' : G) (rx : Unit) (k_l0 : KD g l0 1) (k_l1 : KD g l1 4) (k_l2 : KD g l2 9) (h : f_X1_relax l0 l1 l2 l3 l4 g = some (rx, g')) : Sem X m_X1_relax d [.ref (ad X l0), .ref (ad X l1), .ref (ad X l2), .int l3, .int l4] g none g' := by
  refine Sem_of (lo := [(0, .ref (ad X l0)), (1, .ref (ad X l1)), (2, .ref (ad X l2)), (3, .int l3), (4, .int l4)]) (by decide +kernel) rfl (Nat.le_of_ble_eq_true rfl) ?_
  rw [f_X1_relax] at h
  refine SF_aload_n 1 1 dX1_relax_0 rfl rfl rfl ?_
  refine SF_iload_n 3 2 dX1_relax_1 rfl rfl rfl ?_
  refine SF_iload 4 4 dX1_relax_2 rfl rfl ?_
  obtain ⟨v1, g2, q3, h⟩ := bd_some h
  have s4 := w_X4_nextOf (X := X) (Nat.le_refl 1) l1 l3 l4 g g2 v1 k_l1 q3
  refine SF_callVi 7 mi_X4_nextOf ml_X1_53 dX1_relax_4 (Nat.le_trans (by decide) hd) s4 k_l1.1 rfl rfl (Nat.le_of_ble_eq_true rfl) rfl ?_
  have k_l0 := k_l0.ext s4.1
  have k_l1 := k_l1.ext s4.1
  have k_l2 := k_l2.ext s4.1
  refine SF_istore [(5, .int v1), (0, .ref (ad X l0)), (1, .ref (ad X l1)), (2, .ref (ad X l2)), (3, .int l3), (4, .int l4)] 9 dX1_relax_7 (by decide) rfl rfl ?_
  refine SF_aload_n 2 10 dX1_relax_9 rfl rfl rfl ?_
  refine SF_iload 0 12 dX1_relax_10 rfl rfl ?_
  obtain ⟨v5, g6, q7, h⟩ := bd_some h
  have s8 := w_X4_has (X := X) (Nat.le_refl 0) l1 v1 g2 g6 v5 k_l1 q7
  refine SF_callVb 15 mi_X4_has ml_X1_59 dX1_relax_12 (Nat.le_trans (by decide) hd) s8 k_l1.1 rfl rfl (Nat.le_of_ble_eq_true rfl) rfl ?_
  have k_l0 := k_l0.ext s8.1
  have k_l1 := k_l1.ext s8.1
  have k_l2 := k_l2.ext s8.1
  refine SF_ifne 19 18 dX1_relax_15 rfl rfl (fun c9 => ?_) (fun c9 => ?_)
  · have h := ite_f c9 h
    refine SF_aload_n 3 20 dX1_relax_19 rfl rfl rfl ?_
    refine SF_aload_n 2 21 dX1_relax_20 rfl rfl rfl ?_
    obtain ⟨b10, r11, h⟩ := dr_some h
    refine SF_getR 24 fl_X1_63 dX1_relax_21 k_l1.1 r11 rfl ?_
    refine SF_iload_n 4 25 dX1_relax_24 rfl rfl rfl ?_
    obtain ⟨k12, h⟩ := gdK_some h
    obtain ⟨i13, h⟩ := gdI_some h
    refine SF_iald 26 dX1_relax_25 k12.1 i13 rfl ?_
    refine SF_aload_n 2 27 dX1_relax_26 rfl rfl rfl ?_
    refine SF_getR 30 fl_X1_63 dX1_relax_27 k_l1.1 r11 rfl ?_
    refine SF_iload 0 32 dX1_relax_30 rfl rfl ?_
    obtain ⟨i14, h⟩ := gdI_some h
    refine SF_iald 33 dX1_relax_32 k12.1 i14 rfl ?_
    obtain ⟨v15, g16, q17, h⟩ := bd_some h
    have s18 := w_X9_costOf (X := X) (Nat.le_refl 3) l2 (gI g6 b10 l3.toNatClampNeg) (gI g6 b10 v1.toNatClampNeg) g6 g16 v15 k_l2 q17
    refine SF_callVi 36 mi_X9_costOf ml_X1_66 dX1_relax_33 (Nat.le_trans (by decide) hd) s18 k_l2.1 rfl rfl (Nat.le_of_ble_eq_true rfl) rfl ?_
    have k_l0 := k_l0.ext s18.1
    have k_l1 := k_l1.ext s18.1
    have k_l2 := k_l2.ext s18.1
    have k12 := k12.ext s18.1
    refine SF_sipush (1024 : Int32) 39 dX1_relax_36 rfl rfl ?_
    refine SF_imul 40 dX1_relax_39 rfl ?_
    refine SF_iconst (1 : Int32) 41 dX1_relax_40 rfl rfl ?_
    refine SF_iadd 42 dX1_relax_41 rfl ?_
    obtain ⟨y19, e20, h⟩ := li_some h
    refine SF_eqI e20 ?_
    refine SF_istore [(6, .int y19), (5, .int v1), (0, .ref (ad X l0)), (1, .ref (ad X l1)), (2, .ref (ad X l2)), (3, .int l3), (4, .int l4)] 44 dX1_relax_42 (by decide) rfl rfl ?_
    refine SF_aload_n 2 45 dX1_relax_44 rfl rfl rfl ?_
    obtain ⟨b21, r22, h⟩ := dr_some h
    refine SF_getR 48 fl_X1_15 dX1_relax_45 k_l0.1 r22 rfl ?_
    refine SF_iload_n 5 49 dX1_relax_48 rfl rfl rfl ?_
    refine SF_bipush (8 : Int32) 51 dX1_relax_49 rfl rfl ?_
    refine SF_imul 52 dX1_relax_51 rfl ?_
    refine SF_iload 6 54 dX1_relax_52 rfl rfl ?_
    refine SF_iadd 55 dX1_relax_54 rfl ?_
    refine SF_iload 0 57 dX1_relax_55 rfl rfl ?_
    obtain ⟨k23, h⟩ := gdK_some h
    obtain ⟨i24, h⟩ := gdI_some h
    refine SF_iast 58 dX1_relax_57 k23.1 i24 rfl ?_
    obtain ⟨g25, e26, h⟩ := lg_some h
    rw [← e26]
    have k_l0 := KD.eq e26 k_l0
    have k_l1 := KD.eq e26 k_l1
    have k_l2 := KD.eq e26 k_l2
    have k12 := KD.eq e26 k12
    have k23 := KD.eq e26 k23
    have r22 := gR_eq e26 r22
    have i24 := vp_eq e26 i24
    refine SF_aload_n 2 59 dX1_relax_58 rfl rfl rfl ?_
    obtain ⟨b27, r28, h⟩ := dr_some h
    refine SF_getR 62 fl_X1_9 dX1_relax_59 k_l0.1 r28 rfl ?_
    refine SF_iload_n 5 63 dX1_relax_62 rfl rfl rfl ?_
    obtain ⟨k29, h⟩ := gdK_some h
    obtain ⟨i30, h⟩ := gdI_some h
    refine SF_iald 64 dX1_relax_63 k29.1 i30 rfl ?_
    refine SF_iload 0 66 dX1_relax_64 rfl rfl ?_
    refine SF_iadd 67 dX1_relax_66 rfl ?_
    refine SF_aload_n 2 68 dX1_relax_67 rfl rfl rfl ?_
    refine SF_getR 71 fl_X1_9 dX1_relax_68 k_l0.1 r28 rfl ?_
    refine SF_iload 1 73 dX1_relax_71 rfl rfl ?_
    obtain ⟨i31, h⟩ := gdI_some h
    refine SF_iald 74 dX1_relax_73 k29.1 i31 rfl ?_
    refine SF_icge 136 77 dX1_relax_74 rfl rfl (fun c32 => ?_) (fun c32 => ?_)
    · have h := ite_t c32 h
      exact RT_v rfl dX1_relax_136 h
    · have h := ite_f c32 h
      refine SF_aload_n 2 78 dX1_relax_77 rfl rfl rfl ?_
      refine SF_getR 81 fl_X1_9 dX1_relax_78 k_l0.1 r28 rfl ?_
      refine SF_iload 1 83 dX1_relax_81 rfl rfl ?_
      refine SF_iald 84 dX1_relax_83 k29.1 i31 rfl ?_
      refine SF_ldc 86 dX1_relax_84 ki_X1_27 rfl ?_
      refine SF_icne 120 89 dX1_relax_86 rfl rfl (fun c33 => ?_) (fun c33 => ?_)
      · have h := ite_f c33 h
        refine SF_sub [2, 5, 1, 0] rfl ?_
        exact w_X1_relax_120 hd l0 l3 v1 y19 g25 k_l0 h
      · have h := ite_t c33 h
        refine SF_aload_n 2 90 dX1_relax_89 rfl rfl rfl ?_
        refine SF_getI 93 fl_X1_34 dX1_relax_90 k_l0.1 rfl ?_
        refine SF_sipush (256 : Int32) 96 dX1_relax_93 rfl rfl ?_
        refine SF_icge 120 99 dX1_relax_96 rfl rfl (fun c34 => ?_) (fun c34 => ?_)
        · have h := ite_t c34 h
          refine SF_sub [2, 5, 1, 0] rfl ?_
          exact w_X1_relax_120 hd l0 l3 v1 y19 g25 k_l0 h
        · have h := ite_f c34 h
          refine SF_aload_n 2 100 dX1_relax_99 rfl rfl rfl ?_
          obtain ⟨b35, r36, h⟩ := dr_some h
          refine SF_getR 103 fl_X1_21 dX1_relax_100 k_l0.1 r36 rfl ?_
          refine SF_aload_n 2 104 dX1_relax_103 rfl rfl rfl ?_
          refine SF_getI 107 fl_X1_34 dX1_relax_104 k_l0.1 rfl ?_
          refine SF_iload 1 109 dX1_relax_107 rfl rfl ?_
          obtain ⟨k37, h⟩ := gdK_some h
          obtain ⟨i38, h⟩ := gdI_some h
          refine SF_iast 110 dX1_relax_109 k37.1 i38 rfl ?_
          obtain ⟨g39, e40, h⟩ := lg_some h
          rw [← e40]
          have k_l0 := KD.eq e40 k_l0
          have k_l1 := KD.eq e40 k_l1
          have k_l2 := KD.eq e40 k_l2
          have k12 := KD.eq e40 k12
          have k23 := KD.eq e40 k23
          have k29 := KD.eq e40 k29
          have k37 := KD.eq e40 k37
          have r22 := gR_eq e40 r22
          have r28 := gR_eq e40 r28
          have r36 := gR_eq e40 r36
          have i24 := vp_eq e40 i24
          have i30 := vp_eq e40 i30
          have i31 := vp_eq e40 i31
          have i38 := vp_eq e40 i38
          refine SF_aload_n 2 111 dX1_relax_110 rfl rfl rfl ?_
          refine SF_dup 112 dX1_relax_111 rfl rfl ?_
          refine SF_getI 115 fl_X1_34 dX1_relax_112 k_l0.1 rfl ?_
          refine SF_iconst (1 : Int32) 116 dX1_relax_115 rfl rfl ?_
          refine SF_iadd 117 dX1_relax_116 rfl ?_
          refine SF_putI 120 fl_X1_34 dX1_relax_117 k_l0.1 (fn_int _) (Or.inl rfl) rfl ?_
          obtain ⟨g41, e42, h⟩ := lg_some h
          rw [← e42]
          have k_l0 := KD.eq e42 k_l0
          have k_l1 := KD.eq e42 k_l1
          have k_l2 := KD.eq e42 k_l2
          have k12 := KD.eq e42 k12
          have k23 := KD.eq e42 k23
          have k29 := KD.eq e42 k29
          have k37 := KD.eq e42 k37
          have r22 := gR_eq e42 r22
          have r28 := gR_eq e42 r28
          have r36 := gR_eq e42 r36
          have i24 := vp_eq e42 i24
          have i30 := vp_eq e42 i30
          have i31 := vp_eq e42 i31
          have i38 := vp_eq e42 i38
          refine SF_sub [2, 5, 1, 0] rfl ?_
          exact w_X1_relax_120 hd l0 l3 v1 y19 g41 k_l0 h
  · have h := ite_t c9 h
    exact RT_v rfl dX1_relax_18 h

theorem dX1_explore_0 : decode cX1_explore 0 = .ok (.aload_n 0, 1) := by decide +kernel
theorem dX1_explore_1 : decode cX1_explore 1 = .ok (.getfield 9, 3) := by decide +kernel
theorem dX1_explore_4 : decode cX1_explore 4 = .ok (.ldc 27, 2) := by decide +kernel
theorem dX1_explore_6 : decode cX1_explore 6 = .ok (.invokestatic 28, 3) := by decide +kernel
theorem dX1_explore_9 : decode cX1_explore 9 = .ok (.aload_n 0, 1) := by decide +kernel
theorem dX1_explore_10 : decode cX1_explore 10 = .ok (.getfield 9, 3) := by decide +kernel
theorem dX1_explore_13 : decode cX1_explore 13 = .ok (.iconst 0, 1) := by decide +kernel
theorem dX1_explore_14 : decode cX1_explore 14 = .ok (.iconst 0, 1) := by decide +kernel
theorem dX1_explore_15 : decode cX1_explore 15 = .ok (.iastore, 1) := by decide +kernel
theorem dX1_explore_16 : decode cX1_explore 16 = .ok (.aload_n 0, 1) := by decide +kernel
theorem dX1_explore_17 : decode cX1_explore 17 = .ok (.getfield 21, 3) := by decide +kernel
theorem dX1_explore_20 : decode cX1_explore 20 = .ok (.iconst 0, 1) := by decide +kernel
theorem dX1_explore_21 : decode cX1_explore 21 = .ok (.iconst 0, 1) := by decide +kernel
theorem dX1_explore_22 : decode cX1_explore 22 = .ok (.iastore, 1) := by decide +kernel
theorem dX1_explore_23 : decode cX1_explore 23 = .ok (.aload_n 0, 1) := by decide +kernel
theorem dX1_explore_24 : decode cX1_explore 24 = .ok (.iconst 1, 1) := by decide +kernel
theorem dX1_explore_25 : decode cX1_explore 25 = .ok (.putfield 34, 3) := by decide +kernel
theorem dX1_explore_28 : decode cX1_explore 28 = .ok (.aload_n 0, 1) := by decide +kernel
theorem dX1_explore_29 : decode cX1_explore 29 = .ok (.iconst 0, 1) := by decide +kernel
theorem dX1_explore_30 : decode cX1_explore 30 = .ok (.putfield 38, 3) := by decide +kernel
theorem dX1_explore_33 : decode cX1_explore 33 = .ok (.aload_n 0, 1) := by decide +kernel
theorem dX1_explore_34 : decode cX1_explore 34 = .ok (.iconst 1, 1) := by decide +kernel
theorem dX1_explore_35 : decode cX1_explore 35 = .ok (.putfield 41, 3) := by decide +kernel
theorem dX1_explore_38 : decode cX1_explore 38 = .ok (.iconst 0, 1) := by decide +kernel
theorem dX1_explore_39 : decode cX1_explore 39 = .ok (.istore_n 3, 1) := by decide +kernel
theorem dX1_explore_40 : decode cX1_explore 40 = .ok (.iload_n 3, 1) := by decide +kernel
theorem dX1_explore_41 : decode cX1_explore 41 = .ok (.sipush 256, 3) := by decide +kernel
theorem dX1_explore_44 : decode cX1_explore 44 = .ok (.if_icmp .ge 63, 3) := by decide +kernel
theorem dX1_explore_47 : decode cX1_explore 47 = .ok (.aload_n 0, 1) := by decide +kernel
theorem dX1_explore_48 : decode cX1_explore 48 = .ok (.getfield 34, 3) := by decide +kernel
theorem dX1_explore_51 : decode cX1_explore 51 = .ok (.ifCond .le 56, 3) := by decide +kernel
theorem dX1_explore_54 : decode cX1_explore 54 = .ok (.aload_n 0, 1) := by decide +kernel
theorem dX1_explore_55 : decode cX1_explore 55 = .ok (.invokevirtual 45, 3) := by decide +kernel
theorem dX1_explore_58 : decode cX1_explore 58 = .ok (.istore 4, 2) := by decide +kernel
theorem dX1_explore_60 : decode cX1_explore 60 = .ok (.aload_n 0, 1) := by decide +kernel
theorem dX1_explore_61 : decode cX1_explore 61 = .ok (.getfield 18, 3) := by decide +kernel
theorem dX1_explore_64 : decode cX1_explore 64 = .ok (.iload_n 3, 1) := by decide +kernel
theorem dX1_explore_65 : decode cX1_explore 65 = .ok (.iload 4, 2) := by decide +kernel
theorem dX1_explore_67 : decode cX1_explore 67 = .ok (.iastore, 1) := by decide +kernel
theorem dX1_explore_68 : decode cX1_explore 68 = .ok (.aload_n 0, 1) := by decide +kernel
theorem dX1_explore_69 : decode cX1_explore 69 = .ok (.iload_n 3, 1) := by decide +kernel
theorem dX1_explore_70 : decode cX1_explore 70 = .ok (.iconst 1, 1) := by decide +kernel
theorem dX1_explore_71 : decode cX1_explore 71 = .ok (.iadd, 1) := by decide +kernel
theorem dX1_explore_72 : decode cX1_explore 72 = .ok (.putfield 38, 3) := by decide +kernel
theorem dX1_explore_75 : decode cX1_explore 75 = .ok (.iconst 0, 1) := by decide +kernel
theorem dX1_explore_76 : decode cX1_explore 76 = .ok (.istore 5, 2) := by decide +kernel
theorem dX1_explore_78 : decode cX1_explore 78 = .ok (.iload 5, 2) := by decide +kernel
theorem dX1_explore_80 : decode cX1_explore 80 = .ok (.bipush 8, 2) := by decide +kernel
theorem dX1_explore_82 : decode cX1_explore 82 = .ok (.if_icmp .ge 19, 3) := by decide +kernel
theorem dX1_explore_85 : decode cX1_explore 85 = .ok (.aload_n 0, 1) := by decide +kernel
theorem dX1_explore_86 : decode cX1_explore 86 = .ok (.aload_n 1, 1) := by decide +kernel
theorem dX1_explore_87 : decode cX1_explore 87 = .ok (.aload_n 2, 1) := by decide +kernel
theorem dX1_explore_88 : decode cX1_explore 88 = .ok (.iload 4, 2) := by decide +kernel
theorem dX1_explore_90 : decode cX1_explore 90 = .ok (.iload 5, 2) := by decide +kernel
theorem dX1_explore_92 : decode cX1_explore 92 = .ok (.invokevirtual 49, 3) := by decide +kernel
theorem dX1_explore_95 : decode cX1_explore 95 = .ok (.iinc 5 1, 3) := by decide +kernel
theorem dX1_explore_98 : decode cX1_explore 98 = .ok (.goto (-20), 3) := by decide +kernel
theorem dX1_explore_101 : decode cX1_explore 101 = .ok (.iinc 3 1, 3) := by decide +kernel
theorem dX1_explore_104 : decode cX1_explore 104 = .ok (.goto (-64), 3) := by decide +kernel
theorem dX1_explore_107 : decode cX1_explore 107 = .ok (.return_, 1) := by decide +kernel
set_option maxRecDepth 20000 in
set_option maxHeartbeats 2000000 in
theorem w_X1_explore_78 {X : CX} {d : Nat} (hd : 5 ≤ d) {g' : G} {rx : Unit} (k40 : Nat → Nat → Nat → Int32 → G → Option (Unit × G)) (hk40 : ∀ (l0 : Nat) (l1 : Nat) (l2 : Nat) (l3 : Int32) (g : G), KD g l0 1 → KD g l1 4 → KD g l2 9 → k40 l0 l1 l2 l3 g = some (rx, g') → SemF X m_X1_explore d 40 [(0, .ref (ad X l0)), (1, .ref (ad X l1)), (2, .ref (ad X l2)), (3, .int l3)] [] g none g') : ∀ (n : Nat) (l0 : Nat) (l1 : Nat) (l2 : Nat) (l3 : Int32) (l4 : Int32) (l5 : Int32) (g : G), KD g l0 1 → KD g l1 4 → KD g l2 9 → f_X1_explore_78 k40 n l0 l1 l2 l3 l4 l5 g = some (rx, g') → SemF X m_X1_explore d 78 [(0, .ref (ad X l0)), (1, .ref (ad X l1)), (2, .ref (ad X l2)), (3, .int l3), (4, .int l4), (5, .int l5)] [] g none g' := by
  intro n
  induction n with
  | zero =>
    intro l0 l1 l2 l3 l4 l5 g k_l0 k_l1 k_l2 h
    rw [f_X1_explore_78] at h
    cases h
  | succ n ih =>
  intro l0 l1 l2 l3 l4 l5 g k_l0 k_l1 k_l2 h
  rw [f_X1_explore_78] at h
  refine SF_iload 5 80 dX1_explore_78 rfl rfl ?_
  refine SF_bipush (8 : Int32) 82 dX1_explore_80 rfl rfl ?_
  refine SF_icge 101 85 dX1_explore_82 rfl rfl (fun c1 => ?_) (fun c1 => ?_)
  · have h := ite_t c1 h
    refine SF_iinc 3 (l3 + (1 : Int32)) [(3, .int (l3 + (1 : Int32))), (0, .ref (ad X l0)), (1, .ref (ad X l1)), (2, .ref (ad X l2)), (4, .int l4), (5, .int l5)] 104 dX1_explore_101 rfl rfl (by decide) rfl rfl ?_
    refine SF_goto 40 dX1_explore_104 rfl ?_
    refine SF_sub [1, 2, 3, 0] rfl ?_
    exact hk40 l0 l1 l2 (l3 + (1 : Int32)) g k_l0 k_l1 k_l2 h
  · have h := ite_f c1 h
    refine SF_aload_n 0 86 dX1_explore_85 rfl rfl rfl ?_
    refine SF_aload_n 1 87 dX1_explore_86 rfl rfl rfl ?_
    refine SF_aload_n 2 88 dX1_explore_87 rfl rfl rfl ?_
    refine SF_iload 4 90 dX1_explore_88 rfl rfl ?_
    refine SF_iload 5 92 dX1_explore_90 rfl rfl ?_
    obtain ⟨v2, g3, q4, h⟩ := bd_some h
    have s5 := w_X1_relax (X := X) (Nat.le_refl 4) l0 l1 l2 l4 l5 g g3 v2 k_l0 k_l1 k_l2 q4
    refine SF_callVv 95 mi_X1_relax ml_X1_49 dX1_explore_92 (Nat.le_trans (by decide) hd) s5 k_l0.1 rfl rfl (Nat.le_of_ble_eq_true rfl) rfl ?_
    have k_l0 := k_l0.ext s5.1
    have k_l1 := k_l1.ext s5.1
    have k_l2 := k_l2.ext s5.1
    refine SF_iinc 5 (l5 + (1 : Int32)) [(5, .int (l5 + (1 : Int32))), (0, .ref (ad X l0)), (1, .ref (ad X l1)), (2, .ref (ad X l2)), (3, .int l3), (4, .int l4)] 98 dX1_explore_95 rfl rfl (by decide) rfl rfl ?_
    refine SF_goto 78 dX1_explore_98 rfl ?_
    refine SF_sub [1, 2, 3, 4, 5, 0] rfl ?_
    exact ih l0 l1 l2 l3 l4 (l5 + (1 : Int32)) g3 k_l0 k_l1 k_l2 h

set_option maxRecDepth 20000 in
set_option maxHeartbeats 2000000 in
theorem w_X1_explore_40 {X : CX} {d : Nat} (hd : 5 ≤ d) {g' : G} {rx : Unit} : ∀ (n : Nat) (l0 : Nat) (l1 : Nat) (l2 : Nat) (l3 : Int32) (g : G), KD g l0 1 → KD g l1 4 → KD g l2 9 → f_X1_explore_40 n l0 l1 l2 l3 g = some (rx, g') → SemF X m_X1_explore d 40 [(0, .ref (ad X l0)), (1, .ref (ad X l1)), (2, .ref (ad X l2)), (3, .int l3)] [] g none g' := by
  intro n
  induction n with
  | zero =>
    intro l0 l1 l2 l3 g k_l0 k_l1 k_l2 h
    rw [f_X1_explore_40] at h
    cases h
  | succ n ih =>
  intro l0 l1 l2 l3 g k_l0 k_l1 k_l2 h
  rw [f_X1_explore_40] at h
  refine SF_iload_n 3 41 dX1_explore_40 rfl rfl rfl ?_
  refine SF_sipush (256 : Int32) 44 dX1_explore_41 rfl rfl ?_
  refine SF_icge 107 47 dX1_explore_44 rfl rfl (fun c1 => ?_) (fun c1 => ?_)
  · have h := ite_t c1 h
    exact RT_v rfl dX1_explore_107 h
  · have h := ite_f c1 h
    refine SF_aload_n 0 48 dX1_explore_47 rfl rfl rfl ?_
    refine SF_getI 51 fl_X1_34 dX1_explore_48 k_l0.1 rfl ?_
    refine SF_ifle 107 54 dX1_explore_51 rfl rfl (fun c2 => ?_) (fun c2 => ?_)
    · have h := ite_t c2 h
      exact RT_v rfl dX1_explore_107 h
    · have h := ite_f c2 h
      refine SF_aload_n 0 55 dX1_explore_54 rfl rfl rfl ?_
      obtain ⟨v3, g4, q5, h⟩ := bd_some h
      have s6 := w_X1_takeNearest (X := X) (Nat.le_refl 0) l0 g g4 v3 k_l0 q5
      refine SF_callVi 58 mi_X1_takeNearest ml_X1_45 dX1_explore_55 (Nat.le_trans (by decide) hd) s6 k_l0.1 rfl rfl (Nat.le_of_ble_eq_true rfl) rfl ?_
      have k_l0 := k_l0.ext s6.1
      have k_l1 := k_l1.ext s6.1
      have k_l2 := k_l2.ext s6.1
      refine SF_istore [(4, .int v3), (0, .ref (ad X l0)), (1, .ref (ad X l1)), (2, .ref (ad X l2)), (3, .int l3)] 60 dX1_explore_58 (by decide) rfl rfl ?_
      refine SF_aload_n 1 61 dX1_explore_60 rfl rfl rfl ?_
      obtain ⟨b7, r8, h⟩ := dr_some h
      refine SF_getR 64 fl_X1_18 dX1_explore_61 k_l0.1 r8 rfl ?_
      refine SF_iload_n 4 65 dX1_explore_64 rfl rfl rfl ?_
      refine SF_iload 0 67 dX1_explore_65 rfl rfl ?_
      obtain ⟨k9, h⟩ := gdK_some h
      obtain ⟨i10, h⟩ := gdI_some h
      refine SF_iast 68 dX1_explore_67 k9.1 i10 rfl ?_
      obtain ⟨g11, e12, h⟩ := lg_some h
      rw [← e12]
      have k_l0 := KD.eq e12 k_l0
      have k_l1 := KD.eq e12 k_l1
      have k_l2 := KD.eq e12 k_l2
      have k9 := KD.eq e12 k9
      have r8 := gR_eq e12 r8
      have i10 := vp_eq e12 i10
      refine SF_aload_n 1 69 dX1_explore_68 rfl rfl rfl ?_
      refine SF_iload_n 4 70 dX1_explore_69 rfl rfl rfl ?_
      refine SF_iconst (1 : Int32) 71 dX1_explore_70 rfl rfl ?_
      refine SF_iadd 72 dX1_explore_71 rfl ?_
      refine SF_putI 75 fl_X1_38 dX1_explore_72 k_l0.1 (fn_int _) (Or.inl rfl) rfl ?_
      obtain ⟨g13, e14, h⟩ := lg_some h
      rw [← e14]
      have k_l0 := KD.eq e14 k_l0
      have k_l1 := KD.eq e14 k_l1
      have k_l2 := KD.eq e14 k_l2
      have k9 := KD.eq e14 k9
      have r8 := gR_eq e14 r8
      have i10 := vp_eq e14 i10
      refine SF_iconst (0 : Int32) 76 dX1_explore_75 rfl rfl ?_
      refine SF_istore [(5, .int (0 : Int32)), (4, .int v3), (0, .ref (ad X l0)), (1, .ref (ad X l1)), (2, .ref (ad X l2)), (3, .int l3)] 78 dX1_explore_76 (by decide) rfl rfl ?_
      refine SF_sub [2, 3, 4, 5, 1, 0] rfl ?_
      exact w_X1_explore_78 hd (f_X1_explore_40 n) ih FU l0 l1 l2 l3 v3 (0 : Int32) g13 k_l0 k_l1 k_l2 h

set_option maxRecDepth 20000 in
set_option maxHeartbeats 2000000 in
theorem w_X1_explore {X : CX} {d : Nat} (hd : 5 ≤ d) (l0 : Nat) (l1 : Nat) (l2 : Nat) (g g' : G) (rx : Unit) (k_l0 : KD g l0 1) (k_l1 : KD g l1 4) (k_l2 : KD g l2 9) (h : f_X1_explore l0 l1 l2 g = some (rx, g')) : Sem X m_X1_explore d [.ref (ad X l0), .ref (ad X l1), .ref (ad X l2)] g none g' := by
  refine Sem_of (lo := [(0, .ref (ad X l0)), (1, .ref (ad X l1)), (2, .ref (ad X l2))]) (by decide +kernel) rfl (Nat.le_of_ble_eq_true rfl) ?_
  rw [f_X1_explore] at h
  refine SF_aload_n 0 1 dX1_explore_0 rfl rfl rfl ?_
  obtain ⟨b1, r2, h⟩ := dr_some h
  refine SF_getR 4 fl_X1_9 dX1_explore_1 k_l0.1 r2 rfl ?_
  refine SF_ldc 6 dX1_explore_4 ki_X1_27 rfl ?_
  obtain ⟨k3, h⟩ := gdK_some h
  obtain ⟨v4, g5, q6, h⟩ := bd_some h
  have s7 := w_J7_fill_53178 (X := X) (Nat.le_refl 0) b1 (1000000000 : Int32) g g5 v4 k3 q6
  refine SF_callSv 9 mi_J7_fill_53178 ml_X1_28 dX1_explore_6 (Nat.le_trans (by decide) hd) s7 rfl rfl (Nat.le_of_ble_eq_true rfl) rfl ?_
  have k_l0 := k_l0.ext s7.1
  have k_l1 := k_l1.ext s7.1
  have k_l2 := k_l2.ext s7.1
  have k3 := k3.ext s7.1
  refine SF_aload_n 0 10 dX1_explore_9 rfl rfl rfl ?_
  obtain ⟨b8, r9, h⟩ := dr_some h
  refine SF_getR 13 fl_X1_9 dX1_explore_10 k_l0.1 r9 rfl ?_
  refine SF_iconst (0 : Int32) 14 dX1_explore_13 rfl rfl ?_
  refine SF_iconst (0 : Int32) 15 dX1_explore_14 rfl rfl ?_
  obtain ⟨k10, h⟩ := gdK_some h
  obtain ⟨i11, h⟩ := gdI_some h
  refine SF_iast 16 dX1_explore_15 k10.1 i11 rfl ?_
  obtain ⟨g12, e13, h⟩ := lg_some h
  rw [← e13]
  have k_l0 := KD.eq e13 k_l0
  have k_l1 := KD.eq e13 k_l1
  have k_l2 := KD.eq e13 k_l2
  have k3 := KD.eq e13 k3
  have k10 := KD.eq e13 k10
  have r9 := gR_eq e13 r9
  have i11 := vp_eq e13 i11
  refine SF_aload_n 0 17 dX1_explore_16 rfl rfl rfl ?_
  obtain ⟨b14, r15, h⟩ := dr_some h
  refine SF_getR 20 fl_X1_21 dX1_explore_17 k_l0.1 r15 rfl ?_
  refine SF_iconst (0 : Int32) 21 dX1_explore_20 rfl rfl ?_
  refine SF_iconst (0 : Int32) 22 dX1_explore_21 rfl rfl ?_
  obtain ⟨k16, h⟩ := gdK_some h
  obtain ⟨i17, h⟩ := gdI_some h
  refine SF_iast 23 dX1_explore_22 k16.1 i17 rfl ?_
  obtain ⟨g18, e19, h⟩ := lg_some h
  rw [← e19]
  have k_l0 := KD.eq e19 k_l0
  have k_l1 := KD.eq e19 k_l1
  have k_l2 := KD.eq e19 k_l2
  have k3 := KD.eq e19 k3
  have k10 := KD.eq e19 k10
  have k16 := KD.eq e19 k16
  have r9 := gR_eq e19 r9
  have r15 := gR_eq e19 r15
  have i11 := vp_eq e19 i11
  have i17 := vp_eq e19 i17
  refine SF_aload_n 0 24 dX1_explore_23 rfl rfl rfl ?_
  refine SF_iconst (1 : Int32) 25 dX1_explore_24 rfl rfl ?_
  refine SF_putI 28 fl_X1_34 dX1_explore_25 k_l0.1 (fn_int _) (Or.inl rfl) rfl ?_
  obtain ⟨g20, e21, h⟩ := lg_some h
  rw [← e21]
  have k_l0 := KD.eq e21 k_l0
  have k_l1 := KD.eq e21 k_l1
  have k_l2 := KD.eq e21 k_l2
  have k3 := KD.eq e21 k3
  have k10 := KD.eq e21 k10
  have k16 := KD.eq e21 k16
  have r9 := gR_eq e21 r9
  have r15 := gR_eq e21 r15
  have i11 := vp_eq e21 i11
  have i17 := vp_eq e21 i17
  refine SF_aload_n 0 29 dX1_explore_28 rfl rfl rfl ?_
  refine SF_iconst (0 : Int32) 30 dX1_explore_29 rfl rfl ?_
  refine SF_putI 33 fl_X1_38 dX1_explore_30 k_l0.1 (fn_int _) (Or.inl rfl) rfl ?_
  obtain ⟨g22, e23, h⟩ := lg_some h
  rw [← e23]
  have k_l0 := KD.eq e23 k_l0
  have k_l1 := KD.eq e23 k_l1
  have k_l2 := KD.eq e23 k_l2
  have k3 := KD.eq e23 k3
  have k10 := KD.eq e23 k10
  have k16 := KD.eq e23 k16
  have r9 := gR_eq e23 r9
  have r15 := gR_eq e23 r15
  have i11 := vp_eq e23 i11
  have i17 := vp_eq e23 i17
  refine SF_aload_n 0 34 dX1_explore_33 rfl rfl rfl ?_
  refine SF_iconst (1 : Int32) 35 dX1_explore_34 rfl rfl ?_
  refine SF_putI 38 fl_X1_41 dX1_explore_35 k_l0.1 ⟨rfl, rfl⟩ (Or.inl rfl) rfl ?_
  obtain ⟨g24, e25, h⟩ := lg_some h
  rw [← e25]
  have k_l0 := KD.eq e25 k_l0
  have k_l1 := KD.eq e25 k_l1
  have k_l2 := KD.eq e25 k_l2
  have k3 := KD.eq e25 k3
  have k10 := KD.eq e25 k10
  have k16 := KD.eq e25 k16
  have r9 := gR_eq e25 r9
  have r15 := gR_eq e25 r15
  have i11 := vp_eq e25 i11
  have i17 := vp_eq e25 i17
  refine SF_iconst (0 : Int32) 39 dX1_explore_38 rfl rfl ?_
  refine SF_istore_n [(3, .int (0 : Int32)), (0, .ref (ad X l0)), (1, .ref (ad X l1)), (2, .ref (ad X l2))] 40 dX1_explore_39 rfl (by decide) rfl rfl ?_
  refine SF_sub [1, 2, 3, 0] rfl ?_
  exact w_X1_explore_40 hd FU l0 l1 l2 (0 : Int32) g24 k_l0 k_l1 k_l2 h

theorem dX11_prepareCheap_0 : decode cX11_prepareCheap 0 = .ok (.aload_n 0, 1) := by decide +kernel
theorem dX11_prepareCheap_1 : decode cX11_prepareCheap 1 = .ok (.getfield 33, 3) := by decide +kernel
theorem dX11_prepareCheap_4 : decode cX11_prepareCheap 4 = .ok (.getfield 250, 3) := by decide +kernel
theorem dX11_prepareCheap_7 : decode cX11_prepareCheap 7 = .ok (.ifCond .ne 30, 3) := by decide +kernel
theorem dX11_prepareCheap_10 : decode cX11_prepareCheap 10 = .ok (.aload_n 0, 1) := by decide +kernel
theorem dX11_prepareCheap_11 : decode cX11_prepareCheap 11 = .ok (.getfield 95, 3) := by decide +kernel
theorem dX11_prepareCheap_14 : decode cX11_prepareCheap 14 = .ok (.aload_n 0, 1) := by decide +kernel
theorem dX11_prepareCheap_15 : decode cX11_prepareCheap 15 = .ok (.getfield 78, 3) := by decide +kernel
theorem dX11_prepareCheap_18 : decode cX11_prepareCheap 18 = .ok (.iload_n 1, 1) := by decide +kernel
theorem dX11_prepareCheap_19 : decode cX11_prepareCheap 19 = .ok (.invokevirtual 306, 3) := by decide +kernel
theorem dX11_prepareCheap_22 : decode cX11_prepareCheap 22 = .ok (.aload_n 0, 1) := by decide +kernel
theorem dX11_prepareCheap_23 : decode cX11_prepareCheap 23 = .ok (.getfield 33, 3) := by decide +kernel
theorem dX11_prepareCheap_26 : decode cX11_prepareCheap 26 = .ok (.aload_n 0, 1) := by decide +kernel
theorem dX11_prepareCheap_27 : decode cX11_prepareCheap 27 = .ok (.getfield 20, 3) := by decide +kernel
theorem dX11_prepareCheap_30 : decode cX11_prepareCheap 30 = .ok (.aload_n 0, 1) := by decide +kernel
theorem dX11_prepareCheap_31 : decode cX11_prepareCheap 31 = .ok (.getfield 95, 3) := by decide +kernel
theorem dX11_prepareCheap_34 : decode cX11_prepareCheap 34 = .ok (.invokevirtual 330, 3) := by decide +kernel
theorem dX11_prepareCheap_37 : decode cX11_prepareCheap 37 = .ok (.return_, 1) := by decide +kernel
set_option maxRecDepth 20000 in
set_option maxHeartbeats 2000000 in
theorem w_X11_prepareCheap {X : CX} {d : Nat} (hd : 6 ≤ d) (l0 : Nat) (l1 : Int32) (g g' : G) (rx : Unit) (k_l0 : KD g l0 11) (h : f_X11_prepareCheap l0 l1 g = some (rx, g')) : Sem X m_X11_prepareCheap d [.ref (ad X l0), .int l1] g none g' := by
  refine Sem_of (lo := [(0, .ref (ad X l0)), (1, .int l1)]) (by decide +kernel) rfl (Nat.le_of_ble_eq_true rfl) ?_
  rw [f_X11_prepareCheap] at h
  refine SF_aload_n 0 1 dX11_prepareCheap_0 rfl rfl rfl ?_
  obtain ⟨b1, r2, h⟩ := dr_some h
  refine SF_getR 4 fl_X11_33 dX11_prepareCheap_1 k_l0.1 r2 rfl ?_
  obtain ⟨k3, h⟩ := gdK_some h
  refine SF_getI 7 fl_X11_250 dX11_prepareCheap_4 k3.1 rfl ?_
  refine SF_ifne 37 10 dX11_prepareCheap_7 rfl rfl (fun c4 => ?_) (fun c4 => ?_)
  · have h := ite_f c4 h
    exact RT_v rfl dX11_prepareCheap_37 h
  · have h := ite_t c4 h
    refine SF_aload_n 0 11 dX11_prepareCheap_10 rfl rfl rfl ?_
    obtain ⟨b5, r6, h⟩ := dr_some h
    refine SF_getR 14 fl_X11_95 dX11_prepareCheap_11 k_l0.1 r6 rfl ?_
    refine SF_aload_n 0 15 dX11_prepareCheap_14 rfl rfl rfl ?_
    obtain ⟨b7, r8, h⟩ := dr_some h
    refine SF_getR 18 fl_X11_78 dX11_prepareCheap_15 k_l0.1 r8 rfl ?_
    refine SF_iload_n 1 19 dX11_prepareCheap_18 rfl rfl rfl ?_
    obtain ⟨k9, h⟩ := gdK_some h
    obtain ⟨k10, h⟩ := gdK_some h
    obtain ⟨v11, g12, q13, h⟩ := bd_some h
    have s14 := w_X9_aim (X := X) (Nat.le_refl 3) b5 b7 l1 g g12 v11 k9 k10 q13
    refine SF_callVv 22 mi_X9_aim ml_X11_306 dX11_prepareCheap_19 (Nat.le_trans (by decide) hd) s14 k9.1 rfl rfl (Nat.le_of_ble_eq_true rfl) rfl ?_
    have k_l0 := k_l0.ext s14.1
    have k3 := k3.ext s14.1
    have k9 := k9.ext s14.1
    have k10 := k10.ext s14.1
    refine SF_aload_n 0 23 dX11_prepareCheap_22 rfl rfl rfl ?_
    obtain ⟨b15, r16, h⟩ := dr_some h
    refine SF_getR 26 fl_X11_33 dX11_prepareCheap_23 k_l0.1 r16 rfl ?_
    refine SF_aload_n 0 27 dX11_prepareCheap_26 rfl rfl rfl ?_
    obtain ⟨b17, r18, h⟩ := dr_some h
    refine SF_getR 30 fl_X11_20 dX11_prepareCheap_27 k_l0.1 r18 rfl ?_
    refine SF_aload_n 0 31 dX11_prepareCheap_30 rfl rfl rfl ?_
    obtain ⟨b19, r20, h⟩ := dr_some h
    refine SF_getR 34 fl_X11_95 dX11_prepareCheap_31 k_l0.1 r20 rfl ?_
    obtain ⟨k21, h⟩ := gdK_some h
    obtain ⟨k22, h⟩ := gdK_some h
    obtain ⟨k23, h⟩ := gdK_some h
    obtain ⟨v24, g25, q26, h⟩ := bd_some h
    have s27 := w_X1_explore (X := X) (Nat.le_refl 5) b15 b17 b19 g12 g25 v24 k21 k22 k23 q26
    refine SF_callVv 37 mi_X1_explore ml_X11_330 dX11_prepareCheap_34 (Nat.le_trans (by decide) hd) s27 k21.1 rfl rfl (Nat.le_of_ble_eq_true rfl) rfl ?_
    have k_l0 := k_l0.ext s27.1
    have k3 := k3.ext s27.1
    have k9 := k9.ext s27.1
    have k10 := k10.ext s27.1
    have k21 := k21.ext s27.1
    have k22 := k22.ext s27.1
    have k23 := k23.ext s27.1
    exact RT_v rfl dX11_prepareCheap_37 h

theorem dX1_lengthTo_0 : decode cX1_lengthTo 0 = .ok (.iconst 0, 1) := by decide +kernel
theorem dX1_lengthTo_1 : decode cX1_lengthTo 1 = .ok (.istore 4, 2) := by decide +kernel
theorem dX1_lengthTo_3 : decode cX1_lengthTo 3 = .ok (.iload 4, 2) := by decide +kernel
theorem dX1_lengthTo_5 : decode cX1_lengthTo 5 = .ok (.aload_n 0, 1) := by decide +kernel
theorem dX1_lengthTo_6 : decode cX1_lengthTo 6 = .ok (.getfield 38, 3) := by decide +kernel
theorem dX1_lengthTo_9 : decode cX1_lengthTo 9 = .ok (.if_icmp .ge 38, 3) := by decide +kernel
theorem dX1_lengthTo_12 : decode cX1_lengthTo 12 = .ok (.aload_n 1, 1) := by decide +kernel
theorem dX1_lengthTo_13 : decode cX1_lengthTo 13 = .ok (.aload_n 0, 1) := by decide +kernel
theorem dX1_lengthTo_14 : decode cX1_lengthTo 14 = .ok (.getfield 18, 3) := by decide +kernel
theorem dX1_lengthTo_17 : decode cX1_lengthTo 17 = .ok (.iload 4, 2) := by decide +kernel
theorem dX1_lengthTo_19 : decode cX1_lengthTo 19 = .ok (.iaload, 1) := by decide +kernel
theorem dX1_lengthTo_20 : decode cX1_lengthTo 20 = .ok (.iload_n 2, 1) := by decide +kernel
theorem dX1_lengthTo_21 : decode cX1_lengthTo 21 = .ok (.iload_n 3, 1) := by decide +kernel
theorem dX1_lengthTo_22 : decode cX1_lengthTo 22 = .ok (.invokevirtual 71, 3) := by decide +kernel
theorem dX1_lengthTo_25 : decode cX1_lengthTo 25 = .ok (.ifCond .eq 16, 3) := by decide +kernel
theorem dX1_lengthTo_28 : decode cX1_lengthTo 28 = .ok (.aload_n 0, 1) := by decide +kernel
theorem dX1_lengthTo_29 : decode cX1_lengthTo 29 = .ok (.getfield 9, 3) := by decide +kernel
theorem dX1_lengthTo_32 : decode cX1_lengthTo 32 = .ok (.aload_n 0, 1) := by decide +kernel
theorem dX1_lengthTo_33 : decode cX1_lengthTo 33 = .ok (.getfield 18, 3) := by decide +kernel
theorem dX1_lengthTo_36 : decode cX1_lengthTo 36 = .ok (.iload 4, 2) := by decide +kernel
theorem dX1_lengthTo_38 : decode cX1_lengthTo 38 = .ok (.iaload, 1) := by decide +kernel
theorem dX1_lengthTo_39 : decode cX1_lengthTo 39 = .ok (.iaload, 1) := by decide +kernel
theorem dX1_lengthTo_40 : decode cX1_lengthTo 40 = .ok (.ireturn, 1) := by decide +kernel
theorem dX1_lengthTo_41 : decode cX1_lengthTo 41 = .ok (.iinc 4 1, 3) := by decide +kernel
theorem dX1_lengthTo_44 : decode cX1_lengthTo 44 = .ok (.goto (-41), 3) := by decide +kernel
theorem dX1_lengthTo_47 : decode cX1_lengthTo 47 = .ok (.ldc 27, 2) := by decide +kernel
theorem dX1_lengthTo_49 : decode cX1_lengthTo 49 = .ok (.ireturn, 1) := by decide +kernel
set_option maxRecDepth 20000 in
set_option maxHeartbeats 2000000 in
theorem w_X1_lengthTo_3 {X : CX} {d : Nat} (hd : 2 ≤ d) {g' : G} {rx : Int32} : ∀ (n : Nat) (l0 : Nat) (l1 : Nat) (l2 : Int32) (l3 : Int32) (l4 : Int32) (g : G), KD g l0 1 → KD g l1 4 → f_X1_lengthTo_3 n l0 l1 l2 l3 l4 g = some (rx, g') → SemF X m_X1_lengthTo d 3 [(0, .ref (ad X l0)), (1, .ref (ad X l1)), (2, .int l2), (3, .int l3), (4, .int l4)] [] g (some (.int rx)) g' := by
  intro n
  induction n with
  | zero =>
    intro l0 l1 l2 l3 l4 g k_l0 k_l1 h
    rw [f_X1_lengthTo_3] at h
    cases h
  | succ n ih =>
  intro l0 l1 l2 l3 l4 g k_l0 k_l1 h
  rw [f_X1_lengthTo_3] at h
  refine SF_iload 4 5 dX1_lengthTo_3 rfl rfl ?_
  refine SF_aload_n 0 6 dX1_lengthTo_5 rfl rfl rfl ?_
  refine SF_getI 9 fl_X1_38 dX1_lengthTo_6 k_l0.1 rfl ?_
  refine SF_icge 47 12 dX1_lengthTo_9 rfl rfl (fun c1 => ?_) (fun c1 => ?_)
  · have h := ite_t c1 h
    refine SF_ldc 49 dX1_lengthTo_47 ki_X1_27 rfl ?_
    exact RT_i rfl dX1_lengthTo_49 h
  · have h := ite_f c1 h
    refine SF_aload_n 1 13 dX1_lengthTo_12 rfl rfl rfl ?_
    refine SF_aload_n 0 14 dX1_lengthTo_13 rfl rfl rfl ?_
    obtain ⟨b2, r3, h⟩ := dr_some h
    refine SF_getR 17 fl_X1_18 dX1_lengthTo_14 k_l0.1 r3 rfl ?_
    refine SF_iload 4 19 dX1_lengthTo_17 rfl rfl ?_
    obtain ⟨k4, h⟩ := gdK_some h
    obtain ⟨i5, h⟩ := gdI_some h
    refine SF_iald 20 dX1_lengthTo_19 k4.1 i5 rfl ?_
    refine SF_iload_n 2 21 dX1_lengthTo_20 rfl rfl rfl ?_
    refine SF_iload_n 3 22 dX1_lengthTo_21 rfl rfl rfl ?_
    obtain ⟨v6, g7, q8, h⟩ := bd_some h
    have s9 := w_X4_fits (X := X) (Nat.le_refl 1) l1 (gI g b2 l4.toNatClampNeg) l2 l3 g g7 v6 k_l1 q8
    refine SF_callVb 25 mi_X4_fits ml_X1_71 dX1_lengthTo_22 (Nat.le_trans (by decide) hd) s9 k_l1.1 rfl rfl (Nat.le_of_ble_eq_true rfl) rfl ?_
    have k_l0 := k_l0.ext s9.1
    have k_l1 := k_l1.ext s9.1
    have k4 := k4.ext s9.1
    refine SF_ifeq 41 28 dX1_lengthTo_25 rfl rfl (fun c10 => ?_) (fun c10 => ?_)
    · have h := ite_t c10 h
      refine SF_iinc 4 (l4 + (1 : Int32)) [(4, .int (l4 + (1 : Int32))), (0, .ref (ad X l0)), (1, .ref (ad X l1)), (2, .int l2), (3, .int l3)] 44 dX1_lengthTo_41 rfl rfl (by decide) rfl rfl ?_
      refine SF_goto 3 dX1_lengthTo_44 rfl ?_
      refine SF_sub [1, 2, 3, 4, 0] rfl ?_
      exact ih l0 l1 l2 l3 (l4 + (1 : Int32)) g7 k_l0 k_l1 h
    · have h := ite_f c10 h
      refine SF_aload_n 0 29 dX1_lengthTo_28 rfl rfl rfl ?_
      obtain ⟨b11, r12, h⟩ := dr_some h
      refine SF_getR 32 fl_X1_9 dX1_lengthTo_29 k_l0.1 r12 rfl ?_
      refine SF_aload_n 0 33 dX1_lengthTo_32 rfl rfl rfl ?_
      obtain ⟨b13, r14, h⟩ := dr_some h
      refine SF_getR 36 fl_X1_18 dX1_lengthTo_33 k_l0.1 r14 rfl ?_
      refine SF_iload 4 38 dX1_lengthTo_36 rfl rfl ?_
      obtain ⟨k15, h⟩ := gdK_some h
      obtain ⟨i16, h⟩ := gdI_some h
      refine SF_iald 39 dX1_lengthTo_38 k15.1 i16 rfl ?_
      obtain ⟨k17, h⟩ := gdK_some h
      obtain ⟨i18, h⟩ := gdI_some h
      refine SF_iald 40 dX1_lengthTo_39 k17.1 i18 rfl ?_
      exact RT_i rfl dX1_lengthTo_40 h

set_option maxRecDepth 20000 in
set_option maxHeartbeats 2000000 in
theorem w_X1_lengthTo {X : CX} {d : Nat} (hd : 2 ≤ d) (l0 : Nat) (l1 : Nat) (l2 : Int32) (l3 : Int32) (g g' : G) (rx : Int32) (k_l0 : KD g l0 1) (k_l1 : KD g l1 4) (h : f_X1_lengthTo l0 l1 l2 l3 g = some (rx, g')) : Sem X m_X1_lengthTo d [.ref (ad X l0), .ref (ad X l1), .int l2, .int l3] g (some (.int rx)) g' := by
  refine Sem_of (lo := [(0, .ref (ad X l0)), (1, .ref (ad X l1)), (2, .int l2), (3, .int l3)]) (by decide +kernel) rfl (Nat.le_of_ble_eq_true rfl) ?_
  rw [f_X1_lengthTo] at h
  refine SF_iconst (0 : Int32) 1 dX1_lengthTo_0 rfl rfl ?_
  refine SF_istore [(4, .int (0 : Int32)), (0, .ref (ad X l0)), (1, .ref (ad X l1)), (2, .int l2), (3, .int l3)] 3 dX1_lengthTo_1 (by decide) rfl rfl ?_
  refine SF_sub [1, 2, 3, 4, 0] rfl ?_
  exact w_X1_lengthTo_3 hd FU l0 l1 l2 l3 (0 : Int32) g k_l0 k_l1 h

