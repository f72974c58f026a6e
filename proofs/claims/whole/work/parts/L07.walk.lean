theorem dX11_undo_0 : decode cX11_undo 0 = .ok (.iload_n 1, 1) := by decide +kernel
theorem dX11_undo_1 : decode cX11_undo 1 = .ok (.iconst 1, 1) := by decide +kernel
theorem dX11_undo_2 : decode cX11_undo 2 = .ok (.if_icmp .lt 20, 3) := by decide +kernel
theorem dX11_undo_5 : decode cX11_undo 5 = .ok (.iload_n 1, 1) := by decide +kernel
theorem dX11_undo_6 : decode cX11_undo 6 = .ok (.bipush 10, 2) := by decide +kernel
theorem dX11_undo_8 : decode cX11_undo 8 = .ok (.if_icmp .gt 14, 3) := by decide +kernel
theorem dX11_undo_11 : decode cX11_undo 11 = .ok (.iload_n 1, 1) := by decide +kernel
theorem dX11_undo_12 : decode cX11_undo 12 = .ok (.aload_n 0, 1) := by decide +kernel
theorem dX11_undo_13 : decode cX11_undo 13 = .ok (.getfield 102, 3) := by decide +kernel
theorem dX11_undo_16 : decode cX11_undo 16 = .ok (.getfield 212, 3) := by decide +kernel
theorem dX11_undo_19 : decode cX11_undo 19 = .ok (.if_icmp .le 6, 3) := by decide +kernel
theorem dX11_undo_22 : decode cX11_undo 22 = .ok (.bipush (-3), 2) := by decide +kernel
theorem dX11_undo_24 : decode cX11_undo 24 = .ok (.ireturn, 1) := by decide +kernel
theorem dX11_undo_25 : decode cX11_undo 25 = .ok (.aload_n 0, 1) := by decide +kernel
theorem dX11_undo_26 : decode cX11_undo 26 = .ok (.getfield 102, 3) := by decide +kernel
theorem dX11_undo_29 : decode cX11_undo 29 = .ok (.iload_n 1, 1) := by decide +kernel
theorem dX11_undo_30 : decode cX11_undo 30 = .ok (.aload_n 0, 1) := by decide +kernel
theorem dX11_undo_31 : decode cX11_undo 31 = .ok (.getfield 78, 3) := by decide +kernel
theorem dX11_undo_34 : decode cX11_undo 34 = .ok (.invokevirtual 215, 3) := by decide +kernel
theorem dX11_undo_37 : decode cX11_undo 37 = .ok (.aload_n 0, 1) := by decide +kernel
theorem dX11_undo_38 : decode cX11_undo 38 = .ok (.invokevirtual 133, 3) := by decide +kernel
theorem dX11_undo_41 : decode cX11_undo 41 = .ok (.aload_n 0, 1) := by decide +kernel
theorem dX11_undo_42 : decode cX11_undo 42 = .ok (.getfield 102, 3) := by decide +kernel
theorem dX11_undo_45 : decode cX11_undo 45 = .ok (.getfield 212, 3) := by decide +kernel
theorem dX11_undo_48 : decode cX11_undo 48 = .ok (.ireturn, 1) := by decide +kernel
set_option maxRecDepth 20000 in
set_option maxHeartbeats 2000000 in
theorem w_X11_undo {X : CX} {d : Nat} (hd : 3 ≤ d) (l0 : Nat) (l1 : Int32) (g g' : G) (rx : Int32) (k_l0 : KD g l0 11) (h : f_X11_undo l0 l1 g = some (rx, g')) : Sem X m_X11_undo d [.ref (ad X l0), .int l1] g (some (.int rx)) g' := by
  refine Sem_of (lo := [(0, .ref (ad X l0)), (1, .int l1)]) (by decide +kernel) rfl (Nat.le_of_ble_eq_true rfl) ?_
  rw [f_X11_undo] at h
  refine SF_iload_n 1 1 dX11_undo_0 rfl rfl rfl ?_
  refine SF_iconst (1 : Int32) 2 dX11_undo_1 rfl rfl ?_
  refine SF_iclt 22 5 dX11_undo_2 rfl rfl (fun c1 => ?_) (fun c1 => ?_)
  · have h := ite_t c1 h
    refine SF_bipush (-3 : Int32) 24 dX11_undo_22 rfl rfl ?_
    exact RT_i rfl dX11_undo_24 h
  · have h := ite_f c1 h
    refine SF_iload_n 1 6 dX11_undo_5 rfl rfl rfl ?_
    refine SF_bipush (10 : Int32) 8 dX11_undo_6 rfl rfl ?_
    refine SF_icgt 22 11 dX11_undo_8 rfl rfl (fun c2 => ?_) (fun c2 => ?_)
    · have h := ite_t c2 h
      refine SF_bipush (-3 : Int32) 24 dX11_undo_22 rfl rfl ?_
      exact RT_i rfl dX11_undo_24 h
    · have h := ite_f c2 h
      refine SF_iload_n 1 12 dX11_undo_11 rfl rfl rfl ?_
      refine SF_aload_n 0 13 dX11_undo_12 rfl rfl rfl ?_
      obtain ⟨b3, r4, h⟩ := dr_some h
      refine SF_getR 16 fl_X11_102 dX11_undo_13 k_l0.1 r4 rfl ?_
      obtain ⟨k5, h⟩ := gdK_some h
      refine SF_getI 19 fl_X11_212 dX11_undo_16 k5.1 rfl ?_
      refine SF_icle 25 22 dX11_undo_19 rfl rfl (fun c6 => ?_) (fun c6 => ?_)
      · have h := ite_t c6 h
        refine SF_aload_n 0 26 dX11_undo_25 rfl rfl rfl ?_
        refine SF_getR 29 fl_X11_102 dX11_undo_26 k_l0.1 r4 rfl ?_
        refine SF_iload_n 1 30 dX11_undo_29 rfl rfl rfl ?_
        refine SF_aload_n 0 31 dX11_undo_30 rfl rfl rfl ?_
        obtain ⟨b7, r8, h⟩ := dr_some h
        refine SF_getR 34 fl_X11_78 dX11_undo_31 k_l0.1 r8 rfl ?_
        obtain ⟨k9, h⟩ := gdK_some h
        obtain ⟨v10, g11, q12, h⟩ := bd_some h
        have s13 := w_X5_goBack (X := X) (Nat.le_refl 2) b3 l1 b7 g g11 v10 k5 k9 q12
        refine SF_callVv 37 mi_X5_goBack ml_X11_215 dX11_undo_34 (Nat.le_trans (by decide) hd) s13 k5.1 rfl rfl (Nat.le_of_ble_eq_true rfl) rfl ?_
        have k_l0 := k_l0.ext s13.1
        have k5 := k5.ext s13.1
        have k9 := k9.ext s13.1
        refine SF_aload_n 0 38 dX11_undo_37 rfl rfl rfl ?_
        obtain ⟨v14, g15, q16, h⟩ := bd_some h
        have s17 := w_X11_forgetWays (X := X) (Nat.le_refl 0) l0 g11 g15 v14 k_l0 q16
        refine SF_callVv 41 mi_X11_forgetWays ml_X11_133 dX11_undo_38 (Nat.le_trans (by decide) hd) s17 k_l0.1 rfl rfl (Nat.le_of_ble_eq_true rfl) rfl ?_
        have k_l0 := k_l0.ext s17.1
        have k5 := k5.ext s17.1
        have k9 := k9.ext s17.1
        refine SF_aload_n 0 42 dX11_undo_41 rfl rfl rfl ?_
        obtain ⟨b18, r19, h⟩ := dr_some h
        refine SF_getR 45 fl_X11_102 dX11_undo_42 k_l0.1 r19 rfl ?_
        obtain ⟨k20, h⟩ := gdK_some h
        refine SF_getI 48 fl_X11_212 dX11_undo_45 k20.1 rfl ?_
        exact RT_i rfl dX11_undo_48 h
      · have h := ite_f c6 h
        refine SF_bipush (-3 : Int32) 24 dX11_undo_22 rfl rfl ?_
        exact RT_i rfl dX11_undo_24 h

theorem dX12_undo_0 : decode cX12_undo 0 = .ok (.aload_n 0, 1) := by decide +kernel
theorem dX12_undo_1 : decode cX12_undo 1 = .ok (.iconst 0, 1) := by decide +kernel
theorem dX12_undo_2 : decode cX12_undo 2 = .ok (.putfield 1, 3) := by decide +kernel
theorem dX12_undo_5 : decode cX12_undo 5 = .ok (.iload_n 1, 1) := by decide +kernel
theorem dX12_undo_6 : decode cX12_undo 6 = .ok (.i2l, 1) := by decide +kernel
theorem dX12_undo_7 : decode cX12_undo 7 = .ok (.lconst 1, 1) := by decide +kernel
theorem dX12_undo_8 : decode cX12_undo 8 = .ok (.ldc2_w 297, 3) := by decide +kernel
theorem dX12_undo_11 : decode cX12_undo 11 = .ok (.invokestatic 139, 3) := by decide +kernel
theorem dX12_undo_14 : decode cX12_undo 14 = .ok (.ifCond .eq 14, 3) := by decide +kernel
theorem dX12_undo_17 : decode cX12_undo 17 = .ok (.iload_n 1, 1) := by decide +kernel
theorem dX12_undo_18 : decode cX12_undo 18 = .ok (.aload_n 0, 1) := by decide +kernel
theorem dX12_undo_19 : decode cX12_undo 19 = .ok (.getfield 13, 3) := by decide +kernel
theorem dX12_undo_22 : decode cX12_undo 22 = .ok (.bipush 103, 2) := by decide +kernel
theorem dX12_undo_24 : decode cX12_undo 24 = .ok (.iaload, 1) := by decide +kernel
theorem dX12_undo_25 : decode cX12_undo 25 = .ok (.if_icmp .le 6, 3) := by decide +kernel
theorem dX12_undo_28 : decode cX12_undo 28 = .ok (.bipush (-3), 2) := by decide +kernel
theorem dX12_undo_30 : decode cX12_undo 30 = .ok (.ireturn, 1) := by decide +kernel
theorem dX12_undo_31 : decode cX12_undo 31 = .ok (.aload_n 0, 1) := by decide +kernel
theorem dX12_undo_32 : decode cX12_undo 32 = .ok (.getfield 13, 3) := by decide +kernel
theorem dX12_undo_35 : decode cX12_undo 35 = .ok (.bipush 103, 2) := by decide +kernel
theorem dX12_undo_37 : decode cX12_undo 37 = .ok (.dup2, 1) := by decide +kernel
theorem dX12_undo_38 : decode cX12_undo 38 = .ok (.iaload, 1) := by decide +kernel
theorem dX12_undo_39 : decode cX12_undo 39 = .ok (.iload_n 1, 1) := by decide +kernel
theorem dX12_undo_40 : decode cX12_undo 40 = .ok (.isub, 1) := by decide +kernel
theorem dX12_undo_41 : decode cX12_undo 41 = .ok (.iastore, 1) := by decide +kernel
theorem dX12_undo_42 : decode cX12_undo 42 = .ok (.iconst 0, 1) := by decide +kernel
theorem dX12_undo_43 : decode cX12_undo 43 = .ok (.istore_n 2, 1) := by decide +kernel
theorem dX12_undo_44 : decode cX12_undo 44 = .ok (.iload_n 2, 1) := by decide +kernel
theorem dX12_undo_45 : decode cX12_undo 45 = .ok (.bipush 51, 2) := by decide +kernel
theorem dX12_undo_47 : decode cX12_undo 47 = .ok (.if_icmp .ge 38, 3) := by decide +kernel
theorem dX12_undo_50 : decode cX12_undo 50 = .ok (.aload_n 0, 1) := by decide +kernel
theorem dX12_undo_51 : decode cX12_undo 51 = .ok (.getfield 13, 3) := by decide +kernel
theorem dX12_undo_54 : decode cX12_undo 54 = .ok (.bipush 52, 2) := by decide +kernel
theorem dX12_undo_56 : decode cX12_undo 56 = .ok (.iload_n 2, 1) := by decide +kernel
theorem dX12_undo_57 : decode cX12_undo 57 = .ok (.iadd, 1) := by decide +kernel
theorem dX12_undo_58 : decode cX12_undo 58 = .ok (.aload_n 0, 1) := by decide +kernel
theorem dX12_undo_59 : decode cX12_undo 59 = .ok (.getfield 13, 3) := by decide +kernel
theorem dX12_undo_62 : decode cX12_undo 62 = .ok (.bipush 104, 2) := by decide +kernel
theorem dX12_undo_64 : decode cX12_undo 64 = .ok (.bipush 51, 2) := by decide +kernel
theorem dX12_undo_66 : decode cX12_undo 66 = .ok (.aload_n 0, 1) := by decide +kernel
theorem dX12_undo_67 : decode cX12_undo 67 = .ok (.getfield 13, 3) := by decide +kernel
theorem dX12_undo_70 : decode cX12_undo 70 = .ok (.bipush 103, 2) := by decide +kernel
theorem dX12_undo_72 : decode cX12_undo 72 = .ok (.iaload, 1) := by decide +kernel
theorem dX12_undo_73 : decode cX12_undo 73 = .ok (.imul, 1) := by decide +kernel
theorem dX12_undo_74 : decode cX12_undo 74 = .ok (.iadd, 1) := by decide +kernel
theorem dX12_undo_75 : decode cX12_undo 75 = .ok (.iload_n 2, 1) := by decide +kernel
theorem dX12_undo_76 : decode cX12_undo 76 = .ok (.iadd, 1) := by decide +kernel
theorem dX12_undo_77 : decode cX12_undo 77 = .ok (.iaload, 1) := by decide +kernel
theorem dX12_undo_78 : decode cX12_undo 78 = .ok (.iastore, 1) := by decide +kernel
theorem dX12_undo_79 : decode cX12_undo 79 = .ok (.iinc 2 1, 3) := by decide +kernel
theorem dX12_undo_82 : decode cX12_undo 82 = .ok (.goto (-38), 3) := by decide +kernel
theorem dX12_undo_85 : decode cX12_undo 85 = .ok (.aload_n 0, 1) := by decide +kernel
theorem dX12_undo_86 : decode cX12_undo 86 = .ok (.getfield 13, 3) := by decide +kernel
theorem dX12_undo_89 : decode cX12_undo 89 = .ok (.bipush 103, 2) := by decide +kernel
theorem dX12_undo_91 : decode cX12_undo 91 = .ok (.iaload, 1) := by decide +kernel
theorem dX12_undo_92 : decode cX12_undo 92 = .ok (.ireturn, 1) := by decide +kernel
set_option maxRecDepth 20000 in
set_option maxHeartbeats 2000000 in
theorem w_X12_undo_44 {X : CX} {d : Nat} (hd : 1 ≤ d) {g' : G} {rx : Int32} : ∀ (n : Nat) (l0 : Nat) (l2 : Int32) (g : G), KD g l0 12 → f_X12_undo_44 n l0 l2 g = some (rx, g') → SemF X m_X12_undo d 44 [(0, .ref (ad X l0)), (2, .int l2)] [] g (some (.int rx)) g' := by
  intro n
  induction n with
  | zero =>
    intro l0 l2 g k_l0 h
    rw [f_X12_undo_44] at h
    cases h
  | succ n ih =>
  intro l0 l2 g k_l0 h
  rw [f_X12_undo_44] at h
  refine SF_iload_n 1 45 dX12_undo_44 rfl rfl rfl ?_
  refine SF_bipush (51 : Int32) 47 dX12_undo_45 rfl rfl ?_
  refine SF_icge 85 50 dX12_undo_47 rfl rfl (fun c1 => ?_) (fun c1 => ?_)
  · have h := ite_t c1 h
    refine SF_aload_n 0 86 dX12_undo_85 rfl rfl rfl ?_
    obtain ⟨b2, r3, h⟩ := dr_some h
    refine SF_getR 89 fl_X12_13 dX12_undo_86 k_l0.1 r3 rfl ?_
    refine SF_bipush (103 : Int32) 91 dX12_undo_89 rfl rfl ?_
    obtain ⟨k4, h⟩ := gdK_some h
    obtain ⟨i5, h⟩ := gdI_some h
    refine SF_iald 92 dX12_undo_91 k4.1 i5 rfl ?_
    exact RT_i rfl dX12_undo_92 h
  · have h := ite_f c1 h
    refine SF_aload_n 0 51 dX12_undo_50 rfl rfl rfl ?_
    obtain ⟨b6, r7, h⟩ := dr_some h
    refine SF_getR 54 fl_X12_13 dX12_undo_51 k_l0.1 r7 rfl ?_
    refine SF_bipush (52 : Int32) 56 dX12_undo_54 rfl rfl ?_
    refine SF_iload_n 1 57 dX12_undo_56 rfl rfl rfl ?_
    refine SF_iadd 58 dX12_undo_57 rfl ?_
    refine SF_aload_n 0 59 dX12_undo_58 rfl rfl rfl ?_
    refine SF_getR 62 fl_X12_13 dX12_undo_59 k_l0.1 r7 rfl ?_
    refine SF_bipush (104 : Int32) 64 dX12_undo_62 rfl rfl ?_
    refine SF_bipush (51 : Int32) 66 dX12_undo_64 rfl rfl ?_
    refine SF_aload_n 0 67 dX12_undo_66 rfl rfl rfl ?_
    refine SF_getR 70 fl_X12_13 dX12_undo_67 k_l0.1 r7 rfl ?_
    refine SF_bipush (103 : Int32) 72 dX12_undo_70 rfl rfl ?_
    obtain ⟨k8, h⟩ := gdK_some h
    obtain ⟨i9, h⟩ := gdI_some h
    refine SF_iald 73 dX12_undo_72 k8.1 i9 rfl ?_
    refine SF_imul 74 dX12_undo_73 rfl ?_
    refine SF_iadd 75 dX12_undo_74 rfl ?_
    refine SF_iload_n 1 76 dX12_undo_75 rfl rfl rfl ?_
    refine SF_iadd 77 dX12_undo_76 rfl ?_
    obtain ⟨i10, h⟩ := gdI_some h
    refine SF_iald 78 dX12_undo_77 k8.1 i10 rfl ?_
    obtain ⟨i11, h⟩ := gdI_some h
    refine SF_iast 79 dX12_undo_78 k8.1 i11 rfl ?_
    obtain ⟨g12, e13, h⟩ := lg_some h
    rw [← e13]
    have k_l0 := KD.eq e13 k_l0
    have k8 := KD.eq e13 k8
    have r7 := gR_eq e13 r7
    have i9 := vp_eq e13 i9
    have i10 := vp_eq e13 i10
    have i11 := vp_eq e13 i11
    refine SF_iinc 1 (l2 + (1 : Int32)) [(2, .int (l2 + (1 : Int32))), (0, .ref (ad X l0))] 82 dX12_undo_79 rfl rfl (by decide) rfl rfl ?_
    refine SF_goto 44 dX12_undo_82 rfl ?_
    refine SF_sub [1, 0] rfl ?_
    exact ih l0 (l2 + (1 : Int32)) g12 k_l0 h

set_option maxRecDepth 20000 in
set_option maxHeartbeats 2000000 in
theorem w_X12_undo {X : CX} {d : Nat} (hd : 1 ≤ d) (l0 : Nat) (l1 : Int32) (g g' : G) (rx : Int32) (k_l0 : KD g l0 12) (h : f_X12_undo l0 l1 g = some (rx, g')) : Sem X m_X12_undo d [.ref (ad X l0), .int l1] g (some (.int rx)) g' := by
  refine Sem_of (lo := [(0, .ref (ad X l0)), (1, .int l1)]) (by decide +kernel) rfl (Nat.le_of_ble_eq_true rfl) ?_
  rw [f_X12_undo] at h
  refine SF_aload_n 0 1 dX12_undo_0 rfl rfl rfl ?_
  refine SF_iconst (0 : Int32) 2 dX12_undo_1 rfl rfl ?_
  refine SF_putI 5 fl_X12_1 dX12_undo_2 k_l0.1 (fn_int _) (Or.inl rfl) rfl ?_
  obtain ⟨g1, e2, h⟩ := lg_some h
  rw [← e2]
  have k_l0 := KD.eq e2 k_l0
  refine SF_iload_n 1 6 dX12_undo_5 rfl rfl rfl ?_
  refine SF_i2l 7 dX12_undo_6 rfl ?_
  refine SF_lconst (1 : Int64) 8 dX12_undo_7 rfl rfl ?_
  refine SF_ldc2 11 dX12_undo_8 kl_X12_297 rfl ?_
  obtain ⟨v3, g4, q5, h⟩ := bd_some h
  have s6 := w_X12_within (X := X) (Nat.le_refl 0) (l1.toInt64) (1 : Int64) (10 : Int64) g1 g4 v3 q5
  refine SF_callSb 14 mi_X12_within ml_X12_139 dX12_undo_11 (Nat.le_trans (by decide) hd) s6 rfl rfl (Nat.le_of_ble_eq_true rfl) rfl ?_
  have k_l0 := k_l0.ext s6.1
  refine SF_ifeq 28 17 dX12_undo_14 rfl rfl (fun c7 => ?_) (fun c7 => ?_)
  · have h := ite_t c7 h
    refine SF_bipush (-3 : Int32) 30 dX12_undo_28 rfl rfl ?_
    exact RT_i rfl dX12_undo_30 h
  · have h := ite_f c7 h
    refine SF_iload_n 1 18 dX12_undo_17 rfl rfl rfl ?_
    refine SF_aload_n 0 19 dX12_undo_18 rfl rfl rfl ?_
    obtain ⟨b8, r9, h⟩ := dr_some h
    refine SF_getR 22 fl_X12_13 dX12_undo_19 k_l0.1 r9 rfl ?_
    refine SF_bipush (103 : Int32) 24 dX12_undo_22 rfl rfl ?_
    obtain ⟨k10, h⟩ := gdK_some h
    obtain ⟨i11, h⟩ := gdI_some h
    refine SF_iald 25 dX12_undo_24 k10.1 i11 rfl ?_
    refine SF_icle 31 28 dX12_undo_25 rfl rfl (fun c12 => ?_) (fun c12 => ?_)
    · have h := ite_t c12 h
      refine SF_aload_n 0 32 dX12_undo_31 rfl rfl rfl ?_
      refine SF_getR 35 fl_X12_13 dX12_undo_32 k_l0.1 r9 rfl ?_
      refine SF_bipush (103 : Int32) 37 dX12_undo_35 rfl rfl ?_
      refine SF_dup2_11 38 dX12_undo_37 rfl rfl rfl ?_
      refine SF_iald 39 dX12_undo_38 k10.1 i11 rfl ?_
      refine SF_iload_n 1 40 dX12_undo_39 rfl rfl rfl ?_
      refine SF_isub 41 dX12_undo_40 rfl ?_
      refine SF_iast 42 dX12_undo_41 k10.1 i11 rfl ?_
      obtain ⟨g13, e14, h⟩ := lg_some h
      rw [← e14]
      have k_l0 := KD.eq e14 k_l0
      have k10 := KD.eq e14 k10
      have r9 := gR_eq e14 r9
      have i11 := vp_eq e14 i11
      refine SF_iconst (0 : Int32) 43 dX12_undo_42 rfl rfl ?_
      refine SF_istore_n [(2, .int (0 : Int32)), (0, .ref (ad X l0)), (1, .int l1)] 44 dX12_undo_43 rfl (by decide) rfl rfl ?_
      refine SF_sub [1, 0] rfl ?_
      exact w_X12_undo_44 hd FU l0 (0 : Int32) g13 k_l0 h
    · have h := ite_f c12 h
      refine SF_bipush (-3 : Int32) 30 dX12_undo_28 rfl rfl ?_
      exact RT_i rfl dX12_undo_30 h

theorem dX11_isTray_0 : decode cX11_isTray 0 = .ok (.iload_n 0, 1) := by decide +kernel
theorem dX11_isTray_1 : decode cX11_isTray 1 = .ok (.ifCond .lt 12, 3) := by decide +kernel
theorem dX11_isTray_4 : decode cX11_isTray 4 = .ok (.iload_n 0, 1) := by decide +kernel
theorem dX11_isTray_5 : decode cX11_isTray 5 = .ok (.iconst 4, 1) := by decide +kernel
theorem dX11_isTray_6 : decode cX11_isTray 6 = .ok (.if_icmp .ge 7, 3) := by decide +kernel
theorem dX11_isTray_9 : decode cX11_isTray 9 = .ok (.iconst 1, 1) := by decide +kernel
theorem dX11_isTray_10 : decode cX11_isTray 10 = .ok (.goto 4, 3) := by decide +kernel
theorem dX11_isTray_13 : decode cX11_isTray 13 = .ok (.iconst 0, 1) := by decide +kernel
theorem dX11_isTray_14 : decode cX11_isTray 14 = .ok (.ireturn, 1) := by decide +kernel
set_option maxRecDepth 20000 in
set_option maxHeartbeats 2000000 in
theorem w_X11_isTray {X : CX} {d : Nat} (hd : 0 ≤ d) (l0 : Int32) (g g' : G) (rx : Bool) (h : f_X11_isTray l0 g = some (rx, g')) : Sem X m_X11_isTray d [.int l0] g (some (.int (b2i rx))) g' := by
  refine Sem_of (lo := [(0, .int l0)]) (by decide +kernel) rfl (Nat.le_of_ble_eq_true rfl) ?_
  rw [f_X11_isTray] at h
  refine SF_iload_n 0 1 dX11_isTray_0 rfl rfl rfl ?_
  refine SF_iflt 13 4 dX11_isTray_1 rfl rfl (fun c1 => ?_) (fun c1 => ?_)
  · have h := ite_t c1 h
    refine SF_iconst (0 : Int32) 14 dX11_isTray_13 rfl rfl ?_
    exact RT_b rfl rfl dX11_isTray_14 h
  · have h := ite_f c1 h
    refine SF_iload_n 0 5 dX11_isTray_4 rfl rfl rfl ?_
    refine SF_iconst (4 : Int32) 6 dX11_isTray_5 rfl rfl ?_
    refine SF_icge 13 9 dX11_isTray_6 rfl rfl (fun c2 => ?_) (fun c2 => ?_)
    · have h := ite_t c2 h
      refine SF_iconst (0 : Int32) 14 dX11_isTray_13 rfl rfl ?_
      exact RT_b rfl rfl dX11_isTray_14 h
    · have h := ite_f c2 h
      refine SF_iconst (1 : Int32) 10 dX11_isTray_9 rfl rfl ?_
      refine SF_goto 14 dX11_isTray_10 rfl ?_
      exact RT_b rfl rfl dX11_isTray_14 h

theorem dX10_isMissing_0 : decode cX10_isMissing 0 = .ok (.aload_n 0, 1) := by decide +kernel
theorem dX10_isMissing_1 : decode cX10_isMissing 1 = .ok (.getfield 9, 3) := by decide +kernel
theorem dX10_isMissing_4 : decode cX10_isMissing 4 = .ok (.iconst (-1), 1) := by decide +kernel
theorem dX10_isMissing_5 : decode cX10_isMissing 5 = .ok (.if_icmp .ne 7, 3) := by decide +kernel
theorem dX10_isMissing_8 : decode cX10_isMissing 8 = .ok (.iconst 1, 1) := by decide +kernel
theorem dX10_isMissing_9 : decode cX10_isMissing 9 = .ok (.goto 4, 3) := by decide +kernel
theorem dX10_isMissing_12 : decode cX10_isMissing 12 = .ok (.iconst 0, 1) := by decide +kernel
theorem dX10_isMissing_13 : decode cX10_isMissing 13 = .ok (.ireturn, 1) := by decide +kernel
set_option maxRecDepth 20000 in
set_option maxHeartbeats 2000000 in
theorem w_X10_isMissing {X : CX} {d : Nat} (hd : 0 ≤ d) (l0 : Nat) (g g' : G) (rx : Bool) (k_l0 : KD g l0 10) (h : f_X10_isMissing l0 g = some (rx, g')) : Sem X m_X10_isMissing d [.ref (ad X l0)] g (some (.int (b2i rx))) g' := by
  refine Sem_of (lo := [(0, .ref (ad X l0))]) (by decide +kernel) rfl (Nat.le_of_ble_eq_true rfl) ?_
  rw [f_X10_isMissing] at h
  refine SF_aload_n 0 1 dX10_isMissing_0 rfl rfl rfl ?_
  refine SF_getI 4 fl_X10_9 dX10_isMissing_1 k_l0.1 rfl ?_
  refine SF_iconst (-1 : Int32) 5 dX10_isMissing_4 rfl rfl ?_
  refine SF_icne 12 8 dX10_isMissing_5 rfl rfl (fun c1 => ?_) (fun c1 => ?_)
  · have h := ite_f c1 h
    refine SF_iconst (0 : Int32) 13 dX10_isMissing_12 rfl rfl ?_
    exact RT_b rfl rfl dX10_isMissing_13 h
  · have h := ite_t c1 h
    refine SF_iconst (1 : Int32) 9 dX10_isMissing_8 rfl rfl ?_
    refine SF_goto 13 dX10_isMissing_9 rfl ?_
    exact RT_b rfl rfl dX10_isMissing_13 h

theorem dX10_at_0 : decode cX10_at 0 = .ok (.iload_n 1, 1) := by decide +kernel
theorem dX10_at_1 : decode cX10_at 1 = .ok (.ifCond .lt 18, 3) := by decide +kernel
theorem dX10_at_4 : decode cX10_at 4 = .ok (.iload_n 1, 1) := by decide +kernel
theorem dX10_at_5 : decode cX10_at 5 = .ok (.bipush 40, 2) := by decide +kernel
theorem dX10_at_7 : decode cX10_at 7 = .ok (.if_icmp .ge 12, 3) := by decide +kernel
theorem dX10_at_10 : decode cX10_at 10 = .ok (.aload_n 0, 1) := by decide +kernel
theorem dX10_at_11 : decode cX10_at 11 = .ok (.getfield 15, 3) := by decide +kernel
theorem dX10_at_14 : decode cX10_at 14 = .ok (.iload_n 1, 1) := by decide +kernel
theorem dX10_at_15 : decode cX10_at 15 = .ok (.laload, 1) := by decide +kernel
theorem dX10_at_16 : decode cX10_at 16 = .ok (.goto 4, 3) := by decide +kernel
theorem dX10_at_19 : decode cX10_at 19 = .ok (.lconst 0, 1) := by decide +kernel
theorem dX10_at_20 : decode cX10_at 20 = .ok (.lreturn, 1) := by decide +kernel
set_option maxRecDepth 20000 in
set_option maxHeartbeats 2000000 in
theorem w_X10_at {X : CX} {d : Nat} (hd : 0 ≤ d) (l0 : Nat) (l1 : Int32) (g g' : G) (rx : Int64) (k_l0 : KD g l0 10) (h : f_X10_at l0 l1 g = some (rx, g')) : Sem X m_X10_at d [.ref (ad X l0), .int l1] g (some (.long rx)) g' := by
  refine Sem_of (lo := [(0, .ref (ad X l0)), (1, .int l1)]) (by decide +kernel) rfl (Nat.le_of_ble_eq_true rfl) ?_
  rw [f_X10_at] at h
  refine SF_iload_n 1 1 dX10_at_0 rfl rfl rfl ?_
  refine SF_iflt 19 4 dX10_at_1 rfl rfl (fun c1 => ?_) (fun c1 => ?_)
  · have h := ite_t c1 h
    refine SF_lconst (0 : Int64) 20 dX10_at_19 rfl rfl ?_
    exact RT_l rfl dX10_at_20 h
  · have h := ite_f c1 h
    refine SF_iload_n 1 5 dX10_at_4 rfl rfl rfl ?_
    refine SF_bipush (40 : Int32) 7 dX10_at_5 rfl rfl ?_
    refine SF_icge 19 10 dX10_at_7 rfl rfl (fun c2 => ?_) (fun c2 => ?_)
    · have h := ite_t c2 h
      refine SF_lconst (0 : Int64) 20 dX10_at_19 rfl rfl ?_
      exact RT_l rfl dX10_at_20 h
    · have h := ite_f c2 h
      refine SF_aload_n 0 11 dX10_at_10 rfl rfl rfl ?_
      obtain ⟨b3, r4, h⟩ := dr_some h
      refine SF_getR 14 fl_X10_15 dX10_at_11 k_l0.1 r4 rfl ?_
      refine SF_iload_n 1 15 dX10_at_14 rfl rfl rfl ?_
      obtain ⟨k5, h⟩ := gdK_some h
      obtain ⟨i6, h⟩ := gdI_some h
      refine SF_lald 16 dX10_at_15 k5.1 i6 rfl ?_
      refine SF_goto 20 dX10_at_16 rfl ?_
      exact RT_l rfl dX10_at_20 h

theorem dX0_act_0 : decode cX0_act 0 = .ok (.lload_n 2, 1) := by decide +kernel
theorem dX0_act_1 : decode cX0_act 1 = .ok (.lconst 0, 1) := by decide +kernel
theorem dX0_act_2 : decode cX0_act 2 = .ok (.lcmp, 1) := by decide +kernel
theorem dX0_act_3 : decode cX0_act 3 = .ok (.ifCond .lt 104, 3) := by decide +kernel
theorem dX0_act_6 : decode cX0_act 6 = .ok (.lload_n 2, 1) := by decide +kernel
theorem dX0_act_7 : decode cX0_act 7 = .ok (.ldc2_w 110, 3) := by decide +kernel
theorem dX0_act_10 : decode cX0_act 10 = .ok (.lcmp, 1) := by decide +kernel
theorem dX0_act_11 : decode cX0_act 11 = .ok (.ifCond .gt 96, 3) := by decide +kernel
theorem dX0_act_14 : decode cX0_act 14 = .ok (.lload_n 2, 1) := by decide +kernel
theorem dX0_act_15 : decode cX0_act 15 = .ok (.l2i, 1) := by decide +kernel
theorem dX0_act_16 : decode cX0_act 16 = .ok (.istore 4, 2) := by decide +kernel
theorem dX0_act_18 : decode cX0_act 18 = .ok (.iload 4, 2) := by decide +kernel
theorem dX0_act_20 : decode cX0_act 20 = .ok (.bipush 100, 2) := by decide +kernel
theorem dX0_act_22 : decode cX0_act 22 = .ok (.idiv, 1) := by decide +kernel
theorem dX0_act_23 : decode cX0_act 23 = .ok (.istore 5, 2) := by decide +kernel
theorem dX0_act_25 : decode cX0_act 25 = .ok (.aload_n 0, 1) := by decide +kernel
theorem dX0_act_26 : decode cX0_act 26 = .ok (.aload_n 1, 1) := by decide +kernel
theorem dX0_act_27 : decode cX0_act 27 = .ok (.iload 5, 2) := by decide +kernel
theorem dX0_act_29 : decode cX0_act 29 = .ok (.iload 4, 2) := by decide +kernel
theorem dX0_act_31 : decode cX0_act 31 = .ok (.bipush 10, 2) := by decide +kernel
theorem dX0_act_33 : decode cX0_act 33 = .ok (.idiv, 1) := by decide +kernel
theorem dX0_act_34 : decode cX0_act 34 = .ok (.bipush 10, 2) := by decide +kernel
theorem dX0_act_36 : decode cX0_act 36 = .ok (.irem, 1) := by decide +kernel
theorem dX0_act_37 : decode cX0_act 37 = .ok (.iload 4, 2) := by decide +kernel
theorem dX0_act_39 : decode cX0_act 39 = .ok (.bipush 10, 2) := by decide +kernel
theorem dX0_act_41 : decode cX0_act 41 = .ok (.irem, 1) := by decide +kernel
theorem dX0_act_42 : decode cX0_act 42 = .ok (.invokevirtual 112, 3) := by decide +kernel
theorem dX0_act_45 : decode cX0_act 45 = .ok (.istore 6, 2) := by decide +kernel
theorem dX0_act_47 : decode cX0_act 47 = .ok (.iload 6, 2) := by decide +kernel
theorem dX0_act_49 : decode cX0_act 49 = .ok (.ifCond .ge 6, 3) := by decide +kernel
theorem dX0_act_52 : decode cX0_act 52 = .ok (.iload 6, 2) := by decide +kernel
theorem dX0_act_54 : decode cX0_act 54 = .ok (.ireturn, 1) := by decide +kernel
theorem dX0_act_55 : decode cX0_act 55 = .ok (.aload_n 0, 1) := by decide +kernel
theorem dX0_act_56 : decode cX0_act 56 = .ok (.iload 5, 2) := by decide +kernel
theorem dX0_act_58 : decode cX0_act 58 = .ok (.invokevirtual 78, 3) := by decide +kernel
theorem dX0_act_61 : decode cX0_act 61 = .ok (.istore 7, 2) := by decide +kernel
theorem dX0_act_63 : decode cX0_act 63 = .ok (.aload_n 0, 1) := by decide +kernel
theorem dX0_act_64 : decode cX0_act 64 = .ok (.iload 5, 2) := by decide +kernel
theorem dX0_act_66 : decode cX0_act 66 = .ok (.iload 6, 2) := by decide +kernel
theorem dX0_act_68 : decode cX0_act 68 = .ok (.invokevirtual 106, 3) := by decide +kernel
theorem dX0_act_71 : decode cX0_act 71 = .ok (.aload_n 0, 1) := by decide +kernel
theorem dX0_act_72 : decode cX0_act 72 = .ok (.getfield 24, 3) := by decide +kernel
theorem dX0_act_75 : decode cX0_act 75 = .ok (.iload 7, 2) := by decide +kernel
theorem dX0_act_77 : decode cX0_act 77 = .ok (.bipush 64, 2) := by decide +kernel
theorem dX0_act_79 : decode cX0_act 79 = .ok (.idiv, 1) := by decide +kernel
theorem dX0_act_80 : decode cX0_act 80 = .ok (.iload 6, 2) := by decide +kernel
theorem dX0_act_82 : decode cX0_act 82 = .ok (.bipush 64, 2) := by decide +kernel
theorem dX0_act_84 : decode cX0_act 84 = .ok (.idiv, 1) := by decide +kernel
theorem dX0_act_85 : decode cX0_act 85 = .ok (.invokevirtual 102, 3) := by decide +kernel
theorem dX0_act_88 : decode cX0_act 88 = .ok (.aload_n 0, 1) := by decide +kernel
theorem dX0_act_89 : decode cX0_act 89 = .ok (.getfield 24, 3) := by decide +kernel
theorem dX0_act_92 : decode cX0_act 92 = .ok (.iload 7, 2) := by decide +kernel
theorem dX0_act_94 : decode cX0_act 94 = .ok (.bipush 64, 2) := by decide +kernel
theorem dX0_act_96 : decode cX0_act 96 = .ok (.irem, 1) := by decide +kernel
theorem dX0_act_97 : decode cX0_act 97 = .ok (.iload 6, 2) := by decide +kernel
theorem dX0_act_99 : decode cX0_act 99 = .ok (.bipush 64, 2) := by decide +kernel
theorem dX0_act_101 : decode cX0_act 101 = .ok (.irem, 1) := by decide +kernel
theorem dX0_act_102 : decode cX0_act 102 = .ok (.invokevirtual 102, 3) := by decide +kernel
theorem dX0_act_105 : decode cX0_act 105 = .ok (.iadd, 1) := by decide +kernel
theorem dX0_act_106 : decode cX0_act 106 = .ok (.ireturn, 1) := by decide +kernel
theorem dX0_act_107 : decode cX0_act 107 = .ok (.iconst (-1), 1) := by decide +kernel
theorem dX0_act_108 : decode cX0_act 108 = .ok (.istore 4, 2) := by decide +kernel
theorem dX0_act_110 : decode cX0_act 110 = .ok (.lload_n 2, 1) := by decide +kernel
theorem dX0_act_111 : decode cX0_act 111 = .ok (.ldc2_w 116, 3) := by decide +kernel
theorem dX0_act_114 : decode cX0_act 114 = .ok (.lcmp, 1) := by decide +kernel
theorem dX0_act_115 : decode cX0_act 115 = .ok (.ifCond .lt 26, 3) := by decide +kernel
theorem dX0_act_118 : decode cX0_act 118 = .ok (.lload_n 2, 1) := by decide +kernel
theorem dX0_act_119 : decode cX0_act 119 = .ok (.ldc2_w 118, 3) := by decide +kernel
theorem dX0_act_122 : decode cX0_act 122 = .ok (.lcmp, 1) := by decide +kernel
theorem dX0_act_123 : decode cX0_act 123 = .ok (.ifCond .gt 18, 3) := by decide +kernel
theorem dX0_act_126 : decode cX0_act 126 = .ok (.aload_n 0, 1) := by decide +kernel
theorem dX0_act_127 : decode cX0_act 127 = .ok (.lload_n 2, 1) := by decide +kernel
theorem dX0_act_128 : decode cX0_act 128 = .ok (.l2i, 1) := by decide +kernel
theorem dX0_act_129 : decode cX0_act 129 = .ok (.sipush 1000, 3) := by decide +kernel
theorem dX0_act_132 : decode cX0_act 132 = .ok (.isub, 1) := by decide +kernel
theorem dX0_act_133 : decode cX0_act 133 = .ok (.invokevirtual 120, 3) := by decide +kernel
theorem dX0_act_136 : decode cX0_act 136 = .ok (.istore 4, 2) := by decide +kernel
theorem dX0_act_138 : decode cX0_act 138 = .ok (.goto 39, 3) := by decide +kernel
theorem dX0_act_141 : decode cX0_act 141 = .ok (.lload_n 2, 1) := by decide +kernel
theorem dX0_act_142 : decode cX0_act 142 = .ok (.ldc2_w 123, 3) := by decide +kernel
theorem dX0_act_145 : decode cX0_act 145 = .ok (.lcmp, 1) := by decide +kernel
theorem dX0_act_146 : decode cX0_act 146 = .ok (.ifCond .lt 31, 3) := by decide +kernel
theorem dX0_act_149 : decode cX0_act 149 = .ok (.lload_n 2, 1) := by decide +kernel
theorem dX0_act_150 : decode cX0_act 150 = .ok (.ldc2_w 125, 3) := by decide +kernel
theorem dX0_act_153 : decode cX0_act 153 = .ok (.lcmp, 1) := by decide +kernel
theorem dX0_act_154 : decode cX0_act 154 = .ok (.ifCond .gt 23, 3) := by decide +kernel
theorem dX0_act_157 : decode cX0_act 157 = .ok (.aload_n 0, 1) := by decide +kernel
theorem dX0_act_158 : decode cX0_act 158 = .ok (.lload_n 2, 1) := by decide +kernel
theorem dX0_act_159 : decode cX0_act 159 = .ok (.l2i, 1) := by decide +kernel
theorem dX0_act_160 : decode cX0_act 160 = .ok (.sipush 2000, 3) := by decide +kernel
theorem dX0_act_163 : decode cX0_act 163 = .ok (.isub, 1) := by decide +kernel
theorem dX0_act_164 : decode cX0_act 164 = .ok (.bipush 10, 2) := by decide +kernel
theorem dX0_act_166 : decode cX0_act 166 = .ok (.idiv, 1) := by decide +kernel
theorem dX0_act_167 : decode cX0_act 167 = .ok (.lload_n 2, 1) := by decide +kernel
theorem dX0_act_168 : decode cX0_act 168 = .ok (.l2i, 1) := by decide +kernel
theorem dX0_act_169 : decode cX0_act 169 = .ok (.bipush 10, 2) := by decide +kernel
theorem dX0_act_171 : decode cX0_act 171 = .ok (.irem, 1) := by decide +kernel
theorem dX0_act_172 : decode cX0_act 172 = .ok (.invokevirtual 127, 3) := by decide +kernel
theorem dX0_act_175 : decode cX0_act 175 = .ok (.istore 4, 2) := by decide +kernel
theorem dX0_act_177 : decode cX0_act 177 = .ok (.iload 4, 2) := by decide +kernel
theorem dX0_act_179 : decode cX0_act 179 = .ok (.iconst 0, 1) := by decide +kernel
theorem dX0_act_180 : decode cX0_act 180 = .ok (.invokestatic 130, 3) := by decide +kernel
theorem dX0_act_183 : decode cX0_act 183 = .ok (.ireturn, 1) := by decide +kernel
set_option maxRecDepth 20000 in
set_option maxHeartbeats 2000000 in
theorem w_X0_act_177 {X : CX} {d : Nat} (hd : 6 ≤ d) {g' : G} {rx : Int32} (l4 : Int32) (g : G) (h : f_X0_act_177 l4 g = some (rx, g')) : SemF X m_X0_act d 177 [(4, .int l4)] [] g (some (.int rx)) g' := by
  rw [f_X0_act_177] at h
  refine SF_iload 0 179 dX0_act_177 rfl rfl ?_
  refine SF_iconst (0 : Int32) 180 dX0_act_179 rfl rfl ?_
  obtain ⟨v1, g2, q3, h⟩ := bd_some h
  have s4 := w_J9_min_7cf53 (X := X) (Nat.le_refl 0) l4 (0 : Int32) g g2 v1 q3
  refine SF_callSi 183 mi_J9_min_7cf53 ml_X0_130 dX0_act_180 (Nat.le_trans (by decide) hd) s4 rfl rfl (Nat.le_of_ble_eq_true rfl) rfl ?_
  exact RT_i rfl dX0_act_183 h

set_option maxRecDepth 20000 in
set_option maxHeartbeats 2000000 in
theorem w_X0_act_141 {X : CX} {d : Nat} (hd : 6 ≤ d) {g' : G} {rx : Int32} (l0 : Nat) (l2 : Int64) (l4 : Int32) (g : G) (k_l0 : KD g l0 0) (h : f_X0_act_141 l0 l2 l4 g = some (rx, g')) : SemF X m_X0_act d 141 [(0, .ref (ad X l0)), (2, .long l2), (4, .int l4)] [] g (some (.int rx)) g' := by
  rw [f_X0_act_141] at h
  refine SF_lload_n 1 142 dX0_act_141 rfl rfl rfl ?_
  refine SF_ldc2 145 dX0_act_142 kl_X0_123 rfl ?_
  refine SF_lcmp 146 dX0_act_145 rfl ?_
  refine SF_iflt 177 149 dX0_act_146 rfl rfl (fun c1 => ?_) (fun c1 => ?_)
  · have h := ite_t c1 h
    refine SF_sub [2] rfl ?_
    exact w_X0_act_177 hd l4 g  h
  · have h := ite_f c1 h
    refine SF_lload_n 1 150 dX0_act_149 rfl rfl rfl ?_
    refine SF_ldc2 153 dX0_act_150 kl_X0_125 rfl ?_
    refine SF_lcmp 154 dX0_act_153 rfl ?_
    refine SF_ifgt 177 157 dX0_act_154 rfl rfl (fun c2 => ?_) (fun c2 => ?_)
    · have h := ite_t c2 h
      refine SF_sub [2] rfl ?_
      exact w_X0_act_177 hd l4 g  h
    · have h := ite_f c2 h
      refine SF_aload_n 0 158 dX0_act_157 rfl rfl rfl ?_
      refine SF_lload_n 1 159 dX0_act_158 rfl rfl rfl ?_
      refine SF_l2i 160 dX0_act_159 rfl ?_
      refine SF_sipush (2000 : Int32) 163 dX0_act_160 rfl rfl ?_
      refine SF_isub 164 dX0_act_163 rfl ?_
      refine SF_bipush (10 : Int32) 166 dX0_act_164 rfl rfl ?_
      refine SF_idiv 167 dX0_act_166 (by decide) rfl ?_
      refine SF_lload_n 1 168 dX0_act_167 rfl rfl rfl ?_
      refine SF_l2i 169 dX0_act_168 rfl ?_
      refine SF_bipush (10 : Int32) 171 dX0_act_169 rfl rfl ?_
      refine SF_irem 172 dX0_act_171 (by decide) rfl ?_
      obtain ⟨v3, g4, q5, h⟩ := bd_some h
      have s6 := w_X0_feel (X := X) (Nat.le_refl 1) l0 (((l2.toInt32) - (2000 : Int32)) / (10 : Int32)) ((l2.toInt32) - (l2.toInt32) / (10 : Int32) * (10 : Int32)) g g4 v3 k_l0 q5
      refine SF_callVi 175 mi_X0_feel ml_X0_127 dX0_act_172 (Nat.le_trans (by decide) hd) s6 k_l0.1 rfl rfl (Nat.le_of_ble_eq_true rfl) rfl ?_
      have k_l0 := k_l0.ext s6.1
      refine SF_istore [(4, .int v3), (0, .ref (ad X l0)), (2, .long l2)] 177 dX0_act_175 (by decide) rfl rfl ?_
      refine SF_sub [0] rfl ?_
      exact w_X0_act_177 hd v3 g4  h

set_option maxRecDepth 20000 in
set_option maxHeartbeats 2000000 in
theorem w_X0_act_107 {X : CX} {d : Nat} (hd : 6 ≤ d) {g' : G} {rx : Int32} (l0 : Nat) (l2 : Int64) (g : G) (k_l0 : KD g l0 0) (h : f_X0_act_107 l0 l2 g = some (rx, g')) : SemF X m_X0_act d 107 [(0, .ref (ad X l0)), (2, .long l2)] [] g (some (.int rx)) g' := by
  rw [f_X0_act_107] at h
  refine SF_iconst (-1 : Int32) 108 dX0_act_107 rfl rfl ?_
  refine SF_istore [(4, .int (-1 : Int32)), (0, .ref (ad X l0)), (2, .long l2)] 110 dX0_act_108 (by decide) rfl rfl ?_
  refine SF_lload_n 2 111 dX0_act_110 rfl rfl rfl ?_
  refine SF_ldc2 114 dX0_act_111 kl_X0_116 rfl ?_
  refine SF_lcmp 115 dX0_act_114 rfl ?_
  refine SF_iflt 141 118 dX0_act_115 rfl rfl (fun c1 => ?_) (fun c1 => ?_)
  · have h := ite_t c1 h
    refine SF_sub [1, 2, 0] rfl ?_
    exact w_X0_act_141 hd l0 l2 (-1 : Int32) g k_l0 h
  · have h := ite_f c1 h
    refine SF_lload_n 2 119 dX0_act_118 rfl rfl rfl ?_
    refine SF_ldc2 122 dX0_act_119 kl_X0_118 rfl ?_
    refine SF_lcmp 123 dX0_act_122 rfl ?_
    refine SF_ifgt 141 126 dX0_act_123 rfl rfl (fun c2 => ?_) (fun c2 => ?_)
    · have h := ite_t c2 h
      refine SF_sub [1, 2, 0] rfl ?_
      exact w_X0_act_141 hd l0 l2 (-1 : Int32) g k_l0 h
    · have h := ite_f c2 h
      refine SF_aload_n 1 127 dX0_act_126 rfl rfl rfl ?_
      refine SF_lload_n 2 128 dX0_act_127 rfl rfl rfl ?_
      refine SF_l2i 129 dX0_act_128 rfl ?_
      refine SF_sipush (1000 : Int32) 132 dX0_act_129 rfl rfl ?_
      refine SF_isub 133 dX0_act_132 rfl ?_
      obtain ⟨v3, g4, q5, h⟩ := bd_some h
      have s6 := w_X0_turnWall (X := X) (Nat.le_refl 2) l0 ((l2.toInt32) - (1000 : Int32)) g g4 v3 k_l0 q5
      refine SF_callVi 136 mi_X0_turnWall ml_X0_120 dX0_act_133 (Nat.le_trans (by decide) hd) s6 k_l0.1 rfl rfl (Nat.le_of_ble_eq_true rfl) rfl ?_
      have k_l0 := k_l0.ext s6.1
      refine SF_istore [(4, .int v3), (0, .ref (ad X l0)), (2, .long l2)] 138 dX0_act_136 (by decide) rfl rfl ?_
      refine SF_goto 177 dX0_act_138 rfl ?_
      refine SF_sub [0] rfl ?_
      exact w_X0_act_177 hd v3 g4  h

set_option maxRecDepth 20000 in
set_option maxHeartbeats 2000000 in
theorem w_X0_act {X : CX} {d : Nat} (hd : 6 ≤ d) (l0 : Nat) (l1 : Nat) (l2 : Int64) (g g' : G) (rx : Int32) (k_l0 : KD g l0 0) (k_l1 : KD g l1 9) (h : f_X0_act l0 l1 l2 g = some (rx, g')) : Sem X m_X0_act d [.ref (ad X l0), .ref (ad X l1), .long l2] g (some (.int rx)) g' := by
  refine Sem_of (lo := [(0, .ref (ad X l0)), (1, .ref (ad X l1)), (2, .long l2)]) (by decide +kernel) rfl (Nat.le_of_ble_eq_true rfl) ?_
  rw [f_X0_act] at h
  refine SF_lload_n 2 1 dX0_act_0 rfl rfl rfl ?_
  refine SF_lconst (0 : Int64) 2 dX0_act_1 rfl rfl ?_
  refine SF_lcmp 3 dX0_act_2 rfl ?_
  refine SF_iflt 107 6 dX0_act_3 rfl rfl (fun c1 => ?_) (fun c1 => ?_)
  · have h := ite_t c1 h
    refine SF_sub [0, 2] rfl ?_
    exact w_X0_act_107 hd l0 l2 g k_l0 h
  · have h := ite_f c1 h
    refine SF_lload_n 2 7 dX0_act_6 rfl rfl rfl ?_
    refine SF_ldc2 10 dX0_act_7 kl_X0_110 rfl ?_
    refine SF_lcmp 11 dX0_act_10 rfl ?_
    refine SF_ifgt 107 14 dX0_act_11 rfl rfl (fun c2 => ?_) (fun c2 => ?_)
    · have h := ite_t c2 h
      refine SF_sub [0, 2] rfl ?_
      exact w_X0_act_107 hd l0 l2 g k_l0 h
    · have h := ite_f c2 h
      refine SF_lload_n 2 15 dX0_act_14 rfl rfl rfl ?_
      refine SF_l2i 16 dX0_act_15 rfl ?_
      obtain ⟨y3, e4, h⟩ := li_some h
      refine SF_eqI e4 ?_
      refine SF_istore [(4, .int y3), (0, .ref (ad X l0)), (1, .ref (ad X l1)), (2, .long l2)] 18 dX0_act_16 (by decide) rfl rfl ?_
      refine SF_iload 0 20 dX0_act_18 rfl rfl ?_
      refine SF_bipush (100 : Int32) 22 dX0_act_20 rfl rfl ?_
      refine SF_idiv 23 dX0_act_22 (by decide) rfl ?_
      obtain ⟨y5, e6, h⟩ := li_some h
      refine SF_eqI e6 ?_
      refine SF_istore [(5, .int y5), (4, .int y3), (0, .ref (ad X l0)), (1, .ref (ad X l1)), (2, .long l2)] 25 dX0_act_23 (by decide) rfl rfl ?_
      refine SF_aload_n 2 26 dX0_act_25 rfl rfl rfl ?_
      refine SF_aload_n 3 27 dX0_act_26 rfl rfl rfl ?_
      refine SF_iload 0 29 dX0_act_27 rfl rfl ?_
      refine SF_iload 1 31 dX0_act_29 rfl rfl ?_
      refine SF_bipush (10 : Int32) 33 dX0_act_31 rfl rfl ?_
      refine SF_idiv 34 dX0_act_33 (by decide) rfl ?_
      refine SF_bipush (10 : Int32) 36 dX0_act_34 rfl rfl ?_
      refine SF_irem 37 dX0_act_36 (by decide) rfl ?_
      refine SF_iload 1 39 dX0_act_37 rfl rfl ?_
      refine SF_bipush (10 : Int32) 41 dX0_act_39 rfl rfl ?_
      refine SF_irem 42 dX0_act_41 (by decide) rfl ?_
      obtain ⟨v7, g8, q9, h⟩ := bd_some h
      have s10 := w_X0_wouldBe (X := X) (Nat.le_refl 5) l0 l1 y5 ((y3 / (10 : Int32)) - (y3 / (10 : Int32)) / (10 : Int32) * (10 : Int32)) (y3 - y3 / (10 : Int32) * (10 : Int32)) g g8 v7 k_l0 k_l1 q9
      refine SF_callVi 45 mi_X0_wouldBe ml_X0_112 dX0_act_42 (Nat.le_trans (by decide) hd) s10 k_l0.1 rfl rfl (Nat.le_of_ble_eq_true rfl) rfl ?_
      have k_l0 := k_l0.ext s10.1
      have k_l1 := k_l1.ext s10.1
      refine SF_istore [(6, .int v7), (5, .int y5), (4, .int y3), (0, .ref (ad X l0)), (1, .ref (ad X l1)), (2, .long l2)] 47 dX0_act_45 (by decide) rfl rfl ?_
      refine SF_iload 0 49 dX0_act_47 rfl rfl ?_
      refine SF_ifge 55 52 dX0_act_49 rfl rfl (fun c11 => ?_) (fun c11 => ?_)
      · have h := ite_t c11 h
        refine SF_aload_n 3 56 dX0_act_55 rfl rfl rfl ?_
        refine SF_iload 1 58 dX0_act_56 rfl rfl ?_
        obtain ⟨v12, g13, q14, h⟩ := bd_some h
        have s15 := w_X0_standOf (X := X) (Nat.le_refl 1) l0 y5 g8 g13 v12 k_l0 q14
        refine SF_callVi 61 mi_X0_standOf ml_X0_78 dX0_act_58 (Nat.le_trans (by decide) hd) s15 k_l0.1 rfl rfl (Nat.le_of_ble_eq_true rfl) rfl ?_
        have k_l0 := k_l0.ext s15.1
        have k_l1 := k_l1.ext s15.1
        refine SF_istore [(7, .int v12), (6, .int v7), (5, .int y5), (4, .int y3), (0, .ref (ad X l0)), (1, .ref (ad X l1)), (2, .long l2)] 63 dX0_act_61 (by decide) rfl rfl ?_
        refine SF_aload_n 4 64 dX0_act_63 rfl rfl rfl ?_
        refine SF_iload 2 66 dX0_act_64 rfl rfl ?_
        refine SF_iload 1 68 dX0_act_66 rfl rfl ?_
        obtain ⟨v16, g17, q18, h⟩ := bd_some h
        have s19 := w_X0_go (X := X) (Nat.le_refl 2) l0 y5 v7 g13 g17 v16 k_l0 q18
        refine SF_callVv 71 mi_X0_go ml_X0_106 dX0_act_68 (Nat.le_trans (by decide) hd) s19 k_l0.1 rfl rfl (Nat.le_of_ble_eq_true rfl) rfl ?_
        have k_l0 := k_l0.ext s19.1
        have k_l1 := k_l1.ext s19.1
        refine SF_aload_n 4 72 dX0_act_71 rfl rfl rfl ?_
        obtain ⟨b20, r21, h⟩ := dr_some h
        refine SF_getR 75 fl_X0_24 dX0_act_72 k_l0.1 r21 rfl ?_
        refine SF_iload 0 77 dX0_act_75 rfl rfl ?_
        refine SF_bipush (64 : Int32) 79 dX0_act_77 rfl rfl ?_
        refine SF_idiv 80 dX0_act_79 (by decide) rfl ?_
        refine SF_iload 1 82 dX0_act_80 rfl rfl ?_
        refine SF_bipush (64 : Int32) 84 dX0_act_82 rfl rfl ?_
        refine SF_idiv 85 dX0_act_84 (by decide) rfl ?_
        obtain ⟨k22, h⟩ := gdK_some h
        obtain ⟨v23, g24, q25, h⟩ := bd_some h
        have s26 := w_X7_apart (X := X) (Nat.le_refl 1) b20 (v12 / (64 : Int32)) (v7 / (64 : Int32)) g17 g24 v23 k22 q25
        refine SF_callVi 88 mi_X7_apart ml_X0_102 dX0_act_85 (Nat.le_trans (by decide) hd) s26 k22.1 rfl rfl (Nat.le_of_ble_eq_true rfl) rfl ?_
        have k_l0 := k_l0.ext s26.1
        have k_l1 := k_l1.ext s26.1
        have k22 := k22.ext s26.1
        refine SF_aload_n 4 89 dX0_act_88 rfl rfl rfl ?_
        obtain ⟨b27, r28, h⟩ := dr_some h
        refine SF_getR 92 fl_X0_24 dX0_act_89 k_l0.1 r28 rfl ?_
        refine SF_iload 0 94 dX0_act_92 rfl rfl ?_
        refine SF_bipush (64 : Int32) 96 dX0_act_94 rfl rfl ?_
        refine SF_irem 97 dX0_act_96 (by decide) rfl ?_
        refine SF_iload 1 99 dX0_act_97 rfl rfl ?_
        refine SF_bipush (64 : Int32) 101 dX0_act_99 rfl rfl ?_
        refine SF_irem 102 dX0_act_101 (by decide) rfl ?_
        obtain ⟨k29, h⟩ := gdK_some h
        obtain ⟨v30, g31, q32, h⟩ := bd_some h
        have s33 := w_X7_apart (X := X) (Nat.le_refl 1) b27 (v12 - v12 / (64 : Int32) * (64 : Int32)) (v7 - v7 / (64 : Int32) * (64 : Int32)) g24 g31 v30 k29 q32
        refine SF_callVi 105 mi_X7_apart ml_X0_102 dX0_act_102 (Nat.le_trans (by decide) hd) s33 k29.1 rfl rfl (Nat.le_of_ble_eq_true rfl) rfl ?_
        have k_l0 := k_l0.ext s33.1
        have k_l1 := k_l1.ext s33.1
        have k22 := k22.ext s33.1
        have k29 := k29.ext s33.1
        refine SF_iadd 106 dX0_act_105 rfl ?_
        exact RT_i rfl dX0_act_106 h
      · have h := ite_f c11 h
        refine SF_iload 0 54 dX0_act_52 rfl rfl ?_
        exact RT_i rfl dX0_act_54 h

theorem dJ6_bitCount_0f7a4_0 : decode cJ6_bitCount_0f7a4 0 = .ok (.iload_n 0, 1) := by decide +kernel
theorem dJ6_bitCount_0f7a4_1 : decode cJ6_bitCount_0f7a4 1 = .ok (.iload_n 0, 1) := by decide +kernel
theorem dJ6_bitCount_0f7a4_2 : decode cJ6_bitCount_0f7a4 2 = .ok (.iconst 1, 1) := by decide +kernel
theorem dJ6_bitCount_0f7a4_3 : decode cJ6_bitCount_0f7a4 3 = .ok (.iushr, 1) := by decide +kernel
theorem dJ6_bitCount_0f7a4_4 : decode cJ6_bitCount_0f7a4 4 = .ok (.ldc_w 265, 3) := by decide +kernel
theorem dJ6_bitCount_0f7a4_7 : decode cJ6_bitCount_0f7a4 7 = .ok (.iand, 1) := by decide +kernel
theorem dJ6_bitCount_0f7a4_8 : decode cJ6_bitCount_0f7a4 8 = .ok (.isub, 1) := by decide +kernel
theorem dJ6_bitCount_0f7a4_9 : decode cJ6_bitCount_0f7a4 9 = .ok (.istore_n 0, 1) := by decide +kernel
theorem dJ6_bitCount_0f7a4_10 : decode cJ6_bitCount_0f7a4 10 = .ok (.iload_n 0, 1) := by decide +kernel
theorem dJ6_bitCount_0f7a4_11 : decode cJ6_bitCount_0f7a4 11 = .ok (.ldc_w 266, 3) := by decide +kernel
theorem dJ6_bitCount_0f7a4_14 : decode cJ6_bitCount_0f7a4 14 = .ok (.iand, 1) := by decide +kernel
theorem dJ6_bitCount_0f7a4_15 : decode cJ6_bitCount_0f7a4 15 = .ok (.iload_n 0, 1) := by decide +kernel
theorem dJ6_bitCount_0f7a4_16 : decode cJ6_bitCount_0f7a4 16 = .ok (.iconst 2, 1) := by decide +kernel
theorem dJ6_bitCount_0f7a4_17 : decode cJ6_bitCount_0f7a4 17 = .ok (.iushr, 1) := by decide +kernel
theorem dJ6_bitCount_0f7a4_18 : decode cJ6_bitCount_0f7a4 18 = .ok (.ldc_w 266, 3) := by decide +kernel
theorem dJ6_bitCount_0f7a4_21 : decode cJ6_bitCount_0f7a4 21 = .ok (.iand, 1) := by decide +kernel
theorem dJ6_bitCount_0f7a4_22 : decode cJ6_bitCount_0f7a4 22 = .ok (.iadd, 1) := by decide +kernel
theorem dJ6_bitCount_0f7a4_23 : decode cJ6_bitCount_0f7a4 23 = .ok (.istore_n 0, 1) := by decide +kernel
theorem dJ6_bitCount_0f7a4_24 : decode cJ6_bitCount_0f7a4 24 = .ok (.iload_n 0, 1) := by decide +kernel
theorem dJ6_bitCount_0f7a4_25 : decode cJ6_bitCount_0f7a4 25 = .ok (.iload_n 0, 1) := by decide +kernel
theorem dJ6_bitCount_0f7a4_26 : decode cJ6_bitCount_0f7a4 26 = .ok (.iconst 4, 1) := by decide +kernel
theorem dJ6_bitCount_0f7a4_27 : decode cJ6_bitCount_0f7a4 27 = .ok (.iushr, 1) := by decide +kernel
theorem dJ6_bitCount_0f7a4_28 : decode cJ6_bitCount_0f7a4 28 = .ok (.iadd, 1) := by decide +kernel
theorem dJ6_bitCount_0f7a4_29 : decode cJ6_bitCount_0f7a4 29 = .ok (.ldc_w 267, 3) := by decide +kernel
theorem dJ6_bitCount_0f7a4_32 : decode cJ6_bitCount_0f7a4 32 = .ok (.iand, 1) := by decide +kernel
theorem dJ6_bitCount_0f7a4_33 : decode cJ6_bitCount_0f7a4 33 = .ok (.istore_n 0, 1) := by decide +kernel
theorem dJ6_bitCount_0f7a4_34 : decode cJ6_bitCount_0f7a4 34 = .ok (.iload_n 0, 1) := by decide +kernel
theorem dJ6_bitCount_0f7a4_35 : decode cJ6_bitCount_0f7a4 35 = .ok (.iload_n 0, 1) := by decide +kernel
theorem dJ6_bitCount_0f7a4_36 : decode cJ6_bitCount_0f7a4 36 = .ok (.bipush 8, 2) := by decide +kernel
theorem dJ6_bitCount_0f7a4_38 : decode cJ6_bitCount_0f7a4 38 = .ok (.iushr, 1) := by decide +kernel
theorem dJ6_bitCount_0f7a4_39 : decode cJ6_bitCount_0f7a4 39 = .ok (.iadd, 1) := by decide +kernel
theorem dJ6_bitCount_0f7a4_40 : decode cJ6_bitCount_0f7a4 40 = .ok (.istore_n 0, 1) := by decide +kernel
theorem dJ6_bitCount_0f7a4_41 : decode cJ6_bitCount_0f7a4 41 = .ok (.iload_n 0, 1) := by decide +kernel
theorem dJ6_bitCount_0f7a4_42 : decode cJ6_bitCount_0f7a4 42 = .ok (.iload_n 0, 1) := by decide +kernel
theorem dJ6_bitCount_0f7a4_43 : decode cJ6_bitCount_0f7a4 43 = .ok (.bipush 16, 2) := by decide +kernel
theorem dJ6_bitCount_0f7a4_45 : decode cJ6_bitCount_0f7a4 45 = .ok (.iushr, 1) := by decide +kernel
theorem dJ6_bitCount_0f7a4_46 : decode cJ6_bitCount_0f7a4 46 = .ok (.iadd, 1) := by decide +kernel
theorem dJ6_bitCount_0f7a4_47 : decode cJ6_bitCount_0f7a4 47 = .ok (.istore_n 0, 1) := by decide +kernel
theorem dJ6_bitCount_0f7a4_48 : decode cJ6_bitCount_0f7a4 48 = .ok (.iload_n 0, 1) := by decide +kernel
theorem dJ6_bitCount_0f7a4_49 : decode cJ6_bitCount_0f7a4 49 = .ok (.bipush 63, 2) := by decide +kernel
theorem dJ6_bitCount_0f7a4_51 : decode cJ6_bitCount_0f7a4 51 = .ok (.iand, 1) := by decide +kernel
theorem dJ6_bitCount_0f7a4_52 : decode cJ6_bitCount_0f7a4 52 = .ok (.ireturn, 1) := by decide +kernel
set_option maxRecDepth 20000 in
set_option maxHeartbeats 2000000 in
theorem w_J6_bitCount_0f7a4 {X : CX} {d : Nat} (hd : 0 ≤ d) (l0 : Int32) (g g' : G) (rx : Int32) (h : f_J6_bitCount_0f7a4 l0 g = some (rx, g')) : Sem X m_J6_bitCount_0f7a4 d [.int l0] g (some (.int rx)) g' := by
  refine Sem_ofF (lo := [(0, .int l0)]) (by decide +kernel) rfl (Nat.le_of_ble_eq_true rfl) ?_
  rw [f_J6_bitCount_0f7a4] at h
  refine SF_iload_n 0 1 dJ6_bitCount_0f7a4_0 rfl rfl rfl ?_
  refine SF_iload_n 0 2 dJ6_bitCount_0f7a4_1 rfl rfl rfl ?_
  refine SF_iconst (1 : Int32) 3 dJ6_bitCount_0f7a4_2 rfl rfl ?_
  refine SF_iushr 4 dJ6_bitCount_0f7a4_3 rfl ?_
  refine SF_ldcw 7 dJ6_bitCount_0f7a4_4 ki_J6_265 rfl ?_
  refine SF_iand 8 dJ6_bitCount_0f7a4_7 rfl ?_
  refine SF_isub 9 dJ6_bitCount_0f7a4_8 rfl ?_
  obtain ⟨y1, e2, h⟩ := li_some h
  refine SF_eqI e2 ?_
  refine SF_istore_n [(0, .int y1)] 10 dJ6_bitCount_0f7a4_9 rfl (by decide) rfl rfl ?_
  refine SF_iload_n 0 11 dJ6_bitCount_0f7a4_10 rfl rfl rfl ?_
  refine SF_ldcw 14 dJ6_bitCount_0f7a4_11 ki_J6_266 rfl ?_
  refine SF_iand 15 dJ6_bitCount_0f7a4_14 rfl ?_
  refine SF_iload_n 0 16 dJ6_bitCount_0f7a4_15 rfl rfl rfl ?_
  refine SF_iconst (2 : Int32) 17 dJ6_bitCount_0f7a4_16 rfl rfl ?_
  refine SF_iushr 18 dJ6_bitCount_0f7a4_17 rfl ?_
  refine SF_ldcw 21 dJ6_bitCount_0f7a4_18 ki_J6_266 rfl ?_
  refine SF_iand 22 dJ6_bitCount_0f7a4_21 rfl ?_
  refine SF_iadd 23 dJ6_bitCount_0f7a4_22 rfl ?_
  obtain ⟨y3, e4, h⟩ := li_some h
  refine SF_eqI e4 ?_
  refine SF_istore_n [(0, .int y3)] 24 dJ6_bitCount_0f7a4_23 rfl (by decide) rfl rfl ?_
  refine SF_iload_n 0 25 dJ6_bitCount_0f7a4_24 rfl rfl rfl ?_
  refine SF_iload_n 0 26 dJ6_bitCount_0f7a4_25 rfl rfl rfl ?_
  refine SF_iconst (4 : Int32) 27 dJ6_bitCount_0f7a4_26 rfl rfl ?_
  refine SF_iushr 28 dJ6_bitCount_0f7a4_27 rfl ?_
  refine SF_iadd 29 dJ6_bitCount_0f7a4_28 rfl ?_
  refine SF_ldcw 32 dJ6_bitCount_0f7a4_29 ki_J6_267 rfl ?_
  refine SF_iand 33 dJ6_bitCount_0f7a4_32 rfl ?_
  obtain ⟨y5, e6, h⟩ := li_some h
  refine SF_eqI e6 ?_
  refine SF_istore_n [(0, .int y5)] 34 dJ6_bitCount_0f7a4_33 rfl (by decide) rfl rfl ?_
  refine SF_iload_n 0 35 dJ6_bitCount_0f7a4_34 rfl rfl rfl ?_
  refine SF_iload_n 0 36 dJ6_bitCount_0f7a4_35 rfl rfl rfl ?_
  refine SF_bipush (8 : Int32) 38 dJ6_bitCount_0f7a4_36 rfl rfl ?_
  refine SF_iushr 39 dJ6_bitCount_0f7a4_38 rfl ?_
  refine SF_iadd 40 dJ6_bitCount_0f7a4_39 rfl ?_
  obtain ⟨y7, e8, h⟩ := li_some h
  refine SF_eqI e8 ?_
  refine SF_istore_n [(0, .int y7)] 41 dJ6_bitCount_0f7a4_40 rfl (by decide) rfl rfl ?_
  refine SF_iload_n 0 42 dJ6_bitCount_0f7a4_41 rfl rfl rfl ?_
  refine SF_iload_n 0 43 dJ6_bitCount_0f7a4_42 rfl rfl rfl ?_
  refine SF_bipush (16 : Int32) 45 dJ6_bitCount_0f7a4_43 rfl rfl ?_
  refine SF_iushr 46 dJ6_bitCount_0f7a4_45 rfl ?_
  refine SF_iadd 47 dJ6_bitCount_0f7a4_46 rfl ?_
  obtain ⟨y9, e10, h⟩ := li_some h
  refine SF_eqI e10 ?_
  refine SF_istore_n [(0, .int y9)] 48 dJ6_bitCount_0f7a4_47 rfl (by decide) rfl rfl ?_
  refine SF_iload_n 0 49 dJ6_bitCount_0f7a4_48 rfl rfl rfl ?_
  refine SF_bipush (63 : Int32) 51 dJ6_bitCount_0f7a4_49 rfl rfl ?_
  refine SF_iand 52 dJ6_bitCount_0f7a4_51 rfl ?_
  exact RT_i rfl dJ6_bitCount_0f7a4_52 h

theorem dX0_allDone_0 : decode cX0_allDone 0 = .ok (.iconst 0, 1) := by decide +kernel
theorem dX0_allDone_1 : decode cX0_allDone 1 = .ok (.istore_n 1, 1) := by decide +kernel
theorem dX0_allDone_2 : decode cX0_allDone 2 = .ok (.iconst 0, 1) := by decide +kernel
theorem dX0_allDone_3 : decode cX0_allDone 3 = .ok (.istore_n 2, 1) := by decide +kernel
theorem dX0_allDone_4 : decode cX0_allDone 4 = .ok (.iload_n 2, 1) := by decide +kernel
theorem dX0_allDone_5 : decode cX0_allDone 5 = .ok (.iconst 3, 1) := by decide +kernel
theorem dX0_allDone_6 : decode cX0_allDone 6 = .ok (.if_icmp .ge 33, 3) := by decide +kernel
theorem dX0_allDone_9 : decode cX0_allDone 9 = .ok (.iload_n 1, 1) := by decide +kernel
theorem dX0_allDone_10 : decode cX0_allDone 10 = .ok (.aload_n 0, 1) := by decide +kernel
theorem dX0_allDone_11 : decode cX0_allDone 11 = .ok (.iload_n 2, 1) := by decide +kernel
theorem dX0_allDone_12 : decode cX0_allDone 12 = .ok (.invokevirtual 54, 3) := by decide +kernel
theorem dX0_allDone_15 : decode cX0_allDone 15 = .ok (.ifCond .eq 15, 3) := by decide +kernel
theorem dX0_allDone_18 : decode cX0_allDone 18 = .ok (.aload_n 0, 1) := by decide +kernel
theorem dX0_allDone_19 : decode cX0_allDone 19 = .ok (.getfield 21, 3) := by decide +kernel
theorem dX0_allDone_22 : decode cX0_allDone 22 = .ok (.iload_n 2, 1) := by decide +kernel
theorem dX0_allDone_23 : decode cX0_allDone 23 = .ok (.iaload, 1) := by decide +kernel
theorem dX0_allDone_24 : decode cX0_allDone 24 = .ok (.invokestatic 66, 3) := by decide +kernel
theorem dX0_allDone_27 : decode cX0_allDone 27 = .ok (.goto 4, 3) := by decide +kernel
theorem dX0_allDone_30 : decode cX0_allDone 30 = .ok (.iconst 0, 1) := by decide +kernel
theorem dX0_allDone_31 : decode cX0_allDone 31 = .ok (.iadd, 1) := by decide +kernel
theorem dX0_allDone_32 : decode cX0_allDone 32 = .ok (.istore_n 1, 1) := by decide +kernel
theorem dX0_allDone_33 : decode cX0_allDone 33 = .ok (.iinc 2 1, 3) := by decide +kernel
theorem dX0_allDone_36 : decode cX0_allDone 36 = .ok (.goto (-32), 3) := by decide +kernel
theorem dX0_allDone_39 : decode cX0_allDone 39 = .ok (.iload_n 1, 1) := by decide +kernel
theorem dX0_allDone_40 : decode cX0_allDone 40 = .ok (.ireturn, 1) := by decide +kernel
set_option maxRecDepth 20000 in
set_option maxHeartbeats 2000000 in
theorem w_X0_allDone_31 {X : CX} {d : Nat} (hd : 1 ≤ d) {g' : G} {rx : Int32} (k4 : Nat → Int32 → Int32 → G → Option (Int32 × G)) (hk4 : ∀ (l0 : Nat) (l1 : Int32) (l2 : Int32) (g : G), KD g l0 0 → k4 l0 l1 l2 g = some (rx, g') → SemF X m_X0_allDone d 4 [(0, .ref (ad X l0)), (1, .int l1), (2, .int l2)] [] g (some (.int rx)) g') (l0 : Nat) (l2 : Int32) (s0 : Int32) (s1 : Int32) (g : G) (k_l0 : KD g l0 0) (h : f_X0_allDone_31 k4 l0 l2 s0 s1 g = some (rx, g')) : SemF X m_X0_allDone d 31 [(0, .ref (ad X l0)), (2, .int l2)] [.int s0, .int s1] g (some (.int rx)) g' := by
  rw [f_X0_allDone_31] at h
  refine SF_iadd 32 dX0_allDone_31 rfl ?_
  obtain ⟨y1, e2, h⟩ := li_some h
  refine SF_eqI e2 ?_
  refine SF_istore_n [(1, .int y1), (0, .ref (ad X l0)), (2, .int l2)] 33 dX0_allDone_32 rfl (by decide) rfl rfl ?_
  refine SF_iinc 2 (l2 + (1 : Int32)) [(2, .int (l2 + (1 : Int32))), (1, .int y1), (0, .ref (ad X l0))] 36 dX0_allDone_33 rfl rfl (by decide) rfl rfl ?_
  refine SF_goto 4 dX0_allDone_36 rfl ?_
  refine SF_sub [2, 1, 0] rfl ?_
  exact hk4 l0 y1 (l2 + (1 : Int32)) g k_l0 h

set_option maxRecDepth 20000 in
set_option maxHeartbeats 2000000 in
theorem w_X0_allDone_4 {X : CX} {d : Nat} (hd : 1 ≤ d) {g' : G} {rx : Int32} : ∀ (n : Nat) (l0 : Nat) (l1 : Int32) (l2 : Int32) (g : G), KD g l0 0 → f_X0_allDone_4 n l0 l1 l2 g = some (rx, g') → SemF X m_X0_allDone d 4 [(0, .ref (ad X l0)), (1, .int l1), (2, .int l2)] [] g (some (.int rx)) g' := by
  intro n
  induction n with
  | zero =>
    intro l0 l1 l2 g k_l0 h
    rw [f_X0_allDone_4] at h
    cases h
  | succ n ih =>
  intro l0 l1 l2 g k_l0 h
  rw [f_X0_allDone_4] at h
  refine SF_iload_n 2 5 dX0_allDone_4 rfl rfl rfl ?_
  refine SF_iconst (3 : Int32) 6 dX0_allDone_5 rfl rfl ?_
  refine SF_icge 39 9 dX0_allDone_6 rfl rfl (fun c1 => ?_) (fun c1 => ?_)
  · have h := ite_t c1 h
    refine SF_iload_n 1 40 dX0_allDone_39 rfl rfl rfl ?_
    exact RT_i rfl dX0_allDone_40 h
  · have h := ite_f c1 h
    refine SF_iload_n 1 10 dX0_allDone_9 rfl rfl rfl ?_
    refine SF_aload_n 0 11 dX0_allDone_10 rfl rfl rfl ?_
    refine SF_iload_n 2 12 dX0_allDone_11 rfl rfl rfl ?_
    obtain ⟨v2, g3, q4, h⟩ := bd_some h
    have s5 := w_X0_isPair (X := X) (Nat.le_refl 0) l0 l2 g g3 v2 k_l0 q4
    refine SF_callVb 15 mi_X0_isPair ml_X0_54 dX0_allDone_12 (Nat.le_trans (by decide) hd) s5 k_l0.1 rfl rfl (Nat.le_of_ble_eq_true rfl) rfl ?_
    have k_l0 := k_l0.ext s5.1
    refine SF_ifeq 30 18 dX0_allDone_15 rfl rfl (fun c6 => ?_) (fun c6 => ?_)
    · have h := ite_t c6 h
      refine SF_iconst (0 : Int32) 31 dX0_allDone_30 rfl rfl ?_
      refine SF_sub [0, 2] rfl ?_
      exact w_X0_allDone_31 hd (f_X0_allDone_4 n) ih l0 l2 (0 : Int32) l1 g3 k_l0 h
    · have h := ite_f c6 h
      refine SF_aload_n 0 19 dX0_allDone_18 rfl rfl rfl ?_
      obtain ⟨b7, r8, h⟩ := dr_some h
      refine SF_getR 22 fl_X0_21 dX0_allDone_19 k_l0.1 r8 rfl ?_
      refine SF_iload_n 2 23 dX0_allDone_22 rfl rfl rfl ?_
      obtain ⟨k9, h⟩ := gdK_some h
      obtain ⟨i10, h⟩ := gdI_some h
      refine SF_iald 24 dX0_allDone_23 k9.1 i10 rfl ?_
      obtain ⟨v11, g12, q13, h⟩ := bd_some h
      have s14 := w_J6_bitCount_0f7a4 (X := X) (Nat.le_refl 0) (gI g3 b7 l2.toNatClampNeg) g3 g12 v11 q13
      refine SF_callSi 27 mi_J6_bitCount_0f7a4 ml_X0_66 dX0_allDone_24 (Nat.le_trans (by decide) hd) s14 rfl rfl (Nat.le_of_ble_eq_true rfl) rfl ?_
      have k_l0 := k_l0.ext s14.1
      have k9 := k9.ext s14.1
      refine SF_goto 31 dX0_allDone_27 rfl ?_
      refine SF_sub [0, 2] rfl ?_
      exact w_X0_allDone_31 hd (f_X0_allDone_4 n) ih l0 l2 v11 l1 g12 k_l0 h

set_option maxRecDepth 20000 in
set_option maxHeartbeats 2000000 in
theorem w_X0_allDone {X : CX} {d : Nat} (hd : 1 ≤ d) (l0 : Nat) (g g' : G) (rx : Int32) (k_l0 : KD g l0 0) (h : f_X0_allDone l0 g = some (rx, g')) : Sem X m_X0_allDone d [.ref (ad X l0)] g (some (.int rx)) g' := by
  refine Sem_of (lo := [(0, .ref (ad X l0))]) (by decide +kernel) rfl (Nat.le_of_ble_eq_true rfl) ?_
  rw [f_X0_allDone] at h
  refine SF_iconst (0 : Int32) 1 dX0_allDone_0 rfl rfl ?_
  refine SF_istore_n [(1, .int (0 : Int32)), (0, .ref (ad X l0))] 2 dX0_allDone_1 rfl (by decide) rfl rfl ?_
  refine SF_iconst (0 : Int32) 3 dX0_allDone_2 rfl rfl ?_
  refine SF_istore_n [(2, .int (0 : Int32)), (1, .int (0 : Int32)), (0, .ref (ad X l0))] 4 dX0_allDone_3 rfl (by decide) rfl rfl ?_
  refine SF_sub [2, 1, 0] rfl ?_
  exact w_X0_allDone_4 hd FU l0 (0 : Int32) (0 : Int32) g k_l0 h

theorem dX11_judgement_0 : decode cX11_judgement 0 = .ok (.iload_n 1, 1) := by decide +kernel
theorem dX11_judgement_1 : decode cX11_judgement 1 = .ok (.ifCond .ne 5, 3) := by decide +kernel
theorem dX11_judgement_4 : decode cX11_judgement 4 = .ok (.iload_n 2, 1) := by decide +kernel
theorem dX11_judgement_5 : decode cX11_judgement 5 = .ok (.ireturn, 1) := by decide +kernel
theorem dX11_judgement_6 : decode cX11_judgement 6 = .ok (.iload_n 1, 1) := by decide +kernel
theorem dX11_judgement_7 : decode cX11_judgement 7 = .ok (.iconst 1, 1) := by decide +kernel
theorem dX11_judgement_8 : decode cX11_judgement 8 = .ok (.if_icmp .ne 5, 3) := by decide +kernel
theorem dX11_judgement_11 : decode cX11_judgement 11 = .ok (.iload_n 3, 1) := by decide +kernel
theorem dX11_judgement_12 : decode cX11_judgement 12 = .ok (.ireturn, 1) := by decide +kernel
theorem dX11_judgement_13 : decode cX11_judgement 13 = .ok (.iload_n 1, 1) := by decide +kernel
theorem dX11_judgement_14 : decode cX11_judgement 14 = .ok (.iconst 2, 1) := by decide +kernel
theorem dX11_judgement_15 : decode cX11_judgement 15 = .ok (.if_icmp .ne 13, 3) := by decide +kernel
theorem dX11_judgement_18 : decode cX11_judgement 18 = .ok (.aload_n 0, 1) := by decide +kernel
theorem dX11_judgement_19 : decode cX11_judgement 19 = .ok (.getfield 82, 3) := by decide +kernel
theorem dX11_judgement_22 : decode cX11_judgement 22 = .ok (.invokevirtual 239, 3) := by decide +kernel
theorem dX11_judgement_25 : decode cX11_judgement 25 = .ok (.goto 5, 3) := by decide +kernel
theorem dX11_judgement_28 : decode cX11_judgement 28 = .ok (.iload 4, 2) := by decide +kernel
theorem dX11_judgement_30 : decode cX11_judgement 30 = .ok (.ireturn, 1) := by decide +kernel
set_option maxRecDepth 20000 in
set_option maxHeartbeats 2000000 in
theorem w_X11_judgement {X : CX} {d : Nat} (hd : 2 ≤ d) (l0 : Nat) (l1 : Int32) (l2 : Int32) (l3 : Int32) (l4 : Int32) (g g' : G) (rx : Int32) (k_l0 : KD g l0 11) (h : f_X11_judgement l0 l1 l2 l3 l4 g = some (rx, g')) : Sem X m_X11_judgement d [.ref (ad X l0), .int l1, .int l2, .int l3, .int l4] g (some (.int rx)) g' := by
  refine Sem_of (lo := [(0, .ref (ad X l0)), (1, .int l1), (2, .int l2), (3, .int l3), (4, .int l4)]) (by decide +kernel) rfl (Nat.le_of_ble_eq_true rfl) ?_
  rw [f_X11_judgement] at h
  refine SF_iload_n 1 1 dX11_judgement_0 rfl rfl rfl ?_
  refine SF_ifne 6 4 dX11_judgement_1 rfl rfl (fun c1 => ?_) (fun c1 => ?_)
  · have h := ite_f c1 h
    refine SF_iload_n 1 7 dX11_judgement_6 rfl rfl rfl ?_
    refine SF_iconst (1 : Int32) 8 dX11_judgement_7 rfl rfl ?_
    refine SF_icne 13 11 dX11_judgement_8 rfl rfl (fun c2 => ?_) (fun c2 => ?_)
    · have h := ite_f c2 h
      refine SF_iload_n 1 14 dX11_judgement_13 rfl rfl rfl ?_
      refine SF_iconst (2 : Int32) 15 dX11_judgement_14 rfl rfl ?_
      refine SF_icne 28 18 dX11_judgement_15 rfl rfl (fun c3 => ?_) (fun c3 => ?_)
      · have h := ite_f c3 h
        refine SF_iload 4 30 dX11_judgement_28 rfl rfl ?_
        exact RT_i rfl dX11_judgement_30 h
      · have h := ite_t c3 h
        refine SF_aload_n 0 19 dX11_judgement_18 rfl rfl rfl ?_
        obtain ⟨b4, r5, h⟩ := dr_some h
        refine SF_getR 22 fl_X11_82 dX11_judgement_19 k_l0.1 r5 rfl ?_
        obtain ⟨k6, h⟩ := gdK_some h
        obtain ⟨v7, g8, q9, h⟩ := bd_some h
        have s10 := w_X0_allDone (X := X) (Nat.le_refl 1) b4 g g8 v7 k6 q9
        refine SF_callVi 25 mi_X0_allDone ml_X11_239 dX11_judgement_22 (Nat.le_trans (by decide) hd) s10 k6.1 rfl rfl (Nat.le_of_ble_eq_true rfl) rfl ?_
        have k_l0 := k_l0.ext s10.1
        have k6 := k6.ext s10.1
        refine SF_goto 30 dX11_judgement_25 rfl ?_
        exact RT_i rfl dX11_judgement_30 h
    · have h := ite_t c2 h
      refine SF_iload_n 3 12 dX11_judgement_11 rfl rfl rfl ?_
      exact RT_i rfl dX11_judgement_12 h
  · have h := ite_t c1 h
    refine SF_iload_n 2 5 dX11_judgement_4 rfl rfl rfl ?_
    exact RT_i rfl dX11_judgement_5 h

theorem dX11_judge_0 : decode cX11_judge 0 = .ok (.iload_n 1, 1) := by decide +kernel
theorem dX11_judge_1 : decode cX11_judge 1 = .ok (.invokestatic 219, 3) := by decide +kernel
theorem dX11_judge_4 : decode cX11_judge 4 = .ok (.ifCond .eq 12, 3) := by decide +kernel
theorem dX11_judge_7 : decode cX11_judge 7 = .ok (.iload_n 2, 1) := by decide +kernel
theorem dX11_judge_8 : decode cX11_judge 8 = .ok (.ifCond .lt 8, 3) := by decide +kernel
theorem dX11_judge_11 : decode cX11_judge 11 = .ok (.iload_n 2, 1) := by decide +kernel
theorem dX11_judge_12 : decode cX11_judge 12 = .ok (.iconst 3, 1) := by decide +kernel
theorem dX11_judge_13 : decode cX11_judge 13 = .ok (.if_icmp .le 6, 3) := by decide +kernel
theorem dX11_judge_16 : decode cX11_judge 16 = .ok (.bipush (-2), 2) := by decide +kernel
theorem dX11_judge_18 : decode cX11_judge 18 = .ok (.ireturn, 1) := by decide +kernel
theorem dX11_judge_19 : decode cX11_judge 19 = .ok (.aload_n 0, 1) := by decide +kernel
theorem dX11_judge_20 : decode cX11_judge 20 = .ok (.getfield 60, 3) := by decide +kernel
theorem dX11_judge_23 : decode cX11_judge 23 = .ok (.iload_n 1, 1) := by decide +kernel
theorem dX11_judge_24 : decode cX11_judge 24 = .ok (.aaload, 1) := by decide +kernel
theorem dX11_judge_25 : decode cX11_judge 25 = .ok (.astore_n 3, 1) := by decide +kernel
theorem dX11_judge_26 : decode cX11_judge 26 = .ok (.aload_n 3, 1) := by decide +kernel
theorem dX11_judge_27 : decode cX11_judge 27 = .ok (.invokevirtual 222, 3) := by decide +kernel
theorem dX11_judge_30 : decode cX11_judge 30 = .ok (.ifCond .eq 6, 3) := by decide +kernel
theorem dX11_judge_33 : decode cX11_judge 33 = .ok (.bipush (-6), 2) := by decide +kernel
theorem dX11_judge_35 : decode cX11_judge 35 = .ok (.ireturn, 1) := by decide +kernel
theorem dX11_judge_36 : decode cX11_judge 36 = .ok (.aload_n 0, 1) := by decide +kernel
theorem dX11_judge_37 : decode cX11_judge 37 = .ok (.getfield 82, 3) := by decide +kernel
theorem dX11_judge_40 : decode cX11_judge 40 = .ok (.aload_n 0, 1) := by decide +kernel
theorem dX11_judge_41 : decode cX11_judge 41 = .ok (.getfield 78, 3) := by decide +kernel
theorem dX11_judge_44 : decode cX11_judge 44 = .ok (.invokevirtual 126, 3) := by decide +kernel
theorem dX11_judge_47 : decode cX11_judge 47 = .ok (.iconst 0, 1) := by decide +kernel
theorem dX11_judge_48 : decode cX11_judge 48 = .ok (.istore 4, 2) := by decide +kernel
theorem dX11_judge_50 : decode cX11_judge 50 = .ok (.iconst 0, 1) := by decide +kernel
theorem dX11_judge_51 : decode cX11_judge 51 = .ok (.istore 5, 2) := by decide +kernel
theorem dX11_judge_53 : decode cX11_judge 53 = .ok (.iload 5, 2) := by decide +kernel
theorem dX11_judge_55 : decode cX11_judge 55 = .ok (.aload_n 3, 1) := by decide +kernel
theorem dX11_judge_56 : decode cX11_judge 56 = .ok (.getfield 226, 3) := by decide +kernel
theorem dX11_judge_59 : decode cX11_judge 59 = .ok (.if_icmp .ge 53, 3) := by decide +kernel
theorem dX11_judge_62 : decode cX11_judge 62 = .ok (.aload_n 0, 1) := by decide +kernel
theorem dX11_judge_63 : decode cX11_judge 63 = .ok (.getfield 82, 3) := by decide +kernel
theorem dX11_judge_66 : decode cX11_judge 66 = .ok (.aload_n 0, 1) := by decide +kernel
theorem dX11_judge_67 : decode cX11_judge 67 = .ok (.getfield 95, 3) := by decide +kernel
theorem dX11_judge_70 : decode cX11_judge 70 = .ok (.aload_n 3, 1) := by decide +kernel
theorem dX11_judge_71 : decode cX11_judge 71 = .ok (.iload 5, 2) := by decide +kernel
theorem dX11_judge_73 : decode cX11_judge 73 = .ok (.invokevirtual 227, 3) := by decide +kernel
theorem dX11_judge_76 : decode cX11_judge 76 = .ok (.invokevirtual 231, 3) := by decide +kernel
theorem dX11_judge_79 : decode cX11_judge 79 = .ok (.istore 6, 2) := by decide +kernel
theorem dX11_judge_81 : decode cX11_judge 81 = .ok (.iload 6, 2) := by decide +kernel
theorem dX11_judge_83 : decode cX11_judge 83 = .ok (.ifCond .ge 16, 3) := by decide +kernel
theorem dX11_judge_86 : decode cX11_judge 86 = .ok (.aload_n 0, 1) := by decide +kernel
theorem dX11_judge_87 : decode cX11_judge 87 = .ok (.iload_n 2, 1) := by decide +kernel
theorem dX11_judge_88 : decode cX11_judge 88 = .ok (.iload 5, 2) := by decide +kernel
theorem dX11_judge_90 : decode cX11_judge 90 = .ok (.iload 6, 2) := by decide +kernel
theorem dX11_judge_92 : decode cX11_judge 92 = .ok (.ineg, 1) := by decide +kernel
theorem dX11_judge_93 : decode cX11_judge 93 = .ok (.iload 4, 2) := by decide +kernel
theorem dX11_judge_95 : decode cX11_judge 95 = .ok (.invokevirtual 235, 3) := by decide +kernel
theorem dX11_judge_98 : decode cX11_judge 98 = .ok (.ireturn, 1) := by decide +kernel
theorem dX11_judge_99 : decode cX11_judge 99 = .ok (.iload 4, 2) := by decide +kernel
theorem dX11_judge_101 : decode cX11_judge 101 = .ok (.iload 6, 2) := by decide +kernel
theorem dX11_judge_103 : decode cX11_judge 103 = .ok (.iadd, 1) := by decide +kernel
theorem dX11_judge_104 : decode cX11_judge 104 = .ok (.istore 4, 2) := by decide +kernel
theorem dX11_judge_106 : decode cX11_judge 106 = .ok (.iinc 5 1, 3) := by decide +kernel
theorem dX11_judge_109 : decode cX11_judge 109 = .ok (.goto (-56), 3) := by decide +kernel
theorem dX11_judge_112 : decode cX11_judge 112 = .ok (.aload_n 0, 1) := by decide +kernel
theorem dX11_judge_113 : decode cX11_judge 113 = .ok (.iload_n 2, 1) := by decide +kernel
theorem dX11_judge_114 : decode cX11_judge 114 = .ok (.iconst (-1), 1) := by decide +kernel
theorem dX11_judge_115 : decode cX11_judge 115 = .ok (.iconst 0, 1) := by decide +kernel
theorem dX11_judge_116 : decode cX11_judge 116 = .ok (.iload 4, 2) := by decide +kernel
theorem dX11_judge_118 : decode cX11_judge 118 = .ok (.invokevirtual 235, 3) := by decide +kernel
theorem dX11_judge_121 : decode cX11_judge 121 = .ok (.ireturn, 1) := by decide +kernel
set_option maxRecDepth 20000 in
set_option maxHeartbeats 2000000 in
theorem w_X11_judge_53 {X : CX} {d : Nat} (hd : 7 ≤ d) {g' : G} {rx : Int32} : ∀ (n : Nat) (l0 : Nat) (l2 : Int32) (l3 : Nat) (l4 : Int32) (l5 : Int32) (g : G), KD g l0 11 → KD g l3 10 → f_X11_judge_53 n l0 l2 l3 l4 l5 g = some (rx, g') → SemF X m_X11_judge d 53 [(0, .ref (ad X l0)), (2, .int l2), (3, .ref (ad X l3)), (4, .int l4), (5, .int l5)] [] g (some (.int rx)) g' := by
  intro n
  induction n with
  | zero =>
    intro l0 l2 l3 l4 l5 g k_l0 k_l3 h
    rw [f_X11_judge_53] at h
    cases h
  | succ n ih =>
  intro l0 l2 l3 l4 l5 g k_l0 k_l3 h
  rw [f_X11_judge_53] at h
  refine SF_iload 4 55 dX11_judge_53 rfl rfl ?_
  refine SF_aload_n 2 56 dX11_judge_55 rfl rfl rfl ?_
  refine SF_getI 59 fl_X11_226 dX11_judge_56 k_l3.1 rfl ?_
  refine SF_icge 112 62 dX11_judge_59 rfl rfl (fun c1 => ?_) (fun c1 => ?_)
  · have h := ite_t c1 h
    refine SF_aload_n 0 113 dX11_judge_112 rfl rfl rfl ?_
    refine SF_iload_n 1 114 dX11_judge_113 rfl rfl rfl ?_
    refine SF_iconst (-1 : Int32) 115 dX11_judge_114 rfl rfl ?_
    refine SF_iconst (0 : Int32) 116 dX11_judge_115 rfl rfl ?_
    refine SF_iload 3 118 dX11_judge_116 rfl rfl ?_
    obtain ⟨v2, g3, q4, h⟩ := bd_some h
    have s5 := w_X11_judgement (X := X) (Nat.le_refl 2) l0 l2 (-1 : Int32) (0 : Int32) l4 g g3 v2 k_l0 q4
    refine SF_callVi 121 mi_X11_judgement ml_X11_235 dX11_judge_118 (Nat.le_trans (by decide) hd) s5 k_l0.1 rfl rfl (Nat.le_of_ble_eq_true rfl) rfl ?_
    have k_l0 := k_l0.ext s5.1
    have k_l3 := k_l3.ext s5.1
    exact RT_i rfl dX11_judge_121 h
  · have h := ite_f c1 h
    refine SF_aload_n 0 63 dX11_judge_62 rfl rfl rfl ?_
    obtain ⟨b6, r7, h⟩ := dr_some h
    refine SF_getR 66 fl_X11_82 dX11_judge_63 k_l0.1 r7 rfl ?_
    refine SF_aload_n 0 67 dX11_judge_66 rfl rfl rfl ?_
    obtain ⟨b8, r9, h⟩ := dr_some h
    refine SF_getR 70 fl_X11_95 dX11_judge_67 k_l0.1 r9 rfl ?_
    refine SF_aload_n 2 71 dX11_judge_70 rfl rfl rfl ?_
    refine SF_iload 4 73 dX11_judge_71 rfl rfl ?_
    obtain ⟨v10, g11, q12, h⟩ := bd_some h
    have s13 := w_X10_at (X := X) (Nat.le_refl 0) l3 l5 g g11 v10 k_l3 q12
    refine SF_callVl 76 mi_X10_at ml_X11_227 dX11_judge_73 (Nat.le_trans (by decide) hd) s13 k_l3.1 rfl rfl (Nat.le_of_ble_eq_true rfl) rfl ?_
    have k_l0 := k_l0.ext s13.1
    have k_l3 := k_l3.ext s13.1
    obtain ⟨k14, h⟩ := gdK_some h
    obtain ⟨k15, h⟩ := gdK_some h
    obtain ⟨v16, g17, q18, h⟩ := bd_some h
    have s19 := w_X0_act (X := X) (Nat.le_refl 6) b6 b8 v10 g11 g17 v16 k14 k15 q18
    refine SF_callVi 79 mi_X0_act ml_X11_231 dX11_judge_76 (Nat.le_trans (by decide) hd) s19 k14.1 rfl rfl (Nat.le_of_ble_eq_true rfl) rfl ?_
    have k_l0 := k_l0.ext s19.1
    have k_l3 := k_l3.ext s19.1
    have k14 := k14.ext s19.1
    have k15 := k15.ext s19.1
    refine SF_istore [(6, .int v16), (0, .ref (ad X l0)), (2, .int l2), (3, .ref (ad X l3)), (4, .int l4), (5, .int l5)] 81 dX11_judge_79 (by decide) rfl rfl ?_
    refine SF_iload 0 83 dX11_judge_81 rfl rfl ?_
    refine SF_ifge 99 86 dX11_judge_83 rfl rfl (fun c20 => ?_) (fun c20 => ?_)
    · have h := ite_t c20 h
      refine SF_iload 4 101 dX11_judge_99 rfl rfl ?_
      refine SF_iload 0 103 dX11_judge_101 rfl rfl ?_
      refine SF_iadd 104 dX11_judge_103 rfl ?_
      obtain ⟨y21, e22, h⟩ := li_some h
      refine SF_eqI e22 ?_
      refine SF_istore [(4, .int y21), (6, .int v16), (0, .ref (ad X l0)), (2, .int l2), (3, .ref (ad X l3)), (5, .int l5)] 106 dX11_judge_104 (by decide) rfl rfl ?_
      refine SF_iinc 5 (l5 + (1 : Int32)) [(5, .int (l5 + (1 : Int32))), (4, .int y21), (6, .int v16), (0, .ref (ad X l0)), (2, .int l2), (3, .ref (ad X l3))] 109 dX11_judge_106 rfl rfl (by decide) rfl rfl ?_
      refine SF_goto 53 dX11_judge_109 rfl ?_
      refine SF_sub [3, 4, 5, 1, 0] rfl ?_
      exact ih l0 l2 l3 y21 (l5 + (1 : Int32)) g17 k_l0 k_l3 h
    · have h := ite_f c20 h
      refine SF_aload_n 1 87 dX11_judge_86 rfl rfl rfl ?_
      refine SF_iload_n 2 88 dX11_judge_87 rfl rfl rfl ?_
      refine SF_iload 5 90 dX11_judge_88 rfl rfl ?_
      refine SF_iload 0 92 dX11_judge_90 rfl rfl ?_
      refine SF_ineg 93 dX11_judge_92 rfl ?_
      refine SF_iload 4 95 dX11_judge_93 rfl rfl ?_
      obtain ⟨v23, g24, q25, h⟩ := bd_some h
      have s26 := w_X11_judgement (X := X) (Nat.le_refl 2) l0 l2 l5 (-v16) l4 g17 g24 v23 k_l0 q25
      refine SF_callVi 98 mi_X11_judgement ml_X11_235 dX11_judge_95 (Nat.le_trans (by decide) hd) s26 k_l0.1 rfl rfl (Nat.le_of_ble_eq_true rfl) rfl ?_
      have k_l0 := k_l0.ext s26.1
      have k_l3 := k_l3.ext s26.1
      have k14 := k14.ext s26.1
      have k15 := k15.ext s26.1
      exact RT_i rfl dX11_judge_98 h

set_option maxRecDepth 20000 in
set_option maxHeartbeats 2000000 in
theorem w_X11_judge {X : CX} {d : Nat} (hd : 7 ≤ d) (l0 : Nat) (l1 : Int32) (l2 : Int32) (g g' : G) (rx : Int32) (k_l0 : KD g l0 11) (h : f_X11_judge l0 l1 l2 g = some (rx, g')) : Sem X m_X11_judge d [.ref (ad X l0), .int l1, .int l2] g (some (.int rx)) g' := by
  refine Sem_of (lo := [(0, .ref (ad X l0)), (1, .int l1), (2, .int l2)]) (by decide +kernel) rfl (Nat.le_of_ble_eq_true rfl) ?_
  rw [f_X11_judge] at h
  refine SF_iload_n 1 1 dX11_judge_0 rfl rfl rfl ?_
  obtain ⟨v1, g2, q3, h⟩ := bd_some h
  have s4 := w_X11_isTray (X := X) (Nat.le_refl 0) l1 g g2 v1 q3
  refine SF_callSb 4 mi_X11_isTray ml_X11_219 dX11_judge_1 (Nat.le_trans (by decide) hd) s4 rfl rfl (Nat.le_of_ble_eq_true rfl) rfl ?_
  have k_l0 := k_l0.ext s4.1
  refine SF_ifeq 16 7 dX11_judge_4 rfl rfl (fun c5 => ?_) (fun c5 => ?_)
  · have h := ite_t c5 h
    refine SF_bipush (-2 : Int32) 18 dX11_judge_16 rfl rfl ?_
    exact RT_i rfl dX11_judge_18 h
  · have h := ite_f c5 h
    refine SF_iload_n 2 8 dX11_judge_7 rfl rfl rfl ?_
    refine SF_iflt 16 11 dX11_judge_8 rfl rfl (fun c6 => ?_) (fun c6 => ?_)
    · have h := ite_t c6 h
      refine SF_bipush (-2 : Int32) 18 dX11_judge_16 rfl rfl ?_
      exact RT_i rfl dX11_judge_18 h
    · have h := ite_f c6 h
      refine SF_iload_n 2 12 dX11_judge_11 rfl rfl rfl ?_
      refine SF_iconst (3 : Int32) 13 dX11_judge_12 rfl rfl ?_
      refine SF_icle 19 16 dX11_judge_13 rfl rfl (fun c7 => ?_) (fun c7 => ?_)
      · have h := ite_t c7 h
        refine SF_aload_n 0 20 dX11_judge_19 rfl rfl rfl ?_
        obtain ⟨b8, r9, h⟩ := dr_some h
        refine SF_getR 23 fl_X11_60 dX11_judge_20 k_l0.1 r9 rfl ?_
        refine SF_iload_n 1 24 dX11_judge_23 rfl rfl rfl ?_
        obtain ⟨k10, h⟩ := gdK_some h
        obtain ⟨i11, h⟩ := gdI_some h
        obtain ⟨b12, r13, h⟩ := dr_some h
        refine SF_aald 25 dX11_judge_24 k10.1 (Or.inr (Or.inl rfl)) i11 r13 rfl ?_
        refine SF_astore_n [(3, .ref (ad X b12)), (0, .ref (ad X l0)), (1, .int l1), (2, .int l2)] 26 dX11_judge_25 rfl (by decide) rfl rfl ?_
        refine SF_aload_n 0 27 dX11_judge_26 rfl rfl rfl ?_
        obtain ⟨k14, h⟩ := gdK_some h
        obtain ⟨v15, g16, q17, h⟩ := bd_some h
        have s18 := w_X10_isMissing (X := X) (Nat.le_refl 0) b12 g2 g16 v15 k14 q17
        refine SF_callVb 30 mi_X10_isMissing ml_X11_222 dX11_judge_27 (Nat.le_trans (by decide) hd) s18 k14.1 rfl rfl (Nat.le_of_ble_eq_true rfl) rfl ?_
        have k_l0 := k_l0.ext s18.1
        have k10 := k10.ext s18.1
        have k14 := k14.ext s18.1
        refine SF_ifeq 36 33 dX11_judge_30 rfl rfl (fun c19 => ?_) (fun c19 => ?_)
        · have h := ite_t c19 h
          refine SF_aload_n 1 37 dX11_judge_36 rfl rfl rfl ?_
          obtain ⟨b20, r21, h⟩ := dr_some h
          refine SF_getR 40 fl_X11_82 dX11_judge_37 k_l0.1 r21 rfl ?_
          refine SF_aload_n 1 41 dX11_judge_40 rfl rfl rfl ?_
          obtain ⟨b22, r23, h⟩ := dr_some h
          refine SF_getR 44 fl_X11_78 dX11_judge_41 k_l0.1 r23 rfl ?_
          obtain ⟨k24, h⟩ := gdK_some h
          obtain ⟨k25, h⟩ := gdK_some h
          obtain ⟨v26, g27, q28, h⟩ := bd_some h
          have s29 := w_X0_copyFrom (X := X) (Nat.le_refl 1) b20 b22 g16 g27 v26 k24 k25 q28
          refine SF_callVv 47 mi_X0_copyFrom ml_X11_126 dX11_judge_44 (Nat.le_trans (by decide) hd) s29 k24.1 rfl rfl (Nat.le_of_ble_eq_true rfl) rfl ?_
          have k_l0 := k_l0.ext s29.1
          have k10 := k10.ext s29.1
          have k14 := k14.ext s29.1
          have k24 := k24.ext s29.1
          have k25 := k25.ext s29.1
          refine SF_iconst (0 : Int32) 48 dX11_judge_47 rfl rfl ?_
          refine SF_istore [(4, .int (0 : Int32)), (3, .ref (ad X b12)), (0, .ref (ad X l0)), (1, .int l1), (2, .int l2)] 50 dX11_judge_48 (by decide) rfl rfl ?_
          refine SF_iconst (0 : Int32) 51 dX11_judge_50 rfl rfl ?_
          refine SF_istore [(5, .int (0 : Int32)), (4, .int (0 : Int32)), (3, .ref (ad X b12)), (0, .ref (ad X l0)), (1, .int l1), (2, .int l2)] 53 dX11_judge_51 (by decide) rfl rfl ?_
          refine SF_sub [3, 5, 2, 1, 0] rfl ?_
          exact w_X11_judge_53 hd FU l0 l2 b12 (0 : Int32) (0 : Int32) g27 k_l0 k14 h
        · have h := ite_f c19 h
          refine SF_bipush (-6 : Int32) 35 dX11_judge_33 rfl rfl ?_
          exact RT_i rfl dX11_judge_35 h
      · have h := ite_f c7 h
        refine SF_bipush (-2 : Int32) 18 dX11_judge_16 rfl rfl ?_
        exact RT_i rfl dX11_judge_18 h

theorem dX12_noTray_0 : decode cX12_noTray 0 = .ok (.iload_n 1, 1) := by decide +kernel
theorem dX12_noTray_1 : decode cX12_noTray 1 = .ok (.i2l, 1) := by decide +kernel
theorem dX12_noTray_2 : decode cX12_noTray 2 = .ok (.lconst 0, 1) := by decide +kernel
theorem dX12_noTray_3 : decode cX12_noTray 3 = .ok (.ldc2_w 259, 3) := by decide +kernel
theorem dX12_noTray_6 : decode cX12_noTray 6 = .ok (.invokestatic 139, 3) := by decide +kernel
theorem dX12_noTray_9 : decode cX12_noTray 9 = .ok (.ifCond .ne 8, 3) := by decide +kernel
theorem dX12_noTray_12 : decode cX12_noTray 12 = .ok (.bipush (-2), 2) := by decide +kernel
theorem dX12_noTray_14 : decode cX12_noTray 14 = .ok (.goto 19, 3) := by decide +kernel
theorem dX12_noTray_17 : decode cX12_noTray 17 = .ok (.aload_n 0, 1) := by decide +kernel
theorem dX12_noTray_18 : decode cX12_noTray 18 = .ok (.getfield 64, 3) := by decide +kernel
theorem dX12_noTray_21 : decode cX12_noTray 21 = .ok (.iload_n 1, 1) := by decide +kernel
theorem dX12_noTray_22 : decode cX12_noTray 22 = .ok (.iaload, 1) := by decide +kernel
theorem dX12_noTray_23 : decode cX12_noTray 23 = .ok (.iconst (-1), 1) := by decide +kernel
theorem dX12_noTray_24 : decode cX12_noTray 24 = .ok (.if_icmp .ne 8, 3) := by decide +kernel
theorem dX12_noTray_27 : decode cX12_noTray 27 = .ok (.bipush (-6), 2) := by decide +kernel
theorem dX12_noTray_29 : decode cX12_noTray 29 = .ok (.goto 4, 3) := by decide +kernel
theorem dX12_noTray_32 : decode cX12_noTray 32 = .ok (.iconst 0, 1) := by decide +kernel
theorem dX12_noTray_33 : decode cX12_noTray 33 = .ok (.ireturn, 1) := by decide +kernel
set_option maxRecDepth 20000 in
set_option maxHeartbeats 2000000 in
theorem w_X12_noTray {X : CX} {d : Nat} (hd : 1 ≤ d) (l0 : Nat) (l1 : Int32) (g g' : G) (rx : Int32) (k_l0 : KD g l0 12) (h : f_X12_noTray l0 l1 g = some (rx, g')) : Sem X m_X12_noTray d [.ref (ad X l0), .int l1] g (some (.int rx)) g' := by
  refine Sem_of (lo := [(0, .ref (ad X l0)), (1, .int l1)]) (by decide +kernel) rfl (Nat.le_of_ble_eq_true rfl) ?_
  rw [f_X12_noTray] at h
  refine SF_iload_n 1 1 dX12_noTray_0 rfl rfl rfl ?_
  refine SF_i2l 2 dX12_noTray_1 rfl ?_
  refine SF_lconst (0 : Int64) 3 dX12_noTray_2 rfl rfl ?_
  refine SF_ldc2 6 dX12_noTray_3 kl_X12_259 rfl ?_
  obtain ⟨v1, g2, q3, h⟩ := bd_some h
  have s4 := w_X12_within (X := X) (Nat.le_refl 0) (l1.toInt64) (0 : Int64) (3 : Int64) g g2 v1 q3
  refine SF_callSb 9 mi_X12_within ml_X12_139 dX12_noTray_6 (Nat.le_trans (by decide) hd) s4 rfl rfl (Nat.le_of_ble_eq_true rfl) rfl ?_
  have k_l0 := k_l0.ext s4.1
  refine SF_ifne 17 12 dX12_noTray_9 rfl rfl (fun c5 => ?_) (fun c5 => ?_)
  · have h := ite_f c5 h
    refine SF_aload_n 0 18 dX12_noTray_17 rfl rfl rfl ?_
    obtain ⟨b6, r7, h⟩ := dr_some h
    refine SF_getR 21 fl_X12_64 dX12_noTray_18 k_l0.1 r7 rfl ?_
    refine SF_iload_n 1 22 dX12_noTray_21 rfl rfl rfl ?_
    obtain ⟨k8, h⟩ := gdK_some h
    obtain ⟨i9, h⟩ := gdI_some h
    refine SF_iald 23 dX12_noTray_22 k8.1 i9 rfl ?_
    refine SF_iconst (-1 : Int32) 24 dX12_noTray_23 rfl rfl ?_
    refine SF_icne 32 27 dX12_noTray_24 rfl rfl (fun c10 => ?_) (fun c10 => ?_)
    · have h := ite_f c10 h
      refine SF_iconst (0 : Int32) 33 dX12_noTray_32 rfl rfl ?_
      exact RT_i rfl dX12_noTray_33 h
    · have h := ite_t c10 h
      refine SF_bipush (-6 : Int32) 29 dX12_noTray_27 rfl rfl ?_
      refine SF_goto 33 dX12_noTray_29 rfl ?_
      exact RT_i rfl dX12_noTray_33 h
  · have h := ite_t c5 h
    refine SF_bipush (-2 : Int32) 14 dX12_noTray_12 rfl rfl ?_
    refine SF_goto 33 dX12_noTray_14 rfl ?_
    exact RT_i rfl dX12_noTray_33 h

theorem dX12_whyNot_0 : decode cX12_whyNot 0 = .ok (.lload_n 1, 1) := by decide +kernel
theorem dX12_whyNot_1 : decode cX12_whyNot 1 = .ok (.lconst 0, 1) := by decide +kernel
theorem dX12_whyNot_2 : decode cX12_whyNot 2 = .ok (.ldc2_w 299, 3) := by decide +kernel
theorem dX12_whyNot_5 : decode cX12_whyNot 5 = .ok (.invokestatic 139, 3) := by decide +kernel
theorem dX12_whyNot_8 : decode cX12_whyNot 8 = .ok (.ifCond .eq 27, 3) := by decide +kernel
theorem dX12_whyNot_11 : decode cX12_whyNot 11 = .ok (.aload_n 0, 1) := by decide +kernel
theorem dX12_whyNot_12 : decode cX12_whyNot 12 = .ok (.lload_n 1, 1) := by decide +kernel
theorem dX12_whyNot_13 : decode cX12_whyNot 13 = .ok (.ldc2_w 301, 3) := by decide +kernel
theorem dX12_whyNot_16 : decode cX12_whyNot 16 = .ok (.ldiv, 1) := by decide +kernel
theorem dX12_whyNot_17 : decode cX12_whyNot 17 = .ok (.lload_n 1, 1) := by decide +kernel
theorem dX12_whyNot_18 : decode cX12_whyNot 18 = .ok (.ldc2_w 297, 3) := by decide +kernel
theorem dX12_whyNot_21 : decode cX12_whyNot 21 = .ok (.ldiv, 1) := by decide +kernel
theorem dX12_whyNot_22 : decode cX12_whyNot 22 = .ok (.ldc2_w 297, 3) := by decide +kernel
theorem dX12_whyNot_25 : decode cX12_whyNot 25 = .ok (.lrem, 1) := by decide +kernel
theorem dX12_whyNot_26 : decode cX12_whyNot 26 = .ok (.lload_n 1, 1) := by decide +kernel
theorem dX12_whyNot_27 : decode cX12_whyNot 27 = .ok (.ldc2_w 297, 3) := by decide +kernel
theorem dX12_whyNot_30 : decode cX12_whyNot 30 = .ok (.lrem, 1) := by decide +kernel
theorem dX12_whyNot_31 : decode cX12_whyNot 31 = .ok (.invokevirtual 267, 3) := by decide +kernel
theorem dX12_whyNot_34 : decode cX12_whyNot 34 = .ok (.ireturn, 1) := by decide +kernel
theorem dX12_whyNot_35 : decode cX12_whyNot 35 = .ok (.lload_n 1, 1) := by decide +kernel
theorem dX12_whyNot_36 : decode cX12_whyNot 36 = .ok (.ldc2_w 303, 3) := by decide +kernel
theorem dX12_whyNot_39 : decode cX12_whyNot 39 = .ok (.ldc2_w 305, 3) := by decide +kernel
theorem dX12_whyNot_42 : decode cX12_whyNot 42 = .ok (.invokestatic 139, 3) := by decide +kernel
theorem dX12_whyNot_45 : decode cX12_whyNot 45 = .ok (.ifCond .eq 13, 3) := by decide +kernel
theorem dX12_whyNot_48 : decode cX12_whyNot 48 = .ok (.aload_n 0, 1) := by decide +kernel
theorem dX12_whyNot_49 : decode cX12_whyNot 49 = .ok (.lload_n 1, 1) := by decide +kernel
theorem dX12_whyNot_50 : decode cX12_whyNot 50 = .ok (.ldc2_w 303, 3) := by decide +kernel
theorem dX12_whyNot_53 : decode cX12_whyNot 53 = .ok (.lsub, 1) := by decide +kernel
theorem dX12_whyNot_54 : decode cX12_whyNot 54 = .ok (.invokevirtual 291, 3) := by decide +kernel
theorem dX12_whyNot_57 : decode cX12_whyNot 57 = .ok (.ireturn, 1) := by decide +kernel
theorem dX12_whyNot_58 : decode cX12_whyNot 58 = .ok (.lload_n 1, 1) := by decide +kernel
theorem dX12_whyNot_59 : decode cX12_whyNot 59 = .ok (.ldc2_w 307, 3) := by decide +kernel
theorem dX12_whyNot_62 : decode cX12_whyNot 62 = .ok (.ldc2_w 309, 3) := by decide +kernel
theorem dX12_whyNot_65 : decode cX12_whyNot 65 = .ok (.invokestatic 139, 3) := by decide +kernel
theorem dX12_whyNot_68 : decode cX12_whyNot 68 = .ok (.ifCond .eq 23, 3) := by decide +kernel
theorem dX12_whyNot_71 : decode cX12_whyNot 71 = .ok (.aload_n 0, 1) := by decide +kernel
theorem dX12_whyNot_72 : decode cX12_whyNot 72 = .ok (.lload_n 1, 1) := by decide +kernel
theorem dX12_whyNot_73 : decode cX12_whyNot 73 = .ok (.ldc2_w 307, 3) := by decide +kernel
theorem dX12_whyNot_76 : decode cX12_whyNot 76 = .ok (.lsub, 1) := by decide +kernel
theorem dX12_whyNot_77 : decode cX12_whyNot 77 = .ok (.ldc2_w 297, 3) := by decide +kernel
theorem dX12_whyNot_80 : decode cX12_whyNot 80 = .ok (.ldiv, 1) := by decide +kernel
theorem dX12_whyNot_81 : decode cX12_whyNot 81 = .ok (.invokevirtual 255, 3) := by decide +kernel
theorem dX12_whyNot_84 : decode cX12_whyNot 84 = .ok (.ifCond .eq 7, 3) := by decide +kernel
theorem dX12_whyNot_87 : decode cX12_whyNot 87 = .ok (.iconst 0, 1) := by decide +kernel
theorem dX12_whyNot_88 : decode cX12_whyNot 88 = .ok (.goto 4, 3) := by decide +kernel
theorem dX12_whyNot_91 : decode cX12_whyNot 91 = .ok (.iconst 1, 1) := by decide +kernel
theorem dX12_whyNot_92 : decode cX12_whyNot 92 = .ok (.ireturn, 1) := by decide +kernel
set_option maxRecDepth 20000 in
set_option maxHeartbeats 2000000 in
theorem w_X12_whyNot {X : CX} {d : Nat} (hd : 6 ≤ d) (l0 : Nat) (l1 : Int64) (g g' : G) (rx : Int32) (k_l0 : KD g l0 12) (h : f_X12_whyNot l0 l1 g = some (rx, g')) : Sem X m_X12_whyNot d [.ref (ad X l0), .long l1] g (some (.int rx)) g' := by
  refine Sem_of (lo := [(0, .ref (ad X l0)), (1, .long l1)]) (by decide +kernel) rfl (Nat.le_of_ble_eq_true rfl) ?_
  rw [f_X12_whyNot] at h
  refine SF_lload_n 1 1 dX12_whyNot_0 rfl rfl rfl ?_
  refine SF_lconst (0 : Int64) 2 dX12_whyNot_1 rfl rfl ?_
  refine SF_ldc2 5 dX12_whyNot_2 kl_X12_299 rfl ?_
  obtain ⟨v1, g2, q3, h⟩ := bd_some h
  have s4 := w_X12_within (X := X) (Nat.le_refl 0) l1 (0 : Int64) (399 : Int64) g g2 v1 q3
  refine SF_callSb 8 mi_X12_within ml_X12_139 dX12_whyNot_5 (Nat.le_trans (by decide) hd) s4 rfl rfl (Nat.le_of_ble_eq_true rfl) rfl ?_
  have k_l0 := k_l0.ext s4.1
  refine SF_ifeq 35 11 dX12_whyNot_8 rfl rfl (fun c5 => ?_) (fun c5 => ?_)
  · have h := ite_t c5 h
    refine SF_lload_n 1 36 dX12_whyNot_35 rfl rfl rfl ?_
    refine SF_ldc2 39 dX12_whyNot_36 kl_X12_303 rfl ?_
    refine SF_ldc2 42 dX12_whyNot_39 kl_X12_305 rfl ?_
    obtain ⟨v6, g7, q8, h⟩ := bd_some h
    have s9 := w_X12_within (X := X) (Nat.le_refl 0) l1 (1000 : Int64) (1099 : Int64) g2 g7 v6 q8
    refine SF_callSb 45 mi_X12_within ml_X12_139 dX12_whyNot_42 (Nat.le_trans (by decide) hd) s9 rfl rfl (Nat.le_of_ble_eq_true rfl) rfl ?_
    have k_l0 := k_l0.ext s9.1
    refine SF_ifeq 58 48 dX12_whyNot_45 rfl rfl (fun c10 => ?_) (fun c10 => ?_)
    · have h := ite_t c10 h
      refine SF_lload_n 1 59 dX12_whyNot_58 rfl rfl rfl ?_
      refine SF_ldc2 62 dX12_whyNot_59 kl_X12_307 rfl ?_
      refine SF_ldc2 65 dX12_whyNot_62 kl_X12_309 rfl ?_
      obtain ⟨v11, g12, q13, h⟩ := bd_some h
      have s14 := w_X12_within (X := X) (Nat.le_refl 0) l1 (2000 : Int64) (2099 : Int64) g7 g12 v11 q13
      refine SF_callSb 68 mi_X12_within ml_X12_139 dX12_whyNot_65 (Nat.le_trans (by decide) hd) s14 rfl rfl (Nat.le_of_ble_eq_true rfl) rfl ?_
      have k_l0 := k_l0.ext s14.1
      refine SF_ifeq 91 71 dX12_whyNot_68 rfl rfl (fun c15 => ?_) (fun c15 => ?_)
      · have h := ite_t c15 h
        refine SF_iconst (1 : Int32) 92 dX12_whyNot_91 rfl rfl ?_
        exact RT_i rfl dX12_whyNot_92 h
      · have h := ite_f c15 h
        refine SF_aload_n 0 72 dX12_whyNot_71 rfl rfl rfl ?_
        refine SF_lload_n 1 73 dX12_whyNot_72 rfl rfl rfl ?_
        refine SF_ldc2 76 dX12_whyNot_73 kl_X12_307 rfl ?_
        refine SF_lsub 77 dX12_whyNot_76 rfl ?_
        refine SF_ldc2 80 dX12_whyNot_77 kl_X12_297 rfl ?_
        refine SF_ldiv 81 dX12_whyNot_80 (by decide) rfl ?_
        obtain ⟨v16, g17, q18, h⟩ := bd_some h
        have s19 := w_X12_isPair (X := X) (Nat.le_refl 1) l0 ((l1 - (2000 : Int64)) / (10 : Int64)) g12 g17 v16 k_l0 q18
        refine SF_callVb 84 mi_X12_isPair ml_X12_255 dX12_whyNot_81 (Nat.le_trans (by decide) hd) s19 k_l0.1 rfl rfl (Nat.le_of_ble_eq_true rfl) rfl ?_
        have k_l0 := k_l0.ext s19.1
        refine SF_ifeq 91 87 dX12_whyNot_84 rfl rfl (fun c20 => ?_) (fun c20 => ?_)
        · have h := ite_t c20 h
          refine SF_iconst (1 : Int32) 92 dX12_whyNot_91 rfl rfl ?_
          exact RT_i rfl dX12_whyNot_92 h
        · have h := ite_f c20 h
          refine SF_iconst (0 : Int32) 88 dX12_whyNot_87 rfl rfl ?_
          refine SF_goto 92 dX12_whyNot_88 rfl ?_
          exact RT_i rfl dX12_whyNot_92 h
    · have h := ite_f c10 h
      refine SF_aload_n 0 49 dX12_whyNot_48 rfl rfl rfl ?_
      refine SF_lload_n 1 50 dX12_whyNot_49 rfl rfl rfl ?_
      refine SF_ldc2 53 dX12_whyNot_50 kl_X12_303 rfl ?_
      refine SF_lsub 54 dX12_whyNot_53 rfl ?_
      obtain ⟨v21, g22, q23, h⟩ := bd_some h
      have s24 := w_X12_whyWall (X := X) (Nat.le_refl 2) l0 (l1 - (1000 : Int64)) g7 g22 v21 k_l0 q23
      refine SF_callVi 57 mi_X12_whyWall ml_X12_291 dX12_whyNot_54 (Nat.le_trans (by decide) hd) s24 k_l0.1 rfl rfl (Nat.le_of_ble_eq_true rfl) rfl ?_
      have k_l0 := k_l0.ext s24.1
      exact RT_i rfl dX12_whyNot_57 h
  · have h := ite_f c5 h
    refine SF_aload_n 0 12 dX12_whyNot_11 rfl rfl rfl ?_
    refine SF_lload_n 1 13 dX12_whyNot_12 rfl rfl rfl ?_
    refine SF_ldc2 16 dX12_whyNot_13 kl_X12_301 rfl ?_
    refine SF_ldiv 17 dX12_whyNot_16 (by decide) rfl ?_
    refine SF_lload_n 1 18 dX12_whyNot_17 rfl rfl rfl ?_
    refine SF_ldc2 21 dX12_whyNot_18 kl_X12_297 rfl ?_
    refine SF_ldiv 22 dX12_whyNot_21 (by decide) rfl ?_
    refine SF_ldc2 25 dX12_whyNot_22 kl_X12_297 rfl ?_
    refine SF_lrem 26 dX12_whyNot_25 (by decide) rfl ?_
    refine SF_lload_n 1 27 dX12_whyNot_26 rfl rfl rfl ?_
    refine SF_ldc2 30 dX12_whyNot_27 kl_X12_297 rfl ?_
    refine SF_lrem 31 dX12_whyNot_30 (by decide) rfl ?_
    obtain ⟨v25, g26, q27, h⟩ := bd_some h
    have s28 := w_X12_whyLead (X := X) (Nat.le_refl 5) l0 (l1 / (100 : Int64)) ((l1 / (10 : Int64)) - (l1 / (10 : Int64)) / (10 : Int64) * (10 : Int64)) (l1 - l1 / (10 : Int64) * (10 : Int64)) g2 g26 v25 k_l0 q27
    refine SF_callVi 34 mi_X12_whyLead ml_X12_267 dX12_whyNot_31 (Nat.le_trans (by decide) hd) s28 k_l0.1 rfl rfl (Nat.le_of_ble_eq_true rfl) rfl ?_
    have k_l0 := k_l0.ext s28.1
    exact RT_i rfl dX12_whyNot_34 h

theorem dX12_does_0 : decode cX12_does 0 = .ok (.iload_n 1, 1) := by decide +kernel
theorem dX12_does_1 : decode cX12_does 1 = .ok (.sipush 400, 3) := by decide +kernel
theorem dX12_does_4 : decode cX12_does 4 = .ok (.if_icmp .ge 21, 3) := by decide +kernel
theorem dX12_does_7 : decode cX12_does 7 = .ok (.aload_n 0, 1) := by decide +kernel
theorem dX12_does_8 : decode cX12_does 8 = .ok (.iload_n 1, 1) := by decide +kernel
theorem dX12_does_9 : decode cX12_does 9 = .ok (.bipush 100, 2) := by decide +kernel
theorem dX12_does_11 : decode cX12_does 11 = .ok (.idiv, 1) := by decide +kernel
theorem dX12_does_12 : decode cX12_does 12 = .ok (.iload_n 1, 1) := by decide +kernel
theorem dX12_does_13 : decode cX12_does 13 = .ok (.bipush 10, 2) := by decide +kernel
theorem dX12_does_15 : decode cX12_does 15 = .ok (.idiv, 1) := by decide +kernel
theorem dX12_does_16 : decode cX12_does 16 = .ok (.bipush 10, 2) := by decide +kernel
theorem dX12_does_18 : decode cX12_does 18 = .ok (.irem, 1) := by decide +kernel
theorem dX12_does_19 : decode cX12_does 19 = .ok (.invokevirtual 284, 3) := by decide +kernel
theorem dX12_does_22 : decode cX12_does 22 = .ok (.goto 50, 3) := by decide +kernel
theorem dX12_does_25 : decode cX12_does 25 = .ok (.iload_n 1, 1) := by decide +kernel
theorem dX12_does_26 : decode cX12_does 26 = .ok (.sipush 2000, 3) := by decide +kernel
theorem dX12_does_29 : decode cX12_does 29 = .ok (.if_icmp .ge 23, 3) := by decide +kernel
theorem dX12_does_32 : decode cX12_does 32 = .ok (.aload_n 0, 1) := by decide +kernel
theorem dX12_does_33 : decode cX12_does 33 = .ok (.getfield 13, 3) := by decide +kernel
theorem dX12_does_36 : decode cX12_does 36 = .ok (.bipush 52, 2) := by decide +kernel
theorem dX12_does_38 : decode cX12_does 38 = .ok (.iload_n 1, 1) := by decide +kernel
theorem dX12_does_39 : decode cX12_does 39 = .ok (.iadd, 1) := by decide +kernel
theorem dX12_does_40 : decode cX12_does 40 = .ok (.sipush 1000, 3) := by decide +kernel
theorem dX12_does_43 : decode cX12_does 43 = .ok (.isub, 1) := by decide +kernel
theorem dX12_does_44 : decode cX12_does 44 = .ok (.dup2, 1) := by decide +kernel
theorem dX12_does_45 : decode cX12_does 45 = .ok (.iaload, 1) := by decide +kernel
theorem dX12_does_46 : decode cX12_does 46 = .ok (.iconst 1, 1) := by decide +kernel
theorem dX12_does_47 : decode cX12_does 47 = .ok (.ixor, 1) := by decide +kernel
theorem dX12_does_48 : decode cX12_does 48 = .ok (.iastore, 1) := by decide +kernel
theorem dX12_does_49 : decode cX12_does 49 = .ok (.goto 23, 3) := by decide +kernel
theorem dX12_does_52 : decode cX12_does 52 = .ok (.aload_n 0, 1) := by decide +kernel
theorem dX12_does_53 : decode cX12_does 53 = .ok (.getfield 13, 3) := by decide +kernel
theorem dX12_does_56 : decode cX12_does 56 = .ok (.bipush 97, 2) := by decide +kernel
theorem dX12_does_58 : decode cX12_does 58 = .ok (.iload_n 1, 1) := by decide +kernel
theorem dX12_does_59 : decode cX12_does 59 = .ok (.sipush 2000, 3) := by decide +kernel
theorem dX12_does_62 : decode cX12_does 62 = .ok (.isub, 1) := by decide +kernel
theorem dX12_does_63 : decode cX12_does 63 = .ok (.bipush 10, 2) := by decide +kernel
theorem dX12_does_65 : decode cX12_does 65 = .ok (.idiv, 1) := by decide +kernel
theorem dX12_does_66 : decode cX12_does 66 = .ok (.iadd, 1) := by decide +kernel
theorem dX12_does_67 : decode cX12_does 67 = .ok (.iload_n 1, 1) := by decide +kernel
theorem dX12_does_68 : decode cX12_does 68 = .ok (.bipush 10, 2) := by decide +kernel
theorem dX12_does_70 : decode cX12_does 70 = .ok (.irem, 1) := by decide +kernel
theorem dX12_does_71 : decode cX12_does 71 = .ok (.iastore, 1) := by decide +kernel
theorem dX12_does_72 : decode cX12_does 72 = .ok (.return_, 1) := by decide +kernel
set_option maxRecDepth 20000 in
set_option maxHeartbeats 2000000 in
theorem w_X12_does {X : CX} {d : Nat} (hd : 3 ≤ d) (l0 : Nat) (l1 : Int32) (g g' : G) (rx : Unit) (k_l0 : KD g l0 12) (h : f_X12_does l0 l1 g = some (rx, g')) : Sem X m_X12_does d [.ref (ad X l0), .int l1] g none g' := by
  refine Sem_of (lo := [(0, .ref (ad X l0)), (1, .int l1)]) (by decide +kernel) rfl (Nat.le_of_ble_eq_true rfl) ?_
  rw [f_X12_does] at h
  refine SF_iload_n 1 1 dX12_does_0 rfl rfl rfl ?_
  refine SF_sipush (400 : Int32) 4 dX12_does_1 rfl rfl ?_
  refine SF_icge 25 7 dX12_does_4 rfl rfl (fun c1 => ?_) (fun c1 => ?_)
  · have h := ite_t c1 h
    refine SF_iload_n 1 26 dX12_does_25 rfl rfl rfl ?_
    refine SF_sipush (2000 : Int32) 29 dX12_does_26 rfl rfl ?_
    refine SF_icge 52 32 dX12_does_29 rfl rfl (fun c2 => ?_) (fun c2 => ?_)
    · have h := ite_t c2 h
      refine SF_aload_n 0 53 dX12_does_52 rfl rfl rfl ?_
      obtain ⟨b3, r4, h⟩ := dr_some h
      refine SF_getR 56 fl_X12_13 dX12_does_53 k_l0.1 r4 rfl ?_
      refine SF_bipush (97 : Int32) 58 dX12_does_56 rfl rfl ?_
      refine SF_iload_n 1 59 dX12_does_58 rfl rfl rfl ?_
      refine SF_sipush (2000 : Int32) 62 dX12_does_59 rfl rfl ?_
      refine SF_isub 63 dX12_does_62 rfl ?_
      refine SF_bipush (10 : Int32) 65 dX12_does_63 rfl rfl ?_
      refine SF_idiv 66 dX12_does_65 (by decide) rfl ?_
      refine SF_iadd 67 dX12_does_66 rfl ?_
      refine SF_iload_n 1 68 dX12_does_67 rfl rfl rfl ?_
      refine SF_bipush (10 : Int32) 70 dX12_does_68 rfl rfl ?_
      refine SF_irem 71 dX12_does_70 (by decide) rfl ?_
      obtain ⟨k5, h⟩ := gdK_some h
      obtain ⟨i6, h⟩ := gdI_some h
      refine SF_iast 72 dX12_does_71 k5.1 i6 rfl ?_
      obtain ⟨g7, e8, h⟩ := lg_some h
      rw [← e8]
      have k_l0 := KD.eq e8 k_l0
      have k5 := KD.eq e8 k5
      have r4 := gR_eq e8 r4
      have i6 := vp_eq e8 i6
      exact RT_v rfl dX12_does_72 h
    · have h := ite_f c2 h
      refine SF_aload_n 0 33 dX12_does_32 rfl rfl rfl ?_
      obtain ⟨b9, r10, h⟩ := dr_some h
      refine SF_getR 36 fl_X12_13 dX12_does_33 k_l0.1 r10 rfl ?_
      refine SF_bipush (52 : Int32) 38 dX12_does_36 rfl rfl ?_
      refine SF_iload_n 1 39 dX12_does_38 rfl rfl rfl ?_
      refine SF_iadd 40 dX12_does_39 rfl ?_
      refine SF_sipush (1000 : Int32) 43 dX12_does_40 rfl rfl ?_
      refine SF_isub 44 dX12_does_43 rfl ?_
      refine SF_dup2_11 45 dX12_does_44 rfl rfl rfl ?_
      obtain ⟨k11, h⟩ := gdK_some h
      obtain ⟨i12, h⟩ := gdI_some h
      refine SF_iald 46 dX12_does_45 k11.1 i12 rfl ?_
      refine SF_iconst (1 : Int32) 47 dX12_does_46 rfl rfl ?_
      refine SF_ixor 48 dX12_does_47 rfl ?_
      refine SF_iast 49 dX12_does_48 k11.1 i12 rfl ?_
      obtain ⟨g13, e14, h⟩ := lg_some h
      rw [← e14]
      have k_l0 := KD.eq e14 k_l0
      have k11 := KD.eq e14 k11
      have r10 := gR_eq e14 r10
      have i12 := vp_eq e14 i12
      refine SF_goto 72 dX12_does_49 rfl ?_
      exact RT_v rfl dX12_does_72 h
  · have h := ite_f c1 h
    refine SF_aload_n 0 8 dX12_does_7 rfl rfl rfl ?_
    refine SF_iload_n 1 9 dX12_does_8 rfl rfl rfl ?_
    refine SF_bipush (100 : Int32) 11 dX12_does_9 rfl rfl ?_
    refine SF_idiv 12 dX12_does_11 (by decide) rfl ?_
    refine SF_iload_n 1 13 dX12_does_12 rfl rfl rfl ?_
    refine SF_bipush (10 : Int32) 15 dX12_does_13 rfl rfl ?_
    refine SF_idiv 16 dX12_does_15 (by decide) rfl ?_
    refine SF_bipush (10 : Int32) 18 dX12_does_16 rfl rfl ?_
    refine SF_irem 19 dX12_does_18 (by decide) rfl ?_
    obtain ⟨v15, g16, q17, h⟩ := bd_some h
    have s18 := w_X12_leads (X := X) (Nat.le_refl 2) l0 (l1 / (100 : Int32)) ((l1 / (10 : Int32)) - (l1 / (10 : Int32)) / (10 : Int32) * (10 : Int32)) g g16 v15 k_l0 q17
    refine SF_callVv 22 mi_X12_leads ml_X12_284 dX12_does_19 (Nat.le_trans (by decide) hd) s18 k_l0.1 rfl rfl (Nat.le_of_ble_eq_true rfl) rfl ?_
    have k_l0 := k_l0.ext s18.1
    refine SF_goto 72 dX12_does_22 rfl ?_
    exact RT_v rfl dX12_does_72 h

theorem dX12_tells_0 : decode cX12_tells 0 = .ok (.aload_n 0, 1) := by decide +kernel
theorem dX12_tells_1 : decode cX12_tells 1 = .ok (.iconst 0, 1) := by decide +kernel
theorem dX12_tells_2 : decode cX12_tells 2 = .ok (.putfield 311, 3) := by decide +kernel
theorem dX12_tells_5 : decode cX12_tells 5 = .ok (.aload_n 0, 1) := by decide +kernel
theorem dX12_tells_6 : decode cX12_tells 6 = .ok (.iconst 0, 1) := by decide +kernel
theorem dX12_tells_7 : decode cX12_tells 7 = .ok (.putfield 278, 3) := by decide +kernel
theorem dX12_tells_10 : decode cX12_tells 10 = .ok (.iconst 0, 1) := by decide +kernel
theorem dX12_tells_11 : decode cX12_tells 11 = .ok (.istore_n 2, 1) := by decide +kernel
theorem dX12_tells_12 : decode cX12_tells 12 = .ok (.iload_n 2, 1) := by decide +kernel
theorem dX12_tells_13 : decode cX12_tells 13 = .ok (.aload_n 0, 1) := by decide +kernel
theorem dX12_tells_14 : decode cX12_tells 14 = .ok (.getfield 67, 3) := by decide +kernel
theorem dX12_tells_17 : decode cX12_tells 17 = .ok (.iload_n 1, 1) := by decide +kernel
theorem dX12_tells_18 : decode cX12_tells 18 = .ok (.iaload, 1) := by decide +kernel
theorem dX12_tells_19 : decode cX12_tells 19 = .ok (.if_icmp .ge 53, 3) := by decide +kernel
theorem dX12_tells_22 : decode cX12_tells 22 = .ok (.aload_n 0, 1) := by decide +kernel
theorem dX12_tells_23 : decode cX12_tells 23 = .ok (.aload_n 0, 1) := by decide +kernel
theorem dX12_tells_24 : decode cX12_tells 24 = .ok (.aload_n 0, 1) := by decide +kernel
theorem dX12_tells_25 : decode cX12_tells 25 = .ok (.getfield 70, 3) := by decide +kernel
theorem dX12_tells_28 : decode cX12_tells 28 = .ok (.bipush 40, 2) := by decide +kernel
theorem dX12_tells_30 : decode cX12_tells 30 = .ok (.iload_n 1, 1) := by decide +kernel
theorem dX12_tells_31 : decode cX12_tells 31 = .ok (.imul, 1) := by decide +kernel
theorem dX12_tells_32 : decode cX12_tells 32 = .ok (.iload_n 2, 1) := by decide +kernel
theorem dX12_tells_33 : decode cX12_tells 33 = .ok (.iadd, 1) := by decide +kernel
theorem dX12_tells_34 : decode cX12_tells 34 = .ok (.laload, 1) := by decide +kernel
theorem dX12_tells_35 : decode cX12_tells 35 = .ok (.invokevirtual 314, 3) := by decide +kernel
theorem dX12_tells_38 : decode cX12_tells 38 = .ok (.putfield 311, 3) := by decide +kernel
theorem dX12_tells_41 : decode cX12_tells 41 = .ok (.aload_n 0, 1) := by decide +kernel
theorem dX12_tells_42 : decode cX12_tells 42 = .ok (.getfield 311, 3) := by decide +kernel
theorem dX12_tells_45 : decode cX12_tells 45 = .ok (.ifCond .eq 5, 3) := by decide +kernel
theorem dX12_tells_48 : decode cX12_tells 48 = .ok (.iload_n 2, 1) := by decide +kernel
theorem dX12_tells_49 : decode cX12_tells 49 = .ok (.ireturn, 1) := by decide +kernel
theorem dX12_tells_50 : decode cX12_tells 50 = .ok (.aload_n 0, 1) := by decide +kernel
theorem dX12_tells_51 : decode cX12_tells 51 = .ok (.aload_n 0, 1) := by decide +kernel
theorem dX12_tells_52 : decode cX12_tells 52 = .ok (.getfield 70, 3) := by decide +kernel
theorem dX12_tells_55 : decode cX12_tells 55 = .ok (.bipush 40, 2) := by decide +kernel
theorem dX12_tells_57 : decode cX12_tells 57 = .ok (.iload_n 1, 1) := by decide +kernel
theorem dX12_tells_58 : decode cX12_tells 58 = .ok (.imul, 1) := by decide +kernel
theorem dX12_tells_59 : decode cX12_tells 59 = .ok (.iload_n 2, 1) := by decide +kernel
theorem dX12_tells_60 : decode cX12_tells 60 = .ok (.iadd, 1) := by decide +kernel
theorem dX12_tells_61 : decode cX12_tells 61 = .ok (.laload, 1) := by decide +kernel
theorem dX12_tells_62 : decode cX12_tells 62 = .ok (.l2i, 1) := by decide +kernel
theorem dX12_tells_63 : decode cX12_tells 63 = .ok (.invokevirtual 317, 3) := by decide +kernel
theorem dX12_tells_66 : decode cX12_tells 66 = .ok (.iinc 2 1, 3) := by decide +kernel
theorem dX12_tells_69 : decode cX12_tells 69 = .ok (.goto (-57), 3) := by decide +kernel
theorem dX12_tells_72 : decode cX12_tells 72 = .ok (.aload_n 0, 1) := by decide +kernel
theorem dX12_tells_73 : decode cX12_tells 73 = .ok (.getfield 67, 3) := by decide +kernel
theorem dX12_tells_76 : decode cX12_tells 76 = .ok (.iload_n 1, 1) := by decide +kernel
theorem dX12_tells_77 : decode cX12_tells 77 = .ok (.iaload, 1) := by decide +kernel
theorem dX12_tells_78 : decode cX12_tells 78 = .ok (.ireturn, 1) := by decide +kernel
set_option maxRecDepth 20000 in
set_option maxHeartbeats 2000000 in
theorem w_X12_tells_12 {X : CX} {d : Nat} (hd : 7 ≤ d) {g' : G} {rx : Int32} : ∀ (n : Nat) (l0 : Nat) (l1 : Int32) (l2 : Int32) (g : G), KD g l0 12 → f_X12_tells_12 n l0 l1 l2 g = some (rx, g') → SemF X m_X12_tells d 12 [(0, .ref (ad X l0)), (1, .int l1), (2, .int l2)] [] g (some (.int rx)) g' := by
  intro n
  induction n with
  | zero =>
    intro l0 l1 l2 g k_l0 h
    rw [f_X12_tells_12] at h
    cases h
  | succ n ih =>
  intro l0 l1 l2 g k_l0 h
  rw [f_X12_tells_12] at h
  refine SF_iload_n 2 13 dX12_tells_12 rfl rfl rfl ?_
  refine SF_aload_n 0 14 dX12_tells_13 rfl rfl rfl ?_
  obtain ⟨b1, r2, h⟩ := dr_some h
  refine SF_getR 17 fl_X12_67 dX12_tells_14 k_l0.1 r2 rfl ?_
  refine SF_iload_n 1 18 dX12_tells_17 rfl rfl rfl ?_
  obtain ⟨k3, h⟩ := gdK_some h
  obtain ⟨i4, h⟩ := gdI_some h
  refine SF_iald 19 dX12_tells_18 k3.1 i4 rfl ?_
  refine SF_icge 72 22 dX12_tells_19 rfl rfl (fun c5 => ?_) (fun c5 => ?_)
  · have h := ite_t c5 h
    refine SF_aload_n 0 73 dX12_tells_72 rfl rfl rfl ?_
    refine SF_getR 76 fl_X12_67 dX12_tells_73 k_l0.1 r2 rfl ?_
    refine SF_iload_n 1 77 dX12_tells_76 rfl rfl rfl ?_
    refine SF_iald 78 dX12_tells_77 k3.1 i4 rfl ?_
    exact RT_i rfl dX12_tells_78 h
  · have h := ite_f c5 h
    refine SF_aload_n 0 23 dX12_tells_22 rfl rfl rfl ?_
    refine SF_aload_n 0 24 dX12_tells_23 rfl rfl rfl ?_
    refine SF_aload_n 0 25 dX12_tells_24 rfl rfl rfl ?_
    obtain ⟨b6, r7, h⟩ := dr_some h
    refine SF_getR 28 fl_X12_70 dX12_tells_25 k_l0.1 r7 rfl ?_
    refine SF_bipush (40 : Int32) 30 dX12_tells_28 rfl rfl ?_
    refine SF_iload_n 1 31 dX12_tells_30 rfl rfl rfl ?_
    refine SF_imul 32 dX12_tells_31 rfl ?_
    refine SF_iload_n 2 33 dX12_tells_32 rfl rfl rfl ?_
    refine SF_iadd 34 dX12_tells_33 rfl ?_
    obtain ⟨k8, h⟩ := gdK_some h
    obtain ⟨i9, h⟩ := gdI_some h
    refine SF_lald 35 dX12_tells_34 k8.1 i9 rfl ?_
    obtain ⟨v10, g11, q12, h⟩ := bd_some h
    have s13 := w_X12_whyNot (X := X) (Nat.le_refl 6) l0 (gL g b6 (((40 : Int32) * l1) + l2).toNatClampNeg) g g11 v10 k_l0 q12
    refine SF_callVi 38 mi_X12_whyNot ml_X12_314 dX12_tells_35 (Nat.le_trans (by decide) hd) s13 k_l0.1 rfl rfl (Nat.le_of_ble_eq_true rfl) rfl ?_
    have k_l0 := k_l0.ext s13.1
    have k3 := k3.ext s13.1
    have k8 := k8.ext s13.1
    refine SF_putI 41 fl_X12_311 dX12_tells_38 k_l0.1 (fn_int _) (Or.inl rfl) rfl ?_
    obtain ⟨g14, e15, h⟩ := lg_some h
    rw [← e15]
    have k_l0 := KD.eq e15 k_l0
    have k3 := KD.eq e15 k3
    have k8 := KD.eq e15 k8
    refine SF_aload_n 0 42 dX12_tells_41 rfl rfl rfl ?_
    refine SF_getI 45 fl_X12_311 dX12_tells_42 k_l0.1 rfl ?_
    refine SF_ifeq 50 48 dX12_tells_45 rfl rfl (fun c16 => ?_) (fun c16 => ?_)
    · have h := ite_t c16 h
      refine SF_aload_n 0 51 dX12_tells_50 rfl rfl rfl ?_
      refine SF_aload_n 0 52 dX12_tells_51 rfl rfl rfl ?_
      obtain ⟨b17, r18, h⟩ := dr_some h
      refine SF_getR 55 fl_X12_70 dX12_tells_52 k_l0.1 r18 rfl ?_
      refine SF_bipush (40 : Int32) 57 dX12_tells_55 rfl rfl ?_
      refine SF_iload_n 1 58 dX12_tells_57 rfl rfl rfl ?_
      refine SF_imul 59 dX12_tells_58 rfl ?_
      refine SF_iload_n 2 60 dX12_tells_59 rfl rfl rfl ?_
      refine SF_iadd 61 dX12_tells_60 rfl ?_
      obtain ⟨k19, h⟩ := gdK_some h
      obtain ⟨i20, h⟩ := gdI_some h
      refine SF_lald 62 dX12_tells_61 k19.1 i20 rfl ?_
      refine SF_l2i 63 dX12_tells_62 rfl ?_
      obtain ⟨v21, g22, q23, h⟩ := bd_some h
      have s24 := w_X12_does (X := X) (Nat.le_refl 3) l0 ((gL g14 b17 (((40 : Int32) * l1) + l2).toNatClampNeg).toInt32) g14 g22 v21 k_l0 q23
      refine SF_callVv 66 mi_X12_does ml_X12_317 dX12_tells_63 (Nat.le_trans (by decide) hd) s24 k_l0.1 rfl rfl (Nat.le_of_ble_eq_true rfl) rfl ?_
      have k_l0 := k_l0.ext s24.1
      have k3 := k3.ext s24.1
      have k8 := k8.ext s24.1
      have k19 := k19.ext s24.1
      refine SF_iinc 2 (l2 + (1 : Int32)) [(2, .int (l2 + (1 : Int32))), (0, .ref (ad X l0)), (1, .int l1)] 69 dX12_tells_66 rfl rfl (by decide) rfl rfl ?_
      refine SF_goto 12 dX12_tells_69 rfl ?_
      refine SF_sub [1, 2, 0] rfl ?_
      exact ih l0 l1 (l2 + (1 : Int32)) g22 k_l0 h
    · have h := ite_f c16 h
      refine SF_iload_n 2 49 dX12_tells_48 rfl rfl rfl ?_
      exact RT_i rfl dX12_tells_49 h

set_option maxRecDepth 20000 in
set_option maxHeartbeats 2000000 in
theorem w_X12_tells {X : CX} {d : Nat} (hd : 7 ≤ d) (l0 : Nat) (l1 : Int32) (g g' : G) (rx : Int32) (k_l0 : KD g l0 12) (h : f_X12_tells l0 l1 g = some (rx, g')) : Sem X m_X12_tells d [.ref (ad X l0), .int l1] g (some (.int rx)) g' := by
  refine Sem_of (lo := [(0, .ref (ad X l0)), (1, .int l1)]) (by decide +kernel) rfl (Nat.le_of_ble_eq_true rfl) ?_
  rw [f_X12_tells] at h
  refine SF_aload_n 0 1 dX12_tells_0 rfl rfl rfl ?_
  refine SF_iconst (0 : Int32) 2 dX12_tells_1 rfl rfl ?_
  refine SF_putI 5 fl_X12_311 dX12_tells_2 k_l0.1 (fn_int _) (Or.inl rfl) rfl ?_
  obtain ⟨g1, e2, h⟩ := lg_some h
  rw [← e2]
  have k_l0 := KD.eq e2 k_l0
  refine SF_aload_n 0 6 dX12_tells_5 rfl rfl rfl ?_
  refine SF_iconst (0 : Int32) 7 dX12_tells_6 rfl rfl ?_
  refine SF_putI 10 fl_X12_278 dX12_tells_7 k_l0.1 (fn_int _) (Or.inl rfl) rfl ?_
  obtain ⟨g3, e4, h⟩ := lg_some h
  rw [← e4]
  have k_l0 := KD.eq e4 k_l0
  refine SF_iconst (0 : Int32) 11 dX12_tells_10 rfl rfl ?_
  refine SF_istore_n [(2, .int (0 : Int32)), (0, .ref (ad X l0)), (1, .int l1)] 12 dX12_tells_11 rfl (by decide) rfl rfl ?_
  refine SF_sub [1, 2, 0] rfl ?_
  exact w_X12_tells_12 hd FU l0 l1 (0 : Int32) g3 k_l0 h

theorem dX12_doneAll_0 : decode cX12_doneAll 0 = .ok (.iconst 0, 1) := by decide +kernel
theorem dX12_doneAll_1 : decode cX12_doneAll 1 = .ok (.istore_n 1, 1) := by decide +kernel
theorem dX12_doneAll_2 : decode cX12_doneAll 2 = .ok (.iconst 0, 1) := by decide +kernel
theorem dX12_doneAll_3 : decode cX12_doneAll 3 = .ok (.istore_n 2, 1) := by decide +kernel
theorem dX12_doneAll_4 : decode cX12_doneAll 4 = .ok (.iload_n 2, 1) := by decide +kernel
theorem dX12_doneAll_5 : decode cX12_doneAll 5 = .ok (.aload_n 0, 1) := by decide +kernel
theorem dX12_doneAll_6 : decode cX12_doneAll 6 = .ok (.getfield 13, 3) := by decide +kernel
theorem dX12_doneAll_9 : decode cX12_doneAll 9 = .ok (.iconst 3, 1) := by decide +kernel
theorem dX12_doneAll_10 : decode cX12_doneAll 10 = .ok (.iaload, 1) := by decide +kernel
theorem dX12_doneAll_11 : decode cX12_doneAll 11 = .ok (.if_icmp .ge 35, 3) := by decide +kernel
theorem dX12_doneAll_14 : decode cX12_doneAll 14 = .ok (.iload_n 1, 1) := by decide +kernel
theorem dX12_doneAll_15 : decode cX12_doneAll 15 = .ok (.aload_n 0, 1) := by decide +kernel
theorem dX12_doneAll_16 : decode cX12_doneAll 16 = .ok (.getfield 13, 3) := by decide +kernel
theorem dX12_doneAll_19 : decode cX12_doneAll 19 = .ok (.bipush 100, 2) := by decide +kernel
theorem dX12_doneAll_21 : decode cX12_doneAll 21 = .ok (.iload_n 2, 1) := by decide +kernel
theorem dX12_doneAll_22 : decode cX12_doneAll 22 = .ok (.iadd, 1) := by decide +kernel
theorem dX12_doneAll_23 : decode cX12_doneAll 23 = .ok (.iaload, 1) := by decide +kernel
theorem dX12_doneAll_24 : decode cX12_doneAll 24 = .ok (.iconst 1, 1) := by decide +kernel
theorem dX12_doneAll_25 : decode cX12_doneAll 25 = .ok (.iand, 1) := by decide +kernel
theorem dX12_doneAll_26 : decode cX12_doneAll 26 = .ok (.aload_n 0, 1) := by decide +kernel
theorem dX12_doneAll_27 : decode cX12_doneAll 27 = .ok (.getfield 13, 3) := by decide +kernel
theorem dX12_doneAll_30 : decode cX12_doneAll 30 = .ok (.bipush 100, 2) := by decide +kernel
theorem dX12_doneAll_32 : decode cX12_doneAll 32 = .ok (.iload_n 2, 1) := by decide +kernel
theorem dX12_doneAll_33 : decode cX12_doneAll 33 = .ok (.iadd, 1) := by decide +kernel
theorem dX12_doneAll_34 : decode cX12_doneAll 34 = .ok (.iaload, 1) := by decide +kernel
theorem dX12_doneAll_35 : decode cX12_doneAll 35 = .ok (.iconst 1, 1) := by decide +kernel
theorem dX12_doneAll_36 : decode cX12_doneAll 36 = .ok (.ishr, 1) := by decide +kernel
theorem dX12_doneAll_37 : decode cX12_doneAll 37 = .ok (.iadd, 1) := by decide +kernel
theorem dX12_doneAll_38 : decode cX12_doneAll 38 = .ok (.iadd, 1) := by decide +kernel
theorem dX12_doneAll_39 : decode cX12_doneAll 39 = .ok (.istore_n 1, 1) := by decide +kernel
theorem dX12_doneAll_40 : decode cX12_doneAll 40 = .ok (.iinc 2 1, 3) := by decide +kernel
theorem dX12_doneAll_43 : decode cX12_doneAll 43 = .ok (.goto (-39), 3) := by decide +kernel
theorem dX12_doneAll_46 : decode cX12_doneAll 46 = .ok (.iload_n 1, 1) := by decide +kernel
theorem dX12_doneAll_47 : decode cX12_doneAll 47 = .ok (.ireturn, 1) := by decide +kernel
set_option maxRecDepth 20000 in
set_option maxHeartbeats 2000000 in
theorem w_X12_doneAll_4 {X : CX} {d : Nat} (hd : 0 ≤ d) {g' : G} {rx : Int32} : ∀ (n : Nat) (l0 : Nat) (l1 : Int32) (l2 : Int32) (g : G), KD g l0 12 → f_X12_doneAll_4 n l0 l1 l2 g = some (rx, g') → SemF X m_X12_doneAll d 4 [(0, .ref (ad X l0)), (1, .int l1), (2, .int l2)] [] g (some (.int rx)) g' := by
  intro n
  induction n with
  | zero =>
    intro l0 l1 l2 g k_l0 h
    rw [f_X12_doneAll_4] at h
    cases h
  | succ n ih =>
  intro l0 l1 l2 g k_l0 h
  rw [f_X12_doneAll_4] at h
  refine SF_iload_n 2 5 dX12_doneAll_4 rfl rfl rfl ?_
  refine SF_aload_n 0 6 dX12_doneAll_5 rfl rfl rfl ?_
  obtain ⟨b1, r2, h⟩ := dr_some h
  refine SF_getR 9 fl_X12_13 dX12_doneAll_6 k_l0.1 r2 rfl ?_
  refine SF_iconst (3 : Int32) 10 dX12_doneAll_9 rfl rfl ?_
  obtain ⟨k3, h⟩ := gdK_some h
  obtain ⟨i4, h⟩ := gdI_some h
  refine SF_iald 11 dX12_doneAll_10 k3.1 i4 rfl ?_
  refine SF_icge 46 14 dX12_doneAll_11 rfl rfl (fun c5 => ?_) (fun c5 => ?_)
  · have h := ite_t c5 h
    refine SF_iload_n 1 47 dX12_doneAll_46 rfl rfl rfl ?_
    exact RT_i rfl dX12_doneAll_47 h
  · have h := ite_f c5 h
    refine SF_iload_n 1 15 dX12_doneAll_14 rfl rfl rfl ?_
    refine SF_aload_n 0 16 dX12_doneAll_15 rfl rfl rfl ?_
    refine SF_getR 19 fl_X12_13 dX12_doneAll_16 k_l0.1 r2 rfl ?_
    refine SF_bipush (100 : Int32) 21 dX12_doneAll_19 rfl rfl ?_
    refine SF_iload_n 2 22 dX12_doneAll_21 rfl rfl rfl ?_
    refine SF_iadd 23 dX12_doneAll_22 rfl ?_
    obtain ⟨i6, h⟩ := gdI_some h
    refine SF_iald 24 dX12_doneAll_23 k3.1 i6 rfl ?_
    refine SF_iconst (1 : Int32) 25 dX12_doneAll_24 rfl rfl ?_
    refine SF_iand 26 dX12_doneAll_25 rfl ?_
    refine SF_aload_n 0 27 dX12_doneAll_26 rfl rfl rfl ?_
    refine SF_getR 30 fl_X12_13 dX12_doneAll_27 k_l0.1 r2 rfl ?_
    refine SF_bipush (100 : Int32) 32 dX12_doneAll_30 rfl rfl ?_
    refine SF_iload_n 2 33 dX12_doneAll_32 rfl rfl rfl ?_
    refine SF_iadd 34 dX12_doneAll_33 rfl ?_
    refine SF_iald 35 dX12_doneAll_34 k3.1 i6 rfl ?_
    refine SF_iconst (1 : Int32) 36 dX12_doneAll_35 rfl rfl ?_
    refine SF_ishr 37 dX12_doneAll_36 rfl ?_
    refine SF_iadd 38 dX12_doneAll_37 rfl ?_
    refine SF_iadd 39 dX12_doneAll_38 rfl ?_
    obtain ⟨y7, e8, h⟩ := li_some h
    refine SF_eqI e8 ?_
    refine SF_istore_n [(1, .int y7), (0, .ref (ad X l0)), (2, .int l2)] 40 dX12_doneAll_39 rfl (by decide) rfl rfl ?_
    refine SF_iinc 2 (l2 + (1 : Int32)) [(2, .int (l2 + (1 : Int32))), (1, .int y7), (0, .ref (ad X l0))] 43 dX12_doneAll_40 rfl rfl (by decide) rfl rfl ?_
    refine SF_goto 4 dX12_doneAll_43 rfl ?_
    refine SF_sub [2, 1, 0] rfl ?_
    exact ih l0 y7 (l2 + (1 : Int32)) g k_l0 h

set_option maxRecDepth 20000 in
set_option maxHeartbeats 2000000 in
theorem w_X12_doneAll {X : CX} {d : Nat} (hd : 0 ≤ d) (l0 : Nat) (g g' : G) (rx : Int32) (k_l0 : KD g l0 12) (h : f_X12_doneAll l0 g = some (rx, g')) : Sem X m_X12_doneAll d [.ref (ad X l0)] g (some (.int rx)) g' := by
  refine Sem_of (lo := [(0, .ref (ad X l0))]) (by decide +kernel) rfl (Nat.le_of_ble_eq_true rfl) ?_
  rw [f_X12_doneAll] at h
  refine SF_iconst (0 : Int32) 1 dX12_doneAll_0 rfl rfl ?_
  refine SF_istore_n [(1, .int (0 : Int32)), (0, .ref (ad X l0))] 2 dX12_doneAll_1 rfl (by decide) rfl rfl ?_
  refine SF_iconst (0 : Int32) 3 dX12_doneAll_2 rfl rfl ?_
  refine SF_istore_n [(2, .int (0 : Int32)), (1, .int (0 : Int32)), (0, .ref (ad X l0))] 4 dX12_doneAll_3 rfl (by decide) rfl rfl ?_
  refine SF_sub [2, 1, 0] rfl ?_
  exact w_X12_doneAll_4 hd FU l0 (0 : Int32) (0 : Int32) g k_l0 h

theorem dX12_isAgain_0 : decode cX12_isAgain 0 = .ok (.iconst 0, 1) := by decide +kernel
theorem dX12_isAgain_1 : decode cX12_isAgain 1 = .ok (.istore_n 1, 1) := by decide +kernel
theorem dX12_isAgain_2 : decode cX12_isAgain 2 = .ok (.iload_n 1, 1) := by decide +kernel
theorem dX12_isAgain_3 : decode cX12_isAgain 3 = .ok (.bipush 51, 2) := by decide +kernel
theorem dX12_isAgain_5 : decode cX12_isAgain 5 = .ok (.if_icmp .ge 24, 3) := by decide +kernel
theorem dX12_isAgain_8 : decode cX12_isAgain 8 = .ok (.aload_n 0, 1) := by decide +kernel
theorem dX12_isAgain_9 : decode cX12_isAgain 9 = .ok (.getfield 13, 3) := by decide +kernel
theorem dX12_isAgain_12 : decode cX12_isAgain 12 = .ok (.bipush 52, 2) := by decide +kernel
theorem dX12_isAgain_14 : decode cX12_isAgain 14 = .ok (.iload_n 1, 1) := by decide +kernel
theorem dX12_isAgain_15 : decode cX12_isAgain 15 = .ok (.iadd, 1) := by decide +kernel
theorem dX12_isAgain_16 : decode cX12_isAgain 16 = .ok (.aload_n 0, 1) := by decide +kernel
theorem dX12_isAgain_17 : decode cX12_isAgain 17 = .ok (.getfield 36, 3) := by decide +kernel
theorem dX12_isAgain_20 : decode cX12_isAgain 20 = .ok (.iload_n 1, 1) := by decide +kernel
theorem dX12_isAgain_21 : decode cX12_isAgain 21 = .ok (.iaload, 1) := by decide +kernel
theorem dX12_isAgain_22 : decode cX12_isAgain 22 = .ok (.iastore, 1) := by decide +kernel
theorem dX12_isAgain_23 : decode cX12_isAgain 23 = .ok (.iinc 1 1, 3) := by decide +kernel
theorem dX12_isAgain_26 : decode cX12_isAgain 26 = .ok (.goto (-24), 3) := by decide +kernel
theorem dX12_isAgain_29 : decode cX12_isAgain 29 = .ok (.return_, 1) := by decide +kernel
set_option maxRecDepth 20000 in
set_option maxHeartbeats 2000000 in
theorem w_X12_isAgain_2 {X : CX} {d : Nat} (hd : 0 ≤ d) {g' : G} {rx : Unit} : ∀ (n : Nat) (l0 : Nat) (l1 : Int32) (g : G), KD g l0 12 → f_X12_isAgain_2 n l0 l1 g = some (rx, g') → SemF X m_X12_isAgain d 2 [(0, .ref (ad X l0)), (1, .int l1)] [] g none g' := by
  intro n
  induction n with
  | zero =>
    intro l0 l1 g k_l0 h
    rw [f_X12_isAgain_2] at h
    cases h
  | succ n ih =>
  intro l0 l1 g k_l0 h
  rw [f_X12_isAgain_2] at h
  refine SF_iload_n 1 3 dX12_isAgain_2 rfl rfl rfl ?_
  refine SF_bipush (51 : Int32) 5 dX12_isAgain_3 rfl rfl ?_
  refine SF_icge 29 8 dX12_isAgain_5 rfl rfl (fun c1 => ?_) (fun c1 => ?_)
  · have h := ite_t c1 h
    exact RT_v rfl dX12_isAgain_29 h
  · have h := ite_f c1 h
    refine SF_aload_n 0 9 dX12_isAgain_8 rfl rfl rfl ?_
    obtain ⟨b2, r3, h⟩ := dr_some h
    refine SF_getR 12 fl_X12_13 dX12_isAgain_9 k_l0.1 r3 rfl ?_
    refine SF_bipush (52 : Int32) 14 dX12_isAgain_12 rfl rfl ?_
    refine SF_iload_n 1 15 dX12_isAgain_14 rfl rfl rfl ?_
    refine SF_iadd 16 dX12_isAgain_15 rfl ?_
    refine SF_aload_n 0 17 dX12_isAgain_16 rfl rfl rfl ?_
    obtain ⟨b4, r5, h⟩ := dr_some h
    refine SF_getR 20 fl_X12_36 dX12_isAgain_17 k_l0.1 r5 rfl ?_
    refine SF_iload_n 1 21 dX12_isAgain_20 rfl rfl rfl ?_
    obtain ⟨k6, h⟩ := gdK_some h
    obtain ⟨i7, h⟩ := gdI_some h
    refine SF_iald 22 dX12_isAgain_21 k6.1 i7 rfl ?_
    obtain ⟨k8, h⟩ := gdK_some h
    obtain ⟨i9, h⟩ := gdI_some h
    refine SF_iast 23 dX12_isAgain_22 k8.1 i9 rfl ?_
    obtain ⟨g10, e11, h⟩ := lg_some h
    rw [← e11]
    have k_l0 := KD.eq e11 k_l0
    have k6 := KD.eq e11 k6
    have k8 := KD.eq e11 k8
    have r3 := gR_eq e11 r3
    have r5 := gR_eq e11 r5
    have i7 := vp_eq e11 i7
    have i9 := vp_eq e11 i9
    refine SF_iinc 1 (l1 + (1 : Int32)) [(1, .int (l1 + (1 : Int32))), (0, .ref (ad X l0))] 26 dX12_isAgain_23 rfl rfl (by decide) rfl rfl ?_
    refine SF_goto 2 dX12_isAgain_26 rfl ?_
    refine SF_sub [1, 0] rfl ?_
    exact ih l0 (l1 + (1 : Int32)) g10 k_l0 h

set_option maxRecDepth 20000 in
set_option maxHeartbeats 2000000 in
theorem w_X12_isAgain {X : CX} {d : Nat} (hd : 0 ≤ d) (l0 : Nat) (g g' : G) (rx : Unit) (k_l0 : KD g l0 12) (h : f_X12_isAgain l0 g = some (rx, g')) : Sem X m_X12_isAgain d [.ref (ad X l0)] g none g' := by
  refine Sem_of (lo := [(0, .ref (ad X l0))]) (by decide +kernel) rfl (Nat.le_of_ble_eq_true rfl) ?_
  rw [f_X12_isAgain] at h
  refine SF_iconst (0 : Int32) 1 dX12_isAgain_0 rfl rfl ?_
  refine SF_istore_n [(1, .int (0 : Int32)), (0, .ref (ad X l0))] 2 dX12_isAgain_1 rfl (by decide) rfl rfl ?_
  refine SF_sub [1, 0] rfl ?_
  exact w_X12_isAgain_2 hd FU l0 (0 : Int32) g k_l0 h

theorem dX12_judge_0 : decode cX12_judge 0 = .ok (.aload_n 0, 1) := by decide +kernel
theorem dX12_judge_1 : decode cX12_judge 1 = .ok (.iconst 0, 1) := by decide +kernel
theorem dX12_judge_2 : decode cX12_judge 2 = .ok (.putfield 1, 3) := by decide +kernel
theorem dX12_judge_5 : decode cX12_judge 5 = .ok (.iload_n 2, 1) := by decide +kernel
theorem dX12_judge_6 : decode cX12_judge 6 = .ok (.i2l, 1) := by decide +kernel
theorem dX12_judge_7 : decode cX12_judge 7 = .ok (.lconst 0, 1) := by decide +kernel
theorem dX12_judge_8 : decode cX12_judge 8 = .ok (.ldc2_w 259, 3) := by decide +kernel
theorem dX12_judge_11 : decode cX12_judge 11 = .ok (.invokestatic 139, 3) := by decide +kernel
theorem dX12_judge_14 : decode cX12_judge 14 = .ok (.ifCond .ne 6, 3) := by decide +kernel
theorem dX12_judge_17 : decode cX12_judge 17 = .ok (.bipush (-2), 2) := by decide +kernel
theorem dX12_judge_19 : decode cX12_judge 19 = .ok (.ireturn, 1) := by decide +kernel
theorem dX12_judge_20 : decode cX12_judge 20 = .ok (.aload_n 0, 1) := by decide +kernel
theorem dX12_judge_21 : decode cX12_judge 21 = .ok (.iload_n 1, 1) := by decide +kernel
theorem dX12_judge_22 : decode cX12_judge 22 = .ok (.invokevirtual 320, 3) := by decide +kernel
theorem dX12_judge_25 : decode cX12_judge 25 = .ok (.istore_n 3, 1) := by decide +kernel
theorem dX12_judge_26 : decode cX12_judge 26 = .ok (.iload_n 3, 1) := by decide +kernel
theorem dX12_judge_27 : decode cX12_judge 27 = .ok (.ifCond .eq 5, 3) := by decide +kernel
theorem dX12_judge_30 : decode cX12_judge 30 = .ok (.iload_n 3, 1) := by decide +kernel
theorem dX12_judge_31 : decode cX12_judge 31 = .ok (.ireturn, 1) := by decide +kernel
theorem dX12_judge_32 : decode cX12_judge 32 = .ok (.aload_n 0, 1) := by decide +kernel
theorem dX12_judge_33 : decode cX12_judge 33 = .ok (.invokevirtual 281, 3) := by decide +kernel
theorem dX12_judge_36 : decode cX12_judge 36 = .ok (.aload_n 0, 1) := by decide +kernel
theorem dX12_judge_37 : decode cX12_judge 37 = .ok (.iload_n 1, 1) := by decide +kernel
theorem dX12_judge_38 : decode cX12_judge 38 = .ok (.invokevirtual 323, 3) := by decide +kernel
theorem dX12_judge_41 : decode cX12_judge 41 = .ok (.istore 4, 2) := by decide +kernel
theorem dX12_judge_43 : decode cX12_judge 43 = .ok (.aload_n 0, 1) := by decide +kernel
theorem dX12_judge_44 : decode cX12_judge 44 = .ok (.invokevirtual 326, 3) := by decide +kernel
theorem dX12_judge_47 : decode cX12_judge 47 = .ok (.istore 5, 2) := by decide +kernel
theorem dX12_judge_49 : decode cX12_judge 49 = .ok (.aload_n 0, 1) := by decide +kernel
theorem dX12_judge_50 : decode cX12_judge 50 = .ok (.invokevirtual 329, 3) := by decide +kernel
theorem dX12_judge_53 : decode cX12_judge 53 = .ok (.iload_n 2, 1) := by decide +kernel
theorem dX12_judge_54 : decode cX12_judge 54 = .ok (.ifCond .ne 19, 3) := by decide +kernel
theorem dX12_judge_57 : decode cX12_judge 57 = .ok (.aload_n 0, 1) := by decide +kernel
theorem dX12_judge_58 : decode cX12_judge 58 = .ok (.getfield 311, 3) := by decide +kernel
theorem dX12_judge_61 : decode cX12_judge 61 = .ok (.ifCond .ne 7, 3) := by decide +kernel
theorem dX12_judge_64 : decode cX12_judge 64 = .ok (.iconst (-1), 1) := by decide +kernel
theorem dX12_judge_65 : decode cX12_judge 65 = .ok (.goto 34, 3) := by decide +kernel
theorem dX12_judge_68 : decode cX12_judge 68 = .ok (.iload 4, 2) := by decide +kernel
theorem dX12_judge_70 : decode cX12_judge 70 = .ok (.goto 29, 3) := by decide +kernel
theorem dX12_judge_73 : decode cX12_judge 73 = .ok (.iload_n 2, 1) := by decide +kernel
theorem dX12_judge_74 : decode cX12_judge 74 = .ok (.iconst 1, 1) := by decide +kernel
theorem dX12_judge_75 : decode cX12_judge 75 = .ok (.if_icmp .ne 10, 3) := by decide +kernel
theorem dX12_judge_78 : decode cX12_judge 78 = .ok (.aload_n 0, 1) := by decide +kernel
theorem dX12_judge_79 : decode cX12_judge 79 = .ok (.getfield 311, 3) := by decide +kernel
theorem dX12_judge_82 : decode cX12_judge 82 = .ok (.goto 17, 3) := by decide +kernel
theorem dX12_judge_85 : decode cX12_judge 85 = .ok (.iload_n 2, 1) := by decide +kernel
theorem dX12_judge_86 : decode cX12_judge 86 = .ok (.iconst 2, 1) := by decide +kernel
theorem dX12_judge_87 : decode cX12_judge 87 = .ok (.if_icmp .ne 8, 3) := by decide +kernel
theorem dX12_judge_90 : decode cX12_judge 90 = .ok (.iload 5, 2) := by decide +kernel
theorem dX12_judge_92 : decode cX12_judge 92 = .ok (.goto 7, 3) := by decide +kernel
theorem dX12_judge_95 : decode cX12_judge 95 = .ok (.aload_n 0, 1) := by decide +kernel
theorem dX12_judge_96 : decode cX12_judge 96 = .ok (.getfield 278, 3) := by decide +kernel
theorem dX12_judge_99 : decode cX12_judge 99 = .ok (.ireturn, 1) := by decide +kernel
set_option maxRecDepth 20000 in
set_option maxHeartbeats 2000000 in
theorem w_X12_judge {X : CX} {d : Nat} (hd : 8 ≤ d) (l0 : Nat) (l1 : Int32) (l2 : Int32) (g g' : G) (rx : Int32) (k_l0 : KD g l0 12) (h : f_X12_judge l0 l1 l2 g = some (rx, g')) : Sem X m_X12_judge d [.ref (ad X l0), .int l1, .int l2] g (some (.int rx)) g' := by
  refine Sem_of (lo := [(0, .ref (ad X l0)), (1, .int l1), (2, .int l2)]) (by decide +kernel) rfl (Nat.le_of_ble_eq_true rfl) ?_
  rw [f_X12_judge] at h
  refine SF_aload_n 0 1 dX12_judge_0 rfl rfl rfl ?_
  refine SF_iconst (0 : Int32) 2 dX12_judge_1 rfl rfl ?_
  refine SF_putI 5 fl_X12_1 dX12_judge_2 k_l0.1 (fn_int _) (Or.inl rfl) rfl ?_
  obtain ⟨g1, e2, h⟩ := lg_some h
  rw [← e2]
  have k_l0 := KD.eq e2 k_l0
  refine SF_iload_n 2 6 dX12_judge_5 rfl rfl rfl ?_
  refine SF_i2l 7 dX12_judge_6 rfl ?_
  refine SF_lconst (0 : Int64) 8 dX12_judge_7 rfl rfl ?_
  refine SF_ldc2 11 dX12_judge_8 kl_X12_259 rfl ?_
  obtain ⟨v3, g4, q5, h⟩ := bd_some h
  have s6 := w_X12_within (X := X) (Nat.le_refl 0) (l2.toInt64) (0 : Int64) (3 : Int64) g1 g4 v3 q5
  refine SF_callSb 14 mi_X12_within ml_X12_139 dX12_judge_11 (Nat.le_trans (by decide) hd) s6 rfl rfl (Nat.le_of_ble_eq_true rfl) rfl ?_
  have k_l0 := k_l0.ext s6.1
  refine SF_ifne 20 17 dX12_judge_14 rfl rfl (fun c7 => ?_) (fun c7 => ?_)
  · have h := ite_f c7 h
    refine SF_aload_n 0 21 dX12_judge_20 rfl rfl rfl ?_
    refine SF_iload_n 1 22 dX12_judge_21 rfl rfl rfl ?_
    obtain ⟨v8, g9, q10, h⟩ := bd_some h
    have s11 := w_X12_noTray (X := X) (Nat.le_refl 1) l0 l1 g4 g9 v8 k_l0 q10
    refine SF_callVi 25 mi_X12_noTray ml_X12_320 dX12_judge_22 (Nat.le_trans (by decide) hd) s11 k_l0.1 rfl rfl (Nat.le_of_ble_eq_true rfl) rfl ?_
    have k_l0 := k_l0.ext s11.1
    refine SF_istore_n [(3, .int v8), (0, .ref (ad X l0)), (1, .int l1), (2, .int l2)] 26 dX12_judge_25 rfl (by decide) rfl rfl ?_
    refine SF_iload_n 0 27 dX12_judge_26 rfl rfl rfl ?_
    refine SF_ifeq 32 30 dX12_judge_27 rfl rfl (fun c12 => ?_) (fun c12 => ?_)
    · have h := ite_t c12 h
      refine SF_aload_n 1 33 dX12_judge_32 rfl rfl rfl ?_
      obtain ⟨v13, g14, q15, h⟩ := bd_some h
      have s16 := w_X12_keeps (X := X) (Nat.le_refl 0) l0 g9 g14 v13 k_l0 q15
      refine SF_callVv 36 mi_X12_keeps ml_X12_281 dX12_judge_33 (Nat.le_trans (by decide) hd) s16 k_l0.1 rfl rfl (Nat.le_of_ble_eq_true rfl) rfl ?_
      have k_l0 := k_l0.ext s16.1
      refine SF_aload_n 1 37 dX12_judge_36 rfl rfl rfl ?_
      refine SF_iload_n 2 38 dX12_judge_37 rfl rfl rfl ?_
      obtain ⟨v17, g18, q19, h⟩ := bd_some h
      have s20 := w_X12_tells (X := X) (Nat.le_refl 7) l0 l1 g14 g18 v17 k_l0 q19
      refine SF_callVi 41 mi_X12_tells ml_X12_323 dX12_judge_38 (Nat.le_trans (by decide) hd) s20 k_l0.1 rfl rfl (Nat.le_of_ble_eq_true rfl) rfl ?_
      have k_l0 := k_l0.ext s20.1
      refine SF_istore [(4, .int v17), (3, .int v8), (0, .ref (ad X l0)), (1, .int l1), (2, .int l2)] 43 dX12_judge_41 (by decide) rfl rfl ?_
      refine SF_aload_n 2 44 dX12_judge_43 rfl rfl rfl ?_
      obtain ⟨v21, g22, q23, h⟩ := bd_some h
      have s24 := w_X12_doneAll (X := X) (Nat.le_refl 0) l0 g18 g22 v21 k_l0 q23
      refine SF_callVi 47 mi_X12_doneAll ml_X12_326 dX12_judge_44 (Nat.le_trans (by decide) hd) s24 k_l0.1 rfl rfl (Nat.le_of_ble_eq_true rfl) rfl ?_
      have k_l0 := k_l0.ext s24.1
      refine SF_istore [(5, .int v21), (4, .int v17), (3, .int v8), (0, .ref (ad X l0)), (1, .int l1), (2, .int l2)] 49 dX12_judge_47 (by decide) rfl rfl ?_
      refine SF_aload_n 3 50 dX12_judge_49 rfl rfl rfl ?_
      obtain ⟨v25, g26, q27, h⟩ := bd_some h
      have s28 := w_X12_isAgain (X := X) (Nat.le_refl 0) l0 g22 g26 v25 k_l0 q27
      refine SF_callVv 53 mi_X12_isAgain ml_X12_329 dX12_judge_50 (Nat.le_trans (by decide) hd) s28 k_l0.1 rfl rfl (Nat.le_of_ble_eq_true rfl) rfl ?_
      have k_l0 := k_l0.ext s28.1
      refine SF_iload_n 5 54 dX12_judge_53 rfl rfl rfl ?_
      refine SF_ifne 73 57 dX12_judge_54 rfl rfl (fun c29 => ?_) (fun c29 => ?_)
      · have h := ite_f c29 h
        refine SF_iload_n 5 74 dX12_judge_73 rfl rfl rfl ?_
        refine SF_iconst (1 : Int32) 75 dX12_judge_74 rfl rfl ?_
        refine SF_icne 85 78 dX12_judge_75 rfl rfl (fun c30 => ?_) (fun c30 => ?_)
        · have h := ite_f c30 h
          refine SF_iload_n 5 86 dX12_judge_85 rfl rfl rfl ?_
          refine SF_iconst (2 : Int32) 87 dX12_judge_86 rfl rfl ?_
          refine SF_icne 95 90 dX12_judge_87 rfl rfl (fun c31 => ?_) (fun c31 => ?_)
          · have h := ite_f c31 h
            refine SF_aload_n 3 96 dX12_judge_95 rfl rfl rfl ?_
            refine SF_getI 99 fl_X12_278 dX12_judge_96 k_l0.1 rfl ?_
            exact RT_i rfl dX12_judge_99 h
          · have h := ite_t c31 h
            refine SF_iload 0 92 dX12_judge_90 rfl rfl ?_
            refine SF_goto 99 dX12_judge_92 rfl ?_
            exact RT_i rfl dX12_judge_99 h
        · have h := ite_t c30 h
          refine SF_aload_n 3 79 dX12_judge_78 rfl rfl rfl ?_
          refine SF_getI 82 fl_X12_311 dX12_judge_79 k_l0.1 rfl ?_
          refine SF_goto 99 dX12_judge_82 rfl ?_
          exact RT_i rfl dX12_judge_99 h
      · have h := ite_t c29 h
        refine SF_aload_n 3 58 dX12_judge_57 rfl rfl rfl ?_
        refine SF_getI 61 fl_X12_311 dX12_judge_58 k_l0.1 rfl ?_
        refine SF_ifne 68 64 dX12_judge_61 rfl rfl (fun c32 => ?_) (fun c32 => ?_)
        · have h := ite_f c32 h
          refine SF_iload 1 70 dX12_judge_68 rfl rfl ?_
          refine SF_goto 99 dX12_judge_70 rfl ?_
          exact RT_i rfl dX12_judge_99 h
        · have h := ite_t c32 h
          refine SF_iconst (-1 : Int32) 65 dX12_judge_64 rfl rfl ?_
          refine SF_goto 99 dX12_judge_65 rfl ?_
          exact RT_i rfl dX12_judge_99 h
    · have h := ite_f c12 h
      refine SF_iload_n 0 31 dX12_judge_30 rfl rfl rfl ?_
      exact RT_i rfl dX12_judge_31 h
  · have h := ite_t c7 h
    refine SF_bipush (-2 : Int32) 19 dX12_judge_17 rfl rfl ?_
    exact RT_i rfl dX12_judge_19 h

theorem dX11_perform_0 : decode cX11_perform 0 = .ok (.iload_n 1, 1) := by decide +kernel
theorem dX11_perform_1 : decode cX11_perform 1 = .ok (.invokestatic 219, 3) := by decide +kernel
theorem dX11_perform_4 : decode cX11_perform 4 = .ok (.ifCond .ne 6, 3) := by decide +kernel
theorem dX11_perform_7 : decode cX11_perform 7 = .ok (.bipush (-2), 2) := by decide +kernel
theorem dX11_perform_9 : decode cX11_perform 9 = .ok (.ireturn, 1) := by decide +kernel
theorem dX11_perform_10 : decode cX11_perform 10 = .ok (.aload_n 0, 1) := by decide +kernel
theorem dX11_perform_11 : decode cX11_perform 11 = .ok (.getfield 60, 3) := by decide +kernel
theorem dX11_perform_14 : decode cX11_perform 14 = .ok (.iload_n 1, 1) := by decide +kernel
theorem dX11_perform_15 : decode cX11_perform 15 = .ok (.aaload, 1) := by decide +kernel
theorem dX11_perform_16 : decode cX11_perform 16 = .ok (.astore_n 2, 1) := by decide +kernel
theorem dX11_perform_17 : decode cX11_perform 17 = .ok (.aload_n 2, 1) := by decide +kernel
theorem dX11_perform_18 : decode cX11_perform 18 = .ok (.invokevirtual 222, 3) := by decide +kernel
theorem dX11_perform_21 : decode cX11_perform 21 = .ok (.ifCond .eq 6, 3) := by decide +kernel
theorem dX11_perform_24 : decode cX11_perform 24 = .ok (.bipush (-6), 2) := by decide +kernel
theorem dX11_perform_26 : decode cX11_perform 26 = .ok (.ireturn, 1) := by decide +kernel
theorem dX11_perform_27 : decode cX11_perform 27 = .ok (.aload_n 0, 1) := by decide +kernel
theorem dX11_perform_28 : decode cX11_perform 28 = .ok (.getfield 82, 3) := by decide +kernel
theorem dX11_perform_31 : decode cX11_perform 31 = .ok (.aload_n 0, 1) := by decide +kernel
theorem dX11_perform_32 : decode cX11_perform 32 = .ok (.getfield 78, 3) := by decide +kernel
theorem dX11_perform_35 : decode cX11_perform 35 = .ok (.invokevirtual 126, 3) := by decide +kernel
theorem dX11_perform_38 : decode cX11_perform 38 = .ok (.iconst 0, 1) := by decide +kernel
theorem dX11_perform_39 : decode cX11_perform 39 = .ok (.istore_n 3, 1) := by decide +kernel
theorem dX11_perform_40 : decode cX11_perform 40 = .ok (.iconst 0, 1) := by decide +kernel
theorem dX11_perform_41 : decode cX11_perform 41 = .ok (.istore 4, 2) := by decide +kernel
theorem dX11_perform_43 : decode cX11_perform 43 = .ok (.iload 4, 2) := by decide +kernel
theorem dX11_perform_45 : decode cX11_perform 45 = .ok (.aload_n 2, 1) := by decide +kernel
theorem dX11_perform_46 : decode cX11_perform 46 = .ok (.getfield 226, 3) := by decide +kernel
theorem dX11_perform_49 : decode cX11_perform 49 = .ok (.if_icmp .ge 35, 3) := by decide +kernel
theorem dX11_perform_52 : decode cX11_perform 52 = .ok (.aload_n 0, 1) := by decide +kernel
theorem dX11_perform_53 : decode cX11_perform 53 = .ok (.getfield 78, 3) := by decide +kernel
theorem dX11_perform_56 : decode cX11_perform 56 = .ok (.aload_n 0, 1) := by decide +kernel
theorem dX11_perform_57 : decode cX11_perform 57 = .ok (.getfield 95, 3) := by decide +kernel
theorem dX11_perform_60 : decode cX11_perform 60 = .ok (.aload_n 2, 1) := by decide +kernel
theorem dX11_perform_61 : decode cX11_perform 61 = .ok (.iload 4, 2) := by decide +kernel
theorem dX11_perform_63 : decode cX11_perform 63 = .ok (.invokevirtual 227, 3) := by decide +kernel
theorem dX11_perform_66 : decode cX11_perform 66 = .ok (.invokevirtual 231, 3) := by decide +kernel
theorem dX11_perform_69 : decode cX11_perform 69 = .ok (.ifCond .ge 6, 3) := by decide +kernel
theorem dX11_perform_72 : decode cX11_perform 72 = .ok (.goto 12, 3) := by decide +kernel
theorem dX11_perform_75 : decode cX11_perform 75 = .ok (.iinc 3 1, 3) := by decide +kernel
theorem dX11_perform_78 : decode cX11_perform 78 = .ok (.iinc 4 1, 3) := by decide +kernel
theorem dX11_perform_81 : decode cX11_perform 81 = .ok (.goto (-38), 3) := by decide +kernel
theorem dX11_perform_84 : decode cX11_perform 84 = .ok (.iload_n 3, 1) := by decide +kernel
theorem dX11_perform_85 : decode cX11_perform 85 = .ok (.ifCond .le 7, 3) := by decide +kernel
theorem dX11_perform_88 : decode cX11_perform 88 = .ok (.aload_n 0, 1) := by decide +kernel
theorem dX11_perform_89 : decode cX11_perform 89 = .ok (.invokevirtual 196, 3) := by decide +kernel
theorem dX11_perform_92 : decode cX11_perform 92 = .ok (.iload_n 3, 1) := by decide +kernel
theorem dX11_perform_93 : decode cX11_perform 93 = .ok (.ireturn, 1) := by decide +kernel
set_option maxRecDepth 20000 in
set_option maxHeartbeats 2000000 in
theorem w_X11_perform_84 {X : CX} {d : Nat} (hd : 7 ≤ d) {g' : G} {rx : Int32} (l0 : Nat) (l3 : Int32) (g : G) (k_l0 : KD g l0 11) (h : f_X11_perform_84 l0 l3 g = some (rx, g')) : SemF X m_X11_perform d 84 [(0, .ref (ad X l0)), (3, .int l3)] [] g (some (.int rx)) g' := by
  rw [f_X11_perform_84] at h
  refine SF_iload_n 1 85 dX11_perform_84 rfl rfl rfl ?_
  refine SF_ifle 92 88 dX11_perform_85 rfl rfl (fun c1 => ?_) (fun c1 => ?_)
  · have h := ite_t c1 h
    refine SF_iload_n 1 93 dX11_perform_92 rfl rfl rfl ?_
    exact RT_i rfl dX11_perform_93 h
  · have h := ite_f c1 h
    refine SF_aload_n 0 89 dX11_perform_88 rfl rfl rfl ?_
    obtain ⟨v2, g3, q4, h⟩ := bd_some h
    have s5 := w_X11_keepSpare (X := X) (Nat.le_refl 3) l0 g g3 v2 k_l0 q4
    refine SF_callVv 92 mi_X11_keepSpare ml_X11_196 dX11_perform_89 (Nat.le_trans (by decide) hd) s5 k_l0.1 rfl rfl (Nat.le_of_ble_eq_true rfl) rfl ?_
    have k_l0 := k_l0.ext s5.1
    refine SF_iload_n 1 93 dX11_perform_92 rfl rfl rfl ?_
    exact RT_i rfl dX11_perform_93 h

set_option maxRecDepth 20000 in
set_option maxHeartbeats 2000000 in
theorem w_X11_perform_43 {X : CX} {d : Nat} (hd : 7 ≤ d) {g' : G} {rx : Int32} : ∀ (n : Nat) (l0 : Nat) (l2 : Nat) (l3 : Int32) (l4 : Int32) (g : G), KD g l0 11 → KD g l2 10 → f_X11_perform_43 n l0 l2 l3 l4 g = some (rx, g') → SemF X m_X11_perform d 43 [(0, .ref (ad X l0)), (2, .ref (ad X l2)), (3, .int l3), (4, .int l4)] [] g (some (.int rx)) g' := by
  intro n
  induction n with
  | zero =>
    intro l0 l2 l3 l4 g k_l0 k_l2 h
    rw [f_X11_perform_43] at h
    cases h
  | succ n ih =>
  intro l0 l2 l3 l4 g k_l0 k_l2 h
  rw [f_X11_perform_43] at h
  refine SF_iload 3 45 dX11_perform_43 rfl rfl ?_
  refine SF_aload_n 1 46 dX11_perform_45 rfl rfl rfl ?_
  refine SF_getI 49 fl_X11_226 dX11_perform_46 k_l2.1 rfl ?_
  refine SF_icge 84 52 dX11_perform_49 rfl rfl (fun c1 => ?_) (fun c1 => ?_)
  · have h := ite_t c1 h
    refine SF_sub [0, 2] rfl ?_
    exact w_X11_perform_84 hd l0 l3 g k_l0 h
  · have h := ite_f c1 h
    refine SF_aload_n 0 53 dX11_perform_52 rfl rfl rfl ?_
    obtain ⟨b2, r3, h⟩ := dr_some h
    refine SF_getR 56 fl_X11_78 dX11_perform_53 k_l0.1 r3 rfl ?_
    refine SF_aload_n 0 57 dX11_perform_56 rfl rfl rfl ?_
    obtain ⟨b4, r5, h⟩ := dr_some h
    refine SF_getR 60 fl_X11_95 dX11_perform_57 k_l0.1 r5 rfl ?_
    refine SF_aload_n 1 61 dX11_perform_60 rfl rfl rfl ?_
    refine SF_iload 3 63 dX11_perform_61 rfl rfl ?_
    obtain ⟨v6, g7, q8, h⟩ := bd_some h
    have s9 := w_X10_at (X := X) (Nat.le_refl 0) l2 l4 g g7 v6 k_l2 q8
    refine SF_callVl 66 mi_X10_at ml_X11_227 dX11_perform_63 (Nat.le_trans (by decide) hd) s9 k_l2.1 rfl rfl (Nat.le_of_ble_eq_true rfl) rfl ?_
    have k_l0 := k_l0.ext s9.1
    have k_l2 := k_l2.ext s9.1
    obtain ⟨k10, h⟩ := gdK_some h
    obtain ⟨k11, h⟩ := gdK_some h
    obtain ⟨v12, g13, q14, h⟩ := bd_some h
    have s15 := w_X0_act (X := X) (Nat.le_refl 6) b2 b4 v6 g7 g13 v12 k10 k11 q14
    refine SF_callVi 69 mi_X0_act ml_X11_231 dX11_perform_66 (Nat.le_trans (by decide) hd) s15 k10.1 rfl rfl (Nat.le_of_ble_eq_true rfl) rfl ?_
    have k_l0 := k_l0.ext s15.1
    have k_l2 := k_l2.ext s15.1
    have k10 := k10.ext s15.1
    have k11 := k11.ext s15.1
    refine SF_ifge 75 72 dX11_perform_69 rfl rfl (fun c16 => ?_) (fun c16 => ?_)
    · have h := ite_t c16 h
      refine SF_iinc 2 (l3 + (1 : Int32)) [(3, .int (l3 + (1 : Int32))), (0, .ref (ad X l0)), (2, .ref (ad X l2)), (4, .int l4)] 78 dX11_perform_75 rfl rfl (by decide) rfl rfl ?_
      refine SF_iinc 3 (l4 + (1 : Int32)) [(4, .int (l4 + (1 : Int32))), (3, .int (l3 + (1 : Int32))), (0, .ref (ad X l0)), (2, .ref (ad X l2))] 81 dX11_perform_78 rfl rfl (by decide) rfl rfl ?_
      refine SF_goto 43 dX11_perform_81 rfl ?_
      refine SF_sub [2, 3, 1, 0] rfl ?_
      exact ih l0 l2 (l3 + (1 : Int32)) (l4 + (1 : Int32)) g13 k_l0 k_l2 h
    · have h := ite_f c16 h
      refine SF_goto 84 dX11_perform_72 rfl ?_
      refine SF_sub [0, 2] rfl ?_
      exact w_X11_perform_84 hd l0 l3 g13 k_l0 h

set_option maxRecDepth 20000 in
set_option maxHeartbeats 2000000 in
theorem w_X11_perform {X : CX} {d : Nat} (hd : 7 ≤ d) (l0 : Nat) (l1 : Int32) (g g' : G) (rx : Int32) (k_l0 : KD g l0 11) (h : f_X11_perform l0 l1 g = some (rx, g')) : Sem X m_X11_perform d [.ref (ad X l0), .int l1] g (some (.int rx)) g' := by
  refine Sem_of (lo := [(0, .ref (ad X l0)), (1, .int l1)]) (by decide +kernel) rfl (Nat.le_of_ble_eq_true rfl) ?_
  rw [f_X11_perform] at h
  refine SF_iload_n 1 1 dX11_perform_0 rfl rfl rfl ?_
  obtain ⟨v1, g2, q3, h⟩ := bd_some h
  have s4 := w_X11_isTray (X := X) (Nat.le_refl 0) l1 g g2 v1 q3
  refine SF_callSb 4 mi_X11_isTray ml_X11_219 dX11_perform_1 (Nat.le_trans (by decide) hd) s4 rfl rfl (Nat.le_of_ble_eq_true rfl) rfl ?_
  have k_l0 := k_l0.ext s4.1
  refine SF_ifne 10 7 dX11_perform_4 rfl rfl (fun c5 => ?_) (fun c5 => ?_)
  · have h := ite_f c5 h
    refine SF_aload_n 0 11 dX11_perform_10 rfl rfl rfl ?_
    obtain ⟨b6, r7, h⟩ := dr_some h
    refine SF_getR 14 fl_X11_60 dX11_perform_11 k_l0.1 r7 rfl ?_
    refine SF_iload_n 1 15 dX11_perform_14 rfl rfl rfl ?_
    obtain ⟨k8, h⟩ := gdK_some h
    obtain ⟨i9, h⟩ := gdI_some h
    obtain ⟨b10, r11, h⟩ := dr_some h
    refine SF_aald 16 dX11_perform_15 k8.1 (Or.inr (Or.inl rfl)) i9 r11 rfl ?_
    refine SF_astore_n [(2, .ref (ad X b10)), (0, .ref (ad X l0)), (1, .int l1)] 17 dX11_perform_16 rfl (by decide) rfl rfl ?_
    refine SF_aload_n 0 18 dX11_perform_17 rfl rfl rfl ?_
    obtain ⟨k12, h⟩ := gdK_some h
    obtain ⟨v13, g14, q15, h⟩ := bd_some h
    have s16 := w_X10_isMissing (X := X) (Nat.le_refl 0) b10 g2 g14 v13 k12 q15
    refine SF_callVb 21 mi_X10_isMissing ml_X11_222 dX11_perform_18 (Nat.le_trans (by decide) hd) s16 k12.1 rfl rfl (Nat.le_of_ble_eq_true rfl) rfl ?_
    have k_l0 := k_l0.ext s16.1
    have k8 := k8.ext s16.1
    have k12 := k12.ext s16.1
    refine SF_ifeq 27 24 dX11_perform_21 rfl rfl (fun c17 => ?_) (fun c17 => ?_)
    · have h := ite_t c17 h
      refine SF_aload_n 1 28 dX11_perform_27 rfl rfl rfl ?_
      obtain ⟨b18, r19, h⟩ := dr_some h
      refine SF_getR 31 fl_X11_82 dX11_perform_28 k_l0.1 r19 rfl ?_
      refine SF_aload_n 1 32 dX11_perform_31 rfl rfl rfl ?_
      obtain ⟨b20, r21, h⟩ := dr_some h
      refine SF_getR 35 fl_X11_78 dX11_perform_32 k_l0.1 r21 rfl ?_
      obtain ⟨k22, h⟩ := gdK_some h
      obtain ⟨k23, h⟩ := gdK_some h
      obtain ⟨v24, g25, q26, h⟩ := bd_some h
      have s27 := w_X0_copyFrom (X := X) (Nat.le_refl 1) b18 b20 g14 g25 v24 k22 k23 q26
      refine SF_callVv 38 mi_X0_copyFrom ml_X11_126 dX11_perform_35 (Nat.le_trans (by decide) hd) s27 k22.1 rfl rfl (Nat.le_of_ble_eq_true rfl) rfl ?_
      have k_l0 := k_l0.ext s27.1
      have k8 := k8.ext s27.1
      have k12 := k12.ext s27.1
      have k22 := k22.ext s27.1
      have k23 := k23.ext s27.1
      refine SF_iconst (0 : Int32) 39 dX11_perform_38 rfl rfl ?_
      refine SF_istore_n [(3, .int (0 : Int32)), (2, .ref (ad X b10)), (0, .ref (ad X l0)), (1, .int l1)] 40 dX11_perform_39 rfl (by decide) rfl rfl ?_
      refine SF_iconst (0 : Int32) 41 dX11_perform_40 rfl rfl ?_
      refine SF_istore [(4, .int (0 : Int32)), (3, .int (0 : Int32)), (2, .ref (ad X b10)), (0, .ref (ad X l0)), (1, .int l1)] 43 dX11_perform_41 (by decide) rfl rfl ?_
      refine SF_sub [3, 2, 1, 0] rfl ?_
      exact w_X11_perform_43 hd FU l0 b10 (0 : Int32) (0 : Int32) g25 k_l0 k12 h
    · have h := ite_f c17 h
      refine SF_bipush (-6 : Int32) 26 dX11_perform_24 rfl rfl ?_
      exact RT_i rfl dX11_perform_26 h
  · have h := ite_t c5 h
    refine SF_bipush (-2 : Int32) 9 dX11_perform_7 rfl rfl ?_
    exact RT_i rfl dX11_perform_9 h

theorem dX12_perform_0 : decode cX12_perform 0 = .ok (.aload_n 0, 1) := by decide +kernel
theorem dX12_perform_1 : decode cX12_perform 1 = .ok (.iconst 0, 1) := by decide +kernel
theorem dX12_perform_2 : decode cX12_perform 2 = .ok (.putfield 1, 3) := by decide +kernel
theorem dX12_perform_5 : decode cX12_perform 5 = .ok (.aload_n 0, 1) := by decide +kernel
theorem dX12_perform_6 : decode cX12_perform 6 = .ok (.iload_n 1, 1) := by decide +kernel
theorem dX12_perform_7 : decode cX12_perform 7 = .ok (.invokevirtual 320, 3) := by decide +kernel
theorem dX12_perform_10 : decode cX12_perform 10 = .ok (.istore_n 2, 1) := by decide +kernel
theorem dX12_perform_11 : decode cX12_perform 11 = .ok (.iload_n 2, 1) := by decide +kernel
theorem dX12_perform_12 : decode cX12_perform 12 = .ok (.ifCond .eq 5, 3) := by decide +kernel
theorem dX12_perform_15 : decode cX12_perform 15 = .ok (.iload_n 2, 1) := by decide +kernel
theorem dX12_perform_16 : decode cX12_perform 16 = .ok (.ireturn, 1) := by decide +kernel
theorem dX12_perform_17 : decode cX12_perform 17 = .ok (.aload_n 0, 1) := by decide +kernel
theorem dX12_perform_18 : decode cX12_perform 18 = .ok (.invokevirtual 281, 3) := by decide +kernel
theorem dX12_perform_21 : decode cX12_perform 21 = .ok (.aload_n 0, 1) := by decide +kernel
theorem dX12_perform_22 : decode cX12_perform 22 = .ok (.iload_n 1, 1) := by decide +kernel
theorem dX12_perform_23 : decode cX12_perform 23 = .ok (.invokevirtual 323, 3) := by decide +kernel
theorem dX12_perform_26 : decode cX12_perform 26 = .ok (.istore_n 3, 1) := by decide +kernel
theorem dX12_perform_27 : decode cX12_perform 27 = .ok (.iload_n 3, 1) := by decide +kernel
theorem dX12_perform_28 : decode cX12_perform 28 = .ok (.ifCond .le 7, 3) := by decide +kernel
theorem dX12_perform_31 : decode cX12_perform 31 = .ok (.aload_n 0, 1) := by decide +kernel
theorem dX12_perform_32 : decode cX12_perform 32 = .ok (.invokevirtual 288, 3) := by decide +kernel
theorem dX12_perform_35 : decode cX12_perform 35 = .ok (.iload_n 3, 1) := by decide +kernel
theorem dX12_perform_36 : decode cX12_perform 36 = .ok (.ireturn, 1) := by decide +kernel
set_option maxRecDepth 20000 in
set_option maxHeartbeats 2000000 in
theorem w_X12_perform {X : CX} {d : Nat} (hd : 8 ≤ d) (l0 : Nat) (l1 : Int32) (g g' : G) (rx : Int32) (k_l0 : KD g l0 12) (h : f_X12_perform l0 l1 g = some (rx, g')) : Sem X m_X12_perform d [.ref (ad X l0), .int l1] g (some (.int rx)) g' := by
  refine Sem_of (lo := [(0, .ref (ad X l0)), (1, .int l1)]) (by decide +kernel) rfl (Nat.le_of_ble_eq_true rfl) ?_
  rw [f_X12_perform] at h
  refine SF_aload_n 0 1 dX12_perform_0 rfl rfl rfl ?_
  refine SF_iconst (0 : Int32) 2 dX12_perform_1 rfl rfl ?_
  refine SF_putI 5 fl_X12_1 dX12_perform_2 k_l0.1 (fn_int _) (Or.inl rfl) rfl ?_
  obtain ⟨g1, e2, h⟩ := lg_some h
  rw [← e2]
  have k_l0 := KD.eq e2 k_l0
  refine SF_aload_n 0 6 dX12_perform_5 rfl rfl rfl ?_
  refine SF_iload_n 1 7 dX12_perform_6 rfl rfl rfl ?_
  obtain ⟨v3, g4, q5, h⟩ := bd_some h
  have s6 := w_X12_noTray (X := X) (Nat.le_refl 1) l0 l1 g1 g4 v3 k_l0 q5
  refine SF_callVi 10 mi_X12_noTray ml_X12_320 dX12_perform_7 (Nat.le_trans (by decide) hd) s6 k_l0.1 rfl rfl (Nat.le_of_ble_eq_true rfl) rfl ?_
  have k_l0 := k_l0.ext s6.1
  refine SF_istore_n [(2, .int v3), (0, .ref (ad X l0)), (1, .int l1)] 11 dX12_perform_10 rfl (by decide) rfl rfl ?_
  refine SF_iload_n 0 12 dX12_perform_11 rfl rfl rfl ?_
  refine SF_ifeq 17 15 dX12_perform_12 rfl rfl (fun c7 => ?_) (fun c7 => ?_)
  · have h := ite_t c7 h
    refine SF_aload_n 1 18 dX12_perform_17 rfl rfl rfl ?_
    obtain ⟨v8, g9, q10, h⟩ := bd_some h
    have s11 := w_X12_keeps (X := X) (Nat.le_refl 0) l0 g4 g9 v8 k_l0 q10
    refine SF_callVv 21 mi_X12_keeps ml_X12_281 dX12_perform_18 (Nat.le_trans (by decide) hd) s11 k_l0.1 rfl rfl (Nat.le_of_ble_eq_true rfl) rfl ?_
    have k_l0 := k_l0.ext s11.1
    refine SF_aload_n 1 22 dX12_perform_21 rfl rfl rfl ?_
    refine SF_iload_n 2 23 dX12_perform_22 rfl rfl rfl ?_
    obtain ⟨v12, g13, q14, h⟩ := bd_some h
    have s15 := w_X12_tells (X := X) (Nat.le_refl 7) l0 l1 g9 g13 v12 k_l0 q14
    refine SF_callVi 26 mi_X12_tells ml_X12_323 dX12_perform_23 (Nat.le_trans (by decide) hd) s15 k_l0.1 rfl rfl (Nat.le_of_ble_eq_true rfl) rfl ?_
    have k_l0 := k_l0.ext s15.1
    refine SF_istore_n [(3, .int v12), (2, .int v3), (0, .ref (ad X l0)), (1, .int l1)] 27 dX12_perform_26 rfl (by decide) rfl rfl ?_
    refine SF_iload_n 0 28 dX12_perform_27 rfl rfl rfl ?_
    refine SF_ifle 35 31 dX12_perform_28 rfl rfl (fun c16 => ?_) (fun c16 => ?_)
    · have h := ite_t c16 h
      refine SF_iload_n 0 36 dX12_perform_35 rfl rfl rfl ?_
      exact RT_i rfl dX12_perform_36 h
    · have h := ite_f c16 h
      refine SF_aload_n 2 32 dX12_perform_31 rfl rfl rfl ?_
      obtain ⟨v17, g18, q19, h⟩ := bd_some h
      have s20 := w_X12_notes (X := X) (Nat.le_refl 0) l0 g13 g18 v17 k_l0 q19
      refine SF_callVv 35 mi_X12_notes ml_X12_288 dX12_perform_32 (Nat.le_trans (by decide) hd) s20 k_l0.1 rfl rfl (Nat.le_of_ble_eq_true rfl) rfl ?_
      have k_l0 := k_l0.ext s20.1
      refine SF_iload_n 0 36 dX12_perform_35 rfl rfl rfl ?_
      exact RT_i rfl dX12_perform_36 h
  · have h := ite_f c7 h
    refine SF_iload_n 0 16 dX12_perform_15 rfl rfl rfl ?_
    exact RT_i rfl dX12_perform_16 h

theorem dX11_drawn_0 : decode cX11_drawn 0 = .ok (.ldc 246, 2) := by decide +kernel
theorem dX11_drawn_2 : decode cX11_drawn 2 = .ok (.iload_n 0, 1) := by decide +kernel
theorem dX11_drawn_3 : decode cX11_drawn 3 = .ok (.imul, 1) := by decide +kernel
theorem dX11_drawn_4 : decode cX11_drawn 4 = .ok (.sipush 12345, 3) := by decide +kernel
theorem dX11_drawn_7 : decode cX11_drawn 7 = .ok (.iadd, 1) := by decide +kernel
theorem dX11_drawn_8 : decode cX11_drawn 8 = .ok (.ireturn, 1) := by decide +kernel
set_option maxRecDepth 20000 in
set_option maxHeartbeats 2000000 in
theorem w_X11_drawn {X : CX} {d : Nat} (hd : 0 ≤ d) (l0 : Int32) (g g' : G) (rx : Int32) (h : f_X11_drawn l0 g = some (rx, g')) : Sem X m_X11_drawn d [.int l0] g (some (.int rx)) g' := by
  refine Sem_of (lo := [(0, .int l0)]) (by decide +kernel) rfl (Nat.le_of_ble_eq_true rfl) ?_
  rw [f_X11_drawn] at h
  refine SF_ldc 2 dX11_drawn_0 ki_X11_246 rfl ?_
  refine SF_iload_n 0 3 dX11_drawn_2 rfl rfl rfl ?_
  refine SF_imul 4 dX11_drawn_3 rfl ?_
  refine SF_sipush (12345 : Int32) 7 dX11_drawn_4 rfl rfl ?_
  refine SF_iadd 8 dX11_drawn_7 rfl ?_
  exact RT_i rfl dX11_drawn_8 h

theorem dX11_day_0 : decode cX11_day 0 = .ok (.iload_n 2, 1) := by decide +kernel
theorem dX11_day_1 : decode cX11_day 1 = .ok (.iconst 1, 1) := by decide +kernel
theorem dX11_day_2 : decode cX11_day 2 = .ok (.if_icmp .lt 9, 3) := by decide +kernel
theorem dX11_day_5 : decode cX11_day 5 = .ok (.iload_n 2, 1) := by decide +kernel
theorem dX11_day_6 : decode cX11_day 6 = .ok (.bipush 40, 2) := by decide +kernel
theorem dX11_day_8 : decode cX11_day 8 = .ok (.if_icmp .le 6, 3) := by decide +kernel
theorem dX11_day_11 : decode cX11_day 11 = .ok (.bipush (-3), 2) := by decide +kernel
theorem dX11_day_13 : decode cX11_day 13 = .ok (.ireturn, 1) := by decide +kernel
theorem dX11_day_14 : decode cX11_day 14 = .ok (.aload_n 0, 1) := by decide +kernel
theorem dX11_day_15 : decode cX11_day 15 = .ok (.getfield 82, 3) := by decide +kernel
theorem dX11_day_18 : decode cX11_day 18 = .ok (.aload_n 0, 1) := by decide +kernel
theorem dX11_day_19 : decode cX11_day 19 = .ok (.getfield 78, 3) := by decide +kernel
theorem dX11_day_22 : decode cX11_day 22 = .ok (.invokevirtual 126, 3) := by decide +kernel
theorem dX11_day_25 : decode cX11_day 25 = .ok (.iload_n 1, 1) := by decide +kernel
theorem dX11_day_26 : decode cX11_day 26 = .ok (.istore_n 3, 1) := by decide +kernel
theorem dX11_day_27 : decode cX11_day 27 = .ok (.iconst 0, 1) := by decide +kernel
theorem dX11_day_28 : decode cX11_day 28 = .ok (.istore 4, 2) := by decide +kernel
theorem dX11_day_30 : decode cX11_day 30 = .ok (.iconst 0, 1) := by decide +kernel
theorem dX11_day_31 : decode cX11_day 31 = .ok (.istore 5, 2) := by decide +kernel
theorem dX11_day_33 : decode cX11_day 33 = .ok (.iload 5, 2) := by decide +kernel
theorem dX11_day_35 : decode cX11_day 35 = .ok (.iload_n 2, 1) := by decide +kernel
theorem dX11_day_36 : decode cX11_day 36 = .ok (.if_icmp .ge 117, 3) := by decide +kernel
theorem dX11_day_39 : decode cX11_day 39 = .ok (.iload_n 3, 1) := by decide +kernel
theorem dX11_day_40 : decode cX11_day 40 = .ok (.invokestatic 243, 3) := by decide +kernel
theorem dX11_day_43 : decode cX11_day 43 = .ok (.istore_n 3, 1) := by decide +kernel
theorem dX11_day_44 : decode cX11_day 44 = .ok (.iload_n 3, 1) := by decide +kernel
theorem dX11_day_45 : decode cX11_day 45 = .ok (.bipush 16, 2) := by decide +kernel
theorem dX11_day_47 : decode cX11_day 47 = .ok (.iushr, 1) := by decide +kernel
theorem dX11_day_48 : decode cX11_day 48 = .ok (.bipush 6, 2) := by decide +kernel
theorem dX11_day_50 : decode cX11_day 50 = .ok (.irem, 1) := by decide +kernel
theorem dX11_day_51 : decode cX11_day 51 = .ok (.iconst 5, 1) := by decide +kernel
theorem dX11_day_52 : decode cX11_day 52 = .ok (.if_icmp .ne 24, 3) := by decide +kernel
theorem dX11_day_55 : decode cX11_day 55 = .ok (.iload_n 3, 1) := by decide +kernel
theorem dX11_day_56 : decode cX11_day 56 = .ok (.invokestatic 243, 3) := by decide +kernel
theorem dX11_day_59 : decode cX11_day 59 = .ok (.istore_n 3, 1) := by decide +kernel
theorem dX11_day_60 : decode cX11_day 60 = .ok (.sipush 1000, 3) := by decide +kernel
theorem dX11_day_63 : decode cX11_day 63 = .ok (.iload_n 3, 1) := by decide +kernel
theorem dX11_day_64 : decode cX11_day 64 = .ok (.bipush 16, 2) := by decide +kernel
theorem dX11_day_66 : decode cX11_day 66 = .ok (.iushr, 1) := by decide +kernel
theorem dX11_day_67 : decode cX11_day 67 = .ok (.bipush 36, 2) := by decide +kernel
theorem dX11_day_69 : decode cX11_day 69 = .ok (.irem, 1) := by decide +kernel
theorem dX11_day_70 : decode cX11_day 70 = .ok (.iadd, 1) := by decide +kernel
theorem dX11_day_71 : decode cX11_day 71 = .ok (.istore 6, 2) := by decide +kernel
theorem dX11_day_73 : decode cX11_day 73 = .ok (.goto 54, 3) := by decide +kernel
theorem dX11_day_76 : decode cX11_day 76 = .ok (.iload_n 3, 1) := by decide +kernel
theorem dX11_day_77 : decode cX11_day 77 = .ok (.invokestatic 243, 3) := by decide +kernel
theorem dX11_day_80 : decode cX11_day 80 = .ok (.istore_n 3, 1) := by decide +kernel
theorem dX11_day_81 : decode cX11_day 81 = .ok (.iload_n 3, 1) := by decide +kernel
theorem dX11_day_82 : decode cX11_day 82 = .ok (.bipush 16, 2) := by decide +kernel
theorem dX11_day_84 : decode cX11_day 84 = .ok (.iushr, 1) := by decide +kernel
theorem dX11_day_85 : decode cX11_day 85 = .ok (.iconst 2, 1) := by decide +kernel
theorem dX11_day_86 : decode cX11_day 86 = .ok (.irem, 1) := by decide +kernel
theorem dX11_day_87 : decode cX11_day 87 = .ok (.istore 7, 2) := by decide +kernel
theorem dX11_day_89 : decode cX11_day 89 = .ok (.iload_n 3, 1) := by decide +kernel
theorem dX11_day_90 : decode cX11_day 90 = .ok (.invokestatic 243, 3) := by decide +kernel
theorem dX11_day_93 : decode cX11_day 93 = .ok (.istore_n 3, 1) := by decide +kernel
theorem dX11_day_94 : decode cX11_day 94 = .ok (.iload_n 3, 1) := by decide +kernel
theorem dX11_day_95 : decode cX11_day 95 = .ok (.bipush 16, 2) := by decide +kernel
theorem dX11_day_97 : decode cX11_day 97 = .ok (.iushr, 1) := by decide +kernel
theorem dX11_day_98 : decode cX11_day 98 = .ok (.iconst 3, 1) := by decide +kernel
theorem dX11_day_99 : decode cX11_day 99 = .ok (.irem, 1) := by decide +kernel
theorem dX11_day_100 : decode cX11_day 100 = .ok (.istore 8, 2) := by decide +kernel
theorem dX11_day_102 : decode cX11_day 102 = .ok (.iload_n 3, 1) := by decide +kernel
theorem dX11_day_103 : decode cX11_day 103 = .ok (.invokestatic 243, 3) := by decide +kernel
theorem dX11_day_106 : decode cX11_day 106 = .ok (.istore_n 3, 1) := by decide +kernel
theorem dX11_day_107 : decode cX11_day 107 = .ok (.bipush 100, 2) := by decide +kernel
theorem dX11_day_109 : decode cX11_day 109 = .ok (.iload 8, 2) := by decide +kernel
theorem dX11_day_111 : decode cX11_day 111 = .ok (.imul, 1) := by decide +kernel
theorem dX11_day_112 : decode cX11_day 112 = .ok (.bipush 10, 2) := by decide +kernel
theorem dX11_day_114 : decode cX11_day 114 = .ok (.iload 7, 2) := by decide +kernel
theorem dX11_day_116 : decode cX11_day 116 = .ok (.imul, 1) := by decide +kernel
theorem dX11_day_117 : decode cX11_day 117 = .ok (.iadd, 1) := by decide +kernel
theorem dX11_day_118 : decode cX11_day 118 = .ok (.iload_n 3, 1) := by decide +kernel
theorem dX11_day_119 : decode cX11_day 119 = .ok (.bipush 16, 2) := by decide +kernel
theorem dX11_day_121 : decode cX11_day 121 = .ok (.iushr, 1) := by decide +kernel
theorem dX11_day_122 : decode cX11_day 122 = .ok (.iconst 4, 1) := by decide +kernel
theorem dX11_day_123 : decode cX11_day 123 = .ok (.irem, 1) := by decide +kernel
theorem dX11_day_124 : decode cX11_day 124 = .ok (.iadd, 1) := by decide +kernel
theorem dX11_day_125 : decode cX11_day 125 = .ok (.istore 6, 2) := by decide +kernel
theorem dX11_day_127 : decode cX11_day 127 = .ok (.aload_n 0, 1) := by decide +kernel
theorem dX11_day_128 : decode cX11_day 128 = .ok (.getfield 78, 3) := by decide +kernel
theorem dX11_day_131 : decode cX11_day 131 = .ok (.aload_n 0, 1) := by decide +kernel
theorem dX11_day_132 : decode cX11_day 132 = .ok (.getfield 95, 3) := by decide +kernel
theorem dX11_day_135 : decode cX11_day 135 = .ok (.iload 6, 2) := by decide +kernel
theorem dX11_day_137 : decode cX11_day 137 = .ok (.i2l, 1) := by decide +kernel
theorem dX11_day_138 : decode cX11_day 138 = .ok (.invokevirtual 231, 3) := by decide +kernel
theorem dX11_day_141 : decode cX11_day 141 = .ok (.ifCond .lt 6, 3) := by decide +kernel
theorem dX11_day_144 : decode cX11_day 144 = .ok (.iinc 4 1, 3) := by decide +kernel
theorem dX11_day_147 : decode cX11_day 147 = .ok (.iinc 5 1, 3) := by decide +kernel
theorem dX11_day_150 : decode cX11_day 150 = .ok (.goto (-117), 3) := by decide +kernel
theorem dX11_day_153 : decode cX11_day 153 = .ok (.iload 4, 2) := by decide +kernel
theorem dX11_day_155 : decode cX11_day 155 = .ok (.ifCond .le 7, 3) := by decide +kernel
theorem dX11_day_158 : decode cX11_day 158 = .ok (.aload_n 0, 1) := by decide +kernel
theorem dX11_day_159 : decode cX11_day 159 = .ok (.invokevirtual 196, 3) := by decide +kernel
theorem dX11_day_162 : decode cX11_day 162 = .ok (.iload 4, 2) := by decide +kernel
theorem dX11_day_164 : decode cX11_day 164 = .ok (.ireturn, 1) := by decide +kernel
set_option maxRecDepth 20000 in
set_option maxHeartbeats 2000000 in
theorem w_X11_day_147 {X : CX} {d : Nat} (hd : 7 ≤ d) {g' : G} {rx : Int32} (k33 : Nat → Int32 → Int32 → Int32 → Int32 → G → Option (Int32 × G)) (hk33 : ∀ (l0 : Nat) (l2 : Int32) (l3 : Int32) (l4 : Int32) (l5 : Int32) (g : G), KD g l0 11 → k33 l0 l2 l3 l4 l5 g = some (rx, g') → SemF X m_X11_day d 33 [(0, .ref (ad X l0)), (2, .int l2), (3, .int l3), (4, .int l4), (5, .int l5)] [] g (some (.int rx)) g') (l0 : Nat) (l2 : Int32) (l3 : Int32) (l4 : Int32) (l5 : Int32) (g : G) (k_l0 : KD g l0 11) (h : f_X11_day_147 k33 l0 l2 l3 l4 l5 g = some (rx, g')) : SemF X m_X11_day d 147 [(0, .ref (ad X l0)), (2, .int l2), (3, .int l3), (4, .int l4), (5, .int l5)] [] g (some (.int rx)) g' := by
  rw [f_X11_day_147] at h
  refine SF_iinc 4 (l5 + (1 : Int32)) [(5, .int (l5 + (1 : Int32))), (0, .ref (ad X l0)), (2, .int l2), (3, .int l3), (4, .int l4)] 150 dX11_day_147 rfl rfl (by decide) rfl rfl ?_
  refine SF_goto 33 dX11_day_150 rfl ?_
  refine SF_sub [1, 2, 3, 4, 0] rfl ?_
  exact hk33 l0 l2 l3 l4 (l5 + (1 : Int32)) g k_l0 h

set_option maxRecDepth 20000 in
set_option maxHeartbeats 2000000 in
theorem w_X11_day_127 {X : CX} {d : Nat} (hd : 7 ≤ d) {g' : G} {rx : Int32} (k33 : Nat → Int32 → Int32 → Int32 → Int32 → G → Option (Int32 × G)) (hk33 : ∀ (l0 : Nat) (l2 : Int32) (l3 : Int32) (l4 : Int32) (l5 : Int32) (g : G), KD g l0 11 → k33 l0 l2 l3 l4 l5 g = some (rx, g') → SemF X m_X11_day d 33 [(0, .ref (ad X l0)), (2, .int l2), (3, .int l3), (4, .int l4), (5, .int l5)] [] g (some (.int rx)) g') (l0 : Nat) (l2 : Int32) (l3 : Int32) (l4 : Int32) (l5 : Int32) (l6 : Int32) (g : G) (k_l0 : KD g l0 11) (h : f_X11_day_127 k33 l0 l2 l3 l4 l5 l6 g = some (rx, g')) : SemF X m_X11_day d 127 [(0, .ref (ad X l0)), (2, .int l2), (3, .int l3), (4, .int l4), (5, .int l5), (6, .int l6)] [] g (some (.int rx)) g' := by
  rw [f_X11_day_127] at h
  refine SF_aload_n 0 128 dX11_day_127 rfl rfl rfl ?_
  obtain ⟨b1, r2, h⟩ := dr_some h
  refine SF_getR 131 fl_X11_78 dX11_day_128 k_l0.1 r2 rfl ?_
  refine SF_aload_n 0 132 dX11_day_131 rfl rfl rfl ?_
  obtain ⟨b3, r4, h⟩ := dr_some h
  refine SF_getR 135 fl_X11_95 dX11_day_132 k_l0.1 r4 rfl ?_
  refine SF_iload 5 137 dX11_day_135 rfl rfl ?_
  refine SF_i2l 138 dX11_day_137 rfl ?_
  obtain ⟨k5, h⟩ := gdK_some h
  obtain ⟨k6, h⟩ := gdK_some h
  obtain ⟨v7, g8, q9, h⟩ := bd_some h
  have s10 := w_X0_act (X := X) (Nat.le_refl 6) b1 b3 (l6.toInt64) g g8 v7 k5 k6 q9
  refine SF_callVi 141 mi_X0_act ml_X11_231 dX11_day_138 (Nat.le_trans (by decide) hd) s10 k5.1 rfl rfl (Nat.le_of_ble_eq_true rfl) rfl ?_
  have k_l0 := k_l0.ext s10.1
  have k5 := k5.ext s10.1
  have k6 := k6.ext s10.1
  refine SF_iflt 147 144 dX11_day_141 rfl rfl (fun c11 => ?_) (fun c11 => ?_)
  · have h := ite_t c11 h
    refine SF_sub [0, 1, 2, 3, 4] rfl ?_
    exact w_X11_day_147 hd k33 hk33 l0 l2 l3 l4 l5 g8 k_l0 h
  · have h := ite_f c11 h
    refine SF_iinc 3 (l4 + (1 : Int32)) [(4, .int (l4 + (1 : Int32))), (0, .ref (ad X l0)), (2, .int l2), (3, .int l3), (5, .int l5), (6, .int l6)] 147 dX11_day_144 rfl rfl (by decide) rfl rfl ?_
    refine SF_sub [1, 2, 3, 0, 4] rfl ?_
    exact w_X11_day_147 hd k33 hk33 l0 l2 l3 (l4 + (1 : Int32)) l5 g8 k_l0 h

set_option maxRecDepth 20000 in
set_option maxHeartbeats 2000000 in
theorem w_X11_day_33 {X : CX} {d : Nat} (hd : 7 ≤ d) {g' : G} {rx : Int32} : ∀ (n : Nat) (l0 : Nat) (l2 : Int32) (l3 : Int32) (l4 : Int32) (l5 : Int32) (g : G), KD g l0 11 → f_X11_day_33 n l0 l2 l3 l4 l5 g = some (rx, g') → SemF X m_X11_day d 33 [(0, .ref (ad X l0)), (2, .int l2), (3, .int l3), (4, .int l4), (5, .int l5)] [] g (some (.int rx)) g' := by
  intro n
  induction n with
  | zero =>
    intro l0 l2 l3 l4 l5 g k_l0 h
    rw [f_X11_day_33] at h
    cases h
  | succ n ih =>
  intro l0 l2 l3 l4 l5 g k_l0 h
  rw [f_X11_day_33] at h
  refine SF_iload 4 35 dX11_day_33 rfl rfl ?_
  refine SF_iload_n 1 36 dX11_day_35 rfl rfl rfl ?_
  refine SF_icge 153 39 dX11_day_36 rfl rfl (fun c1 => ?_) (fun c1 => ?_)
  · have h := ite_t c1 h
    refine SF_iload 3 155 dX11_day_153 rfl rfl ?_
    refine SF_ifle 162 158 dX11_day_155 rfl rfl (fun c2 => ?_) (fun c2 => ?_)
    · have h := ite_t c2 h
      refine SF_iload 3 164 dX11_day_162 rfl rfl ?_
      exact RT_i rfl dX11_day_164 h
    · have h := ite_f c2 h
      refine SF_aload_n 0 159 dX11_day_158 rfl rfl rfl ?_
      obtain ⟨v3, g4, q5, h⟩ := bd_some h
      have s6 := w_X11_keepSpare (X := X) (Nat.le_refl 3) l0 g g4 v3 k_l0 q5
      refine SF_callVv 162 mi_X11_keepSpare ml_X11_196 dX11_day_159 (Nat.le_trans (by decide) hd) s6 k_l0.1 rfl rfl (Nat.le_of_ble_eq_true rfl) rfl ?_
      have k_l0 := k_l0.ext s6.1
      refine SF_iload 3 164 dX11_day_162 rfl rfl ?_
      exact RT_i rfl dX11_day_164 h
  · have h := ite_f c1 h
    refine SF_iload_n 2 40 dX11_day_39 rfl rfl rfl ?_
    obtain ⟨v7, g8, q9, h⟩ := bd_some h
    have s10 := w_X11_drawn (X := X) (Nat.le_refl 0) l3 g g8 v7 q9
    refine SF_callSi 43 mi_X11_drawn ml_X11_243 dX11_day_40 (Nat.le_trans (by decide) hd) s10 rfl rfl (Nat.le_of_ble_eq_true rfl) rfl ?_
    have k_l0 := k_l0.ext s10.1
    refine SF_istore_n [(3, .int v7), (0, .ref (ad X l0)), (2, .int l2), (4, .int l4), (5, .int l5)] 44 dX11_day_43 rfl (by decide) rfl rfl ?_
    refine SF_iload_n 0 45 dX11_day_44 rfl rfl rfl ?_
    refine SF_bipush (16 : Int32) 47 dX11_day_45 rfl rfl ?_
    refine SF_iushr 48 dX11_day_47 rfl ?_
    refine SF_bipush (6 : Int32) 50 dX11_day_48 rfl rfl ?_
    refine SF_irem 51 dX11_day_50 (by decide) rfl ?_
    refine SF_iconst (5 : Int32) 52 dX11_day_51 rfl rfl ?_
    refine SF_icne 76 55 dX11_day_52 rfl rfl (fun c11 => ?_) (fun c11 => ?_)
    · have h := ite_f c11 h
      refine SF_iload_n 0 77 dX11_day_76 rfl rfl rfl ?_
      obtain ⟨v12, g13, q14, h⟩ := bd_some h
      have s15 := w_X11_drawn (X := X) (Nat.le_refl 0) v7 g8 g13 v12 q14
      refine SF_callSi 80 mi_X11_drawn ml_X11_243 dX11_day_77 (Nat.le_trans (by decide) hd) s15 rfl rfl (Nat.le_of_ble_eq_true rfl) rfl ?_
      have k_l0 := k_l0.ext s15.1
      refine SF_istore_n [(3, .int v12), (0, .ref (ad X l0)), (2, .int l2), (4, .int l4), (5, .int l5)] 81 dX11_day_80 rfl (by decide) rfl rfl ?_
      refine SF_iload_n 0 82 dX11_day_81 rfl rfl rfl ?_
      refine SF_bipush (16 : Int32) 84 dX11_day_82 rfl rfl ?_
      refine SF_iushr 85 dX11_day_84 rfl ?_
      refine SF_iconst (2 : Int32) 86 dX11_day_85 rfl rfl ?_
      refine SF_irem 87 dX11_day_86 (by decide) rfl ?_
      obtain ⟨y16, e17, h⟩ := li_some h
      refine SF_eqI e17 ?_
      refine SF_istore [(7, .int y16), (3, .int v12), (0, .ref (ad X l0)), (2, .int l2), (4, .int l4), (5, .int l5)] 89 dX11_day_87 (by decide) rfl rfl ?_
      refine SF_iload_n 1 90 dX11_day_89 rfl rfl rfl ?_
      obtain ⟨v18, g19, q20, h⟩ := bd_some h
      have s21 := w_X11_drawn (X := X) (Nat.le_refl 0) v12 g13 g19 v18 q20
      refine SF_callSi 93 mi_X11_drawn ml_X11_243 dX11_day_90 (Nat.le_trans (by decide) hd) s21 rfl rfl (Nat.le_of_ble_eq_true rfl) rfl ?_
      have k_l0 := k_l0.ext s21.1
      refine SF_istore_n [(3, .int v18), (7, .int y16), (0, .ref (ad X l0)), (2, .int l2), (4, .int l4), (5, .int l5)] 94 dX11_day_93 rfl (by decide) rfl rfl ?_
      refine SF_iload_n 0 95 dX11_day_94 rfl rfl rfl ?_
      refine SF_bipush (16 : Int32) 97 dX11_day_95 rfl rfl ?_
      refine SF_iushr 98 dX11_day_97 rfl ?_
      refine SF_iconst (3 : Int32) 99 dX11_day_98 rfl rfl ?_
      refine SF_irem 100 dX11_day_99 (by decide) rfl ?_
      obtain ⟨y22, e23, h⟩ := li_some h
      refine SF_eqI e23 ?_
      refine SF_istore [(8, .int y22), (3, .int v18), (7, .int y16), (0, .ref (ad X l0)), (2, .int l2), (4, .int l4), (5, .int l5)] 102 dX11_day_100 (by decide) rfl rfl ?_
      refine SF_iload_n 1 103 dX11_day_102 rfl rfl rfl ?_
      obtain ⟨v24, g25, q26, h⟩ := bd_some h
      have s27 := w_X11_drawn (X := X) (Nat.le_refl 0) v18 g19 g25 v24 q26
      refine SF_callSi 106 mi_X11_drawn ml_X11_243 dX11_day_103 (Nat.le_trans (by decide) hd) s27 rfl rfl (Nat.le_of_ble_eq_true rfl) rfl ?_
      have k_l0 := k_l0.ext s27.1
      refine SF_istore_n [(3, .int v24), (8, .int y22), (7, .int y16), (0, .ref (ad X l0)), (2, .int l2), (4, .int l4), (5, .int l5)] 107 dX11_day_106 rfl (by decide) rfl rfl ?_
      refine SF_bipush (100 : Int32) 109 dX11_day_107 rfl rfl ?_
      refine SF_iload 1 111 dX11_day_109 rfl rfl ?_
      refine SF_imul 112 dX11_day_111 rfl ?_
      refine SF_bipush (10 : Int32) 114 dX11_day_112 rfl rfl ?_
      refine SF_iload 2 116 dX11_day_114 rfl rfl ?_
      refine SF_imul 117 dX11_day_116 rfl ?_
      refine SF_iadd 118 dX11_day_117 rfl ?_
      refine SF_iload_n 0 119 dX11_day_118 rfl rfl rfl ?_
      refine SF_bipush (16 : Int32) 121 dX11_day_119 rfl rfl ?_
      refine SF_iushr 122 dX11_day_121 rfl ?_
      refine SF_iconst (4 : Int32) 123 dX11_day_122 rfl rfl ?_
      refine SF_irem 124 dX11_day_123 (by decide) rfl ?_
      refine SF_iadd 125 dX11_day_124 rfl ?_
      obtain ⟨y28, e29, h⟩ := li_some h
      refine SF_eqI e29 ?_
      refine SF_istore [(6, .int y28), (3, .int v24), (8, .int y22), (7, .int y16), (0, .ref (ad X l0)), (2, .int l2), (4, .int l4), (5, .int l5)] 127 dX11_day_125 (by decide) rfl rfl ?_
      refine SF_sub [4, 5, 1, 6, 7, 0] rfl ?_
      exact w_X11_day_127 hd (f_X11_day_33 n) ih l0 l2 v24 l4 l5 y28 g25 k_l0 h
    · have h := ite_t c11 h
      refine SF_iload_n 0 56 dX11_day_55 rfl rfl rfl ?_
      obtain ⟨v30, g31, q32, h⟩ := bd_some h
      have s33 := w_X11_drawn (X := X) (Nat.le_refl 0) v7 g8 g31 v30 q32
      refine SF_callSi 59 mi_X11_drawn ml_X11_243 dX11_day_56 (Nat.le_trans (by decide) hd) s33 rfl rfl (Nat.le_of_ble_eq_true rfl) rfl ?_
      have k_l0 := k_l0.ext s33.1
      refine SF_istore_n [(3, .int v30), (0, .ref (ad X l0)), (2, .int l2), (4, .int l4), (5, .int l5)] 60 dX11_day_59 rfl (by decide) rfl rfl ?_
      refine SF_sipush (1000 : Int32) 63 dX11_day_60 rfl rfl ?_
      refine SF_iload_n 0 64 dX11_day_63 rfl rfl rfl ?_
      refine SF_bipush (16 : Int32) 66 dX11_day_64 rfl rfl ?_
      refine SF_iushr 67 dX11_day_66 rfl ?_
      refine SF_bipush (36 : Int32) 69 dX11_day_67 rfl rfl ?_
      refine SF_irem 70 dX11_day_69 (by decide) rfl ?_
      refine SF_iadd 71 dX11_day_70 rfl ?_
      obtain ⟨y34, e35, h⟩ := li_some h
      refine SF_eqI e35 ?_
      refine SF_istore [(6, .int y34), (3, .int v30), (0, .ref (ad X l0)), (2, .int l2), (4, .int l4), (5, .int l5)] 73 dX11_day_71 (by decide) rfl rfl ?_
      refine SF_goto 127 dX11_day_73 rfl ?_
      refine SF_sub [2, 3, 1, 4, 5, 0] rfl ?_
      exact w_X11_day_127 hd (f_X11_day_33 n) ih l0 l2 v30 l4 l5 y34 g31 k_l0 h

set_option maxRecDepth 20000 in
set_option maxHeartbeats 2000000 in
theorem w_X11_day {X : CX} {d : Nat} (hd : 7 ≤ d) (l0 : Nat) (l1 : Int32) (l2 : Int32) (g g' : G) (rx : Int32) (k_l0 : KD g l0 11) (h : f_X11_day l0 l1 l2 g = some (rx, g')) : Sem X m_X11_day d [.ref (ad X l0), .int l1, .int l2] g (some (.int rx)) g' := by
  refine Sem_of (lo := [(0, .ref (ad X l0)), (1, .int l1), (2, .int l2)]) (by decide +kernel) rfl (Nat.le_of_ble_eq_true rfl) ?_
  rw [f_X11_day] at h
  refine SF_iload_n 2 1 dX11_day_0 rfl rfl rfl ?_
  refine SF_iconst (1 : Int32) 2 dX11_day_1 rfl rfl ?_
  refine SF_iclt 11 5 dX11_day_2 rfl rfl (fun c1 => ?_) (fun c1 => ?_)
  · have h := ite_t c1 h
    refine SF_bipush (-3 : Int32) 13 dX11_day_11 rfl rfl ?_
    exact RT_i rfl dX11_day_13 h
  · have h := ite_f c1 h
    refine SF_iload_n 2 6 dX11_day_5 rfl rfl rfl ?_
    refine SF_bipush (40 : Int32) 8 dX11_day_6 rfl rfl ?_
    refine SF_icle 14 11 dX11_day_8 rfl rfl (fun c2 => ?_) (fun c2 => ?_)
    · have h := ite_t c2 h
      refine SF_aload_n 0 15 dX11_day_14 rfl rfl rfl ?_
      obtain ⟨b3, r4, h⟩ := dr_some h
      refine SF_getR 18 fl_X11_82 dX11_day_15 k_l0.1 r4 rfl ?_
      refine SF_aload_n 0 19 dX11_day_18 rfl rfl rfl ?_
      obtain ⟨b5, r6, h⟩ := dr_some h
      refine SF_getR 22 fl_X11_78 dX11_day_19 k_l0.1 r6 rfl ?_
      obtain ⟨k7, h⟩ := gdK_some h
      obtain ⟨k8, h⟩ := gdK_some h
      obtain ⟨v9, g10, q11, h⟩ := bd_some h
      have s12 := w_X0_copyFrom (X := X) (Nat.le_refl 1) b3 b5 g g10 v9 k7 k8 q11
      refine SF_callVv 25 mi_X0_copyFrom ml_X11_126 dX11_day_22 (Nat.le_trans (by decide) hd) s12 k7.1 rfl rfl (Nat.le_of_ble_eq_true rfl) rfl ?_
      have k_l0 := k_l0.ext s12.1
      have k7 := k7.ext s12.1
      have k8 := k8.ext s12.1
      refine SF_iload_n 1 26 dX11_day_25 rfl rfl rfl ?_
      refine SF_istore_n [(3, .int l1), (0, .ref (ad X l0)), (1, .int l1), (2, .int l2)] 27 dX11_day_26 rfl (by decide) rfl rfl ?_
      refine SF_iconst (0 : Int32) 28 dX11_day_27 rfl rfl ?_
      refine SF_istore [(4, .int (0 : Int32)), (3, .int l1), (0, .ref (ad X l0)), (1, .int l1), (2, .int l2)] 30 dX11_day_28 (by decide) rfl rfl ?_
      refine SF_iconst (0 : Int32) 31 dX11_day_30 rfl rfl ?_
      refine SF_istore [(5, .int (0 : Int32)), (4, .int (0 : Int32)), (3, .int l1), (0, .ref (ad X l0)), (1, .int l1), (2, .int l2)] 33 dX11_day_31 (by decide) rfl rfl ?_
      refine SF_sub [3, 5, 2, 1, 0] rfl ?_
      exact w_X11_day_33 hd FU l0 l2 l1 (0 : Int32) (0 : Int32) g10 k_l0 h
    · have h := ite_f c2 h
      refine SF_bipush (-3 : Int32) 13 dX11_day_11 rfl rfl ?_
      exact RT_i rfl dX11_day_13 h

theorem dX12_draw_0 : decode cX12_draw 0 = .ok (.aload_n 0, 1) := by decide +kernel
theorem dX12_draw_1 : decode cX12_draw 1 = .ok (.ldc_w 332, 3) := by decide +kernel
theorem dX12_draw_4 : decode cX12_draw 4 = .ok (.aload_n 0, 1) := by decide +kernel
theorem dX12_draw_5 : decode cX12_draw 5 = .ok (.getfield 333, 3) := by decide +kernel
theorem dX12_draw_8 : decode cX12_draw 8 = .ok (.imul, 1) := by decide +kernel
theorem dX12_draw_9 : decode cX12_draw 9 = .ok (.sipush 12345, 3) := by decide +kernel
theorem dX12_draw_12 : decode cX12_draw 12 = .ok (.iadd, 1) := by decide +kernel
theorem dX12_draw_13 : decode cX12_draw 13 = .ok (.putfield 333, 3) := by decide +kernel
theorem dX12_draw_16 : decode cX12_draw 16 = .ok (.aload_n 0, 1) := by decide +kernel
theorem dX12_draw_17 : decode cX12_draw 17 = .ok (.getfield 333, 3) := by decide +kernel
theorem dX12_draw_20 : decode cX12_draw 20 = .ok (.bipush 16, 2) := by decide +kernel
theorem dX12_draw_22 : decode cX12_draw 22 = .ok (.iushr, 1) := by decide +kernel
theorem dX12_draw_23 : decode cX12_draw 23 = .ok (.iload_n 1, 1) := by decide +kernel
theorem dX12_draw_24 : decode cX12_draw 24 = .ok (.irem, 1) := by decide +kernel
theorem dX12_draw_25 : decode cX12_draw 25 = .ok (.ireturn, 1) := by decide +kernel
set_option maxRecDepth 20000 in
set_option maxHeartbeats 2000000 in
theorem w_X12_draw {X : CX} {d : Nat} (hd : 0 ≤ d) (l0 : Nat) (l1 : Int32) (g g' : G) (rx : Int32) (k_l0 : KD g l0 12) (h : f_X12_draw l0 l1 g = some (rx, g')) : Sem X m_X12_draw d [.ref (ad X l0), .int l1] g (some (.int rx)) g' := by
  refine Sem_of (lo := [(0, .ref (ad X l0)), (1, .int l1)]) (by decide +kernel) rfl (Nat.le_of_ble_eq_true rfl) ?_
  rw [f_X12_draw] at h
  refine SF_aload_n 0 1 dX12_draw_0 rfl rfl rfl ?_
  refine SF_ldcw 4 dX12_draw_1 ki_X12_332 rfl ?_
  refine SF_aload_n 0 5 dX12_draw_4 rfl rfl rfl ?_
  refine SF_getI 8 fl_X12_333 dX12_draw_5 k_l0.1 rfl ?_
  refine SF_imul 9 dX12_draw_8 rfl ?_
  refine SF_sipush (12345 : Int32) 12 dX12_draw_9 rfl rfl ?_
  refine SF_iadd 13 dX12_draw_12 rfl ?_
  refine SF_putI 16 fl_X12_333 dX12_draw_13 k_l0.1 (fn_int _) (Or.inl rfl) rfl ?_
  obtain ⟨g1, e2, h⟩ := lg_some h
  rw [← e2]
  have k_l0 := KD.eq e2 k_l0
  refine SF_aload_n 0 17 dX12_draw_16 rfl rfl rfl ?_
  refine SF_getI 20 fl_X12_333 dX12_draw_17 k_l0.1 rfl ?_
  refine SF_bipush (16 : Int32) 22 dX12_draw_20 rfl rfl ?_
  refine SF_iushr 23 dX12_draw_22 rfl ?_
  refine SF_iload_n 1 24 dX12_draw_23 rfl rfl rfl ?_
  obtain ⟨z3, h⟩ := gdZ_some h
  refine SF_irem 25 dX12_draw_24 z3 rfl ?_
  exact RT_i rfl dX12_draw_25 h

theorem dX12_drawnDeed_0 : decode cX12_drawnDeed 0 = .ok (.aload_n 0, 1) := by decide +kernel
theorem dX12_drawnDeed_1 : decode cX12_drawnDeed 1 = .ok (.bipush 6, 2) := by decide +kernel
theorem dX12_drawnDeed_3 : decode cX12_drawnDeed 3 = .ok (.invokevirtual 336, 3) := by decide +kernel
theorem dX12_drawnDeed_6 : decode cX12_drawnDeed 6 = .ok (.iconst 5, 1) := by decide +kernel
theorem dX12_drawnDeed_7 : decode cX12_drawnDeed 7 = .ok (.if_icmp .ne 14, 3) := by decide +kernel
theorem dX12_drawnDeed_10 : decode cX12_drawnDeed 10 = .ok (.sipush 1000, 3) := by decide +kernel
theorem dX12_drawnDeed_13 : decode cX12_drawnDeed 13 = .ok (.aload_n 0, 1) := by decide +kernel
theorem dX12_drawnDeed_14 : decode cX12_drawnDeed 14 = .ok (.bipush 36, 2) := by decide +kernel
theorem dX12_drawnDeed_16 : decode cX12_drawnDeed 16 = .ok (.invokevirtual 336, 3) := by decide +kernel
theorem dX12_drawnDeed_19 : decode cX12_drawnDeed 19 = .ok (.iadd, 1) := by decide +kernel
theorem dX12_drawnDeed_20 : decode cX12_drawnDeed 20 = .ok (.ireturn, 1) := by decide +kernel
theorem dX12_drawnDeed_21 : decode cX12_drawnDeed 21 = .ok (.aload_n 0, 1) := by decide +kernel
theorem dX12_drawnDeed_22 : decode cX12_drawnDeed 22 = .ok (.iconst 2, 1) := by decide +kernel
theorem dX12_drawnDeed_23 : decode cX12_drawnDeed 23 = .ok (.invokevirtual 336, 3) := by decide +kernel
theorem dX12_drawnDeed_26 : decode cX12_drawnDeed 26 = .ok (.istore_n 1, 1) := by decide +kernel
theorem dX12_drawnDeed_27 : decode cX12_drawnDeed 27 = .ok (.aload_n 0, 1) := by decide +kernel
theorem dX12_drawnDeed_28 : decode cX12_drawnDeed 28 = .ok (.iconst 3, 1) := by decide +kernel
theorem dX12_drawnDeed_29 : decode cX12_drawnDeed 29 = .ok (.invokevirtual 336, 3) := by decide +kernel
theorem dX12_drawnDeed_32 : decode cX12_drawnDeed 32 = .ok (.istore_n 2, 1) := by decide +kernel
theorem dX12_drawnDeed_33 : decode cX12_drawnDeed 33 = .ok (.bipush 100, 2) := by decide +kernel
theorem dX12_drawnDeed_35 : decode cX12_drawnDeed 35 = .ok (.iload_n 2, 1) := by decide +kernel
theorem dX12_drawnDeed_36 : decode cX12_drawnDeed 36 = .ok (.imul, 1) := by decide +kernel
theorem dX12_drawnDeed_37 : decode cX12_drawnDeed 37 = .ok (.bipush 10, 2) := by decide +kernel
theorem dX12_drawnDeed_39 : decode cX12_drawnDeed 39 = .ok (.iload_n 1, 1) := by decide +kernel
theorem dX12_drawnDeed_40 : decode cX12_drawnDeed 40 = .ok (.imul, 1) := by decide +kernel
theorem dX12_drawnDeed_41 : decode cX12_drawnDeed 41 = .ok (.iadd, 1) := by decide +kernel
theorem dX12_drawnDeed_42 : decode cX12_drawnDeed 42 = .ok (.aload_n 0, 1) := by decide +kernel
theorem dX12_drawnDeed_43 : decode cX12_drawnDeed 43 = .ok (.iconst 4, 1) := by decide +kernel
theorem dX12_drawnDeed_44 : decode cX12_drawnDeed 44 = .ok (.invokevirtual 336, 3) := by decide +kernel
theorem dX12_drawnDeed_47 : decode cX12_drawnDeed 47 = .ok (.iadd, 1) := by decide +kernel
theorem dX12_drawnDeed_48 : decode cX12_drawnDeed 48 = .ok (.ireturn, 1) := by decide +kernel
set_option maxRecDepth 20000 in
set_option maxHeartbeats 2000000 in
theorem w_X12_drawnDeed {X : CX} {d : Nat} (hd : 1 ≤ d) (l0 : Nat) (g g' : G) (rx : Int32) (k_l0 : KD g l0 12) (h : f_X12_drawnDeed l0 g = some (rx, g')) : Sem X m_X12_drawnDeed d [.ref (ad X l0)] g (some (.int rx)) g' := by
  refine Sem_of (lo := [(0, .ref (ad X l0))]) (by decide +kernel) rfl (Nat.le_of_ble_eq_true rfl) ?_
  rw [f_X12_drawnDeed] at h
  refine SF_aload_n 0 1 dX12_drawnDeed_0 rfl rfl rfl ?_
  refine SF_bipush (6 : Int32) 3 dX12_drawnDeed_1 rfl rfl ?_
  obtain ⟨v1, g2, q3, h⟩ := bd_some h
  have s4 := w_X12_draw (X := X) (Nat.le_refl 0) l0 (6 : Int32) g g2 v1 k_l0 q3
  refine SF_callVi 6 mi_X12_draw ml_X12_336 dX12_drawnDeed_3 (Nat.le_trans (by decide) hd) s4 k_l0.1 rfl rfl (Nat.le_of_ble_eq_true rfl) rfl ?_
  have k_l0 := k_l0.ext s4.1
  refine SF_iconst (5 : Int32) 7 dX12_drawnDeed_6 rfl rfl ?_
  refine SF_icne 21 10 dX12_drawnDeed_7 rfl rfl (fun c5 => ?_) (fun c5 => ?_)
  · have h := ite_f c5 h
    refine SF_aload_n 0 22 dX12_drawnDeed_21 rfl rfl rfl ?_
    refine SF_iconst (2 : Int32) 23 dX12_drawnDeed_22 rfl rfl ?_
    obtain ⟨v6, g7, q8, h⟩ := bd_some h
    have s9 := w_X12_draw (X := X) (Nat.le_refl 0) l0 (2 : Int32) g2 g7 v6 k_l0 q8
    refine SF_callVi 26 mi_X12_draw ml_X12_336 dX12_drawnDeed_23 (Nat.le_trans (by decide) hd) s9 k_l0.1 rfl rfl (Nat.le_of_ble_eq_true rfl) rfl ?_
    have k_l0 := k_l0.ext s9.1
    refine SF_istore_n [(1, .int v6), (0, .ref (ad X l0))] 27 dX12_drawnDeed_26 rfl (by decide) rfl rfl ?_
    refine SF_aload_n 1 28 dX12_drawnDeed_27 rfl rfl rfl ?_
    refine SF_iconst (3 : Int32) 29 dX12_drawnDeed_28 rfl rfl ?_
    obtain ⟨v10, g11, q12, h⟩ := bd_some h
    have s13 := w_X12_draw (X := X) (Nat.le_refl 0) l0 (3 : Int32) g7 g11 v10 k_l0 q12
    refine SF_callVi 32 mi_X12_draw ml_X12_336 dX12_drawnDeed_29 (Nat.le_trans (by decide) hd) s13 k_l0.1 rfl rfl (Nat.le_of_ble_eq_true rfl) rfl ?_
    have k_l0 := k_l0.ext s13.1
    refine SF_istore_n [(2, .int v10), (1, .int v6), (0, .ref (ad X l0))] 33 dX12_drawnDeed_32 rfl (by decide) rfl rfl ?_
    refine SF_bipush (100 : Int32) 35 dX12_drawnDeed_33 rfl rfl ?_
    refine SF_iload_n 0 36 dX12_drawnDeed_35 rfl rfl rfl ?_
    refine SF_imul 37 dX12_drawnDeed_36 rfl ?_
    refine SF_bipush (10 : Int32) 39 dX12_drawnDeed_37 rfl rfl ?_
    refine SF_iload_n 1 40 dX12_drawnDeed_39 rfl rfl rfl ?_
    refine SF_imul 41 dX12_drawnDeed_40 rfl ?_
    refine SF_iadd 42 dX12_drawnDeed_41 rfl ?_
    refine SF_aload_n 2 43 dX12_drawnDeed_42 rfl rfl rfl ?_
    refine SF_iconst (4 : Int32) 44 dX12_drawnDeed_43 rfl rfl ?_
    obtain ⟨v14, g15, q16, h⟩ := bd_some h
    have s17 := w_X12_draw (X := X) (Nat.le_refl 0) l0 (4 : Int32) g11 g15 v14 k_l0 q16
    refine SF_callVi 47 mi_X12_draw ml_X12_336 dX12_drawnDeed_44 (Nat.le_trans (by decide) hd) s17 k_l0.1 rfl rfl (Nat.le_of_ble_eq_true rfl) rfl ?_
    have k_l0 := k_l0.ext s17.1
    refine SF_iadd 48 dX12_drawnDeed_47 rfl ?_
    exact RT_i rfl dX12_drawnDeed_48 h
  · have h := ite_t c5 h
    refine SF_sipush (1000 : Int32) 13 dX12_drawnDeed_10 rfl rfl ?_
    refine SF_aload_n 0 14 dX12_drawnDeed_13 rfl rfl rfl ?_
    refine SF_bipush (36 : Int32) 16 dX12_drawnDeed_14 rfl rfl ?_
    obtain ⟨v18, g19, q20, h⟩ := bd_some h
    have s21 := w_X12_draw (X := X) (Nat.le_refl 0) l0 (36 : Int32) g2 g19 v18 k_l0 q20
    refine SF_callVi 19 mi_X12_draw ml_X12_336 dX12_drawnDeed_16 (Nat.le_trans (by decide) hd) s21 k_l0.1 rfl rfl (Nat.le_of_ble_eq_true rfl) rfl ?_
    have k_l0 := k_l0.ext s21.1
    refine SF_iadd 20 dX12_drawnDeed_19 rfl ?_
    exact RT_i rfl dX12_drawnDeed_20 h

theorem dX12_day_0 : decode cX12_day 0 = .ok (.aload_n 0, 1) := by decide +kernel
theorem dX12_day_1 : decode cX12_day 1 = .ok (.iconst 0, 1) := by decide +kernel
theorem dX12_day_2 : decode cX12_day 2 = .ok (.putfield 1, 3) := by decide +kernel
theorem dX12_day_5 : decode cX12_day 5 = .ok (.iload_n 2, 1) := by decide +kernel
theorem dX12_day_6 : decode cX12_day 6 = .ok (.i2l, 1) := by decide +kernel
theorem dX12_day_7 : decode cX12_day 7 = .ok (.lconst 1, 1) := by decide +kernel
theorem dX12_day_8 : decode cX12_day 8 = .ok (.ldc2_w 339, 3) := by decide +kernel
theorem dX12_day_11 : decode cX12_day 11 = .ok (.invokestatic 139, 3) := by decide +kernel
theorem dX12_day_14 : decode cX12_day 14 = .ok (.ifCond .ne 6, 3) := by decide +kernel
theorem dX12_day_17 : decode cX12_day 17 = .ok (.bipush (-3), 2) := by decide +kernel
theorem dX12_day_19 : decode cX12_day 19 = .ok (.ireturn, 1) := by decide +kernel
theorem dX12_day_20 : decode cX12_day 20 = .ok (.aload_n 0, 1) := by decide +kernel
theorem dX12_day_21 : decode cX12_day 21 = .ok (.invokevirtual 281, 3) := by decide +kernel
theorem dX12_day_24 : decode cX12_day 24 = .ok (.aload_n 0, 1) := by decide +kernel
theorem dX12_day_25 : decode cX12_day 25 = .ok (.iload_n 1, 1) := by decide +kernel
theorem dX12_day_26 : decode cX12_day 26 = .ok (.putfield 333, 3) := by decide +kernel
theorem dX12_day_29 : decode cX12_day 29 = .ok (.iconst 0, 1) := by decide +kernel
theorem dX12_day_30 : decode cX12_day 30 = .ok (.istore_n 3, 1) := by decide +kernel
theorem dX12_day_31 : decode cX12_day 31 = .ok (.iconst 0, 1) := by decide +kernel
theorem dX12_day_32 : decode cX12_day 32 = .ok (.istore 4, 2) := by decide +kernel
theorem dX12_day_34 : decode cX12_day 34 = .ok (.iload 4, 2) := by decide +kernel
theorem dX12_day_36 : decode cX12_day 36 = .ok (.iload_n 2, 1) := by decide +kernel
theorem dX12_day_37 : decode cX12_day 37 = .ok (.if_icmp .ge 37, 3) := by decide +kernel
theorem dX12_day_40 : decode cX12_day 40 = .ok (.aload_n 0, 1) := by decide +kernel
theorem dX12_day_41 : decode cX12_day 41 = .ok (.invokevirtual 341, 3) := by decide +kernel
theorem dX12_day_44 : decode cX12_day 44 = .ok (.istore 5, 2) := by decide +kernel
theorem dX12_day_46 : decode cX12_day 46 = .ok (.aload_n 0, 1) := by decide +kernel
theorem dX12_day_47 : decode cX12_day 47 = .ok (.iload 5, 2) := by decide +kernel
theorem dX12_day_49 : decode cX12_day 49 = .ok (.i2l, 1) := by decide +kernel
theorem dX12_day_50 : decode cX12_day 50 = .ok (.invokevirtual 314, 3) := by decide +kernel
theorem dX12_day_53 : decode cX12_day 53 = .ok (.ifCond .eq 6, 3) := by decide +kernel
theorem dX12_day_56 : decode cX12_day 56 = .ok (.goto 12, 3) := by decide +kernel
theorem dX12_day_59 : decode cX12_day 59 = .ok (.aload_n 0, 1) := by decide +kernel
theorem dX12_day_60 : decode cX12_day 60 = .ok (.iload 5, 2) := by decide +kernel
theorem dX12_day_62 : decode cX12_day 62 = .ok (.invokevirtual 317, 3) := by decide +kernel
theorem dX12_day_65 : decode cX12_day 65 = .ok (.iinc 3 1, 3) := by decide +kernel
theorem dX12_day_68 : decode cX12_day 68 = .ok (.iinc 4 1, 3) := by decide +kernel
theorem dX12_day_71 : decode cX12_day 71 = .ok (.goto (-37), 3) := by decide +kernel
theorem dX12_day_74 : decode cX12_day 74 = .ok (.iload_n 3, 1) := by decide +kernel
theorem dX12_day_75 : decode cX12_day 75 = .ok (.ifCond .le 7, 3) := by decide +kernel
theorem dX12_day_78 : decode cX12_day 78 = .ok (.aload_n 0, 1) := by decide +kernel
theorem dX12_day_79 : decode cX12_day 79 = .ok (.invokevirtual 288, 3) := by decide +kernel
theorem dX12_day_82 : decode cX12_day 82 = .ok (.iload_n 3, 1) := by decide +kernel
theorem dX12_day_83 : decode cX12_day 83 = .ok (.ireturn, 1) := by decide +kernel
set_option maxRecDepth 20000 in
set_option maxHeartbeats 2000000 in
theorem w_X12_day_68 {X : CX} {d : Nat} (hd : 7 ≤ d) {g' : G} {rx : Int32} (k34 : Nat → Int32 → Int32 → Int32 → G → Option (Int32 × G)) (hk34 : ∀ (l0 : Nat) (l2 : Int32) (l3 : Int32) (l4 : Int32) (g : G), KD g l0 12 → k34 l0 l2 l3 l4 g = some (rx, g') → SemF X m_X12_day d 34 [(0, .ref (ad X l0)), (2, .int l2), (3, .int l3), (4, .int l4)] [] g (some (.int rx)) g') (l0 : Nat) (l2 : Int32) (l3 : Int32) (l4 : Int32) (g : G) (k_l0 : KD g l0 12) (h : f_X12_day_68 k34 l0 l2 l3 l4 g = some (rx, g')) : SemF X m_X12_day d 68 [(0, .ref (ad X l0)), (2, .int l2), (3, .int l3), (4, .int l4)] [] g (some (.int rx)) g' := by
  rw [f_X12_day_68] at h
  refine SF_iinc 3 (l4 + (1 : Int32)) [(4, .int (l4 + (1 : Int32))), (0, .ref (ad X l0)), (2, .int l2), (3, .int l3)] 71 dX12_day_68 rfl rfl (by decide) rfl rfl ?_
  refine SF_goto 34 dX12_day_71 rfl ?_
  refine SF_sub [1, 2, 3, 0] rfl ?_
  exact hk34 l0 l2 l3 (l4 + (1 : Int32)) g k_l0 h

set_option maxRecDepth 20000 in
set_option maxHeartbeats 2000000 in
theorem w_X12_day_34 {X : CX} {d : Nat} (hd : 7 ≤ d) {g' : G} {rx : Int32} : ∀ (n : Nat) (l0 : Nat) (l2 : Int32) (l3 : Int32) (l4 : Int32) (g : G), KD g l0 12 → f_X12_day_34 n l0 l2 l3 l4 g = some (rx, g') → SemF X m_X12_day d 34 [(0, .ref (ad X l0)), (2, .int l2), (3, .int l3), (4, .int l4)] [] g (some (.int rx)) g' := by
  intro n
  induction n with
  | zero =>
    intro l0 l2 l3 l4 g k_l0 h
    rw [f_X12_day_34] at h
    cases h
  | succ n ih =>
  intro l0 l2 l3 l4 g k_l0 h
  rw [f_X12_day_34] at h
  refine SF_iload 3 36 dX12_day_34 rfl rfl ?_
  refine SF_iload_n 1 37 dX12_day_36 rfl rfl rfl ?_
  refine SF_icge 74 40 dX12_day_37 rfl rfl (fun c1 => ?_) (fun c1 => ?_)
  · have h := ite_t c1 h
    refine SF_iload_n 2 75 dX12_day_74 rfl rfl rfl ?_
    refine SF_ifle 82 78 dX12_day_75 rfl rfl (fun c2 => ?_) (fun c2 => ?_)
    · have h := ite_t c2 h
      refine SF_iload_n 2 83 dX12_day_82 rfl rfl rfl ?_
      exact RT_i rfl dX12_day_83 h
    · have h := ite_f c2 h
      refine SF_aload_n 0 79 dX12_day_78 rfl rfl rfl ?_
      obtain ⟨v3, g4, q5, h⟩ := bd_some h
      have s6 := w_X12_notes (X := X) (Nat.le_refl 0) l0 g g4 v3 k_l0 q5
      refine SF_callVv 82 mi_X12_notes ml_X12_288 dX12_day_79 (Nat.le_trans (by decide) hd) s6 k_l0.1 rfl rfl (Nat.le_of_ble_eq_true rfl) rfl ?_
      have k_l0 := k_l0.ext s6.1
      refine SF_iload_n 2 83 dX12_day_82 rfl rfl rfl ?_
      exact RT_i rfl dX12_day_83 h
  · have h := ite_f c1 h
    refine SF_aload_n 0 41 dX12_day_40 rfl rfl rfl ?_
    obtain ⟨v7, g8, q9, h⟩ := bd_some h
    have s10 := w_X12_drawnDeed (X := X) (Nat.le_refl 1) l0 g g8 v7 k_l0 q9
    refine SF_callVi 44 mi_X12_drawnDeed ml_X12_341 dX12_day_41 (Nat.le_trans (by decide) hd) s10 k_l0.1 rfl rfl (Nat.le_of_ble_eq_true rfl) rfl ?_
    have k_l0 := k_l0.ext s10.1
    refine SF_istore [(5, .int v7), (0, .ref (ad X l0)), (2, .int l2), (3, .int l3), (4, .int l4)] 46 dX12_day_44 (by decide) rfl rfl ?_
    refine SF_aload_n 1 47 dX12_day_46 rfl rfl rfl ?_
    refine SF_iload 0 49 dX12_day_47 rfl rfl ?_
    refine SF_i2l 50 dX12_day_49 rfl ?_
    obtain ⟨v11, g12, q13, h⟩ := bd_some h
    have s14 := w_X12_whyNot (X := X) (Nat.le_refl 6) l0 (v7.toInt64) g8 g12 v11 k_l0 q13
    refine SF_callVi 53 mi_X12_whyNot ml_X12_314 dX12_day_50 (Nat.le_trans (by decide) hd) s14 k_l0.1 rfl rfl (Nat.le_of_ble_eq_true rfl) rfl ?_
    have k_l0 := k_l0.ext s14.1
    refine SF_ifeq 59 56 dX12_day_53 rfl rfl (fun c15 => ?_) (fun c15 => ?_)
    · have h := ite_t c15 h
      refine SF_aload_n 1 60 dX12_day_59 rfl rfl rfl ?_
      refine SF_iload 0 62 dX12_day_60 rfl rfl ?_
      obtain ⟨v16, g17, q18, h⟩ := bd_some h
      have s19 := w_X12_does (X := X) (Nat.le_refl 3) l0 v7 g12 g17 v16 k_l0 q18
      refine SF_callVv 65 mi_X12_does ml_X12_317 dX12_day_62 (Nat.le_trans (by decide) hd) s19 k_l0.1 rfl rfl (Nat.le_of_ble_eq_true rfl) rfl ?_
      have k_l0 := k_l0.ext s19.1
      refine SF_iinc 3 (l3 + (1 : Int32)) [(3, .int (l3 + (1 : Int32))), (5, .int v7), (0, .ref (ad X l0)), (2, .int l2), (4, .int l4)] 68 dX12_day_65 rfl rfl (by decide) rfl rfl ?_
      refine SF_sub [2, 3, 0, 4] rfl ?_
      exact w_X12_day_68 hd (f_X12_day_34 n) ih l0 l2 (l3 + (1 : Int32)) l4 g17 k_l0 h
    · have h := ite_f c15 h
      refine SF_goto 68 dX12_day_56 rfl ?_
      refine SF_sub [1, 2, 3, 4] rfl ?_
      exact w_X12_day_68 hd (f_X12_day_34 n) ih l0 l2 l3 l4 g12 k_l0 h

set_option maxRecDepth 20000 in
set_option maxHeartbeats 2000000 in
theorem w_X12_day {X : CX} {d : Nat} (hd : 7 ≤ d) (l0 : Nat) (l1 : Int32) (l2 : Int32) (g g' : G) (rx : Int32) (k_l0 : KD g l0 12) (h : f_X12_day l0 l1 l2 g = some (rx, g')) : Sem X m_X12_day d [.ref (ad X l0), .int l1, .int l2] g (some (.int rx)) g' := by
  refine Sem_of (lo := [(0, .ref (ad X l0)), (1, .int l1), (2, .int l2)]) (by decide +kernel) rfl (Nat.le_of_ble_eq_true rfl) ?_
  rw [f_X12_day] at h
  refine SF_aload_n 0 1 dX12_day_0 rfl rfl rfl ?_
  refine SF_iconst (0 : Int32) 2 dX12_day_1 rfl rfl ?_
  refine SF_putI 5 fl_X12_1 dX12_day_2 k_l0.1 (fn_int _) (Or.inl rfl) rfl ?_
  obtain ⟨g1, e2, h⟩ := lg_some h
  rw [← e2]
  have k_l0 := KD.eq e2 k_l0
  refine SF_iload_n 2 6 dX12_day_5 rfl rfl rfl ?_
  refine SF_i2l 7 dX12_day_6 rfl ?_
  refine SF_lconst (1 : Int64) 8 dX12_day_7 rfl rfl ?_
  refine SF_ldc2 11 dX12_day_8 kl_X12_339 rfl ?_
  obtain ⟨v3, g4, q5, h⟩ := bd_some h
  have s6 := w_X12_within (X := X) (Nat.le_refl 0) (l2.toInt64) (1 : Int64) (40 : Int64) g1 g4 v3 q5
  refine SF_callSb 14 mi_X12_within ml_X12_139 dX12_day_11 (Nat.le_trans (by decide) hd) s6 rfl rfl (Nat.le_of_ble_eq_true rfl) rfl ?_
  have k_l0 := k_l0.ext s6.1
  refine SF_ifne 20 17 dX12_day_14 rfl rfl (fun c7 => ?_) (fun c7 => ?_)
  · have h := ite_f c7 h
    refine SF_aload_n 0 21 dX12_day_20 rfl rfl rfl ?_
    obtain ⟨v8, g9, q10, h⟩ := bd_some h
    have s11 := w_X12_keeps (X := X) (Nat.le_refl 0) l0 g4 g9 v8 k_l0 q10
    refine SF_callVv 24 mi_X12_keeps ml_X12_281 dX12_day_21 (Nat.le_trans (by decide) hd) s11 k_l0.1 rfl rfl (Nat.le_of_ble_eq_true rfl) rfl ?_
    have k_l0 := k_l0.ext s11.1
    refine SF_aload_n 0 25 dX12_day_24 rfl rfl rfl ?_
    refine SF_iload_n 1 26 dX12_day_25 rfl rfl rfl ?_
    refine SF_putI 29 fl_X12_333 dX12_day_26 k_l0.1 (fn_int _) (Or.inl rfl) rfl ?_
    obtain ⟨g12, e13, h⟩ := lg_some h
    rw [← e13]
    have k_l0 := KD.eq e13 k_l0
    refine SF_iconst (0 : Int32) 30 dX12_day_29 rfl rfl ?_
    refine SF_istore_n [(3, .int (0 : Int32)), (0, .ref (ad X l0)), (1, .int l1), (2, .int l2)] 31 dX12_day_30 rfl (by decide) rfl rfl ?_
    refine SF_iconst (0 : Int32) 32 dX12_day_31 rfl rfl ?_
    refine SF_istore [(4, .int (0 : Int32)), (3, .int (0 : Int32)), (0, .ref (ad X l0)), (1, .int l1), (2, .int l2)] 34 dX12_day_32 (by decide) rfl rfl ?_
    refine SF_sub [2, 4, 1, 0] rfl ?_
    exact w_X12_day_34 hd FU l0 l2 (0 : Int32) (0 : Int32) g12 k_l0 h
  · have h := ite_t c7 h
    refine SF_bipush (-3 : Int32) 19 dX12_day_17 rfl rfl ?_
    exact RT_i rfl dX12_day_19 h

theorem dX11_isCellOrNone_0 : decode cX11_isCellOrNone 0 = .ok (.iload_n 1, 1) := by decide +kernel
theorem dX11_isCellOrNone_1 : decode cX11_isCellOrNone 1 = .ok (.iconst (-1), 1) := by decide +kernel
theorem dX11_isCellOrNone_2 : decode cX11_isCellOrNone 2 = .ok (.if_icmp .eq 17, 3) := by decide +kernel
theorem dX11_isCellOrNone_5 : decode cX11_isCellOrNone 5 = .ok (.aload_n 0, 1) := by decide +kernel
theorem dX11_isCellOrNone_6 : decode cX11_isCellOrNone 6 = .ok (.getfield 78, 3) := by decide +kernel
theorem dX11_isCellOrNone_9 : decode cX11_isCellOrNone 9 = .ok (.getfield 136, 3) := by decide +kernel
theorem dX11_isCellOrNone_12 : decode cX11_isCellOrNone 12 = .ok (.iload_n 1, 1) := by decide +kernel
theorem dX11_isCellOrNone_13 : decode cX11_isCellOrNone 13 = .ok (.invokevirtual 143, 3) := by decide +kernel
theorem dX11_isCellOrNone_16 : decode cX11_isCellOrNone 16 = .ok (.ifCond .eq 7, 3) := by decide +kernel
theorem dX11_isCellOrNone_19 : decode cX11_isCellOrNone 19 = .ok (.iconst 1, 1) := by decide +kernel
theorem dX11_isCellOrNone_20 : decode cX11_isCellOrNone 20 = .ok (.goto 4, 3) := by decide +kernel
theorem dX11_isCellOrNone_23 : decode cX11_isCellOrNone 23 = .ok (.iconst 0, 1) := by decide +kernel
theorem dX11_isCellOrNone_24 : decode cX11_isCellOrNone 24 = .ok (.ireturn, 1) := by decide +kernel
set_option maxRecDepth 20000 in
set_option maxHeartbeats 2000000 in
theorem w_X11_isCellOrNone_19 {X : CX} {d : Nat} (hd : 1 ≤ d) {g' : G} {rx : Bool} (g : G) (h : f_X11_isCellOrNone_19 g = some (rx, g')) : SemF X m_X11_isCellOrNone d 19 [] [] g (some (.int (b2i rx))) g' := by
  rw [f_X11_isCellOrNone_19] at h
  refine SF_iconst (1 : Int32) 20 dX11_isCellOrNone_19 rfl rfl ?_
  refine SF_goto 24 dX11_isCellOrNone_20 rfl ?_
  exact RT_b rfl rfl dX11_isCellOrNone_24 h

set_option maxRecDepth 20000 in
set_option maxHeartbeats 2000000 in
theorem w_X11_isCellOrNone {X : CX} {d : Nat} (hd : 1 ≤ d) (l0 : Nat) (l1 : Int32) (g g' : G) (rx : Bool) (k_l0 : KD g l0 11) (h : f_X11_isCellOrNone l0 l1 g = some (rx, g')) : Sem X m_X11_isCellOrNone d [.ref (ad X l0), .int l1] g (some (.int (b2i rx))) g' := by
  refine Sem_of (lo := [(0, .ref (ad X l0)), (1, .int l1)]) (by decide +kernel) rfl (Nat.le_of_ble_eq_true rfl) ?_
  rw [f_X11_isCellOrNone] at h
  refine SF_iload_n 1 1 dX11_isCellOrNone_0 rfl rfl rfl ?_
  refine SF_iconst (-1 : Int32) 2 dX11_isCellOrNone_1 rfl rfl ?_
  refine SF_iceq 19 5 dX11_isCellOrNone_2 rfl rfl (fun c1 => ?_) (fun c1 => ?_)
  · have h := ite_t c1 h
    refine SF_sub [] rfl ?_
    exact w_X11_isCellOrNone_19 hd g  h
  · have h := ite_f c1 h
    refine SF_aload_n 0 6 dX11_isCellOrNone_5 rfl rfl rfl ?_
    obtain ⟨b2, r3, h⟩ := dr_some h
    refine SF_getR 9 fl_X11_78 dX11_isCellOrNone_6 k_l0.1 r3 rfl ?_
    obtain ⟨k4, h⟩ := gdK_some h
    obtain ⟨b5, r6, h⟩ := dr_some h
    refine SF_getR 12 fl_X11_136 dX11_isCellOrNone_9 k4.1 r6 rfl ?_
    refine SF_iload_n 1 13 dX11_isCellOrNone_12 rfl rfl rfl ?_
    obtain ⟨k7, h⟩ := gdK_some h
    obtain ⟨v8, g9, q10, h⟩ := bd_some h
    have s11 := w_X7_isCell (X := X) (Nat.le_refl 0) b5 l1 g g9 v8 k7 q10
    refine SF_callVb 16 mi_X7_isCell ml_X11_143 dX11_isCellOrNone_13 (Nat.le_trans (by decide) hd) s11 k7.1 rfl rfl (Nat.le_of_ble_eq_true rfl) rfl ?_
    have k_l0 := k_l0.ext s11.1
    have k4 := k4.ext s11.1
    have k7 := k7.ext s11.1
    refine SF_ifeq 23 19 dX11_isCellOrNone_16 rfl rfl (fun c12 => ?_) (fun c12 => ?_)
    · have h := ite_t c12 h
      refine SF_iconst (0 : Int32) 24 dX11_isCellOrNone_23 rfl rfl ?_
      exact RT_b rfl rfl dX11_isCellOrNone_24 h
    · have h := ite_f c12 h
      refine SF_sub [] rfl ?_
      exact w_X11_isCellOrNone_19 hd g9  h

theorem dX11_isGoal_0 : decode cX11_isGoal 0 = .ok (.aload_n 0, 1) := by decide +kernel
theorem dX11_isGoal_1 : decode cX11_isGoal 1 = .ok (.getfield 78, 3) := by decide +kernel
theorem dX11_isGoal_4 : decode cX11_isGoal 4 = .ok (.iload_n 1, 1) := by decide +kernel
theorem dX11_isGoal_5 : decode cX11_isGoal 5 = .ok (.invokevirtual 161, 3) := by decide +kernel
theorem dX11_isGoal_8 : decode cX11_isGoal 8 = .ok (.ifCond .eq 23, 3) := by decide +kernel
theorem dX11_isGoal_11 : decode cX11_isGoal 11 = .ok (.aload_n 0, 1) := by decide +kernel
theorem dX11_isGoal_12 : decode cX11_isGoal 12 = .ok (.iload_n 2, 1) := by decide +kernel
theorem dX11_isGoal_13 : decode cX11_isGoal 13 = .ok (.invokevirtual 327, 3) := by decide +kernel
theorem dX11_isGoal_16 : decode cX11_isGoal 16 = .ok (.ifCond .eq 15, 3) := by decide +kernel
theorem dX11_isGoal_19 : decode cX11_isGoal 19 = .ok (.aload_n 0, 1) := by decide +kernel
theorem dX11_isGoal_20 : decode cX11_isGoal 20 = .ok (.iload_n 3, 1) := by decide +kernel
theorem dX11_isGoal_21 : decode cX11_isGoal 21 = .ok (.invokevirtual 327, 3) := by decide +kernel
theorem dX11_isGoal_24 : decode cX11_isGoal 24 = .ok (.ifCond .eq 7, 3) := by decide +kernel
theorem dX11_isGoal_27 : decode cX11_isGoal 27 = .ok (.iconst 1, 1) := by decide +kernel
theorem dX11_isGoal_28 : decode cX11_isGoal 28 = .ok (.goto 4, 3) := by decide +kernel
theorem dX11_isGoal_31 : decode cX11_isGoal 31 = .ok (.iconst 0, 1) := by decide +kernel
theorem dX11_isGoal_32 : decode cX11_isGoal 32 = .ok (.ireturn, 1) := by decide +kernel
set_option maxRecDepth 20000 in
set_option maxHeartbeats 2000000 in
theorem w_X11_isGoal {X : CX} {d : Nat} (hd : 2 ≤ d) (l0 : Nat) (l1 : Int32) (l2 : Int32) (l3 : Int32) (g g' : G) (rx : Bool) (k_l0 : KD g l0 11) (h : f_X11_isGoal l0 l1 l2 l3 g = some (rx, g')) : Sem X m_X11_isGoal d [.ref (ad X l0), .int l1, .int l2, .int l3] g (some (.int (b2i rx))) g' := by
  refine Sem_of (lo := [(0, .ref (ad X l0)), (1, .int l1), (2, .int l2), (3, .int l3)]) (by decide +kernel) rfl (Nat.le_of_ble_eq_true rfl) ?_
  rw [f_X11_isGoal] at h
  refine SF_aload_n 0 1 dX11_isGoal_0 rfl rfl rfl ?_
  obtain ⟨b1, r2, h⟩ := dr_some h
  refine SF_getR 4 fl_X11_78 dX11_isGoal_1 k_l0.1 r2 rfl ?_
  refine SF_iload_n 1 5 dX11_isGoal_4 rfl rfl rfl ?_
  obtain ⟨k3, h⟩ := gdK_some h
  obtain ⟨v4, g5, q6, h⟩ := bd_some h
  have s7 := w_X0_isPair (X := X) (Nat.le_refl 0) b1 l1 g g5 v4 k3 q6
  refine SF_callVb 8 mi_X0_isPair ml_X11_161 dX11_isGoal_5 (Nat.le_trans (by decide) hd) s7 k3.1 rfl rfl (Nat.le_of_ble_eq_true rfl) rfl ?_
  have k_l0 := k_l0.ext s7.1
  have k3 := k3.ext s7.1
  refine SF_ifeq 31 11 dX11_isGoal_8 rfl rfl (fun c8 => ?_) (fun c8 => ?_)
  · have h := ite_t c8 h
    refine SF_iconst (0 : Int32) 32 dX11_isGoal_31 rfl rfl ?_
    exact RT_b rfl rfl dX11_isGoal_32 h
  · have h := ite_f c8 h
    refine SF_aload_n 0 12 dX11_isGoal_11 rfl rfl rfl ?_
    refine SF_iload_n 2 13 dX11_isGoal_12 rfl rfl rfl ?_
    obtain ⟨v9, g10, q11, h⟩ := bd_some h
    have s12 := w_X11_isCellOrNone (X := X) (Nat.le_refl 1) l0 l2 g5 g10 v9 k_l0 q11
    refine SF_callVb 16 mi_X11_isCellOrNone ml_X11_327 dX11_isGoal_13 (Nat.le_trans (by decide) hd) s12 k_l0.1 rfl rfl (Nat.le_of_ble_eq_true rfl) rfl ?_
    have k_l0 := k_l0.ext s12.1
    have k3 := k3.ext s12.1
    refine SF_ifeq 31 19 dX11_isGoal_16 rfl rfl (fun c13 => ?_) (fun c13 => ?_)
    · have h := ite_t c13 h
      refine SF_iconst (0 : Int32) 32 dX11_isGoal_31 rfl rfl ?_
      exact RT_b rfl rfl dX11_isGoal_32 h
    · have h := ite_f c13 h
      refine SF_aload_n 0 20 dX11_isGoal_19 rfl rfl rfl ?_
      refine SF_iload_n 3 21 dX11_isGoal_20 rfl rfl rfl ?_
      obtain ⟨v14, g15, q16, h⟩ := bd_some h
      have s17 := w_X11_isCellOrNone (X := X) (Nat.le_refl 1) l0 l3 g10 g15 v14 k_l0 q16
      refine SF_callVb 24 mi_X11_isCellOrNone ml_X11_327 dX11_isGoal_21 (Nat.le_trans (by decide) hd) s17 k_l0.1 rfl rfl (Nat.le_of_ble_eq_true rfl) rfl ?_
      have k_l0 := k_l0.ext s17.1
      have k3 := k3.ext s17.1
      refine SF_ifeq 31 27 dX11_isGoal_24 rfl rfl (fun c18 => ?_) (fun c18 => ?_)
      · have h := ite_t c18 h
        refine SF_iconst (0 : Int32) 32 dX11_isGoal_31 rfl rfl ?_
        exact RT_b rfl rfl dX11_isGoal_32 h
      · have h := ite_f c18 h
        refine SF_iconst (1 : Int32) 28 dX11_isGoal_27 rfl rfl ?_
        refine SF_goto 32 dX11_isGoal_28 rfl ?_
        exact RT_b rfl rfl dX11_isGoal_32 h

theorem dX4_add_0 : decode cX4_add 0 = .ok (.iload_n 1, 1) := by decide +kernel
theorem dX4_add_1 : decode cX4_add 1 = .ok (.bipush 64, 2) := by decide +kernel
theorem dX4_add_3 : decode cX4_add 3 = .ok (.idiv, 1) := by decide +kernel
theorem dX4_add_4 : decode cX4_add 4 = .ok (.bipush 36, 2) := by decide +kernel
theorem dX4_add_6 : decode cX4_add 6 = .ok (.imul, 1) := by decide +kernel
theorem dX4_add_7 : decode cX4_add 7 = .ok (.iload_n 1, 1) := by decide +kernel
theorem dX4_add_8 : decode cX4_add 8 = .ok (.bipush 64, 2) := by decide +kernel
theorem dX4_add_10 : decode cX4_add 10 = .ok (.irem, 1) := by decide +kernel
theorem dX4_add_11 : decode cX4_add 11 = .ok (.iadd, 1) := by decide +kernel
theorem dX4_add_12 : decode cX4_add 12 = .ok (.istore 5, 2) := by decide +kernel
theorem dX4_add_14 : decode cX4_add 14 = .ok (.iload 5, 2) := by decide +kernel
theorem dX4_add_16 : decode cX4_add 16 = .ok (.ifCond .lt 11, 3) := by decide +kernel
theorem dX4_add_19 : decode cX4_add 19 = .ok (.iload 5, 2) := by decide +kernel
theorem dX4_add_21 : decode cX4_add 21 = .ok (.sipush 1296, 3) := by decide +kernel
theorem dX4_add_24 : decode cX4_add 24 = .ok (.if_icmp .lt 5, 3) := by decide +kernel
theorem dX4_add_27 : decode cX4_add 27 = .ok (.iconst (-1), 1) := by decide +kernel
theorem dX4_add_28 : decode cX4_add 28 = .ok (.ireturn, 1) := by decide +kernel
theorem dX4_add_29 : decode cX4_add 29 = .ok (.aload_n 0, 1) := by decide +kernel
theorem dX4_add_30 : decode cX4_add 30 = .ok (.getfield 27, 3) := by decide +kernel
theorem dX4_add_33 : decode cX4_add 33 = .ok (.iload 5, 2) := by decide +kernel
theorem dX4_add_35 : decode cX4_add 35 = .ok (.iaload, 1) := by decide +kernel
theorem dX4_add_36 : decode cX4_add 36 = .ok (.iconst (-1), 1) := by decide +kernel
theorem dX4_add_37 : decode cX4_add 37 = .ok (.if_icmp .ne 75, 3) := by decide +kernel
theorem dX4_add_40 : decode cX4_add 40 = .ok (.aload_n 0, 1) := by decide +kernel
theorem dX4_add_41 : decode cX4_add 41 = .ok (.getfield 36, 3) := by decide +kernel
theorem dX4_add_44 : decode cX4_add 44 = .ok (.sipush 256, 3) := by decide +kernel
theorem dX4_add_47 : decode cX4_add 47 = .ok (.if_icmp .ge 65, 3) := by decide +kernel
theorem dX4_add_50 : decode cX4_add 50 = .ok (.aload_n 0, 1) := by decide +kernel
theorem dX4_add_51 : decode cX4_add 51 = .ok (.getfield 27, 3) := by decide +kernel
theorem dX4_add_54 : decode cX4_add 54 = .ok (.iload 5, 2) := by decide +kernel
theorem dX4_add_56 : decode cX4_add 56 = .ok (.aload_n 0, 1) := by decide +kernel
theorem dX4_add_57 : decode cX4_add 57 = .ok (.getfield 36, 3) := by decide +kernel
theorem dX4_add_60 : decode cX4_add 60 = .ok (.iastore, 1) := by decide +kernel
theorem dX4_add_61 : decode cX4_add 61 = .ok (.aload_n 0, 1) := by decide +kernel
theorem dX4_add_62 : decode cX4_add 62 = .ok (.getfield 9, 3) := by decide +kernel
theorem dX4_add_65 : decode cX4_add 65 = .ok (.aload_n 0, 1) := by decide +kernel
theorem dX4_add_66 : decode cX4_add 66 = .ok (.getfield 36, 3) := by decide +kernel
theorem dX4_add_69 : decode cX4_add 69 = .ok (.iload_n 1, 1) := by decide +kernel
theorem dX4_add_70 : decode cX4_add 70 = .ok (.iastore, 1) := by decide +kernel
theorem dX4_add_71 : decode cX4_add 71 = .ok (.aload_n 0, 1) := by decide +kernel
theorem dX4_add_72 : decode cX4_add 72 = .ok (.getfield 15, 3) := by decide +kernel
theorem dX4_add_75 : decode cX4_add 75 = .ok (.aload_n 0, 1) := by decide +kernel
theorem dX4_add_76 : decode cX4_add 76 = .ok (.getfield 36, 3) := by decide +kernel
theorem dX4_add_79 : decode cX4_add 79 = .ok (.iload_n 2, 1) := by decide +kernel
theorem dX4_add_80 : decode cX4_add 80 = .ok (.iastore, 1) := by decide +kernel
theorem dX4_add_81 : decode cX4_add 81 = .ok (.aload_n 0, 1) := by decide +kernel
theorem dX4_add_82 : decode cX4_add 82 = .ok (.getfield 18, 3) := by decide +kernel
theorem dX4_add_85 : decode cX4_add 85 = .ok (.aload_n 0, 1) := by decide +kernel
theorem dX4_add_86 : decode cX4_add 86 = .ok (.getfield 36, 3) := by decide +kernel
theorem dX4_add_89 : decode cX4_add 89 = .ok (.iload_n 3, 1) := by decide +kernel
theorem dX4_add_90 : decode cX4_add 90 = .ok (.iastore, 1) := by decide +kernel
theorem dX4_add_91 : decode cX4_add 91 = .ok (.aload_n 0, 1) := by decide +kernel
theorem dX4_add_92 : decode cX4_add 92 = .ok (.getfield 21, 3) := by decide +kernel
theorem dX4_add_95 : decode cX4_add 95 = .ok (.aload_n 0, 1) := by decide +kernel
theorem dX4_add_96 : decode cX4_add 96 = .ok (.getfield 36, 3) := by decide +kernel
theorem dX4_add_99 : decode cX4_add 99 = .ok (.iload 4, 2) := by decide +kernel
theorem dX4_add_101 : decode cX4_add 101 = .ok (.iastore, 1) := by decide +kernel
theorem dX4_add_102 : decode cX4_add 102 = .ok (.aload_n 0, 1) := by decide +kernel
theorem dX4_add_103 : decode cX4_add 103 = .ok (.dup, 1) := by decide +kernel
theorem dX4_add_104 : decode cX4_add 104 = .ok (.getfield 36, 3) := by decide +kernel
theorem dX4_add_107 : decode cX4_add 107 = .ok (.iconst 1, 1) := by decide +kernel
theorem dX4_add_108 : decode cX4_add 108 = .ok (.iadd, 1) := by decide +kernel
theorem dX4_add_109 : decode cX4_add 109 = .ok (.putfield 36, 3) := by decide +kernel
theorem dX4_add_112 : decode cX4_add 112 = .ok (.aload_n 0, 1) := by decide +kernel
theorem dX4_add_113 : decode cX4_add 113 = .ok (.getfield 27, 3) := by decide +kernel
theorem dX4_add_116 : decode cX4_add 116 = .ok (.iload 5, 2) := by decide +kernel
theorem dX4_add_118 : decode cX4_add 118 = .ok (.iaload, 1) := by decide +kernel
theorem dX4_add_119 : decode cX4_add 119 = .ok (.ireturn, 1) := by decide +kernel
set_option maxRecDepth 20000 in
set_option maxHeartbeats 2000000 in
theorem w_X4_add_112 {X : CX} {d : Nat} (hd : 0 ≤ d) {g' : G} {rx : Int32} (l0 : Nat) (l5 : Int32) (g : G) (k_l0 : KD g l0 4) (h : f_X4_add_112 l0 l5 g = some (rx, g')) : SemF X m_X4_add d 112 [(0, .ref (ad X l0)), (5, .int l5)] [] g (some (.int rx)) g' := by
  rw [f_X4_add_112] at h
  refine SF_aload_n 0 113 dX4_add_112 rfl rfl rfl ?_
  obtain ⟨b1, r2, h⟩ := dr_some h
  refine SF_getR 116 fl_X4_27 dX4_add_113 k_l0.1 r2 rfl ?_
  refine SF_iload 1 118 dX4_add_116 rfl rfl ?_
  obtain ⟨k3, h⟩ := gdK_some h
  obtain ⟨i4, h⟩ := gdI_some h
  refine SF_iald 119 dX4_add_118 k3.1 i4 rfl ?_
  exact RT_i rfl dX4_add_119 h

set_option maxRecDepth 20000 in
set_option maxHeartbeats 2000000 in
theorem w_X4_add {X : CX} {d : Nat} (hd : 0 ≤ d) (l0 : Nat) (l1 : Int32) (l2 : Int32) (l3 : Int32) (l4 : Int32) (g g' : G) (rx : Int32) (k_l0 : KD g l0 4) (h : f_X4_add l0 l1 l2 l3 l4 g = some (rx, g')) : Sem X m_X4_add d [.ref (ad X l0), .int l1, .int l2, .int l3, .int l4] g (some (.int rx)) g' := by
  refine Sem_of (lo := [(0, .ref (ad X l0)), (1, .int l1), (2, .int l2), (3, .int l3), (4, .int l4)]) (by decide +kernel) rfl (Nat.le_of_ble_eq_true rfl) ?_
  rw [f_X4_add] at h
  refine SF_iload_n 1 1 dX4_add_0 rfl rfl rfl ?_
  refine SF_bipush (64 : Int32) 3 dX4_add_1 rfl rfl ?_
  refine SF_idiv 4 dX4_add_3 (by decide) rfl ?_
  refine SF_bipush (36 : Int32) 6 dX4_add_4 rfl rfl ?_
  refine SF_imul 7 dX4_add_6 rfl ?_
  refine SF_iload_n 1 8 dX4_add_7 rfl rfl rfl ?_
  refine SF_bipush (64 : Int32) 10 dX4_add_8 rfl rfl ?_
  refine SF_irem 11 dX4_add_10 (by decide) rfl ?_
  refine SF_iadd 12 dX4_add_11 rfl ?_
  obtain ⟨y1, e2, h⟩ := li_some h
  refine SF_eqI e2 ?_
  refine SF_istore [(5, .int y1), (0, .ref (ad X l0)), (1, .int l1), (2, .int l2), (3, .int l3), (4, .int l4)] 14 dX4_add_12 (by decide) rfl rfl ?_
  refine SF_iload 0 16 dX4_add_14 rfl rfl ?_
  refine SF_iflt 27 19 dX4_add_16 rfl rfl (fun c3 => ?_) (fun c3 => ?_)
  · have h := ite_t c3 h
    refine SF_iconst (-1 : Int32) 28 dX4_add_27 rfl rfl ?_
    exact RT_i rfl dX4_add_28 h
  · have h := ite_f c3 h
    refine SF_iload 0 21 dX4_add_19 rfl rfl ?_
    refine SF_sipush (1296 : Int32) 24 dX4_add_21 rfl rfl ?_
    refine SF_iclt 29 27 dX4_add_24 rfl rfl (fun c4 => ?_) (fun c4 => ?_)
    · have h := ite_t c4 h
      refine SF_aload_n 1 30 dX4_add_29 rfl rfl rfl ?_
      obtain ⟨b5, r6, h⟩ := dr_some h
      refine SF_getR 33 fl_X4_27 dX4_add_30 k_l0.1 r6 rfl ?_
      refine SF_iload 0 35 dX4_add_33 rfl rfl ?_
      obtain ⟨k7, h⟩ := gdK_some h
      obtain ⟨i8, h⟩ := gdI_some h
      refine SF_iald 36 dX4_add_35 k7.1 i8 rfl ?_
      refine SF_iconst (-1 : Int32) 37 dX4_add_36 rfl rfl ?_
      refine SF_icne 112 40 dX4_add_37 rfl rfl (fun c9 => ?_) (fun c9 => ?_)
      · have h := ite_f c9 h
        refine SF_sub [1, 0] rfl ?_
        exact w_X4_add_112 hd l0 y1 g k_l0 h
      · have h := ite_t c9 h
        refine SF_aload_n 1 41 dX4_add_40 rfl rfl rfl ?_
        refine SF_getI 44 fl_X4_36 dX4_add_41 k_l0.1 rfl ?_
        refine SF_sipush (256 : Int32) 47 dX4_add_44 rfl rfl ?_
        refine SF_icge 112 50 dX4_add_47 rfl rfl (fun c10 => ?_) (fun c10 => ?_)
        · have h := ite_t c10 h
          refine SF_sub [1, 0] rfl ?_
          exact w_X4_add_112 hd l0 y1 g k_l0 h
        · have h := ite_f c10 h
          refine SF_aload_n 1 51 dX4_add_50 rfl rfl rfl ?_
          refine SF_getR 54 fl_X4_27 dX4_add_51 k_l0.1 r6 rfl ?_
          refine SF_iload 0 56 dX4_add_54 rfl rfl ?_
          refine SF_aload_n 1 57 dX4_add_56 rfl rfl rfl ?_
          refine SF_getI 60 fl_X4_36 dX4_add_57 k_l0.1 rfl ?_
          refine SF_iast 61 dX4_add_60 k7.1 i8 rfl ?_
          obtain ⟨g11, e12, h⟩ := lg_some h
          rw [← e12]
          have k_l0 := KD.eq e12 k_l0
          have k7 := KD.eq e12 k7
          have r6 := gR_eq e12 r6
          have i8 := vp_eq e12 i8
          refine SF_aload_n 1 62 dX4_add_61 rfl rfl rfl ?_
          obtain ⟨b13, r14, h⟩ := dr_some h
          refine SF_getR 65 fl_X4_9 dX4_add_62 k_l0.1 r14 rfl ?_
          refine SF_aload_n 1 66 dX4_add_65 rfl rfl rfl ?_
          refine SF_getI 69 fl_X4_36 dX4_add_66 k_l0.1 rfl ?_
          refine SF_iload_n 2 70 dX4_add_69 rfl rfl rfl ?_
          obtain ⟨k15, h⟩ := gdK_some h
          obtain ⟨i16, h⟩ := gdI_some h
          refine SF_iast 71 dX4_add_70 k15.1 i16 rfl ?_
          obtain ⟨g17, e18, h⟩ := lg_some h
          rw [← e18]
          have k_l0 := KD.eq e18 k_l0
          have k7 := KD.eq e18 k7
          have k15 := KD.eq e18 k15
          have r6 := gR_eq e18 r6
          have r14 := gR_eq e18 r14
          have i8 := vp_eq e18 i8
          have i16 := vp_eq e18 i16
          refine SF_aload_n 1 72 dX4_add_71 rfl rfl rfl ?_
          obtain ⟨b19, r20, h⟩ := dr_some h
          refine SF_getR 75 fl_X4_15 dX4_add_72 k_l0.1 r20 rfl ?_
          refine SF_aload_n 1 76 dX4_add_75 rfl rfl rfl ?_
          refine SF_getI 79 fl_X4_36 dX4_add_76 k_l0.1 rfl ?_
          refine SF_iload_n 3 80 dX4_add_79 rfl rfl rfl ?_
          obtain ⟨k21, h⟩ := gdK_some h
          obtain ⟨i22, h⟩ := gdI_some h
          refine SF_iast 81 dX4_add_80 k21.1 i22 rfl ?_
          obtain ⟨g23, e24, h⟩ := lg_some h
          rw [← e24]
          have k_l0 := KD.eq e24 k_l0
          have k7 := KD.eq e24 k7
          have k15 := KD.eq e24 k15
          have k21 := KD.eq e24 k21
          have r6 := gR_eq e24 r6
          have r14 := gR_eq e24 r14
          have r20 := gR_eq e24 r20
          have i8 := vp_eq e24 i8
          have i16 := vp_eq e24 i16
          have i22 := vp_eq e24 i22
          refine SF_aload_n 1 82 dX4_add_81 rfl rfl rfl ?_
          obtain ⟨b25, r26, h⟩ := dr_some h
          refine SF_getR 85 fl_X4_18 dX4_add_82 k_l0.1 r26 rfl ?_
          refine SF_aload_n 1 86 dX4_add_85 rfl rfl rfl ?_
          refine SF_getI 89 fl_X4_36 dX4_add_86 k_l0.1 rfl ?_
          refine SF_iload_n 4 90 dX4_add_89 rfl rfl rfl ?_
          obtain ⟨k27, h⟩ := gdK_some h
          obtain ⟨i28, h⟩ := gdI_some h
          refine SF_iast 91 dX4_add_90 k27.1 i28 rfl ?_
          obtain ⟨g29, e30, h⟩ := lg_some h
          rw [← e30]
          have k_l0 := KD.eq e30 k_l0
          have k7 := KD.eq e30 k7
          have k15 := KD.eq e30 k15
          have k21 := KD.eq e30 k21
          have k27 := KD.eq e30 k27
          have r6 := gR_eq e30 r6
          have r14 := gR_eq e30 r14
          have r20 := gR_eq e30 r20
          have r26 := gR_eq e30 r26
          have i8 := vp_eq e30 i8
          have i16 := vp_eq e30 i16
          have i22 := vp_eq e30 i22
          have i28 := vp_eq e30 i28
          refine SF_aload_n 1 92 dX4_add_91 rfl rfl rfl ?_
          obtain ⟨b31, r32, h⟩ := dr_some h
          refine SF_getR 95 fl_X4_21 dX4_add_92 k_l0.1 r32 rfl ?_
          refine SF_aload_n 1 96 dX4_add_95 rfl rfl rfl ?_
          refine SF_getI 99 fl_X4_36 dX4_add_96 k_l0.1 rfl ?_
          refine SF_iload 5 101 dX4_add_99 rfl rfl ?_
          obtain ⟨k33, h⟩ := gdK_some h
          obtain ⟨i34, h⟩ := gdI_some h
          refine SF_iast 102 dX4_add_101 k33.1 i34 rfl ?_
          obtain ⟨g35, e36, h⟩ := lg_some h
          rw [← e36]
          have k_l0 := KD.eq e36 k_l0
          have k7 := KD.eq e36 k7
          have k15 := KD.eq e36 k15
          have k21 := KD.eq e36 k21
          have k27 := KD.eq e36 k27
          have k33 := KD.eq e36 k33
          have r6 := gR_eq e36 r6
          have r14 := gR_eq e36 r14
          have r20 := gR_eq e36 r20
          have r26 := gR_eq e36 r26
          have r32 := gR_eq e36 r32
          have i8 := vp_eq e36 i8
          have i16 := vp_eq e36 i16
          have i22 := vp_eq e36 i22
          have i28 := vp_eq e36 i28
          have i34 := vp_eq e36 i34
          refine SF_aload_n 1 103 dX4_add_102 rfl rfl rfl ?_
          refine SF_dup 104 dX4_add_103 rfl rfl ?_
          refine SF_getI 107 fl_X4_36 dX4_add_104 k_l0.1 rfl ?_
          refine SF_iconst (1 : Int32) 108 dX4_add_107 rfl rfl ?_
          refine SF_iadd 109 dX4_add_108 rfl ?_
          refine SF_putI 112 fl_X4_36 dX4_add_109 k_l0.1 (fn_int _) (Or.inl rfl) rfl ?_
          obtain ⟨g37, e38, h⟩ := lg_some h
          rw [← e38]
          have k_l0 := KD.eq e38 k_l0
          have k7 := KD.eq e38 k7
          have k15 := KD.eq e38 k15
          have k21 := KD.eq e38 k21
          have k27 := KD.eq e38 k27
          have k33 := KD.eq e38 k33
          have r6 := gR_eq e38 r6
          have r14 := gR_eq e38 r14
          have r20 := gR_eq e38 r20
          have r26 := gR_eq e38 r26
          have r32 := gR_eq e38 r32
          have i8 := vp_eq e38 i8
          have i16 := vp_eq e38 i16
          have i22 := vp_eq e38 i22
          have i28 := vp_eq e38 i28
          have i34 := vp_eq e38 i34
          refine SF_sub [1, 0] rfl ?_
          exact w_X4_add_112 hd l0 y1 g37 k_l0 h
    · have h := ite_f c4 h
      refine SF_iconst (-1 : Int32) 28 dX4_add_27 rfl rfl ?_
      exact RT_i rfl dX4_add_28 h

theorem dX4_has_0 : decode cX4_has 0 = .ok (.iload_n 1, 1) := by decide +kernel
theorem dX4_has_1 : decode cX4_has 1 = .ok (.ifCond .lt 22, 3) := by decide +kernel
theorem dX4_has_4 : decode cX4_has 4 = .ok (.iload_n 1, 1) := by decide +kernel
theorem dX4_has_5 : decode cX4_has 5 = .ok (.aload_n 0, 1) := by decide +kernel
theorem dX4_has_6 : decode cX4_has 6 = .ok (.getfield 36, 3) := by decide +kernel
theorem dX4_has_9 : decode cX4_has 9 = .ok (.if_icmp .ge 14, 3) := by decide +kernel
theorem dX4_has_12 : decode cX4_has 12 = .ok (.iload_n 1, 1) := by decide +kernel
theorem dX4_has_13 : decode cX4_has 13 = .ok (.sipush 256, 3) := by decide +kernel
theorem dX4_has_16 : decode cX4_has 16 = .ok (.if_icmp .ge 7, 3) := by decide +kernel
theorem dX4_has_19 : decode cX4_has 19 = .ok (.iconst 1, 1) := by decide +kernel
theorem dX4_has_20 : decode cX4_has 20 = .ok (.goto 4, 3) := by decide +kernel
theorem dX4_has_23 : decode cX4_has 23 = .ok (.iconst 0, 1) := by decide +kernel
theorem dX4_has_24 : decode cX4_has 24 = .ok (.ireturn, 1) := by decide +kernel
set_option maxRecDepth 20000 in
set_option maxHeartbeats 2000000 in
theorem w_X4_has {X : CX} {d : Nat} (hd : 0 ≤ d) (l0 : Nat) (l1 : Int32) (g g' : G) (rx : Bool) (k_l0 : KD g l0 4) (h : f_X4_has l0 l1 g = some (rx, g')) : Sem X m_X4_has d [.ref (ad X l0), .int l1] g (some (.int (b2i rx))) g' := by
  refine Sem_of (lo := [(0, .ref (ad X l0)), (1, .int l1)]) (by decide +kernel) rfl (Nat.le_of_ble_eq_true rfl) ?_
  rw [f_X4_has] at h
  refine SF_iload_n 1 1 dX4_has_0 rfl rfl rfl ?_
  refine SF_iflt 23 4 dX4_has_1 rfl rfl (fun c1 => ?_) (fun c1 => ?_)
  · have h := ite_t c1 h
    refine SF_iconst (0 : Int32) 24 dX4_has_23 rfl rfl ?_
    exact RT_b rfl rfl dX4_has_24 h
  · have h := ite_f c1 h
    refine SF_iload_n 1 5 dX4_has_4 rfl rfl rfl ?_
    refine SF_aload_n 0 6 dX4_has_5 rfl rfl rfl ?_
    refine SF_getI 9 fl_X4_36 dX4_has_6 k_l0.1 rfl ?_
    refine SF_icge 23 12 dX4_has_9 rfl rfl (fun c2 => ?_) (fun c2 => ?_)
    · have h := ite_t c2 h
      refine SF_iconst (0 : Int32) 24 dX4_has_23 rfl rfl ?_
      exact RT_b rfl rfl dX4_has_24 h
    · have h := ite_f c2 h
      refine SF_iload_n 1 13 dX4_has_12 rfl rfl rfl ?_
      refine SF_sipush (256 : Int32) 16 dX4_has_13 rfl rfl ?_
      refine SF_icge 23 19 dX4_has_16 rfl rfl (fun c3 => ?_) (fun c3 => ?_)
      · have h := ite_t c3 h
        refine SF_iconst (0 : Int32) 24 dX4_has_23 rfl rfl ?_
        exact RT_b rfl rfl dX4_has_24 h
      · have h := ite_f c3 h
        refine SF_iconst (1 : Int32) 20 dX4_has_19 rfl rfl ?_
        refine SF_goto 24 dX4_has_20 rfl ?_
        exact RT_b rfl rfl dX4_has_24 h

theorem dX4_fits_0 : decode cX4_fits 0 = .ok (.aload_n 0, 1) := by decide +kernel
theorem dX4_fits_1 : decode cX4_fits 1 = .ok (.iload_n 1, 1) := by decide +kernel
theorem dX4_fits_2 : decode cX4_fits 2 = .ok (.invokevirtual 54, 3) := by decide +kernel
theorem dX4_fits_5 : decode cX4_fits 5 = .ok (.ifCond .eq 43, 3) := by decide +kernel
theorem dX4_fits_8 : decode cX4_fits 8 = .ok (.iload_n 2, 1) := by decide +kernel
theorem dX4_fits_9 : decode cX4_fits 9 = .ok (.iconst (-1), 1) := by decide +kernel
theorem dX4_fits_10 : decode cX4_fits 10 = .ok (.if_icmp .eq 16, 3) := by decide +kernel
theorem dX4_fits_13 : decode cX4_fits 13 = .ok (.aload_n 0, 1) := by decide +kernel
theorem dX4_fits_14 : decode cX4_fits 14 = .ok (.getfield 9, 3) := by decide +kernel
theorem dX4_fits_17 : decode cX4_fits 17 = .ok (.iload_n 1, 1) := by decide +kernel
theorem dX4_fits_18 : decode cX4_fits 18 = .ok (.iaload, 1) := by decide +kernel
theorem dX4_fits_19 : decode cX4_fits 19 = .ok (.bipush 64, 2) := by decide +kernel
theorem dX4_fits_21 : decode cX4_fits 21 = .ok (.idiv, 1) := by decide +kernel
theorem dX4_fits_22 : decode cX4_fits 22 = .ok (.iload_n 2, 1) := by decide +kernel
theorem dX4_fits_23 : decode cX4_fits 23 = .ok (.if_icmp .ne 25, 3) := by decide +kernel
theorem dX4_fits_26 : decode cX4_fits 26 = .ok (.iload_n 3, 1) := by decide +kernel
theorem dX4_fits_27 : decode cX4_fits 27 = .ok (.iconst (-1), 1) := by decide +kernel
theorem dX4_fits_28 : decode cX4_fits 28 = .ok (.if_icmp .eq 16, 3) := by decide +kernel
theorem dX4_fits_31 : decode cX4_fits 31 = .ok (.aload_n 0, 1) := by decide +kernel
theorem dX4_fits_32 : decode cX4_fits 32 = .ok (.getfield 9, 3) := by decide +kernel
theorem dX4_fits_35 : decode cX4_fits 35 = .ok (.iload_n 1, 1) := by decide +kernel
theorem dX4_fits_36 : decode cX4_fits 36 = .ok (.iaload, 1) := by decide +kernel
theorem dX4_fits_37 : decode cX4_fits 37 = .ok (.bipush 64, 2) := by decide +kernel
theorem dX4_fits_39 : decode cX4_fits 39 = .ok (.irem, 1) := by decide +kernel
theorem dX4_fits_40 : decode cX4_fits 40 = .ok (.iload_n 3, 1) := by decide +kernel
theorem dX4_fits_41 : decode cX4_fits 41 = .ok (.if_icmp .ne 7, 3) := by decide +kernel
theorem dX4_fits_44 : decode cX4_fits 44 = .ok (.iconst 1, 1) := by decide +kernel
theorem dX4_fits_45 : decode cX4_fits 45 = .ok (.goto 4, 3) := by decide +kernel
theorem dX4_fits_48 : decode cX4_fits 48 = .ok (.iconst 0, 1) := by decide +kernel
theorem dX4_fits_49 : decode cX4_fits 49 = .ok (.ireturn, 1) := by decide +kernel
set_option maxRecDepth 20000 in
set_option maxHeartbeats 2000000 in
theorem w_X4_fits_44 {X : CX} {d : Nat} (hd : 1 ≤ d) {g' : G} {rx : Bool} (g : G) (h : f_X4_fits_44 g = some (rx, g')) : SemF X m_X4_fits d 44 [] [] g (some (.int (b2i rx))) g' := by
  rw [f_X4_fits_44] at h
  refine SF_iconst (1 : Int32) 45 dX4_fits_44 rfl rfl ?_
  refine SF_goto 49 dX4_fits_45 rfl ?_
  exact RT_b rfl rfl dX4_fits_49 h

set_option maxRecDepth 20000 in
set_option maxHeartbeats 2000000 in
theorem w_X4_fits_26 {X : CX} {d : Nat} (hd : 1 ≤ d) {g' : G} {rx : Bool} (l0 : Nat) (l1 : Int32) (l3 : Int32) (g : G) (k_l0 : KD g l0 4) (h : f_X4_fits_26 l0 l1 l3 g = some (rx, g')) : SemF X m_X4_fits d 26 [(0, .ref (ad X l0)), (1, .int l1), (3, .int l3)] [] g (some (.int (b2i rx))) g' := by
  rw [f_X4_fits_26] at h
  refine SF_iload_n 2 27 dX4_fits_26 rfl rfl rfl ?_
  refine SF_iconst (-1 : Int32) 28 dX4_fits_27 rfl rfl ?_
  refine SF_iceq 44 31 dX4_fits_28 rfl rfl (fun c1 => ?_) (fun c1 => ?_)
  · have h := ite_t c1 h
    refine SF_sub [] rfl ?_
    exact w_X4_fits_44 hd g  h
  · have h := ite_f c1 h
    refine SF_aload_n 0 32 dX4_fits_31 rfl rfl rfl ?_
    obtain ⟨b2, r3, h⟩ := dr_some h
    refine SF_getR 35 fl_X4_9 dX4_fits_32 k_l0.1 r3 rfl ?_
    refine SF_iload_n 1 36 dX4_fits_35 rfl rfl rfl ?_
    obtain ⟨k4, h⟩ := gdK_some h
    obtain ⟨i5, h⟩ := gdI_some h
    refine SF_iald 37 dX4_fits_36 k4.1 i5 rfl ?_
    refine SF_bipush (64 : Int32) 39 dX4_fits_37 rfl rfl ?_
    refine SF_irem 40 dX4_fits_39 (by decide) rfl ?_
    refine SF_iload_n 2 41 dX4_fits_40 rfl rfl rfl ?_
    refine SF_icne 48 44 dX4_fits_41 rfl rfl (fun c6 => ?_) (fun c6 => ?_)
    · have h := ite_f c6 h
      refine SF_iconst (0 : Int32) 49 dX4_fits_48 rfl rfl ?_
      exact RT_b rfl rfl dX4_fits_49 h
    · have h := ite_t c6 h
      refine SF_sub [] rfl ?_
      exact w_X4_fits_44 hd g  h

set_option maxRecDepth 20000 in
set_option maxHeartbeats 2000000 in
theorem w_X4_fits {X : CX} {d : Nat} (hd : 1 ≤ d) (l0 : Nat) (l1 : Int32) (l2 : Int32) (l3 : Int32) (g g' : G) (rx : Bool) (k_l0 : KD g l0 4) (h : f_X4_fits l0 l1 l2 l3 g = some (rx, g')) : Sem X m_X4_fits d [.ref (ad X l0), .int l1, .int l2, .int l3] g (some (.int (b2i rx))) g' := by
  refine Sem_of (lo := [(0, .ref (ad X l0)), (1, .int l1), (2, .int l2), (3, .int l3)]) (by decide +kernel) rfl (Nat.le_of_ble_eq_true rfl) ?_
  rw [f_X4_fits] at h
  refine SF_aload_n 0 1 dX4_fits_0 rfl rfl rfl ?_
  refine SF_iload_n 1 2 dX4_fits_1 rfl rfl rfl ?_
  obtain ⟨v1, g2, q3, h⟩ := bd_some h
  have s4 := w_X4_has (X := X) (Nat.le_refl 0) l0 l1 g g2 v1 k_l0 q3
  refine SF_callVb 5 mi_X4_has ml_X4_54 dX4_fits_2 (Nat.le_trans (by decide) hd) s4 k_l0.1 rfl rfl (Nat.le_of_ble_eq_true rfl) rfl ?_
  have k_l0 := k_l0.ext s4.1
  refine SF_ifeq 48 8 dX4_fits_5 rfl rfl (fun c5 => ?_) (fun c5 => ?_)
  · have h := ite_t c5 h
    refine SF_iconst (0 : Int32) 49 dX4_fits_48 rfl rfl ?_
    exact RT_b rfl rfl dX4_fits_49 h
  · have h := ite_f c5 h
    refine SF_iload_n 2 9 dX4_fits_8 rfl rfl rfl ?_
    refine SF_iconst (-1 : Int32) 10 dX4_fits_9 rfl rfl ?_
    refine SF_iceq 26 13 dX4_fits_10 rfl rfl (fun c6 => ?_) (fun c6 => ?_)
    · have h := ite_t c6 h
      refine SF_sub [0, 1, 3] rfl ?_
      exact w_X4_fits_26 hd l0 l1 l3 g2 k_l0 h
    · have h := ite_f c6 h
      refine SF_aload_n 0 14 dX4_fits_13 rfl rfl rfl ?_
      obtain ⟨b7, r8, h⟩ := dr_some h
      refine SF_getR 17 fl_X4_9 dX4_fits_14 k_l0.1 r8 rfl ?_
      refine SF_iload_n 1 18 dX4_fits_17 rfl rfl rfl ?_
      obtain ⟨k9, h⟩ := gdK_some h
      obtain ⟨i10, h⟩ := gdI_some h
      refine SF_iald 19 dX4_fits_18 k9.1 i10 rfl ?_
      refine SF_bipush (64 : Int32) 21 dX4_fits_19 rfl rfl ?_
      refine SF_idiv 22 dX4_fits_21 (by decide) rfl ?_
      refine SF_iload_n 2 23 dX4_fits_22 rfl rfl rfl ?_
      refine SF_icne 48 26 dX4_fits_23 rfl rfl (fun c11 => ?_) (fun c11 => ?_)
      · have h := ite_f c11 h
        refine SF_iconst (0 : Int32) 49 dX4_fits_48 rfl rfl ?_
        exact RT_b rfl rfl dX4_fits_49 h
      · have h := ite_t c11 h
        refine SF_sub [0, 1, 3] rfl ?_
        exact w_X4_fits_26 hd l0 l1 l3 g2 k_l0 h

