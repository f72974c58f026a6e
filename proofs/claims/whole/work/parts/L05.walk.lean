theorem dX9_aim_0 : decode cX9_aim 0 = .ok (.aload_n 1, 1) := by decide +kernel
theorem dX9_aim_1 : decode cX9_aim 1 = .ok (.iload_n 2, 1) := by decide +kernel
theorem dX9_aim_2 : decode cX9_aim 2 = .ok (.invokevirtual 38, 3) := by decide +kernel
theorem dX9_aim_5 : decode cX9_aim 5 = .ok (.ifCond .ne 4, 3) := by decide +kernel
theorem dX9_aim_8 : decode cX9_aim 8 = .ok (.return_, 1) := by decide +kernel
theorem dX9_aim_9 : decode cX9_aim 9 = .ok (.aload_n 0, 1) := by decide +kernel
theorem dX9_aim_10 : decode cX9_aim 10 = .ok (.aload_n 1, 1) := by decide +kernel
theorem dX9_aim_11 : decode cX9_aim 11 = .ok (.getfield 44, 3) := by decide +kernel
theorem dX9_aim_14 : decode cX9_aim 14 = .ok (.putfield 34, 3) := by decide +kernel
theorem dX9_aim_17 : decode cX9_aim 17 = .ok (.aload_n 0, 1) := by decide +kernel
theorem dX9_aim_18 : decode cX9_aim 18 = .ok (.aload_n 1, 1) := by decide +kernel
theorem dX9_aim_19 : decode cX9_aim 19 = .ok (.iload_n 2, 1) := by decide +kernel
theorem dX9_aim_20 : decode cX9_aim 20 = .ok (.invokevirtual 45, 3) := by decide +kernel
theorem dX9_aim_23 : decode cX9_aim 23 = .ok (.putfield 49, 3) := by decide +kernel
theorem dX9_aim_26 : decode cX9_aim 26 = .ok (.aload_n 0, 1) := by decide +kernel
theorem dX9_aim_27 : decode cX9_aim 27 = .ok (.aload_n 1, 1) := by decide +kernel
theorem dX9_aim_28 : decode cX9_aim 28 = .ok (.getfield 53, 3) := by decide +kernel
theorem dX9_aim_31 : decode cX9_aim 31 = .ok (.iload_n 2, 1) := by decide +kernel
theorem dX9_aim_32 : decode cX9_aim 32 = .ok (.iaload, 1) := by decide +kernel
theorem dX9_aim_33 : decode cX9_aim 33 = .ok (.putfield 56, 3) := by decide +kernel
theorem dX9_aim_36 : decode cX9_aim 36 = .ok (.aload_n 0, 1) := by decide +kernel
theorem dX9_aim_37 : decode cX9_aim 37 = .ok (.getfield 11, 3) := by decide +kernel
theorem dX9_aim_40 : decode cX9_aim 40 = .ok (.iconst 0, 1) := by decide +kernel
theorem dX9_aim_41 : decode cX9_aim 41 = .ok (.iload_n 2, 1) := by decide +kernel
theorem dX9_aim_42 : decode cX9_aim 42 = .ok (.iastore, 1) := by decide +kernel
theorem dX9_aim_43 : decode cX9_aim 43 = .ok (.aload_n 0, 1) := by decide +kernel
theorem dX9_aim_44 : decode cX9_aim 44 = .ok (.aload_n 1, 1) := by decide +kernel
theorem dX9_aim_45 : decode cX9_aim 45 = .ok (.getfield 60, 3) := by decide +kernel
theorem dX9_aim_48 : decode cX9_aim 48 = .ok (.iload_n 2, 1) := by decide +kernel
theorem dX9_aim_49 : decode cX9_aim 49 = .ok (.iaload, 1) := by decide +kernel
theorem dX9_aim_50 : decode cX9_aim 50 = .ok (.invokevirtual 63, 3) := by decide +kernel
theorem dX9_aim_53 : decode cX9_aim 53 = .ok (.aload_n 0, 1) := by decide +kernel
theorem dX9_aim_54 : decode cX9_aim 54 = .ok (.getfield 67, 3) := by decide +kernel
theorem dX9_aim_57 : decode cX9_aim 57 = .ok (.aload_n 0, 1) := by decide +kernel
theorem dX9_aim_58 : decode cX9_aim 58 = .ok (.getfield 34, 3) := by decide +kernel
theorem dX9_aim_61 : decode cX9_aim 61 = .ok (.getfield 70, 3) := by decide +kernel
theorem dX9_aim_64 : decode cX9_aim 64 = .ok (.if_icmp .ne 17, 3) := by decide +kernel
theorem dX9_aim_67 : decode cX9_aim 67 = .ok (.aload_n 0, 1) := by decide +kernel
theorem dX9_aim_68 : decode cX9_aim 68 = .ok (.getfield 75, 3) := by decide +kernel
theorem dX9_aim_71 : decode cX9_aim 71 = .ok (.aload_n 0, 1) := by decide +kernel
theorem dX9_aim_72 : decode cX9_aim 72 = .ok (.getfield 34, 3) := by decide +kernel
theorem dX9_aim_75 : decode cX9_aim 75 = .ok (.getfield 78, 3) := by decide +kernel
theorem dX9_aim_78 : decode cX9_aim 78 = .ok (.if_icmp .eq 7, 3) := by decide +kernel
theorem dX9_aim_81 : decode cX9_aim 81 = .ok (.aload_n 0, 1) := by decide +kernel
theorem dX9_aim_82 : decode cX9_aim 82 = .ok (.invokevirtual 81, 3) := by decide +kernel
theorem dX9_aim_85 : decode cX9_aim 85 = .ok (.return_, 1) := by decide +kernel
set_option maxRecDepth 20000 in
set_option maxHeartbeats 2000000 in
theorem w_X9_aim_81 {X : CX} {d : Nat} (hd : 3 ≤ d) {g' : G} {rx : Unit} (l0 : Nat) (g : G) (k_l0 : KD g l0 9) (h : f_X9_aim_81 l0 g = some (rx, g')) : SemF X m_X9_aim d 81 [(0, .ref (ad X l0))] [] g none g' := by
  rw [f_X9_aim_81] at h
  refine SF_aload_n 0 82 dX9_aim_81 rfl rfl rfl ?_
  obtain ⟨v1, g2, q3, h⟩ := bd_some h
  have s4 := w_X9_drawRings (X := X) (Nat.le_refl 2) l0 g g2 v1 k_l0 q3
  refine SF_callVv 85 mi_X9_drawRings ml_X9_81 dX9_aim_82 (Nat.le_trans (by decide) hd) s4 k_l0.1 rfl rfl (Nat.le_of_ble_eq_true rfl) rfl ?_
  have k_l0 := k_l0.ext s4.1
  exact RT_v rfl dX9_aim_85 h

set_option maxRecDepth 20000 in
set_option maxHeartbeats 2000000 in
theorem w_X9_aim {X : CX} {d : Nat} (hd : 3 ≤ d) (l0 : Nat) (l1 : Nat) (l2 : Int32) (g g' : G) (rx : Unit) (k_l0 : KD g l0 9) (k_l1 : KD g l1 0) (h : f_X9_aim l0 l1 l2 g = some (rx, g')) : Sem X m_X9_aim d [.ref (ad X l0), .ref (ad X l1), .int l2] g none g' := by
  refine Sem_of (lo := [(0, .ref (ad X l0)), (1, .ref (ad X l1)), (2, .int l2)]) (by decide +kernel) rfl (Nat.le_of_ble_eq_true rfl) ?_
  rw [f_X9_aim] at h
  refine SF_aload_n 1 1 dX9_aim_0 rfl rfl rfl ?_
  refine SF_iload_n 2 2 dX9_aim_1 rfl rfl rfl ?_
  obtain ⟨v1, g2, q3, h⟩ := bd_some h
  have s4 := w_X0_isPair (X := X) (Nat.le_refl 0) l1 l2 g g2 v1 k_l1 q3
  refine SF_callVb 5 mi_X0_isPair ml_X9_38 dX9_aim_2 (Nat.le_trans (by decide) hd) s4 k_l1.1 rfl rfl (Nat.le_of_ble_eq_true rfl) rfl ?_
  have k_l0 := k_l0.ext s4.1
  have k_l1 := k_l1.ext s4.1
  refine SF_ifne 9 8 dX9_aim_5 rfl rfl (fun c5 => ?_) (fun c5 => ?_)
  · have h := ite_f c5 h
    refine SF_aload_n 0 10 dX9_aim_9 rfl rfl rfl ?_
    refine SF_aload_n 1 11 dX9_aim_10 rfl rfl rfl ?_
    obtain ⟨b6, r7, h⟩ := dr_some h
    refine SF_getR 14 fl_X9_44 dX9_aim_11 k_l1.1 r7 rfl ?_
    refine SF_putR 17 fl_X9_34 dX9_aim_14 k_l0.1 (fn_obj _ _) (Or.inl rfl) rfl ?_
    obtain ⟨g8, e9, h⟩ := lg_some h
    rw [← e9]
    have k_l0 := KD.eq e9 k_l0
    have k_l1 := KD.eq e9 k_l1
    refine SF_aload_n 0 18 dX9_aim_17 rfl rfl rfl ?_
    refine SF_aload_n 1 19 dX9_aim_18 rfl rfl rfl ?_
    refine SF_iload_n 2 20 dX9_aim_19 rfl rfl rfl ?_
    obtain ⟨v10, g11, q12, h⟩ := bd_some h
    have s13 := w_X0_freeFor (X := X) (Nat.le_refl 1) l1 l2 g8 g11 v10 k_l1 q12
    refine SF_callVl 23 mi_X0_freeFor ml_X9_45 dX9_aim_20 (Nat.le_trans (by decide) hd) s13 k_l1.1 rfl rfl (Nat.le_of_ble_eq_true rfl) rfl ?_
    have k_l0 := k_l0.ext s13.1
    have k_l1 := k_l1.ext s13.1
    refine SF_putL 26 fl_X9_49 dX9_aim_23 k_l0.1 (fn_long _) (Or.inl rfl) rfl ?_
    obtain ⟨g14, e15, h⟩ := lg_some h
    rw [← e15]
    have k_l0 := KD.eq e15 k_l0
    have k_l1 := KD.eq e15 k_l1
    refine SF_aload_n 0 27 dX9_aim_26 rfl rfl rfl ?_
    refine SF_aload_n 1 28 dX9_aim_27 rfl rfl rfl ?_
    obtain ⟨b16, r17, h⟩ := dr_some h
    refine SF_getR 31 fl_X9_53 dX9_aim_28 k_l1.1 r17 rfl ?_
    refine SF_iload_n 2 32 dX9_aim_31 rfl rfl rfl ?_
    obtain ⟨k18, h⟩ := gdK_some h
    obtain ⟨i19, h⟩ := gdI_some h
    refine SF_iald 33 dX9_aim_32 k18.1 i19 rfl ?_
    refine SF_putI 36 fl_X9_56 dX9_aim_33 k_l0.1 (fn_int _) (Or.inl rfl) rfl ?_
    obtain ⟨g20, e21, h⟩ := lg_some h
    rw [← e21]
    have k_l0 := KD.eq e21 k_l0
    have k_l1 := KD.eq e21 k_l1
    have k18 := KD.eq e21 k18
    have r17 := gR_eq e21 r17
    have i19 := vp_eq e21 i19
    refine SF_aload_n 0 37 dX9_aim_36 rfl rfl rfl ?_
    obtain ⟨b22, r23, h⟩ := dr_some h
    refine SF_getR 40 fl_X9_11 dX9_aim_37 k_l0.1 r23 rfl ?_
    refine SF_iconst (0 : Int32) 41 dX9_aim_40 rfl rfl ?_
    refine SF_iload_n 2 42 dX9_aim_41 rfl rfl rfl ?_
    obtain ⟨k24, h⟩ := gdK_some h
    obtain ⟨i25, h⟩ := gdI_some h
    refine SF_iast 43 dX9_aim_42 k24.1 i25 rfl ?_
    obtain ⟨g26, e27, h⟩ := lg_some h
    rw [← e27]
    have k_l0 := KD.eq e27 k_l0
    have k_l1 := KD.eq e27 k_l1
    have k18 := KD.eq e27 k18
    have k24 := KD.eq e27 k24
    have r17 := gR_eq e27 r17
    have r23 := gR_eq e27 r23
    have i19 := vp_eq e27 i19
    have i25 := vp_eq e27 i25
    refine SF_aload_n 0 44 dX9_aim_43 rfl rfl rfl ?_
    refine SF_aload_n 1 45 dX9_aim_44 rfl rfl rfl ?_
    obtain ⟨b28, r29, h⟩ := dr_some h
    refine SF_getR 48 fl_X9_60 dX9_aim_45 k_l1.1 r29 rfl ?_
    refine SF_iload_n 2 49 dX9_aim_48 rfl rfl rfl ?_
    obtain ⟨k30, h⟩ := gdK_some h
    obtain ⟨i31, h⟩ := gdI_some h
    refine SF_iald 50 dX9_aim_49 k30.1 i31 rfl ?_
    obtain ⟨v32, g33, q34, h⟩ := bd_some h
    have s35 := w_X9_assume (X := X) (Nat.le_refl 0) l0 (gI g26 b28 l2.toNatClampNeg) g26 g33 v32 k_l0 q34
    refine SF_callVv 53 mi_X9_assume ml_X9_63 dX9_aim_50 (Nat.le_trans (by decide) hd) s35 k_l0.1 rfl rfl (Nat.le_of_ble_eq_true rfl) rfl ?_
    have k_l0 := k_l0.ext s35.1
    have k_l1 := k_l1.ext s35.1
    have k18 := k18.ext s35.1
    have k24 := k24.ext s35.1
    have k30 := k30.ext s35.1
    refine SF_aload_n 0 54 dX9_aim_53 rfl rfl rfl ?_
    refine SF_getI 57 fl_X9_67 dX9_aim_54 k_l0.1 rfl ?_
    refine SF_aload_n 0 58 dX9_aim_57 rfl rfl rfl ?_
    obtain ⟨b36, r37, h⟩ := dr_some h
    refine SF_getR 61 fl_X9_34 dX9_aim_58 k_l0.1 r37 rfl ?_
    obtain ⟨k38, h⟩ := gdK_some h
    refine SF_getI 64 fl_X9_70 dX9_aim_61 k38.1 rfl ?_
    refine SF_icne 81 67 dX9_aim_64 rfl rfl (fun c39 => ?_) (fun c39 => ?_)
    · have h := ite_f c39 h
      refine SF_sub [0] rfl ?_
      exact w_X9_aim_81 hd l0 g33 k_l0 h
    · have h := ite_t c39 h
      refine SF_aload_n 0 68 dX9_aim_67 rfl rfl rfl ?_
      refine SF_getI 71 fl_X9_75 dX9_aim_68 k_l0.1 rfl ?_
      refine SF_aload_n 0 72 dX9_aim_71 rfl rfl rfl ?_
      refine SF_getR 75 fl_X9_34 dX9_aim_72 k_l0.1 r37 rfl ?_
      refine SF_getI 78 fl_X9_78 dX9_aim_75 k38.1 rfl ?_
      refine SF_iceq 85 81 dX9_aim_78 rfl rfl (fun c40 => ?_) (fun c40 => ?_)
      · have h := ite_t c40 h
        exact RT_v rfl dX9_aim_85 h
      · have h := ite_f c40 h
        refine SF_sub [0] rfl ?_
        exact w_X9_aim_81 hd l0 g33 k_l0 h
  · have h := ite_t c5 h
    exact RT_v rfl dX9_aim_8 h

theorem dX0_standOf_0 : decode cX0_standOf 0 = .ok (.aload_n 0, 1) := by decide +kernel
theorem dX0_standOf_1 : decode cX0_standOf 1 = .ok (.iload_n 1, 1) := by decide +kernel
theorem dX0_standOf_2 : decode cX0_standOf 2 = .ok (.invokevirtual 54, 3) := by decide +kernel
theorem dX0_standOf_5 : decode cX0_standOf 5 = .ok (.ifCond .eq 28, 3) := by decide +kernel
theorem dX0_standOf_8 : decode cX0_standOf 8 = .ok (.aload_n 0, 1) := by decide +kernel
theorem dX0_standOf_9 : decode cX0_standOf 9 = .ok (.getfield 9, 3) := by decide +kernel
theorem dX0_standOf_12 : decode cX0_standOf 12 = .ok (.iconst 2, 1) := by decide +kernel
theorem dX0_standOf_13 : decode cX0_standOf 13 = .ok (.iload_n 1, 1) := by decide +kernel
theorem dX0_standOf_14 : decode cX0_standOf 14 = .ok (.imul, 1) := by decide +kernel
theorem dX0_standOf_15 : decode cX0_standOf 15 = .ok (.iaload, 1) := by decide +kernel
theorem dX0_standOf_16 : decode cX0_standOf 16 = .ok (.bipush 64, 2) := by decide +kernel
theorem dX0_standOf_18 : decode cX0_standOf 18 = .ok (.imul, 1) := by decide +kernel
theorem dX0_standOf_19 : decode cX0_standOf 19 = .ok (.aload_n 0, 1) := by decide +kernel
theorem dX0_standOf_20 : decode cX0_standOf 20 = .ok (.getfield 9, 3) := by decide +kernel
theorem dX0_standOf_23 : decode cX0_standOf 23 = .ok (.iconst 2, 1) := by decide +kernel
theorem dX0_standOf_24 : decode cX0_standOf 24 = .ok (.iload_n 1, 1) := by decide +kernel
theorem dX0_standOf_25 : decode cX0_standOf 25 = .ok (.imul, 1) := by decide +kernel
theorem dX0_standOf_26 : decode cX0_standOf 26 = .ok (.iconst 1, 1) := by decide +kernel
theorem dX0_standOf_27 : decode cX0_standOf 27 = .ok (.iadd, 1) := by decide +kernel
theorem dX0_standOf_28 : decode cX0_standOf 28 = .ok (.iaload, 1) := by decide +kernel
theorem dX0_standOf_29 : decode cX0_standOf 29 = .ok (.iadd, 1) := by decide +kernel
theorem dX0_standOf_30 : decode cX0_standOf 30 = .ok (.goto 4, 3) := by decide +kernel
theorem dX0_standOf_33 : decode cX0_standOf 33 = .ok (.iconst 0, 1) := by decide +kernel
theorem dX0_standOf_34 : decode cX0_standOf 34 = .ok (.ireturn, 1) := by decide +kernel
set_option maxRecDepth 20000 in
set_option maxHeartbeats 2000000 in
theorem w_X0_standOf {X : CX} {d : Nat} (hd : 1 ≤ d) (l0 : Nat) (l1 : Int32) (g g' : G) (rx : Int32) (k_l0 : KD g l0 0) (h : f_X0_standOf l0 l1 g = some (rx, g')) : Sem X m_X0_standOf d [.ref (ad X l0), .int l1] g (some (.int rx)) g' := by
  refine Sem_of (lo := [(0, .ref (ad X l0)), (1, .int l1)]) (by decide +kernel) rfl (Nat.le_of_ble_eq_true rfl) ?_
  rw [f_X0_standOf] at h
  refine SF_aload_n 0 1 dX0_standOf_0 rfl rfl rfl ?_
  refine SF_iload_n 1 2 dX0_standOf_1 rfl rfl rfl ?_
  obtain ⟨v1, g2, q3, h⟩ := bd_some h
  have s4 := w_X0_isPair (X := X) (Nat.le_refl 0) l0 l1 g g2 v1 k_l0 q3
  refine SF_callVb 5 mi_X0_isPair ml_X0_54 dX0_standOf_2 (Nat.le_trans (by decide) hd) s4 k_l0.1 rfl rfl (Nat.le_of_ble_eq_true rfl) rfl ?_
  have k_l0 := k_l0.ext s4.1
  refine SF_ifeq 33 8 dX0_standOf_5 rfl rfl (fun c5 => ?_) (fun c5 => ?_)
  · have h := ite_t c5 h
    refine SF_iconst (0 : Int32) 34 dX0_standOf_33 rfl rfl ?_
    exact RT_i rfl dX0_standOf_34 h
  · have h := ite_f c5 h
    refine SF_aload_n 0 9 dX0_standOf_8 rfl rfl rfl ?_
    obtain ⟨b6, r7, h⟩ := dr_some h
    refine SF_getR 12 fl_X0_9 dX0_standOf_9 k_l0.1 r7 rfl ?_
    refine SF_iconst (2 : Int32) 13 dX0_standOf_12 rfl rfl ?_
    refine SF_iload_n 1 14 dX0_standOf_13 rfl rfl rfl ?_
    refine SF_imul 15 dX0_standOf_14 rfl ?_
    obtain ⟨k8, h⟩ := gdK_some h
    obtain ⟨i9, h⟩ := gdI_some h
    refine SF_iald 16 dX0_standOf_15 k8.1 i9 rfl ?_
    refine SF_bipush (64 : Int32) 18 dX0_standOf_16 rfl rfl ?_
    refine SF_imul 19 dX0_standOf_18 rfl ?_
    refine SF_aload_n 0 20 dX0_standOf_19 rfl rfl rfl ?_
    refine SF_getR 23 fl_X0_9 dX0_standOf_20 k_l0.1 r7 rfl ?_
    refine SF_iconst (2 : Int32) 24 dX0_standOf_23 rfl rfl ?_
    refine SF_iload_n 1 25 dX0_standOf_24 rfl rfl rfl ?_
    refine SF_imul 26 dX0_standOf_25 rfl ?_
    refine SF_iconst (1 : Int32) 27 dX0_standOf_26 rfl rfl ?_
    refine SF_iadd 28 dX0_standOf_27 rfl ?_
    obtain ⟨i10, h⟩ := gdI_some h
    refine SF_iald 29 dX0_standOf_28 k8.1 i10 rfl ?_
    refine SF_iadd 30 dX0_standOf_29 rfl ?_
    refine SF_goto 34 dX0_standOf_30 rfl ?_
    exact RT_i rfl dX0_standOf_34 h

theorem dX7_beside_0 : decode cX7_beside 0 = .ok (.aload_n 0, 1) := by decide +kernel
theorem dX7_beside_1 : decode cX7_beside 1 = .ok (.iload_n 1, 1) := by decide +kernel
theorem dX7_beside_2 : decode cX7_beside 2 = .ok (.invokevirtual 53, 3) := by decide +kernel
theorem dX7_beside_5 : decode cX7_beside 5 = .ok (.ifCond .ne 5, 3) := by decide +kernel
theorem dX7_beside_8 : decode cX7_beside 8 = .ok (.iconst (-1), 1) := by decide +kernel
theorem dX7_beside_9 : decode cX7_beside 9 = .ok (.ireturn, 1) := by decide +kernel
theorem dX7_beside_10 : decode cX7_beside 10 = .ok (.iload_n 2, 1) := by decide +kernel
theorem dX7_beside_11 : decode cX7_beside 11 = .ok (.tableswitch 115 0 3 #[29, 49, 72, 98], 29) := by decide +kernel
theorem dX7_beside_40 : decode cX7_beside 40 = .ok (.aload_n 0, 1) := by decide +kernel
theorem dX7_beside_41 : decode cX7_beside 41 = .ok (.getfield 15, 3) := by decide +kernel
theorem dX7_beside_44 : decode cX7_beside 44 = .ok (.iload_n 1, 1) := by decide +kernel
theorem dX7_beside_45 : decode cX7_beside 45 = .ok (.iaload, 1) := by decide +kernel
theorem dX7_beside_46 : decode cX7_beside 46 = .ok (.ifCond .le 12, 3) := by decide +kernel
theorem dX7_beside_49 : decode cX7_beside 49 = .ok (.iload_n 1, 1) := by decide +kernel
theorem dX7_beside_50 : decode cX7_beside 50 = .ok (.aload_n 0, 1) := by decide +kernel
theorem dX7_beside_51 : decode cX7_beside 51 = .ok (.getfield 37, 3) := by decide +kernel
theorem dX7_beside_54 : decode cX7_beside 54 = .ok (.isub, 1) := by decide +kernel
theorem dX7_beside_55 : decode cX7_beside 55 = .ok (.goto 4, 3) := by decide +kernel
theorem dX7_beside_58 : decode cX7_beside 58 = .ok (.iconst (-1), 1) := by decide +kernel
theorem dX7_beside_59 : decode cX7_beside 59 = .ok (.ireturn, 1) := by decide +kernel
theorem dX7_beside_60 : decode cX7_beside 60 = .ok (.aload_n 0, 1) := by decide +kernel
theorem dX7_beside_61 : decode cX7_beside 61 = .ok (.getfield 18, 3) := by decide +kernel
theorem dX7_beside_64 : decode cX7_beside 64 = .ok (.iload_n 1, 1) := by decide +kernel
theorem dX7_beside_65 : decode cX7_beside 65 = .ok (.iaload, 1) := by decide +kernel
theorem dX7_beside_66 : decode cX7_beside 66 = .ok (.aload_n 0, 1) := by decide +kernel
theorem dX7_beside_67 : decode cX7_beside 67 = .ok (.getfield 37, 3) := by decide +kernel
theorem dX7_beside_70 : decode cX7_beside 70 = .ok (.iconst 1, 1) := by decide +kernel
theorem dX7_beside_71 : decode cX7_beside 71 = .ok (.isub, 1) := by decide +kernel
theorem dX7_beside_72 : decode cX7_beside 72 = .ok (.if_icmp .ge 9, 3) := by decide +kernel
theorem dX7_beside_75 : decode cX7_beside 75 = .ok (.iload_n 1, 1) := by decide +kernel
theorem dX7_beside_76 : decode cX7_beside 76 = .ok (.iconst 1, 1) := by decide +kernel
theorem dX7_beside_77 : decode cX7_beside 77 = .ok (.iadd, 1) := by decide +kernel
theorem dX7_beside_78 : decode cX7_beside 78 = .ok (.goto 4, 3) := by decide +kernel
theorem dX7_beside_81 : decode cX7_beside 81 = .ok (.iconst (-1), 1) := by decide +kernel
theorem dX7_beside_82 : decode cX7_beside 82 = .ok (.ireturn, 1) := by decide +kernel
theorem dX7_beside_83 : decode cX7_beside 83 = .ok (.aload_n 0, 1) := by decide +kernel
theorem dX7_beside_84 : decode cX7_beside 84 = .ok (.getfield 15, 3) := by decide +kernel
theorem dX7_beside_87 : decode cX7_beside 87 = .ok (.iload_n 1, 1) := by decide +kernel
theorem dX7_beside_88 : decode cX7_beside 88 = .ok (.iaload, 1) := by decide +kernel
theorem dX7_beside_89 : decode cX7_beside 89 = .ok (.aload_n 0, 1) := by decide +kernel
theorem dX7_beside_90 : decode cX7_beside 90 = .ok (.getfield 33, 3) := by decide +kernel
theorem dX7_beside_93 : decode cX7_beside 93 = .ok (.iconst 1, 1) := by decide +kernel
theorem dX7_beside_94 : decode cX7_beside 94 = .ok (.isub, 1) := by decide +kernel
theorem dX7_beside_95 : decode cX7_beside 95 = .ok (.if_icmp .ge 12, 3) := by decide +kernel
theorem dX7_beside_98 : decode cX7_beside 98 = .ok (.iload_n 1, 1) := by decide +kernel
theorem dX7_beside_99 : decode cX7_beside 99 = .ok (.aload_n 0, 1) := by decide +kernel
theorem dX7_beside_100 : decode cX7_beside 100 = .ok (.getfield 37, 3) := by decide +kernel
theorem dX7_beside_103 : decode cX7_beside 103 = .ok (.iadd, 1) := by decide +kernel
theorem dX7_beside_104 : decode cX7_beside 104 = .ok (.goto 4, 3) := by decide +kernel
theorem dX7_beside_107 : decode cX7_beside 107 = .ok (.iconst (-1), 1) := by decide +kernel
theorem dX7_beside_108 : decode cX7_beside 108 = .ok (.ireturn, 1) := by decide +kernel
theorem dX7_beside_109 : decode cX7_beside 109 = .ok (.aload_n 0, 1) := by decide +kernel
theorem dX7_beside_110 : decode cX7_beside 110 = .ok (.getfield 18, 3) := by decide +kernel
theorem dX7_beside_113 : decode cX7_beside 113 = .ok (.iload_n 1, 1) := by decide +kernel
theorem dX7_beside_114 : decode cX7_beside 114 = .ok (.iaload, 1) := by decide +kernel
theorem dX7_beside_115 : decode cX7_beside 115 = .ok (.ifCond .le 9, 3) := by decide +kernel
theorem dX7_beside_118 : decode cX7_beside 118 = .ok (.iload_n 1, 1) := by decide +kernel
theorem dX7_beside_119 : decode cX7_beside 119 = .ok (.iconst 1, 1) := by decide +kernel
theorem dX7_beside_120 : decode cX7_beside 120 = .ok (.isub, 1) := by decide +kernel
theorem dX7_beside_121 : decode cX7_beside 121 = .ok (.goto 4, 3) := by decide +kernel
theorem dX7_beside_124 : decode cX7_beside 124 = .ok (.iconst (-1), 1) := by decide +kernel
theorem dX7_beside_125 : decode cX7_beside 125 = .ok (.ireturn, 1) := by decide +kernel
theorem dX7_beside_126 : decode cX7_beside 126 = .ok (.iconst (-1), 1) := by decide +kernel
theorem dX7_beside_127 : decode cX7_beside 127 = .ok (.ireturn, 1) := by decide +kernel
set_option maxRecDepth 20000 in
set_option maxHeartbeats 2000000 in
theorem w_X7_beside {X : CX} {d : Nat} (hd : 1 ≤ d) (l0 : Nat) (l1 : Int32) (l2 : Int32) (g g' : G) (rx : Int32) (k_l0 : KD g l0 7) (h : f_X7_beside l0 l1 l2 g = some (rx, g')) : Sem X m_X7_beside d [.ref (ad X l0), .int l1, .int l2] g (some (.int rx)) g' := by
  refine Sem_of (lo := [(0, .ref (ad X l0)), (1, .int l1), (2, .int l2)]) (by decide +kernel) rfl (Nat.le_of_ble_eq_true rfl) ?_
  rw [f_X7_beside] at h
  refine SF_aload_n 0 1 dX7_beside_0 rfl rfl rfl ?_
  refine SF_iload_n 1 2 dX7_beside_1 rfl rfl rfl ?_
  obtain ⟨v1, g2, q3, h⟩ := bd_some h
  have s4 := w_X7_isCell (X := X) (Nat.le_refl 0) l0 l1 g g2 v1 k_l0 q3
  refine SF_callVb 5 mi_X7_isCell ml_X7_53 dX7_beside_2 (Nat.le_trans (by decide) hd) s4 k_l0.1 rfl rfl (Nat.le_of_ble_eq_true rfl) rfl ?_
  have k_l0 := k_l0.ext s4.1
  refine SF_ifne 10 8 dX7_beside_5 rfl rfl (fun c5 => ?_) (fun c5 => ?_)
  · have h := ite_f c5 h
    refine SF_iload_n 2 11 dX7_beside_10 rfl rfl rfl ?_
    by_cases c26 : l2.toInt < 0
    · have h := ite_t c26 h
      refine SF_tabOut 126 dX7_beside_11 (Or.inl c26) rfl ?_
      refine SF_iconst (-1 : Int32) 127 dX7_beside_126 rfl rfl ?_
      exact RT_i rfl dX7_beside_127 h
    · have h := ite_f c26 h
      generalize m27 : (l2.toInt - 0).toNat = mm at h
      match mm, m27, h with
      | 0, m27, h =>
        refine SF_tabIn 40 dX7_beside_11 c26 (by omega) (by rw [m27]; rfl) rfl ?_
        refine SF_aload_n 0 41 dX7_beside_40 rfl rfl rfl ?_
        obtain ⟨b6, r7, h⟩ := dr_some h
        refine SF_getR 44 fl_X7_15 dX7_beside_41 k_l0.1 r7 rfl ?_
        refine SF_iload_n 1 45 dX7_beside_44 rfl rfl rfl ?_
        obtain ⟨k8, h⟩ := gdK_some h
        obtain ⟨i9, h⟩ := gdI_some h
        refine SF_iald 46 dX7_beside_45 k8.1 i9 rfl ?_
        refine SF_ifle 58 49 dX7_beside_46 rfl rfl (fun c10 => ?_) (fun c10 => ?_)
        · have h := ite_t c10 h
          refine SF_iconst (-1 : Int32) 59 dX7_beside_58 rfl rfl ?_
          exact RT_i rfl dX7_beside_59 h
        · have h := ite_f c10 h
          refine SF_iload_n 1 50 dX7_beside_49 rfl rfl rfl ?_
          refine SF_aload_n 0 51 dX7_beside_50 rfl rfl rfl ?_
          refine SF_getI 54 fl_X7_37 dX7_beside_51 k_l0.1 rfl ?_
          refine SF_isub 55 dX7_beside_54 rfl ?_
          refine SF_goto 59 dX7_beside_55 rfl ?_
          exact RT_i rfl dX7_beside_59 h
      | 1, m27, h =>
        refine SF_tabIn 60 dX7_beside_11 c26 (by omega) (by rw [m27]; rfl) rfl ?_
        refine SF_aload_n 0 61 dX7_beside_60 rfl rfl rfl ?_
        obtain ⟨b11, r12, h⟩ := dr_some h
        refine SF_getR 64 fl_X7_18 dX7_beside_61 k_l0.1 r12 rfl ?_
        refine SF_iload_n 1 65 dX7_beside_64 rfl rfl rfl ?_
        obtain ⟨k13, h⟩ := gdK_some h
        obtain ⟨i14, h⟩ := gdI_some h
        refine SF_iald 66 dX7_beside_65 k13.1 i14 rfl ?_
        refine SF_aload_n 0 67 dX7_beside_66 rfl rfl rfl ?_
        refine SF_getI 70 fl_X7_37 dX7_beside_67 k_l0.1 rfl ?_
        refine SF_iconst (1 : Int32) 71 dX7_beside_70 rfl rfl ?_
        refine SF_isub 72 dX7_beside_71 rfl ?_
        refine SF_icge 81 75 dX7_beside_72 rfl rfl (fun c15 => ?_) (fun c15 => ?_)
        · have h := ite_t c15 h
          refine SF_iconst (-1 : Int32) 82 dX7_beside_81 rfl rfl ?_
          exact RT_i rfl dX7_beside_82 h
        · have h := ite_f c15 h
          refine SF_iload_n 1 76 dX7_beside_75 rfl rfl rfl ?_
          refine SF_iconst (1 : Int32) 77 dX7_beside_76 rfl rfl ?_
          refine SF_iadd 78 dX7_beside_77 rfl ?_
          refine SF_goto 82 dX7_beside_78 rfl ?_
          exact RT_i rfl dX7_beside_82 h
      | 2, m27, h =>
        refine SF_tabIn 83 dX7_beside_11 c26 (by omega) (by rw [m27]; rfl) rfl ?_
        refine SF_aload_n 0 84 dX7_beside_83 rfl rfl rfl ?_
        obtain ⟨b16, r17, h⟩ := dr_some h
        refine SF_getR 87 fl_X7_15 dX7_beside_84 k_l0.1 r17 rfl ?_
        refine SF_iload_n 1 88 dX7_beside_87 rfl rfl rfl ?_
        obtain ⟨k18, h⟩ := gdK_some h
        obtain ⟨i19, h⟩ := gdI_some h
        refine SF_iald 89 dX7_beside_88 k18.1 i19 rfl ?_
        refine SF_aload_n 0 90 dX7_beside_89 rfl rfl rfl ?_
        refine SF_getI 93 fl_X7_33 dX7_beside_90 k_l0.1 rfl ?_
        refine SF_iconst (1 : Int32) 94 dX7_beside_93 rfl rfl ?_
        refine SF_isub 95 dX7_beside_94 rfl ?_
        refine SF_icge 107 98 dX7_beside_95 rfl rfl (fun c20 => ?_) (fun c20 => ?_)
        · have h := ite_t c20 h
          refine SF_iconst (-1 : Int32) 108 dX7_beside_107 rfl rfl ?_
          exact RT_i rfl dX7_beside_108 h
        · have h := ite_f c20 h
          refine SF_iload_n 1 99 dX7_beside_98 rfl rfl rfl ?_
          refine SF_aload_n 0 100 dX7_beside_99 rfl rfl rfl ?_
          refine SF_getI 103 fl_X7_37 dX7_beside_100 k_l0.1 rfl ?_
          refine SF_iadd 104 dX7_beside_103 rfl ?_
          refine SF_goto 108 dX7_beside_104 rfl ?_
          exact RT_i rfl dX7_beside_108 h
      | 3, m27, h =>
        refine SF_tabIn 109 dX7_beside_11 c26 (by omega) (by rw [m27]; rfl) rfl ?_
        refine SF_aload_n 0 110 dX7_beside_109 rfl rfl rfl ?_
        obtain ⟨b21, r22, h⟩ := dr_some h
        refine SF_getR 113 fl_X7_18 dX7_beside_110 k_l0.1 r22 rfl ?_
        refine SF_iload_n 1 114 dX7_beside_113 rfl rfl rfl ?_
        obtain ⟨k23, h⟩ := gdK_some h
        obtain ⟨i24, h⟩ := gdI_some h
        refine SF_iald 115 dX7_beside_114 k23.1 i24 rfl ?_
        refine SF_ifle 124 118 dX7_beside_115 rfl rfl (fun c25 => ?_) (fun c25 => ?_)
        · have h := ite_t c25 h
          refine SF_iconst (-1 : Int32) 125 dX7_beside_124 rfl rfl ?_
          exact RT_i rfl dX7_beside_125 h
        · have h := ite_f c25 h
          refine SF_iload_n 1 119 dX7_beside_118 rfl rfl rfl ?_
          refine SF_iconst (1 : Int32) 120 dX7_beside_119 rfl rfl ?_
          refine SF_isub 121 dX7_beside_120 rfl ?_
          refine SF_goto 125 dX7_beside_121 rfl ?_
          exact RT_i rfl dX7_beside_125 h
      | mm + 4, m27, h =>
        refine SF_tabOut 126 dX7_beside_11 (Or.inr (by omega)) rfl ?_
        refine SF_iconst (-1 : Int32) 127 dX7_beside_126 rfl rfl ?_
        exact RT_i rfl dX7_beside_127 h
  · have h := ite_t c5 h
    refine SF_iconst (-1 : Int32) 9 dX7_beside_8 rfl rfl ?_
    exact RT_i rfl dX7_beside_9 h

theorem dX9_memoPlace_0 : decode cX9_memoPlace 0 = .ok (.aload_n 0, 1) := by decide +kernel
theorem dX9_memoPlace_1 : decode cX9_memoPlace 1 = .ok (.getfield 34, 3) := by decide +kernel
theorem dX9_memoPlace_4 : decode cX9_memoPlace 4 = .ok (.iload_n 2, 1) := by decide +kernel
theorem dX9_memoPlace_5 : decode cX9_memoPlace 5 = .ok (.invokevirtual 123, 3) := by decide +kernel
theorem dX9_memoPlace_8 : decode cX9_memoPlace 8 = .ok (.ifCond .eq 27, 3) := by decide +kernel
theorem dX9_memoPlace_11 : decode cX9_memoPlace 11 = .ok (.aload_n 0, 1) := by decide +kernel
theorem dX9_memoPlace_12 : decode cX9_memoPlace 12 = .ok (.getfield 34, 3) := by decide +kernel
theorem dX9_memoPlace_15 : decode cX9_memoPlace 15 = .ok (.iload_n 3, 1) := by decide +kernel
theorem dX9_memoPlace_16 : decode cX9_memoPlace 16 = .ok (.invokevirtual 123, 3) := by decide +kernel
theorem dX9_memoPlace_19 : decode cX9_memoPlace 19 = .ok (.ifCond .eq 16, 3) := by decide +kernel
theorem dX9_memoPlace_22 : decode cX9_memoPlace 22 = .ok (.iload_n 1, 1) := by decide +kernel
theorem dX9_memoPlace_23 : decode cX9_memoPlace 23 = .ok (.ifCond .eq 8, 3) := by decide +kernel
theorem dX9_memoPlace_26 : decode cX9_memoPlace 26 = .ok (.iload_n 1, 1) := by decide +kernel
theorem dX9_memoPlace_27 : decode cX9_memoPlace 27 = .ok (.iconst 1, 1) := by decide +kernel
theorem dX9_memoPlace_28 : decode cX9_memoPlace 28 = .ok (.if_icmp .ne 7, 3) := by decide +kernel
theorem dX9_memoPlace_31 : decode cX9_memoPlace 31 = .ok (.iconst 1, 1) := by decide +kernel
theorem dX9_memoPlace_32 : decode cX9_memoPlace 32 = .ok (.goto 4, 3) := by decide +kernel
theorem dX9_memoPlace_35 : decode cX9_memoPlace 35 = .ok (.iconst 0, 1) := by decide +kernel
theorem dX9_memoPlace_36 : decode cX9_memoPlace 36 = .ok (.istore 4, 2) := by decide +kernel
theorem dX9_memoPlace_38 : decode cX9_memoPlace 38 = .ok (.iload 4, 2) := by decide +kernel
theorem dX9_memoPlace_40 : decode cX9_memoPlace 40 = .ok (.ifCond .eq 17, 3) := by decide +kernel
theorem dX9_memoPlace_43 : decode cX9_memoPlace 43 = .ok (.iload_n 1, 1) := by decide +kernel
theorem dX9_memoPlace_44 : decode cX9_memoPlace 44 = .ok (.bipush 36, 2) := by decide +kernel
theorem dX9_memoPlace_46 : decode cX9_memoPlace 46 = .ok (.imul, 1) := by decide +kernel
theorem dX9_memoPlace_47 : decode cX9_memoPlace 47 = .ok (.iload_n 2, 1) := by decide +kernel
theorem dX9_memoPlace_48 : decode cX9_memoPlace 48 = .ok (.iadd, 1) := by decide +kernel
theorem dX9_memoPlace_49 : decode cX9_memoPlace 49 = .ok (.bipush 36, 2) := by decide +kernel
theorem dX9_memoPlace_51 : decode cX9_memoPlace 51 = .ok (.imul, 1) := by decide +kernel
theorem dX9_memoPlace_52 : decode cX9_memoPlace 52 = .ok (.iload_n 3, 1) := by decide +kernel
theorem dX9_memoPlace_53 : decode cX9_memoPlace 53 = .ok (.iadd, 1) := by decide +kernel
theorem dX9_memoPlace_54 : decode cX9_memoPlace 54 = .ok (.goto 4, 3) := by decide +kernel
theorem dX9_memoPlace_57 : decode cX9_memoPlace 57 = .ok (.iconst (-1), 1) := by decide +kernel
theorem dX9_memoPlace_58 : decode cX9_memoPlace 58 = .ok (.ireturn, 1) := by decide +kernel
set_option maxRecDepth 20000 in
set_option maxHeartbeats 2000000 in
theorem w_X9_memoPlace_36 {X : CX} {d : Nat} (hd : 1 ≤ d) {g' : G} {rx : Int32} (l1 : Int32) (l2 : Int32) (l3 : Int32) (s0 : Int32) (g : G) (h : f_X9_memoPlace_36 l1 l2 l3 s0 g = some (rx, g')) : SemF X m_X9_memoPlace d 36 [(1, .int l1), (2, .int l2), (3, .int l3)] [.int s0] g (some (.int rx)) g' := by
  rw [f_X9_memoPlace_36] at h
  refine SF_istore [(4, .int s0), (1, .int l1), (2, .int l2), (3, .int l3)] 38 dX9_memoPlace_36 (by decide) rfl rfl ?_
  refine SF_iload 0 40 dX9_memoPlace_38 rfl rfl ?_
  refine SF_ifeq 57 43 dX9_memoPlace_40 rfl rfl (fun c1 => ?_) (fun c1 => ?_)
  · have h := ite_t c1 h
    refine SF_iconst (-1 : Int32) 58 dX9_memoPlace_57 rfl rfl ?_
    exact RT_i rfl dX9_memoPlace_58 h
  · have h := ite_f c1 h
    refine SF_iload_n 1 44 dX9_memoPlace_43 rfl rfl rfl ?_
    refine SF_bipush (36 : Int32) 46 dX9_memoPlace_44 rfl rfl ?_
    refine SF_imul 47 dX9_memoPlace_46 rfl ?_
    refine SF_iload_n 2 48 dX9_memoPlace_47 rfl rfl rfl ?_
    refine SF_iadd 49 dX9_memoPlace_48 rfl ?_
    refine SF_bipush (36 : Int32) 51 dX9_memoPlace_49 rfl rfl ?_
    refine SF_imul 52 dX9_memoPlace_51 rfl ?_
    refine SF_iload_n 3 53 dX9_memoPlace_52 rfl rfl rfl ?_
    refine SF_iadd 54 dX9_memoPlace_53 rfl ?_
    refine SF_goto 58 dX9_memoPlace_54 rfl ?_
    exact RT_i rfl dX9_memoPlace_58 h

set_option maxRecDepth 20000 in
set_option maxHeartbeats 2000000 in
theorem w_X9_memoPlace_31 {X : CX} {d : Nat} (hd : 1 ≤ d) {g' : G} {rx : Int32} (l1 : Int32) (l2 : Int32) (l3 : Int32) (g : G) (h : f_X9_memoPlace_31 l1 l2 l3 g = some (rx, g')) : SemF X m_X9_memoPlace d 31 [(1, .int l1), (2, .int l2), (3, .int l3)] [] g (some (.int rx)) g' := by
  rw [f_X9_memoPlace_31] at h
  refine SF_iconst (1 : Int32) 32 dX9_memoPlace_31 rfl rfl ?_
  refine SF_goto 36 dX9_memoPlace_32 rfl ?_
  exact w_X9_memoPlace_36 hd l1 l2 l3 (1 : Int32) g  h

set_option maxRecDepth 20000 in
set_option maxHeartbeats 2000000 in
theorem w_X9_memoPlace_35 {X : CX} {d : Nat} (hd : 1 ≤ d) {g' : G} {rx : Int32} (l1 : Int32) (l2 : Int32) (l3 : Int32) (g : G) (h : f_X9_memoPlace_35 l1 l2 l3 g = some (rx, g')) : SemF X m_X9_memoPlace d 35 [(1, .int l1), (2, .int l2), (3, .int l3)] [] g (some (.int rx)) g' := by
  rw [f_X9_memoPlace_35] at h
  refine SF_iconst (0 : Int32) 36 dX9_memoPlace_35 rfl rfl ?_
  exact w_X9_memoPlace_36 hd l1 l2 l3 (0 : Int32) g  h

set_option maxRecDepth 20000 in
set_option maxHeartbeats 2000000 in
theorem w_X9_memoPlace {X : CX} {d : Nat} (hd : 1 ≤ d) (l0 : Nat) (l1 : Int32) (l2 : Int32) (l3 : Int32) (g g' : G) (rx : Int32) (k_l0 : KD g l0 9) (h : f_X9_memoPlace l0 l1 l2 l3 g = some (rx, g')) : Sem X m_X9_memoPlace d [.ref (ad X l0), .int l1, .int l2, .int l3] g (some (.int rx)) g' := by
  refine Sem_of (lo := [(0, .ref (ad X l0)), (1, .int l1), (2, .int l2), (3, .int l3)]) (by decide +kernel) rfl (Nat.le_of_ble_eq_true rfl) ?_
  rw [f_X9_memoPlace] at h
  refine SF_aload_n 0 1 dX9_memoPlace_0 rfl rfl rfl ?_
  obtain ⟨b1, r2, h⟩ := dr_some h
  refine SF_getR 4 fl_X9_34 dX9_memoPlace_1 k_l0.1 r2 rfl ?_
  refine SF_iload_n 2 5 dX9_memoPlace_4 rfl rfl rfl ?_
  obtain ⟨k3, h⟩ := gdK_some h
  obtain ⟨v4, g5, q6, h⟩ := bd_some h
  have s7 := w_X7_isCell (X := X) (Nat.le_refl 0) b1 l2 g g5 v4 k3 q6
  refine SF_callVb 8 mi_X7_isCell ml_X9_123 dX9_memoPlace_5 (Nat.le_trans (by decide) hd) s7 k3.1 rfl rfl (Nat.le_of_ble_eq_true rfl) rfl ?_
  have k_l0 := k_l0.ext s7.1
  have k3 := k3.ext s7.1
  refine SF_ifeq 35 11 dX9_memoPlace_8 rfl rfl (fun c8 => ?_) (fun c8 => ?_)
  · have h := ite_t c8 h
    refine SF_sub [1, 2, 3] rfl ?_
    exact w_X9_memoPlace_35 hd l1 l2 l3 g5  h
  · have h := ite_f c8 h
    refine SF_aload_n 0 12 dX9_memoPlace_11 rfl rfl rfl ?_
    obtain ⟨b9, r10, h⟩ := dr_some h
    refine SF_getR 15 fl_X9_34 dX9_memoPlace_12 k_l0.1 r10 rfl ?_
    refine SF_iload_n 3 16 dX9_memoPlace_15 rfl rfl rfl ?_
    obtain ⟨k11, h⟩ := gdK_some h
    obtain ⟨v12, g13, q14, h⟩ := bd_some h
    have s15 := w_X7_isCell (X := X) (Nat.le_refl 0) b9 l3 g5 g13 v12 k11 q14
    refine SF_callVb 19 mi_X7_isCell ml_X9_123 dX9_memoPlace_16 (Nat.le_trans (by decide) hd) s15 k11.1 rfl rfl (Nat.le_of_ble_eq_true rfl) rfl ?_
    have k_l0 := k_l0.ext s15.1
    have k3 := k3.ext s15.1
    have k11 := k11.ext s15.1
    refine SF_ifeq 35 22 dX9_memoPlace_19 rfl rfl (fun c16 => ?_) (fun c16 => ?_)
    · have h := ite_t c16 h
      refine SF_sub [1, 2, 3] rfl ?_
      exact w_X9_memoPlace_35 hd l1 l2 l3 g13  h
    · have h := ite_f c16 h
      refine SF_iload_n 1 23 dX9_memoPlace_22 rfl rfl rfl ?_
      refine SF_ifeq 31 26 dX9_memoPlace_23 rfl rfl (fun c17 => ?_) (fun c17 => ?_)
      · have h := ite_t c17 h
        refine SF_sub [1, 2, 3] rfl ?_
        exact w_X9_memoPlace_31 hd l1 l2 l3 g13  h
      · have h := ite_f c17 h
        refine SF_iload_n 1 27 dX9_memoPlace_26 rfl rfl rfl ?_
        refine SF_iconst (1 : Int32) 28 dX9_memoPlace_27 rfl rfl ?_
        refine SF_icne 35 31 dX9_memoPlace_28 rfl rfl (fun c18 => ?_) (fun c18 => ?_)
        · have h := ite_f c18 h
          refine SF_sub [1, 2, 3] rfl ?_
          exact w_X9_memoPlace_35 hd l1 l2 l3 g13  h
        · have h := ite_t c18 h
          refine SF_sub [1, 2, 3] rfl ?_
          exact w_X9_memoPlace_31 hd l1 l2 l3 g13  h

theorem dX9_joined_0 : decode cX9_joined 0 = .ok (.iload_n 0, 1) := by decide +kernel
theorem dX9_joined_1 : decode cX9_joined 1 = .ok (.lookupswitch 127 #[(12, 67), (13, 71), (43, 111), (45, 119), (60, 87), (61, 75), (62, 99)], 67) := by decide +kernel
theorem dX9_joined_68 : decode cX9_joined 68 = .ok (.lload_n 1, 1) := by decide +kernel
theorem dX9_joined_69 : decode cX9_joined 69 = .ok (.lload_n 3, 1) := by decide +kernel
theorem dX9_joined_70 : decode cX9_joined 70 = .ok (.lor, 1) := by decide +kernel
theorem dX9_joined_71 : decode cX9_joined 71 = .ok (.lreturn, 1) := by decide +kernel
theorem dX9_joined_72 : decode cX9_joined 72 = .ok (.lload_n 1, 1) := by decide +kernel
theorem dX9_joined_73 : decode cX9_joined 73 = .ok (.lload_n 3, 1) := by decide +kernel
theorem dX9_joined_74 : decode cX9_joined 74 = .ok (.land, 1) := by decide +kernel
theorem dX9_joined_75 : decode cX9_joined 75 = .ok (.lreturn, 1) := by decide +kernel
theorem dX9_joined_76 : decode cX9_joined 76 = .ok (.lload_n 1, 1) := by decide +kernel
theorem dX9_joined_77 : decode cX9_joined 77 = .ok (.lload_n 3, 1) := by decide +kernel
theorem dX9_joined_78 : decode cX9_joined 78 = .ok (.lcmp, 1) := by decide +kernel
theorem dX9_joined_79 : decode cX9_joined 79 = .ok (.ifCond .ne 7, 3) := by decide +kernel
theorem dX9_joined_82 : decode cX9_joined 82 = .ok (.lconst 1, 1) := by decide +kernel
theorem dX9_joined_83 : decode cX9_joined 83 = .ok (.goto 4, 3) := by decide +kernel
theorem dX9_joined_86 : decode cX9_joined 86 = .ok (.lconst 0, 1) := by decide +kernel
theorem dX9_joined_87 : decode cX9_joined 87 = .ok (.lreturn, 1) := by decide +kernel
theorem dX9_joined_88 : decode cX9_joined 88 = .ok (.lload_n 1, 1) := by decide +kernel
theorem dX9_joined_89 : decode cX9_joined 89 = .ok (.lload_n 3, 1) := by decide +kernel
theorem dX9_joined_90 : decode cX9_joined 90 = .ok (.lcmp, 1) := by decide +kernel
theorem dX9_joined_91 : decode cX9_joined 91 = .ok (.ifCond .ge 7, 3) := by decide +kernel
theorem dX9_joined_94 : decode cX9_joined 94 = .ok (.lconst 1, 1) := by decide +kernel
theorem dX9_joined_95 : decode cX9_joined 95 = .ok (.goto 4, 3) := by decide +kernel
theorem dX9_joined_98 : decode cX9_joined 98 = .ok (.lconst 0, 1) := by decide +kernel
theorem dX9_joined_99 : decode cX9_joined 99 = .ok (.lreturn, 1) := by decide +kernel
theorem dX9_joined_100 : decode cX9_joined 100 = .ok (.lload_n 1, 1) := by decide +kernel
theorem dX9_joined_101 : decode cX9_joined 101 = .ok (.lload_n 3, 1) := by decide +kernel
theorem dX9_joined_102 : decode cX9_joined 102 = .ok (.lcmp, 1) := by decide +kernel
theorem dX9_joined_103 : decode cX9_joined 103 = .ok (.ifCond .le 7, 3) := by decide +kernel
theorem dX9_joined_106 : decode cX9_joined 106 = .ok (.lconst 1, 1) := by decide +kernel
theorem dX9_joined_107 : decode cX9_joined 107 = .ok (.goto 4, 3) := by decide +kernel
theorem dX9_joined_110 : decode cX9_joined 110 = .ok (.lconst 0, 1) := by decide +kernel
theorem dX9_joined_111 : decode cX9_joined 111 = .ok (.lreturn, 1) := by decide +kernel
theorem dX9_joined_112 : decode cX9_joined 112 = .ok (.lload_n 1, 1) := by decide +kernel
theorem dX9_joined_113 : decode cX9_joined 113 = .ok (.lload_n 3, 1) := by decide +kernel
theorem dX9_joined_114 : decode cX9_joined 114 = .ok (.ladd, 1) := by decide +kernel
theorem dX9_joined_115 : decode cX9_joined 115 = .ok (.lstore 5, 2) := by decide +kernel
theorem dX9_joined_117 : decode cX9_joined 117 = .ok (.goto 16, 3) := by decide +kernel
theorem dX9_joined_120 : decode cX9_joined 120 = .ok (.lload_n 1, 1) := by decide +kernel
theorem dX9_joined_121 : decode cX9_joined 121 = .ok (.lload_n 3, 1) := by decide +kernel
theorem dX9_joined_122 : decode cX9_joined 122 = .ok (.lsub, 1) := by decide +kernel
theorem dX9_joined_123 : decode cX9_joined 123 = .ok (.lstore 5, 2) := by decide +kernel
theorem dX9_joined_125 : decode cX9_joined 125 = .ok (.goto 8, 3) := by decide +kernel
theorem dX9_joined_128 : decode cX9_joined 128 = .ok (.lload_n 1, 1) := by decide +kernel
theorem dX9_joined_129 : decode cX9_joined 129 = .ok (.lload_n 3, 1) := by decide +kernel
theorem dX9_joined_130 : decode cX9_joined 130 = .ok (.lmul, 1) := by decide +kernel
theorem dX9_joined_131 : decode cX9_joined 131 = .ok (.lstore 5, 2) := by decide +kernel
theorem dX9_joined_133 : decode cX9_joined 133 = .ok (.lload 5, 2) := by decide +kernel
theorem dX9_joined_135 : decode cX9_joined 135 = .ok (.ldc2_w 172, 3) := by decide +kernel
theorem dX9_joined_138 : decode cX9_joined 138 = .ok (.lcmp, 1) := by decide +kernel
theorem dX9_joined_139 : decode cX9_joined 139 = .ok (.ifCond .le 9, 3) := by decide +kernel
theorem dX9_joined_142 : decode cX9_joined 142 = .ok (.ldc2_w 172, 3) := by decide +kernel
theorem dX9_joined_145 : decode cX9_joined 145 = .ok (.goto 20, 3) := by decide +kernel
theorem dX9_joined_148 : decode cX9_joined 148 = .ok (.lload 5, 2) := by decide +kernel
theorem dX9_joined_150 : decode cX9_joined 150 = .ok (.ldc2_w 174, 3) := by decide +kernel
theorem dX9_joined_153 : decode cX9_joined 153 = .ok (.lcmp, 1) := by decide +kernel
theorem dX9_joined_154 : decode cX9_joined 154 = .ok (.ifCond .ge 9, 3) := by decide +kernel
theorem dX9_joined_157 : decode cX9_joined 157 = .ok (.ldc2_w 174, 3) := by decide +kernel
theorem dX9_joined_160 : decode cX9_joined 160 = .ok (.goto 5, 3) := by decide +kernel
theorem dX9_joined_163 : decode cX9_joined 163 = .ok (.lload 5, 2) := by decide +kernel
theorem dX9_joined_165 : decode cX9_joined 165 = .ok (.lreturn, 1) := by decide +kernel
set_option maxRecDepth 20000 in
set_option maxHeartbeats 2000000 in
theorem w_X9_joined_133 {X : CX} {d : Nat} (hd : 0 ≤ d) {g' : G} {rx : Int64} (l5 : Int64) (g : G) (h : f_X9_joined_133 l5 g = some (rx, g')) : SemF X m_X9_joined d 133 [(5, .long l5)] [] g (some (.long rx)) g' := by
  rw [f_X9_joined_133] at h
  refine SF_lload 0 135 dX9_joined_133 rfl rfl ?_
  refine SF_ldc2 138 dX9_joined_135 kl_X9_172 rfl ?_
  refine SF_lcmp 139 dX9_joined_138 rfl ?_
  refine SF_ifle 148 142 dX9_joined_139 rfl rfl (fun c1 => ?_) (fun c1 => ?_)
  · have h := ite_t c1 h
    refine SF_lload 0 150 dX9_joined_148 rfl rfl ?_
    refine SF_ldc2 153 dX9_joined_150 kl_X9_174 rfl ?_
    refine SF_lcmp 154 dX9_joined_153 rfl ?_
    refine SF_ifge 163 157 dX9_joined_154 rfl rfl (fun c2 => ?_) (fun c2 => ?_)
    · have h := ite_t c2 h
      refine SF_lload 0 165 dX9_joined_163 rfl rfl ?_
      exact RT_l rfl dX9_joined_165 h
    · have h := ite_f c2 h
      refine SF_ldc2 160 dX9_joined_157 kl_X9_174 rfl ?_
      refine SF_goto 165 dX9_joined_160 rfl ?_
      exact RT_l rfl dX9_joined_165 h
  · have h := ite_f c1 h
    refine SF_ldc2 145 dX9_joined_142 kl_X9_172 rfl ?_
    refine SF_goto 165 dX9_joined_145 rfl ?_
    exact RT_l rfl dX9_joined_165 h

set_option maxRecDepth 20000 in
set_option maxHeartbeats 2000000 in
theorem w_X9_joined {X : CX} {d : Nat} (hd : 0 ≤ d) (l0 : Int32) (l1 : Int64) (l3 : Int64) (g g' : G) (rx : Int64) (h : f_X9_joined l0 l1 l3 g = some (rx, g')) : Sem X m_X9_joined d [.int l0, .long l1, .long l3] g (some (.long rx)) g' := by
  refine Sem_of (lo := [(0, .int l0), (1, .long l1), (3, .long l3)]) (by decide +kernel) rfl (Nat.le_of_ble_eq_true rfl) ?_
  rw [f_X9_joined] at h
  refine SF_iload_n 0 1 dX9_joined_0 rfl rfl rfl ?_
  by_cases c1_0 : l0 = (12 : Int32)
  · have h := ite_t c1_0 h
    refine SF_lookup 68 dX9_joined_1 rfl (by rw [c1_0]) rfl ?_
    refine SF_lload_n 1 69 dX9_joined_68 rfl rfl rfl ?_
    refine SF_lload_n 2 70 dX9_joined_69 rfl rfl rfl ?_
    refine SF_lor 71 dX9_joined_70 rfl ?_
    exact RT_l rfl dX9_joined_71 h
  · have h := ite_f c1_0 h
    by_cases c1_1 : l0 = (13 : Int32)
    · have h := ite_t c1_1 h
      refine SF_lookup 72 dX9_joined_1 rfl (by rw [c1_1]) rfl ?_
      refine SF_lload_n 1 73 dX9_joined_72 rfl rfl rfl ?_
      refine SF_lload_n 2 74 dX9_joined_73 rfl rfl rfl ?_
      refine SF_land 75 dX9_joined_74 rfl ?_
      exact RT_l rfl dX9_joined_75 h
    · have h := ite_f c1_1 h
      by_cases c1_2 : l0 = (43 : Int32)
      · have h := ite_t c1_2 h
        refine SF_lookup 112 dX9_joined_1 rfl (by rw [c1_2]) rfl ?_
        refine SF_lload_n 1 113 dX9_joined_112 rfl rfl rfl ?_
        refine SF_lload_n 2 114 dX9_joined_113 rfl rfl rfl ?_
        refine SF_ladd 115 dX9_joined_114 rfl ?_
        obtain ⟨y2, e3, h⟩ := ll_some h
        refine SF_eqL e3 ?_
        refine SF_lstore [(5, .long y2), (0, .int l0), (1, .long l1), (3, .long l3)] 117 dX9_joined_115 (by decide) rfl rfl ?_
        refine SF_goto 133 dX9_joined_117 rfl ?_
        refine SF_sub [0] rfl ?_
        exact w_X9_joined_133 hd y2 g  h
      · have h := ite_f c1_2 h
        by_cases c1_3 : l0 = (45 : Int32)
        · have h := ite_t c1_3 h
          refine SF_lookup 120 dX9_joined_1 rfl (by rw [c1_3]) rfl ?_
          refine SF_lload_n 1 121 dX9_joined_120 rfl rfl rfl ?_
          refine SF_lload_n 2 122 dX9_joined_121 rfl rfl rfl ?_
          refine SF_lsub 123 dX9_joined_122 rfl ?_
          obtain ⟨y4, e5, h⟩ := ll_some h
          refine SF_eqL e5 ?_
          refine SF_lstore [(5, .long y4), (0, .int l0), (1, .long l1), (3, .long l3)] 125 dX9_joined_123 (by decide) rfl rfl ?_
          refine SF_goto 133 dX9_joined_125 rfl ?_
          refine SF_sub [0] rfl ?_
          exact w_X9_joined_133 hd y4 g  h
        · have h := ite_f c1_3 h
          by_cases c1_4 : l0 = (60 : Int32)
          · have h := ite_t c1_4 h
            refine SF_lookup 88 dX9_joined_1 rfl (by rw [c1_4]) rfl ?_
            refine SF_lload_n 1 89 dX9_joined_88 rfl rfl rfl ?_
            refine SF_lload_n 2 90 dX9_joined_89 rfl rfl rfl ?_
            refine SF_lcmp 91 dX9_joined_90 rfl ?_
            refine SF_ifge 98 94 dX9_joined_91 rfl rfl (fun c6 => ?_) (fun c6 => ?_)
            · have h := ite_t c6 h
              refine SF_lconst (0 : Int64) 99 dX9_joined_98 rfl rfl ?_
              exact RT_l rfl dX9_joined_99 h
            · have h := ite_f c6 h
              refine SF_lconst (1 : Int64) 95 dX9_joined_94 rfl rfl ?_
              refine SF_goto 99 dX9_joined_95 rfl ?_
              exact RT_l rfl dX9_joined_99 h
          · have h := ite_f c1_4 h
            by_cases c1_5 : l0 = (61 : Int32)
            · have h := ite_t c1_5 h
              refine SF_lookup 76 dX9_joined_1 rfl (by rw [c1_5]) rfl ?_
              refine SF_lload_n 1 77 dX9_joined_76 rfl rfl rfl ?_
              refine SF_lload_n 2 78 dX9_joined_77 rfl rfl rfl ?_
              refine SF_lcmp 79 dX9_joined_78 rfl ?_
              refine SF_ifne 86 82 dX9_joined_79 rfl rfl (fun c7 => ?_) (fun c7 => ?_)
              · have h := ite_f c7 h
                refine SF_lconst (0 : Int64) 87 dX9_joined_86 rfl rfl ?_
                exact RT_l rfl dX9_joined_87 h
              · have h := ite_t c7 h
                refine SF_lconst (1 : Int64) 83 dX9_joined_82 rfl rfl ?_
                refine SF_goto 87 dX9_joined_83 rfl ?_
                exact RT_l rfl dX9_joined_87 h
            · have h := ite_f c1_5 h
              by_cases c1_6 : l0 = (62 : Int32)
              · have h := ite_t c1_6 h
                refine SF_lookup 100 dX9_joined_1 rfl (by rw [c1_6]) rfl ?_
                refine SF_lload_n 1 101 dX9_joined_100 rfl rfl rfl ?_
                refine SF_lload_n 2 102 dX9_joined_101 rfl rfl rfl ?_
                refine SF_lcmp 103 dX9_joined_102 rfl ?_
                refine SF_ifle 110 106 dX9_joined_103 rfl rfl (fun c8 => ?_) (fun c8 => ?_)
                · have h := ite_t c8 h
                  refine SF_lconst (0 : Int64) 111 dX9_joined_110 rfl rfl ?_
                  exact RT_l rfl dX9_joined_111 h
                · have h := ite_f c8 h
                  refine SF_lconst (1 : Int64) 107 dX9_joined_106 rfl rfl ?_
                  refine SF_goto 111 dX9_joined_107 rfl ?_
                  exact RT_l rfl dX9_joined_111 h
              · have h := ite_f c1_6 h
                refine SF_lookup (off := 127) 128 dX9_joined_1 rfl (by simp [Op.lookupswitch.offset, lk_ne2 (k := 12) rfl c1_0, lk_ne2 (k := 13) rfl c1_1, lk_ne2 (k := 43) rfl c1_2, lk_ne2 (k := 45) rfl c1_3, lk_ne2 (k := 60) rfl c1_4, lk_ne2 (k := 61) rfl c1_5, lk_ne2 (k := 62) rfl c1_6]) rfl ?_
                refine SF_lload_n 1 129 dX9_joined_128 rfl rfl rfl ?_
                refine SF_lload_n 2 130 dX9_joined_129 rfl rfl rfl ?_
                refine SF_lmul 131 dX9_joined_130 rfl ?_
                obtain ⟨y9, e10, h⟩ := ll_some h
                refine SF_eqL e10 ?_
                refine SF_lstore [(5, .long y9), (0, .int l0), (1, .long l1), (3, .long l3)] 133 dX9_joined_131 (by decide) rfl rfl ?_
                refine SF_sub [0] rfl ?_
                exact w_X9_joined_133 hd y9 g  h

theorem dX9_lawTells_0 : decode cX9_lawTells 0 = .ok (.aload_n 0, 1) := by decide +kernel
theorem dX9_lawTells_1 : decode cX9_lawTells 1 = .ok (.getfield 34, 3) := by decide +kernel
theorem dX9_lawTells_4 : decode cX9_lawTells 4 = .ok (.iload_n 3, 1) := by decide +kernel
theorem dX9_lawTells_5 : decode cX9_lawTells 5 = .ok (.invokevirtual 123, 3) := by decide +kernel
theorem dX9_lawTells_8 : decode cX9_lawTells 8 = .ok (.ifCond .eq 15, 3) := by decide +kernel
theorem dX9_lawTells_11 : decode cX9_lawTells 11 = .ok (.aload_n 0, 1) := by decide +kernel
theorem dX9_lawTells_12 : decode cX9_lawTells 12 = .ok (.getfield 34, 3) := by decide +kernel
theorem dX9_lawTells_15 : decode cX9_lawTells 15 = .ok (.iload 4, 2) := by decide +kernel
theorem dX9_lawTells_17 : decode cX9_lawTells 17 = .ok (.invokevirtual 123, 3) := by decide +kernel
theorem dX9_lawTells_20 : decode cX9_lawTells 20 = .ok (.ifCond .ne 5, 3) := by decide +kernel
theorem dX9_lawTells_23 : decode cX9_lawTells 23 = .ok (.lconst 0, 1) := by decide +kernel
theorem dX9_lawTells_24 : decode cX9_lawTells 24 = .ok (.lreturn, 1) := by decide +kernel
theorem dX9_lawTells_25 : decode cX9_lawTells 25 = .ok (.aload_n 0, 1) := by decide +kernel
theorem dX9_lawTells_26 : decode cX9_lawTells 26 = .ok (.getfield 34, 3) := by decide +kernel
theorem dX9_lawTells_29 : decode cX9_lawTells 29 = .ok (.getfield 153, 3) := by decide +kernel
theorem dX9_lawTells_32 : decode cX9_lawTells 32 = .ok (.iload 4, 2) := by decide +kernel
theorem dX9_lawTells_34 : decode cX9_lawTells 34 = .ok (.iaload, 1) := by decide +kernel
theorem dX9_lawTells_35 : decode cX9_lawTells 35 = .ok (.istore 5, 2) := by decide +kernel
theorem dX9_lawTells_37 : decode cX9_lawTells 37 = .ok (.aload_n 0, 1) := by decide +kernel
theorem dX9_lawTells_38 : decode cX9_lawTells 38 = .ok (.getfield 34, 3) := by decide +kernel
theorem dX9_lawTells_41 : decode cX9_lawTells 41 = .ok (.getfield 156, 3) := by decide +kernel
theorem dX9_lawTells_44 : decode cX9_lawTells 44 = .ok (.iload 4, 2) := by decide +kernel
theorem dX9_lawTells_46 : decode cX9_lawTells 46 = .ok (.iaload, 1) := by decide +kernel
theorem dX9_lawTells_47 : decode cX9_lawTells 47 = .ok (.istore 6, 2) := by decide +kernel
theorem dX9_lawTells_49 : decode cX9_lawTells 49 = .ok (.aload_n 0, 1) := by decide +kernel
theorem dX9_lawTells_50 : decode cX9_lawTells 50 = .ok (.getfield 11, 3) := by decide +kernel
theorem dX9_lawTells_53 : decode cX9_lawTells 53 = .ok (.iconst 1, 1) := by decide +kernel
theorem dX9_lawTells_54 : decode cX9_lawTells 54 = .ok (.iload_n 2, 1) := by decide +kernel
theorem dX9_lawTells_55 : decode cX9_lawTells 55 = .ok (.iastore, 1) := by decide +kernel
theorem dX9_lawTells_56 : decode cX9_lawTells 56 = .ok (.aload_n 0, 1) := by decide +kernel
theorem dX9_lawTells_57 : decode cX9_lawTells 57 = .ok (.getfield 11, 3) := by decide +kernel
theorem dX9_lawTells_60 : decode cX9_lawTells 60 = .ok (.iconst 3, 1) := by decide +kernel
theorem dX9_lawTells_61 : decode cX9_lawTells 61 = .ok (.aload_n 0, 1) := by decide +kernel
theorem dX9_lawTells_62 : decode cX9_lawTells 62 = .ok (.getfield 34, 3) := by decide +kernel
theorem dX9_lawTells_65 : decode cX9_lawTells 65 = .ok (.getfield 159, 3) := by decide +kernel
theorem dX9_lawTells_68 : decode cX9_lawTells 68 = .ok (.iload_n 3, 1) := by decide +kernel
theorem dX9_lawTells_69 : decode cX9_lawTells 69 = .ok (.iaload, 1) := by decide +kernel
theorem dX9_lawTells_70 : decode cX9_lawTells 70 = .ok (.iastore, 1) := by decide +kernel
theorem dX9_lawTells_71 : decode cX9_lawTells 71 = .ok (.aload_n 0, 1) := by decide +kernel
theorem dX9_lawTells_72 : decode cX9_lawTells 72 = .ok (.getfield 11, 3) := by decide +kernel
theorem dX9_lawTells_75 : decode cX9_lawTells 75 = .ok (.iconst 4, 1) := by decide +kernel
theorem dX9_lawTells_76 : decode cX9_lawTells 76 = .ok (.aload_n 0, 1) := by decide +kernel
theorem dX9_lawTells_77 : decode cX9_lawTells 77 = .ok (.getfield 34, 3) := by decide +kernel
theorem dX9_lawTells_80 : decode cX9_lawTells 80 = .ok (.getfield 159, 3) := by decide +kernel
theorem dX9_lawTells_83 : decode cX9_lawTells 83 = .ok (.iload 4, 2) := by decide +kernel
theorem dX9_lawTells_85 : decode cX9_lawTells 85 = .ok (.iaload, 1) := by decide +kernel
theorem dX9_lawTells_86 : decode cX9_lawTells 86 = .ok (.iastore, 1) := by decide +kernel
theorem dX9_lawTells_87 : decode cX9_lawTells 87 = .ok (.aload_n 0, 1) := by decide +kernel
theorem dX9_lawTells_88 : decode cX9_lawTells 88 = .ok (.getfield 11, 3) := by decide +kernel
theorem dX9_lawTells_91 : decode cX9_lawTells 91 = .ok (.iconst 5, 1) := by decide +kernel
theorem dX9_lawTells_92 : decode cX9_lawTells 92 = .ok (.aload_n 0, 1) := by decide +kernel
theorem dX9_lawTells_93 : decode cX9_lawTells 93 = .ok (.getfield 34, 3) := by decide +kernel
theorem dX9_lawTells_96 : decode cX9_lawTells 96 = .ok (.getfield 153, 3) := by decide +kernel
theorem dX9_lawTells_99 : decode cX9_lawTells 99 = .ok (.iload_n 3, 1) := by decide +kernel
theorem dX9_lawTells_100 : decode cX9_lawTells 100 = .ok (.iaload, 1) := by decide +kernel
theorem dX9_lawTells_101 : decode cX9_lawTells 101 = .ok (.iload 5, 2) := by decide +kernel
theorem dX9_lawTells_103 : decode cX9_lawTells 103 = .ok (.isub, 1) := by decide +kernel
theorem dX9_lawTells_104 : decode cX9_lawTells 104 = .ok (.invokestatic 162, 3) := by decide +kernel
theorem dX9_lawTells_107 : decode cX9_lawTells 107 = .ok (.aload_n 0, 1) := by decide +kernel
theorem dX9_lawTells_108 : decode cX9_lawTells 108 = .ok (.getfield 34, 3) := by decide +kernel
theorem dX9_lawTells_111 : decode cX9_lawTells 111 = .ok (.getfield 156, 3) := by decide +kernel
theorem dX9_lawTells_114 : decode cX9_lawTells 114 = .ok (.iload_n 3, 1) := by decide +kernel
theorem dX9_lawTells_115 : decode cX9_lawTells 115 = .ok (.iaload, 1) := by decide +kernel
theorem dX9_lawTells_116 : decode cX9_lawTells 116 = .ok (.iload 6, 2) := by decide +kernel
theorem dX9_lawTells_118 : decode cX9_lawTells 118 = .ok (.isub, 1) := by decide +kernel
theorem dX9_lawTells_119 : decode cX9_lawTells 119 = .ok (.invokestatic 162, 3) := by decide +kernel
theorem dX9_lawTells_122 : decode cX9_lawTells 122 = .ok (.iadd, 1) := by decide +kernel
theorem dX9_lawTells_123 : decode cX9_lawTells 123 = .ok (.iastore, 1) := by decide +kernel
theorem dX9_lawTells_124 : decode cX9_lawTells 124 = .ok (.aload_n 0, 1) := by decide +kernel
theorem dX9_lawTells_125 : decode cX9_lawTells 125 = .ok (.getfield 11, 3) := by decide +kernel
theorem dX9_lawTells_128 : decode cX9_lawTells 128 = .ok (.bipush 6, 2) := by decide +kernel
theorem dX9_lawTells_130 : decode cX9_lawTells 130 = .ok (.iload 5, 2) := by decide +kernel
theorem dX9_lawTells_132 : decode cX9_lawTells 132 = .ok (.iastore, 1) := by decide +kernel
theorem dX9_lawTells_133 : decode cX9_lawTells 133 = .ok (.aload_n 0, 1) := by decide +kernel
theorem dX9_lawTells_134 : decode cX9_lawTells 134 = .ok (.getfield 11, 3) := by decide +kernel
theorem dX9_lawTells_137 : decode cX9_lawTells 137 = .ok (.bipush 7, 2) := by decide +kernel
theorem dX9_lawTells_139 : decode cX9_lawTells 139 = .ok (.iload 6, 2) := by decide +kernel
theorem dX9_lawTells_141 : decode cX9_lawTells 141 = .ok (.iastore, 1) := by decide +kernel
theorem dX9_lawTells_142 : decode cX9_lawTells 142 = .ok (.iconst 0, 1) := by decide +kernel
theorem dX9_lawTells_143 : decode cX9_lawTells 143 = .ok (.istore 7, 2) := by decide +kernel
theorem dX9_lawTells_145 : decode cX9_lawTells 145 = .ok (.iconst 0, 1) := by decide +kernel
theorem dX9_lawTells_146 : decode cX9_lawTells 146 = .ok (.istore 8, 2) := by decide +kernel
theorem dX9_lawTells_148 : decode cX9_lawTells 148 = .ok (.iload 8, 2) := by decide +kernel
theorem dX9_lawTells_150 : decode cX9_lawTells 150 = .ok (.aload_n 1, 1) := by decide +kernel
theorem dX9_lawTells_151 : decode cX9_lawTells 151 = .ok (.arraylength, 1) := by decide +kernel
theorem dX9_lawTells_152 : decode cX9_lawTells 152 = .ok (.if_icmp .ge 156, 3) := by decide +kernel
theorem dX9_lawTells_155 : decode cX9_lawTells 155 = .ok (.aload_n 1, 1) := by decide +kernel
theorem dX9_lawTells_156 : decode cX9_lawTells 156 = .ok (.iload 8, 2) := by decide +kernel
theorem dX9_lawTells_158 : decode cX9_lawTells 158 = .ok (.iaload, 1) := by decide +kernel
theorem dX9_lawTells_159 : decode cX9_lawTells 159 = .ok (.istore 9, 2) := by decide +kernel
theorem dX9_lawTells_161 : decode cX9_lawTells 161 = .ok (.iload 9, 2) := by decide +kernel
theorem dX9_lawTells_163 : decode cX9_lawTells 163 = .ok (.sipush 2014, 3) := by decide +kernel
theorem dX9_lawTells_166 : decode cX9_lawTells 166 = .ok (.if_icmp .ne 31, 3) := by decide +kernel
theorem dX9_lawTells_169 : decode cX9_lawTells 169 = .ok (.iload 7, 2) := by decide +kernel
theorem dX9_lawTells_171 : decode cX9_lawTells 171 = .ok (.ifCond .le 131, 3) := by decide +kernel
theorem dX9_lawTells_174 : decode cX9_lawTells 174 = .ok (.aload_n 0, 1) := by decide +kernel
theorem dX9_lawTells_175 : decode cX9_lawTells 175 = .ok (.getfield 31, 3) := by decide +kernel
theorem dX9_lawTells_178 : decode cX9_lawTells 178 = .ok (.iload 7, 2) := by decide +kernel
theorem dX9_lawTells_180 : decode cX9_lawTells 180 = .ok (.iconst 1, 1) := by decide +kernel
theorem dX9_lawTells_181 : decode cX9_lawTells 181 = .ok (.isub, 1) := by decide +kernel
theorem dX9_lawTells_182 : decode cX9_lawTells 182 = .ok (.lconst 1, 1) := by decide +kernel
theorem dX9_lawTells_183 : decode cX9_lawTells 183 = .ok (.aload_n 0, 1) := by decide +kernel
theorem dX9_lawTells_184 : decode cX9_lawTells 184 = .ok (.getfield 31, 3) := by decide +kernel
theorem dX9_lawTells_187 : decode cX9_lawTells 187 = .ok (.iload 7, 2) := by decide +kernel
theorem dX9_lawTells_189 : decode cX9_lawTells 189 = .ok (.iconst 1, 1) := by decide +kernel
theorem dX9_lawTells_190 : decode cX9_lawTells 190 = .ok (.isub, 1) := by decide +kernel
theorem dX9_lawTells_191 : decode cX9_lawTells 191 = .ok (.laload, 1) := by decide +kernel
theorem dX9_lawTells_192 : decode cX9_lawTells 192 = .ok (.lsub, 1) := by decide +kernel
theorem dX9_lawTells_193 : decode cX9_lawTells 193 = .ok (.lastore, 1) := by decide +kernel
theorem dX9_lawTells_194 : decode cX9_lawTells 194 = .ok (.goto 108, 3) := by decide +kernel
theorem dX9_lawTells_197 : decode cX9_lawTells 197 = .ok (.iload 9, 2) := by decide +kernel
theorem dX9_lawTells_199 : decode cX9_lawTells 199 = .ok (.sipush 2000, 3) := by decide +kernel
theorem dX9_lawTells_202 : decode cX9_lawTells 202 = .ok (.if_icmp .lt 49, 3) := by decide +kernel
theorem dX9_lawTells_205 : decode cX9_lawTells 205 = .ok (.iload 7, 2) := by decide +kernel
theorem dX9_lawTells_207 : decode cX9_lawTells 207 = .ok (.iconst 1, 1) := by decide +kernel
theorem dX9_lawTells_208 : decode cX9_lawTells 208 = .ok (.if_icmp .le 94, 3) := by decide +kernel
theorem dX9_lawTells_211 : decode cX9_lawTells 211 = .ok (.iinc 7 (-1), 3) := by decide +kernel
theorem dX9_lawTells_214 : decode cX9_lawTells 214 = .ok (.aload_n 0, 1) := by decide +kernel
theorem dX9_lawTells_215 : decode cX9_lawTells 215 = .ok (.getfield 31, 3) := by decide +kernel
theorem dX9_lawTells_218 : decode cX9_lawTells 218 = .ok (.iload 7, 2) := by decide +kernel
theorem dX9_lawTells_220 : decode cX9_lawTells 220 = .ok (.iconst 1, 1) := by decide +kernel
theorem dX9_lawTells_221 : decode cX9_lawTells 221 = .ok (.isub, 1) := by decide +kernel
theorem dX9_lawTells_222 : decode cX9_lawTells 222 = .ok (.iload 9, 2) := by decide +kernel
theorem dX9_lawTells_224 : decode cX9_lawTells 224 = .ok (.sipush 2000, 3) := by decide +kernel
theorem dX9_lawTells_227 : decode cX9_lawTells 227 = .ok (.isub, 1) := by decide +kernel
theorem dX9_lawTells_228 : decode cX9_lawTells 228 = .ok (.aload_n 0, 1) := by decide +kernel
theorem dX9_lawTells_229 : decode cX9_lawTells 229 = .ok (.getfield 31, 3) := by decide +kernel
theorem dX9_lawTells_232 : decode cX9_lawTells 232 = .ok (.iload 7, 2) := by decide +kernel
theorem dX9_lawTells_234 : decode cX9_lawTells 234 = .ok (.iconst 1, 1) := by decide +kernel
theorem dX9_lawTells_235 : decode cX9_lawTells 235 = .ok (.isub, 1) := by decide +kernel
theorem dX9_lawTells_236 : decode cX9_lawTells 236 = .ok (.laload, 1) := by decide +kernel
theorem dX9_lawTells_237 : decode cX9_lawTells 237 = .ok (.aload_n 0, 1) := by decide +kernel
theorem dX9_lawTells_238 : decode cX9_lawTells 238 = .ok (.getfield 31, 3) := by decide +kernel
theorem dX9_lawTells_241 : decode cX9_lawTells 241 = .ok (.iload 7, 2) := by decide +kernel
theorem dX9_lawTells_243 : decode cX9_lawTells 243 = .ok (.laload, 1) := by decide +kernel
theorem dX9_lawTells_244 : decode cX9_lawTells 244 = .ok (.invokestatic 168, 3) := by decide +kernel
theorem dX9_lawTells_247 : decode cX9_lawTells 247 = .ok (.lastore, 1) := by decide +kernel
theorem dX9_lawTells_248 : decode cX9_lawTells 248 = .ok (.goto 54, 3) := by decide +kernel
theorem dX9_lawTells_251 : decode cX9_lawTells 251 = .ok (.iload 7, 2) := by decide +kernel
theorem dX9_lawTells_253 : decode cX9_lawTells 253 = .ok (.bipush 64, 2) := by decide +kernel
theorem dX9_lawTells_255 : decode cX9_lawTells 255 = .ok (.if_icmp .ge 47, 3) := by decide +kernel
theorem dX9_lawTells_258 : decode cX9_lawTells 258 = .ok (.iload 9, 2) := by decide +kernel
theorem dX9_lawTells_260 : decode cX9_lawTells 260 = .ok (.sipush 1000, 3) := by decide +kernel
theorem dX9_lawTells_263 : decode cX9_lawTells 263 = .ok (.isub, 1) := by decide +kernel
theorem dX9_lawTells_264 : decode cX9_lawTells 264 = .ok (.istore 10, 2) := by decide +kernel
theorem dX9_lawTells_266 : decode cX9_lawTells 266 = .ok (.aload_n 0, 1) := by decide +kernel
theorem dX9_lawTells_267 : decode cX9_lawTells 267 = .ok (.getfield 31, 3) := by decide +kernel
theorem dX9_lawTells_270 : decode cX9_lawTells 270 = .ok (.iload 7, 2) := by decide +kernel
theorem dX9_lawTells_272 : decode cX9_lawTells 272 = .ok (.iload 10, 2) := by decide +kernel
theorem dX9_lawTells_274 : decode cX9_lawTells 274 = .ok (.ifCond .lt 21, 3) := by decide +kernel
theorem dX9_lawTells_277 : decode cX9_lawTells 277 = .ok (.iload 10, 2) := by decide +kernel
theorem dX9_lawTells_279 : decode cX9_lawTells 279 = .ok (.bipush 8, 2) := by decide +kernel
theorem dX9_lawTells_281 : decode cX9_lawTells 281 = .ok (.if_icmp .ge 14, 3) := by decide +kernel
theorem dX9_lawTells_284 : decode cX9_lawTells 284 = .ok (.aload_n 0, 1) := by decide +kernel
theorem dX9_lawTells_285 : decode cX9_lawTells 285 = .ok (.getfield 11, 3) := by decide +kernel
theorem dX9_lawTells_288 : decode cX9_lawTells 288 = .ok (.iload 10, 2) := by decide +kernel
theorem dX9_lawTells_290 : decode cX9_lawTells 290 = .ok (.iaload, 1) := by decide +kernel
theorem dX9_lawTells_291 : decode cX9_lawTells 291 = .ok (.i2l, 1) := by decide +kernel
theorem dX9_lawTells_292 : decode cX9_lawTells 292 = .ok (.goto 6, 3) := by decide +kernel
theorem dX9_lawTells_295 : decode cX9_lawTells 295 = .ok (.iload 9, 2) := by decide +kernel
theorem dX9_lawTells_297 : decode cX9_lawTells 297 = .ok (.i2l, 1) := by decide +kernel
theorem dX9_lawTells_298 : decode cX9_lawTells 298 = .ok (.lastore, 1) := by decide +kernel
theorem dX9_lawTells_299 : decode cX9_lawTells 299 = .ok (.iinc 7 1, 3) := by decide +kernel
theorem dX9_lawTells_302 : decode cX9_lawTells 302 = .ok (.iinc 8 1, 3) := by decide +kernel
theorem dX9_lawTells_305 : decode cX9_lawTells 305 = .ok (.goto (-157), 3) := by decide +kernel
theorem dX9_lawTells_308 : decode cX9_lawTells 308 = .ok (.iload 7, 2) := by decide +kernel
theorem dX9_lawTells_310 : decode cX9_lawTells 310 = .ok (.ifCond .le 12, 3) := by decide +kernel
theorem dX9_lawTells_313 : decode cX9_lawTells 313 = .ok (.aload_n 0, 1) := by decide +kernel
theorem dX9_lawTells_314 : decode cX9_lawTells 314 = .ok (.getfield 31, 3) := by decide +kernel
theorem dX9_lawTells_317 : decode cX9_lawTells 317 = .ok (.iconst 0, 1) := by decide +kernel
theorem dX9_lawTells_318 : decode cX9_lawTells 318 = .ok (.laload, 1) := by decide +kernel
theorem dX9_lawTells_319 : decode cX9_lawTells 319 = .ok (.goto 4, 3) := by decide +kernel
theorem dX9_lawTells_322 : decode cX9_lawTells 322 = .ok (.lconst 0, 1) := by decide +kernel
theorem dX9_lawTells_323 : decode cX9_lawTells 323 = .ok (.lreturn, 1) := by decide +kernel
set_option maxRecDepth 20000 in
set_option maxHeartbeats 2000000 in
theorem w_X9_lawTells_302 {X : CX} {d : Nat} (hd : 1 ≤ d) {g' : G} {rx : Int64} (k148 : Nat → Nat → Int32 → Int32 → G → Option (Int64 × G)) (hk148 : ∀ (l0 : Nat) (l1 : Nat) (l7 : Int32) (l8 : Int32) (g : G), KD g l0 9 → KD g l1 14 → k148 l0 l1 l7 l8 g = some (rx, g') → SemF X m_X9_lawTells d 148 [(0, .ref (ad X l0)), (1, .ref (ad X l1)), (7, .int l7), (8, .int l8)] [] g (some (.long rx)) g') (l0 : Nat) (l1 : Nat) (l7 : Int32) (l8 : Int32) (g : G) (k_l0 : KD g l0 9) (k_l1 : KD g l1 14) (h : f_X9_lawTells_302 k148 l0 l1 l7 l8 g = some (rx, g')) : SemF X m_X9_lawTells d 302 [(0, .ref (ad X l0)), (1, .ref (ad X l1)), (7, .int l7), (8, .int l8)] [] g (some (.long rx)) g' := by
  rw [f_X9_lawTells_302] at h
  refine SF_iinc 3 (l8 + (1 : Int32)) [(8, .int (l8 + (1 : Int32))), (0, .ref (ad X l0)), (1, .ref (ad X l1)), (7, .int l7)] 305 dX9_lawTells_302 rfl rfl (by decide) rfl rfl ?_
  refine SF_goto 148 dX9_lawTells_305 rfl ?_
  refine SF_sub [1, 2, 3, 0] rfl ?_
  exact hk148 l0 l1 l7 (l8 + (1 : Int32)) g k_l0 k_l1 h

set_option maxRecDepth 20000 in
set_option maxHeartbeats 2000000 in
theorem w_X9_lawTells_298 {X : CX} {d : Nat} (hd : 1 ≤ d) {g' : G} {rx : Int64} (k148 : Nat → Nat → Int32 → Int32 → G → Option (Int64 × G)) (hk148 : ∀ (l0 : Nat) (l1 : Nat) (l7 : Int32) (l8 : Int32) (g : G), KD g l0 9 → KD g l1 14 → k148 l0 l1 l7 l8 g = some (rx, g') → SemF X m_X9_lawTells d 148 [(0, .ref (ad X l0)), (1, .ref (ad X l1)), (7, .int l7), (8, .int l8)] [] g (some (.long rx)) g') (l0 : Nat) (l1 : Nat) (l7 : Int32) (l8 : Int32) (s0 : Int64) (s1 : Int32) (s2 : Nat) (g : G) (k_l0 : KD g l0 9) (k_l1 : KD g l1 14) (k_s2 : KD g s2 15) (h : f_X9_lawTells_298 k148 l0 l1 l7 l8 s0 s1 s2 g = some (rx, g')) : SemF X m_X9_lawTells d 298 [(0, .ref (ad X l0)), (1, .ref (ad X l1)), (7, .int l7), (8, .int l8)] [.long s0, .int s1, .ref (ad X s2)] g (some (.long rx)) g' := by
  rw [f_X9_lawTells_298] at h
  obtain ⟨i1, h⟩ := gdI_some h
  refine SF_last 299 dX9_lawTells_298 k_s2.1 i1 rfl ?_
  obtain ⟨g2, e3, h⟩ := lg_some h
  rw [← e3]
  have k_l0 := KD.eq e3 k_l0
  have k_l1 := KD.eq e3 k_l1
  have k_s2 := KD.eq e3 k_s2
  have i1 := vp_eq e3 i1
  refine SF_iinc 2 (l7 + (1 : Int32)) [(7, .int (l7 + (1 : Int32))), (0, .ref (ad X l0)), (1, .ref (ad X l1)), (8, .int l8)] 302 dX9_lawTells_299 rfl rfl (by decide) rfl rfl ?_
  refine SF_sub [1, 2, 0, 3] rfl ?_
  exact w_X9_lawTells_302 hd k148 hk148 l0 l1 (l7 + (1 : Int32)) l8 g2 k_l0 k_l1 h

set_option maxRecDepth 20000 in
set_option maxHeartbeats 2000000 in
theorem w_X9_lawTells_295 {X : CX} {d : Nat} (hd : 1 ≤ d) {g' : G} {rx : Int64} (k148 : Nat → Nat → Int32 → Int32 → G → Option (Int64 × G)) (hk148 : ∀ (l0 : Nat) (l1 : Nat) (l7 : Int32) (l8 : Int32) (g : G), KD g l0 9 → KD g l1 14 → k148 l0 l1 l7 l8 g = some (rx, g') → SemF X m_X9_lawTells d 148 [(0, .ref (ad X l0)), (1, .ref (ad X l1)), (7, .int l7), (8, .int l8)] [] g (some (.long rx)) g') (l0 : Nat) (l1 : Nat) (l7 : Int32) (l8 : Int32) (l9 : Int32) (s0 : Int32) (s1 : Nat) (g : G) (k_l0 : KD g l0 9) (k_l1 : KD g l1 14) (k_s1 : KD g s1 15) (h : f_X9_lawTells_295 k148 l0 l1 l7 l8 l9 s0 s1 g = some (rx, g')) : SemF X m_X9_lawTells d 295 [(0, .ref (ad X l0)), (1, .ref (ad X l1)), (7, .int l7), (8, .int l8), (9, .int l9)] [.int s0, .ref (ad X s1)] g (some (.long rx)) g' := by
  rw [f_X9_lawTells_295] at h
  refine SF_iload 4 297 dX9_lawTells_295 rfl rfl ?_
  refine SF_i2l 298 dX9_lawTells_297 rfl ?_
  refine SF_sub [0, 1, 2, 3] rfl ?_
  exact w_X9_lawTells_298 hd k148 hk148 l0 l1 l7 l8 (l9.toInt64) s0 s1 g k_l0 k_l1 k_s1 h

set_option maxRecDepth 20000 in
set_option maxHeartbeats 2000000 in
theorem w_X9_lawTells_148 {X : CX} {d : Nat} (hd : 1 ≤ d) {g' : G} {rx : Int64} : ∀ (n : Nat) (l0 : Nat) (l1 : Nat) (l7 : Int32) (l8 : Int32) (g : G), KD g l0 9 → KD g l1 14 → f_X9_lawTells_148 n l0 l1 l7 l8 g = some (rx, g') → SemF X m_X9_lawTells d 148 [(0, .ref (ad X l0)), (1, .ref (ad X l1)), (7, .int l7), (8, .int l8)] [] g (some (.long rx)) g' := by
  intro n
  induction n with
  | zero =>
    intro l0 l1 l7 l8 g k_l0 k_l1 h
    rw [f_X9_lawTells_148] at h
    cases h
  | succ n ih =>
  intro l0 l1 l7 l8 g k_l0 k_l1 h
  rw [f_X9_lawTells_148] at h
  refine SF_iload 3 150 dX9_lawTells_148 rfl rfl ?_
  refine SF_aload_n 1 151 dX9_lawTells_150 rfl rfl rfl ?_
  refine SF_alen 152 dX9_lawTells_151 k_l1.1 (by decide) (by decide) rfl ?_
  refine SF_icge 308 155 dX9_lawTells_152 rfl rfl (fun c1 => ?_) (fun c1 => ?_)
  · have h := ite_t c1 h
    refine SF_iload 2 310 dX9_lawTells_308 rfl rfl ?_
    refine SF_ifle 322 313 dX9_lawTells_310 rfl rfl (fun c2 => ?_) (fun c2 => ?_)
    · have h := ite_t c2 h
      refine SF_lconst (0 : Int64) 323 dX9_lawTells_322 rfl rfl ?_
      exact RT_l rfl dX9_lawTells_323 h
    · have h := ite_f c2 h
      refine SF_aload_n 0 314 dX9_lawTells_313 rfl rfl rfl ?_
      obtain ⟨b3, r4, h⟩ := dr_some h
      refine SF_getR 317 fl_X9_31 dX9_lawTells_314 k_l0.1 r4 rfl ?_
      refine SF_iconst (0 : Int32) 318 dX9_lawTells_317 rfl rfl ?_
      obtain ⟨k5, h⟩ := gdK_some h
      obtain ⟨i6, h⟩ := gdI_some h
      refine SF_lald 319 dX9_lawTells_318 k5.1 i6 rfl ?_
      refine SF_goto 323 dX9_lawTells_319 rfl ?_
      exact RT_l rfl dX9_lawTells_323 h
  · have h := ite_f c1 h
    refine SF_aload_n 1 156 dX9_lawTells_155 rfl rfl rfl ?_
    refine SF_iload 3 158 dX9_lawTells_156 rfl rfl ?_
    obtain ⟨i7, h⟩ := gdI_some h
    refine SF_iald 159 dX9_lawTells_158 k_l1.1 i7 rfl ?_
    obtain ⟨y8, e9, h⟩ := li_some h
    refine SF_eqI e9 ?_
    refine SF_istore [(9, .int y8), (0, .ref (ad X l0)), (1, .ref (ad X l1)), (7, .int l7), (8, .int l8)] 161 dX9_lawTells_159 (by decide) rfl rfl ?_
    refine SF_iload 0 163 dX9_lawTells_161 rfl rfl ?_
    refine SF_sipush (2014 : Int32) 166 dX9_lawTells_163 rfl rfl ?_
    refine SF_icne 197 169 dX9_lawTells_166 rfl rfl (fun c10 => ?_) (fun c10 => ?_)
    · have h := ite_f c10 h
      refine SF_iload 0 199 dX9_lawTells_197 rfl rfl ?_
      refine SF_sipush (2000 : Int32) 202 dX9_lawTells_199 rfl rfl ?_
      refine SF_iclt 251 205 dX9_lawTells_202 rfl rfl (fun c11 => ?_) (fun c11 => ?_)
      · have h := ite_t c11 h
        refine SF_iload 3 253 dX9_lawTells_251 rfl rfl ?_
        refine SF_bipush (64 : Int32) 255 dX9_lawTells_253 rfl rfl ?_
        refine SF_icge 302 258 dX9_lawTells_255 rfl rfl (fun c12 => ?_) (fun c12 => ?_)
        · have h := ite_t c12 h
          refine SF_sub [1, 2, 3, 4] rfl ?_
          exact w_X9_lawTells_302 hd (f_X9_lawTells_148 n) ih l0 l1 l7 l8 g k_l0 k_l1 h
        · have h := ite_f c12 h
          refine SF_iload 0 260 dX9_lawTells_258 rfl rfl ?_
          refine SF_sipush (1000 : Int32) 263 dX9_lawTells_260 rfl rfl ?_
          refine SF_isub 264 dX9_lawTells_263 rfl ?_
          obtain ⟨y13, e14, h⟩ := li_some h
          refine SF_eqI e14 ?_
          refine SF_istore [(10, .int y13), (9, .int y8), (0, .ref (ad X l0)), (1, .ref (ad X l1)), (7, .int l7), (8, .int l8)] 266 dX9_lawTells_264 (by decide) rfl rfl ?_
          refine SF_aload_n 2 267 dX9_lawTells_266 rfl rfl rfl ?_
          obtain ⟨b15, r16, h⟩ := dr_some h
          refine SF_getR 270 fl_X9_31 dX9_lawTells_267 k_l0.1 r16 rfl ?_
          refine SF_iload 4 272 dX9_lawTells_270 rfl rfl ?_
          refine SF_iload 0 274 dX9_lawTells_272 rfl rfl ?_
          refine SF_iflt 295 277 dX9_lawTells_274 rfl rfl (fun c17 => ?_) (fun c17 => ?_)
          · have h := ite_t c17 h
            obtain ⟨k18, h⟩ := gdK_some h
            refine SF_sub [2, 3, 4, 5, 1] rfl ?_
            exact w_X9_lawTells_295 hd (f_X9_lawTells_148 n) ih l0 l1 l7 l8 y8 l7 b15 g k_l0 k_l1 k18 h
          · have h := ite_f c17 h
            refine SF_iload 0 279 dX9_lawTells_277 rfl rfl ?_
            refine SF_bipush (8 : Int32) 281 dX9_lawTells_279 rfl rfl ?_
            refine SF_icge 295 284 dX9_lawTells_281 rfl rfl (fun c19 => ?_) (fun c19 => ?_)
            · have h := ite_t c19 h
              obtain ⟨k20, h⟩ := gdK_some h
              refine SF_sub [2, 3, 4, 5, 1] rfl ?_
              exact w_X9_lawTells_295 hd (f_X9_lawTells_148 n) ih l0 l1 l7 l8 y8 l7 b15 g k_l0 k_l1 k20 h
            · have h := ite_f c19 h
              refine SF_aload_n 2 285 dX9_lawTells_284 rfl rfl rfl ?_
              obtain ⟨b21, r22, h⟩ := dr_some h
              refine SF_getR 288 fl_X9_11 dX9_lawTells_285 k_l0.1 r22 rfl ?_
              refine SF_iload 0 290 dX9_lawTells_288 rfl rfl ?_
              obtain ⟨k23, h⟩ := gdK_some h
              obtain ⟨i24, h⟩ := gdI_some h
              refine SF_iald 291 dX9_lawTells_290 k23.1 i24 rfl ?_
              refine SF_i2l 292 dX9_lawTells_291 rfl ?_
              refine SF_goto 298 dX9_lawTells_292 rfl ?_
              obtain ⟨k25, h⟩ := gdK_some h
              refine SF_sub [2, 3, 4, 5] rfl ?_
              exact w_X9_lawTells_298 hd (f_X9_lawTells_148 n) ih l0 l1 l7 l8 ((gI g b21 y13.toNatClampNeg).toInt64) l7 b15 g k_l0 k_l1 k25 h
      · have h := ite_f c11 h
        refine SF_iload 3 207 dX9_lawTells_205 rfl rfl ?_
        refine SF_iconst (1 : Int32) 208 dX9_lawTells_207 rfl rfl ?_
        refine SF_icle 302 211 dX9_lawTells_208 rfl rfl (fun c26 => ?_) (fun c26 => ?_)
        · have h := ite_t c26 h
          refine SF_sub [1, 2, 3, 4] rfl ?_
          exact w_X9_lawTells_302 hd (f_X9_lawTells_148 n) ih l0 l1 l7 l8 g k_l0 k_l1 h
        · have h := ite_f c26 h
          refine SF_iinc 3 (l7 + (-1 : Int32)) [(7, .int (l7 + (-1 : Int32))), (9, .int y8), (0, .ref (ad X l0)), (1, .ref (ad X l1)), (8, .int l8)] 214 dX9_lawTells_211 rfl rfl (by decide) rfl rfl ?_
          refine SF_aload_n 2 215 dX9_lawTells_214 rfl rfl rfl ?_
          obtain ⟨b27, r28, h⟩ := dr_some h
          refine SF_getR 218 fl_X9_31 dX9_lawTells_215 k_l0.1 r28 rfl ?_
          refine SF_iload 0 220 dX9_lawTells_218 rfl rfl ?_
          refine SF_iconst (1 : Int32) 221 dX9_lawTells_220 rfl rfl ?_
          refine SF_isub 222 dX9_lawTells_221 rfl ?_
          refine SF_iload 1 224 dX9_lawTells_222 rfl rfl ?_
          refine SF_sipush (2000 : Int32) 227 dX9_lawTells_224 rfl rfl ?_
          refine SF_isub 228 dX9_lawTells_227 rfl ?_
          refine SF_aload_n 2 229 dX9_lawTells_228 rfl rfl rfl ?_
          refine SF_getR 232 fl_X9_31 dX9_lawTells_229 k_l0.1 r28 rfl ?_
          refine SF_iload 0 234 dX9_lawTells_232 rfl rfl ?_
          refine SF_iconst (1 : Int32) 235 dX9_lawTells_234 rfl rfl ?_
          refine SF_isub 236 dX9_lawTells_235 rfl ?_
          obtain ⟨k29, h⟩ := gdK_some h
          obtain ⟨i30, h⟩ := gdI_some h
          refine SF_lald 237 dX9_lawTells_236 k29.1 i30 rfl ?_
          refine SF_aload_n 2 238 dX9_lawTells_237 rfl rfl rfl ?_
          refine SF_getR 241 fl_X9_31 dX9_lawTells_238 k_l0.1 r28 rfl ?_
          refine SF_iload 0 243 dX9_lawTells_241 rfl rfl ?_
          obtain ⟨i31, h⟩ := gdI_some h
          refine SF_lald 244 dX9_lawTells_243 k29.1 i31 rfl ?_
          obtain ⟨v32, g33, q34, h⟩ := bd_some h
          have s35 := w_X9_joined (X := X) (Nat.le_refl 0) (y8 - (2000 : Int32)) (gL g b27 ((l7 + (-1 : Int32)) - (1 : Int32)).toNatClampNeg) (gL g b27 (l7 + (-1 : Int32)).toNatClampNeg) g g33 v32 q34
          refine SF_callSl 247 mi_X9_joined ml_X9_168 dX9_lawTells_244 (Nat.le_trans (by decide) hd) s35 rfl rfl (Nat.le_of_ble_eq_true rfl) rfl ?_
          have k_l0 := k_l0.ext s35.1
          have k_l1 := k_l1.ext s35.1
          have k29 := k29.ext s35.1
          obtain ⟨i36, h⟩ := gdI_some h
          refine SF_last 248 dX9_lawTells_247 k29.1 i36 rfl ?_
          obtain ⟨g37, e38, h⟩ := lg_some h
          rw [← e38]
          have k_l0 := KD.eq e38 k_l0
          have k_l1 := KD.eq e38 k_l1
          have k29 := KD.eq e38 k29
          have i36 := vp_eq e38 i36
          refine SF_goto 302 dX9_lawTells_248 rfl ?_
          refine SF_sub [2, 3, 0, 4] rfl ?_
          exact w_X9_lawTells_302 hd (f_X9_lawTells_148 n) ih l0 l1 (l7 + (-1 : Int32)) l8 g37 k_l0 k_l1 h
    · have h := ite_t c10 h
      refine SF_iload 3 171 dX9_lawTells_169 rfl rfl ?_
      refine SF_ifle 302 174 dX9_lawTells_171 rfl rfl (fun c39 => ?_) (fun c39 => ?_)
      · have h := ite_t c39 h
        refine SF_sub [1, 2, 3, 4] rfl ?_
        exact w_X9_lawTells_302 hd (f_X9_lawTells_148 n) ih l0 l1 l7 l8 g k_l0 k_l1 h
      · have h := ite_f c39 h
        refine SF_aload_n 1 175 dX9_lawTells_174 rfl rfl rfl ?_
        obtain ⟨b40, r41, h⟩ := dr_some h
        refine SF_getR 178 fl_X9_31 dX9_lawTells_175 k_l0.1 r41 rfl ?_
        refine SF_iload 3 180 dX9_lawTells_178 rfl rfl ?_
        refine SF_iconst (1 : Int32) 181 dX9_lawTells_180 rfl rfl ?_
        refine SF_isub 182 dX9_lawTells_181 rfl ?_
        refine SF_lconst (1 : Int64) 183 dX9_lawTells_182 rfl rfl ?_
        refine SF_aload_n 1 184 dX9_lawTells_183 rfl rfl rfl ?_
        refine SF_getR 187 fl_X9_31 dX9_lawTells_184 k_l0.1 r41 rfl ?_
        refine SF_iload 3 189 dX9_lawTells_187 rfl rfl ?_
        refine SF_iconst (1 : Int32) 190 dX9_lawTells_189 rfl rfl ?_
        refine SF_isub 191 dX9_lawTells_190 rfl ?_
        obtain ⟨k42, h⟩ := gdK_some h
        obtain ⟨i43, h⟩ := gdI_some h
        refine SF_lald 192 dX9_lawTells_191 k42.1 i43 rfl ?_
        refine SF_lsub 193 dX9_lawTells_192 rfl ?_
        refine SF_last 194 dX9_lawTells_193 k42.1 i43 rfl ?_
        obtain ⟨g44, e45, h⟩ := lg_some h
        rw [← e45]
        have k_l0 := KD.eq e45 k_l0
        have k_l1 := KD.eq e45 k_l1
        have k42 := KD.eq e45 k42
        have r41 := gR_eq e45 r41
        have i7 := vp_eq e45 i7
        have i43 := vp_eq e45 i43
        refine SF_goto 302 dX9_lawTells_194 rfl ?_
        refine SF_sub [1, 2, 3, 4] rfl ?_
        exact w_X9_lawTells_302 hd (f_X9_lawTells_148 n) ih l0 l1 l7 l8 g44 k_l0 k_l1 h

set_option maxRecDepth 20000 in
set_option maxHeartbeats 2000000 in
theorem w_X9_lawTells {X : CX} {d : Nat} (hd : 1 ≤ d) (l0 : Nat) (l1 : Nat) (l2 : Int32) (l3 : Int32) (l4 : Int32) (g g' : G) (rx : Int64) (k_l0 : KD g l0 9) (k_l1 : KD g l1 14) (h : f_X9_lawTells l0 l1 l2 l3 l4 g = some (rx, g')) : Sem X m_X9_lawTells d [.ref (ad X l0), .ref (ad X l1), .int l2, .int l3, .int l4] g (some (.long rx)) g' := by
  refine Sem_of (lo := [(0, .ref (ad X l0)), (1, .ref (ad X l1)), (2, .int l2), (3, .int l3), (4, .int l4)]) (by decide +kernel) rfl (Nat.le_of_ble_eq_true rfl) ?_
  rw [f_X9_lawTells] at h
  refine SF_aload_n 0 1 dX9_lawTells_0 rfl rfl rfl ?_
  obtain ⟨b1, r2, h⟩ := dr_some h
  refine SF_getR 4 fl_X9_34 dX9_lawTells_1 k_l0.1 r2 rfl ?_
  refine SF_iload_n 3 5 dX9_lawTells_4 rfl rfl rfl ?_
  obtain ⟨k3, h⟩ := gdK_some h
  obtain ⟨v4, g5, q6, h⟩ := bd_some h
  have s7 := w_X7_isCell (X := X) (Nat.le_refl 0) b1 l3 g g5 v4 k3 q6
  refine SF_callVb 8 mi_X7_isCell ml_X9_123 dX9_lawTells_5 (Nat.le_trans (by decide) hd) s7 k3.1 rfl rfl (Nat.le_of_ble_eq_true rfl) rfl ?_
  have k_l0 := k_l0.ext s7.1
  have k_l1 := k_l1.ext s7.1
  have k3 := k3.ext s7.1
  refine SF_ifeq 23 11 dX9_lawTells_8 rfl rfl (fun c8 => ?_) (fun c8 => ?_)
  · have h := ite_t c8 h
    refine SF_lconst (0 : Int64) 24 dX9_lawTells_23 rfl rfl ?_
    exact RT_l rfl dX9_lawTells_24 h
  · have h := ite_f c8 h
    refine SF_aload_n 0 12 dX9_lawTells_11 rfl rfl rfl ?_
    obtain ⟨b9, r10, h⟩ := dr_some h
    refine SF_getR 15 fl_X9_34 dX9_lawTells_12 k_l0.1 r10 rfl ?_
    refine SF_iload 4 17 dX9_lawTells_15 rfl rfl ?_
    obtain ⟨k11, h⟩ := gdK_some h
    obtain ⟨v12, g13, q14, h⟩ := bd_some h
    have s15 := w_X7_isCell (X := X) (Nat.le_refl 0) b9 l4 g5 g13 v12 k11 q14
    refine SF_callVb 20 mi_X7_isCell ml_X9_123 dX9_lawTells_17 (Nat.le_trans (by decide) hd) s15 k11.1 rfl rfl (Nat.le_of_ble_eq_true rfl) rfl ?_
    have k_l0 := k_l0.ext s15.1
    have k_l1 := k_l1.ext s15.1
    have k3 := k3.ext s15.1
    have k11 := k11.ext s15.1
    refine SF_ifne 25 23 dX9_lawTells_20 rfl rfl (fun c16 => ?_) (fun c16 => ?_)
    · have h := ite_f c16 h
      refine SF_aload_n 0 26 dX9_lawTells_25 rfl rfl rfl ?_
      obtain ⟨b17, r18, h⟩ := dr_some h
      refine SF_getR 29 fl_X9_34 dX9_lawTells_26 k_l0.1 r18 rfl ?_
      obtain ⟨k19, h⟩ := gdK_some h
      obtain ⟨b20, r21, h⟩ := dr_some h
      refine SF_getR 32 fl_X9_153 dX9_lawTells_29 k19.1 r21 rfl ?_
      refine SF_iload 4 34 dX9_lawTells_32 rfl rfl ?_
      obtain ⟨k22, h⟩ := gdK_some h
      obtain ⟨i23, h⟩ := gdI_some h
      refine SF_iald 35 dX9_lawTells_34 k22.1 i23 rfl ?_
      obtain ⟨y24, e25, h⟩ := li_some h
      refine SF_eqI e25 ?_
      refine SF_istore [(5, .int y24), (0, .ref (ad X l0)), (1, .ref (ad X l1)), (2, .int l2), (3, .int l3), (4, .int l4)] 37 dX9_lawTells_35 (by decide) rfl rfl ?_
      refine SF_aload_n 1 38 dX9_lawTells_37 rfl rfl rfl ?_
      refine SF_getR 41 fl_X9_34 dX9_lawTells_38 k_l0.1 r18 rfl ?_
      obtain ⟨b26, r27, h⟩ := dr_some h
      refine SF_getR 44 fl_X9_156 dX9_lawTells_41 k19.1 r27 rfl ?_
      refine SF_iload 5 46 dX9_lawTells_44 rfl rfl ?_
      obtain ⟨k28, h⟩ := gdK_some h
      obtain ⟨i29, h⟩ := gdI_some h
      refine SF_iald 47 dX9_lawTells_46 k28.1 i29 rfl ?_
      obtain ⟨y30, e31, h⟩ := li_some h
      refine SF_eqI e31 ?_
      refine SF_istore [(6, .int y30), (5, .int y24), (0, .ref (ad X l0)), (1, .ref (ad X l1)), (2, .int l2), (3, .int l3), (4, .int l4)] 49 dX9_lawTells_47 (by decide) rfl rfl ?_
      refine SF_aload_n 2 50 dX9_lawTells_49 rfl rfl rfl ?_
      obtain ⟨b32, r33, h⟩ := dr_some h
      refine SF_getR 53 fl_X9_11 dX9_lawTells_50 k_l0.1 r33 rfl ?_
      refine SF_iconst (1 : Int32) 54 dX9_lawTells_53 rfl rfl ?_
      refine SF_iload_n 4 55 dX9_lawTells_54 rfl rfl rfl ?_
      obtain ⟨k34, h⟩ := gdK_some h
      obtain ⟨i35, h⟩ := gdI_some h
      refine SF_iast 56 dX9_lawTells_55 k34.1 i35 rfl ?_
      obtain ⟨g36, e37, h⟩ := lg_some h
      rw [← e37]
      have k_l0 := KD.eq e37 k_l0
      have k_l1 := KD.eq e37 k_l1
      have k3 := KD.eq e37 k3
      have k11 := KD.eq e37 k11
      have k19 := KD.eq e37 k19
      have k22 := KD.eq e37 k22
      have k28 := KD.eq e37 k28
      have k34 := KD.eq e37 k34
      have r18 := gR_eq e37 r18
      have r21 := gR_eq e37 r21
      have r27 := gR_eq e37 r27
      have r33 := gR_eq e37 r33
      have i23 := vp_eq e37 i23
      have i29 := vp_eq e37 i29
      have i35 := vp_eq e37 i35
      refine SF_aload_n 2 57 dX9_lawTells_56 rfl rfl rfl ?_
      refine SF_getR 60 fl_X9_11 dX9_lawTells_57 k_l0.1 r33 rfl ?_
      refine SF_iconst (3 : Int32) 61 dX9_lawTells_60 rfl rfl ?_
      refine SF_aload_n 2 62 dX9_lawTells_61 rfl rfl rfl ?_
      refine SF_getR 65 fl_X9_34 dX9_lawTells_62 k_l0.1 r18 rfl ?_
      obtain ⟨b38, r39, h⟩ := dr_some h
      refine SF_getR 68 fl_X9_159 dX9_lawTells_65 k19.1 r39 rfl ?_
      refine SF_iload_n 5 69 dX9_lawTells_68 rfl rfl rfl ?_
      obtain ⟨k40, h⟩ := gdK_some h
      obtain ⟨i41, h⟩ := gdI_some h
      refine SF_iald 70 dX9_lawTells_69 k40.1 i41 rfl ?_
      obtain ⟨i42, h⟩ := gdI_some h
      refine SF_iast 71 dX9_lawTells_70 k34.1 i42 rfl ?_
      obtain ⟨g43, e44, h⟩ := lg_some h
      rw [← e44]
      have k_l0 := KD.eq e44 k_l0
      have k_l1 := KD.eq e44 k_l1
      have k3 := KD.eq e44 k3
      have k11 := KD.eq e44 k11
      have k19 := KD.eq e44 k19
      have k22 := KD.eq e44 k22
      have k28 := KD.eq e44 k28
      have k34 := KD.eq e44 k34
      have k40 := KD.eq e44 k40
      have r18 := gR_eq e44 r18
      have r21 := gR_eq e44 r21
      have r27 := gR_eq e44 r27
      have r33 := gR_eq e44 r33
      have r39 := gR_eq e44 r39
      have i23 := vp_eq e44 i23
      have i29 := vp_eq e44 i29
      have i35 := vp_eq e44 i35
      have i41 := vp_eq e44 i41
      have i42 := vp_eq e44 i42
      refine SF_aload_n 2 72 dX9_lawTells_71 rfl rfl rfl ?_
      refine SF_getR 75 fl_X9_11 dX9_lawTells_72 k_l0.1 r33 rfl ?_
      refine SF_iconst (4 : Int32) 76 dX9_lawTells_75 rfl rfl ?_
      refine SF_aload_n 2 77 dX9_lawTells_76 rfl rfl rfl ?_
      refine SF_getR 80 fl_X9_34 dX9_lawTells_77 k_l0.1 r18 rfl ?_
      refine SF_getR 83 fl_X9_159 dX9_lawTells_80 k19.1 r39 rfl ?_
      refine SF_iload 6 85 dX9_lawTells_83 rfl rfl ?_
      obtain ⟨i45, h⟩ := gdI_some h
      refine SF_iald 86 dX9_lawTells_85 k40.1 i45 rfl ?_
      obtain ⟨i46, h⟩ := gdI_some h
      refine SF_iast 87 dX9_lawTells_86 k34.1 i46 rfl ?_
      obtain ⟨g47, e48, h⟩ := lg_some h
      rw [← e48]
      have k_l0 := KD.eq e48 k_l0
      have k_l1 := KD.eq e48 k_l1
      have k3 := KD.eq e48 k3
      have k11 := KD.eq e48 k11
      have k19 := KD.eq e48 k19
      have k22 := KD.eq e48 k22
      have k28 := KD.eq e48 k28
      have k34 := KD.eq e48 k34
      have k40 := KD.eq e48 k40
      have r18 := gR_eq e48 r18
      have r21 := gR_eq e48 r21
      have r27 := gR_eq e48 r27
      have r33 := gR_eq e48 r33
      have r39 := gR_eq e48 r39
      have i23 := vp_eq e48 i23
      have i29 := vp_eq e48 i29
      have i35 := vp_eq e48 i35
      have i41 := vp_eq e48 i41
      have i42 := vp_eq e48 i42
      have i45 := vp_eq e48 i45
      have i46 := vp_eq e48 i46
      refine SF_aload_n 2 88 dX9_lawTells_87 rfl rfl rfl ?_
      refine SF_getR 91 fl_X9_11 dX9_lawTells_88 k_l0.1 r33 rfl ?_
      refine SF_iconst (5 : Int32) 92 dX9_lawTells_91 rfl rfl ?_
      refine SF_aload_n 2 93 dX9_lawTells_92 rfl rfl rfl ?_
      refine SF_getR 96 fl_X9_34 dX9_lawTells_93 k_l0.1 r18 rfl ?_
      refine SF_getR 99 fl_X9_153 dX9_lawTells_96 k19.1 r21 rfl ?_
      refine SF_iload_n 5 100 dX9_lawTells_99 rfl rfl rfl ?_
      obtain ⟨i49, h⟩ := gdI_some h
      refine SF_iald 101 dX9_lawTells_100 k22.1 i49 rfl ?_
      refine SF_iload 1 103 dX9_lawTells_101 rfl rfl ?_
      refine SF_isub 104 dX9_lawTells_103 rfl ?_
      obtain ⟨v50, g51, q52, h⟩ := bd_some h
      have s53 := w_J9_abs_0f7a4 (X := X) (Nat.le_refl 0) ((gI g47 b20 l3.toNatClampNeg) - y24) g47 g51 v50 q52
      refine SF_callSi 107 mi_J9_abs_0f7a4 ml_X9_162 dX9_lawTells_104 (Nat.le_trans (by decide) hd) s53 rfl rfl (Nat.le_of_ble_eq_true rfl) rfl ?_
      have k_l0 := k_l0.ext s53.1
      have k_l1 := k_l1.ext s53.1
      have k3 := k3.ext s53.1
      have k11 := k11.ext s53.1
      have k19 := k19.ext s53.1
      have k22 := k22.ext s53.1
      have k28 := k28.ext s53.1
      have k34 := k34.ext s53.1
      have k40 := k40.ext s53.1
      refine SF_aload_n 2 108 dX9_lawTells_107 rfl rfl rfl ?_
      obtain ⟨b54, r55, h⟩ := dr_some h
      refine SF_getR 111 fl_X9_34 dX9_lawTells_108 k_l0.1 r55 rfl ?_
      obtain ⟨k56, h⟩ := gdK_some h
      obtain ⟨b57, r58, h⟩ := dr_some h
      refine SF_getR 114 fl_X9_156 dX9_lawTells_111 k56.1 r58 rfl ?_
      refine SF_iload_n 5 115 dX9_lawTells_114 rfl rfl rfl ?_
      obtain ⟨k59, h⟩ := gdK_some h
      obtain ⟨i60, h⟩ := gdI_some h
      refine SF_iald 116 dX9_lawTells_115 k59.1 i60 rfl ?_
      refine SF_iload 0 118 dX9_lawTells_116 rfl rfl ?_
      refine SF_isub 119 dX9_lawTells_118 rfl ?_
      obtain ⟨v61, g62, q63, h⟩ := bd_some h
      have s64 := w_J9_abs_0f7a4 (X := X) (Nat.le_refl 0) ((gI g51 b57 l3.toNatClampNeg) - y30) g51 g62 v61 q63
      refine SF_callSi 122 mi_J9_abs_0f7a4 ml_X9_162 dX9_lawTells_119 (Nat.le_trans (by decide) hd) s64 rfl rfl (Nat.le_of_ble_eq_true rfl) rfl ?_
      have k_l0 := k_l0.ext s64.1
      have k_l1 := k_l1.ext s64.1
      have k3 := k3.ext s64.1
      have k11 := k11.ext s64.1
      have k19 := k19.ext s64.1
      have k22 := k22.ext s64.1
      have k28 := k28.ext s64.1
      have k34 := k34.ext s64.1
      have k40 := k40.ext s64.1
      have k56 := k56.ext s64.1
      have k59 := k59.ext s64.1
      refine SF_iadd 123 dX9_lawTells_122 rfl ?_
      obtain ⟨i65, h⟩ := gdI_some h
      refine SF_iast 124 dX9_lawTells_123 k34.1 i65 rfl ?_
      obtain ⟨g66, e67, h⟩ := lg_some h
      rw [← e67]
      have k_l0 := KD.eq e67 k_l0
      have k_l1 := KD.eq e67 k_l1
      have k3 := KD.eq e67 k3
      have k11 := KD.eq e67 k11
      have k19 := KD.eq e67 k19
      have k22 := KD.eq e67 k22
      have k28 := KD.eq e67 k28
      have k34 := KD.eq e67 k34
      have k40 := KD.eq e67 k40
      have k56 := KD.eq e67 k56
      have k59 := KD.eq e67 k59
      have i65 := vp_eq e67 i65
      refine SF_aload_n 2 125 dX9_lawTells_124 rfl rfl rfl ?_
      obtain ⟨b68, r69, h⟩ := dr_some h
      refine SF_getR 128 fl_X9_11 dX9_lawTells_125 k_l0.1 r69 rfl ?_
      refine SF_bipush (6 : Int32) 130 dX9_lawTells_128 rfl rfl ?_
      refine SF_iload 1 132 dX9_lawTells_130 rfl rfl ?_
      obtain ⟨k70, h⟩ := gdK_some h
      obtain ⟨i71, h⟩ := gdI_some h
      refine SF_iast 133 dX9_lawTells_132 k70.1 i71 rfl ?_
      obtain ⟨g72, e73, h⟩ := lg_some h
      rw [← e73]
      have k_l0 := KD.eq e73 k_l0
      have k_l1 := KD.eq e73 k_l1
      have k3 := KD.eq e73 k3
      have k11 := KD.eq e73 k11
      have k19 := KD.eq e73 k19
      have k22 := KD.eq e73 k22
      have k28 := KD.eq e73 k28
      have k34 := KD.eq e73 k34
      have k40 := KD.eq e73 k40
      have k56 := KD.eq e73 k56
      have k59 := KD.eq e73 k59
      have k70 := KD.eq e73 k70
      have r69 := gR_eq e73 r69
      have i65 := vp_eq e73 i65
      have i71 := vp_eq e73 i71
      refine SF_aload_n 2 134 dX9_lawTells_133 rfl rfl rfl ?_
      refine SF_getR 137 fl_X9_11 dX9_lawTells_134 k_l0.1 r69 rfl ?_
      refine SF_bipush (7 : Int32) 139 dX9_lawTells_137 rfl rfl ?_
      refine SF_iload 0 141 dX9_lawTells_139 rfl rfl ?_
      obtain ⟨i74, h⟩ := gdI_some h
      refine SF_iast 142 dX9_lawTells_141 k70.1 i74 rfl ?_
      obtain ⟨g75, e76, h⟩ := lg_some h
      rw [← e76]
      have k_l0 := KD.eq e76 k_l0
      have k_l1 := KD.eq e76 k_l1
      have k3 := KD.eq e76 k3
      have k11 := KD.eq e76 k11
      have k19 := KD.eq e76 k19
      have k22 := KD.eq e76 k22
      have k28 := KD.eq e76 k28
      have k34 := KD.eq e76 k34
      have k40 := KD.eq e76 k40
      have k56 := KD.eq e76 k56
      have k59 := KD.eq e76 k59
      have k70 := KD.eq e76 k70
      have r69 := gR_eq e76 r69
      have i65 := vp_eq e76 i65
      have i71 := vp_eq e76 i71
      have i74 := vp_eq e76 i74
      refine SF_iconst (0 : Int32) 143 dX9_lawTells_142 rfl rfl ?_
      refine SF_istore [(7, .int (0 : Int32)), (6, .int y30), (5, .int y24), (0, .ref (ad X l0)), (1, .ref (ad X l1)), (2, .int l2), (3, .int l3), (4, .int l4)] 145 dX9_lawTells_143 (by decide) rfl rfl ?_
      refine SF_iconst (0 : Int32) 146 dX9_lawTells_145 rfl rfl ?_
      refine SF_istore [(8, .int (0 : Int32)), (7, .int (0 : Int32)), (6, .int y30), (5, .int y24), (0, .ref (ad X l0)), (1, .ref (ad X l1)), (2, .int l2), (3, .int l3), (4, .int l4)] 148 dX9_lawTells_146 (by decide) rfl rfl ?_
      refine SF_sub [4, 5, 1, 0] rfl ?_
      exact w_X9_lawTells_148 hd FU l0 l1 (0 : Int32) (0 : Int32) g75 k_l0 k_l1 h
    · have h := ite_t c16 h
      refine SF_lconst (0 : Int64) 24 dX9_lawTells_23 rfl rfl ?_
      exact RT_l rfl dX9_lawTells_24 h

theorem dX9_mayGo_0 : decode cX9_mayGo 0 = .ok (.aload_n 0, 1) := by decide +kernel
theorem dX9_mayGo_1 : decode cX9_mayGo 1 = .ok (.getfield 34, 3) := by decide +kernel
theorem dX9_mayGo_4 : decode cX9_mayGo 4 = .ok (.getfield 126, 3) := by decide +kernel
theorem dX9_mayGo_7 : decode cX9_mayGo 7 = .ok (.astore 4, 2) := by decide +kernel
theorem dX9_mayGo_9 : decode cX9_mayGo 9 = .ok (.aload_n 0, 1) := by decide +kernel
theorem dX9_mayGo_10 : decode cX9_mayGo 10 = .ok (.iload_n 1, 1) := by decide +kernel
theorem dX9_mayGo_11 : decode cX9_mayGo 11 = .ok (.iload_n 2, 1) := by decide +kernel
theorem dX9_mayGo_12 : decode cX9_mayGo 12 = .ok (.iload_n 3, 1) := by decide +kernel
theorem dX9_mayGo_13 : decode cX9_mayGo 13 = .ok (.invokevirtual 129, 3) := by decide +kernel
theorem dX9_mayGo_16 : decode cX9_mayGo 16 = .ok (.istore 5, 2) := by decide +kernel
theorem dX9_mayGo_18 : decode cX9_mayGo 18 = .ok (.aload 4, 2) := by decide +kernel
theorem dX9_mayGo_20 : decode cX9_mayGo 20 = .ok (.ifnull 8, 3) := by decide +kernel
theorem dX9_mayGo_23 : decode cX9_mayGo 23 = .ok (.iload 5, 2) := by decide +kernel
theorem dX9_mayGo_25 : decode cX9_mayGo 25 = .ok (.ifCond .ge 5, 3) := by decide +kernel
theorem dX9_mayGo_28 : decode cX9_mayGo 28 = .ok (.iconst 1, 1) := by decide +kernel
theorem dX9_mayGo_29 : decode cX9_mayGo 29 = .ok (.ireturn, 1) := by decide +kernel
theorem dX9_mayGo_30 : decode cX9_mayGo 30 = .ok (.aload_n 0, 1) := by decide +kernel
theorem dX9_mayGo_31 : decode cX9_mayGo 31 = .ok (.getfield 19, 3) := by decide +kernel
theorem dX9_mayGo_34 : decode cX9_mayGo 34 = .ok (.iload 5, 2) := by decide +kernel
theorem dX9_mayGo_36 : decode cX9_mayGo 36 = .ok (.iaload, 1) := by decide +kernel
theorem dX9_mayGo_37 : decode cX9_mayGo 37 = .ok (.aload_n 0, 1) := by decide +kernel
theorem dX9_mayGo_38 : decode cX9_mayGo 38 = .ok (.getfield 84, 3) := by decide +kernel
theorem dX9_mayGo_41 : decode cX9_mayGo 41 = .ok (.if_icmp .eq 31, 3) := by decide +kernel
theorem dX9_mayGo_44 : decode cX9_mayGo 44 = .ok (.aload_n 0, 1) := by decide +kernel
theorem dX9_mayGo_45 : decode cX9_mayGo 45 = .ok (.getfield 19, 3) := by decide +kernel
theorem dX9_mayGo_48 : decode cX9_mayGo 48 = .ok (.iload 5, 2) := by decide +kernel
theorem dX9_mayGo_50 : decode cX9_mayGo 50 = .ok (.aload_n 0, 1) := by decide +kernel
theorem dX9_mayGo_51 : decode cX9_mayGo 51 = .ok (.getfield 84, 3) := by decide +kernel
theorem dX9_mayGo_54 : decode cX9_mayGo 54 = .ok (.iastore, 1) := by decide +kernel
theorem dX9_mayGo_55 : decode cX9_mayGo 55 = .ok (.aload_n 0, 1) := by decide +kernel
theorem dX9_mayGo_56 : decode cX9_mayGo 56 = .ok (.getfield 22, 3) := by decide +kernel
theorem dX9_mayGo_59 : decode cX9_mayGo 59 = .ok (.iload 5, 2) := by decide +kernel
theorem dX9_mayGo_61 : decode cX9_mayGo 61 = .ok (.aload_n 0, 1) := by decide +kernel
theorem dX9_mayGo_62 : decode cX9_mayGo 62 = .ok (.aload 4, 2) := by decide +kernel
theorem dX9_mayGo_64 : decode cX9_mayGo 64 = .ok (.iload_n 1, 1) := by decide +kernel
theorem dX9_mayGo_65 : decode cX9_mayGo 65 = .ok (.iload_n 2, 1) := by decide +kernel
theorem dX9_mayGo_66 : decode cX9_mayGo 66 = .ok (.iload_n 3, 1) := by decide +kernel
theorem dX9_mayGo_67 : decode cX9_mayGo 67 = .ok (.invokevirtual 132, 3) := by decide +kernel
theorem dX9_mayGo_70 : decode cX9_mayGo 70 = .ok (.l2i, 1) := by decide +kernel
theorem dX9_mayGo_71 : decode cX9_mayGo 71 = .ok (.iastore, 1) := by decide +kernel
theorem dX9_mayGo_72 : decode cX9_mayGo 72 = .ok (.aload_n 0, 1) := by decide +kernel
theorem dX9_mayGo_73 : decode cX9_mayGo 73 = .ok (.getfield 22, 3) := by decide +kernel
theorem dX9_mayGo_76 : decode cX9_mayGo 76 = .ok (.iload 5, 2) := by decide +kernel
theorem dX9_mayGo_78 : decode cX9_mayGo 78 = .ok (.iaload, 1) := by decide +kernel
theorem dX9_mayGo_79 : decode cX9_mayGo 79 = .ok (.ifCond .eq 7, 3) := by decide +kernel
theorem dX9_mayGo_82 : decode cX9_mayGo 82 = .ok (.iconst 1, 1) := by decide +kernel
theorem dX9_mayGo_83 : decode cX9_mayGo 83 = .ok (.goto 4, 3) := by decide +kernel
theorem dX9_mayGo_86 : decode cX9_mayGo 86 = .ok (.iconst 0, 1) := by decide +kernel
theorem dX9_mayGo_87 : decode cX9_mayGo 87 = .ok (.ireturn, 1) := by decide +kernel
set_option maxRecDepth 20000 in
set_option maxHeartbeats 2000000 in
theorem w_X9_mayGo_72 {X : CX} {d : Nat} (hd : 2 ≤ d) {g' : G} {rx : Bool} (l0 : Nat) (l5 : Int32) (g : G) (k_l0 : KD g l0 9) (h : f_X9_mayGo_72 l0 l5 g = some (rx, g')) : SemF X m_X9_mayGo d 72 [(0, .ref (ad X l0)), (5, .int l5)] [] g (some (.int (b2i rx))) g' := by
  rw [f_X9_mayGo_72] at h
  refine SF_aload_n 0 73 dX9_mayGo_72 rfl rfl rfl ?_
  obtain ⟨b1, r2, h⟩ := dr_some h
  refine SF_getR 76 fl_X9_22 dX9_mayGo_73 k_l0.1 r2 rfl ?_
  refine SF_iload 1 78 dX9_mayGo_76 rfl rfl ?_
  obtain ⟨k3, h⟩ := gdK_some h
  obtain ⟨i4, h⟩ := gdI_some h
  refine SF_iald 79 dX9_mayGo_78 k3.1 i4 rfl ?_
  refine SF_ifeq 86 82 dX9_mayGo_79 rfl rfl (fun c5 => ?_) (fun c5 => ?_)
  · have h := ite_t c5 h
    refine SF_iconst (0 : Int32) 87 dX9_mayGo_86 rfl rfl ?_
    exact RT_b rfl rfl dX9_mayGo_87 h
  · have h := ite_f c5 h
    refine SF_iconst (1 : Int32) 83 dX9_mayGo_82 rfl rfl ?_
    refine SF_goto 87 dX9_mayGo_83 rfl ?_
    exact RT_b rfl rfl dX9_mayGo_87 h

set_option maxRecDepth 20000 in
set_option maxHeartbeats 2000000 in
theorem w_X9_mayGo {X : CX} {d : Nat} (hd : 2 ≤ d) (l0 : Nat) (l1 : Int32) (l2 : Int32) (l3 : Int32) (g g' : G) (rx : Bool) (k_l0 : KD g l0 9) (h : f_X9_mayGo l0 l1 l2 l3 g = some (rx, g')) : Sem X m_X9_mayGo d [.ref (ad X l0), .int l1, .int l2, .int l3] g (some (.int (b2i rx))) g' := by
  refine Sem_of (lo := [(0, .ref (ad X l0)), (1, .int l1), (2, .int l2), (3, .int l3)]) (by decide +kernel) rfl (Nat.le_of_ble_eq_true rfl) ?_
  rw [f_X9_mayGo] at h
  refine SF_aload_n 0 1 dX9_mayGo_0 rfl rfl rfl ?_
  obtain ⟨b1, r2, h⟩ := dr_some h
  refine SF_getR 4 fl_X9_34 dX9_mayGo_1 k_l0.1 r2 rfl ?_
  obtain ⟨k3, h⟩ := gdK_some h
  refine SF_getQ 7 fl_X9_126 dX9_mayGo_4 k3.1 rfl ?_
  refine SF_qstore [(4, rv X (gR g b1 10)), (0, .ref (ad X l0)), (1, .int l1), (2, .int l2), (3, .int l3)] 9 dX9_mayGo_7 (by decide) rfl rfl ?_
  refine SF_aload_n 1 10 dX9_mayGo_9 rfl rfl rfl ?_
  refine SF_iload_n 2 11 dX9_mayGo_10 rfl rfl rfl ?_
  refine SF_iload_n 3 12 dX9_mayGo_11 rfl rfl rfl ?_
  refine SF_iload_n 4 13 dX9_mayGo_12 rfl rfl rfl ?_
  obtain ⟨v4, g5, q6, h⟩ := bd_some h
  have s7 := w_X9_memoPlace (X := X) (Nat.le_refl 1) l0 l1 l2 l3 g g5 v4 k_l0 q6
  refine SF_callVi 16 mi_X9_memoPlace ml_X9_129 dX9_mayGo_13 (Nat.le_trans (by decide) hd) s7 k_l0.1 rfl rfl (Nat.le_of_ble_eq_true rfl) rfl ?_
  have k_l0 := k_l0.ext s7.1
  have k3 := k3.ext s7.1
  refine SF_istore [(5, .int v4), (4, rv X (gR g b1 10)), (0, .ref (ad X l0)), (1, .int l1), (2, .int l2), (3, .int l3)] 18 dX9_mayGo_16 (by decide) (by simp [rv_cat]) rfl ?_
  refine SF_qload 1 20 dX9_mayGo_18 rfl rfl ?_
  refine SF_ifnull 28 23 dX9_mayGo_20 rfl rfl (fun c8 => ?_) (fun c8 => ?_)
  · have h := ite_t c8 h
    refine SF_iconst (1 : Int32) 29 dX9_mayGo_28 rfl rfl ?_
    exact RT_b rfl rfl dX9_mayGo_29 h
  · have h := ite_f c8 h
    refine SF_iload 0 25 dX9_mayGo_23 rfl rfl ?_
    refine SF_ifge 30 28 dX9_mayGo_25 rfl rfl (fun c9 => ?_) (fun c9 => ?_)
    · have h := ite_t c9 h
      refine SF_aload_n 2 31 dX9_mayGo_30 rfl rfl rfl ?_
      obtain ⟨b10, r11, h⟩ := dr_some h
      refine SF_getR 34 fl_X9_19 dX9_mayGo_31 k_l0.1 r11 rfl ?_
      refine SF_iload 0 36 dX9_mayGo_34 rfl rfl ?_
      obtain ⟨k12, h⟩ := gdK_some h
      obtain ⟨i13, h⟩ := gdI_some h
      refine SF_iald 37 dX9_mayGo_36 k12.1 i13 rfl ?_
      refine SF_aload_n 2 38 dX9_mayGo_37 rfl rfl rfl ?_
      refine SF_getI 41 fl_X9_84 dX9_mayGo_38 k_l0.1 rfl ?_
      refine SF_iceq 72 44 dX9_mayGo_41 rfl rfl (fun c14 => ?_) (fun c14 => ?_)
      · have h := ite_t c14 h
        refine SF_sub [2, 0] rfl ?_
        exact w_X9_mayGo_72 hd l0 v4 g5 k_l0 h
      · have h := ite_f c14 h
        refine SF_aload_n 2 45 dX9_mayGo_44 rfl rfl rfl ?_
        refine SF_getR 48 fl_X9_19 dX9_mayGo_45 k_l0.1 r11 rfl ?_
        refine SF_iload 0 50 dX9_mayGo_48 rfl rfl ?_
        refine SF_aload_n 2 51 dX9_mayGo_50 rfl rfl rfl ?_
        refine SF_getI 54 fl_X9_84 dX9_mayGo_51 k_l0.1 rfl ?_
        refine SF_iast 55 dX9_mayGo_54 k12.1 i13 rfl ?_
        obtain ⟨g15, e16, h⟩ := lg_some h
        rw [← e16]
        have k_l0 := KD.eq e16 k_l0
        have k3 := KD.eq e16 k3
        have k12 := KD.eq e16 k12
        have r11 := gR_eq e16 r11
        have i13 := vp_eq e16 i13
        refine SF_aload_n 2 56 dX9_mayGo_55 rfl rfl rfl ?_
        obtain ⟨b17, r18, h⟩ := dr_some h
        refine SF_getR 59 fl_X9_22 dX9_mayGo_56 k_l0.1 r18 rfl ?_
        refine SF_iload 0 61 dX9_mayGo_59 rfl rfl ?_
        refine SF_aload_n 2 62 dX9_mayGo_61 rfl rfl rfl ?_
        refine SF_qload 1 64 dX9_mayGo_62 rfl rfl ?_
        refine SF_iload_n 3 65 dX9_mayGo_64 rfl rfl rfl ?_
        refine SF_iload_n 4 66 dX9_mayGo_65 rfl rfl rfl ?_
        refine SF_iload_n 5 67 dX9_mayGo_66 rfl rfl rfl ?_
        obtain ⟨b19, r20, h⟩ := dr_some h
        rw [r20]
        obtain ⟨k21, h⟩ := gdK_some h
        obtain ⟨v22, g23, q24, h⟩ := bd_some h
        have s25 := w_X9_lawTells (X := X) (Nat.le_refl 1) l0 b19 l1 l2 l3 g15 g23 v22 k_l0 k21 q24
        refine SF_callVl 70 mi_X9_lawTells ml_X9_132 dX9_mayGo_67 (Nat.le_trans (by decide) hd) s25 k_l0.1 rfl rfl (Nat.le_of_ble_eq_true rfl) rfl ?_
        have k_l0 := k_l0.ext s25.1
        have k3 := k3.ext s25.1
        have k12 := k12.ext s25.1
        have k21 := k21.ext s25.1
        refine SF_l2i 71 dX9_mayGo_70 rfl ?_
        obtain ⟨k26, h⟩ := gdK_some h
        obtain ⟨i27, h⟩ := gdI_some h
        refine SF_iast 72 dX9_mayGo_71 k26.1 i27 rfl ?_
        obtain ⟨g28, e29, h⟩ := lg_some h
        rw [← e29]
        have k_l0 := KD.eq e29 k_l0
        have k3 := KD.eq e29 k3
        have k12 := KD.eq e29 k12
        have k21 := KD.eq e29 k21
        have k26 := KD.eq e29 k26
        have i27 := vp_eq e29 i27
        refine SF_sub [2, 0] rfl ?_
        exact w_X9_mayGo_72 hd l0 v4 g28 k_l0 h
    · have h := ite_f c9 h
      refine SF_iconst (1 : Int32) 29 dX9_mayGo_28 rfl rfl ?_
      exact RT_b rfl rfl dX9_mayGo_29 h

theorem dX9_ring_0 : decode cX9_ring 0 = .ok (.iload_n 1, 1) := by decide +kernel
theorem dX9_ring_1 : decode cX9_ring 1 = .ok (.ifCond .lt 19, 3) := by decide +kernel
theorem dX9_ring_4 : decode cX9_ring 4 = .ok (.iload_n 1, 1) := by decide +kernel
theorem dX9_ring_5 : decode cX9_ring 5 = .ok (.bipush 10, 2) := by decide +kernel
theorem dX9_ring_7 : decode cX9_ring 7 = .ok (.if_icmp .gt 13, 3) := by decide +kernel
theorem dX9_ring_10 : decode cX9_ring 10 = .ok (.iload_n 2, 1) := by decide +kernel
theorem dX9_ring_11 : decode cX9_ring 11 = .ok (.ifCond .lt 9, 3) := by decide +kernel
theorem dX9_ring_14 : decode cX9_ring 14 = .ok (.iload_n 2, 1) := by decide +kernel
theorem dX9_ring_15 : decode cX9_ring 15 = .ok (.bipush 36, 2) := by decide +kernel
theorem dX9_ring_17 : decode cX9_ring 17 = .ok (.if_icmp .lt 5, 3) := by decide +kernel
theorem dX9_ring_20 : decode cX9_ring 20 = .ok (.lconst 0, 1) := by decide +kernel
theorem dX9_ring_21 : decode cX9_ring 21 = .ok (.lreturn, 1) := by decide +kernel
theorem dX9_ring_22 : decode cX9_ring 22 = .ok (.aload_n 0, 1) := by decide +kernel
theorem dX9_ring_23 : decode cX9_ring 23 = .ok (.getfield 15, 3) := by decide +kernel
theorem dX9_ring_26 : decode cX9_ring 26 = .ok (.iload_n 1, 1) := by decide +kernel
theorem dX9_ring_27 : decode cX9_ring 27 = .ok (.bipush 36, 2) := by decide +kernel
theorem dX9_ring_29 : decode cX9_ring 29 = .ok (.imul, 1) := by decide +kernel
theorem dX9_ring_30 : decode cX9_ring 30 = .ok (.iload_n 2, 1) := by decide +kernel
theorem dX9_ring_31 : decode cX9_ring 31 = .ok (.iadd, 1) := by decide +kernel
theorem dX9_ring_32 : decode cX9_ring 32 = .ok (.laload, 1) := by decide +kernel
theorem dX9_ring_33 : decode cX9_ring 33 = .ok (.lreturn, 1) := by decide +kernel
set_option maxRecDepth 20000 in
set_option maxHeartbeats 2000000 in
theorem w_X9_ring {X : CX} {d : Nat} (hd : 0 ≤ d) (l0 : Nat) (l1 : Int32) (l2 : Int32) (g g' : G) (rx : Int64) (k_l0 : KD g l0 9) (h : f_X9_ring l0 l1 l2 g = some (rx, g')) : Sem X m_X9_ring d [.ref (ad X l0), .int l1, .int l2] g (some (.long rx)) g' := by
  refine Sem_of (lo := [(0, .ref (ad X l0)), (1, .int l1), (2, .int l2)]) (by decide +kernel) rfl (Nat.le_of_ble_eq_true rfl) ?_
  rw [f_X9_ring] at h
  refine SF_iload_n 1 1 dX9_ring_0 rfl rfl rfl ?_
  refine SF_iflt 20 4 dX9_ring_1 rfl rfl (fun c1 => ?_) (fun c1 => ?_)
  · have h := ite_t c1 h
    refine SF_lconst (0 : Int64) 21 dX9_ring_20 rfl rfl ?_
    exact RT_l rfl dX9_ring_21 h
  · have h := ite_f c1 h
    refine SF_iload_n 1 5 dX9_ring_4 rfl rfl rfl ?_
    refine SF_bipush (10 : Int32) 7 dX9_ring_5 rfl rfl ?_
    refine SF_icgt 20 10 dX9_ring_7 rfl rfl (fun c2 => ?_) (fun c2 => ?_)
    · have h := ite_t c2 h
      refine SF_lconst (0 : Int64) 21 dX9_ring_20 rfl rfl ?_
      exact RT_l rfl dX9_ring_21 h
    · have h := ite_f c2 h
      refine SF_iload_n 2 11 dX9_ring_10 rfl rfl rfl ?_
      refine SF_iflt 20 14 dX9_ring_11 rfl rfl (fun c3 => ?_) (fun c3 => ?_)
      · have h := ite_t c3 h
        refine SF_lconst (0 : Int64) 21 dX9_ring_20 rfl rfl ?_
        exact RT_l rfl dX9_ring_21 h
      · have h := ite_f c3 h
        refine SF_iload_n 2 15 dX9_ring_14 rfl rfl rfl ?_
        refine SF_bipush (36 : Int32) 17 dX9_ring_15 rfl rfl ?_
        refine SF_iclt 22 20 dX9_ring_17 rfl rfl (fun c4 => ?_) (fun c4 => ?_)
        · have h := ite_t c4 h
          refine SF_aload_n 0 23 dX9_ring_22 rfl rfl rfl ?_
          obtain ⟨b5, r6, h⟩ := dr_some h
          refine SF_getR 26 fl_X9_15 dX9_ring_23 k_l0.1 r6 rfl ?_
          refine SF_iload_n 1 27 dX9_ring_26 rfl rfl rfl ?_
          refine SF_bipush (36 : Int32) 29 dX9_ring_27 rfl rfl ?_
          refine SF_imul 30 dX9_ring_29 rfl ?_
          refine SF_iload_n 2 31 dX9_ring_30 rfl rfl rfl ?_
          refine SF_iadd 32 dX9_ring_31 rfl ?_
          obtain ⟨k7, h⟩ := gdK_some h
          obtain ⟨i8, h⟩ := gdI_some h
          refine SF_lald 33 dX9_ring_32 k7.1 i8 rfl ?_
          exact RT_l rfl dX9_ring_33 h
        · have h := ite_f c4 h
          refine SF_lconst (0 : Int64) 21 dX9_ring_20 rfl rfl ?_
          exact RT_l rfl dX9_ring_21 h

theorem dJ13_bitCount_95d88_0 : decode cJ13_bitCount_95d88 0 = .ok (.lload_n 0, 1) := by decide +kernel
theorem dJ13_bitCount_95d88_1 : decode cJ13_bitCount_95d88 1 = .ok (.lload_n 0, 1) := by decide +kernel
theorem dJ13_bitCount_95d88_2 : decode cJ13_bitCount_95d88 2 = .ok (.iconst 1, 1) := by decide +kernel
theorem dJ13_bitCount_95d88_3 : decode cJ13_bitCount_95d88 3 = .ok (.lushr, 1) := by decide +kernel
theorem dJ13_bitCount_95d88_4 : decode cJ13_bitCount_95d88 4 = .ok (.ldc2_w 314, 3) := by decide +kernel
theorem dJ13_bitCount_95d88_7 : decode cJ13_bitCount_95d88 7 = .ok (.land, 1) := by decide +kernel
theorem dJ13_bitCount_95d88_8 : decode cJ13_bitCount_95d88 8 = .ok (.lsub, 1) := by decide +kernel
theorem dJ13_bitCount_95d88_9 : decode cJ13_bitCount_95d88 9 = .ok (.lstore_n 0, 1) := by decide +kernel
theorem dJ13_bitCount_95d88_10 : decode cJ13_bitCount_95d88 10 = .ok (.lload_n 0, 1) := by decide +kernel
theorem dJ13_bitCount_95d88_11 : decode cJ13_bitCount_95d88 11 = .ok (.ldc2_w 316, 3) := by decide +kernel
theorem dJ13_bitCount_95d88_14 : decode cJ13_bitCount_95d88 14 = .ok (.land, 1) := by decide +kernel
theorem dJ13_bitCount_95d88_15 : decode cJ13_bitCount_95d88 15 = .ok (.lload_n 0, 1) := by decide +kernel
theorem dJ13_bitCount_95d88_16 : decode cJ13_bitCount_95d88 16 = .ok (.iconst 2, 1) := by decide +kernel
theorem dJ13_bitCount_95d88_17 : decode cJ13_bitCount_95d88 17 = .ok (.lushr, 1) := by decide +kernel
theorem dJ13_bitCount_95d88_18 : decode cJ13_bitCount_95d88 18 = .ok (.ldc2_w 316, 3) := by decide +kernel
theorem dJ13_bitCount_95d88_21 : decode cJ13_bitCount_95d88 21 = .ok (.land, 1) := by decide +kernel
theorem dJ13_bitCount_95d88_22 : decode cJ13_bitCount_95d88 22 = .ok (.ladd, 1) := by decide +kernel
theorem dJ13_bitCount_95d88_23 : decode cJ13_bitCount_95d88 23 = .ok (.lstore_n 0, 1) := by decide +kernel
theorem dJ13_bitCount_95d88_24 : decode cJ13_bitCount_95d88 24 = .ok (.lload_n 0, 1) := by decide +kernel
theorem dJ13_bitCount_95d88_25 : decode cJ13_bitCount_95d88 25 = .ok (.lload_n 0, 1) := by decide +kernel
theorem dJ13_bitCount_95d88_26 : decode cJ13_bitCount_95d88 26 = .ok (.iconst 4, 1) := by decide +kernel
theorem dJ13_bitCount_95d88_27 : decode cJ13_bitCount_95d88 27 = .ok (.lushr, 1) := by decide +kernel
theorem dJ13_bitCount_95d88_28 : decode cJ13_bitCount_95d88 28 = .ok (.ladd, 1) := by decide +kernel
theorem dJ13_bitCount_95d88_29 : decode cJ13_bitCount_95d88 29 = .ok (.ldc2_w 318, 3) := by decide +kernel
theorem dJ13_bitCount_95d88_32 : decode cJ13_bitCount_95d88 32 = .ok (.land, 1) := by decide +kernel
theorem dJ13_bitCount_95d88_33 : decode cJ13_bitCount_95d88 33 = .ok (.lstore_n 0, 1) := by decide +kernel
theorem dJ13_bitCount_95d88_34 : decode cJ13_bitCount_95d88 34 = .ok (.lload_n 0, 1) := by decide +kernel
theorem dJ13_bitCount_95d88_35 : decode cJ13_bitCount_95d88 35 = .ok (.lload_n 0, 1) := by decide +kernel
theorem dJ13_bitCount_95d88_36 : decode cJ13_bitCount_95d88 36 = .ok (.bipush 8, 2) := by decide +kernel
theorem dJ13_bitCount_95d88_38 : decode cJ13_bitCount_95d88 38 = .ok (.lushr, 1) := by decide +kernel
theorem dJ13_bitCount_95d88_39 : decode cJ13_bitCount_95d88 39 = .ok (.ladd, 1) := by decide +kernel
theorem dJ13_bitCount_95d88_40 : decode cJ13_bitCount_95d88 40 = .ok (.lstore_n 0, 1) := by decide +kernel
theorem dJ13_bitCount_95d88_41 : decode cJ13_bitCount_95d88 41 = .ok (.lload_n 0, 1) := by decide +kernel
theorem dJ13_bitCount_95d88_42 : decode cJ13_bitCount_95d88 42 = .ok (.lload_n 0, 1) := by decide +kernel
theorem dJ13_bitCount_95d88_43 : decode cJ13_bitCount_95d88 43 = .ok (.bipush 16, 2) := by decide +kernel
theorem dJ13_bitCount_95d88_45 : decode cJ13_bitCount_95d88 45 = .ok (.lushr, 1) := by decide +kernel
theorem dJ13_bitCount_95d88_46 : decode cJ13_bitCount_95d88 46 = .ok (.ladd, 1) := by decide +kernel
theorem dJ13_bitCount_95d88_47 : decode cJ13_bitCount_95d88 47 = .ok (.lstore_n 0, 1) := by decide +kernel
theorem dJ13_bitCount_95d88_48 : decode cJ13_bitCount_95d88 48 = .ok (.lload_n 0, 1) := by decide +kernel
theorem dJ13_bitCount_95d88_49 : decode cJ13_bitCount_95d88 49 = .ok (.lload_n 0, 1) := by decide +kernel
theorem dJ13_bitCount_95d88_50 : decode cJ13_bitCount_95d88 50 = .ok (.bipush 32, 2) := by decide +kernel
theorem dJ13_bitCount_95d88_52 : decode cJ13_bitCount_95d88 52 = .ok (.lushr, 1) := by decide +kernel
theorem dJ13_bitCount_95d88_53 : decode cJ13_bitCount_95d88 53 = .ok (.ladd, 1) := by decide +kernel
theorem dJ13_bitCount_95d88_54 : decode cJ13_bitCount_95d88 54 = .ok (.lstore_n 0, 1) := by decide +kernel
theorem dJ13_bitCount_95d88_55 : decode cJ13_bitCount_95d88 55 = .ok (.lload_n 0, 1) := by decide +kernel
theorem dJ13_bitCount_95d88_56 : decode cJ13_bitCount_95d88 56 = .ok (.l2i, 1) := by decide +kernel
theorem dJ13_bitCount_95d88_57 : decode cJ13_bitCount_95d88 57 = .ok (.bipush 127, 2) := by decide +kernel
theorem dJ13_bitCount_95d88_59 : decode cJ13_bitCount_95d88 59 = .ok (.iand, 1) := by decide +kernel
theorem dJ13_bitCount_95d88_60 : decode cJ13_bitCount_95d88 60 = .ok (.ireturn, 1) := by decide +kernel
set_option maxRecDepth 20000 in
set_option maxHeartbeats 2000000 in
theorem w_J13_bitCount_95d88 {X : CX} {d : Nat} (hd : 0 ≤ d) (l0 : Int64) (g g' : G) (rx : Int32) (h : f_J13_bitCount_95d88 l0 g = some (rx, g')) : Sem X m_J13_bitCount_95d88 d [.long l0] g (some (.int rx)) g' := by
  refine Sem_ofF (lo := [(0, .long l0)]) (by decide +kernel) rfl (Nat.le_of_ble_eq_true rfl) ?_
  rw [f_J13_bitCount_95d88] at h
  refine SF_lload_n 0 1 dJ13_bitCount_95d88_0 rfl rfl rfl ?_
  refine SF_lload_n 0 2 dJ13_bitCount_95d88_1 rfl rfl rfl ?_
  refine SF_iconst (1 : Int32) 3 dJ13_bitCount_95d88_2 rfl rfl ?_
  refine SF_lushr 4 dJ13_bitCount_95d88_3 rfl ?_
  refine SF_ldc2 7 dJ13_bitCount_95d88_4 kl_J13_314 rfl ?_
  refine SF_land 8 dJ13_bitCount_95d88_7 rfl ?_
  refine SF_lsub 9 dJ13_bitCount_95d88_8 rfl ?_
  obtain ⟨y1, e2, h⟩ := ll_some h
  refine SF_eqL e2 ?_
  refine SF_lstore_n [(0, .long y1)] 10 dJ13_bitCount_95d88_9 rfl (by decide) rfl rfl ?_
  refine SF_lload_n 0 11 dJ13_bitCount_95d88_10 rfl rfl rfl ?_
  refine SF_ldc2 14 dJ13_bitCount_95d88_11 kl_J13_316 rfl ?_
  refine SF_land 15 dJ13_bitCount_95d88_14 rfl ?_
  refine SF_lload_n 0 16 dJ13_bitCount_95d88_15 rfl rfl rfl ?_
  refine SF_iconst (2 : Int32) 17 dJ13_bitCount_95d88_16 rfl rfl ?_
  refine SF_lushr 18 dJ13_bitCount_95d88_17 rfl ?_
  refine SF_ldc2 21 dJ13_bitCount_95d88_18 kl_J13_316 rfl ?_
  refine SF_land 22 dJ13_bitCount_95d88_21 rfl ?_
  refine SF_ladd 23 dJ13_bitCount_95d88_22 rfl ?_
  obtain ⟨y3, e4, h⟩ := ll_some h
  refine SF_eqL e4 ?_
  refine SF_lstore_n [(0, .long y3)] 24 dJ13_bitCount_95d88_23 rfl (by decide) rfl rfl ?_
  refine SF_lload_n 0 25 dJ13_bitCount_95d88_24 rfl rfl rfl ?_
  refine SF_lload_n 0 26 dJ13_bitCount_95d88_25 rfl rfl rfl ?_
  refine SF_iconst (4 : Int32) 27 dJ13_bitCount_95d88_26 rfl rfl ?_
  refine SF_lushr 28 dJ13_bitCount_95d88_27 rfl ?_
  refine SF_ladd 29 dJ13_bitCount_95d88_28 rfl ?_
  refine SF_ldc2 32 dJ13_bitCount_95d88_29 kl_J13_318 rfl ?_
  refine SF_land 33 dJ13_bitCount_95d88_32 rfl ?_
  obtain ⟨y5, e6, h⟩ := ll_some h
  refine SF_eqL e6 ?_
  refine SF_lstore_n [(0, .long y5)] 34 dJ13_bitCount_95d88_33 rfl (by decide) rfl rfl ?_
  refine SF_lload_n 0 35 dJ13_bitCount_95d88_34 rfl rfl rfl ?_
  refine SF_lload_n 0 36 dJ13_bitCount_95d88_35 rfl rfl rfl ?_
  refine SF_bipush (8 : Int32) 38 dJ13_bitCount_95d88_36 rfl rfl ?_
  refine SF_lushr 39 dJ13_bitCount_95d88_38 rfl ?_
  refine SF_ladd 40 dJ13_bitCount_95d88_39 rfl ?_
  obtain ⟨y7, e8, h⟩ := ll_some h
  refine SF_eqL e8 ?_
  refine SF_lstore_n [(0, .long y7)] 41 dJ13_bitCount_95d88_40 rfl (by decide) rfl rfl ?_
  refine SF_lload_n 0 42 dJ13_bitCount_95d88_41 rfl rfl rfl ?_
  refine SF_lload_n 0 43 dJ13_bitCount_95d88_42 rfl rfl rfl ?_
  refine SF_bipush (16 : Int32) 45 dJ13_bitCount_95d88_43 rfl rfl ?_
  refine SF_lushr 46 dJ13_bitCount_95d88_45 rfl ?_
  refine SF_ladd 47 dJ13_bitCount_95d88_46 rfl ?_
  obtain ⟨y9, e10, h⟩ := ll_some h
  refine SF_eqL e10 ?_
  refine SF_lstore_n [(0, .long y9)] 48 dJ13_bitCount_95d88_47 rfl (by decide) rfl rfl ?_
  refine SF_lload_n 0 49 dJ13_bitCount_95d88_48 rfl rfl rfl ?_
  refine SF_lload_n 0 50 dJ13_bitCount_95d88_49 rfl rfl rfl ?_
  refine SF_bipush (32 : Int32) 52 dJ13_bitCount_95d88_50 rfl rfl ?_
  refine SF_lushr 53 dJ13_bitCount_95d88_52 rfl ?_
  refine SF_ladd 54 dJ13_bitCount_95d88_53 rfl ?_
  obtain ⟨y11, e12, h⟩ := ll_some h
  refine SF_eqL e12 ?_
  refine SF_lstore_n [(0, .long y11)] 55 dJ13_bitCount_95d88_54 rfl (by decide) rfl rfl ?_
  refine SF_lload_n 0 56 dJ13_bitCount_95d88_55 rfl rfl rfl ?_
  refine SF_l2i 57 dJ13_bitCount_95d88_56 rfl ?_
  refine SF_bipush (127 : Int32) 59 dJ13_bitCount_95d88_57 rfl rfl ?_
  refine SF_iand 60 dJ13_bitCount_95d88_59 rfl ?_
  exact RT_i rfl dJ13_bitCount_95d88_60 h

theorem dX9_drawnTo_0 : decode cX9_drawnTo 0 = .ok (.aload_n 0, 1) := by decide +kernel
theorem dX9_drawnTo_1 : decode cX9_drawnTo 1 = .ok (.aload_n 0, 1) := by decide +kernel
theorem dX9_drawnTo_2 : decode cX9_drawnTo 2 = .ok (.getfield 56, 3) := by decide +kernel
theorem dX9_drawnTo_5 : decode cX9_drawnTo 5 = .ok (.iload_n 3, 1) := by decide +kernel
theorem dX9_drawnTo_6 : decode cX9_drawnTo 6 = .ok (.invokevirtual 111, 3) := by decide +kernel
theorem dX9_drawnTo_9 : decode cX9_drawnTo 9 = .ok (.aload_n 0, 1) := by decide +kernel
theorem dX9_drawnTo_10 : decode cX9_drawnTo 10 = .ok (.getfield 49, 3) := by decide +kernel
theorem dX9_drawnTo_13 : decode cX9_drawnTo 13 = .ok (.land, 1) := by decide +kernel
theorem dX9_drawnTo_14 : decode cX9_drawnTo 14 = .ok (.lstore 4, 2) := by decide +kernel
theorem dX9_drawnTo_16 : decode cX9_drawnTo 16 = .ok (.lload 4, 2) := by decide +kernel
theorem dX9_drawnTo_18 : decode cX9_drawnTo 18 = .ok (.iload_n 2, 1) := by decide +kernel
theorem dX9_drawnTo_19 : decode cX9_drawnTo 19 = .ok (.lushr, 1) := by decide +kernel
theorem dX9_drawnTo_20 : decode cX9_drawnTo 20 = .ok (.lconst 1, 1) := by decide +kernel
theorem dX9_drawnTo_21 : decode cX9_drawnTo 21 = .ok (.land, 1) := by decide +kernel
theorem dX9_drawnTo_22 : decode cX9_drawnTo 22 = .ok (.lconst 0, 1) := by decide +kernel
theorem dX9_drawnTo_23 : decode cX9_drawnTo 23 = .ok (.lcmp, 1) := by decide +kernel
theorem dX9_drawnTo_24 : decode cX9_drawnTo 24 = .ok (.ifCond .eq 5, 3) := by decide +kernel
theorem dX9_drawnTo_27 : decode cX9_drawnTo 27 = .ok (.iload_n 2, 1) := by decide +kernel
theorem dX9_drawnTo_28 : decode cX9_drawnTo 28 = .ok (.ireturn, 1) := by decide +kernel
theorem dX9_drawnTo_29 : decode cX9_drawnTo 29 = .ok (.iconst 1, 1) := by decide +kernel
theorem dX9_drawnTo_30 : decode cX9_drawnTo 30 = .ok (.istore 6, 2) := by decide +kernel
theorem dX9_drawnTo_32 : decode cX9_drawnTo 32 = .ok (.iload 6, 2) := by decide +kernel
theorem dX9_drawnTo_34 : decode cX9_drawnTo 34 = .ok (.bipush 10, 2) := by decide +kernel
theorem dX9_drawnTo_36 : decode cX9_drawnTo 36 = .ok (.if_icmp .gt 98, 3) := by decide +kernel
theorem dX9_drawnTo_39 : decode cX9_drawnTo 39 = .ok (.lload 4, 2) := by decide +kernel
theorem dX9_drawnTo_41 : decode cX9_drawnTo 41 = .ok (.lconst 0, 1) := by decide +kernel
theorem dX9_drawnTo_42 : decode cX9_drawnTo 42 = .ok (.lcmp, 1) := by decide +kernel
theorem dX9_drawnTo_43 : decode cX9_drawnTo 43 = .ok (.ifCond .eq 91, 3) := by decide +kernel
theorem dX9_drawnTo_46 : decode cX9_drawnTo 46 = .ok (.aload_n 0, 1) := by decide +kernel
theorem dX9_drawnTo_47 : decode cX9_drawnTo 47 = .ok (.iload 6, 2) := by decide +kernel
theorem dX9_drawnTo_49 : decode cX9_drawnTo 49 = .ok (.iload_n 2, 1) := by decide +kernel
theorem dX9_drawnTo_50 : decode cX9_drawnTo 50 = .ok (.invokevirtual 111, 3) := by decide +kernel
theorem dX9_drawnTo_53 : decode cX9_drawnTo 53 = .ok (.lload 4, 2) := by decide +kernel
theorem dX9_drawnTo_55 : decode cX9_drawnTo 55 = .ok (.land, 1) := by decide +kernel
theorem dX9_drawnTo_56 : decode cX9_drawnTo 56 = .ok (.lstore 7, 2) := by decide +kernel
theorem dX9_drawnTo_58 : decode cX9_drawnTo 58 = .ok (.lload 4, 2) := by decide +kernel
theorem dX9_drawnTo_60 : decode cX9_drawnTo 60 = .ok (.lload 7, 2) := by decide +kernel
theorem dX9_drawnTo_62 : decode cX9_drawnTo 62 = .ok (.ldc2_w 115, 3) := by decide +kernel
theorem dX9_drawnTo_65 : decode cX9_drawnTo 65 = .ok (.lxor, 1) := by decide +kernel
theorem dX9_drawnTo_66 : decode cX9_drawnTo 66 = .ok (.land, 1) := by decide +kernel
theorem dX9_drawnTo_67 : decode cX9_drawnTo 67 = .ok (.lstore 4, 2) := by decide +kernel
theorem dX9_drawnTo_69 : decode cX9_drawnTo 69 = .ok (.iconst 0, 1) := by decide +kernel
theorem dX9_drawnTo_70 : decode cX9_drawnTo 70 = .ok (.istore 9, 2) := by decide +kernel
theorem dX9_drawnTo_72 : decode cX9_drawnTo 72 = .ok (.iload 9, 2) := by decide +kernel
theorem dX9_drawnTo_74 : decode cX9_drawnTo 74 = .ok (.bipush 36, 2) := by decide +kernel
theorem dX9_drawnTo_76 : decode cX9_drawnTo 76 = .ok (.if_icmp .ge 52, 3) := by decide +kernel
theorem dX9_drawnTo_79 : decode cX9_drawnTo 79 = .ok (.lload 7, 2) := by decide +kernel
theorem dX9_drawnTo_81 : decode cX9_drawnTo 81 = .ok (.lconst 0, 1) := by decide +kernel
theorem dX9_drawnTo_82 : decode cX9_drawnTo 82 = .ok (.lcmp, 1) := by decide +kernel
theorem dX9_drawnTo_83 : decode cX9_drawnTo 83 = .ok (.ifCond .eq 45, 3) := by decide +kernel
theorem dX9_drawnTo_86 : decode cX9_drawnTo 86 = .ok (.lload 7, 2) := by decide +kernel
theorem dX9_drawnTo_88 : decode cX9_drawnTo 88 = .ok (.lload 7, 2) := by decide +kernel
theorem dX9_drawnTo_90 : decode cX9_drawnTo 90 = .ok (.lneg, 1) := by decide +kernel
theorem dX9_drawnTo_91 : decode cX9_drawnTo 91 = .ok (.land, 1) := by decide +kernel
theorem dX9_drawnTo_92 : decode cX9_drawnTo 92 = .ok (.lconst 1, 1) := by decide +kernel
theorem dX9_drawnTo_93 : decode cX9_drawnTo 93 = .ok (.lsub, 1) := by decide +kernel
theorem dX9_drawnTo_94 : decode cX9_drawnTo 94 = .ok (.invokestatic 117, 3) := by decide +kernel
theorem dX9_drawnTo_97 : decode cX9_drawnTo 97 = .ok (.istore 10, 2) := by decide +kernel
theorem dX9_drawnTo_99 : decode cX9_drawnTo 99 = .ok (.aload_n 0, 1) := by decide +kernel
theorem dX9_drawnTo_100 : decode cX9_drawnTo 100 = .ok (.iload_n 1, 1) := by decide +kernel
theorem dX9_drawnTo_101 : decode cX9_drawnTo 101 = .ok (.iload_n 2, 1) := by decide +kernel
theorem dX9_drawnTo_102 : decode cX9_drawnTo 102 = .ok (.iload 10, 2) := by decide +kernel
theorem dX9_drawnTo_104 : decode cX9_drawnTo 104 = .ok (.invokevirtual 103, 3) := by decide +kernel
theorem dX9_drawnTo_107 : decode cX9_drawnTo 107 = .ok (.ifCond .eq 6, 3) := by decide +kernel
theorem dX9_drawnTo_110 : decode cX9_drawnTo 110 = .ok (.iload 10, 2) := by decide +kernel
theorem dX9_drawnTo_112 : decode cX9_drawnTo 112 = .ok (.ireturn, 1) := by decide +kernel
theorem dX9_drawnTo_113 : decode cX9_drawnTo 113 = .ok (.lload 7, 2) := by decide +kernel
theorem dX9_drawnTo_115 : decode cX9_drawnTo 115 = .ok (.lload 7, 2) := by decide +kernel
theorem dX9_drawnTo_117 : decode cX9_drawnTo 117 = .ok (.lconst 1, 1) := by decide +kernel
theorem dX9_drawnTo_118 : decode cX9_drawnTo 118 = .ok (.lsub, 1) := by decide +kernel
theorem dX9_drawnTo_119 : decode cX9_drawnTo 119 = .ok (.land, 1) := by decide +kernel
theorem dX9_drawnTo_120 : decode cX9_drawnTo 120 = .ok (.lstore 7, 2) := by decide +kernel
theorem dX9_drawnTo_122 : decode cX9_drawnTo 122 = .ok (.iinc 9 1, 3) := by decide +kernel
theorem dX9_drawnTo_125 : decode cX9_drawnTo 125 = .ok (.goto (-53), 3) := by decide +kernel
theorem dX9_drawnTo_128 : decode cX9_drawnTo 128 = .ok (.iinc 6 1, 3) := by decide +kernel
theorem dX9_drawnTo_131 : decode cX9_drawnTo 131 = .ok (.goto (-99), 3) := by decide +kernel
theorem dX9_drawnTo_134 : decode cX9_drawnTo 134 = .ok (.iconst (-1), 1) := by decide +kernel
theorem dX9_drawnTo_135 : decode cX9_drawnTo 135 = .ok (.ireturn, 1) := by decide +kernel
set_option maxRecDepth 20000 in
set_option maxHeartbeats 2000000 in
theorem w_X9_drawnTo_128 {X : CX} {d : Nat} (hd : 3 ≤ d) {g' : G} {rx : Int32} (k32 : Nat → Int32 → Int32 → Int64 → Int32 → G → Option (Int32 × G)) (hk32 : ∀ (l0 : Nat) (l1 : Int32) (l2 : Int32) (l4 : Int64) (l6 : Int32) (g : G), KD g l0 9 → k32 l0 l1 l2 l4 l6 g = some (rx, g') → SemF X m_X9_drawnTo d 32 [(0, .ref (ad X l0)), (1, .int l1), (2, .int l2), (4, .long l4), (6, .int l6)] [] g (some (.int rx)) g') (l0 : Nat) (l1 : Int32) (l2 : Int32) (l4 : Int64) (l6 : Int32) (g : G) (k_l0 : KD g l0 9) (h : f_X9_drawnTo_128 k32 l0 l1 l2 l4 l6 g = some (rx, g')) : SemF X m_X9_drawnTo d 128 [(0, .ref (ad X l0)), (1, .int l1), (2, .int l2), (4, .long l4), (6, .int l6)] [] g (some (.int rx)) g' := by
  rw [f_X9_drawnTo_128] at h
  refine SF_iinc 4 (l6 + (1 : Int32)) [(6, .int (l6 + (1 : Int32))), (0, .ref (ad X l0)), (1, .int l1), (2, .int l2), (4, .long l4)] 131 dX9_drawnTo_128 rfl rfl (by decide) rfl rfl ?_
  refine SF_goto 32 dX9_drawnTo_131 rfl ?_
  refine SF_sub [1, 2, 3, 4, 0] rfl ?_
  exact hk32 l0 l1 l2 l4 (l6 + (1 : Int32)) g k_l0 h

set_option maxRecDepth 20000 in
set_option maxHeartbeats 2000000 in
theorem w_X9_drawnTo_72 {X : CX} {d : Nat} (hd : 3 ≤ d) {g' : G} {rx : Int32} (k32 : Nat → Int32 → Int32 → Int64 → Int32 → G → Option (Int32 × G)) (hk32 : ∀ (l0 : Nat) (l1 : Int32) (l2 : Int32) (l4 : Int64) (l6 : Int32) (g : G), KD g l0 9 → k32 l0 l1 l2 l4 l6 g = some (rx, g') → SemF X m_X9_drawnTo d 32 [(0, .ref (ad X l0)), (1, .int l1), (2, .int l2), (4, .long l4), (6, .int l6)] [] g (some (.int rx)) g') : ∀ (n : Nat) (l0 : Nat) (l1 : Int32) (l2 : Int32) (l4 : Int64) (l6 : Int32) (l7 : Int64) (l9 : Int32) (g : G), KD g l0 9 → f_X9_drawnTo_72 k32 n l0 l1 l2 l4 l6 l7 l9 g = some (rx, g') → SemF X m_X9_drawnTo d 72 [(0, .ref (ad X l0)), (1, .int l1), (2, .int l2), (4, .long l4), (6, .int l6), (7, .long l7), (9, .int l9)] [] g (some (.int rx)) g' := by
  intro n
  induction n with
  | zero =>
    intro l0 l1 l2 l4 l6 l7 l9 g k_l0 h
    rw [f_X9_drawnTo_72] at h
    cases h
  | succ n ih =>
  intro l0 l1 l2 l4 l6 l7 l9 g k_l0 h
  rw [f_X9_drawnTo_72] at h
  refine SF_iload 6 74 dX9_drawnTo_72 rfl rfl ?_
  refine SF_bipush (36 : Int32) 76 dX9_drawnTo_74 rfl rfl ?_
  refine SF_icge 128 79 dX9_drawnTo_76 rfl rfl (fun c1 => ?_) (fun c1 => ?_)
  · have h := ite_t c1 h
    refine SF_sub [0, 1, 2, 3, 4] rfl ?_
    exact w_X9_drawnTo_128 hd k32 hk32 l0 l1 l2 l4 l6 g k_l0 h
  · have h := ite_f c1 h
    refine SF_lload 5 81 dX9_drawnTo_79 rfl rfl ?_
    refine SF_lconst (0 : Int64) 82 dX9_drawnTo_81 rfl rfl ?_
    refine SF_lcmp 83 dX9_drawnTo_82 rfl ?_
    refine SF_ifeq 128 86 dX9_drawnTo_83 rfl rfl (fun c2 => ?_) (fun c2 => ?_)
    · have h := ite_t c2 h
      refine SF_sub [0, 1, 2, 3, 4] rfl ?_
      exact w_X9_drawnTo_128 hd k32 hk32 l0 l1 l2 l4 l6 g k_l0 h
    · have h := ite_f c2 h
      refine SF_lload 5 88 dX9_drawnTo_86 rfl rfl ?_
      refine SF_lload 5 90 dX9_drawnTo_88 rfl rfl ?_
      refine SF_lneg 91 dX9_drawnTo_90 rfl ?_
      refine SF_land 92 dX9_drawnTo_91 rfl ?_
      refine SF_lconst (1 : Int64) 93 dX9_drawnTo_92 rfl rfl ?_
      refine SF_lsub 94 dX9_drawnTo_93 rfl ?_
      obtain ⟨v3, g4, q5, h⟩ := bd_some h
      have s6 := w_J13_bitCount_95d88 (X := X) (Nat.le_refl 0) ((l7 &&& (-l7)) - (1 : Int64)) g g4 v3 q5
      refine SF_callSi 97 mi_J13_bitCount_95d88 ml_X9_117 dX9_drawnTo_94 (Nat.le_trans (by decide) hd) s6 rfl rfl (Nat.le_of_ble_eq_true rfl) rfl ?_
      have k_l0 := k_l0.ext s6.1
      refine SF_istore [(10, .int v3), (0, .ref (ad X l0)), (1, .int l1), (2, .int l2), (4, .long l4), (6, .int l6), (7, .long l7), (9, .int l9)] 99 dX9_drawnTo_97 (by decide) rfl rfl ?_
      refine SF_aload_n 1 100 dX9_drawnTo_99 rfl rfl rfl ?_
      refine SF_iload_n 2 101 dX9_drawnTo_100 rfl rfl rfl ?_
      refine SF_iload_n 3 102 dX9_drawnTo_101 rfl rfl rfl ?_
      refine SF_iload 0 104 dX9_drawnTo_102 rfl rfl ?_
      obtain ⟨v7, g8, q9, h⟩ := bd_some h
      have s10 := w_X9_mayGo (X := X) (Nat.le_refl 2) l0 l1 l2 v3 g4 g8 v7 k_l0 q9
      refine SF_callVb 107 mi_X9_mayGo ml_X9_103 dX9_drawnTo_104 (Nat.le_trans (by decide) hd) s10 k_l0.1 rfl rfl (Nat.le_of_ble_eq_true rfl) rfl ?_
      have k_l0 := k_l0.ext s10.1
      refine SF_ifeq 113 110 dX9_drawnTo_107 rfl rfl (fun c11 => ?_) (fun c11 => ?_)
      · have h := ite_t c11 h
        refine SF_lload 6 115 dX9_drawnTo_113 rfl rfl ?_
        refine SF_lload 6 117 dX9_drawnTo_115 rfl rfl ?_
        refine SF_lconst (1 : Int64) 118 dX9_drawnTo_117 rfl rfl ?_
        refine SF_lsub 119 dX9_drawnTo_118 rfl ?_
        refine SF_land 120 dX9_drawnTo_119 rfl ?_
        obtain ⟨y12, e13, h⟩ := ll_some h
        refine SF_eqL e13 ?_
        refine SF_lstore [(7, .long y12), (10, .int v3), (0, .ref (ad X l0)), (1, .int l1), (2, .int l2), (4, .long l4), (6, .int l6), (9, .int l9)] 122 dX9_drawnTo_120 (by decide) rfl rfl ?_
        refine SF_iinc 7 (l9 + (1 : Int32)) [(9, .int (l9 + (1 : Int32))), (7, .long y12), (10, .int v3), (0, .ref (ad X l0)), (1, .int l1), (2, .int l2), (4, .long l4), (6, .int l6)] 125 dX9_drawnTo_122 rfl rfl (by decide) rfl rfl ?_
        refine SF_goto 72 dX9_drawnTo_125 rfl ?_
        refine SF_sub [3, 4, 5, 6, 7, 1, 0] rfl ?_
        exact ih l0 l1 l2 l4 l6 y12 (l9 + (1 : Int32)) g8 k_l0 h
      · have h := ite_f c11 h
        refine SF_iload 0 112 dX9_drawnTo_110 rfl rfl ?_
        exact RT_i rfl dX9_drawnTo_112 h

set_option maxRecDepth 20000 in
set_option maxHeartbeats 2000000 in
theorem w_X9_drawnTo_32 {X : CX} {d : Nat} (hd : 3 ≤ d) {g' : G} {rx : Int32} : ∀ (n : Nat) (l0 : Nat) (l1 : Int32) (l2 : Int32) (l4 : Int64) (l6 : Int32) (g : G), KD g l0 9 → f_X9_drawnTo_32 n l0 l1 l2 l4 l6 g = some (rx, g') → SemF X m_X9_drawnTo d 32 [(0, .ref (ad X l0)), (1, .int l1), (2, .int l2), (4, .long l4), (6, .int l6)] [] g (some (.int rx)) g' := by
  intro n
  induction n with
  | zero =>
    intro l0 l1 l2 l4 l6 g k_l0 h
    rw [f_X9_drawnTo_32] at h
    cases h
  | succ n ih =>
  intro l0 l1 l2 l4 l6 g k_l0 h
  rw [f_X9_drawnTo_32] at h
  refine SF_iload 4 34 dX9_drawnTo_32 rfl rfl ?_
  refine SF_bipush (10 : Int32) 36 dX9_drawnTo_34 rfl rfl ?_
  refine SF_icgt 134 39 dX9_drawnTo_36 rfl rfl (fun c1 => ?_) (fun c1 => ?_)
  · have h := ite_t c1 h
    refine SF_iconst (-1 : Int32) 135 dX9_drawnTo_134 rfl rfl ?_
    exact RT_i rfl dX9_drawnTo_135 h
  · have h := ite_f c1 h
    refine SF_lload 3 41 dX9_drawnTo_39 rfl rfl ?_
    refine SF_lconst (0 : Int64) 42 dX9_drawnTo_41 rfl rfl ?_
    refine SF_lcmp 43 dX9_drawnTo_42 rfl ?_
    refine SF_ifeq 134 46 dX9_drawnTo_43 rfl rfl (fun c2 => ?_) (fun c2 => ?_)
    · have h := ite_t c2 h
      refine SF_iconst (-1 : Int32) 135 dX9_drawnTo_134 rfl rfl ?_
      exact RT_i rfl dX9_drawnTo_135 h
    · have h := ite_f c2 h
      refine SF_aload_n 0 47 dX9_drawnTo_46 rfl rfl rfl ?_
      refine SF_iload 4 49 dX9_drawnTo_47 rfl rfl ?_
      refine SF_iload_n 2 50 dX9_drawnTo_49 rfl rfl rfl ?_
      obtain ⟨v3, g4, q5, h⟩ := bd_some h
      have s6 := w_X9_ring (X := X) (Nat.le_refl 0) l0 l6 l2 g g4 v3 k_l0 q5
      refine SF_callVl 53 mi_X9_ring ml_X9_111 dX9_drawnTo_50 (Nat.le_trans (by decide) hd) s6 k_l0.1 rfl rfl (Nat.le_of_ble_eq_true rfl) rfl ?_
      have k_l0 := k_l0.ext s6.1
      refine SF_lload 3 55 dX9_drawnTo_53 rfl rfl ?_
      refine SF_land 56 dX9_drawnTo_55 rfl ?_
      obtain ⟨y7, e8, h⟩ := ll_some h
      refine SF_eqL e8 ?_
      refine SF_lstore [(7, .long y7), (0, .ref (ad X l0)), (1, .int l1), (2, .int l2), (4, .long l4), (6, .int l6)] 58 dX9_drawnTo_56 (by decide) rfl rfl ?_
      refine SF_lload 4 60 dX9_drawnTo_58 rfl rfl ?_
      refine SF_lload 0 62 dX9_drawnTo_60 rfl rfl ?_
      refine SF_ldc2 65 dX9_drawnTo_62 kl_X9_115 rfl ?_
      refine SF_lxor 66 dX9_drawnTo_65 rfl ?_
      refine SF_land 67 dX9_drawnTo_66 rfl ?_
      obtain ⟨y9, e10, h⟩ := ll_some h
      refine SF_eqL e10 ?_
      refine SF_lstore [(4, .long y9), (7, .long y7), (0, .ref (ad X l0)), (1, .int l1), (2, .int l2), (6, .int l6)] 69 dX9_drawnTo_67 (by decide) rfl rfl ?_
      refine SF_iconst (0 : Int32) 70 dX9_drawnTo_69 rfl rfl ?_
      refine SF_istore [(9, .int (0 : Int32)), (4, .long y9), (7, .long y7), (0, .ref (ad X l0)), (1, .int l1), (2, .int l2), (6, .int l6)] 72 dX9_drawnTo_70 (by decide) rfl rfl ?_
      refine SF_sub [3, 4, 5, 1, 6, 2, 0] rfl ?_
      exact w_X9_drawnTo_72 hd (f_X9_drawnTo_32 n) ih FU l0 l1 l2 y9 l6 y7 (0 : Int32) g4 k_l0 h

set_option maxRecDepth 20000 in
set_option maxHeartbeats 2000000 in
theorem w_X9_drawnTo {X : CX} {d : Nat} (hd : 3 ≤ d) (l0 : Nat) (l1 : Int32) (l2 : Int32) (l3 : Int32) (g g' : G) (rx : Int32) (k_l0 : KD g l0 9) (h : f_X9_drawnTo l0 l1 l2 l3 g = some (rx, g')) : Sem X m_X9_drawnTo d [.ref (ad X l0), .int l1, .int l2, .int l3] g (some (.int rx)) g' := by
  refine Sem_of (lo := [(0, .ref (ad X l0)), (1, .int l1), (2, .int l2), (3, .int l3)]) (by decide +kernel) rfl (Nat.le_of_ble_eq_true rfl) ?_
  rw [f_X9_drawnTo] at h
  refine SF_aload_n 0 1 dX9_drawnTo_0 rfl rfl rfl ?_
  refine SF_aload_n 0 2 dX9_drawnTo_1 rfl rfl rfl ?_
  refine SF_getI 5 fl_X9_56 dX9_drawnTo_2 k_l0.1 rfl ?_
  refine SF_iload_n 3 6 dX9_drawnTo_5 rfl rfl rfl ?_
  obtain ⟨v1, g2, q3, h⟩ := bd_some h
  have s4 := w_X9_ring (X := X) (Nat.le_refl 0) l0 (gI g l0 2) l3 g g2 v1 k_l0 q3
  refine SF_callVl 9 mi_X9_ring ml_X9_111 dX9_drawnTo_6 (Nat.le_trans (by decide) hd) s4 k_l0.1 rfl rfl (Nat.le_of_ble_eq_true rfl) rfl ?_
  have k_l0 := k_l0.ext s4.1
  refine SF_aload_n 0 10 dX9_drawnTo_9 rfl rfl rfl ?_
  refine SF_getL 13 fl_X9_49 dX9_drawnTo_10 k_l0.1 rfl ?_
  refine SF_land 14 dX9_drawnTo_13 rfl ?_
  obtain ⟨y5, e6, h⟩ := ll_some h
  refine SF_eqL e6 ?_
  refine SF_lstore [(4, .long y5), (0, .ref (ad X l0)), (1, .int l1), (2, .int l2), (3, .int l3)] 16 dX9_drawnTo_14 (by decide) rfl rfl ?_
  refine SF_lload 0 18 dX9_drawnTo_16 rfl rfl ?_
  refine SF_iload_n 3 19 dX9_drawnTo_18 rfl rfl rfl ?_
  refine SF_lushr 20 dX9_drawnTo_19 rfl ?_
  refine SF_lconst (1 : Int64) 21 dX9_drawnTo_20 rfl rfl ?_
  refine SF_land 22 dX9_drawnTo_21 rfl ?_
  refine SF_lconst (0 : Int64) 23 dX9_drawnTo_22 rfl rfl ?_
  refine SF_lcmp 24 dX9_drawnTo_23 rfl ?_
  refine SF_ifeq 29 27 dX9_drawnTo_24 rfl rfl (fun c7 => ?_) (fun c7 => ?_)
  · have h := ite_t c7 h
    refine SF_iconst (1 : Int32) 30 dX9_drawnTo_29 rfl rfl ?_
    refine SF_istore [(6, .int (1 : Int32)), (4, .long y5), (0, .ref (ad X l0)), (1, .int l1), (2, .int l2), (3, .int l3)] 32 dX9_drawnTo_30 (by decide) rfl rfl ?_
    refine SF_sub [2, 3, 4, 1, 0] rfl ?_
    exact w_X9_drawnTo_32 hd FU l0 l1 l2 y5 (1 : Int32) g2 k_l0 h
  · have h := ite_f c7 h
    refine SF_iload_n 3 28 dX9_drawnTo_27 rfl rfl rfl ?_
    exact RT_i rfl dX9_drawnTo_28 h

theorem dX9_step_0 : decode cX9_step 0 = .ok (.iload_n 2, 1) := by decide +kernel
theorem dX9_step_1 : decode cX9_step 1 = .ok (.ifCond .ne 10, 3) := by decide +kernel
theorem dX9_step_4 : decode cX9_step 4 = .ok (.iload_n 1, 1) := by decide +kernel
theorem dX9_step_5 : decode cX9_step 5 = .ok (.bipush 64, 2) := by decide +kernel
theorem dX9_step_7 : decode cX9_step 7 = .ok (.idiv, 1) := by decide +kernel
theorem dX9_step_8 : decode cX9_step 8 = .ok (.goto 7, 3) := by decide +kernel
theorem dX9_step_11 : decode cX9_step 11 = .ok (.iload_n 1, 1) := by decide +kernel
theorem dX9_step_12 : decode cX9_step 12 = .ok (.bipush 64, 2) := by decide +kernel
theorem dX9_step_14 : decode cX9_step 14 = .ok (.irem, 1) := by decide +kernel
theorem dX9_step_15 : decode cX9_step 15 = .ok (.istore 4, 2) := by decide +kernel
theorem dX9_step_17 : decode cX9_step 17 = .ok (.iload_n 2, 1) := by decide +kernel
theorem dX9_step_18 : decode cX9_step 18 = .ok (.ifCond .ne 10, 3) := by decide +kernel
theorem dX9_step_21 : decode cX9_step 21 = .ok (.iload_n 1, 1) := by decide +kernel
theorem dX9_step_22 : decode cX9_step 22 = .ok (.bipush 64, 2) := by decide +kernel
theorem dX9_step_24 : decode cX9_step 24 = .ok (.irem, 1) := by decide +kernel
theorem dX9_step_25 : decode cX9_step 25 = .ok (.goto 7, 3) := by decide +kernel
theorem dX9_step_28 : decode cX9_step 28 = .ok (.iload_n 1, 1) := by decide +kernel
theorem dX9_step_29 : decode cX9_step 29 = .ok (.bipush 64, 2) := by decide +kernel
theorem dX9_step_31 : decode cX9_step 31 = .ok (.idiv, 1) := by decide +kernel
theorem dX9_step_32 : decode cX9_step 32 = .ok (.istore 5, 2) := by decide +kernel
theorem dX9_step_34 : decode cX9_step 34 = .ok (.aload_n 0, 1) := by decide +kernel
theorem dX9_step_35 : decode cX9_step 35 = .ok (.getfield 34, 3) := by decide +kernel
theorem dX9_step_38 : decode cX9_step 38 = .ok (.iload 4, 2) := by decide +kernel
theorem dX9_step_40 : decode cX9_step 40 = .ok (.iload_n 3, 1) := by decide +kernel
theorem dX9_step_41 : decode cX9_step 41 = .ok (.invokevirtual 100, 3) := by decide +kernel
theorem dX9_step_44 : decode cX9_step 44 = .ok (.istore 6, 2) := by decide +kernel
theorem dX9_step_46 : decode cX9_step 46 = .ok (.iload 6, 2) := by decide +kernel
theorem dX9_step_48 : decode cX9_step 48 = .ok (.iconst (-1), 1) := by decide +kernel
theorem dX9_step_49 : decode cX9_step 49 = .ok (.if_icmp .eq 17, 3) := by decide +kernel
theorem dX9_step_52 : decode cX9_step 52 = .ok (.aload_n 0, 1) := by decide +kernel
theorem dX9_step_53 : decode cX9_step 53 = .ok (.getfield 49, 3) := by decide +kernel
theorem dX9_step_56 : decode cX9_step 56 = .ok (.iload 6, 2) := by decide +kernel
theorem dX9_step_58 : decode cX9_step 58 = .ok (.lushr, 1) := by decide +kernel
theorem dX9_step_59 : decode cX9_step 59 = .ok (.lconst 1, 1) := by decide +kernel
theorem dX9_step_60 : decode cX9_step 60 = .ok (.land, 1) := by decide +kernel
theorem dX9_step_61 : decode cX9_step 61 = .ok (.lconst 0, 1) := by decide +kernel
theorem dX9_step_62 : decode cX9_step 62 = .ok (.lcmp, 1) := by decide +kernel
theorem dX9_step_63 : decode cX9_step 63 = .ok (.ifCond .ne 6, 3) := by decide +kernel
theorem dX9_step_66 : decode cX9_step 66 = .ok (.bipush (-2), 2) := by decide +kernel
theorem dX9_step_68 : decode cX9_step 68 = .ok (.ireturn, 1) := by decide +kernel
theorem dX9_step_69 : decode cX9_step 69 = .ok (.aload_n 0, 1) := by decide +kernel
theorem dX9_step_70 : decode cX9_step 70 = .ok (.iload_n 2, 1) := by decide +kernel
theorem dX9_step_71 : decode cX9_step 71 = .ok (.iload 4, 2) := by decide +kernel
theorem dX9_step_73 : decode cX9_step 73 = .ok (.iload 6, 2) := by decide +kernel
theorem dX9_step_75 : decode cX9_step 75 = .ok (.invokevirtual 103, 3) := by decide +kernel
theorem dX9_step_78 : decode cX9_step 78 = .ok (.ifCond .ne 6, 3) := by decide +kernel
theorem dX9_step_81 : decode cX9_step 81 = .ok (.bipush (-3), 2) := by decide +kernel
theorem dX9_step_83 : decode cX9_step 83 = .ok (.ireturn, 1) := by decide +kernel
theorem dX9_step_84 : decode cX9_step 84 = .ok (.aload_n 0, 1) := by decide +kernel
theorem dX9_step_85 : decode cX9_step 85 = .ok (.iconst 1, 1) := by decide +kernel
theorem dX9_step_86 : decode cX9_step 86 = .ok (.iload_n 2, 1) := by decide +kernel
theorem dX9_step_87 : decode cX9_step 87 = .ok (.isub, 1) := by decide +kernel
theorem dX9_step_88 : decode cX9_step 88 = .ok (.iload 5, 2) := by decide +kernel
theorem dX9_step_90 : decode cX9_step 90 = .ok (.iload 6, 2) := by decide +kernel
theorem dX9_step_92 : decode cX9_step 92 = .ok (.invokevirtual 107, 3) := by decide +kernel
theorem dX9_step_95 : decode cX9_step 95 = .ok (.istore 7, 2) := by decide +kernel
theorem dX9_step_97 : decode cX9_step 97 = .ok (.iload 7, 2) := by decide +kernel
theorem dX9_step_99 : decode cX9_step 99 = .ok (.iconst (-1), 1) := by decide +kernel
theorem dX9_step_100 : decode cX9_step 100 = .ok (.if_icmp .ne 6, 3) := by decide +kernel
theorem dX9_step_103 : decode cX9_step 103 = .ok (.bipush (-4), 2) := by decide +kernel
theorem dX9_step_105 : decode cX9_step 105 = .ok (.ireturn, 1) := by decide +kernel
theorem dX9_step_106 : decode cX9_step 106 = .ok (.iload_n 2, 1) := by decide +kernel
theorem dX9_step_107 : decode cX9_step 107 = .ok (.ifCond .ne 14, 3) := by decide +kernel
theorem dX9_step_110 : decode cX9_step 110 = .ok (.iload 6, 2) := by decide +kernel
theorem dX9_step_112 : decode cX9_step 112 = .ok (.bipush 64, 2) := by decide +kernel
theorem dX9_step_114 : decode cX9_step 114 = .ok (.imul, 1) := by decide +kernel
theorem dX9_step_115 : decode cX9_step 115 = .ok (.iload 7, 2) := by decide +kernel
theorem dX9_step_117 : decode cX9_step 117 = .ok (.iadd, 1) := by decide +kernel
theorem dX9_step_118 : decode cX9_step 118 = .ok (.goto 11, 3) := by decide +kernel
theorem dX9_step_121 : decode cX9_step 121 = .ok (.iload 7, 2) := by decide +kernel
theorem dX9_step_123 : decode cX9_step 123 = .ok (.bipush 64, 2) := by decide +kernel
theorem dX9_step_125 : decode cX9_step 125 = .ok (.imul, 1) := by decide +kernel
theorem dX9_step_126 : decode cX9_step 126 = .ok (.iload 6, 2) := by decide +kernel
theorem dX9_step_128 : decode cX9_step 128 = .ok (.iadd, 1) := by decide +kernel
theorem dX9_step_129 : decode cX9_step 129 = .ok (.ireturn, 1) := by decide +kernel
set_option maxRecDepth 20000 in
set_option maxHeartbeats 2000000 in
theorem w_X9_step_32 {X : CX} {d : Nat} (hd : 4 ≤ d) {g' : G} {rx : Int32} (l0 : Nat) (l2 : Int32) (l3 : Int32) (l4 : Int32) (s0 : Int32) (g : G) (k_l0 : KD g l0 9) (h : f_X9_step_32 l0 l2 l3 l4 s0 g = some (rx, g')) : SemF X m_X9_step d 32 [(0, .ref (ad X l0)), (2, .int l2), (3, .int l3), (4, .int l4)] [.int s0] g (some (.int rx)) g' := by
  rw [f_X9_step_32] at h
  refine SF_istore [(5, .int s0), (0, .ref (ad X l0)), (2, .int l2), (3, .int l3), (4, .int l4)] 34 dX9_step_32 (by decide) rfl rfl ?_
  refine SF_aload_n 1 35 dX9_step_34 rfl rfl rfl ?_
  obtain ⟨b1, r2, h⟩ := dr_some h
  refine SF_getR 38 fl_X9_34 dX9_step_35 k_l0.1 r2 rfl ?_
  refine SF_iload 4 40 dX9_step_38 rfl rfl ?_
  refine SF_iload_n 3 41 dX9_step_40 rfl rfl rfl ?_
  obtain ⟨k3, h⟩ := gdK_some h
  obtain ⟨v4, g5, q6, h⟩ := bd_some h
  have s7 := w_X7_beside (X := X) (Nat.le_refl 1) b1 l4 l3 g g5 v4 k3 q6
  refine SF_callVi 44 mi_X7_beside ml_X9_100 dX9_step_41 (Nat.le_trans (by decide) hd) s7 k3.1 rfl rfl (Nat.le_of_ble_eq_true rfl) rfl ?_
  have k_l0 := k_l0.ext s7.1
  have k3 := k3.ext s7.1
  refine SF_istore [(6, .int v4), (5, .int s0), (0, .ref (ad X l0)), (2, .int l2), (3, .int l3), (4, .int l4)] 46 dX9_step_44 (by decide) rfl rfl ?_
  refine SF_iload 0 48 dX9_step_46 rfl rfl ?_
  refine SF_iconst (-1 : Int32) 49 dX9_step_48 rfl rfl ?_
  refine SF_iceq 66 52 dX9_step_49 rfl rfl (fun c8 => ?_) (fun c8 => ?_)
  · have h := ite_t c8 h
    refine SF_bipush (-2 : Int32) 68 dX9_step_66 rfl rfl ?_
    exact RT_i rfl dX9_step_68 h
  · have h := ite_f c8 h
    refine SF_aload_n 2 53 dX9_step_52 rfl rfl rfl ?_
    refine SF_getL 56 fl_X9_49 dX9_step_53 k_l0.1 rfl ?_
    refine SF_iload 0 58 dX9_step_56 rfl rfl ?_
    refine SF_lushr 59 dX9_step_58 rfl ?_
    refine SF_lconst (1 : Int64) 60 dX9_step_59 rfl rfl ?_
    refine SF_land 61 dX9_step_60 rfl ?_
    refine SF_lconst (0 : Int64) 62 dX9_step_61 rfl rfl ?_
    refine SF_lcmp 63 dX9_step_62 rfl ?_
    refine SF_ifne 69 66 dX9_step_63 rfl rfl (fun c9 => ?_) (fun c9 => ?_)
    · have h := ite_f c9 h
      refine SF_aload_n 2 70 dX9_step_69 rfl rfl rfl ?_
      refine SF_iload_n 3 71 dX9_step_70 rfl rfl rfl ?_
      refine SF_iload 5 73 dX9_step_71 rfl rfl ?_
      refine SF_iload 0 75 dX9_step_73 rfl rfl ?_
      obtain ⟨v10, g11, q12, h⟩ := bd_some h
      have s13 := w_X9_mayGo (X := X) (Nat.le_refl 2) l0 l2 l4 v4 g5 g11 v10 k_l0 q12
      refine SF_callVb 78 mi_X9_mayGo ml_X9_103 dX9_step_75 (Nat.le_trans (by decide) hd) s13 k_l0.1 rfl rfl (Nat.le_of_ble_eq_true rfl) rfl ?_
      have k_l0 := k_l0.ext s13.1
      have k3 := k3.ext s13.1
      refine SF_ifne 84 81 dX9_step_78 rfl rfl (fun c14 => ?_) (fun c14 => ?_)
      · have h := ite_f c14 h
        refine SF_aload_n 2 85 dX9_step_84 rfl rfl rfl ?_
        refine SF_iconst (1 : Int32) 86 dX9_step_85 rfl rfl ?_
        refine SF_iload_n 3 87 dX9_step_86 rfl rfl rfl ?_
        refine SF_isub 88 dX9_step_87 rfl ?_
        refine SF_iload 1 90 dX9_step_88 rfl rfl ?_
        refine SF_iload 0 92 dX9_step_90 rfl rfl ?_
        obtain ⟨v15, g16, q17, h⟩ := bd_some h
        have s18 := w_X9_drawnTo (X := X) (Nat.le_refl 3) l0 ((1 : Int32) - l2) s0 v4 g11 g16 v15 k_l0 q17
        refine SF_callVi 95 mi_X9_drawnTo ml_X9_107 dX9_step_92 (Nat.le_trans (by decide) hd) s18 k_l0.1 rfl rfl (Nat.le_of_ble_eq_true rfl) rfl ?_
        have k_l0 := k_l0.ext s18.1
        have k3 := k3.ext s18.1
        refine SF_istore [(7, .int v15), (6, .int v4), (5, .int s0), (0, .ref (ad X l0)), (2, .int l2), (3, .int l3), (4, .int l4)] 97 dX9_step_95 (by decide) rfl rfl ?_
        refine SF_iload 0 99 dX9_step_97 rfl rfl ?_
        refine SF_iconst (-1 : Int32) 100 dX9_step_99 rfl rfl ?_
        refine SF_icne 106 103 dX9_step_100 rfl rfl (fun c19 => ?_) (fun c19 => ?_)
        · have h := ite_f c19 h
          refine SF_iload_n 4 107 dX9_step_106 rfl rfl rfl ?_
          refine SF_ifne 121 110 dX9_step_107 rfl rfl (fun c20 => ?_) (fun c20 => ?_)
          · have h := ite_f c20 h
            refine SF_iload 0 123 dX9_step_121 rfl rfl ?_
            refine SF_bipush (64 : Int32) 125 dX9_step_123 rfl rfl ?_
            refine SF_imul 126 dX9_step_125 rfl ?_
            refine SF_iload 1 128 dX9_step_126 rfl rfl ?_
            refine SF_iadd 129 dX9_step_128 rfl ?_
            exact RT_i rfl dX9_step_129 h
          · have h := ite_t c20 h
            refine SF_iload 1 112 dX9_step_110 rfl rfl ?_
            refine SF_bipush (64 : Int32) 114 dX9_step_112 rfl rfl ?_
            refine SF_imul 115 dX9_step_114 rfl ?_
            refine SF_iload 0 117 dX9_step_115 rfl rfl ?_
            refine SF_iadd 118 dX9_step_117 rfl ?_
            refine SF_goto 129 dX9_step_118 rfl ?_
            exact RT_i rfl dX9_step_129 h
        · have h := ite_t c19 h
          refine SF_bipush (-4 : Int32) 105 dX9_step_103 rfl rfl ?_
          exact RT_i rfl dX9_step_105 h
      · have h := ite_t c14 h
        refine SF_bipush (-3 : Int32) 83 dX9_step_81 rfl rfl ?_
        exact RT_i rfl dX9_step_83 h
    · have h := ite_t c9 h
      refine SF_bipush (-2 : Int32) 68 dX9_step_66 rfl rfl ?_
      exact RT_i rfl dX9_step_68 h

set_option maxRecDepth 20000 in
set_option maxHeartbeats 2000000 in
theorem w_X9_step_15 {X : CX} {d : Nat} (hd : 4 ≤ d) {g' : G} {rx : Int32} (l0 : Nat) (l1 : Int32) (l2 : Int32) (l3 : Int32) (s0 : Int32) (g : G) (k_l0 : KD g l0 9) (h : f_X9_step_15 l0 l1 l2 l3 s0 g = some (rx, g')) : SemF X m_X9_step d 15 [(0, .ref (ad X l0)), (1, .int l1), (2, .int l2), (3, .int l3)] [.int s0] g (some (.int rx)) g' := by
  rw [f_X9_step_15] at h
  refine SF_istore [(4, .int s0), (0, .ref (ad X l0)), (1, .int l1), (2, .int l2), (3, .int l3)] 17 dX9_step_15 (by decide) rfl rfl ?_
  refine SF_iload_n 3 18 dX9_step_17 rfl rfl rfl ?_
  refine SF_ifne 28 21 dX9_step_18 rfl rfl (fun c1 => ?_) (fun c1 => ?_)
  · have h := ite_f c1 h
    refine SF_iload_n 2 29 dX9_step_28 rfl rfl rfl ?_
    refine SF_bipush (64 : Int32) 31 dX9_step_29 rfl rfl ?_
    refine SF_idiv 32 dX9_step_31 (by decide) rfl ?_
    refine SF_sub [1, 3, 4, 0] rfl ?_
    exact w_X9_step_32 hd l0 l2 l3 s0 (l1 / (64 : Int32)) g k_l0 h
  · have h := ite_t c1 h
    refine SF_iload_n 2 22 dX9_step_21 rfl rfl rfl ?_
    refine SF_bipush (64 : Int32) 24 dX9_step_22 rfl rfl ?_
    refine SF_irem 25 dX9_step_24 (by decide) rfl ?_
    refine SF_goto 32 dX9_step_25 rfl ?_
    refine SF_sub [1, 3, 4, 0] rfl ?_
    exact w_X9_step_32 hd l0 l2 l3 s0 (l1 - l1 / (64 : Int32) * (64 : Int32)) g k_l0 h

set_option maxRecDepth 20000 in
set_option maxHeartbeats 2000000 in
theorem w_X9_step {X : CX} {d : Nat} (hd : 4 ≤ d) (l0 : Nat) (l1 : Int32) (l2 : Int32) (l3 : Int32) (g g' : G) (rx : Int32) (k_l0 : KD g l0 9) (h : f_X9_step l0 l1 l2 l3 g = some (rx, g')) : Sem X m_X9_step d [.ref (ad X l0), .int l1, .int l2, .int l3] g (some (.int rx)) g' := by
  refine Sem_of (lo := [(0, .ref (ad X l0)), (1, .int l1), (2, .int l2), (3, .int l3)]) (by decide +kernel) rfl (Nat.le_of_ble_eq_true rfl) ?_
  rw [f_X9_step] at h
  refine SF_iload_n 2 1 dX9_step_0 rfl rfl rfl ?_
  refine SF_ifne 11 4 dX9_step_1 rfl rfl (fun c1 => ?_) (fun c1 => ?_)
  · have h := ite_f c1 h
    refine SF_iload_n 1 12 dX9_step_11 rfl rfl rfl ?_
    refine SF_bipush (64 : Int32) 14 dX9_step_12 rfl rfl ?_
    refine SF_irem 15 dX9_step_14 (by decide) rfl ?_
    exact w_X9_step_15 hd l0 l1 l2 l3 (l1 - l1 / (64 : Int32) * (64 : Int32)) g k_l0 h
  · have h := ite_t c1 h
    refine SF_iload_n 1 5 dX9_step_4 rfl rfl rfl ?_
    refine SF_bipush (64 : Int32) 7 dX9_step_5 rfl rfl ?_
    refine SF_idiv 8 dX9_step_7 (by decide) rfl ?_
    refine SF_goto 15 dX9_step_8 rfl ?_
    exact w_X9_step_15 hd l0 l1 l2 l3 (l1 / (64 : Int32)) g k_l0 h

theorem dX0_wouldBe_0 : decode cX0_wouldBe 0 = .ok (.aload_n 0, 1) := by decide +kernel
theorem dX0_wouldBe_1 : decode cX0_wouldBe 1 = .ok (.iload_n 2, 1) := by decide +kernel
theorem dX0_wouldBe_2 : decode cX0_wouldBe 2 = .ok (.invokevirtual 54, 3) := by decide +kernel
theorem dX0_wouldBe_5 : decode cX0_wouldBe 5 = .ok (.ifCond .eq 23, 3) := by decide +kernel
theorem dX0_wouldBe_8 : decode cX0_wouldBe 8 = .ok (.iload_n 3, 1) := by decide +kernel
theorem dX0_wouldBe_9 : decode cX0_wouldBe 9 = .ok (.ifCond .lt 19, 3) := by decide +kernel
theorem dX0_wouldBe_12 : decode cX0_wouldBe 12 = .ok (.iload_n 3, 1) := by decide +kernel
theorem dX0_wouldBe_13 : decode cX0_wouldBe 13 = .ok (.iconst 1, 1) := by decide +kernel
theorem dX0_wouldBe_14 : decode cX0_wouldBe 14 = .ok (.if_icmp .gt 14, 3) := by decide +kernel
theorem dX0_wouldBe_17 : decode cX0_wouldBe 17 = .ok (.iload 4, 2) := by decide +kernel
theorem dX0_wouldBe_19 : decode cX0_wouldBe 19 = .ok (.ifCond .lt 9, 3) := by decide +kernel
theorem dX0_wouldBe_22 : decode cX0_wouldBe 22 = .ok (.iload 4, 2) := by decide +kernel
theorem dX0_wouldBe_24 : decode cX0_wouldBe 24 = .ok (.iconst 4, 1) := by decide +kernel
theorem dX0_wouldBe_25 : decode cX0_wouldBe 25 = .ok (.if_icmp .lt 5, 3) := by decide +kernel
theorem dX0_wouldBe_28 : decode cX0_wouldBe 28 = .ok (.iconst (-1), 1) := by decide +kernel
theorem dX0_wouldBe_29 : decode cX0_wouldBe 29 = .ok (.ireturn, 1) := by decide +kernel
theorem dX0_wouldBe_30 : decode cX0_wouldBe 30 = .ok (.aload_n 1, 1) := by decide +kernel
theorem dX0_wouldBe_31 : decode cX0_wouldBe 31 = .ok (.aload_n 0, 1) := by decide +kernel
theorem dX0_wouldBe_32 : decode cX0_wouldBe 32 = .ok (.iload_n 2, 1) := by decide +kernel
theorem dX0_wouldBe_33 : decode cX0_wouldBe 33 = .ok (.invokevirtual 72, 3) := by decide +kernel
theorem dX0_wouldBe_36 : decode cX0_wouldBe 36 = .ok (.aload_n 1, 1) := by decide +kernel
theorem dX0_wouldBe_37 : decode cX0_wouldBe 37 = .ok (.aload_n 0, 1) := by decide +kernel
theorem dX0_wouldBe_38 : decode cX0_wouldBe 38 = .ok (.iload_n 2, 1) := by decide +kernel
theorem dX0_wouldBe_39 : decode cX0_wouldBe 39 = .ok (.invokevirtual 78, 3) := by decide +kernel
theorem dX0_wouldBe_42 : decode cX0_wouldBe 42 = .ok (.iload_n 3, 1) := by decide +kernel
theorem dX0_wouldBe_43 : decode cX0_wouldBe 43 = .ok (.iload 4, 2) := by decide +kernel
theorem dX0_wouldBe_45 : decode cX0_wouldBe 45 = .ok (.invokevirtual 81, 3) := by decide +kernel
theorem dX0_wouldBe_48 : decode cX0_wouldBe 48 = .ok (.ireturn, 1) := by decide +kernel
set_option maxRecDepth 20000 in
set_option maxHeartbeats 2000000 in
theorem w_X0_wouldBe {X : CX} {d : Nat} (hd : 5 ≤ d) (l0 : Nat) (l1 : Nat) (l2 : Int32) (l3 : Int32) (l4 : Int32) (g g' : G) (rx : Int32) (k_l0 : KD g l0 0) (k_l1 : KD g l1 9) (h : f_X0_wouldBe l0 l1 l2 l3 l4 g = some (rx, g')) : Sem X m_X0_wouldBe d [.ref (ad X l0), .ref (ad X l1), .int l2, .int l3, .int l4] g (some (.int rx)) g' := by
  refine Sem_of (lo := [(0, .ref (ad X l0)), (1, .ref (ad X l1)), (2, .int l2), (3, .int l3), (4, .int l4)]) (by decide +kernel) rfl (Nat.le_of_ble_eq_true rfl) ?_
  rw [f_X0_wouldBe] at h
  refine SF_aload_n 0 1 dX0_wouldBe_0 rfl rfl rfl ?_
  refine SF_iload_n 2 2 dX0_wouldBe_1 rfl rfl rfl ?_
  obtain ⟨v1, g2, q3, h⟩ := bd_some h
  have s4 := w_X0_isPair (X := X) (Nat.le_refl 0) l0 l2 g g2 v1 k_l0 q3
  refine SF_callVb 5 mi_X0_isPair ml_X0_54 dX0_wouldBe_2 (Nat.le_trans (by decide) hd) s4 k_l0.1 rfl rfl (Nat.le_of_ble_eq_true rfl) rfl ?_
  have k_l0 := k_l0.ext s4.1
  have k_l1 := k_l1.ext s4.1
  refine SF_ifeq 28 8 dX0_wouldBe_5 rfl rfl (fun c5 => ?_) (fun c5 => ?_)
  · have h := ite_t c5 h
    refine SF_iconst (-1 : Int32) 29 dX0_wouldBe_28 rfl rfl ?_
    exact RT_i rfl dX0_wouldBe_29 h
  · have h := ite_f c5 h
    refine SF_iload_n 3 9 dX0_wouldBe_8 rfl rfl rfl ?_
    refine SF_iflt 28 12 dX0_wouldBe_9 rfl rfl (fun c6 => ?_) (fun c6 => ?_)
    · have h := ite_t c6 h
      refine SF_iconst (-1 : Int32) 29 dX0_wouldBe_28 rfl rfl ?_
      exact RT_i rfl dX0_wouldBe_29 h
    · have h := ite_f c6 h
      refine SF_iload_n 3 13 dX0_wouldBe_12 rfl rfl rfl ?_
      refine SF_iconst (1 : Int32) 14 dX0_wouldBe_13 rfl rfl ?_
      refine SF_icgt 28 17 dX0_wouldBe_14 rfl rfl (fun c7 => ?_) (fun c7 => ?_)
      · have h := ite_t c7 h
        refine SF_iconst (-1 : Int32) 29 dX0_wouldBe_28 rfl rfl ?_
        exact RT_i rfl dX0_wouldBe_29 h
      · have h := ite_f c7 h
        refine SF_iload 4 19 dX0_wouldBe_17 rfl rfl ?_
        refine SF_iflt 28 22 dX0_wouldBe_19 rfl rfl (fun c8 => ?_) (fun c8 => ?_)
        · have h := ite_t c8 h
          refine SF_iconst (-1 : Int32) 29 dX0_wouldBe_28 rfl rfl ?_
          exact RT_i rfl dX0_wouldBe_29 h
        · have h := ite_f c8 h
          refine SF_iload 4 24 dX0_wouldBe_22 rfl rfl ?_
          refine SF_iconst (4 : Int32) 25 dX0_wouldBe_24 rfl rfl ?_
          refine SF_iclt 30 28 dX0_wouldBe_25 rfl rfl (fun c9 => ?_) (fun c9 => ?_)
          · have h := ite_t c9 h
            refine SF_aload_n 1 31 dX0_wouldBe_30 rfl rfl rfl ?_
            refine SF_aload_n 0 32 dX0_wouldBe_31 rfl rfl rfl ?_
            refine SF_iload_n 2 33 dX0_wouldBe_32 rfl rfl rfl ?_
            obtain ⟨v10, g11, q12, h⟩ := bd_some h
            have s13 := w_X9_aim (X := X) (Nat.le_refl 3) l1 l0 l2 g2 g11 v10 k_l1 k_l0 q12
            refine SF_callVv 36 mi_X9_aim ml_X0_72 dX0_wouldBe_33 (Nat.le_trans (by decide) hd) s13 k_l1.1 rfl rfl (Nat.le_of_ble_eq_true rfl) rfl ?_
            have k_l0 := k_l0.ext s13.1
            have k_l1 := k_l1.ext s13.1
            refine SF_aload_n 1 37 dX0_wouldBe_36 rfl rfl rfl ?_
            refine SF_aload_n 0 38 dX0_wouldBe_37 rfl rfl rfl ?_
            refine SF_iload_n 2 39 dX0_wouldBe_38 rfl rfl rfl ?_
            obtain ⟨v14, g15, q16, h⟩ := bd_some h
            have s17 := w_X0_standOf (X := X) (Nat.le_refl 1) l0 l2 g11 g15 v14 k_l0 q16
            refine SF_callVi 42 mi_X0_standOf ml_X0_78 dX0_wouldBe_39 (Nat.le_trans (by decide) hd) s17 k_l0.1 rfl rfl (Nat.le_of_ble_eq_true rfl) rfl ?_
            have k_l0 := k_l0.ext s17.1
            have k_l1 := k_l1.ext s17.1
            refine SF_iload_n 3 43 dX0_wouldBe_42 rfl rfl rfl ?_
            refine SF_iload 4 45 dX0_wouldBe_43 rfl rfl ?_
            obtain ⟨v18, g19, q20, h⟩ := bd_some h
            have s21 := w_X9_step (X := X) (Nat.le_refl 4) l1 v14 l3 l4 g15 g19 v18 k_l1 q20
            refine SF_callVi 48 mi_X9_step ml_X0_81 dX0_wouldBe_45 (Nat.le_trans (by decide) hd) s21 k_l1.1 rfl rfl (Nat.le_of_ble_eq_true rfl) rfl ?_
            have k_l0 := k_l0.ext s21.1
            have k_l1 := k_l1.ext s21.1
            exact RT_i rfl dX0_wouldBe_48 h
          · have h := ite_f c9 h
            refine SF_iconst (-1 : Int32) 29 dX0_wouldBe_28 rfl rfl ?_
            exact RT_i rfl dX0_wouldBe_29 h

theorem dX11_why_0 : decode cX11_why 0 = .ok (.aload_n 0, 1) := by decide +kernel
theorem dX11_why_1 : decode cX11_why 1 = .ok (.getfield 78, 3) := by decide +kernel
theorem dX11_why_4 : decode cX11_why 4 = .ok (.aload_n 0, 1) := by decide +kernel
theorem dX11_why_5 : decode cX11_why 5 = .ok (.getfield 95, 3) := by decide +kernel
theorem dX11_why_8 : decode cX11_why 8 = .ok (.iload_n 1, 1) := by decide +kernel
theorem dX11_why_9 : decode cX11_why 9 = .ok (.iload_n 2, 1) := by decide +kernel
theorem dX11_why_10 : decode cX11_why 10 = .ok (.iload_n 3, 1) := by decide +kernel
theorem dX11_why_11 : decode cX11_why 11 = .ok (.invokevirtual 179, 3) := by decide +kernel
theorem dX11_why_14 : decode cX11_why 14 = .ok (.istore 4, 2) := by decide +kernel
theorem dX11_why_16 : decode cX11_why 16 = .ok (.iload 4, 2) := by decide +kernel
theorem dX11_why_18 : decode cX11_why 18 = .ok (.ifCond .ge 9, 3) := by decide +kernel
theorem dX11_why_21 : decode cX11_why 21 = .ok (.iload 4, 2) := by decide +kernel
theorem dX11_why_23 : decode cX11_why 23 = .ok (.ineg, 1) := by decide +kernel
theorem dX11_why_24 : decode cX11_why 24 = .ok (.goto 4, 3) := by decide +kernel
theorem dX11_why_27 : decode cX11_why 27 = .ok (.iconst 0, 1) := by decide +kernel
theorem dX11_why_28 : decode cX11_why 28 = .ok (.ireturn, 1) := by decide +kernel
set_option maxRecDepth 20000 in
set_option maxHeartbeats 2000000 in
theorem w_X11_why {X : CX} {d : Nat} (hd : 6 ≤ d) (l0 : Nat) (l1 : Int32) (l2 : Int32) (l3 : Int32) (g g' : G) (rx : Int32) (k_l0 : KD g l0 11) (h : f_X11_why l0 l1 l2 l3 g = some (rx, g')) : Sem X m_X11_why d [.ref (ad X l0), .int l1, .int l2, .int l3] g (some (.int rx)) g' := by
  refine Sem_of (lo := [(0, .ref (ad X l0)), (1, .int l1), (2, .int l2), (3, .int l3)]) (by decide +kernel) rfl (Nat.le_of_ble_eq_true rfl) ?_
  rw [f_X11_why] at h
  refine SF_aload_n 0 1 dX11_why_0 rfl rfl rfl ?_
  obtain ⟨b1, r2, h⟩ := dr_some h
  refine SF_getR 4 fl_X11_78 dX11_why_1 k_l0.1 r2 rfl ?_
  refine SF_aload_n 0 5 dX11_why_4 rfl rfl rfl ?_
  obtain ⟨b3, r4, h⟩ := dr_some h
  refine SF_getR 8 fl_X11_95 dX11_why_5 k_l0.1 r4 rfl ?_
  refine SF_iload_n 1 9 dX11_why_8 rfl rfl rfl ?_
  refine SF_iload_n 2 10 dX11_why_9 rfl rfl rfl ?_
  refine SF_iload_n 3 11 dX11_why_10 rfl rfl rfl ?_
  obtain ⟨k5, h⟩ := gdK_some h
  obtain ⟨k6, h⟩ := gdK_some h
  obtain ⟨v7, g8, q9, h⟩ := bd_some h
  have s10 := w_X0_wouldBe (X := X) (Nat.le_refl 5) b1 b3 l1 l2 l3 g g8 v7 k5 k6 q9
  refine SF_callVi 14 mi_X0_wouldBe ml_X11_179 dX11_why_11 (Nat.le_trans (by decide) hd) s10 k5.1 rfl rfl (Nat.le_of_ble_eq_true rfl) rfl ?_
  have k_l0 := k_l0.ext s10.1
  have k5 := k5.ext s10.1
  have k6 := k6.ext s10.1
  refine SF_istore [(4, .int v7), (0, .ref (ad X l0)), (1, .int l1), (2, .int l2), (3, .int l3)] 16 dX11_why_14 (by decide) rfl rfl ?_
  refine SF_iload 0 18 dX11_why_16 rfl rfl ?_
  refine SF_ifge 27 21 dX11_why_18 rfl rfl (fun c11 => ?_) (fun c11 => ?_)
  · have h := ite_t c11 h
    refine SF_iconst (0 : Int32) 28 dX11_why_27 rfl rfl ?_
    exact RT_i rfl dX11_why_28 h
  · have h := ite_f c11 h
    refine SF_iload 0 23 dX11_why_21 rfl rfl ?_
    refine SF_ineg 24 dX11_why_23 rfl ?_
    refine SF_goto 28 dX11_why_24 rfl ?_
    exact RT_i rfl dX11_why_28 h

theorem dX12_beside_0 : decode cX12_beside 0 = .ok (.iload_n 1, 1) := by decide +kernel
theorem dX12_beside_1 : decode cX12_beside 1 = .ok (.aload_n 0, 1) := by decide +kernel
theorem dX12_beside_2 : decode cX12_beside 2 = .ok (.getfield 13, 3) := by decide +kernel
theorem dX12_beside_5 : decode cX12_beside 5 = .ok (.iconst 2, 1) := by decide +kernel
theorem dX12_beside_6 : decode cX12_beside 6 = .ok (.iaload, 1) := by decide +kernel
theorem dX12_beside_7 : decode cX12_beside 7 = .ok (.idiv, 1) := by decide +kernel
theorem dX12_beside_8 : decode cX12_beside 8 = .ok (.iload_n 2, 1) := by decide +kernel
theorem dX12_beside_9 : decode cX12_beside 9 = .ok (.ifCond .ne 7, 3) := by decide +kernel
theorem dX12_beside_12 : decode cX12_beside 12 = .ok (.iconst (-1), 1) := by decide +kernel
theorem dX12_beside_13 : decode cX12_beside 13 = .ok (.goto 13, 3) := by decide +kernel
theorem dX12_beside_16 : decode cX12_beside 16 = .ok (.iload_n 2, 1) := by decide +kernel
theorem dX12_beside_17 : decode cX12_beside 17 = .ok (.iconst 2, 1) := by decide +kernel
theorem dX12_beside_18 : decode cX12_beside 18 = .ok (.if_icmp .ne 7, 3) := by decide +kernel
theorem dX12_beside_21 : decode cX12_beside 21 = .ok (.iconst 1, 1) := by decide +kernel
theorem dX12_beside_22 : decode cX12_beside 22 = .ok (.goto 4, 3) := by decide +kernel
theorem dX12_beside_25 : decode cX12_beside 25 = .ok (.iconst 0, 1) := by decide +kernel
theorem dX12_beside_26 : decode cX12_beside 26 = .ok (.iadd, 1) := by decide +kernel
theorem dX12_beside_27 : decode cX12_beside 27 = .ok (.istore_n 3, 1) := by decide +kernel
theorem dX12_beside_28 : decode cX12_beside 28 = .ok (.iload_n 1, 1) := by decide +kernel
theorem dX12_beside_29 : decode cX12_beside 29 = .ok (.aload_n 0, 1) := by decide +kernel
theorem dX12_beside_30 : decode cX12_beside 30 = .ok (.getfield 13, 3) := by decide +kernel
theorem dX12_beside_33 : decode cX12_beside 33 = .ok (.iconst 2, 1) := by decide +kernel
theorem dX12_beside_34 : decode cX12_beside 34 = .ok (.iaload, 1) := by decide +kernel
theorem dX12_beside_35 : decode cX12_beside 35 = .ok (.irem, 1) := by decide +kernel
theorem dX12_beside_36 : decode cX12_beside 36 = .ok (.iload_n 2, 1) := by decide +kernel
theorem dX12_beside_37 : decode cX12_beside 37 = .ok (.iconst 1, 1) := by decide +kernel
theorem dX12_beside_38 : decode cX12_beside 38 = .ok (.if_icmp .ne 7, 3) := by decide +kernel
theorem dX12_beside_41 : decode cX12_beside 41 = .ok (.iconst 1, 1) := by decide +kernel
theorem dX12_beside_42 : decode cX12_beside 42 = .ok (.goto 13, 3) := by decide +kernel
theorem dX12_beside_45 : decode cX12_beside 45 = .ok (.iload_n 2, 1) := by decide +kernel
theorem dX12_beside_46 : decode cX12_beside 46 = .ok (.iconst 3, 1) := by decide +kernel
theorem dX12_beside_47 : decode cX12_beside 47 = .ok (.if_icmp .ne 7, 3) := by decide +kernel
theorem dX12_beside_50 : decode cX12_beside 50 = .ok (.iconst (-1), 1) := by decide +kernel
theorem dX12_beside_51 : decode cX12_beside 51 = .ok (.goto 4, 3) := by decide +kernel
theorem dX12_beside_54 : decode cX12_beside 54 = .ok (.iconst 0, 1) := by decide +kernel
theorem dX12_beside_55 : decode cX12_beside 55 = .ok (.iadd, 1) := by decide +kernel
theorem dX12_beside_56 : decode cX12_beside 56 = .ok (.istore 4, 2) := by decide +kernel
theorem dX12_beside_58 : decode cX12_beside 58 = .ok (.iload_n 3, 1) := by decide +kernel
theorem dX12_beside_59 : decode cX12_beside 59 = .ok (.i2l, 1) := by decide +kernel
theorem dX12_beside_60 : decode cX12_beside 60 = .ok (.lconst 0, 1) := by decide +kernel
theorem dX12_beside_61 : decode cX12_beside 61 = .ok (.aload_n 0, 1) := by decide +kernel
theorem dX12_beside_62 : decode cX12_beside 62 = .ok (.getfield 13, 3) := by decide +kernel
theorem dX12_beside_65 : decode cX12_beside 65 = .ok (.iconst 1, 1) := by decide +kernel
theorem dX12_beside_66 : decode cX12_beside 66 = .ok (.iaload, 1) := by decide +kernel
theorem dX12_beside_67 : decode cX12_beside 67 = .ok (.iconst 1, 1) := by decide +kernel
theorem dX12_beside_68 : decode cX12_beside 68 = .ok (.isub, 1) := by decide +kernel
theorem dX12_beside_69 : decode cX12_beside 69 = .ok (.i2l, 1) := by decide +kernel
theorem dX12_beside_70 : decode cX12_beside 70 = .ok (.invokestatic 139, 3) := by decide +kernel
theorem dX12_beside_73 : decode cX12_beside 73 = .ok (.ifCond .eq 36, 3) := by decide +kernel
theorem dX12_beside_76 : decode cX12_beside 76 = .ok (.iload 4, 2) := by decide +kernel
theorem dX12_beside_78 : decode cX12_beside 78 = .ok (.i2l, 1) := by decide +kernel
theorem dX12_beside_79 : decode cX12_beside 79 = .ok (.lconst 0, 1) := by decide +kernel
theorem dX12_beside_80 : decode cX12_beside 80 = .ok (.aload_n 0, 1) := by decide +kernel
theorem dX12_beside_81 : decode cX12_beside 81 = .ok (.getfield 13, 3) := by decide +kernel
theorem dX12_beside_84 : decode cX12_beside 84 = .ok (.iconst 2, 1) := by decide +kernel
theorem dX12_beside_85 : decode cX12_beside 85 = .ok (.iaload, 1) := by decide +kernel
theorem dX12_beside_86 : decode cX12_beside 86 = .ok (.iconst 1, 1) := by decide +kernel
theorem dX12_beside_87 : decode cX12_beside 87 = .ok (.isub, 1) := by decide +kernel
theorem dX12_beside_88 : decode cX12_beside 88 = .ok (.i2l, 1) := by decide +kernel
theorem dX12_beside_89 : decode cX12_beside 89 = .ok (.invokestatic 139, 3) := by decide +kernel
theorem dX12_beside_92 : decode cX12_beside 92 = .ok (.ifCond .eq 17, 3) := by decide +kernel
theorem dX12_beside_95 : decode cX12_beside 95 = .ok (.aload_n 0, 1) := by decide +kernel
theorem dX12_beside_96 : decode cX12_beside 96 = .ok (.getfield 13, 3) := by decide +kernel
theorem dX12_beside_99 : decode cX12_beside 99 = .ok (.iconst 2, 1) := by decide +kernel
theorem dX12_beside_100 : decode cX12_beside 100 = .ok (.iaload, 1) := by decide +kernel
theorem dX12_beside_101 : decode cX12_beside 101 = .ok (.iload_n 3, 1) := by decide +kernel
theorem dX12_beside_102 : decode cX12_beside 102 = .ok (.imul, 1) := by decide +kernel
theorem dX12_beside_103 : decode cX12_beside 103 = .ok (.iload 4, 2) := by decide +kernel
theorem dX12_beside_105 : decode cX12_beside 105 = .ok (.iadd, 1) := by decide +kernel
theorem dX12_beside_106 : decode cX12_beside 106 = .ok (.goto 4, 3) := by decide +kernel
theorem dX12_beside_109 : decode cX12_beside 109 = .ok (.iconst (-1), 1) := by decide +kernel
theorem dX12_beside_110 : decode cX12_beside 110 = .ok (.ireturn, 1) := by decide +kernel
set_option maxRecDepth 20000 in
set_option maxHeartbeats 2000000 in
theorem w_X12_beside_55 {X : CX} {d : Nat} (hd : 1 ≤ d) {g' : G} {rx : Int32} (l0 : Nat) (l3 : Int32) (s0 : Int32) (s1 : Int32) (g : G) (k_l0 : KD g l0 12) (h : f_X12_beside_55 l0 l3 s0 s1 g = some (rx, g')) : SemF X m_X12_beside d 55 [(0, .ref (ad X l0)), (3, .int l3)] [.int s0, .int s1] g (some (.int rx)) g' := by
  rw [f_X12_beside_55] at h
  refine SF_iadd 56 dX12_beside_55 rfl ?_
  obtain ⟨y1, e2, h⟩ := li_some h
  refine SF_eqI e2 ?_
  refine SF_istore [(4, .int y1), (0, .ref (ad X l0)), (3, .int l3)] 58 dX12_beside_56 (by decide) rfl rfl ?_
  refine SF_iload_n 2 59 dX12_beside_58 rfl rfl rfl ?_
  refine SF_i2l 60 dX12_beside_59 rfl ?_
  refine SF_lconst (0 : Int64) 61 dX12_beside_60 rfl rfl ?_
  refine SF_aload_n 1 62 dX12_beside_61 rfl rfl rfl ?_
  obtain ⟨b3, r4, h⟩ := dr_some h
  refine SF_getR 65 fl_X12_13 dX12_beside_62 k_l0.1 r4 rfl ?_
  refine SF_iconst (1 : Int32) 66 dX12_beside_65 rfl rfl ?_
  obtain ⟨k5, h⟩ := gdK_some h
  obtain ⟨i6, h⟩ := gdI_some h
  refine SF_iald 67 dX12_beside_66 k5.1 i6 rfl ?_
  refine SF_iconst (1 : Int32) 68 dX12_beside_67 rfl rfl ?_
  refine SF_isub 69 dX12_beside_68 rfl ?_
  refine SF_i2l 70 dX12_beside_69 rfl ?_
  obtain ⟨v7, g8, q9, h⟩ := bd_some h
  have s10 := w_X12_within (X := X) (Nat.le_refl 0) (l3.toInt64) (0 : Int64) (((gI g b3 (1 : Int32).toNatClampNeg) - (1 : Int32)).toInt64) g g8 v7 q9
  refine SF_callSb 73 mi_X12_within ml_X12_139 dX12_beside_70 (Nat.le_trans (by decide) hd) s10 rfl rfl (Nat.le_of_ble_eq_true rfl) rfl ?_
  have k_l0 := k_l0.ext s10.1
  have k5 := k5.ext s10.1
  refine SF_ifeq 109 76 dX12_beside_73 rfl rfl (fun c11 => ?_) (fun c11 => ?_)
  · have h := ite_t c11 h
    refine SF_iconst (-1 : Int32) 110 dX12_beside_109 rfl rfl ?_
    exact RT_i rfl dX12_beside_110 h
  · have h := ite_f c11 h
    refine SF_iload 0 78 dX12_beside_76 rfl rfl ?_
    refine SF_i2l 79 dX12_beside_78 rfl ?_
    refine SF_lconst (0 : Int64) 80 dX12_beside_79 rfl rfl ?_
    refine SF_aload_n 1 81 dX12_beside_80 rfl rfl rfl ?_
    obtain ⟨b12, r13, h⟩ := dr_some h
    refine SF_getR 84 fl_X12_13 dX12_beside_81 k_l0.1 r13 rfl ?_
    refine SF_iconst (2 : Int32) 85 dX12_beside_84 rfl rfl ?_
    obtain ⟨k14, h⟩ := gdK_some h
    obtain ⟨i15, h⟩ := gdI_some h
    refine SF_iald 86 dX12_beside_85 k14.1 i15 rfl ?_
    refine SF_iconst (1 : Int32) 87 dX12_beside_86 rfl rfl ?_
    refine SF_isub 88 dX12_beside_87 rfl ?_
    refine SF_i2l 89 dX12_beside_88 rfl ?_
    obtain ⟨v16, g17, q18, h⟩ := bd_some h
    have s19 := w_X12_within (X := X) (Nat.le_refl 0) (y1.toInt64) (0 : Int64) (((gI g8 b12 (2 : Int32).toNatClampNeg) - (1 : Int32)).toInt64) g8 g17 v16 q18
    refine SF_callSb 92 mi_X12_within ml_X12_139 dX12_beside_89 (Nat.le_trans (by decide) hd) s19 rfl rfl (Nat.le_of_ble_eq_true rfl) rfl ?_
    have k_l0 := k_l0.ext s19.1
    have k5 := k5.ext s19.1
    have k14 := k14.ext s19.1
    refine SF_ifeq 109 95 dX12_beside_92 rfl rfl (fun c20 => ?_) (fun c20 => ?_)
    · have h := ite_t c20 h
      refine SF_iconst (-1 : Int32) 110 dX12_beside_109 rfl rfl ?_
      exact RT_i rfl dX12_beside_110 h
    · have h := ite_f c20 h
      refine SF_aload_n 1 96 dX12_beside_95 rfl rfl rfl ?_
      obtain ⟨b21, r22, h⟩ := dr_some h
      refine SF_getR 99 fl_X12_13 dX12_beside_96 k_l0.1 r22 rfl ?_
      refine SF_iconst (2 : Int32) 100 dX12_beside_99 rfl rfl ?_
      obtain ⟨k23, h⟩ := gdK_some h
      obtain ⟨i24, h⟩ := gdI_some h
      refine SF_iald 101 dX12_beside_100 k23.1 i24 rfl ?_
      refine SF_iload_n 2 102 dX12_beside_101 rfl rfl rfl ?_
      refine SF_imul 103 dX12_beside_102 rfl ?_
      refine SF_iload 0 105 dX12_beside_103 rfl rfl ?_
      refine SF_iadd 106 dX12_beside_105 rfl ?_
      refine SF_goto 110 dX12_beside_106 rfl ?_
      exact RT_i rfl dX12_beside_110 h

set_option maxRecDepth 20000 in
set_option maxHeartbeats 2000000 in
theorem w_X12_beside_26 {X : CX} {d : Nat} (hd : 1 ≤ d) {g' : G} {rx : Int32} (l0 : Nat) (l1 : Int32) (l2 : Int32) (s0 : Int32) (s1 : Int32) (g : G) (k_l0 : KD g l0 12) (h : f_X12_beside_26 l0 l1 l2 s0 s1 g = some (rx, g')) : SemF X m_X12_beside d 26 [(0, .ref (ad X l0)), (1, .int l1), (2, .int l2)] [.int s0, .int s1] g (some (.int rx)) g' := by
  rw [f_X12_beside_26] at h
  refine SF_iadd 27 dX12_beside_26 rfl ?_
  obtain ⟨y1, e2, h⟩ := li_some h
  refine SF_eqI e2 ?_
  refine SF_istore_n [(3, .int y1), (0, .ref (ad X l0)), (1, .int l1), (2, .int l2)] 28 dX12_beside_27 rfl (by decide) rfl rfl ?_
  refine SF_iload_n 2 29 dX12_beside_28 rfl rfl rfl ?_
  refine SF_aload_n 1 30 dX12_beside_29 rfl rfl rfl ?_
  obtain ⟨b3, r4, h⟩ := dr_some h
  refine SF_getR 33 fl_X12_13 dX12_beside_30 k_l0.1 r4 rfl ?_
  refine SF_iconst (2 : Int32) 34 dX12_beside_33 rfl rfl ?_
  obtain ⟨k5, h⟩ := gdK_some h
  obtain ⟨i6, h⟩ := gdI_some h
  refine SF_iald 35 dX12_beside_34 k5.1 i6 rfl ?_
  obtain ⟨z7, h⟩ := gdZ_some h
  refine SF_irem 36 dX12_beside_35 z7 rfl ?_
  refine SF_iload_n 3 37 dX12_beside_36 rfl rfl rfl ?_
  refine SF_iconst (1 : Int32) 38 dX12_beside_37 rfl rfl ?_
  refine SF_icne 45 41 dX12_beside_38 rfl rfl (fun c8 => ?_) (fun c8 => ?_)
  · have h := ite_f c8 h
    refine SF_iload_n 3 46 dX12_beside_45 rfl rfl rfl ?_
    refine SF_iconst (3 : Int32) 47 dX12_beside_46 rfl rfl ?_
    refine SF_icne 54 50 dX12_beside_47 rfl rfl (fun c9 => ?_) (fun c9 => ?_)
    · have h := ite_f c9 h
      refine SF_iconst (0 : Int32) 55 dX12_beside_54 rfl rfl ?_
      refine SF_sub [1, 0] rfl ?_
      exact w_X12_beside_55 hd l0 y1 (0 : Int32) (l1 - l1 / (gI g b3 (2 : Int32).toNatClampNeg) * (gI g b3 (2 : Int32).toNatClampNeg)) g k_l0 h
    · have h := ite_t c9 h
      refine SF_iconst (-1 : Int32) 51 dX12_beside_50 rfl rfl ?_
      refine SF_goto 55 dX12_beside_51 rfl ?_
      refine SF_sub [1, 0] rfl ?_
      exact w_X12_beside_55 hd l0 y1 (-1 : Int32) (l1 - l1 / (gI g b3 (2 : Int32).toNatClampNeg) * (gI g b3 (2 : Int32).toNatClampNeg)) g k_l0 h
  · have h := ite_t c8 h
    refine SF_iconst (1 : Int32) 42 dX12_beside_41 rfl rfl ?_
    refine SF_goto 55 dX12_beside_42 rfl ?_
    refine SF_sub [1, 0] rfl ?_
    exact w_X12_beside_55 hd l0 y1 (1 : Int32) (l1 - l1 / (gI g b3 (2 : Int32).toNatClampNeg) * (gI g b3 (2 : Int32).toNatClampNeg)) g k_l0 h

set_option maxRecDepth 20000 in
set_option maxHeartbeats 2000000 in
theorem w_X12_beside {X : CX} {d : Nat} (hd : 1 ≤ d) (l0 : Nat) (l1 : Int32) (l2 : Int32) (g g' : G) (rx : Int32) (k_l0 : KD g l0 12) (h : f_X12_beside l0 l1 l2 g = some (rx, g')) : Sem X m_X12_beside d [.ref (ad X l0), .int l1, .int l2] g (some (.int rx)) g' := by
  refine Sem_of (lo := [(0, .ref (ad X l0)), (1, .int l1), (2, .int l2)]) (by decide +kernel) rfl (Nat.le_of_ble_eq_true rfl) ?_
  rw [f_X12_beside] at h
  refine SF_iload_n 1 1 dX12_beside_0 rfl rfl rfl ?_
  refine SF_aload_n 0 2 dX12_beside_1 rfl rfl rfl ?_
  obtain ⟨b1, r2, h⟩ := dr_some h
  refine SF_getR 5 fl_X12_13 dX12_beside_2 k_l0.1 r2 rfl ?_
  refine SF_iconst (2 : Int32) 6 dX12_beside_5 rfl rfl ?_
  obtain ⟨k3, h⟩ := gdK_some h
  obtain ⟨i4, h⟩ := gdI_some h
  refine SF_iald 7 dX12_beside_6 k3.1 i4 rfl ?_
  obtain ⟨z5, h⟩ := gdZ_some h
  refine SF_idiv 8 dX12_beside_7 z5 rfl ?_
  refine SF_iload_n 2 9 dX12_beside_8 rfl rfl rfl ?_
  refine SF_ifne 16 12 dX12_beside_9 rfl rfl (fun c6 => ?_) (fun c6 => ?_)
  · have h := ite_f c6 h
    refine SF_iload_n 2 17 dX12_beside_16 rfl rfl rfl ?_
    refine SF_iconst (2 : Int32) 18 dX12_beside_17 rfl rfl ?_
    refine SF_icne 25 21 dX12_beside_18 rfl rfl (fun c7 => ?_) (fun c7 => ?_)
    · have h := ite_f c7 h
      refine SF_iconst (0 : Int32) 26 dX12_beside_25 rfl rfl ?_
      exact w_X12_beside_26 hd l0 l1 l2 (0 : Int32) (l1 / (gI g b1 (2 : Int32).toNatClampNeg)) g k_l0 h
    · have h := ite_t c7 h
      refine SF_iconst (1 : Int32) 22 dX12_beside_21 rfl rfl ?_
      refine SF_goto 26 dX12_beside_22 rfl ?_
      exact w_X12_beside_26 hd l0 l1 l2 (1 : Int32) (l1 / (gI g b1 (2 : Int32).toNatClampNeg)) g k_l0 h
  · have h := ite_t c6 h
    refine SF_iconst (-1 : Int32) 13 dX12_beside_12 rfl rfl ?_
    refine SF_goto 26 dX12_beside_13 rfl ?_
    exact w_X12_beside_26 hd l0 l1 l2 (-1 : Int32) (l1 / (gI g b1 (2 : Int32).toNatClampNeg)) g k_l0 h

theorem dX12_isFree_0 : decode cX12_isFree 0 = .ok (.aload_n 0, 1) := by decide +kernel
theorem dX12_isFree_1 : decode cX12_isFree 1 = .ok (.getfield 13, 3) := by decide +kernel
theorem dX12_isFree_4 : decode cX12_isFree 4 = .ok (.bipush 52, 2) := by decide +kernel
theorem dX12_isFree_6 : decode cX12_isFree 6 = .ok (.iload_n 2, 1) := by decide +kernel
theorem dX12_isFree_7 : decode cX12_isFree 7 = .ok (.iadd, 1) := by decide +kernel
theorem dX12_isFree_8 : decode cX12_isFree 8 = .ok (.iaload, 1) := by decide +kernel
theorem dX12_isFree_9 : decode cX12_isFree 9 = .ok (.ifCond .ne 16, 3) := by decide +kernel
theorem dX12_isFree_12 : decode cX12_isFree 12 = .ok (.aload_n 0, 1) := by decide +kernel
theorem dX12_isFree_13 : decode cX12_isFree 13 = .ok (.iload_n 2, 1) := by decide +kernel
theorem dX12_isFree_14 : decode cX12_isFree 14 = .ok (.iload_n 1, 1) := by decide +kernel
theorem dX12_isFree_15 : decode cX12_isFree 15 = .ok (.invokevirtual 220, 3) := by decide +kernel
theorem dX12_isFree_18 : decode cX12_isFree 18 = .ok (.ifCond .ne 7, 3) := by decide +kernel
theorem dX12_isFree_21 : decode cX12_isFree 21 = .ok (.iconst 1, 1) := by decide +kernel
theorem dX12_isFree_22 : decode cX12_isFree 22 = .ok (.goto 4, 3) := by decide +kernel
theorem dX12_isFree_25 : decode cX12_isFree 25 = .ok (.iconst 0, 1) := by decide +kernel
theorem dX12_isFree_26 : decode cX12_isFree 26 = .ok (.ireturn, 1) := by decide +kernel
set_option maxRecDepth 20000 in
set_option maxHeartbeats 2000000 in
theorem w_X12_isFree {X : CX} {d : Nat} (hd : 1 ≤ d) (l0 : Nat) (l1 : Int32) (l2 : Int32) (g g' : G) (rx : Bool) (k_l0 : KD g l0 12) (h : f_X12_isFree l0 l1 l2 g = some (rx, g')) : Sem X m_X12_isFree d [.ref (ad X l0), .int l1, .int l2] g (some (.int (b2i rx))) g' := by
  refine Sem_of (lo := [(0, .ref (ad X l0)), (1, .int l1), (2, .int l2)]) (by decide +kernel) rfl (Nat.le_of_ble_eq_true rfl) ?_
  rw [f_X12_isFree] at h
  refine SF_aload_n 0 1 dX12_isFree_0 rfl rfl rfl ?_
  obtain ⟨b1, r2, h⟩ := dr_some h
  refine SF_getR 4 fl_X12_13 dX12_isFree_1 k_l0.1 r2 rfl ?_
  refine SF_bipush (52 : Int32) 6 dX12_isFree_4 rfl rfl ?_
  refine SF_iload_n 2 7 dX12_isFree_6 rfl rfl rfl ?_
  refine SF_iadd 8 dX12_isFree_7 rfl ?_
  obtain ⟨k3, h⟩ := gdK_some h
  obtain ⟨i4, h⟩ := gdI_some h
  refine SF_iald 9 dX12_isFree_8 k3.1 i4 rfl ?_
  refine SF_ifne 25 12 dX12_isFree_9 rfl rfl (fun c5 => ?_) (fun c5 => ?_)
  · have h := ite_f c5 h
    refine SF_iconst (0 : Int32) 26 dX12_isFree_25 rfl rfl ?_
    exact RT_b rfl rfl dX12_isFree_26 h
  · have h := ite_t c5 h
    refine SF_aload_n 0 13 dX12_isFree_12 rfl rfl rfl ?_
    refine SF_iload_n 2 14 dX12_isFree_13 rfl rfl rfl ?_
    refine SF_iload_n 1 15 dX12_isFree_14 rfl rfl rfl ?_
    obtain ⟨v6, g7, q8, h⟩ := bd_some h
    have s9 := w_X12_twinsIn (X := X) (Nat.le_refl 0) l0 l2 l1 g g7 v6 k_l0 q8
    refine SF_callVi 18 mi_X12_twinsIn ml_X12_220 dX12_isFree_15 (Nat.le_trans (by decide) hd) s9 k_l0.1 rfl rfl (Nat.le_of_ble_eq_true rfl) rfl ?_
    have k_l0 := k_l0.ext s9.1
    have k3 := k3.ext s9.1
    refine SF_ifne 25 21 dX12_isFree_18 rfl rfl (fun c10 => ?_) (fun c10 => ?_)
    · have h := ite_f c10 h
      refine SF_iconst (0 : Int32) 26 dX12_isFree_25 rfl rfl ?_
      exact RT_b rfl rfl dX12_isFree_26 h
    · have h := ite_t c10 h
      refine SF_iconst (1 : Int32) 22 dX12_isFree_21 rfl rfl ?_
      refine SF_goto 26 dX12_isFree_22 rfl ?_
      exact RT_b rfl rfl dX12_isFree_26 h

theorem dX12_between_0 : decode cX12_between 0 = .ok (.iload_n 0, 1) := by decide +kernel
theorem dX12_between_1 : decode cX12_between 1 = .ok (.tableswitch 80 3003 3008 #[39, 50, 61, 80, 72, 76], 39) := by decide +kernel
theorem dX12_between_40 : decode cX12_between 40 = .ok (.iload_n 1, 1) := by decide +kernel
theorem dX12_between_41 : decode cX12_between 41 = .ok (.iload_n 2, 1) := by decide +kernel
theorem dX12_between_42 : decode cX12_between 42 = .ok (.if_icmp .ne 7, 3) := by decide +kernel
theorem dX12_between_45 : decode cX12_between 45 = .ok (.iconst 1, 1) := by decide +kernel
theorem dX12_between_46 : decode cX12_between 46 = .ok (.goto 4, 3) := by decide +kernel
theorem dX12_between_49 : decode cX12_between 49 = .ok (.iconst 0, 1) := by decide +kernel
theorem dX12_between_50 : decode cX12_between 50 = .ok (.ireturn, 1) := by decide +kernel
theorem dX12_between_51 : decode cX12_between 51 = .ok (.iload_n 1, 1) := by decide +kernel
theorem dX12_between_52 : decode cX12_between 52 = .ok (.iload_n 2, 1) := by decide +kernel
theorem dX12_between_53 : decode cX12_between 53 = .ok (.if_icmp .ge 7, 3) := by decide +kernel
theorem dX12_between_56 : decode cX12_between 56 = .ok (.iconst 1, 1) := by decide +kernel
theorem dX12_between_57 : decode cX12_between 57 = .ok (.goto 4, 3) := by decide +kernel
theorem dX12_between_60 : decode cX12_between 60 = .ok (.iconst 0, 1) := by decide +kernel
theorem dX12_between_61 : decode cX12_between 61 = .ok (.ireturn, 1) := by decide +kernel
theorem dX12_between_62 : decode cX12_between 62 = .ok (.iload_n 1, 1) := by decide +kernel
theorem dX12_between_63 : decode cX12_between 63 = .ok (.iload_n 2, 1) := by decide +kernel
theorem dX12_between_64 : decode cX12_between 64 = .ok (.if_icmp .le 7, 3) := by decide +kernel
theorem dX12_between_67 : decode cX12_between 67 = .ok (.iconst 1, 1) := by decide +kernel
theorem dX12_between_68 : decode cX12_between 68 = .ok (.goto 4, 3) := by decide +kernel
theorem dX12_between_71 : decode cX12_between 71 = .ok (.iconst 0, 1) := by decide +kernel
theorem dX12_between_72 : decode cX12_between 72 = .ok (.ireturn, 1) := by decide +kernel
theorem dX12_between_73 : decode cX12_between 73 = .ok (.iload_n 1, 1) := by decide +kernel
theorem dX12_between_74 : decode cX12_between 74 = .ok (.iload_n 2, 1) := by decide +kernel
theorem dX12_between_75 : decode cX12_between 75 = .ok (.iand, 1) := by decide +kernel
theorem dX12_between_76 : decode cX12_between 76 = .ok (.ireturn, 1) := by decide +kernel
theorem dX12_between_77 : decode cX12_between 77 = .ok (.iload_n 1, 1) := by decide +kernel
theorem dX12_between_78 : decode cX12_between 78 = .ok (.iload_n 2, 1) := by decide +kernel
theorem dX12_between_79 : decode cX12_between 79 = .ok (.ior, 1) := by decide +kernel
theorem dX12_between_80 : decode cX12_between 80 = .ok (.ireturn, 1) := by decide +kernel
theorem dX12_between_81 : decode cX12_between 81 = .ok (.iload_n 0, 1) := by decide +kernel
theorem dX12_between_82 : decode cX12_between 82 = .ok (.sipush 3000, 3) := by decide +kernel
theorem dX12_between_85 : decode cX12_between 85 = .ok (.if_icmp .ne 11, 3) := by decide +kernel
theorem dX12_between_88 : decode cX12_between 88 = .ok (.iload_n 1, 1) := by decide +kernel
theorem dX12_between_89 : decode cX12_between 89 = .ok (.i2l, 1) := by decide +kernel
theorem dX12_between_90 : decode cX12_between 90 = .ok (.iload_n 2, 1) := by decide +kernel
theorem dX12_between_91 : decode cX12_between 91 = .ok (.i2l, 1) := by decide +kernel
theorem dX12_between_92 : decode cX12_between 92 = .ok (.ladd, 1) := by decide +kernel
theorem dX12_between_93 : decode cX12_between 93 = .ok (.goto 23, 3) := by decide +kernel
theorem dX12_between_96 : decode cX12_between 96 = .ok (.iload_n 0, 1) := by decide +kernel
theorem dX12_between_97 : decode cX12_between 97 = .ok (.sipush 3001, 3) := by decide +kernel
theorem dX12_between_100 : decode cX12_between 100 = .ok (.if_icmp .ne 11, 3) := by decide +kernel
theorem dX12_between_103 : decode cX12_between 103 = .ok (.iload_n 1, 1) := by decide +kernel
theorem dX12_between_104 : decode cX12_between 104 = .ok (.i2l, 1) := by decide +kernel
theorem dX12_between_105 : decode cX12_between 105 = .ok (.iload_n 2, 1) := by decide +kernel
theorem dX12_between_106 : decode cX12_between 106 = .ok (.i2l, 1) := by decide +kernel
theorem dX12_between_107 : decode cX12_between 107 = .ok (.lsub, 1) := by decide +kernel
theorem dX12_between_108 : decode cX12_between 108 = .ok (.goto 8, 3) := by decide +kernel
theorem dX12_between_111 : decode cX12_between 111 = .ok (.iload_n 1, 1) := by decide +kernel
theorem dX12_between_112 : decode cX12_between 112 = .ok (.i2l, 1) := by decide +kernel
theorem dX12_between_113 : decode cX12_between 113 = .ok (.iload_n 2, 1) := by decide +kernel
theorem dX12_between_114 : decode cX12_between 114 = .ok (.i2l, 1) := by decide +kernel
theorem dX12_between_115 : decode cX12_between 115 = .ok (.lmul, 1) := by decide +kernel
theorem dX12_between_116 : decode cX12_between 116 = .ok (.lstore_n 3, 1) := by decide +kernel
theorem dX12_between_117 : decode cX12_between 117 = .ok (.lload_n 3, 1) := by decide +kernel
theorem dX12_between_118 : decode cX12_between 118 = .ok (.ldc2_w 223, 3) := by decide +kernel
theorem dX12_between_121 : decode cX12_between 121 = .ok (.lcmp, 1) := by decide +kernel
theorem dX12_between_122 : decode cX12_between 122 = .ok (.ifCond .le 9, 3) := by decide +kernel
theorem dX12_between_125 : decode cX12_between 125 = .ok (.ldc2_w 223, 3) := by decide +kernel
theorem dX12_between_128 : decode cX12_between 128 = .ok (.goto 18, 3) := by decide +kernel
theorem dX12_between_131 : decode cX12_between 131 = .ok (.lload_n 3, 1) := by decide +kernel
theorem dX12_between_132 : decode cX12_between 132 = .ok (.ldc2_w 225, 3) := by decide +kernel
theorem dX12_between_135 : decode cX12_between 135 = .ok (.lcmp, 1) := by decide +kernel
theorem dX12_between_136 : decode cX12_between 136 = .ok (.ifCond .ge 9, 3) := by decide +kernel
theorem dX12_between_139 : decode cX12_between 139 = .ok (.ldc2_w 225, 3) := by decide +kernel
theorem dX12_between_142 : decode cX12_between 142 = .ok (.goto 4, 3) := by decide +kernel
theorem dX12_between_145 : decode cX12_between 145 = .ok (.lload_n 3, 1) := by decide +kernel
theorem dX12_between_146 : decode cX12_between 146 = .ok (.l2i, 1) := by decide +kernel
theorem dX12_between_147 : decode cX12_between 147 = .ok (.ireturn, 1) := by decide +kernel
set_option maxRecDepth 20000 in
set_option maxHeartbeats 2000000 in
theorem w_X12_between_146 {X : CX} {d : Nat} (hd : 0 ≤ d) {g' : G} {rx : Int32} (s0 : Int64) (g : G) (h : f_X12_between_146 s0 g = some (rx, g')) : SemF X m_X12_between d 146 [] [.long s0] g (some (.int rx)) g' := by
  rw [f_X12_between_146] at h
  refine SF_l2i 147 dX12_between_146 rfl ?_
  exact RT_i rfl dX12_between_147 h

set_option maxRecDepth 20000 in
set_option maxHeartbeats 2000000 in
theorem w_X12_between_116 {X : CX} {d : Nat} (hd : 0 ≤ d) {g' : G} {rx : Int32} (s0 : Int64) (g : G) (h : f_X12_between_116 s0 g = some (rx, g')) : SemF X m_X12_between d 116 [] [.long s0] g (some (.int rx)) g' := by
  rw [f_X12_between_116] at h
  refine SF_lstore_n [(3, .long s0)] 117 dX12_between_116 rfl (by decide) rfl rfl ?_
  refine SF_lload_n 0 118 dX12_between_117 rfl rfl rfl ?_
  refine SF_ldc2 121 dX12_between_118 kl_X12_223 rfl ?_
  refine SF_lcmp 122 dX12_between_121 rfl ?_
  refine SF_ifle 131 125 dX12_between_122 rfl rfl (fun c1 => ?_) (fun c1 => ?_)
  · have h := ite_t c1 h
    refine SF_lload_n 0 132 dX12_between_131 rfl rfl rfl ?_
    refine SF_ldc2 135 dX12_between_132 kl_X12_225 rfl ?_
    refine SF_lcmp 136 dX12_between_135 rfl ?_
    refine SF_ifge 145 139 dX12_between_136 rfl rfl (fun c2 => ?_) (fun c2 => ?_)
    · have h := ite_t c2 h
      refine SF_lload_n 0 146 dX12_between_145 rfl rfl rfl ?_
      refine SF_sub [] rfl ?_
      exact w_X12_between_146 hd s0 g  h
    · have h := ite_f c2 h
      refine SF_ldc2 142 dX12_between_139 kl_X12_225 rfl ?_
      refine SF_goto 146 dX12_between_142 rfl ?_
      refine SF_sub [] rfl ?_
      exact w_X12_between_146 hd (-1000000 : Int64) g  h
  · have h := ite_f c1 h
    refine SF_ldc2 128 dX12_between_125 kl_X12_223 rfl ?_
    refine SF_goto 146 dX12_between_128 rfl ?_
    refine SF_sub [] rfl ?_
    exact w_X12_between_146 hd (1000000 : Int64) g  h

set_option maxRecDepth 20000 in
set_option maxHeartbeats 2000000 in
theorem w_X12_between_81 {X : CX} {d : Nat} (hd : 0 ≤ d) {g' : G} {rx : Int32} (l0 : Int32) (l1 : Int32) (l2 : Int32) (g : G) (h : f_X12_between_81 l0 l1 l2 g = some (rx, g')) : SemF X m_X12_between d 81 [(0, .int l0), (1, .int l1), (2, .int l2)] [] g (some (.int rx)) g' := by
  rw [f_X12_between_81] at h
  refine SF_iload_n 0 82 dX12_between_81 rfl rfl rfl ?_
  refine SF_sipush (3000 : Int32) 85 dX12_between_82 rfl rfl ?_
  refine SF_icne 96 88 dX12_between_85 rfl rfl (fun c1 => ?_) (fun c1 => ?_)
  · have h := ite_f c1 h
    refine SF_iload_n 0 97 dX12_between_96 rfl rfl rfl ?_
    refine SF_sipush (3001 : Int32) 100 dX12_between_97 rfl rfl ?_
    refine SF_icne 111 103 dX12_between_100 rfl rfl (fun c2 => ?_) (fun c2 => ?_)
    · have h := ite_f c2 h
      refine SF_iload_n 1 112 dX12_between_111 rfl rfl rfl ?_
      refine SF_i2l 113 dX12_between_112 rfl ?_
      refine SF_iload_n 2 114 dX12_between_113 rfl rfl rfl ?_
      refine SF_i2l 115 dX12_between_114 rfl ?_
      refine SF_lmul 116 dX12_between_115 rfl ?_
      refine SF_sub [] rfl ?_
      exact w_X12_between_116 hd ((l1.toInt64) * (l2.toInt64)) g  h
    · have h := ite_t c2 h
      refine SF_iload_n 1 104 dX12_between_103 rfl rfl rfl ?_
      refine SF_i2l 105 dX12_between_104 rfl ?_
      refine SF_iload_n 2 106 dX12_between_105 rfl rfl rfl ?_
      refine SF_i2l 107 dX12_between_106 rfl ?_
      refine SF_lsub 108 dX12_between_107 rfl ?_
      refine SF_goto 116 dX12_between_108 rfl ?_
      refine SF_sub [] rfl ?_
      exact w_X12_between_116 hd ((l1.toInt64) - (l2.toInt64)) g  h
  · have h := ite_t c1 h
    refine SF_iload_n 1 89 dX12_between_88 rfl rfl rfl ?_
    refine SF_i2l 90 dX12_between_89 rfl ?_
    refine SF_iload_n 2 91 dX12_between_90 rfl rfl rfl ?_
    refine SF_i2l 92 dX12_between_91 rfl ?_
    refine SF_ladd 93 dX12_between_92 rfl ?_
    refine SF_goto 116 dX12_between_93 rfl ?_
    refine SF_sub [] rfl ?_
    exact w_X12_between_116 hd ((l1.toInt64) + (l2.toInt64)) g  h

set_option maxRecDepth 20000 in
set_option maxHeartbeats 2000000 in
theorem w_X12_between {X : CX} {d : Nat} (hd : 0 ≤ d) (l0 : Int32) (l1 : Int32) (l2 : Int32) (g g' : G) (rx : Int32) (h : f_X12_between l0 l1 l2 g = some (rx, g')) : Sem X m_X12_between d [.int l0, .int l1, .int l2] g (some (.int rx)) g' := by
  refine Sem_of (lo := [(0, .int l0), (1, .int l1), (2, .int l2)]) (by decide +kernel) rfl (Nat.le_of_ble_eq_true rfl) ?_
  rw [f_X12_between] at h
  refine SF_iload_n 0 1 dX12_between_0 rfl rfl rfl ?_
  by_cases c4 : l0.toInt < 3003
  · have h := ite_t c4 h
    refine SF_tabOut 81 dX12_between_1 (Or.inl c4) rfl ?_
    exact w_X12_between_81 hd l0 l1 l2 g  h
  · have h := ite_f c4 h
    generalize m5 : (l0.toInt - 3003).toNat = mm at h
    match mm, m5, h with
    | 0, m5, h =>
      refine SF_tabIn 40 dX12_between_1 c4 (by omega) (by rw [m5]; rfl) rfl ?_
      refine SF_iload_n 1 41 dX12_between_40 rfl rfl rfl ?_
      refine SF_iload_n 2 42 dX12_between_41 rfl rfl rfl ?_
      refine SF_icne 49 45 dX12_between_42 rfl rfl (fun c1 => ?_) (fun c1 => ?_)
      · have h := ite_f c1 h
        refine SF_iconst (0 : Int32) 50 dX12_between_49 rfl rfl ?_
        exact RT_i rfl dX12_between_50 h
      · have h := ite_t c1 h
        refine SF_iconst (1 : Int32) 46 dX12_between_45 rfl rfl ?_
        refine SF_goto 50 dX12_between_46 rfl ?_
        exact RT_i rfl dX12_between_50 h
    | 1, m5, h =>
      refine SF_tabIn 51 dX12_between_1 c4 (by omega) (by rw [m5]; rfl) rfl ?_
      refine SF_iload_n 1 52 dX12_between_51 rfl rfl rfl ?_
      refine SF_iload_n 2 53 dX12_between_52 rfl rfl rfl ?_
      refine SF_icge 60 56 dX12_between_53 rfl rfl (fun c2 => ?_) (fun c2 => ?_)
      · have h := ite_t c2 h
        refine SF_iconst (0 : Int32) 61 dX12_between_60 rfl rfl ?_
        exact RT_i rfl dX12_between_61 h
      · have h := ite_f c2 h
        refine SF_iconst (1 : Int32) 57 dX12_between_56 rfl rfl ?_
        refine SF_goto 61 dX12_between_57 rfl ?_
        exact RT_i rfl dX12_between_61 h
    | 2, m5, h =>
      refine SF_tabIn 62 dX12_between_1 c4 (by omega) (by rw [m5]; rfl) rfl ?_
      refine SF_iload_n 1 63 dX12_between_62 rfl rfl rfl ?_
      refine SF_iload_n 2 64 dX12_between_63 rfl rfl rfl ?_
      refine SF_icle 71 67 dX12_between_64 rfl rfl (fun c3 => ?_) (fun c3 => ?_)
      · have h := ite_t c3 h
        refine SF_iconst (0 : Int32) 72 dX12_between_71 rfl rfl ?_
        exact RT_i rfl dX12_between_72 h
      · have h := ite_f c3 h
        refine SF_iconst (1 : Int32) 68 dX12_between_67 rfl rfl ?_
        refine SF_goto 72 dX12_between_68 rfl ?_
        exact RT_i rfl dX12_between_72 h
    | 3, m5, h =>
      refine SF_tabIn 81 dX12_between_1 c4 (by omega) (by rw [m5]; rfl) rfl ?_
      exact w_X12_between_81 hd l0 l1 l2 g  h
    | 4, m5, h =>
      refine SF_tabIn 73 dX12_between_1 c4 (by omega) (by rw [m5]; rfl) rfl ?_
      refine SF_iload_n 1 74 dX12_between_73 rfl rfl rfl ?_
      refine SF_iload_n 2 75 dX12_between_74 rfl rfl rfl ?_
      refine SF_iand 76 dX12_between_75 rfl ?_
      exact RT_i rfl dX12_between_76 h
    | 5, m5, h =>
      refine SF_tabIn 77 dX12_between_1 c4 (by omega) (by rw [m5]; rfl) rfl ?_
      refine SF_iload_n 1 78 dX12_between_77 rfl rfl rfl ?_
      refine SF_iload_n 2 79 dX12_between_78 rfl rfl rfl ?_
      refine SF_ior 80 dX12_between_79 rfl ?_
      exact RT_i rfl dX12_between_80 h
    | mm + 6, m5, h =>
      refine SF_tabOut 81 dX12_between_1 (Or.inr (by omega)) rfl ?_
      exact w_X12_between_81 hd l0 l1 l2 g  h

theorem dX12_reckons_0 : decode cX12_reckons 0 = .ok (.aload_n 0, 1) := by decide +kernel
theorem dX12_reckons_1 : decode cX12_reckons 1 = .ok (.getfield 33, 3) := by decide +kernel
theorem dX12_reckons_4 : decode cX12_reckons 4 = .ok (.iconst 0, 1) := by decide +kernel
theorem dX12_reckons_5 : decode cX12_reckons 5 = .ok (.iload_n 2, 1) := by decide +kernel
theorem dX12_reckons_6 : decode cX12_reckons 6 = .ok (.iastore, 1) := by decide +kernel
theorem dX12_reckons_7 : decode cX12_reckons 7 = .ok (.aload_n 0, 1) := by decide +kernel
theorem dX12_reckons_8 : decode cX12_reckons 8 = .ok (.getfield 33, 3) := by decide +kernel
theorem dX12_reckons_11 : decode cX12_reckons 11 = .ok (.iconst 1, 1) := by decide +kernel
theorem dX12_reckons_12 : decode cX12_reckons 12 = .ok (.iload_n 3, 1) := by decide +kernel
theorem dX12_reckons_13 : decode cX12_reckons 13 = .ok (.iastore, 1) := by decide +kernel
theorem dX12_reckons_14 : decode cX12_reckons 14 = .ok (.aload_n 0, 1) := by decide +kernel
theorem dX12_reckons_15 : decode cX12_reckons 15 = .ok (.getfield 33, 3) := by decide +kernel
theorem dX12_reckons_18 : decode cX12_reckons 18 = .ok (.iconst 2, 1) := by decide +kernel
theorem dX12_reckons_19 : decode cX12_reckons 19 = .ok (.aload_n 0, 1) := by decide +kernel
theorem dX12_reckons_20 : decode cX12_reckons 20 = .ok (.getfield 13, 3) := by decide +kernel
theorem dX12_reckons_23 : decode cX12_reckons 23 = .ok (.bipush 97, 2) := by decide +kernel
theorem dX12_reckons_25 : decode cX12_reckons 25 = .ok (.iload_n 2, 1) := by decide +kernel
theorem dX12_reckons_26 : decode cX12_reckons 26 = .ok (.iadd, 1) := by decide +kernel
theorem dX12_reckons_27 : decode cX12_reckons 27 = .ok (.iaload, 1) := by decide +kernel
theorem dX12_reckons_28 : decode cX12_reckons 28 = .ok (.iastore, 1) := by decide +kernel
theorem dX12_reckons_29 : decode cX12_reckons 29 = .ok (.aload_n 0, 1) := by decide +kernel
theorem dX12_reckons_30 : decode cX12_reckons 30 = .ok (.getfield 33, 3) := by decide +kernel
theorem dX12_reckons_33 : decode cX12_reckons 33 = .ok (.iconst 3, 1) := by decide +kernel
theorem dX12_reckons_34 : decode cX12_reckons 34 = .ok (.aload_n 0, 1) := by decide +kernel
theorem dX12_reckons_35 : decode cX12_reckons 35 = .ok (.iload 4, 2) := by decide +kernel
theorem dX12_reckons_37 : decode cX12_reckons 37 = .ok (.invokevirtual 227, 3) := by decide +kernel
theorem dX12_reckons_40 : decode cX12_reckons 40 = .ok (.iastore, 1) := by decide +kernel
theorem dX12_reckons_41 : decode cX12_reckons 41 = .ok (.aload_n 0, 1) := by decide +kernel
theorem dX12_reckons_42 : decode cX12_reckons 42 = .ok (.getfield 33, 3) := by decide +kernel
theorem dX12_reckons_45 : decode cX12_reckons 45 = .ok (.iconst 4, 1) := by decide +kernel
theorem dX12_reckons_46 : decode cX12_reckons 46 = .ok (.aload_n 0, 1) := by decide +kernel
theorem dX12_reckons_47 : decode cX12_reckons 47 = .ok (.iload 5, 2) := by decide +kernel
theorem dX12_reckons_49 : decode cX12_reckons 49 = .ok (.invokevirtual 227, 3) := by decide +kernel
theorem dX12_reckons_52 : decode cX12_reckons 52 = .ok (.iastore, 1) := by decide +kernel
theorem dX12_reckons_53 : decode cX12_reckons 53 = .ok (.aload_n 0, 1) := by decide +kernel
theorem dX12_reckons_54 : decode cX12_reckons 54 = .ok (.getfield 33, 3) := by decide +kernel
theorem dX12_reckons_57 : decode cX12_reckons 57 = .ok (.iconst 5, 1) := by decide +kernel
theorem dX12_reckons_58 : decode cX12_reckons 58 = .ok (.aload_n 0, 1) := by decide +kernel
theorem dX12_reckons_59 : decode cX12_reckons 59 = .ok (.iload 4, 2) := by decide +kernel
theorem dX12_reckons_61 : decode cX12_reckons 61 = .ok (.iload 5, 2) := by decide +kernel
theorem dX12_reckons_63 : decode cX12_reckons 63 = .ok (.invokevirtual 208, 3) := by decide +kernel
theorem dX12_reckons_66 : decode cX12_reckons 66 = .ok (.iastore, 1) := by decide +kernel
theorem dX12_reckons_67 : decode cX12_reckons 67 = .ok (.aload_n 0, 1) := by decide +kernel
theorem dX12_reckons_68 : decode cX12_reckons 68 = .ok (.getfield 33, 3) := by decide +kernel
theorem dX12_reckons_71 : decode cX12_reckons 71 = .ok (.bipush 6, 2) := by decide +kernel
theorem dX12_reckons_73 : decode cX12_reckons 73 = .ok (.iload 5, 2) := by decide +kernel
theorem dX12_reckons_75 : decode cX12_reckons 75 = .ok (.aload_n 0, 1) := by decide +kernel
theorem dX12_reckons_76 : decode cX12_reckons 76 = .ok (.getfield 13, 3) := by decide +kernel
theorem dX12_reckons_79 : decode cX12_reckons 79 = .ok (.iconst 2, 1) := by decide +kernel
theorem dX12_reckons_80 : decode cX12_reckons 80 = .ok (.iaload, 1) := by decide +kernel
theorem dX12_reckons_81 : decode cX12_reckons 81 = .ok (.idiv, 1) := by decide +kernel
theorem dX12_reckons_82 : decode cX12_reckons 82 = .ok (.iastore, 1) := by decide +kernel
theorem dX12_reckons_83 : decode cX12_reckons 83 = .ok (.aload_n 0, 1) := by decide +kernel
theorem dX12_reckons_84 : decode cX12_reckons 84 = .ok (.getfield 33, 3) := by decide +kernel
theorem dX12_reckons_87 : decode cX12_reckons 87 = .ok (.bipush 7, 2) := by decide +kernel
theorem dX12_reckons_89 : decode cX12_reckons 89 = .ok (.iload 5, 2) := by decide +kernel
theorem dX12_reckons_91 : decode cX12_reckons 91 = .ok (.aload_n 0, 1) := by decide +kernel
theorem dX12_reckons_92 : decode cX12_reckons 92 = .ok (.getfield 13, 3) := by decide +kernel
theorem dX12_reckons_95 : decode cX12_reckons 95 = .ok (.iconst 2, 1) := by decide +kernel
theorem dX12_reckons_96 : decode cX12_reckons 96 = .ok (.iaload, 1) := by decide +kernel
theorem dX12_reckons_97 : decode cX12_reckons 97 = .ok (.irem, 1) := by decide +kernel
theorem dX12_reckons_98 : decode cX12_reckons 98 = .ok (.iastore, 1) := by decide +kernel
theorem dX12_reckons_99 : decode cX12_reckons 99 = .ok (.iconst 0, 1) := by decide +kernel
theorem dX12_reckons_100 : decode cX12_reckons 100 = .ok (.istore 6, 2) := by decide +kernel
theorem dX12_reckons_102 : decode cX12_reckons 102 = .ok (.iconst 0, 1) := by decide +kernel
theorem dX12_reckons_103 : decode cX12_reckons 103 = .ok (.istore 7, 2) := by decide +kernel
theorem dX12_reckons_105 : decode cX12_reckons 105 = .ok (.iload 7, 2) := by decide +kernel
theorem dX12_reckons_107 : decode cX12_reckons 107 = .ok (.aload_n 0, 1) := by decide +kernel
theorem dX12_reckons_108 : decode cX12_reckons 108 = .ok (.getfield 13, 3) := by decide +kernel
theorem dX12_reckons_111 : decode cX12_reckons 111 = .ok (.bipush 8, 2) := by decide +kernel
theorem dX12_reckons_113 : decode cX12_reckons 113 = .ok (.iload_n 1, 1) := by decide +kernel
theorem dX12_reckons_114 : decode cX12_reckons 114 = .ok (.iadd, 1) := by decide +kernel
theorem dX12_reckons_115 : decode cX12_reckons 115 = .ok (.iaload, 1) := by decide +kernel
theorem dX12_reckons_116 : decode cX12_reckons 116 = .ok (.if_icmp .ge 141, 3) := by decide +kernel
theorem dX12_reckons_119 : decode cX12_reckons 119 = .ok (.aload_n 0, 1) := by decide +kernel
theorem dX12_reckons_120 : decode cX12_reckons 120 = .ok (.getfield 13, 3) := by decide +kernel
theorem dX12_reckons_123 : decode cX12_reckons 123 = .ok (.sipush 615, 3) := by decide +kernel
theorem dX12_reckons_126 : decode cX12_reckons 126 = .ok (.aload_n 0, 1) := by decide +kernel
theorem dX12_reckons_127 : decode cX12_reckons 127 = .ok (.getfield 13, 3) := by decide +kernel
theorem dX12_reckons_130 : decode cX12_reckons 130 = .ok (.bipush 6, 2) := by decide +kernel
theorem dX12_reckons_132 : decode cX12_reckons 132 = .ok (.iload_n 1, 1) := by decide +kernel
theorem dX12_reckons_133 : decode cX12_reckons 133 = .ok (.iadd, 1) := by decide +kernel
theorem dX12_reckons_134 : decode cX12_reckons 134 = .ok (.iaload, 1) := by decide +kernel
theorem dX12_reckons_135 : decode cX12_reckons 135 = .ok (.iadd, 1) := by decide +kernel
theorem dX12_reckons_136 : decode cX12_reckons 136 = .ok (.iload 7, 2) := by decide +kernel
theorem dX12_reckons_138 : decode cX12_reckons 138 = .ok (.iadd, 1) := by decide +kernel
theorem dX12_reckons_139 : decode cX12_reckons 139 = .ok (.iaload, 1) := by decide +kernel
theorem dX12_reckons_140 : decode cX12_reckons 140 = .ok (.istore 8, 2) := by decide +kernel
theorem dX12_reckons_142 : decode cX12_reckons 142 = .ok (.iload 8, 2) := by decide +kernel
theorem dX12_reckons_144 : decode cX12_reckons 144 = .ok (.sipush 3000, 3) := by decide +kernel
theorem dX12_reckons_147 : decode cX12_reckons 147 = .ok (.if_icmp .ge 40, 3) := by decide +kernel
theorem dX12_reckons_150 : decode cX12_reckons 150 = .ok (.aload_n 0, 1) := by decide +kernel
theorem dX12_reckons_151 : decode cX12_reckons 151 = .ok (.getfield 30, 3) := by decide +kernel
theorem dX12_reckons_154 : decode cX12_reckons 154 = .ok (.iload 6, 2) := by decide +kernel
theorem dX12_reckons_156 : decode cX12_reckons 156 = .ok (.iload 8, 2) := by decide +kernel
theorem dX12_reckons_158 : decode cX12_reckons 158 = .ok (.sipush 1000, 3) := by decide +kernel
theorem dX12_reckons_161 : decode cX12_reckons 161 = .ok (.if_icmp .ge 8, 3) := by decide +kernel
theorem dX12_reckons_164 : decode cX12_reckons 164 = .ok (.iload 8, 2) := by decide +kernel
theorem dX12_reckons_166 : decode cX12_reckons 166 = .ok (.goto 14, 3) := by decide +kernel
theorem dX12_reckons_169 : decode cX12_reckons 169 = .ok (.aload_n 0, 1) := by decide +kernel
theorem dX12_reckons_170 : decode cX12_reckons 170 = .ok (.getfield 33, 3) := by decide +kernel
theorem dX12_reckons_173 : decode cX12_reckons 173 = .ok (.iload 8, 2) := by decide +kernel
theorem dX12_reckons_175 : decode cX12_reckons 175 = .ok (.sipush 1000, 3) := by decide +kernel
theorem dX12_reckons_178 : decode cX12_reckons 178 = .ok (.isub, 1) := by decide +kernel
theorem dX12_reckons_179 : decode cX12_reckons 179 = .ok (.iaload, 1) := by decide +kernel
theorem dX12_reckons_180 : decode cX12_reckons 180 = .ok (.iastore, 1) := by decide +kernel
theorem dX12_reckons_181 : decode cX12_reckons 181 = .ok (.iinc 6 1, 3) := by decide +kernel
theorem dX12_reckons_184 : decode cX12_reckons 184 = .ok (.goto 67, 3) := by decide +kernel
theorem dX12_reckons_187 : decode cX12_reckons 187 = .ok (.iload 8, 2) := by decide +kernel
theorem dX12_reckons_189 : decode cX12_reckons 189 = .ok (.sipush 3006, 3) := by decide +kernel
theorem dX12_reckons_192 : decode cX12_reckons 192 = .ok (.if_icmp .ne 26, 3) := by decide +kernel
theorem dX12_reckons_195 : decode cX12_reckons 195 = .ok (.aload_n 0, 1) := by decide +kernel
theorem dX12_reckons_196 : decode cX12_reckons 196 = .ok (.getfield 30, 3) := by decide +kernel
theorem dX12_reckons_199 : decode cX12_reckons 199 = .ok (.iload 6, 2) := by decide +kernel
theorem dX12_reckons_201 : decode cX12_reckons 201 = .ok (.iconst 1, 1) := by decide +kernel
theorem dX12_reckons_202 : decode cX12_reckons 202 = .ok (.isub, 1) := by decide +kernel
theorem dX12_reckons_203 : decode cX12_reckons 203 = .ok (.iconst 1, 1) := by decide +kernel
theorem dX12_reckons_204 : decode cX12_reckons 204 = .ok (.aload_n 0, 1) := by decide +kernel
theorem dX12_reckons_205 : decode cX12_reckons 205 = .ok (.getfield 30, 3) := by decide +kernel
theorem dX12_reckons_208 : decode cX12_reckons 208 = .ok (.iload 6, 2) := by decide +kernel
theorem dX12_reckons_210 : decode cX12_reckons 210 = .ok (.iconst 1, 1) := by decide +kernel
theorem dX12_reckons_211 : decode cX12_reckons 211 = .ok (.isub, 1) := by decide +kernel
theorem dX12_reckons_212 : decode cX12_reckons 212 = .ok (.iaload, 1) := by decide +kernel
theorem dX12_reckons_213 : decode cX12_reckons 213 = .ok (.isub, 1) := by decide +kernel
theorem dX12_reckons_214 : decode cX12_reckons 214 = .ok (.iastore, 1) := by decide +kernel
theorem dX12_reckons_215 : decode cX12_reckons 215 = .ok (.goto 36, 3) := by decide +kernel
theorem dX12_reckons_218 : decode cX12_reckons 218 = .ok (.iinc 6 (-1), 3) := by decide +kernel
theorem dX12_reckons_221 : decode cX12_reckons 221 = .ok (.aload_n 0, 1) := by decide +kernel
theorem dX12_reckons_222 : decode cX12_reckons 222 = .ok (.getfield 30, 3) := by decide +kernel
theorem dX12_reckons_225 : decode cX12_reckons 225 = .ok (.iload 6, 2) := by decide +kernel
theorem dX12_reckons_227 : decode cX12_reckons 227 = .ok (.iconst 1, 1) := by decide +kernel
theorem dX12_reckons_228 : decode cX12_reckons 228 = .ok (.isub, 1) := by decide +kernel
theorem dX12_reckons_229 : decode cX12_reckons 229 = .ok (.iload 8, 2) := by decide +kernel
theorem dX12_reckons_231 : decode cX12_reckons 231 = .ok (.aload_n 0, 1) := by decide +kernel
theorem dX12_reckons_232 : decode cX12_reckons 232 = .ok (.getfield 30, 3) := by decide +kernel
theorem dX12_reckons_235 : decode cX12_reckons 235 = .ok (.iload 6, 2) := by decide +kernel
theorem dX12_reckons_237 : decode cX12_reckons 237 = .ok (.iconst 1, 1) := by decide +kernel
theorem dX12_reckons_238 : decode cX12_reckons 238 = .ok (.isub, 1) := by decide +kernel
theorem dX12_reckons_239 : decode cX12_reckons 239 = .ok (.iaload, 1) := by decide +kernel
theorem dX12_reckons_240 : decode cX12_reckons 240 = .ok (.aload_n 0, 1) := by decide +kernel
theorem dX12_reckons_241 : decode cX12_reckons 241 = .ok (.getfield 30, 3) := by decide +kernel
theorem dX12_reckons_244 : decode cX12_reckons 244 = .ok (.iload 6, 2) := by decide +kernel
theorem dX12_reckons_246 : decode cX12_reckons 246 = .ok (.iaload, 1) := by decide +kernel
theorem dX12_reckons_247 : decode cX12_reckons 247 = .ok (.invokestatic 230, 3) := by decide +kernel
theorem dX12_reckons_250 : decode cX12_reckons 250 = .ok (.iastore, 1) := by decide +kernel
theorem dX12_reckons_251 : decode cX12_reckons 251 = .ok (.iinc 7 1, 3) := by decide +kernel
theorem dX12_reckons_254 : decode cX12_reckons 254 = .ok (.goto (-149), 3) := by decide +kernel
theorem dX12_reckons_257 : decode cX12_reckons 257 = .ok (.aload_n 0, 1) := by decide +kernel
theorem dX12_reckons_258 : decode cX12_reckons 258 = .ok (.getfield 30, 3) := by decide +kernel
theorem dX12_reckons_261 : decode cX12_reckons 261 = .ok (.iconst 0, 1) := by decide +kernel
theorem dX12_reckons_262 : decode cX12_reckons 262 = .ok (.iaload, 1) := by decide +kernel
theorem dX12_reckons_263 : decode cX12_reckons 263 = .ok (.ireturn, 1) := by decide +kernel
set_option maxRecDepth 20000 in
set_option maxHeartbeats 2000000 in
theorem w_X12_reckons_251 {X : CX} {d : Nat} (hd : 2 ≤ d) {g' : G} {rx : Int32} (k105 : Nat → Int32 → Int32 → Int32 → G → Option (Int32 × G)) (hk105 : ∀ (l0 : Nat) (l1 : Int32) (l6 : Int32) (l7 : Int32) (g : G), KD g l0 12 → k105 l0 l1 l6 l7 g = some (rx, g') → SemF X m_X12_reckons d 105 [(0, .ref (ad X l0)), (1, .int l1), (6, .int l6), (7, .int l7)] [] g (some (.int rx)) g') (l0 : Nat) (l1 : Int32) (l6 : Int32) (l7 : Int32) (g : G) (k_l0 : KD g l0 12) (h : f_X12_reckons_251 k105 l0 l1 l6 l7 g = some (rx, g')) : SemF X m_X12_reckons d 251 [(0, .ref (ad X l0)), (1, .int l1), (6, .int l6), (7, .int l7)] [] g (some (.int rx)) g' := by
  rw [f_X12_reckons_251] at h
  refine SF_iinc 3 (l7 + (1 : Int32)) [(7, .int (l7 + (1 : Int32))), (0, .ref (ad X l0)), (1, .int l1), (6, .int l6)] 254 dX12_reckons_251 rfl rfl (by decide) rfl rfl ?_
  refine SF_goto 105 dX12_reckons_254 rfl ?_
  refine SF_sub [1, 2, 3, 0] rfl ?_
  exact hk105 l0 l1 l6 (l7 + (1 : Int32)) g k_l0 h

set_option maxRecDepth 20000 in
set_option maxHeartbeats 2000000 in
theorem w_X12_reckons_180 {X : CX} {d : Nat} (hd : 2 ≤ d) {g' : G} {rx : Int32} (k105 : Nat → Int32 → Int32 → Int32 → G → Option (Int32 × G)) (hk105 : ∀ (l0 : Nat) (l1 : Int32) (l6 : Int32) (l7 : Int32) (g : G), KD g l0 12 → k105 l0 l1 l6 l7 g = some (rx, g') → SemF X m_X12_reckons d 105 [(0, .ref (ad X l0)), (1, .int l1), (6, .int l6), (7, .int l7)] [] g (some (.int rx)) g') (l0 : Nat) (l1 : Int32) (l6 : Int32) (l7 : Int32) (s0 : Int32) (s1 : Int32) (s2 : Nat) (g : G) (k_l0 : KD g l0 12) (k_s2 : KD g s2 14) (h : f_X12_reckons_180 k105 l0 l1 l6 l7 s0 s1 s2 g = some (rx, g')) : SemF X m_X12_reckons d 180 [(0, .ref (ad X l0)), (1, .int l1), (6, .int l6), (7, .int l7)] [.int s0, .int s1, .ref (ad X s2)] g (some (.int rx)) g' := by
  rw [f_X12_reckons_180] at h
  obtain ⟨i1, h⟩ := gdI_some h
  refine SF_iast 181 dX12_reckons_180 k_s2.1 i1 rfl ?_
  obtain ⟨g2, e3, h⟩ := lg_some h
  rw [← e3]
  have k_l0 := KD.eq e3 k_l0
  have k_s2 := KD.eq e3 k_s2
  have i1 := vp_eq e3 i1
  refine SF_iinc 2 (l6 + (1 : Int32)) [(6, .int (l6 + (1 : Int32))), (0, .ref (ad X l0)), (1, .int l1), (7, .int l7)] 184 dX12_reckons_181 rfl rfl (by decide) rfl rfl ?_
  refine SF_goto 251 dX12_reckons_184 rfl ?_
  refine SF_sub [1, 2, 0, 3] rfl ?_
  exact w_X12_reckons_251 hd k105 hk105 l0 l1 (l6 + (1 : Int32)) l7 g2 k_l0 h

set_option maxRecDepth 20000 in
set_option maxHeartbeats 2000000 in
theorem w_X12_reckons_105 {X : CX} {d : Nat} (hd : 2 ≤ d) {g' : G} {rx : Int32} : ∀ (n : Nat) (l0 : Nat) (l1 : Int32) (l6 : Int32) (l7 : Int32) (g : G), KD g l0 12 → f_X12_reckons_105 n l0 l1 l6 l7 g = some (rx, g') → SemF X m_X12_reckons d 105 [(0, .ref (ad X l0)), (1, .int l1), (6, .int l6), (7, .int l7)] [] g (some (.int rx)) g' := by
  intro n
  induction n with
  | zero =>
    intro l0 l1 l6 l7 g k_l0 h
    rw [f_X12_reckons_105] at h
    cases h
  | succ n ih =>
  intro l0 l1 l6 l7 g k_l0 h
  rw [f_X12_reckons_105] at h
  refine SF_iload 3 107 dX12_reckons_105 rfl rfl ?_
  refine SF_aload_n 0 108 dX12_reckons_107 rfl rfl rfl ?_
  obtain ⟨b1, r2, h⟩ := dr_some h
  refine SF_getR 111 fl_X12_13 dX12_reckons_108 k_l0.1 r2 rfl ?_
  refine SF_bipush (8 : Int32) 113 dX12_reckons_111 rfl rfl ?_
  refine SF_iload_n 1 114 dX12_reckons_113 rfl rfl rfl ?_
  refine SF_iadd 115 dX12_reckons_114 rfl ?_
  obtain ⟨k3, h⟩ := gdK_some h
  obtain ⟨i4, h⟩ := gdI_some h
  refine SF_iald 116 dX12_reckons_115 k3.1 i4 rfl ?_
  refine SF_icge 257 119 dX12_reckons_116 rfl rfl (fun c5 => ?_) (fun c5 => ?_)
  · have h := ite_t c5 h
    refine SF_aload_n 0 258 dX12_reckons_257 rfl rfl rfl ?_
    obtain ⟨b6, r7, h⟩ := dr_some h
    refine SF_getR 261 fl_X12_30 dX12_reckons_258 k_l0.1 r7 rfl ?_
    refine SF_iconst (0 : Int32) 262 dX12_reckons_261 rfl rfl ?_
    obtain ⟨k8, h⟩ := gdK_some h
    obtain ⟨i9, h⟩ := gdI_some h
    refine SF_iald 263 dX12_reckons_262 k8.1 i9 rfl ?_
    exact RT_i rfl dX12_reckons_263 h
  · have h := ite_f c5 h
    refine SF_aload_n 0 120 dX12_reckons_119 rfl rfl rfl ?_
    refine SF_getR 123 fl_X12_13 dX12_reckons_120 k_l0.1 r2 rfl ?_
    refine SF_sipush (615 : Int32) 126 dX12_reckons_123 rfl rfl ?_
    refine SF_aload_n 0 127 dX12_reckons_126 rfl rfl rfl ?_
    refine SF_getR 130 fl_X12_13 dX12_reckons_127 k_l0.1 r2 rfl ?_
    refine SF_bipush (6 : Int32) 132 dX12_reckons_130 rfl rfl ?_
    refine SF_iload_n 1 133 dX12_reckons_132 rfl rfl rfl ?_
    refine SF_iadd 134 dX12_reckons_133 rfl ?_
    obtain ⟨i10, h⟩ := gdI_some h
    refine SF_iald 135 dX12_reckons_134 k3.1 i10 rfl ?_
    refine SF_iadd 136 dX12_reckons_135 rfl ?_
    refine SF_iload 3 138 dX12_reckons_136 rfl rfl ?_
    refine SF_iadd 139 dX12_reckons_138 rfl ?_
    obtain ⟨i11, h⟩ := gdI_some h
    refine SF_iald 140 dX12_reckons_139 k3.1 i11 rfl ?_
    obtain ⟨y12, e13, h⟩ := li_some h
    refine SF_eqI e13 ?_
    refine SF_istore [(8, .int y12), (0, .ref (ad X l0)), (1, .int l1), (6, .int l6), (7, .int l7)] 142 dX12_reckons_140 (by decide) rfl rfl ?_
    refine SF_iload 0 144 dX12_reckons_142 rfl rfl ?_
    refine SF_sipush (3000 : Int32) 147 dX12_reckons_144 rfl rfl ?_
    refine SF_icge 187 150 dX12_reckons_147 rfl rfl (fun c14 => ?_) (fun c14 => ?_)
    · have h := ite_t c14 h
      refine SF_iload 0 189 dX12_reckons_187 rfl rfl ?_
      refine SF_sipush (3006 : Int32) 192 dX12_reckons_189 rfl rfl ?_
      refine SF_icne 218 195 dX12_reckons_192 rfl rfl (fun c15 => ?_) (fun c15 => ?_)
      · have h := ite_f c15 h
        refine SF_iinc 3 (l6 + (-1 : Int32)) [(6, .int (l6 + (-1 : Int32))), (8, .int y12), (0, .ref (ad X l0)), (1, .int l1), (7, .int l7)] 221 dX12_reckons_218 rfl rfl (by decide) rfl rfl ?_
        refine SF_aload_n 2 222 dX12_reckons_221 rfl rfl rfl ?_
        obtain ⟨b16, r17, h⟩ := dr_some h
        refine SF_getR 225 fl_X12_30 dX12_reckons_222 k_l0.1 r17 rfl ?_
        refine SF_iload 0 227 dX12_reckons_225 rfl rfl ?_
        refine SF_iconst (1 : Int32) 228 dX12_reckons_227 rfl rfl ?_
        refine SF_isub 229 dX12_reckons_228 rfl ?_
        refine SF_iload 1 231 dX12_reckons_229 rfl rfl ?_
        refine SF_aload_n 2 232 dX12_reckons_231 rfl rfl rfl ?_
        refine SF_getR 235 fl_X12_30 dX12_reckons_232 k_l0.1 r17 rfl ?_
        refine SF_iload 0 237 dX12_reckons_235 rfl rfl ?_
        refine SF_iconst (1 : Int32) 238 dX12_reckons_237 rfl rfl ?_
        refine SF_isub 239 dX12_reckons_238 rfl ?_
        obtain ⟨k18, h⟩ := gdK_some h
        obtain ⟨i19, h⟩ := gdI_some h
        refine SF_iald 240 dX12_reckons_239 k18.1 i19 rfl ?_
        refine SF_aload_n 2 241 dX12_reckons_240 rfl rfl rfl ?_
        refine SF_getR 244 fl_X12_30 dX12_reckons_241 k_l0.1 r17 rfl ?_
        refine SF_iload 0 246 dX12_reckons_244 rfl rfl ?_
        obtain ⟨i20, h⟩ := gdI_some h
        refine SF_iald 247 dX12_reckons_246 k18.1 i20 rfl ?_
        obtain ⟨v21, g22, q23, h⟩ := bd_some h
        have s24 := w_X12_between (X := X) (Nat.le_refl 0) y12 (gI g b16 ((l6 + (-1 : Int32)) - (1 : Int32)).toNatClampNeg) (gI g b16 (l6 + (-1 : Int32)).toNatClampNeg) g g22 v21 q23
        refine SF_callSi 250 mi_X12_between ml_X12_230 dX12_reckons_247 (Nat.le_trans (by decide) hd) s24 rfl rfl (Nat.le_of_ble_eq_true rfl) rfl ?_
        have k_l0 := k_l0.ext s24.1
        have k3 := k3.ext s24.1
        have k18 := k18.ext s24.1
        obtain ⟨i25, h⟩ := gdI_some h
        refine SF_iast 251 dX12_reckons_250 k18.1 i25 rfl ?_
        obtain ⟨g26, e27, h⟩ := lg_some h
        rw [← e27]
        have k_l0 := KD.eq e27 k_l0
        have k3 := KD.eq e27 k3
        have k18 := KD.eq e27 k18
        have i25 := vp_eq e27 i25
        refine SF_sub [2, 3, 0, 4] rfl ?_
        exact w_X12_reckons_251 hd (f_X12_reckons_105 n) ih l0 l1 (l6 + (-1 : Int32)) l7 g26 k_l0 h
      · have h := ite_t c15 h
        refine SF_aload_n 1 196 dX12_reckons_195 rfl rfl rfl ?_
        obtain ⟨b28, r29, h⟩ := dr_some h
        refine SF_getR 199 fl_X12_30 dX12_reckons_196 k_l0.1 r29 rfl ?_
        refine SF_iload 3 201 dX12_reckons_199 rfl rfl ?_
        refine SF_iconst (1 : Int32) 202 dX12_reckons_201 rfl rfl ?_
        refine SF_isub 203 dX12_reckons_202 rfl ?_
        refine SF_iconst (1 : Int32) 204 dX12_reckons_203 rfl rfl ?_
        refine SF_aload_n 1 205 dX12_reckons_204 rfl rfl rfl ?_
        refine SF_getR 208 fl_X12_30 dX12_reckons_205 k_l0.1 r29 rfl ?_
        refine SF_iload 3 210 dX12_reckons_208 rfl rfl ?_
        refine SF_iconst (1 : Int32) 211 dX12_reckons_210 rfl rfl ?_
        refine SF_isub 212 dX12_reckons_211 rfl ?_
        obtain ⟨k30, h⟩ := gdK_some h
        obtain ⟨i31, h⟩ := gdI_some h
        refine SF_iald 213 dX12_reckons_212 k30.1 i31 rfl ?_
        refine SF_isub 214 dX12_reckons_213 rfl ?_
        refine SF_iast 215 dX12_reckons_214 k30.1 i31 rfl ?_
        obtain ⟨g32, e33, h⟩ := lg_some h
        rw [← e33]
        have k_l0 := KD.eq e33 k_l0
        have k3 := KD.eq e33 k3
        have k30 := KD.eq e33 k30
        have r2 := gR_eq e33 r2
        have r29 := gR_eq e33 r29
        have i4 := vp_eq e33 i4
        have i10 := vp_eq e33 i10
        have i11 := vp_eq e33 i11
        have i31 := vp_eq e33 i31
        refine SF_goto 251 dX12_reckons_215 rfl ?_
        refine SF_sub [1, 2, 3, 4] rfl ?_
        exact w_X12_reckons_251 hd (f_X12_reckons_105 n) ih l0 l1 l6 l7 g32 k_l0 h
    · have h := ite_f c14 h
      refine SF_aload_n 1 151 dX12_reckons_150 rfl rfl rfl ?_
      obtain ⟨b34, r35, h⟩ := dr_some h
      refine SF_getR 154 fl_X12_30 dX12_reckons_151 k_l0.1 r35 rfl ?_
      refine SF_iload 3 156 dX12_reckons_154 rfl rfl ?_
      refine SF_iload 0 158 dX12_reckons_156 rfl rfl ?_
      refine SF_sipush (1000 : Int32) 161 dX12_reckons_158 rfl rfl ?_
      refine SF_icge 169 164 dX12_reckons_161 rfl rfl (fun c36 => ?_) (fun c36 => ?_)
      · have h := ite_t c36 h
        refine SF_aload_n 1 170 dX12_reckons_169 rfl rfl rfl ?_
        obtain ⟨b37, r38, h⟩ := dr_some h
        refine SF_getR 173 fl_X12_33 dX12_reckons_170 k_l0.1 r38 rfl ?_
        refine SF_iload 0 175 dX12_reckons_173 rfl rfl ?_
        refine SF_sipush (1000 : Int32) 178 dX12_reckons_175 rfl rfl ?_
        refine SF_isub 179 dX12_reckons_178 rfl ?_
        obtain ⟨k39, h⟩ := gdK_some h
        obtain ⟨i40, h⟩ := gdI_some h
        refine SF_iald 180 dX12_reckons_179 k39.1 i40 rfl ?_
        obtain ⟨k41, h⟩ := gdK_some h
        refine SF_sub [1, 2, 3, 4] rfl ?_
        exact w_X12_reckons_180 hd (f_X12_reckons_105 n) ih l0 l1 l6 l7 (gI g b37 (y12 - (1000 : Int32)).toNatClampNeg) l6 b34 g k_l0 k41 h
      · have h := ite_f c36 h
        refine SF_iload 0 166 dX12_reckons_164 rfl rfl ?_
        refine SF_goto 180 dX12_reckons_166 rfl ?_
        obtain ⟨k42, h⟩ := gdK_some h
        refine SF_sub [1, 2, 3, 4] rfl ?_
        exact w_X12_reckons_180 hd (f_X12_reckons_105 n) ih l0 l1 l6 l7 y12 l6 b34 g k_l0 k42 h

set_option maxRecDepth 20000 in
set_option maxHeartbeats 2000000 in
theorem w_X12_reckons {X : CX} {d : Nat} (hd : 2 ≤ d) (l0 : Nat) (l1 : Int32) (l2 : Int32) (l3 : Int32) (l4 : Int32) (l5 : Int32) (g g' : G) (rx : Int32) (k_l0 : KD g l0 12) (h : f_X12_reckons l0 l1 l2 l3 l4 l5 g = some (rx, g')) : Sem X m_X12_reckons d [.ref (ad X l0), .int l1, .int l2, .int l3, .int l4, .int l5] g (some (.int rx)) g' := by
  refine Sem_of (lo := [(0, .ref (ad X l0)), (1, .int l1), (2, .int l2), (3, .int l3), (4, .int l4), (5, .int l5)]) (by decide +kernel) rfl (Nat.le_of_ble_eq_true rfl) ?_
  rw [f_X12_reckons] at h
  refine SF_aload_n 0 1 dX12_reckons_0 rfl rfl rfl ?_
  obtain ⟨b1, r2, h⟩ := dr_some h
  refine SF_getR 4 fl_X12_33 dX12_reckons_1 k_l0.1 r2 rfl ?_
  refine SF_iconst (0 : Int32) 5 dX12_reckons_4 rfl rfl ?_
  refine SF_iload_n 2 6 dX12_reckons_5 rfl rfl rfl ?_
  obtain ⟨k3, h⟩ := gdK_some h
  obtain ⟨i4, h⟩ := gdI_some h
  refine SF_iast 7 dX12_reckons_6 k3.1 i4 rfl ?_
  obtain ⟨g5, e6, h⟩ := lg_some h
  rw [← e6]
  have k_l0 := KD.eq e6 k_l0
  have k3 := KD.eq e6 k3
  have r2 := gR_eq e6 r2
  have i4 := vp_eq e6 i4
  refine SF_aload_n 0 8 dX12_reckons_7 rfl rfl rfl ?_
  refine SF_getR 11 fl_X12_33 dX12_reckons_8 k_l0.1 r2 rfl ?_
  refine SF_iconst (1 : Int32) 12 dX12_reckons_11 rfl rfl ?_
  refine SF_iload_n 3 13 dX12_reckons_12 rfl rfl rfl ?_
  obtain ⟨i7, h⟩ := gdI_some h
  refine SF_iast 14 dX12_reckons_13 k3.1 i7 rfl ?_
  obtain ⟨g8, e9, h⟩ := lg_some h
  rw [← e9]
  have k_l0 := KD.eq e9 k_l0
  have k3 := KD.eq e9 k3
  have r2 := gR_eq e9 r2
  have i4 := vp_eq e9 i4
  have i7 := vp_eq e9 i7
  refine SF_aload_n 0 15 dX12_reckons_14 rfl rfl rfl ?_
  refine SF_getR 18 fl_X12_33 dX12_reckons_15 k_l0.1 r2 rfl ?_
  refine SF_iconst (2 : Int32) 19 dX12_reckons_18 rfl rfl ?_
  refine SF_aload_n 0 20 dX12_reckons_19 rfl rfl rfl ?_
  obtain ⟨b10, r11, h⟩ := dr_some h
  refine SF_getR 23 fl_X12_13 dX12_reckons_20 k_l0.1 r11 rfl ?_
  refine SF_bipush (97 : Int32) 25 dX12_reckons_23 rfl rfl ?_
  refine SF_iload_n 2 26 dX12_reckons_25 rfl rfl rfl ?_
  refine SF_iadd 27 dX12_reckons_26 rfl ?_
  obtain ⟨k12, h⟩ := gdK_some h
  obtain ⟨i13, h⟩ := gdI_some h
  refine SF_iald 28 dX12_reckons_27 k12.1 i13 rfl ?_
  obtain ⟨i14, h⟩ := gdI_some h
  refine SF_iast 29 dX12_reckons_28 k3.1 i14 rfl ?_
  obtain ⟨g15, e16, h⟩ := lg_some h
  rw [← e16]
  have k_l0 := KD.eq e16 k_l0
  have k3 := KD.eq e16 k3
  have k12 := KD.eq e16 k12
  have r2 := gR_eq e16 r2
  have r11 := gR_eq e16 r11
  have i4 := vp_eq e16 i4
  have i7 := vp_eq e16 i7
  have i13 := vp_eq e16 i13
  have i14 := vp_eq e16 i14
  refine SF_aload_n 0 30 dX12_reckons_29 rfl rfl rfl ?_
  refine SF_getR 33 fl_X12_33 dX12_reckons_30 k_l0.1 r2 rfl ?_
  refine SF_iconst (3 : Int32) 34 dX12_reckons_33 rfl rfl ?_
  refine SF_aload_n 0 35 dX12_reckons_34 rfl rfl rfl ?_
  refine SF_iload 4 37 dX12_reckons_35 rfl rfl ?_
  obtain ⟨v17, g18, q19, h⟩ := bd_some h
  have s20 := w_X12_heightOf (X := X) (Nat.le_refl 0) l0 l4 g15 g18 v17 k_l0 q19
  refine SF_callVi 40 mi_X12_heightOf ml_X12_227 dX12_reckons_37 (Nat.le_trans (by decide) hd) s20 k_l0.1 rfl rfl (Nat.le_of_ble_eq_true rfl) rfl ?_
  have k_l0 := k_l0.ext s20.1
  have k3 := k3.ext s20.1
  have k12 := k12.ext s20.1
  obtain ⟨i21, h⟩ := gdI_some h
  refine SF_iast 41 dX12_reckons_40 k3.1 i21 rfl ?_
  obtain ⟨g22, e23, h⟩ := lg_some h
  rw [← e23]
  have k_l0 := KD.eq e23 k_l0
  have k3 := KD.eq e23 k3
  have k12 := KD.eq e23 k12
  have i21 := vp_eq e23 i21
  refine SF_aload_n 0 42 dX12_reckons_41 rfl rfl rfl ?_
  obtain ⟨b24, r25, h⟩ := dr_some h
  refine SF_getR 45 fl_X12_33 dX12_reckons_42 k_l0.1 r25 rfl ?_
  refine SF_iconst (4 : Int32) 46 dX12_reckons_45 rfl rfl ?_
  refine SF_aload_n 0 47 dX12_reckons_46 rfl rfl rfl ?_
  refine SF_iload 5 49 dX12_reckons_47 rfl rfl ?_
  obtain ⟨v26, g27, q28, h⟩ := bd_some h
  have s29 := w_X12_heightOf (X := X) (Nat.le_refl 0) l0 l5 g22 g27 v26 k_l0 q28
  refine SF_callVi 52 mi_X12_heightOf ml_X12_227 dX12_reckons_49 (Nat.le_trans (by decide) hd) s29 k_l0.1 rfl rfl (Nat.le_of_ble_eq_true rfl) rfl ?_
  have k_l0 := k_l0.ext s29.1
  have k3 := k3.ext s29.1
  have k12 := k12.ext s29.1
  obtain ⟨k30, h⟩ := gdK_some h
  obtain ⟨i31, h⟩ := gdI_some h
  refine SF_iast 53 dX12_reckons_52 k30.1 i31 rfl ?_
  obtain ⟨g32, e33, h⟩ := lg_some h
  rw [← e33]
  have k_l0 := KD.eq e33 k_l0
  have k3 := KD.eq e33 k3
  have k12 := KD.eq e33 k12
  have k30 := KD.eq e33 k30
  have i31 := vp_eq e33 i31
  refine SF_aload_n 0 54 dX12_reckons_53 rfl rfl rfl ?_
  obtain ⟨b34, r35, h⟩ := dr_some h
  refine SF_getR 57 fl_X12_33 dX12_reckons_54 k_l0.1 r35 rfl ?_
  refine SF_iconst (5 : Int32) 58 dX12_reckons_57 rfl rfl ?_
  refine SF_aload_n 0 59 dX12_reckons_58 rfl rfl rfl ?_
  refine SF_iload 4 61 dX12_reckons_59 rfl rfl ?_
  refine SF_iload 5 63 dX12_reckons_61 rfl rfl ?_
  obtain ⟨v36, g37, q38, h⟩ := bd_some h
  have s39 := w_X12_apart (X := X) (Nat.le_refl 1) l0 l4 l5 g32 g37 v36 k_l0 q38
  refine SF_callVi 66 mi_X12_apart ml_X12_208 dX12_reckons_63 (Nat.le_trans (by decide) hd) s39 k_l0.1 rfl rfl (Nat.le_of_ble_eq_true rfl) rfl ?_
  have k_l0 := k_l0.ext s39.1
  have k3 := k3.ext s39.1
  have k12 := k12.ext s39.1
  have k30 := k30.ext s39.1
  obtain ⟨k40, h⟩ := gdK_some h
  obtain ⟨i41, h⟩ := gdI_some h
  refine SF_iast 67 dX12_reckons_66 k40.1 i41 rfl ?_
  obtain ⟨g42, e43, h⟩ := lg_some h
  rw [← e43]
  have k_l0 := KD.eq e43 k_l0
  have k3 := KD.eq e43 k3
  have k12 := KD.eq e43 k12
  have k30 := KD.eq e43 k30
  have k40 := KD.eq e43 k40
  have i41 := vp_eq e43 i41
  refine SF_aload_n 0 68 dX12_reckons_67 rfl rfl rfl ?_
  obtain ⟨b44, r45, h⟩ := dr_some h
  refine SF_getR 71 fl_X12_33 dX12_reckons_68 k_l0.1 r45 rfl ?_
  refine SF_bipush (6 : Int32) 73 dX12_reckons_71 rfl rfl ?_
  refine SF_iload 5 75 dX12_reckons_73 rfl rfl ?_
  refine SF_aload_n 0 76 dX12_reckons_75 rfl rfl rfl ?_
  obtain ⟨b46, r47, h⟩ := dr_some h
  refine SF_getR 79 fl_X12_13 dX12_reckons_76 k_l0.1 r47 rfl ?_
  refine SF_iconst (2 : Int32) 80 dX12_reckons_79 rfl rfl ?_
  obtain ⟨k48, h⟩ := gdK_some h
  obtain ⟨i49, h⟩ := gdI_some h
  refine SF_iald 81 dX12_reckons_80 k48.1 i49 rfl ?_
  obtain ⟨z50, h⟩ := gdZ_some h
  refine SF_idiv 82 dX12_reckons_81 z50 rfl ?_
  obtain ⟨k51, h⟩ := gdK_some h
  obtain ⟨i52, h⟩ := gdI_some h
  refine SF_iast 83 dX12_reckons_82 k51.1 i52 rfl ?_
  obtain ⟨g53, e54, h⟩ := lg_some h
  rw [← e54]
  have k_l0 := KD.eq e54 k_l0
  have k3 := KD.eq e54 k3
  have k12 := KD.eq e54 k12
  have k30 := KD.eq e54 k30
  have k40 := KD.eq e54 k40
  have k48 := KD.eq e54 k48
  have k51 := KD.eq e54 k51
  have r45 := gR_eq e54 r45
  have r47 := gR_eq e54 r47
  have i41 := vp_eq e54 i41
  have i49 := vp_eq e54 i49
  have i52 := vp_eq e54 i52
  refine SF_aload_n 0 84 dX12_reckons_83 rfl rfl rfl ?_
  refine SF_getR 87 fl_X12_33 dX12_reckons_84 k_l0.1 r45 rfl ?_
  refine SF_bipush (7 : Int32) 89 dX12_reckons_87 rfl rfl ?_
  refine SF_iload 5 91 dX12_reckons_89 rfl rfl ?_
  refine SF_aload_n 0 92 dX12_reckons_91 rfl rfl rfl ?_
  refine SF_getR 95 fl_X12_13 dX12_reckons_92 k_l0.1 r47 rfl ?_
  refine SF_iconst (2 : Int32) 96 dX12_reckons_95 rfl rfl ?_
  refine SF_iald 97 dX12_reckons_96 k48.1 i49 rfl ?_
  obtain ⟨z55, h⟩ := gdZ_some h
  refine SF_irem 98 dX12_reckons_97 z55 rfl ?_
  obtain ⟨i56, h⟩ := gdI_some h
  refine SF_iast 99 dX12_reckons_98 k51.1 i56 rfl ?_
  obtain ⟨g57, e58, h⟩ := lg_some h
  rw [← e58]
  have k_l0 := KD.eq e58 k_l0
  have k3 := KD.eq e58 k3
  have k12 := KD.eq e58 k12
  have k30 := KD.eq e58 k30
  have k40 := KD.eq e58 k40
  have k48 := KD.eq e58 k48
  have k51 := KD.eq e58 k51
  have r45 := gR_eq e58 r45
  have r47 := gR_eq e58 r47
  have i41 := vp_eq e58 i41
  have i49 := vp_eq e58 i49
  have i52 := vp_eq e58 i52
  have i56 := vp_eq e58 i56
  refine SF_iconst (0 : Int32) 100 dX12_reckons_99 rfl rfl ?_
  refine SF_istore [(6, .int (0 : Int32)), (0, .ref (ad X l0)), (1, .int l1), (2, .int l2), (3, .int l3), (4, .int l4), (5, .int l5)] 102 dX12_reckons_100 (by decide) rfl rfl ?_
  refine SF_iconst (0 : Int32) 103 dX12_reckons_102 rfl rfl ?_
  refine SF_istore [(7, .int (0 : Int32)), (6, .int (0 : Int32)), (0, .ref (ad X l0)), (1, .int l1), (2, .int l2), (3, .int l3), (4, .int l4), (5, .int l5)] 105 dX12_reckons_103 (by decide) rfl rfl ?_
  refine SF_sub [2, 3, 1, 0] rfl ?_
  exact w_X12_reckons_105 hd FU l0 l1 (0 : Int32) (0 : Int32) g57 k_l0 h

