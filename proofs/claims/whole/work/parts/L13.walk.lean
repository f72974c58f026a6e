theorem dX10_set_0 : decode cX10_set 0 = .ok (.iload_n 1, 1) := by decide +kernel
theorem dX10_set_1 : decode cX10_set 1 = .ok (.ifCond .lt 9, 3) := by decide +kernel
theorem dX10_set_4 : decode cX10_set 4 = .ok (.iload_n 1, 1) := by decide +kernel
theorem dX10_set_5 : decode cX10_set 5 = .ok (.bipush 40, 2) := by decide +kernel
theorem dX10_set_7 : decode cX10_set 7 = .ok (.if_icmp .lt 5, 3) := by decide +kernel
theorem dX10_set_10 : decode cX10_set 10 = .ok (.lconst 0, 1) := by decide +kernel
theorem dX10_set_11 : decode cX10_set 11 = .ok (.lreturn, 1) := by decide +kernel
theorem dX10_set_12 : decode cX10_set 12 = .ok (.aload_n 0, 1) := by decide +kernel
theorem dX10_set_13 : decode cX10_set 13 = .ok (.getfield 15, 3) := by decide +kernel
theorem dX10_set_16 : decode cX10_set 16 = .ok (.iload_n 1, 1) := by decide +kernel
theorem dX10_set_17 : decode cX10_set 17 = .ok (.aload_n 0, 1) := by decide +kernel
theorem dX10_set_18 : decode cX10_set 18 = .ok (.lload_n 2, 1) := by decide +kernel
theorem dX10_set_19 : decode cX10_set 19 = .ok (.invokevirtual 37, 3) := by decide +kernel
theorem dX10_set_22 : decode cX10_set 22 = .ok (.lastore, 1) := by decide +kernel
theorem dX10_set_23 : decode cX10_set 23 = .ok (.aload_n 0, 1) := by decide +kernel
theorem dX10_set_24 : decode cX10_set 24 = .ok (.getfield 15, 3) := by decide +kernel
theorem dX10_set_27 : decode cX10_set 27 = .ok (.iload_n 1, 1) := by decide +kernel
theorem dX10_set_28 : decode cX10_set 28 = .ok (.laload, 1) := by decide +kernel
theorem dX10_set_29 : decode cX10_set 29 = .ok (.lreturn, 1) := by decide +kernel
set_option maxRecDepth 20000 in
set_option maxHeartbeats 2000000 in
theorem w_X10_set {X : CX} {d : Nat} (hd : 1 ≤ d) (l0 : Nat) (l1 : Int32) (l2 : Int64) (g g' : G) (rx : Int64) (k_l0 : KD g l0 10) (h : f_X10_set l0 l1 l2 g = some (rx, g')) : Sem X m_X10_set d [.ref (ad X l0), .int l1, .long l2] g (some (.long rx)) g' := by
  refine Sem_of (lo := [(0, .ref (ad X l0)), (1, .int l1), (2, .long l2)]) (by decide +kernel) rfl (Nat.le_of_ble_eq_true rfl) ?_
  rw [f_X10_set] at h
  refine SF_iload_n 1 1 dX10_set_0 rfl rfl rfl ?_
  refine SF_iflt 10 4 dX10_set_1 rfl rfl (fun c1 => ?_) (fun c1 => ?_)
  · have h := ite_t c1 h
    refine SF_lconst (0 : Int64) 11 dX10_set_10 rfl rfl ?_
    exact RT_l rfl dX10_set_11 h
  · have h := ite_f c1 h
    refine SF_iload_n 1 5 dX10_set_4 rfl rfl rfl ?_
    refine SF_bipush (40 : Int32) 7 dX10_set_5 rfl rfl ?_
    refine SF_iclt 12 10 dX10_set_7 rfl rfl (fun c2 => ?_) (fun c2 => ?_)
    · have h := ite_t c2 h
      refine SF_aload_n 0 13 dX10_set_12 rfl rfl rfl ?_
      obtain ⟨b3, r4, h⟩ := dr_some h
      refine SF_getR 16 fl_X10_15 dX10_set_13 k_l0.1 r4 rfl ?_
      refine SF_iload_n 1 17 dX10_set_16 rfl rfl rfl ?_
      refine SF_aload_n 0 18 dX10_set_17 rfl rfl rfl ?_
      refine SF_lload_n 2 19 dX10_set_18 rfl rfl rfl ?_
      obtain ⟨v5, g6, q7, h⟩ := bd_some h
      have s8 := w_X10_cut (X := X) (Nat.le_refl 0) l0 l2 g g6 v5 k_l0 q7
      refine SF_callVl 22 mi_X10_cut ml_X10_37 dX10_set_19 (Nat.le_trans (by decide) hd) s8 k_l0.1 rfl rfl (Nat.le_of_ble_eq_true rfl) rfl ?_
      have k_l0 := k_l0.ext s8.1
      obtain ⟨k9, h⟩ := gdK_some h
      obtain ⟨i10, h⟩ := gdI_some h
      refine SF_last 23 dX10_set_22 k9.1 i10 rfl ?_
      obtain ⟨g11, e12, h⟩ := lg_some h
      rw [← e12]
      have k_l0 := KD.eq e12 k_l0
      have k9 := KD.eq e12 k9
      have i10 := vp_eq e12 i10
      refine SF_aload_n 0 24 dX10_set_23 rfl rfl rfl ?_
      obtain ⟨b13, r14, h⟩ := dr_some h
      refine SF_getR 27 fl_X10_15 dX10_set_24 k_l0.1 r14 rfl ?_
      refine SF_iload_n 1 28 dX10_set_27 rfl rfl rfl ?_
      obtain ⟨k15, h⟩ := gdK_some h
      obtain ⟨i16, h⟩ := gdI_some h
      refine SF_lald 29 dX10_set_28 k15.1 i16 rfl ?_
      exact RT_l rfl dX10_set_29 h
    · have h := ite_f c2 h
      refine SF_lconst (0 : Int64) 11 dX10_set_10 rfl rfl ?_
      exact RT_l rfl dX10_set_11 h

theorem dX11_write_0 : decode cX11_write 0 = .ok (.iload_n 1, 1) := by decide +kernel
theorem dX11_write_1 : decode cX11_write 1 = .ok (.invokestatic 219, 3) := by decide +kernel
theorem dX11_write_4 : decode cX11_write 4 = .ok (.ifCond .ne 7, 3) := by decide +kernel
theorem dX11_write_7 : decode cX11_write 7 = .ok (.ldc2_w 286, 3) := by decide +kernel
theorem dX11_write_10 : decode cX11_write 10 = .ok (.lreturn, 1) := by decide +kernel
theorem dX11_write_11 : decode cX11_write 11 = .ok (.aload_n 0, 1) := by decide +kernel
theorem dX11_write_12 : decode cX11_write 12 = .ok (.getfield 60, 3) := by decide +kernel
theorem dX11_write_15 : decode cX11_write 15 = .ok (.iload_n 1, 1) := by decide +kernel
theorem dX11_write_16 : decode cX11_write 16 = .ok (.aaload, 1) := by decide +kernel
theorem dX11_write_17 : decode cX11_write 17 = .ok (.invokevirtual 222, 3) := by decide +kernel
theorem dX11_write_20 : decode cX11_write 20 = .ok (.ifCond .eq 7, 3) := by decide +kernel
theorem dX11_write_23 : decode cX11_write 23 = .ok (.ldc2_w 406, 3) := by decide +kernel
theorem dX11_write_26 : decode cX11_write 26 = .ok (.lreturn, 1) := by decide +kernel
theorem dX11_write_27 : decode cX11_write 27 = .ok (.iload_n 2, 1) := by decide +kernel
theorem dX11_write_28 : decode cX11_write 28 = .ok (.ifCond .lt 16, 3) := by decide +kernel
theorem dX11_write_31 : decode cX11_write 31 = .ok (.iload_n 2, 1) := by decide +kernel
theorem dX11_write_32 : decode cX11_write 32 = .ok (.aload_n 0, 1) := by decide +kernel
theorem dX11_write_33 : decode cX11_write 33 = .ok (.getfield 60, 3) := by decide +kernel
theorem dX11_write_36 : decode cX11_write 36 = .ok (.iload_n 1, 1) := by decide +kernel
theorem dX11_write_37 : decode cX11_write 37 = .ok (.aaload, 1) := by decide +kernel
theorem dX11_write_38 : decode cX11_write 38 = .ok (.getfield 226, 3) := by decide +kernel
theorem dX11_write_41 : decode cX11_write 41 = .ok (.if_icmp .lt 7, 3) := by decide +kernel
theorem dX11_write_44 : decode cX11_write 44 = .ok (.ldc2_w 408, 3) := by decide +kernel
theorem dX11_write_47 : decode cX11_write 47 = .ok (.lreturn, 1) := by decide +kernel
theorem dX11_write_48 : decode cX11_write 48 = .ok (.aload_n 0, 1) := by decide +kernel
theorem dX11_write_49 : decode cX11_write 49 = .ok (.getfield 60, 3) := by decide +kernel
theorem dX11_write_52 : decode cX11_write 52 = .ok (.iload_n 1, 1) := by decide +kernel
theorem dX11_write_53 : decode cX11_write 53 = .ok (.aaload, 1) := by decide +kernel
theorem dX11_write_54 : decode cX11_write 54 = .ok (.iload_n 2, 1) := by decide +kernel
theorem dX11_write_55 : decode cX11_write 55 = .ok (.lload_n 3, 1) := by decide +kernel
theorem dX11_write_56 : decode cX11_write 56 = .ok (.invokevirtual 410, 3) := by decide +kernel
theorem dX11_write_59 : decode cX11_write 59 = .ok (.lreturn, 1) := by decide +kernel
set_option maxRecDepth 20000 in
set_option maxHeartbeats 2000000 in
theorem w_X11_write_44 {X : CX} {d : Nat} (hd : 2 ≤ d) {g' : G} {rx : Int64} (g : G) (h : f_X11_write_44 g = some (rx, g')) : SemF X m_X11_write d 44 [] [] g (some (.long rx)) g' := by
  rw [f_X11_write_44] at h
  refine SF_ldc2 47 dX11_write_44 kl_X11_408 rfl ?_
  exact RT_l rfl dX11_write_47 h

set_option maxRecDepth 20000 in
set_option maxHeartbeats 2000000 in
theorem w_X11_write {X : CX} {d : Nat} (hd : 2 ≤ d) (l0 : Nat) (l1 : Int32) (l2 : Int32) (l3 : Int64) (g g' : G) (rx : Int64) (k_l0 : KD g l0 11) (h : f_X11_write l0 l1 l2 l3 g = some (rx, g')) : Sem X m_X11_write d [.ref (ad X l0), .int l1, .int l2, .long l3] g (some (.long rx)) g' := by
  refine Sem_of (lo := [(0, .ref (ad X l0)), (1, .int l1), (2, .int l2), (3, .long l3)]) (by decide +kernel) rfl (Nat.le_of_ble_eq_true rfl) ?_
  rw [f_X11_write] at h
  refine SF_iload_n 1 1 dX11_write_0 rfl rfl rfl ?_
  obtain ⟨v1, g2, q3, h⟩ := bd_some h
  have s4 := w_X11_isTray (X := X) (Nat.le_refl 0) l1 g g2 v1 q3
  refine SF_callSb 4 mi_X11_isTray ml_X11_219 dX11_write_1 (Nat.le_trans (by decide) hd) s4 rfl rfl (Nat.le_of_ble_eq_true rfl) rfl ?_
  have k_l0 := k_l0.ext s4.1
  refine SF_ifne 11 7 dX11_write_4 rfl rfl (fun c5 => ?_) (fun c5 => ?_)
  · have h := ite_f c5 h
    refine SF_aload_n 0 12 dX11_write_11 rfl rfl rfl ?_
    obtain ⟨b6, r7, h⟩ := dr_some h
    refine SF_getR 15 fl_X11_60 dX11_write_12 k_l0.1 r7 rfl ?_
    refine SF_iload_n 1 16 dX11_write_15 rfl rfl rfl ?_
    obtain ⟨k8, h⟩ := gdK_some h
    obtain ⟨i9, h⟩ := gdI_some h
    obtain ⟨b10, r11, h⟩ := dr_some h
    refine SF_aald 17 dX11_write_16 k8.1 (Or.inr (Or.inl rfl)) i9 r11 rfl ?_
    obtain ⟨k12, h⟩ := gdK_some h
    obtain ⟨v13, g14, q15, h⟩ := bd_some h
    have s16 := w_X10_isMissing (X := X) (Nat.le_refl 0) b10 g2 g14 v13 k12 q15
    refine SF_callVb 20 mi_X10_isMissing ml_X11_222 dX11_write_17 (Nat.le_trans (by decide) hd) s16 k12.1 rfl rfl (Nat.le_of_ble_eq_true rfl) rfl ?_
    have k_l0 := k_l0.ext s16.1
    have k8 := k8.ext s16.1
    have k12 := k12.ext s16.1
    refine SF_ifeq 27 23 dX11_write_20 rfl rfl (fun c17 => ?_) (fun c17 => ?_)
    · have h := ite_t c17 h
      refine SF_iload_n 2 28 dX11_write_27 rfl rfl rfl ?_
      refine SF_iflt 44 31 dX11_write_28 rfl rfl (fun c18 => ?_) (fun c18 => ?_)
      · have h := ite_t c18 h
        refine SF_sub [] rfl ?_
        exact w_X11_write_44 hd g14  h
      · have h := ite_f c18 h
        refine SF_iload_n 2 32 dX11_write_31 rfl rfl rfl ?_
        refine SF_aload_n 0 33 dX11_write_32 rfl rfl rfl ?_
        obtain ⟨b19, r20, h⟩ := dr_some h
        refine SF_getR 36 fl_X11_60 dX11_write_33 k_l0.1 r20 rfl ?_
        refine SF_iload_n 1 37 dX11_write_36 rfl rfl rfl ?_
        obtain ⟨k21, h⟩ := gdK_some h
        obtain ⟨i22, h⟩ := gdI_some h
        obtain ⟨b23, r24, h⟩ := dr_some h
        refine SF_aald 38 dX11_write_37 k21.1 (Or.inr (Or.inl rfl)) i22 r24 rfl ?_
        obtain ⟨k25, h⟩ := gdK_some h
        refine SF_getI 41 fl_X11_226 dX11_write_38 k25.1 rfl ?_
        refine SF_iclt 48 44 dX11_write_41 rfl rfl (fun c26 => ?_) (fun c26 => ?_)
        · have h := ite_t c26 h
          refine SF_aload_n 0 49 dX11_write_48 rfl rfl rfl ?_
          refine SF_getR 52 fl_X11_60 dX11_write_49 k_l0.1 r20 rfl ?_
          refine SF_iload_n 1 53 dX11_write_52 rfl rfl rfl ?_
          obtain ⟨b27, r28, h⟩ := dr_some h
          refine SF_aald 54 dX11_write_53 k21.1 (Or.inr (Or.inl rfl)) i22 r28 rfl ?_
          refine SF_iload_n 2 55 dX11_write_54 rfl rfl rfl ?_
          refine SF_lload_n 3 56 dX11_write_55 rfl rfl rfl ?_
          obtain ⟨k29, h⟩ := gdK_some h
          obtain ⟨v30, g31, q32, h⟩ := bd_some h
          have s33 := w_X10_set (X := X) (Nat.le_refl 1) b27 l2 l3 g14 g31 v30 k29 q32
          refine SF_callVl 59 mi_X10_set ml_X11_410 dX11_write_56 (Nat.le_trans (by decide) hd) s33 k29.1 rfl rfl (Nat.le_of_ble_eq_true rfl) rfl ?_
          have k_l0 := k_l0.ext s33.1
          have k8 := k8.ext s33.1
          have k12 := k12.ext s33.1
          have k21 := k21.ext s33.1
          have k25 := k25.ext s33.1
          have k29 := k29.ext s33.1
          exact RT_l rfl dX11_write_59 h
        · have h := ite_f c26 h
          refine SF_sub [] rfl ?_
          exact w_X11_write_44 hd g14  h
    · have h := ite_f c17 h
      refine SF_ldc2 26 dX11_write_23 kl_X11_406 rfl ?_
      exact RT_l rfl dX11_write_26 h
  · have h := ite_t c5 h
    refine SF_ldc2 10 dX11_write_7 kl_X11_286 rfl ?_
    exact RT_l rfl dX11_write_10 h

theorem dX12_cut_0 : decode cX12_cut 0 = .ok (.iload_n 2, 1) := by decide +kernel
theorem dX12_cut_1 : decode cX12_cut 1 = .ok (.ifCond .ne 10, 3) := by decide +kernel
theorem dX12_cut_4 : decode cX12_cut 4 = .ok (.lload_n 0, 1) := by decide +kernel
theorem dX12_cut_5 : decode cX12_cut 5 = .ok (.l2i, 1) := by decide +kernel
theorem dX12_cut_6 : decode cX12_cut 6 = .ok (.i2b, 1) := by decide +kernel
theorem dX12_cut_7 : decode cX12_cut 7 = .ok (.i2l, 1) := by decide +kernel
theorem dX12_cut_8 : decode cX12_cut 8 = .ok (.goto 27, 3) := by decide +kernel
theorem dX12_cut_11 : decode cX12_cut 11 = .ok (.iload_n 2, 1) := by decide +kernel
theorem dX12_cut_12 : decode cX12_cut 12 = .ok (.iconst 1, 1) := by decide +kernel
theorem dX12_cut_13 : decode cX12_cut 13 = .ok (.if_icmp .ne 10, 3) := by decide +kernel
theorem dX12_cut_16 : decode cX12_cut 16 = .ok (.lload_n 0, 1) := by decide +kernel
theorem dX12_cut_17 : decode cX12_cut 17 = .ok (.l2i, 1) := by decide +kernel
theorem dX12_cut_18 : decode cX12_cut 18 = .ok (.i2s, 1) := by decide +kernel
theorem dX12_cut_19 : decode cX12_cut 19 = .ok (.i2l, 1) := by decide +kernel
theorem dX12_cut_20 : decode cX12_cut 20 = .ok (.goto 15, 3) := by decide +kernel
theorem dX12_cut_23 : decode cX12_cut 23 = .ok (.iload_n 2, 1) := by decide +kernel
theorem dX12_cut_24 : decode cX12_cut 24 = .ok (.iconst 2, 1) := by decide +kernel
theorem dX12_cut_25 : decode cX12_cut 25 = .ok (.if_icmp .ne 9, 3) := by decide +kernel
theorem dX12_cut_28 : decode cX12_cut 28 = .ok (.lload_n 0, 1) := by decide +kernel
theorem dX12_cut_29 : decode cX12_cut 29 = .ok (.l2i, 1) := by decide +kernel
theorem dX12_cut_30 : decode cX12_cut 30 = .ok (.i2l, 1) := by decide +kernel
theorem dX12_cut_31 : decode cX12_cut 31 = .ok (.goto 4, 3) := by decide +kernel
theorem dX12_cut_34 : decode cX12_cut 34 = .ok (.lload_n 0, 1) := by decide +kernel
theorem dX12_cut_35 : decode cX12_cut 35 = .ok (.lreturn, 1) := by decide +kernel
set_option maxRecDepth 20000 in
set_option maxHeartbeats 2000000 in
theorem w_X12_cut {X : CX} {d : Nat} (hd : 0 ≤ d) (l0 : Int64) (l2 : Int32) (g g' : G) (rx : Int64) (h : f_X12_cut l0 l2 g = some (rx, g')) : Sem X m_X12_cut d [.long l0, .int l2] g (some (.long rx)) g' := by
  refine Sem_of (lo := [(0, .long l0), (2, .int l2)]) (by decide +kernel) rfl (Nat.le_of_ble_eq_true rfl) ?_
  rw [f_X12_cut] at h
  refine SF_iload_n 1 1 dX12_cut_0 rfl rfl rfl ?_
  refine SF_ifne 11 4 dX12_cut_1 rfl rfl (fun c1 => ?_) (fun c1 => ?_)
  · have h := ite_f c1 h
    refine SF_iload_n 1 12 dX12_cut_11 rfl rfl rfl ?_
    refine SF_iconst (1 : Int32) 13 dX12_cut_12 rfl rfl ?_
    refine SF_icne 23 16 dX12_cut_13 rfl rfl (fun c2 => ?_) (fun c2 => ?_)
    · have h := ite_f c2 h
      refine SF_iload_n 1 24 dX12_cut_23 rfl rfl rfl ?_
      refine SF_iconst (2 : Int32) 25 dX12_cut_24 rfl rfl ?_
      refine SF_icne 34 28 dX12_cut_25 rfl rfl (fun c3 => ?_) (fun c3 => ?_)
      · have h := ite_f c3 h
        refine SF_lload_n 0 35 dX12_cut_34 rfl rfl rfl ?_
        exact RT_l rfl dX12_cut_35 h
      · have h := ite_t c3 h
        refine SF_lload_n 0 29 dX12_cut_28 rfl rfl rfl ?_
        refine SF_l2i 30 dX12_cut_29 rfl ?_
        refine SF_i2l 31 dX12_cut_30 rfl ?_
        refine SF_goto 35 dX12_cut_31 rfl ?_
        exact RT_l rfl dX12_cut_35 h
    · have h := ite_t c2 h
      refine SF_lload_n 0 17 dX12_cut_16 rfl rfl rfl ?_
      refine SF_l2i 18 dX12_cut_17 rfl ?_
      refine SF_i2s 19 dX12_cut_18 rfl ?_
      refine SF_i2l 20 dX12_cut_19 rfl ?_
      refine SF_goto 35 dX12_cut_20 rfl ?_
      exact RT_l rfl dX12_cut_35 h
  · have h := ite_t c1 h
    refine SF_lload_n 0 5 dX12_cut_4 rfl rfl rfl ?_
    refine SF_l2i 6 dX12_cut_5 rfl ?_
    refine SF_i2b 7 dX12_cut_6 rfl ?_
    refine SF_i2l 8 dX12_cut_7 rfl ?_
    refine SF_goto 35 dX12_cut_8 rfl ?_
    exact RT_l rfl dX12_cut_35 h

theorem dX12_write_0 : decode cX12_write 0 = .ok (.aload_n 0, 1) := by decide +kernel
theorem dX12_write_1 : decode cX12_write 1 = .ok (.iconst 0, 1) := by decide +kernel
theorem dX12_write_2 : decode cX12_write 2 = .ok (.putfield 1, 3) := by decide +kernel
theorem dX12_write_5 : decode cX12_write 5 = .ok (.aload_n 0, 1) := by decide +kernel
theorem dX12_write_6 : decode cX12_write 6 = .ok (.iload_n 1, 1) := by decide +kernel
theorem dX12_write_7 : decode cX12_write 7 = .ok (.invokevirtual 320, 3) := by decide +kernel
theorem dX12_write_10 : decode cX12_write 10 = .ok (.istore 5, 2) := by decide +kernel
theorem dX12_write_12 : decode cX12_write 12 = .ok (.iload 5, 2) := by decide +kernel
theorem dX12_write_14 : decode cX12_write 14 = .ok (.ifCond .eq 7, 3) := by decide +kernel
theorem dX12_write_17 : decode cX12_write 17 = .ok (.iload 5, 2) := by decide +kernel
theorem dX12_write_19 : decode cX12_write 19 = .ok (.i2l, 1) := by decide +kernel
theorem dX12_write_20 : decode cX12_write 20 = .ok (.lreturn, 1) := by decide +kernel
theorem dX12_write_21 : decode cX12_write 21 = .ok (.iload_n 2, 1) := by decide +kernel
theorem dX12_write_22 : decode cX12_write 22 = .ok (.i2l, 1) := by decide +kernel
theorem dX12_write_23 : decode cX12_write 23 = .ok (.lconst 0, 1) := by decide +kernel
theorem dX12_write_24 : decode cX12_write 24 = .ok (.aload_n 0, 1) := by decide +kernel
theorem dX12_write_25 : decode cX12_write 25 = .ok (.getfield 67, 3) := by decide +kernel
theorem dX12_write_28 : decode cX12_write 28 = .ok (.iload_n 1, 1) := by decide +kernel
theorem dX12_write_29 : decode cX12_write 29 = .ok (.iaload, 1) := by decide +kernel
theorem dX12_write_30 : decode cX12_write 30 = .ok (.iconst 1, 1) := by decide +kernel
theorem dX12_write_31 : decode cX12_write 31 = .ok (.isub, 1) := by decide +kernel
theorem dX12_write_32 : decode cX12_write 32 = .ok (.i2l, 1) := by decide +kernel
theorem dX12_write_33 : decode cX12_write 33 = .ok (.invokestatic 139, 3) := by decide +kernel
theorem dX12_write_36 : decode cX12_write 36 = .ok (.ifCond .ne 7, 3) := by decide +kernel
theorem dX12_write_39 : decode cX12_write 39 = .ok (.ldc2_w 483, 3) := by decide +kernel
theorem dX12_write_42 : decode cX12_write 42 = .ok (.lreturn, 1) := by decide +kernel
theorem dX12_write_43 : decode cX12_write 43 = .ok (.aload_n 0, 1) := by decide +kernel
theorem dX12_write_44 : decode cX12_write 44 = .ok (.getfield 70, 3) := by decide +kernel
theorem dX12_write_47 : decode cX12_write 47 = .ok (.bipush 40, 2) := by decide +kernel
theorem dX12_write_49 : decode cX12_write 49 = .ok (.iload_n 1, 1) := by decide +kernel
theorem dX12_write_50 : decode cX12_write 50 = .ok (.imul, 1) := by decide +kernel
theorem dX12_write_51 : decode cX12_write 51 = .ok (.iload_n 2, 1) := by decide +kernel
theorem dX12_write_52 : decode cX12_write 52 = .ok (.iadd, 1) := by decide +kernel
theorem dX12_write_53 : decode cX12_write 53 = .ok (.lload_n 3, 1) := by decide +kernel
theorem dX12_write_54 : decode cX12_write 54 = .ok (.aload_n 0, 1) := by decide +kernel
theorem dX12_write_55 : decode cX12_write 55 = .ok (.getfield 64, 3) := by decide +kernel
theorem dX12_write_58 : decode cX12_write 58 = .ok (.iload_n 1, 1) := by decide +kernel
theorem dX12_write_59 : decode cX12_write 59 = .ok (.iaload, 1) := by decide +kernel
theorem dX12_write_60 : decode cX12_write 60 = .ok (.invokestatic 485, 3) := by decide +kernel
theorem dX12_write_63 : decode cX12_write 63 = .ok (.lastore, 1) := by decide +kernel
theorem dX12_write_64 : decode cX12_write 64 = .ok (.aload_n 0, 1) := by decide +kernel
theorem dX12_write_65 : decode cX12_write 65 = .ok (.getfield 70, 3) := by decide +kernel
theorem dX12_write_68 : decode cX12_write 68 = .ok (.bipush 40, 2) := by decide +kernel
theorem dX12_write_70 : decode cX12_write 70 = .ok (.iload_n 1, 1) := by decide +kernel
theorem dX12_write_71 : decode cX12_write 71 = .ok (.imul, 1) := by decide +kernel
theorem dX12_write_72 : decode cX12_write 72 = .ok (.iload_n 2, 1) := by decide +kernel
theorem dX12_write_73 : decode cX12_write 73 = .ok (.iadd, 1) := by decide +kernel
theorem dX12_write_74 : decode cX12_write 74 = .ok (.laload, 1) := by decide +kernel
theorem dX12_write_75 : decode cX12_write 75 = .ok (.lreturn, 1) := by decide +kernel
set_option maxRecDepth 20000 in
set_option maxHeartbeats 2000000 in
theorem w_X12_write {X : CX} {d : Nat} (hd : 2 ≤ d) (l0 : Nat) (l1 : Int32) (l2 : Int32) (l3 : Int64) (g g' : G) (rx : Int64) (k_l0 : KD g l0 12) (h : f_X12_write l0 l1 l2 l3 g = some (rx, g')) : Sem X m_X12_write d [.ref (ad X l0), .int l1, .int l2, .long l3] g (some (.long rx)) g' := by
  refine Sem_of (lo := [(0, .ref (ad X l0)), (1, .int l1), (2, .int l2), (3, .long l3)]) (by decide +kernel) rfl (Nat.le_of_ble_eq_true rfl) ?_
  rw [f_X12_write] at h
  refine SF_aload_n 0 1 dX12_write_0 rfl rfl rfl ?_
  refine SF_iconst (0 : Int32) 2 dX12_write_1 rfl rfl ?_
  refine SF_putI 5 fl_X12_1 dX12_write_2 k_l0.1 (fn_int _) (Or.inl rfl) rfl ?_
  obtain ⟨g1, e2, h⟩ := lg_some h
  rw [← e2]
  have k_l0 := KD.eq e2 k_l0
  refine SF_aload_n 0 6 dX12_write_5 rfl rfl rfl ?_
  refine SF_iload_n 1 7 dX12_write_6 rfl rfl rfl ?_
  obtain ⟨v3, g4, q5, h⟩ := bd_some h
  have s6 := w_X12_noTray (X := X) (Nat.le_refl 1) l0 l1 g1 g4 v3 k_l0 q5
  refine SF_callVi 10 mi_X12_noTray ml_X12_320 dX12_write_7 (Nat.le_trans (by decide) hd) s6 k_l0.1 rfl rfl (Nat.le_of_ble_eq_true rfl) rfl ?_
  have k_l0 := k_l0.ext s6.1
  refine SF_istore [(5, .int v3), (0, .ref (ad X l0)), (1, .int l1), (2, .int l2), (3, .long l3)] 12 dX12_write_10 (by decide) rfl rfl ?_
  refine SF_iload 0 14 dX12_write_12 rfl rfl ?_
  refine SF_ifeq 21 17 dX12_write_14 rfl rfl (fun c7 => ?_) (fun c7 => ?_)
  · have h := ite_t c7 h
    refine SF_iload_n 3 22 dX12_write_21 rfl rfl rfl ?_
    refine SF_i2l 23 dX12_write_22 rfl ?_
    refine SF_lconst (0 : Int64) 24 dX12_write_23 rfl rfl ?_
    refine SF_aload_n 1 25 dX12_write_24 rfl rfl rfl ?_
    obtain ⟨b8, r9, h⟩ := dr_some h
    refine SF_getR 28 fl_X12_67 dX12_write_25 k_l0.1 r9 rfl ?_
    refine SF_iload_n 2 29 dX12_write_28 rfl rfl rfl ?_
    obtain ⟨k10, h⟩ := gdK_some h
    obtain ⟨i11, h⟩ := gdI_some h
    refine SF_iald 30 dX12_write_29 k10.1 i11 rfl ?_
    refine SF_iconst (1 : Int32) 31 dX12_write_30 rfl rfl ?_
    refine SF_isub 32 dX12_write_31 rfl ?_
    refine SF_i2l 33 dX12_write_32 rfl ?_
    obtain ⟨v12, g13, q14, h⟩ := bd_some h
    have s15 := w_X12_within (X := X) (Nat.le_refl 0) (l2.toInt64) (0 : Int64) (((gI g4 b8 l1.toNatClampNeg) - (1 : Int32)).toInt64) g4 g13 v12 q14
    refine SF_callSb 36 mi_X12_within ml_X12_139 dX12_write_33 (Nat.le_trans (by decide) hd) s15 rfl rfl (Nat.le_of_ble_eq_true rfl) rfl ?_
    have k_l0 := k_l0.ext s15.1
    have k10 := k10.ext s15.1
    refine SF_ifne 43 39 dX12_write_36 rfl rfl (fun c16 => ?_) (fun c16 => ?_)
    · have h := ite_f c16 h
      refine SF_aload_n 1 44 dX12_write_43 rfl rfl rfl ?_
      obtain ⟨b17, r18, h⟩ := dr_some h
      refine SF_getR 47 fl_X12_70 dX12_write_44 k_l0.1 r18 rfl ?_
      refine SF_bipush (40 : Int32) 49 dX12_write_47 rfl rfl ?_
      refine SF_iload_n 2 50 dX12_write_49 rfl rfl rfl ?_
      refine SF_imul 51 dX12_write_50 rfl ?_
      refine SF_iload_n 3 52 dX12_write_51 rfl rfl rfl ?_
      refine SF_iadd 53 dX12_write_52 rfl ?_
      refine SF_lload_n 4 54 dX12_write_53 rfl rfl rfl ?_
      refine SF_aload_n 1 55 dX12_write_54 rfl rfl rfl ?_
      obtain ⟨b19, r20, h⟩ := dr_some h
      refine SF_getR 58 fl_X12_64 dX12_write_55 k_l0.1 r20 rfl ?_
      refine SF_iload_n 2 59 dX12_write_58 rfl rfl rfl ?_
      obtain ⟨k21, h⟩ := gdK_some h
      obtain ⟨i22, h⟩ := gdI_some h
      refine SF_iald 60 dX12_write_59 k21.1 i22 rfl ?_
      obtain ⟨v23, g24, q25, h⟩ := bd_some h
      have s26 := w_X12_cut (X := X) (Nat.le_refl 0) l3 (gI g13 b19 l1.toNatClampNeg) g13 g24 v23 q25
      refine SF_callSl 63 mi_X12_cut ml_X12_485 dX12_write_60 (Nat.le_trans (by decide) hd) s26 rfl rfl (Nat.le_of_ble_eq_true rfl) rfl ?_
      have k_l0 := k_l0.ext s26.1
      have k10 := k10.ext s26.1
      have k21 := k21.ext s26.1
      obtain ⟨k27, h⟩ := gdK_some h
      obtain ⟨i28, h⟩ := gdI_some h
      refine SF_last 64 dX12_write_63 k27.1 i28 rfl ?_
      obtain ⟨g29, e30, h⟩ := lg_some h
      rw [← e30]
      have k_l0 := KD.eq e30 k_l0
      have k10 := KD.eq e30 k10
      have k21 := KD.eq e30 k21
      have k27 := KD.eq e30 k27
      have i28 := vp_eq e30 i28
      refine SF_aload_n 1 65 dX12_write_64 rfl rfl rfl ?_
      obtain ⟨b31, r32, h⟩ := dr_some h
      refine SF_getR 68 fl_X12_70 dX12_write_65 k_l0.1 r32 rfl ?_
      refine SF_bipush (40 : Int32) 70 dX12_write_68 rfl rfl ?_
      refine SF_iload_n 2 71 dX12_write_70 rfl rfl rfl ?_
      refine SF_imul 72 dX12_write_71 rfl ?_
      refine SF_iload_n 3 73 dX12_write_72 rfl rfl rfl ?_
      refine SF_iadd 74 dX12_write_73 rfl ?_
      obtain ⟨k33, h⟩ := gdK_some h
      obtain ⟨i34, h⟩ := gdI_some h
      refine SF_lald 75 dX12_write_74 k33.1 i34 rfl ?_
      exact RT_l rfl dX12_write_75 h
    · have h := ite_t c16 h
      refine SF_ldc2 42 dX12_write_39 kl_X12_483 rfl ?_
      exact RT_l rfl dX12_write_42 h
  · have h := ite_f c7 h
    refine SF_iload 0 19 dX12_write_17 rfl rfl ?_
    refine SF_i2l 20 dX12_write_19 rfl ?_
    exact RT_l rfl dX12_write_20 h

theorem dX11_lists_0 : decode cX11_lists 0 = .ok (.iload_n 1, 1) := by decide +kernel
theorem dX11_lists_1 : decode cX11_lists 1 = .ok (.invokestatic 219, 3) := by decide +kernel
theorem dX11_lists_4 : decode cX11_lists 4 = .ok (.ifCond .eq 14, 3) := by decide +kernel
theorem dX11_lists_7 : decode cX11_lists 7 = .ok (.aload_n 0, 1) := by decide +kernel
theorem dX11_lists_8 : decode cX11_lists 8 = .ok (.iload_n 2, 1) := by decide +kernel
theorem dX11_lists_9 : decode cX11_lists 9 = .ok (.iload_n 3, 1) := by decide +kernel
theorem dX11_lists_10 : decode cX11_lists 10 = .ok (.iload 4, 2) := by decide +kernel
theorem dX11_lists_12 : decode cX11_lists 12 = .ok (.invokevirtual 255, 3) := by decide +kernel
theorem dX11_lists_15 : decode cX11_lists 15 = .ok (.ifCond .ne 6, 3) := by decide +kernel
theorem dX11_lists_18 : decode cX11_lists 18 = .ok (.bipush (-2), 2) := by decide +kernel
theorem dX11_lists_20 : decode cX11_lists 20 = .ok (.ireturn, 1) := by decide +kernel
theorem dX11_lists_21 : decode cX11_lists 21 = .ok (.aload_n 0, 1) := by decide +kernel
theorem dX11_lists_22 : decode cX11_lists 22 = .ok (.getfield 60, 3) := by decide +kernel
theorem dX11_lists_25 : decode cX11_lists 25 = .ok (.iload_n 1, 1) := by decide +kernel
theorem dX11_lists_26 : decode cX11_lists 26 = .ok (.aaload, 1) := by decide +kernel
theorem dX11_lists_27 : decode cX11_lists 27 = .ok (.astore 5, 2) := by decide +kernel
theorem dX11_lists_29 : decode cX11_lists 29 = .ok (.aload 5, 2) := by decide +kernel
theorem dX11_lists_31 : decode cX11_lists 31 = .ok (.invokevirtual 222, 3) := by decide +kernel
theorem dX11_lists_34 : decode cX11_lists 34 = .ok (.ifCond .eq 6, 3) := by decide +kernel
theorem dX11_lists_37 : decode cX11_lists 37 = .ok (.bipush (-6), 2) := by decide +kernel
theorem dX11_lists_39 : decode cX11_lists 39 = .ok (.ireturn, 1) := by decide +kernel
theorem dX11_lists_40 : decode cX11_lists 40 = .ok (.aload_n 0, 1) := by decide +kernel
theorem dX11_lists_41 : decode cX11_lists 41 = .ok (.iload_n 2, 1) := by decide +kernel
theorem dX11_lists_42 : decode cX11_lists 42 = .ok (.invokevirtual 259, 3) := by decide +kernel
theorem dX11_lists_45 : decode cX11_lists 45 = .ok (.astore 6, 2) := by decide +kernel
theorem dX11_lists_47 : decode cX11_lists 47 = .ok (.aload 6, 2) := by decide +kernel
theorem dX11_lists_49 : decode cX11_lists 49 = .ok (.iload_n 3, 1) := by decide +kernel
theorem dX11_lists_50 : decode cX11_lists 50 = .ok (.iload 4, 2) := by decide +kernel
theorem dX11_lists_52 : decode cX11_lists 52 = .ok (.invokevirtual 263, 3) := by decide +kernel
theorem dX11_lists_55 : decode cX11_lists 55 = .ok (.istore 7, 2) := by decide +kernel
theorem dX11_lists_57 : decode cX11_lists 57 = .ok (.iload 7, 2) := by decide +kernel
theorem dX11_lists_59 : decode cX11_lists 59 = .ok (.iconst (-1), 1) := by decide +kernel
theorem dX11_lists_60 : decode cX11_lists 60 = .ok (.if_icmp .ne 6, 3) := by decide +kernel
theorem dX11_lists_63 : decode cX11_lists 63 = .ok (.bipush (-5), 2) := by decide +kernel
theorem dX11_lists_65 : decode cX11_lists 65 = .ok (.ireturn, 1) := by decide +kernel
theorem dX11_lists_66 : decode cX11_lists 66 = .ok (.aload 6, 2) := by decide +kernel
theorem dX11_lists_68 : decode cX11_lists 68 = .ok (.iload 7, 2) := by decide +kernel
theorem dX11_lists_70 : decode cX11_lists 70 = .ok (.invokevirtual 266, 3) := by decide +kernel
theorem dX11_lists_73 : decode cX11_lists 73 = .ok (.aload 5, 2) := by decide +kernel
theorem dX11_lists_75 : decode cX11_lists 75 = .ok (.getfield 226, 3) := by decide +kernel
theorem dX11_lists_78 : decode cX11_lists 78 = .ok (.invokestatic 377, 3) := by decide +kernel
theorem dX11_lists_81 : decode cX11_lists 81 = .ok (.istore 8, 2) := by decide +kernel
theorem dX11_lists_83 : decode cX11_lists 83 = .ok (.iconst 0, 1) := by decide +kernel
theorem dX11_lists_84 : decode cX11_lists 84 = .ok (.istore 9, 2) := by decide +kernel
theorem dX11_lists_86 : decode cX11_lists 86 = .ok (.iload 9, 2) := by decide +kernel
theorem dX11_lists_88 : decode cX11_lists 88 = .ok (.iload 8, 2) := by decide +kernel
theorem dX11_lists_90 : decode cX11_lists 90 = .ok (.if_icmp .ge 37, 3) := by decide +kernel
theorem dX11_lists_93 : decode cX11_lists 93 = .ok (.aload 5, 2) := by decide +kernel
theorem dX11_lists_95 : decode cX11_lists 95 = .ok (.iload 9, 2) := by decide +kernel
theorem dX11_lists_97 : decode cX11_lists 97 = .ok (.ldc2_w 414, 3) := by decide +kernel
theorem dX11_lists_100 : decode cX11_lists 100 = .ok (.iload_n 2, 1) := by decide +kernel
theorem dX11_lists_101 : decode cX11_lists 101 = .ok (.i2l, 1) := by decide +kernel
theorem dX11_lists_102 : decode cX11_lists 102 = .ok (.lmul, 1) := by decide +kernel
theorem dX11_lists_103 : decode cX11_lists 103 = .ok (.aload 6, 2) := by decide +kernel
theorem dX11_lists_105 : decode cX11_lists 105 = .ok (.iload 7, 2) := by decide +kernel
theorem dX11_lists_107 : decode cX11_lists 107 = .ok (.iload 9, 2) := by decide +kernel
theorem dX11_lists_109 : decode cX11_lists 109 = .ok (.invokevirtual 269, 3) := by decide +kernel
theorem dX11_lists_112 : decode cX11_lists 112 = .ok (.invokestatic 272, 3) := by decide +kernel
theorem dX11_lists_115 : decode cX11_lists 115 = .ok (.i2l, 1) := by decide +kernel
theorem dX11_lists_116 : decode cX11_lists 116 = .ok (.ladd, 1) := by decide +kernel
theorem dX11_lists_117 : decode cX11_lists 117 = .ok (.invokevirtual 410, 3) := by decide +kernel
theorem dX11_lists_120 : decode cX11_lists 120 = .ok (.pop2, 1) := by decide +kernel
theorem dX11_lists_121 : decode cX11_lists 121 = .ok (.iinc 9 1, 3) := by decide +kernel
theorem dX11_lists_124 : decode cX11_lists 124 = .ok (.goto (-38), 3) := by decide +kernel
theorem dX11_lists_127 : decode cX11_lists 127 = .ok (.iload 8, 2) := by decide +kernel
theorem dX11_lists_129 : decode cX11_lists 129 = .ok (.ireturn, 1) := by decide +kernel
set_option maxRecDepth 20000 in
set_option maxHeartbeats 2000000 in
theorem w_X11_lists_86 {X : CX} {d : Nat} (hd : 7 ≤ d) {g' : G} {rx : Int32} : ∀ (n : Nat) (l2 : Int32) (l5 : Nat) (l6 : Nat) (l7 : Int32) (l8 : Int32) (l9 : Int32) (g : G), KD g l5 10 → KD g l6 4 → f_X11_lists_86 n l2 l5 l6 l7 l8 l9 g = some (rx, g') → SemF X m_X11_lists d 86 [(2, .int l2), (5, .ref (ad X l5)), (6, .ref (ad X l6)), (7, .int l7), (8, .int l8), (9, .int l9)] [] g (some (.int rx)) g' := by
  intro n
  induction n with
  | zero =>
    intro l2 l5 l6 l7 l8 l9 g k_l5 k_l6 h
    rw [f_X11_lists_86] at h
    cases h
  | succ n ih =>
  intro l2 l5 l6 l7 l8 l9 g k_l5 k_l6 h
  rw [f_X11_lists_86] at h
  refine SF_iload 5 88 dX11_lists_86 rfl rfl ?_
  refine SF_iload 4 90 dX11_lists_88 rfl rfl ?_
  refine SF_icge 127 93 dX11_lists_90 rfl rfl (fun c1 => ?_) (fun c1 => ?_)
  · have h := ite_t c1 h
    refine SF_iload 4 129 dX11_lists_127 rfl rfl ?_
    exact RT_i rfl dX11_lists_129 h
  · have h := ite_f c1 h
    refine SF_aload 1 95 dX11_lists_93 rfl rfl ?_
    refine SF_iload 5 97 dX11_lists_95 rfl rfl ?_
    refine SF_ldc2 100 dX11_lists_97 kl_X11_414 rfl ?_
    refine SF_iload_n 0 101 dX11_lists_100 rfl rfl rfl ?_
    refine SF_i2l 102 dX11_lists_101 rfl ?_
    refine SF_lmul 103 dX11_lists_102 rfl ?_
    refine SF_aload 2 105 dX11_lists_103 rfl rfl ?_
    refine SF_iload 3 107 dX11_lists_105 rfl rfl ?_
    refine SF_iload 5 109 dX11_lists_107 rfl rfl ?_
    obtain ⟨v2, g3, q4, h⟩ := bd_some h
    have s5 := w_X4_leadAt (X := X) (Nat.le_refl 2) l6 l7 l9 g g3 v2 k_l6 q4
    refine SF_callVi 112 mi_X4_leadAt ml_X11_269 dX11_lists_109 (Nat.le_trans (by decide) hd) s5 k_l6.1 rfl rfl (Nat.le_of_ble_eq_true rfl) rfl ?_
    have k_l5 := k_l5.ext s5.1
    have k_l6 := k_l6.ext s5.1
    obtain ⟨v6, g7, q8, h⟩ := bd_some h
    have s9 := w_X11_told (X := X) (Nat.le_refl 0) v2 g3 g7 v6 q8
    refine SF_callSi 115 mi_X11_told ml_X11_272 dX11_lists_112 (Nat.le_trans (by decide) hd) s9 rfl rfl (Nat.le_of_ble_eq_true rfl) rfl ?_
    have k_l5 := k_l5.ext s9.1
    have k_l6 := k_l6.ext s9.1
    refine SF_i2l 116 dX11_lists_115 rfl ?_
    refine SF_ladd 117 dX11_lists_116 rfl ?_
    obtain ⟨v10, g11, q12, h⟩ := bd_some h
    have s13 := w_X10_set (X := X) (Nat.le_refl 1) l5 l9 (((100 : Int64) * (l2.toInt64)) + (v6.toInt64)) g7 g11 v10 k_l5 q12
    refine SF_callVl 120 mi_X10_set ml_X11_410 dX11_lists_117 (Nat.le_trans (by decide) hd) s13 k_l5.1 rfl rfl (Nat.le_of_ble_eq_true rfl) rfl ?_
    have k_l5 := k_l5.ext s13.1
    have k_l6 := k_l6.ext s13.1
    refine SF_pop2_2 121 dX11_lists_120 rfl rfl ?_
    refine SF_iinc 5 (l9 + (1 : Int32)) [(9, .int (l9 + (1 : Int32))), (2, .int l2), (5, .ref (ad X l5)), (6, .ref (ad X l6)), (7, .int l7), (8, .int l8)] 124 dX11_lists_121 rfl rfl (by decide) rfl rfl ?_
    refine SF_goto 86 dX11_lists_124 rfl ?_
    refine SF_sub [1, 2, 3, 4, 5, 0] rfl ?_
    exact ih l2 l5 l6 l7 l8 (l9 + (1 : Int32)) g11 k_l5 k_l6 h

set_option maxRecDepth 20000 in
set_option maxHeartbeats 2000000 in
theorem w_X11_lists {X : CX} {d : Nat} (hd : 7 ≤ d) (l0 : Nat) (l1 : Int32) (l2 : Int32) (l3 : Int32) (l4 : Int32) (g g' : G) (rx : Int32) (k_l0 : KD g l0 11) (h : f_X11_lists l0 l1 l2 l3 l4 g = some (rx, g')) : Sem X m_X11_lists d [.ref (ad X l0), .int l1, .int l2, .int l3, .int l4] g (some (.int rx)) g' := by
  refine Sem_of (lo := [(0, .ref (ad X l0)), (1, .int l1), (2, .int l2), (3, .int l3), (4, .int l4)]) (by decide +kernel) rfl (Nat.le_of_ble_eq_true rfl) ?_
  rw [f_X11_lists] at h
  refine SF_iload_n 1 1 dX11_lists_0 rfl rfl rfl ?_
  obtain ⟨v1, g2, q3, h⟩ := bd_some h
  have s4 := w_X11_isTray (X := X) (Nat.le_refl 0) l1 g g2 v1 q3
  refine SF_callSb 4 mi_X11_isTray ml_X11_219 dX11_lists_1 (Nat.le_trans (by decide) hd) s4 rfl rfl (Nat.le_of_ble_eq_true rfl) rfl ?_
  have k_l0 := k_l0.ext s4.1
  refine SF_ifeq 18 7 dX11_lists_4 rfl rfl (fun c5 => ?_) (fun c5 => ?_)
  · have h := ite_t c5 h
    refine SF_bipush (-2 : Int32) 20 dX11_lists_18 rfl rfl ?_
    exact RT_i rfl dX11_lists_20 h
  · have h := ite_f c5 h
    refine SF_aload_n 0 8 dX11_lists_7 rfl rfl rfl ?_
    refine SF_iload_n 2 9 dX11_lists_8 rfl rfl rfl ?_
    refine SF_iload_n 3 10 dX11_lists_9 rfl rfl rfl ?_
    refine SF_iload 4 12 dX11_lists_10 rfl rfl ?_
    obtain ⟨v6, g7, q8, h⟩ := bd_some h
    have s9 := w_X11_isGoal (X := X) (Nat.le_refl 2) l0 l2 l3 l4 g2 g7 v6 k_l0 q8
    refine SF_callVb 15 mi_X11_isGoal ml_X11_255 dX11_lists_12 (Nat.le_trans (by decide) hd) s9 k_l0.1 rfl rfl (Nat.le_of_ble_eq_true rfl) rfl ?_
    have k_l0 := k_l0.ext s9.1
    refine SF_ifne 21 18 dX11_lists_15 rfl rfl (fun c10 => ?_) (fun c10 => ?_)
    · have h := ite_f c10 h
      refine SF_aload_n 0 22 dX11_lists_21 rfl rfl rfl ?_
      obtain ⟨b11, r12, h⟩ := dr_some h
      refine SF_getR 25 fl_X11_60 dX11_lists_22 k_l0.1 r12 rfl ?_
      refine SF_iload_n 1 26 dX11_lists_25 rfl rfl rfl ?_
      obtain ⟨k13, h⟩ := gdK_some h
      obtain ⟨i14, h⟩ := gdI_some h
      obtain ⟨b15, r16, h⟩ := dr_some h
      refine SF_aald 27 dX11_lists_26 k13.1 (Or.inr (Or.inl rfl)) i14 r16 rfl ?_
      refine SF_astore [(5, .ref (ad X b15)), (0, .ref (ad X l0)), (1, .int l1), (2, .int l2), (3, .int l3), (4, .int l4)] 29 dX11_lists_27 (by decide) rfl rfl ?_
      refine SF_aload 0 31 dX11_lists_29 rfl rfl ?_
      obtain ⟨k17, h⟩ := gdK_some h
      obtain ⟨v18, g19, q20, h⟩ := bd_some h
      have s21 := w_X10_isMissing (X := X) (Nat.le_refl 0) b15 g7 g19 v18 k17 q20
      refine SF_callVb 34 mi_X10_isMissing ml_X11_222 dX11_lists_31 (Nat.le_trans (by decide) hd) s21 k17.1 rfl rfl (Nat.le_of_ble_eq_true rfl) rfl ?_
      have k_l0 := k_l0.ext s21.1
      have k13 := k13.ext s21.1
      have k17 := k17.ext s21.1
      refine SF_ifeq 40 37 dX11_lists_34 rfl rfl (fun c22 => ?_) (fun c22 => ?_)
      · have h := ite_t c22 h
        refine SF_aload_n 1 41 dX11_lists_40 rfl rfl rfl ?_
        refine SF_iload_n 3 42 dX11_lists_41 rfl rfl rfl ?_
        obtain ⟨v23, g24, q25, h⟩ := bd_some h
        have s26 := w_X11_graphOf (X := X) (Nat.le_refl 6) l0 l2 g19 g24 v23 k_l0 q25
        refine SF_callVr 45 mi_X11_graphOf ml_X11_259 dX11_lists_42 (Nat.le_trans (by decide) hd) s26 k_l0.1 rfl rfl (Nat.le_of_ble_eq_true rfl) rfl ?_
        have k_l0 := k_l0.ext s26.1
        have k13 := k13.ext s26.1
        have k17 := k17.ext s26.1
        refine SF_astore [(6, .ref (ad X v23)), (5, .ref (ad X b15)), (0, .ref (ad X l0)), (1, .int l1), (2, .int l2), (3, .int l3), (4, .int l4)] 47 dX11_lists_45 (by decide) rfl rfl ?_
        refine SF_aload 0 49 dX11_lists_47 rfl rfl ?_
        refine SF_iload_n 5 50 dX11_lists_49 rfl rfl rfl ?_
        refine SF_iload 6 52 dX11_lists_50 rfl rfl ?_
        obtain ⟨k27, h⟩ := gdK_some h
        obtain ⟨v28, g29, q30, h⟩ := bd_some h
        have s31 := w_X4_find (X := X) (Nat.le_refl 2) v23 l3 l4 g24 g29 v28 k27 q30
        refine SF_callVi 55 mi_X4_find ml_X11_263 dX11_lists_52 (Nat.le_trans (by decide) hd) s31 k27.1 rfl rfl (Nat.le_of_ble_eq_true rfl) rfl ?_
        have k_l0 := k_l0.ext s31.1
        have k13 := k13.ext s31.1
        have k17 := k17.ext s31.1
        have k27 := k27.ext s31.1
        refine SF_istore [(7, .int v28), (6, .ref (ad X v23)), (5, .ref (ad X b15)), (0, .ref (ad X l0)), (1, .int l1), (2, .int l2), (3, .int l3), (4, .int l4)] 57 dX11_lists_55 (by decide) rfl rfl ?_
        refine SF_iload 0 59 dX11_lists_57 rfl rfl ?_
        refine SF_iconst (-1 : Int32) 60 dX11_lists_59 rfl rfl ?_
        refine SF_icne 66 63 dX11_lists_60 rfl rfl (fun c32 => ?_) (fun c32 => ?_)
        · have h := ite_f c32 h
          refine SF_aload 1 68 dX11_lists_66 rfl rfl ?_
          refine SF_iload 0 70 dX11_lists_68 rfl rfl ?_
          obtain ⟨v33, g34, q35, h⟩ := bd_some h
          have s36 := w_X4_depthOf (X := X) (Nat.le_refl 1) v23 v28 g29 g34 v33 k27 q35
          refine SF_callVi 73 mi_X4_depthOf ml_X11_266 dX11_lists_70 (Nat.le_trans (by decide) hd) s36 k27.1 rfl rfl (Nat.le_of_ble_eq_true rfl) rfl ?_
          have k_l0 := k_l0.ext s36.1
          have k13 := k13.ext s36.1
          have k17 := k17.ext s36.1
          have k27 := k27.ext s36.1
          refine SF_aload 2 75 dX11_lists_73 rfl rfl ?_
          refine SF_getI 78 fl_X11_226 dX11_lists_75 k17.1 rfl ?_
          obtain ⟨v37, g38, q39, h⟩ := bd_some h
          have s40 := w_J9_min_7cf53 (X := X) (Nat.le_refl 0) v33 (gI g34 b15 0) g34 g38 v37 q39
          refine SF_callSi 81 mi_J9_min_7cf53 ml_X11_377 dX11_lists_78 (Nat.le_trans (by decide) hd) s40 rfl rfl (Nat.le_of_ble_eq_true rfl) rfl ?_
          have k_l0 := k_l0.ext s40.1
          have k13 := k13.ext s40.1
          have k17 := k17.ext s40.1
          have k27 := k27.ext s40.1
          refine SF_istore [(8, .int v37), (7, .int v28), (6, .ref (ad X v23)), (5, .ref (ad X b15)), (0, .ref (ad X l0)), (1, .int l1), (2, .int l2), (3, .int l3), (4, .int l4)] 83 dX11_lists_81 (by decide) rfl rfl ?_
          refine SF_iconst (0 : Int32) 84 dX11_lists_83 rfl rfl ?_
          refine SF_istore [(9, .int (0 : Int32)), (8, .int v37), (7, .int v28), (6, .ref (ad X v23)), (5, .ref (ad X b15)), (0, .ref (ad X l0)), (1, .int l1), (2, .int l2), (3, .int l3), (4, .int l4)] 86 dX11_lists_84 (by decide) rfl rfl ?_
          refine SF_sub [7, 4, 3, 2, 1, 0] rfl ?_
          exact w_X11_lists_86 hd FU l2 b15 v23 v28 v37 (0 : Int32) g38 k17 k27 h
        · have h := ite_t c32 h
          refine SF_bipush (-5 : Int32) 65 dX11_lists_63 rfl rfl ?_
          exact RT_i rfl dX11_lists_65 h
      · have h := ite_f c22 h
        refine SF_bipush (-6 : Int32) 39 dX11_lists_37 rfl rfl ?_
        exact RT_i rfl dX11_lists_39 h
    · have h := ite_t c10 h
      refine SF_bipush (-2 : Int32) 20 dX11_lists_18 rfl rfl ?_
      exact RT_i rfl dX11_lists_20 h

theorem dX12_lists_0 : decode cX12_lists 0 = .ok (.aload_n 0, 1) := by decide +kernel
theorem dX12_lists_1 : decode cX12_lists 1 = .ok (.iconst 0, 1) := by decide +kernel
theorem dX12_lists_2 : decode cX12_lists 2 = .ok (.putfield 1, 3) := by decide +kernel
theorem dX12_lists_5 : decode cX12_lists 5 = .ok (.iload_n 1, 1) := by decide +kernel
theorem dX12_lists_6 : decode cX12_lists 6 = .ok (.i2l, 1) := by decide +kernel
theorem dX12_lists_7 : decode cX12_lists 7 = .ok (.lconst 0, 1) := by decide +kernel
theorem dX12_lists_8 : decode cX12_lists 8 = .ok (.ldc2_w 259, 3) := by decide +kernel
theorem dX12_lists_11 : decode cX12_lists 11 = .ok (.invokestatic 139, 3) := by decide +kernel
theorem dX12_lists_14 : decode cX12_lists 14 = .ok (.ifCond .eq 14, 3) := by decide +kernel
theorem dX12_lists_17 : decode cX12_lists 17 = .ok (.aload_n 0, 1) := by decide +kernel
theorem dX12_lists_18 : decode cX12_lists 18 = .ok (.iload_n 2, 1) := by decide +kernel
theorem dX12_lists_19 : decode cX12_lists 19 = .ok (.iload_n 3, 1) := by decide +kernel
theorem dX12_lists_20 : decode cX12_lists 20 = .ok (.iload 4, 2) := by decide +kernel
theorem dX12_lists_22 : decode cX12_lists 22 = .ok (.invokevirtual 373, 3) := by decide +kernel
theorem dX12_lists_25 : decode cX12_lists 25 = .ok (.ifCond .ne 6, 3) := by decide +kernel
theorem dX12_lists_28 : decode cX12_lists 28 = .ok (.bipush (-2), 2) := by decide +kernel
theorem dX12_lists_30 : decode cX12_lists 30 = .ok (.ireturn, 1) := by decide +kernel
theorem dX12_lists_31 : decode cX12_lists 31 = .ok (.aload_n 0, 1) := by decide +kernel
theorem dX12_lists_32 : decode cX12_lists 32 = .ok (.iload_n 1, 1) := by decide +kernel
theorem dX12_lists_33 : decode cX12_lists 33 = .ok (.invokevirtual 320, 3) := by decide +kernel
theorem dX12_lists_36 : decode cX12_lists 36 = .ok (.istore 5, 2) := by decide +kernel
theorem dX12_lists_38 : decode cX12_lists 38 = .ok (.iload 5, 2) := by decide +kernel
theorem dX12_lists_40 : decode cX12_lists 40 = .ok (.ifCond .eq 6, 3) := by decide +kernel
theorem dX12_lists_43 : decode cX12_lists 43 = .ok (.iload 5, 2) := by decide +kernel
theorem dX12_lists_45 : decode cX12_lists 45 = .ok (.ireturn, 1) := by decide +kernel
theorem dX12_lists_46 : decode cX12_lists 46 = .ok (.aload_n 0, 1) := by decide +kernel
theorem dX12_lists_47 : decode cX12_lists 47 = .ok (.iload_n 2, 1) := by decide +kernel
theorem dX12_lists_48 : decode cX12_lists 48 = .ok (.iload_n 3, 1) := by decide +kernel
theorem dX12_lists_49 : decode cX12_lists 49 = .ok (.iload 4, 2) := by decide +kernel
theorem dX12_lists_51 : decode cX12_lists 51 = .ok (.iconst 0, 1) := by decide +kernel
theorem dX12_lists_52 : decode cX12_lists 52 = .ok (.invokevirtual 389, 3) := by decide +kernel
theorem dX12_lists_55 : decode cX12_lists 55 = .ok (.istore 6, 2) := by decide +kernel
theorem dX12_lists_57 : decode cX12_lists 57 = .ok (.iload 6, 2) := by decide +kernel
theorem dX12_lists_59 : decode cX12_lists 59 = .ok (.iconst (-1), 1) := by decide +kernel
theorem dX12_lists_60 : decode cX12_lists 60 = .ok (.if_icmp .ne 6, 3) := by decide +kernel
theorem dX12_lists_63 : decode cX12_lists 63 = .ok (.bipush (-5), 2) := by decide +kernel
theorem dX12_lists_65 : decode cX12_lists 65 = .ok (.ireturn, 1) := by decide +kernel
theorem dX12_lists_66 : decode cX12_lists 66 = .ok (.iload 6, 2) := by decide +kernel
theorem dX12_lists_68 : decode cX12_lists 68 = .ok (.aload_n 0, 1) := by decide +kernel
theorem dX12_lists_69 : decode cX12_lists 69 = .ok (.getfield 67, 3) := by decide +kernel
theorem dX12_lists_72 : decode cX12_lists 72 = .ok (.iload_n 1, 1) := by decide +kernel
theorem dX12_lists_73 : decode cX12_lists 73 = .ok (.iaload, 1) := by decide +kernel
theorem dX12_lists_74 : decode cX12_lists 74 = .ok (.if_icmp .ge 8, 3) := by decide +kernel
theorem dX12_lists_77 : decode cX12_lists 77 = .ok (.iload 6, 2) := by decide +kernel
theorem dX12_lists_79 : decode cX12_lists 79 = .ok (.goto 9, 3) := by decide +kernel
theorem dX12_lists_82 : decode cX12_lists 82 = .ok (.aload_n 0, 1) := by decide +kernel
theorem dX12_lists_83 : decode cX12_lists 83 = .ok (.getfield 67, 3) := by decide +kernel
theorem dX12_lists_86 : decode cX12_lists 86 = .ok (.iload_n 1, 1) := by decide +kernel
theorem dX12_lists_87 : decode cX12_lists 87 = .ok (.iaload, 1) := by decide +kernel
theorem dX12_lists_88 : decode cX12_lists 88 = .ok (.istore 7, 2) := by decide +kernel
theorem dX12_lists_90 : decode cX12_lists 90 = .ok (.iconst 0, 1) := by decide +kernel
theorem dX12_lists_91 : decode cX12_lists 91 = .ok (.istore 8, 2) := by decide +kernel
theorem dX12_lists_93 : decode cX12_lists 93 = .ok (.iload 8, 2) := by decide +kernel
theorem dX12_lists_95 : decode cX12_lists 95 = .ok (.iload 7, 2) := by decide +kernel
theorem dX12_lists_97 : decode cX12_lists 97 = .ok (.if_icmp .ge 44, 3) := by decide +kernel
theorem dX12_lists_100 : decode cX12_lists 100 = .ok (.aload_n 0, 1) := by decide +kernel
theorem dX12_lists_101 : decode cX12_lists 101 = .ok (.getfield 70, 3) := by decide +kernel
theorem dX12_lists_104 : decode cX12_lists 104 = .ok (.bipush 40, 2) := by decide +kernel
theorem dX12_lists_106 : decode cX12_lists 106 = .ok (.iload_n 1, 1) := by decide +kernel
theorem dX12_lists_107 : decode cX12_lists 107 = .ok (.imul, 1) := by decide +kernel
theorem dX12_lists_108 : decode cX12_lists 108 = .ok (.iload 8, 2) := by decide +kernel
theorem dX12_lists_110 : decode cX12_lists 110 = .ok (.iadd, 1) := by decide +kernel
theorem dX12_lists_111 : decode cX12_lists 111 = .ok (.bipush 100, 2) := by decide +kernel
theorem dX12_lists_113 : decode cX12_lists 113 = .ok (.iload_n 2, 1) := by decide +kernel
theorem dX12_lists_114 : decode cX12_lists 114 = .ok (.imul, 1) := by decide +kernel
theorem dX12_lists_115 : decode cX12_lists 115 = .ok (.aload_n 0, 1) := by decide +kernel
theorem dX12_lists_116 : decode cX12_lists 116 = .ok (.iload_n 2, 1) := by decide +kernel
theorem dX12_lists_117 : decode cX12_lists 117 = .ok (.iload 8, 2) := by decide +kernel
theorem dX12_lists_119 : decode cX12_lists 119 = .ok (.iconst 0, 1) := by decide +kernel
theorem dX12_lists_120 : decode cX12_lists 120 = .ok (.invokevirtual 386, 3) := by decide +kernel
theorem dX12_lists_123 : decode cX12_lists 123 = .ok (.iadd, 1) := by decide +kernel
theorem dX12_lists_124 : decode cX12_lists 124 = .ok (.i2l, 1) := by decide +kernel
theorem dX12_lists_125 : decode cX12_lists 125 = .ok (.aload_n 0, 1) := by decide +kernel
theorem dX12_lists_126 : decode cX12_lists 126 = .ok (.getfield 64, 3) := by decide +kernel
theorem dX12_lists_129 : decode cX12_lists 129 = .ok (.iload_n 1, 1) := by decide +kernel
theorem dX12_lists_130 : decode cX12_lists 130 = .ok (.iaload, 1) := by decide +kernel
theorem dX12_lists_131 : decode cX12_lists 131 = .ok (.invokestatic 485, 3) := by decide +kernel
theorem dX12_lists_134 : decode cX12_lists 134 = .ok (.lastore, 1) := by decide +kernel
theorem dX12_lists_135 : decode cX12_lists 135 = .ok (.iinc 8 1, 3) := by decide +kernel
theorem dX12_lists_138 : decode cX12_lists 138 = .ok (.goto (-45), 3) := by decide +kernel
theorem dX12_lists_141 : decode cX12_lists 141 = .ok (.iload 7, 2) := by decide +kernel
theorem dX12_lists_143 : decode cX12_lists 143 = .ok (.ireturn, 1) := by decide +kernel
set_option maxRecDepth 20000 in
set_option maxHeartbeats 2000000 in
theorem w_X12_lists_93 {X : CX} {d : Nat} (hd : 8 ≤ d) {g' : G} {rx : Int32} : ∀ (n : Nat) (l0 : Nat) (l1 : Int32) (l2 : Int32) (l7 : Int32) (l8 : Int32) (g : G), KD g l0 12 → f_X12_lists_93 n l0 l1 l2 l7 l8 g = some (rx, g') → SemF X m_X12_lists d 93 [(0, .ref (ad X l0)), (1, .int l1), (2, .int l2), (7, .int l7), (8, .int l8)] [] g (some (.int rx)) g' := by
  intro n
  induction n with
  | zero =>
    intro l0 l1 l2 l7 l8 g k_l0 h
    rw [f_X12_lists_93] at h
    cases h
  | succ n ih =>
  intro l0 l1 l2 l7 l8 g k_l0 h
  rw [f_X12_lists_93] at h
  refine SF_iload 4 95 dX12_lists_93 rfl rfl ?_
  refine SF_iload 3 97 dX12_lists_95 rfl rfl ?_
  refine SF_icge 141 100 dX12_lists_97 rfl rfl (fun c1 => ?_) (fun c1 => ?_)
  · have h := ite_t c1 h
    refine SF_iload 3 143 dX12_lists_141 rfl rfl ?_
    exact RT_i rfl dX12_lists_143 h
  · have h := ite_f c1 h
    refine SF_aload_n 0 101 dX12_lists_100 rfl rfl rfl ?_
    obtain ⟨b2, r3, h⟩ := dr_some h
    refine SF_getR 104 fl_X12_70 dX12_lists_101 k_l0.1 r3 rfl ?_
    refine SF_bipush (40 : Int32) 106 dX12_lists_104 rfl rfl ?_
    refine SF_iload_n 1 107 dX12_lists_106 rfl rfl rfl ?_
    refine SF_imul 108 dX12_lists_107 rfl ?_
    refine SF_iload 4 110 dX12_lists_108 rfl rfl ?_
    refine SF_iadd 111 dX12_lists_110 rfl ?_
    refine SF_bipush (100 : Int32) 113 dX12_lists_111 rfl rfl ?_
    refine SF_iload_n 2 114 dX12_lists_113 rfl rfl rfl ?_
    refine SF_imul 115 dX12_lists_114 rfl ?_
    refine SF_aload_n 0 116 dX12_lists_115 rfl rfl rfl ?_
    refine SF_iload_n 2 117 dX12_lists_116 rfl rfl rfl ?_
    refine SF_iload 4 119 dX12_lists_117 rfl rfl ?_
    refine SF_iconst (0 : Int32) 120 dX12_lists_119 rfl rfl ?_
    obtain ⟨v4, g5, q6, h⟩ := bd_some h
    have s7 := w_X12_leadAt (X := X) (Nat.le_refl 2) l0 l2 l8 (0 : Int32) g g5 v4 k_l0 q6
    refine SF_callVi 123 mi_X12_leadAt ml_X12_386 dX12_lists_120 (Nat.le_trans (by decide) hd) s7 k_l0.1 rfl rfl (Nat.le_of_ble_eq_true rfl) rfl ?_
    have k_l0 := k_l0.ext s7.1
    refine SF_iadd 124 dX12_lists_123 rfl ?_
    refine SF_i2l 125 dX12_lists_124 rfl ?_
    refine SF_aload_n 0 126 dX12_lists_125 rfl rfl rfl ?_
    obtain ⟨b8, r9, h⟩ := dr_some h
    refine SF_getR 129 fl_X12_64 dX12_lists_126 k_l0.1 r9 rfl ?_
    refine SF_iload_n 1 130 dX12_lists_129 rfl rfl rfl ?_
    obtain ⟨k10, h⟩ := gdK_some h
    obtain ⟨i11, h⟩ := gdI_some h
    refine SF_iald 131 dX12_lists_130 k10.1 i11 rfl ?_
    obtain ⟨v12, g13, q14, h⟩ := bd_some h
    have s15 := w_X12_cut (X := X) (Nat.le_refl 0) ((((100 : Int32) * l2) + v4).toInt64) (gI g5 b8 l1.toNatClampNeg) g5 g13 v12 q14
    refine SF_callSl 134 mi_X12_cut ml_X12_485 dX12_lists_131 (Nat.le_trans (by decide) hd) s15 rfl rfl (Nat.le_of_ble_eq_true rfl) rfl ?_
    have k_l0 := k_l0.ext s15.1
    have k10 := k10.ext s15.1
    obtain ⟨k16, h⟩ := gdK_some h
    obtain ⟨i17, h⟩ := gdI_some h
    refine SF_last 135 dX12_lists_134 k16.1 i17 rfl ?_
    obtain ⟨g18, e19, h⟩ := lg_some h
    rw [← e19]
    have k_l0 := KD.eq e19 k_l0
    have k10 := KD.eq e19 k10
    have k16 := KD.eq e19 k16
    have i17 := vp_eq e19 i17
    refine SF_iinc 4 (l8 + (1 : Int32)) [(8, .int (l8 + (1 : Int32))), (0, .ref (ad X l0)), (1, .int l1), (2, .int l2), (7, .int l7)] 138 dX12_lists_135 rfl rfl (by decide) rfl rfl ?_
    refine SF_goto 93 dX12_lists_138 rfl ?_
    refine SF_sub [1, 2, 3, 4, 0] rfl ?_
    exact ih l0 l1 l2 l7 (l8 + (1 : Int32)) g18 k_l0 h

set_option maxRecDepth 20000 in
set_option maxHeartbeats 2000000 in
theorem w_X12_lists_88 {X : CX} {d : Nat} (hd : 8 ≤ d) {g' : G} {rx : Int32} (l0 : Nat) (l1 : Int32) (l2 : Int32) (s0 : Int32) (g : G) (k_l0 : KD g l0 12) (h : f_X12_lists_88 l0 l1 l2 s0 g = some (rx, g')) : SemF X m_X12_lists d 88 [(0, .ref (ad X l0)), (1, .int l1), (2, .int l2)] [.int s0] g (some (.int rx)) g' := by
  rw [f_X12_lists_88] at h
  refine SF_istore [(7, .int s0), (0, .ref (ad X l0)), (1, .int l1), (2, .int l2)] 90 dX12_lists_88 (by decide) rfl rfl ?_
  refine SF_iconst (0 : Int32) 91 dX12_lists_90 rfl rfl ?_
  refine SF_istore [(8, .int (0 : Int32)), (7, .int s0), (0, .ref (ad X l0)), (1, .int l1), (2, .int l2)] 93 dX12_lists_91 (by decide) rfl rfl ?_
  refine SF_sub [2, 3, 4, 1, 0] rfl ?_
  exact w_X12_lists_93 hd FU l0 l1 l2 s0 (0 : Int32) g k_l0 h

set_option maxRecDepth 20000 in
set_option maxHeartbeats 2000000 in
theorem w_X12_lists {X : CX} {d : Nat} (hd : 8 ≤ d) (l0 : Nat) (l1 : Int32) (l2 : Int32) (l3 : Int32) (l4 : Int32) (g g' : G) (rx : Int32) (k_l0 : KD g l0 12) (h : f_X12_lists l0 l1 l2 l3 l4 g = some (rx, g')) : Sem X m_X12_lists d [.ref (ad X l0), .int l1, .int l2, .int l3, .int l4] g (some (.int rx)) g' := by
  refine Sem_of (lo := [(0, .ref (ad X l0)), (1, .int l1), (2, .int l2), (3, .int l3), (4, .int l4)]) (by decide +kernel) rfl (Nat.le_of_ble_eq_true rfl) ?_
  rw [f_X12_lists] at h
  refine SF_aload_n 0 1 dX12_lists_0 rfl rfl rfl ?_
  refine SF_iconst (0 : Int32) 2 dX12_lists_1 rfl rfl ?_
  refine SF_putI 5 fl_X12_1 dX12_lists_2 k_l0.1 (fn_int _) (Or.inl rfl) rfl ?_
  obtain ⟨g1, e2, h⟩ := lg_some h
  rw [← e2]
  have k_l0 := KD.eq e2 k_l0
  refine SF_iload_n 1 6 dX12_lists_5 rfl rfl rfl ?_
  refine SF_i2l 7 dX12_lists_6 rfl ?_
  refine SF_lconst (0 : Int64) 8 dX12_lists_7 rfl rfl ?_
  refine SF_ldc2 11 dX12_lists_8 kl_X12_259 rfl ?_
  obtain ⟨v3, g4, q5, h⟩ := bd_some h
  have s6 := w_X12_within (X := X) (Nat.le_refl 0) (l1.toInt64) (0 : Int64) (3 : Int64) g1 g4 v3 q5
  refine SF_callSb 14 mi_X12_within ml_X12_139 dX12_lists_11 (Nat.le_trans (by decide) hd) s6 rfl rfl (Nat.le_of_ble_eq_true rfl) rfl ?_
  have k_l0 := k_l0.ext s6.1
  refine SF_ifeq 28 17 dX12_lists_14 rfl rfl (fun c7 => ?_) (fun c7 => ?_)
  · have h := ite_t c7 h
    refine SF_bipush (-2 : Int32) 30 dX12_lists_28 rfl rfl ?_
    exact RT_i rfl dX12_lists_30 h
  · have h := ite_f c7 h
    refine SF_aload_n 0 18 dX12_lists_17 rfl rfl rfl ?_
    refine SF_iload_n 2 19 dX12_lists_18 rfl rfl rfl ?_
    refine SF_iload_n 3 20 dX12_lists_19 rfl rfl rfl ?_
    refine SF_iload 4 22 dX12_lists_20 rfl rfl ?_
    obtain ⟨v8, g9, q10, h⟩ := bd_some h
    have s11 := w_X12_isGoalTold (X := X) (Nat.le_refl 2) l0 l2 l3 l4 g4 g9 v8 k_l0 q10
    refine SF_callVb 25 mi_X12_isGoalTold ml_X12_373 dX12_lists_22 (Nat.le_trans (by decide) hd) s11 k_l0.1 rfl rfl (Nat.le_of_ble_eq_true rfl) rfl ?_
    have k_l0 := k_l0.ext s11.1
    refine SF_ifne 31 28 dX12_lists_25 rfl rfl (fun c12 => ?_) (fun c12 => ?_)
    · have h := ite_f c12 h
      refine SF_aload_n 0 32 dX12_lists_31 rfl rfl rfl ?_
      refine SF_iload_n 1 33 dX12_lists_32 rfl rfl rfl ?_
      obtain ⟨v13, g14, q15, h⟩ := bd_some h
      have s16 := w_X12_noTray (X := X) (Nat.le_refl 1) l0 l1 g9 g14 v13 k_l0 q15
      refine SF_callVi 36 mi_X12_noTray ml_X12_320 dX12_lists_33 (Nat.le_trans (by decide) hd) s16 k_l0.1 rfl rfl (Nat.le_of_ble_eq_true rfl) rfl ?_
      have k_l0 := k_l0.ext s16.1
      refine SF_istore [(5, .int v13), (0, .ref (ad X l0)), (1, .int l1), (2, .int l2), (3, .int l3), (4, .int l4)] 38 dX12_lists_36 (by decide) rfl rfl ?_
      refine SF_iload 0 40 dX12_lists_38 rfl rfl ?_
      refine SF_ifeq 46 43 dX12_lists_40 rfl rfl (fun c17 => ?_) (fun c17 => ?_)
      · have h := ite_t c17 h
        refine SF_aload_n 1 47 dX12_lists_46 rfl rfl rfl ?_
        refine SF_iload_n 3 48 dX12_lists_47 rfl rfl rfl ?_
        refine SF_iload_n 4 49 dX12_lists_48 rfl rfl rfl ?_
        refine SF_iload 5 51 dX12_lists_49 rfl rfl ?_
        refine SF_iconst (0 : Int32) 52 dX12_lists_51 rfl rfl ?_
        obtain ⟨v18, g19, q20, h⟩ := bd_some h
        have s21 := w_X12_comes (X := X) (Nat.le_refl 7) l0 l2 l3 l4 (0 : Int32) g14 g19 v18 k_l0 q20
        refine SF_callVi 55 mi_X12_comes ml_X12_389 dX12_lists_52 (Nat.le_trans (by decide) hd) s21 k_l0.1 rfl rfl (Nat.le_of_ble_eq_true rfl) rfl ?_
        have k_l0 := k_l0.ext s21.1
        refine SF_istore [(6, .int v18), (5, .int v13), (0, .ref (ad X l0)), (1, .int l1), (2, .int l2), (3, .int l3), (4, .int l4)] 57 dX12_lists_55 (by decide) rfl rfl ?_
        refine SF_iload 0 59 dX12_lists_57 rfl rfl ?_
        refine SF_iconst (-1 : Int32) 60 dX12_lists_59 rfl rfl ?_
        refine SF_icne 66 63 dX12_lists_60 rfl rfl (fun c22 => ?_) (fun c22 => ?_)
        · have h := ite_f c22 h
          refine SF_iload 0 68 dX12_lists_66 rfl rfl ?_
          refine SF_aload_n 2 69 dX12_lists_68 rfl rfl rfl ?_
          obtain ⟨b23, r24, h⟩ := dr_some h
          refine SF_getR 72 fl_X12_67 dX12_lists_69 k_l0.1 r24 rfl ?_
          refine SF_iload_n 3 73 dX12_lists_72 rfl rfl rfl ?_
          obtain ⟨k25, h⟩ := gdK_some h
          obtain ⟨i26, h⟩ := gdI_some h
          refine SF_iald 74 dX12_lists_73 k25.1 i26 rfl ?_
          refine SF_icge 82 77 dX12_lists_74 rfl rfl (fun c27 => ?_) (fun c27 => ?_)
          · have h := ite_t c27 h
            refine SF_aload_n 2 83 dX12_lists_82 rfl rfl rfl ?_
            refine SF_getR 86 fl_X12_67 dX12_lists_83 k_l0.1 r24 rfl ?_
            refine SF_iload_n 3 87 dX12_lists_86 rfl rfl rfl ?_
            refine SF_iald 88 dX12_lists_87 k25.1 i26 rfl ?_
            refine SF_sub [2, 3, 4] rfl ?_
            exact w_X12_lists_88 hd l0 l1 l2 (gI g19 b23 l1.toNatClampNeg) g19 k_l0 h
          · have h := ite_f c27 h
            refine SF_iload 0 79 dX12_lists_77 rfl rfl ?_
            refine SF_goto 88 dX12_lists_79 rfl ?_
            refine SF_sub [2, 3, 4] rfl ?_
            exact w_X12_lists_88 hd l0 l1 l2 v18 g19 k_l0 h
        · have h := ite_t c22 h
          refine SF_bipush (-5 : Int32) 65 dX12_lists_63 rfl rfl ?_
          exact RT_i rfl dX12_lists_65 h
      · have h := ite_f c17 h
        refine SF_iload 0 45 dX12_lists_43 rfl rfl ?_
        exact RT_i rfl dX12_lists_45 h
    · have h := ite_t c12 h
      refine SF_bipush (-2 : Int32) 30 dX12_lists_28 rfl rfl ?_
      exact RT_i rfl dX12_lists_30 h

theorem dX11_image_0 : decode cX11_image 0 = .ok (.iload_n 1, 1) := by decide +kernel
theorem dX11_image_1 : decode cX11_image 1 = .ok (.ifCond .lt 8, 3) := by decide +kernel
theorem dX11_image_4 : decode cX11_image 4 = .ok (.iload_n 1, 1) := by decide +kernel
theorem dX11_image_5 : decode cX11_image 5 = .ok (.iconst 2, 1) := by decide +kernel
theorem dX11_image_6 : decode cX11_image 6 = .ok (.if_icmp .lt 6, 3) := by decide +kernel
theorem dX11_image_9 : decode cX11_image 9 = .ok (.bipush (-2), 2) := by decide +kernel
theorem dX11_image_11 : decode cX11_image 11 = .ok (.ireturn, 1) := by decide +kernel
theorem dX11_image_12 : decode cX11_image 12 = .ok (.aload_n 0, 1) := by decide +kernel
theorem dX11_image_13 : decode cX11_image 13 = .ok (.getfield 66, 3) := by decide +kernel
theorem dX11_image_16 : decode cX11_image 16 = .ok (.iload_n 1, 1) := by decide +kernel
theorem dX11_image_17 : decode cX11_image 17 = .ok (.aaload, 1) := by decide +kernel
theorem dX11_image_18 : decode cX11_image 18 = .ok (.astore_n 2, 1) := by decide +kernel
theorem dX11_image_19 : decode cX11_image 19 = .ok (.aload_n 2, 1) := by decide +kernel
theorem dX11_image_20 : decode cX11_image 20 = .ok (.ifnonnull 25, 3) := by decide +kernel
theorem dX11_image_23 : decode cX11_image 23 = .ok (.new 64, 3) := by decide +kernel
theorem dX11_image_26 : decode cX11_image 26 = .ok (.dup, 1) := by decide +kernel
theorem dX11_image_27 : decode cX11_image 27 = .ok (.aload_n 0, 1) := by decide +kernel
theorem dX11_image_28 : decode cX11_image 28 = .ok (.getfield 78, 3) := by decide +kernel
theorem dX11_image_31 : decode cX11_image 31 = .ok (.getfield 136, 3) := by decide +kernel
theorem dX11_image_34 : decode cX11_image 34 = .ok (.invokespecial 75, 3) := by decide +kernel
theorem dX11_image_37 : decode cX11_image 37 = .ok (.astore_n 2, 1) := by decide +kernel
theorem dX11_image_38 : decode cX11_image 38 = .ok (.aload_n 0, 1) := by decide +kernel
theorem dX11_image_39 : decode cX11_image 39 = .ok (.getfield 66, 3) := by decide +kernel
theorem dX11_image_42 : decode cX11_image 42 = .ok (.iload_n 1, 1) := by decide +kernel
theorem dX11_image_43 : decode cX11_image 43 = .ok (.aload_n 2, 1) := by decide +kernel
theorem dX11_image_44 : decode cX11_image 44 = .ok (.aastore, 1) := by decide +kernel
theorem dX11_image_45 : decode cX11_image 45 = .ok (.aload_n 2, 1) := by decide +kernel
theorem dX11_image_46 : decode cX11_image 46 = .ok (.aload_n 0, 1) := by decide +kernel
theorem dX11_image_47 : decode cX11_image 47 = .ok (.getfield 78, 3) := by decide +kernel
theorem dX11_image_50 : decode cX11_image 50 = .ok (.invokevirtual 126, 3) := by decide +kernel
theorem dX11_image_53 : decode cX11_image 53 = .ok (.iconst 0, 1) := by decide +kernel
theorem dX11_image_54 : decode cX11_image 54 = .ok (.ireturn, 1) := by decide +kernel
set_option maxRecDepth 20000 in
set_option maxHeartbeats 2000000 in
theorem w_X11_image_45 {X : CX} {d : Nat} (hd : 2 ≤ d) {g' : G} {rx : Int32} (l0 : Nat) (l2 : Option Nat) (g : G) (k_l0 : KD g l0 11) (h : f_X11_image_45 l0 l2 g = some (rx, g')) : SemF X m_X11_image d 45 [(0, .ref (ad X l0)), (2, rv X l2)] [] g (some (.int rx)) g' := by
  rw [f_X11_image_45] at h
  refine SF_qload_n 1 46 dX11_image_45 rfl rfl rfl ?_
  refine SF_aload_n 0 47 dX11_image_46 rfl rfl rfl ?_
  obtain ⟨b1, r2, h⟩ := dr_some h
  refine SF_getR 50 fl_X11_78 dX11_image_47 k_l0.1 r2 rfl ?_
  obtain ⟨b3, r4, h⟩ := dr_some h
  rw [r4]
  obtain ⟨k5, h⟩ := gdK_some h
  obtain ⟨k6, h⟩ := gdK_some h
  obtain ⟨v7, g8, q9, h⟩ := bd_some h
  have s10 := w_X0_copyFrom (X := X) (Nat.le_refl 1) b3 b1 g g8 v7 k5 k6 q9
  refine SF_callVv 53 mi_X0_copyFrom ml_X11_126 dX11_image_50 (Nat.le_trans (by decide) hd) s10 k5.1 rfl rfl (Nat.le_of_ble_eq_true rfl) rfl ?_
  have k_l0 := k_l0.ext s10.1
  have k5 := k5.ext s10.1
  have k6 := k6.ext s10.1
  refine SF_iconst (0 : Int32) 54 dX11_image_53 rfl rfl ?_
  exact RT_i rfl dX11_image_54 h

set_option maxRecDepth 20000 in
set_option maxHeartbeats 2000000 in
theorem w_X11_image {X : CX} {d : Nat} (hd : 2 ≤ d) (l0 : Nat) (l1 : Int32) (g g' : G) (rx : Int32) (k_l0 : KD g l0 11) (h : f_X11_image l0 l1 g = some (rx, g')) : Sem X m_X11_image d [.ref (ad X l0), .int l1] g (some (.int rx)) g' := by
  refine Sem_of (lo := [(0, .ref (ad X l0)), (1, .int l1)]) (by decide +kernel) rfl (Nat.le_of_ble_eq_true rfl) ?_
  rw [f_X11_image] at h
  refine SF_iload_n 1 1 dX11_image_0 rfl rfl rfl ?_
  refine SF_iflt 9 4 dX11_image_1 rfl rfl (fun c1 => ?_) (fun c1 => ?_)
  · have h := ite_t c1 h
    refine SF_bipush (-2 : Int32) 11 dX11_image_9 rfl rfl ?_
    exact RT_i rfl dX11_image_11 h
  · have h := ite_f c1 h
    refine SF_iload_n 1 5 dX11_image_4 rfl rfl rfl ?_
    refine SF_iconst (2 : Int32) 6 dX11_image_5 rfl rfl ?_
    refine SF_iclt 12 9 dX11_image_6 rfl rfl (fun c2 => ?_) (fun c2 => ?_)
    · have h := ite_t c2 h
      refine SF_aload_n 0 13 dX11_image_12 rfl rfl rfl ?_
      obtain ⟨b3, r4, h⟩ := dr_some h
      refine SF_getR 16 fl_X11_66 dX11_image_13 k_l0.1 r4 rfl ?_
      refine SF_iload_n 1 17 dX11_image_16 rfl rfl rfl ?_
      obtain ⟨k5, h⟩ := gdK_some h
      obtain ⟨i6, h⟩ := gdI_some h
      refine SF_aaldQ 18 dX11_image_17 k5.1 (Or.inl rfl) i6 rfl ?_
      refine SF_qstore_n [(2, rv X (gR g b3 l1.toNatClampNeg)), (0, .ref (ad X l0)), (1, .int l1)] 19 dX11_image_18 rfl (by decide) rfl rfl ?_
      refine SF_qload_n 0 20 dX11_image_19 rfl rfl rfl ?_
      refine SF_ifnonnull 45 23 dX11_image_20 rfl rfl (fun c7 => ?_) (fun c7 => ?_)
      · have h := ite_f c7 h
        refine SF_sub [1, 0] rfl ?_
        exact w_X11_image_45 hd l0 (gR g b3 l1.toNatClampNeg) g k_l0 h
      · have h := ite_t c7 h
        refine SF_new 26 nw_X11_64 dX11_image_23 rfl ?_
        obtain ⟨g8, e9, h⟩ := lg_some h
        rw [← e9]
        have k_l0 := KD.alloc e9 k_l0
        have k5 := KD.alloc e9 k5
        have k12 := KD.fresh e9
        obtain ⟨a10, e11, h⟩ := ln_some h
        rw [← e11] at k12
        rw [← e11]
        refine SF_dup 27 dX11_image_26 rfl rfl ?_
        refine SF_aload_n 1 28 dX11_image_27 rfl rfl rfl ?_
        obtain ⟨b13, r14, h⟩ := dr_some h
        refine SF_getR 31 fl_X11_78 dX11_image_28 k_l0.1 r14 rfl ?_
        obtain ⟨k15, h⟩ := gdK_some h
        obtain ⟨b16, r17, h⟩ := dr_some h
        refine SF_getR 34 fl_X11_136 dX11_image_31 k15.1 r17 rfl ?_
        obtain ⟨k18, h⟩ := gdK_some h
        obtain ⟨v19, g20, q21, h⟩ := bd_some h
        have s22 := w_X0_init (X := X) (Nat.le_refl 1) a10 b16 g8 g20 v19 k12 k18 q21
        refine SF_callI 37 mi_X0_init ml_X11_75 dX11_image_34 (Nat.le_trans (by decide) hd) s22 rfl rfl (Nat.le_of_ble_eq_true rfl) rfl ?_
        have k_l0 := k_l0.ext s22.1
        have k5 := k5.ext s22.1
        have k12 := k12.ext s22.1
        have k15 := k15.ext s22.1
        have k18 := k18.ext s22.1
        refine SF_astore_n [(2, .ref (ad X a10)), (0, .ref (ad X l0)), (1, .int l1)] 38 dX11_image_37 rfl (by decide) rfl rfl ?_
        refine SF_aload_n 1 39 dX11_image_38 rfl rfl rfl ?_
        obtain ⟨b23, r24, h⟩ := dr_some h
        refine SF_getR 42 fl_X11_66 dX11_image_39 k_l0.1 r24 rfl ?_
        refine SF_iload_n 2 43 dX11_image_42 rfl rfl rfl ?_
        refine SF_aload_n 0 44 dX11_image_43 rfl rfl rfl ?_
        obtain ⟨k25, h⟩ := gdK_some h
        obtain ⟨i26, h⟩ := gdI_some h
        refine SF_aast 45 dX11_image_44 k25.1 k12.1 (Or.inl ⟨rfl, rfl⟩) i26 rfl ?_
        obtain ⟨g27, e28, h⟩ := lg_some h
        rw [← e28]
        have k_l0 := KD.eq e28 k_l0
        have k5 := KD.eq e28 k5
        have k12 := KD.eq e28 k12
        have k15 := KD.eq e28 k15
        have k18 := KD.eq e28 k18
        have k25 := KD.eq e28 k25
        have i26 := vp_eq e28 i26
        refine SF_sub [1, 0] rfl ?_
        exact w_X11_image_45 hd l0 (some a10) g27 k_l0 h
    · have h := ite_f c2 h
      refine SF_bipush (-2 : Int32) 11 dX11_image_9 rfl rfl ?_
      exact RT_i rfl dX11_image_11 h

theorem dX12_image_0 : decode cX12_image 0 = .ok (.aload_n 0, 1) := by decide +kernel
theorem dX12_image_1 : decode cX12_image 1 = .ok (.iconst 0, 1) := by decide +kernel
theorem dX12_image_2 : decode cX12_image 2 = .ok (.putfield 1, 3) := by decide +kernel
theorem dX12_image_5 : decode cX12_image 5 = .ok (.iload_n 1, 1) := by decide +kernel
theorem dX12_image_6 : decode cX12_image 6 = .ok (.i2l, 1) := by decide +kernel
theorem dX12_image_7 : decode cX12_image 7 = .ok (.lconst 0, 1) := by decide +kernel
theorem dX12_image_8 : decode cX12_image 8 = .ok (.lconst 1, 1) := by decide +kernel
theorem dX12_image_9 : decode cX12_image 9 = .ok (.invokestatic 139, 3) := by decide +kernel
theorem dX12_image_12 : decode cX12_image 12 = .ok (.ifCond .ne 6, 3) := by decide +kernel
theorem dX12_image_15 : decode cX12_image 15 = .ok (.bipush (-2), 2) := by decide +kernel
theorem dX12_image_17 : decode cX12_image 17 = .ok (.ireturn, 1) := by decide +kernel
theorem dX12_image_18 : decode cX12_image 18 = .ok (.iconst 0, 1) := by decide +kernel
theorem dX12_image_19 : decode cX12_image 19 = .ok (.istore_n 2, 1) := by decide +kernel
theorem dX12_image_20 : decode cX12_image 20 = .ok (.iload_n 2, 1) := by decide +kernel
theorem dX12_image_21 : decode cX12_image 21 = .ok (.sipush 1515, 3) := by decide +kernel
theorem dX12_image_24 : decode cX12_image 24 = .ok (.if_icmp .ge 29, 3) := by decide +kernel
theorem dX12_image_27 : decode cX12_image 27 = .ok (.aload_n 0, 1) := by decide +kernel
theorem dX12_image_28 : decode cX12_image 28 = .ok (.getfield 13, 3) := by decide +kernel
theorem dX12_image_31 : decode cX12_image 31 = .ok (.sipush 1515, 3) := by decide +kernel
theorem dX12_image_34 : decode cX12_image 34 = .ok (.iload_n 1, 1) := by decide +kernel
theorem dX12_image_35 : decode cX12_image 35 = .ok (.iconst 1, 1) := by decide +kernel
theorem dX12_image_36 : decode cX12_image 36 = .ok (.iadd, 1) := by decide +kernel
theorem dX12_image_37 : decode cX12_image 37 = .ok (.imul, 1) := by decide +kernel
theorem dX12_image_38 : decode cX12_image 38 = .ok (.iload_n 2, 1) := by decide +kernel
theorem dX12_image_39 : decode cX12_image 39 = .ok (.iadd, 1) := by decide +kernel
theorem dX12_image_40 : decode cX12_image 40 = .ok (.aload_n 0, 1) := by decide +kernel
theorem dX12_image_41 : decode cX12_image 41 = .ok (.getfield 13, 3) := by decide +kernel
theorem dX12_image_44 : decode cX12_image 44 = .ok (.iload_n 2, 1) := by decide +kernel
theorem dX12_image_45 : decode cX12_image 45 = .ok (.iaload, 1) := by decide +kernel
theorem dX12_image_46 : decode cX12_image 46 = .ok (.iastore, 1) := by decide +kernel
theorem dX12_image_47 : decode cX12_image 47 = .ok (.iinc 2 1, 3) := by decide +kernel
theorem dX12_image_50 : decode cX12_image 50 = .ok (.goto (-30), 3) := by decide +kernel
theorem dX12_image_53 : decode cX12_image 53 = .ok (.aload_n 0, 1) := by decide +kernel
theorem dX12_image_54 : decode cX12_image 54 = .ok (.getfield 17, 3) := by decide +kernel
theorem dX12_image_57 : decode cX12_image 57 = .ok (.iload_n 1, 1) := by decide +kernel
theorem dX12_image_58 : decode cX12_image 58 = .ok (.iconst 1, 1) := by decide +kernel
theorem dX12_image_59 : decode cX12_image 59 = .ok (.bastore, 1) := by decide +kernel
theorem dX12_image_60 : decode cX12_image 60 = .ok (.iconst 0, 1) := by decide +kernel
theorem dX12_image_61 : decode cX12_image 61 = .ok (.ireturn, 1) := by decide +kernel
set_option maxRecDepth 20000 in
set_option maxHeartbeats 2000000 in
theorem w_X12_image_20 {X : CX} {d : Nat} (hd : 1 ≤ d) {g' : G} {rx : Int32} : ∀ (n : Nat) (l0 : Nat) (l1 : Int32) (l2 : Int32) (g : G), KD g l0 12 → f_X12_image_20 n l0 l1 l2 g = some (rx, g') → SemF X m_X12_image d 20 [(0, .ref (ad X l0)), (1, .int l1), (2, .int l2)] [] g (some (.int rx)) g' := by
  intro n
  induction n with
  | zero =>
    intro l0 l1 l2 g k_l0 h
    rw [f_X12_image_20] at h
    cases h
  | succ n ih =>
  intro l0 l1 l2 g k_l0 h
  rw [f_X12_image_20] at h
  refine SF_iload_n 2 21 dX12_image_20 rfl rfl rfl ?_
  refine SF_sipush (1515 : Int32) 24 dX12_image_21 rfl rfl ?_
  refine SF_icge 53 27 dX12_image_24 rfl rfl (fun c1 => ?_) (fun c1 => ?_)
  · have h := ite_t c1 h
    refine SF_aload_n 0 54 dX12_image_53 rfl rfl rfl ?_
    obtain ⟨b2, r3, h⟩ := dr_some h
    refine SF_getR 57 fl_X12_17 dX12_image_54 k_l0.1 r3 rfl ?_
    refine SF_iload_n 1 58 dX12_image_57 rfl rfl rfl ?_
    refine SF_iconst (1 : Int32) 59 dX12_image_58 rfl rfl ?_
    obtain ⟨k4, h⟩ := gdK_some h
    obtain ⟨i5, h⟩ := gdI_some h
    refine SF_zast 60 dX12_image_59 k4.1 i5 rfl ?_
    obtain ⟨g6, e7, h⟩ := lg_some h
    rw [← e7]
    have k_l0 := KD.eq e7 k_l0
    have k4 := KD.eq e7 k4
    have r3 := gR_eq e7 r3
    have i5 := vp_eq e7 i5
    refine SF_iconst (0 : Int32) 61 dX12_image_60 rfl rfl ?_
    exact RT_i rfl dX12_image_61 h
  · have h := ite_f c1 h
    refine SF_aload_n 0 28 dX12_image_27 rfl rfl rfl ?_
    obtain ⟨b8, r9, h⟩ := dr_some h
    refine SF_getR 31 fl_X12_13 dX12_image_28 k_l0.1 r9 rfl ?_
    refine SF_sipush (1515 : Int32) 34 dX12_image_31 rfl rfl ?_
    refine SF_iload_n 1 35 dX12_image_34 rfl rfl rfl ?_
    refine SF_iconst (1 : Int32) 36 dX12_image_35 rfl rfl ?_
    refine SF_iadd 37 dX12_image_36 rfl ?_
    refine SF_imul 38 dX12_image_37 rfl ?_
    refine SF_iload_n 2 39 dX12_image_38 rfl rfl rfl ?_
    refine SF_iadd 40 dX12_image_39 rfl ?_
    refine SF_aload_n 0 41 dX12_image_40 rfl rfl rfl ?_
    refine SF_getR 44 fl_X12_13 dX12_image_41 k_l0.1 r9 rfl ?_
    refine SF_iload_n 2 45 dX12_image_44 rfl rfl rfl ?_
    obtain ⟨k10, h⟩ := gdK_some h
    obtain ⟨i11, h⟩ := gdI_some h
    refine SF_iald 46 dX12_image_45 k10.1 i11 rfl ?_
    obtain ⟨i12, h⟩ := gdI_some h
    refine SF_iast 47 dX12_image_46 k10.1 i12 rfl ?_
    obtain ⟨g13, e14, h⟩ := lg_some h
    rw [← e14]
    have k_l0 := KD.eq e14 k_l0
    have k10 := KD.eq e14 k10
    have r9 := gR_eq e14 r9
    have i11 := vp_eq e14 i11
    have i12 := vp_eq e14 i12
    refine SF_iinc 2 (l2 + (1 : Int32)) [(2, .int (l2 + (1 : Int32))), (0, .ref (ad X l0)), (1, .int l1)] 50 dX12_image_47 rfl rfl (by decide) rfl rfl ?_
    refine SF_goto 20 dX12_image_50 rfl ?_
    refine SF_sub [1, 2, 0] rfl ?_
    exact ih l0 l1 (l2 + (1 : Int32)) g13 k_l0 h

set_option maxRecDepth 20000 in
set_option maxHeartbeats 2000000 in
theorem w_X12_image {X : CX} {d : Nat} (hd : 1 ≤ d) (l0 : Nat) (l1 : Int32) (g g' : G) (rx : Int32) (k_l0 : KD g l0 12) (h : f_X12_image l0 l1 g = some (rx, g')) : Sem X m_X12_image d [.ref (ad X l0), .int l1] g (some (.int rx)) g' := by
  refine Sem_of (lo := [(0, .ref (ad X l0)), (1, .int l1)]) (by decide +kernel) rfl (Nat.le_of_ble_eq_true rfl) ?_
  rw [f_X12_image] at h
  refine SF_aload_n 0 1 dX12_image_0 rfl rfl rfl ?_
  refine SF_iconst (0 : Int32) 2 dX12_image_1 rfl rfl ?_
  refine SF_putI 5 fl_X12_1 dX12_image_2 k_l0.1 (fn_int _) (Or.inl rfl) rfl ?_
  obtain ⟨g1, e2, h⟩ := lg_some h
  rw [← e2]
  have k_l0 := KD.eq e2 k_l0
  refine SF_iload_n 1 6 dX12_image_5 rfl rfl rfl ?_
  refine SF_i2l 7 dX12_image_6 rfl ?_
  refine SF_lconst (0 : Int64) 8 dX12_image_7 rfl rfl ?_
  refine SF_lconst (1 : Int64) 9 dX12_image_8 rfl rfl ?_
  obtain ⟨v3, g4, q5, h⟩ := bd_some h
  have s6 := w_X12_within (X := X) (Nat.le_refl 0) (l1.toInt64) (0 : Int64) (1 : Int64) g1 g4 v3 q5
  refine SF_callSb 12 mi_X12_within ml_X12_139 dX12_image_9 (Nat.le_trans (by decide) hd) s6 rfl rfl (Nat.le_of_ble_eq_true rfl) rfl ?_
  have k_l0 := k_l0.ext s6.1
  refine SF_ifne 18 15 dX12_image_12 rfl rfl (fun c7 => ?_) (fun c7 => ?_)
  · have h := ite_f c7 h
    refine SF_iconst (0 : Int32) 19 dX12_image_18 rfl rfl ?_
    refine SF_istore_n [(2, .int (0 : Int32)), (0, .ref (ad X l0)), (1, .int l1)] 20 dX12_image_19 rfl (by decide) rfl rfl ?_
    refine SF_sub [1, 2, 0] rfl ?_
    exact w_X12_image_20 hd FU l0 l1 (0 : Int32) g4 k_l0 h
  · have h := ite_t c7 h
    refine SF_bipush (-2 : Int32) 17 dX12_image_15 rfl rfl ?_
    exact RT_i rfl dX12_image_17 h

theorem dX11_restore_0 : decode cX11_restore 0 = .ok (.iload_n 1, 1) := by decide +kernel
theorem dX11_restore_1 : decode cX11_restore 1 = .ok (.ifCond .lt 8, 3) := by decide +kernel
theorem dX11_restore_4 : decode cX11_restore 4 = .ok (.iload_n 1, 1) := by decide +kernel
theorem dX11_restore_5 : decode cX11_restore 5 = .ok (.iconst 2, 1) := by decide +kernel
theorem dX11_restore_6 : decode cX11_restore 6 = .ok (.if_icmp .lt 6, 3) := by decide +kernel
theorem dX11_restore_9 : decode cX11_restore 9 = .ok (.bipush (-2), 2) := by decide +kernel
theorem dX11_restore_11 : decode cX11_restore 11 = .ok (.ireturn, 1) := by decide +kernel
theorem dX11_restore_12 : decode cX11_restore 12 = .ok (.aload_n 0, 1) := by decide +kernel
theorem dX11_restore_13 : decode cX11_restore 13 = .ok (.getfield 66, 3) := by decide +kernel
theorem dX11_restore_16 : decode cX11_restore 16 = .ok (.iload_n 1, 1) := by decide +kernel
theorem dX11_restore_17 : decode cX11_restore 17 = .ok (.aaload, 1) := by decide +kernel
theorem dX11_restore_18 : decode cX11_restore 18 = .ok (.astore_n 2, 1) := by decide +kernel
theorem dX11_restore_19 : decode cX11_restore 19 = .ok (.aload_n 2, 1) := by decide +kernel
theorem dX11_restore_20 : decode cX11_restore 20 = .ok (.ifnonnull 6, 3) := by decide +kernel
theorem dX11_restore_23 : decode cX11_restore 23 = .ok (.bipush (-5), 2) := by decide +kernel
theorem dX11_restore_25 : decode cX11_restore 25 = .ok (.ireturn, 1) := by decide +kernel
theorem dX11_restore_26 : decode cX11_restore 26 = .ok (.aload_n 0, 1) := by decide +kernel
theorem dX11_restore_27 : decode cX11_restore 27 = .ok (.getfield 78, 3) := by decide +kernel
theorem dX11_restore_30 : decode cX11_restore 30 = .ok (.aload_n 2, 1) := by decide +kernel
theorem dX11_restore_31 : decode cX11_restore 31 = .ok (.invokevirtual 126, 3) := by decide +kernel
theorem dX11_restore_34 : decode cX11_restore 34 = .ok (.aload_n 0, 1) := by decide +kernel
theorem dX11_restore_35 : decode cX11_restore 35 = .ok (.getfield 102, 3) := by decide +kernel
theorem dX11_restore_38 : decode cX11_restore 38 = .ok (.invokevirtual 130, 3) := by decide +kernel
theorem dX11_restore_41 : decode cX11_restore 41 = .ok (.aload_n 0, 1) := by decide +kernel
theorem dX11_restore_42 : decode cX11_restore 42 = .ok (.invokevirtual 133, 3) := by decide +kernel
theorem dX11_restore_45 : decode cX11_restore 45 = .ok (.iconst 0, 1) := by decide +kernel
theorem dX11_restore_46 : decode cX11_restore 46 = .ok (.ireturn, 1) := by decide +kernel
set_option maxRecDepth 20000 in
set_option maxHeartbeats 2000000 in
theorem w_X11_restore {X : CX} {d : Nat} (hd : 2 ≤ d) (l0 : Nat) (l1 : Int32) (g g' : G) (rx : Int32) (k_l0 : KD g l0 11) (h : f_X11_restore l0 l1 g = some (rx, g')) : Sem X m_X11_restore d [.ref (ad X l0), .int l1] g (some (.int rx)) g' := by
  refine Sem_of (lo := [(0, .ref (ad X l0)), (1, .int l1)]) (by decide +kernel) rfl (Nat.le_of_ble_eq_true rfl) ?_
  rw [f_X11_restore] at h
  refine SF_iload_n 1 1 dX11_restore_0 rfl rfl rfl ?_
  refine SF_iflt 9 4 dX11_restore_1 rfl rfl (fun c1 => ?_) (fun c1 => ?_)
  · have h := ite_t c1 h
    refine SF_bipush (-2 : Int32) 11 dX11_restore_9 rfl rfl ?_
    exact RT_i rfl dX11_restore_11 h
  · have h := ite_f c1 h
    refine SF_iload_n 1 5 dX11_restore_4 rfl rfl rfl ?_
    refine SF_iconst (2 : Int32) 6 dX11_restore_5 rfl rfl ?_
    refine SF_iclt 12 9 dX11_restore_6 rfl rfl (fun c2 => ?_) (fun c2 => ?_)
    · have h := ite_t c2 h
      refine SF_aload_n 0 13 dX11_restore_12 rfl rfl rfl ?_
      obtain ⟨b3, r4, h⟩ := dr_some h
      refine SF_getR 16 fl_X11_66 dX11_restore_13 k_l0.1 r4 rfl ?_
      refine SF_iload_n 1 17 dX11_restore_16 rfl rfl rfl ?_
      obtain ⟨k5, h⟩ := gdK_some h
      obtain ⟨i6, h⟩ := gdI_some h
      refine SF_aaldQ 18 dX11_restore_17 k5.1 (Or.inl rfl) i6 rfl ?_
      refine SF_qstore_n [(2, rv X (gR g b3 l1.toNatClampNeg)), (0, .ref (ad X l0)), (1, .int l1)] 19 dX11_restore_18 rfl (by decide) rfl rfl ?_
      refine SF_qload_n 0 20 dX11_restore_19 rfl rfl rfl ?_
      refine SF_ifnonnull 26 23 dX11_restore_20 rfl rfl (fun c7 => ?_) (fun c7 => ?_)
      · have h := ite_f c7 h
        refine SF_aload_n 1 27 dX11_restore_26 rfl rfl rfl ?_
        obtain ⟨b8, r9, h⟩ := dr_some h
        refine SF_getR 30 fl_X11_78 dX11_restore_27 k_l0.1 r9 rfl ?_
        refine SF_qload_n 0 31 dX11_restore_30 rfl rfl rfl ?_
        obtain ⟨k10, h⟩ := gdK_some h
        obtain ⟨b11, r12, h⟩ := dr_some h
        rw [r12]
        obtain ⟨k13, h⟩ := gdK_some h
        obtain ⟨v14, g15, q16, h⟩ := bd_some h
        have s17 := w_X0_copyFrom (X := X) (Nat.le_refl 1) b8 b11 g g15 v14 k10 k13 q16
        refine SF_callVv 34 mi_X0_copyFrom ml_X11_126 dX11_restore_31 (Nat.le_trans (by decide) hd) s17 k10.1 rfl rfl (Nat.le_of_ble_eq_true rfl) rfl ?_
        have k_l0 := k_l0.ext s17.1
        have k5 := k5.ext s17.1
        have k10 := k10.ext s17.1
        have k13 := k13.ext s17.1
        refine SF_aload_n 1 35 dX11_restore_34 rfl rfl rfl ?_
        obtain ⟨b18, r19, h⟩ := dr_some h
        refine SF_getR 38 fl_X11_102 dX11_restore_35 k_l0.1 r19 rfl ?_
        obtain ⟨k20, h⟩ := gdK_some h
        obtain ⟨v21, g22, q23, h⟩ := bd_some h
        have s24 := w_X5_forget (X := X) (Nat.le_refl 0) b18 g15 g22 v21 k20 q23
        refine SF_callVv 41 mi_X5_forget ml_X11_130 dX11_restore_38 (Nat.le_trans (by decide) hd) s24 k20.1 rfl rfl (Nat.le_of_ble_eq_true rfl) rfl ?_
        have k_l0 := k_l0.ext s24.1
        have k5 := k5.ext s24.1
        have k10 := k10.ext s24.1
        have k13 := k13.ext s24.1
        have k20 := k20.ext s24.1
        refine SF_aload_n 1 42 dX11_restore_41 rfl rfl rfl ?_
        obtain ⟨v25, g26, q27, h⟩ := bd_some h
        have s28 := w_X11_forgetWays (X := X) (Nat.le_refl 0) l0 g22 g26 v25 k_l0 q27
        refine SF_callVv 45 mi_X11_forgetWays ml_X11_133 dX11_restore_42 (Nat.le_trans (by decide) hd) s28 k_l0.1 rfl rfl (Nat.le_of_ble_eq_true rfl) rfl ?_
        have k_l0 := k_l0.ext s28.1
        have k5 := k5.ext s28.1
        have k10 := k10.ext s28.1
        have k13 := k13.ext s28.1
        have k20 := k20.ext s28.1
        refine SF_iconst (0 : Int32) 46 dX11_restore_45 rfl rfl ?_
        exact RT_i rfl dX11_restore_46 h
      · have h := ite_t c7 h
        refine SF_bipush (-5 : Int32) 25 dX11_restore_23 rfl rfl ?_
        exact RT_i rfl dX11_restore_25 h
    · have h := ite_f c2 h
      refine SF_bipush (-2 : Int32) 11 dX11_restore_9 rfl rfl ?_
      exact RT_i rfl dX11_restore_11 h

theorem dX12_restore_0 : decode cX12_restore 0 = .ok (.aload_n 0, 1) := by decide +kernel
theorem dX12_restore_1 : decode cX12_restore 1 = .ok (.iconst 0, 1) := by decide +kernel
theorem dX12_restore_2 : decode cX12_restore 2 = .ok (.putfield 1, 3) := by decide +kernel
theorem dX12_restore_5 : decode cX12_restore 5 = .ok (.iload_n 1, 1) := by decide +kernel
theorem dX12_restore_6 : decode cX12_restore 6 = .ok (.i2l, 1) := by decide +kernel
theorem dX12_restore_7 : decode cX12_restore 7 = .ok (.lconst 0, 1) := by decide +kernel
theorem dX12_restore_8 : decode cX12_restore 8 = .ok (.lconst 1, 1) := by decide +kernel
theorem dX12_restore_9 : decode cX12_restore 9 = .ok (.invokestatic 139, 3) := by decide +kernel
theorem dX12_restore_12 : decode cX12_restore 12 = .ok (.ifCond .ne 6, 3) := by decide +kernel
theorem dX12_restore_15 : decode cX12_restore 15 = .ok (.bipush (-2), 2) := by decide +kernel
theorem dX12_restore_17 : decode cX12_restore 17 = .ok (.ireturn, 1) := by decide +kernel
theorem dX12_restore_18 : decode cX12_restore 18 = .ok (.aload_n 0, 1) := by decide +kernel
theorem dX12_restore_19 : decode cX12_restore 19 = .ok (.getfield 17, 3) := by decide +kernel
theorem dX12_restore_22 : decode cX12_restore 22 = .ok (.iload_n 1, 1) := by decide +kernel
theorem dX12_restore_23 : decode cX12_restore 23 = .ok (.baload, 1) := by decide +kernel
theorem dX12_restore_24 : decode cX12_restore 24 = .ok (.ifCond .ne 6, 3) := by decide +kernel
theorem dX12_restore_27 : decode cX12_restore 27 = .ok (.bipush (-5), 2) := by decide +kernel
theorem dX12_restore_29 : decode cX12_restore 29 = .ok (.ireturn, 1) := by decide +kernel
theorem dX12_restore_30 : decode cX12_restore 30 = .ok (.iconst 0, 1) := by decide +kernel
theorem dX12_restore_31 : decode cX12_restore 31 = .ok (.istore_n 2, 1) := by decide +kernel
theorem dX12_restore_32 : decode cX12_restore 32 = .ok (.iload_n 2, 1) := by decide +kernel
theorem dX12_restore_33 : decode cX12_restore 33 = .ok (.sipush 1515, 3) := by decide +kernel
theorem dX12_restore_36 : decode cX12_restore 36 = .ok (.if_icmp .ge 29, 3) := by decide +kernel
theorem dX12_restore_39 : decode cX12_restore 39 = .ok (.aload_n 0, 1) := by decide +kernel
theorem dX12_restore_40 : decode cX12_restore 40 = .ok (.getfield 13, 3) := by decide +kernel
theorem dX12_restore_43 : decode cX12_restore 43 = .ok (.iload_n 2, 1) := by decide +kernel
theorem dX12_restore_44 : decode cX12_restore 44 = .ok (.aload_n 0, 1) := by decide +kernel
theorem dX12_restore_45 : decode cX12_restore 45 = .ok (.getfield 13, 3) := by decide +kernel
theorem dX12_restore_48 : decode cX12_restore 48 = .ok (.sipush 1515, 3) := by decide +kernel
theorem dX12_restore_51 : decode cX12_restore 51 = .ok (.iload_n 1, 1) := by decide +kernel
theorem dX12_restore_52 : decode cX12_restore 52 = .ok (.iconst 1, 1) := by decide +kernel
theorem dX12_restore_53 : decode cX12_restore 53 = .ok (.iadd, 1) := by decide +kernel
theorem dX12_restore_54 : decode cX12_restore 54 = .ok (.imul, 1) := by decide +kernel
theorem dX12_restore_55 : decode cX12_restore 55 = .ok (.iload_n 2, 1) := by decide +kernel
theorem dX12_restore_56 : decode cX12_restore 56 = .ok (.iadd, 1) := by decide +kernel
theorem dX12_restore_57 : decode cX12_restore 57 = .ok (.iaload, 1) := by decide +kernel
theorem dX12_restore_58 : decode cX12_restore 58 = .ok (.iastore, 1) := by decide +kernel
theorem dX12_restore_59 : decode cX12_restore 59 = .ok (.iinc 2 1, 3) := by decide +kernel
theorem dX12_restore_62 : decode cX12_restore 62 = .ok (.goto (-30), 3) := by decide +kernel
theorem dX12_restore_65 : decode cX12_restore 65 = .ok (.aload_n 0, 1) := by decide +kernel
theorem dX12_restore_66 : decode cX12_restore 66 = .ok (.getfield 13, 3) := by decide +kernel
theorem dX12_restore_69 : decode cX12_restore 69 = .ok (.bipush 103, 2) := by decide +kernel
theorem dX12_restore_71 : decode cX12_restore 71 = .ok (.iconst 0, 1) := by decide +kernel
theorem dX12_restore_72 : decode cX12_restore 72 = .ok (.iastore, 1) := by decide +kernel
theorem dX12_restore_73 : decode cX12_restore 73 = .ok (.iconst 0, 1) := by decide +kernel
theorem dX12_restore_74 : decode cX12_restore 74 = .ok (.ireturn, 1) := by decide +kernel
set_option maxRecDepth 20000 in
set_option maxHeartbeats 2000000 in
theorem w_X12_restore_32 {X : CX} {d : Nat} (hd : 1 ≤ d) {g' : G} {rx : Int32} : ∀ (n : Nat) (l0 : Nat) (l1 : Int32) (l2 : Int32) (g : G), KD g l0 12 → f_X12_restore_32 n l0 l1 l2 g = some (rx, g') → SemF X m_X12_restore d 32 [(0, .ref (ad X l0)), (1, .int l1), (2, .int l2)] [] g (some (.int rx)) g' := by
  intro n
  induction n with
  | zero =>
    intro l0 l1 l2 g k_l0 h
    rw [f_X12_restore_32] at h
    cases h
  | succ n ih =>
  intro l0 l1 l2 g k_l0 h
  rw [f_X12_restore_32] at h
  refine SF_iload_n 2 33 dX12_restore_32 rfl rfl rfl ?_
  refine SF_sipush (1515 : Int32) 36 dX12_restore_33 rfl rfl ?_
  refine SF_icge 65 39 dX12_restore_36 rfl rfl (fun c1 => ?_) (fun c1 => ?_)
  · have h := ite_t c1 h
    refine SF_aload_n 0 66 dX12_restore_65 rfl rfl rfl ?_
    obtain ⟨b2, r3, h⟩ := dr_some h
    refine SF_getR 69 fl_X12_13 dX12_restore_66 k_l0.1 r3 rfl ?_
    refine SF_bipush (103 : Int32) 71 dX12_restore_69 rfl rfl ?_
    refine SF_iconst (0 : Int32) 72 dX12_restore_71 rfl rfl ?_
    obtain ⟨k4, h⟩ := gdK_some h
    obtain ⟨i5, h⟩ := gdI_some h
    refine SF_iast 73 dX12_restore_72 k4.1 i5 rfl ?_
    obtain ⟨g6, e7, h⟩ := lg_some h
    rw [← e7]
    have k_l0 := KD.eq e7 k_l0
    have k4 := KD.eq e7 k4
    have r3 := gR_eq e7 r3
    have i5 := vp_eq e7 i5
    refine SF_iconst (0 : Int32) 74 dX12_restore_73 rfl rfl ?_
    exact RT_i rfl dX12_restore_74 h
  · have h := ite_f c1 h
    refine SF_aload_n 0 40 dX12_restore_39 rfl rfl rfl ?_
    obtain ⟨b8, r9, h⟩ := dr_some h
    refine SF_getR 43 fl_X12_13 dX12_restore_40 k_l0.1 r9 rfl ?_
    refine SF_iload_n 2 44 dX12_restore_43 rfl rfl rfl ?_
    refine SF_aload_n 0 45 dX12_restore_44 rfl rfl rfl ?_
    refine SF_getR 48 fl_X12_13 dX12_restore_45 k_l0.1 r9 rfl ?_
    refine SF_sipush (1515 : Int32) 51 dX12_restore_48 rfl rfl ?_
    refine SF_iload_n 1 52 dX12_restore_51 rfl rfl rfl ?_
    refine SF_iconst (1 : Int32) 53 dX12_restore_52 rfl rfl ?_
    refine SF_iadd 54 dX12_restore_53 rfl ?_
    refine SF_imul 55 dX12_restore_54 rfl ?_
    refine SF_iload_n 2 56 dX12_restore_55 rfl rfl rfl ?_
    refine SF_iadd 57 dX12_restore_56 rfl ?_
    obtain ⟨k10, h⟩ := gdK_some h
    obtain ⟨i11, h⟩ := gdI_some h
    refine SF_iald 58 dX12_restore_57 k10.1 i11 rfl ?_
    obtain ⟨i12, h⟩ := gdI_some h
    refine SF_iast 59 dX12_restore_58 k10.1 i12 rfl ?_
    obtain ⟨g13, e14, h⟩ := lg_some h
    rw [← e14]
    have k_l0 := KD.eq e14 k_l0
    have k10 := KD.eq e14 k10
    have r9 := gR_eq e14 r9
    have i11 := vp_eq e14 i11
    have i12 := vp_eq e14 i12
    refine SF_iinc 2 (l2 + (1 : Int32)) [(2, .int (l2 + (1 : Int32))), (0, .ref (ad X l0)), (1, .int l1)] 62 dX12_restore_59 rfl rfl (by decide) rfl rfl ?_
    refine SF_goto 32 dX12_restore_62 rfl ?_
    refine SF_sub [1, 2, 0] rfl ?_
    exact ih l0 l1 (l2 + (1 : Int32)) g13 k_l0 h

set_option maxRecDepth 20000 in
set_option maxHeartbeats 2000000 in
theorem w_X12_restore {X : CX} {d : Nat} (hd : 1 ≤ d) (l0 : Nat) (l1 : Int32) (g g' : G) (rx : Int32) (k_l0 : KD g l0 12) (h : f_X12_restore l0 l1 g = some (rx, g')) : Sem X m_X12_restore d [.ref (ad X l0), .int l1] g (some (.int rx)) g' := by
  refine Sem_of (lo := [(0, .ref (ad X l0)), (1, .int l1)]) (by decide +kernel) rfl (Nat.le_of_ble_eq_true rfl) ?_
  rw [f_X12_restore] at h
  refine SF_aload_n 0 1 dX12_restore_0 rfl rfl rfl ?_
  refine SF_iconst (0 : Int32) 2 dX12_restore_1 rfl rfl ?_
  refine SF_putI 5 fl_X12_1 dX12_restore_2 k_l0.1 (fn_int _) (Or.inl rfl) rfl ?_
  obtain ⟨g1, e2, h⟩ := lg_some h
  rw [← e2]
  have k_l0 := KD.eq e2 k_l0
  refine SF_iload_n 1 6 dX12_restore_5 rfl rfl rfl ?_
  refine SF_i2l 7 dX12_restore_6 rfl ?_
  refine SF_lconst (0 : Int64) 8 dX12_restore_7 rfl rfl ?_
  refine SF_lconst (1 : Int64) 9 dX12_restore_8 rfl rfl ?_
  obtain ⟨v3, g4, q5, h⟩ := bd_some h
  have s6 := w_X12_within (X := X) (Nat.le_refl 0) (l1.toInt64) (0 : Int64) (1 : Int64) g1 g4 v3 q5
  refine SF_callSb 12 mi_X12_within ml_X12_139 dX12_restore_9 (Nat.le_trans (by decide) hd) s6 rfl rfl (Nat.le_of_ble_eq_true rfl) rfl ?_
  have k_l0 := k_l0.ext s6.1
  refine SF_ifne 18 15 dX12_restore_12 rfl rfl (fun c7 => ?_) (fun c7 => ?_)
  · have h := ite_f c7 h
    refine SF_aload_n 0 19 dX12_restore_18 rfl rfl rfl ?_
    obtain ⟨b8, r9, h⟩ := dr_some h
    refine SF_getR 22 fl_X12_17 dX12_restore_19 k_l0.1 r9 rfl ?_
    refine SF_iload_n 1 23 dX12_restore_22 rfl rfl rfl ?_
    obtain ⟨k10, h⟩ := gdK_some h
    obtain ⟨i11, h⟩ := gdI_some h
    refine SF_zald 24 dX12_restore_23 k10.1 i11 rfl ?_
    refine SF_ifne 30 27 dX12_restore_24 rfl rfl (fun c12 => ?_) (fun c12 => ?_)
    · have h := ite_f c12 h
      refine SF_iconst (0 : Int32) 31 dX12_restore_30 rfl rfl ?_
      refine SF_istore_n [(2, .int (0 : Int32)), (0, .ref (ad X l0)), (1, .int l1)] 32 dX12_restore_31 rfl (by decide) rfl rfl ?_
      refine SF_sub [1, 2, 0] rfl ?_
      exact w_X12_restore_32 hd FU l0 l1 (0 : Int32) g4 k_l0 h
    · have h := ite_t c12 h
      refine SF_bipush (-5 : Int32) 29 dX12_restore_27 rfl rfl ?_
      exact RT_i rfl dX12_restore_29 h
  · have h := ite_t c7 h
    refine SF_bipush (-2 : Int32) 17 dX12_restore_15 rfl rfl ?_
    exact RT_i rfl dX12_restore_17 h

theorem dX0_allSpans_0 : decode cX0_allSpans 0 = .ok (.iconst 0, 1) := by decide +kernel
theorem dX0_allSpans_1 : decode cX0_allSpans 1 = .ok (.istore_n 1, 1) := by decide +kernel
theorem dX0_allSpans_2 : decode cX0_allSpans 2 = .ok (.iconst 0, 1) := by decide +kernel
theorem dX0_allSpans_3 : decode cX0_allSpans 3 = .ok (.istore_n 2, 1) := by decide +kernel
theorem dX0_allSpans_4 : decode cX0_allSpans 4 = .ok (.iload_n 2, 1) := by decide +kernel
theorem dX0_allSpans_5 : decode cX0_allSpans 5 = .ok (.iconst 3, 1) := by decide +kernel
theorem dX0_allSpans_6 : decode cX0_allSpans 6 = .ok (.if_icmp .ge 30, 3) := by decide +kernel
theorem dX0_allSpans_9 : decode cX0_allSpans 9 = .ok (.iload_n 1, 1) := by decide +kernel
theorem dX0_allSpans_10 : decode cX0_allSpans 10 = .ok (.aload_n 0, 1) := by decide +kernel
theorem dX0_allSpans_11 : decode cX0_allSpans 11 = .ok (.iload_n 2, 1) := by decide +kernel
theorem dX0_allSpans_12 : decode cX0_allSpans 12 = .ok (.invokevirtual 54, 3) := by decide +kernel
theorem dX0_allSpans_15 : decode cX0_allSpans 15 = .ok (.ifCond .eq 12, 3) := by decide +kernel
theorem dX0_allSpans_18 : decode cX0_allSpans 18 = .ok (.aload_n 0, 1) := by decide +kernel
theorem dX0_allSpans_19 : decode cX0_allSpans 19 = .ok (.getfield 15, 3) := by decide +kernel
theorem dX0_allSpans_22 : decode cX0_allSpans 22 = .ok (.iload_n 2, 1) := by decide +kernel
theorem dX0_allSpans_23 : decode cX0_allSpans 23 = .ok (.iaload, 1) := by decide +kernel
theorem dX0_allSpans_24 : decode cX0_allSpans 24 = .ok (.goto 4, 3) := by decide +kernel
theorem dX0_allSpans_27 : decode cX0_allSpans 27 = .ok (.iconst 0, 1) := by decide +kernel
theorem dX0_allSpans_28 : decode cX0_allSpans 28 = .ok (.iadd, 1) := by decide +kernel
theorem dX0_allSpans_29 : decode cX0_allSpans 29 = .ok (.istore_n 1, 1) := by decide +kernel
theorem dX0_allSpans_30 : decode cX0_allSpans 30 = .ok (.iinc 2 1, 3) := by decide +kernel
theorem dX0_allSpans_33 : decode cX0_allSpans 33 = .ok (.goto (-29), 3) := by decide +kernel
theorem dX0_allSpans_36 : decode cX0_allSpans 36 = .ok (.iload_n 1, 1) := by decide +kernel
theorem dX0_allSpans_37 : decode cX0_allSpans 37 = .ok (.ireturn, 1) := by decide +kernel
set_option maxRecDepth 20000 in
set_option maxHeartbeats 2000000 in
theorem w_X0_allSpans_28 {X : CX} {d : Nat} (hd : 1 ≤ d) {g' : G} {rx : Int32} (k4 : Nat → Int32 → Int32 → G → Option (Int32 × G)) (hk4 : ∀ (l0 : Nat) (l1 : Int32) (l2 : Int32) (g : G), KD g l0 0 → k4 l0 l1 l2 g = some (rx, g') → SemF X m_X0_allSpans d 4 [(0, .ref (ad X l0)), (1, .int l1), (2, .int l2)] [] g (some (.int rx)) g') (l0 : Nat) (l2 : Int32) (s0 : Int32) (s1 : Int32) (g : G) (k_l0 : KD g l0 0) (h : f_X0_allSpans_28 k4 l0 l2 s0 s1 g = some (rx, g')) : SemF X m_X0_allSpans d 28 [(0, .ref (ad X l0)), (2, .int l2)] [.int s0, .int s1] g (some (.int rx)) g' := by
  rw [f_X0_allSpans_28] at h
  refine SF_iadd 29 dX0_allSpans_28 rfl ?_
  obtain ⟨y1, e2, h⟩ := li_some h
  refine SF_eqI e2 ?_
  refine SF_istore_n [(1, .int y1), (0, .ref (ad X l0)), (2, .int l2)] 30 dX0_allSpans_29 rfl (by decide) rfl rfl ?_
  refine SF_iinc 2 (l2 + (1 : Int32)) [(2, .int (l2 + (1 : Int32))), (1, .int y1), (0, .ref (ad X l0))] 33 dX0_allSpans_30 rfl rfl (by decide) rfl rfl ?_
  refine SF_goto 4 dX0_allSpans_33 rfl ?_
  refine SF_sub [2, 1, 0] rfl ?_
  exact hk4 l0 y1 (l2 + (1 : Int32)) g k_l0 h

set_option maxRecDepth 20000 in
set_option maxHeartbeats 2000000 in
theorem w_X0_allSpans_4 {X : CX} {d : Nat} (hd : 1 ≤ d) {g' : G} {rx : Int32} : ∀ (n : Nat) (l0 : Nat) (l1 : Int32) (l2 : Int32) (g : G), KD g l0 0 → f_X0_allSpans_4 n l0 l1 l2 g = some (rx, g') → SemF X m_X0_allSpans d 4 [(0, .ref (ad X l0)), (1, .int l1), (2, .int l2)] [] g (some (.int rx)) g' := by
  intro n
  induction n with
  | zero =>
    intro l0 l1 l2 g k_l0 h
    rw [f_X0_allSpans_4] at h
    cases h
  | succ n ih =>
  intro l0 l1 l2 g k_l0 h
  rw [f_X0_allSpans_4] at h
  refine SF_iload_n 2 5 dX0_allSpans_4 rfl rfl rfl ?_
  refine SF_iconst (3 : Int32) 6 dX0_allSpans_5 rfl rfl ?_
  refine SF_icge 36 9 dX0_allSpans_6 rfl rfl (fun c1 => ?_) (fun c1 => ?_)
  · have h := ite_t c1 h
    refine SF_iload_n 1 37 dX0_allSpans_36 rfl rfl rfl ?_
    exact RT_i rfl dX0_allSpans_37 h
  · have h := ite_f c1 h
    refine SF_iload_n 1 10 dX0_allSpans_9 rfl rfl rfl ?_
    refine SF_aload_n 0 11 dX0_allSpans_10 rfl rfl rfl ?_
    refine SF_iload_n 2 12 dX0_allSpans_11 rfl rfl rfl ?_
    obtain ⟨v2, g3, q4, h⟩ := bd_some h
    have s5 := w_X0_isPair (X := X) (Nat.le_refl 0) l0 l2 g g3 v2 k_l0 q4
    refine SF_callVb 15 mi_X0_isPair ml_X0_54 dX0_allSpans_12 (Nat.le_trans (by decide) hd) s5 k_l0.1 rfl rfl (Nat.le_of_ble_eq_true rfl) rfl ?_
    have k_l0 := k_l0.ext s5.1
    refine SF_ifeq 27 18 dX0_allSpans_15 rfl rfl (fun c6 => ?_) (fun c6 => ?_)
    · have h := ite_t c6 h
      refine SF_iconst (0 : Int32) 28 dX0_allSpans_27 rfl rfl ?_
      refine SF_sub [0, 2] rfl ?_
      exact w_X0_allSpans_28 hd (f_X0_allSpans_4 n) ih l0 l2 (0 : Int32) l1 g3 k_l0 h
    · have h := ite_f c6 h
      refine SF_aload_n 0 19 dX0_allSpans_18 rfl rfl rfl ?_
      obtain ⟨b7, r8, h⟩ := dr_some h
      refine SF_getR 22 fl_X0_15 dX0_allSpans_19 k_l0.1 r8 rfl ?_
      refine SF_iload_n 2 23 dX0_allSpans_22 rfl rfl rfl ?_
      obtain ⟨k9, h⟩ := gdK_some h
      obtain ⟨i10, h⟩ := gdI_some h
      refine SF_iald 24 dX0_allSpans_23 k9.1 i10 rfl ?_
      refine SF_goto 28 dX0_allSpans_24 rfl ?_
      refine SF_sub [0, 2] rfl ?_
      exact w_X0_allSpans_28 hd (f_X0_allSpans_4 n) ih l0 l2 (gI g3 b7 l2.toNatClampNeg) l1 g3 k_l0 h

set_option maxRecDepth 20000 in
set_option maxHeartbeats 2000000 in
theorem w_X0_allSpans {X : CX} {d : Nat} (hd : 1 ≤ d) (l0 : Nat) (g g' : G) (rx : Int32) (k_l0 : KD g l0 0) (h : f_X0_allSpans l0 g = some (rx, g')) : Sem X m_X0_allSpans d [.ref (ad X l0)] g (some (.int rx)) g' := by
  refine Sem_of (lo := [(0, .ref (ad X l0))]) (by decide +kernel) rfl (Nat.le_of_ble_eq_true rfl) ?_
  rw [f_X0_allSpans] at h
  refine SF_iconst (0 : Int32) 1 dX0_allSpans_0 rfl rfl ?_
  refine SF_istore_n [(1, .int (0 : Int32)), (0, .ref (ad X l0))] 2 dX0_allSpans_1 rfl (by decide) rfl rfl ?_
  refine SF_iconst (0 : Int32) 3 dX0_allSpans_2 rfl rfl ?_
  refine SF_istore_n [(2, .int (0 : Int32)), (1, .int (0 : Int32)), (0, .ref (ad X l0))] 4 dX0_allSpans_3 rfl (by decide) rfl rfl ?_
  refine SF_sub [2, 1, 0] rfl ?_
  exact w_X0_allSpans_4 hd FU l0 (0 : Int32) (0 : Int32) g k_l0 h

theorem dX11_count_0 : decode cX11_count 0 = .ok (.iload_n 1, 1) := by decide +kernel
theorem dX11_count_1 : decode cX11_count 1 = .ok (.tableswitch 135 0 8 #[51, 62, 73, 84, 95, 103, 111, 119, 124], 51) := by decide +kernel
theorem dX11_count_52 : decode cX11_count 52 = .ok (.aload_n 0, 1) := by decide +kernel
theorem dX11_count_53 : decode cX11_count 53 = .ok (.getfield 78, 3) := by decide +kernel
theorem dX11_count_56 : decode cX11_count 56 = .ok (.getfield 136, 3) := by decide +kernel
theorem dX11_count_59 : decode cX11_count 59 = .ok (.getfield 416, 3) := by decide +kernel
theorem dX11_count_62 : decode cX11_count 62 = .ok (.ireturn, 1) := by decide +kernel
theorem dX11_count_63 : decode cX11_count 63 = .ok (.aload_n 0, 1) := by decide +kernel
theorem dX11_count_64 : decode cX11_count 64 = .ok (.getfield 78, 3) := by decide +kernel
theorem dX11_count_67 : decode cX11_count 67 = .ok (.getfield 136, 3) := by decide +kernel
theorem dX11_count_70 : decode cX11_count 70 = .ok (.getfield 419, 3) := by decide +kernel
theorem dX11_count_73 : decode cX11_count 73 = .ok (.ireturn, 1) := by decide +kernel
theorem dX11_count_74 : decode cX11_count 74 = .ok (.aload_n 0, 1) := by decide +kernel
theorem dX11_count_75 : decode cX11_count 75 = .ok (.getfield 78, 3) := by decide +kernel
theorem dX11_count_78 : decode cX11_count 78 = .ok (.getfield 136, 3) := by decide +kernel
theorem dX11_count_81 : decode cX11_count 81 = .ok (.getfield 422, 3) := by decide +kernel
theorem dX11_count_84 : decode cX11_count 84 = .ok (.ireturn, 1) := by decide +kernel
theorem dX11_count_85 : decode cX11_count 85 = .ok (.aload_n 0, 1) := by decide +kernel
theorem dX11_count_86 : decode cX11_count 86 = .ok (.getfield 78, 3) := by decide +kernel
theorem dX11_count_89 : decode cX11_count 89 = .ok (.getfield 425, 3) := by decide +kernel
theorem dX11_count_92 : decode cX11_count 92 = .ok (.invokestatic 347, 3) := by decide +kernel
theorem dX11_count_95 : decode cX11_count 95 = .ok (.ireturn, 1) := by decide +kernel
theorem dX11_count_96 : decode cX11_count 96 = .ok (.aload_n 0, 1) := by decide +kernel
theorem dX11_count_97 : decode cX11_count 97 = .ok (.getfield 78, 3) := by decide +kernel
theorem dX11_count_100 : decode cX11_count 100 = .ok (.invokevirtual 428, 3) := by decide +kernel
theorem dX11_count_103 : decode cX11_count 103 = .ok (.ireturn, 1) := by decide +kernel
theorem dX11_count_104 : decode cX11_count 104 = .ok (.aload_n 0, 1) := by decide +kernel
theorem dX11_count_105 : decode cX11_count 105 = .ok (.getfield 78, 3) := by decide +kernel
theorem dX11_count_108 : decode cX11_count 108 = .ok (.invokevirtual 239, 3) := by decide +kernel
theorem dX11_count_111 : decode cX11_count 111 = .ok (.ireturn, 1) := by decide +kernel
theorem dX11_count_112 : decode cX11_count 112 = .ok (.aload_n 0, 1) := by decide +kernel
theorem dX11_count_113 : decode cX11_count 113 = .ok (.getfield 102, 3) := by decide +kernel
theorem dX11_count_116 : decode cX11_count 116 = .ok (.getfield 212, 3) := by decide +kernel
theorem dX11_count_119 : decode cX11_count 119 = .ok (.ireturn, 1) := by decide +kernel
theorem dX11_count_120 : decode cX11_count 120 = .ok (.aload_n 0, 1) := by decide +kernel
theorem dX11_count_121 : decode cX11_count 121 = .ok (.getfield 107, 3) := by decide +kernel
theorem dX11_count_124 : decode cX11_count 124 = .ok (.ireturn, 1) := by decide +kernel
theorem dX11_count_125 : decode cX11_count 125 = .ok (.aload_n 0, 1) := by decide +kernel
theorem dX11_count_126 : decode cX11_count 126 = .ok (.getfield 78, 3) := by decide +kernel
theorem dX11_count_129 : decode cX11_count 129 = .ok (.getfield 136, 3) := by decide +kernel
theorem dX11_count_132 : decode cX11_count 132 = .ok (.getfield 140, 3) := by decide +kernel
theorem dX11_count_135 : decode cX11_count 135 = .ok (.ireturn, 1) := by decide +kernel
theorem dX11_count_136 : decode cX11_count 136 = .ok (.iconst (-1), 1) := by decide +kernel
theorem dX11_count_137 : decode cX11_count 137 = .ok (.ireturn, 1) := by decide +kernel
set_option maxRecDepth 20000 in
set_option maxHeartbeats 2000000 in
theorem w_X11_count {X : CX} {d : Nat} (hd : 2 ≤ d) (l0 : Nat) (l1 : Int32) (g g' : G) (rx : Int32) (k_l0 : KD g l0 11) (h : f_X11_count l0 l1 g = some (rx, g')) : Sem X m_X11_count d [.ref (ad X l0), .int l1] g (some (.int rx)) g' := by
  refine Sem_of (lo := [(0, .ref (ad X l0)), (1, .int l1)]) (by decide +kernel) rfl (Nat.le_of_ble_eq_true rfl) ?_
  rw [f_X11_count] at h
  refine SF_iload_n 1 1 dX11_count_0 rfl rfl rfl ?_
  by_cases c49 : l1.toInt < 0
  · have h := ite_t c49 h
    refine SF_tabOut 136 dX11_count_1 (Or.inl c49) rfl ?_
    refine SF_iconst (-1 : Int32) 137 dX11_count_136 rfl rfl ?_
    exact RT_i rfl dX11_count_137 h
  · have h := ite_f c49 h
    generalize m50 : (l1.toInt - 0).toNat = mm at h
    match mm, m50, h with
    | 0, m50, h =>
      refine SF_tabIn 52 dX11_count_1 c49 (by omega) (by rw [m50]; rfl) rfl ?_
      refine SF_aload_n 0 53 dX11_count_52 rfl rfl rfl ?_
      obtain ⟨b1, r2, h⟩ := dr_some h
      refine SF_getR 56 fl_X11_78 dX11_count_53 k_l0.1 r2 rfl ?_
      obtain ⟨k3, h⟩ := gdK_some h
      obtain ⟨b4, r5, h⟩ := dr_some h
      refine SF_getR 59 fl_X11_136 dX11_count_56 k3.1 r5 rfl ?_
      obtain ⟨k6, h⟩ := gdK_some h
      refine SF_getI 62 fl_X11_416 dX11_count_59 k6.1 rfl ?_
      exact RT_i rfl dX11_count_62 h
    | 1, m50, h =>
      refine SF_tabIn 63 dX11_count_1 c49 (by omega) (by rw [m50]; rfl) rfl ?_
      refine SF_aload_n 0 64 dX11_count_63 rfl rfl rfl ?_
      obtain ⟨b7, r8, h⟩ := dr_some h
      refine SF_getR 67 fl_X11_78 dX11_count_64 k_l0.1 r8 rfl ?_
      obtain ⟨k9, h⟩ := gdK_some h
      obtain ⟨b10, r11, h⟩ := dr_some h
      refine SF_getR 70 fl_X11_136 dX11_count_67 k9.1 r11 rfl ?_
      obtain ⟨k12, h⟩ := gdK_some h
      refine SF_getI 73 fl_X11_419 dX11_count_70 k12.1 rfl ?_
      exact RT_i rfl dX11_count_73 h
    | 2, m50, h =>
      refine SF_tabIn 74 dX11_count_1 c49 (by omega) (by rw [m50]; rfl) rfl ?_
      refine SF_aload_n 0 75 dX11_count_74 rfl rfl rfl ?_
      obtain ⟨b13, r14, h⟩ := dr_some h
      refine SF_getR 78 fl_X11_78 dX11_count_75 k_l0.1 r14 rfl ?_
      obtain ⟨k15, h⟩ := gdK_some h
      obtain ⟨b16, r17, h⟩ := dr_some h
      refine SF_getR 81 fl_X11_136 dX11_count_78 k15.1 r17 rfl ?_
      obtain ⟨k18, h⟩ := gdK_some h
      refine SF_getI 84 fl_X11_422 dX11_count_81 k18.1 rfl ?_
      exact RT_i rfl dX11_count_84 h
    | 3, m50, h =>
      refine SF_tabIn 85 dX11_count_1 c49 (by omega) (by rw [m50]; rfl) rfl ?_
      refine SF_aload_n 0 86 dX11_count_85 rfl rfl rfl ?_
      obtain ⟨b19, r20, h⟩ := dr_some h
      refine SF_getR 89 fl_X11_78 dX11_count_86 k_l0.1 r20 rfl ?_
      obtain ⟨k21, h⟩ := gdK_some h
      refine SF_getL 92 fl_X11_425 dX11_count_89 k21.1 rfl ?_
      obtain ⟨v22, g23, q24, h⟩ := bd_some h
      have s25 := w_J13_bitCount_95d88 (X := X) (Nat.le_refl 0) (gL g b19 1) g g23 v22 q24
      refine SF_callSi 95 mi_J13_bitCount_95d88 ml_X11_347 dX11_count_92 (Nat.le_trans (by decide) hd) s25 rfl rfl (Nat.le_of_ble_eq_true rfl) rfl ?_
      have k_l0 := k_l0.ext s25.1
      have k21 := k21.ext s25.1
      exact RT_i rfl dX11_count_95 h
    | 4, m50, h =>
      refine SF_tabIn 96 dX11_count_1 c49 (by omega) (by rw [m50]; rfl) rfl ?_
      refine SF_aload_n 0 97 dX11_count_96 rfl rfl rfl ?_
      obtain ⟨b26, r27, h⟩ := dr_some h
      refine SF_getR 100 fl_X11_78 dX11_count_97 k_l0.1 r27 rfl ?_
      obtain ⟨k28, h⟩ := gdK_some h
      obtain ⟨v29, g30, q31, h⟩ := bd_some h
      have s32 := w_X0_allSpans (X := X) (Nat.le_refl 1) b26 g g30 v29 k28 q31
      refine SF_callVi 103 mi_X0_allSpans ml_X11_428 dX11_count_100 (Nat.le_trans (by decide) hd) s32 k28.1 rfl rfl (Nat.le_of_ble_eq_true rfl) rfl ?_
      have k_l0 := k_l0.ext s32.1
      have k28 := k28.ext s32.1
      exact RT_i rfl dX11_count_103 h
    | 5, m50, h =>
      refine SF_tabIn 104 dX11_count_1 c49 (by omega) (by rw [m50]; rfl) rfl ?_
      refine SF_aload_n 0 105 dX11_count_104 rfl rfl rfl ?_
      obtain ⟨b33, r34, h⟩ := dr_some h
      refine SF_getR 108 fl_X11_78 dX11_count_105 k_l0.1 r34 rfl ?_
      obtain ⟨k35, h⟩ := gdK_some h
      obtain ⟨v36, g37, q38, h⟩ := bd_some h
      have s39 := w_X0_allDone (X := X) (Nat.le_refl 1) b33 g g37 v36 k35 q38
      refine SF_callVi 111 mi_X0_allDone ml_X11_239 dX11_count_108 (Nat.le_trans (by decide) hd) s39 k35.1 rfl rfl (Nat.le_of_ble_eq_true rfl) rfl ?_
      have k_l0 := k_l0.ext s39.1
      have k35 := k35.ext s39.1
      exact RT_i rfl dX11_count_111 h
    | 6, m50, h =>
      refine SF_tabIn 112 dX11_count_1 c49 (by omega) (by rw [m50]; rfl) rfl ?_
      refine SF_aload_n 0 113 dX11_count_112 rfl rfl rfl ?_
      obtain ⟨b40, r41, h⟩ := dr_some h
      refine SF_getR 116 fl_X11_102 dX11_count_113 k_l0.1 r41 rfl ?_
      obtain ⟨k42, h⟩ := gdK_some h
      refine SF_getI 119 fl_X11_212 dX11_count_116 k42.1 rfl ?_
      exact RT_i rfl dX11_count_119 h
    | 7, m50, h =>
      refine SF_tabIn 120 dX11_count_1 c49 (by omega) (by rw [m50]; rfl) rfl ?_
      refine SF_aload_n 0 121 dX11_count_120 rfl rfl rfl ?_
      refine SF_getI 124 fl_X11_107 dX11_count_121 k_l0.1 rfl ?_
      exact RT_i rfl dX11_count_124 h
    | 8, m50, h =>
      refine SF_tabIn 125 dX11_count_1 c49 (by omega) (by rw [m50]; rfl) rfl ?_
      refine SF_aload_n 0 126 dX11_count_125 rfl rfl rfl ?_
      obtain ⟨b43, r44, h⟩ := dr_some h
      refine SF_getR 129 fl_X11_78 dX11_count_126 k_l0.1 r44 rfl ?_
      obtain ⟨k45, h⟩ := gdK_some h
      obtain ⟨b46, r47, h⟩ := dr_some h
      refine SF_getR 132 fl_X11_136 dX11_count_129 k45.1 r47 rfl ?_
      obtain ⟨k48, h⟩ := gdK_some h
      refine SF_getI 135 fl_X11_140 dX11_count_132 k48.1 rfl ?_
      exact RT_i rfl dX11_count_135 h
    | mm + 9, m50, h =>
      refine SF_tabOut 136 dX11_count_1 (Or.inr (by omega)) rfl ?_
      refine SF_iconst (-1 : Int32) 137 dX11_count_136 rfl rfl ?_
      exact RT_i rfl dX11_count_137 h

theorem dX12_sumOf_0 : decode cX12_sumOf 0 = .ok (.iconst 0, 1) := by decide +kernel
theorem dX12_sumOf_1 : decode cX12_sumOf 1 = .ok (.istore_n 3, 1) := by decide +kernel
theorem dX12_sumOf_2 : decode cX12_sumOf 2 = .ok (.iconst 0, 1) := by decide +kernel
theorem dX12_sumOf_3 : decode cX12_sumOf 3 = .ok (.istore 4, 2) := by decide +kernel
theorem dX12_sumOf_5 : decode cX12_sumOf 5 = .ok (.iload 4, 2) := by decide +kernel
theorem dX12_sumOf_7 : decode cX12_sumOf 7 = .ok (.iload_n 2, 1) := by decide +kernel
theorem dX12_sumOf_8 : decode cX12_sumOf 8 = .ok (.if_icmp .ge 21, 3) := by decide +kernel
theorem dX12_sumOf_11 : decode cX12_sumOf 11 = .ok (.iload_n 3, 1) := by decide +kernel
theorem dX12_sumOf_12 : decode cX12_sumOf 12 = .ok (.aload_n 0, 1) := by decide +kernel
theorem dX12_sumOf_13 : decode cX12_sumOf 13 = .ok (.getfield 13, 3) := by decide +kernel
theorem dX12_sumOf_16 : decode cX12_sumOf 16 = .ok (.iload_n 1, 1) := by decide +kernel
theorem dX12_sumOf_17 : decode cX12_sumOf 17 = .ok (.iload 4, 2) := by decide +kernel
theorem dX12_sumOf_19 : decode cX12_sumOf 19 = .ok (.iadd, 1) := by decide +kernel
theorem dX12_sumOf_20 : decode cX12_sumOf 20 = .ok (.iaload, 1) := by decide +kernel
theorem dX12_sumOf_21 : decode cX12_sumOf 21 = .ok (.iadd, 1) := by decide +kernel
theorem dX12_sumOf_22 : decode cX12_sumOf 22 = .ok (.istore_n 3, 1) := by decide +kernel
theorem dX12_sumOf_23 : decode cX12_sumOf 23 = .ok (.iinc 4 1, 3) := by decide +kernel
theorem dX12_sumOf_26 : decode cX12_sumOf 26 = .ok (.goto (-21), 3) := by decide +kernel
theorem dX12_sumOf_29 : decode cX12_sumOf 29 = .ok (.iload_n 3, 1) := by decide +kernel
theorem dX12_sumOf_30 : decode cX12_sumOf 30 = .ok (.ireturn, 1) := by decide +kernel
set_option maxRecDepth 20000 in
set_option maxHeartbeats 2000000 in
theorem w_X12_sumOf_5 {X : CX} {d : Nat} (hd : 0 ≤ d) {g' : G} {rx : Int32} : ∀ (n : Nat) (l0 : Nat) (l1 : Int32) (l2 : Int32) (l3 : Int32) (l4 : Int32) (g : G), KD g l0 12 → f_X12_sumOf_5 n l0 l1 l2 l3 l4 g = some (rx, g') → SemF X m_X12_sumOf d 5 [(0, .ref (ad X l0)), (1, .int l1), (2, .int l2), (3, .int l3), (4, .int l4)] [] g (some (.int rx)) g' := by
  intro n
  induction n with
  | zero =>
    intro l0 l1 l2 l3 l4 g k_l0 h
    rw [f_X12_sumOf_5] at h
    cases h
  | succ n ih =>
  intro l0 l1 l2 l3 l4 g k_l0 h
  rw [f_X12_sumOf_5] at h
  refine SF_iload 4 7 dX12_sumOf_5 rfl rfl ?_
  refine SF_iload_n 2 8 dX12_sumOf_7 rfl rfl rfl ?_
  refine SF_icge 29 11 dX12_sumOf_8 rfl rfl (fun c1 => ?_) (fun c1 => ?_)
  · have h := ite_t c1 h
    refine SF_iload_n 3 30 dX12_sumOf_29 rfl rfl rfl ?_
    exact RT_i rfl dX12_sumOf_30 h
  · have h := ite_f c1 h
    refine SF_iload_n 3 12 dX12_sumOf_11 rfl rfl rfl ?_
    refine SF_aload_n 0 13 dX12_sumOf_12 rfl rfl rfl ?_
    obtain ⟨b2, r3, h⟩ := dr_some h
    refine SF_getR 16 fl_X12_13 dX12_sumOf_13 k_l0.1 r3 rfl ?_
    refine SF_iload_n 1 17 dX12_sumOf_16 rfl rfl rfl ?_
    refine SF_iload 4 19 dX12_sumOf_17 rfl rfl ?_
    refine SF_iadd 20 dX12_sumOf_19 rfl ?_
    obtain ⟨k4, h⟩ := gdK_some h
    obtain ⟨i5, h⟩ := gdI_some h
    refine SF_iald 21 dX12_sumOf_20 k4.1 i5 rfl ?_
    refine SF_iadd 22 dX12_sumOf_21 rfl ?_
    obtain ⟨y6, e7, h⟩ := li_some h
    refine SF_eqI e7 ?_
    refine SF_istore_n [(3, .int y6), (0, .ref (ad X l0)), (1, .int l1), (2, .int l2), (4, .int l4)] 23 dX12_sumOf_22 rfl (by decide) rfl rfl ?_
    refine SF_iinc 4 (l4 + (1 : Int32)) [(4, .int (l4 + (1 : Int32))), (3, .int y6), (0, .ref (ad X l0)), (1, .int l1), (2, .int l2)] 26 dX12_sumOf_23 rfl rfl (by decide) rfl rfl ?_
    refine SF_goto 5 dX12_sumOf_26 rfl ?_
    refine SF_sub [2, 3, 4, 1, 0] rfl ?_
    exact ih l0 l1 l2 y6 (l4 + (1 : Int32)) g k_l0 h

set_option maxRecDepth 20000 in
set_option maxHeartbeats 2000000 in
theorem w_X12_sumOf {X : CX} {d : Nat} (hd : 0 ≤ d) (l0 : Nat) (l1 : Int32) (l2 : Int32) (g g' : G) (rx : Int32) (k_l0 : KD g l0 12) (h : f_X12_sumOf l0 l1 l2 g = some (rx, g')) : Sem X m_X12_sumOf d [.ref (ad X l0), .int l1, .int l2] g (some (.int rx)) g' := by
  refine Sem_of (lo := [(0, .ref (ad X l0)), (1, .int l1), (2, .int l2)]) (by decide +kernel) rfl (Nat.le_of_ble_eq_true rfl) ?_
  rw [f_X12_sumOf] at h
  refine SF_iconst (0 : Int32) 1 dX12_sumOf_0 rfl rfl ?_
  refine SF_istore_n [(3, .int (0 : Int32)), (0, .ref (ad X l0)), (1, .int l1), (2, .int l2)] 2 dX12_sumOf_1 rfl (by decide) rfl rfl ?_
  refine SF_iconst (0 : Int32) 3 dX12_sumOf_2 rfl rfl ?_
  refine SF_istore [(4, .int (0 : Int32)), (3, .int (0 : Int32)), (0, .ref (ad X l0)), (1, .int l1), (2, .int l2)] 5 dX12_sumOf_3 (by decide) rfl rfl ?_
  refine SF_sub [2, 3, 4, 1, 0] rfl ?_
  exact w_X12_sumOf_5 hd FU l0 l1 l2 (0 : Int32) (0 : Int32) g k_l0 h

theorem dX12_count_0 : decode cX12_count 0 = .ok (.aload_n 0, 1) := by decide +kernel
theorem dX12_count_1 : decode cX12_count 1 = .ok (.iconst 0, 1) := by decide +kernel
theorem dX12_count_2 : decode cX12_count 2 = .ok (.putfield 1, 3) := by decide +kernel
theorem dX12_count_5 : decode cX12_count 5 = .ok (.iload_n 1, 1) := by decide +kernel
theorem dX12_count_6 : decode cX12_count 6 = .ok (.tableswitch 118 0 8 #[50, 57, 64, 71, 80, 93, 98, 106, 111], 50) := by decide +kernel
theorem dX12_count_56 : decode cX12_count 56 = .ok (.aload_n 0, 1) := by decide +kernel
theorem dX12_count_57 : decode cX12_count 57 = .ok (.getfield 13, 3) := by decide +kernel
theorem dX12_count_60 : decode cX12_count 60 = .ok (.iconst 1, 1) := by decide +kernel
theorem dX12_count_61 : decode cX12_count 61 = .ok (.iaload, 1) := by decide +kernel
theorem dX12_count_62 : decode cX12_count 62 = .ok (.ireturn, 1) := by decide +kernel
theorem dX12_count_63 : decode cX12_count 63 = .ok (.aload_n 0, 1) := by decide +kernel
theorem dX12_count_64 : decode cX12_count 64 = .ok (.getfield 13, 3) := by decide +kernel
theorem dX12_count_67 : decode cX12_count 67 = .ok (.iconst 2, 1) := by decide +kernel
theorem dX12_count_68 : decode cX12_count 68 = .ok (.iaload, 1) := by decide +kernel
theorem dX12_count_69 : decode cX12_count 69 = .ok (.ireturn, 1) := by decide +kernel
theorem dX12_count_70 : decode cX12_count 70 = .ok (.aload_n 0, 1) := by decide +kernel
theorem dX12_count_71 : decode cX12_count 71 = .ok (.getfield 13, 3) := by decide +kernel
theorem dX12_count_74 : decode cX12_count 74 = .ok (.iconst 3, 1) := by decide +kernel
theorem dX12_count_75 : decode cX12_count 75 = .ok (.iaload, 1) := by decide +kernel
theorem dX12_count_76 : decode cX12_count 76 = .ok (.ireturn, 1) := by decide +kernel
theorem dX12_count_77 : decode cX12_count 77 = .ok (.aload_n 0, 1) := by decide +kernel
theorem dX12_count_78 : decode cX12_count 78 = .ok (.bipush 52, 2) := by decide +kernel
theorem dX12_count_80 : decode cX12_count 80 = .ok (.bipush 36, 2) := by decide +kernel
theorem dX12_count_82 : decode cX12_count 82 = .ok (.invokevirtual 489, 3) := by decide +kernel
theorem dX12_count_85 : decode cX12_count 85 = .ok (.ireturn, 1) := by decide +kernel
theorem dX12_count_86 : decode cX12_count 86 = .ok (.aload_n 0, 1) := by decide +kernel
theorem dX12_count_87 : decode cX12_count 87 = .ok (.bipush 94, 2) := by decide +kernel
theorem dX12_count_89 : decode cX12_count 89 = .ok (.aload_n 0, 1) := by decide +kernel
theorem dX12_count_90 : decode cX12_count 90 = .ok (.getfield 13, 3) := by decide +kernel
theorem dX12_count_93 : decode cX12_count 93 = .ok (.iconst 3, 1) := by decide +kernel
theorem dX12_count_94 : decode cX12_count 94 = .ok (.iaload, 1) := by decide +kernel
theorem dX12_count_95 : decode cX12_count 95 = .ok (.invokevirtual 489, 3) := by decide +kernel
theorem dX12_count_98 : decode cX12_count 98 = .ok (.ireturn, 1) := by decide +kernel
theorem dX12_count_99 : decode cX12_count 99 = .ok (.aload_n 0, 1) := by decide +kernel
theorem dX12_count_100 : decode cX12_count 100 = .ok (.invokevirtual 326, 3) := by decide +kernel
theorem dX12_count_103 : decode cX12_count 103 = .ok (.ireturn, 1) := by decide +kernel
theorem dX12_count_104 : decode cX12_count 104 = .ok (.aload_n 0, 1) := by decide +kernel
theorem dX12_count_105 : decode cX12_count 105 = .ok (.getfield 13, 3) := by decide +kernel
theorem dX12_count_108 : decode cX12_count 108 = .ok (.bipush 103, 2) := by decide +kernel
theorem dX12_count_110 : decode cX12_count 110 = .ok (.iaload, 1) := by decide +kernel
theorem dX12_count_111 : decode cX12_count 111 = .ok (.ireturn, 1) := by decide +kernel
theorem dX12_count_112 : decode cX12_count 112 = .ok (.aload_n 0, 1) := by decide +kernel
theorem dX12_count_113 : decode cX12_count 113 = .ok (.getfield 77, 3) := by decide +kernel
theorem dX12_count_116 : decode cX12_count 116 = .ok (.ireturn, 1) := by decide +kernel
theorem dX12_count_117 : decode cX12_count 117 = .ok (.aload_n 0, 1) := by decide +kernel
theorem dX12_count_118 : decode cX12_count 118 = .ok (.getfield 13, 3) := by decide +kernel
theorem dX12_count_121 : decode cX12_count 121 = .ok (.iconst 0, 1) := by decide +kernel
theorem dX12_count_122 : decode cX12_count 122 = .ok (.iaload, 1) := by decide +kernel
theorem dX12_count_123 : decode cX12_count 123 = .ok (.ireturn, 1) := by decide +kernel
theorem dX12_count_124 : decode cX12_count 124 = .ok (.iconst (-1), 1) := by decide +kernel
theorem dX12_count_125 : decode cX12_count 125 = .ok (.ireturn, 1) := by decide +kernel
set_option maxRecDepth 20000 in
set_option maxHeartbeats 2000000 in
theorem w_X12_count {X : CX} {d : Nat} (hd : 1 ≤ d) (l0 : Nat) (l1 : Int32) (g g' : G) (rx : Int32) (k_l0 : KD g l0 12) (h : f_X12_count l0 l1 g = some (rx, g')) : Sem X m_X12_count d [.ref (ad X l0), .int l1] g (some (.int rx)) g' := by
  refine Sem_of (lo := [(0, .ref (ad X l0)), (1, .int l1)]) (by decide +kernel) rfl (Nat.le_of_ble_eq_true rfl) ?_
  rw [f_X12_count] at h
  refine SF_aload_n 0 1 dX12_count_0 rfl rfl rfl ?_
  refine SF_iconst (0 : Int32) 2 dX12_count_1 rfl rfl ?_
  refine SF_putI 5 fl_X12_1 dX12_count_2 k_l0.1 (fn_int _) (Or.inl rfl) rfl ?_
  obtain ⟨g1, e2, h⟩ := lg_some h
  rw [← e2]
  have k_l0 := KD.eq e2 k_l0
  refine SF_iload_n 1 6 dX12_count_5 rfl rfl rfl ?_
  by_cases c39 : l1.toInt < 0
  · have h := ite_t c39 h
    refine SF_tabOut 124 dX12_count_6 (Or.inl c39) rfl ?_
    refine SF_iconst (-1 : Int32) 125 dX12_count_124 rfl rfl ?_
    exact RT_i rfl dX12_count_125 h
  · have h := ite_f c39 h
    generalize m40 : (l1.toInt - 0).toNat = mm at h
    match mm, m40, h with
    | 0, m40, h =>
      refine SF_tabIn 56 dX12_count_6 c39 (by omega) (by rw [m40]; rfl) rfl ?_
      refine SF_aload_n 0 57 dX12_count_56 rfl rfl rfl ?_
      obtain ⟨b3, r4, h⟩ := dr_some h
      refine SF_getR 60 fl_X12_13 dX12_count_57 k_l0.1 r4 rfl ?_
      refine SF_iconst (1 : Int32) 61 dX12_count_60 rfl rfl ?_
      obtain ⟨k5, h⟩ := gdK_some h
      obtain ⟨i6, h⟩ := gdI_some h
      refine SF_iald 62 dX12_count_61 k5.1 i6 rfl ?_
      exact RT_i rfl dX12_count_62 h
    | 1, m40, h =>
      refine SF_tabIn 63 dX12_count_6 c39 (by omega) (by rw [m40]; rfl) rfl ?_
      refine SF_aload_n 0 64 dX12_count_63 rfl rfl rfl ?_
      obtain ⟨b7, r8, h⟩ := dr_some h
      refine SF_getR 67 fl_X12_13 dX12_count_64 k_l0.1 r8 rfl ?_
      refine SF_iconst (2 : Int32) 68 dX12_count_67 rfl rfl ?_
      obtain ⟨k9, h⟩ := gdK_some h
      obtain ⟨i10, h⟩ := gdI_some h
      refine SF_iald 69 dX12_count_68 k9.1 i10 rfl ?_
      exact RT_i rfl dX12_count_69 h
    | 2, m40, h =>
      refine SF_tabIn 70 dX12_count_6 c39 (by omega) (by rw [m40]; rfl) rfl ?_
      refine SF_aload_n 0 71 dX12_count_70 rfl rfl rfl ?_
      obtain ⟨b11, r12, h⟩ := dr_some h
      refine SF_getR 74 fl_X12_13 dX12_count_71 k_l0.1 r12 rfl ?_
      refine SF_iconst (3 : Int32) 75 dX12_count_74 rfl rfl ?_
      obtain ⟨k13, h⟩ := gdK_some h
      obtain ⟨i14, h⟩ := gdI_some h
      refine SF_iald 76 dX12_count_75 k13.1 i14 rfl ?_
      exact RT_i rfl dX12_count_76 h
    | 3, m40, h =>
      refine SF_tabIn 77 dX12_count_6 c39 (by omega) (by rw [m40]; rfl) rfl ?_
      refine SF_aload_n 0 78 dX12_count_77 rfl rfl rfl ?_
      refine SF_bipush (52 : Int32) 80 dX12_count_78 rfl rfl ?_
      refine SF_bipush (36 : Int32) 82 dX12_count_80 rfl rfl ?_
      obtain ⟨v15, g16, q17, h⟩ := bd_some h
      have s18 := w_X12_sumOf (X := X) (Nat.le_refl 0) l0 (52 : Int32) (36 : Int32) g1 g16 v15 k_l0 q17
      refine SF_callVi 85 mi_X12_sumOf ml_X12_489 dX12_count_82 (Nat.le_trans (by decide) hd) s18 k_l0.1 rfl rfl (Nat.le_of_ble_eq_true rfl) rfl ?_
      have k_l0 := k_l0.ext s18.1
      exact RT_i rfl dX12_count_85 h
    | 4, m40, h =>
      refine SF_tabIn 86 dX12_count_6 c39 (by omega) (by rw [m40]; rfl) rfl ?_
      refine SF_aload_n 0 87 dX12_count_86 rfl rfl rfl ?_
      refine SF_bipush (94 : Int32) 89 dX12_count_87 rfl rfl ?_
      refine SF_aload_n 0 90 dX12_count_89 rfl rfl rfl ?_
      obtain ⟨b19, r20, h⟩ := dr_some h
      refine SF_getR 93 fl_X12_13 dX12_count_90 k_l0.1 r20 rfl ?_
      refine SF_iconst (3 : Int32) 94 dX12_count_93 rfl rfl ?_
      obtain ⟨k21, h⟩ := gdK_some h
      obtain ⟨i22, h⟩ := gdI_some h
      refine SF_iald 95 dX12_count_94 k21.1 i22 rfl ?_
      obtain ⟨v23, g24, q25, h⟩ := bd_some h
      have s26 := w_X12_sumOf (X := X) (Nat.le_refl 0) l0 (94 : Int32) (gI g1 b19 (3 : Int32).toNatClampNeg) g1 g24 v23 k_l0 q25
      refine SF_callVi 98 mi_X12_sumOf ml_X12_489 dX12_count_95 (Nat.le_trans (by decide) hd) s26 k_l0.1 rfl rfl (Nat.le_of_ble_eq_true rfl) rfl ?_
      have k_l0 := k_l0.ext s26.1
      have k21 := k21.ext s26.1
      exact RT_i rfl dX12_count_98 h
    | 5, m40, h =>
      refine SF_tabIn 99 dX12_count_6 c39 (by omega) (by rw [m40]; rfl) rfl ?_
      refine SF_aload_n 0 100 dX12_count_99 rfl rfl rfl ?_
      obtain ⟨v27, g28, q29, h⟩ := bd_some h
      have s30 := w_X12_doneAll (X := X) (Nat.le_refl 0) l0 g1 g28 v27 k_l0 q29
      refine SF_callVi 103 mi_X12_doneAll ml_X12_326 dX12_count_100 (Nat.le_trans (by decide) hd) s30 k_l0.1 rfl rfl (Nat.le_of_ble_eq_true rfl) rfl ?_
      have k_l0 := k_l0.ext s30.1
      exact RT_i rfl dX12_count_103 h
    | 6, m40, h =>
      refine SF_tabIn 104 dX12_count_6 c39 (by omega) (by rw [m40]; rfl) rfl ?_
      refine SF_aload_n 0 105 dX12_count_104 rfl rfl rfl ?_
      obtain ⟨b31, r32, h⟩ := dr_some h
      refine SF_getR 108 fl_X12_13 dX12_count_105 k_l0.1 r32 rfl ?_
      refine SF_bipush (103 : Int32) 110 dX12_count_108 rfl rfl ?_
      obtain ⟨k33, h⟩ := gdK_some h
      obtain ⟨i34, h⟩ := gdI_some h
      refine SF_iald 111 dX12_count_110 k33.1 i34 rfl ?_
      exact RT_i rfl dX12_count_111 h
    | 7, m40, h =>
      refine SF_tabIn 112 dX12_count_6 c39 (by omega) (by rw [m40]; rfl) rfl ?_
      refine SF_aload_n 0 113 dX12_count_112 rfl rfl rfl ?_
      refine SF_getI 116 fl_X12_77 dX12_count_113 k_l0.1 rfl ?_
      exact RT_i rfl dX12_count_116 h
    | 8, m40, h =>
      refine SF_tabIn 117 dX12_count_6 c39 (by omega) (by rw [m40]; rfl) rfl ?_
      refine SF_aload_n 0 118 dX12_count_117 rfl rfl rfl ?_
      obtain ⟨b35, r36, h⟩ := dr_some h
      refine SF_getR 121 fl_X12_13 dX12_count_118 k_l0.1 r36 rfl ?_
      refine SF_iconst (0 : Int32) 122 dX12_count_121 rfl rfl ?_
      obtain ⟨k37, h⟩ := gdK_some h
      obtain ⟨i38, h⟩ := gdI_some h
      refine SF_iald 123 dX12_count_122 k37.1 i38 rfl ?_
      exact RT_i rfl dX12_count_123 h
    | mm + 9, m40, h =>
      refine SF_tabOut 124 dX12_count_6 (Or.inr (by omega)) rfl ?_
      refine SF_iconst (-1 : Int32) 125 dX12_count_124 rfl rfl ?_
      exact RT_i rfl dX12_count_125 h

theorem dL_law_0 : decode cL_law 0 = .ok (.new 7, 3) := by decide +kernel
theorem dL_law_3 : decode cL_law 3 = .ok (.dup, 1) := by decide +kernel
theorem dL_law_4 : decode cL_law 4 = .ok (.invokespecial 9, 3) := by decide +kernel
theorem dL_law_7 : decode cL_law 7 = .ok (.astore_n 1, 1) := by decide +kernel
theorem dL_law_8 : decode cL_law 8 = .ok (.new 10, 3) := by decide +kernel
theorem dL_law_11 : decode cL_law 11 = .ok (.dup, 1) := by decide +kernel
theorem dL_law_12 : decode cL_law 12 = .ok (.invokespecial 12, 3) := by decide +kernel
theorem dL_law_15 : decode cL_law 15 = .ok (.astore_n 2, 1) := by decide +kernel
theorem dL_law_16 : decode cL_law 16 = .ok (.iconst 0, 1) := by decide +kernel
theorem dL_law_17 : decode cL_law 17 = .ok (.istore_n 3, 1) := by decide +kernel
theorem dL_law_18 : decode cL_law 18 = .ok (.iload_n 3, 1) := by decide +kernel
theorem dL_law_19 : decode cL_law 19 = .ok (.aload_n 0, 1) := by decide +kernel
theorem dL_law_20 : decode cL_law 20 = .ok (.arraylength, 1) := by decide +kernel
theorem dL_law_21 : decode cL_law 21 = .ok (.bipush 6, 2) := by decide +kernel
theorem dL_law_23 : decode cL_law 23 = .ok (.isub, 1) := by decide +kernel
theorem dL_law_24 : decode cL_law 24 = .ok (.if_icmp .gt 1799, 3) := by decide +kernel
theorem dL_law_27 : decode cL_law 27 = .ok (.aload_n 0, 1) := by decide +kernel
theorem dL_law_28 : decode cL_law 28 = .ok (.iload_n 3, 1) := by decide +kernel
theorem dL_law_29 : decode cL_law 29 = .ok (.iaload, 1) := by decide +kernel
theorem dL_law_30 : decode cL_law 30 = .ok (.bipush 63, 2) := by decide +kernel
theorem dL_law_32 : decode cL_law 32 = .ok (.iand, 1) := by decide +kernel
theorem dL_law_33 : decode cL_law 33 = .ok (.tableswitch 1784 0 42 #[187, 250, 273, 296, 329, 362, 405, 458, 501, 524, 567, 600, 623, 656, 679, 712, 755, 808, 851, 904, 958, 1002, 1025, 1058, 1092, 1115, 1148, 1182, 1215, 1248, 1281, 1305, 1339, 1372, 1405, 1438, 1502, 1545, 1588, 1662, 1715, 1738, 1761], 187) := by decide +kernel
theorem dL_law_220 : decode cL_law 220 = .ok (.aload_n 1, 1) := by decide +kernel
theorem dL_law_221 : decode cL_law 221 = .ok (.aload_n 0, 1) := by decide +kernel
theorem dL_law_222 : decode cL_law 222 = .ok (.iload_n 3, 1) := by decide +kernel
theorem dL_law_223 : decode cL_law 223 = .ok (.iconst 1, 1) := by decide +kernel
theorem dL_law_224 : decode cL_law 224 = .ok (.iadd, 1) := by decide +kernel
theorem dL_law_225 : decode cL_law 225 = .ok (.iaload, 1) := by decide +kernel
theorem dL_law_226 : decode cL_law 226 = .ok (.aload_n 0, 1) := by decide +kernel
theorem dL_law_227 : decode cL_law 227 = .ok (.iload_n 3, 1) := by decide +kernel
theorem dL_law_228 : decode cL_law 228 = .ok (.iconst 2, 1) := by decide +kernel
theorem dL_law_229 : decode cL_law 229 = .ok (.iadd, 1) := by decide +kernel
theorem dL_law_230 : decode cL_law 230 = .ok (.iaload, 1) := by decide +kernel
theorem dL_law_231 : decode cL_law 231 = .ok (.aload_n 0, 1) := by decide +kernel
theorem dL_law_232 : decode cL_law 232 = .ok (.iload_n 3, 1) := by decide +kernel
theorem dL_law_233 : decode cL_law 233 = .ok (.iconst 3, 1) := by decide +kernel
theorem dL_law_234 : decode cL_law 234 = .ok (.iadd, 1) := by decide +kernel
theorem dL_law_235 : decode cL_law 235 = .ok (.iaload, 1) := by decide +kernel
theorem dL_law_236 : decode cL_law 236 = .ok (.aload_n 0, 1) := by decide +kernel
theorem dL_law_237 : decode cL_law 237 = .ok (.iload_n 3, 1) := by decide +kernel
theorem dL_law_238 : decode cL_law 238 = .ok (.iconst 4, 1) := by decide +kernel
theorem dL_law_239 : decode cL_law 239 = .ok (.iadd, 1) := by decide +kernel
theorem dL_law_240 : decode cL_law 240 = .ok (.iaload, 1) := by decide +kernel
theorem dL_law_241 : decode cL_law 241 = .ok (.aload_n 0, 1) := by decide +kernel
theorem dL_law_242 : decode cL_law 242 = .ok (.iload_n 3, 1) := by decide +kernel
theorem dL_law_243 : decode cL_law 243 = .ok (.iconst 5, 1) := by decide +kernel
theorem dL_law_244 : decode cL_law 244 = .ok (.iadd, 1) := by decide +kernel
theorem dL_law_245 : decode cL_law 245 = .ok (.iaload, 1) := by decide +kernel
theorem dL_law_246 : decode cL_law 246 = .ok (.invokevirtual 13, 3) := by decide +kernel
theorem dL_law_249 : decode cL_law 249 = .ok (.aload_n 2, 1) := by decide +kernel
theorem dL_law_250 : decode cL_law 250 = .ok (.aload_n 0, 1) := by decide +kernel
theorem dL_law_251 : decode cL_law 251 = .ok (.iload_n 3, 1) := by decide +kernel
theorem dL_law_252 : decode cL_law 252 = .ok (.iconst 1, 1) := by decide +kernel
theorem dL_law_253 : decode cL_law 253 = .ok (.iadd, 1) := by decide +kernel
theorem dL_law_254 : decode cL_law 254 = .ok (.iaload, 1) := by decide +kernel
theorem dL_law_255 : decode cL_law 255 = .ok (.aload_n 0, 1) := by decide +kernel
theorem dL_law_256 : decode cL_law 256 = .ok (.iload_n 3, 1) := by decide +kernel
theorem dL_law_257 : decode cL_law 257 = .ok (.iconst 2, 1) := by decide +kernel
theorem dL_law_258 : decode cL_law 258 = .ok (.iadd, 1) := by decide +kernel
theorem dL_law_259 : decode cL_law 259 = .ok (.iaload, 1) := by decide +kernel
theorem dL_law_260 : decode cL_law 260 = .ok (.aload_n 0, 1) := by decide +kernel
theorem dL_law_261 : decode cL_law 261 = .ok (.iload_n 3, 1) := by decide +kernel
theorem dL_law_262 : decode cL_law 262 = .ok (.iconst 3, 1) := by decide +kernel
theorem dL_law_263 : decode cL_law 263 = .ok (.iadd, 1) := by decide +kernel
theorem dL_law_264 : decode cL_law 264 = .ok (.iaload, 1) := by decide +kernel
theorem dL_law_265 : decode cL_law 265 = .ok (.aload_n 0, 1) := by decide +kernel
theorem dL_law_266 : decode cL_law 266 = .ok (.iload_n 3, 1) := by decide +kernel
theorem dL_law_267 : decode cL_law 267 = .ok (.iconst 4, 1) := by decide +kernel
theorem dL_law_268 : decode cL_law 268 = .ok (.iadd, 1) := by decide +kernel
theorem dL_law_269 : decode cL_law 269 = .ok (.iaload, 1) := by decide +kernel
theorem dL_law_270 : decode cL_law 270 = .ok (.aload_n 0, 1) := by decide +kernel
theorem dL_law_271 : decode cL_law 271 = .ok (.iload_n 3, 1) := by decide +kernel
theorem dL_law_272 : decode cL_law 272 = .ok (.iconst 5, 1) := by decide +kernel
theorem dL_law_273 : decode cL_law 273 = .ok (.iadd, 1) := by decide +kernel
theorem dL_law_274 : decode cL_law 274 = .ok (.iaload, 1) := by decide +kernel
theorem dL_law_275 : decode cL_law 275 = .ok (.invokevirtual 17, 3) := by decide +kernel
theorem dL_law_278 : decode cL_law 278 = .ok (.if_icmp .eq 1539, 3) := by decide +kernel
theorem dL_law_281 : decode cL_law 281 = .ok (.iconst 0, 1) := by decide +kernel
theorem dL_law_282 : decode cL_law 282 = .ok (.ireturn, 1) := by decide +kernel
theorem dL_law_283 : decode cL_law 283 = .ok (.aload_n 1, 1) := by decide +kernel
theorem dL_law_284 : decode cL_law 284 = .ok (.aload_n 0, 1) := by decide +kernel
theorem dL_law_285 : decode cL_law 285 = .ok (.iload_n 3, 1) := by decide +kernel
theorem dL_law_286 : decode cL_law 286 = .ok (.iconst 1, 1) := by decide +kernel
theorem dL_law_287 : decode cL_law 287 = .ok (.iadd, 1) := by decide +kernel
theorem dL_law_288 : decode cL_law 288 = .ok (.iaload, 1) := by decide +kernel
theorem dL_law_289 : decode cL_law 289 = .ok (.invokevirtual 18, 3) := by decide +kernel
theorem dL_law_292 : decode cL_law 292 = .ok (.aload_n 2, 1) := by decide +kernel
theorem dL_law_293 : decode cL_law 293 = .ok (.aload_n 0, 1) := by decide +kernel
theorem dL_law_294 : decode cL_law 294 = .ok (.iload_n 3, 1) := by decide +kernel
theorem dL_law_295 : decode cL_law 295 = .ok (.iconst 1, 1) := by decide +kernel
theorem dL_law_296 : decode cL_law 296 = .ok (.iadd, 1) := by decide +kernel
theorem dL_law_297 : decode cL_law 297 = .ok (.iaload, 1) := by decide +kernel
theorem dL_law_298 : decode cL_law 298 = .ok (.invokevirtual 22, 3) := by decide +kernel
theorem dL_law_301 : decode cL_law 301 = .ok (.if_icmp .eq 1516, 3) := by decide +kernel
theorem dL_law_304 : decode cL_law 304 = .ok (.iconst 0, 1) := by decide +kernel
theorem dL_law_305 : decode cL_law 305 = .ok (.ireturn, 1) := by decide +kernel
theorem dL_law_306 : decode cL_law 306 = .ok (.aload_n 1, 1) := by decide +kernel
theorem dL_law_307 : decode cL_law 307 = .ok (.aload_n 0, 1) := by decide +kernel
theorem dL_law_308 : decode cL_law 308 = .ok (.iload_n 3, 1) := by decide +kernel
theorem dL_law_309 : decode cL_law 309 = .ok (.iconst 1, 1) := by decide +kernel
theorem dL_law_310 : decode cL_law 310 = .ok (.iadd, 1) := by decide +kernel
theorem dL_law_311 : decode cL_law 311 = .ok (.iaload, 1) := by decide +kernel
theorem dL_law_312 : decode cL_law 312 = .ok (.invokevirtual 23, 3) := by decide +kernel
theorem dL_law_315 : decode cL_law 315 = .ok (.aload_n 2, 1) := by decide +kernel
theorem dL_law_316 : decode cL_law 316 = .ok (.aload_n 0, 1) := by decide +kernel
theorem dL_law_317 : decode cL_law 317 = .ok (.iload_n 3, 1) := by decide +kernel
theorem dL_law_318 : decode cL_law 318 = .ok (.iconst 1, 1) := by decide +kernel
theorem dL_law_319 : decode cL_law 319 = .ok (.iadd, 1) := by decide +kernel
theorem dL_law_320 : decode cL_law 320 = .ok (.iaload, 1) := by decide +kernel
theorem dL_law_321 : decode cL_law 321 = .ok (.invokevirtual 26, 3) := by decide +kernel
theorem dL_law_324 : decode cL_law 324 = .ok (.if_icmp .eq 1493, 3) := by decide +kernel
theorem dL_law_327 : decode cL_law 327 = .ok (.iconst 0, 1) := by decide +kernel
theorem dL_law_328 : decode cL_law 328 = .ok (.ireturn, 1) := by decide +kernel
theorem dL_law_329 : decode cL_law 329 = .ok (.aload_n 1, 1) := by decide +kernel
theorem dL_law_330 : decode cL_law 330 = .ok (.aload_n 0, 1) := by decide +kernel
theorem dL_law_331 : decode cL_law 331 = .ok (.iload_n 3, 1) := by decide +kernel
theorem dL_law_332 : decode cL_law 332 = .ok (.iconst 1, 1) := by decide +kernel
theorem dL_law_333 : decode cL_law 333 = .ok (.iadd, 1) := by decide +kernel
theorem dL_law_334 : decode cL_law 334 = .ok (.iaload, 1) := by decide +kernel
theorem dL_law_335 : decode cL_law 335 = .ok (.aload_n 0, 1) := by decide +kernel
theorem dL_law_336 : decode cL_law 336 = .ok (.iload_n 3, 1) := by decide +kernel
theorem dL_law_337 : decode cL_law 337 = .ok (.iconst 2, 1) := by decide +kernel
theorem dL_law_338 : decode cL_law 338 = .ok (.iadd, 1) := by decide +kernel
theorem dL_law_339 : decode cL_law 339 = .ok (.iaload, 1) := by decide +kernel
theorem dL_law_340 : decode cL_law 340 = .ok (.invokevirtual 27, 3) := by decide +kernel
theorem dL_law_343 : decode cL_law 343 = .ok (.aload_n 2, 1) := by decide +kernel
theorem dL_law_344 : decode cL_law 344 = .ok (.aload_n 0, 1) := by decide +kernel
theorem dL_law_345 : decode cL_law 345 = .ok (.iload_n 3, 1) := by decide +kernel
theorem dL_law_346 : decode cL_law 346 = .ok (.iconst 1, 1) := by decide +kernel
theorem dL_law_347 : decode cL_law 347 = .ok (.iadd, 1) := by decide +kernel
theorem dL_law_348 : decode cL_law 348 = .ok (.iaload, 1) := by decide +kernel
theorem dL_law_349 : decode cL_law 349 = .ok (.aload_n 0, 1) := by decide +kernel
theorem dL_law_350 : decode cL_law 350 = .ok (.iload_n 3, 1) := by decide +kernel
theorem dL_law_351 : decode cL_law 351 = .ok (.iconst 2, 1) := by decide +kernel
theorem dL_law_352 : decode cL_law 352 = .ok (.iadd, 1) := by decide +kernel
theorem dL_law_353 : decode cL_law 353 = .ok (.iaload, 1) := by decide +kernel
theorem dL_law_354 : decode cL_law 354 = .ok (.invokevirtual 31, 3) := by decide +kernel
theorem dL_law_357 : decode cL_law 357 = .ok (.if_icmp .eq 1460, 3) := by decide +kernel
theorem dL_law_360 : decode cL_law 360 = .ok (.iconst 0, 1) := by decide +kernel
theorem dL_law_361 : decode cL_law 361 = .ok (.ireturn, 1) := by decide +kernel
theorem dL_law_362 : decode cL_law 362 = .ok (.aload_n 1, 1) := by decide +kernel
theorem dL_law_363 : decode cL_law 363 = .ok (.aload_n 0, 1) := by decide +kernel
theorem dL_law_364 : decode cL_law 364 = .ok (.iload_n 3, 1) := by decide +kernel
theorem dL_law_365 : decode cL_law 365 = .ok (.iconst 1, 1) := by decide +kernel
theorem dL_law_366 : decode cL_law 366 = .ok (.iadd, 1) := by decide +kernel
theorem dL_law_367 : decode cL_law 367 = .ok (.iaload, 1) := by decide +kernel
theorem dL_law_368 : decode cL_law 368 = .ok (.aload_n 0, 1) := by decide +kernel
theorem dL_law_369 : decode cL_law 369 = .ok (.iload_n 3, 1) := by decide +kernel
theorem dL_law_370 : decode cL_law 370 = .ok (.iconst 2, 1) := by decide +kernel
theorem dL_law_371 : decode cL_law 371 = .ok (.iadd, 1) := by decide +kernel
theorem dL_law_372 : decode cL_law 372 = .ok (.iaload, 1) := by decide +kernel
theorem dL_law_373 : decode cL_law 373 = .ok (.invokevirtual 32, 3) := by decide +kernel
theorem dL_law_376 : decode cL_law 376 = .ok (.aload_n 2, 1) := by decide +kernel
theorem dL_law_377 : decode cL_law 377 = .ok (.aload_n 0, 1) := by decide +kernel
theorem dL_law_378 : decode cL_law 378 = .ok (.iload_n 3, 1) := by decide +kernel
theorem dL_law_379 : decode cL_law 379 = .ok (.iconst 1, 1) := by decide +kernel
theorem dL_law_380 : decode cL_law 380 = .ok (.iadd, 1) := by decide +kernel
theorem dL_law_381 : decode cL_law 381 = .ok (.iaload, 1) := by decide +kernel
theorem dL_law_382 : decode cL_law 382 = .ok (.aload_n 0, 1) := by decide +kernel
theorem dL_law_383 : decode cL_law 383 = .ok (.iload_n 3, 1) := by decide +kernel
theorem dL_law_384 : decode cL_law 384 = .ok (.iconst 2, 1) := by decide +kernel
theorem dL_law_385 : decode cL_law 385 = .ok (.iadd, 1) := by decide +kernel
theorem dL_law_386 : decode cL_law 386 = .ok (.iaload, 1) := by decide +kernel
theorem dL_law_387 : decode cL_law 387 = .ok (.invokevirtual 35, 3) := by decide +kernel
theorem dL_law_390 : decode cL_law 390 = .ok (.if_icmp .eq 1427, 3) := by decide +kernel
theorem dL_law_393 : decode cL_law 393 = .ok (.iconst 0, 1) := by decide +kernel
theorem dL_law_394 : decode cL_law 394 = .ok (.ireturn, 1) := by decide +kernel
theorem dL_law_395 : decode cL_law 395 = .ok (.aload_n 1, 1) := by decide +kernel
theorem dL_law_396 : decode cL_law 396 = .ok (.aload_n 0, 1) := by decide +kernel
theorem dL_law_397 : decode cL_law 397 = .ok (.iload_n 3, 1) := by decide +kernel
theorem dL_law_398 : decode cL_law 398 = .ok (.iconst 1, 1) := by decide +kernel
theorem dL_law_399 : decode cL_law 399 = .ok (.iadd, 1) := by decide +kernel
theorem dL_law_400 : decode cL_law 400 = .ok (.iaload, 1) := by decide +kernel
theorem dL_law_401 : decode cL_law 401 = .ok (.aload_n 0, 1) := by decide +kernel
theorem dL_law_402 : decode cL_law 402 = .ok (.iload_n 3, 1) := by decide +kernel
theorem dL_law_403 : decode cL_law 403 = .ok (.iconst 2, 1) := by decide +kernel
theorem dL_law_404 : decode cL_law 404 = .ok (.iadd, 1) := by decide +kernel
theorem dL_law_405 : decode cL_law 405 = .ok (.iaload, 1) := by decide +kernel
theorem dL_law_406 : decode cL_law 406 = .ok (.aload_n 0, 1) := by decide +kernel
theorem dL_law_407 : decode cL_law 407 = .ok (.iload_n 3, 1) := by decide +kernel
theorem dL_law_408 : decode cL_law 408 = .ok (.iconst 3, 1) := by decide +kernel
theorem dL_law_409 : decode cL_law 409 = .ok (.iadd, 1) := by decide +kernel
theorem dL_law_410 : decode cL_law 410 = .ok (.iaload, 1) := by decide +kernel
theorem dL_law_411 : decode cL_law 411 = .ok (.invokevirtual 36, 3) := by decide +kernel
theorem dL_law_414 : decode cL_law 414 = .ok (.aload_n 2, 1) := by decide +kernel
theorem dL_law_415 : decode cL_law 415 = .ok (.aload_n 0, 1) := by decide +kernel
theorem dL_law_416 : decode cL_law 416 = .ok (.iload_n 3, 1) := by decide +kernel
theorem dL_law_417 : decode cL_law 417 = .ok (.iconst 1, 1) := by decide +kernel
theorem dL_law_418 : decode cL_law 418 = .ok (.iadd, 1) := by decide +kernel
theorem dL_law_419 : decode cL_law 419 = .ok (.iaload, 1) := by decide +kernel
theorem dL_law_420 : decode cL_law 420 = .ok (.aload_n 0, 1) := by decide +kernel
theorem dL_law_421 : decode cL_law 421 = .ok (.iload_n 3, 1) := by decide +kernel
theorem dL_law_422 : decode cL_law 422 = .ok (.iconst 2, 1) := by decide +kernel
theorem dL_law_423 : decode cL_law 423 = .ok (.iadd, 1) := by decide +kernel
theorem dL_law_424 : decode cL_law 424 = .ok (.iaload, 1) := by decide +kernel
theorem dL_law_425 : decode cL_law 425 = .ok (.aload_n 0, 1) := by decide +kernel
theorem dL_law_426 : decode cL_law 426 = .ok (.iload_n 3, 1) := by decide +kernel
theorem dL_law_427 : decode cL_law 427 = .ok (.iconst 3, 1) := by decide +kernel
theorem dL_law_428 : decode cL_law 428 = .ok (.iadd, 1) := by decide +kernel
theorem dL_law_429 : decode cL_law 429 = .ok (.iaload, 1) := by decide +kernel
theorem dL_law_430 : decode cL_law 430 = .ok (.invokevirtual 40, 3) := by decide +kernel
theorem dL_law_433 : decode cL_law 433 = .ok (.if_icmp .eq 1384, 3) := by decide +kernel
theorem dL_law_436 : decode cL_law 436 = .ok (.iconst 0, 1) := by decide +kernel
theorem dL_law_437 : decode cL_law 437 = .ok (.ireturn, 1) := by decide +kernel
theorem dL_law_438 : decode cL_law 438 = .ok (.aload_n 1, 1) := by decide +kernel
theorem dL_law_439 : decode cL_law 439 = .ok (.aload_n 0, 1) := by decide +kernel
theorem dL_law_440 : decode cL_law 440 = .ok (.iload_n 3, 1) := by decide +kernel
theorem dL_law_441 : decode cL_law 441 = .ok (.iconst 1, 1) := by decide +kernel
theorem dL_law_442 : decode cL_law 442 = .ok (.iadd, 1) := by decide +kernel
theorem dL_law_443 : decode cL_law 443 = .ok (.iaload, 1) := by decide +kernel
theorem dL_law_444 : decode cL_law 444 = .ok (.aload_n 0, 1) := by decide +kernel
theorem dL_law_445 : decode cL_law 445 = .ok (.iload_n 3, 1) := by decide +kernel
theorem dL_law_446 : decode cL_law 446 = .ok (.iconst 2, 1) := by decide +kernel
theorem dL_law_447 : decode cL_law 447 = .ok (.iadd, 1) := by decide +kernel
theorem dL_law_448 : decode cL_law 448 = .ok (.iaload, 1) := by decide +kernel
theorem dL_law_449 : decode cL_law 449 = .ok (.aload_n 0, 1) := by decide +kernel
theorem dL_law_450 : decode cL_law 450 = .ok (.iload_n 3, 1) := by decide +kernel
theorem dL_law_451 : decode cL_law 451 = .ok (.iconst 3, 1) := by decide +kernel
theorem dL_law_452 : decode cL_law 452 = .ok (.iadd, 1) := by decide +kernel
theorem dL_law_453 : decode cL_law 453 = .ok (.iaload, 1) := by decide +kernel
theorem dL_law_454 : decode cL_law 454 = .ok (.aload_n 0, 1) := by decide +kernel
theorem dL_law_455 : decode cL_law 455 = .ok (.iload_n 3, 1) := by decide +kernel
theorem dL_law_456 : decode cL_law 456 = .ok (.iconst 4, 1) := by decide +kernel
theorem dL_law_457 : decode cL_law 457 = .ok (.iadd, 1) := by decide +kernel
theorem dL_law_458 : decode cL_law 458 = .ok (.iaload, 1) := by decide +kernel
theorem dL_law_459 : decode cL_law 459 = .ok (.invokevirtual 41, 3) := by decide +kernel
theorem dL_law_462 : decode cL_law 462 = .ok (.aload_n 2, 1) := by decide +kernel
theorem dL_law_463 : decode cL_law 463 = .ok (.aload_n 0, 1) := by decide +kernel
theorem dL_law_464 : decode cL_law 464 = .ok (.iload_n 3, 1) := by decide +kernel
theorem dL_law_465 : decode cL_law 465 = .ok (.iconst 1, 1) := by decide +kernel
theorem dL_law_466 : decode cL_law 466 = .ok (.iadd, 1) := by decide +kernel
theorem dL_law_467 : decode cL_law 467 = .ok (.iaload, 1) := by decide +kernel
theorem dL_law_468 : decode cL_law 468 = .ok (.aload_n 0, 1) := by decide +kernel
theorem dL_law_469 : decode cL_law 469 = .ok (.iload_n 3, 1) := by decide +kernel
theorem dL_law_470 : decode cL_law 470 = .ok (.iconst 2, 1) := by decide +kernel
theorem dL_law_471 : decode cL_law 471 = .ok (.iadd, 1) := by decide +kernel
theorem dL_law_472 : decode cL_law 472 = .ok (.iaload, 1) := by decide +kernel
theorem dL_law_473 : decode cL_law 473 = .ok (.aload_n 0, 1) := by decide +kernel
theorem dL_law_474 : decode cL_law 474 = .ok (.iload_n 3, 1) := by decide +kernel
theorem dL_law_475 : decode cL_law 475 = .ok (.iconst 3, 1) := by decide +kernel
theorem dL_law_476 : decode cL_law 476 = .ok (.iadd, 1) := by decide +kernel
theorem dL_law_477 : decode cL_law 477 = .ok (.iaload, 1) := by decide +kernel
theorem dL_law_478 : decode cL_law 478 = .ok (.aload_n 0, 1) := by decide +kernel
theorem dL_law_479 : decode cL_law 479 = .ok (.iload_n 3, 1) := by decide +kernel
theorem dL_law_480 : decode cL_law 480 = .ok (.iconst 4, 1) := by decide +kernel
theorem dL_law_481 : decode cL_law 481 = .ok (.iadd, 1) := by decide +kernel
theorem dL_law_482 : decode cL_law 482 = .ok (.iaload, 1) := by decide +kernel
theorem dL_law_483 : decode cL_law 483 = .ok (.invokevirtual 45, 3) := by decide +kernel
theorem dL_law_486 : decode cL_law 486 = .ok (.if_icmp .eq 1331, 3) := by decide +kernel
theorem dL_law_489 : decode cL_law 489 = .ok (.iconst 0, 1) := by decide +kernel
theorem dL_law_490 : decode cL_law 490 = .ok (.ireturn, 1) := by decide +kernel
theorem dL_law_491 : decode cL_law 491 = .ok (.aload_n 1, 1) := by decide +kernel
theorem dL_law_492 : decode cL_law 492 = .ok (.aload_n 0, 1) := by decide +kernel
theorem dL_law_493 : decode cL_law 493 = .ok (.iload_n 3, 1) := by decide +kernel
theorem dL_law_494 : decode cL_law 494 = .ok (.iconst 1, 1) := by decide +kernel
theorem dL_law_495 : decode cL_law 495 = .ok (.iadd, 1) := by decide +kernel
theorem dL_law_496 : decode cL_law 496 = .ok (.iaload, 1) := by decide +kernel
theorem dL_law_497 : decode cL_law 497 = .ok (.aload_n 0, 1) := by decide +kernel
theorem dL_law_498 : decode cL_law 498 = .ok (.iload_n 3, 1) := by decide +kernel
theorem dL_law_499 : decode cL_law 499 = .ok (.iconst 2, 1) := by decide +kernel
theorem dL_law_500 : decode cL_law 500 = .ok (.iadd, 1) := by decide +kernel
theorem dL_law_501 : decode cL_law 501 = .ok (.iaload, 1) := by decide +kernel
theorem dL_law_502 : decode cL_law 502 = .ok (.aload_n 0, 1) := by decide +kernel
theorem dL_law_503 : decode cL_law 503 = .ok (.iload_n 3, 1) := by decide +kernel
theorem dL_law_504 : decode cL_law 504 = .ok (.iconst 3, 1) := by decide +kernel
theorem dL_law_505 : decode cL_law 505 = .ok (.iadd, 1) := by decide +kernel
theorem dL_law_506 : decode cL_law 506 = .ok (.iaload, 1) := by decide +kernel
theorem dL_law_507 : decode cL_law 507 = .ok (.invokevirtual 46, 3) := by decide +kernel
theorem dL_law_510 : decode cL_law 510 = .ok (.aload_n 2, 1) := by decide +kernel
theorem dL_law_511 : decode cL_law 511 = .ok (.aload_n 0, 1) := by decide +kernel
theorem dL_law_512 : decode cL_law 512 = .ok (.iload_n 3, 1) := by decide +kernel
theorem dL_law_513 : decode cL_law 513 = .ok (.iconst 1, 1) := by decide +kernel
theorem dL_law_514 : decode cL_law 514 = .ok (.iadd, 1) := by decide +kernel
theorem dL_law_515 : decode cL_law 515 = .ok (.iaload, 1) := by decide +kernel
theorem dL_law_516 : decode cL_law 516 = .ok (.aload_n 0, 1) := by decide +kernel
theorem dL_law_517 : decode cL_law 517 = .ok (.iload_n 3, 1) := by decide +kernel
theorem dL_law_518 : decode cL_law 518 = .ok (.iconst 2, 1) := by decide +kernel
theorem dL_law_519 : decode cL_law 519 = .ok (.iadd, 1) := by decide +kernel
theorem dL_law_520 : decode cL_law 520 = .ok (.iaload, 1) := by decide +kernel
theorem dL_law_521 : decode cL_law 521 = .ok (.aload_n 0, 1) := by decide +kernel
theorem dL_law_522 : decode cL_law 522 = .ok (.iload_n 3, 1) := by decide +kernel
theorem dL_law_523 : decode cL_law 523 = .ok (.iconst 3, 1) := by decide +kernel
theorem dL_law_524 : decode cL_law 524 = .ok (.iadd, 1) := by decide +kernel
theorem dL_law_525 : decode cL_law 525 = .ok (.iaload, 1) := by decide +kernel
theorem dL_law_526 : decode cL_law 526 = .ok (.invokevirtual 49, 3) := by decide +kernel
theorem dL_law_529 : decode cL_law 529 = .ok (.if_icmp .eq 1288, 3) := by decide +kernel
theorem dL_law_532 : decode cL_law 532 = .ok (.iconst 0, 1) := by decide +kernel
theorem dL_law_533 : decode cL_law 533 = .ok (.ireturn, 1) := by decide +kernel
theorem dL_law_534 : decode cL_law 534 = .ok (.aload_n 1, 1) := by decide +kernel
theorem dL_law_535 : decode cL_law 535 = .ok (.aload_n 0, 1) := by decide +kernel
theorem dL_law_536 : decode cL_law 536 = .ok (.iload_n 3, 1) := by decide +kernel
theorem dL_law_537 : decode cL_law 537 = .ok (.iconst 1, 1) := by decide +kernel
theorem dL_law_538 : decode cL_law 538 = .ok (.iadd, 1) := by decide +kernel
theorem dL_law_539 : decode cL_law 539 = .ok (.iaload, 1) := by decide +kernel
theorem dL_law_540 : decode cL_law 540 = .ok (.invokevirtual 50, 3) := by decide +kernel
theorem dL_law_543 : decode cL_law 543 = .ok (.aload_n 2, 1) := by decide +kernel
theorem dL_law_544 : decode cL_law 544 = .ok (.aload_n 0, 1) := by decide +kernel
theorem dL_law_545 : decode cL_law 545 = .ok (.iload_n 3, 1) := by decide +kernel
theorem dL_law_546 : decode cL_law 546 = .ok (.iconst 1, 1) := by decide +kernel
theorem dL_law_547 : decode cL_law 547 = .ok (.iadd, 1) := by decide +kernel
theorem dL_law_548 : decode cL_law 548 = .ok (.iaload, 1) := by decide +kernel
theorem dL_law_549 : decode cL_law 549 = .ok (.invokevirtual 53, 3) := by decide +kernel
theorem dL_law_552 : decode cL_law 552 = .ok (.if_icmp .eq 1265, 3) := by decide +kernel
theorem dL_law_555 : decode cL_law 555 = .ok (.iconst 0, 1) := by decide +kernel
theorem dL_law_556 : decode cL_law 556 = .ok (.ireturn, 1) := by decide +kernel
theorem dL_law_557 : decode cL_law 557 = .ok (.aload_n 1, 1) := by decide +kernel
theorem dL_law_558 : decode cL_law 558 = .ok (.aload_n 0, 1) := by decide +kernel
theorem dL_law_559 : decode cL_law 559 = .ok (.iload_n 3, 1) := by decide +kernel
theorem dL_law_560 : decode cL_law 560 = .ok (.iconst 1, 1) := by decide +kernel
theorem dL_law_561 : decode cL_law 561 = .ok (.iadd, 1) := by decide +kernel
theorem dL_law_562 : decode cL_law 562 = .ok (.iaload, 1) := by decide +kernel
theorem dL_law_563 : decode cL_law 563 = .ok (.aload_n 0, 1) := by decide +kernel
theorem dL_law_564 : decode cL_law 564 = .ok (.iload_n 3, 1) := by decide +kernel
theorem dL_law_565 : decode cL_law 565 = .ok (.iconst 2, 1) := by decide +kernel
theorem dL_law_566 : decode cL_law 566 = .ok (.iadd, 1) := by decide +kernel
theorem dL_law_567 : decode cL_law 567 = .ok (.iaload, 1) := by decide +kernel
theorem dL_law_568 : decode cL_law 568 = .ok (.aload_n 0, 1) := by decide +kernel
theorem dL_law_569 : decode cL_law 569 = .ok (.iload_n 3, 1) := by decide +kernel
theorem dL_law_570 : decode cL_law 570 = .ok (.iconst 3, 1) := by decide +kernel
theorem dL_law_571 : decode cL_law 571 = .ok (.iadd, 1) := by decide +kernel
theorem dL_law_572 : decode cL_law 572 = .ok (.iaload, 1) := by decide +kernel
theorem dL_law_573 : decode cL_law 573 = .ok (.invokevirtual 54, 3) := by decide +kernel
theorem dL_law_576 : decode cL_law 576 = .ok (.aload_n 2, 1) := by decide +kernel
theorem dL_law_577 : decode cL_law 577 = .ok (.aload_n 0, 1) := by decide +kernel
theorem dL_law_578 : decode cL_law 578 = .ok (.iload_n 3, 1) := by decide +kernel
theorem dL_law_579 : decode cL_law 579 = .ok (.iconst 1, 1) := by decide +kernel
theorem dL_law_580 : decode cL_law 580 = .ok (.iadd, 1) := by decide +kernel
theorem dL_law_581 : decode cL_law 581 = .ok (.iaload, 1) := by decide +kernel
theorem dL_law_582 : decode cL_law 582 = .ok (.aload_n 0, 1) := by decide +kernel
theorem dL_law_583 : decode cL_law 583 = .ok (.iload_n 3, 1) := by decide +kernel
theorem dL_law_584 : decode cL_law 584 = .ok (.iconst 2, 1) := by decide +kernel
theorem dL_law_585 : decode cL_law 585 = .ok (.iadd, 1) := by decide +kernel
theorem dL_law_586 : decode cL_law 586 = .ok (.iaload, 1) := by decide +kernel
theorem dL_law_587 : decode cL_law 587 = .ok (.aload_n 0, 1) := by decide +kernel
theorem dL_law_588 : decode cL_law 588 = .ok (.iload_n 3, 1) := by decide +kernel
theorem dL_law_589 : decode cL_law 589 = .ok (.iconst 3, 1) := by decide +kernel
theorem dL_law_590 : decode cL_law 590 = .ok (.iadd, 1) := by decide +kernel
theorem dL_law_591 : decode cL_law 591 = .ok (.iaload, 1) := by decide +kernel
theorem dL_law_592 : decode cL_law 592 = .ok (.invokevirtual 57, 3) := by decide +kernel
theorem dL_law_595 : decode cL_law 595 = .ok (.if_icmp .eq 1222, 3) := by decide +kernel
theorem dL_law_598 : decode cL_law 598 = .ok (.iconst 0, 1) := by decide +kernel
theorem dL_law_599 : decode cL_law 599 = .ok (.ireturn, 1) := by decide +kernel
theorem dL_law_600 : decode cL_law 600 = .ok (.aload_n 1, 1) := by decide +kernel
theorem dL_law_601 : decode cL_law 601 = .ok (.aload_n 0, 1) := by decide +kernel
theorem dL_law_602 : decode cL_law 602 = .ok (.iload_n 3, 1) := by decide +kernel
theorem dL_law_603 : decode cL_law 603 = .ok (.iconst 1, 1) := by decide +kernel
theorem dL_law_604 : decode cL_law 604 = .ok (.iadd, 1) := by decide +kernel
theorem dL_law_605 : decode cL_law 605 = .ok (.iaload, 1) := by decide +kernel
theorem dL_law_606 : decode cL_law 606 = .ok (.aload_n 0, 1) := by decide +kernel
theorem dL_law_607 : decode cL_law 607 = .ok (.iload_n 3, 1) := by decide +kernel
theorem dL_law_608 : decode cL_law 608 = .ok (.iconst 2, 1) := by decide +kernel
theorem dL_law_609 : decode cL_law 609 = .ok (.iadd, 1) := by decide +kernel
theorem dL_law_610 : decode cL_law 610 = .ok (.iaload, 1) := by decide +kernel
theorem dL_law_611 : decode cL_law 611 = .ok (.invokevirtual 58, 3) := by decide +kernel
theorem dL_law_614 : decode cL_law 614 = .ok (.aload_n 2, 1) := by decide +kernel
theorem dL_law_615 : decode cL_law 615 = .ok (.aload_n 0, 1) := by decide +kernel
theorem dL_law_616 : decode cL_law 616 = .ok (.iload_n 3, 1) := by decide +kernel
theorem dL_law_617 : decode cL_law 617 = .ok (.iconst 1, 1) := by decide +kernel
theorem dL_law_618 : decode cL_law 618 = .ok (.iadd, 1) := by decide +kernel
theorem dL_law_619 : decode cL_law 619 = .ok (.iaload, 1) := by decide +kernel
theorem dL_law_620 : decode cL_law 620 = .ok (.aload_n 0, 1) := by decide +kernel
theorem dL_law_621 : decode cL_law 621 = .ok (.iload_n 3, 1) := by decide +kernel
theorem dL_law_622 : decode cL_law 622 = .ok (.iconst 2, 1) := by decide +kernel
theorem dL_law_623 : decode cL_law 623 = .ok (.iadd, 1) := by decide +kernel
theorem dL_law_624 : decode cL_law 624 = .ok (.iaload, 1) := by decide +kernel
theorem dL_law_625 : decode cL_law 625 = .ok (.invokevirtual 61, 3) := by decide +kernel
theorem dL_law_628 : decode cL_law 628 = .ok (.if_icmp .eq 1189, 3) := by decide +kernel
theorem dL_law_631 : decode cL_law 631 = .ok (.iconst 0, 1) := by decide +kernel
theorem dL_law_632 : decode cL_law 632 = .ok (.ireturn, 1) := by decide +kernel
theorem dL_law_633 : decode cL_law 633 = .ok (.aload_n 1, 1) := by decide +kernel
theorem dL_law_634 : decode cL_law 634 = .ok (.aload_n 0, 1) := by decide +kernel
theorem dL_law_635 : decode cL_law 635 = .ok (.iload_n 3, 1) := by decide +kernel
theorem dL_law_636 : decode cL_law 636 = .ok (.iconst 1, 1) := by decide +kernel
theorem dL_law_637 : decode cL_law 637 = .ok (.iadd, 1) := by decide +kernel
theorem dL_law_638 : decode cL_law 638 = .ok (.iaload, 1) := by decide +kernel
theorem dL_law_639 : decode cL_law 639 = .ok (.invokevirtual 62, 3) := by decide +kernel
theorem dL_law_642 : decode cL_law 642 = .ok (.aload_n 2, 1) := by decide +kernel
theorem dL_law_643 : decode cL_law 643 = .ok (.aload_n 0, 1) := by decide +kernel
theorem dL_law_644 : decode cL_law 644 = .ok (.iload_n 3, 1) := by decide +kernel
theorem dL_law_645 : decode cL_law 645 = .ok (.iconst 1, 1) := by decide +kernel
theorem dL_law_646 : decode cL_law 646 = .ok (.iadd, 1) := by decide +kernel
theorem dL_law_647 : decode cL_law 647 = .ok (.iaload, 1) := by decide +kernel
theorem dL_law_648 : decode cL_law 648 = .ok (.invokevirtual 65, 3) := by decide +kernel
theorem dL_law_651 : decode cL_law 651 = .ok (.if_icmp .eq 1166, 3) := by decide +kernel
theorem dL_law_654 : decode cL_law 654 = .ok (.iconst 0, 1) := by decide +kernel
theorem dL_law_655 : decode cL_law 655 = .ok (.ireturn, 1) := by decide +kernel
theorem dL_law_656 : decode cL_law 656 = .ok (.aload_n 1, 1) := by decide +kernel
theorem dL_law_657 : decode cL_law 657 = .ok (.aload_n 0, 1) := by decide +kernel
theorem dL_law_658 : decode cL_law 658 = .ok (.iload_n 3, 1) := by decide +kernel
theorem dL_law_659 : decode cL_law 659 = .ok (.iconst 1, 1) := by decide +kernel
theorem dL_law_660 : decode cL_law 660 = .ok (.iadd, 1) := by decide +kernel
theorem dL_law_661 : decode cL_law 661 = .ok (.iaload, 1) := by decide +kernel
theorem dL_law_662 : decode cL_law 662 = .ok (.aload_n 0, 1) := by decide +kernel
theorem dL_law_663 : decode cL_law 663 = .ok (.iload_n 3, 1) := by decide +kernel
theorem dL_law_664 : decode cL_law 664 = .ok (.iconst 2, 1) := by decide +kernel
theorem dL_law_665 : decode cL_law 665 = .ok (.iadd, 1) := by decide +kernel
theorem dL_law_666 : decode cL_law 666 = .ok (.iaload, 1) := by decide +kernel
theorem dL_law_667 : decode cL_law 667 = .ok (.invokevirtual 66, 3) := by decide +kernel
theorem dL_law_670 : decode cL_law 670 = .ok (.aload_n 2, 1) := by decide +kernel
theorem dL_law_671 : decode cL_law 671 = .ok (.aload_n 0, 1) := by decide +kernel
theorem dL_law_672 : decode cL_law 672 = .ok (.iload_n 3, 1) := by decide +kernel
theorem dL_law_673 : decode cL_law 673 = .ok (.iconst 1, 1) := by decide +kernel
theorem dL_law_674 : decode cL_law 674 = .ok (.iadd, 1) := by decide +kernel
theorem dL_law_675 : decode cL_law 675 = .ok (.iaload, 1) := by decide +kernel
theorem dL_law_676 : decode cL_law 676 = .ok (.aload_n 0, 1) := by decide +kernel
theorem dL_law_677 : decode cL_law 677 = .ok (.iload_n 3, 1) := by decide +kernel
theorem dL_law_678 : decode cL_law 678 = .ok (.iconst 2, 1) := by decide +kernel
theorem dL_law_679 : decode cL_law 679 = .ok (.iadd, 1) := by decide +kernel
theorem dL_law_680 : decode cL_law 680 = .ok (.iaload, 1) := by decide +kernel
theorem dL_law_681 : decode cL_law 681 = .ok (.invokevirtual 69, 3) := by decide +kernel
theorem dL_law_684 : decode cL_law 684 = .ok (.if_icmp .eq 1133, 3) := by decide +kernel
theorem dL_law_687 : decode cL_law 687 = .ok (.iconst 0, 1) := by decide +kernel
theorem dL_law_688 : decode cL_law 688 = .ok (.ireturn, 1) := by decide +kernel
theorem dL_law_689 : decode cL_law 689 = .ok (.aload_n 1, 1) := by decide +kernel
theorem dL_law_690 : decode cL_law 690 = .ok (.aload_n 0, 1) := by decide +kernel
theorem dL_law_691 : decode cL_law 691 = .ok (.iload_n 3, 1) := by decide +kernel
theorem dL_law_692 : decode cL_law 692 = .ok (.iconst 1, 1) := by decide +kernel
theorem dL_law_693 : decode cL_law 693 = .ok (.iadd, 1) := by decide +kernel
theorem dL_law_694 : decode cL_law 694 = .ok (.iaload, 1) := by decide +kernel
theorem dL_law_695 : decode cL_law 695 = .ok (.invokevirtual 70, 3) := by decide +kernel
theorem dL_law_698 : decode cL_law 698 = .ok (.aload_n 2, 1) := by decide +kernel
theorem dL_law_699 : decode cL_law 699 = .ok (.aload_n 0, 1) := by decide +kernel
theorem dL_law_700 : decode cL_law 700 = .ok (.iload_n 3, 1) := by decide +kernel
theorem dL_law_701 : decode cL_law 701 = .ok (.iconst 1, 1) := by decide +kernel
theorem dL_law_702 : decode cL_law 702 = .ok (.iadd, 1) := by decide +kernel
theorem dL_law_703 : decode cL_law 703 = .ok (.iaload, 1) := by decide +kernel
theorem dL_law_704 : decode cL_law 704 = .ok (.invokevirtual 73, 3) := by decide +kernel
theorem dL_law_707 : decode cL_law 707 = .ok (.if_icmp .eq 1110, 3) := by decide +kernel
theorem dL_law_710 : decode cL_law 710 = .ok (.iconst 0, 1) := by decide +kernel
theorem dL_law_711 : decode cL_law 711 = .ok (.ireturn, 1) := by decide +kernel
theorem dL_law_712 : decode cL_law 712 = .ok (.aload_n 1, 1) := by decide +kernel
theorem dL_law_713 : decode cL_law 713 = .ok (.aload_n 0, 1) := by decide +kernel
theorem dL_law_714 : decode cL_law 714 = .ok (.iload_n 3, 1) := by decide +kernel
theorem dL_law_715 : decode cL_law 715 = .ok (.iconst 1, 1) := by decide +kernel
theorem dL_law_716 : decode cL_law 716 = .ok (.iadd, 1) := by decide +kernel
theorem dL_law_717 : decode cL_law 717 = .ok (.iaload, 1) := by decide +kernel
theorem dL_law_718 : decode cL_law 718 = .ok (.aload_n 0, 1) := by decide +kernel
theorem dL_law_719 : decode cL_law 719 = .ok (.iload_n 3, 1) := by decide +kernel
theorem dL_law_720 : decode cL_law 720 = .ok (.iconst 2, 1) := by decide +kernel
theorem dL_law_721 : decode cL_law 721 = .ok (.iadd, 1) := by decide +kernel
theorem dL_law_722 : decode cL_law 722 = .ok (.iaload, 1) := by decide +kernel
theorem dL_law_723 : decode cL_law 723 = .ok (.invokevirtual 74, 3) := by decide +kernel
theorem dL_law_726 : decode cL_law 726 = .ok (.aload_n 2, 1) := by decide +kernel
theorem dL_law_727 : decode cL_law 727 = .ok (.aload_n 0, 1) := by decide +kernel
theorem dL_law_728 : decode cL_law 728 = .ok (.iload_n 3, 1) := by decide +kernel
theorem dL_law_729 : decode cL_law 729 = .ok (.iconst 1, 1) := by decide +kernel
theorem dL_law_730 : decode cL_law 730 = .ok (.iadd, 1) := by decide +kernel
theorem dL_law_731 : decode cL_law 731 = .ok (.iaload, 1) := by decide +kernel
theorem dL_law_732 : decode cL_law 732 = .ok (.aload_n 0, 1) := by decide +kernel
theorem dL_law_733 : decode cL_law 733 = .ok (.iload_n 3, 1) := by decide +kernel
theorem dL_law_734 : decode cL_law 734 = .ok (.iconst 2, 1) := by decide +kernel
theorem dL_law_735 : decode cL_law 735 = .ok (.iadd, 1) := by decide +kernel
theorem dL_law_736 : decode cL_law 736 = .ok (.iaload, 1) := by decide +kernel
theorem dL_law_737 : decode cL_law 737 = .ok (.invokevirtual 77, 3) := by decide +kernel
theorem dL_law_740 : decode cL_law 740 = .ok (.if_icmp .eq 1077, 3) := by decide +kernel
theorem dL_law_743 : decode cL_law 743 = .ok (.iconst 0, 1) := by decide +kernel
theorem dL_law_744 : decode cL_law 744 = .ok (.ireturn, 1) := by decide +kernel
theorem dL_law_745 : decode cL_law 745 = .ok (.aload_n 1, 1) := by decide +kernel
theorem dL_law_746 : decode cL_law 746 = .ok (.aload_n 0, 1) := by decide +kernel
theorem dL_law_747 : decode cL_law 747 = .ok (.iload_n 3, 1) := by decide +kernel
theorem dL_law_748 : decode cL_law 748 = .ok (.iconst 1, 1) := by decide +kernel
theorem dL_law_749 : decode cL_law 749 = .ok (.iadd, 1) := by decide +kernel
theorem dL_law_750 : decode cL_law 750 = .ok (.iaload, 1) := by decide +kernel
theorem dL_law_751 : decode cL_law 751 = .ok (.aload_n 0, 1) := by decide +kernel
theorem dL_law_752 : decode cL_law 752 = .ok (.iload_n 3, 1) := by decide +kernel
theorem dL_law_753 : decode cL_law 753 = .ok (.iconst 2, 1) := by decide +kernel
theorem dL_law_754 : decode cL_law 754 = .ok (.iadd, 1) := by decide +kernel
theorem dL_law_755 : decode cL_law 755 = .ok (.iaload, 1) := by decide +kernel
theorem dL_law_756 : decode cL_law 756 = .ok (.aload_n 0, 1) := by decide +kernel
theorem dL_law_757 : decode cL_law 757 = .ok (.iload_n 3, 1) := by decide +kernel
theorem dL_law_758 : decode cL_law 758 = .ok (.iconst 3, 1) := by decide +kernel
theorem dL_law_759 : decode cL_law 759 = .ok (.iadd, 1) := by decide +kernel
theorem dL_law_760 : decode cL_law 760 = .ok (.iaload, 1) := by decide +kernel
theorem dL_law_761 : decode cL_law 761 = .ok (.invokevirtual 78, 3) := by decide +kernel
theorem dL_law_764 : decode cL_law 764 = .ok (.aload_n 2, 1) := by decide +kernel
theorem dL_law_765 : decode cL_law 765 = .ok (.aload_n 0, 1) := by decide +kernel
theorem dL_law_766 : decode cL_law 766 = .ok (.iload_n 3, 1) := by decide +kernel
theorem dL_law_767 : decode cL_law 767 = .ok (.iconst 1, 1) := by decide +kernel
theorem dL_law_768 : decode cL_law 768 = .ok (.iadd, 1) := by decide +kernel
theorem dL_law_769 : decode cL_law 769 = .ok (.iaload, 1) := by decide +kernel
theorem dL_law_770 : decode cL_law 770 = .ok (.aload_n 0, 1) := by decide +kernel
theorem dL_law_771 : decode cL_law 771 = .ok (.iload_n 3, 1) := by decide +kernel
theorem dL_law_772 : decode cL_law 772 = .ok (.iconst 2, 1) := by decide +kernel
theorem dL_law_773 : decode cL_law 773 = .ok (.iadd, 1) := by decide +kernel
theorem dL_law_774 : decode cL_law 774 = .ok (.iaload, 1) := by decide +kernel
theorem dL_law_775 : decode cL_law 775 = .ok (.aload_n 0, 1) := by decide +kernel
theorem dL_law_776 : decode cL_law 776 = .ok (.iload_n 3, 1) := by decide +kernel
theorem dL_law_777 : decode cL_law 777 = .ok (.iconst 3, 1) := by decide +kernel
theorem dL_law_778 : decode cL_law 778 = .ok (.iadd, 1) := by decide +kernel
theorem dL_law_779 : decode cL_law 779 = .ok (.iaload, 1) := by decide +kernel
theorem dL_law_780 : decode cL_law 780 = .ok (.invokevirtual 81, 3) := by decide +kernel
theorem dL_law_783 : decode cL_law 783 = .ok (.if_icmp .eq 1034, 3) := by decide +kernel
theorem dL_law_786 : decode cL_law 786 = .ok (.iconst 0, 1) := by decide +kernel
theorem dL_law_787 : decode cL_law 787 = .ok (.ireturn, 1) := by decide +kernel
theorem dL_law_788 : decode cL_law 788 = .ok (.aload_n 1, 1) := by decide +kernel
theorem dL_law_789 : decode cL_law 789 = .ok (.aload_n 0, 1) := by decide +kernel
theorem dL_law_790 : decode cL_law 790 = .ok (.iload_n 3, 1) := by decide +kernel
theorem dL_law_791 : decode cL_law 791 = .ok (.iconst 1, 1) := by decide +kernel
theorem dL_law_792 : decode cL_law 792 = .ok (.iadd, 1) := by decide +kernel
theorem dL_law_793 : decode cL_law 793 = .ok (.iaload, 1) := by decide +kernel
theorem dL_law_794 : decode cL_law 794 = .ok (.aload_n 0, 1) := by decide +kernel
theorem dL_law_795 : decode cL_law 795 = .ok (.iload_n 3, 1) := by decide +kernel
theorem dL_law_796 : decode cL_law 796 = .ok (.iconst 2, 1) := by decide +kernel
theorem dL_law_797 : decode cL_law 797 = .ok (.iadd, 1) := by decide +kernel
theorem dL_law_798 : decode cL_law 798 = .ok (.iaload, 1) := by decide +kernel
theorem dL_law_799 : decode cL_law 799 = .ok (.aload_n 0, 1) := by decide +kernel
theorem dL_law_800 : decode cL_law 800 = .ok (.iload_n 3, 1) := by decide +kernel
theorem dL_law_801 : decode cL_law 801 = .ok (.iconst 3, 1) := by decide +kernel
theorem dL_law_802 : decode cL_law 802 = .ok (.iadd, 1) := by decide +kernel
theorem dL_law_803 : decode cL_law 803 = .ok (.iaload, 1) := by decide +kernel
theorem dL_law_804 : decode cL_law 804 = .ok (.aload_n 0, 1) := by decide +kernel
theorem dL_law_805 : decode cL_law 805 = .ok (.iload_n 3, 1) := by decide +kernel
theorem dL_law_806 : decode cL_law 806 = .ok (.iconst 4, 1) := by decide +kernel
theorem dL_law_807 : decode cL_law 807 = .ok (.iadd, 1) := by decide +kernel
theorem dL_law_808 : decode cL_law 808 = .ok (.iaload, 1) := by decide +kernel
theorem dL_law_809 : decode cL_law 809 = .ok (.invokevirtual 82, 3) := by decide +kernel
theorem dL_law_812 : decode cL_law 812 = .ok (.aload_n 2, 1) := by decide +kernel
theorem dL_law_813 : decode cL_law 813 = .ok (.aload_n 0, 1) := by decide +kernel
theorem dL_law_814 : decode cL_law 814 = .ok (.iload_n 3, 1) := by decide +kernel
theorem dL_law_815 : decode cL_law 815 = .ok (.iconst 1, 1) := by decide +kernel
theorem dL_law_816 : decode cL_law 816 = .ok (.iadd, 1) := by decide +kernel
theorem dL_law_817 : decode cL_law 817 = .ok (.iaload, 1) := by decide +kernel
theorem dL_law_818 : decode cL_law 818 = .ok (.aload_n 0, 1) := by decide +kernel
theorem dL_law_819 : decode cL_law 819 = .ok (.iload_n 3, 1) := by decide +kernel
theorem dL_law_820 : decode cL_law 820 = .ok (.iconst 2, 1) := by decide +kernel
theorem dL_law_821 : decode cL_law 821 = .ok (.iadd, 1) := by decide +kernel
theorem dL_law_822 : decode cL_law 822 = .ok (.iaload, 1) := by decide +kernel
theorem dL_law_823 : decode cL_law 823 = .ok (.aload_n 0, 1) := by decide +kernel
theorem dL_law_824 : decode cL_law 824 = .ok (.iload_n 3, 1) := by decide +kernel
theorem dL_law_825 : decode cL_law 825 = .ok (.iconst 3, 1) := by decide +kernel
theorem dL_law_826 : decode cL_law 826 = .ok (.iadd, 1) := by decide +kernel
theorem dL_law_827 : decode cL_law 827 = .ok (.iaload, 1) := by decide +kernel
theorem dL_law_828 : decode cL_law 828 = .ok (.aload_n 0, 1) := by decide +kernel
theorem dL_law_829 : decode cL_law 829 = .ok (.iload_n 3, 1) := by decide +kernel
theorem dL_law_830 : decode cL_law 830 = .ok (.iconst 4, 1) := by decide +kernel
theorem dL_law_831 : decode cL_law 831 = .ok (.iadd, 1) := by decide +kernel
theorem dL_law_832 : decode cL_law 832 = .ok (.iaload, 1) := by decide +kernel
theorem dL_law_833 : decode cL_law 833 = .ok (.invokevirtual 85, 3) := by decide +kernel
theorem dL_law_836 : decode cL_law 836 = .ok (.if_icmp .eq 981, 3) := by decide +kernel
theorem dL_law_839 : decode cL_law 839 = .ok (.iconst 0, 1) := by decide +kernel
theorem dL_law_840 : decode cL_law 840 = .ok (.ireturn, 1) := by decide +kernel
theorem dL_law_841 : decode cL_law 841 = .ok (.aload_n 1, 1) := by decide +kernel
theorem dL_law_842 : decode cL_law 842 = .ok (.aload_n 0, 1) := by decide +kernel
theorem dL_law_843 : decode cL_law 843 = .ok (.iload_n 3, 1) := by decide +kernel
theorem dL_law_844 : decode cL_law 844 = .ok (.iconst 1, 1) := by decide +kernel
theorem dL_law_845 : decode cL_law 845 = .ok (.iadd, 1) := by decide +kernel
theorem dL_law_846 : decode cL_law 846 = .ok (.iaload, 1) := by decide +kernel
theorem dL_law_847 : decode cL_law 847 = .ok (.aload_n 0, 1) := by decide +kernel
theorem dL_law_848 : decode cL_law 848 = .ok (.iload_n 3, 1) := by decide +kernel
theorem dL_law_849 : decode cL_law 849 = .ok (.iconst 2, 1) := by decide +kernel
theorem dL_law_850 : decode cL_law 850 = .ok (.iadd, 1) := by decide +kernel
theorem dL_law_851 : decode cL_law 851 = .ok (.iaload, 1) := by decide +kernel
theorem dL_law_852 : decode cL_law 852 = .ok (.aload_n 0, 1) := by decide +kernel
theorem dL_law_853 : decode cL_law 853 = .ok (.iload_n 3, 1) := by decide +kernel
theorem dL_law_854 : decode cL_law 854 = .ok (.iconst 3, 1) := by decide +kernel
theorem dL_law_855 : decode cL_law 855 = .ok (.iadd, 1) := by decide +kernel
theorem dL_law_856 : decode cL_law 856 = .ok (.iaload, 1) := by decide +kernel
theorem dL_law_857 : decode cL_law 857 = .ok (.invokevirtual 86, 3) := by decide +kernel
theorem dL_law_860 : decode cL_law 860 = .ok (.aload_n 2, 1) := by decide +kernel
theorem dL_law_861 : decode cL_law 861 = .ok (.aload_n 0, 1) := by decide +kernel
theorem dL_law_862 : decode cL_law 862 = .ok (.iload_n 3, 1) := by decide +kernel
theorem dL_law_863 : decode cL_law 863 = .ok (.iconst 1, 1) := by decide +kernel
theorem dL_law_864 : decode cL_law 864 = .ok (.iadd, 1) := by decide +kernel
theorem dL_law_865 : decode cL_law 865 = .ok (.iaload, 1) := by decide +kernel
theorem dL_law_866 : decode cL_law 866 = .ok (.aload_n 0, 1) := by decide +kernel
theorem dL_law_867 : decode cL_law 867 = .ok (.iload_n 3, 1) := by decide +kernel
theorem dL_law_868 : decode cL_law 868 = .ok (.iconst 2, 1) := by decide +kernel
theorem dL_law_869 : decode cL_law 869 = .ok (.iadd, 1) := by decide +kernel
theorem dL_law_870 : decode cL_law 870 = .ok (.iaload, 1) := by decide +kernel
theorem dL_law_871 : decode cL_law 871 = .ok (.aload_n 0, 1) := by decide +kernel
theorem dL_law_872 : decode cL_law 872 = .ok (.iload_n 3, 1) := by decide +kernel
theorem dL_law_873 : decode cL_law 873 = .ok (.iconst 3, 1) := by decide +kernel
theorem dL_law_874 : decode cL_law 874 = .ok (.iadd, 1) := by decide +kernel
theorem dL_law_875 : decode cL_law 875 = .ok (.iaload, 1) := by decide +kernel
theorem dL_law_876 : decode cL_law 876 = .ok (.invokevirtual 89, 3) := by decide +kernel
theorem dL_law_879 : decode cL_law 879 = .ok (.if_icmp .eq 938, 3) := by decide +kernel
theorem dL_law_882 : decode cL_law 882 = .ok (.iconst 0, 1) := by decide +kernel
theorem dL_law_883 : decode cL_law 883 = .ok (.ireturn, 1) := by decide +kernel
theorem dL_law_884 : decode cL_law 884 = .ok (.aload_n 1, 1) := by decide +kernel
theorem dL_law_885 : decode cL_law 885 = .ok (.aload_n 0, 1) := by decide +kernel
theorem dL_law_886 : decode cL_law 886 = .ok (.iload_n 3, 1) := by decide +kernel
theorem dL_law_887 : decode cL_law 887 = .ok (.iconst 1, 1) := by decide +kernel
theorem dL_law_888 : decode cL_law 888 = .ok (.iadd, 1) := by decide +kernel
theorem dL_law_889 : decode cL_law 889 = .ok (.iaload, 1) := by decide +kernel
theorem dL_law_890 : decode cL_law 890 = .ok (.aload_n 0, 1) := by decide +kernel
theorem dL_law_891 : decode cL_law 891 = .ok (.iload_n 3, 1) := by decide +kernel
theorem dL_law_892 : decode cL_law 892 = .ok (.iconst 2, 1) := by decide +kernel
theorem dL_law_893 : decode cL_law 893 = .ok (.iadd, 1) := by decide +kernel
theorem dL_law_894 : decode cL_law 894 = .ok (.iaload, 1) := by decide +kernel
theorem dL_law_895 : decode cL_law 895 = .ok (.aload_n 0, 1) := by decide +kernel
theorem dL_law_896 : decode cL_law 896 = .ok (.iload_n 3, 1) := by decide +kernel
theorem dL_law_897 : decode cL_law 897 = .ok (.iconst 3, 1) := by decide +kernel
theorem dL_law_898 : decode cL_law 898 = .ok (.iadd, 1) := by decide +kernel
theorem dL_law_899 : decode cL_law 899 = .ok (.iaload, 1) := by decide +kernel
theorem dL_law_900 : decode cL_law 900 = .ok (.aload_n 0, 1) := by decide +kernel
theorem dL_law_901 : decode cL_law 901 = .ok (.iload_n 3, 1) := by decide +kernel
theorem dL_law_902 : decode cL_law 902 = .ok (.iconst 4, 1) := by decide +kernel
theorem dL_law_903 : decode cL_law 903 = .ok (.iadd, 1) := by decide +kernel
theorem dL_law_904 : decode cL_law 904 = .ok (.iaload, 1) := by decide +kernel
theorem dL_law_905 : decode cL_law 905 = .ok (.invokevirtual 90, 3) := by decide +kernel
theorem dL_law_908 : decode cL_law 908 = .ok (.aload_n 2, 1) := by decide +kernel
theorem dL_law_909 : decode cL_law 909 = .ok (.aload_n 0, 1) := by decide +kernel
theorem dL_law_910 : decode cL_law 910 = .ok (.iload_n 3, 1) := by decide +kernel
theorem dL_law_911 : decode cL_law 911 = .ok (.iconst 1, 1) := by decide +kernel
theorem dL_law_912 : decode cL_law 912 = .ok (.iadd, 1) := by decide +kernel
theorem dL_law_913 : decode cL_law 913 = .ok (.iaload, 1) := by decide +kernel
theorem dL_law_914 : decode cL_law 914 = .ok (.aload_n 0, 1) := by decide +kernel
theorem dL_law_915 : decode cL_law 915 = .ok (.iload_n 3, 1) := by decide +kernel
theorem dL_law_916 : decode cL_law 916 = .ok (.iconst 2, 1) := by decide +kernel
theorem dL_law_917 : decode cL_law 917 = .ok (.iadd, 1) := by decide +kernel
theorem dL_law_918 : decode cL_law 918 = .ok (.iaload, 1) := by decide +kernel
theorem dL_law_919 : decode cL_law 919 = .ok (.aload_n 0, 1) := by decide +kernel
theorem dL_law_920 : decode cL_law 920 = .ok (.iload_n 3, 1) := by decide +kernel
theorem dL_law_921 : decode cL_law 921 = .ok (.iconst 3, 1) := by decide +kernel
theorem dL_law_922 : decode cL_law 922 = .ok (.iadd, 1) := by decide +kernel
theorem dL_law_923 : decode cL_law 923 = .ok (.iaload, 1) := by decide +kernel
theorem dL_law_924 : decode cL_law 924 = .ok (.aload_n 0, 1) := by decide +kernel
theorem dL_law_925 : decode cL_law 925 = .ok (.iload_n 3, 1) := by decide +kernel
theorem dL_law_926 : decode cL_law 926 = .ok (.iconst 4, 1) := by decide +kernel
theorem dL_law_927 : decode cL_law 927 = .ok (.iadd, 1) := by decide +kernel
theorem dL_law_928 : decode cL_law 928 = .ok (.iaload, 1) := by decide +kernel
theorem dL_law_929 : decode cL_law 929 = .ok (.invokevirtual 93, 3) := by decide +kernel
theorem dL_law_932 : decode cL_law 932 = .ok (.if_icmp .eq 885, 3) := by decide +kernel
theorem dL_law_935 : decode cL_law 935 = .ok (.iconst 0, 1) := by decide +kernel
theorem dL_law_936 : decode cL_law 936 = .ok (.ireturn, 1) := by decide +kernel
theorem dL_law_937 : decode cL_law 937 = .ok (.aload_n 1, 1) := by decide +kernel
theorem dL_law_938 : decode cL_law 938 = .ok (.aload_n 0, 1) := by decide +kernel
theorem dL_law_939 : decode cL_law 939 = .ok (.iload_n 3, 1) := by decide +kernel
theorem dL_law_940 : decode cL_law 940 = .ok (.iconst 1, 1) := by decide +kernel
theorem dL_law_941 : decode cL_law 941 = .ok (.iadd, 1) := by decide +kernel
theorem dL_law_942 : decode cL_law 942 = .ok (.iaload, 1) := by decide +kernel
theorem dL_law_943 : decode cL_law 943 = .ok (.aload_n 0, 1) := by decide +kernel
theorem dL_law_944 : decode cL_law 944 = .ok (.iload_n 3, 1) := by decide +kernel
theorem dL_law_945 : decode cL_law 945 = .ok (.iconst 2, 1) := by decide +kernel
theorem dL_law_946 : decode cL_law 946 = .ok (.iadd, 1) := by decide +kernel
theorem dL_law_947 : decode cL_law 947 = .ok (.iaload, 1) := by decide +kernel
theorem dL_law_948 : decode cL_law 948 = .ok (.aload_n 0, 1) := by decide +kernel
theorem dL_law_949 : decode cL_law 949 = .ok (.iload_n 3, 1) := by decide +kernel
theorem dL_law_950 : decode cL_law 950 = .ok (.iconst 3, 1) := by decide +kernel
theorem dL_law_951 : decode cL_law 951 = .ok (.iadd, 1) := by decide +kernel
theorem dL_law_952 : decode cL_law 952 = .ok (.iaload, 1) := by decide +kernel
theorem dL_law_953 : decode cL_law 953 = .ok (.aload_n 0, 1) := by decide +kernel
theorem dL_law_954 : decode cL_law 954 = .ok (.iload_n 3, 1) := by decide +kernel
theorem dL_law_955 : decode cL_law 955 = .ok (.iconst 4, 1) := by decide +kernel
theorem dL_law_956 : decode cL_law 956 = .ok (.iadd, 1) := by decide +kernel
theorem dL_law_957 : decode cL_law 957 = .ok (.iaload, 1) := by decide +kernel
theorem dL_law_958 : decode cL_law 958 = .ok (.invokevirtual 94, 3) := by decide +kernel
theorem dL_law_961 : decode cL_law 961 = .ok (.aload_n 2, 1) := by decide +kernel
theorem dL_law_962 : decode cL_law 962 = .ok (.aload_n 0, 1) := by decide +kernel
theorem dL_law_963 : decode cL_law 963 = .ok (.iload_n 3, 1) := by decide +kernel
theorem dL_law_964 : decode cL_law 964 = .ok (.iconst 1, 1) := by decide +kernel
theorem dL_law_965 : decode cL_law 965 = .ok (.iadd, 1) := by decide +kernel
theorem dL_law_966 : decode cL_law 966 = .ok (.iaload, 1) := by decide +kernel
theorem dL_law_967 : decode cL_law 967 = .ok (.aload_n 0, 1) := by decide +kernel
theorem dL_law_968 : decode cL_law 968 = .ok (.iload_n 3, 1) := by decide +kernel
theorem dL_law_969 : decode cL_law 969 = .ok (.iconst 2, 1) := by decide +kernel
theorem dL_law_970 : decode cL_law 970 = .ok (.iadd, 1) := by decide +kernel
theorem dL_law_971 : decode cL_law 971 = .ok (.iaload, 1) := by decide +kernel
theorem dL_law_972 : decode cL_law 972 = .ok (.aload_n 0, 1) := by decide +kernel
theorem dL_law_973 : decode cL_law 973 = .ok (.iload_n 3, 1) := by decide +kernel
theorem dL_law_974 : decode cL_law 974 = .ok (.iconst 3, 1) := by decide +kernel
theorem dL_law_975 : decode cL_law 975 = .ok (.iadd, 1) := by decide +kernel
theorem dL_law_976 : decode cL_law 976 = .ok (.iaload, 1) := by decide +kernel
theorem dL_law_977 : decode cL_law 977 = .ok (.aload_n 0, 1) := by decide +kernel
theorem dL_law_978 : decode cL_law 978 = .ok (.iload_n 3, 1) := by decide +kernel
theorem dL_law_979 : decode cL_law 979 = .ok (.iconst 4, 1) := by decide +kernel
theorem dL_law_980 : decode cL_law 980 = .ok (.iadd, 1) := by decide +kernel
theorem dL_law_981 : decode cL_law 981 = .ok (.iaload, 1) := by decide +kernel
theorem dL_law_982 : decode cL_law 982 = .ok (.invokevirtual 98, 3) := by decide +kernel
theorem dL_law_985 : decode cL_law 985 = .ok (.lcmp, 1) := by decide +kernel
theorem dL_law_986 : decode cL_law 986 = .ok (.ifCond .eq 831, 3) := by decide +kernel
theorem dL_law_989 : decode cL_law 989 = .ok (.iconst 0, 1) := by decide +kernel
theorem dL_law_990 : decode cL_law 990 = .ok (.ireturn, 1) := by decide +kernel
theorem dL_law_991 : decode cL_law 991 = .ok (.aload_n 1, 1) := by decide +kernel
theorem dL_law_992 : decode cL_law 992 = .ok (.aload_n 0, 1) := by decide +kernel
theorem dL_law_993 : decode cL_law 993 = .ok (.iload_n 3, 1) := by decide +kernel
theorem dL_law_994 : decode cL_law 994 = .ok (.iconst 1, 1) := by decide +kernel
theorem dL_law_995 : decode cL_law 995 = .ok (.iadd, 1) := by decide +kernel
theorem dL_law_996 : decode cL_law 996 = .ok (.iaload, 1) := by decide +kernel
theorem dL_law_997 : decode cL_law 997 = .ok (.aload_n 0, 1) := by decide +kernel
theorem dL_law_998 : decode cL_law 998 = .ok (.iload_n 3, 1) := by decide +kernel
theorem dL_law_999 : decode cL_law 999 = .ok (.iconst 2, 1) := by decide +kernel
theorem dL_law_1000 : decode cL_law 1000 = .ok (.iadd, 1) := by decide +kernel
theorem dL_law_1001 : decode cL_law 1001 = .ok (.iaload, 1) := by decide +kernel
theorem dL_law_1002 : decode cL_law 1002 = .ok (.aload_n 0, 1) := by decide +kernel
theorem dL_law_1003 : decode cL_law 1003 = .ok (.iload_n 3, 1) := by decide +kernel
theorem dL_law_1004 : decode cL_law 1004 = .ok (.iconst 3, 1) := by decide +kernel
theorem dL_law_1005 : decode cL_law 1005 = .ok (.iadd, 1) := by decide +kernel
theorem dL_law_1006 : decode cL_law 1006 = .ok (.iaload, 1) := by decide +kernel
theorem dL_law_1007 : decode cL_law 1007 = .ok (.invokevirtual 99, 3) := by decide +kernel
theorem dL_law_1010 : decode cL_law 1010 = .ok (.aload_n 2, 1) := by decide +kernel
theorem dL_law_1011 : decode cL_law 1011 = .ok (.aload_n 0, 1) := by decide +kernel
theorem dL_law_1012 : decode cL_law 1012 = .ok (.iload_n 3, 1) := by decide +kernel
theorem dL_law_1013 : decode cL_law 1013 = .ok (.iconst 1, 1) := by decide +kernel
theorem dL_law_1014 : decode cL_law 1014 = .ok (.iadd, 1) := by decide +kernel
theorem dL_law_1015 : decode cL_law 1015 = .ok (.iaload, 1) := by decide +kernel
theorem dL_law_1016 : decode cL_law 1016 = .ok (.aload_n 0, 1) := by decide +kernel
theorem dL_law_1017 : decode cL_law 1017 = .ok (.iload_n 3, 1) := by decide +kernel
theorem dL_law_1018 : decode cL_law 1018 = .ok (.iconst 2, 1) := by decide +kernel
theorem dL_law_1019 : decode cL_law 1019 = .ok (.iadd, 1) := by decide +kernel
theorem dL_law_1020 : decode cL_law 1020 = .ok (.iaload, 1) := by decide +kernel
theorem dL_law_1021 : decode cL_law 1021 = .ok (.aload_n 0, 1) := by decide +kernel
theorem dL_law_1022 : decode cL_law 1022 = .ok (.iload_n 3, 1) := by decide +kernel
theorem dL_law_1023 : decode cL_law 1023 = .ok (.iconst 3, 1) := by decide +kernel
theorem dL_law_1024 : decode cL_law 1024 = .ok (.iadd, 1) := by decide +kernel
theorem dL_law_1025 : decode cL_law 1025 = .ok (.iaload, 1) := by decide +kernel
theorem dL_law_1026 : decode cL_law 1026 = .ok (.invokevirtual 103, 3) := by decide +kernel
theorem dL_law_1029 : decode cL_law 1029 = .ok (.lcmp, 1) := by decide +kernel
theorem dL_law_1030 : decode cL_law 1030 = .ok (.ifCond .eq 787, 3) := by decide +kernel
theorem dL_law_1033 : decode cL_law 1033 = .ok (.iconst 0, 1) := by decide +kernel
theorem dL_law_1034 : decode cL_law 1034 = .ok (.ireturn, 1) := by decide +kernel
theorem dL_law_1035 : decode cL_law 1035 = .ok (.aload_n 1, 1) := by decide +kernel
theorem dL_law_1036 : decode cL_law 1036 = .ok (.aload_n 0, 1) := by decide +kernel
theorem dL_law_1037 : decode cL_law 1037 = .ok (.iload_n 3, 1) := by decide +kernel
theorem dL_law_1038 : decode cL_law 1038 = .ok (.iconst 1, 1) := by decide +kernel
theorem dL_law_1039 : decode cL_law 1039 = .ok (.iadd, 1) := by decide +kernel
theorem dL_law_1040 : decode cL_law 1040 = .ok (.iaload, 1) := by decide +kernel
theorem dL_law_1041 : decode cL_law 1041 = .ok (.invokevirtual 104, 3) := by decide +kernel
theorem dL_law_1044 : decode cL_law 1044 = .ok (.aload_n 2, 1) := by decide +kernel
theorem dL_law_1045 : decode cL_law 1045 = .ok (.aload_n 0, 1) := by decide +kernel
theorem dL_law_1046 : decode cL_law 1046 = .ok (.iload_n 3, 1) := by decide +kernel
theorem dL_law_1047 : decode cL_law 1047 = .ok (.iconst 1, 1) := by decide +kernel
theorem dL_law_1048 : decode cL_law 1048 = .ok (.iadd, 1) := by decide +kernel
theorem dL_law_1049 : decode cL_law 1049 = .ok (.iaload, 1) := by decide +kernel
theorem dL_law_1050 : decode cL_law 1050 = .ok (.invokevirtual 107, 3) := by decide +kernel
theorem dL_law_1053 : decode cL_law 1053 = .ok (.if_icmp .eq 764, 3) := by decide +kernel
theorem dL_law_1056 : decode cL_law 1056 = .ok (.iconst 0, 1) := by decide +kernel
theorem dL_law_1057 : decode cL_law 1057 = .ok (.ireturn, 1) := by decide +kernel
theorem dL_law_1058 : decode cL_law 1058 = .ok (.aload_n 1, 1) := by decide +kernel
theorem dL_law_1059 : decode cL_law 1059 = .ok (.aload_n 0, 1) := by decide +kernel
theorem dL_law_1060 : decode cL_law 1060 = .ok (.iload_n 3, 1) := by decide +kernel
theorem dL_law_1061 : decode cL_law 1061 = .ok (.iconst 1, 1) := by decide +kernel
theorem dL_law_1062 : decode cL_law 1062 = .ok (.iadd, 1) := by decide +kernel
theorem dL_law_1063 : decode cL_law 1063 = .ok (.iaload, 1) := by decide +kernel
theorem dL_law_1064 : decode cL_law 1064 = .ok (.aload_n 0, 1) := by decide +kernel
theorem dL_law_1065 : decode cL_law 1065 = .ok (.iload_n 3, 1) := by decide +kernel
theorem dL_law_1066 : decode cL_law 1066 = .ok (.iconst 2, 1) := by decide +kernel
theorem dL_law_1067 : decode cL_law 1067 = .ok (.iadd, 1) := by decide +kernel
theorem dL_law_1068 : decode cL_law 1068 = .ok (.iaload, 1) := by decide +kernel
theorem dL_law_1069 : decode cL_law 1069 = .ok (.invokevirtual 108, 3) := by decide +kernel
theorem dL_law_1072 : decode cL_law 1072 = .ok (.aload_n 2, 1) := by decide +kernel
theorem dL_law_1073 : decode cL_law 1073 = .ok (.aload_n 0, 1) := by decide +kernel
theorem dL_law_1074 : decode cL_law 1074 = .ok (.iload_n 3, 1) := by decide +kernel
theorem dL_law_1075 : decode cL_law 1075 = .ok (.iconst 1, 1) := by decide +kernel
theorem dL_law_1076 : decode cL_law 1076 = .ok (.iadd, 1) := by decide +kernel
theorem dL_law_1077 : decode cL_law 1077 = .ok (.iaload, 1) := by decide +kernel
theorem dL_law_1078 : decode cL_law 1078 = .ok (.aload_n 0, 1) := by decide +kernel
theorem dL_law_1079 : decode cL_law 1079 = .ok (.iload_n 3, 1) := by decide +kernel
theorem dL_law_1080 : decode cL_law 1080 = .ok (.iconst 2, 1) := by decide +kernel
theorem dL_law_1081 : decode cL_law 1081 = .ok (.iadd, 1) := by decide +kernel
theorem dL_law_1082 : decode cL_law 1082 = .ok (.iaload, 1) := by decide +kernel
theorem dL_law_1083 : decode cL_law 1083 = .ok (.invokevirtual 111, 3) := by decide +kernel
theorem dL_law_1086 : decode cL_law 1086 = .ok (.if_icmp .eq 731, 3) := by decide +kernel
theorem dL_law_1089 : decode cL_law 1089 = .ok (.iconst 0, 1) := by decide +kernel
theorem dL_law_1090 : decode cL_law 1090 = .ok (.ireturn, 1) := by decide +kernel
theorem dL_law_1091 : decode cL_law 1091 = .ok (.aload_n 1, 1) := by decide +kernel
theorem dL_law_1092 : decode cL_law 1092 = .ok (.aload_n 0, 1) := by decide +kernel
theorem dL_law_1093 : decode cL_law 1093 = .ok (.iload_n 3, 1) := by decide +kernel
theorem dL_law_1094 : decode cL_law 1094 = .ok (.iconst 1, 1) := by decide +kernel
theorem dL_law_1095 : decode cL_law 1095 = .ok (.iadd, 1) := by decide +kernel
theorem dL_law_1096 : decode cL_law 1096 = .ok (.iaload, 1) := by decide +kernel
theorem dL_law_1097 : decode cL_law 1097 = .ok (.aload_n 0, 1) := by decide +kernel
theorem dL_law_1098 : decode cL_law 1098 = .ok (.iload_n 3, 1) := by decide +kernel
theorem dL_law_1099 : decode cL_law 1099 = .ok (.iconst 2, 1) := by decide +kernel
theorem dL_law_1100 : decode cL_law 1100 = .ok (.iadd, 1) := by decide +kernel
theorem dL_law_1101 : decode cL_law 1101 = .ok (.iaload, 1) := by decide +kernel
theorem dL_law_1102 : decode cL_law 1102 = .ok (.invokevirtual 112, 3) := by decide +kernel
theorem dL_law_1105 : decode cL_law 1105 = .ok (.aload_n 2, 1) := by decide +kernel
theorem dL_law_1106 : decode cL_law 1106 = .ok (.aload_n 0, 1) := by decide +kernel
theorem dL_law_1107 : decode cL_law 1107 = .ok (.iload_n 3, 1) := by decide +kernel
theorem dL_law_1108 : decode cL_law 1108 = .ok (.iconst 1, 1) := by decide +kernel
theorem dL_law_1109 : decode cL_law 1109 = .ok (.iadd, 1) := by decide +kernel
theorem dL_law_1110 : decode cL_law 1110 = .ok (.iaload, 1) := by decide +kernel
theorem dL_law_1111 : decode cL_law 1111 = .ok (.aload_n 0, 1) := by decide +kernel
theorem dL_law_1112 : decode cL_law 1112 = .ok (.iload_n 3, 1) := by decide +kernel
theorem dL_law_1113 : decode cL_law 1113 = .ok (.iconst 2, 1) := by decide +kernel
theorem dL_law_1114 : decode cL_law 1114 = .ok (.iadd, 1) := by decide +kernel
theorem dL_law_1115 : decode cL_law 1115 = .ok (.iaload, 1) := by decide +kernel
theorem dL_law_1116 : decode cL_law 1116 = .ok (.invokevirtual 116, 3) := by decide +kernel
theorem dL_law_1119 : decode cL_law 1119 = .ok (.lcmp, 1) := by decide +kernel
theorem dL_law_1120 : decode cL_law 1120 = .ok (.ifCond .eq 697, 3) := by decide +kernel
theorem dL_law_1123 : decode cL_law 1123 = .ok (.iconst 0, 1) := by decide +kernel
theorem dL_law_1124 : decode cL_law 1124 = .ok (.ireturn, 1) := by decide +kernel
theorem dL_law_1125 : decode cL_law 1125 = .ok (.aload_n 1, 1) := by decide +kernel
theorem dL_law_1126 : decode cL_law 1126 = .ok (.aload_n 0, 1) := by decide +kernel
theorem dL_law_1127 : decode cL_law 1127 = .ok (.iload_n 3, 1) := by decide +kernel
theorem dL_law_1128 : decode cL_law 1128 = .ok (.iconst 1, 1) := by decide +kernel
theorem dL_law_1129 : decode cL_law 1129 = .ok (.iadd, 1) := by decide +kernel
theorem dL_law_1130 : decode cL_law 1130 = .ok (.iaload, 1) := by decide +kernel
theorem dL_law_1131 : decode cL_law 1131 = .ok (.invokevirtual 117, 3) := by decide +kernel
theorem dL_law_1134 : decode cL_law 1134 = .ok (.aload_n 2, 1) := by decide +kernel
theorem dL_law_1135 : decode cL_law 1135 = .ok (.aload_n 0, 1) := by decide +kernel
theorem dL_law_1136 : decode cL_law 1136 = .ok (.iload_n 3, 1) := by decide +kernel
theorem dL_law_1137 : decode cL_law 1137 = .ok (.iconst 1, 1) := by decide +kernel
theorem dL_law_1138 : decode cL_law 1138 = .ok (.iadd, 1) := by decide +kernel
theorem dL_law_1139 : decode cL_law 1139 = .ok (.iaload, 1) := by decide +kernel
theorem dL_law_1140 : decode cL_law 1140 = .ok (.invokevirtual 120, 3) := by decide +kernel
theorem dL_law_1143 : decode cL_law 1143 = .ok (.if_icmp .eq 674, 3) := by decide +kernel
theorem dL_law_1146 : decode cL_law 1146 = .ok (.iconst 0, 1) := by decide +kernel
theorem dL_law_1147 : decode cL_law 1147 = .ok (.ireturn, 1) := by decide +kernel
theorem dL_law_1148 : decode cL_law 1148 = .ok (.aload_n 1, 1) := by decide +kernel
theorem dL_law_1149 : decode cL_law 1149 = .ok (.aload_n 0, 1) := by decide +kernel
theorem dL_law_1150 : decode cL_law 1150 = .ok (.iload_n 3, 1) := by decide +kernel
theorem dL_law_1151 : decode cL_law 1151 = .ok (.iconst 1, 1) := by decide +kernel
theorem dL_law_1152 : decode cL_law 1152 = .ok (.iadd, 1) := by decide +kernel
theorem dL_law_1153 : decode cL_law 1153 = .ok (.iaload, 1) := by decide +kernel
theorem dL_law_1154 : decode cL_law 1154 = .ok (.aload_n 0, 1) := by decide +kernel
theorem dL_law_1155 : decode cL_law 1155 = .ok (.iload_n 3, 1) := by decide +kernel
theorem dL_law_1156 : decode cL_law 1156 = .ok (.iconst 2, 1) := by decide +kernel
theorem dL_law_1157 : decode cL_law 1157 = .ok (.iadd, 1) := by decide +kernel
theorem dL_law_1158 : decode cL_law 1158 = .ok (.iaload, 1) := by decide +kernel
theorem dL_law_1159 : decode cL_law 1159 = .ok (.invokevirtual 121, 3) := by decide +kernel
theorem dL_law_1162 : decode cL_law 1162 = .ok (.aload_n 2, 1) := by decide +kernel
theorem dL_law_1163 : decode cL_law 1163 = .ok (.aload_n 0, 1) := by decide +kernel
theorem dL_law_1164 : decode cL_law 1164 = .ok (.iload_n 3, 1) := by decide +kernel
theorem dL_law_1165 : decode cL_law 1165 = .ok (.iconst 1, 1) := by decide +kernel
theorem dL_law_1166 : decode cL_law 1166 = .ok (.iadd, 1) := by decide +kernel
theorem dL_law_1167 : decode cL_law 1167 = .ok (.iaload, 1) := by decide +kernel
theorem dL_law_1168 : decode cL_law 1168 = .ok (.aload_n 0, 1) := by decide +kernel
theorem dL_law_1169 : decode cL_law 1169 = .ok (.iload_n 3, 1) := by decide +kernel
theorem dL_law_1170 : decode cL_law 1170 = .ok (.iconst 2, 1) := by decide +kernel
theorem dL_law_1171 : decode cL_law 1171 = .ok (.iadd, 1) := by decide +kernel
theorem dL_law_1172 : decode cL_law 1172 = .ok (.iaload, 1) := by decide +kernel
theorem dL_law_1173 : decode cL_law 1173 = .ok (.invokevirtual 124, 3) := by decide +kernel
theorem dL_law_1176 : decode cL_law 1176 = .ok (.if_icmp .eq 641, 3) := by decide +kernel
theorem dL_law_1179 : decode cL_law 1179 = .ok (.iconst 0, 1) := by decide +kernel
theorem dL_law_1180 : decode cL_law 1180 = .ok (.ireturn, 1) := by decide +kernel
theorem dL_law_1181 : decode cL_law 1181 = .ok (.aload_n 1, 1) := by decide +kernel
theorem dL_law_1182 : decode cL_law 1182 = .ok (.aload_n 0, 1) := by decide +kernel
theorem dL_law_1183 : decode cL_law 1183 = .ok (.iload_n 3, 1) := by decide +kernel
theorem dL_law_1184 : decode cL_law 1184 = .ok (.iconst 1, 1) := by decide +kernel
theorem dL_law_1185 : decode cL_law 1185 = .ok (.iadd, 1) := by decide +kernel
theorem dL_law_1186 : decode cL_law 1186 = .ok (.iaload, 1) := by decide +kernel
theorem dL_law_1187 : decode cL_law 1187 = .ok (.aload_n 0, 1) := by decide +kernel
theorem dL_law_1188 : decode cL_law 1188 = .ok (.iload_n 3, 1) := by decide +kernel
theorem dL_law_1189 : decode cL_law 1189 = .ok (.iconst 2, 1) := by decide +kernel
theorem dL_law_1190 : decode cL_law 1190 = .ok (.iadd, 1) := by decide +kernel
theorem dL_law_1191 : decode cL_law 1191 = .ok (.iaload, 1) := by decide +kernel
theorem dL_law_1192 : decode cL_law 1192 = .ok (.invokevirtual 125, 3) := by decide +kernel
theorem dL_law_1195 : decode cL_law 1195 = .ok (.aload_n 2, 1) := by decide +kernel
theorem dL_law_1196 : decode cL_law 1196 = .ok (.aload_n 0, 1) := by decide +kernel
theorem dL_law_1197 : decode cL_law 1197 = .ok (.iload_n 3, 1) := by decide +kernel
theorem dL_law_1198 : decode cL_law 1198 = .ok (.iconst 1, 1) := by decide +kernel
theorem dL_law_1199 : decode cL_law 1199 = .ok (.iadd, 1) := by decide +kernel
theorem dL_law_1200 : decode cL_law 1200 = .ok (.iaload, 1) := by decide +kernel
theorem dL_law_1201 : decode cL_law 1201 = .ok (.aload_n 0, 1) := by decide +kernel
theorem dL_law_1202 : decode cL_law 1202 = .ok (.iload_n 3, 1) := by decide +kernel
theorem dL_law_1203 : decode cL_law 1203 = .ok (.iconst 2, 1) := by decide +kernel
theorem dL_law_1204 : decode cL_law 1204 = .ok (.iadd, 1) := by decide +kernel
theorem dL_law_1205 : decode cL_law 1205 = .ok (.iaload, 1) := by decide +kernel
theorem dL_law_1206 : decode cL_law 1206 = .ok (.invokevirtual 128, 3) := by decide +kernel
theorem dL_law_1209 : decode cL_law 1209 = .ok (.lcmp, 1) := by decide +kernel
theorem dL_law_1210 : decode cL_law 1210 = .ok (.ifCond .eq 607, 3) := by decide +kernel
theorem dL_law_1213 : decode cL_law 1213 = .ok (.iconst 0, 1) := by decide +kernel
theorem dL_law_1214 : decode cL_law 1214 = .ok (.ireturn, 1) := by decide +kernel
theorem dL_law_1215 : decode cL_law 1215 = .ok (.aload_n 1, 1) := by decide +kernel
theorem dL_law_1216 : decode cL_law 1216 = .ok (.aload_n 0, 1) := by decide +kernel
theorem dL_law_1217 : decode cL_law 1217 = .ok (.iload_n 3, 1) := by decide +kernel
theorem dL_law_1218 : decode cL_law 1218 = .ok (.iconst 1, 1) := by decide +kernel
theorem dL_law_1219 : decode cL_law 1219 = .ok (.iadd, 1) := by decide +kernel
theorem dL_law_1220 : decode cL_law 1220 = .ok (.iaload, 1) := by decide +kernel
theorem dL_law_1221 : decode cL_law 1221 = .ok (.aload_n 0, 1) := by decide +kernel
theorem dL_law_1222 : decode cL_law 1222 = .ok (.iload_n 3, 1) := by decide +kernel
theorem dL_law_1223 : decode cL_law 1223 = .ok (.iconst 2, 1) := by decide +kernel
theorem dL_law_1224 : decode cL_law 1224 = .ok (.iadd, 1) := by decide +kernel
theorem dL_law_1225 : decode cL_law 1225 = .ok (.iaload, 1) := by decide +kernel
theorem dL_law_1226 : decode cL_law 1226 = .ok (.invokevirtual 129, 3) := by decide +kernel
theorem dL_law_1229 : decode cL_law 1229 = .ok (.aload_n 2, 1) := by decide +kernel
theorem dL_law_1230 : decode cL_law 1230 = .ok (.aload_n 0, 1) := by decide +kernel
theorem dL_law_1231 : decode cL_law 1231 = .ok (.iload_n 3, 1) := by decide +kernel
theorem dL_law_1232 : decode cL_law 1232 = .ok (.iconst 1, 1) := by decide +kernel
theorem dL_law_1233 : decode cL_law 1233 = .ok (.iadd, 1) := by decide +kernel
theorem dL_law_1234 : decode cL_law 1234 = .ok (.iaload, 1) := by decide +kernel
theorem dL_law_1235 : decode cL_law 1235 = .ok (.aload_n 0, 1) := by decide +kernel
theorem dL_law_1236 : decode cL_law 1236 = .ok (.iload_n 3, 1) := by decide +kernel
theorem dL_law_1237 : decode cL_law 1237 = .ok (.iconst 2, 1) := by decide +kernel
theorem dL_law_1238 : decode cL_law 1238 = .ok (.iadd, 1) := by decide +kernel
theorem dL_law_1239 : decode cL_law 1239 = .ok (.iaload, 1) := by decide +kernel
theorem dL_law_1240 : decode cL_law 1240 = .ok (.invokevirtual 132, 3) := by decide +kernel
theorem dL_law_1243 : decode cL_law 1243 = .ok (.if_icmp .eq 574, 3) := by decide +kernel
theorem dL_law_1246 : decode cL_law 1246 = .ok (.iconst 0, 1) := by decide +kernel
theorem dL_law_1247 : decode cL_law 1247 = .ok (.ireturn, 1) := by decide +kernel
theorem dL_law_1248 : decode cL_law 1248 = .ok (.aload_n 1, 1) := by decide +kernel
theorem dL_law_1249 : decode cL_law 1249 = .ok (.aload_n 0, 1) := by decide +kernel
theorem dL_law_1250 : decode cL_law 1250 = .ok (.iload_n 3, 1) := by decide +kernel
theorem dL_law_1251 : decode cL_law 1251 = .ok (.iconst 1, 1) := by decide +kernel
theorem dL_law_1252 : decode cL_law 1252 = .ok (.iadd, 1) := by decide +kernel
theorem dL_law_1253 : decode cL_law 1253 = .ok (.iaload, 1) := by decide +kernel
theorem dL_law_1254 : decode cL_law 1254 = .ok (.aload_n 0, 1) := by decide +kernel
theorem dL_law_1255 : decode cL_law 1255 = .ok (.iload_n 3, 1) := by decide +kernel
theorem dL_law_1256 : decode cL_law 1256 = .ok (.iconst 2, 1) := by decide +kernel
theorem dL_law_1257 : decode cL_law 1257 = .ok (.iadd, 1) := by decide +kernel
theorem dL_law_1258 : decode cL_law 1258 = .ok (.iaload, 1) := by decide +kernel
theorem dL_law_1259 : decode cL_law 1259 = .ok (.invokevirtual 133, 3) := by decide +kernel
theorem dL_law_1262 : decode cL_law 1262 = .ok (.aload_n 2, 1) := by decide +kernel
theorem dL_law_1263 : decode cL_law 1263 = .ok (.aload_n 0, 1) := by decide +kernel
theorem dL_law_1264 : decode cL_law 1264 = .ok (.iload_n 3, 1) := by decide +kernel
theorem dL_law_1265 : decode cL_law 1265 = .ok (.iconst 1, 1) := by decide +kernel
theorem dL_law_1266 : decode cL_law 1266 = .ok (.iadd, 1) := by decide +kernel
theorem dL_law_1267 : decode cL_law 1267 = .ok (.iaload, 1) := by decide +kernel
theorem dL_law_1268 : decode cL_law 1268 = .ok (.aload_n 0, 1) := by decide +kernel
theorem dL_law_1269 : decode cL_law 1269 = .ok (.iload_n 3, 1) := by decide +kernel
theorem dL_law_1270 : decode cL_law 1270 = .ok (.iconst 2, 1) := by decide +kernel
theorem dL_law_1271 : decode cL_law 1271 = .ok (.iadd, 1) := by decide +kernel
theorem dL_law_1272 : decode cL_law 1272 = .ok (.iaload, 1) := by decide +kernel
theorem dL_law_1273 : decode cL_law 1273 = .ok (.invokevirtual 136, 3) := by decide +kernel
theorem dL_law_1276 : decode cL_law 1276 = .ok (.if_icmp .eq 541, 3) := by decide +kernel
theorem dL_law_1279 : decode cL_law 1279 = .ok (.iconst 0, 1) := by decide +kernel
theorem dL_law_1280 : decode cL_law 1280 = .ok (.ireturn, 1) := by decide +kernel
theorem dL_law_1281 : decode cL_law 1281 = .ok (.aload_n 1, 1) := by decide +kernel
theorem dL_law_1282 : decode cL_law 1282 = .ok (.aload_n 0, 1) := by decide +kernel
theorem dL_law_1283 : decode cL_law 1283 = .ok (.iload_n 3, 1) := by decide +kernel
theorem dL_law_1284 : decode cL_law 1284 = .ok (.iconst 1, 1) := by decide +kernel
theorem dL_law_1285 : decode cL_law 1285 = .ok (.iadd, 1) := by decide +kernel
theorem dL_law_1286 : decode cL_law 1286 = .ok (.iaload, 1) := by decide +kernel
theorem dL_law_1287 : decode cL_law 1287 = .ok (.aload_n 0, 1) := by decide +kernel
theorem dL_law_1288 : decode cL_law 1288 = .ok (.iload_n 3, 1) := by decide +kernel
theorem dL_law_1289 : decode cL_law 1289 = .ok (.iconst 2, 1) := by decide +kernel
theorem dL_law_1290 : decode cL_law 1290 = .ok (.iadd, 1) := by decide +kernel
theorem dL_law_1291 : decode cL_law 1291 = .ok (.iaload, 1) := by decide +kernel
theorem dL_law_1292 : decode cL_law 1292 = .ok (.invokevirtual 137, 3) := by decide +kernel
theorem dL_law_1295 : decode cL_law 1295 = .ok (.aload_n 2, 1) := by decide +kernel
theorem dL_law_1296 : decode cL_law 1296 = .ok (.aload_n 0, 1) := by decide +kernel
theorem dL_law_1297 : decode cL_law 1297 = .ok (.iload_n 3, 1) := by decide +kernel
theorem dL_law_1298 : decode cL_law 1298 = .ok (.iconst 1, 1) := by decide +kernel
theorem dL_law_1299 : decode cL_law 1299 = .ok (.iadd, 1) := by decide +kernel
theorem dL_law_1300 : decode cL_law 1300 = .ok (.iaload, 1) := by decide +kernel
theorem dL_law_1301 : decode cL_law 1301 = .ok (.aload_n 0, 1) := by decide +kernel
theorem dL_law_1302 : decode cL_law 1302 = .ok (.iload_n 3, 1) := by decide +kernel
theorem dL_law_1303 : decode cL_law 1303 = .ok (.iconst 2, 1) := by decide +kernel
theorem dL_law_1304 : decode cL_law 1304 = .ok (.iadd, 1) := by decide +kernel
theorem dL_law_1305 : decode cL_law 1305 = .ok (.iaload, 1) := by decide +kernel
theorem dL_law_1306 : decode cL_law 1306 = .ok (.invokevirtual 140, 3) := by decide +kernel
theorem dL_law_1309 : decode cL_law 1309 = .ok (.if_icmp .eq 508, 3) := by decide +kernel
theorem dL_law_1312 : decode cL_law 1312 = .ok (.iconst 0, 1) := by decide +kernel
theorem dL_law_1313 : decode cL_law 1313 = .ok (.ireturn, 1) := by decide +kernel
theorem dL_law_1314 : decode cL_law 1314 = .ok (.aload_n 1, 1) := by decide +kernel
theorem dL_law_1315 : decode cL_law 1315 = .ok (.aload_n 0, 1) := by decide +kernel
theorem dL_law_1316 : decode cL_law 1316 = .ok (.iload_n 3, 1) := by decide +kernel
theorem dL_law_1317 : decode cL_law 1317 = .ok (.iconst 1, 1) := by decide +kernel
theorem dL_law_1318 : decode cL_law 1318 = .ok (.iadd, 1) := by decide +kernel
theorem dL_law_1319 : decode cL_law 1319 = .ok (.iaload, 1) := by decide +kernel
theorem dL_law_1320 : decode cL_law 1320 = .ok (.invokevirtual 141, 3) := by decide +kernel
theorem dL_law_1323 : decode cL_law 1323 = .ok (.aload_n 2, 1) := by decide +kernel
theorem dL_law_1324 : decode cL_law 1324 = .ok (.aload_n 0, 1) := by decide +kernel
theorem dL_law_1325 : decode cL_law 1325 = .ok (.iload_n 3, 1) := by decide +kernel
theorem dL_law_1326 : decode cL_law 1326 = .ok (.iconst 1, 1) := by decide +kernel
theorem dL_law_1327 : decode cL_law 1327 = .ok (.iadd, 1) := by decide +kernel
theorem dL_law_1328 : decode cL_law 1328 = .ok (.iaload, 1) := by decide +kernel
theorem dL_law_1329 : decode cL_law 1329 = .ok (.invokevirtual 145, 3) := by decide +kernel
theorem dL_law_1332 : decode cL_law 1332 = .ok (.lcmp, 1) := by decide +kernel
theorem dL_law_1333 : decode cL_law 1333 = .ok (.ifCond .eq 484, 3) := by decide +kernel
theorem dL_law_1336 : decode cL_law 1336 = .ok (.iconst 0, 1) := by decide +kernel
theorem dL_law_1337 : decode cL_law 1337 = .ok (.ireturn, 1) := by decide +kernel
theorem dL_law_1338 : decode cL_law 1338 = .ok (.aload_n 1, 1) := by decide +kernel
theorem dL_law_1339 : decode cL_law 1339 = .ok (.aload_n 0, 1) := by decide +kernel
theorem dL_law_1340 : decode cL_law 1340 = .ok (.iload_n 3, 1) := by decide +kernel
theorem dL_law_1341 : decode cL_law 1341 = .ok (.iconst 1, 1) := by decide +kernel
theorem dL_law_1342 : decode cL_law 1342 = .ok (.iadd, 1) := by decide +kernel
theorem dL_law_1343 : decode cL_law 1343 = .ok (.iaload, 1) := by decide +kernel
theorem dL_law_1344 : decode cL_law 1344 = .ok (.aload_n 0, 1) := by decide +kernel
theorem dL_law_1345 : decode cL_law 1345 = .ok (.iload_n 3, 1) := by decide +kernel
theorem dL_law_1346 : decode cL_law 1346 = .ok (.iconst 2, 1) := by decide +kernel
theorem dL_law_1347 : decode cL_law 1347 = .ok (.iadd, 1) := by decide +kernel
theorem dL_law_1348 : decode cL_law 1348 = .ok (.iaload, 1) := by decide +kernel
theorem dL_law_1349 : decode cL_law 1349 = .ok (.invokevirtual 146, 3) := by decide +kernel
theorem dL_law_1352 : decode cL_law 1352 = .ok (.aload_n 2, 1) := by decide +kernel
theorem dL_law_1353 : decode cL_law 1353 = .ok (.aload_n 0, 1) := by decide +kernel
theorem dL_law_1354 : decode cL_law 1354 = .ok (.iload_n 3, 1) := by decide +kernel
theorem dL_law_1355 : decode cL_law 1355 = .ok (.iconst 1, 1) := by decide +kernel
theorem dL_law_1356 : decode cL_law 1356 = .ok (.iadd, 1) := by decide +kernel
theorem dL_law_1357 : decode cL_law 1357 = .ok (.iaload, 1) := by decide +kernel
theorem dL_law_1358 : decode cL_law 1358 = .ok (.aload_n 0, 1) := by decide +kernel
theorem dL_law_1359 : decode cL_law 1359 = .ok (.iload_n 3, 1) := by decide +kernel
theorem dL_law_1360 : decode cL_law 1360 = .ok (.iconst 2, 1) := by decide +kernel
theorem dL_law_1361 : decode cL_law 1361 = .ok (.iadd, 1) := by decide +kernel
theorem dL_law_1362 : decode cL_law 1362 = .ok (.iaload, 1) := by decide +kernel
theorem dL_law_1363 : decode cL_law 1363 = .ok (.invokevirtual 149, 3) := by decide +kernel
theorem dL_law_1366 : decode cL_law 1366 = .ok (.lcmp, 1) := by decide +kernel
theorem dL_law_1367 : decode cL_law 1367 = .ok (.ifCond .eq 450, 3) := by decide +kernel
theorem dL_law_1370 : decode cL_law 1370 = .ok (.iconst 0, 1) := by decide +kernel
theorem dL_law_1371 : decode cL_law 1371 = .ok (.ireturn, 1) := by decide +kernel
theorem dL_law_1372 : decode cL_law 1372 = .ok (.aload_n 1, 1) := by decide +kernel
theorem dL_law_1373 : decode cL_law 1373 = .ok (.aload_n 0, 1) := by decide +kernel
theorem dL_law_1374 : decode cL_law 1374 = .ok (.iload_n 3, 1) := by decide +kernel
theorem dL_law_1375 : decode cL_law 1375 = .ok (.iconst 1, 1) := by decide +kernel
theorem dL_law_1376 : decode cL_law 1376 = .ok (.iadd, 1) := by decide +kernel
theorem dL_law_1377 : decode cL_law 1377 = .ok (.iaload, 1) := by decide +kernel
theorem dL_law_1378 : decode cL_law 1378 = .ok (.aload_n 0, 1) := by decide +kernel
theorem dL_law_1379 : decode cL_law 1379 = .ok (.iload_n 3, 1) := by decide +kernel
theorem dL_law_1380 : decode cL_law 1380 = .ok (.iconst 2, 1) := by decide +kernel
theorem dL_law_1381 : decode cL_law 1381 = .ok (.iadd, 1) := by decide +kernel
theorem dL_law_1382 : decode cL_law 1382 = .ok (.iaload, 1) := by decide +kernel
theorem dL_law_1383 : decode cL_law 1383 = .ok (.invokevirtual 150, 3) := by decide +kernel
theorem dL_law_1386 : decode cL_law 1386 = .ok (.aload_n 2, 1) := by decide +kernel
theorem dL_law_1387 : decode cL_law 1387 = .ok (.aload_n 0, 1) := by decide +kernel
theorem dL_law_1388 : decode cL_law 1388 = .ok (.iload_n 3, 1) := by decide +kernel
theorem dL_law_1389 : decode cL_law 1389 = .ok (.iconst 1, 1) := by decide +kernel
theorem dL_law_1390 : decode cL_law 1390 = .ok (.iadd, 1) := by decide +kernel
theorem dL_law_1391 : decode cL_law 1391 = .ok (.iaload, 1) := by decide +kernel
theorem dL_law_1392 : decode cL_law 1392 = .ok (.aload_n 0, 1) := by decide +kernel
theorem dL_law_1393 : decode cL_law 1393 = .ok (.iload_n 3, 1) := by decide +kernel
theorem dL_law_1394 : decode cL_law 1394 = .ok (.iconst 2, 1) := by decide +kernel
theorem dL_law_1395 : decode cL_law 1395 = .ok (.iadd, 1) := by decide +kernel
theorem dL_law_1396 : decode cL_law 1396 = .ok (.iaload, 1) := by decide +kernel
theorem dL_law_1397 : decode cL_law 1397 = .ok (.invokevirtual 153, 3) := by decide +kernel
theorem dL_law_1400 : decode cL_law 1400 = .ok (.if_icmp .eq 417, 3) := by decide +kernel
theorem dL_law_1403 : decode cL_law 1403 = .ok (.iconst 0, 1) := by decide +kernel
theorem dL_law_1404 : decode cL_law 1404 = .ok (.ireturn, 1) := by decide +kernel
theorem dL_law_1405 : decode cL_law 1405 = .ok (.aload_n 1, 1) := by decide +kernel
theorem dL_law_1406 : decode cL_law 1406 = .ok (.aload_n 0, 1) := by decide +kernel
theorem dL_law_1407 : decode cL_law 1407 = .ok (.iload_n 3, 1) := by decide +kernel
theorem dL_law_1408 : decode cL_law 1408 = .ok (.iconst 1, 1) := by decide +kernel
theorem dL_law_1409 : decode cL_law 1409 = .ok (.iadd, 1) := by decide +kernel
theorem dL_law_1410 : decode cL_law 1410 = .ok (.iaload, 1) := by decide +kernel
theorem dL_law_1411 : decode cL_law 1411 = .ok (.aload_n 0, 1) := by decide +kernel
theorem dL_law_1412 : decode cL_law 1412 = .ok (.iload_n 3, 1) := by decide +kernel
theorem dL_law_1413 : decode cL_law 1413 = .ok (.iconst 2, 1) := by decide +kernel
theorem dL_law_1414 : decode cL_law 1414 = .ok (.iadd, 1) := by decide +kernel
theorem dL_law_1415 : decode cL_law 1415 = .ok (.iaload, 1) := by decide +kernel
theorem dL_law_1416 : decode cL_law 1416 = .ok (.invokevirtual 154, 3) := by decide +kernel
theorem dL_law_1419 : decode cL_law 1419 = .ok (.aload_n 2, 1) := by decide +kernel
theorem dL_law_1420 : decode cL_law 1420 = .ok (.aload_n 0, 1) := by decide +kernel
theorem dL_law_1421 : decode cL_law 1421 = .ok (.iload_n 3, 1) := by decide +kernel
theorem dL_law_1422 : decode cL_law 1422 = .ok (.iconst 1, 1) := by decide +kernel
theorem dL_law_1423 : decode cL_law 1423 = .ok (.iadd, 1) := by decide +kernel
theorem dL_law_1424 : decode cL_law 1424 = .ok (.iaload, 1) := by decide +kernel
theorem dL_law_1425 : decode cL_law 1425 = .ok (.aload_n 0, 1) := by decide +kernel
theorem dL_law_1426 : decode cL_law 1426 = .ok (.iload_n 3, 1) := by decide +kernel
theorem dL_law_1427 : decode cL_law 1427 = .ok (.iconst 2, 1) := by decide +kernel
theorem dL_law_1428 : decode cL_law 1428 = .ok (.iadd, 1) := by decide +kernel
theorem dL_law_1429 : decode cL_law 1429 = .ok (.iaload, 1) := by decide +kernel
theorem dL_law_1430 : decode cL_law 1430 = .ok (.invokevirtual 157, 3) := by decide +kernel
theorem dL_law_1433 : decode cL_law 1433 = .ok (.if_icmp .eq 384, 3) := by decide +kernel
theorem dL_law_1436 : decode cL_law 1436 = .ok (.iconst 0, 1) := by decide +kernel
theorem dL_law_1437 : decode cL_law 1437 = .ok (.ireturn, 1) := by decide +kernel
theorem dL_law_1438 : decode cL_law 1438 = .ok (.aload_n 1, 1) := by decide +kernel
theorem dL_law_1439 : decode cL_law 1439 = .ok (.aload_n 0, 1) := by decide +kernel
theorem dL_law_1440 : decode cL_law 1440 = .ok (.iload_n 3, 1) := by decide +kernel
theorem dL_law_1441 : decode cL_law 1441 = .ok (.iconst 1, 1) := by decide +kernel
theorem dL_law_1442 : decode cL_law 1442 = .ok (.iadd, 1) := by decide +kernel
theorem dL_law_1443 : decode cL_law 1443 = .ok (.iaload, 1) := by decide +kernel
theorem dL_law_1444 : decode cL_law 1444 = .ok (.aload_n 0, 1) := by decide +kernel
theorem dL_law_1445 : decode cL_law 1445 = .ok (.iload_n 3, 1) := by decide +kernel
theorem dL_law_1446 : decode cL_law 1446 = .ok (.iconst 2, 1) := by decide +kernel
theorem dL_law_1447 : decode cL_law 1447 = .ok (.iadd, 1) := by decide +kernel
theorem dL_law_1448 : decode cL_law 1448 = .ok (.iaload, 1) := by decide +kernel
theorem dL_law_1449 : decode cL_law 1449 = .ok (.invokevirtual 158, 3) := by decide +kernel
theorem dL_law_1452 : decode cL_law 1452 = .ok (.aload_n 2, 1) := by decide +kernel
theorem dL_law_1453 : decode cL_law 1453 = .ok (.aload_n 0, 1) := by decide +kernel
theorem dL_law_1454 : decode cL_law 1454 = .ok (.iload_n 3, 1) := by decide +kernel
theorem dL_law_1455 : decode cL_law 1455 = .ok (.iconst 1, 1) := by decide +kernel
theorem dL_law_1456 : decode cL_law 1456 = .ok (.iadd, 1) := by decide +kernel
theorem dL_law_1457 : decode cL_law 1457 = .ok (.iaload, 1) := by decide +kernel
theorem dL_law_1458 : decode cL_law 1458 = .ok (.aload_n 0, 1) := by decide +kernel
theorem dL_law_1459 : decode cL_law 1459 = .ok (.iload_n 3, 1) := by decide +kernel
theorem dL_law_1460 : decode cL_law 1460 = .ok (.iconst 2, 1) := by decide +kernel
theorem dL_law_1461 : decode cL_law 1461 = .ok (.iadd, 1) := by decide +kernel
theorem dL_law_1462 : decode cL_law 1462 = .ok (.iaload, 1) := by decide +kernel
theorem dL_law_1463 : decode cL_law 1463 = .ok (.invokevirtual 161, 3) := by decide +kernel
theorem dL_law_1466 : decode cL_law 1466 = .ok (.if_icmp .eq 351, 3) := by decide +kernel
theorem dL_law_1469 : decode cL_law 1469 = .ok (.iconst 0, 1) := by decide +kernel
theorem dL_law_1470 : decode cL_law 1470 = .ok (.ireturn, 1) := by decide +kernel
theorem dL_law_1471 : decode cL_law 1471 = .ok (.aload_n 1, 1) := by decide +kernel
theorem dL_law_1472 : decode cL_law 1472 = .ok (.aload_n 0, 1) := by decide +kernel
theorem dL_law_1473 : decode cL_law 1473 = .ok (.iload_n 3, 1) := by decide +kernel
theorem dL_law_1474 : decode cL_law 1474 = .ok (.iconst 1, 1) := by decide +kernel
theorem dL_law_1475 : decode cL_law 1475 = .ok (.iadd, 1) := by decide +kernel
theorem dL_law_1476 : decode cL_law 1476 = .ok (.iaload, 1) := by decide +kernel
theorem dL_law_1477 : decode cL_law 1477 = .ok (.aload_n 0, 1) := by decide +kernel
theorem dL_law_1478 : decode cL_law 1478 = .ok (.iload_n 3, 1) := by decide +kernel
theorem dL_law_1479 : decode cL_law 1479 = .ok (.iconst 2, 1) := by decide +kernel
theorem dL_law_1480 : decode cL_law 1480 = .ok (.iadd, 1) := by decide +kernel
theorem dL_law_1481 : decode cL_law 1481 = .ok (.iaload, 1) := by decide +kernel
theorem dL_law_1482 : decode cL_law 1482 = .ok (.aload_n 0, 1) := by decide +kernel
theorem dL_law_1483 : decode cL_law 1483 = .ok (.iload_n 3, 1) := by decide +kernel
theorem dL_law_1484 : decode cL_law 1484 = .ok (.iconst 3, 1) := by decide +kernel
theorem dL_law_1485 : decode cL_law 1485 = .ok (.iadd, 1) := by decide +kernel
theorem dL_law_1486 : decode cL_law 1486 = .ok (.iaload, 1) := by decide +kernel
theorem dL_law_1487 : decode cL_law 1487 = .ok (.aload_n 0, 1) := by decide +kernel
theorem dL_law_1488 : decode cL_law 1488 = .ok (.iload_n 3, 1) := by decide +kernel
theorem dL_law_1489 : decode cL_law 1489 = .ok (.iconst 4, 1) := by decide +kernel
theorem dL_law_1490 : decode cL_law 1490 = .ok (.iadd, 1) := by decide +kernel
theorem dL_law_1491 : decode cL_law 1491 = .ok (.iaload, 1) := by decide +kernel
theorem dL_law_1492 : decode cL_law 1492 = .ok (.aload_n 0, 1) := by decide +kernel
theorem dL_law_1493 : decode cL_law 1493 = .ok (.iload_n 3, 1) := by decide +kernel
theorem dL_law_1494 : decode cL_law 1494 = .ok (.iconst 5, 1) := by decide +kernel
theorem dL_law_1495 : decode cL_law 1495 = .ok (.iadd, 1) := by decide +kernel
theorem dL_law_1496 : decode cL_law 1496 = .ok (.iaload, 1) := by decide +kernel
theorem dL_law_1497 : decode cL_law 1497 = .ok (.invokevirtual 162, 3) := by decide +kernel
theorem dL_law_1500 : decode cL_law 1500 = .ok (.aload_n 2, 1) := by decide +kernel
theorem dL_law_1501 : decode cL_law 1501 = .ok (.aload_n 0, 1) := by decide +kernel
theorem dL_law_1502 : decode cL_law 1502 = .ok (.iload_n 3, 1) := by decide +kernel
theorem dL_law_1503 : decode cL_law 1503 = .ok (.iconst 1, 1) := by decide +kernel
theorem dL_law_1504 : decode cL_law 1504 = .ok (.iadd, 1) := by decide +kernel
theorem dL_law_1505 : decode cL_law 1505 = .ok (.iaload, 1) := by decide +kernel
theorem dL_law_1506 : decode cL_law 1506 = .ok (.aload_n 0, 1) := by decide +kernel
theorem dL_law_1507 : decode cL_law 1507 = .ok (.iload_n 3, 1) := by decide +kernel
theorem dL_law_1508 : decode cL_law 1508 = .ok (.iconst 2, 1) := by decide +kernel
theorem dL_law_1509 : decode cL_law 1509 = .ok (.iadd, 1) := by decide +kernel
theorem dL_law_1510 : decode cL_law 1510 = .ok (.iaload, 1) := by decide +kernel
theorem dL_law_1511 : decode cL_law 1511 = .ok (.aload_n 0, 1) := by decide +kernel
theorem dL_law_1512 : decode cL_law 1512 = .ok (.iload_n 3, 1) := by decide +kernel
theorem dL_law_1513 : decode cL_law 1513 = .ok (.iconst 3, 1) := by decide +kernel
theorem dL_law_1514 : decode cL_law 1514 = .ok (.iadd, 1) := by decide +kernel
theorem dL_law_1515 : decode cL_law 1515 = .ok (.iaload, 1) := by decide +kernel
theorem dL_law_1516 : decode cL_law 1516 = .ok (.aload_n 0, 1) := by decide +kernel
theorem dL_law_1517 : decode cL_law 1517 = .ok (.iload_n 3, 1) := by decide +kernel
theorem dL_law_1518 : decode cL_law 1518 = .ok (.iconst 4, 1) := by decide +kernel
theorem dL_law_1519 : decode cL_law 1519 = .ok (.iadd, 1) := by decide +kernel
theorem dL_law_1520 : decode cL_law 1520 = .ok (.iaload, 1) := by decide +kernel
theorem dL_law_1521 : decode cL_law 1521 = .ok (.aload_n 0, 1) := by decide +kernel
theorem dL_law_1522 : decode cL_law 1522 = .ok (.iload_n 3, 1) := by decide +kernel
theorem dL_law_1523 : decode cL_law 1523 = .ok (.iconst 5, 1) := by decide +kernel
theorem dL_law_1524 : decode cL_law 1524 = .ok (.iadd, 1) := by decide +kernel
theorem dL_law_1525 : decode cL_law 1525 = .ok (.iaload, 1) := by decide +kernel
theorem dL_law_1526 : decode cL_law 1526 = .ok (.invokevirtual 166, 3) := by decide +kernel
theorem dL_law_1529 : decode cL_law 1529 = .ok (.lcmp, 1) := by decide +kernel
theorem dL_law_1530 : decode cL_law 1530 = .ok (.ifCond .eq 287, 3) := by decide +kernel
theorem dL_law_1533 : decode cL_law 1533 = .ok (.iconst 0, 1) := by decide +kernel
theorem dL_law_1534 : decode cL_law 1534 = .ok (.ireturn, 1) := by decide +kernel
theorem dL_law_1535 : decode cL_law 1535 = .ok (.aload_n 1, 1) := by decide +kernel
theorem dL_law_1536 : decode cL_law 1536 = .ok (.aload_n 0, 1) := by decide +kernel
theorem dL_law_1537 : decode cL_law 1537 = .ok (.iload_n 3, 1) := by decide +kernel
theorem dL_law_1538 : decode cL_law 1538 = .ok (.iconst 1, 1) := by decide +kernel
theorem dL_law_1539 : decode cL_law 1539 = .ok (.iadd, 1) := by decide +kernel
theorem dL_law_1540 : decode cL_law 1540 = .ok (.iaload, 1) := by decide +kernel
theorem dL_law_1541 : decode cL_law 1541 = .ok (.aload_n 0, 1) := by decide +kernel
theorem dL_law_1542 : decode cL_law 1542 = .ok (.iload_n 3, 1) := by decide +kernel
theorem dL_law_1543 : decode cL_law 1543 = .ok (.iconst 2, 1) := by decide +kernel
theorem dL_law_1544 : decode cL_law 1544 = .ok (.iadd, 1) := by decide +kernel
theorem dL_law_1545 : decode cL_law 1545 = .ok (.iaload, 1) := by decide +kernel
theorem dL_law_1546 : decode cL_law 1546 = .ok (.aload_n 0, 1) := by decide +kernel
theorem dL_law_1547 : decode cL_law 1547 = .ok (.iload_n 3, 1) := by decide +kernel
theorem dL_law_1548 : decode cL_law 1548 = .ok (.iconst 3, 1) := by decide +kernel
theorem dL_law_1549 : decode cL_law 1549 = .ok (.iadd, 1) := by decide +kernel
theorem dL_law_1550 : decode cL_law 1550 = .ok (.iaload, 1) := by decide +kernel
theorem dL_law_1551 : decode cL_law 1551 = .ok (.invokevirtual 167, 3) := by decide +kernel
theorem dL_law_1554 : decode cL_law 1554 = .ok (.aload_n 2, 1) := by decide +kernel
theorem dL_law_1555 : decode cL_law 1555 = .ok (.aload_n 0, 1) := by decide +kernel
theorem dL_law_1556 : decode cL_law 1556 = .ok (.iload_n 3, 1) := by decide +kernel
theorem dL_law_1557 : decode cL_law 1557 = .ok (.iconst 1, 1) := by decide +kernel
theorem dL_law_1558 : decode cL_law 1558 = .ok (.iadd, 1) := by decide +kernel
theorem dL_law_1559 : decode cL_law 1559 = .ok (.iaload, 1) := by decide +kernel
theorem dL_law_1560 : decode cL_law 1560 = .ok (.aload_n 0, 1) := by decide +kernel
theorem dL_law_1561 : decode cL_law 1561 = .ok (.iload_n 3, 1) := by decide +kernel
theorem dL_law_1562 : decode cL_law 1562 = .ok (.iconst 2, 1) := by decide +kernel
theorem dL_law_1563 : decode cL_law 1563 = .ok (.iadd, 1) := by decide +kernel
theorem dL_law_1564 : decode cL_law 1564 = .ok (.iaload, 1) := by decide +kernel
theorem dL_law_1565 : decode cL_law 1565 = .ok (.aload_n 0, 1) := by decide +kernel
theorem dL_law_1566 : decode cL_law 1566 = .ok (.iload_n 3, 1) := by decide +kernel
theorem dL_law_1567 : decode cL_law 1567 = .ok (.iconst 3, 1) := by decide +kernel
theorem dL_law_1568 : decode cL_law 1568 = .ok (.iadd, 1) := by decide +kernel
theorem dL_law_1569 : decode cL_law 1569 = .ok (.iaload, 1) := by decide +kernel
theorem dL_law_1570 : decode cL_law 1570 = .ok (.invokevirtual 170, 3) := by decide +kernel
theorem dL_law_1573 : decode cL_law 1573 = .ok (.if_icmp .eq 244, 3) := by decide +kernel
theorem dL_law_1576 : decode cL_law 1576 = .ok (.iconst 0, 1) := by decide +kernel
theorem dL_law_1577 : decode cL_law 1577 = .ok (.ireturn, 1) := by decide +kernel
theorem dL_law_1578 : decode cL_law 1578 = .ok (.aload_n 1, 1) := by decide +kernel
theorem dL_law_1579 : decode cL_law 1579 = .ok (.aload_n 0, 1) := by decide +kernel
theorem dL_law_1580 : decode cL_law 1580 = .ok (.iload_n 3, 1) := by decide +kernel
theorem dL_law_1581 : decode cL_law 1581 = .ok (.iconst 1, 1) := by decide +kernel
theorem dL_law_1582 : decode cL_law 1582 = .ok (.iadd, 1) := by decide +kernel
theorem dL_law_1583 : decode cL_law 1583 = .ok (.iaload, 1) := by decide +kernel
theorem dL_law_1584 : decode cL_law 1584 = .ok (.aload_n 0, 1) := by decide +kernel
theorem dL_law_1585 : decode cL_law 1585 = .ok (.iload_n 3, 1) := by decide +kernel
theorem dL_law_1586 : decode cL_law 1586 = .ok (.iconst 2, 1) := by decide +kernel
theorem dL_law_1587 : decode cL_law 1587 = .ok (.iadd, 1) := by decide +kernel
theorem dL_law_1588 : decode cL_law 1588 = .ok (.iaload, 1) := by decide +kernel
theorem dL_law_1589 : decode cL_law 1589 = .ok (.aload_n 0, 1) := by decide +kernel
theorem dL_law_1590 : decode cL_law 1590 = .ok (.iload_n 3, 1) := by decide +kernel
theorem dL_law_1591 : decode cL_law 1591 = .ok (.iconst 3, 1) := by decide +kernel
theorem dL_law_1592 : decode cL_law 1592 = .ok (.iadd, 1) := by decide +kernel
theorem dL_law_1593 : decode cL_law 1593 = .ok (.iaload, 1) := by decide +kernel
theorem dL_law_1594 : decode cL_law 1594 = .ok (.invokevirtual 171, 3) := by decide +kernel
theorem dL_law_1597 : decode cL_law 1597 = .ok (.aload_n 2, 1) := by decide +kernel
theorem dL_law_1598 : decode cL_law 1598 = .ok (.aload_n 0, 1) := by decide +kernel
theorem dL_law_1599 : decode cL_law 1599 = .ok (.iload_n 3, 1) := by decide +kernel
theorem dL_law_1600 : decode cL_law 1600 = .ok (.iconst 1, 1) := by decide +kernel
theorem dL_law_1601 : decode cL_law 1601 = .ok (.iadd, 1) := by decide +kernel
theorem dL_law_1602 : decode cL_law 1602 = .ok (.iaload, 1) := by decide +kernel
theorem dL_law_1603 : decode cL_law 1603 = .ok (.aload_n 0, 1) := by decide +kernel
theorem dL_law_1604 : decode cL_law 1604 = .ok (.iload_n 3, 1) := by decide +kernel
theorem dL_law_1605 : decode cL_law 1605 = .ok (.iconst 2, 1) := by decide +kernel
theorem dL_law_1606 : decode cL_law 1606 = .ok (.iadd, 1) := by decide +kernel
theorem dL_law_1607 : decode cL_law 1607 = .ok (.iaload, 1) := by decide +kernel
theorem dL_law_1608 : decode cL_law 1608 = .ok (.aload_n 0, 1) := by decide +kernel
theorem dL_law_1609 : decode cL_law 1609 = .ok (.iload_n 3, 1) := by decide +kernel
theorem dL_law_1610 : decode cL_law 1610 = .ok (.iconst 3, 1) := by decide +kernel
theorem dL_law_1611 : decode cL_law 1611 = .ok (.iadd, 1) := by decide +kernel
theorem dL_law_1612 : decode cL_law 1612 = .ok (.iaload, 1) := by decide +kernel
theorem dL_law_1613 : decode cL_law 1613 = .ok (.invokevirtual 174, 3) := by decide +kernel
theorem dL_law_1616 : decode cL_law 1616 = .ok (.if_icmp .eq 201, 3) := by decide +kernel
theorem dL_law_1619 : decode cL_law 1619 = .ok (.iconst 0, 1) := by decide +kernel
theorem dL_law_1620 : decode cL_law 1620 = .ok (.ireturn, 1) := by decide +kernel
theorem dL_law_1621 : decode cL_law 1621 = .ok (.aload_n 1, 1) := by decide +kernel
theorem dL_law_1622 : decode cL_law 1622 = .ok (.aload_n 0, 1) := by decide +kernel
theorem dL_law_1623 : decode cL_law 1623 = .ok (.iload_n 3, 1) := by decide +kernel
theorem dL_law_1624 : decode cL_law 1624 = .ok (.iconst 1, 1) := by decide +kernel
theorem dL_law_1625 : decode cL_law 1625 = .ok (.iadd, 1) := by decide +kernel
theorem dL_law_1626 : decode cL_law 1626 = .ok (.iaload, 1) := by decide +kernel
theorem dL_law_1627 : decode cL_law 1627 = .ok (.aload_n 0, 1) := by decide +kernel
theorem dL_law_1628 : decode cL_law 1628 = .ok (.iload_n 3, 1) := by decide +kernel
theorem dL_law_1629 : decode cL_law 1629 = .ok (.iconst 2, 1) := by decide +kernel
theorem dL_law_1630 : decode cL_law 1630 = .ok (.iadd, 1) := by decide +kernel
theorem dL_law_1631 : decode cL_law 1631 = .ok (.iaload, 1) := by decide +kernel
theorem dL_law_1632 : decode cL_law 1632 = .ok (.aload_n 0, 1) := by decide +kernel
theorem dL_law_1633 : decode cL_law 1633 = .ok (.iload_n 3, 1) := by decide +kernel
theorem dL_law_1634 : decode cL_law 1634 = .ok (.iconst 3, 1) := by decide +kernel
theorem dL_law_1635 : decode cL_law 1635 = .ok (.iadd, 1) := by decide +kernel
theorem dL_law_1636 : decode cL_law 1636 = .ok (.iaload, 1) := by decide +kernel
theorem dL_law_1637 : decode cL_law 1637 = .ok (.i2l, 1) := by decide +kernel
theorem dL_law_1638 : decode cL_law 1638 = .ok (.bipush 32, 2) := by decide +kernel
theorem dL_law_1640 : decode cL_law 1640 = .ok (.lshl, 1) := by decide +kernel
theorem dL_law_1641 : decode cL_law 1641 = .ok (.aload_n 0, 1) := by decide +kernel
theorem dL_law_1642 : decode cL_law 1642 = .ok (.iload_n 3, 1) := by decide +kernel
theorem dL_law_1643 : decode cL_law 1643 = .ok (.iconst 4, 1) := by decide +kernel
theorem dL_law_1644 : decode cL_law 1644 = .ok (.iadd, 1) := by decide +kernel
theorem dL_law_1645 : decode cL_law 1645 = .ok (.iaload, 1) := by decide +kernel
theorem dL_law_1646 : decode cL_law 1646 = .ok (.i2l, 1) := by decide +kernel
theorem dL_law_1647 : decode cL_law 1647 = .ok (.ldc2_w 175, 3) := by decide +kernel
theorem dL_law_1650 : decode cL_law 1650 = .ok (.land, 1) := by decide +kernel
theorem dL_law_1651 : decode cL_law 1651 = .ok (.lor, 1) := by decide +kernel
theorem dL_law_1652 : decode cL_law 1652 = .ok (.invokevirtual 177, 3) := by decide +kernel
theorem dL_law_1655 : decode cL_law 1655 = .ok (.aload_n 2, 1) := by decide +kernel
theorem dL_law_1656 : decode cL_law 1656 = .ok (.aload_n 0, 1) := by decide +kernel
theorem dL_law_1657 : decode cL_law 1657 = .ok (.iload_n 3, 1) := by decide +kernel
theorem dL_law_1658 : decode cL_law 1658 = .ok (.iconst 1, 1) := by decide +kernel
theorem dL_law_1659 : decode cL_law 1659 = .ok (.iadd, 1) := by decide +kernel
theorem dL_law_1660 : decode cL_law 1660 = .ok (.iaload, 1) := by decide +kernel
theorem dL_law_1661 : decode cL_law 1661 = .ok (.aload_n 0, 1) := by decide +kernel
theorem dL_law_1662 : decode cL_law 1662 = .ok (.iload_n 3, 1) := by decide +kernel
theorem dL_law_1663 : decode cL_law 1663 = .ok (.iconst 2, 1) := by decide +kernel
theorem dL_law_1664 : decode cL_law 1664 = .ok (.iadd, 1) := by decide +kernel
theorem dL_law_1665 : decode cL_law 1665 = .ok (.iaload, 1) := by decide +kernel
theorem dL_law_1666 : decode cL_law 1666 = .ok (.aload_n 0, 1) := by decide +kernel
theorem dL_law_1667 : decode cL_law 1667 = .ok (.iload_n 3, 1) := by decide +kernel
theorem dL_law_1668 : decode cL_law 1668 = .ok (.iconst 3, 1) := by decide +kernel
theorem dL_law_1669 : decode cL_law 1669 = .ok (.iadd, 1) := by decide +kernel
theorem dL_law_1670 : decode cL_law 1670 = .ok (.iaload, 1) := by decide +kernel
theorem dL_law_1671 : decode cL_law 1671 = .ok (.i2l, 1) := by decide +kernel
theorem dL_law_1672 : decode cL_law 1672 = .ok (.bipush 32, 2) := by decide +kernel
theorem dL_law_1674 : decode cL_law 1674 = .ok (.lshl, 1) := by decide +kernel
theorem dL_law_1675 : decode cL_law 1675 = .ok (.aload_n 0, 1) := by decide +kernel
theorem dL_law_1676 : decode cL_law 1676 = .ok (.iload_n 3, 1) := by decide +kernel
theorem dL_law_1677 : decode cL_law 1677 = .ok (.iconst 4, 1) := by decide +kernel
theorem dL_law_1678 : decode cL_law 1678 = .ok (.iadd, 1) := by decide +kernel
theorem dL_law_1679 : decode cL_law 1679 = .ok (.iaload, 1) := by decide +kernel
theorem dL_law_1680 : decode cL_law 1680 = .ok (.i2l, 1) := by decide +kernel
theorem dL_law_1681 : decode cL_law 1681 = .ok (.ldc2_w 175, 3) := by decide +kernel
theorem dL_law_1684 : decode cL_law 1684 = .ok (.land, 1) := by decide +kernel
theorem dL_law_1685 : decode cL_law 1685 = .ok (.lor, 1) := by decide +kernel
theorem dL_law_1686 : decode cL_law 1686 = .ok (.invokevirtual 181, 3) := by decide +kernel
theorem dL_law_1689 : decode cL_law 1689 = .ok (.lcmp, 1) := by decide +kernel
theorem dL_law_1690 : decode cL_law 1690 = .ok (.ifCond .eq 127, 3) := by decide +kernel
theorem dL_law_1693 : decode cL_law 1693 = .ok (.iconst 0, 1) := by decide +kernel
theorem dL_law_1694 : decode cL_law 1694 = .ok (.ireturn, 1) := by decide +kernel
theorem dL_law_1695 : decode cL_law 1695 = .ok (.aload_n 1, 1) := by decide +kernel
theorem dL_law_1696 : decode cL_law 1696 = .ok (.aload_n 0, 1) := by decide +kernel
theorem dL_law_1697 : decode cL_law 1697 = .ok (.iload_n 3, 1) := by decide +kernel
theorem dL_law_1698 : decode cL_law 1698 = .ok (.iconst 1, 1) := by decide +kernel
theorem dL_law_1699 : decode cL_law 1699 = .ok (.iadd, 1) := by decide +kernel
theorem dL_law_1700 : decode cL_law 1700 = .ok (.iaload, 1) := by decide +kernel
theorem dL_law_1701 : decode cL_law 1701 = .ok (.aload_n 0, 1) := by decide +kernel
theorem dL_law_1702 : decode cL_law 1702 = .ok (.iload_n 3, 1) := by decide +kernel
theorem dL_law_1703 : decode cL_law 1703 = .ok (.iconst 2, 1) := by decide +kernel
theorem dL_law_1704 : decode cL_law 1704 = .ok (.iadd, 1) := by decide +kernel
theorem dL_law_1705 : decode cL_law 1705 = .ok (.iaload, 1) := by decide +kernel
theorem dL_law_1706 : decode cL_law 1706 = .ok (.aload_n 0, 1) := by decide +kernel
theorem dL_law_1707 : decode cL_law 1707 = .ok (.iload_n 3, 1) := by decide +kernel
theorem dL_law_1708 : decode cL_law 1708 = .ok (.iconst 3, 1) := by decide +kernel
theorem dL_law_1709 : decode cL_law 1709 = .ok (.iadd, 1) := by decide +kernel
theorem dL_law_1710 : decode cL_law 1710 = .ok (.iaload, 1) := by decide +kernel
theorem dL_law_1711 : decode cL_law 1711 = .ok (.aload_n 0, 1) := by decide +kernel
theorem dL_law_1712 : decode cL_law 1712 = .ok (.iload_n 3, 1) := by decide +kernel
theorem dL_law_1713 : decode cL_law 1713 = .ok (.iconst 4, 1) := by decide +kernel
theorem dL_law_1714 : decode cL_law 1714 = .ok (.iadd, 1) := by decide +kernel
theorem dL_law_1715 : decode cL_law 1715 = .ok (.iaload, 1) := by decide +kernel
theorem dL_law_1716 : decode cL_law 1716 = .ok (.invokevirtual 182, 3) := by decide +kernel
theorem dL_law_1719 : decode cL_law 1719 = .ok (.aload_n 2, 1) := by decide +kernel
theorem dL_law_1720 : decode cL_law 1720 = .ok (.aload_n 0, 1) := by decide +kernel
theorem dL_law_1721 : decode cL_law 1721 = .ok (.iload_n 3, 1) := by decide +kernel
theorem dL_law_1722 : decode cL_law 1722 = .ok (.iconst 1, 1) := by decide +kernel
theorem dL_law_1723 : decode cL_law 1723 = .ok (.iadd, 1) := by decide +kernel
theorem dL_law_1724 : decode cL_law 1724 = .ok (.iaload, 1) := by decide +kernel
theorem dL_law_1725 : decode cL_law 1725 = .ok (.aload_n 0, 1) := by decide +kernel
theorem dL_law_1726 : decode cL_law 1726 = .ok (.iload_n 3, 1) := by decide +kernel
theorem dL_law_1727 : decode cL_law 1727 = .ok (.iconst 2, 1) := by decide +kernel
theorem dL_law_1728 : decode cL_law 1728 = .ok (.iadd, 1) := by decide +kernel
theorem dL_law_1729 : decode cL_law 1729 = .ok (.iaload, 1) := by decide +kernel
theorem dL_law_1730 : decode cL_law 1730 = .ok (.aload_n 0, 1) := by decide +kernel
theorem dL_law_1731 : decode cL_law 1731 = .ok (.iload_n 3, 1) := by decide +kernel
theorem dL_law_1732 : decode cL_law 1732 = .ok (.iconst 3, 1) := by decide +kernel
theorem dL_law_1733 : decode cL_law 1733 = .ok (.iadd, 1) := by decide +kernel
theorem dL_law_1734 : decode cL_law 1734 = .ok (.iaload, 1) := by decide +kernel
theorem dL_law_1735 : decode cL_law 1735 = .ok (.aload_n 0, 1) := by decide +kernel
theorem dL_law_1736 : decode cL_law 1736 = .ok (.iload_n 3, 1) := by decide +kernel
theorem dL_law_1737 : decode cL_law 1737 = .ok (.iconst 4, 1) := by decide +kernel
theorem dL_law_1738 : decode cL_law 1738 = .ok (.iadd, 1) := by decide +kernel
theorem dL_law_1739 : decode cL_law 1739 = .ok (.iaload, 1) := by decide +kernel
theorem dL_law_1740 : decode cL_law 1740 = .ok (.invokevirtual 185, 3) := by decide +kernel
theorem dL_law_1743 : decode cL_law 1743 = .ok (.if_icmp .eq 74, 3) := by decide +kernel
theorem dL_law_1746 : decode cL_law 1746 = .ok (.iconst 0, 1) := by decide +kernel
theorem dL_law_1747 : decode cL_law 1747 = .ok (.ireturn, 1) := by decide +kernel
theorem dL_law_1748 : decode cL_law 1748 = .ok (.aload_n 1, 1) := by decide +kernel
theorem dL_law_1749 : decode cL_law 1749 = .ok (.aload_n 0, 1) := by decide +kernel
theorem dL_law_1750 : decode cL_law 1750 = .ok (.iload_n 3, 1) := by decide +kernel
theorem dL_law_1751 : decode cL_law 1751 = .ok (.iconst 1, 1) := by decide +kernel
theorem dL_law_1752 : decode cL_law 1752 = .ok (.iadd, 1) := by decide +kernel
theorem dL_law_1753 : decode cL_law 1753 = .ok (.iaload, 1) := by decide +kernel
theorem dL_law_1754 : decode cL_law 1754 = .ok (.invokevirtual 186, 3) := by decide +kernel
theorem dL_law_1757 : decode cL_law 1757 = .ok (.aload_n 2, 1) := by decide +kernel
theorem dL_law_1758 : decode cL_law 1758 = .ok (.aload_n 0, 1) := by decide +kernel
theorem dL_law_1759 : decode cL_law 1759 = .ok (.iload_n 3, 1) := by decide +kernel
theorem dL_law_1760 : decode cL_law 1760 = .ok (.iconst 1, 1) := by decide +kernel
theorem dL_law_1761 : decode cL_law 1761 = .ok (.iadd, 1) := by decide +kernel
theorem dL_law_1762 : decode cL_law 1762 = .ok (.iaload, 1) := by decide +kernel
theorem dL_law_1763 : decode cL_law 1763 = .ok (.invokevirtual 189, 3) := by decide +kernel
theorem dL_law_1766 : decode cL_law 1766 = .ok (.if_icmp .eq 51, 3) := by decide +kernel
theorem dL_law_1769 : decode cL_law 1769 = .ok (.iconst 0, 1) := by decide +kernel
theorem dL_law_1770 : decode cL_law 1770 = .ok (.ireturn, 1) := by decide +kernel
theorem dL_law_1771 : decode cL_law 1771 = .ok (.aload_n 1, 1) := by decide +kernel
theorem dL_law_1772 : decode cL_law 1772 = .ok (.aload_n 0, 1) := by decide +kernel
theorem dL_law_1773 : decode cL_law 1773 = .ok (.iload_n 3, 1) := by decide +kernel
theorem dL_law_1774 : decode cL_law 1774 = .ok (.iconst 1, 1) := by decide +kernel
theorem dL_law_1775 : decode cL_law 1775 = .ok (.iadd, 1) := by decide +kernel
theorem dL_law_1776 : decode cL_law 1776 = .ok (.iaload, 1) := by decide +kernel
theorem dL_law_1777 : decode cL_law 1777 = .ok (.invokevirtual 190, 3) := by decide +kernel
theorem dL_law_1780 : decode cL_law 1780 = .ok (.aload_n 2, 1) := by decide +kernel
theorem dL_law_1781 : decode cL_law 1781 = .ok (.aload_n 0, 1) := by decide +kernel
theorem dL_law_1782 : decode cL_law 1782 = .ok (.iload_n 3, 1) := by decide +kernel
theorem dL_law_1783 : decode cL_law 1783 = .ok (.iconst 1, 1) := by decide +kernel
theorem dL_law_1784 : decode cL_law 1784 = .ok (.iadd, 1) := by decide +kernel
theorem dL_law_1785 : decode cL_law 1785 = .ok (.iaload, 1) := by decide +kernel
theorem dL_law_1786 : decode cL_law 1786 = .ok (.invokevirtual 193, 3) := by decide +kernel
theorem dL_law_1789 : decode cL_law 1789 = .ok (.if_icmp .eq 28, 3) := by decide +kernel
theorem dL_law_1792 : decode cL_law 1792 = .ok (.iconst 0, 1) := by decide +kernel
theorem dL_law_1793 : decode cL_law 1793 = .ok (.ireturn, 1) := by decide +kernel
theorem dL_law_1794 : decode cL_law 1794 = .ok (.aload_n 1, 1) := by decide +kernel
theorem dL_law_1795 : decode cL_law 1795 = .ok (.aload_n 0, 1) := by decide +kernel
theorem dL_law_1796 : decode cL_law 1796 = .ok (.iload_n 3, 1) := by decide +kernel
theorem dL_law_1797 : decode cL_law 1797 = .ok (.iconst 1, 1) := by decide +kernel
theorem dL_law_1798 : decode cL_law 1798 = .ok (.iadd, 1) := by decide +kernel
theorem dL_law_1799 : decode cL_law 1799 = .ok (.iaload, 1) := by decide +kernel
theorem dL_law_1800 : decode cL_law 1800 = .ok (.invokevirtual 194, 3) := by decide +kernel
theorem dL_law_1803 : decode cL_law 1803 = .ok (.aload_n 2, 1) := by decide +kernel
theorem dL_law_1804 : decode cL_law 1804 = .ok (.aload_n 0, 1) := by decide +kernel
theorem dL_law_1805 : decode cL_law 1805 = .ok (.iload_n 3, 1) := by decide +kernel
theorem dL_law_1806 : decode cL_law 1806 = .ok (.iconst 1, 1) := by decide +kernel
theorem dL_law_1807 : decode cL_law 1807 = .ok (.iadd, 1) := by decide +kernel
theorem dL_law_1808 : decode cL_law 1808 = .ok (.iaload, 1) := by decide +kernel
theorem dL_law_1809 : decode cL_law 1809 = .ok (.invokevirtual 197, 3) := by decide +kernel
theorem dL_law_1812 : decode cL_law 1812 = .ok (.if_icmp .eq 5, 3) := by decide +kernel
theorem dL_law_1815 : decode cL_law 1815 = .ok (.iconst 0, 1) := by decide +kernel
theorem dL_law_1816 : decode cL_law 1816 = .ok (.ireturn, 1) := by decide +kernel
theorem dL_law_1817 : decode cL_law 1817 = .ok (.iinc 3 6, 3) := by decide +kernel
theorem dL_law_1820 : decode cL_law 1820 = .ok (.goto (-1802), 3) := by decide +kernel
theorem dL_law_1823 : decode cL_law 1823 = .ok (.iconst 1, 1) := by decide +kernel
theorem dL_law_1824 : decode cL_law 1824 = .ok (.ireturn, 1) := by decide +kernel
set_option maxRecDepth 20000 in
set_option maxHeartbeats 2000000 in
theorem w_L_law_1817 {X : CX} {d : Nat} (hd : 103 ≤ d) {sL : Nat} {sX : Nat → Int32} (hxL : xL X = sL) (hxs : xs X = sX) {g' : G} {rx : Bool} (k18 : Nat → Nat → Int32 → G → Option (Bool × G)) (hk18 : ∀ (l1 : Nat) (l2 : Nat) (l3 : Int32) (g : G), KD g l1 11 → KD g l2 12 → k18 l1 l2 l3 g = some (rx, g') → SemF X (yL_law, cL_law, 4, some .boolean) d 18 [(0, .ref (xb X)), (1, .ref (ad X l1)), (2, .ref (ad X l2)), (3, .int l3)] [] g (some (.int (b2i rx))) g') (l1 : Nat) (l2 : Nat) (l3 : Int32) (g : G) (k_l1 : KD g l1 11) (k_l2 : KD g l2 12) (h : f_L_law_1817 sL sX k18 l1 l2 l3 g = some (rx, g')) : SemF X (yL_law, cL_law, 4, some .boolean) d 1817 [(0, .ref (xb X)), (1, .ref (ad X l1)), (2, .ref (ad X l2)), (3, .int l3)] [] g (some (.int (b2i rx))) g' := by
  rw [f_L_law_1817] at h
  refine SF_iinc 3 (l3 + (6 : Int32)) [(3, .int (l3 + (6 : Int32))), (0, .ref (xb X)), (1, .ref (ad X l1)), (2, .ref (ad X l2))] 1820 dL_law_1817 rfl rfl (by decide) rfl rfl ?_
  refine SF_goto 18 dL_law_1820 rfl ?_
  refine SF_sub [1, 2, 3, 0] rfl ?_
  exact hk18 l1 l2 (l3 + (6 : Int32)) g k_l1 k_l2 h

set_option maxRecDepth 20000 in
set_option maxHeartbeats 2000000 in
theorem w_L_law_18 {X : CX} {d : Nat} (hd : 103 ≤ d) {sL : Nat} {sX : Nat → Int32} (hxL : xL X = sL) (hxs : xs X = sX) {g' : G} {rx : Bool} : ∀ (n : Nat) (l1 : Nat) (l2 : Nat) (l3 : Int32) (g : G), KD g l1 11 → KD g l2 12 → f_L_law_18 sL sX n l1 l2 l3 g = some (rx, g') → SemF X (yL_law, cL_law, 4, some .boolean) d 18 [(0, .ref (xb X)), (1, .ref (ad X l1)), (2, .ref (ad X l2)), (3, .int l3)] [] g (some (.int (b2i rx))) g' := by
  intro n
  induction n with
  | zero =>
    intro l1 l2 l3 g k_l1 k_l2 h
    rw [f_L_law_18] at h
    cases h
  | succ n ih =>
  intro l1 l2 l3 g k_l1 k_l2 h
  rw [f_L_law_18] at h
  refine SF_iload_n 3 19 dL_law_18 rfl rfl rfl ?_
  refine SF_aload_n 0 20 dL_law_19 rfl rfl rfl ?_
  refine SF_slen 21 dL_law_20 rfl ?_
  rw [hxL]
  refine SF_bipush (6 : Int32) 23 dL_law_21 rfl rfl ?_
  refine SF_isub 24 dL_law_23 rfl ?_
  refine SF_icgt 1823 27 dL_law_24 rfl rfl (fun c1 => ?_) (fun c1 => ?_)
  · have h := ite_t c1 h
    refine SF_iconst (1 : Int32) 1824 dL_law_1823 rfl rfl ?_
    exact RT_b rfl rfl dL_law_1824 h
  · have h := ite_f c1 h
    refine SF_aload_n 0 28 dL_law_27 rfl rfl rfl ?_
    refine SF_iload_n 3 29 dL_law_28 rfl rfl rfl ?_
    obtain ⟨i2, h⟩ := gdI_some h
    refine SF_sld 30 dL_law_29 (by rw [hxL]; exact i2) rfl ?_
    rw [hxs]
    refine SF_bipush (63 : Int32) 32 dL_law_30 rfl rfl ?_
    refine SF_iand 33 dL_law_32 rfl ?_
    by_cases c592 : ((sX l3.toNatClampNeg) &&& (63 : Int32)).toInt < 0
    · have h := ite_t c592 h
      refine SF_tabOut 1817 dL_law_33 (Or.inl c592) rfl ?_
      exact w_L_law_1817 hd hxL hxs (f_L_law_18 sL sX n) ih l1 l2 l3 g k_l1 k_l2 h
    · have h := ite_f c592 h
      generalize m593 : (((sX l3.toNatClampNeg) &&& (63 : Int32)).toInt - 0).toNat = mm at h
      match mm, m593, h with
      | 0, m593, h =>
        refine SF_tabIn 220 dL_law_33 c592 (by omega) (by rw [m593]; rfl) rfl ?_
        refine SF_aload_n 1 221 dL_law_220 rfl rfl rfl ?_
        refine SF_aload_n 0 222 dL_law_221 rfl rfl rfl ?_
        refine SF_iload_n 3 223 dL_law_222 rfl rfl rfl ?_
        refine SF_iconst (1 : Int32) 224 dL_law_223 rfl rfl ?_
        refine SF_iadd 225 dL_law_224 rfl ?_
        obtain ⟨i3, h⟩ := gdI_some h
        refine SF_sld 226 dL_law_225 (by rw [hxL]; exact i3) rfl ?_
        rw [hxs]
        refine SF_aload_n 0 227 dL_law_226 rfl rfl rfl ?_
        refine SF_iload_n 3 228 dL_law_227 rfl rfl rfl ?_
        refine SF_iconst (2 : Int32) 229 dL_law_228 rfl rfl ?_
        refine SF_iadd 230 dL_law_229 rfl ?_
        obtain ⟨i4, h⟩ := gdI_some h
        refine SF_sld 231 dL_law_230 (by rw [hxL]; exact i4) rfl ?_
        rw [hxs]
        refine SF_aload_n 0 232 dL_law_231 rfl rfl rfl ?_
        refine SF_iload_n 3 233 dL_law_232 rfl rfl rfl ?_
        refine SF_iconst (3 : Int32) 234 dL_law_233 rfl rfl ?_
        refine SF_iadd 235 dL_law_234 rfl ?_
        obtain ⟨i5, h⟩ := gdI_some h
        refine SF_sld 236 dL_law_235 (by rw [hxL]; exact i5) rfl ?_
        rw [hxs]
        refine SF_aload_n 0 237 dL_law_236 rfl rfl rfl ?_
        refine SF_iload_n 3 238 dL_law_237 rfl rfl rfl ?_
        refine SF_iconst (4 : Int32) 239 dL_law_238 rfl rfl ?_
        refine SF_iadd 240 dL_law_239 rfl ?_
        obtain ⟨i6, h⟩ := gdI_some h
        refine SF_sld 241 dL_law_240 (by rw [hxL]; exact i6) rfl ?_
        rw [hxs]
        refine SF_aload_n 0 242 dL_law_241 rfl rfl rfl ?_
        refine SF_iload_n 3 243 dL_law_242 rfl rfl rfl ?_
        refine SF_iconst (5 : Int32) 244 dL_law_243 rfl rfl ?_
        refine SF_iadd 245 dL_law_244 rfl ?_
        obtain ⟨i7, h⟩ := gdI_some h
        refine SF_sld 246 dL_law_245 (by rw [hxL]; exact i7) rfl ?_
        rw [hxs]
        obtain ⟨v8, g9, q10, h⟩ := bd_some h
        have s11 := w_X11_feed (X := X) (Nat.le_refl 1) l1 (sX (l3 + (1 : Int32)).toNatClampNeg) (sX (l3 + (2 : Int32)).toNatClampNeg) (sX (l3 + (3 : Int32)).toNatClampNeg) (sX (l3 + (4 : Int32)).toNatClampNeg) (sX (l3 + (5 : Int32)).toNatClampNeg) g g9 v8 k_l1 q10
        refine SF_callVi 249 mi_X11_feed ml_L_13 dL_law_246 (Nat.le_trans (by decide) hd) s11 k_l1.1 rfl rfl (Nat.le_of_ble_eq_true rfl) rfl ?_
        have k_l1 := k_l1.ext s11.1
        have k_l2 := k_l2.ext s11.1
        refine SF_aload_n 2 250 dL_law_249 rfl rfl rfl ?_
        refine SF_aload_n 0 251 dL_law_250 rfl rfl rfl ?_
        refine SF_iload_n 3 252 dL_law_251 rfl rfl rfl ?_
        refine SF_iconst (1 : Int32) 253 dL_law_252 rfl rfl ?_
        refine SF_iadd 254 dL_law_253 rfl ?_
        obtain ⟨i12, h⟩ := gdI_some h
        refine SF_sld 255 dL_law_254 (by rw [hxL]; exact i12) rfl ?_
        rw [hxs]
        refine SF_aload_n 0 256 dL_law_255 rfl rfl rfl ?_
        refine SF_iload_n 3 257 dL_law_256 rfl rfl rfl ?_
        refine SF_iconst (2 : Int32) 258 dL_law_257 rfl rfl ?_
        refine SF_iadd 259 dL_law_258 rfl ?_
        obtain ⟨i13, h⟩ := gdI_some h
        refine SF_sld 260 dL_law_259 (by rw [hxL]; exact i13) rfl ?_
        rw [hxs]
        refine SF_aload_n 0 261 dL_law_260 rfl rfl rfl ?_
        refine SF_iload_n 3 262 dL_law_261 rfl rfl rfl ?_
        refine SF_iconst (3 : Int32) 263 dL_law_262 rfl rfl ?_
        refine SF_iadd 264 dL_law_263 rfl ?_
        obtain ⟨i14, h⟩ := gdI_some h
        refine SF_sld 265 dL_law_264 (by rw [hxL]; exact i14) rfl ?_
        rw [hxs]
        refine SF_aload_n 0 266 dL_law_265 rfl rfl rfl ?_
        refine SF_iload_n 3 267 dL_law_266 rfl rfl rfl ?_
        refine SF_iconst (4 : Int32) 268 dL_law_267 rfl rfl ?_
        refine SF_iadd 269 dL_law_268 rfl ?_
        obtain ⟨i15, h⟩ := gdI_some h
        refine SF_sld 270 dL_law_269 (by rw [hxL]; exact i15) rfl ?_
        rw [hxs]
        refine SF_aload_n 0 271 dL_law_270 rfl rfl rfl ?_
        refine SF_iload_n 3 272 dL_law_271 rfl rfl rfl ?_
        refine SF_iconst (5 : Int32) 273 dL_law_272 rfl rfl ?_
        refine SF_iadd 274 dL_law_273 rfl ?_
        obtain ⟨i16, h⟩ := gdI_some h
        refine SF_sld 275 dL_law_274 (by rw [hxL]; exact i16) rfl ?_
        rw [hxs]
        obtain ⟨v17, g18, q19, h⟩ := bd_some h
        have s20 := w_X12_feed (X := X) (Nat.le_refl 0) l2 (sX (l3 + (1 : Int32)).toNatClampNeg) (sX (l3 + (2 : Int32)).toNatClampNeg) (sX (l3 + (3 : Int32)).toNatClampNeg) (sX (l3 + (4 : Int32)).toNatClampNeg) (sX (l3 + (5 : Int32)).toNatClampNeg) g9 g18 v17 k_l2 q19
        refine SF_callVi 278 mi_X12_feed ml_L_17 dL_law_275 (Nat.le_trans (by decide) hd) s20 k_l2.1 rfl rfl (Nat.le_of_ble_eq_true rfl) rfl ?_
        have k_l1 := k_l1.ext s20.1
        have k_l2 := k_l2.ext s20.1
        refine SF_iceq 1817 281 dL_law_278 rfl rfl (fun c21 => ?_) (fun c21 => ?_)
        · have h := ite_t c21 h
          exact w_L_law_1817 hd hxL hxs (f_L_law_18 sL sX n) ih l1 l2 l3 g18 k_l1 k_l2 h
        · have h := ite_f c21 h
          refine SF_iconst (0 : Int32) 282 dL_law_281 rfl rfl ?_
          exact RT_b rfl rfl dL_law_282 h
      | 1, m593, h =>
        refine SF_tabIn 283 dL_law_33 c592 (by omega) (by rw [m593]; rfl) rfl ?_
        refine SF_aload_n 1 284 dL_law_283 rfl rfl rfl ?_
        refine SF_aload_n 0 285 dL_law_284 rfl rfl rfl ?_
        refine SF_iload_n 3 286 dL_law_285 rfl rfl rfl ?_
        refine SF_iconst (1 : Int32) 287 dL_law_286 rfl rfl ?_
        refine SF_iadd 288 dL_law_287 rfl ?_
        obtain ⟨i22, h⟩ := gdI_some h
        refine SF_sld 289 dL_law_288 (by rw [hxL]; exact i22) rfl ?_
        rw [hxs]
        obtain ⟨v23, g24, q25, h⟩ := bd_some h
        have s26 := w_X11_field (X := X) (Nat.le_refl 60) l1 (sX (l3 + (1 : Int32)).toNatClampNeg) g g24 v23 k_l1 q25
        refine SF_callVi 292 mi_X11_field ml_L_18 dL_law_289 (Nat.le_trans (by decide) hd) s26 k_l1.1 rfl rfl (Nat.le_of_ble_eq_true rfl) rfl ?_
        have k_l1 := k_l1.ext s26.1
        have k_l2 := k_l2.ext s26.1
        refine SF_aload_n 2 293 dL_law_292 rfl rfl rfl ?_
        refine SF_aload_n 0 294 dL_law_293 rfl rfl rfl ?_
        refine SF_iload_n 3 295 dL_law_294 rfl rfl rfl ?_
        refine SF_iconst (1 : Int32) 296 dL_law_295 rfl rfl ?_
        refine SF_iadd 297 dL_law_296 rfl ?_
        obtain ⟨i27, h⟩ := gdI_some h
        refine SF_sld 298 dL_law_297 (by rw [hxL]; exact i27) rfl ?_
        rw [hxs]
        obtain ⟨v28, g29, q30, h⟩ := bd_some h
        have s31 := w_X12_field (X := X) (Nat.le_refl 63) l2 (sX (l3 + (1 : Int32)).toNatClampNeg) g24 g29 v28 k_l2 q30
        refine SF_callVi 301 mi_X12_field ml_L_22 dL_law_298 (Nat.le_trans (by decide) hd) s31 k_l2.1 rfl rfl (Nat.le_of_ble_eq_true rfl) rfl ?_
        have k_l1 := k_l1.ext s31.1
        have k_l2 := k_l2.ext s31.1
        refine SF_iceq 1817 304 dL_law_301 rfl rfl (fun c32 => ?_) (fun c32 => ?_)
        · have h := ite_t c32 h
          exact w_L_law_1817 hd hxL hxs (f_L_law_18 sL sX n) ih l1 l2 l3 g29 k_l1 k_l2 h
        · have h := ite_f c32 h
          refine SF_iconst (0 : Int32) 305 dL_law_304 rfl rfl ?_
          exact RT_b rfl rfl dL_law_305 h
      | 2, m593, h =>
        refine SF_tabIn 306 dL_law_33 c592 (by omega) (by rw [m593]; rfl) rfl ?_
        refine SF_aload_n 1 307 dL_law_306 rfl rfl rfl ?_
        refine SF_aload_n 0 308 dL_law_307 rfl rfl rfl ?_
        refine SF_iload_n 3 309 dL_law_308 rfl rfl rfl ?_
        refine SF_iconst (1 : Int32) 310 dL_law_309 rfl rfl ?_
        refine SF_iadd 311 dL_law_310 rfl ?_
        obtain ⟨i33, h⟩ := gdI_some h
        refine SF_sld 312 dL_law_311 (by rw [hxL]; exact i33) rfl ?_
        rw [hxs]
        obtain ⟨v34, g35, q36, h⟩ := bd_some h
        have s37 := w_X11_fault (X := X) (Nat.le_refl 0) l1 (sX (l3 + (1 : Int32)).toNatClampNeg) g g35 v34 k_l1 q36
        refine SF_callVi 315 mi_X11_fault ml_L_23 dL_law_312 (Nat.le_trans (by decide) hd) s37 k_l1.1 rfl rfl (Nat.le_of_ble_eq_true rfl) rfl ?_
        have k_l1 := k_l1.ext s37.1
        have k_l2 := k_l2.ext s37.1
        refine SF_aload_n 2 316 dL_law_315 rfl rfl rfl ?_
        refine SF_aload_n 0 317 dL_law_316 rfl rfl rfl ?_
        refine SF_iload_n 3 318 dL_law_317 rfl rfl rfl ?_
        refine SF_iconst (1 : Int32) 319 dL_law_318 rfl rfl ?_
        refine SF_iadd 320 dL_law_319 rfl ?_
        obtain ⟨i38, h⟩ := gdI_some h
        refine SF_sld 321 dL_law_320 (by rw [hxL]; exact i38) rfl ?_
        rw [hxs]
        obtain ⟨v39, g40, q41, h⟩ := bd_some h
        have s42 := w_X12_fault (X := X) (Nat.le_refl 0) l2 (sX (l3 + (1 : Int32)).toNatClampNeg) g35 g40 v39 k_l2 q41
        refine SF_callVi 324 mi_X12_fault ml_L_26 dL_law_321 (Nat.le_trans (by decide) hd) s42 k_l2.1 rfl rfl (Nat.le_of_ble_eq_true rfl) rfl ?_
        have k_l1 := k_l1.ext s42.1
        have k_l2 := k_l2.ext s42.1
        refine SF_iceq 1817 327 dL_law_324 rfl rfl (fun c43 => ?_) (fun c43 => ?_)
        · have h := ite_t c43 h
          exact w_L_law_1817 hd hxL hxs (f_L_law_18 sL sX n) ih l1 l2 l3 g40 k_l1 k_l2 h
        · have h := ite_f c43 h
          refine SF_iconst (0 : Int32) 328 dL_law_327 rfl rfl ?_
          exact RT_b rfl rfl dL_law_328 h
      | 3, m593, h =>
        refine SF_tabIn 329 dL_law_33 c592 (by omega) (by rw [m593]; rfl) rfl ?_
        refine SF_aload_n 1 330 dL_law_329 rfl rfl rfl ?_
        refine SF_aload_n 0 331 dL_law_330 rfl rfl rfl ?_
        refine SF_iload_n 3 332 dL_law_331 rfl rfl rfl ?_
        refine SF_iconst (1 : Int32) 333 dL_law_332 rfl rfl ?_
        refine SF_iadd 334 dL_law_333 rfl ?_
        obtain ⟨i44, h⟩ := gdI_some h
        refine SF_sld 335 dL_law_334 (by rw [hxL]; exact i44) rfl ?_
        rw [hxs]
        refine SF_aload_n 0 336 dL_law_335 rfl rfl rfl ?_
        refine SF_iload_n 3 337 dL_law_336 rfl rfl rfl ?_
        refine SF_iconst (2 : Int32) 338 dL_law_337 rfl rfl ?_
        refine SF_iadd 339 dL_law_338 rfl ?_
        obtain ⟨i45, h⟩ := gdI_some h
        refine SF_sld 340 dL_law_339 (by rw [hxL]; exact i45) rfl ?_
        rw [hxs]
        obtain ⟨v46, g47, q48, h⟩ := bd_some h
        have s49 := w_X11_cell (X := X) (Nat.le_refl 2) l1 (sX (l3 + (1 : Int32)).toNatClampNeg) (sX (l3 + (2 : Int32)).toNatClampNeg) g g47 v46 k_l1 q48
        refine SF_callVi 343 mi_X11_cell ml_L_27 dL_law_340 (Nat.le_trans (by decide) hd) s49 k_l1.1 rfl rfl (Nat.le_of_ble_eq_true rfl) rfl ?_
        have k_l1 := k_l1.ext s49.1
        have k_l2 := k_l2.ext s49.1
        refine SF_aload_n 2 344 dL_law_343 rfl rfl rfl ?_
        refine SF_aload_n 0 345 dL_law_344 rfl rfl rfl ?_
        refine SF_iload_n 3 346 dL_law_345 rfl rfl rfl ?_
        refine SF_iconst (1 : Int32) 347 dL_law_346 rfl rfl ?_
        refine SF_iadd 348 dL_law_347 rfl ?_
        obtain ⟨i50, h⟩ := gdI_some h
        refine SF_sld 349 dL_law_348 (by rw [hxL]; exact i50) rfl ?_
        rw [hxs]
        refine SF_aload_n 0 350 dL_law_349 rfl rfl rfl ?_
        refine SF_iload_n 3 351 dL_law_350 rfl rfl rfl ?_
        refine SF_iconst (2 : Int32) 352 dL_law_351 rfl rfl ?_
        refine SF_iadd 353 dL_law_352 rfl ?_
        obtain ⟨i51, h⟩ := gdI_some h
        refine SF_sld 354 dL_law_353 (by rw [hxL]; exact i51) rfl ?_
        rw [hxs]
        obtain ⟨v52, g53, q54, h⟩ := bd_some h
        have s55 := w_X12_cell (X := X) (Nat.le_refl 2) l2 (sX (l3 + (1 : Int32)).toNatClampNeg) (sX (l3 + (2 : Int32)).toNatClampNeg) g47 g53 v52 k_l2 q54
        refine SF_callVi 357 mi_X12_cell ml_L_31 dL_law_354 (Nat.le_trans (by decide) hd) s55 k_l2.1 rfl rfl (Nat.le_of_ble_eq_true rfl) rfl ?_
        have k_l1 := k_l1.ext s55.1
        have k_l2 := k_l2.ext s55.1
        refine SF_iceq 1817 360 dL_law_357 rfl rfl (fun c56 => ?_) (fun c56 => ?_)
        · have h := ite_t c56 h
          exact w_L_law_1817 hd hxL hxs (f_L_law_18 sL sX n) ih l1 l2 l3 g53 k_l1 k_l2 h
        · have h := ite_f c56 h
          refine SF_iconst (0 : Int32) 361 dL_law_360 rfl rfl ?_
          exact RT_b rfl rfl dL_law_361 h
      | 4, m593, h =>
        refine SF_tabIn 362 dL_law_33 c592 (by omega) (by rw [m593]; rfl) rfl ?_
        refine SF_aload_n 1 363 dL_law_362 rfl rfl rfl ?_
        refine SF_aload_n 0 364 dL_law_363 rfl rfl rfl ?_
        refine SF_iload_n 3 365 dL_law_364 rfl rfl rfl ?_
        refine SF_iconst (1 : Int32) 366 dL_law_365 rfl rfl ?_
        refine SF_iadd 367 dL_law_366 rfl ?_
        obtain ⟨i57, h⟩ := gdI_some h
        refine SF_sld 368 dL_law_367 (by rw [hxL]; exact i57) rfl ?_
        rw [hxs]
        refine SF_aload_n 0 369 dL_law_368 rfl rfl rfl ?_
        refine SF_iload_n 3 370 dL_law_369 rfl rfl rfl ?_
        refine SF_iconst (2 : Int32) 371 dL_law_370 rfl rfl ?_
        refine SF_iadd 372 dL_law_371 rfl ?_
        obtain ⟨i58, h⟩ := gdI_some h
        refine SF_sld 373 dL_law_372 (by rw [hxL]; exact i58) rfl ?_
        rw [hxs]
        obtain ⟨v59, g60, q61, h⟩ := bd_some h
        have s62 := w_X11_pair (X := X) (Nat.le_refl 1) l1 (sX (l3 + (1 : Int32)).toNatClampNeg) (sX (l3 + (2 : Int32)).toNatClampNeg) g g60 v59 k_l1 q61
        refine SF_callVi 376 mi_X11_pair ml_L_32 dL_law_373 (Nat.le_trans (by decide) hd) s62 k_l1.1 rfl rfl (Nat.le_of_ble_eq_true rfl) rfl ?_
        have k_l1 := k_l1.ext s62.1
        have k_l2 := k_l2.ext s62.1
        refine SF_aload_n 2 377 dL_law_376 rfl rfl rfl ?_
        refine SF_aload_n 0 378 dL_law_377 rfl rfl rfl ?_
        refine SF_iload_n 3 379 dL_law_378 rfl rfl rfl ?_
        refine SF_iconst (1 : Int32) 380 dL_law_379 rfl rfl ?_
        refine SF_iadd 381 dL_law_380 rfl ?_
        obtain ⟨i63, h⟩ := gdI_some h
        refine SF_sld 382 dL_law_381 (by rw [hxL]; exact i63) rfl ?_
        rw [hxs]
        refine SF_aload_n 0 383 dL_law_382 rfl rfl rfl ?_
        refine SF_iload_n 3 384 dL_law_383 rfl rfl rfl ?_
        refine SF_iconst (2 : Int32) 385 dL_law_384 rfl rfl ?_
        refine SF_iadd 386 dL_law_385 rfl ?_
        obtain ⟨i64, h⟩ := gdI_some h
        refine SF_sld 387 dL_law_386 (by rw [hxL]; exact i64) rfl ?_
        rw [hxs]
        obtain ⟨v65, g66, q67, h⟩ := bd_some h
        have s68 := w_X12_pair (X := X) (Nat.le_refl 2) l2 (sX (l3 + (1 : Int32)).toNatClampNeg) (sX (l3 + (2 : Int32)).toNatClampNeg) g60 g66 v65 k_l2 q67
        refine SF_callVi 390 mi_X12_pair ml_L_35 dL_law_387 (Nat.le_trans (by decide) hd) s68 k_l2.1 rfl rfl (Nat.le_of_ble_eq_true rfl) rfl ?_
        have k_l1 := k_l1.ext s68.1
        have k_l2 := k_l2.ext s68.1
        refine SF_iceq 1817 393 dL_law_390 rfl rfl (fun c69 => ?_) (fun c69 => ?_)
        · have h := ite_t c69 h
          exact w_L_law_1817 hd hxL hxs (f_L_law_18 sL sX n) ih l1 l2 l3 g66 k_l1 k_l2 h
        · have h := ite_f c69 h
          refine SF_iconst (0 : Int32) 394 dL_law_393 rfl rfl ?_
          exact RT_b rfl rfl dL_law_394 h
      | 5, m593, h =>
        refine SF_tabIn 395 dL_law_33 c592 (by omega) (by rw [m593]; rfl) rfl ?_
        refine SF_aload_n 1 396 dL_law_395 rfl rfl rfl ?_
        refine SF_aload_n 0 397 dL_law_396 rfl rfl rfl ?_
        refine SF_iload_n 3 398 dL_law_397 rfl rfl rfl ?_
        refine SF_iconst (1 : Int32) 399 dL_law_398 rfl rfl ?_
        refine SF_iadd 400 dL_law_399 rfl ?_
        obtain ⟨i70, h⟩ := gdI_some h
        refine SF_sld 401 dL_law_400 (by rw [hxL]; exact i70) rfl ?_
        rw [hxs]
        refine SF_aload_n 0 402 dL_law_401 rfl rfl rfl ?_
        refine SF_iload_n 3 403 dL_law_402 rfl rfl rfl ?_
        refine SF_iconst (2 : Int32) 404 dL_law_403 rfl rfl ?_
        refine SF_iadd 405 dL_law_404 rfl ?_
        obtain ⟨i71, h⟩ := gdI_some h
        refine SF_sld 406 dL_law_405 (by rw [hxL]; exact i71) rfl ?_
        rw [hxs]
        refine SF_aload_n 0 407 dL_law_406 rfl rfl rfl ?_
        refine SF_iload_n 3 408 dL_law_407 rfl rfl rfl ?_
        refine SF_iconst (3 : Int32) 409 dL_law_408 rfl rfl ?_
        refine SF_iadd 410 dL_law_409 rfl ?_
        obtain ⟨i72, h⟩ := gdI_some h
        refine SF_sld 411 dL_law_410 (by rw [hxL]; exact i72) rfl ?_
        rw [hxs]
        obtain ⟨v73, g74, q75, h⟩ := bd_some h
        have s76 := w_X11_why (X := X) (Nat.le_refl 6) l1 (sX (l3 + (1 : Int32)).toNatClampNeg) (sX (l3 + (2 : Int32)).toNatClampNeg) (sX (l3 + (3 : Int32)).toNatClampNeg) g g74 v73 k_l1 q75
        refine SF_callVi 414 mi_X11_why ml_L_36 dL_law_411 (Nat.le_trans (by decide) hd) s76 k_l1.1 rfl rfl (Nat.le_of_ble_eq_true rfl) rfl ?_
        have k_l1 := k_l1.ext s76.1
        have k_l2 := k_l2.ext s76.1
        refine SF_aload_n 2 415 dL_law_414 rfl rfl rfl ?_
        refine SF_aload_n 0 416 dL_law_415 rfl rfl rfl ?_
        refine SF_iload_n 3 417 dL_law_416 rfl rfl rfl ?_
        refine SF_iconst (1 : Int32) 418 dL_law_417 rfl rfl ?_
        refine SF_iadd 419 dL_law_418 rfl ?_
        obtain ⟨i77, h⟩ := gdI_some h
        refine SF_sld 420 dL_law_419 (by rw [hxL]; exact i77) rfl ?_
        rw [hxs]
        refine SF_aload_n 0 421 dL_law_420 rfl rfl rfl ?_
        refine SF_iload_n 3 422 dL_law_421 rfl rfl rfl ?_
        refine SF_iconst (2 : Int32) 423 dL_law_422 rfl rfl ?_
        refine SF_iadd 424 dL_law_423 rfl ?_
        obtain ⟨i78, h⟩ := gdI_some h
        refine SF_sld 425 dL_law_424 (by rw [hxL]; exact i78) rfl ?_
        rw [hxs]
        refine SF_aload_n 0 426 dL_law_425 rfl rfl rfl ?_
        refine SF_iload_n 3 427 dL_law_426 rfl rfl rfl ?_
        refine SF_iconst (3 : Int32) 428 dL_law_427 rfl rfl ?_
        refine SF_iadd 429 dL_law_428 rfl ?_
        obtain ⟨i79, h⟩ := gdI_some h
        refine SF_sld 430 dL_law_429 (by rw [hxL]; exact i79) rfl ?_
        rw [hxs]
        obtain ⟨v80, g81, q82, h⟩ := bd_some h
        have s83 := w_X12_why (X := X) (Nat.le_refl 6) l2 (sX (l3 + (1 : Int32)).toNatClampNeg) (sX (l3 + (2 : Int32)).toNatClampNeg) (sX (l3 + (3 : Int32)).toNatClampNeg) g74 g81 v80 k_l2 q82
        refine SF_callVi 433 mi_X12_why ml_L_40 dL_law_430 (Nat.le_trans (by decide) hd) s83 k_l2.1 rfl rfl (Nat.le_of_ble_eq_true rfl) rfl ?_
        have k_l1 := k_l1.ext s83.1
        have k_l2 := k_l2.ext s83.1
        refine SF_iceq 1817 436 dL_law_433 rfl rfl (fun c84 => ?_) (fun c84 => ?_)
        · have h := ite_t c84 h
          exact w_L_law_1817 hd hxL hxs (f_L_law_18 sL sX n) ih l1 l2 l3 g81 k_l1 k_l2 h
        · have h := ite_f c84 h
          refine SF_iconst (0 : Int32) 437 dL_law_436 rfl rfl ?_
          exact RT_b rfl rfl dL_law_437 h
      | 6, m593, h =>
        refine SF_tabIn 438 dL_law_33 c592 (by omega) (by rw [m593]; rfl) rfl ?_
        refine SF_aload_n 1 439 dL_law_438 rfl rfl rfl ?_
        refine SF_aload_n 0 440 dL_law_439 rfl rfl rfl ?_
        refine SF_iload_n 3 441 dL_law_440 rfl rfl rfl ?_
        refine SF_iconst (1 : Int32) 442 dL_law_441 rfl rfl ?_
        refine SF_iadd 443 dL_law_442 rfl ?_
        obtain ⟨i85, h⟩ := gdI_some h
        refine SF_sld 444 dL_law_443 (by rw [hxL]; exact i85) rfl ?_
        rw [hxs]
        refine SF_aload_n 0 445 dL_law_444 rfl rfl rfl ?_
        refine SF_iload_n 3 446 dL_law_445 rfl rfl rfl ?_
        refine SF_iconst (2 : Int32) 447 dL_law_446 rfl rfl ?_
        refine SF_iadd 448 dL_law_447 rfl ?_
        obtain ⟨i86, h⟩ := gdI_some h
        refine SF_sld 449 dL_law_448 (by rw [hxL]; exact i86) rfl ?_
        rw [hxs]
        refine SF_aload_n 0 450 dL_law_449 rfl rfl rfl ?_
        refine SF_iload_n 3 451 dL_law_450 rfl rfl rfl ?_
        refine SF_iconst (3 : Int32) 452 dL_law_451 rfl rfl ?_
        refine SF_iadd 453 dL_law_452 rfl ?_
        obtain ⟨i87, h⟩ := gdI_some h
        refine SF_sld 454 dL_law_453 (by rw [hxL]; exact i87) rfl ?_
        rw [hxs]
        refine SF_aload_n 0 455 dL_law_454 rfl rfl rfl ?_
        refine SF_iload_n 3 456 dL_law_455 rfl rfl rfl ?_
        refine SF_iconst (4 : Int32) 457 dL_law_456 rfl rfl ?_
        refine SF_iadd 458 dL_law_457 rfl ?_
        obtain ⟨i88, h⟩ := gdI_some h
        refine SF_sld 459 dL_law_458 (by rw [hxL]; exact i88) rfl ?_
        rw [hxs]
        obtain ⟨v89, g90, q91, h⟩ := bd_some h
        have s92 := w_X11_by (X := X) (Nat.le_refl 6) l1 (sX (l3 + (1 : Int32)).toNatClampNeg) (sX (l3 + (2 : Int32)).toNatClampNeg) (sX (l3 + (3 : Int32)).toNatClampNeg) (sX (l3 + (4 : Int32)).toNatClampNeg) g g90 v89 k_l1 q91
        refine SF_callVi 462 mi_X11_by ml_L_41 dL_law_459 (Nat.le_trans (by decide) hd) s92 k_l1.1 rfl rfl (Nat.le_of_ble_eq_true rfl) rfl ?_
        have k_l1 := k_l1.ext s92.1
        have k_l2 := k_l2.ext s92.1
        refine SF_aload_n 2 463 dL_law_462 rfl rfl rfl ?_
        refine SF_aload_n 0 464 dL_law_463 rfl rfl rfl ?_
        refine SF_iload_n 3 465 dL_law_464 rfl rfl rfl ?_
        refine SF_iconst (1 : Int32) 466 dL_law_465 rfl rfl ?_
        refine SF_iadd 467 dL_law_466 rfl ?_
        obtain ⟨i93, h⟩ := gdI_some h
        refine SF_sld 468 dL_law_467 (by rw [hxL]; exact i93) rfl ?_
        rw [hxs]
        refine SF_aload_n 0 469 dL_law_468 rfl rfl rfl ?_
        refine SF_iload_n 3 470 dL_law_469 rfl rfl rfl ?_
        refine SF_iconst (2 : Int32) 471 dL_law_470 rfl rfl ?_
        refine SF_iadd 472 dL_law_471 rfl ?_
        obtain ⟨i94, h⟩ := gdI_some h
        refine SF_sld 473 dL_law_472 (by rw [hxL]; exact i94) rfl ?_
        rw [hxs]
        refine SF_aload_n 0 474 dL_law_473 rfl rfl rfl ?_
        refine SF_iload_n 3 475 dL_law_474 rfl rfl rfl ?_
        refine SF_iconst (3 : Int32) 476 dL_law_475 rfl rfl ?_
        refine SF_iadd 477 dL_law_476 rfl ?_
        obtain ⟨i95, h⟩ := gdI_some h
        refine SF_sld 478 dL_law_477 (by rw [hxL]; exact i95) rfl ?_
        rw [hxs]
        refine SF_aload_n 0 479 dL_law_478 rfl rfl rfl ?_
        refine SF_iload_n 3 480 dL_law_479 rfl rfl rfl ?_
        refine SF_iconst (4 : Int32) 481 dL_law_480 rfl rfl ?_
        refine SF_iadd 482 dL_law_481 rfl ?_
        obtain ⟨i96, h⟩ := gdI_some h
        refine SF_sld 483 dL_law_482 (by rw [hxL]; exact i96) rfl ?_
        rw [hxs]
        obtain ⟨v97, g98, q99, h⟩ := bd_some h
        have s100 := w_X12_by (X := X) (Nat.le_refl 6) l2 (sX (l3 + (1 : Int32)).toNatClampNeg) (sX (l3 + (2 : Int32)).toNatClampNeg) (sX (l3 + (3 : Int32)).toNatClampNeg) (sX (l3 + (4 : Int32)).toNatClampNeg) g90 g98 v97 k_l2 q99
        refine SF_callVi 486 mi_X12_by ml_L_45 dL_law_483 (Nat.le_trans (by decide) hd) s100 k_l2.1 rfl rfl (Nat.le_of_ble_eq_true rfl) rfl ?_
        have k_l1 := k_l1.ext s100.1
        have k_l2 := k_l2.ext s100.1
        refine SF_iceq 1817 489 dL_law_486 rfl rfl (fun c101 => ?_) (fun c101 => ?_)
        · have h := ite_t c101 h
          exact w_L_law_1817 hd hxL hxs (f_L_law_18 sL sX n) ih l1 l2 l3 g98 k_l1 k_l2 h
        · have h := ite_f c101 h
          refine SF_iconst (0 : Int32) 490 dL_law_489 rfl rfl ?_
          exact RT_b rfl rfl dL_law_490 h
      | 7, m593, h =>
        refine SF_tabIn 491 dL_law_33 c592 (by omega) (by rw [m593]; rfl) rfl ?_
        refine SF_aload_n 1 492 dL_law_491 rfl rfl rfl ?_
        refine SF_aload_n 0 493 dL_law_492 rfl rfl rfl ?_
        refine SF_iload_n 3 494 dL_law_493 rfl rfl rfl ?_
        refine SF_iconst (1 : Int32) 495 dL_law_494 rfl rfl ?_
        refine SF_iadd 496 dL_law_495 rfl ?_
        obtain ⟨i102, h⟩ := gdI_some h
        refine SF_sld 497 dL_law_496 (by rw [hxL]; exact i102) rfl ?_
        rw [hxs]
        refine SF_aload_n 0 498 dL_law_497 rfl rfl rfl ?_
        refine SF_iload_n 3 499 dL_law_498 rfl rfl rfl ?_
        refine SF_iconst (2 : Int32) 500 dL_law_499 rfl rfl ?_
        refine SF_iadd 501 dL_law_500 rfl ?_
        obtain ⟨i103, h⟩ := gdI_some h
        refine SF_sld 502 dL_law_501 (by rw [hxL]; exact i103) rfl ?_
        rw [hxs]
        refine SF_aload_n 0 503 dL_law_502 rfl rfl rfl ?_
        refine SF_iload_n 3 504 dL_law_503 rfl rfl rfl ?_
        refine SF_iconst (3 : Int32) 505 dL_law_504 rfl rfl ?_
        refine SF_iadd 506 dL_law_505 rfl ?_
        obtain ⟨i104, h⟩ := gdI_some h
        refine SF_sld 507 dL_law_506 (by rw [hxL]; exact i104) rfl ?_
        rw [hxs]
        obtain ⟨v105, g106, q107, h⟩ := bd_some h
        have s108 := w_X11_lead (X := X) (Nat.le_refl 6) l1 (sX (l3 + (1 : Int32)).toNatClampNeg) (sX (l3 + (2 : Int32)).toNatClampNeg) (sX (l3 + (3 : Int32)).toNatClampNeg) g g106 v105 k_l1 q107
        refine SF_callVi 510 mi_X11_lead ml_L_46 dL_law_507 (Nat.le_trans (by decide) hd) s108 k_l1.1 rfl rfl (Nat.le_of_ble_eq_true rfl) rfl ?_
        have k_l1 := k_l1.ext s108.1
        have k_l2 := k_l2.ext s108.1
        refine SF_aload_n 2 511 dL_law_510 rfl rfl rfl ?_
        refine SF_aload_n 0 512 dL_law_511 rfl rfl rfl ?_
        refine SF_iload_n 3 513 dL_law_512 rfl rfl rfl ?_
        refine SF_iconst (1 : Int32) 514 dL_law_513 rfl rfl ?_
        refine SF_iadd 515 dL_law_514 rfl ?_
        obtain ⟨i109, h⟩ := gdI_some h
        refine SF_sld 516 dL_law_515 (by rw [hxL]; exact i109) rfl ?_
        rw [hxs]
        refine SF_aload_n 0 517 dL_law_516 rfl rfl rfl ?_
        refine SF_iload_n 3 518 dL_law_517 rfl rfl rfl ?_
        refine SF_iconst (2 : Int32) 519 dL_law_518 rfl rfl ?_
        refine SF_iadd 520 dL_law_519 rfl ?_
        obtain ⟨i110, h⟩ := gdI_some h
        refine SF_sld 521 dL_law_520 (by rw [hxL]; exact i110) rfl ?_
        rw [hxs]
        refine SF_aload_n 0 522 dL_law_521 rfl rfl rfl ?_
        refine SF_iload_n 3 523 dL_law_522 rfl rfl rfl ?_
        refine SF_iconst (3 : Int32) 524 dL_law_523 rfl rfl ?_
        refine SF_iadd 525 dL_law_524 rfl ?_
        obtain ⟨i111, h⟩ := gdI_some h
        refine SF_sld 526 dL_law_525 (by rw [hxL]; exact i111) rfl ?_
        rw [hxs]
        obtain ⟨v112, g113, q114, h⟩ := bd_some h
        have s115 := w_X12_lead (X := X) (Nat.le_refl 6) l2 (sX (l3 + (1 : Int32)).toNatClampNeg) (sX (l3 + (2 : Int32)).toNatClampNeg) (sX (l3 + (3 : Int32)).toNatClampNeg) g106 g113 v112 k_l2 q114
        refine SF_callVi 529 mi_X12_lead ml_L_49 dL_law_526 (Nat.le_trans (by decide) hd) s115 k_l2.1 rfl rfl (Nat.le_of_ble_eq_true rfl) rfl ?_
        have k_l1 := k_l1.ext s115.1
        have k_l2 := k_l2.ext s115.1
        refine SF_iceq 1817 532 dL_law_529 rfl rfl (fun c116 => ?_) (fun c116 => ?_)
        · have h := ite_t c116 h
          exact w_L_law_1817 hd hxL hxs (f_L_law_18 sL sX n) ih l1 l2 l3 g113 k_l1 k_l2 h
        · have h := ite_f c116 h
          refine SF_iconst (0 : Int32) 533 dL_law_532 rfl rfl ?_
          exact RT_b rfl rfl dL_law_533 h
      | 8, m593, h =>
        refine SF_tabIn 534 dL_law_33 c592 (by omega) (by rw [m593]; rfl) rfl ?_
        refine SF_aload_n 1 535 dL_law_534 rfl rfl rfl ?_
        refine SF_aload_n 0 536 dL_law_535 rfl rfl rfl ?_
        refine SF_iload_n 3 537 dL_law_536 rfl rfl rfl ?_
        refine SF_iconst (1 : Int32) 538 dL_law_537 rfl rfl ?_
        refine SF_iadd 539 dL_law_538 rfl ?_
        obtain ⟨i117, h⟩ := gdI_some h
        refine SF_sld 540 dL_law_539 (by rw [hxL]; exact i117) rfl ?_
        rw [hxs]
        obtain ⟨v118, g119, q120, h⟩ := bd_some h
        have s121 := w_X11_wall (X := X) (Nat.le_refl 5) l1 (sX (l3 + (1 : Int32)).toNatClampNeg) g g119 v118 k_l1 q120
        refine SF_callVi 543 mi_X11_wall ml_L_50 dL_law_540 (Nat.le_trans (by decide) hd) s121 k_l1.1 rfl rfl (Nat.le_of_ble_eq_true rfl) rfl ?_
        have k_l1 := k_l1.ext s121.1
        have k_l2 := k_l2.ext s121.1
        refine SF_aload_n 2 544 dL_law_543 rfl rfl rfl ?_
        refine SF_aload_n 0 545 dL_law_544 rfl rfl rfl ?_
        refine SF_iload_n 3 546 dL_law_545 rfl rfl rfl ?_
        refine SF_iconst (1 : Int32) 547 dL_law_546 rfl rfl ?_
        refine SF_iadd 548 dL_law_547 rfl ?_
        obtain ⟨i122, h⟩ := gdI_some h
        refine SF_sld 549 dL_law_548 (by rw [hxL]; exact i122) rfl ?_
        rw [hxs]
        obtain ⟨v123, g124, q125, h⟩ := bd_some h
        have s126 := w_X12_wall (X := X) (Nat.le_refl 3) l2 (sX (l3 + (1 : Int32)).toNatClampNeg) g119 g124 v123 k_l2 q125
        refine SF_callVi 552 mi_X12_wall ml_L_53 dL_law_549 (Nat.le_trans (by decide) hd) s126 k_l2.1 rfl rfl (Nat.le_of_ble_eq_true rfl) rfl ?_
        have k_l1 := k_l1.ext s126.1
        have k_l2 := k_l2.ext s126.1
        refine SF_iceq 1817 555 dL_law_552 rfl rfl (fun c127 => ?_) (fun c127 => ?_)
        · have h := ite_t c127 h
          exact w_L_law_1817 hd hxL hxs (f_L_law_18 sL sX n) ih l1 l2 l3 g124 k_l1 k_l2 h
        · have h := ite_f c127 h
          refine SF_iconst (0 : Int32) 556 dL_law_555 rfl rfl ?_
          exact RT_b rfl rfl dL_law_556 h
      | 9, m593, h =>
        refine SF_tabIn 557 dL_law_33 c592 (by omega) (by rw [m593]; rfl) rfl ?_
        refine SF_aload_n 1 558 dL_law_557 rfl rfl rfl ?_
        refine SF_aload_n 0 559 dL_law_558 rfl rfl rfl ?_
        refine SF_iload_n 3 560 dL_law_559 rfl rfl rfl ?_
        refine SF_iconst (1 : Int32) 561 dL_law_560 rfl rfl ?_
        refine SF_iadd 562 dL_law_561 rfl ?_
        obtain ⟨i128, h⟩ := gdI_some h
        refine SF_sld 563 dL_law_562 (by rw [hxL]; exact i128) rfl ?_
        rw [hxs]
        refine SF_aload_n 0 564 dL_law_563 rfl rfl rfl ?_
        refine SF_iload_n 3 565 dL_law_564 rfl rfl rfl ?_
        refine SF_iconst (2 : Int32) 566 dL_law_565 rfl rfl ?_
        refine SF_iadd 567 dL_law_566 rfl ?_
        obtain ⟨i129, h⟩ := gdI_some h
        refine SF_sld 568 dL_law_567 (by rw [hxL]; exact i129) rfl ?_
        rw [hxs]
        refine SF_aload_n 0 569 dL_law_568 rfl rfl rfl ?_
        refine SF_iload_n 3 570 dL_law_569 rfl rfl rfl ?_
        refine SF_iconst (3 : Int32) 571 dL_law_570 rfl rfl ?_
        refine SF_iadd 572 dL_law_571 rfl ?_
        obtain ⟨i130, h⟩ := gdI_some h
        refine SF_sld 573 dL_law_572 (by rw [hxL]; exact i130) rfl ?_
        rw [hxs]
        obtain ⟨v131, g132, q133, h⟩ := bd_some h
        have s134 := w_X11_put (X := X) (Nat.le_refl 5) l1 (sX (l3 + (1 : Int32)).toNatClampNeg) (sX (l3 + (2 : Int32)).toNatClampNeg) (sX (l3 + (3 : Int32)).toNatClampNeg) g g132 v131 k_l1 q133
        refine SF_callVi 576 mi_X11_put ml_L_54 dL_law_573 (Nat.le_trans (by decide) hd) s134 k_l1.1 rfl rfl (Nat.le_of_ble_eq_true rfl) rfl ?_
        have k_l1 := k_l1.ext s134.1
        have k_l2 := k_l2.ext s134.1
        refine SF_aload_n 2 577 dL_law_576 rfl rfl rfl ?_
        refine SF_aload_n 0 578 dL_law_577 rfl rfl rfl ?_
        refine SF_iload_n 3 579 dL_law_578 rfl rfl rfl ?_
        refine SF_iconst (1 : Int32) 580 dL_law_579 rfl rfl ?_
        refine SF_iadd 581 dL_law_580 rfl ?_
        obtain ⟨i135, h⟩ := gdI_some h
        refine SF_sld 582 dL_law_581 (by rw [hxL]; exact i135) rfl ?_
        rw [hxs]
        refine SF_aload_n 0 583 dL_law_582 rfl rfl rfl ?_
        refine SF_iload_n 3 584 dL_law_583 rfl rfl rfl ?_
        refine SF_iconst (2 : Int32) 585 dL_law_584 rfl rfl ?_
        refine SF_iadd 586 dL_law_585 rfl ?_
        obtain ⟨i136, h⟩ := gdI_some h
        refine SF_sld 587 dL_law_586 (by rw [hxL]; exact i136) rfl ?_
        rw [hxs]
        refine SF_aload_n 0 588 dL_law_587 rfl rfl rfl ?_
        refine SF_iload_n 3 589 dL_law_588 rfl rfl rfl ?_
        refine SF_iconst (3 : Int32) 590 dL_law_589 rfl rfl ?_
        refine SF_iadd 591 dL_law_590 rfl ?_
        obtain ⟨i137, h⟩ := gdI_some h
        refine SF_sld 592 dL_law_591 (by rw [hxL]; exact i137) rfl ?_
        rw [hxs]
        obtain ⟨v138, g139, q140, h⟩ := bd_some h
        have s141 := w_X12_put (X := X) (Nat.le_refl 2) l2 (sX (l3 + (1 : Int32)).toNatClampNeg) (sX (l3 + (2 : Int32)).toNatClampNeg) (sX (l3 + (3 : Int32)).toNatClampNeg) g132 g139 v138 k_l2 q140
        refine SF_callVi 595 mi_X12_put ml_L_57 dL_law_592 (Nat.le_trans (by decide) hd) s141 k_l2.1 rfl rfl (Nat.le_of_ble_eq_true rfl) rfl ?_
        have k_l1 := k_l1.ext s141.1
        have k_l2 := k_l2.ext s141.1
        refine SF_iceq 1817 598 dL_law_595 rfl rfl (fun c142 => ?_) (fun c142 => ?_)
        · have h := ite_t c142 h
          exact w_L_law_1817 hd hxL hxs (f_L_law_18 sL sX n) ih l1 l2 l3 g139 k_l1 k_l2 h
        · have h := ite_f c142 h
          refine SF_iconst (0 : Int32) 599 dL_law_598 rfl rfl ?_
          exact RT_b rfl rfl dL_law_599 h
      | 10, m593, h =>
        refine SF_tabIn 600 dL_law_33 c592 (by omega) (by rw [m593]; rfl) rfl ?_
        refine SF_aload_n 1 601 dL_law_600 rfl rfl rfl ?_
        refine SF_aload_n 0 602 dL_law_601 rfl rfl rfl ?_
        refine SF_iload_n 3 603 dL_law_602 rfl rfl rfl ?_
        refine SF_iconst (1 : Int32) 604 dL_law_603 rfl rfl ?_
        refine SF_iadd 605 dL_law_604 rfl ?_
        obtain ⟨i143, h⟩ := gdI_some h
        refine SF_sld 606 dL_law_605 (by rw [hxL]; exact i143) rfl ?_
        rw [hxs]
        refine SF_aload_n 0 607 dL_law_606 rfl rfl rfl ?_
        refine SF_iload_n 3 608 dL_law_607 rfl rfl rfl ?_
        refine SF_iconst (2 : Int32) 609 dL_law_608 rfl rfl ?_
        refine SF_iadd 610 dL_law_609 rfl ?_
        obtain ⟨i144, h⟩ := gdI_some h
        refine SF_sld 611 dL_law_610 (by rw [hxL]; exact i144) rfl ?_
        rw [hxs]
        obtain ⟨v145, g146, q147, h⟩ := bd_some h
        have s148 := w_X11_mood (X := X) (Nat.le_refl 5) l1 (sX (l3 + (1 : Int32)).toNatClampNeg) (sX (l3 + (2 : Int32)).toNatClampNeg) g g146 v145 k_l1 q147
        refine SF_callVi 614 mi_X11_mood ml_L_58 dL_law_611 (Nat.le_trans (by decide) hd) s148 k_l1.1 rfl rfl (Nat.le_of_ble_eq_true rfl) rfl ?_
        have k_l1 := k_l1.ext s148.1
        have k_l2 := k_l2.ext s148.1
        refine SF_aload_n 2 615 dL_law_614 rfl rfl rfl ?_
        refine SF_aload_n 0 616 dL_law_615 rfl rfl rfl ?_
        refine SF_iload_n 3 617 dL_law_616 rfl rfl rfl ?_
        refine SF_iconst (1 : Int32) 618 dL_law_617 rfl rfl ?_
        refine SF_iadd 619 dL_law_618 rfl ?_
        obtain ⟨i149, h⟩ := gdI_some h
        refine SF_sld 620 dL_law_619 (by rw [hxL]; exact i149) rfl ?_
        rw [hxs]
        refine SF_aload_n 0 621 dL_law_620 rfl rfl rfl ?_
        refine SF_iload_n 3 622 dL_law_621 rfl rfl rfl ?_
        refine SF_iconst (2 : Int32) 623 dL_law_622 rfl rfl ?_
        refine SF_iadd 624 dL_law_623 rfl ?_
        obtain ⟨i150, h⟩ := gdI_some h
        refine SF_sld 625 dL_law_624 (by rw [hxL]; exact i150) rfl ?_
        rw [hxs]
        obtain ⟨v151, g152, q153, h⟩ := bd_some h
        have s154 := w_X12_mood (X := X) (Nat.le_refl 2) l2 (sX (l3 + (1 : Int32)).toNatClampNeg) (sX (l3 + (2 : Int32)).toNatClampNeg) g146 g152 v151 k_l2 q153
        refine SF_callVi 628 mi_X12_mood ml_L_61 dL_law_625 (Nat.le_trans (by decide) hd) s154 k_l2.1 rfl rfl (Nat.le_of_ble_eq_true rfl) rfl ?_
        have k_l1 := k_l1.ext s154.1
        have k_l2 := k_l2.ext s154.1
        refine SF_iceq 1817 631 dL_law_628 rfl rfl (fun c155 => ?_) (fun c155 => ?_)
        · have h := ite_t c155 h
          exact w_L_law_1817 hd hxL hxs (f_L_law_18 sL sX n) ih l1 l2 l3 g152 k_l1 k_l2 h
        · have h := ite_f c155 h
          refine SF_iconst (0 : Int32) 632 dL_law_631 rfl rfl ?_
          exact RT_b rfl rfl dL_law_632 h
      | 11, m593, h =>
        refine SF_tabIn 633 dL_law_33 c592 (by omega) (by rw [m593]; rfl) rfl ?_
        refine SF_aload_n 1 634 dL_law_633 rfl rfl rfl ?_
        refine SF_aload_n 0 635 dL_law_634 rfl rfl rfl ?_
        refine SF_iload_n 3 636 dL_law_635 rfl rfl rfl ?_
        refine SF_iconst (1 : Int32) 637 dL_law_636 rfl rfl ?_
        refine SF_iadd 638 dL_law_637 rfl ?_
        obtain ⟨i156, h⟩ := gdI_some h
        refine SF_sld 639 dL_law_638 (by rw [hxL]; exact i156) rfl ?_
        rw [hxs]
        obtain ⟨v157, g158, q159, h⟩ := bd_some h
        have s160 := w_X11_undo (X := X) (Nat.le_refl 3) l1 (sX (l3 + (1 : Int32)).toNatClampNeg) g g158 v157 k_l1 q159
        refine SF_callVi 642 mi_X11_undo ml_L_62 dL_law_639 (Nat.le_trans (by decide) hd) s160 k_l1.1 rfl rfl (Nat.le_of_ble_eq_true rfl) rfl ?_
        have k_l1 := k_l1.ext s160.1
        have k_l2 := k_l2.ext s160.1
        refine SF_aload_n 2 643 dL_law_642 rfl rfl rfl ?_
        refine SF_aload_n 0 644 dL_law_643 rfl rfl rfl ?_
        refine SF_iload_n 3 645 dL_law_644 rfl rfl rfl ?_
        refine SF_iconst (1 : Int32) 646 dL_law_645 rfl rfl ?_
        refine SF_iadd 647 dL_law_646 rfl ?_
        obtain ⟨i161, h⟩ := gdI_some h
        refine SF_sld 648 dL_law_647 (by rw [hxL]; exact i161) rfl ?_
        rw [hxs]
        obtain ⟨v162, g163, q164, h⟩ := bd_some h
        have s165 := w_X12_undo (X := X) (Nat.le_refl 1) l2 (sX (l3 + (1 : Int32)).toNatClampNeg) g158 g163 v162 k_l2 q164
        refine SF_callVi 651 mi_X12_undo ml_L_65 dL_law_648 (Nat.le_trans (by decide) hd) s165 k_l2.1 rfl rfl (Nat.le_of_ble_eq_true rfl) rfl ?_
        have k_l1 := k_l1.ext s165.1
        have k_l2 := k_l2.ext s165.1
        refine SF_iceq 1817 654 dL_law_651 rfl rfl (fun c166 => ?_) (fun c166 => ?_)
        · have h := ite_t c166 h
          exact w_L_law_1817 hd hxL hxs (f_L_law_18 sL sX n) ih l1 l2 l3 g163 k_l1 k_l2 h
        · have h := ite_f c166 h
          refine SF_iconst (0 : Int32) 655 dL_law_654 rfl rfl ?_
          exact RT_b rfl rfl dL_law_655 h
      | 12, m593, h =>
        refine SF_tabIn 656 dL_law_33 c592 (by omega) (by rw [m593]; rfl) rfl ?_
        refine SF_aload_n 1 657 dL_law_656 rfl rfl rfl ?_
        refine SF_aload_n 0 658 dL_law_657 rfl rfl rfl ?_
        refine SF_iload_n 3 659 dL_law_658 rfl rfl rfl ?_
        refine SF_iconst (1 : Int32) 660 dL_law_659 rfl rfl ?_
        refine SF_iadd 661 dL_law_660 rfl ?_
        obtain ⟨i167, h⟩ := gdI_some h
        refine SF_sld 662 dL_law_661 (by rw [hxL]; exact i167) rfl ?_
        rw [hxs]
        refine SF_aload_n 0 663 dL_law_662 rfl rfl rfl ?_
        refine SF_iload_n 3 664 dL_law_663 rfl rfl rfl ?_
        refine SF_iconst (2 : Int32) 665 dL_law_664 rfl rfl ?_
        refine SF_iadd 666 dL_law_665 rfl ?_
        obtain ⟨i168, h⟩ := gdI_some h
        refine SF_sld 667 dL_law_666 (by rw [hxL]; exact i168) rfl ?_
        rw [hxs]
        obtain ⟨v169, g170, q171, h⟩ := bd_some h
        have s172 := w_X11_judge (X := X) (Nat.le_refl 7) l1 (sX (l3 + (1 : Int32)).toNatClampNeg) (sX (l3 + (2 : Int32)).toNatClampNeg) g g170 v169 k_l1 q171
        refine SF_callVi 670 mi_X11_judge ml_L_66 dL_law_667 (Nat.le_trans (by decide) hd) s172 k_l1.1 rfl rfl (Nat.le_of_ble_eq_true rfl) rfl ?_
        have k_l1 := k_l1.ext s172.1
        have k_l2 := k_l2.ext s172.1
        refine SF_aload_n 2 671 dL_law_670 rfl rfl rfl ?_
        refine SF_aload_n 0 672 dL_law_671 rfl rfl rfl ?_
        refine SF_iload_n 3 673 dL_law_672 rfl rfl rfl ?_
        refine SF_iconst (1 : Int32) 674 dL_law_673 rfl rfl ?_
        refine SF_iadd 675 dL_law_674 rfl ?_
        obtain ⟨i173, h⟩ := gdI_some h
        refine SF_sld 676 dL_law_675 (by rw [hxL]; exact i173) rfl ?_
        rw [hxs]
        refine SF_aload_n 0 677 dL_law_676 rfl rfl rfl ?_
        refine SF_iload_n 3 678 dL_law_677 rfl rfl rfl ?_
        refine SF_iconst (2 : Int32) 679 dL_law_678 rfl rfl ?_
        refine SF_iadd 680 dL_law_679 rfl ?_
        obtain ⟨i174, h⟩ := gdI_some h
        refine SF_sld 681 dL_law_680 (by rw [hxL]; exact i174) rfl ?_
        rw [hxs]
        obtain ⟨v175, g176, q177, h⟩ := bd_some h
        have s178 := w_X12_judge (X := X) (Nat.le_refl 8) l2 (sX (l3 + (1 : Int32)).toNatClampNeg) (sX (l3 + (2 : Int32)).toNatClampNeg) g170 g176 v175 k_l2 q177
        refine SF_callVi 684 mi_X12_judge ml_L_69 dL_law_681 (Nat.le_trans (by decide) hd) s178 k_l2.1 rfl rfl (Nat.le_of_ble_eq_true rfl) rfl ?_
        have k_l1 := k_l1.ext s178.1
        have k_l2 := k_l2.ext s178.1
        refine SF_iceq 1817 687 dL_law_684 rfl rfl (fun c179 => ?_) (fun c179 => ?_)
        · have h := ite_t c179 h
          exact w_L_law_1817 hd hxL hxs (f_L_law_18 sL sX n) ih l1 l2 l3 g176 k_l1 k_l2 h
        · have h := ite_f c179 h
          refine SF_iconst (0 : Int32) 688 dL_law_687 rfl rfl ?_
          exact RT_b rfl rfl dL_law_688 h
      | 13, m593, h =>
        refine SF_tabIn 689 dL_law_33 c592 (by omega) (by rw [m593]; rfl) rfl ?_
        refine SF_aload_n 1 690 dL_law_689 rfl rfl rfl ?_
        refine SF_aload_n 0 691 dL_law_690 rfl rfl rfl ?_
        refine SF_iload_n 3 692 dL_law_691 rfl rfl rfl ?_
        refine SF_iconst (1 : Int32) 693 dL_law_692 rfl rfl ?_
        refine SF_iadd 694 dL_law_693 rfl ?_
        obtain ⟨i180, h⟩ := gdI_some h
        refine SF_sld 695 dL_law_694 (by rw [hxL]; exact i180) rfl ?_
        rw [hxs]
        obtain ⟨v181, g182, q183, h⟩ := bd_some h
        have s184 := w_X11_perform (X := X) (Nat.le_refl 7) l1 (sX (l3 + (1 : Int32)).toNatClampNeg) g g182 v181 k_l1 q183
        refine SF_callVi 698 mi_X11_perform ml_L_70 dL_law_695 (Nat.le_trans (by decide) hd) s184 k_l1.1 rfl rfl (Nat.le_of_ble_eq_true rfl) rfl ?_
        have k_l1 := k_l1.ext s184.1
        have k_l2 := k_l2.ext s184.1
        refine SF_aload_n 2 699 dL_law_698 rfl rfl rfl ?_
        refine SF_aload_n 0 700 dL_law_699 rfl rfl rfl ?_
        refine SF_iload_n 3 701 dL_law_700 rfl rfl rfl ?_
        refine SF_iconst (1 : Int32) 702 dL_law_701 rfl rfl ?_
        refine SF_iadd 703 dL_law_702 rfl ?_
        obtain ⟨i185, h⟩ := gdI_some h
        refine SF_sld 704 dL_law_703 (by rw [hxL]; exact i185) rfl ?_
        rw [hxs]
        obtain ⟨v186, g187, q188, h⟩ := bd_some h
        have s189 := w_X12_perform (X := X) (Nat.le_refl 8) l2 (sX (l3 + (1 : Int32)).toNatClampNeg) g182 g187 v186 k_l2 q188
        refine SF_callVi 707 mi_X12_perform ml_L_73 dL_law_704 (Nat.le_trans (by decide) hd) s189 k_l2.1 rfl rfl (Nat.le_of_ble_eq_true rfl) rfl ?_
        have k_l1 := k_l1.ext s189.1
        have k_l2 := k_l2.ext s189.1
        refine SF_iceq 1817 710 dL_law_707 rfl rfl (fun c190 => ?_) (fun c190 => ?_)
        · have h := ite_t c190 h
          exact w_L_law_1817 hd hxL hxs (f_L_law_18 sL sX n) ih l1 l2 l3 g187 k_l1 k_l2 h
        · have h := ite_f c190 h
          refine SF_iconst (0 : Int32) 711 dL_law_710 rfl rfl ?_
          exact RT_b rfl rfl dL_law_711 h
      | 14, m593, h =>
        refine SF_tabIn 712 dL_law_33 c592 (by omega) (by rw [m593]; rfl) rfl ?_
        refine SF_aload_n 1 713 dL_law_712 rfl rfl rfl ?_
        refine SF_aload_n 0 714 dL_law_713 rfl rfl rfl ?_
        refine SF_iload_n 3 715 dL_law_714 rfl rfl rfl ?_
        refine SF_iconst (1 : Int32) 716 dL_law_715 rfl rfl ?_
        refine SF_iadd 717 dL_law_716 rfl ?_
        obtain ⟨i191, h⟩ := gdI_some h
        refine SF_sld 718 dL_law_717 (by rw [hxL]; exact i191) rfl ?_
        rw [hxs]
        refine SF_aload_n 0 719 dL_law_718 rfl rfl rfl ?_
        refine SF_iload_n 3 720 dL_law_719 rfl rfl rfl ?_
        refine SF_iconst (2 : Int32) 721 dL_law_720 rfl rfl ?_
        refine SF_iadd 722 dL_law_721 rfl ?_
        obtain ⟨i192, h⟩ := gdI_some h
        refine SF_sld 723 dL_law_722 (by rw [hxL]; exact i192) rfl ?_
        rw [hxs]
        obtain ⟨v193, g194, q195, h⟩ := bd_some h
        have s196 := w_X11_day (X := X) (Nat.le_refl 7) l1 (sX (l3 + (1 : Int32)).toNatClampNeg) (sX (l3 + (2 : Int32)).toNatClampNeg) g g194 v193 k_l1 q195
        refine SF_callVi 726 mi_X11_day ml_L_74 dL_law_723 (Nat.le_trans (by decide) hd) s196 k_l1.1 rfl rfl (Nat.le_of_ble_eq_true rfl) rfl ?_
        have k_l1 := k_l1.ext s196.1
        have k_l2 := k_l2.ext s196.1
        refine SF_aload_n 2 727 dL_law_726 rfl rfl rfl ?_
        refine SF_aload_n 0 728 dL_law_727 rfl rfl rfl ?_
        refine SF_iload_n 3 729 dL_law_728 rfl rfl rfl ?_
        refine SF_iconst (1 : Int32) 730 dL_law_729 rfl rfl ?_
        refine SF_iadd 731 dL_law_730 rfl ?_
        obtain ⟨i197, h⟩ := gdI_some h
        refine SF_sld 732 dL_law_731 (by rw [hxL]; exact i197) rfl ?_
        rw [hxs]
        refine SF_aload_n 0 733 dL_law_732 rfl rfl rfl ?_
        refine SF_iload_n 3 734 dL_law_733 rfl rfl rfl ?_
        refine SF_iconst (2 : Int32) 735 dL_law_734 rfl rfl ?_
        refine SF_iadd 736 dL_law_735 rfl ?_
        obtain ⟨i198, h⟩ := gdI_some h
        refine SF_sld 737 dL_law_736 (by rw [hxL]; exact i198) rfl ?_
        rw [hxs]
        obtain ⟨v199, g200, q201, h⟩ := bd_some h
        have s202 := w_X12_day (X := X) (Nat.le_refl 7) l2 (sX (l3 + (1 : Int32)).toNatClampNeg) (sX (l3 + (2 : Int32)).toNatClampNeg) g194 g200 v199 k_l2 q201
        refine SF_callVi 740 mi_X12_day ml_L_77 dL_law_737 (Nat.le_trans (by decide) hd) s202 k_l2.1 rfl rfl (Nat.le_of_ble_eq_true rfl) rfl ?_
        have k_l1 := k_l1.ext s202.1
        have k_l2 := k_l2.ext s202.1
        refine SF_iceq 1817 743 dL_law_740 rfl rfl (fun c203 => ?_) (fun c203 => ?_)
        · have h := ite_t c203 h
          exact w_L_law_1817 hd hxL hxs (f_L_law_18 sL sX n) ih l1 l2 l3 g200 k_l1 k_l2 h
        · have h := ite_f c203 h
          refine SF_iconst (0 : Int32) 744 dL_law_743 rfl rfl ?_
          exact RT_b rfl rfl dL_law_744 h
      | 15, m593, h =>
        refine SF_tabIn 745 dL_law_33 c592 (by omega) (by rw [m593]; rfl) rfl ?_
        refine SF_aload_n 1 746 dL_law_745 rfl rfl rfl ?_
        refine SF_aload_n 0 747 dL_law_746 rfl rfl rfl ?_
        refine SF_iload_n 3 748 dL_law_747 rfl rfl rfl ?_
        refine SF_iconst (1 : Int32) 749 dL_law_748 rfl rfl ?_
        refine SF_iadd 750 dL_law_749 rfl ?_
        obtain ⟨i204, h⟩ := gdI_some h
        refine SF_sld 751 dL_law_750 (by rw [hxL]; exact i204) rfl ?_
        rw [hxs]
        refine SF_aload_n 0 752 dL_law_751 rfl rfl rfl ?_
        refine SF_iload_n 3 753 dL_law_752 rfl rfl rfl ?_
        refine SF_iconst (2 : Int32) 754 dL_law_753 rfl rfl ?_
        refine SF_iadd 755 dL_law_754 rfl ?_
        obtain ⟨i205, h⟩ := gdI_some h
        refine SF_sld 756 dL_law_755 (by rw [hxL]; exact i205) rfl ?_
        rw [hxs]
        refine SF_aload_n 0 757 dL_law_756 rfl rfl rfl ?_
        refine SF_iload_n 3 758 dL_law_757 rfl rfl rfl ?_
        refine SF_iconst (3 : Int32) 759 dL_law_758 rfl rfl ?_
        refine SF_iadd 760 dL_law_759 rfl ?_
        obtain ⟨i206, h⟩ := gdI_some h
        refine SF_sld 761 dL_law_760 (by rw [hxL]; exact i206) rfl ?_
        rw [hxs]
        obtain ⟨v207, g208, q209, h⟩ := bd_some h
        have s210 := w_X11_soonest (X := X) (Nat.le_refl 7) l1 (sX (l3 + (1 : Int32)).toNatClampNeg) (sX (l3 + (2 : Int32)).toNatClampNeg) (sX (l3 + (3 : Int32)).toNatClampNeg) g g208 v207 k_l1 q209
        refine SF_callVi 764 mi_X11_soonest ml_L_78 dL_law_761 (Nat.le_trans (by decide) hd) s210 k_l1.1 rfl rfl (Nat.le_of_ble_eq_true rfl) rfl ?_
        have k_l1 := k_l1.ext s210.1
        have k_l2 := k_l2.ext s210.1
        refine SF_aload_n 2 765 dL_law_764 rfl rfl rfl ?_
        refine SF_aload_n 0 766 dL_law_765 rfl rfl rfl ?_
        refine SF_iload_n 3 767 dL_law_766 rfl rfl rfl ?_
        refine SF_iconst (1 : Int32) 768 dL_law_767 rfl rfl ?_
        refine SF_iadd 769 dL_law_768 rfl ?_
        obtain ⟨i211, h⟩ := gdI_some h
        refine SF_sld 770 dL_law_769 (by rw [hxL]; exact i211) rfl ?_
        rw [hxs]
        refine SF_aload_n 0 771 dL_law_770 rfl rfl rfl ?_
        refine SF_iload_n 3 772 dL_law_771 rfl rfl rfl ?_
        refine SF_iconst (2 : Int32) 773 dL_law_772 rfl rfl ?_
        refine SF_iadd 774 dL_law_773 rfl ?_
        obtain ⟨i212, h⟩ := gdI_some h
        refine SF_sld 775 dL_law_774 (by rw [hxL]; exact i212) rfl ?_
        rw [hxs]
        refine SF_aload_n 0 776 dL_law_775 rfl rfl rfl ?_
        refine SF_iload_n 3 777 dL_law_776 rfl rfl rfl ?_
        refine SF_iconst (3 : Int32) 778 dL_law_777 rfl rfl ?_
        refine SF_iadd 779 dL_law_778 rfl ?_
        obtain ⟨i213, h⟩ := gdI_some h
        refine SF_sld 780 dL_law_779 (by rw [hxL]; exact i213) rfl ?_
        rw [hxs]
        obtain ⟨v214, g215, q216, h⟩ := bd_some h
        have s217 := w_X12_soonest (X := X) (Nat.le_refl 8) l2 (sX (l3 + (1 : Int32)).toNatClampNeg) (sX (l3 + (2 : Int32)).toNatClampNeg) (sX (l3 + (3 : Int32)).toNatClampNeg) g208 g215 v214 k_l2 q216
        refine SF_callVi 783 mi_X12_soonest ml_L_81 dL_law_780 (Nat.le_trans (by decide) hd) s217 k_l2.1 rfl rfl (Nat.le_of_ble_eq_true rfl) rfl ?_
        have k_l1 := k_l1.ext s217.1
        have k_l2 := k_l2.ext s217.1
        refine SF_iceq 1817 786 dL_law_783 rfl rfl (fun c218 => ?_) (fun c218 => ?_)
        · have h := ite_t c218 h
          exact w_L_law_1817 hd hxL hxs (f_L_law_18 sL sX n) ih l1 l2 l3 g215 k_l1 k_l2 h
        · have h := ite_f c218 h
          refine SF_iconst (0 : Int32) 787 dL_law_786 rfl rfl ?_
          exact RT_b rfl rfl dL_law_787 h
      | 16, m593, h =>
        refine SF_tabIn 788 dL_law_33 c592 (by omega) (by rw [m593]; rfl) rfl ?_
        refine SF_aload_n 1 789 dL_law_788 rfl rfl rfl ?_
        refine SF_aload_n 0 790 dL_law_789 rfl rfl rfl ?_
        refine SF_iload_n 3 791 dL_law_790 rfl rfl rfl ?_
        refine SF_iconst (1 : Int32) 792 dL_law_791 rfl rfl ?_
        refine SF_iadd 793 dL_law_792 rfl ?_
        obtain ⟨i219, h⟩ := gdI_some h
        refine SF_sld 794 dL_law_793 (by rw [hxL]; exact i219) rfl ?_
        rw [hxs]
        refine SF_aload_n 0 795 dL_law_794 rfl rfl rfl ?_
        refine SF_iload_n 3 796 dL_law_795 rfl rfl rfl ?_
        refine SF_iconst (2 : Int32) 797 dL_law_796 rfl rfl ?_
        refine SF_iadd 798 dL_law_797 rfl ?_
        obtain ⟨i220, h⟩ := gdI_some h
        refine SF_sld 799 dL_law_798 (by rw [hxL]; exact i220) rfl ?_
        rw [hxs]
        refine SF_aload_n 0 800 dL_law_799 rfl rfl rfl ?_
        refine SF_iload_n 3 801 dL_law_800 rfl rfl rfl ?_
        refine SF_iconst (3 : Int32) 802 dL_law_801 rfl rfl ?_
        refine SF_iadd 803 dL_law_802 rfl ?_
        obtain ⟨i221, h⟩ := gdI_some h
        refine SF_sld 804 dL_law_803 (by rw [hxL]; exact i221) rfl ?_
        rw [hxs]
        refine SF_aload_n 0 805 dL_law_804 rfl rfl rfl ?_
        refine SF_iload_n 3 806 dL_law_805 rfl rfl rfl ?_
        refine SF_iconst (4 : Int32) 807 dL_law_806 rfl rfl ?_
        refine SF_iadd 808 dL_law_807 rfl ?_
        obtain ⟨i222, h⟩ := gdI_some h
        refine SF_sld 809 dL_law_808 (by rw [hxL]; exact i222) rfl ?_
        rw [hxs]
        obtain ⟨v223, g224, q225, h⟩ := bd_some h
        have s226 := w_X11_way (X := X) (Nat.le_refl 7) l1 (sX (l3 + (1 : Int32)).toNatClampNeg) (sX (l3 + (2 : Int32)).toNatClampNeg) (sX (l3 + (3 : Int32)).toNatClampNeg) (sX (l3 + (4 : Int32)).toNatClampNeg) g g224 v223 k_l1 q225
        refine SF_callVi 812 mi_X11_way ml_L_82 dL_law_809 (Nat.le_trans (by decide) hd) s226 k_l1.1 rfl rfl (Nat.le_of_ble_eq_true rfl) rfl ?_
        have k_l1 := k_l1.ext s226.1
        have k_l2 := k_l2.ext s226.1
        refine SF_aload_n 2 813 dL_law_812 rfl rfl rfl ?_
        refine SF_aload_n 0 814 dL_law_813 rfl rfl rfl ?_
        refine SF_iload_n 3 815 dL_law_814 rfl rfl rfl ?_
        refine SF_iconst (1 : Int32) 816 dL_law_815 rfl rfl ?_
        refine SF_iadd 817 dL_law_816 rfl ?_
        obtain ⟨i227, h⟩ := gdI_some h
        refine SF_sld 818 dL_law_817 (by rw [hxL]; exact i227) rfl ?_
        rw [hxs]
        refine SF_aload_n 0 819 dL_law_818 rfl rfl rfl ?_
        refine SF_iload_n 3 820 dL_law_819 rfl rfl rfl ?_
        refine SF_iconst (2 : Int32) 821 dL_law_820 rfl rfl ?_
        refine SF_iadd 822 dL_law_821 rfl ?_
        obtain ⟨i228, h⟩ := gdI_some h
        refine SF_sld 823 dL_law_822 (by rw [hxL]; exact i228) rfl ?_
        rw [hxs]
        refine SF_aload_n 0 824 dL_law_823 rfl rfl rfl ?_
        refine SF_iload_n 3 825 dL_law_824 rfl rfl rfl ?_
        refine SF_iconst (3 : Int32) 826 dL_law_825 rfl rfl ?_
        refine SF_iadd 827 dL_law_826 rfl ?_
        obtain ⟨i229, h⟩ := gdI_some h
        refine SF_sld 828 dL_law_827 (by rw [hxL]; exact i229) rfl ?_
        rw [hxs]
        refine SF_aload_n 0 829 dL_law_828 rfl rfl rfl ?_
        refine SF_iload_n 3 830 dL_law_829 rfl rfl rfl ?_
        refine SF_iconst (4 : Int32) 831 dL_law_830 rfl rfl ?_
        refine SF_iadd 832 dL_law_831 rfl ?_
        obtain ⟨i230, h⟩ := gdI_some h
        refine SF_sld 833 dL_law_832 (by rw [hxL]; exact i230) rfl ?_
        rw [hxs]
        obtain ⟨v231, g232, q233, h⟩ := bd_some h
        have s234 := w_X12_way (X := X) (Nat.le_refl 8) l2 (sX (l3 + (1 : Int32)).toNatClampNeg) (sX (l3 + (2 : Int32)).toNatClampNeg) (sX (l3 + (3 : Int32)).toNatClampNeg) (sX (l3 + (4 : Int32)).toNatClampNeg) g224 g232 v231 k_l2 q233
        refine SF_callVi 836 mi_X12_way ml_L_85 dL_law_833 (Nat.le_trans (by decide) hd) s234 k_l2.1 rfl rfl (Nat.le_of_ble_eq_true rfl) rfl ?_
        have k_l1 := k_l1.ext s234.1
        have k_l2 := k_l2.ext s234.1
        refine SF_iceq 1817 839 dL_law_836 rfl rfl (fun c235 => ?_) (fun c235 => ?_)
        · have h := ite_t c235 h
          exact w_L_law_1817 hd hxL hxs (f_L_law_18 sL sX n) ih l1 l2 l3 g232 k_l1 k_l2 h
        · have h := ite_f c235 h
          refine SF_iconst (0 : Int32) 840 dL_law_839 rfl rfl ?_
          exact RT_b rfl rfl dL_law_840 h
      | 17, m593, h =>
        refine SF_tabIn 841 dL_law_33 c592 (by omega) (by rw [m593]; rfl) rfl ?_
        refine SF_aload_n 1 842 dL_law_841 rfl rfl rfl ?_
        refine SF_aload_n 0 843 dL_law_842 rfl rfl rfl ?_
        refine SF_iload_n 3 844 dL_law_843 rfl rfl rfl ?_
        refine SF_iconst (1 : Int32) 845 dL_law_844 rfl rfl ?_
        refine SF_iadd 846 dL_law_845 rfl ?_
        obtain ⟨i236, h⟩ := gdI_some h
        refine SF_sld 847 dL_law_846 (by rw [hxL]; exact i236) rfl ?_
        rw [hxs]
        refine SF_aload_n 0 848 dL_law_847 rfl rfl rfl ?_
        refine SF_iload_n 3 849 dL_law_848 rfl rfl rfl ?_
        refine SF_iconst (2 : Int32) 850 dL_law_849 rfl rfl ?_
        refine SF_iadd 851 dL_law_850 rfl ?_
        obtain ⟨i237, h⟩ := gdI_some h
        refine SF_sld 852 dL_law_851 (by rw [hxL]; exact i237) rfl ?_
        rw [hxs]
        refine SF_aload_n 0 853 dL_law_852 rfl rfl rfl ?_
        refine SF_iload_n 3 854 dL_law_853 rfl rfl rfl ?_
        refine SF_iconst (3 : Int32) 855 dL_law_854 rfl rfl ?_
        refine SF_iadd 856 dL_law_855 rfl ?_
        obtain ⟨i238, h⟩ := gdI_some h
        refine SF_sld 857 dL_law_856 (by rw [hxL]; exact i238) rfl ?_
        rw [hxs]
        obtain ⟨v239, g240, q241, h⟩ := bd_some h
        have s242 := w_X11_cheapest (X := X) (Nat.le_refl 7) l1 (sX (l3 + (1 : Int32)).toNatClampNeg) (sX (l3 + (2 : Int32)).toNatClampNeg) (sX (l3 + (3 : Int32)).toNatClampNeg) g g240 v239 k_l1 q241
        refine SF_callVi 860 mi_X11_cheapest ml_L_86 dL_law_857 (Nat.le_trans (by decide) hd) s242 k_l1.1 rfl rfl (Nat.le_of_ble_eq_true rfl) rfl ?_
        have k_l1 := k_l1.ext s242.1
        have k_l2 := k_l2.ext s242.1
        refine SF_aload_n 2 861 dL_law_860 rfl rfl rfl ?_
        refine SF_aload_n 0 862 dL_law_861 rfl rfl rfl ?_
        refine SF_iload_n 3 863 dL_law_862 rfl rfl rfl ?_
        refine SF_iconst (1 : Int32) 864 dL_law_863 rfl rfl ?_
        refine SF_iadd 865 dL_law_864 rfl ?_
        obtain ⟨i243, h⟩ := gdI_some h
        refine SF_sld 866 dL_law_865 (by rw [hxL]; exact i243) rfl ?_
        rw [hxs]
        refine SF_aload_n 0 867 dL_law_866 rfl rfl rfl ?_
        refine SF_iload_n 3 868 dL_law_867 rfl rfl rfl ?_
        refine SF_iconst (2 : Int32) 869 dL_law_868 rfl rfl ?_
        refine SF_iadd 870 dL_law_869 rfl ?_
        obtain ⟨i244, h⟩ := gdI_some h
        refine SF_sld 871 dL_law_870 (by rw [hxL]; exact i244) rfl ?_
        rw [hxs]
        refine SF_aload_n 0 872 dL_law_871 rfl rfl rfl ?_
        refine SF_iload_n 3 873 dL_law_872 rfl rfl rfl ?_
        refine SF_iconst (3 : Int32) 874 dL_law_873 rfl rfl ?_
        refine SF_iadd 875 dL_law_874 rfl ?_
        obtain ⟨i245, h⟩ := gdI_some h
        refine SF_sld 876 dL_law_875 (by rw [hxL]; exact i245) rfl ?_
        rw [hxs]
        obtain ⟨v246, g247, q248, h⟩ := bd_some h
        have s249 := w_X12_cheapest (X := X) (Nat.le_refl 8) l2 (sX (l3 + (1 : Int32)).toNatClampNeg) (sX (l3 + (2 : Int32)).toNatClampNeg) (sX (l3 + (3 : Int32)).toNatClampNeg) g240 g247 v246 k_l2 q248
        refine SF_callVi 879 mi_X12_cheapest ml_L_89 dL_law_876 (Nat.le_trans (by decide) hd) s249 k_l2.1 rfl rfl (Nat.le_of_ble_eq_true rfl) rfl ?_
        have k_l1 := k_l1.ext s249.1
        have k_l2 := k_l2.ext s249.1
        refine SF_iceq 1817 882 dL_law_879 rfl rfl (fun c250 => ?_) (fun c250 => ?_)
        · have h := ite_t c250 h
          exact w_L_law_1817 hd hxL hxs (f_L_law_18 sL sX n) ih l1 l2 l3 g247 k_l1 k_l2 h
        · have h := ite_f c250 h
          refine SF_iconst (0 : Int32) 883 dL_law_882 rfl rfl ?_
          exact RT_b rfl rfl dL_law_883 h
      | 18, m593, h =>
        refine SF_tabIn 884 dL_law_33 c592 (by omega) (by rw [m593]; rfl) rfl ?_
        refine SF_aload_n 1 885 dL_law_884 rfl rfl rfl ?_
        refine SF_aload_n 0 886 dL_law_885 rfl rfl rfl ?_
        refine SF_iload_n 3 887 dL_law_886 rfl rfl rfl ?_
        refine SF_iconst (1 : Int32) 888 dL_law_887 rfl rfl ?_
        refine SF_iadd 889 dL_law_888 rfl ?_
        obtain ⟨i251, h⟩ := gdI_some h
        refine SF_sld 890 dL_law_889 (by rw [hxL]; exact i251) rfl ?_
        rw [hxs]
        refine SF_aload_n 0 891 dL_law_890 rfl rfl rfl ?_
        refine SF_iload_n 3 892 dL_law_891 rfl rfl rfl ?_
        refine SF_iconst (2 : Int32) 893 dL_law_892 rfl rfl ?_
        refine SF_iadd 894 dL_law_893 rfl ?_
        obtain ⟨i252, h⟩ := gdI_some h
        refine SF_sld 895 dL_law_894 (by rw [hxL]; exact i252) rfl ?_
        rw [hxs]
        refine SF_aload_n 0 896 dL_law_895 rfl rfl rfl ?_
        refine SF_iload_n 3 897 dL_law_896 rfl rfl rfl ?_
        refine SF_iconst (3 : Int32) 898 dL_law_897 rfl rfl ?_
        refine SF_iadd 899 dL_law_898 rfl ?_
        obtain ⟨i253, h⟩ := gdI_some h
        refine SF_sld 900 dL_law_899 (by rw [hxL]; exact i253) rfl ?_
        rw [hxs]
        refine SF_aload_n 0 901 dL_law_900 rfl rfl rfl ?_
        refine SF_iload_n 3 902 dL_law_901 rfl rfl rfl ?_
        refine SF_iconst (4 : Int32) 903 dL_law_902 rfl rfl ?_
        refine SF_iadd 904 dL_law_903 rfl ?_
        obtain ⟨i254, h⟩ := gdI_some h
        refine SF_sld 905 dL_law_904 (by rw [hxL]; exact i254) rfl ?_
        rw [hxs]
        obtain ⟨v255, g256, q257, h⟩ := bd_some h
        have s258 := w_X11_cheapWay (X := X) (Nat.le_refl 7) l1 (sX (l3 + (1 : Int32)).toNatClampNeg) (sX (l3 + (2 : Int32)).toNatClampNeg) (sX (l3 + (3 : Int32)).toNatClampNeg) (sX (l3 + (4 : Int32)).toNatClampNeg) g g256 v255 k_l1 q257
        refine SF_callVi 908 mi_X11_cheapWay ml_L_90 dL_law_905 (Nat.le_trans (by decide) hd) s258 k_l1.1 rfl rfl (Nat.le_of_ble_eq_true rfl) rfl ?_
        have k_l1 := k_l1.ext s258.1
        have k_l2 := k_l2.ext s258.1
        refine SF_aload_n 2 909 dL_law_908 rfl rfl rfl ?_
        refine SF_aload_n 0 910 dL_law_909 rfl rfl rfl ?_
        refine SF_iload_n 3 911 dL_law_910 rfl rfl rfl ?_
        refine SF_iconst (1 : Int32) 912 dL_law_911 rfl rfl ?_
        refine SF_iadd 913 dL_law_912 rfl ?_
        obtain ⟨i259, h⟩ := gdI_some h
        refine SF_sld 914 dL_law_913 (by rw [hxL]; exact i259) rfl ?_
        rw [hxs]
        refine SF_aload_n 0 915 dL_law_914 rfl rfl rfl ?_
        refine SF_iload_n 3 916 dL_law_915 rfl rfl rfl ?_
        refine SF_iconst (2 : Int32) 917 dL_law_916 rfl rfl ?_
        refine SF_iadd 918 dL_law_917 rfl ?_
        obtain ⟨i260, h⟩ := gdI_some h
        refine SF_sld 919 dL_law_918 (by rw [hxL]; exact i260) rfl ?_
        rw [hxs]
        refine SF_aload_n 0 920 dL_law_919 rfl rfl rfl ?_
        refine SF_iload_n 3 921 dL_law_920 rfl rfl rfl ?_
        refine SF_iconst (3 : Int32) 922 dL_law_921 rfl rfl ?_
        refine SF_iadd 923 dL_law_922 rfl ?_
        obtain ⟨i261, h⟩ := gdI_some h
        refine SF_sld 924 dL_law_923 (by rw [hxL]; exact i261) rfl ?_
        rw [hxs]
        refine SF_aload_n 0 925 dL_law_924 rfl rfl rfl ?_
        refine SF_iload_n 3 926 dL_law_925 rfl rfl rfl ?_
        refine SF_iconst (4 : Int32) 927 dL_law_926 rfl rfl ?_
        refine SF_iadd 928 dL_law_927 rfl ?_
        obtain ⟨i262, h⟩ := gdI_some h
        refine SF_sld 929 dL_law_928 (by rw [hxL]; exact i262) rfl ?_
        rw [hxs]
        obtain ⟨v263, g264, q265, h⟩ := bd_some h
        have s266 := w_X12_cheapWay (X := X) (Nat.le_refl 8) l2 (sX (l3 + (1 : Int32)).toNatClampNeg) (sX (l3 + (2 : Int32)).toNatClampNeg) (sX (l3 + (3 : Int32)).toNatClampNeg) (sX (l3 + (4 : Int32)).toNatClampNeg) g256 g264 v263 k_l2 q265
        refine SF_callVi 932 mi_X12_cheapWay ml_L_93 dL_law_929 (Nat.le_trans (by decide) hd) s266 k_l2.1 rfl rfl (Nat.le_of_ble_eq_true rfl) rfl ?_
        have k_l1 := k_l1.ext s266.1
        have k_l2 := k_l2.ext s266.1
        refine SF_iceq 1817 935 dL_law_932 rfl rfl (fun c267 => ?_) (fun c267 => ?_)
        · have h := ite_t c267 h
          exact w_L_law_1817 hd hxL hxs (f_L_law_18 sL sX n) ih l1 l2 l3 g264 k_l1 k_l2 h
        · have h := ite_f c267 h
          refine SF_iconst (0 : Int32) 936 dL_law_935 rfl rfl ?_
          exact RT_b rfl rfl dL_law_936 h
      | 19, m593, h =>
        refine SF_tabIn 937 dL_law_33 c592 (by omega) (by rw [m593]; rfl) rfl ?_
        refine SF_aload_n 1 938 dL_law_937 rfl rfl rfl ?_
        refine SF_aload_n 0 939 dL_law_938 rfl rfl rfl ?_
        refine SF_iload_n 3 940 dL_law_939 rfl rfl rfl ?_
        refine SF_iconst (1 : Int32) 941 dL_law_940 rfl rfl ?_
        refine SF_iadd 942 dL_law_941 rfl ?_
        obtain ⟨i268, h⟩ := gdI_some h
        refine SF_sld 943 dL_law_942 (by rw [hxL]; exact i268) rfl ?_
        rw [hxs]
        refine SF_aload_n 0 944 dL_law_943 rfl rfl rfl ?_
        refine SF_iload_n 3 945 dL_law_944 rfl rfl rfl ?_
        refine SF_iconst (2 : Int32) 946 dL_law_945 rfl rfl ?_
        refine SF_iadd 947 dL_law_946 rfl ?_
        obtain ⟨i269, h⟩ := gdI_some h
        refine SF_sld 948 dL_law_947 (by rw [hxL]; exact i269) rfl ?_
        rw [hxs]
        refine SF_aload_n 0 949 dL_law_948 rfl rfl rfl ?_
        refine SF_iload_n 3 950 dL_law_949 rfl rfl rfl ?_
        refine SF_iconst (3 : Int32) 951 dL_law_950 rfl rfl ?_
        refine SF_iadd 952 dL_law_951 rfl ?_
        obtain ⟨i270, h⟩ := gdI_some h
        refine SF_sld 953 dL_law_952 (by rw [hxL]; exact i270) rfl ?_
        rw [hxs]
        refine SF_aload_n 0 954 dL_law_953 rfl rfl rfl ?_
        refine SF_iload_n 3 955 dL_law_954 rfl rfl rfl ?_
        refine SF_iconst (4 : Int32) 956 dL_law_955 rfl rfl ?_
        refine SF_iadd 957 dL_law_956 rfl ?_
        obtain ⟨i271, h⟩ := gdI_some h
        refine SF_sld 958 dL_law_957 (by rw [hxL]; exact i271) rfl ?_
        rw [hxs]
        obtain ⟨v272, g273, q274, h⟩ := bd_some h
        have s275 := w_X11_rows (X := X) (Nat.le_refl 7) l1 (sX (l3 + (1 : Int32)).toNatClampNeg) (sX (l3 + (2 : Int32)).toNatClampNeg) (sX (l3 + (3 : Int32)).toNatClampNeg) (sX (l3 + (4 : Int32)).toNatClampNeg) g g273 v272 k_l1 q274
        refine SF_callVl 961 mi_X11_rows ml_L_94 dL_law_958 (Nat.le_trans (by decide) hd) s275 k_l1.1 rfl rfl (Nat.le_of_ble_eq_true rfl) rfl ?_
        have k_l1 := k_l1.ext s275.1
        have k_l2 := k_l2.ext s275.1
        refine SF_aload_n 2 962 dL_law_961 rfl rfl rfl ?_
        refine SF_aload_n 0 963 dL_law_962 rfl rfl rfl ?_
        refine SF_iload_n 3 964 dL_law_963 rfl rfl rfl ?_
        refine SF_iconst (1 : Int32) 965 dL_law_964 rfl rfl ?_
        refine SF_iadd 966 dL_law_965 rfl ?_
        obtain ⟨i276, h⟩ := gdI_some h
        refine SF_sld 967 dL_law_966 (by rw [hxL]; exact i276) rfl ?_
        rw [hxs]
        refine SF_aload_n 0 968 dL_law_967 rfl rfl rfl ?_
        refine SF_iload_n 3 969 dL_law_968 rfl rfl rfl ?_
        refine SF_iconst (2 : Int32) 970 dL_law_969 rfl rfl ?_
        refine SF_iadd 971 dL_law_970 rfl ?_
        obtain ⟨i277, h⟩ := gdI_some h
        refine SF_sld 972 dL_law_971 (by rw [hxL]; exact i277) rfl ?_
        rw [hxs]
        refine SF_aload_n 0 973 dL_law_972 rfl rfl rfl ?_
        refine SF_iload_n 3 974 dL_law_973 rfl rfl rfl ?_
        refine SF_iconst (3 : Int32) 975 dL_law_974 rfl rfl ?_
        refine SF_iadd 976 dL_law_975 rfl ?_
        obtain ⟨i278, h⟩ := gdI_some h
        refine SF_sld 977 dL_law_976 (by rw [hxL]; exact i278) rfl ?_
        rw [hxs]
        refine SF_aload_n 0 978 dL_law_977 rfl rfl rfl ?_
        refine SF_iload_n 3 979 dL_law_978 rfl rfl rfl ?_
        refine SF_iconst (4 : Int32) 980 dL_law_979 rfl rfl ?_
        refine SF_iadd 981 dL_law_980 rfl ?_
        obtain ⟨i279, h⟩ := gdI_some h
        refine SF_sld 982 dL_law_981 (by rw [hxL]; exact i279) rfl ?_
        rw [hxs]
        obtain ⟨v280, g281, q282, h⟩ := bd_some h
        have s283 := w_X12_rows (X := X) (Nat.le_refl 7) l2 (sX (l3 + (1 : Int32)).toNatClampNeg) (sX (l3 + (2 : Int32)).toNatClampNeg) (sX (l3 + (3 : Int32)).toNatClampNeg) (sX (l3 + (4 : Int32)).toNatClampNeg) g273 g281 v280 k_l2 q282
        refine SF_callVl 985 mi_X12_rows ml_L_98 dL_law_982 (Nat.le_trans (by decide) hd) s283 k_l2.1 rfl rfl (Nat.le_of_ble_eq_true rfl) rfl ?_
        have k_l1 := k_l1.ext s283.1
        have k_l2 := k_l2.ext s283.1
        refine SF_lcmp 986 dL_law_985 rfl ?_
        refine SF_ifeq 1817 989 dL_law_986 rfl rfl (fun c284 => ?_) (fun c284 => ?_)
        · have h := ite_t c284 h
          exact w_L_law_1817 hd hxL hxs (f_L_law_18 sL sX n) ih l1 l2 l3 g281 k_l1 k_l2 h
        · have h := ite_f c284 h
          refine SF_iconst (0 : Int32) 990 dL_law_989 rfl rfl ?_
          exact RT_b rfl rfl dL_law_990 h
      | 20, m593, h =>
        refine SF_tabIn 991 dL_law_33 c592 (by omega) (by rw [m593]; rfl) rfl ?_
        refine SF_aload_n 1 992 dL_law_991 rfl rfl rfl ?_
        refine SF_aload_n 0 993 dL_law_992 rfl rfl rfl ?_
        refine SF_iload_n 3 994 dL_law_993 rfl rfl rfl ?_
        refine SF_iconst (1 : Int32) 995 dL_law_994 rfl rfl ?_
        refine SF_iadd 996 dL_law_995 rfl ?_
        obtain ⟨i285, h⟩ := gdI_some h
        refine SF_sld 997 dL_law_996 (by rw [hxL]; exact i285) rfl ?_
        rw [hxs]
        refine SF_aload_n 0 998 dL_law_997 rfl rfl rfl ?_
        refine SF_iload_n 3 999 dL_law_998 rfl rfl rfl ?_
        refine SF_iconst (2 : Int32) 1000 dL_law_999 rfl rfl ?_
        refine SF_iadd 1001 dL_law_1000 rfl ?_
        obtain ⟨i286, h⟩ := gdI_some h
        refine SF_sld 1002 dL_law_1001 (by rw [hxL]; exact i286) rfl ?_
        rw [hxs]
        refine SF_aload_n 0 1003 dL_law_1002 rfl rfl rfl ?_
        refine SF_iload_n 3 1004 dL_law_1003 rfl rfl rfl ?_
        refine SF_iconst (3 : Int32) 1005 dL_law_1004 rfl rfl ?_
        refine SF_iadd 1006 dL_law_1005 rfl ?_
        obtain ⟨i287, h⟩ := gdI_some h
        refine SF_sld 1007 dL_law_1006 (by rw [hxL]; exact i287) rfl ?_
        rw [hxs]
        obtain ⟨v288, g289, q290, h⟩ := bd_some h
        have s291 := w_X11_needed (X := X) (Nat.le_refl 7) l1 (sX (l3 + (1 : Int32)).toNatClampNeg) (sX (l3 + (2 : Int32)).toNatClampNeg) (sX (l3 + (3 : Int32)).toNatClampNeg) g g289 v288 k_l1 q290
        refine SF_callVl 1010 mi_X11_needed ml_L_99 dL_law_1007 (Nat.le_trans (by decide) hd) s291 k_l1.1 rfl rfl (Nat.le_of_ble_eq_true rfl) rfl ?_
        have k_l1 := k_l1.ext s291.1
        have k_l2 := k_l2.ext s291.1
        refine SF_aload_n 2 1011 dL_law_1010 rfl rfl rfl ?_
        refine SF_aload_n 0 1012 dL_law_1011 rfl rfl rfl ?_
        refine SF_iload_n 3 1013 dL_law_1012 rfl rfl rfl ?_
        refine SF_iconst (1 : Int32) 1014 dL_law_1013 rfl rfl ?_
        refine SF_iadd 1015 dL_law_1014 rfl ?_
        obtain ⟨i292, h⟩ := gdI_some h
        refine SF_sld 1016 dL_law_1015 (by rw [hxL]; exact i292) rfl ?_
        rw [hxs]
        refine SF_aload_n 0 1017 dL_law_1016 rfl rfl rfl ?_
        refine SF_iload_n 3 1018 dL_law_1017 rfl rfl rfl ?_
        refine SF_iconst (2 : Int32) 1019 dL_law_1018 rfl rfl ?_
        refine SF_iadd 1020 dL_law_1019 rfl ?_
        obtain ⟨i293, h⟩ := gdI_some h
        refine SF_sld 1021 dL_law_1020 (by rw [hxL]; exact i293) rfl ?_
        rw [hxs]
        refine SF_aload_n 0 1022 dL_law_1021 rfl rfl rfl ?_
        refine SF_iload_n 3 1023 dL_law_1022 rfl rfl rfl ?_
        refine SF_iconst (3 : Int32) 1024 dL_law_1023 rfl rfl ?_
        refine SF_iadd 1025 dL_law_1024 rfl ?_
        obtain ⟨i294, h⟩ := gdI_some h
        refine SF_sld 1026 dL_law_1025 (by rw [hxL]; exact i294) rfl ?_
        rw [hxs]
        obtain ⟨v295, g296, q297, h⟩ := bd_some h
        have s298 := w_X12_needed (X := X) (Nat.le_refl 8) l2 (sX (l3 + (1 : Int32)).toNatClampNeg) (sX (l3 + (2 : Int32)).toNatClampNeg) (sX (l3 + (3 : Int32)).toNatClampNeg) g289 g296 v295 k_l2 q297
        refine SF_callVl 1029 mi_X12_needed ml_L_103 dL_law_1026 (Nat.le_trans (by decide) hd) s298 k_l2.1 rfl rfl (Nat.le_of_ble_eq_true rfl) rfl ?_
        have k_l1 := k_l1.ext s298.1
        have k_l2 := k_l2.ext s298.1
        refine SF_lcmp 1030 dL_law_1029 rfl ?_
        refine SF_ifeq 1817 1033 dL_law_1030 rfl rfl (fun c299 => ?_) (fun c299 => ?_)
        · have h := ite_t c299 h
          exact w_L_law_1817 hd hxL hxs (f_L_law_18 sL sX n) ih l1 l2 l3 g296 k_l1 k_l2 h
        · have h := ite_f c299 h
          refine SF_iconst (0 : Int32) 1034 dL_law_1033 rfl rfl ?_
          exact RT_b rfl rfl dL_law_1034 h
      | 21, m593, h =>
        refine SF_tabIn 1035 dL_law_33 c592 (by omega) (by rw [m593]; rfl) rfl ?_
        refine SF_aload_n 1 1036 dL_law_1035 rfl rfl rfl ?_
        refine SF_aload_n 0 1037 dL_law_1036 rfl rfl rfl ?_
        refine SF_iload_n 3 1038 dL_law_1037 rfl rfl rfl ?_
        refine SF_iconst (1 : Int32) 1039 dL_law_1038 rfl rfl ?_
        refine SF_iadd 1040 dL_law_1039 rfl ?_
        obtain ⟨i300, h⟩ := gdI_some h
        refine SF_sld 1041 dL_law_1040 (by rw [hxL]; exact i300) rfl ?_
        rw [hxs]
        obtain ⟨v301, g302, q303, h⟩ := bd_some h
        have s304 := w_X11_errands (X := X) (Nat.le_refl 7) l1 (sX (l3 + (1 : Int32)).toNatClampNeg) g g302 v301 k_l1 q303
        refine SF_callVi 1044 mi_X11_errands ml_L_104 dL_law_1041 (Nat.le_trans (by decide) hd) s304 k_l1.1 rfl rfl (Nat.le_of_ble_eq_true rfl) rfl ?_
        have k_l1 := k_l1.ext s304.1
        have k_l2 := k_l2.ext s304.1
        refine SF_aload_n 2 1045 dL_law_1044 rfl rfl rfl ?_
        refine SF_aload_n 0 1046 dL_law_1045 rfl rfl rfl ?_
        refine SF_iload_n 3 1047 dL_law_1046 rfl rfl rfl ?_
        refine SF_iconst (1 : Int32) 1048 dL_law_1047 rfl rfl ?_
        refine SF_iadd 1049 dL_law_1048 rfl ?_
        obtain ⟨i305, h⟩ := gdI_some h
        refine SF_sld 1050 dL_law_1049 (by rw [hxL]; exact i305) rfl ?_
        rw [hxs]
        obtain ⟨v306, g307, q308, h⟩ := bd_some h
        have s309 := w_X12_errands (X := X) (Nat.le_refl 8) l2 (sX (l3 + (1 : Int32)).toNatClampNeg) g302 g307 v306 k_l2 q308
        refine SF_callVi 1053 mi_X12_errands ml_L_107 dL_law_1050 (Nat.le_trans (by decide) hd) s309 k_l2.1 rfl rfl (Nat.le_of_ble_eq_true rfl) rfl ?_
        have k_l1 := k_l1.ext s309.1
        have k_l2 := k_l2.ext s309.1
        refine SF_iceq 1817 1056 dL_law_1053 rfl rfl (fun c310 => ?_) (fun c310 => ?_)
        · have h := ite_t c310 h
          exact w_L_law_1817 hd hxL hxs (f_L_law_18 sL sX n) ih l1 l2 l3 g307 k_l1 k_l2 h
        · have h := ite_f c310 h
          refine SF_iconst (0 : Int32) 1057 dL_law_1056 rfl rfl ?_
          exact RT_b rfl rfl dL_law_1057 h
      | 22, m593, h =>
        refine SF_tabIn 1058 dL_law_33 c592 (by omega) (by rw [m593]; rfl) rfl ?_
        refine SF_aload_n 1 1059 dL_law_1058 rfl rfl rfl ?_
        refine SF_aload_n 0 1060 dL_law_1059 rfl rfl rfl ?_
        refine SF_iload_n 3 1061 dL_law_1060 rfl rfl rfl ?_
        refine SF_iconst (1 : Int32) 1062 dL_law_1061 rfl rfl ?_
        refine SF_iadd 1063 dL_law_1062 rfl ?_
        obtain ⟨i311, h⟩ := gdI_some h
        refine SF_sld 1064 dL_law_1063 (by rw [hxL]; exact i311) rfl ?_
        rw [hxs]
        refine SF_aload_n 0 1065 dL_law_1064 rfl rfl rfl ?_
        refine SF_iload_n 3 1066 dL_law_1065 rfl rfl rfl ?_
        refine SF_iconst (2 : Int32) 1067 dL_law_1066 rfl rfl ?_
        refine SF_iadd 1068 dL_law_1067 rfl ?_
        obtain ⟨i312, h⟩ := gdI_some h
        refine SF_sld 1069 dL_law_1068 (by rw [hxL]; exact i312) rfl ?_
        rw [hxs]
        obtain ⟨v313, g314, q315, h⟩ := bd_some h
        have s316 := w_X11_errandWay (X := X) (Nat.le_refl 7) l1 (sX (l3 + (1 : Int32)).toNatClampNeg) (sX (l3 + (2 : Int32)).toNatClampNeg) g g314 v313 k_l1 q315
        refine SF_callVi 1072 mi_X11_errandWay ml_L_108 dL_law_1069 (Nat.le_trans (by decide) hd) s316 k_l1.1 rfl rfl (Nat.le_of_ble_eq_true rfl) rfl ?_
        have k_l1 := k_l1.ext s316.1
        have k_l2 := k_l2.ext s316.1
        refine SF_aload_n 2 1073 dL_law_1072 rfl rfl rfl ?_
        refine SF_aload_n 0 1074 dL_law_1073 rfl rfl rfl ?_
        refine SF_iload_n 3 1075 dL_law_1074 rfl rfl rfl ?_
        refine SF_iconst (1 : Int32) 1076 dL_law_1075 rfl rfl ?_
        refine SF_iadd 1077 dL_law_1076 rfl ?_
        obtain ⟨i317, h⟩ := gdI_some h
        refine SF_sld 1078 dL_law_1077 (by rw [hxL]; exact i317) rfl ?_
        rw [hxs]
        refine SF_aload_n 0 1079 dL_law_1078 rfl rfl rfl ?_
        refine SF_iload_n 3 1080 dL_law_1079 rfl rfl rfl ?_
        refine SF_iconst (2 : Int32) 1081 dL_law_1080 rfl rfl ?_
        refine SF_iadd 1082 dL_law_1081 rfl ?_
        obtain ⟨i318, h⟩ := gdI_some h
        refine SF_sld 1083 dL_law_1082 (by rw [hxL]; exact i318) rfl ?_
        rw [hxs]
        obtain ⟨v319, g320, q321, h⟩ := bd_some h
        have s322 := w_X12_errandWay (X := X) (Nat.le_refl 8) l2 (sX (l3 + (1 : Int32)).toNatClampNeg) (sX (l3 + (2 : Int32)).toNatClampNeg) g314 g320 v319 k_l2 q321
        refine SF_callVi 1086 mi_X12_errandWay ml_L_111 dL_law_1083 (Nat.le_trans (by decide) hd) s322 k_l2.1 rfl rfl (Nat.le_of_ble_eq_true rfl) rfl ?_
        have k_l1 := k_l1.ext s322.1
        have k_l2 := k_l2.ext s322.1
        refine SF_iceq 1817 1089 dL_law_1086 rfl rfl (fun c323 => ?_) (fun c323 => ?_)
        · have h := ite_t c323 h
          exact w_L_law_1817 hd hxL hxs (f_L_law_18 sL sX n) ih l1 l2 l3 g320 k_l1 k_l2 h
        · have h := ite_f c323 h
          refine SF_iconst (0 : Int32) 1090 dL_law_1089 rfl rfl ?_
          exact RT_b rfl rfl dL_law_1090 h
      | 23, m593, h =>
        refine SF_tabIn 1091 dL_law_33 c592 (by omega) (by rw [m593]; rfl) rfl ?_
        refine SF_aload_n 1 1092 dL_law_1091 rfl rfl rfl ?_
        refine SF_aload_n 0 1093 dL_law_1092 rfl rfl rfl ?_
        refine SF_iload_n 3 1094 dL_law_1093 rfl rfl rfl ?_
        refine SF_iconst (1 : Int32) 1095 dL_law_1094 rfl rfl ?_
        refine SF_iadd 1096 dL_law_1095 rfl ?_
        obtain ⟨i324, h⟩ := gdI_some h
        refine SF_sld 1097 dL_law_1096 (by rw [hxL]; exact i324) rfl ?_
        rw [hxs]
        refine SF_aload_n 0 1098 dL_law_1097 rfl rfl rfl ?_
        refine SF_iload_n 3 1099 dL_law_1098 rfl rfl rfl ?_
        refine SF_iconst (2 : Int32) 1100 dL_law_1099 rfl rfl ?_
        refine SF_iadd 1101 dL_law_1100 rfl ?_
        obtain ⟨i325, h⟩ := gdI_some h
        refine SF_sld 1102 dL_law_1101 (by rw [hxL]; exact i325) rfl ?_
        rw [hxs]
        obtain ⟨v326, g327, q328, h⟩ := bd_some h
        have s329 := w_X11_reach (X := X) (Nat.le_refl 7) l1 (sX (l3 + (1 : Int32)).toNatClampNeg) (sX (l3 + (2 : Int32)).toNatClampNeg) g g327 v326 k_l1 q328
        refine SF_callVl 1105 mi_X11_reach ml_L_112 dL_law_1102 (Nat.le_trans (by decide) hd) s329 k_l1.1 rfl rfl (Nat.le_of_ble_eq_true rfl) rfl ?_
        have k_l1 := k_l1.ext s329.1
        have k_l2 := k_l2.ext s329.1
        refine SF_aload_n 2 1106 dL_law_1105 rfl rfl rfl ?_
        refine SF_aload_n 0 1107 dL_law_1106 rfl rfl rfl ?_
        refine SF_iload_n 3 1108 dL_law_1107 rfl rfl rfl ?_
        refine SF_iconst (1 : Int32) 1109 dL_law_1108 rfl rfl ?_
        refine SF_iadd 1110 dL_law_1109 rfl ?_
        obtain ⟨i330, h⟩ := gdI_some h
        refine SF_sld 1111 dL_law_1110 (by rw [hxL]; exact i330) rfl ?_
        rw [hxs]
        refine SF_aload_n 0 1112 dL_law_1111 rfl rfl rfl ?_
        refine SF_iload_n 3 1113 dL_law_1112 rfl rfl rfl ?_
        refine SF_iconst (2 : Int32) 1114 dL_law_1113 rfl rfl ?_
        refine SF_iadd 1115 dL_law_1114 rfl ?_
        obtain ⟨i331, h⟩ := gdI_some h
        refine SF_sld 1116 dL_law_1115 (by rw [hxL]; exact i331) rfl ?_
        rw [hxs]
        obtain ⟨v332, g333, q334, h⟩ := bd_some h
        have s335 := w_X12_reach (X := X) (Nat.le_refl 8) l2 (sX (l3 + (1 : Int32)).toNatClampNeg) (sX (l3 + (2 : Int32)).toNatClampNeg) g327 g333 v332 k_l2 q334
        refine SF_callVl 1119 mi_X12_reach ml_L_116 dL_law_1116 (Nat.le_trans (by decide) hd) s335 k_l2.1 rfl rfl (Nat.le_of_ble_eq_true rfl) rfl ?_
        have k_l1 := k_l1.ext s335.1
        have k_l2 := k_l2.ext s335.1
        refine SF_lcmp 1120 dL_law_1119 rfl ?_
        refine SF_ifeq 1817 1123 dL_law_1120 rfl rfl (fun c336 => ?_) (fun c336 => ?_)
        · have h := ite_t c336 h
          exact w_L_law_1817 hd hxL hxs (f_L_law_18 sL sX n) ih l1 l2 l3 g333 k_l1 k_l2 h
        · have h := ite_f c336 h
          refine SF_iconst (0 : Int32) 1124 dL_law_1123 rfl rfl ?_
          exact RT_b rfl rfl dL_law_1124 h
      | 24, m593, h =>
        refine SF_tabIn 1125 dL_law_33 c592 (by omega) (by rw [m593]; rfl) rfl ?_
        refine SF_aload_n 1 1126 dL_law_1125 rfl rfl rfl ?_
        refine SF_aload_n 0 1127 dL_law_1126 rfl rfl rfl ?_
        refine SF_iload_n 3 1128 dL_law_1127 rfl rfl rfl ?_
        refine SF_iconst (1 : Int32) 1129 dL_law_1128 rfl rfl ?_
        refine SF_iadd 1130 dL_law_1129 rfl ?_
        obtain ⟨i337, h⟩ := gdI_some h
        refine SF_sld 1131 dL_law_1130 (by rw [hxL]; exact i337) rfl ?_
        rw [hxs]
        obtain ⟨v338, g339, q340, h⟩ := bd_some h
        have s341 := w_X11_stands (X := X) (Nat.le_refl 7) l1 (sX (l3 + (1 : Int32)).toNatClampNeg) g g339 v338 k_l1 q340
        refine SF_callVi 1134 mi_X11_stands ml_L_117 dL_law_1131 (Nat.le_trans (by decide) hd) s341 k_l1.1 rfl rfl (Nat.le_of_ble_eq_true rfl) rfl ?_
        have k_l1 := k_l1.ext s341.1
        have k_l2 := k_l2.ext s341.1
        refine SF_aload_n 2 1135 dL_law_1134 rfl rfl rfl ?_
        refine SF_aload_n 0 1136 dL_law_1135 rfl rfl rfl ?_
        refine SF_iload_n 3 1137 dL_law_1136 rfl rfl rfl ?_
        refine SF_iconst (1 : Int32) 1138 dL_law_1137 rfl rfl ?_
        refine SF_iadd 1139 dL_law_1138 rfl ?_
        obtain ⟨i342, h⟩ := gdI_some h
        refine SF_sld 1140 dL_law_1139 (by rw [hxL]; exact i342) rfl ?_
        rw [hxs]
        obtain ⟨v343, g344, q345, h⟩ := bd_some h
        have s346 := w_X12_stands (X := X) (Nat.le_refl 8) l2 (sX (l3 + (1 : Int32)).toNatClampNeg) g339 g344 v343 k_l2 q345
        refine SF_callVi 1143 mi_X12_stands ml_L_120 dL_law_1140 (Nat.le_trans (by decide) hd) s346 k_l2.1 rfl rfl (Nat.le_of_ble_eq_true rfl) rfl ?_
        have k_l1 := k_l1.ext s346.1
        have k_l2 := k_l2.ext s346.1
        refine SF_iceq 1817 1146 dL_law_1143 rfl rfl (fun c347 => ?_) (fun c347 => ?_)
        · have h := ite_t c347 h
          exact w_L_law_1817 hd hxL hxs (f_L_law_18 sL sX n) ih l1 l2 l3 g344 k_l1 k_l2 h
        · have h := ite_f c347 h
          refine SF_iconst (0 : Int32) 1147 dL_law_1146 rfl rfl ?_
          exact RT_b rfl rfl dL_law_1147 h
      | 25, m593, h =>
        refine SF_tabIn 1148 dL_law_33 c592 (by omega) (by rw [m593]; rfl) rfl ?_
        refine SF_aload_n 1 1149 dL_law_1148 rfl rfl rfl ?_
        refine SF_aload_n 0 1150 dL_law_1149 rfl rfl rfl ?_
        refine SF_iload_n 3 1151 dL_law_1150 rfl rfl rfl ?_
        refine SF_iconst (1 : Int32) 1152 dL_law_1151 rfl rfl ?_
        refine SF_iadd 1153 dL_law_1152 rfl ?_
        obtain ⟨i348, h⟩ := gdI_some h
        refine SF_sld 1154 dL_law_1153 (by rw [hxL]; exact i348) rfl ?_
        rw [hxs]
        refine SF_aload_n 0 1155 dL_law_1154 rfl rfl rfl ?_
        refine SF_iload_n 3 1156 dL_law_1155 rfl rfl rfl ?_
        refine SF_iconst (2 : Int32) 1157 dL_law_1156 rfl rfl ?_
        refine SF_iadd 1158 dL_law_1157 rfl ?_
        obtain ⟨i349, h⟩ := gdI_some h
        refine SF_sld 1159 dL_law_1158 (by rw [hxL]; exact i349) rfl ?_
        rw [hxs]
        obtain ⟨v350, g351, q352, h⟩ := bd_some h
        have s353 := w_X11_farthest (X := X) (Nat.le_refl 7) l1 (sX (l3 + (1 : Int32)).toNatClampNeg) (sX (l3 + (2 : Int32)).toNatClampNeg) g g351 v350 k_l1 q352
        refine SF_callVi 1162 mi_X11_farthest ml_L_121 dL_law_1159 (Nat.le_trans (by decide) hd) s353 k_l1.1 rfl rfl (Nat.le_of_ble_eq_true rfl) rfl ?_
        have k_l1 := k_l1.ext s353.1
        have k_l2 := k_l2.ext s353.1
        refine SF_aload_n 2 1163 dL_law_1162 rfl rfl rfl ?_
        refine SF_aload_n 0 1164 dL_law_1163 rfl rfl rfl ?_
        refine SF_iload_n 3 1165 dL_law_1164 rfl rfl rfl ?_
        refine SF_iconst (1 : Int32) 1166 dL_law_1165 rfl rfl ?_
        refine SF_iadd 1167 dL_law_1166 rfl ?_
        obtain ⟨i354, h⟩ := gdI_some h
        refine SF_sld 1168 dL_law_1167 (by rw [hxL]; exact i354) rfl ?_
        rw [hxs]
        refine SF_aload_n 0 1169 dL_law_1168 rfl rfl rfl ?_
        refine SF_iload_n 3 1170 dL_law_1169 rfl rfl rfl ?_
        refine SF_iconst (2 : Int32) 1171 dL_law_1170 rfl rfl ?_
        refine SF_iadd 1172 dL_law_1171 rfl ?_
        obtain ⟨i355, h⟩ := gdI_some h
        refine SF_sld 1173 dL_law_1172 (by rw [hxL]; exact i355) rfl ?_
        rw [hxs]
        obtain ⟨v356, g357, q358, h⟩ := bd_some h
        have s359 := w_X12_farthest (X := X) (Nat.le_refl 8) l2 (sX (l3 + (1 : Int32)).toNatClampNeg) (sX (l3 + (2 : Int32)).toNatClampNeg) g351 g357 v356 k_l2 q358
        refine SF_callVi 1176 mi_X12_farthest ml_L_124 dL_law_1173 (Nat.le_trans (by decide) hd) s359 k_l2.1 rfl rfl (Nat.le_of_ble_eq_true rfl) rfl ?_
        have k_l1 := k_l1.ext s359.1
        have k_l2 := k_l2.ext s359.1
        refine SF_iceq 1817 1179 dL_law_1176 rfl rfl (fun c360 => ?_) (fun c360 => ?_)
        · have h := ite_t c360 h
          exact w_L_law_1817 hd hxL hxs (f_L_law_18 sL sX n) ih l1 l2 l3 g357 k_l1 k_l2 h
        · have h := ite_f c360 h
          refine SF_iconst (0 : Int32) 1180 dL_law_1179 rfl rfl ?_
          exact RT_b rfl rfl dL_law_1180 h
      | 26, m593, h =>
        refine SF_tabIn 1181 dL_law_33 c592 (by omega) (by rw [m593]; rfl) rfl ?_
        refine SF_aload_n 1 1182 dL_law_1181 rfl rfl rfl ?_
        refine SF_aload_n 0 1183 dL_law_1182 rfl rfl rfl ?_
        refine SF_iload_n 3 1184 dL_law_1183 rfl rfl rfl ?_
        refine SF_iconst (1 : Int32) 1185 dL_law_1184 rfl rfl ?_
        refine SF_iadd 1186 dL_law_1185 rfl ?_
        obtain ⟨i361, h⟩ := gdI_some h
        refine SF_sld 1187 dL_law_1186 (by rw [hxL]; exact i361) rfl ?_
        rw [hxs]
        refine SF_aload_n 0 1188 dL_law_1187 rfl rfl rfl ?_
        refine SF_iload_n 3 1189 dL_law_1188 rfl rfl rfl ?_
        refine SF_iconst (2 : Int32) 1190 dL_law_1189 rfl rfl ?_
        refine SF_iadd 1191 dL_law_1190 rfl ?_
        obtain ⟨i362, h⟩ := gdI_some h
        refine SF_sld 1192 dL_law_1191 (by rw [hxL]; exact i362) rfl ?_
        rw [hxs]
        obtain ⟨v363, g364, q365, h⟩ := bd_some h
        have s366 := w_X11_round (X := X) (Nat.le_refl 4) l1 (sX (l3 + (1 : Int32)).toNatClampNeg) (sX (l3 + (2 : Int32)).toNatClampNeg) g g364 v363 k_l1 q365
        refine SF_callVl 1195 mi_X11_round ml_L_125 dL_law_1192 (Nat.le_trans (by decide) hd) s366 k_l1.1 rfl rfl (Nat.le_of_ble_eq_true rfl) rfl ?_
        have k_l1 := k_l1.ext s366.1
        have k_l2 := k_l2.ext s366.1
        refine SF_aload_n 2 1196 dL_law_1195 rfl rfl rfl ?_
        refine SF_aload_n 0 1197 dL_law_1196 rfl rfl rfl ?_
        refine SF_iload_n 3 1198 dL_law_1197 rfl rfl rfl ?_
        refine SF_iconst (1 : Int32) 1199 dL_law_1198 rfl rfl ?_
        refine SF_iadd 1200 dL_law_1199 rfl ?_
        obtain ⟨i367, h⟩ := gdI_some h
        refine SF_sld 1201 dL_law_1200 (by rw [hxL]; exact i367) rfl ?_
        rw [hxs]
        refine SF_aload_n 0 1202 dL_law_1201 rfl rfl rfl ?_
        refine SF_iload_n 3 1203 dL_law_1202 rfl rfl rfl ?_
        refine SF_iconst (2 : Int32) 1204 dL_law_1203 rfl rfl ?_
        refine SF_iadd 1205 dL_law_1204 rfl ?_
        obtain ⟨i368, h⟩ := gdI_some h
        refine SF_sld 1206 dL_law_1205 (by rw [hxL]; exact i368) rfl ?_
        rw [hxs]
        obtain ⟨v369, g370, q371, h⟩ := bd_some h
        have s372 := w_X12_round (X := X) (Nat.le_refl 2) l2 (sX (l3 + (1 : Int32)).toNatClampNeg) (sX (l3 + (2 : Int32)).toNatClampNeg) g364 g370 v369 k_l2 q371
        refine SF_callVl 1209 mi_X12_round ml_L_128 dL_law_1206 (Nat.le_trans (by decide) hd) s372 k_l2.1 rfl rfl (Nat.le_of_ble_eq_true rfl) rfl ?_
        have k_l1 := k_l1.ext s372.1
        have k_l2 := k_l2.ext s372.1
        refine SF_lcmp 1210 dL_law_1209 rfl ?_
        refine SF_ifeq 1817 1213 dL_law_1210 rfl rfl (fun c373 => ?_) (fun c373 => ?_)
        · have h := ite_t c373 h
          exact w_L_law_1817 hd hxL hxs (f_L_law_18 sL sX n) ih l1 l2 l3 g370 k_l1 k_l2 h
        · have h := ite_f c373 h
          refine SF_iconst (0 : Int32) 1214 dL_law_1213 rfl rfl ?_
          exact RT_b rfl rfl dL_law_1214 h
      | 27, m593, h =>
        refine SF_tabIn 1215 dL_law_33 c592 (by omega) (by rw [m593]; rfl) rfl ?_
        refine SF_aload_n 1 1216 dL_law_1215 rfl rfl rfl ?_
        refine SF_aload_n 0 1217 dL_law_1216 rfl rfl rfl ?_
        refine SF_iload_n 3 1218 dL_law_1217 rfl rfl rfl ?_
        refine SF_iconst (1 : Int32) 1219 dL_law_1218 rfl rfl ?_
        refine SF_iadd 1220 dL_law_1219 rfl ?_
        obtain ⟨i374, h⟩ := gdI_some h
        refine SF_sld 1221 dL_law_1220 (by rw [hxL]; exact i374) rfl ?_
        rw [hxs]
        refine SF_aload_n 0 1222 dL_law_1221 rfl rfl rfl ?_
        refine SF_iload_n 3 1223 dL_law_1222 rfl rfl rfl ?_
        refine SF_iconst (2 : Int32) 1224 dL_law_1223 rfl rfl ?_
        refine SF_iadd 1225 dL_law_1224 rfl ?_
        obtain ⟨i375, h⟩ := gdI_some h
        refine SF_sld 1226 dL_law_1225 (by rw [hxL]; exact i375) rfl ?_
        rw [hxs]
        obtain ⟨v376, g377, q378, h⟩ := bd_some h
        have s379 := w_X11_spans (X := X) (Nat.le_refl 4) l1 (sX (l3 + (1 : Int32)).toNatClampNeg) (sX (l3 + (2 : Int32)).toNatClampNeg) g g377 v376 k_l1 q378
        refine SF_callVi 1229 mi_X11_spans ml_L_129 dL_law_1226 (Nat.le_trans (by decide) hd) s379 k_l1.1 rfl rfl (Nat.le_of_ble_eq_true rfl) rfl ?_
        have k_l1 := k_l1.ext s379.1
        have k_l2 := k_l2.ext s379.1
        refine SF_aload_n 2 1230 dL_law_1229 rfl rfl rfl ?_
        refine SF_aload_n 0 1231 dL_law_1230 rfl rfl rfl ?_
        refine SF_iload_n 3 1232 dL_law_1231 rfl rfl rfl ?_
        refine SF_iconst (1 : Int32) 1233 dL_law_1232 rfl rfl ?_
        refine SF_iadd 1234 dL_law_1233 rfl ?_
        obtain ⟨i380, h⟩ := gdI_some h
        refine SF_sld 1235 dL_law_1234 (by rw [hxL]; exact i380) rfl ?_
        rw [hxs]
        refine SF_aload_n 0 1236 dL_law_1235 rfl rfl rfl ?_
        refine SF_iload_n 3 1237 dL_law_1236 rfl rfl rfl ?_
        refine SF_iconst (2 : Int32) 1238 dL_law_1237 rfl rfl ?_
        refine SF_iadd 1239 dL_law_1238 rfl ?_
        obtain ⟨i381, h⟩ := gdI_some h
        refine SF_sld 1240 dL_law_1239 (by rw [hxL]; exact i381) rfl ?_
        rw [hxs]
        obtain ⟨v382, g383, q384, h⟩ := bd_some h
        have s385 := w_X12_spans (X := X) (Nat.le_refl 2) l2 (sX (l3 + (1 : Int32)).toNatClampNeg) (sX (l3 + (2 : Int32)).toNatClampNeg) g377 g383 v382 k_l2 q384
        refine SF_callVi 1243 mi_X12_spans ml_L_132 dL_law_1240 (Nat.le_trans (by decide) hd) s385 k_l2.1 rfl rfl (Nat.le_of_ble_eq_true rfl) rfl ?_
        have k_l1 := k_l1.ext s385.1
        have k_l2 := k_l2.ext s385.1
        refine SF_iceq 1817 1246 dL_law_1243 rfl rfl (fun c386 => ?_) (fun c386 => ?_)
        · have h := ite_t c386 h
          exact w_L_law_1817 hd hxL hxs (f_L_law_18 sL sX n) ih l1 l2 l3 g383 k_l1 k_l2 h
        · have h := ite_f c386 h
          refine SF_iconst (0 : Int32) 1247 dL_law_1246 rfl rfl ?_
          exact RT_b rfl rfl dL_law_1247 h
      | 28, m593, h =>
        refine SF_tabIn 1248 dL_law_33 c592 (by omega) (by rw [m593]; rfl) rfl ?_
        refine SF_aload_n 1 1249 dL_law_1248 rfl rfl rfl ?_
        refine SF_aload_n 0 1250 dL_law_1249 rfl rfl rfl ?_
        refine SF_iload_n 3 1251 dL_law_1250 rfl rfl rfl ?_
        refine SF_iconst (1 : Int32) 1252 dL_law_1251 rfl rfl ?_
        refine SF_iadd 1253 dL_law_1252 rfl ?_
        obtain ⟨i387, h⟩ := gdI_some h
        refine SF_sld 1254 dL_law_1253 (by rw [hxL]; exact i387) rfl ?_
        rw [hxs]
        refine SF_aload_n 0 1255 dL_law_1254 rfl rfl rfl ?_
        refine SF_iload_n 3 1256 dL_law_1255 rfl rfl rfl ?_
        refine SF_iconst (2 : Int32) 1257 dL_law_1256 rfl rfl ?_
        refine SF_iadd 1258 dL_law_1257 rfl ?_
        obtain ⟨i388, h⟩ := gdI_some h
        refine SF_sld 1259 dL_law_1258 (by rw [hxL]; exact i388) rfl ?_
        rw [hxs]
        obtain ⟨v389, g390, q391, h⟩ := bd_some h
        have s392 := w_X11_forces (X := X) (Nat.le_refl 7) l1 (sX (l3 + (1 : Int32)).toNatClampNeg) (sX (l3 + (2 : Int32)).toNatClampNeg) g g390 v389 k_l1 q391
        refine SF_callVi 1262 mi_X11_forces ml_L_133 dL_law_1259 (Nat.le_trans (by decide) hd) s392 k_l1.1 rfl rfl (Nat.le_of_ble_eq_true rfl) rfl ?_
        have k_l1 := k_l1.ext s392.1
        have k_l2 := k_l2.ext s392.1
        refine SF_aload_n 2 1263 dL_law_1262 rfl rfl rfl ?_
        refine SF_aload_n 0 1264 dL_law_1263 rfl rfl rfl ?_
        refine SF_iload_n 3 1265 dL_law_1264 rfl rfl rfl ?_
        refine SF_iconst (1 : Int32) 1266 dL_law_1265 rfl rfl ?_
        refine SF_iadd 1267 dL_law_1266 rfl ?_
        obtain ⟨i393, h⟩ := gdI_some h
        refine SF_sld 1268 dL_law_1267 (by rw [hxL]; exact i393) rfl ?_
        rw [hxs]
        refine SF_aload_n 0 1269 dL_law_1268 rfl rfl rfl ?_
        refine SF_iload_n 3 1270 dL_law_1269 rfl rfl rfl ?_
        refine SF_iconst (2 : Int32) 1271 dL_law_1270 rfl rfl ?_
        refine SF_iadd 1272 dL_law_1271 rfl ?_
        obtain ⟨i394, h⟩ := gdI_some h
        refine SF_sld 1273 dL_law_1272 (by rw [hxL]; exact i394) rfl ?_
        rw [hxs]
        obtain ⟨v395, g396, q397, h⟩ := bd_some h
        have s398 := w_X12_forces (X := X) (Nat.le_refl 7) l2 (sX (l3 + (1 : Int32)).toNatClampNeg) (sX (l3 + (2 : Int32)).toNatClampNeg) g390 g396 v395 k_l2 q397
        refine SF_callVi 1276 mi_X12_forces ml_L_136 dL_law_1273 (Nat.le_trans (by decide) hd) s398 k_l2.1 rfl rfl (Nat.le_of_ble_eq_true rfl) rfl ?_
        have k_l1 := k_l1.ext s398.1
        have k_l2 := k_l2.ext s398.1
        refine SF_iceq 1817 1279 dL_law_1276 rfl rfl (fun c399 => ?_) (fun c399 => ?_)
        · have h := ite_t c399 h
          exact w_L_law_1817 hd hxL hxs (f_L_law_18 sL sX n) ih l1 l2 l3 g396 k_l1 k_l2 h
        · have h := ite_f c399 h
          refine SF_iconst (0 : Int32) 1280 dL_law_1279 rfl rfl ?_
          exact RT_b rfl rfl dL_law_1280 h
      | 29, m593, h =>
        refine SF_tabIn 1281 dL_law_33 c592 (by omega) (by rw [m593]; rfl) rfl ?_
        refine SF_aload_n 1 1282 dL_law_1281 rfl rfl rfl ?_
        refine SF_aload_n 0 1283 dL_law_1282 rfl rfl rfl ?_
        refine SF_iload_n 3 1284 dL_law_1283 rfl rfl rfl ?_
        refine SF_iconst (1 : Int32) 1285 dL_law_1284 rfl rfl ?_
        refine SF_iadd 1286 dL_law_1285 rfl ?_
        obtain ⟨i400, h⟩ := gdI_some h
        refine SF_sld 1287 dL_law_1286 (by rw [hxL]; exact i400) rfl ?_
        rw [hxs]
        refine SF_aload_n 0 1288 dL_law_1287 rfl rfl rfl ?_
        refine SF_iload_n 3 1289 dL_law_1288 rfl rfl rfl ?_
        refine SF_iconst (2 : Int32) 1290 dL_law_1289 rfl rfl ?_
        refine SF_iadd 1291 dL_law_1290 rfl ?_
        obtain ⟨i401, h⟩ := gdI_some h
        refine SF_sld 1292 dL_law_1291 (by rw [hxL]; exact i401) rfl ?_
        rw [hxs]
        obtain ⟨v402, g403, q404, h⟩ := bd_some h
        have s405 := w_X11_best (X := X) (Nat.le_refl 7) l1 (sX (l3 + (1 : Int32)).toNatClampNeg) (sX (l3 + (2 : Int32)).toNatClampNeg) g g403 v402 k_l1 q404
        refine SF_callVi 1295 mi_X11_best ml_L_137 dL_law_1292 (Nat.le_trans (by decide) hd) s405 k_l1.1 rfl rfl (Nat.le_of_ble_eq_true rfl) rfl ?_
        have k_l1 := k_l1.ext s405.1
        have k_l2 := k_l2.ext s405.1
        refine SF_aload_n 2 1296 dL_law_1295 rfl rfl rfl ?_
        refine SF_aload_n 0 1297 dL_law_1296 rfl rfl rfl ?_
        refine SF_iload_n 3 1298 dL_law_1297 rfl rfl rfl ?_
        refine SF_iconst (1 : Int32) 1299 dL_law_1298 rfl rfl ?_
        refine SF_iadd 1300 dL_law_1299 rfl ?_
        obtain ⟨i406, h⟩ := gdI_some h
        refine SF_sld 1301 dL_law_1300 (by rw [hxL]; exact i406) rfl ?_
        rw [hxs]
        refine SF_aload_n 0 1302 dL_law_1301 rfl rfl rfl ?_
        refine SF_iload_n 3 1303 dL_law_1302 rfl rfl rfl ?_
        refine SF_iconst (2 : Int32) 1304 dL_law_1303 rfl rfl ?_
        refine SF_iadd 1305 dL_law_1304 rfl ?_
        obtain ⟨i407, h⟩ := gdI_some h
        refine SF_sld 1306 dL_law_1305 (by rw [hxL]; exact i407) rfl ?_
        rw [hxs]
        obtain ⟨v408, g409, q410, h⟩ := bd_some h
        have s411 := w_X12_best (X := X) (Nat.le_refl 7) l2 (sX (l3 + (1 : Int32)).toNatClampNeg) (sX (l3 + (2 : Int32)).toNatClampNeg) g403 g409 v408 k_l2 q410
        refine SF_callVi 1309 mi_X12_best ml_L_140 dL_law_1306 (Nat.le_trans (by decide) hd) s411 k_l2.1 rfl rfl (Nat.le_of_ble_eq_true rfl) rfl ?_
        have k_l1 := k_l1.ext s411.1
        have k_l2 := k_l2.ext s411.1
        refine SF_iceq 1817 1312 dL_law_1309 rfl rfl (fun c412 => ?_) (fun c412 => ?_)
        · have h := ite_t c412 h
          exact w_L_law_1817 hd hxL hxs (f_L_law_18 sL sX n) ih l1 l2 l3 g409 k_l1 k_l2 h
        · have h := ite_f c412 h
          refine SF_iconst (0 : Int32) 1313 dL_law_1312 rfl rfl ?_
          exact RT_b rfl rfl dL_law_1313 h
      | 30, m593, h =>
        refine SF_tabIn 1314 dL_law_33 c592 (by omega) (by rw [m593]; rfl) rfl ?_
        refine SF_aload_n 1 1315 dL_law_1314 rfl rfl rfl ?_
        refine SF_aload_n 0 1316 dL_law_1315 rfl rfl rfl ?_
        refine SF_iload_n 3 1317 dL_law_1316 rfl rfl rfl ?_
        refine SF_iconst (1 : Int32) 1318 dL_law_1317 rfl rfl ?_
        refine SF_iadd 1319 dL_law_1318 rfl ?_
        obtain ⟨i413, h⟩ := gdI_some h
        refine SF_sld 1320 dL_law_1319 (by rw [hxL]; exact i413) rfl ?_
        rw [hxs]
        obtain ⟨v414, g415, q416, h⟩ := bd_some h
        have s417 := w_X11_power (X := X) (Nat.le_refl 7) l1 (sX (l3 + (1 : Int32)).toNatClampNeg) g g415 v414 k_l1 q416
        refine SF_callVl 1323 mi_X11_power ml_L_141 dL_law_1320 (Nat.le_trans (by decide) hd) s417 k_l1.1 rfl rfl (Nat.le_of_ble_eq_true rfl) rfl ?_
        have k_l1 := k_l1.ext s417.1
        have k_l2 := k_l2.ext s417.1
        refine SF_aload_n 2 1324 dL_law_1323 rfl rfl rfl ?_
        refine SF_aload_n 0 1325 dL_law_1324 rfl rfl rfl ?_
        refine SF_iload_n 3 1326 dL_law_1325 rfl rfl rfl ?_
        refine SF_iconst (1 : Int32) 1327 dL_law_1326 rfl rfl ?_
        refine SF_iadd 1328 dL_law_1327 rfl ?_
        obtain ⟨i418, h⟩ := gdI_some h
        refine SF_sld 1329 dL_law_1328 (by rw [hxL]; exact i418) rfl ?_
        rw [hxs]
        obtain ⟨v419, g420, q421, h⟩ := bd_some h
        have s422 := w_X12_power (X := X) (Nat.le_refl 7) l2 (sX (l3 + (1 : Int32)).toNatClampNeg) g415 g420 v419 k_l2 q421
        refine SF_callVl 1332 mi_X12_power ml_L_145 dL_law_1329 (Nat.le_trans (by decide) hd) s422 k_l2.1 rfl rfl (Nat.le_of_ble_eq_true rfl) rfl ?_
        have k_l1 := k_l1.ext s422.1
        have k_l2 := k_l2.ext s422.1
        refine SF_lcmp 1333 dL_law_1332 rfl ?_
        refine SF_ifeq 1817 1336 dL_law_1333 rfl rfl (fun c423 => ?_) (fun c423 => ?_)
        · have h := ite_t c423 h
          exact w_L_law_1817 hd hxL hxs (f_L_law_18 sL sX n) ih l1 l2 l3 g420 k_l1 k_l2 h
        · have h := ite_f c423 h
          refine SF_iconst (0 : Int32) 1337 dL_law_1336 rfl rfl ?_
          exact RT_b rfl rfl dL_law_1337 h
      | 31, m593, h =>
        refine SF_tabIn 1338 dL_law_33 c592 (by omega) (by rw [m593]; rfl) rfl ?_
        refine SF_aload_n 1 1339 dL_law_1338 rfl rfl rfl ?_
        refine SF_aload_n 0 1340 dL_law_1339 rfl rfl rfl ?_
        refine SF_iload_n 3 1341 dL_law_1340 rfl rfl rfl ?_
        refine SF_iconst (1 : Int32) 1342 dL_law_1341 rfl rfl ?_
        refine SF_iadd 1343 dL_law_1342 rfl ?_
        obtain ⟨i424, h⟩ := gdI_some h
        refine SF_sld 1344 dL_law_1343 (by rw [hxL]; exact i424) rfl ?_
        rw [hxs]
        refine SF_aload_n 0 1345 dL_law_1344 rfl rfl rfl ?_
        refine SF_iload_n 3 1346 dL_law_1345 rfl rfl rfl ?_
        refine SF_iconst (2 : Int32) 1347 dL_law_1346 rfl rfl ?_
        refine SF_iadd 1348 dL_law_1347 rfl ?_
        obtain ⟨i425, h⟩ := gdI_some h
        refine SF_sld 1349 dL_law_1348 (by rw [hxL]; exact i425) rfl ?_
        rw [hxs]
        obtain ⟨v426, g427, q428, h⟩ := bd_some h
        have s429 := w_X11_tried (X := X) (Nat.le_refl 7) l1 (sX (l3 + (1 : Int32)).toNatClampNeg) (sX (l3 + (2 : Int32)).toNatClampNeg) g g427 v426 k_l1 q428
        refine SF_callVl 1352 mi_X11_tried ml_L_146 dL_law_1349 (Nat.le_trans (by decide) hd) s429 k_l1.1 rfl rfl (Nat.le_of_ble_eq_true rfl) rfl ?_
        have k_l1 := k_l1.ext s429.1
        have k_l2 := k_l2.ext s429.1
        refine SF_aload_n 2 1353 dL_law_1352 rfl rfl rfl ?_
        refine SF_aload_n 0 1354 dL_law_1353 rfl rfl rfl ?_
        refine SF_iload_n 3 1355 dL_law_1354 rfl rfl rfl ?_
        refine SF_iconst (1 : Int32) 1356 dL_law_1355 rfl rfl ?_
        refine SF_iadd 1357 dL_law_1356 rfl ?_
        obtain ⟨i430, h⟩ := gdI_some h
        refine SF_sld 1358 dL_law_1357 (by rw [hxL]; exact i430) rfl ?_
        rw [hxs]
        refine SF_aload_n 0 1359 dL_law_1358 rfl rfl rfl ?_
        refine SF_iload_n 3 1360 dL_law_1359 rfl rfl rfl ?_
        refine SF_iconst (2 : Int32) 1361 dL_law_1360 rfl rfl ?_
        refine SF_iadd 1362 dL_law_1361 rfl ?_
        obtain ⟨i431, h⟩ := gdI_some h
        refine SF_sld 1363 dL_law_1362 (by rw [hxL]; exact i431) rfl ?_
        rw [hxs]
        obtain ⟨v432, g433, q434, h⟩ := bd_some h
        have s435 := w_X12_tried (X := X) (Nat.le_refl 7) l2 (sX (l3 + (1 : Int32)).toNatClampNeg) (sX (l3 + (2 : Int32)).toNatClampNeg) g427 g433 v432 k_l2 q434
        refine SF_callVl 1366 mi_X12_tried ml_L_149 dL_law_1363 (Nat.le_trans (by decide) hd) s435 k_l2.1 rfl rfl (Nat.le_of_ble_eq_true rfl) rfl ?_
        have k_l1 := k_l1.ext s435.1
        have k_l2 := k_l2.ext s435.1
        refine SF_lcmp 1367 dL_law_1366 rfl ?_
        refine SF_ifeq 1817 1370 dL_law_1367 rfl rfl (fun c436 => ?_) (fun c436 => ?_)
        · have h := ite_t c436 h
          exact w_L_law_1817 hd hxL hxs (f_L_law_18 sL sX n) ih l1 l2 l3 g433 k_l1 k_l2 h
        · have h := ite_f c436 h
          refine SF_iconst (0 : Int32) 1371 dL_law_1370 rfl rfl ?_
          exact RT_b rfl rfl dL_law_1371 h
      | 32, m593, h =>
        refine SF_tabIn 1372 dL_law_33 c592 (by omega) (by rw [m593]; rfl) rfl ?_
        refine SF_aload_n 1 1373 dL_law_1372 rfl rfl rfl ?_
        refine SF_aload_n 0 1374 dL_law_1373 rfl rfl rfl ?_
        refine SF_iload_n 3 1375 dL_law_1374 rfl rfl rfl ?_
        refine SF_iconst (1 : Int32) 1376 dL_law_1375 rfl rfl ?_
        refine SF_iadd 1377 dL_law_1376 rfl ?_
        obtain ⟨i437, h⟩ := gdI_some h
        refine SF_sld 1378 dL_law_1377 (by rw [hxL]; exact i437) rfl ?_
        rw [hxs]
        refine SF_aload_n 0 1379 dL_law_1378 rfl rfl rfl ?_
        refine SF_iload_n 3 1380 dL_law_1379 rfl rfl rfl ?_
        refine SF_iconst (2 : Int32) 1381 dL_law_1380 rfl rfl ?_
        refine SF_iadd 1382 dL_law_1381 rfl ?_
        obtain ⟨i438, h⟩ := gdI_some h
        refine SF_sld 1383 dL_law_1382 (by rw [hxL]; exact i438) rfl ?_
        rw [hxs]
        obtain ⟨v439, g440, q441, h⟩ := bd_some h
        have s442 := w_X11_many (X := X) (Nat.le_refl 7) l1 (sX (l3 + (1 : Int32)).toNatClampNeg) (sX (l3 + (2 : Int32)).toNatClampNeg) g g440 v439 k_l1 q441
        refine SF_callVi 1386 mi_X11_many ml_L_150 dL_law_1383 (Nat.le_trans (by decide) hd) s442 k_l1.1 rfl rfl (Nat.le_of_ble_eq_true rfl) rfl ?_
        have k_l1 := k_l1.ext s442.1
        have k_l2 := k_l2.ext s442.1
        refine SF_aload_n 2 1387 dL_law_1386 rfl rfl rfl ?_
        refine SF_aload_n 0 1388 dL_law_1387 rfl rfl rfl ?_
        refine SF_iload_n 3 1389 dL_law_1388 rfl rfl rfl ?_
        refine SF_iconst (1 : Int32) 1390 dL_law_1389 rfl rfl ?_
        refine SF_iadd 1391 dL_law_1390 rfl ?_
        obtain ⟨i443, h⟩ := gdI_some h
        refine SF_sld 1392 dL_law_1391 (by rw [hxL]; exact i443) rfl ?_
        rw [hxs]
        refine SF_aload_n 0 1393 dL_law_1392 rfl rfl rfl ?_
        refine SF_iload_n 3 1394 dL_law_1393 rfl rfl rfl ?_
        refine SF_iconst (2 : Int32) 1395 dL_law_1394 rfl rfl ?_
        refine SF_iadd 1396 dL_law_1395 rfl ?_
        obtain ⟨i444, h⟩ := gdI_some h
        refine SF_sld 1397 dL_law_1396 (by rw [hxL]; exact i444) rfl ?_
        rw [hxs]
        obtain ⟨v445, g446, q447, h⟩ := bd_some h
        have s448 := w_X12_many (X := X) (Nat.le_refl 7) l2 (sX (l3 + (1 : Int32)).toNatClampNeg) (sX (l3 + (2 : Int32)).toNatClampNeg) g440 g446 v445 k_l2 q447
        refine SF_callVi 1400 mi_X12_many ml_L_153 dL_law_1397 (Nat.le_trans (by decide) hd) s448 k_l2.1 rfl rfl (Nat.le_of_ble_eq_true rfl) rfl ?_
        have k_l1 := k_l1.ext s448.1
        have k_l2 := k_l2.ext s448.1
        refine SF_iceq 1817 1403 dL_law_1400 rfl rfl (fun c449 => ?_) (fun c449 => ?_)
        · have h := ite_t c449 h
          exact w_L_law_1817 hd hxL hxs (f_L_law_18 sL sX n) ih l1 l2 l3 g446 k_l1 k_l2 h
        · have h := ite_f c449 h
          refine SF_iconst (0 : Int32) 1404 dL_law_1403 rfl rfl ?_
          exact RT_b rfl rfl dL_law_1404 h
      | 33, m593, h =>
        refine SF_tabIn 1405 dL_law_33 c592 (by omega) (by rw [m593]; rfl) rfl ?_
        refine SF_aload_n 1 1406 dL_law_1405 rfl rfl rfl ?_
        refine SF_aload_n 0 1407 dL_law_1406 rfl rfl rfl ?_
        refine SF_iload_n 3 1408 dL_law_1407 rfl rfl rfl ?_
        refine SF_iconst (1 : Int32) 1409 dL_law_1408 rfl rfl ?_
        refine SF_iadd 1410 dL_law_1409 rfl ?_
        obtain ⟨i450, h⟩ := gdI_some h
        refine SF_sld 1411 dL_law_1410 (by rw [hxL]; exact i450) rfl ?_
        rw [hxs]
        refine SF_aload_n 0 1412 dL_law_1411 rfl rfl rfl ?_
        refine SF_iload_n 3 1413 dL_law_1412 rfl rfl rfl ?_
        refine SF_iconst (2 : Int32) 1414 dL_law_1413 rfl rfl ?_
        refine SF_iadd 1415 dL_law_1414 rfl ?_
        obtain ⟨i451, h⟩ := gdI_some h
        refine SF_sld 1416 dL_law_1415 (by rw [hxL]; exact i451) rfl ?_
        rw [hxs]
        obtain ⟨v452, g453, q454, h⟩ := bd_some h
        have s455 := w_X11_attempt (X := X) (Nat.le_refl 7) l1 (sX (l3 + (1 : Int32)).toNatClampNeg) (sX (l3 + (2 : Int32)).toNatClampNeg) g g453 v452 k_l1 q454
        refine SF_callVi 1419 mi_X11_attempt ml_L_154 dL_law_1416 (Nat.le_trans (by decide) hd) s455 k_l1.1 rfl rfl (Nat.le_of_ble_eq_true rfl) rfl ?_
        have k_l1 := k_l1.ext s455.1
        have k_l2 := k_l2.ext s455.1
        refine SF_aload_n 2 1420 dL_law_1419 rfl rfl rfl ?_
        refine SF_aload_n 0 1421 dL_law_1420 rfl rfl rfl ?_
        refine SF_iload_n 3 1422 dL_law_1421 rfl rfl rfl ?_
        refine SF_iconst (1 : Int32) 1423 dL_law_1422 rfl rfl ?_
        refine SF_iadd 1424 dL_law_1423 rfl ?_
        obtain ⟨i456, h⟩ := gdI_some h
        refine SF_sld 1425 dL_law_1424 (by rw [hxL]; exact i456) rfl ?_
        rw [hxs]
        refine SF_aload_n 0 1426 dL_law_1425 rfl rfl rfl ?_
        refine SF_iload_n 3 1427 dL_law_1426 rfl rfl rfl ?_
        refine SF_iconst (2 : Int32) 1428 dL_law_1427 rfl rfl ?_
        refine SF_iadd 1429 dL_law_1428 rfl ?_
        obtain ⟨i457, h⟩ := gdI_some h
        refine SF_sld 1430 dL_law_1429 (by rw [hxL]; exact i457) rfl ?_
        rw [hxs]
        obtain ⟨v458, g459, q460, h⟩ := bd_some h
        have s461 := w_X12_attempt (X := X) (Nat.le_refl 7) l2 (sX (l3 + (1 : Int32)).toNatClampNeg) (sX (l3 + (2 : Int32)).toNatClampNeg) g453 g459 v458 k_l2 q460
        refine SF_callVi 1433 mi_X12_attempt ml_L_157 dL_law_1430 (Nat.le_trans (by decide) hd) s461 k_l2.1 rfl rfl (Nat.le_of_ble_eq_true rfl) rfl ?_
        have k_l1 := k_l1.ext s461.1
        have k_l2 := k_l2.ext s461.1
        refine SF_iceq 1817 1436 dL_law_1433 rfl rfl (fun c462 => ?_) (fun c462 => ?_)
        · have h := ite_t c462 h
          exact w_L_law_1817 hd hxL hxs (f_L_law_18 sL sX n) ih l1 l2 l3 g459 k_l1 k_l2 h
        · have h := ite_f c462 h
          refine SF_iconst (0 : Int32) 1437 dL_law_1436 rfl rfl ?_
          exact RT_b rfl rfl dL_law_1437 h
      | 34, m593, h =>
        refine SF_tabIn 1438 dL_law_33 c592 (by omega) (by rw [m593]; rfl) rfl ?_
        refine SF_aload_n 1 1439 dL_law_1438 rfl rfl rfl ?_
        refine SF_aload_n 0 1440 dL_law_1439 rfl rfl rfl ?_
        refine SF_iload_n 3 1441 dL_law_1440 rfl rfl rfl ?_
        refine SF_iconst (1 : Int32) 1442 dL_law_1441 rfl rfl ?_
        refine SF_iadd 1443 dL_law_1442 rfl ?_
        obtain ⟨i463, h⟩ := gdI_some h
        refine SF_sld 1444 dL_law_1443 (by rw [hxL]; exact i463) rfl ?_
        rw [hxs]
        refine SF_aload_n 0 1445 dL_law_1444 rfl rfl rfl ?_
        refine SF_iload_n 3 1446 dL_law_1445 rfl rfl rfl ?_
        refine SF_iconst (2 : Int32) 1447 dL_law_1446 rfl rfl ?_
        refine SF_iadd 1448 dL_law_1447 rfl ?_
        obtain ⟨i464, h⟩ := gdI_some h
        refine SF_sld 1449 dL_law_1448 (by rw [hxL]; exact i464) rfl ?_
        rw [hxs]
        obtain ⟨v465, g466, q467, h⟩ := bd_some h
        have s468 := w_X11_moods (X := X) (Nat.le_refl 6) l1 (sX (l3 + (1 : Int32)).toNatClampNeg) (sX (l3 + (2 : Int32)).toNatClampNeg) g g466 v465 k_l1 q467
        refine SF_callVi 1452 mi_X11_moods ml_L_158 dL_law_1449 (Nat.le_trans (by decide) hd) s468 k_l1.1 rfl rfl (Nat.le_of_ble_eq_true rfl) rfl ?_
        have k_l1 := k_l1.ext s468.1
        have k_l2 := k_l2.ext s468.1
        refine SF_aload_n 2 1453 dL_law_1452 rfl rfl rfl ?_
        refine SF_aload_n 0 1454 dL_law_1453 rfl rfl rfl ?_
        refine SF_iload_n 3 1455 dL_law_1454 rfl rfl rfl ?_
        refine SF_iconst (1 : Int32) 1456 dL_law_1455 rfl rfl ?_
        refine SF_iadd 1457 dL_law_1456 rfl ?_
        obtain ⟨i469, h⟩ := gdI_some h
        refine SF_sld 1458 dL_law_1457 (by rw [hxL]; exact i469) rfl ?_
        rw [hxs]
        refine SF_aload_n 0 1459 dL_law_1458 rfl rfl rfl ?_
        refine SF_iload_n 3 1460 dL_law_1459 rfl rfl rfl ?_
        refine SF_iconst (2 : Int32) 1461 dL_law_1460 rfl rfl ?_
        refine SF_iadd 1462 dL_law_1461 rfl ?_
        obtain ⟨i470, h⟩ := gdI_some h
        refine SF_sld 1463 dL_law_1462 (by rw [hxL]; exact i470) rfl ?_
        rw [hxs]
        obtain ⟨v471, g472, q473, h⟩ := bd_some h
        have s474 := w_X12_moods (X := X) (Nat.le_refl 6) l2 (sX (l3 + (1 : Int32)).toNatClampNeg) (sX (l3 + (2 : Int32)).toNatClampNeg) g466 g472 v471 k_l2 q473
        refine SF_callVi 1466 mi_X12_moods ml_L_161 dL_law_1463 (Nat.le_trans (by decide) hd) s474 k_l2.1 rfl rfl (Nat.le_of_ble_eq_true rfl) rfl ?_
        have k_l1 := k_l1.ext s474.1
        have k_l2 := k_l2.ext s474.1
        refine SF_iceq 1817 1469 dL_law_1466 rfl rfl (fun c475 => ?_) (fun c475 => ?_)
        · have h := ite_t c475 h
          exact w_L_law_1817 hd hxL hxs (f_L_law_18 sL sX n) ih l1 l2 l3 g472 k_l1 k_l2 h
        · have h := ite_f c475 h
          refine SF_iconst (0 : Int32) 1470 dL_law_1469 rfl rfl ?_
          exact RT_b rfl rfl dL_law_1470 h
      | 35, m593, h =>
        refine SF_tabIn 1471 dL_law_33 c592 (by omega) (by rw [m593]; rfl) rfl ?_
        refine SF_aload_n 1 1472 dL_law_1471 rfl rfl rfl ?_
        refine SF_aload_n 0 1473 dL_law_1472 rfl rfl rfl ?_
        refine SF_iload_n 3 1474 dL_law_1473 rfl rfl rfl ?_
        refine SF_iconst (1 : Int32) 1475 dL_law_1474 rfl rfl ?_
        refine SF_iadd 1476 dL_law_1475 rfl ?_
        obtain ⟨i476, h⟩ := gdI_some h
        refine SF_sld 1477 dL_law_1476 (by rw [hxL]; exact i476) rfl ?_
        rw [hxs]
        refine SF_aload_n 0 1478 dL_law_1477 rfl rfl rfl ?_
        refine SF_iload_n 3 1479 dL_law_1478 rfl rfl rfl ?_
        refine SF_iconst (2 : Int32) 1480 dL_law_1479 rfl rfl ?_
        refine SF_iadd 1481 dL_law_1480 rfl ?_
        obtain ⟨i477, h⟩ := gdI_some h
        refine SF_sld 1482 dL_law_1481 (by rw [hxL]; exact i477) rfl ?_
        rw [hxs]
        refine SF_aload_n 0 1483 dL_law_1482 rfl rfl rfl ?_
        refine SF_iload_n 3 1484 dL_law_1483 rfl rfl rfl ?_
        refine SF_iconst (3 : Int32) 1485 dL_law_1484 rfl rfl ?_
        refine SF_iadd 1486 dL_law_1485 rfl ?_
        obtain ⟨i478, h⟩ := gdI_some h
        refine SF_sld 1487 dL_law_1486 (by rw [hxL]; exact i478) rfl ?_
        rw [hxs]
        refine SF_aload_n 0 1488 dL_law_1487 rfl rfl rfl ?_
        refine SF_iload_n 3 1489 dL_law_1488 rfl rfl rfl ?_
        refine SF_iconst (4 : Int32) 1490 dL_law_1489 rfl rfl ?_
        refine SF_iadd 1491 dL_law_1490 rfl ?_
        obtain ⟨i479, h⟩ := gdI_some h
        refine SF_sld 1492 dL_law_1491 (by rw [hxL]; exact i479) rfl ?_
        rw [hxs]
        refine SF_aload_n 0 1493 dL_law_1492 rfl rfl rfl ?_
        refine SF_iload_n 3 1494 dL_law_1493 rfl rfl rfl ?_
        refine SF_iconst (5 : Int32) 1495 dL_law_1494 rfl rfl ?_
        refine SF_iadd 1496 dL_law_1495 rfl ?_
        obtain ⟨i480, h⟩ := gdI_some h
        refine SF_sld 1497 dL_law_1496 (by rw [hxL]; exact i480) rfl ?_
        rw [hxs]
        obtain ⟨v481, g482, q483, h⟩ := bd_some h
        have s484 := w_X11_chance (X := X) (Nat.le_refl 7) l1 (sX (l3 + (1 : Int32)).toNatClampNeg) (sX (l3 + (2 : Int32)).toNatClampNeg) (sX (l3 + (3 : Int32)).toNatClampNeg) (sX (l3 + (4 : Int32)).toNatClampNeg) (sX (l3 + (5 : Int32)).toNatClampNeg) g g482 v481 k_l1 q483
        refine SF_callVl 1500 mi_X11_chance ml_L_162 dL_law_1497 (Nat.le_trans (by decide) hd) s484 k_l1.1 rfl rfl (Nat.le_of_ble_eq_true rfl) rfl ?_
        have k_l1 := k_l1.ext s484.1
        have k_l2 := k_l2.ext s484.1
        refine SF_aload_n 2 1501 dL_law_1500 rfl rfl rfl ?_
        refine SF_aload_n 0 1502 dL_law_1501 rfl rfl rfl ?_
        refine SF_iload_n 3 1503 dL_law_1502 rfl rfl rfl ?_
        refine SF_iconst (1 : Int32) 1504 dL_law_1503 rfl rfl ?_
        refine SF_iadd 1505 dL_law_1504 rfl ?_
        obtain ⟨i485, h⟩ := gdI_some h
        refine SF_sld 1506 dL_law_1505 (by rw [hxL]; exact i485) rfl ?_
        rw [hxs]
        refine SF_aload_n 0 1507 dL_law_1506 rfl rfl rfl ?_
        refine SF_iload_n 3 1508 dL_law_1507 rfl rfl rfl ?_
        refine SF_iconst (2 : Int32) 1509 dL_law_1508 rfl rfl ?_
        refine SF_iadd 1510 dL_law_1509 rfl ?_
        obtain ⟨i486, h⟩ := gdI_some h
        refine SF_sld 1511 dL_law_1510 (by rw [hxL]; exact i486) rfl ?_
        rw [hxs]
        refine SF_aload_n 0 1512 dL_law_1511 rfl rfl rfl ?_
        refine SF_iload_n 3 1513 dL_law_1512 rfl rfl rfl ?_
        refine SF_iconst (3 : Int32) 1514 dL_law_1513 rfl rfl ?_
        refine SF_iadd 1515 dL_law_1514 rfl ?_
        obtain ⟨i487, h⟩ := gdI_some h
        refine SF_sld 1516 dL_law_1515 (by rw [hxL]; exact i487) rfl ?_
        rw [hxs]
        refine SF_aload_n 0 1517 dL_law_1516 rfl rfl rfl ?_
        refine SF_iload_n 3 1518 dL_law_1517 rfl rfl rfl ?_
        refine SF_iconst (4 : Int32) 1519 dL_law_1518 rfl rfl ?_
        refine SF_iadd 1520 dL_law_1519 rfl ?_
        obtain ⟨i488, h⟩ := gdI_some h
        refine SF_sld 1521 dL_law_1520 (by rw [hxL]; exact i488) rfl ?_
        rw [hxs]
        refine SF_aload_n 0 1522 dL_law_1521 rfl rfl rfl ?_
        refine SF_iload_n 3 1523 dL_law_1522 rfl rfl rfl ?_
        refine SF_iconst (5 : Int32) 1524 dL_law_1523 rfl rfl ?_
        refine SF_iadd 1525 dL_law_1524 rfl ?_
        obtain ⟨i489, h⟩ := gdI_some h
        refine SF_sld 1526 dL_law_1525 (by rw [hxL]; exact i489) rfl ?_
        rw [hxs]
        obtain ⟨v490, g491, q492, h⟩ := bd_some h
        have s493 := w_X12_chance (X := X) (Nat.le_refl 102) l2 (sX (l3 + (1 : Int32)).toNatClampNeg) (sX (l3 + (2 : Int32)).toNatClampNeg) (sX (l3 + (3 : Int32)).toNatClampNeg) (sX (l3 + (4 : Int32)).toNatClampNeg) (sX (l3 + (5 : Int32)).toNatClampNeg) g482 g491 v490 k_l2 q492
        refine SF_callVl 1529 mi_X12_chance ml_L_166 dL_law_1526 (Nat.le_trans (by decide) hd) s493 k_l2.1 rfl rfl (Nat.le_of_ble_eq_true rfl) rfl ?_
        have k_l1 := k_l1.ext s493.1
        have k_l2 := k_l2.ext s493.1
        refine SF_lcmp 1530 dL_law_1529 rfl ?_
        refine SF_ifeq 1817 1533 dL_law_1530 rfl rfl (fun c494 => ?_) (fun c494 => ?_)
        · have h := ite_t c494 h
          exact w_L_law_1817 hd hxL hxs (f_L_law_18 sL sX n) ih l1 l2 l3 g491 k_l1 k_l2 h
        · have h := ite_f c494 h
          refine SF_iconst (0 : Int32) 1534 dL_law_1533 rfl rfl ?_
          exact RT_b rfl rfl dL_law_1534 h
      | 36, m593, h =>
        refine SF_tabIn 1535 dL_law_33 c592 (by omega) (by rw [m593]; rfl) rfl ?_
        refine SF_aload_n 1 1536 dL_law_1535 rfl rfl rfl ?_
        refine SF_aload_n 0 1537 dL_law_1536 rfl rfl rfl ?_
        refine SF_iload_n 3 1538 dL_law_1537 rfl rfl rfl ?_
        refine SF_iconst (1 : Int32) 1539 dL_law_1538 rfl rfl ?_
        refine SF_iadd 1540 dL_law_1539 rfl ?_
        obtain ⟨i495, h⟩ := gdI_some h
        refine SF_sld 1541 dL_law_1540 (by rw [hxL]; exact i495) rfl ?_
        rw [hxs]
        refine SF_aload_n 0 1542 dL_law_1541 rfl rfl rfl ?_
        refine SF_iload_n 3 1543 dL_law_1542 rfl rfl rfl ?_
        refine SF_iconst (2 : Int32) 1544 dL_law_1543 rfl rfl ?_
        refine SF_iadd 1545 dL_law_1544 rfl ?_
        obtain ⟨i496, h⟩ := gdI_some h
        refine SF_sld 1546 dL_law_1545 (by rw [hxL]; exact i496) rfl ?_
        rw [hxs]
        refine SF_aload_n 0 1547 dL_law_1546 rfl rfl rfl ?_
        refine SF_iload_n 3 1548 dL_law_1547 rfl rfl rfl ?_
        refine SF_iconst (3 : Int32) 1549 dL_law_1548 rfl rfl ?_
        refine SF_iadd 1550 dL_law_1549 rfl ?_
        obtain ⟨i497, h⟩ := gdI_some h
        refine SF_sld 1551 dL_law_1550 (by rw [hxL]; exact i497) rfl ?_
        rw [hxs]
        obtain ⟨v498, g499, q500, h⟩ := bd_some h
        have s501 := w_X11_likeliest (X := X) (Nat.le_refl 7) l1 (sX (l3 + (1 : Int32)).toNatClampNeg) (sX (l3 + (2 : Int32)).toNatClampNeg) (sX (l3 + (3 : Int32)).toNatClampNeg) g g499 v498 k_l1 q500
        refine SF_callVi 1554 mi_X11_likeliest ml_L_167 dL_law_1551 (Nat.le_trans (by decide) hd) s501 k_l1.1 rfl rfl (Nat.le_of_ble_eq_true rfl) rfl ?_
        have k_l1 := k_l1.ext s501.1
        have k_l2 := k_l2.ext s501.1
        refine SF_aload_n 2 1555 dL_law_1554 rfl rfl rfl ?_
        refine SF_aload_n 0 1556 dL_law_1555 rfl rfl rfl ?_
        refine SF_iload_n 3 1557 dL_law_1556 rfl rfl rfl ?_
        refine SF_iconst (1 : Int32) 1558 dL_law_1557 rfl rfl ?_
        refine SF_iadd 1559 dL_law_1558 rfl ?_
        obtain ⟨i502, h⟩ := gdI_some h
        refine SF_sld 1560 dL_law_1559 (by rw [hxL]; exact i502) rfl ?_
        rw [hxs]
        refine SF_aload_n 0 1561 dL_law_1560 rfl rfl rfl ?_
        refine SF_iload_n 3 1562 dL_law_1561 rfl rfl rfl ?_
        refine SF_iconst (2 : Int32) 1563 dL_law_1562 rfl rfl ?_
        refine SF_iadd 1564 dL_law_1563 rfl ?_
        obtain ⟨i503, h⟩ := gdI_some h
        refine SF_sld 1565 dL_law_1564 (by rw [hxL]; exact i503) rfl ?_
        rw [hxs]
        refine SF_aload_n 0 1566 dL_law_1565 rfl rfl rfl ?_
        refine SF_iload_n 3 1567 dL_law_1566 rfl rfl rfl ?_
        refine SF_iconst (3 : Int32) 1568 dL_law_1567 rfl rfl ?_
        refine SF_iadd 1569 dL_law_1568 rfl ?_
        obtain ⟨i504, h⟩ := gdI_some h
        refine SF_sld 1570 dL_law_1569 (by rw [hxL]; exact i504) rfl ?_
        rw [hxs]
        obtain ⟨v505, g506, q507, h⟩ := bd_some h
        have s508 := w_X12_likeliest (X := X) (Nat.le_refl 8) l2 (sX (l3 + (1 : Int32)).toNatClampNeg) (sX (l3 + (2 : Int32)).toNatClampNeg) (sX (l3 + (3 : Int32)).toNatClampNeg) g499 g506 v505 k_l2 q507
        refine SF_callVi 1573 mi_X12_likeliest ml_L_170 dL_law_1570 (Nat.le_trans (by decide) hd) s508 k_l2.1 rfl rfl (Nat.le_of_ble_eq_true rfl) rfl ?_
        have k_l1 := k_l1.ext s508.1
        have k_l2 := k_l2.ext s508.1
        refine SF_iceq 1817 1576 dL_law_1573 rfl rfl (fun c509 => ?_) (fun c509 => ?_)
        · have h := ite_t c509 h
          exact w_L_law_1817 hd hxL hxs (f_L_law_18 sL sX n) ih l1 l2 l3 g506 k_l1 k_l2 h
        · have h := ite_f c509 h
          refine SF_iconst (0 : Int32) 1577 dL_law_1576 rfl rfl ?_
          exact RT_b rfl rfl dL_law_1577 h
      | 37, m593, h =>
        refine SF_tabIn 1578 dL_law_33 c592 (by omega) (by rw [m593]; rfl) rfl ?_
        refine SF_aload_n 1 1579 dL_law_1578 rfl rfl rfl ?_
        refine SF_aload_n 0 1580 dL_law_1579 rfl rfl rfl ?_
        refine SF_iload_n 3 1581 dL_law_1580 rfl rfl rfl ?_
        refine SF_iconst (1 : Int32) 1582 dL_law_1581 rfl rfl ?_
        refine SF_iadd 1583 dL_law_1582 rfl ?_
        obtain ⟨i510, h⟩ := gdI_some h
        refine SF_sld 1584 dL_law_1583 (by rw [hxL]; exact i510) rfl ?_
        rw [hxs]
        refine SF_aload_n 0 1585 dL_law_1584 rfl rfl rfl ?_
        refine SF_iload_n 3 1586 dL_law_1585 rfl rfl rfl ?_
        refine SF_iconst (2 : Int32) 1587 dL_law_1586 rfl rfl ?_
        refine SF_iadd 1588 dL_law_1587 rfl ?_
        obtain ⟨i511, h⟩ := gdI_some h
        refine SF_sld 1589 dL_law_1588 (by rw [hxL]; exact i511) rfl ?_
        rw [hxs]
        refine SF_aload_n 0 1590 dL_law_1589 rfl rfl rfl ?_
        refine SF_iload_n 3 1591 dL_law_1590 rfl rfl rfl ?_
        refine SF_iconst (3 : Int32) 1592 dL_law_1591 rfl rfl ?_
        refine SF_iadd 1593 dL_law_1592 rfl ?_
        obtain ⟨i512, h⟩ := gdI_some h
        refine SF_sld 1594 dL_law_1593 (by rw [hxL]; exact i512) rfl ?_
        rw [hxs]
        obtain ⟨v513, g514, q515, h⟩ := bd_some h
        have s516 := w_X11_numbers (X := X) (Nat.le_refl 2) l1 (sX (l3 + (1 : Int32)).toNatClampNeg) (sX (l3 + (2 : Int32)).toNatClampNeg) (sX (l3 + (3 : Int32)).toNatClampNeg) g g514 v513 k_l1 q515
        refine SF_callVi 1597 mi_X11_numbers ml_L_171 dL_law_1594 (Nat.le_trans (by decide) hd) s516 k_l1.1 rfl rfl (Nat.le_of_ble_eq_true rfl) rfl ?_
        have k_l1 := k_l1.ext s516.1
        have k_l2 := k_l2.ext s516.1
        refine SF_aload_n 2 1598 dL_law_1597 rfl rfl rfl ?_
        refine SF_aload_n 0 1599 dL_law_1598 rfl rfl rfl ?_
        refine SF_iload_n 3 1600 dL_law_1599 rfl rfl rfl ?_
        refine SF_iconst (1 : Int32) 1601 dL_law_1600 rfl rfl ?_
        refine SF_iadd 1602 dL_law_1601 rfl ?_
        obtain ⟨i517, h⟩ := gdI_some h
        refine SF_sld 1603 dL_law_1602 (by rw [hxL]; exact i517) rfl ?_
        rw [hxs]
        refine SF_aload_n 0 1604 dL_law_1603 rfl rfl rfl ?_
        refine SF_iload_n 3 1605 dL_law_1604 rfl rfl rfl ?_
        refine SF_iconst (2 : Int32) 1606 dL_law_1605 rfl rfl ?_
        refine SF_iadd 1607 dL_law_1606 rfl ?_
        obtain ⟨i518, h⟩ := gdI_some h
        refine SF_sld 1608 dL_law_1607 (by rw [hxL]; exact i518) rfl ?_
        rw [hxs]
        refine SF_aload_n 0 1609 dL_law_1608 rfl rfl rfl ?_
        refine SF_iload_n 3 1610 dL_law_1609 rfl rfl rfl ?_
        refine SF_iconst (3 : Int32) 1611 dL_law_1610 rfl rfl ?_
        refine SF_iadd 1612 dL_law_1611 rfl ?_
        obtain ⟨i519, h⟩ := gdI_some h
        refine SF_sld 1613 dL_law_1612 (by rw [hxL]; exact i519) rfl ?_
        rw [hxs]
        obtain ⟨v520, g521, q522, h⟩ := bd_some h
        have s523 := w_X12_numbers (X := X) (Nat.le_refl 1) l2 (sX (l3 + (1 : Int32)).toNatClampNeg) (sX (l3 + (2 : Int32)).toNatClampNeg) (sX (l3 + (3 : Int32)).toNatClampNeg) g514 g521 v520 k_l2 q522
        refine SF_callVi 1616 mi_X12_numbers ml_L_174 dL_law_1613 (Nat.le_trans (by decide) hd) s523 k_l2.1 rfl rfl (Nat.le_of_ble_eq_true rfl) rfl ?_
        have k_l1 := k_l1.ext s523.1
        have k_l2 := k_l2.ext s523.1
        refine SF_iceq 1817 1619 dL_law_1616 rfl rfl (fun c524 => ?_) (fun c524 => ?_)
        · have h := ite_t c524 h
          exact w_L_law_1817 hd hxL hxs (f_L_law_18 sL sX n) ih l1 l2 l3 g521 k_l1 k_l2 h
        · have h := ite_f c524 h
          refine SF_iconst (0 : Int32) 1620 dL_law_1619 rfl rfl ?_
          exact RT_b rfl rfl dL_law_1620 h
      | 38, m593, h =>
        refine SF_tabIn 1621 dL_law_33 c592 (by omega) (by rw [m593]; rfl) rfl ?_
        refine SF_aload_n 1 1622 dL_law_1621 rfl rfl rfl ?_
        refine SF_aload_n 0 1623 dL_law_1622 rfl rfl rfl ?_
        refine SF_iload_n 3 1624 dL_law_1623 rfl rfl rfl ?_
        refine SF_iconst (1 : Int32) 1625 dL_law_1624 rfl rfl ?_
        refine SF_iadd 1626 dL_law_1625 rfl ?_
        obtain ⟨i525, h⟩ := gdI_some h
        refine SF_sld 1627 dL_law_1626 (by rw [hxL]; exact i525) rfl ?_
        rw [hxs]
        refine SF_aload_n 0 1628 dL_law_1627 rfl rfl rfl ?_
        refine SF_iload_n 3 1629 dL_law_1628 rfl rfl rfl ?_
        refine SF_iconst (2 : Int32) 1630 dL_law_1629 rfl rfl ?_
        refine SF_iadd 1631 dL_law_1630 rfl ?_
        obtain ⟨i526, h⟩ := gdI_some h
        refine SF_sld 1632 dL_law_1631 (by rw [hxL]; exact i526) rfl ?_
        rw [hxs]
        refine SF_aload_n 0 1633 dL_law_1632 rfl rfl rfl ?_
        refine SF_iload_n 3 1634 dL_law_1633 rfl rfl rfl ?_
        refine SF_iconst (3 : Int32) 1635 dL_law_1634 rfl rfl ?_
        refine SF_iadd 1636 dL_law_1635 rfl ?_
        obtain ⟨i527, h⟩ := gdI_some h
        refine SF_sld 1637 dL_law_1636 (by rw [hxL]; exact i527) rfl ?_
        rw [hxs]
        refine SF_i2l 1638 dL_law_1637 rfl ?_
        refine SF_bipush (32 : Int32) 1640 dL_law_1638 rfl rfl ?_
        refine SF_lshl 1641 dL_law_1640 rfl ?_
        refine SF_aload_n 0 1642 dL_law_1641 rfl rfl rfl ?_
        refine SF_iload_n 3 1643 dL_law_1642 rfl rfl rfl ?_
        refine SF_iconst (4 : Int32) 1644 dL_law_1643 rfl rfl ?_
        refine SF_iadd 1645 dL_law_1644 rfl ?_
        obtain ⟨i528, h⟩ := gdI_some h
        refine SF_sld 1646 dL_law_1645 (by rw [hxL]; exact i528) rfl ?_
        rw [hxs]
        refine SF_i2l 1647 dL_law_1646 rfl ?_
        refine SF_ldc2 1650 dL_law_1647 kl_L_175 rfl ?_
        refine SF_land 1651 dL_law_1650 rfl ?_
        refine SF_lor 1652 dL_law_1651 rfl ?_
        obtain ⟨v529, g530, q531, h⟩ := bd_some h
        have s532 := w_X11_write (X := X) (Nat.le_refl 2) l1 (sX (l3 + (1 : Int32)).toNatClampNeg) (sX (l3 + (2 : Int32)).toNatClampNeg) ((((sX (l3 + (3 : Int32)).toNatClampNeg).toInt64) <<< ((32 : Int32).toInt64 &&& 63)) ||| (((sX (l3 + (4 : Int32)).toNatClampNeg).toInt64) &&& (4294967295 : Int64))) g g530 v529 k_l1 q531
        refine SF_callVl 1655 mi_X11_write ml_L_177 dL_law_1652 (Nat.le_trans (by decide) hd) s532 k_l1.1 rfl rfl (Nat.le_of_ble_eq_true rfl) rfl ?_
        have k_l1 := k_l1.ext s532.1
        have k_l2 := k_l2.ext s532.1
        refine SF_aload_n 2 1656 dL_law_1655 rfl rfl rfl ?_
        refine SF_aload_n 0 1657 dL_law_1656 rfl rfl rfl ?_
        refine SF_iload_n 3 1658 dL_law_1657 rfl rfl rfl ?_
        refine SF_iconst (1 : Int32) 1659 dL_law_1658 rfl rfl ?_
        refine SF_iadd 1660 dL_law_1659 rfl ?_
        obtain ⟨i533, h⟩ := gdI_some h
        refine SF_sld 1661 dL_law_1660 (by rw [hxL]; exact i533) rfl ?_
        rw [hxs]
        refine SF_aload_n 0 1662 dL_law_1661 rfl rfl rfl ?_
        refine SF_iload_n 3 1663 dL_law_1662 rfl rfl rfl ?_
        refine SF_iconst (2 : Int32) 1664 dL_law_1663 rfl rfl ?_
        refine SF_iadd 1665 dL_law_1664 rfl ?_
        obtain ⟨i534, h⟩ := gdI_some h
        refine SF_sld 1666 dL_law_1665 (by rw [hxL]; exact i534) rfl ?_
        rw [hxs]
        refine SF_aload_n 0 1667 dL_law_1666 rfl rfl rfl ?_
        refine SF_iload_n 3 1668 dL_law_1667 rfl rfl rfl ?_
        refine SF_iconst (3 : Int32) 1669 dL_law_1668 rfl rfl ?_
        refine SF_iadd 1670 dL_law_1669 rfl ?_
        obtain ⟨i535, h⟩ := gdI_some h
        refine SF_sld 1671 dL_law_1670 (by rw [hxL]; exact i535) rfl ?_
        rw [hxs]
        refine SF_i2l 1672 dL_law_1671 rfl ?_
        refine SF_bipush (32 : Int32) 1674 dL_law_1672 rfl rfl ?_
        refine SF_lshl 1675 dL_law_1674 rfl ?_
        refine SF_aload_n 0 1676 dL_law_1675 rfl rfl rfl ?_
        refine SF_iload_n 3 1677 dL_law_1676 rfl rfl rfl ?_
        refine SF_iconst (4 : Int32) 1678 dL_law_1677 rfl rfl ?_
        refine SF_iadd 1679 dL_law_1678 rfl ?_
        obtain ⟨i536, h⟩ := gdI_some h
        refine SF_sld 1680 dL_law_1679 (by rw [hxL]; exact i536) rfl ?_
        rw [hxs]
        refine SF_i2l 1681 dL_law_1680 rfl ?_
        refine SF_ldc2 1684 dL_law_1681 kl_L_175 rfl ?_
        refine SF_land 1685 dL_law_1684 rfl ?_
        refine SF_lor 1686 dL_law_1685 rfl ?_
        obtain ⟨v537, g538, q539, h⟩ := bd_some h
        have s540 := w_X12_write (X := X) (Nat.le_refl 2) l2 (sX (l3 + (1 : Int32)).toNatClampNeg) (sX (l3 + (2 : Int32)).toNatClampNeg) ((((sX (l3 + (3 : Int32)).toNatClampNeg).toInt64) <<< ((32 : Int32).toInt64 &&& 63)) ||| (((sX (l3 + (4 : Int32)).toNatClampNeg).toInt64) &&& (4294967295 : Int64))) g530 g538 v537 k_l2 q539
        refine SF_callVl 1689 mi_X12_write ml_L_181 dL_law_1686 (Nat.le_trans (by decide) hd) s540 k_l2.1 rfl rfl (Nat.le_of_ble_eq_true rfl) rfl ?_
        have k_l1 := k_l1.ext s540.1
        have k_l2 := k_l2.ext s540.1
        refine SF_lcmp 1690 dL_law_1689 rfl ?_
        refine SF_ifeq 1817 1693 dL_law_1690 rfl rfl (fun c541 => ?_) (fun c541 => ?_)
        · have h := ite_t c541 h
          exact w_L_law_1817 hd hxL hxs (f_L_law_18 sL sX n) ih l1 l2 l3 g538 k_l1 k_l2 h
        · have h := ite_f c541 h
          refine SF_iconst (0 : Int32) 1694 dL_law_1693 rfl rfl ?_
          exact RT_b rfl rfl dL_law_1694 h
      | 39, m593, h =>
        refine SF_tabIn 1695 dL_law_33 c592 (by omega) (by rw [m593]; rfl) rfl ?_
        refine SF_aload_n 1 1696 dL_law_1695 rfl rfl rfl ?_
        refine SF_aload_n 0 1697 dL_law_1696 rfl rfl rfl ?_
        refine SF_iload_n 3 1698 dL_law_1697 rfl rfl rfl ?_
        refine SF_iconst (1 : Int32) 1699 dL_law_1698 rfl rfl ?_
        refine SF_iadd 1700 dL_law_1699 rfl ?_
        obtain ⟨i542, h⟩ := gdI_some h
        refine SF_sld 1701 dL_law_1700 (by rw [hxL]; exact i542) rfl ?_
        rw [hxs]
        refine SF_aload_n 0 1702 dL_law_1701 rfl rfl rfl ?_
        refine SF_iload_n 3 1703 dL_law_1702 rfl rfl rfl ?_
        refine SF_iconst (2 : Int32) 1704 dL_law_1703 rfl rfl ?_
        refine SF_iadd 1705 dL_law_1704 rfl ?_
        obtain ⟨i543, h⟩ := gdI_some h
        refine SF_sld 1706 dL_law_1705 (by rw [hxL]; exact i543) rfl ?_
        rw [hxs]
        refine SF_aload_n 0 1707 dL_law_1706 rfl rfl rfl ?_
        refine SF_iload_n 3 1708 dL_law_1707 rfl rfl rfl ?_
        refine SF_iconst (3 : Int32) 1709 dL_law_1708 rfl rfl ?_
        refine SF_iadd 1710 dL_law_1709 rfl ?_
        obtain ⟨i544, h⟩ := gdI_some h
        refine SF_sld 1711 dL_law_1710 (by rw [hxL]; exact i544) rfl ?_
        rw [hxs]
        refine SF_aload_n 0 1712 dL_law_1711 rfl rfl rfl ?_
        refine SF_iload_n 3 1713 dL_law_1712 rfl rfl rfl ?_
        refine SF_iconst (4 : Int32) 1714 dL_law_1713 rfl rfl ?_
        refine SF_iadd 1715 dL_law_1714 rfl ?_
        obtain ⟨i545, h⟩ := gdI_some h
        refine SF_sld 1716 dL_law_1715 (by rw [hxL]; exact i545) rfl ?_
        rw [hxs]
        obtain ⟨v546, g547, q548, h⟩ := bd_some h
        have s549 := w_X11_lists (X := X) (Nat.le_refl 7) l1 (sX (l3 + (1 : Int32)).toNatClampNeg) (sX (l3 + (2 : Int32)).toNatClampNeg) (sX (l3 + (3 : Int32)).toNatClampNeg) (sX (l3 + (4 : Int32)).toNatClampNeg) g g547 v546 k_l1 q548
        refine SF_callVi 1719 mi_X11_lists ml_L_182 dL_law_1716 (Nat.le_trans (by decide) hd) s549 k_l1.1 rfl rfl (Nat.le_of_ble_eq_true rfl) rfl ?_
        have k_l1 := k_l1.ext s549.1
        have k_l2 := k_l2.ext s549.1
        refine SF_aload_n 2 1720 dL_law_1719 rfl rfl rfl ?_
        refine SF_aload_n 0 1721 dL_law_1720 rfl rfl rfl ?_
        refine SF_iload_n 3 1722 dL_law_1721 rfl rfl rfl ?_
        refine SF_iconst (1 : Int32) 1723 dL_law_1722 rfl rfl ?_
        refine SF_iadd 1724 dL_law_1723 rfl ?_
        obtain ⟨i550, h⟩ := gdI_some h
        refine SF_sld 1725 dL_law_1724 (by rw [hxL]; exact i550) rfl ?_
        rw [hxs]
        refine SF_aload_n 0 1726 dL_law_1725 rfl rfl rfl ?_
        refine SF_iload_n 3 1727 dL_law_1726 rfl rfl rfl ?_
        refine SF_iconst (2 : Int32) 1728 dL_law_1727 rfl rfl ?_
        refine SF_iadd 1729 dL_law_1728 rfl ?_
        obtain ⟨i551, h⟩ := gdI_some h
        refine SF_sld 1730 dL_law_1729 (by rw [hxL]; exact i551) rfl ?_
        rw [hxs]
        refine SF_aload_n 0 1731 dL_law_1730 rfl rfl rfl ?_
        refine SF_iload_n 3 1732 dL_law_1731 rfl rfl rfl ?_
        refine SF_iconst (3 : Int32) 1733 dL_law_1732 rfl rfl ?_
        refine SF_iadd 1734 dL_law_1733 rfl ?_
        obtain ⟨i552, h⟩ := gdI_some h
        refine SF_sld 1735 dL_law_1734 (by rw [hxL]; exact i552) rfl ?_
        rw [hxs]
        refine SF_aload_n 0 1736 dL_law_1735 rfl rfl rfl ?_
        refine SF_iload_n 3 1737 dL_law_1736 rfl rfl rfl ?_
        refine SF_iconst (4 : Int32) 1738 dL_law_1737 rfl rfl ?_
        refine SF_iadd 1739 dL_law_1738 rfl ?_
        obtain ⟨i553, h⟩ := gdI_some h
        refine SF_sld 1740 dL_law_1739 (by rw [hxL]; exact i553) rfl ?_
        rw [hxs]
        obtain ⟨v554, g555, q556, h⟩ := bd_some h
        have s557 := w_X12_lists (X := X) (Nat.le_refl 8) l2 (sX (l3 + (1 : Int32)).toNatClampNeg) (sX (l3 + (2 : Int32)).toNatClampNeg) (sX (l3 + (3 : Int32)).toNatClampNeg) (sX (l3 + (4 : Int32)).toNatClampNeg) g547 g555 v554 k_l2 q556
        refine SF_callVi 1743 mi_X12_lists ml_L_185 dL_law_1740 (Nat.le_trans (by decide) hd) s557 k_l2.1 rfl rfl (Nat.le_of_ble_eq_true rfl) rfl ?_
        have k_l1 := k_l1.ext s557.1
        have k_l2 := k_l2.ext s557.1
        refine SF_iceq 1817 1746 dL_law_1743 rfl rfl (fun c558 => ?_) (fun c558 => ?_)
        · have h := ite_t c558 h
          exact w_L_law_1817 hd hxL hxs (f_L_law_18 sL sX n) ih l1 l2 l3 g555 k_l1 k_l2 h
        · have h := ite_f c558 h
          refine SF_iconst (0 : Int32) 1747 dL_law_1746 rfl rfl ?_
          exact RT_b rfl rfl dL_law_1747 h
      | 40, m593, h =>
        refine SF_tabIn 1748 dL_law_33 c592 (by omega) (by rw [m593]; rfl) rfl ?_
        refine SF_aload_n 1 1749 dL_law_1748 rfl rfl rfl ?_
        refine SF_aload_n 0 1750 dL_law_1749 rfl rfl rfl ?_
        refine SF_iload_n 3 1751 dL_law_1750 rfl rfl rfl ?_
        refine SF_iconst (1 : Int32) 1752 dL_law_1751 rfl rfl ?_
        refine SF_iadd 1753 dL_law_1752 rfl ?_
        obtain ⟨i559, h⟩ := gdI_some h
        refine SF_sld 1754 dL_law_1753 (by rw [hxL]; exact i559) rfl ?_
        rw [hxs]
        obtain ⟨v560, g561, q562, h⟩ := bd_some h
        have s563 := w_X11_image (X := X) (Nat.le_refl 2) l1 (sX (l3 + (1 : Int32)).toNatClampNeg) g g561 v560 k_l1 q562
        refine SF_callVi 1757 mi_X11_image ml_L_186 dL_law_1754 (Nat.le_trans (by decide) hd) s563 k_l1.1 rfl rfl (Nat.le_of_ble_eq_true rfl) rfl ?_
        have k_l1 := k_l1.ext s563.1
        have k_l2 := k_l2.ext s563.1
        refine SF_aload_n 2 1758 dL_law_1757 rfl rfl rfl ?_
        refine SF_aload_n 0 1759 dL_law_1758 rfl rfl rfl ?_
        refine SF_iload_n 3 1760 dL_law_1759 rfl rfl rfl ?_
        refine SF_iconst (1 : Int32) 1761 dL_law_1760 rfl rfl ?_
        refine SF_iadd 1762 dL_law_1761 rfl ?_
        obtain ⟨i564, h⟩ := gdI_some h
        refine SF_sld 1763 dL_law_1762 (by rw [hxL]; exact i564) rfl ?_
        rw [hxs]
        obtain ⟨v565, g566, q567, h⟩ := bd_some h
        have s568 := w_X12_image (X := X) (Nat.le_refl 1) l2 (sX (l3 + (1 : Int32)).toNatClampNeg) g561 g566 v565 k_l2 q567
        refine SF_callVi 1766 mi_X12_image ml_L_189 dL_law_1763 (Nat.le_trans (by decide) hd) s568 k_l2.1 rfl rfl (Nat.le_of_ble_eq_true rfl) rfl ?_
        have k_l1 := k_l1.ext s568.1
        have k_l2 := k_l2.ext s568.1
        refine SF_iceq 1817 1769 dL_law_1766 rfl rfl (fun c569 => ?_) (fun c569 => ?_)
        · have h := ite_t c569 h
          exact w_L_law_1817 hd hxL hxs (f_L_law_18 sL sX n) ih l1 l2 l3 g566 k_l1 k_l2 h
        · have h := ite_f c569 h
          refine SF_iconst (0 : Int32) 1770 dL_law_1769 rfl rfl ?_
          exact RT_b rfl rfl dL_law_1770 h
      | 41, m593, h =>
        refine SF_tabIn 1771 dL_law_33 c592 (by omega) (by rw [m593]; rfl) rfl ?_
        refine SF_aload_n 1 1772 dL_law_1771 rfl rfl rfl ?_
        refine SF_aload_n 0 1773 dL_law_1772 rfl rfl rfl ?_
        refine SF_iload_n 3 1774 dL_law_1773 rfl rfl rfl ?_
        refine SF_iconst (1 : Int32) 1775 dL_law_1774 rfl rfl ?_
        refine SF_iadd 1776 dL_law_1775 rfl ?_
        obtain ⟨i570, h⟩ := gdI_some h
        refine SF_sld 1777 dL_law_1776 (by rw [hxL]; exact i570) rfl ?_
        rw [hxs]
        obtain ⟨v571, g572, q573, h⟩ := bd_some h
        have s574 := w_X11_restore (X := X) (Nat.le_refl 2) l1 (sX (l3 + (1 : Int32)).toNatClampNeg) g g572 v571 k_l1 q573
        refine SF_callVi 1780 mi_X11_restore ml_L_190 dL_law_1777 (Nat.le_trans (by decide) hd) s574 k_l1.1 rfl rfl (Nat.le_of_ble_eq_true rfl) rfl ?_
        have k_l1 := k_l1.ext s574.1
        have k_l2 := k_l2.ext s574.1
        refine SF_aload_n 2 1781 dL_law_1780 rfl rfl rfl ?_
        refine SF_aload_n 0 1782 dL_law_1781 rfl rfl rfl ?_
        refine SF_iload_n 3 1783 dL_law_1782 rfl rfl rfl ?_
        refine SF_iconst (1 : Int32) 1784 dL_law_1783 rfl rfl ?_
        refine SF_iadd 1785 dL_law_1784 rfl ?_
        obtain ⟨i575, h⟩ := gdI_some h
        refine SF_sld 1786 dL_law_1785 (by rw [hxL]; exact i575) rfl ?_
        rw [hxs]
        obtain ⟨v576, g577, q578, h⟩ := bd_some h
        have s579 := w_X12_restore (X := X) (Nat.le_refl 1) l2 (sX (l3 + (1 : Int32)).toNatClampNeg) g572 g577 v576 k_l2 q578
        refine SF_callVi 1789 mi_X12_restore ml_L_193 dL_law_1786 (Nat.le_trans (by decide) hd) s579 k_l2.1 rfl rfl (Nat.le_of_ble_eq_true rfl) rfl ?_
        have k_l1 := k_l1.ext s579.1
        have k_l2 := k_l2.ext s579.1
        refine SF_iceq 1817 1792 dL_law_1789 rfl rfl (fun c580 => ?_) (fun c580 => ?_)
        · have h := ite_t c580 h
          exact w_L_law_1817 hd hxL hxs (f_L_law_18 sL sX n) ih l1 l2 l3 g577 k_l1 k_l2 h
        · have h := ite_f c580 h
          refine SF_iconst (0 : Int32) 1793 dL_law_1792 rfl rfl ?_
          exact RT_b rfl rfl dL_law_1793 h
      | 42, m593, h =>
        refine SF_tabIn 1794 dL_law_33 c592 (by omega) (by rw [m593]; rfl) rfl ?_
        refine SF_aload_n 1 1795 dL_law_1794 rfl rfl rfl ?_
        refine SF_aload_n 0 1796 dL_law_1795 rfl rfl rfl ?_
        refine SF_iload_n 3 1797 dL_law_1796 rfl rfl rfl ?_
        refine SF_iconst (1 : Int32) 1798 dL_law_1797 rfl rfl ?_
        refine SF_iadd 1799 dL_law_1798 rfl ?_
        obtain ⟨i581, h⟩ := gdI_some h
        refine SF_sld 1800 dL_law_1799 (by rw [hxL]; exact i581) rfl ?_
        rw [hxs]
        obtain ⟨v582, g583, q584, h⟩ := bd_some h
        have s585 := w_X11_count (X := X) (Nat.le_refl 2) l1 (sX (l3 + (1 : Int32)).toNatClampNeg) g g583 v582 k_l1 q584
        refine SF_callVi 1803 mi_X11_count ml_L_194 dL_law_1800 (Nat.le_trans (by decide) hd) s585 k_l1.1 rfl rfl (Nat.le_of_ble_eq_true rfl) rfl ?_
        have k_l1 := k_l1.ext s585.1
        have k_l2 := k_l2.ext s585.1
        refine SF_aload_n 2 1804 dL_law_1803 rfl rfl rfl ?_
        refine SF_aload_n 0 1805 dL_law_1804 rfl rfl rfl ?_
        refine SF_iload_n 3 1806 dL_law_1805 rfl rfl rfl ?_
        refine SF_iconst (1 : Int32) 1807 dL_law_1806 rfl rfl ?_
        refine SF_iadd 1808 dL_law_1807 rfl ?_
        obtain ⟨i586, h⟩ := gdI_some h
        refine SF_sld 1809 dL_law_1808 (by rw [hxL]; exact i586) rfl ?_
        rw [hxs]
        obtain ⟨v587, g588, q589, h⟩ := bd_some h
        have s590 := w_X12_count (X := X) (Nat.le_refl 1) l2 (sX (l3 + (1 : Int32)).toNatClampNeg) g583 g588 v587 k_l2 q589
        refine SF_callVi 1812 mi_X12_count ml_L_197 dL_law_1809 (Nat.le_trans (by decide) hd) s590 k_l2.1 rfl rfl (Nat.le_of_ble_eq_true rfl) rfl ?_
        have k_l1 := k_l1.ext s590.1
        have k_l2 := k_l2.ext s590.1
        refine SF_iceq 1817 1815 dL_law_1812 rfl rfl (fun c591 => ?_) (fun c591 => ?_)
        · have h := ite_t c591 h
          exact w_L_law_1817 hd hxL hxs (f_L_law_18 sL sX n) ih l1 l2 l3 g588 k_l1 k_l2 h
        · have h := ite_f c591 h
          refine SF_iconst (0 : Int32) 1816 dL_law_1815 rfl rfl ?_
          exact RT_b rfl rfl dL_law_1816 h
      | mm + 43, m593, h =>
        refine SF_tabOut 1817 dL_law_33 (Or.inr (by omega)) rfl ?_
        exact w_L_law_1817 hd hxL hxs (f_L_law_18 sL sX n) ih l1 l2 l3 g k_l1 k_l2 h

set_option maxRecDepth 20000 in
set_option maxHeartbeats 2000000 in
theorem w_L_law {X : CX} {d : Nat} (hd : 103 ≤ d) {sL : Nat} {sX : Nat → Int32} (hxL : xL X = sL) (hxs : xs X = sX) (g g' : G) (rx : Bool) (h : f_L_law sL sX g = some (rx, g')) : SemF X (yL_law, cL_law, 4, some .boolean) d 0 [(0, .ref (xb X))] [] g (some (.int (b2i rx))) g' := by
  rw [f_L_law] at h
  refine SF_new 3 nw_L_7 dL_law_0 rfl ?_
  obtain ⟨g1, e2, h⟩ := lg_some h
  rw [← e2]
  have k5 := KD.fresh e2
  obtain ⟨a3, e4, h⟩ := ln_some h
  rw [← e4] at k5
  rw [← e4]
  refine SF_dup 4 dL_law_3 rfl rfl ?_
  obtain ⟨v6, g7, q8, h⟩ := bd_some h
  have s9 := w_X11_init (X := X) (Nat.le_refl 3) a3 g1 g7 v6 k5 q8
  refine SF_callI 7 mi_X11_init ml_L_9 dL_law_4 (Nat.le_trans (by decide) hd) s9 rfl rfl (Nat.le_of_ble_eq_true rfl) rfl ?_
  have k5 := k5.ext s9.1
  refine SF_astore_n [(1, .ref (ad X a3)), (0, .ref (xb X))] 8 dL_law_7 rfl (by decide) rfl rfl ?_
  refine SF_new 11 nw_L_10 dL_law_8 rfl ?_
  obtain ⟨g10, e11, h⟩ := lg_some h
  rw [← e11]
  have k5 := KD.alloc e11 k5
  have k14 := KD.fresh e11
  obtain ⟨a12, e13, h⟩ := ln_some h
  rw [← e13] at k14
  rw [← e13]
  refine SF_dup 12 dL_law_11 rfl rfl ?_
  obtain ⟨v15, g16, q17, h⟩ := bd_some h
  have s18 := w_X12_init (X := X) (Nat.le_refl 1) a12 g10 g16 v15 k14 q17
  refine SF_callI 15 mi_X12_init ml_L_12 dL_law_12 (Nat.le_trans (by decide) hd) s18 rfl rfl (Nat.le_of_ble_eq_true rfl) rfl ?_
  have k5 := k5.ext s18.1
  have k14 := k14.ext s18.1
  refine SF_astore_n [(2, .ref (ad X a12)), (1, .ref (ad X a3)), (0, .ref (xb X))] 16 dL_law_15 rfl (by decide) rfl rfl ?_
  refine SF_iconst (0 : Int32) 17 dL_law_16 rfl rfl ?_
  refine SF_istore_n [(3, .int (0 : Int32)), (2, .ref (ad X a12)), (1, .ref (ad X a3)), (0, .ref (xb X))] 18 dL_law_17 rfl (by decide) rfl rfl ?_
  refine SF_sub [3, 2, 1, 0] rfl ?_
  exact w_L_law_18 hd hxL hxs FU a3 a12 (0 : Int32) g16 k5 k14 h

