theorem dX8_isWord_0 : decode cX8_isWord 0 = .ok (.aload_n 0, 1) := by decide +kernel
theorem dX8_isWord_1 : decode cX8_isWord 1 = .ok (.getfield 73, 3) := by decide +kernel
theorem dX8_isWord_4 : decode cX8_isWord 4 = .ok (.iconst 2, 1) := by decide +kernel
theorem dX8_isWord_5 : decode cX8_isWord 5 = .ok (.if_icmp .ne 15, 3) := by decide +kernel
theorem dX8_isWord_8 : decode cX8_isWord 8 = .ok (.aload_n 0, 1) := by decide +kernel
theorem dX8_isWord_9 : decode cX8_isWord 9 = .ok (.getfield 127, 3) := by decide +kernel
theorem dX8_isWord_12 : decode cX8_isWord 12 = .ok (.iload_n 1, 1) := by decide +kernel
theorem dX8_isWord_13 : decode cX8_isWord 13 = .ok (.if_icmp .ne 7, 3) := by decide +kernel
theorem dX8_isWord_16 : decode cX8_isWord 16 = .ok (.iconst 1, 1) := by decide +kernel
theorem dX8_isWord_17 : decode cX8_isWord 17 = .ok (.goto 4, 3) := by decide +kernel
theorem dX8_isWord_20 : decode cX8_isWord 20 = .ok (.iconst 0, 1) := by decide +kernel
theorem dX8_isWord_21 : decode cX8_isWord 21 = .ok (.ireturn, 1) := by decide +kernel
set_option maxRecDepth 20000 in
set_option maxHeartbeats 2000000 in
theorem w_X8_isWord {X : CX} {d : Nat} (hd : 0 ≤ d) (l0 : Nat) (l1 : Int32) (g g' : G) (rx : Bool) (k_l0 : KD g l0 8) (h : f_X8_isWord l0 l1 g = some (rx, g')) : Sem X m_X8_isWord d [.ref (ad X l0), .int l1] g (some (.int (b2i rx))) g' := by
  refine Sem_of (lo := [(0, .ref (ad X l0)), (1, .int l1)]) (by decide +kernel) rfl (Nat.le_of_ble_eq_true rfl) ?_
  rw [f_X8_isWord] at h
  refine SF_aload_n 0 1 dX8_isWord_0 rfl rfl rfl ?_
  refine SF_getI 4 fl_X8_73 dX8_isWord_1 k_l0.1 rfl ?_
  refine SF_iconst (2 : Int32) 5 dX8_isWord_4 rfl rfl ?_
  refine SF_icne 20 8 dX8_isWord_5 rfl rfl (fun c1 => ?_) (fun c1 => ?_)
  · have h := ite_f c1 h
    refine SF_iconst (0 : Int32) 21 dX8_isWord_20 rfl rfl ?_
    exact RT_b rfl rfl dX8_isWord_21 h
  · have h := ite_t c1 h
    refine SF_aload_n 0 9 dX8_isWord_8 rfl rfl rfl ?_
    refine SF_getI 12 fl_X8_127 dX8_isWord_9 k_l0.1 rfl ?_
    refine SF_iload_n 1 13 dX8_isWord_12 rfl rfl rfl ?_
    refine SF_icne 20 16 dX8_isWord_13 rfl rfl (fun c2 => ?_) (fun c2 => ?_)
    · have h := ite_f c2 h
      refine SF_iconst (0 : Int32) 21 dX8_isWord_20 rfl rfl ?_
      exact RT_b rfl rfl dX8_isWord_21 h
    · have h := ite_t c2 h
      refine SF_iconst (1 : Int32) 17 dX8_isWord_16 rfl rfl ?_
      refine SF_goto 21 dX8_isWord_17 rfl ?_
      exact RT_b rfl rfl dX8_isWord_21 h

theorem dX8_refuse_0 : decode cX8_refuse 0 = .ok (.aload_n 0, 1) := by decide +kernel
theorem dX8_refuse_1 : decode cX8_refuse 1 = .ok (.iload_n 1, 1) := by decide +kernel
theorem dX8_refuse_2 : decode cX8_refuse 2 = .ok (.putfield 57, 3) := by decide +kernel
theorem dX8_refuse_5 : decode cX8_refuse 5 = .ok (.aload_n 0, 1) := by decide +kernel
theorem dX8_refuse_6 : decode cX8_refuse 6 = .ok (.aload_n 0, 1) := by decide +kernel
theorem dX8_refuse_7 : decode cX8_refuse 7 = .ok (.getfield 124, 3) := by decide +kernel
theorem dX8_refuse_10 : decode cX8_refuse 10 = .ok (.putfield 9, 3) := by decide +kernel
theorem dX8_refuse_13 : decode cX8_refuse 13 = .ok (.iconst 0, 1) := by decide +kernel
theorem dX8_refuse_14 : decode cX8_refuse 14 = .ok (.ireturn, 1) := by decide +kernel
set_option maxRecDepth 20000 in
set_option maxHeartbeats 2000000 in
theorem w_X8_refuse {X : CX} {d : Nat} (hd : 0 ≤ d) (l0 : Nat) (l1 : Int32) (g g' : G) (rx : Bool) (k_l0 : KD g l0 8) (h : f_X8_refuse l0 l1 g = some (rx, g')) : Sem X m_X8_refuse d [.ref (ad X l0), .int l1] g (some (.int (b2i rx))) g' := by
  refine Sem_of (lo := [(0, .ref (ad X l0)), (1, .int l1)]) (by decide +kernel) rfl (Nat.le_of_ble_eq_true rfl) ?_
  rw [f_X8_refuse] at h
  refine SF_aload_n 0 1 dX8_refuse_0 rfl rfl rfl ?_
  refine SF_iload_n 1 2 dX8_refuse_1 rfl rfl rfl ?_
  refine SF_putI 5 fl_X8_57 dX8_refuse_2 k_l0.1 (fn_int _) (Or.inl rfl) rfl ?_
  obtain ⟨g1, e2, h⟩ := lg_some h
  rw [← e2]
  have k_l0 := KD.eq e2 k_l0
  refine SF_aload_n 0 6 dX8_refuse_5 rfl rfl rfl ?_
  refine SF_aload_n 0 7 dX8_refuse_6 rfl rfl rfl ?_
  refine SF_getI 10 fl_X8_124 dX8_refuse_7 k_l0.1 rfl ?_
  refine SF_putI 13 fl_X8_9 dX8_refuse_10 k_l0.1 (fn_int _) (Or.inl rfl) rfl ?_
  obtain ⟨g3, e4, h⟩ := lg_some h
  rw [← e4]
  have k_l0 := KD.eq e4 k_l0
  refine SF_iconst (0 : Int32) 14 dX8_refuse_13 rfl rfl ?_
  exact RT_b rfl rfl dX8_refuse_14 h

theorem dX8_look_0 : decode cX8_look 0 = .ok (.aload_n 0, 1) := by decide +kernel
theorem dX8_look_1 : decode cX8_look 1 = .ok (.getfield 63, 3) := by decide +kernel
theorem dX8_look_4 : decode cX8_look 4 = .ok (.iconst 1, 1) := by decide +kernel
theorem dX8_look_5 : decode cX8_look 5 = .ok (.iadd, 1) := by decide +kernel
theorem dX8_look_6 : decode cX8_look 6 = .ok (.aload_n 0, 1) := by decide +kernel
theorem dX8_look_7 : decode cX8_look 7 = .ok (.getfield 82, 3) := by decide +kernel
theorem dX8_look_10 : decode cX8_look 10 = .ok (.if_icmp .ge 66, 3) := by decide +kernel
theorem dX8_look_13 : decode cX8_look 13 = .ok (.aload_n 0, 1) := by decide +kernel
theorem dX8_look_14 : decode cX8_look 14 = .ok (.getfield 63, 3) := by decide +kernel
theorem dX8_look_17 : decode cX8_look 17 = .ok (.iconst 1, 1) := by decide +kernel
theorem dX8_look_18 : decode cX8_look 18 = .ok (.iadd, 1) := by decide +kernel
theorem dX8_look_19 : decode cX8_look 19 = .ok (.aload_n 0, 1) := by decide +kernel
theorem dX8_look_20 : decode cX8_look 20 = .ok (.getfield 19, 3) := by decide +kernel
theorem dX8_look_23 : decode cX8_look 23 = .ok (.arraylength, 1) := by decide +kernel
theorem dX8_look_24 : decode cX8_look 24 = .ok (.if_icmp .ge 52, 3) := by decide +kernel
theorem dX8_look_27 : decode cX8_look 27 = .ok (.aload_n 0, 1) := by decide +kernel
theorem dX8_look_28 : decode cX8_look 28 = .ok (.dup, 1) := by decide +kernel
theorem dX8_look_29 : decode cX8_look 29 = .ok (.getfield 63, 3) := by decide +kernel
theorem dX8_look_32 : decode cX8_look 32 = .ok (.iconst 1, 1) := by decide +kernel
theorem dX8_look_33 : decode cX8_look 33 = .ok (.iadd, 1) := by decide +kernel
theorem dX8_look_34 : decode cX8_look 34 = .ok (.putfield 63, 3) := by decide +kernel
theorem dX8_look_37 : decode cX8_look 37 = .ok (.aload_n 0, 1) := by decide +kernel
theorem dX8_look_38 : decode cX8_look 38 = .ok (.aload_n 0, 1) := by decide +kernel
theorem dX8_look_39 : decode cX8_look 39 = .ok (.getfield 19, 3) := by decide +kernel
theorem dX8_look_42 : decode cX8_look 42 = .ok (.aload_n 0, 1) := by decide +kernel
theorem dX8_look_43 : decode cX8_look 43 = .ok (.getfield 63, 3) := by decide +kernel
theorem dX8_look_46 : decode cX8_look 46 = .ok (.iaload, 1) := by decide +kernel
theorem dX8_look_47 : decode cX8_look 47 = .ok (.putfield 73, 3) := by decide +kernel
theorem dX8_look_50 : decode cX8_look 50 = .ok (.aload_n 0, 1) := by decide +kernel
theorem dX8_look_51 : decode cX8_look 51 = .ok (.aload_n 0, 1) := by decide +kernel
theorem dX8_look_52 : decode cX8_look 52 = .ok (.getfield 23, 3) := by decide +kernel
theorem dX8_look_55 : decode cX8_look 55 = .ok (.aload_n 0, 1) := by decide +kernel
theorem dX8_look_56 : decode cX8_look 56 = .ok (.getfield 63, 3) := by decide +kernel
theorem dX8_look_59 : decode cX8_look 59 = .ok (.iaload, 1) := by decide +kernel
theorem dX8_look_60 : decode cX8_look 60 = .ok (.putfield 124, 3) := by decide +kernel
theorem dX8_look_63 : decode cX8_look 63 = .ok (.aload_n 0, 1) := by decide +kernel
theorem dX8_look_64 : decode cX8_look 64 = .ok (.aload_n 0, 1) := by decide +kernel
theorem dX8_look_65 : decode cX8_look 65 = .ok (.getfield 26, 3) := by decide +kernel
theorem dX8_look_68 : decode cX8_look 68 = .ok (.aload_n 0, 1) := by decide +kernel
theorem dX8_look_69 : decode cX8_look 69 = .ok (.getfield 63, 3) := by decide +kernel
theorem dX8_look_72 : decode cX8_look 72 = .ok (.iaload, 1) := by decide +kernel
theorem dX8_look_73 : decode cX8_look 73 = .ok (.putfield 127, 3) := by decide +kernel
theorem dX8_look_76 : decode cX8_look 76 = .ok (.return_, 1) := by decide +kernel
set_option maxRecDepth 20000 in
set_option maxHeartbeats 2000000 in
theorem w_X8_look {X : CX} {d : Nat} (hd : 0 ≤ d) (l0 : Nat) (g g' : G) (rx : Unit) (k_l0 : KD g l0 8) (h : f_X8_look l0 g = some (rx, g')) : Sem X m_X8_look d [.ref (ad X l0)] g none g' := by
  refine Sem_of (lo := [(0, .ref (ad X l0))]) (by decide +kernel) rfl (Nat.le_of_ble_eq_true rfl) ?_
  rw [f_X8_look] at h
  refine SF_aload_n 0 1 dX8_look_0 rfl rfl rfl ?_
  refine SF_getI 4 fl_X8_63 dX8_look_1 k_l0.1 rfl ?_
  refine SF_iconst (1 : Int32) 5 dX8_look_4 rfl rfl ?_
  refine SF_iadd 6 dX8_look_5 rfl ?_
  refine SF_aload_n 0 7 dX8_look_6 rfl rfl rfl ?_
  refine SF_getI 10 fl_X8_82 dX8_look_7 k_l0.1 rfl ?_
  refine SF_icge 76 13 dX8_look_10 rfl rfl (fun c1 => ?_) (fun c1 => ?_)
  · have h := ite_t c1 h
    exact RT_v rfl dX8_look_76 h
  · have h := ite_f c1 h
    refine SF_aload_n 0 14 dX8_look_13 rfl rfl rfl ?_
    refine SF_getI 17 fl_X8_63 dX8_look_14 k_l0.1 rfl ?_
    refine SF_iconst (1 : Int32) 18 dX8_look_17 rfl rfl ?_
    refine SF_iadd 19 dX8_look_18 rfl ?_
    refine SF_aload_n 0 20 dX8_look_19 rfl rfl rfl ?_
    obtain ⟨b2, r3, h⟩ := dr_some h
    refine SF_getR 23 fl_X8_19 dX8_look_20 k_l0.1 r3 rfl ?_
    obtain ⟨k4, h⟩ := gdK_some h
    refine SF_alen 24 dX8_look_23 k4.1 (by decide) (by decide) rfl ?_
    refine SF_icge 76 27 dX8_look_24 rfl rfl (fun c5 => ?_) (fun c5 => ?_)
    · have h := ite_t c5 h
      exact RT_v rfl dX8_look_76 h
    · have h := ite_f c5 h
      refine SF_aload_n 0 28 dX8_look_27 rfl rfl rfl ?_
      refine SF_dup 29 dX8_look_28 rfl rfl ?_
      refine SF_getI 32 fl_X8_63 dX8_look_29 k_l0.1 rfl ?_
      refine SF_iconst (1 : Int32) 33 dX8_look_32 rfl rfl ?_
      refine SF_iadd 34 dX8_look_33 rfl ?_
      refine SF_putI 37 fl_X8_63 dX8_look_34 k_l0.1 (fn_int _) (Or.inl rfl) rfl ?_
      obtain ⟨g6, e7, h⟩ := lg_some h
      rw [← e7]
      have k_l0 := KD.eq e7 k_l0
      have k4 := KD.eq e7 k4
      have r3 := gR_eq e7 r3
      refine SF_aload_n 0 38 dX8_look_37 rfl rfl rfl ?_
      refine SF_aload_n 0 39 dX8_look_38 rfl rfl rfl ?_
      refine SF_getR 42 fl_X8_19 dX8_look_39 k_l0.1 r3 rfl ?_
      refine SF_aload_n 0 43 dX8_look_42 rfl rfl rfl ?_
      refine SF_getI 46 fl_X8_63 dX8_look_43 k_l0.1 rfl ?_
      obtain ⟨i8, h⟩ := gdI_some h
      refine SF_iald 47 dX8_look_46 k4.1 i8 rfl ?_
      refine SF_putI 50 fl_X8_73 dX8_look_47 k_l0.1 (fn_int _) (Or.inl rfl) rfl ?_
      obtain ⟨g9, e10, h⟩ := lg_some h
      rw [← e10]
      have k_l0 := KD.eq e10 k_l0
      have k4 := KD.eq e10 k4
      have r3 := gR_eq e10 r3
      have i8 := vp_eq e10 i8
      refine SF_aload_n 0 51 dX8_look_50 rfl rfl rfl ?_
      refine SF_aload_n 0 52 dX8_look_51 rfl rfl rfl ?_
      obtain ⟨b11, r12, h⟩ := dr_some h
      refine SF_getR 55 fl_X8_23 dX8_look_52 k_l0.1 r12 rfl ?_
      refine SF_aload_n 0 56 dX8_look_55 rfl rfl rfl ?_
      refine SF_getI 59 fl_X8_63 dX8_look_56 k_l0.1 rfl ?_
      obtain ⟨k13, h⟩ := gdK_some h
      obtain ⟨i14, h⟩ := gdI_some h
      refine SF_iald 60 dX8_look_59 k13.1 i14 rfl ?_
      refine SF_putI 63 fl_X8_124 dX8_look_60 k_l0.1 (fn_int _) (Or.inl rfl) rfl ?_
      obtain ⟨g15, e16, h⟩ := lg_some h
      rw [← e16]
      have k_l0 := KD.eq e16 k_l0
      have k4 := KD.eq e16 k4
      have k13 := KD.eq e16 k13
      have r3 := gR_eq e16 r3
      have r12 := gR_eq e16 r12
      have i8 := vp_eq e16 i8
      have i14 := vp_eq e16 i14
      refine SF_aload_n 0 64 dX8_look_63 rfl rfl rfl ?_
      refine SF_aload_n 0 65 dX8_look_64 rfl rfl rfl ?_
      obtain ⟨b17, r18, h⟩ := dr_some h
      refine SF_getR 68 fl_X8_26 dX8_look_65 k_l0.1 r18 rfl ?_
      refine SF_aload_n 0 69 dX8_look_68 rfl rfl rfl ?_
      refine SF_getI 72 fl_X8_63 dX8_look_69 k_l0.1 rfl ?_
      obtain ⟨k19, h⟩ := gdK_some h
      obtain ⟨i20, h⟩ := gdI_some h
      refine SF_iald 73 dX8_look_72 k19.1 i20 rfl ?_
      refine SF_putI 76 fl_X8_127 dX8_look_73 k_l0.1 (fn_int _) (Or.inl rfl) rfl ?_
      obtain ⟨g21, e22, h⟩ := lg_some h
      rw [← e22]
      have k_l0 := KD.eq e22 k_l0
      have k4 := KD.eq e22 k4
      have k13 := KD.eq e22 k13
      have k19 := KD.eq e22 k19
      have r3 := gR_eq e22 r3
      have r12 := gR_eq e22 r12
      have r18 := gR_eq e22 r18
      have i8 := vp_eq e22 i8
      have i14 := vp_eq e22 i14
      have i20 := vp_eq e22 i20
      exact RT_v rfl dX8_look_76 h

theorem dX8_deeper_0 : decode cX8_deeper 0 = .ok (.iload_n 1, 1) := by decide +kernel
theorem dX8_deeper_1 : decode cX8_deeper 1 = .ok (.bipush 6, 2) := by decide +kernel
theorem dX8_deeper_3 : decode cX8_deeper 3 = .ok (.if_icmp .lt 9, 3) := by decide +kernel
theorem dX8_deeper_6 : decode cX8_deeper 6 = .ok (.aload_n 0, 1) := by decide +kernel
theorem dX8_deeper_7 : decode cX8_deeper 7 = .ok (.iconst 4, 1) := by decide +kernel
theorem dX8_deeper_8 : decode cX8_deeper 8 = .ok (.invokevirtual 130, 3) := by decide +kernel
theorem dX8_deeper_11 : decode cX8_deeper 11 = .ok (.ireturn, 1) := by decide +kernel
theorem dX8_deeper_12 : decode cX8_deeper 12 = .ok (.aload_n 0, 1) := by decide +kernel
theorem dX8_deeper_13 : decode cX8_deeper 13 = .ok (.invokevirtual 66, 3) := by decide +kernel
theorem dX8_deeper_16 : decode cX8_deeper 16 = .ok (.iconst 1, 1) := by decide +kernel
theorem dX8_deeper_17 : decode cX8_deeper 17 = .ok (.ireturn, 1) := by decide +kernel
set_option maxRecDepth 20000 in
set_option maxHeartbeats 2000000 in
theorem w_X8_deeper {X : CX} {d : Nat} (hd : 1 ≤ d) (l0 : Nat) (l1 : Int32) (g g' : G) (rx : Bool) (k_l0 : KD g l0 8) (h : f_X8_deeper l0 l1 g = some (rx, g')) : Sem X m_X8_deeper d [.ref (ad X l0), .int l1] g (some (.int (b2i rx))) g' := by
  refine Sem_of (lo := [(0, .ref (ad X l0)), (1, .int l1)]) (by decide +kernel) rfl (Nat.le_of_ble_eq_true rfl) ?_
  rw [f_X8_deeper] at h
  refine SF_iload_n 1 1 dX8_deeper_0 rfl rfl rfl ?_
  refine SF_bipush (6 : Int32) 3 dX8_deeper_1 rfl rfl ?_
  refine SF_iclt 12 6 dX8_deeper_3 rfl rfl (fun c1 => ?_) (fun c1 => ?_)
  · have h := ite_t c1 h
    refine SF_aload_n 0 13 dX8_deeper_12 rfl rfl rfl ?_
    obtain ⟨v2, g3, q4, h⟩ := bd_some h
    have s5 := w_X8_look (X := X) (Nat.le_refl 0) l0 g g3 v2 k_l0 q4
    refine SF_callVv 16 mi_X8_look ml_X8_66 dX8_deeper_13 (Nat.le_trans (by decide) hd) s5 k_l0.1 rfl rfl (Nat.le_of_ble_eq_true rfl) rfl ?_
    have k_l0 := k_l0.ext s5.1
    refine SF_iconst (1 : Int32) 17 dX8_deeper_16 rfl rfl ?_
    exact RT_b rfl rfl dX8_deeper_17 h
  · have h := ite_f c1 h
    refine SF_aload_n 0 7 dX8_deeper_6 rfl rfl rfl ?_
    refine SF_iconst (4 : Int32) 8 dX8_deeper_7 rfl rfl ?_
    obtain ⟨v6, g7, q8, h⟩ := bd_some h
    have s9 := w_X8_refuse (X := X) (Nat.le_refl 0) l0 (4 : Int32) g g7 v6 k_l0 q8
    refine SF_callVb 11 mi_X8_refuse ml_X8_130 dX8_deeper_8 (Nat.le_trans (by decide) hd) s9 k_l0.1 rfl rfl (Nat.le_of_ble_eq_true rfl) rfl ?_
    have k_l0 := k_l0.ext s9.1
    exact RT_b rfl rfl dX8_deeper_11 h

theorem dX8_emit_0 : decode cX8_emit 0 = .ok (.aload_n 0, 1) := by decide +kernel
theorem dX8_emit_1 : decode cX8_emit 1 = .ok (.getfield 220, 3) := by decide +kernel
theorem dX8_emit_4 : decode cX8_emit 4 = .ok (.aload_n 0, 1) := by decide +kernel
theorem dX8_emit_5 : decode cX8_emit 5 = .ok (.getfield 29, 3) := by decide +kernel
theorem dX8_emit_8 : decode cX8_emit 8 = .ok (.arraylength, 1) := by decide +kernel
theorem dX8_emit_9 : decode cX8_emit 9 = .ok (.if_icmp .ge 23, 3) := by decide +kernel
theorem dX8_emit_12 : decode cX8_emit 12 = .ok (.aload_n 0, 1) := by decide +kernel
theorem dX8_emit_13 : decode cX8_emit 13 = .ok (.getfield 29, 3) := by decide +kernel
theorem dX8_emit_16 : decode cX8_emit 16 = .ok (.aload_n 0, 1) := by decide +kernel
theorem dX8_emit_17 : decode cX8_emit 17 = .ok (.getfield 220, 3) := by decide +kernel
theorem dX8_emit_20 : decode cX8_emit 20 = .ok (.iload_n 1, 1) := by decide +kernel
theorem dX8_emit_21 : decode cX8_emit 21 = .ok (.iastore, 1) := by decide +kernel
theorem dX8_emit_22 : decode cX8_emit 22 = .ok (.aload_n 0, 1) := by decide +kernel
theorem dX8_emit_23 : decode cX8_emit 23 = .ok (.dup, 1) := by decide +kernel
theorem dX8_emit_24 : decode cX8_emit 24 = .ok (.getfield 220, 3) := by decide +kernel
theorem dX8_emit_27 : decode cX8_emit 27 = .ok (.iconst 1, 1) := by decide +kernel
theorem dX8_emit_28 : decode cX8_emit 28 = .ok (.iadd, 1) := by decide +kernel
theorem dX8_emit_29 : decode cX8_emit 29 = .ok (.putfield 220, 3) := by decide +kernel
theorem dX8_emit_32 : decode cX8_emit 32 = .ok (.iconst 1, 1) := by decide +kernel
theorem dX8_emit_33 : decode cX8_emit 33 = .ok (.ireturn, 1) := by decide +kernel
set_option maxRecDepth 20000 in
set_option maxHeartbeats 2000000 in
theorem w_X8_emit {X : CX} {d : Nat} (hd : 0 ≤ d) (l0 : Nat) (l1 : Int32) (g g' : G) (rx : Bool) (k_l0 : KD g l0 8) (h : f_X8_emit l0 l1 g = some (rx, g')) : Sem X m_X8_emit d [.ref (ad X l0), .int l1] g (some (.int (b2i rx))) g' := by
  refine Sem_of (lo := [(0, .ref (ad X l0)), (1, .int l1)]) (by decide +kernel) rfl (Nat.le_of_ble_eq_true rfl) ?_
  rw [f_X8_emit] at h
  refine SF_aload_n 0 1 dX8_emit_0 rfl rfl rfl ?_
  refine SF_getI 4 fl_X8_220 dX8_emit_1 k_l0.1 rfl ?_
  refine SF_aload_n 0 5 dX8_emit_4 rfl rfl rfl ?_
  obtain ⟨b1, r2, h⟩ := dr_some h
  refine SF_getR 8 fl_X8_29 dX8_emit_5 k_l0.1 r2 rfl ?_
  obtain ⟨k3, h⟩ := gdK_some h
  refine SF_alen 9 dX8_emit_8 k3.1 (by decide) (by decide) rfl ?_
  refine SF_icge 32 12 dX8_emit_9 rfl rfl (fun c4 => ?_) (fun c4 => ?_)
  · have h := ite_t c4 h
    refine SF_iconst (1 : Int32) 33 dX8_emit_32 rfl rfl ?_
    exact RT_b rfl rfl dX8_emit_33 h
  · have h := ite_f c4 h
    refine SF_aload_n 0 13 dX8_emit_12 rfl rfl rfl ?_
    refine SF_getR 16 fl_X8_29 dX8_emit_13 k_l0.1 r2 rfl ?_
    refine SF_aload_n 0 17 dX8_emit_16 rfl rfl rfl ?_
    refine SF_getI 20 fl_X8_220 dX8_emit_17 k_l0.1 rfl ?_
    refine SF_iload_n 1 21 dX8_emit_20 rfl rfl rfl ?_
    obtain ⟨i5, h⟩ := gdI_some h
    refine SF_iast 22 dX8_emit_21 k3.1 i5 rfl ?_
    obtain ⟨g6, e7, h⟩ := lg_some h
    rw [← e7]
    have k_l0 := KD.eq e7 k_l0
    have k3 := KD.eq e7 k3
    have r2 := gR_eq e7 r2
    have i5 := vp_eq e7 i5
    refine SF_aload_n 0 23 dX8_emit_22 rfl rfl rfl ?_
    refine SF_dup 24 dX8_emit_23 rfl rfl ?_
    refine SF_getI 27 fl_X8_220 dX8_emit_24 k_l0.1 rfl ?_
    refine SF_iconst (1 : Int32) 28 dX8_emit_27 rfl rfl ?_
    refine SF_iadd 29 dX8_emit_28 rfl ?_
    refine SF_putI 32 fl_X8_220 dX8_emit_29 k_l0.1 (fn_int _) (Or.inl rfl) rfl ?_
    obtain ⟨g8, e9, h⟩ := lg_some h
    rw [← e9]
    have k_l0 := KD.eq e9 k_l0
    have k3 := KD.eq e9 k3
    have r2 := gR_eq e9 r2
    have i5 := vp_eq e9 i5
    refine SF_iconst (1 : Int32) 33 dX8_emit_32 rfl rfl ?_
    exact RT_b rfl rfl dX8_emit_33 h

theorem dX8_refuseToken_0 : decode cX8_refuseToken 0 = .ok (.aload_n 0, 1) := by decide +kernel
theorem dX8_refuseToken_1 : decode cX8_refuseToken 1 = .ok (.aload_n 0, 1) := by decide +kernel
theorem dX8_refuseToken_2 : decode cX8_refuseToken 2 = .ok (.getfield 73, 3) := by decide +kernel
theorem dX8_refuseToken_5 : decode cX8_refuseToken 5 = .ok (.iconst 1, 1) := by decide +kernel
theorem dX8_refuseToken_6 : decode cX8_refuseToken 6 = .ok (.if_icmp .ne 7, 3) := by decide +kernel
theorem dX8_refuseToken_9 : decode cX8_refuseToken 9 = .ok (.iconst 1, 1) := by decide +kernel
theorem dX8_refuseToken_10 : decode cX8_refuseToken 10 = .ok (.goto 4, 3) := by decide +kernel
theorem dX8_refuseToken_13 : decode cX8_refuseToken 13 = .ok (.iconst 2, 1) := by decide +kernel
theorem dX8_refuseToken_14 : decode cX8_refuseToken 14 = .ok (.invokevirtual 130, 3) := by decide +kernel
theorem dX8_refuseToken_17 : decode cX8_refuseToken 17 = .ok (.ireturn, 1) := by decide +kernel
set_option maxRecDepth 20000 in
set_option maxHeartbeats 2000000 in
theorem w_X8_refuseToken_14 {X : CX} {d : Nat} (hd : 1 ≤ d) {g' : G} {rx : Bool} (s0 : Int32) (s1 : Nat) (g : G) (k_s1 : KD g s1 8) (h : f_X8_refuseToken_14 s0 s1 g = some (rx, g')) : SemF X m_X8_refuseToken d 14 [] [.int s0, .ref (ad X s1)] g (some (.int (b2i rx))) g' := by
  rw [f_X8_refuseToken_14] at h
  obtain ⟨v1, g2, q3, h⟩ := bd_some h
  have s4 := w_X8_refuse (X := X) (Nat.le_refl 0) s1 s0 g g2 v1 k_s1 q3
  refine SF_callVb 17 mi_X8_refuse ml_X8_130 dX8_refuseToken_14 (Nat.le_trans (by decide) hd) s4 k_s1.1 rfl rfl (Nat.le_of_ble_eq_true rfl) rfl ?_
  have k_s1 := k_s1.ext s4.1
  exact RT_b rfl rfl dX8_refuseToken_17 h

set_option maxRecDepth 20000 in
set_option maxHeartbeats 2000000 in
theorem w_X8_refuseToken {X : CX} {d : Nat} (hd : 1 ≤ d) (l0 : Nat) (g g' : G) (rx : Bool) (k_l0 : KD g l0 8) (h : f_X8_refuseToken l0 g = some (rx, g')) : Sem X m_X8_refuseToken d [.ref (ad X l0)] g (some (.int (b2i rx))) g' := by
  refine Sem_of (lo := [(0, .ref (ad X l0))]) (by decide +kernel) rfl (Nat.le_of_ble_eq_true rfl) ?_
  rw [f_X8_refuseToken] at h
  refine SF_aload_n 0 1 dX8_refuseToken_0 rfl rfl rfl ?_
  refine SF_aload_n 0 2 dX8_refuseToken_1 rfl rfl rfl ?_
  refine SF_getI 5 fl_X8_73 dX8_refuseToken_2 k_l0.1 rfl ?_
  refine SF_iconst (1 : Int32) 6 dX8_refuseToken_5 rfl rfl ?_
  refine SF_icne 13 9 dX8_refuseToken_6 rfl rfl (fun c1 => ?_) (fun c1 => ?_)
  · have h := ite_f c1 h
    refine SF_iconst (2 : Int32) 14 dX8_refuseToken_13 rfl rfl ?_
    refine SF_sub [] rfl ?_
    exact w_X8_refuseToken_14 hd (2 : Int32) l0 g k_l0 h
  · have h := ite_t c1 h
    refine SF_iconst (1 : Int32) 10 dX8_refuseToken_9 rfl rfl ?_
    refine SF_goto 14 dX8_refuseToken_10 rfl ?_
    refine SF_sub [] rfl ?_
    exact w_X8_refuseToken_14 hd (1 : Int32) l0 g k_l0 h

theorem dX8_take_0 : decode cX8_take 0 = .ok (.aload_n 0, 1) := by decide +kernel
theorem dX8_take_1 : decode cX8_take 1 = .ok (.getfield 73, 3) := by decide +kernel
theorem dX8_take_4 : decode cX8_take 4 = .ok (.iload_n 1, 1) := by decide +kernel
theorem dX8_take_5 : decode cX8_take 5 = .ok (.if_icmp .eq 8, 3) := by decide +kernel
theorem dX8_take_8 : decode cX8_take 8 = .ok (.aload_n 0, 1) := by decide +kernel
theorem dX8_take_9 : decode cX8_take 9 = .ok (.invokevirtual 133, 3) := by decide +kernel
theorem dX8_take_12 : decode cX8_take 12 = .ok (.ireturn, 1) := by decide +kernel
theorem dX8_take_13 : decode cX8_take 13 = .ok (.aload_n 0, 1) := by decide +kernel
theorem dX8_take_14 : decode cX8_take 14 = .ok (.invokevirtual 66, 3) := by decide +kernel
theorem dX8_take_17 : decode cX8_take 17 = .ok (.iconst 1, 1) := by decide +kernel
theorem dX8_take_18 : decode cX8_take 18 = .ok (.ireturn, 1) := by decide +kernel
set_option maxRecDepth 20000 in
set_option maxHeartbeats 2000000 in
theorem w_X8_take {X : CX} {d : Nat} (hd : 2 ≤ d) (l0 : Nat) (l1 : Int32) (g g' : G) (rx : Bool) (k_l0 : KD g l0 8) (h : f_X8_take l0 l1 g = some (rx, g')) : Sem X m_X8_take d [.ref (ad X l0), .int l1] g (some (.int (b2i rx))) g' := by
  refine Sem_of (lo := [(0, .ref (ad X l0)), (1, .int l1)]) (by decide +kernel) rfl (Nat.le_of_ble_eq_true rfl) ?_
  rw [f_X8_take] at h
  refine SF_aload_n 0 1 dX8_take_0 rfl rfl rfl ?_
  refine SF_getI 4 fl_X8_73 dX8_take_1 k_l0.1 rfl ?_
  refine SF_iload_n 1 5 dX8_take_4 rfl rfl rfl ?_
  refine SF_iceq 13 8 dX8_take_5 rfl rfl (fun c1 => ?_) (fun c1 => ?_)
  · have h := ite_t c1 h
    refine SF_aload_n 0 14 dX8_take_13 rfl rfl rfl ?_
    obtain ⟨v2, g3, q4, h⟩ := bd_some h
    have s5 := w_X8_look (X := X) (Nat.le_refl 0) l0 g g3 v2 k_l0 q4
    refine SF_callVv 17 mi_X8_look ml_X8_66 dX8_take_14 (Nat.le_trans (by decide) hd) s5 k_l0.1 rfl rfl (Nat.le_of_ble_eq_true rfl) rfl ?_
    have k_l0 := k_l0.ext s5.1
    refine SF_iconst (1 : Int32) 18 dX8_take_17 rfl rfl ?_
    exact RT_b rfl rfl dX8_take_18 h
  · have h := ite_f c1 h
    refine SF_aload_n 0 9 dX8_take_8 rfl rfl rfl ?_
    obtain ⟨v6, g7, q8, h⟩ := bd_some h
    have s9 := w_X8_refuseToken (X := X) (Nat.le_refl 1) l0 g g7 v6 k_l0 q8
    refine SF_callVb 12 mi_X8_refuseToken ml_X8_133 dX8_take_9 (Nat.le_trans (by decide) hd) s9 k_l0.1 rfl rfl (Nat.le_of_ble_eq_true rfl) rfl ?_
    have k_l0 := k_l0.ext s9.1
    exact RT_b rfl rfl dX8_take_12 h

theorem dX8_atom_0 : decode cX8_atom 0 = .ok (.aload_n 0, 1) := by decide +kernel
theorem dX8_atom_1 : decode cX8_atom 1 = .ok (.getfield 73, 3) := by decide +kernel
theorem dX8_atom_4 : decode cX8_atom 4 = .ok (.bipush 40, 2) := by decide +kernel
theorem dX8_atom_6 : decode cX8_atom 6 = .ok (.if_icmp .ne 36, 3) := by decide +kernel
theorem dX8_atom_9 : decode cX8_atom 9 = .ok (.aload_n 0, 1) := by decide +kernel
theorem dX8_atom_10 : decode cX8_atom 10 = .ok (.iload_n 1, 1) := by decide +kernel
theorem dX8_atom_11 : decode cX8_atom 11 = .ok (.invokevirtual 252, 3) := by decide +kernel
theorem dX8_atom_14 : decode cX8_atom 14 = .ok (.ifCond .eq 26, 3) := by decide +kernel
theorem dX8_atom_17 : decode cX8_atom 17 = .ok (.aload_n 0, 1) := by decide +kernel
theorem dX8_atom_18 : decode cX8_atom 18 = .ok (.iload_n 1, 1) := by decide +kernel
theorem dX8_atom_19 : decode cX8_atom 19 = .ok (.iconst 1, 1) := by decide +kernel
theorem dX8_atom_20 : decode cX8_atom 20 = .ok (.iadd, 1) := by decide +kernel
theorem dX8_atom_21 : decode cX8_atom 21 = .ok (.invokevirtual 226, 3) := by decide +kernel
theorem dX8_atom_24 : decode cX8_atom 24 = .ok (.ifCond .eq 16, 3) := by decide +kernel
theorem dX8_atom_27 : decode cX8_atom 27 = .ok (.aload_n 0, 1) := by decide +kernel
theorem dX8_atom_28 : decode cX8_atom 28 = .ok (.bipush 41, 2) := by decide +kernel
theorem dX8_atom_30 : decode cX8_atom 30 = .ok (.invokevirtual 157, 3) := by decide +kernel
theorem dX8_atom_33 : decode cX8_atom 33 = .ok (.ifCond .eq 7, 3) := by decide +kernel
theorem dX8_atom_36 : decode cX8_atom 36 = .ok (.iconst 1, 1) := by decide +kernel
theorem dX8_atom_37 : decode cX8_atom 37 = .ok (.goto 4, 3) := by decide +kernel
theorem dX8_atom_40 : decode cX8_atom 40 = .ok (.iconst 0, 1) := by decide +kernel
theorem dX8_atom_41 : decode cX8_atom 41 = .ok (.ireturn, 1) := by decide +kernel
theorem dX8_atom_42 : decode cX8_atom 42 = .ok (.aload_n 0, 1) := by decide +kernel
theorem dX8_atom_43 : decode cX8_atom 43 = .ok (.getfield 73, 3) := by decide +kernel
theorem dX8_atom_46 : decode cX8_atom 46 = .ok (.iconst 3, 1) := by decide +kernel
theorem dX8_atom_47 : decode cX8_atom 47 = .ok (.if_icmp .ne 15, 3) := by decide +kernel
theorem dX8_atom_50 : decode cX8_atom 50 = .ok (.aload_n 0, 1) := by decide +kernel
theorem dX8_atom_51 : decode cX8_atom 51 = .ok (.aload_n 0, 1) := by decide +kernel
theorem dX8_atom_52 : decode cX8_atom 52 = .ok (.getfield 127, 3) := by decide +kernel
theorem dX8_atom_55 : decode cX8_atom 55 = .ok (.invokevirtual 246, 3) := by decide +kernel
theorem dX8_atom_58 : decode cX8_atom 58 = .ok (.pop, 1) := by decide +kernel
theorem dX8_atom_59 : decode cX8_atom 59 = .ok (.goto 41, 3) := by decide +kernel
theorem dX8_atom_62 : decode cX8_atom 62 = .ok (.aload_n 0, 1) := by decide +kernel
theorem dX8_atom_63 : decode cX8_atom 63 = .ok (.getfield 73, 3) := by decide +kernel
theorem dX8_atom_66 : decode cX8_atom 66 = .ok (.iconst 2, 1) := by decide +kernel
theorem dX8_atom_67 : decode cX8_atom 67 = .ok (.if_icmp .ne 28, 3) := by decide +kernel
theorem dX8_atom_70 : decode cX8_atom 70 = .ok (.aload_n 0, 1) := by decide +kernel
theorem dX8_atom_71 : decode cX8_atom 71 = .ok (.getfield 127, 3) := by decide +kernel
theorem dX8_atom_74 : decode cX8_atom 74 = .ok (.bipush 8, 2) := by decide +kernel
theorem dX8_atom_76 : decode cX8_atom 76 = .ok (.if_icmp .ge 19, 3) := by decide +kernel
theorem dX8_atom_79 : decode cX8_atom 79 = .ok (.aload_n 0, 1) := by decide +kernel
theorem dX8_atom_80 : decode cX8_atom 80 = .ok (.sipush 1000, 3) := by decide +kernel
theorem dX8_atom_83 : decode cX8_atom 83 = .ok (.aload_n 0, 1) := by decide +kernel
theorem dX8_atom_84 : decode cX8_atom 84 = .ok (.getfield 127, 3) := by decide +kernel
theorem dX8_atom_87 : decode cX8_atom 87 = .ok (.iadd, 1) := by decide +kernel
theorem dX8_atom_88 : decode cX8_atom 88 = .ok (.invokevirtual 246, 3) := by decide +kernel
theorem dX8_atom_91 : decode cX8_atom 91 = .ok (.pop, 1) := by decide +kernel
theorem dX8_atom_92 : decode cX8_atom 92 = .ok (.goto 8, 3) := by decide +kernel
theorem dX8_atom_95 : decode cX8_atom 95 = .ok (.aload_n 0, 1) := by decide +kernel
theorem dX8_atom_96 : decode cX8_atom 96 = .ok (.invokevirtual 133, 3) := by decide +kernel
theorem dX8_atom_99 : decode cX8_atom 99 = .ok (.ireturn, 1) := by decide +kernel
theorem dX8_atom_100 : decode cX8_atom 100 = .ok (.aload_n 0, 1) := by decide +kernel
theorem dX8_atom_101 : decode cX8_atom 101 = .ok (.invokevirtual 66, 3) := by decide +kernel
theorem dX8_atom_104 : decode cX8_atom 104 = .ok (.iconst 1, 1) := by decide +kernel
theorem dX8_atom_105 : decode cX8_atom 105 = .ok (.ireturn, 1) := by decide +kernel
set_option maxRecDepth 20000 in
set_option maxHeartbeats 2000000 in
theorem w_X8_atom_100 {X : CX} {d : Nat} {dh : Nat} (hd : 3 ≤ d) (hdh : dh + 1 ≤ d) (hS : Nat → Int32 → G → Option (Bool × G)) (hhS : ∀ (a0 : Nat) (a1 : Int32) (g g1 : G) (rx : Bool), KD g a0 8 → hS a0 a1 g = some (rx, g1) → Sem X m_X8_sum dh [.ref (ad X a0), .int a1] g (some (.int (b2i rx))) g1) {g' : G} {rx : Bool} (l0 : Nat) (g : G) (k_l0 : KD g l0 8) (h : f_X8_atom_100 hS l0 g = some (rx, g')) : SemF X m_X8_atom d 100 [(0, .ref (ad X l0))] [] g (some (.int (b2i rx))) g' := by
  rw [f_X8_atom_100] at h
  refine SF_aload_n 0 101 dX8_atom_100 rfl rfl rfl ?_
  obtain ⟨v1, g2, q3, h⟩ := bd_some h
  have s4 := w_X8_look (X := X) (Nat.le_refl 0) l0 g g2 v1 k_l0 q3
  refine SF_callVv 104 mi_X8_look ml_X8_66 dX8_atom_101 (Nat.le_trans (by decide) hd) s4 k_l0.1 rfl rfl (Nat.le_of_ble_eq_true rfl) rfl ?_
  have k_l0 := k_l0.ext s4.1
  refine SF_iconst (1 : Int32) 105 dX8_atom_104 rfl rfl ?_
  exact RT_b rfl rfl dX8_atom_105 h

set_option maxRecDepth 20000 in
set_option maxHeartbeats 2000000 in
theorem w_X8_atom_95 {X : CX} {d : Nat} {dh : Nat} (hd : 3 ≤ d) (hdh : dh + 1 ≤ d) (hS : Nat → Int32 → G → Option (Bool × G)) (hhS : ∀ (a0 : Nat) (a1 : Int32) (g g1 : G) (rx : Bool), KD g a0 8 → hS a0 a1 g = some (rx, g1) → Sem X m_X8_sum dh [.ref (ad X a0), .int a1] g (some (.int (b2i rx))) g1) {g' : G} {rx : Bool} (l0 : Nat) (g : G) (k_l0 : KD g l0 8) (h : f_X8_atom_95 hS l0 g = some (rx, g')) : SemF X m_X8_atom d 95 [(0, .ref (ad X l0))] [] g (some (.int (b2i rx))) g' := by
  rw [f_X8_atom_95] at h
  refine SF_aload_n 0 96 dX8_atom_95 rfl rfl rfl ?_
  obtain ⟨v1, g2, q3, h⟩ := bd_some h
  have s4 := w_X8_refuseToken (X := X) (Nat.le_refl 1) l0 g g2 v1 k_l0 q3
  refine SF_callVb 99 mi_X8_refuseToken ml_X8_133 dX8_atom_96 (Nat.le_trans (by decide) hd) s4 k_l0.1 rfl rfl (Nat.le_of_ble_eq_true rfl) rfl ?_
  have k_l0 := k_l0.ext s4.1
  exact RT_b rfl rfl dX8_atom_99 h

set_option maxRecDepth 20000 in
set_option maxHeartbeats 2000000 in
theorem w_X8_atom {X : CX} {d : Nat} {dh : Nat} (hd : 3 ≤ d) (hdh : dh + 1 ≤ d) (hS : Nat → Int32 → G → Option (Bool × G)) (hhS : ∀ (a0 : Nat) (a1 : Int32) (g g1 : G) (rx : Bool), KD g a0 8 → hS a0 a1 g = some (rx, g1) → Sem X m_X8_sum dh [.ref (ad X a0), .int a1] g (some (.int (b2i rx))) g1) (l0 : Nat) (l1 : Int32) (g g' : G) (rx : Bool) (k_l0 : KD g l0 8) (h : f_X8_atom hS l0 l1 g = some (rx, g')) : Sem X m_X8_atom d [.ref (ad X l0), .int l1] g (some (.int (b2i rx))) g' := by
  refine Sem_of (lo := [(0, .ref (ad X l0)), (1, .int l1)]) (by decide +kernel) rfl (Nat.le_of_ble_eq_true rfl) ?_
  rw [f_X8_atom] at h
  refine SF_aload_n 0 1 dX8_atom_0 rfl rfl rfl ?_
  refine SF_getI 4 fl_X8_73 dX8_atom_1 k_l0.1 rfl ?_
  refine SF_bipush (40 : Int32) 6 dX8_atom_4 rfl rfl ?_
  refine SF_icne 42 9 dX8_atom_6 rfl rfl (fun c1 => ?_) (fun c1 => ?_)
  · have h := ite_f c1 h
    refine SF_aload_n 0 43 dX8_atom_42 rfl rfl rfl ?_
    refine SF_getI 46 fl_X8_73 dX8_atom_43 k_l0.1 rfl ?_
    refine SF_iconst (3 : Int32) 47 dX8_atom_46 rfl rfl ?_
    refine SF_icne 62 50 dX8_atom_47 rfl rfl (fun c2 => ?_) (fun c2 => ?_)
    · have h := ite_f c2 h
      refine SF_aload_n 0 63 dX8_atom_62 rfl rfl rfl ?_
      refine SF_getI 66 fl_X8_73 dX8_atom_63 k_l0.1 rfl ?_
      refine SF_iconst (2 : Int32) 67 dX8_atom_66 rfl rfl ?_
      refine SF_icne 95 70 dX8_atom_67 rfl rfl (fun c3 => ?_) (fun c3 => ?_)
      · have h := ite_f c3 h
        refine SF_sub [0] rfl ?_
        exact w_X8_atom_95 hd hdh hS hhS l0 g k_l0 h
      · have h := ite_t c3 h
        refine SF_aload_n 0 71 dX8_atom_70 rfl rfl rfl ?_
        refine SF_getI 74 fl_X8_127 dX8_atom_71 k_l0.1 rfl ?_
        refine SF_bipush (8 : Int32) 76 dX8_atom_74 rfl rfl ?_
        refine SF_icge 95 79 dX8_atom_76 rfl rfl (fun c4 => ?_) (fun c4 => ?_)
        · have h := ite_t c4 h
          refine SF_sub [0] rfl ?_
          exact w_X8_atom_95 hd hdh hS hhS l0 g k_l0 h
        · have h := ite_f c4 h
          refine SF_aload_n 0 80 dX8_atom_79 rfl rfl rfl ?_
          refine SF_sipush (1000 : Int32) 83 dX8_atom_80 rfl rfl ?_
          refine SF_aload_n 0 84 dX8_atom_83 rfl rfl rfl ?_
          refine SF_getI 87 fl_X8_127 dX8_atom_84 k_l0.1 rfl ?_
          refine SF_iadd 88 dX8_atom_87 rfl ?_
          obtain ⟨v5, g6, q7, h⟩ := bd_some h
          have s8 := w_X8_emit (X := X) (Nat.le_refl 0) l0 ((1000 : Int32) + (gI g l0 14)) g g6 v5 k_l0 q7
          refine SF_callVb 91 mi_X8_emit ml_X8_246 dX8_atom_88 (Nat.le_trans (by decide) hd) s8 k_l0.1 rfl rfl (Nat.le_of_ble_eq_true rfl) rfl ?_
          have k_l0 := k_l0.ext s8.1
          refine SF_pop 92 dX8_atom_91 rfl rfl ?_
          refine SF_goto 100 dX8_atom_92 rfl ?_
          refine SF_sub [0] rfl ?_
          exact w_X8_atom_100 hd hdh hS hhS l0 g6 k_l0 h
    · have h := ite_t c2 h
      refine SF_aload_n 0 51 dX8_atom_50 rfl rfl rfl ?_
      refine SF_aload_n 0 52 dX8_atom_51 rfl rfl rfl ?_
      refine SF_getI 55 fl_X8_127 dX8_atom_52 k_l0.1 rfl ?_
      obtain ⟨v9, g10, q11, h⟩ := bd_some h
      have s12 := w_X8_emit (X := X) (Nat.le_refl 0) l0 (gI g l0 14) g g10 v9 k_l0 q11
      refine SF_callVb 58 mi_X8_emit ml_X8_246 dX8_atom_55 (Nat.le_trans (by decide) hd) s12 k_l0.1 rfl rfl (Nat.le_of_ble_eq_true rfl) rfl ?_
      have k_l0 := k_l0.ext s12.1
      refine SF_pop 59 dX8_atom_58 rfl rfl ?_
      refine SF_goto 100 dX8_atom_59 rfl ?_
      refine SF_sub [0] rfl ?_
      exact w_X8_atom_100 hd hdh hS hhS l0 g10 k_l0 h
  · have h := ite_t c1 h
    refine SF_aload_n 0 10 dX8_atom_9 rfl rfl rfl ?_
    refine SF_iload_n 1 11 dX8_atom_10 rfl rfl rfl ?_
    obtain ⟨v13, g14, q15, h⟩ := bd_some h
    have s16 := w_X8_deeper (X := X) (Nat.le_refl 1) l0 l1 g g14 v13 k_l0 q15
    refine SF_callVb 14 mi_X8_deeper ml_X8_252 dX8_atom_11 (Nat.le_trans (by decide) hd) s16 k_l0.1 rfl rfl (Nat.le_of_ble_eq_true rfl) rfl ?_
    have k_l0 := k_l0.ext s16.1
    refine SF_ifeq 40 17 dX8_atom_14 rfl rfl (fun c17 => ?_) (fun c17 => ?_)
    · have h := ite_t c17 h
      refine SF_iconst (0 : Int32) 41 dX8_atom_40 rfl rfl ?_
      exact RT_b rfl rfl dX8_atom_41 h
    · have h := ite_f c17 h
      refine SF_aload_n 0 18 dX8_atom_17 rfl rfl rfl ?_
      refine SF_iload_n 1 19 dX8_atom_18 rfl rfl rfl ?_
      refine SF_iconst (1 : Int32) 20 dX8_atom_19 rfl rfl ?_
      refine SF_iadd 21 dX8_atom_20 rfl ?_
      obtain ⟨v18, g19, q20, h⟩ := bd_some h
      have s21 := hhS l0 (l1 + (1 : Int32)) g14 g19 v18 k_l0 q20
      refine SF_callVb 24 mi_X8_sum ml_X8_226 dX8_atom_21 (by omega) s21 k_l0.1 rfl rfl (Nat.le_of_ble_eq_true rfl) rfl ?_
      have k_l0 := k_l0.ext s21.1
      refine SF_ifeq 40 27 dX8_atom_24 rfl rfl (fun c22 => ?_) (fun c22 => ?_)
      · have h := ite_t c22 h
        refine SF_iconst (0 : Int32) 41 dX8_atom_40 rfl rfl ?_
        exact RT_b rfl rfl dX8_atom_41 h
      · have h := ite_f c22 h
        refine SF_aload_n 0 28 dX8_atom_27 rfl rfl rfl ?_
        refine SF_bipush (41 : Int32) 30 dX8_atom_28 rfl rfl ?_
        obtain ⟨v23, g24, q25, h⟩ := bd_some h
        have s26 := w_X8_take (X := X) (Nat.le_refl 2) l0 (41 : Int32) g19 g24 v23 k_l0 q25
        refine SF_callVb 33 mi_X8_take ml_X8_157 dX8_atom_30 (Nat.le_trans (by decide) hd) s26 k_l0.1 rfl rfl (Nat.le_of_ble_eq_true rfl) rfl ?_
        have k_l0 := k_l0.ext s26.1
        refine SF_ifeq 40 36 dX8_atom_33 rfl rfl (fun c27 => ?_) (fun c27 => ?_)
        · have h := ite_t c27 h
          refine SF_iconst (0 : Int32) 41 dX8_atom_40 rfl rfl ?_
          exact RT_b rfl rfl dX8_atom_41 h
        · have h := ite_f c27 h
          refine SF_iconst (1 : Int32) 37 dX8_atom_36 rfl rfl ?_
          refine SF_goto 41 dX8_atom_37 rfl ?_
          exact RT_b rfl rfl dX8_atom_41 h

theorem dX8_term_0 : decode cX8_term 0 = .ok (.aload_n 0, 1) := by decide +kernel
theorem dX8_term_1 : decode cX8_term 1 = .ok (.iload_n 1, 1) := by decide +kernel
theorem dX8_term_2 : decode cX8_term 2 = .ok (.invokevirtual 258, 3) := by decide +kernel
theorem dX8_term_5 : decode cX8_term 5 = .ok (.ifCond .ne 5, 3) := by decide +kernel
theorem dX8_term_8 : decode cX8_term 8 = .ok (.iconst 0, 1) := by decide +kernel
theorem dX8_term_9 : decode cX8_term 9 = .ok (.ireturn, 1) := by decide +kernel
theorem dX8_term_10 : decode cX8_term 10 = .ok (.iconst 0, 1) := by decide +kernel
theorem dX8_term_11 : decode cX8_term 11 = .ok (.istore_n 2, 1) := by decide +kernel
theorem dX8_term_12 : decode cX8_term 12 = .ok (.iload_n 2, 1) := by decide +kernel
theorem dX8_term_13 : decode cX8_term 13 = .ok (.sipush 900, 3) := by decide +kernel
theorem dX8_term_16 : decode cX8_term 16 = .ok (.if_icmp .ge 40, 3) := by decide +kernel
theorem dX8_term_19 : decode cX8_term 19 = .ok (.aload_n 0, 1) := by decide +kernel
theorem dX8_term_20 : decode cX8_term 20 = .ok (.getfield 73, 3) := by decide +kernel
theorem dX8_term_23 : decode cX8_term 23 = .ok (.bipush 42, 2) := by decide +kernel
theorem dX8_term_25 : decode cX8_term 25 = .ok (.if_icmp .ne 31, 3) := by decide +kernel
theorem dX8_term_28 : decode cX8_term 28 = .ok (.aload_n 0, 1) := by decide +kernel
theorem dX8_term_29 : decode cX8_term 29 = .ok (.invokevirtual 66, 3) := by decide +kernel
theorem dX8_term_32 : decode cX8_term 32 = .ok (.aload_n 0, 1) := by decide +kernel
theorem dX8_term_33 : decode cX8_term 33 = .ok (.iload_n 1, 1) := by decide +kernel
theorem dX8_term_34 : decode cX8_term 34 = .ok (.invokevirtual 258, 3) := by decide +kernel
theorem dX8_term_37 : decode cX8_term 37 = .ok (.ifCond .ne 5, 3) := by decide +kernel
theorem dX8_term_40 : decode cX8_term 40 = .ok (.iconst 0, 1) := by decide +kernel
theorem dX8_term_41 : decode cX8_term 41 = .ok (.ireturn, 1) := by decide +kernel
theorem dX8_term_42 : decode cX8_term 42 = .ok (.aload_n 0, 1) := by decide +kernel
theorem dX8_term_43 : decode cX8_term 43 = .ok (.sipush 2042, 3) := by decide +kernel
theorem dX8_term_46 : decode cX8_term 46 = .ok (.invokevirtual 246, 3) := by decide +kernel
theorem dX8_term_49 : decode cX8_term 49 = .ok (.pop, 1) := by decide +kernel
theorem dX8_term_50 : decode cX8_term 50 = .ok (.iinc 2 1, 3) := by decide +kernel
theorem dX8_term_53 : decode cX8_term 53 = .ok (.goto (-41), 3) := by decide +kernel
theorem dX8_term_56 : decode cX8_term 56 = .ok (.iconst 1, 1) := by decide +kernel
theorem dX8_term_57 : decode cX8_term 57 = .ok (.ireturn, 1) := by decide +kernel
set_option maxRecDepth 20000 in
set_option maxHeartbeats 2000000 in
theorem w_X8_term_12 {X : CX} {d : Nat} {dh : Nat} (hd : 4 ≤ d) (hdh : dh + 2 ≤ d) (hS : Nat → Int32 → G → Option (Bool × G)) (hhS : ∀ (a0 : Nat) (a1 : Int32) (g g1 : G) (rx : Bool), KD g a0 8 → hS a0 a1 g = some (rx, g1) → Sem X m_X8_sum dh [.ref (ad X a0), .int a1] g (some (.int (b2i rx))) g1) {g' : G} {rx : Bool} : ∀ (n : Nat) (l0 : Nat) (l1 : Int32) (l2 : Int32) (g : G), KD g l0 8 → f_X8_term_12 hS n l0 l1 l2 g = some (rx, g') → SemF X m_X8_term d 12 [(0, .ref (ad X l0)), (1, .int l1), (2, .int l2)] [] g (some (.int (b2i rx))) g' := by
  intro n
  induction n with
  | zero =>
    intro l0 l1 l2 g k_l0 h
    rw [f_X8_term_12] at h
    cases h
  | succ n ih =>
  intro l0 l1 l2 g k_l0 h
  rw [f_X8_term_12] at h
  refine SF_iload_n 2 13 dX8_term_12 rfl rfl rfl ?_
  refine SF_sipush (900 : Int32) 16 dX8_term_13 rfl rfl ?_
  refine SF_icge 56 19 dX8_term_16 rfl rfl (fun c1 => ?_) (fun c1 => ?_)
  · have h := ite_t c1 h
    refine SF_iconst (1 : Int32) 57 dX8_term_56 rfl rfl ?_
    exact RT_b rfl rfl dX8_term_57 h
  · have h := ite_f c1 h
    refine SF_aload_n 0 20 dX8_term_19 rfl rfl rfl ?_
    refine SF_getI 23 fl_X8_73 dX8_term_20 k_l0.1 rfl ?_
    refine SF_bipush (42 : Int32) 25 dX8_term_23 rfl rfl ?_
    refine SF_icne 56 28 dX8_term_25 rfl rfl (fun c2 => ?_) (fun c2 => ?_)
    · have h := ite_f c2 h
      refine SF_iconst (1 : Int32) 57 dX8_term_56 rfl rfl ?_
      exact RT_b rfl rfl dX8_term_57 h
    · have h := ite_t c2 h
      refine SF_aload_n 0 29 dX8_term_28 rfl rfl rfl ?_
      obtain ⟨v3, g4, q5, h⟩ := bd_some h
      have s6 := w_X8_look (X := X) (Nat.le_refl 0) l0 g g4 v3 k_l0 q5
      refine SF_callVv 32 mi_X8_look ml_X8_66 dX8_term_29 (Nat.le_trans (by decide) hd) s6 k_l0.1 rfl rfl (Nat.le_of_ble_eq_true rfl) rfl ?_
      have k_l0 := k_l0.ext s6.1
      refine SF_aload_n 0 33 dX8_term_32 rfl rfl rfl ?_
      refine SF_iload_n 1 34 dX8_term_33 rfl rfl rfl ?_
      obtain ⟨v7, g8, q9, h⟩ := bd_some h
      have s10 := w_X8_atom (d := d - 1) (dh := dh) (by omega) (by omega) hS hhS l0 l1 g4 g8 v7 k_l0 q9
      refine SF_callVb 37 mi_X8_atom ml_X8_258 dX8_term_34 (by omega) s10 k_l0.1 rfl rfl (Nat.le_of_ble_eq_true rfl) rfl ?_
      have k_l0 := k_l0.ext s10.1
      refine SF_ifne 42 40 dX8_term_37 rfl rfl (fun c11 => ?_) (fun c11 => ?_)
      · have h := ite_f c11 h
        refine SF_aload_n 0 43 dX8_term_42 rfl rfl rfl ?_
        refine SF_sipush (2042 : Int32) 46 dX8_term_43 rfl rfl ?_
        obtain ⟨v12, g13, q14, h⟩ := bd_some h
        have s15 := w_X8_emit (X := X) (Nat.le_refl 0) l0 (2042 : Int32) g8 g13 v12 k_l0 q14
        refine SF_callVb 49 mi_X8_emit ml_X8_246 dX8_term_46 (Nat.le_trans (by decide) hd) s15 k_l0.1 rfl rfl (Nat.le_of_ble_eq_true rfl) rfl ?_
        have k_l0 := k_l0.ext s15.1
        refine SF_pop 50 dX8_term_49 rfl rfl ?_
        refine SF_iinc 2 (l2 + (1 : Int32)) [(2, .int (l2 + (1 : Int32))), (0, .ref (ad X l0)), (1, .int l1)] 53 dX8_term_50 rfl rfl (by decide) rfl rfl ?_
        refine SF_goto 12 dX8_term_53 rfl ?_
        refine SF_sub [1, 2, 0] rfl ?_
        exact ih l0 l1 (l2 + (1 : Int32)) g13 k_l0 h
      · have h := ite_t c11 h
        refine SF_iconst (0 : Int32) 41 dX8_term_40 rfl rfl ?_
        exact RT_b rfl rfl dX8_term_41 h

set_option maxRecDepth 20000 in
set_option maxHeartbeats 2000000 in
theorem w_X8_term {X : CX} {d : Nat} {dh : Nat} (hd : 4 ≤ d) (hdh : dh + 2 ≤ d) (hS : Nat → Int32 → G → Option (Bool × G)) (hhS : ∀ (a0 : Nat) (a1 : Int32) (g g1 : G) (rx : Bool), KD g a0 8 → hS a0 a1 g = some (rx, g1) → Sem X m_X8_sum dh [.ref (ad X a0), .int a1] g (some (.int (b2i rx))) g1) (l0 : Nat) (l1 : Int32) (g g' : G) (rx : Bool) (k_l0 : KD g l0 8) (h : f_X8_term hS l0 l1 g = some (rx, g')) : Sem X m_X8_term d [.ref (ad X l0), .int l1] g (some (.int (b2i rx))) g' := by
  refine Sem_of (lo := [(0, .ref (ad X l0)), (1, .int l1)]) (by decide +kernel) rfl (Nat.le_of_ble_eq_true rfl) ?_
  rw [f_X8_term] at h
  refine SF_aload_n 0 1 dX8_term_0 rfl rfl rfl ?_
  refine SF_iload_n 1 2 dX8_term_1 rfl rfl rfl ?_
  obtain ⟨v1, g2, q3, h⟩ := bd_some h
  have s4 := w_X8_atom (d := d - 1) (dh := dh) (by omega) (by omega) hS hhS l0 l1 g g2 v1 k_l0 q3
  refine SF_callVb 5 mi_X8_atom ml_X8_258 dX8_term_2 (by omega) s4 k_l0.1 rfl rfl (Nat.le_of_ble_eq_true rfl) rfl ?_
  have k_l0 := k_l0.ext s4.1
  refine SF_ifne 10 8 dX8_term_5 rfl rfl (fun c5 => ?_) (fun c5 => ?_)
  · have h := ite_f c5 h
    refine SF_iconst (0 : Int32) 11 dX8_term_10 rfl rfl ?_
    refine SF_istore_n [(2, .int (0 : Int32)), (0, .ref (ad X l0)), (1, .int l1)] 12 dX8_term_11 rfl (by decide) rfl rfl ?_
    refine SF_sub [1, 2, 0] rfl ?_
    exact w_X8_term_12 hd hdh hS hhS FU l0 l1 (0 : Int32) g2 k_l0 h
  · have h := ite_t c5 h
    refine SF_iconst (0 : Int32) 9 dX8_term_8 rfl rfl ?_
    exact RT_b rfl rfl dX8_term_9 h

theorem dX8_sum_0 : decode cX8_sum 0 = .ok (.aload_n 0, 1) := by decide +kernel
theorem dX8_sum_1 : decode cX8_sum 1 = .ok (.iload_n 1, 1) := by decide +kernel
theorem dX8_sum_2 : decode cX8_sum 2 = .ok (.invokevirtual 255, 3) := by decide +kernel
theorem dX8_sum_5 : decode cX8_sum 5 = .ok (.ifCond .ne 5, 3) := by decide +kernel
theorem dX8_sum_8 : decode cX8_sum 8 = .ok (.iconst 0, 1) := by decide +kernel
theorem dX8_sum_9 : decode cX8_sum 9 = .ok (.ireturn, 1) := by decide +kernel
theorem dX8_sum_10 : decode cX8_sum 10 = .ok (.iconst 0, 1) := by decide +kernel
theorem dX8_sum_11 : decode cX8_sum 11 = .ok (.istore_n 2, 1) := by decide +kernel
theorem dX8_sum_12 : decode cX8_sum 12 = .ok (.iload_n 2, 1) := by decide +kernel
theorem dX8_sum_13 : decode cX8_sum 13 = .ok (.sipush 900, 3) := by decide +kernel
theorem dX8_sum_16 : decode cX8_sum 16 = .ok (.if_icmp .ge 56, 3) := by decide +kernel
theorem dX8_sum_19 : decode cX8_sum 19 = .ok (.aload_n 0, 1) := by decide +kernel
theorem dX8_sum_20 : decode cX8_sum 20 = .ok (.getfield 73, 3) := by decide +kernel
theorem dX8_sum_23 : decode cX8_sum 23 = .ok (.bipush 43, 2) := by decide +kernel
theorem dX8_sum_25 : decode cX8_sum 25 = .ok (.if_icmp .eq 12, 3) := by decide +kernel
theorem dX8_sum_28 : decode cX8_sum 28 = .ok (.aload_n 0, 1) := by decide +kernel
theorem dX8_sum_29 : decode cX8_sum 29 = .ok (.getfield 73, 3) := by decide +kernel
theorem dX8_sum_32 : decode cX8_sum 32 = .ok (.bipush 45, 2) := by decide +kernel
theorem dX8_sum_34 : decode cX8_sum 34 = .ok (.if_icmp .ne 38, 3) := by decide +kernel
theorem dX8_sum_37 : decode cX8_sum 37 = .ok (.aload_n 0, 1) := by decide +kernel
theorem dX8_sum_38 : decode cX8_sum 38 = .ok (.getfield 73, 3) := by decide +kernel
theorem dX8_sum_41 : decode cX8_sum 41 = .ok (.istore_n 3, 1) := by decide +kernel
theorem dX8_sum_42 : decode cX8_sum 42 = .ok (.aload_n 0, 1) := by decide +kernel
theorem dX8_sum_43 : decode cX8_sum 43 = .ok (.invokevirtual 66, 3) := by decide +kernel
theorem dX8_sum_46 : decode cX8_sum 46 = .ok (.aload_n 0, 1) := by decide +kernel
theorem dX8_sum_47 : decode cX8_sum 47 = .ok (.iload_n 1, 1) := by decide +kernel
theorem dX8_sum_48 : decode cX8_sum 48 = .ok (.invokevirtual 255, 3) := by decide +kernel
theorem dX8_sum_51 : decode cX8_sum 51 = .ok (.ifCond .ne 5, 3) := by decide +kernel
theorem dX8_sum_54 : decode cX8_sum 54 = .ok (.iconst 0, 1) := by decide +kernel
theorem dX8_sum_55 : decode cX8_sum 55 = .ok (.ireturn, 1) := by decide +kernel
theorem dX8_sum_56 : decode cX8_sum 56 = .ok (.aload_n 0, 1) := by decide +kernel
theorem dX8_sum_57 : decode cX8_sum 57 = .ok (.sipush 2000, 3) := by decide +kernel
theorem dX8_sum_60 : decode cX8_sum 60 = .ok (.iload_n 3, 1) := by decide +kernel
theorem dX8_sum_61 : decode cX8_sum 61 = .ok (.iadd, 1) := by decide +kernel
theorem dX8_sum_62 : decode cX8_sum 62 = .ok (.invokevirtual 246, 3) := by decide +kernel
theorem dX8_sum_65 : decode cX8_sum 65 = .ok (.pop, 1) := by decide +kernel
theorem dX8_sum_66 : decode cX8_sum 66 = .ok (.iinc 2 1, 3) := by decide +kernel
theorem dX8_sum_69 : decode cX8_sum 69 = .ok (.goto (-57), 3) := by decide +kernel
theorem dX8_sum_72 : decode cX8_sum 72 = .ok (.iconst 1, 1) := by decide +kernel
theorem dX8_sum_73 : decode cX8_sum 73 = .ok (.ireturn, 1) := by decide +kernel
set_option maxRecDepth 20000 in
set_option maxHeartbeats 2000000 in
theorem w_X8_sum_37 {X : CX} {d : Nat} {dh : Nat} (hd : 5 ≤ d) (hdh : dh + 3 ≤ d) (hS : Nat → Int32 → G → Option (Bool × G)) (hhS : ∀ (a0 : Nat) (a1 : Int32) (g g1 : G) (rx : Bool), KD g a0 8 → hS a0 a1 g = some (rx, g1) → Sem X m_X8_sum dh [.ref (ad X a0), .int a1] g (some (.int (b2i rx))) g1) {g' : G} {rx : Bool} (k12 : Nat → Int32 → Int32 → G → Option (Bool × G)) (hk12 : ∀ (l0 : Nat) (l1 : Int32) (l2 : Int32) (g : G), KD g l0 8 → k12 l0 l1 l2 g = some (rx, g') → SemF X m_X8_sum d 12 [(0, .ref (ad X l0)), (1, .int l1), (2, .int l2)] [] g (some (.int (b2i rx))) g') (l0 : Nat) (l1 : Int32) (l2 : Int32) (g : G) (k_l0 : KD g l0 8) (h : f_X8_sum_37 hS k12 l0 l1 l2 g = some (rx, g')) : SemF X m_X8_sum d 37 [(0, .ref (ad X l0)), (1, .int l1), (2, .int l2)] [] g (some (.int (b2i rx))) g' := by
  rw [f_X8_sum_37] at h
  refine SF_aload_n 0 38 dX8_sum_37 rfl rfl rfl ?_
  refine SF_getI 41 fl_X8_73 dX8_sum_38 k_l0.1 rfl ?_
  obtain ⟨y1, e2, h⟩ := li_some h
  refine SF_eqI e2 ?_
  refine SF_istore_n [(3, .int y1), (0, .ref (ad X l0)), (1, .int l1), (2, .int l2)] 42 dX8_sum_41 rfl (by decide) rfl rfl ?_
  refine SF_aload_n 1 43 dX8_sum_42 rfl rfl rfl ?_
  obtain ⟨v3, g4, q5, h⟩ := bd_some h
  have s6 := w_X8_look (X := X) (Nat.le_refl 0) l0 g g4 v3 k_l0 q5
  refine SF_callVv 46 mi_X8_look ml_X8_66 dX8_sum_43 (Nat.le_trans (by decide) hd) s6 k_l0.1 rfl rfl (Nat.le_of_ble_eq_true rfl) rfl ?_
  have k_l0 := k_l0.ext s6.1
  refine SF_aload_n 1 47 dX8_sum_46 rfl rfl rfl ?_
  refine SF_iload_n 2 48 dX8_sum_47 rfl rfl rfl ?_
  obtain ⟨v7, g8, q9, h⟩ := bd_some h
  have s10 := w_X8_term (d := d - 1) (dh := dh) (by omega) (by omega) hS hhS l0 l1 g4 g8 v7 k_l0 q9
  refine SF_callVb 51 mi_X8_term ml_X8_255 dX8_sum_48 (by omega) s10 k_l0.1 rfl rfl (Nat.le_of_ble_eq_true rfl) rfl ?_
  have k_l0 := k_l0.ext s10.1
  refine SF_ifne 56 54 dX8_sum_51 rfl rfl (fun c11 => ?_) (fun c11 => ?_)
  · have h := ite_f c11 h
    refine SF_aload_n 1 57 dX8_sum_56 rfl rfl rfl ?_
    refine SF_sipush (2000 : Int32) 60 dX8_sum_57 rfl rfl ?_
    refine SF_iload_n 0 61 dX8_sum_60 rfl rfl rfl ?_
    refine SF_iadd 62 dX8_sum_61 rfl ?_
    obtain ⟨v12, g13, q14, h⟩ := bd_some h
    have s15 := w_X8_emit (X := X) (Nat.le_refl 0) l0 ((2000 : Int32) + y1) g8 g13 v12 k_l0 q14
    refine SF_callVb 65 mi_X8_emit ml_X8_246 dX8_sum_62 (Nat.le_trans (by decide) hd) s15 k_l0.1 rfl rfl (Nat.le_of_ble_eq_true rfl) rfl ?_
    have k_l0 := k_l0.ext s15.1
    refine SF_pop 66 dX8_sum_65 rfl rfl ?_
    refine SF_iinc 3 (l2 + (1 : Int32)) [(2, .int (l2 + (1 : Int32))), (3, .int y1), (0, .ref (ad X l0)), (1, .int l1)] 69 dX8_sum_66 rfl rfl (by decide) rfl rfl ?_
    refine SF_goto 12 dX8_sum_69 rfl ?_
    refine SF_sub [2, 3, 0] rfl ?_
    exact hk12 l0 l1 (l2 + (1 : Int32)) g13 k_l0 h
  · have h := ite_t c11 h
    refine SF_iconst (0 : Int32) 55 dX8_sum_54 rfl rfl ?_
    exact RT_b rfl rfl dX8_sum_55 h

set_option maxRecDepth 20000 in
set_option maxHeartbeats 2000000 in
theorem w_X8_sum_12 {X : CX} {d : Nat} {dh : Nat} (hd : 5 ≤ d) (hdh : dh + 3 ≤ d) (hS : Nat → Int32 → G → Option (Bool × G)) (hhS : ∀ (a0 : Nat) (a1 : Int32) (g g1 : G) (rx : Bool), KD g a0 8 → hS a0 a1 g = some (rx, g1) → Sem X m_X8_sum dh [.ref (ad X a0), .int a1] g (some (.int (b2i rx))) g1) {g' : G} {rx : Bool} : ∀ (n : Nat) (l0 : Nat) (l1 : Int32) (l2 : Int32) (g : G), KD g l0 8 → f_X8_sum_12 hS n l0 l1 l2 g = some (rx, g') → SemF X m_X8_sum d 12 [(0, .ref (ad X l0)), (1, .int l1), (2, .int l2)] [] g (some (.int (b2i rx))) g' := by
  intro n
  induction n with
  | zero =>
    intro l0 l1 l2 g k_l0 h
    rw [f_X8_sum_12] at h
    cases h
  | succ n ih =>
  intro l0 l1 l2 g k_l0 h
  rw [f_X8_sum_12] at h
  refine SF_iload_n 2 13 dX8_sum_12 rfl rfl rfl ?_
  refine SF_sipush (900 : Int32) 16 dX8_sum_13 rfl rfl ?_
  refine SF_icge 72 19 dX8_sum_16 rfl rfl (fun c1 => ?_) (fun c1 => ?_)
  · have h := ite_t c1 h
    refine SF_iconst (1 : Int32) 73 dX8_sum_72 rfl rfl ?_
    exact RT_b rfl rfl dX8_sum_73 h
  · have h := ite_f c1 h
    refine SF_aload_n 0 20 dX8_sum_19 rfl rfl rfl ?_
    refine SF_getI 23 fl_X8_73 dX8_sum_20 k_l0.1 rfl ?_
    refine SF_bipush (43 : Int32) 25 dX8_sum_23 rfl rfl ?_
    refine SF_iceq 37 28 dX8_sum_25 rfl rfl (fun c2 => ?_) (fun c2 => ?_)
    · have h := ite_t c2 h
      exact w_X8_sum_37 hd hdh hS hhS (f_X8_sum_12 hS n) ih l0 l1 l2 g k_l0 h
    · have h := ite_f c2 h
      refine SF_aload_n 0 29 dX8_sum_28 rfl rfl rfl ?_
      refine SF_getI 32 fl_X8_73 dX8_sum_29 k_l0.1 rfl ?_
      refine SF_bipush (45 : Int32) 34 dX8_sum_32 rfl rfl ?_
      refine SF_icne 72 37 dX8_sum_34 rfl rfl (fun c3 => ?_) (fun c3 => ?_)
      · have h := ite_f c3 h
        refine SF_iconst (1 : Int32) 73 dX8_sum_72 rfl rfl ?_
        exact RT_b rfl rfl dX8_sum_73 h
      · have h := ite_t c3 h
        exact w_X8_sum_37 hd hdh hS hhS (f_X8_sum_12 hS n) ih l0 l1 l2 g k_l0 h

set_option maxRecDepth 20000 in
set_option maxHeartbeats 2000000 in
theorem w_X8_sum {X : CX} {d : Nat} {dh : Nat} (hd : 5 ≤ d) (hdh : dh + 3 ≤ d) (hS : Nat → Int32 → G → Option (Bool × G)) (hhS : ∀ (a0 : Nat) (a1 : Int32) (g g1 : G) (rx : Bool), KD g a0 8 → hS a0 a1 g = some (rx, g1) → Sem X m_X8_sum dh [.ref (ad X a0), .int a1] g (some (.int (b2i rx))) g1) (l0 : Nat) (l1 : Int32) (g g' : G) (rx : Bool) (k_l0 : KD g l0 8) (h : f_X8_sum hS l0 l1 g = some (rx, g')) : Sem X m_X8_sum d [.ref (ad X l0), .int l1] g (some (.int (b2i rx))) g' := by
  refine Sem_of (lo := [(0, .ref (ad X l0)), (1, .int l1)]) (by decide +kernel) rfl (Nat.le_of_ble_eq_true rfl) ?_
  rw [f_X8_sum] at h
  refine SF_aload_n 0 1 dX8_sum_0 rfl rfl rfl ?_
  refine SF_iload_n 1 2 dX8_sum_1 rfl rfl rfl ?_
  obtain ⟨v1, g2, q3, h⟩ := bd_some h
  have s4 := w_X8_term (d := d - 1) (dh := dh) (by omega) (by omega) hS hhS l0 l1 g g2 v1 k_l0 q3
  refine SF_callVb 5 mi_X8_term ml_X8_255 dX8_sum_2 (by omega) s4 k_l0.1 rfl rfl (Nat.le_of_ble_eq_true rfl) rfl ?_
  have k_l0 := k_l0.ext s4.1
  refine SF_ifne 10 8 dX8_sum_5 rfl rfl (fun c5 => ?_) (fun c5 => ?_)
  · have h := ite_f c5 h
    refine SF_iconst (0 : Int32) 11 dX8_sum_10 rfl rfl ?_
    refine SF_istore_n [(2, .int (0 : Int32)), (0, .ref (ad X l0)), (1, .int l1)] 12 dX8_sum_11 rfl (by decide) rfl rfl ?_
    refine SF_sub [1, 2, 0] rfl ?_
    exact w_X8_sum_12 hd hdh hS hhS FU l0 l1 (0 : Int32) g2 k_l0 h
  · have h := ite_t c5 h
    refine SF_iconst (0 : Int32) 9 dX8_sum_8 rfl rfl ?_
    exact RT_b rfl rfl dX8_sum_9 h

theorem dX8_unit_0 : decode cX8_unit 0 = .ok (.aload_n 0, 1) := by decide +kernel
theorem dX8_unit_1 : decode cX8_unit 1 = .ok (.bipush 14, 2) := by decide +kernel
theorem dX8_unit_3 : decode cX8_unit 3 = .ok (.invokevirtual 139, 3) := by decide +kernel
theorem dX8_unit_6 : decode cX8_unit 6 = .ok (.ifCond .eq 37, 3) := by decide +kernel
theorem dX8_unit_9 : decode cX8_unit 9 = .ok (.aload_n 0, 1) := by decide +kernel
theorem dX8_unit_10 : decode cX8_unit 10 = .ok (.iload_n 1, 1) := by decide +kernel
theorem dX8_unit_11 : decode cX8_unit 11 = .ok (.invokevirtual 252, 3) := by decide +kernel
theorem dX8_unit_14 : decode cX8_unit 14 = .ok (.ifCond .eq 27, 3) := by decide +kernel
theorem dX8_unit_17 : decode cX8_unit 17 = .ok (.aload_n 0, 1) := by decide +kernel
theorem dX8_unit_18 : decode cX8_unit 18 = .ok (.iload_n 1, 1) := by decide +kernel
theorem dX8_unit_19 : decode cX8_unit 19 = .ok (.iconst 1, 1) := by decide +kernel
theorem dX8_unit_20 : decode cX8_unit 20 = .ok (.iadd, 1) := by decide +kernel
theorem dX8_unit_21 : decode cX8_unit 21 = .ok (.invokevirtual 249, 3) := by decide +kernel
theorem dX8_unit_24 : decode cX8_unit 24 = .ok (.ifCond .eq 17, 3) := by decide +kernel
theorem dX8_unit_27 : decode cX8_unit 27 = .ok (.aload_n 0, 1) := by decide +kernel
theorem dX8_unit_28 : decode cX8_unit 28 = .ok (.sipush 2014, 3) := by decide +kernel
theorem dX8_unit_31 : decode cX8_unit 31 = .ok (.invokevirtual 246, 3) := by decide +kernel
theorem dX8_unit_34 : decode cX8_unit 34 = .ok (.ifCond .eq 7, 3) := by decide +kernel
theorem dX8_unit_37 : decode cX8_unit 37 = .ok (.iconst 1, 1) := by decide +kernel
theorem dX8_unit_38 : decode cX8_unit 38 = .ok (.goto 4, 3) := by decide +kernel
theorem dX8_unit_41 : decode cX8_unit 41 = .ok (.iconst 0, 1) := by decide +kernel
theorem dX8_unit_42 : decode cX8_unit 42 = .ok (.ireturn, 1) := by decide +kernel
theorem dX8_unit_43 : decode cX8_unit 43 = .ok (.aload_n 0, 1) := by decide +kernel
theorem dX8_unit_44 : decode cX8_unit 44 = .ok (.getfield 73, 3) := by decide +kernel
theorem dX8_unit_47 : decode cX8_unit 47 = .ok (.bipush 91, 2) := by decide +kernel
theorem dX8_unit_49 : decode cX8_unit 49 = .ok (.if_icmp .ne 36, 3) := by decide +kernel
theorem dX8_unit_52 : decode cX8_unit 52 = .ok (.aload_n 0, 1) := by decide +kernel
theorem dX8_unit_53 : decode cX8_unit 53 = .ok (.iload_n 1, 1) := by decide +kernel
theorem dX8_unit_54 : decode cX8_unit 54 = .ok (.invokevirtual 252, 3) := by decide +kernel
theorem dX8_unit_57 : decode cX8_unit 57 = .ok (.ifCond .eq 26, 3) := by decide +kernel
theorem dX8_unit_60 : decode cX8_unit 60 = .ok (.aload_n 0, 1) := by decide +kernel
theorem dX8_unit_61 : decode cX8_unit 61 = .ok (.iload_n 1, 1) := by decide +kernel
theorem dX8_unit_62 : decode cX8_unit 62 = .ok (.iconst 1, 1) := by decide +kernel
theorem dX8_unit_63 : decode cX8_unit 63 = .ok (.iadd, 1) := by decide +kernel
theorem dX8_unit_64 : decode cX8_unit 64 = .ok (.invokevirtual 223, 3) := by decide +kernel
theorem dX8_unit_67 : decode cX8_unit 67 = .ok (.ifCond .eq 16, 3) := by decide +kernel
theorem dX8_unit_70 : decode cX8_unit 70 = .ok (.aload_n 0, 1) := by decide +kernel
theorem dX8_unit_71 : decode cX8_unit 71 = .ok (.bipush 93, 2) := by decide +kernel
theorem dX8_unit_73 : decode cX8_unit 73 = .ok (.invokevirtual 157, 3) := by decide +kernel
theorem dX8_unit_76 : decode cX8_unit 76 = .ok (.ifCond .eq 7, 3) := by decide +kernel
theorem dX8_unit_79 : decode cX8_unit 79 = .ok (.iconst 1, 1) := by decide +kernel
theorem dX8_unit_80 : decode cX8_unit 80 = .ok (.goto 4, 3) := by decide +kernel
theorem dX8_unit_83 : decode cX8_unit 83 = .ok (.iconst 0, 1) := by decide +kernel
theorem dX8_unit_84 : decode cX8_unit 84 = .ok (.ireturn, 1) := by decide +kernel
theorem dX8_unit_85 : decode cX8_unit 85 = .ok (.aload_n 0, 1) := by decide +kernel
theorem dX8_unit_86 : decode cX8_unit 86 = .ok (.iload_n 1, 1) := by decide +kernel
theorem dX8_unit_87 : decode cX8_unit 87 = .ok (.invokevirtual 226, 3) := by decide +kernel
theorem dX8_unit_90 : decode cX8_unit 90 = .ok (.ifCond .ne 5, 3) := by decide +kernel
theorem dX8_unit_93 : decode cX8_unit 93 = .ok (.iconst 0, 1) := by decide +kernel
theorem dX8_unit_94 : decode cX8_unit 94 = .ok (.ireturn, 1) := by decide +kernel
theorem dX8_unit_95 : decode cX8_unit 95 = .ok (.aload_n 0, 1) := by decide +kernel
theorem dX8_unit_96 : decode cX8_unit 96 = .ok (.getfield 73, 3) := by decide +kernel
theorem dX8_unit_99 : decode cX8_unit 99 = .ok (.istore_n 2, 1) := by decide +kernel
theorem dX8_unit_100 : decode cX8_unit 100 = .ok (.iload_n 2, 1) := by decide +kernel
theorem dX8_unit_101 : decode cX8_unit 101 = .ok (.bipush 61, 2) := by decide +kernel
theorem dX8_unit_103 : decode cX8_unit 103 = .ok (.if_icmp .eq 20, 3) := by decide +kernel
theorem dX8_unit_106 : decode cX8_unit 106 = .ok (.iload_n 2, 1) := by decide +kernel
theorem dX8_unit_107 : decode cX8_unit 107 = .ok (.bipush 60, 2) := by decide +kernel
theorem dX8_unit_109 : decode cX8_unit 109 = .ok (.if_icmp .eq 14, 3) := by decide +kernel
theorem dX8_unit_112 : decode cX8_unit 112 = .ok (.iload_n 2, 1) := by decide +kernel
theorem dX8_unit_113 : decode cX8_unit 113 = .ok (.bipush 62, 2) := by decide +kernel
theorem dX8_unit_115 : decode cX8_unit 115 = .ok (.if_icmp .eq 8, 3) := by decide +kernel
theorem dX8_unit_118 : decode cX8_unit 118 = .ok (.aload_n 0, 1) := by decide +kernel
theorem dX8_unit_119 : decode cX8_unit 119 = .ok (.invokevirtual 133, 3) := by decide +kernel
theorem dX8_unit_122 : decode cX8_unit 122 = .ok (.ireturn, 1) := by decide +kernel
theorem dX8_unit_123 : decode cX8_unit 123 = .ok (.aload_n 0, 1) := by decide +kernel
theorem dX8_unit_124 : decode cX8_unit 124 = .ok (.invokevirtual 66, 3) := by decide +kernel
theorem dX8_unit_127 : decode cX8_unit 127 = .ok (.aload_n 0, 1) := by decide +kernel
theorem dX8_unit_128 : decode cX8_unit 128 = .ok (.iload_n 1, 1) := by decide +kernel
theorem dX8_unit_129 : decode cX8_unit 129 = .ok (.invokevirtual 226, 3) := by decide +kernel
theorem dX8_unit_132 : decode cX8_unit 132 = .ok (.ifCond .eq 19, 3) := by decide +kernel
theorem dX8_unit_135 : decode cX8_unit 135 = .ok (.aload_n 0, 1) := by decide +kernel
theorem dX8_unit_136 : decode cX8_unit 136 = .ok (.sipush 2000, 3) := by decide +kernel
theorem dX8_unit_139 : decode cX8_unit 139 = .ok (.iload_n 2, 1) := by decide +kernel
theorem dX8_unit_140 : decode cX8_unit 140 = .ok (.iadd, 1) := by decide +kernel
theorem dX8_unit_141 : decode cX8_unit 141 = .ok (.invokevirtual 246, 3) := by decide +kernel
theorem dX8_unit_144 : decode cX8_unit 144 = .ok (.ifCond .eq 7, 3) := by decide +kernel
theorem dX8_unit_147 : decode cX8_unit 147 = .ok (.iconst 1, 1) := by decide +kernel
theorem dX8_unit_148 : decode cX8_unit 148 = .ok (.goto 4, 3) := by decide +kernel
theorem dX8_unit_151 : decode cX8_unit 151 = .ok (.iconst 0, 1) := by decide +kernel
theorem dX8_unit_152 : decode cX8_unit 152 = .ok (.ireturn, 1) := by decide +kernel
set_option maxRecDepth 20000 in
set_option maxHeartbeats 2000000 in
theorem w_X8_unit_123 {X : CX} {d : Nat} {dh : Nat} (hd : 6 ≤ d) (hdh : dh + 4 ≤ d) (hS : Nat → Int32 → G → Option (Bool × G)) (hhS : ∀ (a0 : Nat) (a1 : Int32) (g g1 : G) (rx : Bool), KD g a0 8 → hS a0 a1 g = some (rx, g1) → Sem X m_X8_sum dh [.ref (ad X a0), .int a1] g (some (.int (b2i rx))) g1) (hT : Nat → Int32 → G → Option (Bool × G)) (hhT : ∀ (a0 : Nat) (a1 : Int32) (g g1 : G) (rx : Bool), KD g a0 8 → hT a0 a1 g = some (rx, g1) → Sem X m_X8_truth dh [.ref (ad X a0), .int a1] g (some (.int (b2i rx))) g1) (hU : Nat → Int32 → G → Option (Bool × G)) (hhU : ∀ (a0 : Nat) (a1 : Int32) (g g1 : G) (rx : Bool), KD g a0 8 → hU a0 a1 g = some (rx, g1) → Sem X m_X8_unit dh [.ref (ad X a0), .int a1] g (some (.int (b2i rx))) g1) {g' : G} {rx : Bool} (l0 : Nat) (l1 : Int32) (l2 : Int32) (g : G) (k_l0 : KD g l0 8) (h : f_X8_unit_123 hS hT hU l0 l1 l2 g = some (rx, g')) : SemF X m_X8_unit d 123 [(0, .ref (ad X l0)), (1, .int l1), (2, .int l2)] [] g (some (.int (b2i rx))) g' := by
  rw [f_X8_unit_123] at h
  refine SF_aload_n 0 124 dX8_unit_123 rfl rfl rfl ?_
  obtain ⟨v1, g2, q3, h⟩ := bd_some h
  have s4 := w_X8_look (X := X) (Nat.le_refl 0) l0 g g2 v1 k_l0 q3
  refine SF_callVv 127 mi_X8_look ml_X8_66 dX8_unit_124 (Nat.le_trans (by decide) hd) s4 k_l0.1 rfl rfl (Nat.le_of_ble_eq_true rfl) rfl ?_
  have k_l0 := k_l0.ext s4.1
  refine SF_aload_n 0 128 dX8_unit_127 rfl rfl rfl ?_
  refine SF_iload_n 1 129 dX8_unit_128 rfl rfl rfl ?_
  obtain ⟨v5, g6, q7, h⟩ := bd_some h
  have s8 := w_X8_sum (d := d - 1) (dh := dh) (by omega) (by omega) hS hhS l0 l1 g2 g6 v5 k_l0 q7
  refine SF_callVb 132 mi_X8_sum ml_X8_226 dX8_unit_129 (by omega) s8 k_l0.1 rfl rfl (Nat.le_of_ble_eq_true rfl) rfl ?_
  have k_l0 := k_l0.ext s8.1
  refine SF_ifeq 151 135 dX8_unit_132 rfl rfl (fun c9 => ?_) (fun c9 => ?_)
  · have h := ite_t c9 h
    refine SF_iconst (0 : Int32) 152 dX8_unit_151 rfl rfl ?_
    exact RT_b rfl rfl dX8_unit_152 h
  · have h := ite_f c9 h
    refine SF_aload_n 0 136 dX8_unit_135 rfl rfl rfl ?_
    refine SF_sipush (2000 : Int32) 139 dX8_unit_136 rfl rfl ?_
    refine SF_iload_n 2 140 dX8_unit_139 rfl rfl rfl ?_
    refine SF_iadd 141 dX8_unit_140 rfl ?_
    obtain ⟨v10, g11, q12, h⟩ := bd_some h
    have s13 := w_X8_emit (X := X) (Nat.le_refl 0) l0 ((2000 : Int32) + l2) g6 g11 v10 k_l0 q12
    refine SF_callVb 144 mi_X8_emit ml_X8_246 dX8_unit_141 (Nat.le_trans (by decide) hd) s13 k_l0.1 rfl rfl (Nat.le_of_ble_eq_true rfl) rfl ?_
    have k_l0 := k_l0.ext s13.1
    refine SF_ifeq 151 147 dX8_unit_144 rfl rfl (fun c14 => ?_) (fun c14 => ?_)
    · have h := ite_t c14 h
      refine SF_iconst (0 : Int32) 152 dX8_unit_151 rfl rfl ?_
      exact RT_b rfl rfl dX8_unit_152 h
    · have h := ite_f c14 h
      refine SF_iconst (1 : Int32) 148 dX8_unit_147 rfl rfl ?_
      refine SF_goto 152 dX8_unit_148 rfl ?_
      exact RT_b rfl rfl dX8_unit_152 h

set_option maxRecDepth 20000 in
set_option maxHeartbeats 2000000 in
theorem w_X8_unit {X : CX} {d : Nat} {dh : Nat} (hd : 6 ≤ d) (hdh : dh + 4 ≤ d) (hS : Nat → Int32 → G → Option (Bool × G)) (hhS : ∀ (a0 : Nat) (a1 : Int32) (g g1 : G) (rx : Bool), KD g a0 8 → hS a0 a1 g = some (rx, g1) → Sem X m_X8_sum dh [.ref (ad X a0), .int a1] g (some (.int (b2i rx))) g1) (hT : Nat → Int32 → G → Option (Bool × G)) (hhT : ∀ (a0 : Nat) (a1 : Int32) (g g1 : G) (rx : Bool), KD g a0 8 → hT a0 a1 g = some (rx, g1) → Sem X m_X8_truth dh [.ref (ad X a0), .int a1] g (some (.int (b2i rx))) g1) (hU : Nat → Int32 → G → Option (Bool × G)) (hhU : ∀ (a0 : Nat) (a1 : Int32) (g g1 : G) (rx : Bool), KD g a0 8 → hU a0 a1 g = some (rx, g1) → Sem X m_X8_unit dh [.ref (ad X a0), .int a1] g (some (.int (b2i rx))) g1) (l0 : Nat) (l1 : Int32) (g g' : G) (rx : Bool) (k_l0 : KD g l0 8) (h : f_X8_unit hS hT hU l0 l1 g = some (rx, g')) : Sem X m_X8_unit d [.ref (ad X l0), .int l1] g (some (.int (b2i rx))) g' := by
  refine Sem_of (lo := [(0, .ref (ad X l0)), (1, .int l1)]) (by decide +kernel) rfl (Nat.le_of_ble_eq_true rfl) ?_
  rw [f_X8_unit] at h
  refine SF_aload_n 0 1 dX8_unit_0 rfl rfl rfl ?_
  refine SF_bipush (14 : Int32) 3 dX8_unit_1 rfl rfl ?_
  obtain ⟨v1, g2, q3, h⟩ := bd_some h
  have s4 := w_X8_isWord (X := X) (Nat.le_refl 0) l0 (14 : Int32) g g2 v1 k_l0 q3
  refine SF_callVb 6 mi_X8_isWord ml_X8_139 dX8_unit_3 (Nat.le_trans (by decide) hd) s4 k_l0.1 rfl rfl (Nat.le_of_ble_eq_true rfl) rfl ?_
  have k_l0 := k_l0.ext s4.1
  refine SF_ifeq 43 9 dX8_unit_6 rfl rfl (fun c5 => ?_) (fun c5 => ?_)
  · have h := ite_t c5 h
    refine SF_aload_n 0 44 dX8_unit_43 rfl rfl rfl ?_
    refine SF_getI 47 fl_X8_73 dX8_unit_44 k_l0.1 rfl ?_
    refine SF_bipush (91 : Int32) 49 dX8_unit_47 rfl rfl ?_
    refine SF_icne 85 52 dX8_unit_49 rfl rfl (fun c6 => ?_) (fun c6 => ?_)
    · have h := ite_f c6 h
      refine SF_aload_n 0 86 dX8_unit_85 rfl rfl rfl ?_
      refine SF_iload_n 1 87 dX8_unit_86 rfl rfl rfl ?_
      obtain ⟨v7, g8, q9, h⟩ := bd_some h
      have s10 := w_X8_sum (d := d - 1) (dh := dh) (by omega) (by omega) hS hhS l0 l1 g2 g8 v7 k_l0 q9
      refine SF_callVb 90 mi_X8_sum ml_X8_226 dX8_unit_87 (by omega) s10 k_l0.1 rfl rfl (Nat.le_of_ble_eq_true rfl) rfl ?_
      have k_l0 := k_l0.ext s10.1
      refine SF_ifne 95 93 dX8_unit_90 rfl rfl (fun c11 => ?_) (fun c11 => ?_)
      · have h := ite_f c11 h
        refine SF_aload_n 0 96 dX8_unit_95 rfl rfl rfl ?_
        refine SF_getI 99 fl_X8_73 dX8_unit_96 k_l0.1 rfl ?_
        obtain ⟨y12, e13, h⟩ := li_some h
        refine SF_eqI e13 ?_
        refine SF_istore_n [(2, .int y12), (0, .ref (ad X l0)), (1, .int l1)] 100 dX8_unit_99 rfl (by decide) rfl rfl ?_
        refine SF_iload_n 0 101 dX8_unit_100 rfl rfl rfl ?_
        refine SF_bipush (61 : Int32) 103 dX8_unit_101 rfl rfl ?_
        refine SF_iceq 123 106 dX8_unit_103 rfl rfl (fun c14 => ?_) (fun c14 => ?_)
        · have h := ite_t c14 h
          refine SF_sub [1, 2, 0] rfl ?_
          exact w_X8_unit_123 hd hdh hS hhS hT hhT hU hhU l0 l1 y12 g8 k_l0 h
        · have h := ite_f c14 h
          refine SF_iload_n 0 107 dX8_unit_106 rfl rfl rfl ?_
          refine SF_bipush (60 : Int32) 109 dX8_unit_107 rfl rfl ?_
          refine SF_iceq 123 112 dX8_unit_109 rfl rfl (fun c15 => ?_) (fun c15 => ?_)
          · have h := ite_t c15 h
            refine SF_sub [1, 2, 0] rfl ?_
            exact w_X8_unit_123 hd hdh hS hhS hT hhT hU hhU l0 l1 y12 g8 k_l0 h
          · have h := ite_f c15 h
            refine SF_iload_n 0 113 dX8_unit_112 rfl rfl rfl ?_
            refine SF_bipush (62 : Int32) 115 dX8_unit_113 rfl rfl ?_
            refine SF_iceq 123 118 dX8_unit_115 rfl rfl (fun c16 => ?_) (fun c16 => ?_)
            · have h := ite_t c16 h
              refine SF_sub [1, 2, 0] rfl ?_
              exact w_X8_unit_123 hd hdh hS hhS hT hhT hU hhU l0 l1 y12 g8 k_l0 h
            · have h := ite_f c16 h
              refine SF_aload_n 1 119 dX8_unit_118 rfl rfl rfl ?_
              obtain ⟨v17, g18, q19, h⟩ := bd_some h
              have s20 := w_X8_refuseToken (X := X) (Nat.le_refl 1) l0 g8 g18 v17 k_l0 q19
              refine SF_callVb 122 mi_X8_refuseToken ml_X8_133 dX8_unit_119 (Nat.le_trans (by decide) hd) s20 k_l0.1 rfl rfl (Nat.le_of_ble_eq_true rfl) rfl ?_
              have k_l0 := k_l0.ext s20.1
              exact RT_b rfl rfl dX8_unit_122 h
      · have h := ite_t c11 h
        refine SF_iconst (0 : Int32) 94 dX8_unit_93 rfl rfl ?_
        exact RT_b rfl rfl dX8_unit_94 h
    · have h := ite_t c6 h
      refine SF_aload_n 0 53 dX8_unit_52 rfl rfl rfl ?_
      refine SF_iload_n 1 54 dX8_unit_53 rfl rfl rfl ?_
      obtain ⟨v21, g22, q23, h⟩ := bd_some h
      have s24 := w_X8_deeper (X := X) (Nat.le_refl 1) l0 l1 g2 g22 v21 k_l0 q23
      refine SF_callVb 57 mi_X8_deeper ml_X8_252 dX8_unit_54 (Nat.le_trans (by decide) hd) s24 k_l0.1 rfl rfl (Nat.le_of_ble_eq_true rfl) rfl ?_
      have k_l0 := k_l0.ext s24.1
      refine SF_ifeq 83 60 dX8_unit_57 rfl rfl (fun c25 => ?_) (fun c25 => ?_)
      · have h := ite_t c25 h
        refine SF_iconst (0 : Int32) 84 dX8_unit_83 rfl rfl ?_
        exact RT_b rfl rfl dX8_unit_84 h
      · have h := ite_f c25 h
        refine SF_aload_n 0 61 dX8_unit_60 rfl rfl rfl ?_
        refine SF_iload_n 1 62 dX8_unit_61 rfl rfl rfl ?_
        refine SF_iconst (1 : Int32) 63 dX8_unit_62 rfl rfl ?_
        refine SF_iadd 64 dX8_unit_63 rfl ?_
        obtain ⟨v26, g27, q28, h⟩ := bd_some h
        have s29 := hhT l0 (l1 + (1 : Int32)) g22 g27 v26 k_l0 q28
        refine SF_callVb 67 mi_X8_truth ml_X8_223 dX8_unit_64 (by omega) s29 k_l0.1 rfl rfl (Nat.le_of_ble_eq_true rfl) rfl ?_
        have k_l0 := k_l0.ext s29.1
        refine SF_ifeq 83 70 dX8_unit_67 rfl rfl (fun c30 => ?_) (fun c30 => ?_)
        · have h := ite_t c30 h
          refine SF_iconst (0 : Int32) 84 dX8_unit_83 rfl rfl ?_
          exact RT_b rfl rfl dX8_unit_84 h
        · have h := ite_f c30 h
          refine SF_aload_n 0 71 dX8_unit_70 rfl rfl rfl ?_
          refine SF_bipush (93 : Int32) 73 dX8_unit_71 rfl rfl ?_
          obtain ⟨v31, g32, q33, h⟩ := bd_some h
          have s34 := w_X8_take (X := X) (Nat.le_refl 2) l0 (93 : Int32) g27 g32 v31 k_l0 q33
          refine SF_callVb 76 mi_X8_take ml_X8_157 dX8_unit_73 (Nat.le_trans (by decide) hd) s34 k_l0.1 rfl rfl (Nat.le_of_ble_eq_true rfl) rfl ?_
          have k_l0 := k_l0.ext s34.1
          refine SF_ifeq 83 79 dX8_unit_76 rfl rfl (fun c35 => ?_) (fun c35 => ?_)
          · have h := ite_t c35 h
            refine SF_iconst (0 : Int32) 84 dX8_unit_83 rfl rfl ?_
            exact RT_b rfl rfl dX8_unit_84 h
          · have h := ite_f c35 h
            refine SF_iconst (1 : Int32) 80 dX8_unit_79 rfl rfl ?_
            refine SF_goto 84 dX8_unit_80 rfl ?_
            exact RT_b rfl rfl dX8_unit_84 h
  · have h := ite_f c5 h
    refine SF_aload_n 0 10 dX8_unit_9 rfl rfl rfl ?_
    refine SF_iload_n 1 11 dX8_unit_10 rfl rfl rfl ?_
    obtain ⟨v36, g37, q38, h⟩ := bd_some h
    have s39 := w_X8_deeper (X := X) (Nat.le_refl 1) l0 l1 g2 g37 v36 k_l0 q38
    refine SF_callVb 14 mi_X8_deeper ml_X8_252 dX8_unit_11 (Nat.le_trans (by decide) hd) s39 k_l0.1 rfl rfl (Nat.le_of_ble_eq_true rfl) rfl ?_
    have k_l0 := k_l0.ext s39.1
    refine SF_ifeq 41 17 dX8_unit_14 rfl rfl (fun c40 => ?_) (fun c40 => ?_)
    · have h := ite_t c40 h
      refine SF_iconst (0 : Int32) 42 dX8_unit_41 rfl rfl ?_
      exact RT_b rfl rfl dX8_unit_42 h
    · have h := ite_f c40 h
      refine SF_aload_n 0 18 dX8_unit_17 rfl rfl rfl ?_
      refine SF_iload_n 1 19 dX8_unit_18 rfl rfl rfl ?_
      refine SF_iconst (1 : Int32) 20 dX8_unit_19 rfl rfl ?_
      refine SF_iadd 21 dX8_unit_20 rfl ?_
      obtain ⟨v41, g42, q43, h⟩ := bd_some h
      have s44 := hhU l0 (l1 + (1 : Int32)) g37 g42 v41 k_l0 q43
      refine SF_callVb 24 mi_X8_unit ml_X8_249 dX8_unit_21 (by omega) s44 k_l0.1 rfl rfl (Nat.le_of_ble_eq_true rfl) rfl ?_
      have k_l0 := k_l0.ext s44.1
      refine SF_ifeq 41 27 dX8_unit_24 rfl rfl (fun c45 => ?_) (fun c45 => ?_)
      · have h := ite_t c45 h
        refine SF_iconst (0 : Int32) 42 dX8_unit_41 rfl rfl ?_
        exact RT_b rfl rfl dX8_unit_42 h
      · have h := ite_f c45 h
        refine SF_aload_n 0 28 dX8_unit_27 rfl rfl rfl ?_
        refine SF_sipush (2014 : Int32) 31 dX8_unit_28 rfl rfl ?_
        obtain ⟨v46, g47, q48, h⟩ := bd_some h
        have s49 := w_X8_emit (X := X) (Nat.le_refl 0) l0 (2014 : Int32) g42 g47 v46 k_l0 q48
        refine SF_callVb 34 mi_X8_emit ml_X8_246 dX8_unit_31 (Nat.le_trans (by decide) hd) s49 k_l0.1 rfl rfl (Nat.le_of_ble_eq_true rfl) rfl ?_
        have k_l0 := k_l0.ext s49.1
        refine SF_ifeq 41 37 dX8_unit_34 rfl rfl (fun c50 => ?_) (fun c50 => ?_)
        · have h := ite_t c50 h
          refine SF_iconst (0 : Int32) 42 dX8_unit_41 rfl rfl ?_
          exact RT_b rfl rfl dX8_unit_42 h
        · have h := ite_f c50 h
          refine SF_iconst (1 : Int32) 38 dX8_unit_37 rfl rfl ?_
          refine SF_goto 42 dX8_unit_38 rfl ?_
          exact RT_b rfl rfl dX8_unit_42 h

theorem dX8_both_0 : decode cX8_both 0 = .ok (.aload_n 0, 1) := by decide +kernel
theorem dX8_both_1 : decode cX8_both 1 = .ok (.iload_n 1, 1) := by decide +kernel
theorem dX8_both_2 : decode cX8_both 2 = .ok (.invokevirtual 249, 3) := by decide +kernel
theorem dX8_both_5 : decode cX8_both 5 = .ok (.ifCond .ne 5, 3) := by decide +kernel
theorem dX8_both_8 : decode cX8_both 8 = .ok (.iconst 0, 1) := by decide +kernel
theorem dX8_both_9 : decode cX8_both 9 = .ok (.ireturn, 1) := by decide +kernel
theorem dX8_both_10 : decode cX8_both 10 = .ok (.iconst 0, 1) := by decide +kernel
theorem dX8_both_11 : decode cX8_both 11 = .ok (.istore_n 2, 1) := by decide +kernel
theorem dX8_both_12 : decode cX8_both 12 = .ok (.iload_n 2, 1) := by decide +kernel
theorem dX8_both_13 : decode cX8_both 13 = .ok (.sipush 900, 3) := by decide +kernel
theorem dX8_both_16 : decode cX8_both 16 = .ok (.if_icmp .ge 40, 3) := by decide +kernel
theorem dX8_both_19 : decode cX8_both 19 = .ok (.aload_n 0, 1) := by decide +kernel
theorem dX8_both_20 : decode cX8_both 20 = .ok (.bipush 13, 2) := by decide +kernel
theorem dX8_both_22 : decode cX8_both 22 = .ok (.invokevirtual 139, 3) := by decide +kernel
theorem dX8_both_25 : decode cX8_both 25 = .ok (.ifCond .eq 31, 3) := by decide +kernel
theorem dX8_both_28 : decode cX8_both 28 = .ok (.aload_n 0, 1) := by decide +kernel
theorem dX8_both_29 : decode cX8_both 29 = .ok (.invokevirtual 66, 3) := by decide +kernel
theorem dX8_both_32 : decode cX8_both 32 = .ok (.aload_n 0, 1) := by decide +kernel
theorem dX8_both_33 : decode cX8_both 33 = .ok (.iload_n 1, 1) := by decide +kernel
theorem dX8_both_34 : decode cX8_both 34 = .ok (.invokevirtual 249, 3) := by decide +kernel
theorem dX8_both_37 : decode cX8_both 37 = .ok (.ifCond .ne 5, 3) := by decide +kernel
theorem dX8_both_40 : decode cX8_both 40 = .ok (.iconst 0, 1) := by decide +kernel
theorem dX8_both_41 : decode cX8_both 41 = .ok (.ireturn, 1) := by decide +kernel
theorem dX8_both_42 : decode cX8_both 42 = .ok (.aload_n 0, 1) := by decide +kernel
theorem dX8_both_43 : decode cX8_both 43 = .ok (.sipush 2013, 3) := by decide +kernel
theorem dX8_both_46 : decode cX8_both 46 = .ok (.invokevirtual 246, 3) := by decide +kernel
theorem dX8_both_49 : decode cX8_both 49 = .ok (.pop, 1) := by decide +kernel
theorem dX8_both_50 : decode cX8_both 50 = .ok (.iinc 2 1, 3) := by decide +kernel
theorem dX8_both_53 : decode cX8_both 53 = .ok (.goto (-41), 3) := by decide +kernel
theorem dX8_both_56 : decode cX8_both 56 = .ok (.iconst 1, 1) := by decide +kernel
theorem dX8_both_57 : decode cX8_both 57 = .ok (.ireturn, 1) := by decide +kernel
set_option maxRecDepth 20000 in
set_option maxHeartbeats 2000000 in
theorem w_X8_both_12 {X : CX} {d : Nat} {dh : Nat} (hd : 7 ≤ d) (hdh : dh + 5 ≤ d) (hS : Nat → Int32 → G → Option (Bool × G)) (hhS : ∀ (a0 : Nat) (a1 : Int32) (g g1 : G) (rx : Bool), KD g a0 8 → hS a0 a1 g = some (rx, g1) → Sem X m_X8_sum dh [.ref (ad X a0), .int a1] g (some (.int (b2i rx))) g1) (hT : Nat → Int32 → G → Option (Bool × G)) (hhT : ∀ (a0 : Nat) (a1 : Int32) (g g1 : G) (rx : Bool), KD g a0 8 → hT a0 a1 g = some (rx, g1) → Sem X m_X8_truth dh [.ref (ad X a0), .int a1] g (some (.int (b2i rx))) g1) (hU : Nat → Int32 → G → Option (Bool × G)) (hhU : ∀ (a0 : Nat) (a1 : Int32) (g g1 : G) (rx : Bool), KD g a0 8 → hU a0 a1 g = some (rx, g1) → Sem X m_X8_unit dh [.ref (ad X a0), .int a1] g (some (.int (b2i rx))) g1) {g' : G} {rx : Bool} : ∀ (n : Nat) (l0 : Nat) (l1 : Int32) (l2 : Int32) (g : G), KD g l0 8 → f_X8_both_12 hS hT hU n l0 l1 l2 g = some (rx, g') → SemF X m_X8_both d 12 [(0, .ref (ad X l0)), (1, .int l1), (2, .int l2)] [] g (some (.int (b2i rx))) g' := by
  intro n
  induction n with
  | zero =>
    intro l0 l1 l2 g k_l0 h
    rw [f_X8_both_12] at h
    cases h
  | succ n ih =>
  intro l0 l1 l2 g k_l0 h
  rw [f_X8_both_12] at h
  refine SF_iload_n 2 13 dX8_both_12 rfl rfl rfl ?_
  refine SF_sipush (900 : Int32) 16 dX8_both_13 rfl rfl ?_
  refine SF_icge 56 19 dX8_both_16 rfl rfl (fun c1 => ?_) (fun c1 => ?_)
  · have h := ite_t c1 h
    refine SF_iconst (1 : Int32) 57 dX8_both_56 rfl rfl ?_
    exact RT_b rfl rfl dX8_both_57 h
  · have h := ite_f c1 h
    refine SF_aload_n 0 20 dX8_both_19 rfl rfl rfl ?_
    refine SF_bipush (13 : Int32) 22 dX8_both_20 rfl rfl ?_
    obtain ⟨v2, g3, q4, h⟩ := bd_some h
    have s5 := w_X8_isWord (X := X) (Nat.le_refl 0) l0 (13 : Int32) g g3 v2 k_l0 q4
    refine SF_callVb 25 mi_X8_isWord ml_X8_139 dX8_both_22 (Nat.le_trans (by decide) hd) s5 k_l0.1 rfl rfl (Nat.le_of_ble_eq_true rfl) rfl ?_
    have k_l0 := k_l0.ext s5.1
    refine SF_ifeq 56 28 dX8_both_25 rfl rfl (fun c6 => ?_) (fun c6 => ?_)
    · have h := ite_t c6 h
      refine SF_iconst (1 : Int32) 57 dX8_both_56 rfl rfl ?_
      exact RT_b rfl rfl dX8_both_57 h
    · have h := ite_f c6 h
      refine SF_aload_n 0 29 dX8_both_28 rfl rfl rfl ?_
      obtain ⟨v7, g8, q9, h⟩ := bd_some h
      have s10 := w_X8_look (X := X) (Nat.le_refl 0) l0 g3 g8 v7 k_l0 q9
      refine SF_callVv 32 mi_X8_look ml_X8_66 dX8_both_29 (Nat.le_trans (by decide) hd) s10 k_l0.1 rfl rfl (Nat.le_of_ble_eq_true rfl) rfl ?_
      have k_l0 := k_l0.ext s10.1
      refine SF_aload_n 0 33 dX8_both_32 rfl rfl rfl ?_
      refine SF_iload_n 1 34 dX8_both_33 rfl rfl rfl ?_
      obtain ⟨v11, g12, q13, h⟩ := bd_some h
      have s14 := w_X8_unit (d := d - 1) (dh := dh) (by omega) (by omega) hS hhS hT hhT hU hhU l0 l1 g8 g12 v11 k_l0 q13
      refine SF_callVb 37 mi_X8_unit ml_X8_249 dX8_both_34 (by omega) s14 k_l0.1 rfl rfl (Nat.le_of_ble_eq_true rfl) rfl ?_
      have k_l0 := k_l0.ext s14.1
      refine SF_ifne 42 40 dX8_both_37 rfl rfl (fun c15 => ?_) (fun c15 => ?_)
      · have h := ite_f c15 h
        refine SF_aload_n 0 43 dX8_both_42 rfl rfl rfl ?_
        refine SF_sipush (2013 : Int32) 46 dX8_both_43 rfl rfl ?_
        obtain ⟨v16, g17, q18, h⟩ := bd_some h
        have s19 := w_X8_emit (X := X) (Nat.le_refl 0) l0 (2013 : Int32) g12 g17 v16 k_l0 q18
        refine SF_callVb 49 mi_X8_emit ml_X8_246 dX8_both_46 (Nat.le_trans (by decide) hd) s19 k_l0.1 rfl rfl (Nat.le_of_ble_eq_true rfl) rfl ?_
        have k_l0 := k_l0.ext s19.1
        refine SF_pop 50 dX8_both_49 rfl rfl ?_
        refine SF_iinc 2 (l2 + (1 : Int32)) [(2, .int (l2 + (1 : Int32))), (0, .ref (ad X l0)), (1, .int l1)] 53 dX8_both_50 rfl rfl (by decide) rfl rfl ?_
        refine SF_goto 12 dX8_both_53 rfl ?_
        refine SF_sub [1, 2, 0] rfl ?_
        exact ih l0 l1 (l2 + (1 : Int32)) g17 k_l0 h
      · have h := ite_t c15 h
        refine SF_iconst (0 : Int32) 41 dX8_both_40 rfl rfl ?_
        exact RT_b rfl rfl dX8_both_41 h

set_option maxRecDepth 20000 in
set_option maxHeartbeats 2000000 in
theorem w_X8_both {X : CX} {d : Nat} {dh : Nat} (hd : 7 ≤ d) (hdh : dh + 5 ≤ d) (hS : Nat → Int32 → G → Option (Bool × G)) (hhS : ∀ (a0 : Nat) (a1 : Int32) (g g1 : G) (rx : Bool), KD g a0 8 → hS a0 a1 g = some (rx, g1) → Sem X m_X8_sum dh [.ref (ad X a0), .int a1] g (some (.int (b2i rx))) g1) (hT : Nat → Int32 → G → Option (Bool × G)) (hhT : ∀ (a0 : Nat) (a1 : Int32) (g g1 : G) (rx : Bool), KD g a0 8 → hT a0 a1 g = some (rx, g1) → Sem X m_X8_truth dh [.ref (ad X a0), .int a1] g (some (.int (b2i rx))) g1) (hU : Nat → Int32 → G → Option (Bool × G)) (hhU : ∀ (a0 : Nat) (a1 : Int32) (g g1 : G) (rx : Bool), KD g a0 8 → hU a0 a1 g = some (rx, g1) → Sem X m_X8_unit dh [.ref (ad X a0), .int a1] g (some (.int (b2i rx))) g1) (l0 : Nat) (l1 : Int32) (g g' : G) (rx : Bool) (k_l0 : KD g l0 8) (h : f_X8_both hS hT hU l0 l1 g = some (rx, g')) : Sem X m_X8_both d [.ref (ad X l0), .int l1] g (some (.int (b2i rx))) g' := by
  refine Sem_of (lo := [(0, .ref (ad X l0)), (1, .int l1)]) (by decide +kernel) rfl (Nat.le_of_ble_eq_true rfl) ?_
  rw [f_X8_both] at h
  refine SF_aload_n 0 1 dX8_both_0 rfl rfl rfl ?_
  refine SF_iload_n 1 2 dX8_both_1 rfl rfl rfl ?_
  obtain ⟨v1, g2, q3, h⟩ := bd_some h
  have s4 := w_X8_unit (d := d - 1) (dh := dh) (by omega) (by omega) hS hhS hT hhT hU hhU l0 l1 g g2 v1 k_l0 q3
  refine SF_callVb 5 mi_X8_unit ml_X8_249 dX8_both_2 (by omega) s4 k_l0.1 rfl rfl (Nat.le_of_ble_eq_true rfl) rfl ?_
  have k_l0 := k_l0.ext s4.1
  refine SF_ifne 10 8 dX8_both_5 rfl rfl (fun c5 => ?_) (fun c5 => ?_)
  · have h := ite_f c5 h
    refine SF_iconst (0 : Int32) 11 dX8_both_10 rfl rfl ?_
    refine SF_istore_n [(2, .int (0 : Int32)), (0, .ref (ad X l0)), (1, .int l1)] 12 dX8_both_11 rfl (by decide) rfl rfl ?_
    refine SF_sub [1, 2, 0] rfl ?_
    exact w_X8_both_12 hd hdh hS hhS hT hhT hU hhU FU l0 l1 (0 : Int32) g2 k_l0 h
  · have h := ite_t c5 h
    refine SF_iconst (0 : Int32) 9 dX8_both_8 rfl rfl ?_
    exact RT_b rfl rfl dX8_both_9 h

theorem dX8_truth_0 : decode cX8_truth 0 = .ok (.aload_n 0, 1) := by decide +kernel
theorem dX8_truth_1 : decode cX8_truth 1 = .ok (.iload_n 1, 1) := by decide +kernel
theorem dX8_truth_2 : decode cX8_truth 2 = .ok (.invokevirtual 241, 3) := by decide +kernel
theorem dX8_truth_5 : decode cX8_truth 5 = .ok (.ifCond .ne 5, 3) := by decide +kernel
theorem dX8_truth_8 : decode cX8_truth 8 = .ok (.iconst 0, 1) := by decide +kernel
theorem dX8_truth_9 : decode cX8_truth 9 = .ok (.ireturn, 1) := by decide +kernel
theorem dX8_truth_10 : decode cX8_truth 10 = .ok (.iconst 0, 1) := by decide +kernel
theorem dX8_truth_11 : decode cX8_truth 11 = .ok (.istore_n 2, 1) := by decide +kernel
theorem dX8_truth_12 : decode cX8_truth 12 = .ok (.iload_n 2, 1) := by decide +kernel
theorem dX8_truth_13 : decode cX8_truth 13 = .ok (.sipush 900, 3) := by decide +kernel
theorem dX8_truth_16 : decode cX8_truth 16 = .ok (.if_icmp .ge 40, 3) := by decide +kernel
theorem dX8_truth_19 : decode cX8_truth 19 = .ok (.aload_n 0, 1) := by decide +kernel
theorem dX8_truth_20 : decode cX8_truth 20 = .ok (.bipush 12, 2) := by decide +kernel
theorem dX8_truth_22 : decode cX8_truth 22 = .ok (.invokevirtual 139, 3) := by decide +kernel
theorem dX8_truth_25 : decode cX8_truth 25 = .ok (.ifCond .eq 31, 3) := by decide +kernel
theorem dX8_truth_28 : decode cX8_truth 28 = .ok (.aload_n 0, 1) := by decide +kernel
theorem dX8_truth_29 : decode cX8_truth 29 = .ok (.invokevirtual 66, 3) := by decide +kernel
theorem dX8_truth_32 : decode cX8_truth 32 = .ok (.aload_n 0, 1) := by decide +kernel
theorem dX8_truth_33 : decode cX8_truth 33 = .ok (.iload_n 1, 1) := by decide +kernel
theorem dX8_truth_34 : decode cX8_truth 34 = .ok (.invokevirtual 241, 3) := by decide +kernel
theorem dX8_truth_37 : decode cX8_truth 37 = .ok (.ifCond .ne 5, 3) := by decide +kernel
theorem dX8_truth_40 : decode cX8_truth 40 = .ok (.iconst 0, 1) := by decide +kernel
theorem dX8_truth_41 : decode cX8_truth 41 = .ok (.ireturn, 1) := by decide +kernel
theorem dX8_truth_42 : decode cX8_truth 42 = .ok (.aload_n 0, 1) := by decide +kernel
theorem dX8_truth_43 : decode cX8_truth 43 = .ok (.sipush 2012, 3) := by decide +kernel
theorem dX8_truth_46 : decode cX8_truth 46 = .ok (.invokevirtual 246, 3) := by decide +kernel
theorem dX8_truth_49 : decode cX8_truth 49 = .ok (.pop, 1) := by decide +kernel
theorem dX8_truth_50 : decode cX8_truth 50 = .ok (.iinc 2 1, 3) := by decide +kernel
theorem dX8_truth_53 : decode cX8_truth 53 = .ok (.goto (-41), 3) := by decide +kernel
theorem dX8_truth_56 : decode cX8_truth 56 = .ok (.iconst 1, 1) := by decide +kernel
theorem dX8_truth_57 : decode cX8_truth 57 = .ok (.ireturn, 1) := by decide +kernel
set_option maxRecDepth 20000 in
set_option maxHeartbeats 2000000 in
theorem w_X8_truth_12 {X : CX} {d : Nat} {dh : Nat} (hd : 8 ≤ d) (hdh : dh + 6 ≤ d) (hS : Nat → Int32 → G → Option (Bool × G)) (hhS : ∀ (a0 : Nat) (a1 : Int32) (g g1 : G) (rx : Bool), KD g a0 8 → hS a0 a1 g = some (rx, g1) → Sem X m_X8_sum dh [.ref (ad X a0), .int a1] g (some (.int (b2i rx))) g1) (hT : Nat → Int32 → G → Option (Bool × G)) (hhT : ∀ (a0 : Nat) (a1 : Int32) (g g1 : G) (rx : Bool), KD g a0 8 → hT a0 a1 g = some (rx, g1) → Sem X m_X8_truth dh [.ref (ad X a0), .int a1] g (some (.int (b2i rx))) g1) (hU : Nat → Int32 → G → Option (Bool × G)) (hhU : ∀ (a0 : Nat) (a1 : Int32) (g g1 : G) (rx : Bool), KD g a0 8 → hU a0 a1 g = some (rx, g1) → Sem X m_X8_unit dh [.ref (ad X a0), .int a1] g (some (.int (b2i rx))) g1) {g' : G} {rx : Bool} : ∀ (n : Nat) (l0 : Nat) (l1 : Int32) (l2 : Int32) (g : G), KD g l0 8 → f_X8_truth_12 hS hT hU n l0 l1 l2 g = some (rx, g') → SemF X m_X8_truth d 12 [(0, .ref (ad X l0)), (1, .int l1), (2, .int l2)] [] g (some (.int (b2i rx))) g' := by
  intro n
  induction n with
  | zero =>
    intro l0 l1 l2 g k_l0 h
    rw [f_X8_truth_12] at h
    cases h
  | succ n ih =>
  intro l0 l1 l2 g k_l0 h
  rw [f_X8_truth_12] at h
  refine SF_iload_n 2 13 dX8_truth_12 rfl rfl rfl ?_
  refine SF_sipush (900 : Int32) 16 dX8_truth_13 rfl rfl ?_
  refine SF_icge 56 19 dX8_truth_16 rfl rfl (fun c1 => ?_) (fun c1 => ?_)
  · have h := ite_t c1 h
    refine SF_iconst (1 : Int32) 57 dX8_truth_56 rfl rfl ?_
    exact RT_b rfl rfl dX8_truth_57 h
  · have h := ite_f c1 h
    refine SF_aload_n 0 20 dX8_truth_19 rfl rfl rfl ?_
    refine SF_bipush (12 : Int32) 22 dX8_truth_20 rfl rfl ?_
    obtain ⟨v2, g3, q4, h⟩ := bd_some h
    have s5 := w_X8_isWord (X := X) (Nat.le_refl 0) l0 (12 : Int32) g g3 v2 k_l0 q4
    refine SF_callVb 25 mi_X8_isWord ml_X8_139 dX8_truth_22 (Nat.le_trans (by decide) hd) s5 k_l0.1 rfl rfl (Nat.le_of_ble_eq_true rfl) rfl ?_
    have k_l0 := k_l0.ext s5.1
    refine SF_ifeq 56 28 dX8_truth_25 rfl rfl (fun c6 => ?_) (fun c6 => ?_)
    · have h := ite_t c6 h
      refine SF_iconst (1 : Int32) 57 dX8_truth_56 rfl rfl ?_
      exact RT_b rfl rfl dX8_truth_57 h
    · have h := ite_f c6 h
      refine SF_aload_n 0 29 dX8_truth_28 rfl rfl rfl ?_
      obtain ⟨v7, g8, q9, h⟩ := bd_some h
      have s10 := w_X8_look (X := X) (Nat.le_refl 0) l0 g3 g8 v7 k_l0 q9
      refine SF_callVv 32 mi_X8_look ml_X8_66 dX8_truth_29 (Nat.le_trans (by decide) hd) s10 k_l0.1 rfl rfl (Nat.le_of_ble_eq_true rfl) rfl ?_
      have k_l0 := k_l0.ext s10.1
      refine SF_aload_n 0 33 dX8_truth_32 rfl rfl rfl ?_
      refine SF_iload_n 1 34 dX8_truth_33 rfl rfl rfl ?_
      obtain ⟨v11, g12, q13, h⟩ := bd_some h
      have s14 := w_X8_both (d := d - 1) (dh := dh) (by omega) (by omega) hS hhS hT hhT hU hhU l0 l1 g8 g12 v11 k_l0 q13
      refine SF_callVb 37 mi_X8_both ml_X8_241 dX8_truth_34 (by omega) s14 k_l0.1 rfl rfl (Nat.le_of_ble_eq_true rfl) rfl ?_
      have k_l0 := k_l0.ext s14.1
      refine SF_ifne 42 40 dX8_truth_37 rfl rfl (fun c15 => ?_) (fun c15 => ?_)
      · have h := ite_f c15 h
        refine SF_aload_n 0 43 dX8_truth_42 rfl rfl rfl ?_
        refine SF_sipush (2012 : Int32) 46 dX8_truth_43 rfl rfl ?_
        obtain ⟨v16, g17, q18, h⟩ := bd_some h
        have s19 := w_X8_emit (X := X) (Nat.le_refl 0) l0 (2012 : Int32) g12 g17 v16 k_l0 q18
        refine SF_callVb 49 mi_X8_emit ml_X8_246 dX8_truth_46 (Nat.le_trans (by decide) hd) s19 k_l0.1 rfl rfl (Nat.le_of_ble_eq_true rfl) rfl ?_
        have k_l0 := k_l0.ext s19.1
        refine SF_pop 50 dX8_truth_49 rfl rfl ?_
        refine SF_iinc 2 (l2 + (1 : Int32)) [(2, .int (l2 + (1 : Int32))), (0, .ref (ad X l0)), (1, .int l1)] 53 dX8_truth_50 rfl rfl (by decide) rfl rfl ?_
        refine SF_goto 12 dX8_truth_53 rfl ?_
        refine SF_sub [1, 2, 0] rfl ?_
        exact ih l0 l1 (l2 + (1 : Int32)) g17 k_l0 h
      · have h := ite_t c15 h
        refine SF_iconst (0 : Int32) 41 dX8_truth_40 rfl rfl ?_
        exact RT_b rfl rfl dX8_truth_41 h

set_option maxRecDepth 20000 in
set_option maxHeartbeats 2000000 in
theorem w_X8_truth {X : CX} {d : Nat} {dh : Nat} (hd : 8 ≤ d) (hdh : dh + 6 ≤ d) (hS : Nat → Int32 → G → Option (Bool × G)) (hhS : ∀ (a0 : Nat) (a1 : Int32) (g g1 : G) (rx : Bool), KD g a0 8 → hS a0 a1 g = some (rx, g1) → Sem X m_X8_sum dh [.ref (ad X a0), .int a1] g (some (.int (b2i rx))) g1) (hT : Nat → Int32 → G → Option (Bool × G)) (hhT : ∀ (a0 : Nat) (a1 : Int32) (g g1 : G) (rx : Bool), KD g a0 8 → hT a0 a1 g = some (rx, g1) → Sem X m_X8_truth dh [.ref (ad X a0), .int a1] g (some (.int (b2i rx))) g1) (hU : Nat → Int32 → G → Option (Bool × G)) (hhU : ∀ (a0 : Nat) (a1 : Int32) (g g1 : G) (rx : Bool), KD g a0 8 → hU a0 a1 g = some (rx, g1) → Sem X m_X8_unit dh [.ref (ad X a0), .int a1] g (some (.int (b2i rx))) g1) (l0 : Nat) (l1 : Int32) (g g' : G) (rx : Bool) (k_l0 : KD g l0 8) (h : f_X8_truth hS hT hU l0 l1 g = some (rx, g')) : Sem X m_X8_truth d [.ref (ad X l0), .int l1] g (some (.int (b2i rx))) g' := by
  refine Sem_of (lo := [(0, .ref (ad X l0)), (1, .int l1)]) (by decide +kernel) rfl (Nat.le_of_ble_eq_true rfl) ?_
  rw [f_X8_truth] at h
  refine SF_aload_n 0 1 dX8_truth_0 rfl rfl rfl ?_
  refine SF_iload_n 1 2 dX8_truth_1 rfl rfl rfl ?_
  obtain ⟨v1, g2, q3, h⟩ := bd_some h
  have s4 := w_X8_both (d := d - 1) (dh := dh) (by omega) (by omega) hS hhS hT hhT hU hhU l0 l1 g g2 v1 k_l0 q3
  refine SF_callVb 5 mi_X8_both ml_X8_241 dX8_truth_2 (by omega) s4 k_l0.1 rfl rfl (Nat.le_of_ble_eq_true rfl) rfl ?_
  have k_l0 := k_l0.ext s4.1
  refine SF_ifne 10 8 dX8_truth_5 rfl rfl (fun c5 => ?_) (fun c5 => ?_)
  · have h := ite_f c5 h
    refine SF_iconst (0 : Int32) 11 dX8_truth_10 rfl rfl ?_
    refine SF_istore_n [(2, .int (0 : Int32)), (0, .ref (ad X l0)), (1, .int l1)] 12 dX8_truth_11 rfl (by decide) rfl rfl ?_
    refine SF_sub [1, 2, 0] rfl ?_
    exact w_X8_truth_12 hd hdh hS hhS hT hhT hU hhU FU l0 l1 (0 : Int32) g2 k_l0 h
  · have h := ite_t c5 h
    refine SF_iconst (0 : Int32) 9 dX8_truth_8 rfl rfl ?_
    exact RT_b rfl rfl dX8_truth_9 h

theorem w_R_X8 (X : CX) : ∀ (n : Nat), (∀ (a0 : Nat) (a1 : Int32) (g g1 : G) (rx : Bool), KD g a0 8 → (R_X8 n).1 a0 a1 g = some (rx, g1) → Sem X m_X8_sum (8 + 6 * n) [.ref (ad X a0), .int a1] g (some (.int (b2i rx))) g1) ∧ (∀ (a0 : Nat) (a1 : Int32) (g g1 : G) (rx : Bool), KD g a0 8 → (R_X8 n).2.1 a0 a1 g = some (rx, g1) → Sem X m_X8_truth (8 + 6 * n) [.ref (ad X a0), .int a1] g (some (.int (b2i rx))) g1) ∧ (∀ (a0 : Nat) (a1 : Int32) (g g1 : G) (rx : Bool), KD g a0 8 → (R_X8 n).2.2 a0 a1 g = some (rx, g1) → Sem X m_X8_unit (8 + 6 * n) [.ref (ad X a0), .int a1] g (some (.int (b2i rx))) g1) := by
  intro n
  induction n with
  | zero => exact ⟨fun _ _ _ _ _ _ h => (by cases h), fun _ _ _ _ _ _ h => (by cases h), fun _ _ _ _ _ _ h => (by cases h)⟩
  | succ n ih =>
    refine ⟨fun a0 a1 g g1 rx hk h => ?_, fun a0 a1 g g1 rx hk h => ?_, fun a0 a1 g g1 rx hk h => ?_⟩
    · exact w_X8_sum (X := X) (d := 8 + 6 * (n + 1)) (dh := 8 + 6 * n) (by omega) (by omega) (R_X8 n).1 ih.1 a0 a1 g g1 rx hk h
    · exact w_X8_truth (X := X) (d := 8 + 6 * (n + 1)) (dh := 8 + 6 * n) (by omega) (by omega) (R_X8 n).1 ih.1 (R_X8 n).2.1 ih.2.1 (R_X8 n).2.2 ih.2.2 a0 a1 g g1 rx hk h
    · exact w_X8_unit (X := X) (d := 8 + 6 * (n + 1)) (dh := 8 + 6 * n) (by omega) (by omega) (R_X8 n).1 ih.1 (R_X8 n).2.1 ih.2.1 (R_X8 n).2.2 ih.2.2 a0 a1 g g1 rx hk h
theorem w_X8_sum_T {X : CX} (_ : 56 ≤ 56) (a0 : Nat) (a1 : Int32) (g g1 : G) (rx : Bool) (hk : KD g a0 8) (h : f_X8_sum_T a0 a1 g = some (rx, g1)) : Sem X m_X8_sum 56 [.ref (ad X a0), .int a1] g (some (.int (b2i rx))) g1 := (w_R_X8 X 8).1 a0 a1 g g1 rx hk h
theorem w_X8_truth_T {X : CX} (_ : 56 ≤ 56) (a0 : Nat) (a1 : Int32) (g g1 : G) (rx : Bool) (hk : KD g a0 8) (h : f_X8_truth_T a0 a1 g = some (rx, g1)) : Sem X m_X8_truth 56 [.ref (ad X a0), .int a1] g (some (.int (b2i rx))) g1 := (w_R_X8 X 8).2.1 a0 a1 g g1 rx hk h
theorem dX12_is_0 : decode cX12_is 0 = .ok (.aload_n 0, 1) := by decide +kernel
theorem dX12_is_1 : decode cX12_is 1 = .ok (.getfield 123, 3) := by decide +kernel
theorem dX12_is_4 : decode cX12_is 4 = .ok (.ifCond .ne 15, 3) := by decide +kernel
theorem dX12_is_7 : decode cX12_is 7 = .ok (.aload_n 0, 1) := by decide +kernel
theorem dX12_is_8 : decode cX12_is 8 = .ok (.getfield 105, 3) := by decide +kernel
theorem dX12_is_11 : decode cX12_is 11 = .ok (.iload_n 1, 1) := by decide +kernel
theorem dX12_is_12 : decode cX12_is 12 = .ok (.if_icmp .ne 7, 3) := by decide +kernel
theorem dX12_is_15 : decode cX12_is 15 = .ok (.iconst 1, 1) := by decide +kernel
theorem dX12_is_16 : decode cX12_is 16 = .ok (.goto 4, 3) := by decide +kernel
theorem dX12_is_19 : decode cX12_is 19 = .ok (.iconst 0, 1) := by decide +kernel
theorem dX12_is_20 : decode cX12_is 20 = .ok (.ireturn, 1) := by decide +kernel
set_option maxRecDepth 20000 in
set_option maxHeartbeats 2000000 in
theorem w_X12_is {X : CX} {d : Nat} (hd : 0 ≤ d) (l0 : Nat) (l1 : Int32) (g g' : G) (rx : Bool) (k_l0 : KD g l0 12) (h : f_X12_is l0 l1 g = some (rx, g')) : Sem X m_X12_is d [.ref (ad X l0), .int l1] g (some (.int (b2i rx))) g' := by
  refine Sem_of (lo := [(0, .ref (ad X l0)), (1, .int l1)]) (by decide +kernel) rfl (Nat.le_of_ble_eq_true rfl) ?_
  rw [f_X12_is] at h
  refine SF_aload_n 0 1 dX12_is_0 rfl rfl rfl ?_
  refine SF_getI 4 fl_X12_123 dX12_is_1 k_l0.1 rfl ?_
  refine SF_ifne 19 7 dX12_is_4 rfl rfl (fun c1 => ?_) (fun c1 => ?_)
  · have h := ite_f c1 h
    refine SF_iconst (0 : Int32) 20 dX12_is_19 rfl rfl ?_
    exact RT_b rfl rfl dX12_is_20 h
  · have h := ite_t c1 h
    refine SF_aload_n 0 8 dX12_is_7 rfl rfl rfl ?_
    refine SF_getI 11 fl_X12_105 dX12_is_8 k_l0.1 rfl ?_
    refine SF_iload_n 1 12 dX12_is_11 rfl rfl rfl ?_
    refine SF_icne 19 15 dX12_is_12 rfl rfl (fun c2 => ?_) (fun c2 => ?_)
    · have h := ite_f c2 h
      refine SF_iconst (0 : Int32) 20 dX12_is_19 rfl rfl ?_
      exact RT_b rfl rfl dX12_is_20 h
    · have h := ite_t c2 h
      refine SF_iconst (1 : Int32) 16 dX12_is_15 rfl rfl ?_
      refine SF_goto 20 dX12_is_16 rfl ?_
      exact RT_b rfl rfl dX12_is_20 h

theorem dX12_fails_0 : decode cX12_fails 0 = .ok (.aload_n 0, 1) := by decide +kernel
theorem dX12_fails_1 : decode cX12_fails 1 = .ok (.getfield 123, 3) := by decide +kernel
theorem dX12_fails_4 : decode cX12_fails 4 = .ok (.ifCond .eq 4, 3) := by decide +kernel
theorem dX12_fails_7 : decode cX12_fails 7 = .ok (.return_, 1) := by decide +kernel
theorem dX12_fails_8 : decode cX12_fails 8 = .ok (.aload_n 0, 1) := by decide +kernel
theorem dX12_fails_9 : decode cX12_fails 9 = .ok (.aload_n 0, 1) := by decide +kernel
theorem dX12_fails_10 : decode cX12_fails 10 = .ok (.getfield 105, 3) := by decide +kernel
theorem dX12_fails_13 : decode cX12_fails 13 = .ok (.bipush 25, 2) := by decide +kernel
theorem dX12_fails_15 : decode cX12_fails 15 = .ok (.if_icmp .ne 7, 3) := by decide +kernel
theorem dX12_fails_18 : decode cX12_fails 18 = .ok (.iconst 1, 1) := by decide +kernel
theorem dX12_fails_19 : decode cX12_fails 19 = .ok (.goto 4, 3) := by decide +kernel
theorem dX12_fails_22 : decode cX12_fails 22 = .ok (.iload_n 1, 1) := by decide +kernel
theorem dX12_fails_23 : decode cX12_fails 23 = .ok (.putfield 123, 3) := by decide +kernel
theorem dX12_fails_26 : decode cX12_fails 26 = .ok (.aload_n 0, 1) := by decide +kernel
theorem dX12_fails_27 : decode cX12_fails 27 = .ok (.aload_n 0, 1) := by decide +kernel
theorem dX12_fails_28 : decode cX12_fails 28 = .ok (.getfield 95, 3) := by decide +kernel
theorem dX12_fails_31 : decode cX12_fails 31 = .ok (.putfield 126, 3) := by decide +kernel
theorem dX12_fails_34 : decode cX12_fails 34 = .ok (.return_, 1) := by decide +kernel
set_option maxRecDepth 20000 in
set_option maxHeartbeats 2000000 in
theorem w_X12_fails_23 {X : CX} {d : Nat} (hd : 0 ≤ d) {g' : G} {rx : Unit} (l0 : Nat) (s0 : Int32) (s1 : Nat) (g : G) (k_l0 : KD g l0 12) (k_s1 : KD g s1 12) (h : f_X12_fails_23 l0 s0 s1 g = some (rx, g')) : SemF X m_X12_fails d 23 [(0, .ref (ad X l0))] [.int s0, .ref (ad X s1)] g none g' := by
  rw [f_X12_fails_23] at h
  refine SF_putI 26 fl_X12_123 dX12_fails_23 k_s1.1 (fn_int _) (Or.inl rfl) rfl ?_
  obtain ⟨g1, e2, h⟩ := lg_some h
  rw [← e2]
  have k_l0 := KD.eq e2 k_l0
  have k_s1 := KD.eq e2 k_s1
  refine SF_aload_n 0 27 dX12_fails_26 rfl rfl rfl ?_
  refine SF_aload_n 0 28 dX12_fails_27 rfl rfl rfl ?_
  refine SF_getI 31 fl_X12_95 dX12_fails_28 k_l0.1 rfl ?_
  refine SF_putI 34 fl_X12_126 dX12_fails_31 k_l0.1 (fn_int _) (Or.inl rfl) rfl ?_
  obtain ⟨g3, e4, h⟩ := lg_some h
  rw [← e4]
  have k_l0 := KD.eq e4 k_l0
  have k_s1 := KD.eq e4 k_s1
  exact RT_v rfl dX12_fails_34 h

set_option maxRecDepth 20000 in
set_option maxHeartbeats 2000000 in
theorem w_X12_fails {X : CX} {d : Nat} (hd : 0 ≤ d) (l0 : Nat) (l1 : Int32) (g g' : G) (rx : Unit) (k_l0 : KD g l0 12) (h : f_X12_fails l0 l1 g = some (rx, g')) : Sem X m_X12_fails d [.ref (ad X l0), .int l1] g none g' := by
  refine Sem_of (lo := [(0, .ref (ad X l0)), (1, .int l1)]) (by decide +kernel) rfl (Nat.le_of_ble_eq_true rfl) ?_
  rw [f_X12_fails] at h
  refine SF_aload_n 0 1 dX12_fails_0 rfl rfl rfl ?_
  refine SF_getI 4 fl_X12_123 dX12_fails_1 k_l0.1 rfl ?_
  refine SF_ifeq 8 7 dX12_fails_4 rfl rfl (fun c1 => ?_) (fun c1 => ?_)
  · have h := ite_t c1 h
    refine SF_aload_n 0 9 dX12_fails_8 rfl rfl rfl ?_
    refine SF_aload_n 0 10 dX12_fails_9 rfl rfl rfl ?_
    refine SF_getI 13 fl_X12_105 dX12_fails_10 k_l0.1 rfl ?_
    refine SF_bipush (25 : Int32) 15 dX12_fails_13 rfl rfl ?_
    refine SF_icne 22 18 dX12_fails_15 rfl rfl (fun c2 => ?_) (fun c2 => ?_)
    · have h := ite_f c2 h
      refine SF_iload_n 1 23 dX12_fails_22 rfl rfl rfl ?_
      refine SF_sub [0] rfl ?_
      exact w_X12_fails_23 hd l0 l1 l0 g k_l0 k_l0 h
    · have h := ite_t c2 h
      refine SF_iconst (1 : Int32) 19 dX12_fails_18 rfl rfl ?_
      refine SF_goto 23 dX12_fails_19 rfl ?_
      refine SF_sub [0] rfl ?_
      exact w_X12_fails_23 hd l0 (1 : Int32) l0 g k_l0 k_l0 h
  · have h := ite_f c1 h
    exact RT_v rfl dX12_fails_7 h

theorem dX12_see_0 : decode cX12_see 0 = .ok (.iload_n 1, 1) := by decide +kernel
theorem dX12_see_1 : decode cX12_see 1 = .ok (.aload_n 0, 1) := by decide +kernel
theorem dX12_see_2 : decode cX12_see 2 = .ok (.getfield 80, 3) := by decide +kernel
theorem dX12_see_5 : decode cX12_see 5 = .ok (.if_icmp .ge 12, 3) := by decide +kernel
theorem dX12_see_8 : decode cX12_see 8 = .ok (.aload_n 0, 1) := by decide +kernel
theorem dX12_see_9 : decode cX12_see 9 = .ok (.getfield 21, 3) := by decide +kernel
theorem dX12_see_12 : decode cX12_see 12 = .ok (.iload_n 1, 1) := by decide +kernel
theorem dX12_see_13 : decode cX12_see 13 = .ok (.iaload, 1) := by decide +kernel
theorem dX12_see_14 : decode cX12_see 14 = .ok (.goto 4, 3) := by decide +kernel
theorem dX12_see_17 : decode cX12_see 17 = .ok (.iconst (-1), 1) := by decide +kernel
theorem dX12_see_18 : decode cX12_see 18 = .ok (.ireturn, 1) := by decide +kernel
set_option maxRecDepth 20000 in
set_option maxHeartbeats 2000000 in
theorem w_X12_see {X : CX} {d : Nat} (hd : 0 ≤ d) (l0 : Nat) (l1 : Int32) (g g' : G) (rx : Int32) (k_l0 : KD g l0 12) (h : f_X12_see l0 l1 g = some (rx, g')) : Sem X m_X12_see d [.ref (ad X l0), .int l1] g (some (.int rx)) g' := by
  refine Sem_of (lo := [(0, .ref (ad X l0)), (1, .int l1)]) (by decide +kernel) rfl (Nat.le_of_ble_eq_true rfl) ?_
  rw [f_X12_see] at h
  refine SF_iload_n 1 1 dX12_see_0 rfl rfl rfl ?_
  refine SF_aload_n 0 2 dX12_see_1 rfl rfl rfl ?_
  refine SF_getI 5 fl_X12_80 dX12_see_2 k_l0.1 rfl ?_
  refine SF_icge 17 8 dX12_see_5 rfl rfl (fun c1 => ?_) (fun c1 => ?_)
  · have h := ite_t c1 h
    refine SF_iconst (-1 : Int32) 18 dX12_see_17 rfl rfl ?_
    exact RT_i rfl dX12_see_18 h
  · have h := ite_f c1 h
    refine SF_aload_n 0 9 dX12_see_8 rfl rfl rfl ?_
    obtain ⟨b2, r3, h⟩ := dr_some h
    refine SF_getR 12 fl_X12_21 dX12_see_9 k_l0.1 r3 rfl ?_
    refine SF_iload_n 1 13 dX12_see_12 rfl rfl rfl ?_
    obtain ⟨k4, h⟩ := gdK_some h
    obtain ⟨i5, h⟩ := gdI_some h
    refine SF_iald 14 dX12_see_13 k4.1 i5 rfl ?_
    refine SF_goto 18 dX12_see_14 rfl ?_
    exact RT_i rfl dX12_see_18 h

theorem dX12_isSmall_0 : decode cX12_isSmall 0 = .ok (.iload_n 0, 1) := by decide +kernel
theorem dX12_isSmall_1 : decode cX12_isSmall 1 = .ok (.bipush 97, 2) := by decide +kernel
theorem dX12_isSmall_3 : decode cX12_isSmall 3 = .ok (.if_icmp .lt 13, 3) := by decide +kernel
theorem dX12_isSmall_6 : decode cX12_isSmall 6 = .ok (.iload_n 0, 1) := by decide +kernel
theorem dX12_isSmall_7 : decode cX12_isSmall 7 = .ok (.bipush 122, 2) := by decide +kernel
theorem dX12_isSmall_9 : decode cX12_isSmall 9 = .ok (.if_icmp .gt 7, 3) := by decide +kernel
theorem dX12_isSmall_12 : decode cX12_isSmall 12 = .ok (.iconst 1, 1) := by decide +kernel
theorem dX12_isSmall_13 : decode cX12_isSmall 13 = .ok (.goto 4, 3) := by decide +kernel
theorem dX12_isSmall_16 : decode cX12_isSmall 16 = .ok (.iconst 0, 1) := by decide +kernel
theorem dX12_isSmall_17 : decode cX12_isSmall 17 = .ok (.ireturn, 1) := by decide +kernel
set_option maxRecDepth 20000 in
set_option maxHeartbeats 2000000 in
theorem w_X12_isSmall {X : CX} {d : Nat} (hd : 0 ≤ d) (l0 : Int32) (g g' : G) (rx : Bool) (h : f_X12_isSmall l0 g = some (rx, g')) : Sem X m_X12_isSmall d [.int l0] g (some (.int (b2i rx))) g' := by
  refine Sem_of (lo := [(0, .int l0)]) (by decide +kernel) rfl (Nat.le_of_ble_eq_true rfl) ?_
  rw [f_X12_isSmall] at h
  refine SF_iload_n 0 1 dX12_isSmall_0 rfl rfl rfl ?_
  refine SF_bipush (97 : Int32) 3 dX12_isSmall_1 rfl rfl ?_
  refine SF_iclt 16 6 dX12_isSmall_3 rfl rfl (fun c1 => ?_) (fun c1 => ?_)
  · have h := ite_t c1 h
    refine SF_iconst (0 : Int32) 17 dX12_isSmall_16 rfl rfl ?_
    exact RT_b rfl rfl dX12_isSmall_17 h
  · have h := ite_f c1 h
    refine SF_iload_n 0 7 dX12_isSmall_6 rfl rfl rfl ?_
    refine SF_bipush (122 : Int32) 9 dX12_isSmall_7 rfl rfl ?_
    refine SF_icgt 16 12 dX12_isSmall_9 rfl rfl (fun c2 => ?_) (fun c2 => ?_)
    · have h := ite_t c2 h
      refine SF_iconst (0 : Int32) 17 dX12_isSmall_16 rfl rfl ?_
      exact RT_b rfl rfl dX12_isSmall_17 h
    · have h := ite_f c2 h
      refine SF_iconst (1 : Int32) 13 dX12_isSmall_12 rfl rfl ?_
      refine SF_goto 17 dX12_isSmall_13 rfl ?_
      exact RT_b rfl rfl dX12_isSmall_17 h

theorem dJ0_coder_7d493_0 : decode cJ0_coder_7d493 0 = .ok (.getstatic 38, 3) := by decide +kernel
theorem dJ0_coder_7d493_3 : decode cJ0_coder_7d493 3 = .ok (.ifCond .eq 10, 3) := by decide +kernel
theorem dJ0_coder_7d493_6 : decode cJ0_coder_7d493 6 = .ok (.aload_n 0, 1) := by decide +kernel
theorem dJ0_coder_7d493_7 : decode cJ0_coder_7d493 7 = .ok (.getfield 15, 3) := by decide +kernel
theorem dJ0_coder_7d493_10 : decode cJ0_coder_7d493 10 = .ok (.goto 4, 3) := by decide +kernel
theorem dJ0_coder_7d493_13 : decode cJ0_coder_7d493 13 = .ok (.iconst 1, 1) := by decide +kernel
theorem dJ0_coder_7d493_14 : decode cJ0_coder_7d493 14 = .ok (.ireturn, 1) := by decide +kernel
set_option maxRecDepth 20000 in
set_option maxHeartbeats 2000000 in
theorem w_J0_coder_7d493 {X : CX} {d : Nat} (hd : 0 ≤ d) (l0 : Nat) (g g' : G) (rx : Int32) (k_l0 : l0 < 3) (h : f_J0_coder_7d493 l0 g = some (rx, g')) : Sem X m_J0_coder_7d493 d [.ref (xKa X l0)] g (some (.int rx)) g' := by
  refine Sem_ofF (lo := [(0, .ref (xKa X l0))]) (by decide +kernel) rfl (Nat.le_of_ble_eq_true rfl) ?_
  rw [f_J0_coder_7d493] at h
  refine SF_getsC 3 fs_J0_38 dJ0_coder_7d493_0 rfl ?_
  refine SF_ifeq 13 6 dJ0_coder_7d493_3 rfl rfl (fun c1 => ?_) (fun c1 => ?_)
  · have h := ite_t c1 h
    refine SF_iconst (1 : Int32) 14 dJ0_coder_7d493_13 rfl rfl ?_
    exact RT_y rfl rfl dJ0_coder_7d493_14 h
  · have h := ite_f c1 h
    refine SF_aload_n 0 7 dJ0_coder_7d493_6 rfl rfl rfl ?_
    refine SF_getSC 10 k_l0 fs_J0_15 dJ0_coder_7d493_7 rfl ?_
    refine SF_goto 14 dJ0_coder_7d493_10 rfl ?_
    exact RT_y rfl rfl dJ0_coder_7d493_14 h

theorem dJ0_length_8abf5_0 : decode cJ0_length_8abf5 0 = .ok (.aload_n 0, 1) := by decide +kernel
theorem dJ0_length_8abf5_1 : decode cJ0_length_8abf5 1 = .ok (.getfield 9, 3) := by decide +kernel
theorem dJ0_length_8abf5_4 : decode cJ0_length_8abf5 4 = .ok (.arraylength, 1) := by decide +kernel
theorem dJ0_length_8abf5_5 : decode cJ0_length_8abf5 5 = .ok (.aload_n 0, 1) := by decide +kernel
theorem dJ0_length_8abf5_6 : decode cJ0_length_8abf5 6 = .ok (.invokevirtual 335, 3) := by decide +kernel
theorem dJ0_length_8abf5_9 : decode cJ0_length_8abf5 9 = .ok (.ishr, 1) := by decide +kernel
theorem dJ0_length_8abf5_10 : decode cJ0_length_8abf5 10 = .ok (.ireturn, 1) := by decide +kernel
set_option maxRecDepth 20000 in
set_option maxHeartbeats 2000000 in
theorem w_J0_length_8abf5 {X : CX} {d : Nat} (hd : 1 ≤ d) (l0 : Nat) (g g' : G) (rx : Int32) (k_l0 : l0 < 3) (h : f_J0_length_8abf5 l0 g = some (rx, g')) : Sem X m_J0_length_8abf5 d [.ref (xKa X l0)] g (some (.int rx)) g' := by
  refine Sem_ofF (lo := [(0, .ref (xKa X l0))]) (by decide +kernel) rfl (Nat.le_of_ble_eq_true rfl) ?_
  rw [f_J0_length_8abf5] at h
  refine SF_aload_n 0 1 dJ0_length_8abf5_0 rfl rfl rfl ?_
  refine SF_getSV 4 k_l0 fs_J0_9 dJ0_length_8abf5_1 rfl ?_
  refine SF_talen 5 k_l0 dJ0_length_8abf5_4 rfl ?_
  refine SF_aload_n 0 6 dJ0_length_8abf5_5 rfl rfl rfl ?_
  obtain ⟨v1, g2, q3, h⟩ := bd_some h
  have s4 := w_J0_coder_7d493 (X := X) (Nat.le_refl 0) l0 g g2 v1 k_l0 q3
  refine SF_callT 9 k_l0 mi_J0_coder_7d493 ml_J0_335 dJ0_length_8abf5_6 (Nat.le_trans (by decide) hd) s4 rfl rfl (Nat.le_of_ble_eq_true rfl) rfl ?_
  refine SF_ishr 10 dJ0_length_8abf5_9 rfl ?_
  exact RT_i rfl dJ0_length_8abf5_10 h

theorem dJ0_isLatin1_aae02_0 : decode cJ0_isLatin1_aae02 0 = .ok (.getstatic 38, 3) := by decide +kernel
theorem dJ0_isLatin1_aae02_3 : decode cJ0_isLatin1_aae02 3 = .ok (.ifCond .eq 14, 3) := by decide +kernel
theorem dJ0_isLatin1_aae02_6 : decode cJ0_isLatin1_aae02 6 = .ok (.aload_n 0, 1) := by decide +kernel
theorem dJ0_isLatin1_aae02_7 : decode cJ0_isLatin1_aae02 7 = .ok (.getfield 15, 3) := by decide +kernel
theorem dJ0_isLatin1_aae02_10 : decode cJ0_isLatin1_aae02 10 = .ok (.ifCond .ne 7, 3) := by decide +kernel
theorem dJ0_isLatin1_aae02_13 : decode cJ0_isLatin1_aae02 13 = .ok (.iconst 1, 1) := by decide +kernel
theorem dJ0_isLatin1_aae02_14 : decode cJ0_isLatin1_aae02 14 = .ok (.goto 4, 3) := by decide +kernel
theorem dJ0_isLatin1_aae02_17 : decode cJ0_isLatin1_aae02 17 = .ok (.iconst 0, 1) := by decide +kernel
theorem dJ0_isLatin1_aae02_18 : decode cJ0_isLatin1_aae02 18 = .ok (.ireturn, 1) := by decide +kernel
set_option maxRecDepth 20000 in
set_option maxHeartbeats 2000000 in
theorem w_J0_isLatin1_aae02 {X : CX} {d : Nat} (hd : 0 ≤ d) (l0 : Nat) (g g' : G) (rx : Bool) (k_l0 : l0 < 3) (h : f_J0_isLatin1_aae02 l0 g = some (rx, g')) : Sem X m_J0_isLatin1_aae02 d [.ref (xKa X l0)] g (some (.int (b2i rx))) g' := by
  refine Sem_ofF (lo := [(0, .ref (xKa X l0))]) (by decide +kernel) rfl (Nat.le_of_ble_eq_true rfl) ?_
  rw [f_J0_isLatin1_aae02] at h
  refine SF_getsC 3 fs_J0_38 dJ0_isLatin1_aae02_0 rfl ?_
  refine SF_ifeq 17 6 dJ0_isLatin1_aae02_3 rfl rfl (fun c1 => ?_) (fun c1 => ?_)
  · have h := ite_t c1 h
    refine SF_iconst (0 : Int32) 18 dJ0_isLatin1_aae02_17 rfl rfl ?_
    exact RT_b rfl rfl dJ0_isLatin1_aae02_18 h
  · have h := ite_f c1 h
    refine SF_aload_n 0 7 dJ0_isLatin1_aae02_6 rfl rfl rfl ?_
    refine SF_getSC 10 k_l0 fs_J0_15 dJ0_isLatin1_aae02_7 rfl ?_
    refine SF_ifne 17 13 dJ0_isLatin1_aae02_10 rfl rfl (fun c2 => ?_) (fun c2 => ?_)
    · have h := ite_f c2 h
      refine SF_iconst (0 : Int32) 18 dJ0_isLatin1_aae02_17 rfl rfl ?_
      exact RT_b rfl rfl dJ0_isLatin1_aae02_18 h
    · have h := ite_t c2 h
      refine SF_iconst (1 : Int32) 14 dJ0_isLatin1_aae02_13 rfl rfl ?_
      refine SF_goto 18 dJ0_isLatin1_aae02_14 rfl ?_
      exact RT_b rfl rfl dJ0_isLatin1_aae02_18 h

theorem dJ3_checkIndex_8e157_0 : decode cJ3_checkIndex_8e157 0 = .ok (.iload_n 0, 1) := by decide +kernel
theorem dJ3_checkIndex_8e157_1 : decode cJ3_checkIndex_8e157 1 = .ok (.ifCond .lt 8, 3) := by decide +kernel
theorem dJ3_checkIndex_8e157_4 : decode cJ3_checkIndex_8e157 4 = .ok (.iload_n 0, 1) := by decide +kernel
theorem dJ3_checkIndex_8e157_5 : decode cJ3_checkIndex_8e157 5 = .ok (.iload_n 1, 1) := by decide +kernel
theorem dJ3_checkIndex_8e157_6 : decode cJ3_checkIndex_8e157 6 = .ok (.if_icmp .lt 10, 3) := by decide +kernel
theorem dJ3_checkIndex_8e157_16 : decode cJ3_checkIndex_8e157 16 = .ok (.iload_n 0, 1) := by decide +kernel
theorem dJ3_checkIndex_8e157_17 : decode cJ3_checkIndex_8e157 17 = .ok (.ireturn, 1) := by decide +kernel
set_option maxRecDepth 20000 in
set_option maxHeartbeats 2000000 in
theorem w_J3_checkIndex_8e157_9 {X : CX} {d : Nat} (hd : 0 ≤ d) {g' : G} {rx : Int32} (g : G) (h : f_J3_checkIndex_8e157_9 g = some (rx, g')) : SemF X m_J3_checkIndex_8e157 d 9 [(2, va_rf (xFo X))] [] g (some (.int rx)) g' := by
  rw [f_J3_checkIndex_8e157_9] at h
  cases h

set_option maxRecDepth 20000 in
set_option maxHeartbeats 2000000 in
theorem w_J3_checkIndex_8e157 {X : CX} {d : Nat} (hd : 0 ≤ d) (l0 : Int32) (l1 : Int32) (g g' : G) (rx : Int32) (h : f_J3_checkIndex_8e157 l0 l1 g = some (rx, g')) : Sem X m_J3_checkIndex_8e157 d [.int l0, .int l1, va_rf (xFo X)] g (some (.int rx)) g' := by
  refine Sem_ofF (lo := [(0, .int l0), (1, .int l1), (2, va_rf (xFo X))]) (by decide +kernel) rfl (by cases xFo X <;> exact Nat.le_of_ble_eq_true rfl) ?_
  rw [f_J3_checkIndex_8e157] at h
  refine SF_iload_n 0 1 dJ3_checkIndex_8e157_0 rfl rfl rfl ?_
  refine SF_iflt 9 4 dJ3_checkIndex_8e157_1 rfl rfl (fun c1 => ?_) (fun c1 => ?_)
  · have h := ite_t c1 h
    refine SF_sub [2] rfl ?_
    exact w_J3_checkIndex_8e157_9 hd g  h
  · have h := ite_f c1 h
    refine SF_iload_n 0 5 dJ3_checkIndex_8e157_4 rfl rfl rfl ?_
    refine SF_iload_n 1 6 dJ3_checkIndex_8e157_5 rfl rfl rfl ?_
    refine SF_iclt 16 9 dJ3_checkIndex_8e157_6 rfl rfl (fun c2 => ?_) (fun c2 => ?_)
    · have h := ite_t c2 h
      refine SF_iload_n 0 17 dJ3_checkIndex_8e157_16 rfl rfl rfl ?_
      exact RT_i rfl dJ3_checkIndex_8e157_17 h
    · have h := ite_f c2 h
      refine SF_sub [2] rfl ?_
      exact w_J3_checkIndex_8e157_9 hd g  h

theorem dJ0_checkIndex_df160_0 : decode cJ0_checkIndex_df160 0 = .ok (.iload_n 0, 1) := by decide +kernel
theorem dJ0_checkIndex_df160_1 : decode cJ0_checkIndex_df160 1 = .ok (.iload_n 1, 1) := by decide +kernel
theorem dJ0_checkIndex_df160_2 : decode cJ0_checkIndex_df160 2 = .ok (.getstatic 1053, 3) := by decide +kernel
theorem dJ0_checkIndex_df160_5 : decode cJ0_checkIndex_df160 5 = .ok (.invokestatic 1059, 3) := by decide +kernel
theorem dJ0_checkIndex_df160_8 : decode cJ0_checkIndex_df160 8 = .ok (.pop, 1) := by decide +kernel
theorem dJ0_checkIndex_df160_9 : decode cJ0_checkIndex_df160 9 = .ok (.return_, 1) := by decide +kernel
set_option maxRecDepth 20000 in
set_option maxHeartbeats 2000000 in
theorem w_J0_checkIndex_df160 {X : CX} {d : Nat} (hd : 1 ≤ d) (l0 : Int32) (l1 : Int32) (g g' : G) (rx : Unit) (h : f_J0_checkIndex_df160 l0 l1 g = some (rx, g')) : Sem X m_J0_checkIndex_df160 d [.int l0, .int l1] g none g' := by
  refine Sem_ofF (lo := [(0, .int l0), (1, .int l1)]) (by decide +kernel) rfl (Nat.le_of_ble_eq_true rfl) ?_
  rw [f_J0_checkIndex_df160] at h
  refine SF_iload_n 0 1 dJ0_checkIndex_df160_0 rfl rfl rfl ?_
  refine SF_iload_n 1 2 dJ0_checkIndex_df160_1 rfl rfl rfl ?_
  refine SF_getsF 5 fs_J0_1053 dJ0_checkIndex_df160_2 rfl ?_
  obtain ⟨v1, g2, q3, h⟩ := bd_some h
  have s4 := w_J3_checkIndex_8e157 (X := X) (Nat.le_refl 0) l0 l1 g g2 v1 q3
  refine SF_callSi 8 mi_J3_checkIndex_8e157 ml_J0_1059 dJ0_checkIndex_df160_5 (Nat.le_trans (by decide) hd) s4 rfl rfl (Nat.le_of_ble_eq_true rfl) rfl ?_
  refine SF_pop 9 dJ0_checkIndex_df160_8 rfl rfl ?_
  exact RT_v rfl dJ0_checkIndex_df160_9 h

theorem dJ1_charAt_3b067_0 : decode cJ1_charAt_3b067 0 = .ok (.iload_n 1, 1) := by decide +kernel
theorem dJ1_charAt_3b067_1 : decode cJ1_charAt_3b067 1 = .ok (.aload_n 0, 1) := by decide +kernel
theorem dJ1_charAt_3b067_2 : decode cJ1_charAt_3b067 2 = .ok (.arraylength, 1) := by decide +kernel
theorem dJ1_charAt_3b067_3 : decode cJ1_charAt_3b067 3 = .ok (.invokestatic 9, 3) := by decide +kernel
theorem dJ1_charAt_3b067_6 : decode cJ1_charAt_3b067 6 = .ok (.aload_n 0, 1) := by decide +kernel
theorem dJ1_charAt_3b067_7 : decode cJ1_charAt_3b067 7 = .ok (.iload_n 1, 1) := by decide +kernel
theorem dJ1_charAt_3b067_8 : decode cJ1_charAt_3b067 8 = .ok (.baload, 1) := by decide +kernel
theorem dJ1_charAt_3b067_9 : decode cJ1_charAt_3b067 9 = .ok (.sipush 255, 3) := by decide +kernel
theorem dJ1_charAt_3b067_12 : decode cJ1_charAt_3b067 12 = .ok (.iand, 1) := by decide +kernel
theorem dJ1_charAt_3b067_13 : decode cJ1_charAt_3b067 13 = .ok (.i2c, 1) := by decide +kernel
theorem dJ1_charAt_3b067_14 : decode cJ1_charAt_3b067 14 = .ok (.ireturn, 1) := by decide +kernel
set_option maxRecDepth 20000 in
set_option maxHeartbeats 2000000 in
theorem w_J1_charAt_3b067 {X : CX} {d : Nat} (hd : 2 ≤ d) (l0 : Nat) (l1 : Int32) (g g' : G) (rx : Int32) (k_l0 : l0 < 3) (h : f_J1_charAt_3b067 l0 l1 g = some (rx, g')) : Sem X m_J1_charAt_3b067 d [.ref (xVa X l0), .int l1] g (some (.int rx)) g' := by
  refine Sem_ofF (lo := [(0, .ref (xVa X l0)), (1, .int l1)]) (by decide +kernel) rfl (Nat.le_of_ble_eq_true rfl) ?_
  rw [f_J1_charAt_3b067] at h
  refine SF_iload_n 1 1 dJ1_charAt_3b067_0 rfl rfl rfl ?_
  refine SF_aload_n 0 2 dJ1_charAt_3b067_1 rfl rfl rfl ?_
  refine SF_talen 3 k_l0 dJ1_charAt_3b067_2 rfl ?_
  obtain ⟨v1, g2, q3, h⟩ := bd_some h
  have s4 := w_J0_checkIndex_df160 (X := X) (Nat.le_refl 1) l1 (nI (jlen l0)) g g2 v1 q3
  refine SF_callSv 6 mi_J0_checkIndex_df160 ml_J1_9 dJ1_charAt_3b067_3 (Nat.le_trans (by decide) hd) s4 rfl rfl (Nat.le_of_ble_eq_true rfl) rfl ?_
  refine SF_aload_n 0 7 dJ1_charAt_3b067_6 rfl rfl rfl ?_
  refine SF_iload_n 1 8 dJ1_charAt_3b067_7 rfl rfl rfl ?_
  obtain ⟨i5, h⟩ := gdI_some h
  refine SF_tbald 9 k_l0 dJ1_charAt_3b067_8 i5 rfl ?_
  refine SF_sipush (255 : Int32) 12 dJ1_charAt_3b067_9 rfl rfl ?_
  refine SF_iand 13 dJ1_charAt_3b067_12 rfl ?_
  refine SF_i2c 14 dJ1_charAt_3b067_13 rfl ?_
  obtain ⟨z6, h⟩ := gdH_some h
  exact RT_c rfl z6 dJ1_charAt_3b067_14 h

theorem dJ0_charAt_5068e_0 : decode cJ0_charAt_5068e 0 = .ok (.aload_n 0, 1) := by decide +kernel
theorem dJ0_charAt_5068e_1 : decode cJ0_charAt_5068e 1 = .ok (.invokevirtual 492, 3) := by decide +kernel
theorem dJ0_charAt_5068e_4 : decode cJ0_charAt_5068e 4 = .ok (.ifCond .eq 12, 3) := by decide +kernel
theorem dJ0_charAt_5068e_7 : decode cJ0_charAt_5068e 7 = .ok (.aload_n 0, 1) := by decide +kernel
theorem dJ0_charAt_5068e_8 : decode cJ0_charAt_5068e 8 = .ok (.getfield 9, 3) := by decide +kernel
theorem dJ0_charAt_5068e_11 : decode cJ0_charAt_5068e 11 = .ok (.iload_n 1, 1) := by decide +kernel
theorem dJ0_charAt_5068e_12 : decode cJ0_charAt_5068e 12 = .ok (.invokestatic 495, 3) := by decide +kernel
theorem dJ0_charAt_5068e_15 : decode cJ0_charAt_5068e 15 = .ok (.ireturn, 1) := by decide +kernel
set_option maxRecDepth 20000 in
set_option maxHeartbeats 2000000 in
theorem w_J0_charAt_5068e {X : CX} {d : Nat} (hd : 3 ≤ d) (l0 : Nat) (l1 : Int32) (g g' : G) (rx : Int32) (k_l0 : l0 < 3) (h : f_J0_charAt_5068e l0 l1 g = some (rx, g')) : Sem X m_J0_charAt_5068e d [.ref (xKa X l0), .int l1] g (some (.int rx)) g' := by
  refine Sem_ofF (lo := [(0, .ref (xKa X l0)), (1, .int l1)]) (by decide +kernel) rfl (Nat.le_of_ble_eq_true rfl) ?_
  rw [f_J0_charAt_5068e] at h
  refine SF_aload_n 0 1 dJ0_charAt_5068e_0 rfl rfl rfl ?_
  obtain ⟨v1, g2, q3, h⟩ := bd_some h
  have s4 := w_J0_isLatin1_aae02 (X := X) (Nat.le_refl 0) l0 g g2 v1 k_l0 q3
  refine SF_callT 4 k_l0 mi_J0_isLatin1_aae02 ml_J0_492 dJ0_charAt_5068e_1 (Nat.le_trans (by decide) hd) s4 rfl rfl (Nat.le_of_ble_eq_true rfl) rfl ?_
  refine SF_ifeq 16 7 dJ0_charAt_5068e_4 rfl rfl (fun c5 => ?_) (fun c5 => ?_)
  · have h := ite_t c5 h
    cases h
  · have h := ite_f c5 h
    refine SF_aload_n 0 8 dJ0_charAt_5068e_7 rfl rfl rfl ?_
    refine SF_getSV 11 k_l0 fs_J0_9 dJ0_charAt_5068e_8 rfl ?_
    refine SF_iload_n 1 12 dJ0_charAt_5068e_11 rfl rfl rfl ?_
    obtain ⟨v6, g7, q8, h⟩ := bd_some h
    have s9 := w_J1_charAt_3b067 (X := X) (Nat.le_refl 2) l0 l1 g2 g7 v6 k_l0 q8
    refine SF_callSi 15 mi_J1_charAt_3b067 ml_J0_495 dJ0_charAt_5068e_12 (Nat.le_trans (by decide) hd) s9 rfl rfl (Nat.le_of_ble_eq_true rfl) rfl ?_
    obtain ⟨z10, h⟩ := gdH_some h
    exact RT_c rfl z10 dJ0_charAt_5068e_15 h

theorem dX12_keyAt_0 : decode cX12_keyAt 0 = .ok (.iconst 0, 1) := by decide +kernel
theorem dX12_keyAt_1 : decode cX12_keyAt 1 = .ok (.istore_n 1, 1) := by decide +kernel
theorem dX12_keyAt_2 : decode cX12_keyAt 2 = .ok (.iconst 1, 1) := by decide +kernel
theorem dX12_keyAt_3 : decode cX12_keyAt 3 = .ok (.istore_n 2, 1) := by decide +kernel
theorem dX12_keyAt_4 : decode cX12_keyAt 4 = .ok (.iload_n 2, 1) := by decide +kernel
theorem dX12_keyAt_5 : decode cX12_keyAt 5 = .ok (.ldc 83, 2) := by decide +kernel
theorem dX12_keyAt_7 : decode cX12_keyAt 7 = .ok (.invokevirtual 85, 3) := by decide +kernel
theorem dX12_keyAt_10 : decode cX12_keyAt 10 = .ok (.if_icmp .ge 113, 3) := by decide +kernel
theorem dX12_keyAt_13 : decode cX12_keyAt 13 = .ok (.iconst 0, 1) := by decide +kernel
theorem dX12_keyAt_14 : decode cX12_keyAt 14 = .ok (.istore_n 3, 1) := by decide +kernel
theorem dX12_keyAt_15 : decode cX12_keyAt 15 = .ok (.ldc 83, 2) := by decide +kernel
theorem dX12_keyAt_17 : decode cX12_keyAt 17 = .ok (.iload_n 2, 1) := by decide +kernel
theorem dX12_keyAt_18 : decode cX12_keyAt 18 = .ok (.iload_n 3, 1) := by decide +kernel
theorem dX12_keyAt_19 : decode cX12_keyAt 19 = .ok (.iadd, 1) := by decide +kernel
theorem dX12_keyAt_20 : decode cX12_keyAt 20 = .ok (.invokevirtual 91, 3) := by decide +kernel
theorem dX12_keyAt_23 : decode cX12_keyAt 23 = .ok (.bipush 32, 2) := by decide +kernel
theorem dX12_keyAt_25 : decode cX12_keyAt 25 = .ok (.if_icmp .eq 44, 3) := by decide +kernel
theorem dX12_keyAt_28 : decode cX12_keyAt 28 = .ok (.aload_n 0, 1) := by decide +kernel
theorem dX12_keyAt_29 : decode cX12_keyAt 29 = .ok (.getfield 95, 3) := by decide +kernel
theorem dX12_keyAt_32 : decode cX12_keyAt 32 = .ok (.iload_n 3, 1) := by decide +kernel
theorem dX12_keyAt_33 : decode cX12_keyAt 33 = .ok (.iadd, 1) := by decide +kernel
theorem dX12_keyAt_34 : decode cX12_keyAt 34 = .ok (.aload_n 0, 1) := by decide +kernel
theorem dX12_keyAt_35 : decode cX12_keyAt 35 = .ok (.getfield 98, 3) := by decide +kernel
theorem dX12_keyAt_38 : decode cX12_keyAt 38 = .ok (.if_icmp .ge 31, 3) := by decide +kernel
theorem dX12_keyAt_41 : decode cX12_keyAt 41 = .ok (.aload_n 0, 1) := by decide +kernel
theorem dX12_keyAt_42 : decode cX12_keyAt 42 = .ok (.getfield 21, 3) := by decide +kernel
theorem dX12_keyAt_45 : decode cX12_keyAt 45 = .ok (.aload_n 0, 1) := by decide +kernel
theorem dX12_keyAt_46 : decode cX12_keyAt 46 = .ok (.getfield 95, 3) := by decide +kernel
theorem dX12_keyAt_49 : decode cX12_keyAt 49 = .ok (.iload_n 3, 1) := by decide +kernel
theorem dX12_keyAt_50 : decode cX12_keyAt 50 = .ok (.iadd, 1) := by decide +kernel
theorem dX12_keyAt_51 : decode cX12_keyAt 51 = .ok (.iaload, 1) := by decide +kernel
theorem dX12_keyAt_52 : decode cX12_keyAt 52 = .ok (.ldc 83, 2) := by decide +kernel
theorem dX12_keyAt_54 : decode cX12_keyAt 54 = .ok (.iload_n 2, 1) := by decide +kernel
theorem dX12_keyAt_55 : decode cX12_keyAt 55 = .ok (.iload_n 3, 1) := by decide +kernel
theorem dX12_keyAt_56 : decode cX12_keyAt 56 = .ok (.iadd, 1) := by decide +kernel
theorem dX12_keyAt_57 : decode cX12_keyAt 57 = .ok (.invokevirtual 91, 3) := by decide +kernel
theorem dX12_keyAt_60 : decode cX12_keyAt 60 = .ok (.if_icmp .ne 9, 3) := by decide +kernel
theorem dX12_keyAt_63 : decode cX12_keyAt 63 = .ok (.iinc 3 1, 3) := by decide +kernel
theorem dX12_keyAt_66 : decode cX12_keyAt 66 = .ok (.goto (-51), 3) := by decide +kernel
theorem dX12_keyAt_69 : decode cX12_keyAt 69 = .ok (.ldc 83, 2) := by decide +kernel
theorem dX12_keyAt_71 : decode cX12_keyAt 71 = .ok (.iload_n 2, 1) := by decide +kernel
theorem dX12_keyAt_72 : decode cX12_keyAt 72 = .ok (.iload_n 3, 1) := by decide +kernel
theorem dX12_keyAt_73 : decode cX12_keyAt 73 = .ok (.iadd, 1) := by decide +kernel
theorem dX12_keyAt_74 : decode cX12_keyAt 74 = .ok (.invokevirtual 91, 3) := by decide +kernel
theorem dX12_keyAt_77 : decode cX12_keyAt 77 = .ok (.bipush 32, 2) := by decide +kernel
theorem dX12_keyAt_79 : decode cX12_keyAt 79 = .ok (.if_icmp .ne 18, 3) := by decide +kernel
theorem dX12_keyAt_82 : decode cX12_keyAt 82 = .ok (.aload_n 0, 1) := by decide +kernel
theorem dX12_keyAt_83 : decode cX12_keyAt 83 = .ok (.getfield 95, 3) := by decide +kernel
theorem dX12_keyAt_86 : decode cX12_keyAt 86 = .ok (.iload_n 3, 1) := by decide +kernel
theorem dX12_keyAt_87 : decode cX12_keyAt 87 = .ok (.iadd, 1) := by decide +kernel
theorem dX12_keyAt_88 : decode cX12_keyAt 88 = .ok (.aload_n 0, 1) := by decide +kernel
theorem dX12_keyAt_89 : decode cX12_keyAt 89 = .ok (.getfield 98, 3) := by decide +kernel
theorem dX12_keyAt_92 : decode cX12_keyAt 92 = .ok (.if_icmp .ne 5, 3) := by decide +kernel
theorem dX12_keyAt_95 : decode cX12_keyAt 95 = .ok (.iload_n 1, 1) := by decide +kernel
theorem dX12_keyAt_96 : decode cX12_keyAt 96 = .ok (.ireturn, 1) := by decide +kernel
theorem dX12_keyAt_97 : decode cX12_keyAt 97 = .ok (.ldc 83, 2) := by decide +kernel
theorem dX12_keyAt_99 : decode cX12_keyAt 99 = .ok (.iload_n 2, 1) := by decide +kernel
theorem dX12_keyAt_100 : decode cX12_keyAt 100 = .ok (.invokevirtual 91, 3) := by decide +kernel
theorem dX12_keyAt_103 : decode cX12_keyAt 103 = .ok (.bipush 32, 2) := by decide +kernel
theorem dX12_keyAt_105 : decode cX12_keyAt 105 = .ok (.if_icmp .eq 9, 3) := by decide +kernel
theorem dX12_keyAt_108 : decode cX12_keyAt 108 = .ok (.iinc 2 1, 3) := by decide +kernel
theorem dX12_keyAt_111 : decode cX12_keyAt 111 = .ok (.goto (-14), 3) := by decide +kernel
theorem dX12_keyAt_114 : decode cX12_keyAt 114 = .ok (.iinc 2 1, 3) := by decide +kernel
theorem dX12_keyAt_117 : decode cX12_keyAt 117 = .ok (.iinc 1 1, 3) := by decide +kernel
theorem dX12_keyAt_120 : decode cX12_keyAt 120 = .ok (.goto (-116), 3) := by decide +kernel
theorem dX12_keyAt_123 : decode cX12_keyAt 123 = .ok (.bipush 22, 2) := by decide +kernel
theorem dX12_keyAt_125 : decode cX12_keyAt 125 = .ok (.ireturn, 1) := by decide +kernel
set_option maxRecDepth 20000 in
set_option maxHeartbeats 2000000 in
theorem w_X12_keyAt_97 {X : CX} {d : Nat} (hd : 4 ≤ d) {g' : G} {rx : Int32} (k4 : Nat → Int32 → Int32 → G → Option (Int32 × G)) (hk4 : ∀ (l0 : Nat) (l1 : Int32) (l2 : Int32) (g : G), KD g l0 12 → k4 l0 l1 l2 g = some (rx, g') → SemF X m_X12_keyAt d 4 [(0, .ref (ad X l0)), (1, .int l1), (2, .int l2)] [] g (some (.int rx)) g') : ∀ (n : Nat) (l0 : Nat) (l1 : Int32) (l2 : Int32) (g : G), KD g l0 12 → f_X12_keyAt_97 k4 n l0 l1 l2 g = some (rx, g') → SemF X m_X12_keyAt d 97 [(0, .ref (ad X l0)), (1, .int l1), (2, .int l2)] [] g (some (.int rx)) g' := by
  intro n
  induction n with
  | zero =>
    intro l0 l1 l2 g k_l0 h
    rw [f_X12_keyAt_97] at h
    cases h
  | succ n ih =>
  intro l0 l1 l2 g k_l0 h
  rw [f_X12_keyAt_97] at h
  refine SF_ldcS 0 99 dX12_keyAt_97 (fun U h9 => h9.2.1) rfl ?_
  refine SF_iload_n 2 100 dX12_keyAt_99 rfl rfl rfl ?_
  obtain ⟨v1, g2, q3, h⟩ := bd_some h
  have s4 := w_J0_charAt_5068e (X := X) (Nat.le_refl 3) 0 l2 g g2 v1 (by decide) q3
  refine SF_callT 103 (by decide) mi_J0_charAt_5068e ml_X12_91 dX12_keyAt_100 (Nat.le_trans (by decide) hd) s4 rfl rfl (Nat.le_of_ble_eq_true rfl) rfl ?_
  have k_l0 := k_l0.ext s4.1
  refine SF_bipush (32 : Int32) 105 dX12_keyAt_103 rfl rfl ?_
  refine SF_iceq 114 108 dX12_keyAt_105 rfl rfl (fun c5 => ?_) (fun c5 => ?_)
  · have h := ite_t c5 h
    refine SF_iinc 2 (l2 + (1 : Int32)) [(2, .int (l2 + (1 : Int32))), (0, .ref (ad X l0)), (1, .int l1)] 117 dX12_keyAt_114 rfl rfl (by decide) rfl rfl ?_
    refine SF_iinc 2 (l1 + (1 : Int32)) [(1, .int (l1 + (1 : Int32))), (2, .int (l2 + (1 : Int32))), (0, .ref (ad X l0))] 120 dX12_keyAt_117 rfl rfl (by decide) rfl rfl ?_
    refine SF_goto 4 dX12_keyAt_120 rfl ?_
    refine SF_sub [2, 0, 1] rfl ?_
    exact hk4 l0 (l1 + (1 : Int32)) (l2 + (1 : Int32)) g2 k_l0 h
  · have h := ite_f c5 h
    refine SF_iinc 2 (l2 + (1 : Int32)) [(2, .int (l2 + (1 : Int32))), (0, .ref (ad X l0)), (1, .int l1)] 111 dX12_keyAt_108 rfl rfl (by decide) rfl rfl ?_
    refine SF_goto 97 dX12_keyAt_111 rfl ?_
    refine SF_sub [1, 2, 0] rfl ?_
    exact ih l0 l1 (l2 + (1 : Int32)) g2 k_l0 h

set_option maxRecDepth 20000 in
set_option maxHeartbeats 2000000 in
theorem w_X12_keyAt_69 {X : CX} {d : Nat} (hd : 4 ≤ d) {g' : G} {rx : Int32} (k4 : Nat → Int32 → Int32 → G → Option (Int32 × G)) (hk4 : ∀ (l0 : Nat) (l1 : Int32) (l2 : Int32) (g : G), KD g l0 12 → k4 l0 l1 l2 g = some (rx, g') → SemF X m_X12_keyAt d 4 [(0, .ref (ad X l0)), (1, .int l1), (2, .int l2)] [] g (some (.int rx)) g') (l0 : Nat) (l1 : Int32) (l2 : Int32) (l3 : Int32) (g : G) (k_l0 : KD g l0 12) (h : f_X12_keyAt_69 k4 l0 l1 l2 l3 g = some (rx, g')) : SemF X m_X12_keyAt d 69 [(0, .ref (ad X l0)), (1, .int l1), (2, .int l2), (3, .int l3)] [] g (some (.int rx)) g' := by
  rw [f_X12_keyAt_69] at h
  refine SF_ldcS 0 71 dX12_keyAt_69 (fun U h9 => h9.2.1) rfl ?_
  refine SF_iload_n 2 72 dX12_keyAt_71 rfl rfl rfl ?_
  refine SF_iload_n 3 73 dX12_keyAt_72 rfl rfl rfl ?_
  refine SF_iadd 74 dX12_keyAt_73 rfl ?_
  obtain ⟨v1, g2, q3, h⟩ := bd_some h
  have s4 := w_J0_charAt_5068e (X := X) (Nat.le_refl 3) 0 (l2 + l3) g g2 v1 (by decide) q3
  refine SF_callT 77 (by decide) mi_J0_charAt_5068e ml_X12_91 dX12_keyAt_74 (Nat.le_trans (by decide) hd) s4 rfl rfl (Nat.le_of_ble_eq_true rfl) rfl ?_
  have k_l0 := k_l0.ext s4.1
  refine SF_bipush (32 : Int32) 79 dX12_keyAt_77 rfl rfl ?_
  refine SF_icne 97 82 dX12_keyAt_79 rfl rfl (fun c5 => ?_) (fun c5 => ?_)
  · have h := ite_f c5 h
    refine SF_sub [0, 1, 2] rfl ?_
    exact w_X12_keyAt_97 hd k4 hk4 FU l0 l1 l2 g2 k_l0 h
  · have h := ite_t c5 h
    refine SF_aload_n 0 83 dX12_keyAt_82 rfl rfl rfl ?_
    refine SF_getI 86 fl_X12_95 dX12_keyAt_83 k_l0.1 rfl ?_
    refine SF_iload_n 3 87 dX12_keyAt_86 rfl rfl rfl ?_
    refine SF_iadd 88 dX12_keyAt_87 rfl ?_
    refine SF_aload_n 0 89 dX12_keyAt_88 rfl rfl rfl ?_
    refine SF_getI 92 fl_X12_98 dX12_keyAt_89 k_l0.1 rfl ?_
    refine SF_icne 97 95 dX12_keyAt_92 rfl rfl (fun c6 => ?_) (fun c6 => ?_)
    · have h := ite_f c6 h
      refine SF_sub [0, 1, 2] rfl ?_
      exact w_X12_keyAt_97 hd k4 hk4 FU l0 l1 l2 g2 k_l0 h
    · have h := ite_t c6 h
      refine SF_iload_n 1 96 dX12_keyAt_95 rfl rfl rfl ?_
      exact RT_i rfl dX12_keyAt_96 h

set_option maxRecDepth 20000 in
set_option maxHeartbeats 2000000 in
theorem w_X12_keyAt_15 {X : CX} {d : Nat} (hd : 4 ≤ d) {g' : G} {rx : Int32} (k4 : Nat → Int32 → Int32 → G → Option (Int32 × G)) (hk4 : ∀ (l0 : Nat) (l1 : Int32) (l2 : Int32) (g : G), KD g l0 12 → k4 l0 l1 l2 g = some (rx, g') → SemF X m_X12_keyAt d 4 [(0, .ref (ad X l0)), (1, .int l1), (2, .int l2)] [] g (some (.int rx)) g') : ∀ (n : Nat) (l0 : Nat) (l1 : Int32) (l2 : Int32) (l3 : Int32) (g : G), KD g l0 12 → f_X12_keyAt_15 k4 n l0 l1 l2 l3 g = some (rx, g') → SemF X m_X12_keyAt d 15 [(0, .ref (ad X l0)), (1, .int l1), (2, .int l2), (3, .int l3)] [] g (some (.int rx)) g' := by
  intro n
  induction n with
  | zero =>
    intro l0 l1 l2 l3 g k_l0 h
    rw [f_X12_keyAt_15] at h
    cases h
  | succ n ih =>
  intro l0 l1 l2 l3 g k_l0 h
  rw [f_X12_keyAt_15] at h
  refine SF_ldcS 0 17 dX12_keyAt_15 (fun U h9 => h9.2.1) rfl ?_
  refine SF_iload_n 2 18 dX12_keyAt_17 rfl rfl rfl ?_
  refine SF_iload_n 3 19 dX12_keyAt_18 rfl rfl rfl ?_
  refine SF_iadd 20 dX12_keyAt_19 rfl ?_
  obtain ⟨v1, g2, q3, h⟩ := bd_some h
  have s4 := w_J0_charAt_5068e (X := X) (Nat.le_refl 3) 0 (l2 + l3) g g2 v1 (by decide) q3
  refine SF_callT 23 (by decide) mi_J0_charAt_5068e ml_X12_91 dX12_keyAt_20 (Nat.le_trans (by decide) hd) s4 rfl rfl (Nat.le_of_ble_eq_true rfl) rfl ?_
  have k_l0 := k_l0.ext s4.1
  refine SF_bipush (32 : Int32) 25 dX12_keyAt_23 rfl rfl ?_
  refine SF_iceq 69 28 dX12_keyAt_25 rfl rfl (fun c5 => ?_) (fun c5 => ?_)
  · have h := ite_t c5 h
    exact w_X12_keyAt_69 hd k4 hk4 l0 l1 l2 l3 g2 k_l0 h
  · have h := ite_f c5 h
    refine SF_aload_n 0 29 dX12_keyAt_28 rfl rfl rfl ?_
    refine SF_getI 32 fl_X12_95 dX12_keyAt_29 k_l0.1 rfl ?_
    refine SF_iload_n 3 33 dX12_keyAt_32 rfl rfl rfl ?_
    refine SF_iadd 34 dX12_keyAt_33 rfl ?_
    refine SF_aload_n 0 35 dX12_keyAt_34 rfl rfl rfl ?_
    refine SF_getI 38 fl_X12_98 dX12_keyAt_35 k_l0.1 rfl ?_
    refine SF_icge 69 41 dX12_keyAt_38 rfl rfl (fun c6 => ?_) (fun c6 => ?_)
    · have h := ite_t c6 h
      exact w_X12_keyAt_69 hd k4 hk4 l0 l1 l2 l3 g2 k_l0 h
    · have h := ite_f c6 h
      refine SF_aload_n 0 42 dX12_keyAt_41 rfl rfl rfl ?_
      obtain ⟨b7, r8, h⟩ := dr_some h
      refine SF_getR 45 fl_X12_21 dX12_keyAt_42 k_l0.1 r8 rfl ?_
      refine SF_aload_n 0 46 dX12_keyAt_45 rfl rfl rfl ?_
      refine SF_getI 49 fl_X12_95 dX12_keyAt_46 k_l0.1 rfl ?_
      refine SF_iload_n 3 50 dX12_keyAt_49 rfl rfl rfl ?_
      refine SF_iadd 51 dX12_keyAt_50 rfl ?_
      obtain ⟨k9, h⟩ := gdK_some h
      obtain ⟨i10, h⟩ := gdI_some h
      refine SF_iald 52 dX12_keyAt_51 k9.1 i10 rfl ?_
      refine SF_ldcS 0 54 dX12_keyAt_52 (fun U h9 => h9.2.1) rfl ?_
      refine SF_iload_n 2 55 dX12_keyAt_54 rfl rfl rfl ?_
      refine SF_iload_n 3 56 dX12_keyAt_55 rfl rfl rfl ?_
      refine SF_iadd 57 dX12_keyAt_56 rfl ?_
      obtain ⟨v11, g12, q13, h⟩ := bd_some h
      have s14 := w_J0_charAt_5068e (X := X) (Nat.le_refl 3) 0 (l2 + l3) g2 g12 v11 (by decide) q13
      refine SF_callT 60 (by decide) mi_J0_charAt_5068e ml_X12_91 dX12_keyAt_57 (Nat.le_trans (by decide) hd) s14 rfl rfl (Nat.le_of_ble_eq_true rfl) rfl ?_
      have k_l0 := k_l0.ext s14.1
      have k9 := k9.ext s14.1
      refine SF_icne 69 63 dX12_keyAt_60 rfl rfl (fun c15 => ?_) (fun c15 => ?_)
      · have h := ite_f c15 h
        exact w_X12_keyAt_69 hd k4 hk4 l0 l1 l2 l3 g12 k_l0 h
      · have h := ite_t c15 h
        refine SF_iinc 3 (l3 + (1 : Int32)) [(3, .int (l3 + (1 : Int32))), (0, .ref (ad X l0)), (1, .int l1), (2, .int l2)] 66 dX12_keyAt_63 rfl rfl (by decide) rfl rfl ?_
        refine SF_goto 15 dX12_keyAt_66 rfl ?_
        refine SF_sub [1, 2, 3, 0] rfl ?_
        exact ih l0 l1 l2 (l3 + (1 : Int32)) g12 k_l0 h

set_option maxRecDepth 20000 in
set_option maxHeartbeats 2000000 in
theorem w_X12_keyAt_4 {X : CX} {d : Nat} (hd : 4 ≤ d) {g' : G} {rx : Int32} : ∀ (n : Nat) (l0 : Nat) (l1 : Int32) (l2 : Int32) (g : G), KD g l0 12 → f_X12_keyAt_4 n l0 l1 l2 g = some (rx, g') → SemF X m_X12_keyAt d 4 [(0, .ref (ad X l0)), (1, .int l1), (2, .int l2)] [] g (some (.int rx)) g' := by
  intro n
  induction n with
  | zero =>
    intro l0 l1 l2 g k_l0 h
    rw [f_X12_keyAt_4] at h
    cases h
  | succ n ih =>
  intro l0 l1 l2 g k_l0 h
  rw [f_X12_keyAt_4] at h
  refine SF_iload_n 2 5 dX12_keyAt_4 rfl rfl rfl ?_
  refine SF_ldcS 0 7 dX12_keyAt_5 (fun U h9 => h9.2.1) rfl ?_
  obtain ⟨v1, g2, q3, h⟩ := bd_some h
  have s4 := w_J0_length_8abf5 (X := X) (Nat.le_refl 1) 0 g g2 v1 (by decide) q3
  refine SF_callT 10 (by decide) mi_J0_length_8abf5 ml_X12_85 dX12_keyAt_7 (Nat.le_trans (by decide) hd) s4 rfl rfl (Nat.le_of_ble_eq_true rfl) rfl ?_
  have k_l0 := k_l0.ext s4.1
  refine SF_icge 123 13 dX12_keyAt_10 rfl rfl (fun c5 => ?_) (fun c5 => ?_)
  · have h := ite_t c5 h
    refine SF_bipush (22 : Int32) 125 dX12_keyAt_123 rfl rfl ?_
    exact RT_i rfl dX12_keyAt_125 h
  · have h := ite_f c5 h
    refine SF_iconst (0 : Int32) 14 dX12_keyAt_13 rfl rfl ?_
    refine SF_istore_n [(3, .int (0 : Int32)), (0, .ref (ad X l0)), (1, .int l1), (2, .int l2)] 15 dX12_keyAt_14 rfl (by decide) rfl rfl ?_
    refine SF_sub [1, 2, 3, 0] rfl ?_
    exact w_X12_keyAt_15 hd (f_X12_keyAt_4 n) ih FU l0 l1 l2 (0 : Int32) g2 k_l0 h

set_option maxRecDepth 20000 in
set_option maxHeartbeats 2000000 in
theorem w_X12_keyAt {X : CX} {d : Nat} (hd : 4 ≤ d) (l0 : Nat) (g g' : G) (rx : Int32) (k_l0 : KD g l0 12) (h : f_X12_keyAt l0 g = some (rx, g')) : Sem X m_X12_keyAt d [.ref (ad X l0)] g (some (.int rx)) g' := by
  refine Sem_of (lo := [(0, .ref (ad X l0))]) (by decide +kernel) rfl (Nat.le_of_ble_eq_true rfl) ?_
  rw [f_X12_keyAt] at h
  refine SF_iconst (0 : Int32) 1 dX12_keyAt_0 rfl rfl ?_
  refine SF_istore_n [(1, .int (0 : Int32)), (0, .ref (ad X l0))] 2 dX12_keyAt_1 rfl (by decide) rfl rfl ?_
  refine SF_iconst (1 : Int32) 3 dX12_keyAt_2 rfl rfl ?_
  refine SF_istore_n [(2, .int (1 : Int32)), (1, .int (0 : Int32)), (0, .ref (ad X l0))] 4 dX12_keyAt_3 rfl (by decide) rfl rfl ?_
  refine SF_sub [2, 1, 0] rfl ?_
  exact w_X12_keyAt_4 hd FU l0 (0 : Int32) (1 : Int32) g k_l0 h

theorem dX12_isDigit_0 : decode cX12_isDigit 0 = .ok (.iload_n 0, 1) := by decide +kernel
theorem dX12_isDigit_1 : decode cX12_isDigit 1 = .ok (.bipush 48, 2) := by decide +kernel
theorem dX12_isDigit_3 : decode cX12_isDigit 3 = .ok (.if_icmp .lt 13, 3) := by decide +kernel
theorem dX12_isDigit_6 : decode cX12_isDigit 6 = .ok (.iload_n 0, 1) := by decide +kernel
theorem dX12_isDigit_7 : decode cX12_isDigit 7 = .ok (.bipush 57, 2) := by decide +kernel
theorem dX12_isDigit_9 : decode cX12_isDigit 9 = .ok (.if_icmp .gt 7, 3) := by decide +kernel
theorem dX12_isDigit_12 : decode cX12_isDigit 12 = .ok (.iconst 1, 1) := by decide +kernel
theorem dX12_isDigit_13 : decode cX12_isDigit 13 = .ok (.goto 4, 3) := by decide +kernel
theorem dX12_isDigit_16 : decode cX12_isDigit 16 = .ok (.iconst 0, 1) := by decide +kernel
theorem dX12_isDigit_17 : decode cX12_isDigit 17 = .ok (.ireturn, 1) := by decide +kernel
set_option maxRecDepth 20000 in
set_option maxHeartbeats 2000000 in
theorem w_X12_isDigit {X : CX} {d : Nat} (hd : 0 ≤ d) (l0 : Int32) (g g' : G) (rx : Bool) (h : f_X12_isDigit l0 g = some (rx, g')) : Sem X m_X12_isDigit d [.int l0] g (some (.int (b2i rx))) g' := by
  refine Sem_of (lo := [(0, .int l0)]) (by decide +kernel) rfl (Nat.le_of_ble_eq_true rfl) ?_
  rw [f_X12_isDigit] at h
  refine SF_iload_n 0 1 dX12_isDigit_0 rfl rfl rfl ?_
  refine SF_bipush (48 : Int32) 3 dX12_isDigit_1 rfl rfl ?_
  refine SF_iclt 16 6 dX12_isDigit_3 rfl rfl (fun c1 => ?_) (fun c1 => ?_)
  · have h := ite_t c1 h
    refine SF_iconst (0 : Int32) 17 dX12_isDigit_16 rfl rfl ?_
    exact RT_b rfl rfl dX12_isDigit_17 h
  · have h := ite_f c1 h
    refine SF_iload_n 0 7 dX12_isDigit_6 rfl rfl rfl ?_
    refine SF_bipush (57 : Int32) 9 dX12_isDigit_7 rfl rfl ?_
    refine SF_icgt 16 12 dX12_isDigit_9 rfl rfl (fun c2 => ?_) (fun c2 => ?_)
    · have h := ite_t c2 h
      refine SF_iconst (0 : Int32) 17 dX12_isDigit_16 rfl rfl ?_
      exact RT_b rfl rfl dX12_isDigit_17 h
    · have h := ite_f c2 h
      refine SF_iconst (1 : Int32) 13 dX12_isDigit_12 rfl rfl ?_
      refine SF_goto 17 dX12_isDigit_13 rfl ?_
      exact RT_b rfl rfl dX12_isDigit_17 h

theorem dX12_next_0 : decode cX12_next 0 = .ok (.aload_n 0, 1) := by decide +kernel
theorem dX12_next_1 : decode cX12_next 1 = .ok (.aload_n 0, 1) := by decide +kernel
theorem dX12_next_2 : decode cX12_next 2 = .ok (.getfield 98, 3) := by decide +kernel
theorem dX12_next_5 : decode cX12_next 5 = .ok (.putfield 95, 3) := by decide +kernel
theorem dX12_next_8 : decode cX12_next 8 = .ok (.aload_n 0, 1) := by decide +kernel
theorem dX12_next_9 : decode cX12_next 9 = .ok (.aload_n 0, 1) := by decide +kernel
theorem dX12_next_10 : decode cX12_next 10 = .ok (.getfield 95, 3) := by decide +kernel
theorem dX12_next_13 : decode cX12_next 13 = .ok (.invokevirtual 101, 3) := by decide +kernel
theorem dX12_next_16 : decode cX12_next 16 = .ok (.bipush 10, 2) := by decide +kernel
theorem dX12_next_18 : decode cX12_next 18 = .ok (.if_icmp .eq 16, 3) := by decide +kernel
theorem dX12_next_21 : decode cX12_next 21 = .ok (.aload_n 0, 1) := by decide +kernel
theorem dX12_next_22 : decode cX12_next 22 = .ok (.aload_n 0, 1) := by decide +kernel
theorem dX12_next_23 : decode cX12_next 23 = .ok (.getfield 95, 3) := by decide +kernel
theorem dX12_next_26 : decode cX12_next 26 = .ok (.invokevirtual 101, 3) := by decide +kernel
theorem dX12_next_29 : decode cX12_next 29 = .ok (.bipush 32, 2) := by decide +kernel
theorem dX12_next_31 : decode cX12_next 31 = .ok (.if_icmp .ne 16, 3) := by decide +kernel
theorem dX12_next_34 : decode cX12_next 34 = .ok (.aload_n 0, 1) := by decide +kernel
theorem dX12_next_35 : decode cX12_next 35 = .ok (.dup, 1) := by decide +kernel
theorem dX12_next_36 : decode cX12_next 36 = .ok (.getfield 95, 3) := by decide +kernel
theorem dX12_next_39 : decode cX12_next 39 = .ok (.iconst 1, 1) := by decide +kernel
theorem dX12_next_40 : decode cX12_next 40 = .ok (.iadd, 1) := by decide +kernel
theorem dX12_next_41 : decode cX12_next 41 = .ok (.putfield 95, 3) := by decide +kernel
theorem dX12_next_44 : decode cX12_next 44 = .ok (.goto (-36), 3) := by decide +kernel
theorem dX12_next_47 : decode cX12_next 47 = .ok (.aload_n 0, 1) := by decide +kernel
theorem dX12_next_48 : decode cX12_next 48 = .ok (.aload_n 0, 1) := by decide +kernel
theorem dX12_next_49 : decode cX12_next 49 = .ok (.getfield 95, 3) := by decide +kernel
theorem dX12_next_52 : decode cX12_next 52 = .ok (.putfield 98, 3) := by decide +kernel
theorem dX12_next_55 : decode cX12_next 55 = .ok (.aload_n 0, 1) := by decide +kernel
theorem dX12_next_56 : decode cX12_next 56 = .ok (.getfield 95, 3) := by decide +kernel
theorem dX12_next_59 : decode cX12_next 59 = .ok (.aload_n 0, 1) := by decide +kernel
theorem dX12_next_60 : decode cX12_next 60 = .ok (.getfield 80, 3) := by decide +kernel
theorem dX12_next_63 : decode cX12_next 63 = .ok (.if_icmp .lt 12, 3) := by decide +kernel
theorem dX12_next_66 : decode cX12_next 66 = .ok (.aload_n 0, 1) := by decide +kernel
theorem dX12_next_67 : decode cX12_next 67 = .ok (.bipush 24, 2) := by decide +kernel
theorem dX12_next_69 : decode cX12_next 69 = .ok (.putfield 105, 3) := by decide +kernel
theorem dX12_next_72 : decode cX12_next 72 = .ok (.goto 222, 3) := by decide +kernel
theorem dX12_next_75 : decode cX12_next 75 = .ok (.aload_n 0, 1) := by decide +kernel
theorem dX12_next_76 : decode cX12_next 76 = .ok (.aload_n 0, 1) := by decide +kernel
theorem dX12_next_77 : decode cX12_next 77 = .ok (.getfield 95, 3) := by decide +kernel
theorem dX12_next_80 : decode cX12_next 80 = .ok (.invokevirtual 101, 3) := by decide +kernel
theorem dX12_next_83 : decode cX12_next 83 = .ok (.invokestatic 108, 3) := by decide +kernel
theorem dX12_next_86 : decode cX12_next 86 = .ok (.ifCond .eq 41, 3) := by decide +kernel
theorem dX12_next_89 : decode cX12_next 89 = .ok (.aload_n 0, 1) := by decide +kernel
theorem dX12_next_90 : decode cX12_next 90 = .ok (.aload_n 0, 1) := by decide +kernel
theorem dX12_next_91 : decode cX12_next 91 = .ok (.getfield 98, 3) := by decide +kernel
theorem dX12_next_94 : decode cX12_next 94 = .ok (.invokevirtual 101, 3) := by decide +kernel
theorem dX12_next_97 : decode cX12_next 97 = .ok (.invokestatic 108, 3) := by decide +kernel
theorem dX12_next_100 : decode cX12_next 100 = .ok (.ifCond .eq 16, 3) := by decide +kernel
theorem dX12_next_103 : decode cX12_next 103 = .ok (.aload_n 0, 1) := by decide +kernel
theorem dX12_next_104 : decode cX12_next 104 = .ok (.dup, 1) := by decide +kernel
theorem dX12_next_105 : decode cX12_next 105 = .ok (.getfield 98, 3) := by decide +kernel
theorem dX12_next_108 : decode cX12_next 108 = .ok (.iconst 1, 1) := by decide +kernel
theorem dX12_next_109 : decode cX12_next 109 = .ok (.iadd, 1) := by decide +kernel
theorem dX12_next_110 : decode cX12_next 110 = .ok (.putfield 98, 3) := by decide +kernel
theorem dX12_next_113 : decode cX12_next 113 = .ok (.goto (-24), 3) := by decide +kernel
theorem dX12_next_116 : decode cX12_next 116 = .ok (.aload_n 0, 1) := by decide +kernel
theorem dX12_next_117 : decode cX12_next 117 = .ok (.aload_n 0, 1) := by decide +kernel
theorem dX12_next_118 : decode cX12_next 118 = .ok (.invokevirtual 112, 3) := by decide +kernel
theorem dX12_next_121 : decode cX12_next 121 = .ok (.putfield 105, 3) := by decide +kernel
theorem dX12_next_124 : decode cX12_next 124 = .ok (.goto 170, 3) := by decide +kernel
theorem dX12_next_127 : decode cX12_next 127 = .ok (.aload_n 0, 1) := by decide +kernel
theorem dX12_next_128 : decode cX12_next 128 = .ok (.aload_n 0, 1) := by decide +kernel
theorem dX12_next_129 : decode cX12_next 129 = .ok (.getfield 95, 3) := by decide +kernel
theorem dX12_next_132 : decode cX12_next 132 = .ok (.invokevirtual 101, 3) := by decide +kernel
theorem dX12_next_135 : decode cX12_next 135 = .ok (.invokestatic 115, 3) := by decide +kernel
theorem dX12_next_138 : decode cX12_next 138 = .ok (.ifCond .eq 98, 3) := by decide +kernel
theorem dX12_next_141 : decode cX12_next 141 = .ok (.aload_n 0, 1) := by decide +kernel
theorem dX12_next_142 : decode cX12_next 142 = .ok (.iconst 0, 1) := by decide +kernel
theorem dX12_next_143 : decode cX12_next 143 = .ok (.putfield 118, 3) := by decide +kernel
theorem dX12_next_146 : decode cX12_next 146 = .ok (.aload_n 0, 1) := by decide +kernel
theorem dX12_next_147 : decode cX12_next 147 = .ok (.aload_n 0, 1) := by decide +kernel
theorem dX12_next_148 : decode cX12_next 148 = .ok (.getfield 98, 3) := by decide +kernel
theorem dX12_next_151 : decode cX12_next 151 = .ok (.invokevirtual 101, 3) := by decide +kernel
theorem dX12_next_154 : decode cX12_next 154 = .ok (.invokestatic 115, 3) := by decide +kernel
theorem dX12_next_157 : decode cX12_next 157 = .ok (.ifCond .eq 52, 3) := by decide +kernel
theorem dX12_next_160 : decode cX12_next 160 = .ok (.aload_n 0, 1) := by decide +kernel
theorem dX12_next_161 : decode cX12_next 161 = .ok (.getfield 98, 3) := by decide +kernel
theorem dX12_next_164 : decode cX12_next 164 = .ok (.aload_n 0, 1) := by decide +kernel
theorem dX12_next_165 : decode cX12_next 165 = .ok (.getfield 95, 3) := by decide +kernel
theorem dX12_next_168 : decode cX12_next 168 = .ok (.isub, 1) := by decide +kernel
theorem dX12_next_169 : decode cX12_next 169 = .ok (.iconst 3, 1) := by decide +kernel
theorem dX12_next_170 : decode cX12_next 170 = .ok (.if_icmp .ge 26, 3) := by decide +kernel
theorem dX12_next_173 : decode cX12_next 173 = .ok (.aload_n 0, 1) := by decide +kernel
theorem dX12_next_174 : decode cX12_next 174 = .ok (.bipush 10, 2) := by decide +kernel
theorem dX12_next_176 : decode cX12_next 176 = .ok (.aload_n 0, 1) := by decide +kernel
theorem dX12_next_177 : decode cX12_next 177 = .ok (.getfield 118, 3) := by decide +kernel
theorem dX12_next_180 : decode cX12_next 180 = .ok (.imul, 1) := by decide +kernel
theorem dX12_next_181 : decode cX12_next 181 = .ok (.aload_n 0, 1) := by decide +kernel
theorem dX12_next_182 : decode cX12_next 182 = .ok (.aload_n 0, 1) := by decide +kernel
theorem dX12_next_183 : decode cX12_next 183 = .ok (.getfield 98, 3) := by decide +kernel
theorem dX12_next_186 : decode cX12_next 186 = .ok (.invokevirtual 101, 3) := by decide +kernel
theorem dX12_next_189 : decode cX12_next 189 = .ok (.iadd, 1) := by decide +kernel
theorem dX12_next_190 : decode cX12_next 190 = .ok (.bipush 48, 2) := by decide +kernel
theorem dX12_next_192 : decode cX12_next 192 = .ok (.isub, 1) := by decide +kernel
theorem dX12_next_193 : decode cX12_next 193 = .ok (.putfield 118, 3) := by decide +kernel
theorem dX12_next_196 : decode cX12_next 196 = .ok (.aload_n 0, 1) := by decide +kernel
theorem dX12_next_197 : decode cX12_next 197 = .ok (.dup, 1) := by decide +kernel
theorem dX12_next_198 : decode cX12_next 198 = .ok (.getfield 98, 3) := by decide +kernel
theorem dX12_next_201 : decode cX12_next 201 = .ok (.iconst 1, 1) := by decide +kernel
theorem dX12_next_202 : decode cX12_next 202 = .ok (.iadd, 1) := by decide +kernel
theorem dX12_next_203 : decode cX12_next 203 = .ok (.putfield 98, 3) := by decide +kernel
theorem dX12_next_206 : decode cX12_next 206 = .ok (.goto (-60), 3) := by decide +kernel
theorem dX12_next_209 : decode cX12_next 209 = .ok (.aload_n 0, 1) := by decide +kernel
theorem dX12_next_210 : decode cX12_next 210 = .ok (.aload_n 0, 1) := by decide +kernel
theorem dX12_next_211 : decode cX12_next 211 = .ok (.getfield 98, 3) := by decide +kernel
theorem dX12_next_214 : decode cX12_next 214 = .ok (.aload_n 0, 1) := by decide +kernel
theorem dX12_next_215 : decode cX12_next 215 = .ok (.getfield 95, 3) := by decide +kernel
theorem dX12_next_218 : decode cX12_next 218 = .ok (.isub, 1) := by decide +kernel
theorem dX12_next_219 : decode cX12_next 219 = .ok (.iconst 3, 1) := by decide +kernel
theorem dX12_next_220 : decode cX12_next 220 = .ok (.if_icmp .le 8, 3) := by decide +kernel
theorem dX12_next_223 : decode cX12_next 223 = .ok (.bipush 25, 2) := by decide +kernel
theorem dX12_next_225 : decode cX12_next 225 = .ok (.goto 5, 3) := by decide +kernel
theorem dX12_next_228 : decode cX12_next 228 = .ok (.bipush 23, 2) := by decide +kernel
theorem dX12_next_230 : decode cX12_next 230 = .ok (.putfield 105, 3) := by decide +kernel
theorem dX12_next_233 : decode cX12_next 233 = .ok (.goto 61, 3) := by decide +kernel
theorem dX12_next_236 : decode cX12_next 236 = .ok (.aload_n 0, 1) := by decide +kernel
theorem dX12_next_237 : decode cX12_next 237 = .ok (.dup, 1) := by decide +kernel
theorem dX12_next_238 : decode cX12_next 238 = .ok (.getfield 98, 3) := by decide +kernel
theorem dX12_next_241 : decode cX12_next 241 = .ok (.iconst 1, 1) := by decide +kernel
theorem dX12_next_242 : decode cX12_next 242 = .ok (.iadd, 1) := by decide +kernel
theorem dX12_next_243 : decode cX12_next 243 = .ok (.putfield 98, 3) := by decide +kernel
theorem dX12_next_246 : decode cX12_next 246 = .ok (.aload_n 0, 1) := by decide +kernel
theorem dX12_next_247 : decode cX12_next 247 = .ok (.bipush 25, 2) := by decide +kernel
theorem dX12_next_249 : decode cX12_next 249 = .ok (.putfield 105, 3) := by decide +kernel
theorem dX12_next_252 : decode cX12_next 252 = .ok (.iconst 0, 1) := by decide +kernel
theorem dX12_next_253 : decode cX12_next 253 = .ok (.istore_n 1, 1) := by decide +kernel
theorem dX12_next_254 : decode cX12_next 254 = .ok (.iload_n 1, 1) := by decide +kernel
theorem dX12_next_255 : decode cX12_next 255 = .ok (.ldc 121, 2) := by decide +kernel
theorem dX12_next_257 : decode cX12_next 257 = .ok (.invokevirtual 85, 3) := by decide +kernel
theorem dX12_next_260 : decode cX12_next 260 = .ok (.if_icmp .ge 34, 3) := by decide +kernel
theorem dX12_next_263 : decode cX12_next 263 = .ok (.aload_n 0, 1) := by decide +kernel
theorem dX12_next_264 : decode cX12_next 264 = .ok (.aload_n 0, 1) := by decide +kernel
theorem dX12_next_265 : decode cX12_next 265 = .ok (.getfield 95, 3) := by decide +kernel
theorem dX12_next_268 : decode cX12_next 268 = .ok (.invokevirtual 101, 3) := by decide +kernel
theorem dX12_next_271 : decode cX12_next 271 = .ok (.ldc 121, 2) := by decide +kernel
theorem dX12_next_273 : decode cX12_next 273 = .ok (.iload_n 1, 1) := by decide +kernel
theorem dX12_next_274 : decode cX12_next 274 = .ok (.invokevirtual 91, 3) := by decide +kernel
theorem dX12_next_277 : decode cX12_next 277 = .ok (.if_icmp .ne 11, 3) := by decide +kernel
theorem dX12_next_280 : decode cX12_next 280 = .ok (.aload_n 0, 1) := by decide +kernel
theorem dX12_next_281 : decode cX12_next 281 = .ok (.bipush 30, 2) := by decide +kernel
theorem dX12_next_283 : decode cX12_next 283 = .ok (.iload_n 1, 1) := by decide +kernel
theorem dX12_next_284 : decode cX12_next 284 = .ok (.iadd, 1) := by decide +kernel
theorem dX12_next_285 : decode cX12_next 285 = .ok (.putfield 105, 3) := by decide +kernel
theorem dX12_next_288 : decode cX12_next 288 = .ok (.iinc 1 1, 3) := by decide +kernel
theorem dX12_next_291 : decode cX12_next 291 = .ok (.goto (-37), 3) := by decide +kernel
theorem dX12_next_294 : decode cX12_next 294 = .ok (.return_, 1) := by decide +kernel
set_option maxRecDepth 20000 in
set_option maxHeartbeats 2000000 in
theorem w_X12_next_34 {X : CX} {d : Nat} (hd : 5 ≤ d) {g' : G} {rx : Unit} (k8 : Nat → G → Option (Unit × G)) (hk8 : ∀ (l0 : Nat) (g : G), KD g l0 12 → k8 l0 g = some (rx, g') → SemF X m_X12_next d 8 [(0, .ref (ad X l0))] [] g none g') (l0 : Nat) (g : G) (k_l0 : KD g l0 12) (h : f_X12_next_34 k8 l0 g = some (rx, g')) : SemF X m_X12_next d 34 [(0, .ref (ad X l0))] [] g none g' := by
  rw [f_X12_next_34] at h
  refine SF_aload_n 0 35 dX12_next_34 rfl rfl rfl ?_
  refine SF_dup 36 dX12_next_35 rfl rfl ?_
  refine SF_getI 39 fl_X12_95 dX12_next_36 k_l0.1 rfl ?_
  refine SF_iconst (1 : Int32) 40 dX12_next_39 rfl rfl ?_
  refine SF_iadd 41 dX12_next_40 rfl ?_
  refine SF_putI 44 fl_X12_95 dX12_next_41 k_l0.1 (fn_int _) (Or.inl rfl) rfl ?_
  obtain ⟨g1, e2, h⟩ := lg_some h
  rw [← e2]
  have k_l0 := KD.eq e2 k_l0
  refine SF_goto 8 dX12_next_44 rfl ?_
  exact hk8 l0 g1 k_l0 h

set_option maxRecDepth 20000 in
set_option maxHeartbeats 2000000 in
theorem w_X12_next_89 {X : CX} {d : Nat} (hd : 5 ≤ d) {g' : G} {rx : Unit} : ∀ (n : Nat) (l0 : Nat) (g : G), KD g l0 12 → f_X12_next_89 n l0 g = some (rx, g') → SemF X m_X12_next d 89 [(0, .ref (ad X l0))] [] g none g' := by
  intro n
  induction n with
  | zero =>
    intro l0 g k_l0 h
    rw [f_X12_next_89] at h
    cases h
  | succ n ih =>
  intro l0 g k_l0 h
  rw [f_X12_next_89] at h
  refine SF_aload_n 0 90 dX12_next_89 rfl rfl rfl ?_
  refine SF_aload_n 0 91 dX12_next_90 rfl rfl rfl ?_
  refine SF_getI 94 fl_X12_98 dX12_next_91 k_l0.1 rfl ?_
  obtain ⟨v1, g2, q3, h⟩ := bd_some h
  have s4 := w_X12_see (X := X) (Nat.le_refl 0) l0 (gI g l0 7) g g2 v1 k_l0 q3
  refine SF_callVi 97 mi_X12_see ml_X12_101 dX12_next_94 (Nat.le_trans (by decide) hd) s4 k_l0.1 rfl rfl (Nat.le_of_ble_eq_true rfl) rfl ?_
  have k_l0 := k_l0.ext s4.1
  obtain ⟨v5, g6, q7, h⟩ := bd_some h
  have s8 := w_X12_isSmall (X := X) (Nat.le_refl 0) v1 g2 g6 v5 q7
  refine SF_callSb 100 mi_X12_isSmall ml_X12_108 dX12_next_97 (Nat.le_trans (by decide) hd) s8 rfl rfl (Nat.le_of_ble_eq_true rfl) rfl ?_
  have k_l0 := k_l0.ext s8.1
  refine SF_ifeq 116 103 dX12_next_100 rfl rfl (fun c9 => ?_) (fun c9 => ?_)
  · have h := ite_t c9 h
    refine SF_aload_n 0 117 dX12_next_116 rfl rfl rfl ?_
    refine SF_aload_n 0 118 dX12_next_117 rfl rfl rfl ?_
    obtain ⟨v10, g11, q12, h⟩ := bd_some h
    have s13 := w_X12_keyAt (X := X) (Nat.le_refl 4) l0 g6 g11 v10 k_l0 q12
    refine SF_callVi 121 mi_X12_keyAt ml_X12_112 dX12_next_118 (Nat.le_trans (by decide) hd) s13 k_l0.1 rfl rfl (Nat.le_of_ble_eq_true rfl) rfl ?_
    have k_l0 := k_l0.ext s13.1
    refine SF_putI 124 fl_X12_105 dX12_next_121 k_l0.1 (fn_int _) (Or.inl rfl) rfl ?_
    obtain ⟨g14, e15, h⟩ := lg_some h
    rw [← e15]
    have k_l0 := KD.eq e15 k_l0
    refine SF_goto 294 dX12_next_124 rfl ?_
    exact RT_v rfl dX12_next_294 h
  · have h := ite_f c9 h
    refine SF_aload_n 0 104 dX12_next_103 rfl rfl rfl ?_
    refine SF_dup 105 dX12_next_104 rfl rfl ?_
    refine SF_getI 108 fl_X12_98 dX12_next_105 k_l0.1 rfl ?_
    refine SF_iconst (1 : Int32) 109 dX12_next_108 rfl rfl ?_
    refine SF_iadd 110 dX12_next_109 rfl ?_
    refine SF_putI 113 fl_X12_98 dX12_next_110 k_l0.1 (fn_int _) (Or.inl rfl) rfl ?_
    obtain ⟨g16, e17, h⟩ := lg_some h
    rw [← e17]
    have k_l0 := KD.eq e17 k_l0
    refine SF_goto 89 dX12_next_113 rfl ?_
    exact ih l0 g16 k_l0 h

set_option maxRecDepth 20000 in
set_option maxHeartbeats 2000000 in
theorem w_X12_next_196 {X : CX} {d : Nat} (hd : 5 ≤ d) {g' : G} {rx : Unit} (k146 : Nat → G → Option (Unit × G)) (hk146 : ∀ (l0 : Nat) (g : G), KD g l0 12 → k146 l0 g = some (rx, g') → SemF X m_X12_next d 146 [(0, .ref (ad X l0))] [] g none g') (l0 : Nat) (g : G) (k_l0 : KD g l0 12) (h : f_X12_next_196 k146 l0 g = some (rx, g')) : SemF X m_X12_next d 196 [(0, .ref (ad X l0))] [] g none g' := by
  rw [f_X12_next_196] at h
  refine SF_aload_n 0 197 dX12_next_196 rfl rfl rfl ?_
  refine SF_dup 198 dX12_next_197 rfl rfl ?_
  refine SF_getI 201 fl_X12_98 dX12_next_198 k_l0.1 rfl ?_
  refine SF_iconst (1 : Int32) 202 dX12_next_201 rfl rfl ?_
  refine SF_iadd 203 dX12_next_202 rfl ?_
  refine SF_putI 206 fl_X12_98 dX12_next_203 k_l0.1 (fn_int _) (Or.inl rfl) rfl ?_
  obtain ⟨g1, e2, h⟩ := lg_some h
  rw [← e2]
  have k_l0 := KD.eq e2 k_l0
  refine SF_goto 146 dX12_next_206 rfl ?_
  exact hk146 l0 g1 k_l0 h

set_option maxRecDepth 20000 in
set_option maxHeartbeats 2000000 in
theorem w_X12_next_230 {X : CX} {d : Nat} (hd : 5 ≤ d) {g' : G} {rx : Unit} (s0 : Int32) (s1 : Nat) (g : G) (k_s1 : KD g s1 12) (h : f_X12_next_230 s0 s1 g = some (rx, g')) : SemF X m_X12_next d 230 [] [.int s0, .ref (ad X s1)] g none g' := by
  rw [f_X12_next_230] at h
  refine SF_putI 233 fl_X12_105 dX12_next_230 k_s1.1 (fn_int _) (Or.inl rfl) rfl ?_
  obtain ⟨g1, e2, h⟩ := lg_some h
  rw [← e2]
  have k_s1 := KD.eq e2 k_s1
  refine SF_goto 294 dX12_next_233 rfl ?_
  exact RT_v rfl dX12_next_294 h

set_option maxRecDepth 20000 in
set_option maxHeartbeats 2000000 in
theorem w_X12_next_146 {X : CX} {d : Nat} (hd : 5 ≤ d) {g' : G} {rx : Unit} : ∀ (n : Nat) (l0 : Nat) (g : G), KD g l0 12 → f_X12_next_146 n l0 g = some (rx, g') → SemF X m_X12_next d 146 [(0, .ref (ad X l0))] [] g none g' := by
  intro n
  induction n with
  | zero =>
    intro l0 g k_l0 h
    rw [f_X12_next_146] at h
    cases h
  | succ n ih =>
  intro l0 g k_l0 h
  rw [f_X12_next_146] at h
  refine SF_aload_n 0 147 dX12_next_146 rfl rfl rfl ?_
  refine SF_aload_n 0 148 dX12_next_147 rfl rfl rfl ?_
  refine SF_getI 151 fl_X12_98 dX12_next_148 k_l0.1 rfl ?_
  obtain ⟨v1, g2, q3, h⟩ := bd_some h
  have s4 := w_X12_see (X := X) (Nat.le_refl 0) l0 (gI g l0 7) g g2 v1 k_l0 q3
  refine SF_callVi 154 mi_X12_see ml_X12_101 dX12_next_151 (Nat.le_trans (by decide) hd) s4 k_l0.1 rfl rfl (Nat.le_of_ble_eq_true rfl) rfl ?_
  have k_l0 := k_l0.ext s4.1
  obtain ⟨v5, g6, q7, h⟩ := bd_some h
  have s8 := w_X12_isDigit (X := X) (Nat.le_refl 0) v1 g2 g6 v5 q7
  refine SF_callSb 157 mi_X12_isDigit ml_X12_115 dX12_next_154 (Nat.le_trans (by decide) hd) s8 rfl rfl (Nat.le_of_ble_eq_true rfl) rfl ?_
  have k_l0 := k_l0.ext s8.1
  refine SF_ifeq 209 160 dX12_next_157 rfl rfl (fun c9 => ?_) (fun c9 => ?_)
  · have h := ite_t c9 h
    refine SF_aload_n 0 210 dX12_next_209 rfl rfl rfl ?_
    refine SF_aload_n 0 211 dX12_next_210 rfl rfl rfl ?_
    refine SF_getI 214 fl_X12_98 dX12_next_211 k_l0.1 rfl ?_
    refine SF_aload_n 0 215 dX12_next_214 rfl rfl rfl ?_
    refine SF_getI 218 fl_X12_95 dX12_next_215 k_l0.1 rfl ?_
    refine SF_isub 219 dX12_next_218 rfl ?_
    refine SF_iconst (3 : Int32) 220 dX12_next_219 rfl rfl ?_
    refine SF_icle 228 223 dX12_next_220 rfl rfl (fun c10 => ?_) (fun c10 => ?_)
    · have h := ite_t c10 h
      refine SF_bipush (23 : Int32) 230 dX12_next_228 rfl rfl ?_
      refine SF_sub [] rfl ?_
      exact w_X12_next_230 hd (23 : Int32) l0 g6 k_l0 h
    · have h := ite_f c10 h
      refine SF_bipush (25 : Int32) 225 dX12_next_223 rfl rfl ?_
      refine SF_goto 230 dX12_next_225 rfl ?_
      refine SF_sub [] rfl ?_
      exact w_X12_next_230 hd (25 : Int32) l0 g6 k_l0 h
  · have h := ite_f c9 h
    refine SF_aload_n 0 161 dX12_next_160 rfl rfl rfl ?_
    refine SF_getI 164 fl_X12_98 dX12_next_161 k_l0.1 rfl ?_
    refine SF_aload_n 0 165 dX12_next_164 rfl rfl rfl ?_
    refine SF_getI 168 fl_X12_95 dX12_next_165 k_l0.1 rfl ?_
    refine SF_isub 169 dX12_next_168 rfl ?_
    refine SF_iconst (3 : Int32) 170 dX12_next_169 rfl rfl ?_
    refine SF_icge 196 173 dX12_next_170 rfl rfl (fun c11 => ?_) (fun c11 => ?_)
    · have h := ite_t c11 h
      exact w_X12_next_196 hd (f_X12_next_146 n) ih l0 g6 k_l0 h
    · have h := ite_f c11 h
      refine SF_aload_n 0 174 dX12_next_173 rfl rfl rfl ?_
      refine SF_bipush (10 : Int32) 176 dX12_next_174 rfl rfl ?_
      refine SF_aload_n 0 177 dX12_next_176 rfl rfl rfl ?_
      refine SF_getI 180 fl_X12_118 dX12_next_177 k_l0.1 rfl ?_
      refine SF_imul 181 dX12_next_180 rfl ?_
      refine SF_aload_n 0 182 dX12_next_181 rfl rfl rfl ?_
      refine SF_aload_n 0 183 dX12_next_182 rfl rfl rfl ?_
      refine SF_getI 186 fl_X12_98 dX12_next_183 k_l0.1 rfl ?_
      obtain ⟨v12, g13, q14, h⟩ := bd_some h
      have s15 := w_X12_see (X := X) (Nat.le_refl 0) l0 (gI g6 l0 7) g6 g13 v12 k_l0 q14
      refine SF_callVi 189 mi_X12_see ml_X12_101 dX12_next_186 (Nat.le_trans (by decide) hd) s15 k_l0.1 rfl rfl (Nat.le_of_ble_eq_true rfl) rfl ?_
      have k_l0 := k_l0.ext s15.1
      refine SF_iadd 190 dX12_next_189 rfl ?_
      refine SF_bipush (48 : Int32) 192 dX12_next_190 rfl rfl ?_
      refine SF_isub 193 dX12_next_192 rfl ?_
      refine SF_putI 196 fl_X12_118 dX12_next_193 k_l0.1 (fn_int _) (Or.inl rfl) rfl ?_
      obtain ⟨g16, e17, h⟩ := lg_some h
      rw [← e17]
      have k_l0 := KD.eq e17 k_l0
      exact w_X12_next_196 hd (f_X12_next_146 n) ih l0 g16 k_l0 h

set_option maxRecDepth 20000 in
set_option maxHeartbeats 2000000 in
theorem w_X12_next_288 {X : CX} {d : Nat} (hd : 5 ≤ d) {g' : G} {rx : Unit} (k254 : Nat → Int32 → G → Option (Unit × G)) (hk254 : ∀ (l0 : Nat) (l1 : Int32) (g : G), KD g l0 12 → k254 l0 l1 g = some (rx, g') → SemF X m_X12_next d 254 [(0, .ref (ad X l0)), (1, .int l1)] [] g none g') (l0 : Nat) (l1 : Int32) (g : G) (k_l0 : KD g l0 12) (h : f_X12_next_288 k254 l0 l1 g = some (rx, g')) : SemF X m_X12_next d 288 [(0, .ref (ad X l0)), (1, .int l1)] [] g none g' := by
  rw [f_X12_next_288] at h
  refine SF_iinc 1 (l1 + (1 : Int32)) [(1, .int (l1 + (1 : Int32))), (0, .ref (ad X l0))] 291 dX12_next_288 rfl rfl (by decide) rfl rfl ?_
  refine SF_goto 254 dX12_next_291 rfl ?_
  refine SF_sub [1, 0] rfl ?_
  exact hk254 l0 (l1 + (1 : Int32)) g k_l0 h

set_option maxRecDepth 20000 in
set_option maxHeartbeats 2000000 in
theorem w_X12_next_254 {X : CX} {d : Nat} (hd : 5 ≤ d) {g' : G} {rx : Unit} : ∀ (n : Nat) (l0 : Nat) (l1 : Int32) (g : G), KD g l0 12 → f_X12_next_254 n l0 l1 g = some (rx, g') → SemF X m_X12_next d 254 [(0, .ref (ad X l0)), (1, .int l1)] [] g none g' := by
  intro n
  induction n with
  | zero =>
    intro l0 l1 g k_l0 h
    rw [f_X12_next_254] at h
    cases h
  | succ n ih =>
  intro l0 l1 g k_l0 h
  rw [f_X12_next_254] at h
  refine SF_iload_n 1 255 dX12_next_254 rfl rfl rfl ?_
  refine SF_ldcS 1 257 dX12_next_255 (fun U h9 => h9.2.2.1) rfl ?_
  obtain ⟨v1, g2, q3, h⟩ := bd_some h
  have s4 := w_J0_length_8abf5 (X := X) (Nat.le_refl 1) 1 g g2 v1 (by decide) q3
  refine SF_callT 260 (by decide) mi_J0_length_8abf5 ml_X12_85 dX12_next_257 (Nat.le_trans (by decide) hd) s4 rfl rfl (Nat.le_of_ble_eq_true rfl) rfl ?_
  have k_l0 := k_l0.ext s4.1
  refine SF_icge 294 263 dX12_next_260 rfl rfl (fun c5 => ?_) (fun c5 => ?_)
  · have h := ite_t c5 h
    exact RT_v rfl dX12_next_294 h
  · have h := ite_f c5 h
    refine SF_aload_n 0 264 dX12_next_263 rfl rfl rfl ?_
    refine SF_aload_n 0 265 dX12_next_264 rfl rfl rfl ?_
    refine SF_getI 268 fl_X12_95 dX12_next_265 k_l0.1 rfl ?_
    obtain ⟨v6, g7, q8, h⟩ := bd_some h
    have s9 := w_X12_see (X := X) (Nat.le_refl 0) l0 (gI g2 l0 6) g2 g7 v6 k_l0 q8
    refine SF_callVi 271 mi_X12_see ml_X12_101 dX12_next_268 (Nat.le_trans (by decide) hd) s9 k_l0.1 rfl rfl (Nat.le_of_ble_eq_true rfl) rfl ?_
    have k_l0 := k_l0.ext s9.1
    refine SF_ldcS 1 273 dX12_next_271 (fun U h9 => h9.2.2.1) rfl ?_
    refine SF_iload_n 1 274 dX12_next_273 rfl rfl rfl ?_
    obtain ⟨v10, g11, q12, h⟩ := bd_some h
    have s13 := w_J0_charAt_5068e (X := X) (Nat.le_refl 3) 1 l1 g7 g11 v10 (by decide) q12
    refine SF_callT 277 (by decide) mi_J0_charAt_5068e ml_X12_91 dX12_next_274 (Nat.le_trans (by decide) hd) s13 rfl rfl (Nat.le_of_ble_eq_true rfl) rfl ?_
    have k_l0 := k_l0.ext s13.1
    refine SF_icne 288 280 dX12_next_277 rfl rfl (fun c14 => ?_) (fun c14 => ?_)
    · have h := ite_f c14 h
      exact w_X12_next_288 hd (f_X12_next_254 n) ih l0 l1 g11 k_l0 h
    · have h := ite_t c14 h
      refine SF_aload_n 0 281 dX12_next_280 rfl rfl rfl ?_
      refine SF_bipush (30 : Int32) 283 dX12_next_281 rfl rfl ?_
      refine SF_iload_n 1 284 dX12_next_283 rfl rfl rfl ?_
      refine SF_iadd 285 dX12_next_284 rfl ?_
      refine SF_putI 288 fl_X12_105 dX12_next_285 k_l0.1 (fn_int _) (Or.inl rfl) rfl ?_
      obtain ⟨g15, e16, h⟩ := lg_some h
      rw [← e16]
      have k_l0 := KD.eq e16 k_l0
      exact w_X12_next_288 hd (f_X12_next_254 n) ih l0 l1 g15 k_l0 h

set_option maxRecDepth 20000 in
set_option maxHeartbeats 2000000 in
theorem w_X12_next_8 {X : CX} {d : Nat} (hd : 5 ≤ d) {g' : G} {rx : Unit} : ∀ (n : Nat) (l0 : Nat) (g : G), KD g l0 12 → f_X12_next_8 n l0 g = some (rx, g') → SemF X m_X12_next d 8 [(0, .ref (ad X l0))] [] g none g' := by
  intro n
  induction n with
  | zero =>
    intro l0 g k_l0 h
    rw [f_X12_next_8] at h
    cases h
  | succ n ih =>
  intro l0 g k_l0 h
  rw [f_X12_next_8] at h
  refine SF_aload_n 0 9 dX12_next_8 rfl rfl rfl ?_
  refine SF_aload_n 0 10 dX12_next_9 rfl rfl rfl ?_
  refine SF_getI 13 fl_X12_95 dX12_next_10 k_l0.1 rfl ?_
  obtain ⟨v1, g2, q3, h⟩ := bd_some h
  have s4 := w_X12_see (X := X) (Nat.le_refl 0) l0 (gI g l0 6) g g2 v1 k_l0 q3
  refine SF_callVi 16 mi_X12_see ml_X12_101 dX12_next_13 (Nat.le_trans (by decide) hd) s4 k_l0.1 rfl rfl (Nat.le_of_ble_eq_true rfl) rfl ?_
  have k_l0 := k_l0.ext s4.1
  refine SF_bipush (10 : Int32) 18 dX12_next_16 rfl rfl ?_
  refine SF_iceq 34 21 dX12_next_18 rfl rfl (fun c5 => ?_) (fun c5 => ?_)
  · have h := ite_t c5 h
    exact w_X12_next_34 hd (f_X12_next_8 n) ih l0 g2 k_l0 h
  · have h := ite_f c5 h
    refine SF_aload_n 0 22 dX12_next_21 rfl rfl rfl ?_
    refine SF_aload_n 0 23 dX12_next_22 rfl rfl rfl ?_
    refine SF_getI 26 fl_X12_95 dX12_next_23 k_l0.1 rfl ?_
    obtain ⟨v6, g7, q8, h⟩ := bd_some h
    have s9 := w_X12_see (X := X) (Nat.le_refl 0) l0 (gI g2 l0 6) g2 g7 v6 k_l0 q8
    refine SF_callVi 29 mi_X12_see ml_X12_101 dX12_next_26 (Nat.le_trans (by decide) hd) s9 k_l0.1 rfl rfl (Nat.le_of_ble_eq_true rfl) rfl ?_
    have k_l0 := k_l0.ext s9.1
    refine SF_bipush (32 : Int32) 31 dX12_next_29 rfl rfl ?_
    refine SF_icne 47 34 dX12_next_31 rfl rfl (fun c10 => ?_) (fun c10 => ?_)
    · have h := ite_f c10 h
      refine SF_aload_n 0 48 dX12_next_47 rfl rfl rfl ?_
      refine SF_aload_n 0 49 dX12_next_48 rfl rfl rfl ?_
      refine SF_getI 52 fl_X12_95 dX12_next_49 k_l0.1 rfl ?_
      refine SF_putI 55 fl_X12_98 dX12_next_52 k_l0.1 (fn_int _) (Or.inl rfl) rfl ?_
      obtain ⟨g11, e12, h⟩ := lg_some h
      rw [← e12]
      have k_l0 := KD.eq e12 k_l0
      refine SF_aload_n 0 56 dX12_next_55 rfl rfl rfl ?_
      refine SF_getI 59 fl_X12_95 dX12_next_56 k_l0.1 rfl ?_
      refine SF_aload_n 0 60 dX12_next_59 rfl rfl rfl ?_
      refine SF_getI 63 fl_X12_80 dX12_next_60 k_l0.1 rfl ?_
      refine SF_iclt 75 66 dX12_next_63 rfl rfl (fun c13 => ?_) (fun c13 => ?_)
      · have h := ite_t c13 h
        refine SF_aload_n 0 76 dX12_next_75 rfl rfl rfl ?_
        refine SF_aload_n 0 77 dX12_next_76 rfl rfl rfl ?_
        refine SF_getI 80 fl_X12_95 dX12_next_77 k_l0.1 rfl ?_
        obtain ⟨v14, g15, q16, h⟩ := bd_some h
        have s17 := w_X12_see (X := X) (Nat.le_refl 0) l0 (gI g11 l0 6) g11 g15 v14 k_l0 q16
        refine SF_callVi 83 mi_X12_see ml_X12_101 dX12_next_80 (Nat.le_trans (by decide) hd) s17 k_l0.1 rfl rfl (Nat.le_of_ble_eq_true rfl) rfl ?_
        have k_l0 := k_l0.ext s17.1
        obtain ⟨v18, g19, q20, h⟩ := bd_some h
        have s21 := w_X12_isSmall (X := X) (Nat.le_refl 0) v14 g15 g19 v18 q20
        refine SF_callSb 86 mi_X12_isSmall ml_X12_108 dX12_next_83 (Nat.le_trans (by decide) hd) s21 rfl rfl (Nat.le_of_ble_eq_true rfl) rfl ?_
        have k_l0 := k_l0.ext s21.1
        refine SF_ifeq 127 89 dX12_next_86 rfl rfl (fun c22 => ?_) (fun c22 => ?_)
        · have h := ite_t c22 h
          refine SF_aload_n 0 128 dX12_next_127 rfl rfl rfl ?_
          refine SF_aload_n 0 129 dX12_next_128 rfl rfl rfl ?_
          refine SF_getI 132 fl_X12_95 dX12_next_129 k_l0.1 rfl ?_
          obtain ⟨v23, g24, q25, h⟩ := bd_some h
          have s26 := w_X12_see (X := X) (Nat.le_refl 0) l0 (gI g19 l0 6) g19 g24 v23 k_l0 q25
          refine SF_callVi 135 mi_X12_see ml_X12_101 dX12_next_132 (Nat.le_trans (by decide) hd) s26 k_l0.1 rfl rfl (Nat.le_of_ble_eq_true rfl) rfl ?_
          have k_l0 := k_l0.ext s26.1
          obtain ⟨v27, g28, q29, h⟩ := bd_some h
          have s30 := w_X12_isDigit (X := X) (Nat.le_refl 0) v23 g24 g28 v27 q29
          refine SF_callSb 138 mi_X12_isDigit ml_X12_115 dX12_next_135 (Nat.le_trans (by decide) hd) s30 rfl rfl (Nat.le_of_ble_eq_true rfl) rfl ?_
          have k_l0 := k_l0.ext s30.1
          refine SF_ifeq 236 141 dX12_next_138 rfl rfl (fun c31 => ?_) (fun c31 => ?_)
          · have h := ite_t c31 h
            refine SF_aload_n 0 237 dX12_next_236 rfl rfl rfl ?_
            refine SF_dup 238 dX12_next_237 rfl rfl ?_
            refine SF_getI 241 fl_X12_98 dX12_next_238 k_l0.1 rfl ?_
            refine SF_iconst (1 : Int32) 242 dX12_next_241 rfl rfl ?_
            refine SF_iadd 243 dX12_next_242 rfl ?_
            refine SF_putI 246 fl_X12_98 dX12_next_243 k_l0.1 (fn_int _) (Or.inl rfl) rfl ?_
            obtain ⟨g32, e33, h⟩ := lg_some h
            rw [← e33]
            have k_l0 := KD.eq e33 k_l0
            refine SF_aload_n 0 247 dX12_next_246 rfl rfl rfl ?_
            refine SF_bipush (25 : Int32) 249 dX12_next_247 rfl rfl ?_
            refine SF_putI 252 fl_X12_105 dX12_next_249 k_l0.1 (fn_int _) (Or.inl rfl) rfl ?_
            obtain ⟨g34, e35, h⟩ := lg_some h
            rw [← e35]
            have k_l0 := KD.eq e35 k_l0
            refine SF_iconst (0 : Int32) 253 dX12_next_252 rfl rfl ?_
            refine SF_istore_n [(1, .int (0 : Int32)), (0, .ref (ad X l0))] 254 dX12_next_253 rfl (by decide) rfl rfl ?_
            refine SF_sub [1, 0] rfl ?_
            exact w_X12_next_254 hd FU l0 (0 : Int32) g34 k_l0 h
          · have h := ite_f c31 h
            refine SF_aload_n 0 142 dX12_next_141 rfl rfl rfl ?_
            refine SF_iconst (0 : Int32) 143 dX12_next_142 rfl rfl ?_
            refine SF_putI 146 fl_X12_118 dX12_next_143 k_l0.1 (fn_int _) (Or.inl rfl) rfl ?_
            obtain ⟨g36, e37, h⟩ := lg_some h
            rw [← e37]
            have k_l0 := KD.eq e37 k_l0
            exact w_X12_next_146 hd FU l0 g36 k_l0 h
        · have h := ite_f c22 h
          exact w_X12_next_89 hd FU l0 g19 k_l0 h
      · have h := ite_f c13 h
        refine SF_aload_n 0 67 dX12_next_66 rfl rfl rfl ?_
        refine SF_bipush (24 : Int32) 69 dX12_next_67 rfl rfl ?_
        refine SF_putI 72 fl_X12_105 dX12_next_69 k_l0.1 (fn_int _) (Or.inl rfl) rfl ?_
        obtain ⟨g38, e39, h⟩ := lg_some h
        rw [← e39]
        have k_l0 := KD.eq e39 k_l0
        refine SF_goto 294 dX12_next_72 rfl ?_
        exact RT_v rfl dX12_next_294 h
    · have h := ite_t c10 h
      exact w_X12_next_34 hd (f_X12_next_8 n) ih l0 g7 k_l0 h

set_option maxRecDepth 20000 in
set_option maxHeartbeats 2000000 in
theorem w_X12_next {X : CX} {d : Nat} (hd : 5 ≤ d) (l0 : Nat) (g g' : G) (rx : Unit) (k_l0 : KD g l0 12) (h : f_X12_next l0 g = some (rx, g')) : Sem X m_X12_next d [.ref (ad X l0)] g none g' := by
  refine Sem_of (lo := [(0, .ref (ad X l0))]) (by decide +kernel) rfl (Nat.le_of_ble_eq_true rfl) ?_
  rw [f_X12_next] at h
  refine SF_aload_n 0 1 dX12_next_0 rfl rfl rfl ?_
  refine SF_aload_n 0 2 dX12_next_1 rfl rfl rfl ?_
  refine SF_getI 5 fl_X12_98 dX12_next_2 k_l0.1 rfl ?_
  refine SF_putI 8 fl_X12_95 dX12_next_5 k_l0.1 (fn_int _) (Or.inl rfl) rfl ?_
  obtain ⟨g1, e2, h⟩ := lg_some h
  rw [← e2]
  have k_l0 := KD.eq e2 k_l0
  exact w_X12_next_8 hd FU l0 g1 k_l0 h

theorem dX12_goesIn_0 : decode cX12_goesIn 0 = .ok (.iload_n 1, 1) := by decide +kernel
theorem dX12_goesIn_1 : decode cX12_goesIn 1 = .ok (.bipush 6, 2) := by decide +kernel
theorem dX12_goesIn_3 : decode cX12_goesIn 3 = .ok (.if_icmp .ne 8, 3) := by decide +kernel
theorem dX12_goesIn_6 : decode cX12_goesIn 6 = .ok (.aload_n 0, 1) := by decide +kernel
theorem dX12_goesIn_7 : decode cX12_goesIn 7 = .ok (.iconst 4, 1) := by decide +kernel
theorem dX12_goesIn_8 : decode cX12_goesIn 8 = .ok (.invokevirtual 135, 3) := by decide +kernel
theorem dX12_goesIn_11 : decode cX12_goesIn 11 = .ok (.aload_n 0, 1) := by decide +kernel
theorem dX12_goesIn_12 : decode cX12_goesIn 12 = .ok (.getfield 123, 3) := by decide +kernel
theorem dX12_goesIn_15 : decode cX12_goesIn 15 = .ok (.ifCond .ne 7, 3) := by decide +kernel
theorem dX12_goesIn_18 : decode cX12_goesIn 18 = .ok (.aload_n 0, 1) := by decide +kernel
theorem dX12_goesIn_19 : decode cX12_goesIn 19 = .ok (.invokevirtual 132, 3) := by decide +kernel
theorem dX12_goesIn_22 : decode cX12_goesIn 22 = .ok (.aload_n 0, 1) := by decide +kernel
theorem dX12_goesIn_23 : decode cX12_goesIn 23 = .ok (.getfield 123, 3) := by decide +kernel
theorem dX12_goesIn_26 : decode cX12_goesIn 26 = .ok (.ifCond .ne 7, 3) := by decide +kernel
theorem dX12_goesIn_29 : decode cX12_goesIn 29 = .ok (.iconst 1, 1) := by decide +kernel
theorem dX12_goesIn_30 : decode cX12_goesIn 30 = .ok (.goto 4, 3) := by decide +kernel
theorem dX12_goesIn_33 : decode cX12_goesIn 33 = .ok (.iconst 0, 1) := by decide +kernel
theorem dX12_goesIn_34 : decode cX12_goesIn 34 = .ok (.ireturn, 1) := by decide +kernel
set_option maxRecDepth 20000 in
set_option maxHeartbeats 2000000 in
theorem w_X12_goesIn_22 {X : CX} {d : Nat} (hd : 6 ≤ d) {g' : G} {rx : Bool} (l0 : Nat) (g : G) (k_l0 : KD g l0 12) (h : f_X12_goesIn_22 l0 g = some (rx, g')) : SemF X m_X12_goesIn d 22 [(0, .ref (ad X l0))] [] g (some (.int (b2i rx))) g' := by
  rw [f_X12_goesIn_22] at h
  refine SF_aload_n 0 23 dX12_goesIn_22 rfl rfl rfl ?_
  refine SF_getI 26 fl_X12_123 dX12_goesIn_23 k_l0.1 rfl ?_
  refine SF_ifne 33 29 dX12_goesIn_26 rfl rfl (fun c1 => ?_) (fun c1 => ?_)
  · have h := ite_f c1 h
    refine SF_iconst (0 : Int32) 34 dX12_goesIn_33 rfl rfl ?_
    exact RT_b rfl rfl dX12_goesIn_34 h
  · have h := ite_t c1 h
    refine SF_iconst (1 : Int32) 30 dX12_goesIn_29 rfl rfl ?_
    refine SF_goto 34 dX12_goesIn_30 rfl ?_
    exact RT_b rfl rfl dX12_goesIn_34 h

set_option maxRecDepth 20000 in
set_option maxHeartbeats 2000000 in
theorem w_X12_goesIn_11 {X : CX} {d : Nat} (hd : 6 ≤ d) {g' : G} {rx : Bool} (l0 : Nat) (g : G) (k_l0 : KD g l0 12) (h : f_X12_goesIn_11 l0 g = some (rx, g')) : SemF X m_X12_goesIn d 11 [(0, .ref (ad X l0))] [] g (some (.int (b2i rx))) g' := by
  rw [f_X12_goesIn_11] at h
  refine SF_aload_n 0 12 dX12_goesIn_11 rfl rfl rfl ?_
  refine SF_getI 15 fl_X12_123 dX12_goesIn_12 k_l0.1 rfl ?_
  refine SF_ifne 22 18 dX12_goesIn_15 rfl rfl (fun c1 => ?_) (fun c1 => ?_)
  · have h := ite_f c1 h
    exact w_X12_goesIn_22 hd l0 g k_l0 h
  · have h := ite_t c1 h
    refine SF_aload_n 0 19 dX12_goesIn_18 rfl rfl rfl ?_
    obtain ⟨v2, g3, q4, h⟩ := bd_some h
    have s5 := w_X12_next (X := X) (Nat.le_refl 5) l0 g g3 v2 k_l0 q4
    refine SF_callVv 22 mi_X12_next ml_X12_132 dX12_goesIn_19 (Nat.le_trans (by decide) hd) s5 k_l0.1 rfl rfl (Nat.le_of_ble_eq_true rfl) rfl ?_
    have k_l0 := k_l0.ext s5.1
    exact w_X12_goesIn_22 hd l0 g3 k_l0 h

set_option maxRecDepth 20000 in
set_option maxHeartbeats 2000000 in
theorem w_X12_goesIn {X : CX} {d : Nat} (hd : 6 ≤ d) (l0 : Nat) (l1 : Int32) (g g' : G) (rx : Bool) (k_l0 : KD g l0 12) (h : f_X12_goesIn l0 l1 g = some (rx, g')) : Sem X m_X12_goesIn d [.ref (ad X l0), .int l1] g (some (.int (b2i rx))) g' := by
  refine Sem_of (lo := [(0, .ref (ad X l0)), (1, .int l1)]) (by decide +kernel) rfl (Nat.le_of_ble_eq_true rfl) ?_
  rw [f_X12_goesIn] at h
  refine SF_iload_n 1 1 dX12_goesIn_0 rfl rfl rfl ?_
  refine SF_bipush (6 : Int32) 3 dX12_goesIn_1 rfl rfl ?_
  refine SF_icne 11 6 dX12_goesIn_3 rfl rfl (fun c1 => ?_) (fun c1 => ?_)
  · have h := ite_f c1 h
    refine SF_sub [0] rfl ?_
    exact w_X12_goesIn_11 hd l0 g k_l0 h
  · have h := ite_t c1 h
    refine SF_aload_n 0 7 dX12_goesIn_6 rfl rfl rfl ?_
    refine SF_iconst (4 : Int32) 8 dX12_goesIn_7 rfl rfl ?_
    obtain ⟨v2, g3, q4, h⟩ := bd_some h
    have s5 := w_X12_fails (X := X) (Nat.le_refl 0) l0 (4 : Int32) g g3 v2 k_l0 q4
    refine SF_callVv 11 mi_X12_fails ml_X12_135 dX12_goesIn_8 (Nat.le_trans (by decide) hd) s5 k_l0.1 rfl rfl (Nat.le_of_ble_eq_true rfl) rfl ?_
    have k_l0 := k_l0.ext s5.1
    refine SF_sub [0] rfl ?_
    exact w_X12_goesIn_11 hd l0 g3 k_l0 h

theorem dX12_codes_0 : decode cX12_codes 0 = .ok (.aload_n 0, 1) := by decide +kernel
theorem dX12_codes_1 : decode cX12_codes 1 = .ok (.getfield 123, 3) := by decide +kernel
theorem dX12_codes_4 : decode cX12_codes 4 = .ok (.ifCond .eq 4, 3) := by decide +kernel
theorem dX12_codes_7 : decode cX12_codes 7 = .ok (.return_, 1) := by decide +kernel
theorem dX12_codes_8 : decode cX12_codes 8 = .ok (.aload_n 0, 1) := by decide +kernel
theorem dX12_codes_9 : decode cX12_codes 9 = .ok (.getfield 24, 3) := by decide +kernel
theorem dX12_codes_12 : decode cX12_codes 12 = .ok (.sipush 615, 3) := by decide +kernel
theorem dX12_codes_15 : decode cX12_codes 15 = .ok (.aload_n 0, 1) := by decide +kernel
theorem dX12_codes_16 : decode cX12_codes 16 = .ok (.getfield 24, 3) := by decide +kernel
theorem dX12_codes_19 : decode cX12_codes 19 = .ok (.sipush 614, 3) := by decide +kernel
theorem dX12_codes_22 : decode cX12_codes 22 = .ok (.iaload, 1) := by decide +kernel
theorem dX12_codes_23 : decode cX12_codes 23 = .ok (.iadd, 1) := by decide +kernel
theorem dX12_codes_24 : decode cX12_codes 24 = .ok (.iload_n 1, 1) := by decide +kernel
theorem dX12_codes_25 : decode cX12_codes 25 = .ok (.iastore, 1) := by decide +kernel
theorem dX12_codes_26 : decode cX12_codes 26 = .ok (.aload_n 0, 1) := by decide +kernel
theorem dX12_codes_27 : decode cX12_codes 27 = .ok (.getfield 24, 3) := by decide +kernel
theorem dX12_codes_30 : decode cX12_codes 30 = .ok (.sipush 614, 3) := by decide +kernel
theorem dX12_codes_33 : decode cX12_codes 33 = .ok (.dup2, 1) := by decide +kernel
theorem dX12_codes_34 : decode cX12_codes 34 = .ok (.iaload, 1) := by decide +kernel
theorem dX12_codes_35 : decode cX12_codes 35 = .ok (.iconst 1, 1) := by decide +kernel
theorem dX12_codes_36 : decode cX12_codes 36 = .ok (.iadd, 1) := by decide +kernel
theorem dX12_codes_37 : decode cX12_codes 37 = .ok (.iastore, 1) := by decide +kernel
theorem dX12_codes_38 : decode cX12_codes 38 = .ok (.return_, 1) := by decide +kernel
set_option maxRecDepth 20000 in
set_option maxHeartbeats 2000000 in
theorem w_X12_codes {X : CX} {d : Nat} (hd : 0 ≤ d) (l0 : Nat) (l1 : Int32) (g g' : G) (rx : Unit) (k_l0 : KD g l0 12) (h : f_X12_codes l0 l1 g = some (rx, g')) : Sem X m_X12_codes d [.ref (ad X l0), .int l1] g none g' := by
  refine Sem_of (lo := [(0, .ref (ad X l0)), (1, .int l1)]) (by decide +kernel) rfl (Nat.le_of_ble_eq_true rfl) ?_
  rw [f_X12_codes] at h
  refine SF_aload_n 0 1 dX12_codes_0 rfl rfl rfl ?_
  refine SF_getI 4 fl_X12_123 dX12_codes_1 k_l0.1 rfl ?_
  refine SF_ifeq 8 7 dX12_codes_4 rfl rfl (fun c1 => ?_) (fun c1 => ?_)
  · have h := ite_t c1 h
    refine SF_aload_n 0 9 dX12_codes_8 rfl rfl rfl ?_
    obtain ⟨b2, r3, h⟩ := dr_some h
    refine SF_getR 12 fl_X12_24 dX12_codes_9 k_l0.1 r3 rfl ?_
    refine SF_sipush (615 : Int32) 15 dX12_codes_12 rfl rfl ?_
    refine SF_aload_n 0 16 dX12_codes_15 rfl rfl rfl ?_
    refine SF_getR 19 fl_X12_24 dX12_codes_16 k_l0.1 r3 rfl ?_
    refine SF_sipush (614 : Int32) 22 dX12_codes_19 rfl rfl ?_
    obtain ⟨k4, h⟩ := gdK_some h
    obtain ⟨i5, h⟩ := gdI_some h
    refine SF_iald 23 dX12_codes_22 k4.1 i5 rfl ?_
    refine SF_iadd 24 dX12_codes_23 rfl ?_
    refine SF_iload_n 1 25 dX12_codes_24 rfl rfl rfl ?_
    obtain ⟨i6, h⟩ := gdI_some h
    refine SF_iast 26 dX12_codes_25 k4.1 i6 rfl ?_
    obtain ⟨g7, e8, h⟩ := lg_some h
    rw [← e8]
    have k_l0 := KD.eq e8 k_l0
    have k4 := KD.eq e8 k4
    have r3 := gR_eq e8 r3
    have i5 := vp_eq e8 i5
    have i6 := vp_eq e8 i6
    refine SF_aload_n 0 27 dX12_codes_26 rfl rfl rfl ?_
    refine SF_getR 30 fl_X12_24 dX12_codes_27 k_l0.1 r3 rfl ?_
    refine SF_sipush (614 : Int32) 33 dX12_codes_30 rfl rfl ?_
    refine SF_dup2_11 34 dX12_codes_33 rfl rfl rfl ?_
    refine SF_iald 35 dX12_codes_34 k4.1 i5 rfl ?_
    refine SF_iconst (1 : Int32) 36 dX12_codes_35 rfl rfl ?_
    refine SF_iadd 37 dX12_codes_36 rfl ?_
    refine SF_iast 38 dX12_codes_37 k4.1 i5 rfl ?_
    obtain ⟨g9, e10, h⟩ := lg_some h
    rw [← e10]
    have k_l0 := KD.eq e10 k_l0
    have k4 := KD.eq e10 k4
    have r3 := gR_eq e10 r3
    have i5 := vp_eq e10 i5
    have i6 := vp_eq e10 i6
    exact RT_v rfl dX12_codes_38 h
  · have h := ite_f c1 h
    exact RT_v rfl dX12_codes_7 h

theorem dX12_eats_0 : decode cX12_eats 0 = .ok (.aload_n 0, 1) := by decide +kernel
theorem dX12_eats_1 : decode cX12_eats 1 = .ok (.iload_n 1, 1) := by decide +kernel
theorem dX12_eats_2 : decode cX12_eats 2 = .ok (.invokevirtual 129, 3) := by decide +kernel
theorem dX12_eats_5 : decode cX12_eats 5 = .ok (.ifCond .ne 5, 3) := by decide +kernel
theorem dX12_eats_8 : decode cX12_eats 8 = .ok (.iconst 0, 1) := by decide +kernel
theorem dX12_eats_9 : decode cX12_eats 9 = .ok (.ireturn, 1) := by decide +kernel
theorem dX12_eats_10 : decode cX12_eats 10 = .ok (.aload_n 0, 1) := by decide +kernel
theorem dX12_eats_11 : decode cX12_eats 11 = .ok (.invokevirtual 132, 3) := by decide +kernel
theorem dX12_eats_14 : decode cX12_eats 14 = .ok (.iconst 1, 1) := by decide +kernel
theorem dX12_eats_15 : decode cX12_eats 15 = .ok (.ireturn, 1) := by decide +kernel
set_option maxRecDepth 20000 in
set_option maxHeartbeats 2000000 in
theorem w_X12_eats {X : CX} {d : Nat} (hd : 6 ≤ d) (l0 : Nat) (l1 : Int32) (g g' : G) (rx : Bool) (k_l0 : KD g l0 12) (h : f_X12_eats l0 l1 g = some (rx, g')) : Sem X m_X12_eats d [.ref (ad X l0), .int l1] g (some (.int (b2i rx))) g' := by
  refine Sem_of (lo := [(0, .ref (ad X l0)), (1, .int l1)]) (by decide +kernel) rfl (Nat.le_of_ble_eq_true rfl) ?_
  rw [f_X12_eats] at h
  refine SF_aload_n 0 1 dX12_eats_0 rfl rfl rfl ?_
  refine SF_iload_n 1 2 dX12_eats_1 rfl rfl rfl ?_
  obtain ⟨v1, g2, q3, h⟩ := bd_some h
  have s4 := w_X12_is (X := X) (Nat.le_refl 0) l0 l1 g g2 v1 k_l0 q3
  refine SF_callVb 5 mi_X12_is ml_X12_129 dX12_eats_2 (Nat.le_trans (by decide) hd) s4 k_l0.1 rfl rfl (Nat.le_of_ble_eq_true rfl) rfl ?_
  have k_l0 := k_l0.ext s4.1
  refine SF_ifne 10 8 dX12_eats_5 rfl rfl (fun c5 => ?_) (fun c5 => ?_)
  · have h := ite_f c5 h
    refine SF_aload_n 0 11 dX12_eats_10 rfl rfl rfl ?_
    obtain ⟨v6, g7, q8, h⟩ := bd_some h
    have s9 := w_X12_next (X := X) (Nat.le_refl 5) l0 g2 g7 v6 k_l0 q8
    refine SF_callVv 14 mi_X12_next ml_X12_132 dX12_eats_11 (Nat.le_trans (by decide) hd) s9 k_l0.1 rfl rfl (Nat.le_of_ble_eq_true rfl) rfl ?_
    have k_l0 := k_l0.ext s9.1
    refine SF_iconst (1 : Int32) 15 dX12_eats_14 rfl rfl ?_
    exact RT_b rfl rfl dX12_eats_15 h
  · have h := ite_t c5 h
    refine SF_iconst (0 : Int32) 9 dX12_eats_8 rfl rfl ?_
    exact RT_b rfl rfl dX12_eats_9 h

theorem dX12_wordOf_0 : decode cX12_wordOf 0 = .ok (.iload_n 1, 1) := by decide +kernel
theorem dX12_wordOf_1 : decode cX12_wordOf 1 = .ok (.tableswitch 77 1 11 #[71, 59, 77, 63, 77, 77, 61, 65, 67, 69, 74], 59) := by decide +kernel
theorem dX12_wordOf_60 : decode cX12_wordOf 60 = .ok (.iconst 0, 1) := by decide +kernel
theorem dX12_wordOf_61 : decode cX12_wordOf 61 = .ok (.ireturn, 1) := by decide +kernel
theorem dX12_wordOf_62 : decode cX12_wordOf 62 = .ok (.iconst 1, 1) := by decide +kernel
theorem dX12_wordOf_63 : decode cX12_wordOf 63 = .ok (.ireturn, 1) := by decide +kernel
theorem dX12_wordOf_64 : decode cX12_wordOf 64 = .ok (.iconst 2, 1) := by decide +kernel
theorem dX12_wordOf_65 : decode cX12_wordOf 65 = .ok (.ireturn, 1) := by decide +kernel
theorem dX12_wordOf_66 : decode cX12_wordOf 66 = .ok (.iconst 3, 1) := by decide +kernel
theorem dX12_wordOf_67 : decode cX12_wordOf 67 = .ok (.ireturn, 1) := by decide +kernel
theorem dX12_wordOf_68 : decode cX12_wordOf 68 = .ok (.iconst 4, 1) := by decide +kernel
theorem dX12_wordOf_69 : decode cX12_wordOf 69 = .ok (.ireturn, 1) := by decide +kernel
theorem dX12_wordOf_70 : decode cX12_wordOf 70 = .ok (.iconst 5, 1) := by decide +kernel
theorem dX12_wordOf_71 : decode cX12_wordOf 71 = .ok (.ireturn, 1) := by decide +kernel
theorem dX12_wordOf_72 : decode cX12_wordOf 72 = .ok (.bipush 6, 2) := by decide +kernel
theorem dX12_wordOf_74 : decode cX12_wordOf 74 = .ok (.ireturn, 1) := by decide +kernel
theorem dX12_wordOf_75 : decode cX12_wordOf 75 = .ok (.bipush 7, 2) := by decide +kernel
theorem dX12_wordOf_77 : decode cX12_wordOf 77 = .ok (.ireturn, 1) := by decide +kernel
theorem dX12_wordOf_78 : decode cX12_wordOf 78 = .ok (.iconst (-1), 1) := by decide +kernel
theorem dX12_wordOf_79 : decode cX12_wordOf 79 = .ok (.ireturn, 1) := by decide +kernel
set_option maxRecDepth 20000 in
set_option maxHeartbeats 2000000 in
theorem w_X12_wordOf {X : CX} {d : Nat} (hd : 0 ≤ d) (l0 : Nat) (l1 : Int32) (g g' : G) (rx : Int32) (k_l0 : KD g l0 12) (h : f_X12_wordOf l0 l1 g = some (rx, g')) : Sem X m_X12_wordOf d [.ref (ad X l0), .int l1] g (some (.int rx)) g' := by
  refine Sem_of (lo := [(0, .ref (ad X l0)), (1, .int l1)]) (by decide +kernel) rfl (Nat.le_of_ble_eq_true rfl) ?_
  rw [f_X12_wordOf] at h
  refine SF_iload_n 1 1 dX12_wordOf_0 rfl rfl rfl ?_
  by_cases c1 : l1.toInt < 1
  · have h := ite_t c1 h
    refine SF_tabOut 78 dX12_wordOf_1 (Or.inl c1) rfl ?_
    refine SF_iconst (-1 : Int32) 79 dX12_wordOf_78 rfl rfl ?_
    exact RT_i rfl dX12_wordOf_79 h
  · have h := ite_f c1 h
    generalize m2 : (l1.toInt - 1).toNat = mm at h
    match mm, m2, h with
    | 0, m2, h =>
      refine SF_tabIn 72 dX12_wordOf_1 c1 (by omega) (by rw [m2]; rfl) rfl ?_
      refine SF_bipush (6 : Int32) 74 dX12_wordOf_72 rfl rfl ?_
      exact RT_i rfl dX12_wordOf_74 h
    | 1, m2, h =>
      refine SF_tabIn 60 dX12_wordOf_1 c1 (by omega) (by rw [m2]; rfl) rfl ?_
      refine SF_iconst (0 : Int32) 61 dX12_wordOf_60 rfl rfl ?_
      exact RT_i rfl dX12_wordOf_61 h
    | 2, m2, h =>
      refine SF_tabIn 78 dX12_wordOf_1 c1 (by omega) (by rw [m2]; rfl) rfl ?_
      refine SF_iconst (-1 : Int32) 79 dX12_wordOf_78 rfl rfl ?_
      exact RT_i rfl dX12_wordOf_79 h
    | 3, m2, h =>
      refine SF_tabIn 64 dX12_wordOf_1 c1 (by omega) (by rw [m2]; rfl) rfl ?_
      refine SF_iconst (2 : Int32) 65 dX12_wordOf_64 rfl rfl ?_
      exact RT_i rfl dX12_wordOf_65 h
    | 4, m2, h =>
      refine SF_tabIn 78 dX12_wordOf_1 c1 (by omega) (by rw [m2]; rfl) rfl ?_
      refine SF_iconst (-1 : Int32) 79 dX12_wordOf_78 rfl rfl ?_
      exact RT_i rfl dX12_wordOf_79 h
    | 5, m2, h =>
      refine SF_tabIn 78 dX12_wordOf_1 c1 (by omega) (by rw [m2]; rfl) rfl ?_
      refine SF_iconst (-1 : Int32) 79 dX12_wordOf_78 rfl rfl ?_
      exact RT_i rfl dX12_wordOf_79 h
    | 6, m2, h =>
      refine SF_tabIn 62 dX12_wordOf_1 c1 (by omega) (by rw [m2]; rfl) rfl ?_
      refine SF_iconst (1 : Int32) 63 dX12_wordOf_62 rfl rfl ?_
      exact RT_i rfl dX12_wordOf_63 h
    | 7, m2, h =>
      refine SF_tabIn 66 dX12_wordOf_1 c1 (by omega) (by rw [m2]; rfl) rfl ?_
      refine SF_iconst (3 : Int32) 67 dX12_wordOf_66 rfl rfl ?_
      exact RT_i rfl dX12_wordOf_67 h
    | 8, m2, h =>
      refine SF_tabIn 68 dX12_wordOf_1 c1 (by omega) (by rw [m2]; rfl) rfl ?_
      refine SF_iconst (4 : Int32) 69 dX12_wordOf_68 rfl rfl ?_
      exact RT_i rfl dX12_wordOf_69 h
    | 9, m2, h =>
      refine SF_tabIn 70 dX12_wordOf_1 c1 (by omega) (by rw [m2]; rfl) rfl ?_
      refine SF_iconst (5 : Int32) 71 dX12_wordOf_70 rfl rfl ?_
      exact RT_i rfl dX12_wordOf_71 h
    | 10, m2, h =>
      refine SF_tabIn 75 dX12_wordOf_1 c1 (by omega) (by rw [m2]; rfl) rfl ?_
      refine SF_bipush (7 : Int32) 77 dX12_wordOf_75 rfl rfl ?_
      exact RT_i rfl dX12_wordOf_77 h
    | mm + 11, m2, h =>
      refine SF_tabOut 78 dX12_wordOf_1 (Or.inr (by omega)) rfl ?_
      refine SF_iconst (-1 : Int32) 79 dX12_wordOf_78 rfl rfl ?_
      exact RT_i rfl dX12_wordOf_79 h

theorem dX12_readAtom_0 : decode cX12_readAtom 0 = .ok (.aload_n 0, 1) := by decide +kernel
theorem dX12_readAtom_1 : decode cX12_readAtom 1 = .ok (.bipush 23, 2) := by decide +kernel
theorem dX12_readAtom_3 : decode cX12_readAtom 3 = .ok (.invokevirtual 129, 3) := by decide +kernel
theorem dX12_readAtom_6 : decode cX12_readAtom 6 = .ok (.ifCond .eq 18, 3) := by decide +kernel
theorem dX12_readAtom_9 : decode cX12_readAtom 9 = .ok (.aload_n 0, 1) := by decide +kernel
theorem dX12_readAtom_10 : decode cX12_readAtom 10 = .ok (.aload_n 0, 1) := by decide +kernel
theorem dX12_readAtom_11 : decode cX12_readAtom 11 = .ok (.getfield 118, 3) := by decide +kernel
theorem dX12_readAtom_14 : decode cX12_readAtom 14 = .ok (.invokevirtual 143, 3) := by decide +kernel
theorem dX12_readAtom_17 : decode cX12_readAtom 17 = .ok (.aload_n 0, 1) := by decide +kernel
theorem dX12_readAtom_18 : decode cX12_readAtom 18 = .ok (.invokevirtual 132, 3) := by decide +kernel
theorem dX12_readAtom_21 : decode cX12_readAtom 21 = .ok (.goto 92, 3) := by decide +kernel
theorem dX12_readAtom_24 : decode cX12_readAtom 24 = .ok (.aload_n 0, 1) := by decide +kernel
theorem dX12_readAtom_25 : decode cX12_readAtom 25 = .ok (.getfield 123, 3) := by decide +kernel
theorem dX12_readAtom_28 : decode cX12_readAtom 28 = .ok (.ifCond .ne 38, 3) := by decide +kernel
theorem dX12_readAtom_31 : decode cX12_readAtom 31 = .ok (.aload_n 0, 1) := by decide +kernel
theorem dX12_readAtom_32 : decode cX12_readAtom 32 = .ok (.aload_n 0, 1) := by decide +kernel
theorem dX12_readAtom_33 : decode cX12_readAtom 33 = .ok (.getfield 105, 3) := by decide +kernel
theorem dX12_readAtom_36 : decode cX12_readAtom 36 = .ok (.invokevirtual 146, 3) := by decide +kernel
theorem dX12_readAtom_39 : decode cX12_readAtom 39 = .ok (.iconst (-1), 1) := by decide +kernel
theorem dX12_readAtom_40 : decode cX12_readAtom 40 = .ok (.if_icmp .eq 26, 3) := by decide +kernel
theorem dX12_readAtom_43 : decode cX12_readAtom 43 = .ok (.aload_n 0, 1) := by decide +kernel
theorem dX12_readAtom_44 : decode cX12_readAtom 44 = .ok (.sipush 1000, 3) := by decide +kernel
theorem dX12_readAtom_47 : decode cX12_readAtom 47 = .ok (.aload_n 0, 1) := by decide +kernel
theorem dX12_readAtom_48 : decode cX12_readAtom 48 = .ok (.aload_n 0, 1) := by decide +kernel
theorem dX12_readAtom_49 : decode cX12_readAtom 49 = .ok (.getfield 105, 3) := by decide +kernel
theorem dX12_readAtom_52 : decode cX12_readAtom 52 = .ok (.invokevirtual 146, 3) := by decide +kernel
theorem dX12_readAtom_55 : decode cX12_readAtom 55 = .ok (.iadd, 1) := by decide +kernel
theorem dX12_readAtom_56 : decode cX12_readAtom 56 = .ok (.invokevirtual 143, 3) := by decide +kernel
theorem dX12_readAtom_59 : decode cX12_readAtom 59 = .ok (.aload_n 0, 1) := by decide +kernel
theorem dX12_readAtom_60 : decode cX12_readAtom 60 = .ok (.invokevirtual 132, 3) := by decide +kernel
theorem dX12_readAtom_63 : decode cX12_readAtom 63 = .ok (.goto 50, 3) := by decide +kernel
theorem dX12_readAtom_66 : decode cX12_readAtom 66 = .ok (.aload_n 0, 1) := by decide +kernel
theorem dX12_readAtom_67 : decode cX12_readAtom 67 = .ok (.bipush 35, 2) := by decide +kernel
theorem dX12_readAtom_69 : decode cX12_readAtom 69 = .ok (.invokevirtual 129, 3) := by decide +kernel
theorem dX12_readAtom_72 : decode cX12_readAtom 72 = .ok (.ifCond .eq 36, 3) := by decide +kernel
theorem dX12_readAtom_75 : decode cX12_readAtom 75 = .ok (.aload_n 0, 1) := by decide +kernel
theorem dX12_readAtom_76 : decode cX12_readAtom 76 = .ok (.iload_n 1, 1) := by decide +kernel
theorem dX12_readAtom_77 : decode cX12_readAtom 77 = .ok (.invokevirtual 149, 3) := by decide +kernel
theorem dX12_readAtom_80 : decode cX12_readAtom 80 = .ok (.ifCond .ne 4, 3) := by decide +kernel
theorem dX12_readAtom_83 : decode cX12_readAtom 83 = .ok (.return_, 1) := by decide +kernel
theorem dX12_readAtom_84 : decode cX12_readAtom 84 = .ok (.aload_n 0, 1) := by decide +kernel
theorem dX12_readAtom_85 : decode cX12_readAtom 85 = .ok (.iload_n 1, 1) := by decide +kernel
theorem dX12_readAtom_86 : decode cX12_readAtom 86 = .ok (.iconst 1, 1) := by decide +kernel
theorem dX12_readAtom_87 : decode cX12_readAtom 87 = .ok (.iadd, 1) := by decide +kernel
theorem dX12_readAtom_88 : decode cX12_readAtom 88 = .ok (.invokevirtual 152, 3) := by decide +kernel
theorem dX12_readAtom_91 : decode cX12_readAtom 91 = .ok (.aload_n 0, 1) := by decide +kernel
theorem dX12_readAtom_92 : decode cX12_readAtom 92 = .ok (.bipush 36, 2) := by decide +kernel
theorem dX12_readAtom_94 : decode cX12_readAtom 94 = .ok (.invokevirtual 155, 3) := by decide +kernel
theorem dX12_readAtom_97 : decode cX12_readAtom 97 = .ok (.ifCond .ne 16, 3) := by decide +kernel
theorem dX12_readAtom_100 : decode cX12_readAtom 100 = .ok (.aload_n 0, 1) := by decide +kernel
theorem dX12_readAtom_101 : decode cX12_readAtom 101 = .ok (.iconst 2, 1) := by decide +kernel
theorem dX12_readAtom_102 : decode cX12_readAtom 102 = .ok (.invokevirtual 135, 3) := by decide +kernel
theorem dX12_readAtom_105 : decode cX12_readAtom 105 = .ok (.goto 8, 3) := by decide +kernel
theorem dX12_readAtom_108 : decode cX12_readAtom 108 = .ok (.aload_n 0, 1) := by decide +kernel
theorem dX12_readAtom_109 : decode cX12_readAtom 109 = .ok (.iconst 2, 1) := by decide +kernel
theorem dX12_readAtom_110 : decode cX12_readAtom 110 = .ok (.invokevirtual 135, 3) := by decide +kernel
theorem dX12_readAtom_113 : decode cX12_readAtom 113 = .ok (.return_, 1) := by decide +kernel
set_option maxRecDepth 20000 in
set_option maxHeartbeats 2000000 in
theorem w_X12_readAtom_66 {X : CX} {d : Nat} {dh : Nat} (hd : 7 ≤ d) (hdh : dh + 1 ≤ d) (hS : Nat → Int32 → G → Option (Unit × G)) (hhS : ∀ (a0 : Nat) (a1 : Int32) (g g1 : G) (rx : Unit), KD g a0 12 → hS a0 a1 g = some (rx, g1) → Sem X m_X12_readSum dh [.ref (ad X a0), .int a1] g none g1) {g' : G} {rx : Unit} (l0 : Nat) (l1 : Int32) (g : G) (k_l0 : KD g l0 12) (h : f_X12_readAtom_66 hS l0 l1 g = some (rx, g')) : SemF X m_X12_readAtom d 66 [(0, .ref (ad X l0)), (1, .int l1)] [] g none g' := by
  rw [f_X12_readAtom_66] at h
  refine SF_aload_n 0 67 dX12_readAtom_66 rfl rfl rfl ?_
  refine SF_bipush (35 : Int32) 69 dX12_readAtom_67 rfl rfl ?_
  obtain ⟨v1, g2, q3, h⟩ := bd_some h
  have s4 := w_X12_is (X := X) (Nat.le_refl 0) l0 (35 : Int32) g g2 v1 k_l0 q3
  refine SF_callVb 72 mi_X12_is ml_X12_129 dX12_readAtom_69 (Nat.le_trans (by decide) hd) s4 k_l0.1 rfl rfl (Nat.le_of_ble_eq_true rfl) rfl ?_
  have k_l0 := k_l0.ext s4.1
  refine SF_ifeq 108 75 dX12_readAtom_72 rfl rfl (fun c5 => ?_) (fun c5 => ?_)
  · have h := ite_t c5 h
    refine SF_aload_n 0 109 dX12_readAtom_108 rfl rfl rfl ?_
    refine SF_iconst (2 : Int32) 110 dX12_readAtom_109 rfl rfl ?_
    obtain ⟨v6, g7, q8, h⟩ := bd_some h
    have s9 := w_X12_fails (X := X) (Nat.le_refl 0) l0 (2 : Int32) g2 g7 v6 k_l0 q8
    refine SF_callVv 113 mi_X12_fails ml_X12_135 dX12_readAtom_110 (Nat.le_trans (by decide) hd) s9 k_l0.1 rfl rfl (Nat.le_of_ble_eq_true rfl) rfl ?_
    have k_l0 := k_l0.ext s9.1
    exact RT_v rfl dX12_readAtom_113 h
  · have h := ite_f c5 h
    refine SF_aload_n 0 76 dX12_readAtom_75 rfl rfl rfl ?_
    refine SF_iload_n 1 77 dX12_readAtom_76 rfl rfl rfl ?_
    obtain ⟨v10, g11, q12, h⟩ := bd_some h
    have s13 := w_X12_goesIn (X := X) (Nat.le_refl 6) l0 l1 g2 g11 v10 k_l0 q12
    refine SF_callVb 80 mi_X12_goesIn ml_X12_149 dX12_readAtom_77 (Nat.le_trans (by decide) hd) s13 k_l0.1 rfl rfl (Nat.le_of_ble_eq_true rfl) rfl ?_
    have k_l0 := k_l0.ext s13.1
    refine SF_ifne 84 83 dX12_readAtom_80 rfl rfl (fun c14 => ?_) (fun c14 => ?_)
    · have h := ite_f c14 h
      refine SF_aload_n 0 85 dX12_readAtom_84 rfl rfl rfl ?_
      refine SF_iload_n 1 86 dX12_readAtom_85 rfl rfl rfl ?_
      refine SF_iconst (1 : Int32) 87 dX12_readAtom_86 rfl rfl ?_
      refine SF_iadd 88 dX12_readAtom_87 rfl ?_
      obtain ⟨v15, g16, q17, h⟩ := bd_some h
      have s18 := hhS l0 (l1 + (1 : Int32)) g11 g16 v15 k_l0 q17
      refine SF_callVv 91 mi_X12_readSum ml_X12_152 dX12_readAtom_88 (by omega) s18 k_l0.1 rfl rfl (Nat.le_of_ble_eq_true rfl) rfl ?_
      have k_l0 := k_l0.ext s18.1
      refine SF_aload_n 0 92 dX12_readAtom_91 rfl rfl rfl ?_
      refine SF_bipush (36 : Int32) 94 dX12_readAtom_92 rfl rfl ?_
      obtain ⟨v19, g20, q21, h⟩ := bd_some h
      have s22 := w_X12_eats (X := X) (Nat.le_refl 6) l0 (36 : Int32) g16 g20 v19 k_l0 q21
      refine SF_callVb 97 mi_X12_eats ml_X12_155 dX12_readAtom_94 (Nat.le_trans (by decide) hd) s22 k_l0.1 rfl rfl (Nat.le_of_ble_eq_true rfl) rfl ?_
      have k_l0 := k_l0.ext s22.1
      refine SF_ifne 113 100 dX12_readAtom_97 rfl rfl (fun c23 => ?_) (fun c23 => ?_)
      · have h := ite_f c23 h
        exact RT_v rfl dX12_readAtom_113 h
      · have h := ite_t c23 h
        refine SF_aload_n 0 101 dX12_readAtom_100 rfl rfl rfl ?_
        refine SF_iconst (2 : Int32) 102 dX12_readAtom_101 rfl rfl ?_
        obtain ⟨v24, g25, q26, h⟩ := bd_some h
        have s27 := w_X12_fails (X := X) (Nat.le_refl 0) l0 (2 : Int32) g20 g25 v24 k_l0 q26
        refine SF_callVv 105 mi_X12_fails ml_X12_135 dX12_readAtom_102 (Nat.le_trans (by decide) hd) s27 k_l0.1 rfl rfl (Nat.le_of_ble_eq_true rfl) rfl ?_
        have k_l0 := k_l0.ext s27.1
        refine SF_goto 113 dX12_readAtom_105 rfl ?_
        exact RT_v rfl dX12_readAtom_113 h
    · have h := ite_t c14 h
      exact RT_v rfl dX12_readAtom_83 h

set_option maxRecDepth 20000 in
set_option maxHeartbeats 2000000 in
theorem w_X12_readAtom {X : CX} {d : Nat} {dh : Nat} (hd : 7 ≤ d) (hdh : dh + 1 ≤ d) (hS : Nat → Int32 → G → Option (Unit × G)) (hhS : ∀ (a0 : Nat) (a1 : Int32) (g g1 : G) (rx : Unit), KD g a0 12 → hS a0 a1 g = some (rx, g1) → Sem X m_X12_readSum dh [.ref (ad X a0), .int a1] g none g1) (l0 : Nat) (l1 : Int32) (g g' : G) (rx : Unit) (k_l0 : KD g l0 12) (h : f_X12_readAtom hS l0 l1 g = some (rx, g')) : Sem X m_X12_readAtom d [.ref (ad X l0), .int l1] g none g' := by
  refine Sem_of (lo := [(0, .ref (ad X l0)), (1, .int l1)]) (by decide +kernel) rfl (Nat.le_of_ble_eq_true rfl) ?_
  rw [f_X12_readAtom] at h
  refine SF_aload_n 0 1 dX12_readAtom_0 rfl rfl rfl ?_
  refine SF_bipush (23 : Int32) 3 dX12_readAtom_1 rfl rfl ?_
  obtain ⟨v1, g2, q3, h⟩ := bd_some h
  have s4 := w_X12_is (X := X) (Nat.le_refl 0) l0 (23 : Int32) g g2 v1 k_l0 q3
  refine SF_callVb 6 mi_X12_is ml_X12_129 dX12_readAtom_3 (Nat.le_trans (by decide) hd) s4 k_l0.1 rfl rfl (Nat.le_of_ble_eq_true rfl) rfl ?_
  have k_l0 := k_l0.ext s4.1
  refine SF_ifeq 24 9 dX12_readAtom_6 rfl rfl (fun c5 => ?_) (fun c5 => ?_)
  · have h := ite_t c5 h
    refine SF_aload_n 0 25 dX12_readAtom_24 rfl rfl rfl ?_
    refine SF_getI 28 fl_X12_123 dX12_readAtom_25 k_l0.1 rfl ?_
    refine SF_ifne 66 31 dX12_readAtom_28 rfl rfl (fun c6 => ?_) (fun c6 => ?_)
    · have h := ite_f c6 h
      exact w_X12_readAtom_66 hd hdh hS hhS l0 l1 g2 k_l0 h
    · have h := ite_t c6 h
      refine SF_aload_n 0 32 dX12_readAtom_31 rfl rfl rfl ?_
      refine SF_aload_n 0 33 dX12_readAtom_32 rfl rfl rfl ?_
      refine SF_getI 36 fl_X12_105 dX12_readAtom_33 k_l0.1 rfl ?_
      obtain ⟨v7, g8, q9, h⟩ := bd_some h
      have s10 := w_X12_wordOf (X := X) (Nat.le_refl 0) l0 (gI g2 l0 9) g2 g8 v7 k_l0 q9
      refine SF_callVi 39 mi_X12_wordOf ml_X12_146 dX12_readAtom_36 (Nat.le_trans (by decide) hd) s10 k_l0.1 rfl rfl (Nat.le_of_ble_eq_true rfl) rfl ?_
      have k_l0 := k_l0.ext s10.1
      refine SF_iconst (-1 : Int32) 40 dX12_readAtom_39 rfl rfl ?_
      refine SF_iceq 66 43 dX12_readAtom_40 rfl rfl (fun c11 => ?_) (fun c11 => ?_)
      · have h := ite_t c11 h
        exact w_X12_readAtom_66 hd hdh hS hhS l0 l1 g8 k_l0 h
      · have h := ite_f c11 h
        refine SF_aload_n 0 44 dX12_readAtom_43 rfl rfl rfl ?_
        refine SF_sipush (1000 : Int32) 47 dX12_readAtom_44 rfl rfl ?_
        refine SF_aload_n 0 48 dX12_readAtom_47 rfl rfl rfl ?_
        refine SF_aload_n 0 49 dX12_readAtom_48 rfl rfl rfl ?_
        refine SF_getI 52 fl_X12_105 dX12_readAtom_49 k_l0.1 rfl ?_
        obtain ⟨v12, g13, q14, h⟩ := bd_some h
        have s15 := w_X12_wordOf (X := X) (Nat.le_refl 0) l0 (gI g8 l0 9) g8 g13 v12 k_l0 q14
        refine SF_callVi 55 mi_X12_wordOf ml_X12_146 dX12_readAtom_52 (Nat.le_trans (by decide) hd) s15 k_l0.1 rfl rfl (Nat.le_of_ble_eq_true rfl) rfl ?_
        have k_l0 := k_l0.ext s15.1
        refine SF_iadd 56 dX12_readAtom_55 rfl ?_
        obtain ⟨v16, g17, q18, h⟩ := bd_some h
        have s19 := w_X12_codes (X := X) (Nat.le_refl 0) l0 ((1000 : Int32) + v12) g13 g17 v16 k_l0 q18
        refine SF_callVv 59 mi_X12_codes ml_X12_143 dX12_readAtom_56 (Nat.le_trans (by decide) hd) s19 k_l0.1 rfl rfl (Nat.le_of_ble_eq_true rfl) rfl ?_
        have k_l0 := k_l0.ext s19.1
        refine SF_aload_n 0 60 dX12_readAtom_59 rfl rfl rfl ?_
        obtain ⟨v20, g21, q22, h⟩ := bd_some h
        have s23 := w_X12_next (X := X) (Nat.le_refl 5) l0 g17 g21 v20 k_l0 q22
        refine SF_callVv 63 mi_X12_next ml_X12_132 dX12_readAtom_60 (Nat.le_trans (by decide) hd) s23 k_l0.1 rfl rfl (Nat.le_of_ble_eq_true rfl) rfl ?_
        have k_l0 := k_l0.ext s23.1
        refine SF_goto 113 dX12_readAtom_63 rfl ?_
        exact RT_v rfl dX12_readAtom_113 h
  · have h := ite_f c5 h
    refine SF_aload_n 0 10 dX12_readAtom_9 rfl rfl rfl ?_
    refine SF_aload_n 0 11 dX12_readAtom_10 rfl rfl rfl ?_
    refine SF_getI 14 fl_X12_118 dX12_readAtom_11 k_l0.1 rfl ?_
    obtain ⟨v24, g25, q26, h⟩ := bd_some h
    have s27 := w_X12_codes (X := X) (Nat.le_refl 0) l0 (gI g2 l0 10) g2 g25 v24 k_l0 q26
    refine SF_callVv 17 mi_X12_codes ml_X12_143 dX12_readAtom_14 (Nat.le_trans (by decide) hd) s27 k_l0.1 rfl rfl (Nat.le_of_ble_eq_true rfl) rfl ?_
    have k_l0 := k_l0.ext s27.1
    refine SF_aload_n 0 18 dX12_readAtom_17 rfl rfl rfl ?_
    obtain ⟨v28, g29, q30, h⟩ := bd_some h
    have s31 := w_X12_next (X := X) (Nat.le_refl 5) l0 g25 g29 v28 k_l0 q30
    refine SF_callVv 21 mi_X12_next ml_X12_132 dX12_readAtom_18 (Nat.le_trans (by decide) hd) s31 k_l0.1 rfl rfl (Nat.le_of_ble_eq_true rfl) rfl ?_
    have k_l0 := k_l0.ext s31.1
    refine SF_goto 113 dX12_readAtom_21 rfl ?_
    exact RT_v rfl dX12_readAtom_113 h

theorem dX12_readTerm_0 : decode cX12_readTerm 0 = .ok (.aload_n 0, 1) := by decide +kernel
theorem dX12_readTerm_1 : decode cX12_readTerm 1 = .ok (.iload_n 1, 1) := by decide +kernel
theorem dX12_readTerm_2 : decode cX12_readTerm 2 = .ok (.invokevirtual 158, 3) := by decide +kernel
theorem dX12_readTerm_5 : decode cX12_readTerm 5 = .ok (.aload_n 0, 1) := by decide +kernel
theorem dX12_readTerm_6 : decode cX12_readTerm 6 = .ok (.bipush 34, 2) := by decide +kernel
theorem dX12_readTerm_8 : decode cX12_readTerm 8 = .ok (.invokevirtual 155, 3) := by decide +kernel
theorem dX12_readTerm_11 : decode cX12_readTerm 11 = .ok (.ifCond .eq 18, 3) := by decide +kernel
theorem dX12_readTerm_14 : decode cX12_readTerm 14 = .ok (.aload_n 0, 1) := by decide +kernel
theorem dX12_readTerm_15 : decode cX12_readTerm 15 = .ok (.iload_n 1, 1) := by decide +kernel
theorem dX12_readTerm_16 : decode cX12_readTerm 16 = .ok (.invokevirtual 158, 3) := by decide +kernel
theorem dX12_readTerm_19 : decode cX12_readTerm 19 = .ok (.aload_n 0, 1) := by decide +kernel
theorem dX12_readTerm_20 : decode cX12_readTerm 20 = .ok (.sipush 3002, 3) := by decide +kernel
theorem dX12_readTerm_23 : decode cX12_readTerm 23 = .ok (.invokevirtual 143, 3) := by decide +kernel
theorem dX12_readTerm_26 : decode cX12_readTerm 26 = .ok (.goto (-21), 3) := by decide +kernel
theorem dX12_readTerm_29 : decode cX12_readTerm 29 = .ok (.return_, 1) := by decide +kernel
set_option maxRecDepth 20000 in
set_option maxHeartbeats 2000000 in
theorem w_X12_readTerm_5 {X : CX} {d : Nat} {dh : Nat} (hd : 8 ≤ d) (hdh : dh + 2 ≤ d) (hS : Nat → Int32 → G → Option (Unit × G)) (hhS : ∀ (a0 : Nat) (a1 : Int32) (g g1 : G) (rx : Unit), KD g a0 12 → hS a0 a1 g = some (rx, g1) → Sem X m_X12_readSum dh [.ref (ad X a0), .int a1] g none g1) {g' : G} {rx : Unit} : ∀ (n : Nat) (l0 : Nat) (l1 : Int32) (g : G), KD g l0 12 → f_X12_readTerm_5 hS n l0 l1 g = some (rx, g') → SemF X m_X12_readTerm d 5 [(0, .ref (ad X l0)), (1, .int l1)] [] g none g' := by
  intro n
  induction n with
  | zero =>
    intro l0 l1 g k_l0 h
    rw [f_X12_readTerm_5] at h
    cases h
  | succ n ih =>
  intro l0 l1 g k_l0 h
  rw [f_X12_readTerm_5] at h
  refine SF_aload_n 0 6 dX12_readTerm_5 rfl rfl rfl ?_
  refine SF_bipush (34 : Int32) 8 dX12_readTerm_6 rfl rfl ?_
  obtain ⟨v1, g2, q3, h⟩ := bd_some h
  have s4 := w_X12_eats (X := X) (Nat.le_refl 6) l0 (34 : Int32) g g2 v1 k_l0 q3
  refine SF_callVb 11 mi_X12_eats ml_X12_155 dX12_readTerm_8 (Nat.le_trans (by decide) hd) s4 k_l0.1 rfl rfl (Nat.le_of_ble_eq_true rfl) rfl ?_
  have k_l0 := k_l0.ext s4.1
  refine SF_ifeq 29 14 dX12_readTerm_11 rfl rfl (fun c5 => ?_) (fun c5 => ?_)
  · have h := ite_t c5 h
    exact RT_v rfl dX12_readTerm_29 h
  · have h := ite_f c5 h
    refine SF_aload_n 0 15 dX12_readTerm_14 rfl rfl rfl ?_
    refine SF_iload_n 1 16 dX12_readTerm_15 rfl rfl rfl ?_
    obtain ⟨v6, g7, q8, h⟩ := bd_some h
    have s9 := w_X12_readAtom (d := d - 1) (dh := dh) (by omega) (by omega) hS hhS l0 l1 g2 g7 v6 k_l0 q8
    refine SF_callVv 19 mi_X12_readAtom ml_X12_158 dX12_readTerm_16 (by omega) s9 k_l0.1 rfl rfl (Nat.le_of_ble_eq_true rfl) rfl ?_
    have k_l0 := k_l0.ext s9.1
    refine SF_aload_n 0 20 dX12_readTerm_19 rfl rfl rfl ?_
    refine SF_sipush (3002 : Int32) 23 dX12_readTerm_20 rfl rfl ?_
    obtain ⟨v10, g11, q12, h⟩ := bd_some h
    have s13 := w_X12_codes (X := X) (Nat.le_refl 0) l0 (3002 : Int32) g7 g11 v10 k_l0 q12
    refine SF_callVv 26 mi_X12_codes ml_X12_143 dX12_readTerm_23 (Nat.le_trans (by decide) hd) s13 k_l0.1 rfl rfl (Nat.le_of_ble_eq_true rfl) rfl ?_
    have k_l0 := k_l0.ext s13.1
    refine SF_goto 5 dX12_readTerm_26 rfl ?_
    exact ih l0 l1 g11 k_l0 h

set_option maxRecDepth 20000 in
set_option maxHeartbeats 2000000 in
theorem w_X12_readTerm {X : CX} {d : Nat} {dh : Nat} (hd : 8 ≤ d) (hdh : dh + 2 ≤ d) (hS : Nat → Int32 → G → Option (Unit × G)) (hhS : ∀ (a0 : Nat) (a1 : Int32) (g g1 : G) (rx : Unit), KD g a0 12 → hS a0 a1 g = some (rx, g1) → Sem X m_X12_readSum dh [.ref (ad X a0), .int a1] g none g1) (l0 : Nat) (l1 : Int32) (g g' : G) (rx : Unit) (k_l0 : KD g l0 12) (h : f_X12_readTerm hS l0 l1 g = some (rx, g')) : Sem X m_X12_readTerm d [.ref (ad X l0), .int l1] g none g' := by
  refine Sem_of (lo := [(0, .ref (ad X l0)), (1, .int l1)]) (by decide +kernel) rfl (Nat.le_of_ble_eq_true rfl) ?_
  rw [f_X12_readTerm] at h
  refine SF_aload_n 0 1 dX12_readTerm_0 rfl rfl rfl ?_
  refine SF_iload_n 1 2 dX12_readTerm_1 rfl rfl rfl ?_
  obtain ⟨v1, g2, q3, h⟩ := bd_some h
  have s4 := w_X12_readAtom (d := d - 1) (dh := dh) (by omega) (by omega) hS hhS l0 l1 g g2 v1 k_l0 q3
  refine SF_callVv 5 mi_X12_readAtom ml_X12_158 dX12_readTerm_2 (by omega) s4 k_l0.1 rfl rfl (Nat.le_of_ble_eq_true rfl) rfl ?_
  have k_l0 := k_l0.ext s4.1
  exact w_X12_readTerm_5 hd hdh hS hhS FU l0 l1 g2 k_l0 h

theorem dX12_readSum_0 : decode cX12_readSum 0 = .ok (.aload_n 0, 1) := by decide +kernel
theorem dX12_readSum_1 : decode cX12_readSum 1 = .ok (.iload_n 1, 1) := by decide +kernel
theorem dX12_readSum_2 : decode cX12_readSum 2 = .ok (.invokevirtual 161, 3) := by decide +kernel
theorem dX12_readSum_5 : decode cX12_readSum 5 = .ok (.aload_n 0, 1) := by decide +kernel
theorem dX12_readSum_6 : decode cX12_readSum 6 = .ok (.bipush 32, 2) := by decide +kernel
theorem dX12_readSum_8 : decode cX12_readSum 8 = .ok (.invokevirtual 129, 3) := by decide +kernel
theorem dX12_readSum_11 : decode cX12_readSum 11 = .ok (.ifCond .ne 12, 3) := by decide +kernel
theorem dX12_readSum_14 : decode cX12_readSum 14 = .ok (.aload_n 0, 1) := by decide +kernel
theorem dX12_readSum_15 : decode cX12_readSum 15 = .ok (.bipush 33, 2) := by decide +kernel
theorem dX12_readSum_17 : decode cX12_readSum 17 = .ok (.invokevirtual 129, 3) := by decide +kernel
theorem dX12_readSum_20 : decode cX12_readSum 20 = .ok (.ifCond .eq 39, 3) := by decide +kernel
theorem dX12_readSum_23 : decode cX12_readSum 23 = .ok (.aload_n 0, 1) := by decide +kernel
theorem dX12_readSum_24 : decode cX12_readSum 24 = .ok (.getfield 105, 3) := by decide +kernel
theorem dX12_readSum_27 : decode cX12_readSum 27 = .ok (.bipush 32, 2) := by decide +kernel
theorem dX12_readSum_29 : decode cX12_readSum 29 = .ok (.if_icmp .ne 9, 3) := by decide +kernel
theorem dX12_readSum_32 : decode cX12_readSum 32 = .ok (.sipush 3000, 3) := by decide +kernel
theorem dX12_readSum_35 : decode cX12_readSum 35 = .ok (.goto 6, 3) := by decide +kernel
theorem dX12_readSum_38 : decode cX12_readSum 38 = .ok (.sipush 3001, 3) := by decide +kernel
theorem dX12_readSum_41 : decode cX12_readSum 41 = .ok (.istore_n 2, 1) := by decide +kernel
theorem dX12_readSum_42 : decode cX12_readSum 42 = .ok (.aload_n 0, 1) := by decide +kernel
theorem dX12_readSum_43 : decode cX12_readSum 43 = .ok (.invokevirtual 132, 3) := by decide +kernel
theorem dX12_readSum_46 : decode cX12_readSum 46 = .ok (.aload_n 0, 1) := by decide +kernel
theorem dX12_readSum_47 : decode cX12_readSum 47 = .ok (.iload_n 1, 1) := by decide +kernel
theorem dX12_readSum_48 : decode cX12_readSum 48 = .ok (.invokevirtual 161, 3) := by decide +kernel
theorem dX12_readSum_51 : decode cX12_readSum 51 = .ok (.aload_n 0, 1) := by decide +kernel
theorem dX12_readSum_52 : decode cX12_readSum 52 = .ok (.iload_n 2, 1) := by decide +kernel
theorem dX12_readSum_53 : decode cX12_readSum 53 = .ok (.invokevirtual 143, 3) := by decide +kernel
theorem dX12_readSum_56 : decode cX12_readSum 56 = .ok (.goto (-51), 3) := by decide +kernel
theorem dX12_readSum_59 : decode cX12_readSum 59 = .ok (.return_, 1) := by decide +kernel
set_option maxRecDepth 20000 in
set_option maxHeartbeats 2000000 in
theorem w_X12_readSum_41 {X : CX} {d : Nat} {dh : Nat} (hd : 9 ≤ d) (hdh : dh + 3 ≤ d) (hS : Nat → Int32 → G → Option (Unit × G)) (hhS : ∀ (a0 : Nat) (a1 : Int32) (g g1 : G) (rx : Unit), KD g a0 12 → hS a0 a1 g = some (rx, g1) → Sem X m_X12_readSum dh [.ref (ad X a0), .int a1] g none g1) {g' : G} {rx : Unit} (k5 : Nat → Int32 → G → Option (Unit × G)) (hk5 : ∀ (l0 : Nat) (l1 : Int32) (g : G), KD g l0 12 → k5 l0 l1 g = some (rx, g') → SemF X m_X12_readSum d 5 [(0, .ref (ad X l0)), (1, .int l1)] [] g none g') (l0 : Nat) (l1 : Int32) (s0 : Int32) (g : G) (k_l0 : KD g l0 12) (h : f_X12_readSum_41 hS k5 l0 l1 s0 g = some (rx, g')) : SemF X m_X12_readSum d 41 [(0, .ref (ad X l0)), (1, .int l1)] [.int s0] g none g' := by
  rw [f_X12_readSum_41] at h
  refine SF_istore_n [(2, .int s0), (0, .ref (ad X l0)), (1, .int l1)] 42 dX12_readSum_41 rfl (by decide) rfl rfl ?_
  refine SF_aload_n 1 43 dX12_readSum_42 rfl rfl rfl ?_
  obtain ⟨v1, g2, q3, h⟩ := bd_some h
  have s4 := w_X12_next (X := X) (Nat.le_refl 5) l0 g g2 v1 k_l0 q3
  refine SF_callVv 46 mi_X12_next ml_X12_132 dX12_readSum_43 (Nat.le_trans (by decide) hd) s4 k_l0.1 rfl rfl (Nat.le_of_ble_eq_true rfl) rfl ?_
  have k_l0 := k_l0.ext s4.1
  refine SF_aload_n 1 47 dX12_readSum_46 rfl rfl rfl ?_
  refine SF_iload_n 2 48 dX12_readSum_47 rfl rfl rfl ?_
  obtain ⟨v5, g6, q7, h⟩ := bd_some h
  have s8 := w_X12_readTerm (d := d - 1) (dh := dh) (by omega) (by omega) hS hhS l0 l1 g2 g6 v5 k_l0 q7
  refine SF_callVv 51 mi_X12_readTerm ml_X12_161 dX12_readSum_48 (by omega) s8 k_l0.1 rfl rfl (Nat.le_of_ble_eq_true rfl) rfl ?_
  have k_l0 := k_l0.ext s8.1
  refine SF_aload_n 1 52 dX12_readSum_51 rfl rfl rfl ?_
  refine SF_iload_n 0 53 dX12_readSum_52 rfl rfl rfl ?_
  obtain ⟨v9, g10, q11, h⟩ := bd_some h
  have s12 := w_X12_codes (X := X) (Nat.le_refl 0) l0 s0 g6 g10 v9 k_l0 q11
  refine SF_callVv 56 mi_X12_codes ml_X12_143 dX12_readSum_53 (Nat.le_trans (by decide) hd) s12 k_l0.1 rfl rfl (Nat.le_of_ble_eq_true rfl) rfl ?_
  have k_l0 := k_l0.ext s12.1
  refine SF_goto 5 dX12_readSum_56 rfl ?_
  refine SF_sub [1, 2] rfl ?_
  exact hk5 l0 l1 g10 k_l0 h

set_option maxRecDepth 20000 in
set_option maxHeartbeats 2000000 in
theorem w_X12_readSum_23 {X : CX} {d : Nat} {dh : Nat} (hd : 9 ≤ d) (hdh : dh + 3 ≤ d) (hS : Nat → Int32 → G → Option (Unit × G)) (hhS : ∀ (a0 : Nat) (a1 : Int32) (g g1 : G) (rx : Unit), KD g a0 12 → hS a0 a1 g = some (rx, g1) → Sem X m_X12_readSum dh [.ref (ad X a0), .int a1] g none g1) {g' : G} {rx : Unit} (k5 : Nat → Int32 → G → Option (Unit × G)) (hk5 : ∀ (l0 : Nat) (l1 : Int32) (g : G), KD g l0 12 → k5 l0 l1 g = some (rx, g') → SemF X m_X12_readSum d 5 [(0, .ref (ad X l0)), (1, .int l1)] [] g none g') (l0 : Nat) (l1 : Int32) (g : G) (k_l0 : KD g l0 12) (h : f_X12_readSum_23 hS k5 l0 l1 g = some (rx, g')) : SemF X m_X12_readSum d 23 [(0, .ref (ad X l0)), (1, .int l1)] [] g none g' := by
  rw [f_X12_readSum_23] at h
  refine SF_aload_n 0 24 dX12_readSum_23 rfl rfl rfl ?_
  refine SF_getI 27 fl_X12_105 dX12_readSum_24 k_l0.1 rfl ?_
  refine SF_bipush (32 : Int32) 29 dX12_readSum_27 rfl rfl ?_
  refine SF_icne 38 32 dX12_readSum_29 rfl rfl (fun c1 => ?_) (fun c1 => ?_)
  · have h := ite_f c1 h
    refine SF_sipush (3001 : Int32) 41 dX12_readSum_38 rfl rfl ?_
    exact w_X12_readSum_41 hd hdh hS hhS k5 hk5 l0 l1 (3001 : Int32) g k_l0 h
  · have h := ite_t c1 h
    refine SF_sipush (3000 : Int32) 35 dX12_readSum_32 rfl rfl ?_
    refine SF_goto 41 dX12_readSum_35 rfl ?_
    exact w_X12_readSum_41 hd hdh hS hhS k5 hk5 l0 l1 (3000 : Int32) g k_l0 h

set_option maxRecDepth 20000 in
set_option maxHeartbeats 2000000 in
theorem w_X12_readSum_5 {X : CX} {d : Nat} {dh : Nat} (hd : 9 ≤ d) (hdh : dh + 3 ≤ d) (hS : Nat → Int32 → G → Option (Unit × G)) (hhS : ∀ (a0 : Nat) (a1 : Int32) (g g1 : G) (rx : Unit), KD g a0 12 → hS a0 a1 g = some (rx, g1) → Sem X m_X12_readSum dh [.ref (ad X a0), .int a1] g none g1) {g' : G} {rx : Unit} : ∀ (n : Nat) (l0 : Nat) (l1 : Int32) (g : G), KD g l0 12 → f_X12_readSum_5 hS n l0 l1 g = some (rx, g') → SemF X m_X12_readSum d 5 [(0, .ref (ad X l0)), (1, .int l1)] [] g none g' := by
  intro n
  induction n with
  | zero =>
    intro l0 l1 g k_l0 h
    rw [f_X12_readSum_5] at h
    cases h
  | succ n ih =>
  intro l0 l1 g k_l0 h
  rw [f_X12_readSum_5] at h
  refine SF_aload_n 0 6 dX12_readSum_5 rfl rfl rfl ?_
  refine SF_bipush (32 : Int32) 8 dX12_readSum_6 rfl rfl ?_
  obtain ⟨v1, g2, q3, h⟩ := bd_some h
  have s4 := w_X12_is (X := X) (Nat.le_refl 0) l0 (32 : Int32) g g2 v1 k_l0 q3
  refine SF_callVb 11 mi_X12_is ml_X12_129 dX12_readSum_8 (Nat.le_trans (by decide) hd) s4 k_l0.1 rfl rfl (Nat.le_of_ble_eq_true rfl) rfl ?_
  have k_l0 := k_l0.ext s4.1
  refine SF_ifne 23 14 dX12_readSum_11 rfl rfl (fun c5 => ?_) (fun c5 => ?_)
  · have h := ite_f c5 h
    exact w_X12_readSum_23 hd hdh hS hhS (f_X12_readSum_5 hS n) ih l0 l1 g2 k_l0 h
  · have h := ite_t c5 h
    refine SF_aload_n 0 15 dX12_readSum_14 rfl rfl rfl ?_
    refine SF_bipush (33 : Int32) 17 dX12_readSum_15 rfl rfl ?_
    obtain ⟨v6, g7, q8, h⟩ := bd_some h
    have s9 := w_X12_is (X := X) (Nat.le_refl 0) l0 (33 : Int32) g2 g7 v6 k_l0 q8
    refine SF_callVb 20 mi_X12_is ml_X12_129 dX12_readSum_17 (Nat.le_trans (by decide) hd) s9 k_l0.1 rfl rfl (Nat.le_of_ble_eq_true rfl) rfl ?_
    have k_l0 := k_l0.ext s9.1
    refine SF_ifeq 59 23 dX12_readSum_20 rfl rfl (fun c10 => ?_) (fun c10 => ?_)
    · have h := ite_t c10 h
      exact RT_v rfl dX12_readSum_59 h
    · have h := ite_f c10 h
      exact w_X12_readSum_23 hd hdh hS hhS (f_X12_readSum_5 hS n) ih l0 l1 g7 k_l0 h

set_option maxRecDepth 20000 in
set_option maxHeartbeats 2000000 in
theorem w_X12_readSum {X : CX} {d : Nat} {dh : Nat} (hd : 9 ≤ d) (hdh : dh + 3 ≤ d) (hS : Nat → Int32 → G → Option (Unit × G)) (hhS : ∀ (a0 : Nat) (a1 : Int32) (g g1 : G) (rx : Unit), KD g a0 12 → hS a0 a1 g = some (rx, g1) → Sem X m_X12_readSum dh [.ref (ad X a0), .int a1] g none g1) (l0 : Nat) (l1 : Int32) (g g' : G) (rx : Unit) (k_l0 : KD g l0 12) (h : f_X12_readSum hS l0 l1 g = some (rx, g')) : Sem X m_X12_readSum d [.ref (ad X l0), .int l1] g none g' := by
  refine Sem_of (lo := [(0, .ref (ad X l0)), (1, .int l1)]) (by decide +kernel) rfl (Nat.le_of_ble_eq_true rfl) ?_
  rw [f_X12_readSum] at h
  refine SF_aload_n 0 1 dX12_readSum_0 rfl rfl rfl ?_
  refine SF_iload_n 1 2 dX12_readSum_1 rfl rfl rfl ?_
  obtain ⟨v1, g2, q3, h⟩ := bd_some h
  have s4 := w_X12_readTerm (d := d - 1) (dh := dh) (by omega) (by omega) hS hhS l0 l1 g g2 v1 k_l0 q3
  refine SF_callVv 5 mi_X12_readTerm ml_X12_161 dX12_readSum_2 (by omega) s4 k_l0.1 rfl rfl (Nat.le_of_ble_eq_true rfl) rfl ?_
  have k_l0 := k_l0.ext s4.1
  exact w_X12_readSum_5 hd hdh hS hhS FU l0 l1 g2 k_l0 h

theorem dX12_readUnit_0 : decode cX12_readUnit 0 = .ok (.aload_n 0, 1) := by decide +kernel
theorem dX12_readUnit_1 : decode cX12_readUnit 1 = .ok (.bipush 14, 2) := by decide +kernel
theorem dX12_readUnit_3 : decode cX12_readUnit 3 = .ok (.invokevirtual 129, 3) := by decide +kernel
theorem dX12_readUnit_6 : decode cX12_readUnit 6 = .ok (.ifCond .eq 27, 3) := by decide +kernel
theorem dX12_readUnit_9 : decode cX12_readUnit 9 = .ok (.aload_n 0, 1) := by decide +kernel
theorem dX12_readUnit_10 : decode cX12_readUnit 10 = .ok (.iload_n 1, 1) := by decide +kernel
theorem dX12_readUnit_11 : decode cX12_readUnit 11 = .ok (.invokevirtual 149, 3) := by decide +kernel
theorem dX12_readUnit_14 : decode cX12_readUnit 14 = .ok (.ifCond .ne 4, 3) := by decide +kernel
theorem dX12_readUnit_17 : decode cX12_readUnit 17 = .ok (.return_, 1) := by decide +kernel
theorem dX12_readUnit_18 : decode cX12_readUnit 18 = .ok (.aload_n 0, 1) := by decide +kernel
theorem dX12_readUnit_19 : decode cX12_readUnit 19 = .ok (.iload_n 1, 1) := by decide +kernel
theorem dX12_readUnit_20 : decode cX12_readUnit 20 = .ok (.iconst 1, 1) := by decide +kernel
theorem dX12_readUnit_21 : decode cX12_readUnit 21 = .ok (.iadd, 1) := by decide +kernel
theorem dX12_readUnit_22 : decode cX12_readUnit 22 = .ok (.invokevirtual 164, 3) := by decide +kernel
theorem dX12_readUnit_25 : decode cX12_readUnit 25 = .ok (.aload_n 0, 1) := by decide +kernel
theorem dX12_readUnit_26 : decode cX12_readUnit 26 = .ok (.sipush 3006, 3) := by decide +kernel
theorem dX12_readUnit_29 : decode cX12_readUnit 29 = .ok (.invokevirtual 143, 3) := by decide +kernel
theorem dX12_readUnit_32 : decode cX12_readUnit 32 = .ok (.return_, 1) := by decide +kernel
theorem dX12_readUnit_33 : decode cX12_readUnit 33 = .ok (.aload_n 0, 1) := by decide +kernel
theorem dX12_readUnit_34 : decode cX12_readUnit 34 = .ok (.bipush 37, 2) := by decide +kernel
theorem dX12_readUnit_36 : decode cX12_readUnit 36 = .ok (.invokevirtual 129, 3) := by decide +kernel
theorem dX12_readUnit_39 : decode cX12_readUnit 39 = .ok (.ifCond .eq 34, 3) := by decide +kernel
theorem dX12_readUnit_42 : decode cX12_readUnit 42 = .ok (.aload_n 0, 1) := by decide +kernel
theorem dX12_readUnit_43 : decode cX12_readUnit 43 = .ok (.iload_n 1, 1) := by decide +kernel
theorem dX12_readUnit_44 : decode cX12_readUnit 44 = .ok (.invokevirtual 149, 3) := by decide +kernel
theorem dX12_readUnit_47 : decode cX12_readUnit 47 = .ok (.ifCond .ne 4, 3) := by decide +kernel
theorem dX12_readUnit_50 : decode cX12_readUnit 50 = .ok (.return_, 1) := by decide +kernel
theorem dX12_readUnit_51 : decode cX12_readUnit 51 = .ok (.aload_n 0, 1) := by decide +kernel
theorem dX12_readUnit_52 : decode cX12_readUnit 52 = .ok (.iload_n 1, 1) := by decide +kernel
theorem dX12_readUnit_53 : decode cX12_readUnit 53 = .ok (.iconst 1, 1) := by decide +kernel
theorem dX12_readUnit_54 : decode cX12_readUnit 54 = .ok (.iadd, 1) := by decide +kernel
theorem dX12_readUnit_55 : decode cX12_readUnit 55 = .ok (.invokevirtual 167, 3) := by decide +kernel
theorem dX12_readUnit_58 : decode cX12_readUnit 58 = .ok (.aload_n 0, 1) := by decide +kernel
theorem dX12_readUnit_59 : decode cX12_readUnit 59 = .ok (.bipush 38, 2) := by decide +kernel
theorem dX12_readUnit_61 : decode cX12_readUnit 61 = .ok (.invokevirtual 155, 3) := by decide +kernel
theorem dX12_readUnit_64 : decode cX12_readUnit 64 = .ok (.ifCond .ne 8, 3) := by decide +kernel
theorem dX12_readUnit_67 : decode cX12_readUnit 67 = .ok (.aload_n 0, 1) := by decide +kernel
theorem dX12_readUnit_68 : decode cX12_readUnit 68 = .ok (.iconst 2, 1) := by decide +kernel
theorem dX12_readUnit_69 : decode cX12_readUnit 69 = .ok (.invokevirtual 135, 3) := by decide +kernel
theorem dX12_readUnit_72 : decode cX12_readUnit 72 = .ok (.return_, 1) := by decide +kernel
theorem dX12_readUnit_73 : decode cX12_readUnit 73 = .ok (.aload_n 0, 1) := by decide +kernel
theorem dX12_readUnit_74 : decode cX12_readUnit 74 = .ok (.iload_n 1, 1) := by decide +kernel
theorem dX12_readUnit_75 : decode cX12_readUnit 75 = .ok (.invokevirtual 152, 3) := by decide +kernel
theorem dX12_readUnit_78 : decode cX12_readUnit 78 = .ok (.aload_n 0, 1) := by decide +kernel
theorem dX12_readUnit_79 : decode cX12_readUnit 79 = .ok (.bipush 39, 2) := by decide +kernel
theorem dX12_readUnit_81 : decode cX12_readUnit 81 = .ok (.invokevirtual 129, 3) := by decide +kernel
theorem dX12_readUnit_84 : decode cX12_readUnit 84 = .ok (.ifCond .eq 9, 3) := by decide +kernel
theorem dX12_readUnit_87 : decode cX12_readUnit 87 = .ok (.sipush 3003, 3) := by decide +kernel
theorem dX12_readUnit_90 : decode cX12_readUnit 90 = .ok (.goto 21, 3) := by decide +kernel
theorem dX12_readUnit_93 : decode cX12_readUnit 93 = .ok (.aload_n 0, 1) := by decide +kernel
theorem dX12_readUnit_94 : decode cX12_readUnit 94 = .ok (.bipush 40, 2) := by decide +kernel
theorem dX12_readUnit_96 : decode cX12_readUnit 96 = .ok (.invokevirtual 129, 3) := by decide +kernel
theorem dX12_readUnit_99 : decode cX12_readUnit 99 = .ok (.ifCond .eq 9, 3) := by decide +kernel
theorem dX12_readUnit_102 : decode cX12_readUnit 102 = .ok (.sipush 3004, 3) := by decide +kernel
theorem dX12_readUnit_105 : decode cX12_readUnit 105 = .ok (.goto 6, 3) := by decide +kernel
theorem dX12_readUnit_108 : decode cX12_readUnit 108 = .ok (.sipush 3005, 3) := by decide +kernel
theorem dX12_readUnit_111 : decode cX12_readUnit 111 = .ok (.istore_n 2, 1) := by decide +kernel
theorem dX12_readUnit_112 : decode cX12_readUnit 112 = .ok (.aload_n 0, 1) := by decide +kernel
theorem dX12_readUnit_113 : decode cX12_readUnit 113 = .ok (.bipush 39, 2) := by decide +kernel
theorem dX12_readUnit_115 : decode cX12_readUnit 115 = .ok (.invokevirtual 129, 3) := by decide +kernel
theorem dX12_readUnit_118 : decode cX12_readUnit 118 = .ok (.ifCond .ne 21, 3) := by decide +kernel
theorem dX12_readUnit_121 : decode cX12_readUnit 121 = .ok (.aload_n 0, 1) := by decide +kernel
theorem dX12_readUnit_122 : decode cX12_readUnit 122 = .ok (.bipush 40, 2) := by decide +kernel
theorem dX12_readUnit_124 : decode cX12_readUnit 124 = .ok (.invokevirtual 129, 3) := by decide +kernel
theorem dX12_readUnit_127 : decode cX12_readUnit 127 = .ok (.ifCond .ne 12, 3) := by decide +kernel
theorem dX12_readUnit_130 : decode cX12_readUnit 130 = .ok (.aload_n 0, 1) := by decide +kernel
theorem dX12_readUnit_131 : decode cX12_readUnit 131 = .ok (.bipush 41, 2) := by decide +kernel
theorem dX12_readUnit_133 : decode cX12_readUnit 133 = .ok (.invokevirtual 129, 3) := by decide +kernel
theorem dX12_readUnit_136 : decode cX12_readUnit 136 = .ok (.ifCond .eq 10, 3) := by decide +kernel
theorem dX12_readUnit_139 : decode cX12_readUnit 139 = .ok (.aload_n 0, 1) := by decide +kernel
theorem dX12_readUnit_140 : decode cX12_readUnit 140 = .ok (.invokevirtual 132, 3) := by decide +kernel
theorem dX12_readUnit_143 : decode cX12_readUnit 143 = .ok (.goto 8, 3) := by decide +kernel
theorem dX12_readUnit_146 : decode cX12_readUnit 146 = .ok (.aload_n 0, 1) := by decide +kernel
theorem dX12_readUnit_147 : decode cX12_readUnit 147 = .ok (.iconst 2, 1) := by decide +kernel
theorem dX12_readUnit_148 : decode cX12_readUnit 148 = .ok (.invokevirtual 135, 3) := by decide +kernel
theorem dX12_readUnit_151 : decode cX12_readUnit 151 = .ok (.aload_n 0, 1) := by decide +kernel
theorem dX12_readUnit_152 : decode cX12_readUnit 152 = .ok (.iload_n 1, 1) := by decide +kernel
theorem dX12_readUnit_153 : decode cX12_readUnit 153 = .ok (.invokevirtual 152, 3) := by decide +kernel
theorem dX12_readUnit_156 : decode cX12_readUnit 156 = .ok (.aload_n 0, 1) := by decide +kernel
theorem dX12_readUnit_157 : decode cX12_readUnit 157 = .ok (.iload_n 2, 1) := by decide +kernel
theorem dX12_readUnit_158 : decode cX12_readUnit 158 = .ok (.invokevirtual 143, 3) := by decide +kernel
theorem dX12_readUnit_161 : decode cX12_readUnit 161 = .ok (.return_, 1) := by decide +kernel
set_option maxRecDepth 20000 in
set_option maxHeartbeats 2000000 in
theorem w_X12_readUnit_151 {X : CX} {d : Nat} {dh : Nat} (hd : 10 ≤ d) (hdh : dh + 4 ≤ d) (hS : Nat → Int32 → G → Option (Unit × G)) (hhS : ∀ (a0 : Nat) (a1 : Int32) (g g1 : G) (rx : Unit), KD g a0 12 → hS a0 a1 g = some (rx, g1) → Sem X m_X12_readSum dh [.ref (ad X a0), .int a1] g none g1) (hT : Nat → Int32 → G → Option (Unit × G)) (hhT : ∀ (a0 : Nat) (a1 : Int32) (g g1 : G) (rx : Unit), KD g a0 12 → hT a0 a1 g = some (rx, g1) → Sem X m_X12_readTruth dh [.ref (ad X a0), .int a1] g none g1) (hU : Nat → Int32 → G → Option (Unit × G)) (hhU : ∀ (a0 : Nat) (a1 : Int32) (g g1 : G) (rx : Unit), KD g a0 12 → hU a0 a1 g = some (rx, g1) → Sem X m_X12_readUnit dh [.ref (ad X a0), .int a1] g none g1) {g' : G} {rx : Unit} (l0 : Nat) (l1 : Int32) (l2 : Int32) (g : G) (k_l0 : KD g l0 12) (h : f_X12_readUnit_151 hS hT hU l0 l1 l2 g = some (rx, g')) : SemF X m_X12_readUnit d 151 [(0, .ref (ad X l0)), (1, .int l1), (2, .int l2)] [] g none g' := by
  rw [f_X12_readUnit_151] at h
  refine SF_aload_n 0 152 dX12_readUnit_151 rfl rfl rfl ?_
  refine SF_iload_n 1 153 dX12_readUnit_152 rfl rfl rfl ?_
  obtain ⟨v1, g2, q3, h⟩ := bd_some h
  have s4 := w_X12_readSum (d := d - 1) (dh := dh) (by omega) (by omega) hS hhS l0 l1 g g2 v1 k_l0 q3
  refine SF_callVv 156 mi_X12_readSum ml_X12_152 dX12_readUnit_153 (by omega) s4 k_l0.1 rfl rfl (Nat.le_of_ble_eq_true rfl) rfl ?_
  have k_l0 := k_l0.ext s4.1
  refine SF_aload_n 0 157 dX12_readUnit_156 rfl rfl rfl ?_
  refine SF_iload_n 2 158 dX12_readUnit_157 rfl rfl rfl ?_
  obtain ⟨v5, g6, q7, h⟩ := bd_some h
  have s8 := w_X12_codes (X := X) (Nat.le_refl 0) l0 l2 g2 g6 v5 k_l0 q7
  refine SF_callVv 161 mi_X12_codes ml_X12_143 dX12_readUnit_158 (Nat.le_trans (by decide) hd) s8 k_l0.1 rfl rfl (Nat.le_of_ble_eq_true rfl) rfl ?_
  have k_l0 := k_l0.ext s8.1
  exact RT_v rfl dX12_readUnit_161 h

set_option maxRecDepth 20000 in
set_option maxHeartbeats 2000000 in
theorem w_X12_readUnit_139 {X : CX} {d : Nat} {dh : Nat} (hd : 10 ≤ d) (hdh : dh + 4 ≤ d) (hS : Nat → Int32 → G → Option (Unit × G)) (hhS : ∀ (a0 : Nat) (a1 : Int32) (g g1 : G) (rx : Unit), KD g a0 12 → hS a0 a1 g = some (rx, g1) → Sem X m_X12_readSum dh [.ref (ad X a0), .int a1] g none g1) (hT : Nat → Int32 → G → Option (Unit × G)) (hhT : ∀ (a0 : Nat) (a1 : Int32) (g g1 : G) (rx : Unit), KD g a0 12 → hT a0 a1 g = some (rx, g1) → Sem X m_X12_readTruth dh [.ref (ad X a0), .int a1] g none g1) (hU : Nat → Int32 → G → Option (Unit × G)) (hhU : ∀ (a0 : Nat) (a1 : Int32) (g g1 : G) (rx : Unit), KD g a0 12 → hU a0 a1 g = some (rx, g1) → Sem X m_X12_readUnit dh [.ref (ad X a0), .int a1] g none g1) {g' : G} {rx : Unit} (l0 : Nat) (l1 : Int32) (l2 : Int32) (g : G) (k_l0 : KD g l0 12) (h : f_X12_readUnit_139 hS hT hU l0 l1 l2 g = some (rx, g')) : SemF X m_X12_readUnit d 139 [(0, .ref (ad X l0)), (1, .int l1), (2, .int l2)] [] g none g' := by
  rw [f_X12_readUnit_139] at h
  refine SF_aload_n 0 140 dX12_readUnit_139 rfl rfl rfl ?_
  obtain ⟨v1, g2, q3, h⟩ := bd_some h
  have s4 := w_X12_next (X := X) (Nat.le_refl 5) l0 g g2 v1 k_l0 q3
  refine SF_callVv 143 mi_X12_next ml_X12_132 dX12_readUnit_140 (Nat.le_trans (by decide) hd) s4 k_l0.1 rfl rfl (Nat.le_of_ble_eq_true rfl) rfl ?_
  have k_l0 := k_l0.ext s4.1
  refine SF_goto 151 dX12_readUnit_143 rfl ?_
  exact w_X12_readUnit_151 hd hdh hS hhS hT hhT hU hhU l0 l1 l2 g2 k_l0 h

set_option maxRecDepth 20000 in
set_option maxHeartbeats 2000000 in
theorem w_X12_readUnit_111 {X : CX} {d : Nat} {dh : Nat} (hd : 10 ≤ d) (hdh : dh + 4 ≤ d) (hS : Nat → Int32 → G → Option (Unit × G)) (hhS : ∀ (a0 : Nat) (a1 : Int32) (g g1 : G) (rx : Unit), KD g a0 12 → hS a0 a1 g = some (rx, g1) → Sem X m_X12_readSum dh [.ref (ad X a0), .int a1] g none g1) (hT : Nat → Int32 → G → Option (Unit × G)) (hhT : ∀ (a0 : Nat) (a1 : Int32) (g g1 : G) (rx : Unit), KD g a0 12 → hT a0 a1 g = some (rx, g1) → Sem X m_X12_readTruth dh [.ref (ad X a0), .int a1] g none g1) (hU : Nat → Int32 → G → Option (Unit × G)) (hhU : ∀ (a0 : Nat) (a1 : Int32) (g g1 : G) (rx : Unit), KD g a0 12 → hU a0 a1 g = some (rx, g1) → Sem X m_X12_readUnit dh [.ref (ad X a0), .int a1] g none g1) {g' : G} {rx : Unit} (l0 : Nat) (l1 : Int32) (s0 : Int32) (g : G) (k_l0 : KD g l0 12) (h : f_X12_readUnit_111 hS hT hU l0 l1 s0 g = some (rx, g')) : SemF X m_X12_readUnit d 111 [(0, .ref (ad X l0)), (1, .int l1)] [.int s0] g none g' := by
  rw [f_X12_readUnit_111] at h
  refine SF_istore_n [(2, .int s0), (0, .ref (ad X l0)), (1, .int l1)] 112 dX12_readUnit_111 rfl (by decide) rfl rfl ?_
  refine SF_aload_n 1 113 dX12_readUnit_112 rfl rfl rfl ?_
  refine SF_bipush (39 : Int32) 115 dX12_readUnit_113 rfl rfl ?_
  obtain ⟨v1, g2, q3, h⟩ := bd_some h
  have s4 := w_X12_is (X := X) (Nat.le_refl 0) l0 (39 : Int32) g g2 v1 k_l0 q3
  refine SF_callVb 118 mi_X12_is ml_X12_129 dX12_readUnit_115 (Nat.le_trans (by decide) hd) s4 k_l0.1 rfl rfl (Nat.le_of_ble_eq_true rfl) rfl ?_
  have k_l0 := k_l0.ext s4.1
  refine SF_ifne 139 121 dX12_readUnit_118 rfl rfl (fun c5 => ?_) (fun c5 => ?_)
  · have h := ite_f c5 h
    refine SF_sub [1, 2, 0] rfl ?_
    exact w_X12_readUnit_139 hd hdh hS hhS hT hhT hU hhU l0 l1 s0 g2 k_l0 h
  · have h := ite_t c5 h
    refine SF_aload_n 1 122 dX12_readUnit_121 rfl rfl rfl ?_
    refine SF_bipush (40 : Int32) 124 dX12_readUnit_122 rfl rfl ?_
    obtain ⟨v6, g7, q8, h⟩ := bd_some h
    have s9 := w_X12_is (X := X) (Nat.le_refl 0) l0 (40 : Int32) g2 g7 v6 k_l0 q8
    refine SF_callVb 127 mi_X12_is ml_X12_129 dX12_readUnit_124 (Nat.le_trans (by decide) hd) s9 k_l0.1 rfl rfl (Nat.le_of_ble_eq_true rfl) rfl ?_
    have k_l0 := k_l0.ext s9.1
    refine SF_ifne 139 130 dX12_readUnit_127 rfl rfl (fun c10 => ?_) (fun c10 => ?_)
    · have h := ite_f c10 h
      refine SF_sub [1, 2, 0] rfl ?_
      exact w_X12_readUnit_139 hd hdh hS hhS hT hhT hU hhU l0 l1 s0 g7 k_l0 h
    · have h := ite_t c10 h
      refine SF_aload_n 1 131 dX12_readUnit_130 rfl rfl rfl ?_
      refine SF_bipush (41 : Int32) 133 dX12_readUnit_131 rfl rfl ?_
      obtain ⟨v11, g12, q13, h⟩ := bd_some h
      have s14 := w_X12_is (X := X) (Nat.le_refl 0) l0 (41 : Int32) g7 g12 v11 k_l0 q13
      refine SF_callVb 136 mi_X12_is ml_X12_129 dX12_readUnit_133 (Nat.le_trans (by decide) hd) s14 k_l0.1 rfl rfl (Nat.le_of_ble_eq_true rfl) rfl ?_
      have k_l0 := k_l0.ext s14.1
      refine SF_ifeq 146 139 dX12_readUnit_136 rfl rfl (fun c15 => ?_) (fun c15 => ?_)
      · have h := ite_t c15 h
        refine SF_aload_n 1 147 dX12_readUnit_146 rfl rfl rfl ?_
        refine SF_iconst (2 : Int32) 148 dX12_readUnit_147 rfl rfl ?_
        obtain ⟨v16, g17, q18, h⟩ := bd_some h
        have s19 := w_X12_fails (X := X) (Nat.le_refl 0) l0 (2 : Int32) g12 g17 v16 k_l0 q18
        refine SF_callVv 151 mi_X12_fails ml_X12_135 dX12_readUnit_148 (Nat.le_trans (by decide) hd) s19 k_l0.1 rfl rfl (Nat.le_of_ble_eq_true rfl) rfl ?_
        have k_l0 := k_l0.ext s19.1
        refine SF_sub [1, 2, 0] rfl ?_
        exact w_X12_readUnit_151 hd hdh hS hhS hT hhT hU hhU l0 l1 s0 g17 k_l0 h
      · have h := ite_f c15 h
        refine SF_sub [1, 2, 0] rfl ?_
        exact w_X12_readUnit_139 hd hdh hS hhS hT hhT hU hhU l0 l1 s0 g12 k_l0 h

set_option maxRecDepth 20000 in
set_option maxHeartbeats 2000000 in
theorem w_X12_readUnit {X : CX} {d : Nat} {dh : Nat} (hd : 10 ≤ d) (hdh : dh + 4 ≤ d) (hS : Nat → Int32 → G → Option (Unit × G)) (hhS : ∀ (a0 : Nat) (a1 : Int32) (g g1 : G) (rx : Unit), KD g a0 12 → hS a0 a1 g = some (rx, g1) → Sem X m_X12_readSum dh [.ref (ad X a0), .int a1] g none g1) (hT : Nat → Int32 → G → Option (Unit × G)) (hhT : ∀ (a0 : Nat) (a1 : Int32) (g g1 : G) (rx : Unit), KD g a0 12 → hT a0 a1 g = some (rx, g1) → Sem X m_X12_readTruth dh [.ref (ad X a0), .int a1] g none g1) (hU : Nat → Int32 → G → Option (Unit × G)) (hhU : ∀ (a0 : Nat) (a1 : Int32) (g g1 : G) (rx : Unit), KD g a0 12 → hU a0 a1 g = some (rx, g1) → Sem X m_X12_readUnit dh [.ref (ad X a0), .int a1] g none g1) (l0 : Nat) (l1 : Int32) (g g' : G) (rx : Unit) (k_l0 : KD g l0 12) (h : f_X12_readUnit hS hT hU l0 l1 g = some (rx, g')) : Sem X m_X12_readUnit d [.ref (ad X l0), .int l1] g none g' := by
  refine Sem_of (lo := [(0, .ref (ad X l0)), (1, .int l1)]) (by decide +kernel) rfl (Nat.le_of_ble_eq_true rfl) ?_
  rw [f_X12_readUnit] at h
  refine SF_aload_n 0 1 dX12_readUnit_0 rfl rfl rfl ?_
  refine SF_bipush (14 : Int32) 3 dX12_readUnit_1 rfl rfl ?_
  obtain ⟨v1, g2, q3, h⟩ := bd_some h
  have s4 := w_X12_is (X := X) (Nat.le_refl 0) l0 (14 : Int32) g g2 v1 k_l0 q3
  refine SF_callVb 6 mi_X12_is ml_X12_129 dX12_readUnit_3 (Nat.le_trans (by decide) hd) s4 k_l0.1 rfl rfl (Nat.le_of_ble_eq_true rfl) rfl ?_
  have k_l0 := k_l0.ext s4.1
  refine SF_ifeq 33 9 dX12_readUnit_6 rfl rfl (fun c5 => ?_) (fun c5 => ?_)
  · have h := ite_t c5 h
    refine SF_aload_n 0 34 dX12_readUnit_33 rfl rfl rfl ?_
    refine SF_bipush (37 : Int32) 36 dX12_readUnit_34 rfl rfl ?_
    obtain ⟨v6, g7, q8, h⟩ := bd_some h
    have s9 := w_X12_is (X := X) (Nat.le_refl 0) l0 (37 : Int32) g2 g7 v6 k_l0 q8
    refine SF_callVb 39 mi_X12_is ml_X12_129 dX12_readUnit_36 (Nat.le_trans (by decide) hd) s9 k_l0.1 rfl rfl (Nat.le_of_ble_eq_true rfl) rfl ?_
    have k_l0 := k_l0.ext s9.1
    refine SF_ifeq 73 42 dX12_readUnit_39 rfl rfl (fun c10 => ?_) (fun c10 => ?_)
    · have h := ite_t c10 h
      refine SF_aload_n 0 74 dX12_readUnit_73 rfl rfl rfl ?_
      refine SF_iload_n 1 75 dX12_readUnit_74 rfl rfl rfl ?_
      obtain ⟨v11, g12, q13, h⟩ := bd_some h
      have s14 := w_X12_readSum (d := d - 1) (dh := dh) (by omega) (by omega) hS hhS l0 l1 g7 g12 v11 k_l0 q13
      refine SF_callVv 78 mi_X12_readSum ml_X12_152 dX12_readUnit_75 (by omega) s14 k_l0.1 rfl rfl (Nat.le_of_ble_eq_true rfl) rfl ?_
      have k_l0 := k_l0.ext s14.1
      refine SF_aload_n 0 79 dX12_readUnit_78 rfl rfl rfl ?_
      refine SF_bipush (39 : Int32) 81 dX12_readUnit_79 rfl rfl ?_
      obtain ⟨v15, g16, q17, h⟩ := bd_some h
      have s18 := w_X12_is (X := X) (Nat.le_refl 0) l0 (39 : Int32) g12 g16 v15 k_l0 q17
      refine SF_callVb 84 mi_X12_is ml_X12_129 dX12_readUnit_81 (Nat.le_trans (by decide) hd) s18 k_l0.1 rfl rfl (Nat.le_of_ble_eq_true rfl) rfl ?_
      have k_l0 := k_l0.ext s18.1
      refine SF_ifeq 93 87 dX12_readUnit_84 rfl rfl (fun c19 => ?_) (fun c19 => ?_)
      · have h := ite_t c19 h
        refine SF_aload_n 0 94 dX12_readUnit_93 rfl rfl rfl ?_
        refine SF_bipush (40 : Int32) 96 dX12_readUnit_94 rfl rfl ?_
        obtain ⟨v20, g21, q22, h⟩ := bd_some h
        have s23 := w_X12_is (X := X) (Nat.le_refl 0) l0 (40 : Int32) g16 g21 v20 k_l0 q22
        refine SF_callVb 99 mi_X12_is ml_X12_129 dX12_readUnit_96 (Nat.le_trans (by decide) hd) s23 k_l0.1 rfl rfl (Nat.le_of_ble_eq_true rfl) rfl ?_
        have k_l0 := k_l0.ext s23.1
        refine SF_ifeq 108 102 dX12_readUnit_99 rfl rfl (fun c24 => ?_) (fun c24 => ?_)
        · have h := ite_t c24 h
          refine SF_sipush (3005 : Int32) 111 dX12_readUnit_108 rfl rfl ?_
          exact w_X12_readUnit_111 hd hdh hS hhS hT hhT hU hhU l0 l1 (3005 : Int32) g21 k_l0 h
        · have h := ite_f c24 h
          refine SF_sipush (3004 : Int32) 105 dX12_readUnit_102 rfl rfl ?_
          refine SF_goto 111 dX12_readUnit_105 rfl ?_
          exact w_X12_readUnit_111 hd hdh hS hhS hT hhT hU hhU l0 l1 (3004 : Int32) g21 k_l0 h
      · have h := ite_f c19 h
        refine SF_sipush (3003 : Int32) 90 dX12_readUnit_87 rfl rfl ?_
        refine SF_goto 111 dX12_readUnit_90 rfl ?_
        exact w_X12_readUnit_111 hd hdh hS hhS hT hhT hU hhU l0 l1 (3003 : Int32) g16 k_l0 h
    · have h := ite_f c10 h
      refine SF_aload_n 0 43 dX12_readUnit_42 rfl rfl rfl ?_
      refine SF_iload_n 1 44 dX12_readUnit_43 rfl rfl rfl ?_
      obtain ⟨v25, g26, q27, h⟩ := bd_some h
      have s28 := w_X12_goesIn (X := X) (Nat.le_refl 6) l0 l1 g7 g26 v25 k_l0 q27
      refine SF_callVb 47 mi_X12_goesIn ml_X12_149 dX12_readUnit_44 (Nat.le_trans (by decide) hd) s28 k_l0.1 rfl rfl (Nat.le_of_ble_eq_true rfl) rfl ?_
      have k_l0 := k_l0.ext s28.1
      refine SF_ifne 51 50 dX12_readUnit_47 rfl rfl (fun c29 => ?_) (fun c29 => ?_)
      · have h := ite_f c29 h
        refine SF_aload_n 0 52 dX12_readUnit_51 rfl rfl rfl ?_
        refine SF_iload_n 1 53 dX12_readUnit_52 rfl rfl rfl ?_
        refine SF_iconst (1 : Int32) 54 dX12_readUnit_53 rfl rfl ?_
        refine SF_iadd 55 dX12_readUnit_54 rfl ?_
        obtain ⟨v30, g31, q32, h⟩ := bd_some h
        have s33 := hhT l0 (l1 + (1 : Int32)) g26 g31 v30 k_l0 q32
        refine SF_callVv 58 mi_X12_readTruth ml_X12_167 dX12_readUnit_55 (by omega) s33 k_l0.1 rfl rfl (Nat.le_of_ble_eq_true rfl) rfl ?_
        have k_l0 := k_l0.ext s33.1
        refine SF_aload_n 0 59 dX12_readUnit_58 rfl rfl rfl ?_
        refine SF_bipush (38 : Int32) 61 dX12_readUnit_59 rfl rfl ?_
        obtain ⟨v34, g35, q36, h⟩ := bd_some h
        have s37 := w_X12_eats (X := X) (Nat.le_refl 6) l0 (38 : Int32) g31 g35 v34 k_l0 q36
        refine SF_callVb 64 mi_X12_eats ml_X12_155 dX12_readUnit_61 (Nat.le_trans (by decide) hd) s37 k_l0.1 rfl rfl (Nat.le_of_ble_eq_true rfl) rfl ?_
        have k_l0 := k_l0.ext s37.1
        refine SF_ifne 72 67 dX12_readUnit_64 rfl rfl (fun c38 => ?_) (fun c38 => ?_)
        · have h := ite_f c38 h
          exact RT_v rfl dX12_readUnit_72 h
        · have h := ite_t c38 h
          refine SF_aload_n 0 68 dX12_readUnit_67 rfl rfl rfl ?_
          refine SF_iconst (2 : Int32) 69 dX12_readUnit_68 rfl rfl ?_
          obtain ⟨v39, g40, q41, h⟩ := bd_some h
          have s42 := w_X12_fails (X := X) (Nat.le_refl 0) l0 (2 : Int32) g35 g40 v39 k_l0 q41
          refine SF_callVv 72 mi_X12_fails ml_X12_135 dX12_readUnit_69 (Nat.le_trans (by decide) hd) s42 k_l0.1 rfl rfl (Nat.le_of_ble_eq_true rfl) rfl ?_
          have k_l0 := k_l0.ext s42.1
          exact RT_v rfl dX12_readUnit_72 h
      · have h := ite_t c29 h
        exact RT_v rfl dX12_readUnit_50 h
  · have h := ite_f c5 h
    refine SF_aload_n 0 10 dX12_readUnit_9 rfl rfl rfl ?_
    refine SF_iload_n 1 11 dX12_readUnit_10 rfl rfl rfl ?_
    obtain ⟨v43, g44, q45, h⟩ := bd_some h
    have s46 := w_X12_goesIn (X := X) (Nat.le_refl 6) l0 l1 g2 g44 v43 k_l0 q45
    refine SF_callVb 14 mi_X12_goesIn ml_X12_149 dX12_readUnit_11 (Nat.le_trans (by decide) hd) s46 k_l0.1 rfl rfl (Nat.le_of_ble_eq_true rfl) rfl ?_
    have k_l0 := k_l0.ext s46.1
    refine SF_ifne 18 17 dX12_readUnit_14 rfl rfl (fun c47 => ?_) (fun c47 => ?_)
    · have h := ite_f c47 h
      refine SF_aload_n 0 19 dX12_readUnit_18 rfl rfl rfl ?_
      refine SF_iload_n 1 20 dX12_readUnit_19 rfl rfl rfl ?_
      refine SF_iconst (1 : Int32) 21 dX12_readUnit_20 rfl rfl ?_
      refine SF_iadd 22 dX12_readUnit_21 rfl ?_
      obtain ⟨v48, g49, q50, h⟩ := bd_some h
      have s51 := hhU l0 (l1 + (1 : Int32)) g44 g49 v48 k_l0 q50
      refine SF_callVv 25 mi_X12_readUnit ml_X12_164 dX12_readUnit_22 (by omega) s51 k_l0.1 rfl rfl (Nat.le_of_ble_eq_true rfl) rfl ?_
      have k_l0 := k_l0.ext s51.1
      refine SF_aload_n 0 26 dX12_readUnit_25 rfl rfl rfl ?_
      refine SF_sipush (3006 : Int32) 29 dX12_readUnit_26 rfl rfl ?_
      obtain ⟨v52, g53, q54, h⟩ := bd_some h
      have s55 := w_X12_codes (X := X) (Nat.le_refl 0) l0 (3006 : Int32) g49 g53 v52 k_l0 q54
      refine SF_callVv 32 mi_X12_codes ml_X12_143 dX12_readUnit_29 (Nat.le_trans (by decide) hd) s55 k_l0.1 rfl rfl (Nat.le_of_ble_eq_true rfl) rfl ?_
      have k_l0 := k_l0.ext s55.1
      exact RT_v rfl dX12_readUnit_32 h
    · have h := ite_t c47 h
      exact RT_v rfl dX12_readUnit_17 h

theorem dX12_readBoth_0 : decode cX12_readBoth 0 = .ok (.aload_n 0, 1) := by decide +kernel
theorem dX12_readBoth_1 : decode cX12_readBoth 1 = .ok (.iload_n 1, 1) := by decide +kernel
theorem dX12_readBoth_2 : decode cX12_readBoth 2 = .ok (.invokevirtual 164, 3) := by decide +kernel
theorem dX12_readBoth_5 : decode cX12_readBoth 5 = .ok (.aload_n 0, 1) := by decide +kernel
theorem dX12_readBoth_6 : decode cX12_readBoth 6 = .ok (.bipush 12, 2) := by decide +kernel
theorem dX12_readBoth_8 : decode cX12_readBoth 8 = .ok (.invokevirtual 155, 3) := by decide +kernel
theorem dX12_readBoth_11 : decode cX12_readBoth 11 = .ok (.ifCond .eq 18, 3) := by decide +kernel
theorem dX12_readBoth_14 : decode cX12_readBoth 14 = .ok (.aload_n 0, 1) := by decide +kernel
theorem dX12_readBoth_15 : decode cX12_readBoth 15 = .ok (.iload_n 1, 1) := by decide +kernel
theorem dX12_readBoth_16 : decode cX12_readBoth 16 = .ok (.invokevirtual 164, 3) := by decide +kernel
theorem dX12_readBoth_19 : decode cX12_readBoth 19 = .ok (.aload_n 0, 1) := by decide +kernel
theorem dX12_readBoth_20 : decode cX12_readBoth 20 = .ok (.sipush 3007, 3) := by decide +kernel
theorem dX12_readBoth_23 : decode cX12_readBoth 23 = .ok (.invokevirtual 143, 3) := by decide +kernel
theorem dX12_readBoth_26 : decode cX12_readBoth 26 = .ok (.goto (-21), 3) := by decide +kernel
theorem dX12_readBoth_29 : decode cX12_readBoth 29 = .ok (.return_, 1) := by decide +kernel
set_option maxRecDepth 20000 in
set_option maxHeartbeats 2000000 in
theorem w_X12_readBoth_5 {X : CX} {d : Nat} {dh : Nat} (hd : 11 ≤ d) (hdh : dh + 5 ≤ d) (hS : Nat → Int32 → G → Option (Unit × G)) (hhS : ∀ (a0 : Nat) (a1 : Int32) (g g1 : G) (rx : Unit), KD g a0 12 → hS a0 a1 g = some (rx, g1) → Sem X m_X12_readSum dh [.ref (ad X a0), .int a1] g none g1) (hT : Nat → Int32 → G → Option (Unit × G)) (hhT : ∀ (a0 : Nat) (a1 : Int32) (g g1 : G) (rx : Unit), KD g a0 12 → hT a0 a1 g = some (rx, g1) → Sem X m_X12_readTruth dh [.ref (ad X a0), .int a1] g none g1) (hU : Nat → Int32 → G → Option (Unit × G)) (hhU : ∀ (a0 : Nat) (a1 : Int32) (g g1 : G) (rx : Unit), KD g a0 12 → hU a0 a1 g = some (rx, g1) → Sem X m_X12_readUnit dh [.ref (ad X a0), .int a1] g none g1) {g' : G} {rx : Unit} : ∀ (n : Nat) (l0 : Nat) (l1 : Int32) (g : G), KD g l0 12 → f_X12_readBoth_5 hS hT hU n l0 l1 g = some (rx, g') → SemF X m_X12_readBoth d 5 [(0, .ref (ad X l0)), (1, .int l1)] [] g none g' := by
  intro n
  induction n with
  | zero =>
    intro l0 l1 g k_l0 h
    rw [f_X12_readBoth_5] at h
    cases h
  | succ n ih =>
  intro l0 l1 g k_l0 h
  rw [f_X12_readBoth_5] at h
  refine SF_aload_n 0 6 dX12_readBoth_5 rfl rfl rfl ?_
  refine SF_bipush (12 : Int32) 8 dX12_readBoth_6 rfl rfl ?_
  obtain ⟨v1, g2, q3, h⟩ := bd_some h
  have s4 := w_X12_eats (X := X) (Nat.le_refl 6) l0 (12 : Int32) g g2 v1 k_l0 q3
  refine SF_callVb 11 mi_X12_eats ml_X12_155 dX12_readBoth_8 (Nat.le_trans (by decide) hd) s4 k_l0.1 rfl rfl (Nat.le_of_ble_eq_true rfl) rfl ?_
  have k_l0 := k_l0.ext s4.1
  refine SF_ifeq 29 14 dX12_readBoth_11 rfl rfl (fun c5 => ?_) (fun c5 => ?_)
  · have h := ite_t c5 h
    exact RT_v rfl dX12_readBoth_29 h
  · have h := ite_f c5 h
    refine SF_aload_n 0 15 dX12_readBoth_14 rfl rfl rfl ?_
    refine SF_iload_n 1 16 dX12_readBoth_15 rfl rfl rfl ?_
    obtain ⟨v6, g7, q8, h⟩ := bd_some h
    have s9 := w_X12_readUnit (d := d - 1) (dh := dh) (by omega) (by omega) hS hhS hT hhT hU hhU l0 l1 g2 g7 v6 k_l0 q8
    refine SF_callVv 19 mi_X12_readUnit ml_X12_164 dX12_readBoth_16 (by omega) s9 k_l0.1 rfl rfl (Nat.le_of_ble_eq_true rfl) rfl ?_
    have k_l0 := k_l0.ext s9.1
    refine SF_aload_n 0 20 dX12_readBoth_19 rfl rfl rfl ?_
    refine SF_sipush (3007 : Int32) 23 dX12_readBoth_20 rfl rfl ?_
    obtain ⟨v10, g11, q12, h⟩ := bd_some h
    have s13 := w_X12_codes (X := X) (Nat.le_refl 0) l0 (3007 : Int32) g7 g11 v10 k_l0 q12
    refine SF_callVv 26 mi_X12_codes ml_X12_143 dX12_readBoth_23 (Nat.le_trans (by decide) hd) s13 k_l0.1 rfl rfl (Nat.le_of_ble_eq_true rfl) rfl ?_
    have k_l0 := k_l0.ext s13.1
    refine SF_goto 5 dX12_readBoth_26 rfl ?_
    exact ih l0 l1 g11 k_l0 h

set_option maxRecDepth 20000 in
set_option maxHeartbeats 2000000 in
theorem w_X12_readBoth {X : CX} {d : Nat} {dh : Nat} (hd : 11 ≤ d) (hdh : dh + 5 ≤ d) (hS : Nat → Int32 → G → Option (Unit × G)) (hhS : ∀ (a0 : Nat) (a1 : Int32) (g g1 : G) (rx : Unit), KD g a0 12 → hS a0 a1 g = some (rx, g1) → Sem X m_X12_readSum dh [.ref (ad X a0), .int a1] g none g1) (hT : Nat → Int32 → G → Option (Unit × G)) (hhT : ∀ (a0 : Nat) (a1 : Int32) (g g1 : G) (rx : Unit), KD g a0 12 → hT a0 a1 g = some (rx, g1) → Sem X m_X12_readTruth dh [.ref (ad X a0), .int a1] g none g1) (hU : Nat → Int32 → G → Option (Unit × G)) (hhU : ∀ (a0 : Nat) (a1 : Int32) (g g1 : G) (rx : Unit), KD g a0 12 → hU a0 a1 g = some (rx, g1) → Sem X m_X12_readUnit dh [.ref (ad X a0), .int a1] g none g1) (l0 : Nat) (l1 : Int32) (g g' : G) (rx : Unit) (k_l0 : KD g l0 12) (h : f_X12_readBoth hS hT hU l0 l1 g = some (rx, g')) : Sem X m_X12_readBoth d [.ref (ad X l0), .int l1] g none g' := by
  refine Sem_of (lo := [(0, .ref (ad X l0)), (1, .int l1)]) (by decide +kernel) rfl (Nat.le_of_ble_eq_true rfl) ?_
  rw [f_X12_readBoth] at h
  refine SF_aload_n 0 1 dX12_readBoth_0 rfl rfl rfl ?_
  refine SF_iload_n 1 2 dX12_readBoth_1 rfl rfl rfl ?_
  obtain ⟨v1, g2, q3, h⟩ := bd_some h
  have s4 := w_X12_readUnit (d := d - 1) (dh := dh) (by omega) (by omega) hS hhS hT hhT hU hhU l0 l1 g g2 v1 k_l0 q3
  refine SF_callVv 5 mi_X12_readUnit ml_X12_164 dX12_readBoth_2 (by omega) s4 k_l0.1 rfl rfl (Nat.le_of_ble_eq_true rfl) rfl ?_
  have k_l0 := k_l0.ext s4.1
  exact w_X12_readBoth_5 hd hdh hS hhS hT hhT hU hhU FU l0 l1 g2 k_l0 h

theorem dX12_readTruth_0 : decode cX12_readTruth 0 = .ok (.aload_n 0, 1) := by decide +kernel
theorem dX12_readTruth_1 : decode cX12_readTruth 1 = .ok (.iload_n 1, 1) := by decide +kernel
theorem dX12_readTruth_2 : decode cX12_readTruth 2 = .ok (.invokevirtual 170, 3) := by decide +kernel
theorem dX12_readTruth_5 : decode cX12_readTruth 5 = .ok (.aload_n 0, 1) := by decide +kernel
theorem dX12_readTruth_6 : decode cX12_readTruth 6 = .ok (.bipush 13, 2) := by decide +kernel
theorem dX12_readTruth_8 : decode cX12_readTruth 8 = .ok (.invokevirtual 155, 3) := by decide +kernel
theorem dX12_readTruth_11 : decode cX12_readTruth 11 = .ok (.ifCond .eq 18, 3) := by decide +kernel
theorem dX12_readTruth_14 : decode cX12_readTruth 14 = .ok (.aload_n 0, 1) := by decide +kernel
theorem dX12_readTruth_15 : decode cX12_readTruth 15 = .ok (.iload_n 1, 1) := by decide +kernel
theorem dX12_readTruth_16 : decode cX12_readTruth 16 = .ok (.invokevirtual 170, 3) := by decide +kernel
theorem dX12_readTruth_19 : decode cX12_readTruth 19 = .ok (.aload_n 0, 1) := by decide +kernel
theorem dX12_readTruth_20 : decode cX12_readTruth 20 = .ok (.sipush 3008, 3) := by decide +kernel
theorem dX12_readTruth_23 : decode cX12_readTruth 23 = .ok (.invokevirtual 143, 3) := by decide +kernel
theorem dX12_readTruth_26 : decode cX12_readTruth 26 = .ok (.goto (-21), 3) := by decide +kernel
theorem dX12_readTruth_29 : decode cX12_readTruth 29 = .ok (.return_, 1) := by decide +kernel
set_option maxRecDepth 20000 in
set_option maxHeartbeats 2000000 in
theorem w_X12_readTruth_5 {X : CX} {d : Nat} {dh : Nat} (hd : 12 ≤ d) (hdh : dh + 6 ≤ d) (hS : Nat → Int32 → G → Option (Unit × G)) (hhS : ∀ (a0 : Nat) (a1 : Int32) (g g1 : G) (rx : Unit), KD g a0 12 → hS a0 a1 g = some (rx, g1) → Sem X m_X12_readSum dh [.ref (ad X a0), .int a1] g none g1) (hT : Nat → Int32 → G → Option (Unit × G)) (hhT : ∀ (a0 : Nat) (a1 : Int32) (g g1 : G) (rx : Unit), KD g a0 12 → hT a0 a1 g = some (rx, g1) → Sem X m_X12_readTruth dh [.ref (ad X a0), .int a1] g none g1) (hU : Nat → Int32 → G → Option (Unit × G)) (hhU : ∀ (a0 : Nat) (a1 : Int32) (g g1 : G) (rx : Unit), KD g a0 12 → hU a0 a1 g = some (rx, g1) → Sem X m_X12_readUnit dh [.ref (ad X a0), .int a1] g none g1) {g' : G} {rx : Unit} : ∀ (n : Nat) (l0 : Nat) (l1 : Int32) (g : G), KD g l0 12 → f_X12_readTruth_5 hS hT hU n l0 l1 g = some (rx, g') → SemF X m_X12_readTruth d 5 [(0, .ref (ad X l0)), (1, .int l1)] [] g none g' := by
  intro n
  induction n with
  | zero =>
    intro l0 l1 g k_l0 h
    rw [f_X12_readTruth_5] at h
    cases h
  | succ n ih =>
  intro l0 l1 g k_l0 h
  rw [f_X12_readTruth_5] at h
  refine SF_aload_n 0 6 dX12_readTruth_5 rfl rfl rfl ?_
  refine SF_bipush (13 : Int32) 8 dX12_readTruth_6 rfl rfl ?_
  obtain ⟨v1, g2, q3, h⟩ := bd_some h
  have s4 := w_X12_eats (X := X) (Nat.le_refl 6) l0 (13 : Int32) g g2 v1 k_l0 q3
  refine SF_callVb 11 mi_X12_eats ml_X12_155 dX12_readTruth_8 (Nat.le_trans (by decide) hd) s4 k_l0.1 rfl rfl (Nat.le_of_ble_eq_true rfl) rfl ?_
  have k_l0 := k_l0.ext s4.1
  refine SF_ifeq 29 14 dX12_readTruth_11 rfl rfl (fun c5 => ?_) (fun c5 => ?_)
  · have h := ite_t c5 h
    exact RT_v rfl dX12_readTruth_29 h
  · have h := ite_f c5 h
    refine SF_aload_n 0 15 dX12_readTruth_14 rfl rfl rfl ?_
    refine SF_iload_n 1 16 dX12_readTruth_15 rfl rfl rfl ?_
    obtain ⟨v6, g7, q8, h⟩ := bd_some h
    have s9 := w_X12_readBoth (d := d - 1) (dh := dh) (by omega) (by omega) hS hhS hT hhT hU hhU l0 l1 g2 g7 v6 k_l0 q8
    refine SF_callVv 19 mi_X12_readBoth ml_X12_170 dX12_readTruth_16 (by omega) s9 k_l0.1 rfl rfl (Nat.le_of_ble_eq_true rfl) rfl ?_
    have k_l0 := k_l0.ext s9.1
    refine SF_aload_n 0 20 dX12_readTruth_19 rfl rfl rfl ?_
    refine SF_sipush (3008 : Int32) 23 dX12_readTruth_20 rfl rfl ?_
    obtain ⟨v10, g11, q12, h⟩ := bd_some h
    have s13 := w_X12_codes (X := X) (Nat.le_refl 0) l0 (3008 : Int32) g7 g11 v10 k_l0 q12
    refine SF_callVv 26 mi_X12_codes ml_X12_143 dX12_readTruth_23 (Nat.le_trans (by decide) hd) s13 k_l0.1 rfl rfl (Nat.le_of_ble_eq_true rfl) rfl ?_
    have k_l0 := k_l0.ext s13.1
    refine SF_goto 5 dX12_readTruth_26 rfl ?_
    exact ih l0 l1 g11 k_l0 h

set_option maxRecDepth 20000 in
set_option maxHeartbeats 2000000 in
theorem w_X12_readTruth {X : CX} {d : Nat} {dh : Nat} (hd : 12 ≤ d) (hdh : dh + 6 ≤ d) (hS : Nat → Int32 → G → Option (Unit × G)) (hhS : ∀ (a0 : Nat) (a1 : Int32) (g g1 : G) (rx : Unit), KD g a0 12 → hS a0 a1 g = some (rx, g1) → Sem X m_X12_readSum dh [.ref (ad X a0), .int a1] g none g1) (hT : Nat → Int32 → G → Option (Unit × G)) (hhT : ∀ (a0 : Nat) (a1 : Int32) (g g1 : G) (rx : Unit), KD g a0 12 → hT a0 a1 g = some (rx, g1) → Sem X m_X12_readTruth dh [.ref (ad X a0), .int a1] g none g1) (hU : Nat → Int32 → G → Option (Unit × G)) (hhU : ∀ (a0 : Nat) (a1 : Int32) (g g1 : G) (rx : Unit), KD g a0 12 → hU a0 a1 g = some (rx, g1) → Sem X m_X12_readUnit dh [.ref (ad X a0), .int a1] g none g1) (l0 : Nat) (l1 : Int32) (g g' : G) (rx : Unit) (k_l0 : KD g l0 12) (h : f_X12_readTruth hS hT hU l0 l1 g = some (rx, g')) : Sem X m_X12_readTruth d [.ref (ad X l0), .int l1] g none g' := by
  refine Sem_of (lo := [(0, .ref (ad X l0)), (1, .int l1)]) (by decide +kernel) rfl (Nat.le_of_ble_eq_true rfl) ?_
  rw [f_X12_readTruth] at h
  refine SF_aload_n 0 1 dX12_readTruth_0 rfl rfl rfl ?_
  refine SF_iload_n 1 2 dX12_readTruth_1 rfl rfl rfl ?_
  obtain ⟨v1, g2, q3, h⟩ := bd_some h
  have s4 := w_X12_readBoth (d := d - 1) (dh := dh) (by omega) (by omega) hS hhS hT hhT hU hhU l0 l1 g g2 v1 k_l0 q3
  refine SF_callVv 5 mi_X12_readBoth ml_X12_170 dX12_readTruth_2 (by omega) s4 k_l0.1 rfl rfl (Nat.le_of_ble_eq_true rfl) rfl ?_
  have k_l0 := k_l0.ext s4.1
  exact w_X12_readTruth_5 hd hdh hS hhS hT hhT hU hhU FU l0 l1 g2 k_l0 h

theorem w_R_X12 (X : CX) : ∀ (n : Nat), (∀ (a0 : Nat) (a1 : Int32) (g g1 : G) (rx : Unit), KD g a0 12 → (R_X12 n).1 a0 a1 g = some (rx, g1) → Sem X m_X12_readSum (12 + 6 * n) [.ref (ad X a0), .int a1] g none g1) ∧ (∀ (a0 : Nat) (a1 : Int32) (g g1 : G) (rx : Unit), KD g a0 12 → (R_X12 n).2.1 a0 a1 g = some (rx, g1) → Sem X m_X12_readTruth (12 + 6 * n) [.ref (ad X a0), .int a1] g none g1) ∧ (∀ (a0 : Nat) (a1 : Int32) (g g1 : G) (rx : Unit), KD g a0 12 → (R_X12 n).2.2 a0 a1 g = some (rx, g1) → Sem X m_X12_readUnit (12 + 6 * n) [.ref (ad X a0), .int a1] g none g1) := by
  intro n
  induction n with
  | zero => exact ⟨fun _ _ _ _ _ _ h => (by cases h), fun _ _ _ _ _ _ h => (by cases h), fun _ _ _ _ _ _ h => (by cases h)⟩
  | succ n ih =>
    refine ⟨fun a0 a1 g g1 rx hk h => ?_, fun a0 a1 g g1 rx hk h => ?_, fun a0 a1 g g1 rx hk h => ?_⟩
    · exact w_X12_readSum (X := X) (d := 12 + 6 * (n + 1)) (dh := 12 + 6 * n) (by omega) (by omega) (R_X12 n).1 ih.1 a0 a1 g g1 rx hk h
    · exact w_X12_readTruth (X := X) (d := 12 + 6 * (n + 1)) (dh := 12 + 6 * n) (by omega) (by omega) (R_X12 n).1 ih.1 (R_X12 n).2.1 ih.2.1 (R_X12 n).2.2 ih.2.2 a0 a1 g g1 rx hk h
    · exact w_X12_readUnit (X := X) (d := 12 + 6 * (n + 1)) (dh := 12 + 6 * n) (by omega) (by omega) (R_X12 n).1 ih.1 (R_X12 n).2.1 ih.2.1 (R_X12 n).2.2 ih.2.2 a0 a1 g g1 rx hk h
theorem w_X12_readSum_T {X : CX} (_ : 60 ≤ 60) (a0 : Nat) (a1 : Int32) (g g1 : G) (rx : Unit) (hk : KD g a0 12) (h : f_X12_readSum_T a0 a1 g = some (rx, g1)) : Sem X m_X12_readSum 60 [.ref (ad X a0), .int a1] g none g1 := (w_R_X12 X 8).1 a0 a1 g g1 rx hk h
theorem w_X12_readTruth_T {X : CX} (_ : 60 ≤ 60) (a0 : Nat) (a1 : Int32) (g g1 : G) (rx : Unit) (hk : KD g a0 12) (h : f_X12_readTruth_T a0 a1 g = some (rx, g1)) : Sem X m_X12_readTruth 60 [.ref (ad X a0), .int a1] g none g1 := (w_R_X12 X 8).2.1 a0 a1 g g1 rx hk h
theorem dX12_common_0 : decode cX12_common 0 = .ok (.lload_n 2, 1) := by decide +kernel
theorem dX12_common_1 : decode cX12_common 1 = .ok (.lconst 0, 1) := by decide +kernel
theorem dX12_common_2 : decode cX12_common 2 = .ok (.lcmp, 1) := by decide +kernel
theorem dX12_common_3 : decode cX12_common 3 = .ok (.ifCond .ne 7, 3) := by decide +kernel
theorem dX12_common_6 : decode cX12_common 6 = .ok (.lload_n 0, 1) := by decide +kernel
theorem dX12_common_7 : decode cX12_common 7 = .ok (.goto 10, 3) := by decide +kernel
theorem dX12_common_10 : decode cX12_common 10 = .ok (.lload_n 2, 1) := by decide +kernel
theorem dX12_common_11 : decode cX12_common 11 = .ok (.lload_n 0, 1) := by decide +kernel
theorem dX12_common_12 : decode cX12_common 12 = .ok (.lload_n 2, 1) := by decide +kernel
theorem dX12_common_13 : decode cX12_common 13 = .ok (.lrem, 1) := by decide +kernel
theorem dX12_common_14 : decode cX12_common 14 = .ok (.invokestatic 471, 3) := by decide +kernel
theorem dX12_common_17 : decode cX12_common 17 = .ok (.lreturn, 1) := by decide +kernel
set_option maxRecDepth 20000 in
set_option maxHeartbeats 2000000 in
theorem w_X12_common {X : CX} {d : Nat} {dh : Nat} (hd : 1 ≤ d) (hdh : dh + 1 ≤ d) (hC : Int64 → Int64 → G → Option (Int64 × G)) (hhC : ∀ (a0 : Int64) (a1 : Int64) (g g1 : G) (rx : Int64), hC a0 a1 g = some (rx, g1) → Sem X m_X12_common dh [.long a0, .long a1] g (some (.long rx)) g1) (l0 : Int64) (l2 : Int64) (g g' : G) (rx : Int64) (h : f_X12_common hC l0 l2 g = some (rx, g')) : Sem X m_X12_common d [.long l0, .long l2] g (some (.long rx)) g' := by
  refine Sem_of (lo := [(0, .long l0), (2, .long l2)]) (by decide +kernel) rfl (Nat.le_of_ble_eq_true rfl) ?_
  rw [f_X12_common] at h
  refine SF_lload_n 1 1 dX12_common_0 rfl rfl rfl ?_
  refine SF_lconst (0 : Int64) 2 dX12_common_1 rfl rfl ?_
  refine SF_lcmp 3 dX12_common_2 rfl ?_
  refine SF_ifne 10 6 dX12_common_3 rfl rfl (fun c1 => ?_) (fun c1 => ?_)
  · have h := ite_f c1 h
    refine SF_lload_n 1 11 dX12_common_10 rfl rfl rfl ?_
    refine SF_lload_n 0 12 dX12_common_11 rfl rfl rfl ?_
    refine SF_lload_n 1 13 dX12_common_12 rfl rfl rfl ?_
    obtain ⟨z2, h⟩ := gdZl_some h
    refine SF_lrem 14 dX12_common_13 z2 rfl ?_
    obtain ⟨v3, g4, q5, h⟩ := bd_some h
    have s6 := hhC l2 (l0 - l0 / l2 * l2) g g4 v3 q5
    refine SF_callSl 17 mi_X12_common ml_X12_471 dX12_common_14 (by omega) s6 rfl rfl (Nat.le_of_ble_eq_true rfl) rfl ?_
    exact RT_l rfl dX12_common_17 h
  · have h := ite_t c1 h
    refine SF_lload_n 0 7 dX12_common_6 rfl rfl rfl ?_
    refine SF_goto 17 dX12_common_7 rfl ?_
    exact RT_l rfl dX12_common_17 h

theorem w_R_C (X : CX) : ∀ (n : Nat) (a0 a1 : Int64) (g g1 : G) (rx : Int64), R_C n a0 a1 g = some (rx, g1) → Sem X m_X12_common (1 + 1 * n) [.long a0, .long a1] g (some (.long rx)) g1 := by
  intro n
  induction n with
  | zero => intro a0 a1 g g1 rx h; cases h
  | succ n ih => intro a0 a1 g g1 rx h; exact w_X12_common (X := X) (d := 1 + 1 * (n + 1)) (dh := 1 + 1 * n) (by omega) (by omega) (R_C n) ih a0 a1 g g1 rx h
theorem w_X12_common_T {X : CX} (_ : 101 ≤ 101) (a0 a1 : Int64) (g g1 : G) (rx : Int64) (h : f_X12_common_T a0 a1 g = some (rx, g1)) : Sem X m_X12_common 101 [.long a0, .long a1] g (some (.long rx)) g1 := w_R_C X 100 a0 a1 g g1 rx h
