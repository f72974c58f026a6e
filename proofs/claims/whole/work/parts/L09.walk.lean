theorem dX1_costTo_0 : decode cX1_costTo 0 = .ok (.aload_n 0, 1) := by decide +kernel
theorem dX1_costTo_1 : decode cX1_costTo 1 = .ok (.aload_n 1, 1) := by decide +kernel
theorem dX1_costTo_2 : decode cX1_costTo 2 = .ok (.iload_n 2, 1) := by decide +kernel
theorem dX1_costTo_3 : decode cX1_costTo 3 = .ok (.iload_n 3, 1) := by decide +kernel
theorem dX1_costTo_4 : decode cX1_costTo 4 = .ok (.invokevirtual 75, 3) := by decide +kernel
theorem dX1_costTo_7 : decode cX1_costTo 7 = .ok (.istore 4, 2) := by decide +kernel
theorem dX1_costTo_9 : decode cX1_costTo 9 = .ok (.iload 4, 2) := by decide +kernel
theorem dX1_costTo_11 : decode cX1_costTo 11 = .ok (.ldc 27, 2) := by decide +kernel
theorem dX1_costTo_13 : decode cX1_costTo 13 = .ok (.if_icmp .ne 7, 3) := by decide +kernel
theorem dX1_costTo_16 : decode cX1_costTo 16 = .ok (.iconst (-1), 1) := by decide +kernel
theorem dX1_costTo_17 : decode cX1_costTo 17 = .ok (.goto 9, 3) := by decide +kernel
theorem dX1_costTo_20 : decode cX1_costTo 20 = .ok (.iload 4, 2) := by decide +kernel
theorem dX1_costTo_22 : decode cX1_costTo 22 = .ok (.sipush 1024, 3) := by decide +kernel
theorem dX1_costTo_25 : decode cX1_costTo 25 = .ok (.idiv, 1) := by decide +kernel
theorem dX1_costTo_26 : decode cX1_costTo 26 = .ok (.ireturn, 1) := by decide +kernel
set_option maxRecDepth 20000 in
set_option maxHeartbeats 2000000 in
theorem w_X1_costTo {X : CX} {d : Nat} (hd : 3 ≤ d) (l0 : Nat) (l1 : Nat) (l2 : Int32) (l3 : Int32) (g g' : G) (rx : Int32) (k_l0 : KD g l0 1) (k_l1 : KD g l1 4) (h : f_X1_costTo l0 l1 l2 l3 g = some (rx, g')) : Sem X m_X1_costTo d [.ref (ad X l0), .ref (ad X l1), .int l2, .int l3] g (some (.int rx)) g' := by
  refine Sem_of (lo := [(0, .ref (ad X l0)), (1, .ref (ad X l1)), (2, .int l2), (3, .int l3)]) (by decide +kernel) rfl (Nat.le_of_ble_eq_true rfl) ?_
  rw [f_X1_costTo] at h
  refine SF_aload_n 0 1 dX1_costTo_0 rfl rfl rfl ?_
  refine SF_aload_n 1 2 dX1_costTo_1 rfl rfl rfl ?_
  refine SF_iload_n 2 3 dX1_costTo_2 rfl rfl rfl ?_
  refine SF_iload_n 3 4 dX1_costTo_3 rfl rfl rfl ?_
  obtain ⟨v1, g2, q3, h⟩ := bd_some h
  have s4 := w_X1_lengthTo (X := X) (Nat.le_refl 2) l0 l1 l2 l3 g g2 v1 k_l0 k_l1 q3
  refine SF_callVi 7 mi_X1_lengthTo ml_X1_75 dX1_costTo_4 (Nat.le_trans (by decide) hd) s4 k_l0.1 rfl rfl (Nat.le_of_ble_eq_true rfl) rfl ?_
  have k_l0 := k_l0.ext s4.1
  have k_l1 := k_l1.ext s4.1
  refine SF_istore [(4, .int v1), (0, .ref (ad X l0)), (1, .ref (ad X l1)), (2, .int l2), (3, .int l3)] 9 dX1_costTo_7 (by decide) rfl rfl ?_
  refine SF_iload 0 11 dX1_costTo_9 rfl rfl ?_
  refine SF_ldc 13 dX1_costTo_11 ki_X1_27 rfl ?_
  refine SF_icne 20 16 dX1_costTo_13 rfl rfl (fun c5 => ?_) (fun c5 => ?_)
  · have h := ite_f c5 h
    refine SF_iload 0 22 dX1_costTo_20 rfl rfl ?_
    refine SF_sipush (1024 : Int32) 25 dX1_costTo_22 rfl rfl ?_
    refine SF_idiv 26 dX1_costTo_25 (by decide) rfl ?_
    exact RT_i rfl dX1_costTo_26 h
  · have h := ite_t c5 h
    refine SF_iconst (-1 : Int32) 17 dX1_costTo_16 rfl rfl ?_
    refine SF_goto 26 dX1_costTo_17 rfl ?_
    exact RT_i rfl dX1_costTo_26 h

theorem dX11_cheapest_0 : decode cX11_cheapest 0 = .ok (.aload_n 0, 1) := by decide +kernel
theorem dX11_cheapest_1 : decode cX11_cheapest 1 = .ok (.iload_n 1, 1) := by decide +kernel
theorem dX11_cheapest_2 : decode cX11_cheapest 2 = .ok (.iload_n 2, 1) := by decide +kernel
theorem dX11_cheapest_3 : decode cX11_cheapest 3 = .ok (.iload_n 3, 1) := by decide +kernel
theorem dX11_cheapest_4 : decode cX11_cheapest 4 = .ok (.invokevirtual 255, 3) := by decide +kernel
theorem dX11_cheapest_7 : decode cX11_cheapest 7 = .ok (.ifCond .ne 6, 3) := by decide +kernel
theorem dX11_cheapest_10 : decode cX11_cheapest 10 = .ok (.bipush (-2), 2) := by decide +kernel
theorem dX11_cheapest_12 : decode cX11_cheapest 12 = .ok (.ireturn, 1) := by decide +kernel
theorem dX11_cheapest_13 : decode cX11_cheapest 13 = .ok (.aload_n 0, 1) := by decide +kernel
theorem dX11_cheapest_14 : decode cX11_cheapest 14 = .ok (.iload_n 1, 1) := by decide +kernel
theorem dX11_cheapest_15 : decode cX11_cheapest 15 = .ok (.invokevirtual 259, 3) := by decide +kernel
theorem dX11_cheapest_18 : decode cX11_cheapest 18 = .ok (.astore 4, 2) := by decide +kernel
theorem dX11_cheapest_20 : decode cX11_cheapest 20 = .ok (.aload_n 0, 1) := by decide +kernel
theorem dX11_cheapest_21 : decode cX11_cheapest 21 = .ok (.iload_n 1, 1) := by decide +kernel
theorem dX11_cheapest_22 : decode cX11_cheapest 22 = .ok (.invokevirtual 275, 3) := by decide +kernel
theorem dX11_cheapest_25 : decode cX11_cheapest 25 = .ok (.aload_n 0, 1) := by decide +kernel
theorem dX11_cheapest_26 : decode cX11_cheapest 26 = .ok (.getfield 33, 3) := by decide +kernel
theorem dX11_cheapest_29 : decode cX11_cheapest 29 = .ok (.aload 4, 2) := by decide +kernel
theorem dX11_cheapest_31 : decode cX11_cheapest 31 = .ok (.iload_n 2, 1) := by decide +kernel
theorem dX11_cheapest_32 : decode cX11_cheapest 32 = .ok (.iload_n 3, 1) := by decide +kernel
theorem dX11_cheapest_33 : decode cX11_cheapest 33 = .ok (.invokevirtual 278, 3) := by decide +kernel
theorem dX11_cheapest_36 : decode cX11_cheapest 36 = .ok (.ireturn, 1) := by decide +kernel
set_option maxRecDepth 20000 in
set_option maxHeartbeats 2000000 in
theorem w_X11_cheapest {X : CX} {d : Nat} (hd : 7 ≤ d) (l0 : Nat) (l1 : Int32) (l2 : Int32) (l3 : Int32) (g g' : G) (rx : Int32) (k_l0 : KD g l0 11) (h : f_X11_cheapest l0 l1 l2 l3 g = some (rx, g')) : Sem X m_X11_cheapest d [.ref (ad X l0), .int l1, .int l2, .int l3] g (some (.int rx)) g' := by
  refine Sem_of (lo := [(0, .ref (ad X l0)), (1, .int l1), (2, .int l2), (3, .int l3)]) (by decide +kernel) rfl (Nat.le_of_ble_eq_true rfl) ?_
  rw [f_X11_cheapest] at h
  refine SF_aload_n 0 1 dX11_cheapest_0 rfl rfl rfl ?_
  refine SF_iload_n 1 2 dX11_cheapest_1 rfl rfl rfl ?_
  refine SF_iload_n 2 3 dX11_cheapest_2 rfl rfl rfl ?_
  refine SF_iload_n 3 4 dX11_cheapest_3 rfl rfl rfl ?_
  obtain ⟨v1, g2, q3, h⟩ := bd_some h
  have s4 := w_X11_isGoal (X := X) (Nat.le_refl 2) l0 l1 l2 l3 g g2 v1 k_l0 q3
  refine SF_callVb 7 mi_X11_isGoal ml_X11_255 dX11_cheapest_4 (Nat.le_trans (by decide) hd) s4 k_l0.1 rfl rfl (Nat.le_of_ble_eq_true rfl) rfl ?_
  have k_l0 := k_l0.ext s4.1
  refine SF_ifne 13 10 dX11_cheapest_7 rfl rfl (fun c5 => ?_) (fun c5 => ?_)
  · have h := ite_f c5 h
    refine SF_aload_n 0 14 dX11_cheapest_13 rfl rfl rfl ?_
    refine SF_iload_n 1 15 dX11_cheapest_14 rfl rfl rfl ?_
    obtain ⟨v6, g7, q8, h⟩ := bd_some h
    have s9 := w_X11_graphOf (X := X) (Nat.le_refl 6) l0 l1 g2 g7 v6 k_l0 q8
    refine SF_callVr 18 mi_X11_graphOf ml_X11_259 dX11_cheapest_15 (Nat.le_trans (by decide) hd) s9 k_l0.1 rfl rfl (Nat.le_of_ble_eq_true rfl) rfl ?_
    have k_l0 := k_l0.ext s9.1
    refine SF_astore [(4, .ref (ad X v6)), (0, .ref (ad X l0)), (1, .int l1), (2, .int l2), (3, .int l3)] 20 dX11_cheapest_18 (by decide) rfl rfl ?_
    refine SF_aload_n 1 21 dX11_cheapest_20 rfl rfl rfl ?_
    refine SF_iload_n 2 22 dX11_cheapest_21 rfl rfl rfl ?_
    obtain ⟨v10, g11, q12, h⟩ := bd_some h
    have s13 := w_X11_prepareCheap (X := X) (Nat.le_refl 6) l0 l1 g7 g11 v10 k_l0 q12
    refine SF_callVv 25 mi_X11_prepareCheap ml_X11_275 dX11_cheapest_22 (Nat.le_trans (by decide) hd) s13 k_l0.1 rfl rfl (Nat.le_of_ble_eq_true rfl) rfl ?_
    have k_l0 := k_l0.ext s13.1
    refine SF_aload_n 1 26 dX11_cheapest_25 rfl rfl rfl ?_
    obtain ⟨b14, r15, h⟩ := dr_some h
    refine SF_getR 29 fl_X11_33 dX11_cheapest_26 k_l0.1 r15 rfl ?_
    refine SF_aload 0 31 dX11_cheapest_29 rfl rfl ?_
    refine SF_iload_n 3 32 dX11_cheapest_31 rfl rfl rfl ?_
    refine SF_iload_n 4 33 dX11_cheapest_32 rfl rfl rfl ?_
    obtain ⟨k16, h⟩ := gdK_some h
    obtain ⟨k17, h⟩ := gdK_some h
    obtain ⟨v18, g19, q20, h⟩ := bd_some h
    have s21 := w_X1_costTo (X := X) (Nat.le_refl 3) b14 v6 l2 l3 g11 g19 v18 k16 k17 q20
    refine SF_callVi 36 mi_X1_costTo ml_X11_278 dX11_cheapest_33 (Nat.le_trans (by decide) hd) s21 k16.1 rfl rfl (Nat.le_of_ble_eq_true rfl) rfl ?_
    have k_l0 := k_l0.ext s21.1
    have k16 := k16.ext s21.1
    have k17 := k17.ext s21.1
    exact RT_i rfl dX11_cheapest_36 h
  · have h := ite_t c5 h
    refine SF_bipush (-2 : Int32) 12 dX11_cheapest_10 rfl rfl ?_
    exact RT_i rfl dX11_cheapest_12 h

theorem dX12_cheapest_0 : decode cX12_cheapest 0 = .ok (.aload_n 0, 1) := by decide +kernel
theorem dX12_cheapest_1 : decode cX12_cheapest 1 = .ok (.iconst 0, 1) := by decide +kernel
theorem dX12_cheapest_2 : decode cX12_cheapest 2 = .ok (.putfield 1, 3) := by decide +kernel
theorem dX12_cheapest_5 : decode cX12_cheapest 5 = .ok (.aload_n 0, 1) := by decide +kernel
theorem dX12_cheapest_6 : decode cX12_cheapest 6 = .ok (.iload_n 1, 1) := by decide +kernel
theorem dX12_cheapest_7 : decode cX12_cheapest 7 = .ok (.iload_n 2, 1) := by decide +kernel
theorem dX12_cheapest_8 : decode cX12_cheapest 8 = .ok (.iload_n 3, 1) := by decide +kernel
theorem dX12_cheapest_9 : decode cX12_cheapest 9 = .ok (.iconst 1, 1) := by decide +kernel
theorem dX12_cheapest_10 : decode cX12_cheapest 10 = .ok (.invokevirtual 389, 3) := by decide +kernel
theorem dX12_cheapest_13 : decode cX12_cheapest 13 = .ok (.ireturn, 1) := by decide +kernel
set_option maxRecDepth 20000 in
set_option maxHeartbeats 2000000 in
theorem w_X12_cheapest {X : CX} {d : Nat} (hd : 8 ≤ d) (l0 : Nat) (l1 : Int32) (l2 : Int32) (l3 : Int32) (g g' : G) (rx : Int32) (k_l0 : KD g l0 12) (h : f_X12_cheapest l0 l1 l2 l3 g = some (rx, g')) : Sem X m_X12_cheapest d [.ref (ad X l0), .int l1, .int l2, .int l3] g (some (.int rx)) g' := by
  refine Sem_of (lo := [(0, .ref (ad X l0)), (1, .int l1), (2, .int l2), (3, .int l3)]) (by decide +kernel) rfl (Nat.le_of_ble_eq_true rfl) ?_
  rw [f_X12_cheapest] at h
  refine SF_aload_n 0 1 dX12_cheapest_0 rfl rfl rfl ?_
  refine SF_iconst (0 : Int32) 2 dX12_cheapest_1 rfl rfl ?_
  refine SF_putI 5 fl_X12_1 dX12_cheapest_2 k_l0.1 (fn_int _) (Or.inl rfl) rfl ?_
  obtain ⟨g1, e2, h⟩ := lg_some h
  rw [← e2]
  have k_l0 := KD.eq e2 k_l0
  refine SF_aload_n 0 6 dX12_cheapest_5 rfl rfl rfl ?_
  refine SF_iload_n 1 7 dX12_cheapest_6 rfl rfl rfl ?_
  refine SF_iload_n 2 8 dX12_cheapest_7 rfl rfl rfl ?_
  refine SF_iload_n 3 9 dX12_cheapest_8 rfl rfl rfl ?_
  refine SF_iconst (1 : Int32) 10 dX12_cheapest_9 rfl rfl ?_
  obtain ⟨v3, g4, q5, h⟩ := bd_some h
  have s6 := w_X12_comes (X := X) (Nat.le_refl 7) l0 l1 l2 l3 (1 : Int32) g1 g4 v3 k_l0 q5
  refine SF_callVi 13 mi_X12_comes ml_X12_389 dX12_cheapest_10 (Nat.le_trans (by decide) hd) s6 k_l0.1 rfl rfl (Nat.le_of_ble_eq_true rfl) rfl ?_
  have k_l0 := k_l0.ext s6.1
  exact RT_i rfl dX12_cheapest_13 h

theorem dX1_leadsOn_0 : decode cX1_leadsOn 0 = .ok (.aload_n 1, 1) := by decide +kernel
theorem dX1_leadsOn_1 : decode cX1_leadsOn 1 = .ok (.iload_n 2, 1) := by decide +kernel
theorem dX1_leadsOn_2 : decode cX1_leadsOn 2 = .ok (.iload_n 3, 1) := by decide +kernel
theorem dX1_leadsOn_3 : decode cX1_leadsOn 3 = .ok (.invokevirtual 53, 3) := by decide +kernel
theorem dX1_leadsOn_6 : decode cX1_leadsOn 6 = .ok (.istore 4, 2) := by decide +kernel
theorem dX1_leadsOn_8 : decode cX1_leadsOn 8 = .ok (.aload_n 1, 1) := by decide +kernel
theorem dX1_leadsOn_9 : decode cX1_leadsOn 9 = .ok (.iload 4, 2) := by decide +kernel
theorem dX1_leadsOn_11 : decode cX1_leadsOn 11 = .ok (.invokevirtual 59, 3) := by decide +kernel
theorem dX1_leadsOn_14 : decode cX1_leadsOn 14 = .ok (.ifCond .eq 46, 3) := by decide +kernel
theorem dX1_leadsOn_17 : decode cX1_leadsOn 17 = .ok (.aload_n 0, 1) := by decide +kernel
theorem dX1_leadsOn_18 : decode cX1_leadsOn 18 = .ok (.getfield 24, 3) := by decide +kernel
theorem dX1_leadsOn_21 : decode cX1_leadsOn 21 = .ok (.iload 4, 2) := by decide +kernel
theorem dX1_leadsOn_23 : decode cX1_leadsOn 23 = .ok (.iaload, 1) := by decide +kernel
theorem dX1_leadsOn_24 : decode cX1_leadsOn 24 = .ok (.iconst 1, 1) := by decide +kernel
theorem dX1_leadsOn_25 : decode cX1_leadsOn 25 = .ok (.if_icmp .ne 35, 3) := by decide +kernel
theorem dX1_leadsOn_28 : decode cX1_leadsOn 28 = .ok (.aload_n 0, 1) := by decide +kernel
theorem dX1_leadsOn_29 : decode cX1_leadsOn 29 = .ok (.getfield 9, 3) := by decide +kernel
theorem dX1_leadsOn_32 : decode cX1_leadsOn 32 = .ok (.iload_n 2, 1) := by decide +kernel
theorem dX1_leadsOn_33 : decode cX1_leadsOn 33 = .ok (.iaload, 1) := by decide +kernel
theorem dX1_leadsOn_34 : decode cX1_leadsOn 34 = .ok (.aload_n 0, 1) := by decide +kernel
theorem dX1_leadsOn_35 : decode cX1_leadsOn 35 = .ok (.getfield 15, 3) := by decide +kernel
theorem dX1_leadsOn_38 : decode cX1_leadsOn 38 = .ok (.iload_n 2, 1) := by decide +kernel
theorem dX1_leadsOn_39 : decode cX1_leadsOn 39 = .ok (.bipush 8, 2) := by decide +kernel
theorem dX1_leadsOn_41 : decode cX1_leadsOn 41 = .ok (.imul, 1) := by decide +kernel
theorem dX1_leadsOn_42 : decode cX1_leadsOn 42 = .ok (.iload_n 3, 1) := by decide +kernel
theorem dX1_leadsOn_43 : decode cX1_leadsOn 43 = .ok (.iadd, 1) := by decide +kernel
theorem dX1_leadsOn_44 : decode cX1_leadsOn 44 = .ok (.iaload, 1) := by decide +kernel
theorem dX1_leadsOn_45 : decode cX1_leadsOn 45 = .ok (.iadd, 1) := by decide +kernel
theorem dX1_leadsOn_46 : decode cX1_leadsOn 46 = .ok (.aload_n 0, 1) := by decide +kernel
theorem dX1_leadsOn_47 : decode cX1_leadsOn 47 = .ok (.getfield 9, 3) := by decide +kernel
theorem dX1_leadsOn_50 : decode cX1_leadsOn 50 = .ok (.iload 4, 2) := by decide +kernel
theorem dX1_leadsOn_52 : decode cX1_leadsOn 52 = .ok (.iaload, 1) := by decide +kernel
theorem dX1_leadsOn_53 : decode cX1_leadsOn 53 = .ok (.if_icmp .ne 7, 3) := by decide +kernel
theorem dX1_leadsOn_56 : decode cX1_leadsOn 56 = .ok (.iconst 1, 1) := by decide +kernel
theorem dX1_leadsOn_57 : decode cX1_leadsOn 57 = .ok (.goto 4, 3) := by decide +kernel
theorem dX1_leadsOn_60 : decode cX1_leadsOn 60 = .ok (.iconst 0, 1) := by decide +kernel
theorem dX1_leadsOn_61 : decode cX1_leadsOn 61 = .ok (.ireturn, 1) := by decide +kernel
set_option maxRecDepth 20000 in
set_option maxHeartbeats 2000000 in
theorem w_X1_leadsOn {X : CX} {d : Nat} (hd : 2 ≤ d) (l0 : Nat) (l1 : Nat) (l2 : Int32) (l3 : Int32) (g g' : G) (rx : Bool) (k_l0 : KD g l0 1) (k_l1 : KD g l1 4) (h : f_X1_leadsOn l0 l1 l2 l3 g = some (rx, g')) : Sem X m_X1_leadsOn d [.ref (ad X l0), .ref (ad X l1), .int l2, .int l3] g (some (.int (b2i rx))) g' := by
  refine Sem_of (lo := [(0, .ref (ad X l0)), (1, .ref (ad X l1)), (2, .int l2), (3, .int l3)]) (by decide +kernel) rfl (Nat.le_of_ble_eq_true rfl) ?_
  rw [f_X1_leadsOn] at h
  refine SF_aload_n 1 1 dX1_leadsOn_0 rfl rfl rfl ?_
  refine SF_iload_n 2 2 dX1_leadsOn_1 rfl rfl rfl ?_
  refine SF_iload_n 3 3 dX1_leadsOn_2 rfl rfl rfl ?_
  obtain ⟨v1, g2, q3, h⟩ := bd_some h
  have s4 := w_X4_nextOf (X := X) (Nat.le_refl 1) l1 l2 l3 g g2 v1 k_l1 q3
  refine SF_callVi 6 mi_X4_nextOf ml_X1_53 dX1_leadsOn_3 (Nat.le_trans (by decide) hd) s4 k_l1.1 rfl rfl (Nat.le_of_ble_eq_true rfl) rfl ?_
  have k_l0 := k_l0.ext s4.1
  have k_l1 := k_l1.ext s4.1
  refine SF_istore [(4, .int v1), (0, .ref (ad X l0)), (1, .ref (ad X l1)), (2, .int l2), (3, .int l3)] 8 dX1_leadsOn_6 (by decide) rfl rfl ?_
  refine SF_aload_n 2 9 dX1_leadsOn_8 rfl rfl rfl ?_
  refine SF_iload 0 11 dX1_leadsOn_9 rfl rfl ?_
  obtain ⟨v5, g6, q7, h⟩ := bd_some h
  have s8 := w_X4_has (X := X) (Nat.le_refl 0) l1 v1 g2 g6 v5 k_l1 q7
  refine SF_callVb 14 mi_X4_has ml_X1_59 dX1_leadsOn_11 (Nat.le_trans (by decide) hd) s8 k_l1.1 rfl rfl (Nat.le_of_ble_eq_true rfl) rfl ?_
  have k_l0 := k_l0.ext s8.1
  have k_l1 := k_l1.ext s8.1
  refine SF_ifeq 60 17 dX1_leadsOn_14 rfl rfl (fun c9 => ?_) (fun c9 => ?_)
  · have h := ite_t c9 h
    refine SF_iconst (0 : Int32) 61 dX1_leadsOn_60 rfl rfl ?_
    exact RT_b rfl rfl dX1_leadsOn_61 h
  · have h := ite_f c9 h
    refine SF_aload_n 1 18 dX1_leadsOn_17 rfl rfl rfl ?_
    obtain ⟨b10, r11, h⟩ := dr_some h
    refine SF_getR 21 fl_X1_24 dX1_leadsOn_18 k_l0.1 r11 rfl ?_
    refine SF_iload 0 23 dX1_leadsOn_21 rfl rfl ?_
    obtain ⟨k12, h⟩ := gdK_some h
    obtain ⟨i13, h⟩ := gdI_some h
    refine SF_iald 24 dX1_leadsOn_23 k12.1 i13 rfl ?_
    refine SF_iconst (1 : Int32) 25 dX1_leadsOn_24 rfl rfl ?_
    refine SF_icne 60 28 dX1_leadsOn_25 rfl rfl (fun c14 => ?_) (fun c14 => ?_)
    · have h := ite_f c14 h
      refine SF_iconst (0 : Int32) 61 dX1_leadsOn_60 rfl rfl ?_
      exact RT_b rfl rfl dX1_leadsOn_61 h
    · have h := ite_t c14 h
      refine SF_aload_n 1 29 dX1_leadsOn_28 rfl rfl rfl ?_
      obtain ⟨b15, r16, h⟩ := dr_some h
      refine SF_getR 32 fl_X1_9 dX1_leadsOn_29 k_l0.1 r16 rfl ?_
      refine SF_iload_n 3 33 dX1_leadsOn_32 rfl rfl rfl ?_
      obtain ⟨k17, h⟩ := gdK_some h
      obtain ⟨i18, h⟩ := gdI_some h
      refine SF_iald 34 dX1_leadsOn_33 k17.1 i18 rfl ?_
      refine SF_aload_n 1 35 dX1_leadsOn_34 rfl rfl rfl ?_
      obtain ⟨b19, r20, h⟩ := dr_some h
      refine SF_getR 38 fl_X1_15 dX1_leadsOn_35 k_l0.1 r20 rfl ?_
      refine SF_iload_n 3 39 dX1_leadsOn_38 rfl rfl rfl ?_
      refine SF_bipush (8 : Int32) 41 dX1_leadsOn_39 rfl rfl ?_
      refine SF_imul 42 dX1_leadsOn_41 rfl ?_
      refine SF_iload_n 4 43 dX1_leadsOn_42 rfl rfl rfl ?_
      refine SF_iadd 44 dX1_leadsOn_43 rfl ?_
      obtain ⟨k21, h⟩ := gdK_some h
      obtain ⟨i22, h⟩ := gdI_some h
      refine SF_iald 45 dX1_leadsOn_44 k21.1 i22 rfl ?_
      refine SF_iadd 46 dX1_leadsOn_45 rfl ?_
      refine SF_aload_n 1 47 dX1_leadsOn_46 rfl rfl rfl ?_
      refine SF_getR 50 fl_X1_9 dX1_leadsOn_47 k_l0.1 r16 rfl ?_
      refine SF_iload 0 52 dX1_leadsOn_50 rfl rfl ?_
      obtain ⟨i23, h⟩ := gdI_some h
      refine SF_iald 53 dX1_leadsOn_52 k17.1 i23 rfl ?_
      refine SF_icne 60 56 dX1_leadsOn_53 rfl rfl (fun c24 => ?_) (fun c24 => ?_)
      · have h := ite_f c24 h
        refine SF_iconst (0 : Int32) 61 dX1_leadsOn_60 rfl rfl ?_
        exact RT_b rfl rfl dX1_leadsOn_61 h
      · have h := ite_t c24 h
        refine SF_iconst (1 : Int32) 57 dX1_leadsOn_56 rfl rfl ?_
        refine SF_goto 61 dX1_leadsOn_57 rfl ?_
        exact RT_b rfl rfl dX1_leadsOn_61 h

theorem dX1_firstOn_0 : decode cX1_firstOn 0 = .ok (.iconst 0, 1) := by decide +kernel
theorem dX1_firstOn_1 : decode cX1_firstOn 1 = .ok (.istore_n 3, 1) := by decide +kernel
theorem dX1_firstOn_2 : decode cX1_firstOn 2 = .ok (.iload_n 3, 1) := by decide +kernel
theorem dX1_firstOn_3 : decode cX1_firstOn 3 = .ok (.bipush 8, 2) := by decide +kernel
theorem dX1_firstOn_5 : decode cX1_firstOn 5 = .ok (.if_icmp .ge 21, 3) := by decide +kernel
theorem dX1_firstOn_8 : decode cX1_firstOn 8 = .ok (.aload_n 0, 1) := by decide +kernel
theorem dX1_firstOn_9 : decode cX1_firstOn 9 = .ok (.aload_n 1, 1) := by decide +kernel
theorem dX1_firstOn_10 : decode cX1_firstOn 10 = .ok (.iload_n 2, 1) := by decide +kernel
theorem dX1_firstOn_11 : decode cX1_firstOn 11 = .ok (.iload_n 3, 1) := by decide +kernel
theorem dX1_firstOn_12 : decode cX1_firstOn 12 = .ok (.invokevirtual 79, 3) := by decide +kernel
theorem dX1_firstOn_15 : decode cX1_firstOn 15 = .ok (.ifCond .eq 5, 3) := by decide +kernel
theorem dX1_firstOn_18 : decode cX1_firstOn 18 = .ok (.iload_n 3, 1) := by decide +kernel
theorem dX1_firstOn_19 : decode cX1_firstOn 19 = .ok (.ireturn, 1) := by decide +kernel
theorem dX1_firstOn_20 : decode cX1_firstOn 20 = .ok (.iinc 3 1, 3) := by decide +kernel
theorem dX1_firstOn_23 : decode cX1_firstOn 23 = .ok (.goto (-21), 3) := by decide +kernel
theorem dX1_firstOn_26 : decode cX1_firstOn 26 = .ok (.iconst (-1), 1) := by decide +kernel
theorem dX1_firstOn_27 : decode cX1_firstOn 27 = .ok (.ireturn, 1) := by decide +kernel
set_option maxRecDepth 20000 in
set_option maxHeartbeats 2000000 in
theorem w_X1_firstOn_2 {X : CX} {d : Nat} (hd : 3 ≤ d) {g' : G} {rx : Int32} : ∀ (n : Nat) (l0 : Nat) (l1 : Nat) (l2 : Int32) (l3 : Int32) (g : G), KD g l0 1 → KD g l1 4 → f_X1_firstOn_2 n l0 l1 l2 l3 g = some (rx, g') → SemF X m_X1_firstOn d 2 [(0, .ref (ad X l0)), (1, .ref (ad X l1)), (2, .int l2), (3, .int l3)] [] g (some (.int rx)) g' := by
  intro n
  induction n with
  | zero =>
    intro l0 l1 l2 l3 g k_l0 k_l1 h
    rw [f_X1_firstOn_2] at h
    cases h
  | succ n ih =>
  intro l0 l1 l2 l3 g k_l0 k_l1 h
  rw [f_X1_firstOn_2] at h
  refine SF_iload_n 3 3 dX1_firstOn_2 rfl rfl rfl ?_
  refine SF_bipush (8 : Int32) 5 dX1_firstOn_3 rfl rfl ?_
  refine SF_icge 26 8 dX1_firstOn_5 rfl rfl (fun c1 => ?_) (fun c1 => ?_)
  · have h := ite_t c1 h
    refine SF_iconst (-1 : Int32) 27 dX1_firstOn_26 rfl rfl ?_
    exact RT_i rfl dX1_firstOn_27 h
  · have h := ite_f c1 h
    refine SF_aload_n 0 9 dX1_firstOn_8 rfl rfl rfl ?_
    refine SF_aload_n 1 10 dX1_firstOn_9 rfl rfl rfl ?_
    refine SF_iload_n 2 11 dX1_firstOn_10 rfl rfl rfl ?_
    refine SF_iload_n 3 12 dX1_firstOn_11 rfl rfl rfl ?_
    obtain ⟨v2, g3, q4, h⟩ := bd_some h
    have s5 := w_X1_leadsOn (X := X) (Nat.le_refl 2) l0 l1 l2 l3 g g3 v2 k_l0 k_l1 q4
    refine SF_callVb 15 mi_X1_leadsOn ml_X1_79 dX1_firstOn_12 (Nat.le_trans (by decide) hd) s5 k_l0.1 rfl rfl (Nat.le_of_ble_eq_true rfl) rfl ?_
    have k_l0 := k_l0.ext s5.1
    have k_l1 := k_l1.ext s5.1
    refine SF_ifeq 20 18 dX1_firstOn_15 rfl rfl (fun c6 => ?_) (fun c6 => ?_)
    · have h := ite_t c6 h
      refine SF_iinc 3 (l3 + (1 : Int32)) [(3, .int (l3 + (1 : Int32))), (0, .ref (ad X l0)), (1, .ref (ad X l1)), (2, .int l2)] 23 dX1_firstOn_20 rfl rfl (by decide) rfl rfl ?_
      refine SF_goto 2 dX1_firstOn_23 rfl ?_
      refine SF_sub [1, 2, 3, 0] rfl ?_
      exact ih l0 l1 l2 (l3 + (1 : Int32)) g3 k_l0 k_l1 h
    · have h := ite_f c6 h
      refine SF_iload_n 3 19 dX1_firstOn_18 rfl rfl rfl ?_
      exact RT_i rfl dX1_firstOn_19 h

set_option maxRecDepth 20000 in
set_option maxHeartbeats 2000000 in
theorem w_X1_firstOn {X : CX} {d : Nat} (hd : 3 ≤ d) (l0 : Nat) (l1 : Nat) (l2 : Int32) (g g' : G) (rx : Int32) (k_l0 : KD g l0 1) (k_l1 : KD g l1 4) (h : f_X1_firstOn l0 l1 l2 g = some (rx, g')) : Sem X m_X1_firstOn d [.ref (ad X l0), .ref (ad X l1), .int l2] g (some (.int rx)) g' := by
  refine Sem_of (lo := [(0, .ref (ad X l0)), (1, .ref (ad X l1)), (2, .int l2)]) (by decide +kernel) rfl (Nat.le_of_ble_eq_true rfl) ?_
  rw [f_X1_firstOn] at h
  refine SF_iconst (0 : Int32) 1 dX1_firstOn_0 rfl rfl ?_
  refine SF_istore_n [(3, .int (0 : Int32)), (0, .ref (ad X l0)), (1, .ref (ad X l1)), (2, .int l2)] 2 dX1_firstOn_1 rfl (by decide) rfl rfl ?_
  refine SF_sub [1, 2, 3, 0] rfl ?_
  exact w_X1_firstOn_2 hd FU l0 l1 l2 (0 : Int32) g k_l0 k_l1 h

theorem dX1_mark_0 : decode cX1_mark 0 = .ok (.aload_n 0, 1) := by decide +kernel
theorem dX1_mark_1 : decode cX1_mark 1 = .ok (.getfield 24, 3) := by decide +kernel
theorem dX1_mark_4 : decode cX1_mark 4 = .ok (.iconst 0, 1) := by decide +kernel
theorem dX1_mark_5 : decode cX1_mark 5 = .ok (.invokestatic 28, 3) := by decide +kernel
theorem dX1_mark_8 : decode cX1_mark 8 = .ok (.aload_n 0, 1) := by decide +kernel
theorem dX1_mark_9 : decode cX1_mark 9 = .ok (.getfield 38, 3) := by decide +kernel
theorem dX1_mark_12 : decode cX1_mark 12 = .ok (.iconst 1, 1) := by decide +kernel
theorem dX1_mark_13 : decode cX1_mark 13 = .ok (.isub, 1) := by decide +kernel
theorem dX1_mark_14 : decode cX1_mark 14 = .ok (.istore 5, 2) := by decide +kernel
theorem dX1_mark_16 : decode cX1_mark 16 = .ok (.iload 5, 2) := by decide +kernel
theorem dX1_mark_18 : decode cX1_mark 18 = .ok (.ifCond .lt 88, 3) := by decide +kernel
theorem dX1_mark_21 : decode cX1_mark 21 = .ok (.aload_n 0, 1) := by decide +kernel
theorem dX1_mark_22 : decode cX1_mark 22 = .ok (.getfield 18, 3) := by decide +kernel
theorem dX1_mark_25 : decode cX1_mark 25 = .ok (.iload 5, 2) := by decide +kernel
theorem dX1_mark_27 : decode cX1_mark 27 = .ok (.iaload, 1) := by decide +kernel
theorem dX1_mark_28 : decode cX1_mark 28 = .ok (.istore 6, 2) := by decide +kernel
theorem dX1_mark_30 : decode cX1_mark 30 = .ok (.aload_n 0, 1) := by decide +kernel
theorem dX1_mark_31 : decode cX1_mark 31 = .ok (.getfield 9, 3) := by decide +kernel
theorem dX1_mark_34 : decode cX1_mark 34 = .ok (.iload 6, 2) := by decide +kernel
theorem dX1_mark_36 : decode cX1_mark 36 = .ok (.iaload, 1) := by decide +kernel
theorem dX1_mark_37 : decode cX1_mark 37 = .ok (.iload 4, 2) := by decide +kernel
theorem dX1_mark_39 : decode cX1_mark 39 = .ok (.if_icmp .ne 14, 3) := by decide +kernel
theorem dX1_mark_42 : decode cX1_mark 42 = .ok (.aload_n 1, 1) := by decide +kernel
theorem dX1_mark_43 : decode cX1_mark 43 = .ok (.iload 6, 2) := by decide +kernel
theorem dX1_mark_45 : decode cX1_mark 45 = .ok (.iload_n 2, 1) := by decide +kernel
theorem dX1_mark_46 : decode cX1_mark 46 = .ok (.iload_n 3, 1) := by decide +kernel
theorem dX1_mark_47 : decode cX1_mark 47 = .ok (.invokevirtual 71, 3) := by decide +kernel
theorem dX1_mark_50 : decode cX1_mark 50 = .ok (.goto 31, 3) := by decide +kernel
theorem dX1_mark_53 : decode cX1_mark 53 = .ok (.aload_n 0, 1) := by decide +kernel
theorem dX1_mark_54 : decode cX1_mark 54 = .ok (.getfield 9, 3) := by decide +kernel
theorem dX1_mark_57 : decode cX1_mark 57 = .ok (.iload 6, 2) := by decide +kernel
theorem dX1_mark_59 : decode cX1_mark 59 = .ok (.iaload, 1) := by decide +kernel
theorem dX1_mark_60 : decode cX1_mark 60 = .ok (.iload 4, 2) := by decide +kernel
theorem dX1_mark_62 : decode cX1_mark 62 = .ok (.if_icmp .ge 18, 3) := by decide +kernel
theorem dX1_mark_65 : decode cX1_mark 65 = .ok (.aload_n 0, 1) := by decide +kernel
theorem dX1_mark_66 : decode cX1_mark 66 = .ok (.aload_n 1, 1) := by decide +kernel
theorem dX1_mark_67 : decode cX1_mark 67 = .ok (.iload 6, 2) := by decide +kernel
theorem dX1_mark_69 : decode cX1_mark 69 = .ok (.invokevirtual 83, 3) := by decide +kernel
theorem dX1_mark_72 : decode cX1_mark 72 = .ok (.iconst (-1), 1) := by decide +kernel
theorem dX1_mark_73 : decode cX1_mark 73 = .ok (.if_icmp .eq 7, 3) := by decide +kernel
theorem dX1_mark_76 : decode cX1_mark 76 = .ok (.iconst 1, 1) := by decide +kernel
theorem dX1_mark_77 : decode cX1_mark 77 = .ok (.goto 4, 3) := by decide +kernel
theorem dX1_mark_80 : decode cX1_mark 80 = .ok (.iconst 0, 1) := by decide +kernel
theorem dX1_mark_81 : decode cX1_mark 81 = .ok (.istore 7, 2) := by decide +kernel
theorem dX1_mark_83 : decode cX1_mark 83 = .ok (.aload_n 0, 1) := by decide +kernel
theorem dX1_mark_84 : decode cX1_mark 84 = .ok (.getfield 24, 3) := by decide +kernel
theorem dX1_mark_87 : decode cX1_mark 87 = .ok (.iload 6, 2) := by decide +kernel
theorem dX1_mark_89 : decode cX1_mark 89 = .ok (.iload 7, 2) := by decide +kernel
theorem dX1_mark_91 : decode cX1_mark 91 = .ok (.ifCond .eq 7, 3) := by decide +kernel
theorem dX1_mark_94 : decode cX1_mark 94 = .ok (.iconst 1, 1) := by decide +kernel
theorem dX1_mark_95 : decode cX1_mark 95 = .ok (.goto 4, 3) := by decide +kernel
theorem dX1_mark_98 : decode cX1_mark 98 = .ok (.iconst 0, 1) := by decide +kernel
theorem dX1_mark_99 : decode cX1_mark 99 = .ok (.iastore, 1) := by decide +kernel
theorem dX1_mark_100 : decode cX1_mark 100 = .ok (.iinc 5 (-1), 3) := by decide +kernel
theorem dX1_mark_103 : decode cX1_mark 103 = .ok (.goto (-87), 3) := by decide +kernel
theorem dX1_mark_106 : decode cX1_mark 106 = .ok (.return_, 1) := by decide +kernel
set_option maxRecDepth 20000 in
set_option maxHeartbeats 2000000 in
theorem w_X1_mark_99 {X : CX} {d : Nat} (hd : 4 ≤ d) {g' : G} {rx : Unit} (k16 : Nat → Nat → Int32 → Int32 → Int32 → Int32 → G → Option (Unit × G)) (hk16 : ∀ (l0 : Nat) (l1 : Nat) (l2 : Int32) (l3 : Int32) (l4 : Int32) (l5 : Int32) (g : G), KD g l0 1 → KD g l1 4 → k16 l0 l1 l2 l3 l4 l5 g = some (rx, g') → SemF X m_X1_mark d 16 [(0, .ref (ad X l0)), (1, .ref (ad X l1)), (2, .int l2), (3, .int l3), (4, .int l4), (5, .int l5)] [] g none g') (l0 : Nat) (l1 : Nat) (l2 : Int32) (l3 : Int32) (l4 : Int32) (l5 : Int32) (s0 : Int32) (s1 : Int32) (s2 : Nat) (g : G) (k_l0 : KD g l0 1) (k_l1 : KD g l1 4) (k_s2 : KD g s2 14) (h : f_X1_mark_99 k16 l0 l1 l2 l3 l4 l5 s0 s1 s2 g = some (rx, g')) : SemF X m_X1_mark d 99 [(0, .ref (ad X l0)), (1, .ref (ad X l1)), (2, .int l2), (3, .int l3), (4, .int l4), (5, .int l5)] [.int s0, .int s1, .ref (ad X s2)] g none g' := by
  rw [f_X1_mark_99] at h
  obtain ⟨i1, h⟩ := gdI_some h
  refine SF_iast 100 dX1_mark_99 k_s2.1 i1 rfl ?_
  obtain ⟨g2, e3, h⟩ := lg_some h
  rw [← e3]
  have k_l0 := KD.eq e3 k_l0
  have k_l1 := KD.eq e3 k_l1
  have k_s2 := KD.eq e3 k_s2
  have i1 := vp_eq e3 i1
  refine SF_iinc 5 (l5 + (-1 : Int32)) [(5, .int (l5 + (-1 : Int32))), (0, .ref (ad X l0)), (1, .ref (ad X l1)), (2, .int l2), (3, .int l3), (4, .int l4)] 103 dX1_mark_100 rfl rfl (by decide) rfl rfl ?_
  refine SF_goto 16 dX1_mark_103 rfl ?_
  refine SF_sub [1, 2, 3, 4, 5, 0] rfl ?_
  exact hk16 l0 l1 l2 l3 l4 (l5 + (-1 : Int32)) g2 k_l0 k_l1 h

set_option maxRecDepth 20000 in
set_option maxHeartbeats 2000000 in
theorem w_X1_mark_81 {X : CX} {d : Nat} (hd : 4 ≤ d) {g' : G} {rx : Unit} (k16 : Nat → Nat → Int32 → Int32 → Int32 → Int32 → G → Option (Unit × G)) (hk16 : ∀ (l0 : Nat) (l1 : Nat) (l2 : Int32) (l3 : Int32) (l4 : Int32) (l5 : Int32) (g : G), KD g l0 1 → KD g l1 4 → k16 l0 l1 l2 l3 l4 l5 g = some (rx, g') → SemF X m_X1_mark d 16 [(0, .ref (ad X l0)), (1, .ref (ad X l1)), (2, .int l2), (3, .int l3), (4, .int l4), (5, .int l5)] [] g none g') (l0 : Nat) (l1 : Nat) (l2 : Int32) (l3 : Int32) (l4 : Int32) (l5 : Int32) (l6 : Int32) (s0 : Int32) (g : G) (k_l0 : KD g l0 1) (k_l1 : KD g l1 4) (h : f_X1_mark_81 k16 l0 l1 l2 l3 l4 l5 l6 s0 g = some (rx, g')) : SemF X m_X1_mark d 81 [(0, .ref (ad X l0)), (1, .ref (ad X l1)), (2, .int l2), (3, .int l3), (4, .int l4), (5, .int l5), (6, .int l6)] [.int s0] g none g' := by
  rw [f_X1_mark_81] at h
  refine SF_istore [(7, .int s0), (0, .ref (ad X l0)), (1, .ref (ad X l1)), (2, .int l2), (3, .int l3), (4, .int l4), (5, .int l5), (6, .int l6)] 83 dX1_mark_81 (by decide) rfl rfl ?_
  refine SF_aload_n 1 84 dX1_mark_83 rfl rfl rfl ?_
  obtain ⟨b1, r2, h⟩ := dr_some h
  refine SF_getR 87 fl_X1_24 dX1_mark_84 k_l0.1 r2 rfl ?_
  refine SF_iload 7 89 dX1_mark_87 rfl rfl ?_
  refine SF_iload 0 91 dX1_mark_89 rfl rfl ?_
  refine SF_ifeq 98 94 dX1_mark_91 rfl rfl (fun c3 => ?_) (fun c3 => ?_)
  · have h := ite_t c3 h
    refine SF_iconst (0 : Int32) 99 dX1_mark_98 rfl rfl ?_
    obtain ⟨k4, h⟩ := gdK_some h
    refine SF_sub [1, 2, 3, 4, 5, 6] rfl ?_
    exact w_X1_mark_99 hd k16 hk16 l0 l1 l2 l3 l4 l5 (0 : Int32) l6 b1 g k_l0 k_l1 k4 h
  · have h := ite_f c3 h
    refine SF_iconst (1 : Int32) 95 dX1_mark_94 rfl rfl ?_
    refine SF_goto 99 dX1_mark_95 rfl ?_
    obtain ⟨k5, h⟩ := gdK_some h
    refine SF_sub [1, 2, 3, 4, 5, 6] rfl ?_
    exact w_X1_mark_99 hd k16 hk16 l0 l1 l2 l3 l4 l5 (1 : Int32) l6 b1 g k_l0 k_l1 k5 h

set_option maxRecDepth 20000 in
set_option maxHeartbeats 2000000 in
theorem w_X1_mark_80 {X : CX} {d : Nat} (hd : 4 ≤ d) {g' : G} {rx : Unit} (k16 : Nat → Nat → Int32 → Int32 → Int32 → Int32 → G → Option (Unit × G)) (hk16 : ∀ (l0 : Nat) (l1 : Nat) (l2 : Int32) (l3 : Int32) (l4 : Int32) (l5 : Int32) (g : G), KD g l0 1 → KD g l1 4 → k16 l0 l1 l2 l3 l4 l5 g = some (rx, g') → SemF X m_X1_mark d 16 [(0, .ref (ad X l0)), (1, .ref (ad X l1)), (2, .int l2), (3, .int l3), (4, .int l4), (5, .int l5)] [] g none g') (l0 : Nat) (l1 : Nat) (l2 : Int32) (l3 : Int32) (l4 : Int32) (l5 : Int32) (l6 : Int32) (g : G) (k_l0 : KD g l0 1) (k_l1 : KD g l1 4) (h : f_X1_mark_80 k16 l0 l1 l2 l3 l4 l5 l6 g = some (rx, g')) : SemF X m_X1_mark d 80 [(0, .ref (ad X l0)), (1, .ref (ad X l1)), (2, .int l2), (3, .int l3), (4, .int l4), (5, .int l5), (6, .int l6)] [] g none g' := by
  rw [f_X1_mark_80] at h
  refine SF_iconst (0 : Int32) 81 dX1_mark_80 rfl rfl ?_
  exact w_X1_mark_81 hd k16 hk16 l0 l1 l2 l3 l4 l5 l6 (0 : Int32) g k_l0 k_l1 h

set_option maxRecDepth 20000 in
set_option maxHeartbeats 2000000 in
theorem w_X1_mark_16 {X : CX} {d : Nat} (hd : 4 ≤ d) {g' : G} {rx : Unit} : ∀ (n : Nat) (l0 : Nat) (l1 : Nat) (l2 : Int32) (l3 : Int32) (l4 : Int32) (l5 : Int32) (g : G), KD g l0 1 → KD g l1 4 → f_X1_mark_16 n l0 l1 l2 l3 l4 l5 g = some (rx, g') → SemF X m_X1_mark d 16 [(0, .ref (ad X l0)), (1, .ref (ad X l1)), (2, .int l2), (3, .int l3), (4, .int l4), (5, .int l5)] [] g none g' := by
  intro n
  induction n with
  | zero =>
    intro l0 l1 l2 l3 l4 l5 g k_l0 k_l1 h
    rw [f_X1_mark_16] at h
    cases h
  | succ n ih =>
  intro l0 l1 l2 l3 l4 l5 g k_l0 k_l1 h
  rw [f_X1_mark_16] at h
  refine SF_iload 5 18 dX1_mark_16 rfl rfl ?_
  refine SF_iflt 106 21 dX1_mark_18 rfl rfl (fun c1 => ?_) (fun c1 => ?_)
  · have h := ite_t c1 h
    exact RT_v rfl dX1_mark_106 h
  · have h := ite_f c1 h
    refine SF_aload_n 0 22 dX1_mark_21 rfl rfl rfl ?_
    obtain ⟨b2, r3, h⟩ := dr_some h
    refine SF_getR 25 fl_X1_18 dX1_mark_22 k_l0.1 r3 rfl ?_
    refine SF_iload 5 27 dX1_mark_25 rfl rfl ?_
    obtain ⟨k4, h⟩ := gdK_some h
    obtain ⟨i5, h⟩ := gdI_some h
    refine SF_iald 28 dX1_mark_27 k4.1 i5 rfl ?_
    obtain ⟨y6, e7, h⟩ := li_some h
    refine SF_eqI e7 ?_
    refine SF_istore [(6, .int y6), (0, .ref (ad X l0)), (1, .ref (ad X l1)), (2, .int l2), (3, .int l3), (4, .int l4), (5, .int l5)] 30 dX1_mark_28 (by decide) rfl rfl ?_
    refine SF_aload_n 1 31 dX1_mark_30 rfl rfl rfl ?_
    obtain ⟨b8, r9, h⟩ := dr_some h
    refine SF_getR 34 fl_X1_9 dX1_mark_31 k_l0.1 r9 rfl ?_
    refine SF_iload 0 36 dX1_mark_34 rfl rfl ?_
    obtain ⟨k10, h⟩ := gdK_some h
    obtain ⟨i11, h⟩ := gdI_some h
    refine SF_iald 37 dX1_mark_36 k10.1 i11 rfl ?_
    refine SF_iload 5 39 dX1_mark_37 rfl rfl ?_
    refine SF_icne 53 42 dX1_mark_39 rfl rfl (fun c12 => ?_) (fun c12 => ?_)
    · have h := ite_f c12 h
      refine SF_aload_n 1 54 dX1_mark_53 rfl rfl rfl ?_
      refine SF_getR 57 fl_X1_9 dX1_mark_54 k_l0.1 r9 rfl ?_
      refine SF_iload 0 59 dX1_mark_57 rfl rfl ?_
      refine SF_iald 60 dX1_mark_59 k10.1 i11 rfl ?_
      refine SF_iload 5 62 dX1_mark_60 rfl rfl ?_
      refine SF_icge 80 65 dX1_mark_62 rfl rfl (fun c13 => ?_) (fun c13 => ?_)
      · have h := ite_t c13 h
        refine SF_sub [1, 2, 3, 4, 5, 6, 0] rfl ?_
        exact w_X1_mark_80 hd (f_X1_mark_16 n) ih l0 l1 l2 l3 l4 l5 y6 g k_l0 k_l1 h
      · have h := ite_f c13 h
        refine SF_aload_n 1 66 dX1_mark_65 rfl rfl rfl ?_
        refine SF_aload_n 2 67 dX1_mark_66 rfl rfl rfl ?_
        refine SF_iload 0 69 dX1_mark_67 rfl rfl ?_
        obtain ⟨v14, g15, q16, h⟩ := bd_some h
        have s17 := w_X1_firstOn (X := X) (Nat.le_refl 3) l0 l1 y6 g g15 v14 k_l0 k_l1 q16
        refine SF_callVi 72 mi_X1_firstOn ml_X1_83 dX1_mark_69 (Nat.le_trans (by decide) hd) s17 k_l0.1 rfl rfl (Nat.le_of_ble_eq_true rfl) rfl ?_
        have k_l0 := k_l0.ext s17.1
        have k_l1 := k_l1.ext s17.1
        have k4 := k4.ext s17.1
        have k10 := k10.ext s17.1
        refine SF_iconst (-1 : Int32) 73 dX1_mark_72 rfl rfl ?_
        refine SF_iceq 80 76 dX1_mark_73 rfl rfl (fun c18 => ?_) (fun c18 => ?_)
        · have h := ite_t c18 h
          refine SF_sub [1, 2, 3, 4, 5, 6, 0] rfl ?_
          exact w_X1_mark_80 hd (f_X1_mark_16 n) ih l0 l1 l2 l3 l4 l5 y6 g15 k_l0 k_l1 h
        · have h := ite_f c18 h
          refine SF_iconst (1 : Int32) 77 dX1_mark_76 rfl rfl ?_
          refine SF_goto 81 dX1_mark_77 rfl ?_
          refine SF_sub [1, 2, 3, 4, 5, 6, 0] rfl ?_
          exact w_X1_mark_81 hd (f_X1_mark_16 n) ih l0 l1 l2 l3 l4 l5 y6 (1 : Int32) g15 k_l0 k_l1 h
    · have h := ite_t c12 h
      refine SF_aload_n 2 43 dX1_mark_42 rfl rfl rfl ?_
      refine SF_iload 0 45 dX1_mark_43 rfl rfl ?_
      refine SF_iload_n 3 46 dX1_mark_45 rfl rfl rfl ?_
      refine SF_iload_n 4 47 dX1_mark_46 rfl rfl rfl ?_
      obtain ⟨v19, g20, q21, h⟩ := bd_some h
      have s22 := w_X4_fits (X := X) (Nat.le_refl 1) l1 y6 l2 l3 g g20 v19 k_l1 q21
      refine SF_callVb 50 mi_X4_fits ml_X1_71 dX1_mark_47 (Nat.le_trans (by decide) hd) s22 k_l1.1 rfl rfl (Nat.le_of_ble_eq_true rfl) rfl ?_
      have k_l0 := k_l0.ext s22.1
      have k_l1 := k_l1.ext s22.1
      have k4 := k4.ext s22.1
      have k10 := k10.ext s22.1
      refine SF_goto 81 dX1_mark_50 rfl ?_
      refine SF_sub [1, 2, 3, 4, 5, 6, 0] rfl ?_
      exact w_X1_mark_81 hd (f_X1_mark_16 n) ih l0 l1 l2 l3 l4 l5 y6 (b2i v19) g20 k_l0 k_l1 h

set_option maxRecDepth 20000 in
set_option maxHeartbeats 2000000 in
theorem w_X1_mark {X : CX} {d : Nat} (hd : 4 ≤ d) (l0 : Nat) (l1 : Nat) (l2 : Int32) (l3 : Int32) (l4 : Int32) (g g' : G) (rx : Unit) (k_l0 : KD g l0 1) (k_l1 : KD g l1 4) (h : f_X1_mark l0 l1 l2 l3 l4 g = some (rx, g')) : Sem X m_X1_mark d [.ref (ad X l0), .ref (ad X l1), .int l2, .int l3, .int l4] g none g' := by
  refine Sem_of (lo := [(0, .ref (ad X l0)), (1, .ref (ad X l1)), (2, .int l2), (3, .int l3), (4, .int l4)]) (by decide +kernel) rfl (Nat.le_of_ble_eq_true rfl) ?_
  rw [f_X1_mark] at h
  refine SF_aload_n 0 1 dX1_mark_0 rfl rfl rfl ?_
  obtain ⟨b1, r2, h⟩ := dr_some h
  refine SF_getR 4 fl_X1_24 dX1_mark_1 k_l0.1 r2 rfl ?_
  refine SF_iconst (0 : Int32) 5 dX1_mark_4 rfl rfl ?_
  obtain ⟨k3, h⟩ := gdK_some h
  obtain ⟨v4, g5, q6, h⟩ := bd_some h
  have s7 := w_J7_fill_53178 (X := X) (Nat.le_refl 0) b1 (0 : Int32) g g5 v4 k3 q6
  refine SF_callSv 8 mi_J7_fill_53178 ml_X1_28 dX1_mark_5 (Nat.le_trans (by decide) hd) s7 rfl rfl (Nat.le_of_ble_eq_true rfl) rfl ?_
  have k_l0 := k_l0.ext s7.1
  have k_l1 := k_l1.ext s7.1
  have k3 := k3.ext s7.1
  refine SF_aload_n 0 9 dX1_mark_8 rfl rfl rfl ?_
  refine SF_getI 12 fl_X1_38 dX1_mark_9 k_l0.1 rfl ?_
  refine SF_iconst (1 : Int32) 13 dX1_mark_12 rfl rfl ?_
  refine SF_isub 14 dX1_mark_13 rfl ?_
  obtain ⟨y8, e9, h⟩ := li_some h
  refine SF_eqI e9 ?_
  refine SF_istore [(5, .int y8), (0, .ref (ad X l0)), (1, .ref (ad X l1)), (2, .int l2), (3, .int l3), (4, .int l4)] 16 dX1_mark_14 (by decide) rfl rfl ?_
  refine SF_sub [1, 2, 3, 4, 5, 0] rfl ?_
  exact w_X1_mark_16 hd FU l0 l1 l2 l3 l4 y8 g5 k_l0 k_l1 h

theorem dX1_leadTo_0 : decode cX1_leadTo 0 = .ok (.aload_n 0, 1) := by decide +kernel
theorem dX1_leadTo_1 : decode cX1_leadTo 1 = .ok (.aload_n 1, 1) := by decide +kernel
theorem dX1_leadTo_2 : decode cX1_leadTo 2 = .ok (.iload_n 2, 1) := by decide +kernel
theorem dX1_leadTo_3 : decode cX1_leadTo 3 = .ok (.iload_n 3, 1) := by decide +kernel
theorem dX1_leadTo_4 : decode cX1_leadTo 4 = .ok (.invokevirtual 75, 3) := by decide +kernel
theorem dX1_leadTo_7 : decode cX1_leadTo 7 = .ok (.istore 5, 2) := by decide +kernel
theorem dX1_leadTo_9 : decode cX1_leadTo 9 = .ok (.iload 5, 2) := by decide +kernel
theorem dX1_leadTo_11 : decode cX1_leadTo 11 = .ok (.ldc 27, 2) := by decide +kernel
theorem dX1_leadTo_13 : decode cX1_leadTo 13 = .ok (.if_icmp .eq 19, 3) := by decide +kernel
theorem dX1_leadTo_16 : decode cX1_leadTo 16 = .ok (.iload 4, 2) := by decide +kernel
theorem dX1_leadTo_18 : decode cX1_leadTo 18 = .ok (.ifCond .lt 14, 3) := by decide +kernel
theorem dX1_leadTo_21 : decode cX1_leadTo 21 = .ok (.iload 4, 2) := by decide +kernel
theorem dX1_leadTo_23 : decode cX1_leadTo 23 = .ok (.iload 5, 2) := by decide +kernel
theorem dX1_leadTo_25 : decode cX1_leadTo 25 = .ok (.sipush 1024, 3) := by decide +kernel
theorem dX1_leadTo_28 : decode cX1_leadTo 28 = .ok (.irem, 1) := by decide +kernel
theorem dX1_leadTo_29 : decode cX1_leadTo 29 = .ok (.if_icmp .lt 5, 3) := by decide +kernel
theorem dX1_leadTo_32 : decode cX1_leadTo 32 = .ok (.iconst (-1), 1) := by decide +kernel
theorem dX1_leadTo_33 : decode cX1_leadTo 33 = .ok (.ireturn, 1) := by decide +kernel
theorem dX1_leadTo_34 : decode cX1_leadTo 34 = .ok (.aload_n 0, 1) := by decide +kernel
theorem dX1_leadTo_35 : decode cX1_leadTo 35 = .ok (.aload_n 1, 1) := by decide +kernel
theorem dX1_leadTo_36 : decode cX1_leadTo 36 = .ok (.iload_n 2, 1) := by decide +kernel
theorem dX1_leadTo_37 : decode cX1_leadTo 37 = .ok (.iload_n 3, 1) := by decide +kernel
theorem dX1_leadTo_38 : decode cX1_leadTo 38 = .ok (.iload 5, 2) := by decide +kernel
theorem dX1_leadTo_40 : decode cX1_leadTo 40 = .ok (.invokevirtual 87, 3) := by decide +kernel
theorem dX1_leadTo_43 : decode cX1_leadTo 43 = .ok (.iconst 0, 1) := by decide +kernel
theorem dX1_leadTo_44 : decode cX1_leadTo 44 = .ok (.istore 6, 2) := by decide +kernel
theorem dX1_leadTo_46 : decode cX1_leadTo 46 = .ok (.iconst (-1), 1) := by decide +kernel
theorem dX1_leadTo_47 : decode cX1_leadTo 47 = .ok (.istore 7, 2) := by decide +kernel
theorem dX1_leadTo_49 : decode cX1_leadTo 49 = .ok (.iconst 0, 1) := by decide +kernel
theorem dX1_leadTo_50 : decode cX1_leadTo 50 = .ok (.istore 8, 2) := by decide +kernel
theorem dX1_leadTo_52 : decode cX1_leadTo 52 = .ok (.iload 8, 2) := by decide +kernel
theorem dX1_leadTo_54 : decode cX1_leadTo 54 = .ok (.iload 4, 2) := by decide +kernel
theorem dX1_leadTo_56 : decode cX1_leadTo 56 = .ok (.if_icmp .gt 45, 3) := by decide +kernel
theorem dX1_leadTo_59 : decode cX1_leadTo 59 = .ok (.iload 8, 2) := by decide +kernel
theorem dX1_leadTo_61 : decode cX1_leadTo 61 = .ok (.sipush 256, 3) := by decide +kernel
theorem dX1_leadTo_64 : decode cX1_leadTo 64 = .ok (.if_icmp .ge 37, 3) := by decide +kernel
theorem dX1_leadTo_67 : decode cX1_leadTo 67 = .ok (.aload_n 1, 1) := by decide +kernel
theorem dX1_leadTo_68 : decode cX1_leadTo 68 = .ok (.iload 6, 2) := by decide +kernel
theorem dX1_leadTo_70 : decode cX1_leadTo 70 = .ok (.invokevirtual 59, 3) := by decide +kernel
theorem dX1_leadTo_73 : decode cX1_leadTo 73 = .ok (.ifCond .eq 28, 3) := by decide +kernel
theorem dX1_leadTo_76 : decode cX1_leadTo 76 = .ok (.aload_n 0, 1) := by decide +kernel
theorem dX1_leadTo_77 : decode cX1_leadTo 77 = .ok (.aload_n 1, 1) := by decide +kernel
theorem dX1_leadTo_78 : decode cX1_leadTo 78 = .ok (.iload 6, 2) := by decide +kernel
theorem dX1_leadTo_80 : decode cX1_leadTo 80 = .ok (.invokevirtual 83, 3) := by decide +kernel
theorem dX1_leadTo_83 : decode cX1_leadTo 83 = .ok (.istore 7, 2) := by decide +kernel
theorem dX1_leadTo_85 : decode cX1_leadTo 85 = .ok (.aload_n 1, 1) := by decide +kernel
theorem dX1_leadTo_86 : decode cX1_leadTo 86 = .ok (.iload 6, 2) := by decide +kernel
theorem dX1_leadTo_88 : decode cX1_leadTo 88 = .ok (.iload 7, 2) := by decide +kernel
theorem dX1_leadTo_90 : decode cX1_leadTo 90 = .ok (.invokevirtual 53, 3) := by decide +kernel
theorem dX1_leadTo_93 : decode cX1_leadTo 93 = .ok (.istore 6, 2) := by decide +kernel
theorem dX1_leadTo_95 : decode cX1_leadTo 95 = .ok (.iinc 8 1, 3) := by decide +kernel
theorem dX1_leadTo_98 : decode cX1_leadTo 98 = .ok (.goto (-46), 3) := by decide +kernel
theorem dX1_leadTo_101 : decode cX1_leadTo 101 = .ok (.iload 7, 2) := by decide +kernel
theorem dX1_leadTo_103 : decode cX1_leadTo 103 = .ok (.ireturn, 1) := by decide +kernel
set_option maxRecDepth 20000 in
set_option maxHeartbeats 2000000 in
theorem w_X1_leadTo_52 {X : CX} {d : Nat} (hd : 5 ≤ d) {g' : G} {rx : Int32} : ∀ (n : Nat) (l0 : Nat) (l1 : Nat) (l4 : Int32) (l6 : Int32) (l7 : Int32) (l8 : Int32) (g : G), KD g l0 1 → KD g l1 4 → f_X1_leadTo_52 n l0 l1 l4 l6 l7 l8 g = some (rx, g') → SemF X m_X1_leadTo d 52 [(0, .ref (ad X l0)), (1, .ref (ad X l1)), (4, .int l4), (6, .int l6), (7, .int l7), (8, .int l8)] [] g (some (.int rx)) g' := by
  intro n
  induction n with
  | zero =>
    intro l0 l1 l4 l6 l7 l8 g k_l0 k_l1 h
    rw [f_X1_leadTo_52] at h
    cases h
  | succ n ih =>
  intro l0 l1 l4 l6 l7 l8 g k_l0 k_l1 h
  rw [f_X1_leadTo_52] at h
  refine SF_iload 5 54 dX1_leadTo_52 rfl rfl ?_
  refine SF_iload 2 56 dX1_leadTo_54 rfl rfl ?_
  refine SF_icgt 101 59 dX1_leadTo_56 rfl rfl (fun c1 => ?_) (fun c1 => ?_)
  · have h := ite_t c1 h
    refine SF_iload 4 103 dX1_leadTo_101 rfl rfl ?_
    exact RT_i rfl dX1_leadTo_103 h
  · have h := ite_f c1 h
    refine SF_iload 5 61 dX1_leadTo_59 rfl rfl ?_
    refine SF_sipush (256 : Int32) 64 dX1_leadTo_61 rfl rfl ?_
    refine SF_icge 101 67 dX1_leadTo_64 rfl rfl (fun c2 => ?_) (fun c2 => ?_)
    · have h := ite_t c2 h
      refine SF_iload 4 103 dX1_leadTo_101 rfl rfl ?_
      exact RT_i rfl dX1_leadTo_103 h
    · have h := ite_f c2 h
      refine SF_aload_n 1 68 dX1_leadTo_67 rfl rfl rfl ?_
      refine SF_iload 3 70 dX1_leadTo_68 rfl rfl ?_
      obtain ⟨v3, g4, q5, h⟩ := bd_some h
      have s6 := w_X4_has (X := X) (Nat.le_refl 0) l1 l6 g g4 v3 k_l1 q5
      refine SF_callVb 73 mi_X4_has ml_X1_59 dX1_leadTo_70 (Nat.le_trans (by decide) hd) s6 k_l1.1 rfl rfl (Nat.le_of_ble_eq_true rfl) rfl ?_
      have k_l0 := k_l0.ext s6.1
      have k_l1 := k_l1.ext s6.1
      refine SF_ifeq 101 76 dX1_leadTo_73 rfl rfl (fun c7 => ?_) (fun c7 => ?_)
      · have h := ite_t c7 h
        refine SF_iload 4 103 dX1_leadTo_101 rfl rfl ?_
        exact RT_i rfl dX1_leadTo_103 h
      · have h := ite_f c7 h
        refine SF_aload_n 0 77 dX1_leadTo_76 rfl rfl rfl ?_
        refine SF_aload_n 1 78 dX1_leadTo_77 rfl rfl rfl ?_
        refine SF_iload 3 80 dX1_leadTo_78 rfl rfl ?_
        obtain ⟨v8, g9, q10, h⟩ := bd_some h
        have s11 := w_X1_firstOn (X := X) (Nat.le_refl 3) l0 l1 l6 g4 g9 v8 k_l0 k_l1 q10
        refine SF_callVi 83 mi_X1_firstOn ml_X1_83 dX1_leadTo_80 (Nat.le_trans (by decide) hd) s11 k_l0.1 rfl rfl (Nat.le_of_ble_eq_true rfl) rfl ?_
        have k_l0 := k_l0.ext s11.1
        have k_l1 := k_l1.ext s11.1
        refine SF_istore [(7, .int v8), (0, .ref (ad X l0)), (1, .ref (ad X l1)), (4, .int l4), (6, .int l6), (8, .int l8)] 85 dX1_leadTo_83 (by decide) rfl rfl ?_
        refine SF_aload_n 2 86 dX1_leadTo_85 rfl rfl rfl ?_
        refine SF_iload 4 88 dX1_leadTo_86 rfl rfl ?_
        refine SF_iload 0 90 dX1_leadTo_88 rfl rfl ?_
        obtain ⟨v12, g13, q14, h⟩ := bd_some h
        have s15 := w_X4_nextOf (X := X) (Nat.le_refl 1) l1 l6 v8 g9 g13 v12 k_l1 q14
        refine SF_callVi 93 mi_X4_nextOf ml_X1_53 dX1_leadTo_90 (Nat.le_trans (by decide) hd) s15 k_l1.1 rfl rfl (Nat.le_of_ble_eq_true rfl) rfl ?_
        have k_l0 := k_l0.ext s15.1
        have k_l1 := k_l1.ext s15.1
        refine SF_istore [(6, .int v12), (7, .int v8), (0, .ref (ad X l0)), (1, .ref (ad X l1)), (4, .int l4), (8, .int l8)] 95 dX1_leadTo_93 (by decide) rfl rfl ?_
        refine SF_iinc 5 (l8 + (1 : Int32)) [(8, .int (l8 + (1 : Int32))), (6, .int v12), (7, .int v8), (0, .ref (ad X l0)), (1, .ref (ad X l1)), (4, .int l4)] 98 dX1_leadTo_95 rfl rfl (by decide) rfl rfl ?_
        refine SF_goto 52 dX1_leadTo_98 rfl ?_
        refine SF_sub [3, 4, 5, 1, 2, 0] rfl ?_
        exact ih l0 l1 l4 v12 v8 (l8 + (1 : Int32)) g13 k_l0 k_l1 h

set_option maxRecDepth 20000 in
set_option maxHeartbeats 2000000 in
theorem w_X1_leadTo {X : CX} {d : Nat} (hd : 5 ≤ d) (l0 : Nat) (l1 : Nat) (l2 : Int32) (l3 : Int32) (l4 : Int32) (g g' : G) (rx : Int32) (k_l0 : KD g l0 1) (k_l1 : KD g l1 4) (h : f_X1_leadTo l0 l1 l2 l3 l4 g = some (rx, g')) : Sem X m_X1_leadTo d [.ref (ad X l0), .ref (ad X l1), .int l2, .int l3, .int l4] g (some (.int rx)) g' := by
  refine Sem_of (lo := [(0, .ref (ad X l0)), (1, .ref (ad X l1)), (2, .int l2), (3, .int l3), (4, .int l4)]) (by decide +kernel) rfl (Nat.le_of_ble_eq_true rfl) ?_
  rw [f_X1_leadTo] at h
  refine SF_aload_n 0 1 dX1_leadTo_0 rfl rfl rfl ?_
  refine SF_aload_n 1 2 dX1_leadTo_1 rfl rfl rfl ?_
  refine SF_iload_n 2 3 dX1_leadTo_2 rfl rfl rfl ?_
  refine SF_iload_n 3 4 dX1_leadTo_3 rfl rfl rfl ?_
  obtain ⟨v1, g2, q3, h⟩ := bd_some h
  have s4 := w_X1_lengthTo (X := X) (Nat.le_refl 2) l0 l1 l2 l3 g g2 v1 k_l0 k_l1 q3
  refine SF_callVi 7 mi_X1_lengthTo ml_X1_75 dX1_leadTo_4 (Nat.le_trans (by decide) hd) s4 k_l0.1 rfl rfl (Nat.le_of_ble_eq_true rfl) rfl ?_
  have k_l0 := k_l0.ext s4.1
  have k_l1 := k_l1.ext s4.1
  refine SF_istore [(5, .int v1), (0, .ref (ad X l0)), (1, .ref (ad X l1)), (2, .int l2), (3, .int l3), (4, .int l4)] 9 dX1_leadTo_7 (by decide) rfl rfl ?_
  refine SF_iload 0 11 dX1_leadTo_9 rfl rfl ?_
  refine SF_ldc 13 dX1_leadTo_11 ki_X1_27 rfl ?_
  refine SF_iceq 32 16 dX1_leadTo_13 rfl rfl (fun c5 => ?_) (fun c5 => ?_)
  · have h := ite_t c5 h
    refine SF_iconst (-1 : Int32) 33 dX1_leadTo_32 rfl rfl ?_
    exact RT_i rfl dX1_leadTo_33 h
  · have h := ite_f c5 h
    refine SF_iload 5 18 dX1_leadTo_16 rfl rfl ?_
    refine SF_iflt 32 21 dX1_leadTo_18 rfl rfl (fun c6 => ?_) (fun c6 => ?_)
    · have h := ite_t c6 h
      refine SF_iconst (-1 : Int32) 33 dX1_leadTo_32 rfl rfl ?_
      exact RT_i rfl dX1_leadTo_33 h
    · have h := ite_f c6 h
      refine SF_iload 5 23 dX1_leadTo_21 rfl rfl ?_
      refine SF_iload 0 25 dX1_leadTo_23 rfl rfl ?_
      refine SF_sipush (1024 : Int32) 28 dX1_leadTo_25 rfl rfl ?_
      refine SF_irem 29 dX1_leadTo_28 (by decide) rfl ?_
      refine SF_iclt 34 32 dX1_leadTo_29 rfl rfl (fun c7 => ?_) (fun c7 => ?_)
      · have h := ite_t c7 h
        refine SF_aload_n 1 35 dX1_leadTo_34 rfl rfl rfl ?_
        refine SF_aload_n 2 36 dX1_leadTo_35 rfl rfl rfl ?_
        refine SF_iload_n 3 37 dX1_leadTo_36 rfl rfl rfl ?_
        refine SF_iload_n 4 38 dX1_leadTo_37 rfl rfl rfl ?_
        refine SF_iload 0 40 dX1_leadTo_38 rfl rfl ?_
        obtain ⟨v8, g9, q10, h⟩ := bd_some h
        have s11 := w_X1_mark (X := X) (Nat.le_refl 4) l0 l1 l2 l3 v1 g2 g9 v8 k_l0 k_l1 q10
        refine SF_callVv 43 mi_X1_mark ml_X1_87 dX1_leadTo_40 (Nat.le_trans (by decide) hd) s11 k_l0.1 rfl rfl (Nat.le_of_ble_eq_true rfl) rfl ?_
        have k_l0 := k_l0.ext s11.1
        have k_l1 := k_l1.ext s11.1
        refine SF_iconst (0 : Int32) 44 dX1_leadTo_43 rfl rfl ?_
        refine SF_istore [(6, .int (0 : Int32)), (5, .int v1), (0, .ref (ad X l0)), (1, .ref (ad X l1)), (2, .int l2), (3, .int l3), (4, .int l4)] 46 dX1_leadTo_44 (by decide) rfl rfl ?_
        refine SF_iconst (-1 : Int32) 47 dX1_leadTo_46 rfl rfl ?_
        refine SF_istore [(7, .int (-1 : Int32)), (6, .int (0 : Int32)), (5, .int v1), (0, .ref (ad X l0)), (1, .ref (ad X l1)), (2, .int l2), (3, .int l3), (4, .int l4)] 49 dX1_leadTo_47 (by decide) rfl rfl ?_
        refine SF_iconst (0 : Int32) 50 dX1_leadTo_49 rfl rfl ?_
        refine SF_istore [(8, .int (0 : Int32)), (7, .int (-1 : Int32)), (6, .int (0 : Int32)), (5, .int v1), (0, .ref (ad X l0)), (1, .ref (ad X l1)), (2, .int l2), (3, .int l3), (4, .int l4)] 52 dX1_leadTo_50 (by decide) rfl rfl ?_
        refine SF_sub [4, 5, 8, 2, 1, 0] rfl ?_
        exact w_X1_leadTo_52 hd FU l0 l1 l4 (0 : Int32) (-1 : Int32) (0 : Int32) g9 k_l0 k_l1 h
      · have h := ite_f c7 h
        refine SF_iconst (-1 : Int32) 33 dX1_leadTo_32 rfl rfl ?_
        exact RT_i rfl dX1_leadTo_33 h

theorem dX11_cheapWay_0 : decode cX11_cheapWay 0 = .ok (.aload_n 0, 1) := by decide +kernel
theorem dX11_cheapWay_1 : decode cX11_cheapWay 1 = .ok (.iload_n 1, 1) := by decide +kernel
theorem dX11_cheapWay_2 : decode cX11_cheapWay 2 = .ok (.iload_n 2, 1) := by decide +kernel
theorem dX11_cheapWay_3 : decode cX11_cheapWay 3 = .ok (.iload_n 3, 1) := by decide +kernel
theorem dX11_cheapWay_4 : decode cX11_cheapWay 4 = .ok (.invokevirtual 255, 3) := by decide +kernel
theorem dX11_cheapWay_7 : decode cX11_cheapWay 7 = .ok (.ifCond .ne 6, 3) := by decide +kernel
theorem dX11_cheapWay_10 : decode cX11_cheapWay 10 = .ok (.bipush (-2), 2) := by decide +kernel
theorem dX11_cheapWay_12 : decode cX11_cheapWay 12 = .ok (.ireturn, 1) := by decide +kernel
theorem dX11_cheapWay_13 : decode cX11_cheapWay 13 = .ok (.iload 4, 2) := by decide +kernel
theorem dX11_cheapWay_15 : decode cX11_cheapWay 15 = .ok (.ifCond .ge 6, 3) := by decide +kernel
theorem dX11_cheapWay_18 : decode cX11_cheapWay 18 = .ok (.bipush (-3), 2) := by decide +kernel
theorem dX11_cheapWay_20 : decode cX11_cheapWay 20 = .ok (.ireturn, 1) := by decide +kernel
theorem dX11_cheapWay_21 : decode cX11_cheapWay 21 = .ok (.aload_n 0, 1) := by decide +kernel
theorem dX11_cheapWay_22 : decode cX11_cheapWay 22 = .ok (.iload_n 1, 1) := by decide +kernel
theorem dX11_cheapWay_23 : decode cX11_cheapWay 23 = .ok (.invokevirtual 259, 3) := by decide +kernel
theorem dX11_cheapWay_26 : decode cX11_cheapWay 26 = .ok (.astore 5, 2) := by decide +kernel
theorem dX11_cheapWay_28 : decode cX11_cheapWay 28 = .ok (.aload_n 0, 1) := by decide +kernel
theorem dX11_cheapWay_29 : decode cX11_cheapWay 29 = .ok (.iload_n 1, 1) := by decide +kernel
theorem dX11_cheapWay_30 : decode cX11_cheapWay 30 = .ok (.invokevirtual 275, 3) := by decide +kernel
theorem dX11_cheapWay_33 : decode cX11_cheapWay 33 = .ok (.aload_n 0, 1) := by decide +kernel
theorem dX11_cheapWay_34 : decode cX11_cheapWay 34 = .ok (.getfield 33, 3) := by decide +kernel
theorem dX11_cheapWay_37 : decode cX11_cheapWay 37 = .ok (.aload 5, 2) := by decide +kernel
theorem dX11_cheapWay_39 : decode cX11_cheapWay 39 = .ok (.iload_n 2, 1) := by decide +kernel
theorem dX11_cheapWay_40 : decode cX11_cheapWay 40 = .ok (.iload_n 3, 1) := by decide +kernel
theorem dX11_cheapWay_41 : decode cX11_cheapWay 41 = .ok (.iload 4, 2) := by decide +kernel
theorem dX11_cheapWay_43 : decode cX11_cheapWay 43 = .ok (.invokevirtual 282, 3) := by decide +kernel
theorem dX11_cheapWay_46 : decode cX11_cheapWay 46 = .ok (.invokestatic 272, 3) := by decide +kernel
theorem dX11_cheapWay_49 : decode cX11_cheapWay 49 = .ok (.ireturn, 1) := by decide +kernel
set_option maxRecDepth 20000 in
set_option maxHeartbeats 2000000 in
theorem w_X11_cheapWay {X : CX} {d : Nat} (hd : 7 ≤ d) (l0 : Nat) (l1 : Int32) (l2 : Int32) (l3 : Int32) (l4 : Int32) (g g' : G) (rx : Int32) (k_l0 : KD g l0 11) (h : f_X11_cheapWay l0 l1 l2 l3 l4 g = some (rx, g')) : Sem X m_X11_cheapWay d [.ref (ad X l0), .int l1, .int l2, .int l3, .int l4] g (some (.int rx)) g' := by
  refine Sem_of (lo := [(0, .ref (ad X l0)), (1, .int l1), (2, .int l2), (3, .int l3), (4, .int l4)]) (by decide +kernel) rfl (Nat.le_of_ble_eq_true rfl) ?_
  rw [f_X11_cheapWay] at h
  refine SF_aload_n 0 1 dX11_cheapWay_0 rfl rfl rfl ?_
  refine SF_iload_n 1 2 dX11_cheapWay_1 rfl rfl rfl ?_
  refine SF_iload_n 2 3 dX11_cheapWay_2 rfl rfl rfl ?_
  refine SF_iload_n 3 4 dX11_cheapWay_3 rfl rfl rfl ?_
  obtain ⟨v1, g2, q3, h⟩ := bd_some h
  have s4 := w_X11_isGoal (X := X) (Nat.le_refl 2) l0 l1 l2 l3 g g2 v1 k_l0 q3
  refine SF_callVb 7 mi_X11_isGoal ml_X11_255 dX11_cheapWay_4 (Nat.le_trans (by decide) hd) s4 k_l0.1 rfl rfl (Nat.le_of_ble_eq_true rfl) rfl ?_
  have k_l0 := k_l0.ext s4.1
  refine SF_ifne 13 10 dX11_cheapWay_7 rfl rfl (fun c5 => ?_) (fun c5 => ?_)
  · have h := ite_f c5 h
    refine SF_iload 4 15 dX11_cheapWay_13 rfl rfl ?_
    refine SF_ifge 21 18 dX11_cheapWay_15 rfl rfl (fun c6 => ?_) (fun c6 => ?_)
    · have h := ite_t c6 h
      refine SF_aload_n 0 22 dX11_cheapWay_21 rfl rfl rfl ?_
      refine SF_iload_n 1 23 dX11_cheapWay_22 rfl rfl rfl ?_
      obtain ⟨v7, g8, q9, h⟩ := bd_some h
      have s10 := w_X11_graphOf (X := X) (Nat.le_refl 6) l0 l1 g2 g8 v7 k_l0 q9
      refine SF_callVr 26 mi_X11_graphOf ml_X11_259 dX11_cheapWay_23 (Nat.le_trans (by decide) hd) s10 k_l0.1 rfl rfl (Nat.le_of_ble_eq_true rfl) rfl ?_
      have k_l0 := k_l0.ext s10.1
      refine SF_astore [(5, .ref (ad X v7)), (0, .ref (ad X l0)), (1, .int l1), (2, .int l2), (3, .int l3), (4, .int l4)] 28 dX11_cheapWay_26 (by decide) rfl rfl ?_
      refine SF_aload_n 1 29 dX11_cheapWay_28 rfl rfl rfl ?_
      refine SF_iload_n 2 30 dX11_cheapWay_29 rfl rfl rfl ?_
      obtain ⟨v11, g12, q13, h⟩ := bd_some h
      have s14 := w_X11_prepareCheap (X := X) (Nat.le_refl 6) l0 l1 g8 g12 v11 k_l0 q13
      refine SF_callVv 33 mi_X11_prepareCheap ml_X11_275 dX11_cheapWay_30 (Nat.le_trans (by decide) hd) s14 k_l0.1 rfl rfl (Nat.le_of_ble_eq_true rfl) rfl ?_
      have k_l0 := k_l0.ext s14.1
      refine SF_aload_n 1 34 dX11_cheapWay_33 rfl rfl rfl ?_
      obtain ⟨b15, r16, h⟩ := dr_some h
      refine SF_getR 37 fl_X11_33 dX11_cheapWay_34 k_l0.1 r16 rfl ?_
      refine SF_aload 0 39 dX11_cheapWay_37 rfl rfl ?_
      refine SF_iload_n 3 40 dX11_cheapWay_39 rfl rfl rfl ?_
      refine SF_iload_n 4 41 dX11_cheapWay_40 rfl rfl rfl ?_
      refine SF_iload 5 43 dX11_cheapWay_41 rfl rfl ?_
      obtain ⟨k17, h⟩ := gdK_some h
      obtain ⟨k18, h⟩ := gdK_some h
      obtain ⟨v19, g20, q21, h⟩ := bd_some h
      have s22 := w_X1_leadTo (X := X) (Nat.le_refl 5) b15 v7 l2 l3 l4 g12 g20 v19 k17 k18 q21
      refine SF_callVi 46 mi_X1_leadTo ml_X11_282 dX11_cheapWay_43 (Nat.le_trans (by decide) hd) s22 k17.1 rfl rfl (Nat.le_of_ble_eq_true rfl) rfl ?_
      have k_l0 := k_l0.ext s22.1
      have k17 := k17.ext s22.1
      have k18 := k18.ext s22.1
      obtain ⟨v23, g24, q25, h⟩ := bd_some h
      have s26 := w_X11_told (X := X) (Nat.le_refl 0) v19 g20 g24 v23 q25
      refine SF_callSi 49 mi_X11_told ml_X11_272 dX11_cheapWay_46 (Nat.le_trans (by decide) hd) s26 rfl rfl (Nat.le_of_ble_eq_true rfl) rfl ?_
      have k_l0 := k_l0.ext s26.1
      have k17 := k17.ext s26.1
      have k18 := k18.ext s26.1
      exact RT_i rfl dX11_cheapWay_49 h
    · have h := ite_f c6 h
      refine SF_bipush (-3 : Int32) 20 dX11_cheapWay_18 rfl rfl ?_
      exact RT_i rfl dX11_cheapWay_20 h
  · have h := ite_t c5 h
    refine SF_bipush (-2 : Int32) 12 dX11_cheapWay_10 rfl rfl ?_
    exact RT_i rfl dX11_cheapWay_12 h

theorem dX12_cheapWay_0 : decode cX12_cheapWay 0 = .ok (.aload_n 0, 1) := by decide +kernel
theorem dX12_cheapWay_1 : decode cX12_cheapWay 1 = .ok (.iconst 0, 1) := by decide +kernel
theorem dX12_cheapWay_2 : decode cX12_cheapWay 2 = .ok (.putfield 1, 3) := by decide +kernel
theorem dX12_cheapWay_5 : decode cX12_cheapWay 5 = .ok (.aload_n 0, 1) := by decide +kernel
theorem dX12_cheapWay_6 : decode cX12_cheapWay 6 = .ok (.iload_n 1, 1) := by decide +kernel
theorem dX12_cheapWay_7 : decode cX12_cheapWay 7 = .ok (.iload_n 2, 1) := by decide +kernel
theorem dX12_cheapWay_8 : decode cX12_cheapWay 8 = .ok (.iload_n 3, 1) := by decide +kernel
theorem dX12_cheapWay_9 : decode cX12_cheapWay 9 = .ok (.iload 4, 2) := by decide +kernel
theorem dX12_cheapWay_11 : decode cX12_cheapWay 11 = .ok (.iconst 1, 1) := by decide +kernel
theorem dX12_cheapWay_12 : decode cX12_cheapWay 12 = .ok (.invokevirtual 392, 3) := by decide +kernel
theorem dX12_cheapWay_15 : decode cX12_cheapWay 15 = .ok (.ireturn, 1) := by decide +kernel
set_option maxRecDepth 20000 in
set_option maxHeartbeats 2000000 in
theorem w_X12_cheapWay {X : CX} {d : Nat} (hd : 8 ≤ d) (l0 : Nat) (l1 : Int32) (l2 : Int32) (l3 : Int32) (l4 : Int32) (g g' : G) (rx : Int32) (k_l0 : KD g l0 12) (h : f_X12_cheapWay l0 l1 l2 l3 l4 g = some (rx, g')) : Sem X m_X12_cheapWay d [.ref (ad X l0), .int l1, .int l2, .int l3, .int l4] g (some (.int rx)) g' := by
  refine Sem_of (lo := [(0, .ref (ad X l0)), (1, .int l1), (2, .int l2), (3, .int l3), (4, .int l4)]) (by decide +kernel) rfl (Nat.le_of_ble_eq_true rfl) ?_
  rw [f_X12_cheapWay] at h
  refine SF_aload_n 0 1 dX12_cheapWay_0 rfl rfl rfl ?_
  refine SF_iconst (0 : Int32) 2 dX12_cheapWay_1 rfl rfl ?_
  refine SF_putI 5 fl_X12_1 dX12_cheapWay_2 k_l0.1 (fn_int _) (Or.inl rfl) rfl ?_
  obtain ⟨g1, e2, h⟩ := lg_some h
  rw [← e2]
  have k_l0 := KD.eq e2 k_l0
  refine SF_aload_n 0 6 dX12_cheapWay_5 rfl rfl rfl ?_
  refine SF_iload_n 1 7 dX12_cheapWay_6 rfl rfl rfl ?_
  refine SF_iload_n 2 8 dX12_cheapWay_7 rfl rfl rfl ?_
  refine SF_iload_n 3 9 dX12_cheapWay_8 rfl rfl rfl ?_
  refine SF_iload 4 11 dX12_cheapWay_9 rfl rfl ?_
  refine SF_iconst (1 : Int32) 12 dX12_cheapWay_11 rfl rfl ?_
  obtain ⟨v3, g4, q5, h⟩ := bd_some h
  have s6 := w_X12_comesBy (X := X) (Nat.le_refl 7) l0 l1 l2 l3 l4 (1 : Int32) g1 g4 v3 k_l0 q5
  refine SF_callVi 15 mi_X12_comesBy ml_X12_392 dX12_cheapWay_12 (Nat.le_trans (by decide) hd) s6 k_l0.1 rfl rfl (Nat.le_of_ble_eq_true rfl) rfl ?_
  have k_l0 := k_l0.ext s6.1
  exact RT_i rfl dX12_cheapWay_15 h

theorem dX6_start_0 : decode cX6_start 0 = .ok (.aload_n 0, 1) := by decide +kernel
theorem dX6_start_1 : decode cX6_start 1 = .ok (.iconst 0, 1) := by decide +kernel
theorem dX6_start_2 : decode cX6_start 2 = .ok (.putfield 20, 3) := by decide +kernel
theorem dX6_start_5 : decode cX6_start 5 = .ok (.aload_n 0, 1) := by decide +kernel
theorem dX6_start_6 : decode cX6_start 6 = .ok (.getfield 11, 3) := by decide +kernel
theorem dX6_start_9 : decode cX6_start 9 = .ok (.iconst 0, 1) := by decide +kernel
theorem dX6_start_10 : decode cX6_start 10 = .ok (.aaload, 1) := by decide +kernel
theorem dX6_start_11 : decode cX6_start 11 = .ok (.lconst 0, 1) := by decide +kernel
theorem dX6_start_12 : decode cX6_start 12 = .ok (.invokestatic 24, 3) := by decide +kernel
theorem dX6_start_15 : decode cX6_start 15 = .ok (.aload_n 0, 1) := by decide +kernel
theorem dX6_start_16 : decode cX6_start 16 = .ok (.getfield 11, 3) := by decide +kernel
theorem dX6_start_19 : decode cX6_start 19 = .ok (.iconst 0, 1) := by decide +kernel
theorem dX6_start_20 : decode cX6_start 20 = .ok (.aaload, 1) := by decide +kernel
theorem dX6_start_21 : decode cX6_start 21 = .ok (.iconst 0, 1) := by decide +kernel
theorem dX6_start_22 : decode cX6_start 22 = .ok (.lconst 1, 1) := by decide +kernel
theorem dX6_start_23 : decode cX6_start 23 = .ok (.lastore, 1) := by decide +kernel
theorem dX6_start_24 : decode cX6_start 24 = .ok (.return_, 1) := by decide +kernel
set_option maxRecDepth 20000 in
set_option maxHeartbeats 2000000 in
theorem w_X6_start {X : CX} {d : Nat} (hd : 1 ≤ d) (l0 : Nat) (g g' : G) (rx : Unit) (k_l0 : KD g l0 6) (h : f_X6_start l0 g = some (rx, g')) : Sem X m_X6_start d [.ref (ad X l0)] g none g' := by
  refine Sem_of (lo := [(0, .ref (ad X l0))]) (by decide +kernel) rfl (Nat.le_of_ble_eq_true rfl) ?_
  rw [f_X6_start] at h
  refine SF_aload_n 0 1 dX6_start_0 rfl rfl rfl ?_
  refine SF_iconst (0 : Int32) 2 dX6_start_1 rfl rfl ?_
  refine SF_putI 5 fl_X6_20 dX6_start_2 k_l0.1 (fn_int _) (Or.inl rfl) rfl ?_
  obtain ⟨g1, e2, h⟩ := lg_some h
  rw [← e2]
  have k_l0 := KD.eq e2 k_l0
  refine SF_aload_n 0 6 dX6_start_5 rfl rfl rfl ?_
  obtain ⟨b3, r4, h⟩ := dr_some h
  refine SF_getR 9 fl_X6_11 dX6_start_6 k_l0.1 r4 rfl ?_
  refine SF_iconst (0 : Int32) 10 dX6_start_9 rfl rfl ?_
  obtain ⟨k5, h⟩ := gdK_some h
  obtain ⟨i6, h⟩ := gdI_some h
  obtain ⟨b7, r8, h⟩ := dr_some h
  refine SF_aald 11 dX6_start_10 k5.1 (Or.inr (Or.inr rfl)) i6 r8 rfl ?_
  refine SF_lconst (0 : Int64) 12 dX6_start_11 rfl rfl ?_
  obtain ⟨k9, h⟩ := gdK_some h
  obtain ⟨v10, g11, q12, h⟩ := bd_some h
  have s13 := w_J7_fill_d0a16 (X := X) (Nat.le_refl 0) b7 (0 : Int64) g1 g11 v10 k9 q12
  refine SF_callSv 15 mi_J7_fill_d0a16 ml_X6_24 dX6_start_12 (Nat.le_trans (by decide) hd) s13 rfl rfl (Nat.le_of_ble_eq_true rfl) rfl ?_
  have k_l0 := k_l0.ext s13.1
  have k5 := k5.ext s13.1
  have k9 := k9.ext s13.1
  refine SF_aload_n 0 16 dX6_start_15 rfl rfl rfl ?_
  obtain ⟨b14, r15, h⟩ := dr_some h
  refine SF_getR 19 fl_X6_11 dX6_start_16 k_l0.1 r15 rfl ?_
  refine SF_iconst (0 : Int32) 20 dX6_start_19 rfl rfl ?_
  obtain ⟨k16, h⟩ := gdK_some h
  obtain ⟨i17, h⟩ := gdI_some h
  obtain ⟨b18, r19, h⟩ := dr_some h
  refine SF_aald 21 dX6_start_20 k16.1 (Or.inr (Or.inr rfl)) i17 r19 rfl ?_
  refine SF_iconst (0 : Int32) 22 dX6_start_21 rfl rfl ?_
  refine SF_lconst (1 : Int64) 23 dX6_start_22 rfl rfl ?_
  obtain ⟨k20, h⟩ := gdK_some h
  obtain ⟨i21, h⟩ := gdI_some h
  refine SF_last 24 dX6_start_23 k20.1 i21 rfl ?_
  obtain ⟨g22, e23, h⟩ := lg_some h
  rw [← e23]
  have k_l0 := KD.eq e23 k_l0
  have k5 := KD.eq e23 k5
  have k9 := KD.eq e23 k9
  have k16 := KD.eq e23 k16
  have k20 := KD.eq e23 k20
  have r15 := gR_eq e23 r15
  have i17 := vp_eq e23 i17
  have i21 := vp_eq e23 i21
  exact RT_v rfl dX6_start_24 h

theorem dX6_goOnFrom_0 : decode cX6_goOnFrom 0 = .ok (.iconst 0, 1) := by decide +kernel
theorem dX6_goOnFrom_1 : decode cX6_goOnFrom 1 = .ok (.istore 7, 2) := by decide +kernel
theorem dX6_goOnFrom_3 : decode cX6_goOnFrom 3 = .ok (.iconst 0, 1) := by decide +kernel
theorem dX6_goOnFrom_4 : decode cX6_goOnFrom 4 = .ok (.istore 8, 2) := by decide +kernel
theorem dX6_goOnFrom_6 : decode cX6_goOnFrom 6 = .ok (.iload 8, 2) := by decide +kernel
theorem dX6_goOnFrom_8 : decode cX6_goOnFrom 8 = .ok (.bipush 8, 2) := by decide +kernel
theorem dX6_goOnFrom_10 : decode cX6_goOnFrom 10 = .ok (.if_icmp .ge 33, 3) := by decide +kernel
theorem dX6_goOnFrom_13 : decode cX6_goOnFrom 13 = .ok (.iload 7, 2) := by decide +kernel
theorem dX6_goOnFrom_15 : decode cX6_goOnFrom 15 = .ok (.aload_n 0, 1) := by decide +kernel
theorem dX6_goOnFrom_16 : decode cX6_goOnFrom 16 = .ok (.aload_n 0, 1) := by decide +kernel
theorem dX6_goOnFrom_17 : decode cX6_goOnFrom 17 = .ok (.iload_n 1, 1) := by decide +kernel
theorem dX6_goOnFrom_18 : decode cX6_goOnFrom 18 = .ok (.iload 8, 2) := by decide +kernel
theorem dX6_goOnFrom_20 : decode cX6_goOnFrom 20 = .ok (.invokevirtual 41, 3) := by decide +kernel
theorem dX6_goOnFrom_23 : decode cX6_goOnFrom 23 = .ok (.invokevirtual 45, 3) := by decide +kernel
theorem dX6_goOnFrom_26 : decode cX6_goOnFrom 26 = .ok (.ifCond .eq 7, 3) := by decide +kernel
theorem dX6_goOnFrom_29 : decode cX6_goOnFrom 29 = .ok (.iconst 1, 1) := by decide +kernel
theorem dX6_goOnFrom_30 : decode cX6_goOnFrom 30 = .ok (.goto 4, 3) := by decide +kernel
theorem dX6_goOnFrom_33 : decode cX6_goOnFrom 33 = .ok (.iconst 0, 1) := by decide +kernel
theorem dX6_goOnFrom_34 : decode cX6_goOnFrom 34 = .ok (.iadd, 1) := by decide +kernel
theorem dX6_goOnFrom_35 : decode cX6_goOnFrom 35 = .ok (.istore 7, 2) := by decide +kernel
theorem dX6_goOnFrom_37 : decode cX6_goOnFrom 37 = .ok (.iinc 8 1, 3) := by decide +kernel
theorem dX6_goOnFrom_40 : decode cX6_goOnFrom 40 = .ok (.goto (-34), 3) := by decide +kernel
theorem dX6_goOnFrom_43 : decode cX6_goOnFrom 43 = .ok (.iload 7, 2) := by decide +kernel
theorem dX6_goOnFrom_45 : decode cX6_goOnFrom 45 = .ok (.ifCond .ne 15, 3) := by decide +kernel
theorem dX6_goOnFrom_48 : decode cX6_goOnFrom 48 = .ok (.aload 6, 2) := by decide +kernel
theorem dX6_goOnFrom_50 : decode cX6_goOnFrom 50 = .ok (.iload_n 1, 1) := by decide +kernel
theorem dX6_goOnFrom_51 : decode cX6_goOnFrom 51 = .ok (.dup2, 1) := by decide +kernel
theorem dX6_goOnFrom_52 : decode cX6_goOnFrom 52 = .ok (.laload, 1) := by decide +kernel
theorem dX6_goOnFrom_53 : decode cX6_goOnFrom 53 = .ok (.lload_n 2, 1) := by decide +kernel
theorem dX6_goOnFrom_54 : decode cX6_goOnFrom 54 = .ok (.lload 4, 2) := by decide +kernel
theorem dX6_goOnFrom_56 : decode cX6_goOnFrom 56 = .ok (.lmul, 1) := by decide +kernel
theorem dX6_goOnFrom_57 : decode cX6_goOnFrom 57 = .ok (.ladd, 1) := by decide +kernel
theorem dX6_goOnFrom_58 : decode cX6_goOnFrom 58 = .ok (.lastore, 1) := by decide +kernel
theorem dX6_goOnFrom_59 : decode cX6_goOnFrom 59 = .ok (.return_, 1) := by decide +kernel
theorem dX6_goOnFrom_60 : decode cX6_goOnFrom 60 = .ok (.lload 4, 2) := by decide +kernel
theorem dX6_goOnFrom_62 : decode cX6_goOnFrom 62 = .ok (.lconst 0, 1) := by decide +kernel
theorem dX6_goOnFrom_63 : decode cX6_goOnFrom 63 = .ok (.lcmp, 1) := by decide +kernel
theorem dX6_goOnFrom_64 : decode cX6_goOnFrom 64 = .ok (.ifCond .ne 7, 3) := by decide +kernel
theorem dX6_goOnFrom_67 : decode cX6_goOnFrom 67 = .ok (.lload_n 2, 1) := by decide +kernel
theorem dX6_goOnFrom_68 : decode cX6_goOnFrom 68 = .ok (.goto 11, 3) := by decide +kernel
theorem dX6_goOnFrom_71 : decode cX6_goOnFrom 71 = .ok (.lload_n 2, 1) := by decide +kernel
theorem dX6_goOnFrom_72 : decode cX6_goOnFrom 72 = .ok (.lload 4, 2) := by decide +kernel
theorem dX6_goOnFrom_74 : decode cX6_goOnFrom 74 = .ok (.iload 7, 2) := by decide +kernel
theorem dX6_goOnFrom_76 : decode cX6_goOnFrom 76 = .ok (.i2l, 1) := by decide +kernel
theorem dX6_goOnFrom_77 : decode cX6_goOnFrom 77 = .ok (.ldiv, 1) := by decide +kernel
theorem dX6_goOnFrom_78 : decode cX6_goOnFrom 78 = .ok (.lmul, 1) := by decide +kernel
theorem dX6_goOnFrom_79 : decode cX6_goOnFrom 79 = .ok (.lstore 8, 2) := by decide +kernel
theorem dX6_goOnFrom_81 : decode cX6_goOnFrom 81 = .ok (.iconst 0, 1) := by decide +kernel
theorem dX6_goOnFrom_82 : decode cX6_goOnFrom 82 = .ok (.istore 10, 2) := by decide +kernel
theorem dX6_goOnFrom_84 : decode cX6_goOnFrom 84 = .ok (.iload 10, 2) := by decide +kernel
theorem dX6_goOnFrom_86 : decode cX6_goOnFrom 86 = .ok (.bipush 8, 2) := by decide +kernel
theorem dX6_goOnFrom_88 : decode cX6_goOnFrom 88 = .ok (.if_icmp .ge 37, 3) := by decide +kernel
theorem dX6_goOnFrom_91 : decode cX6_goOnFrom 91 = .ok (.aload_n 0, 1) := by decide +kernel
theorem dX6_goOnFrom_92 : decode cX6_goOnFrom 92 = .ok (.iload_n 1, 1) := by decide +kernel
theorem dX6_goOnFrom_93 : decode cX6_goOnFrom 93 = .ok (.iload 10, 2) := by decide +kernel
theorem dX6_goOnFrom_95 : decode cX6_goOnFrom 95 = .ok (.invokevirtual 41, 3) := by decide +kernel
theorem dX6_goOnFrom_98 : decode cX6_goOnFrom 98 = .ok (.istore 11, 2) := by decide +kernel
theorem dX6_goOnFrom_100 : decode cX6_goOnFrom 100 = .ok (.aload_n 0, 1) := by decide +kernel
theorem dX6_goOnFrom_101 : decode cX6_goOnFrom 101 = .ok (.iload 11, 2) := by decide +kernel
theorem dX6_goOnFrom_103 : decode cX6_goOnFrom 103 = .ok (.invokevirtual 45, 3) := by decide +kernel
theorem dX6_goOnFrom_106 : decode cX6_goOnFrom 106 = .ok (.ifCond .eq 13, 3) := by decide +kernel
theorem dX6_goOnFrom_109 : decode cX6_goOnFrom 109 = .ok (.aload 6, 2) := by decide +kernel
theorem dX6_goOnFrom_111 : decode cX6_goOnFrom 111 = .ok (.iload 11, 2) := by decide +kernel
theorem dX6_goOnFrom_113 : decode cX6_goOnFrom 113 = .ok (.dup2, 1) := by decide +kernel
theorem dX6_goOnFrom_114 : decode cX6_goOnFrom 114 = .ok (.laload, 1) := by decide +kernel
theorem dX6_goOnFrom_115 : decode cX6_goOnFrom 115 = .ok (.lload 8, 2) := by decide +kernel
theorem dX6_goOnFrom_117 : decode cX6_goOnFrom 117 = .ok (.ladd, 1) := by decide +kernel
theorem dX6_goOnFrom_118 : decode cX6_goOnFrom 118 = .ok (.lastore, 1) := by decide +kernel
theorem dX6_goOnFrom_119 : decode cX6_goOnFrom 119 = .ok (.iinc 10 1, 3) := by decide +kernel
theorem dX6_goOnFrom_122 : decode cX6_goOnFrom 122 = .ok (.goto (-38), 3) := by decide +kernel
theorem dX6_goOnFrom_125 : decode cX6_goOnFrom 125 = .ok (.return_, 1) := by decide +kernel
set_option maxRecDepth 20000 in
set_option maxHeartbeats 2000000 in
theorem w_X6_goOnFrom_34 {X : CX} {d : Nat} (hd : 2 ≤ d) {g' : G} {rx : Unit} (k6 : Nat → Int32 → Int64 → Int64 → Nat → Int32 → Int32 → G → Option (Unit × G)) (hk6 : ∀ (l0 : Nat) (l1 : Int32) (l2 : Int64) (l4 : Int64) (l6 : Nat) (l7 : Int32) (l8 : Int32) (g : G), KD g l0 4 → KD g l6 15 → k6 l0 l1 l2 l4 l6 l7 l8 g = some (rx, g') → SemF X m_X6_goOnFrom d 6 [(0, .ref (ad X l0)), (1, .int l1), (2, .long l2), (4, .long l4), (6, .ref (ad X l6)), (7, .int l7), (8, .int l8)] [] g none g') (l0 : Nat) (l1 : Int32) (l2 : Int64) (l4 : Int64) (l6 : Nat) (l8 : Int32) (s0 : Int32) (s1 : Int32) (g : G) (k_l0 : KD g l0 4) (k_l6 : KD g l6 15) (h : f_X6_goOnFrom_34 k6 l0 l1 l2 l4 l6 l8 s0 s1 g = some (rx, g')) : SemF X m_X6_goOnFrom d 34 [(0, .ref (ad X l0)), (1, .int l1), (2, .long l2), (4, .long l4), (6, .ref (ad X l6)), (8, .int l8)] [.int s0, .int s1] g none g' := by
  rw [f_X6_goOnFrom_34] at h
  refine SF_iadd 35 dX6_goOnFrom_34 rfl ?_
  obtain ⟨y1, e2, h⟩ := li_some h
  refine SF_eqI e2 ?_
  refine SF_istore [(7, .int y1), (0, .ref (ad X l0)), (1, .int l1), (2, .long l2), (4, .long l4), (6, .ref (ad X l6)), (8, .int l8)] 37 dX6_goOnFrom_35 (by decide) rfl rfl ?_
  refine SF_iinc 6 (l8 + (1 : Int32)) [(8, .int (l8 + (1 : Int32))), (7, .int y1), (0, .ref (ad X l0)), (1, .int l1), (2, .long l2), (4, .long l4), (6, .ref (ad X l6))] 40 dX6_goOnFrom_37 rfl rfl (by decide) rfl rfl ?_
  refine SF_goto 6 dX6_goOnFrom_40 rfl ?_
  refine SF_sub [2, 3, 4, 5, 6, 1, 0] rfl ?_
  exact hk6 l0 l1 l2 l4 l6 y1 (l8 + (1 : Int32)) g k_l0 k_l6 h

set_option maxRecDepth 20000 in
set_option maxHeartbeats 2000000 in
theorem w_X6_goOnFrom_119 {X : CX} {d : Nat} (hd : 2 ≤ d) {g' : G} {rx : Unit} (k84 : Nat → Int32 → Nat → Int64 → Int32 → G → Option (Unit × G)) (hk84 : ∀ (l0 : Nat) (l1 : Int32) (l6 : Nat) (l8 : Int64) (l10 : Int32) (g : G), KD g l0 4 → KD g l6 15 → k84 l0 l1 l6 l8 l10 g = some (rx, g') → SemF X m_X6_goOnFrom d 84 [(0, .ref (ad X l0)), (1, .int l1), (6, .ref (ad X l6)), (8, .long l8), (10, .int l10)] [] g none g') (l0 : Nat) (l1 : Int32) (l6 : Nat) (l8 : Int64) (l10 : Int32) (g : G) (k_l0 : KD g l0 4) (k_l6 : KD g l6 15) (h : f_X6_goOnFrom_119 k84 l0 l1 l6 l8 l10 g = some (rx, g')) : SemF X m_X6_goOnFrom d 119 [(0, .ref (ad X l0)), (1, .int l1), (6, .ref (ad X l6)), (8, .long l8), (10, .int l10)] [] g none g' := by
  rw [f_X6_goOnFrom_119] at h
  refine SF_iinc 4 (l10 + (1 : Int32)) [(10, .int (l10 + (1 : Int32))), (0, .ref (ad X l0)), (1, .int l1), (6, .ref (ad X l6)), (8, .long l8)] 122 dX6_goOnFrom_119 rfl rfl (by decide) rfl rfl ?_
  refine SF_goto 84 dX6_goOnFrom_122 rfl ?_
  refine SF_sub [1, 2, 3, 4, 0] rfl ?_
  exact hk84 l0 l1 l6 l8 (l10 + (1 : Int32)) g k_l0 k_l6 h

set_option maxRecDepth 20000 in
set_option maxHeartbeats 2000000 in
theorem w_X6_goOnFrom_84 {X : CX} {d : Nat} (hd : 2 ≤ d) {g' : G} {rx : Unit} : ∀ (n : Nat) (l0 : Nat) (l1 : Int32) (l6 : Nat) (l8 : Int64) (l10 : Int32) (g : G), KD g l0 4 → KD g l6 15 → f_X6_goOnFrom_84 n l0 l1 l6 l8 l10 g = some (rx, g') → SemF X m_X6_goOnFrom d 84 [(0, .ref (ad X l0)), (1, .int l1), (6, .ref (ad X l6)), (8, .long l8), (10, .int l10)] [] g none g' := by
  intro n
  induction n with
  | zero =>
    intro l0 l1 l6 l8 l10 g k_l0 k_l6 h
    rw [f_X6_goOnFrom_84] at h
    cases h
  | succ n ih =>
  intro l0 l1 l6 l8 l10 g k_l0 k_l6 h
  rw [f_X6_goOnFrom_84] at h
  refine SF_iload 4 86 dX6_goOnFrom_84 rfl rfl ?_
  refine SF_bipush (8 : Int32) 88 dX6_goOnFrom_86 rfl rfl ?_
  refine SF_icge 125 91 dX6_goOnFrom_88 rfl rfl (fun c1 => ?_) (fun c1 => ?_)
  · have h := ite_t c1 h
    exact RT_v rfl dX6_goOnFrom_125 h
  · have h := ite_f c1 h
    refine SF_aload_n 0 92 dX6_goOnFrom_91 rfl rfl rfl ?_
    refine SF_iload_n 1 93 dX6_goOnFrom_92 rfl rfl rfl ?_
    refine SF_iload 4 95 dX6_goOnFrom_93 rfl rfl ?_
    obtain ⟨v2, g3, q4, h⟩ := bd_some h
    have s5 := w_X4_nextOf (X := X) (Nat.le_refl 1) l0 l1 l10 g g3 v2 k_l0 q4
    refine SF_callVi 98 mi_X4_nextOf ml_X6_41 dX6_goOnFrom_95 (Nat.le_trans (by decide) hd) s5 k_l0.1 rfl rfl (Nat.le_of_ble_eq_true rfl) rfl ?_
    have k_l0 := k_l0.ext s5.1
    have k_l6 := k_l6.ext s5.1
    refine SF_istore [(11, .int v2), (0, .ref (ad X l0)), (1, .int l1), (6, .ref (ad X l6)), (8, .long l8), (10, .int l10)] 100 dX6_goOnFrom_98 (by decide) rfl rfl ?_
    refine SF_aload_n 1 101 dX6_goOnFrom_100 rfl rfl rfl ?_
    refine SF_iload 0 103 dX6_goOnFrom_101 rfl rfl ?_
    obtain ⟨v6, g7, q8, h⟩ := bd_some h
    have s9 := w_X4_has (X := X) (Nat.le_refl 0) l0 v2 g3 g7 v6 k_l0 q8
    refine SF_callVb 106 mi_X4_has ml_X6_45 dX6_goOnFrom_103 (Nat.le_trans (by decide) hd) s9 k_l0.1 rfl rfl (Nat.le_of_ble_eq_true rfl) rfl ?_
    have k_l0 := k_l0.ext s9.1
    have k_l6 := k_l6.ext s9.1
    refine SF_ifeq 119 109 dX6_goOnFrom_106 rfl rfl (fun c10 => ?_) (fun c10 => ?_)
    · have h := ite_t c10 h
      refine SF_sub [1, 2, 3, 4, 5] rfl ?_
      exact w_X6_goOnFrom_119 hd (f_X6_goOnFrom_84 n) ih l0 l1 l6 l8 l10 g7 k_l0 k_l6 h
    · have h := ite_f c10 h
      refine SF_aload 3 111 dX6_goOnFrom_109 rfl rfl ?_
      refine SF_iload 0 113 dX6_goOnFrom_111 rfl rfl ?_
      refine SF_dup2_11 114 dX6_goOnFrom_113 rfl rfl rfl ?_
      obtain ⟨i11, h⟩ := gdI_some h
      refine SF_lald 115 dX6_goOnFrom_114 k_l6.1 i11 rfl ?_
      refine SF_lload 4 117 dX6_goOnFrom_115 rfl rfl ?_
      refine SF_ladd 118 dX6_goOnFrom_117 rfl ?_
      refine SF_last 119 dX6_goOnFrom_118 k_l6.1 i11 rfl ?_
      obtain ⟨g12, e13, h⟩ := lg_some h
      rw [← e13]
      have k_l0 := KD.eq e13 k_l0
      have k_l6 := KD.eq e13 k_l6
      have i11 := vp_eq e13 i11
      refine SF_sub [1, 2, 3, 4, 5] rfl ?_
      exact w_X6_goOnFrom_119 hd (f_X6_goOnFrom_84 n) ih l0 l1 l6 l8 l10 g12 k_l0 k_l6 h

set_option maxRecDepth 20000 in
set_option maxHeartbeats 2000000 in
theorem w_X6_goOnFrom_79 {X : CX} {d : Nat} (hd : 2 ≤ d) {g' : G} {rx : Unit} (l0 : Nat) (l1 : Int32) (l6 : Nat) (s0 : Int64) (g : G) (k_l0 : KD g l0 4) (k_l6 : KD g l6 15) (h : f_X6_goOnFrom_79 l0 l1 l6 s0 g = some (rx, g')) : SemF X m_X6_goOnFrom d 79 [(0, .ref (ad X l0)), (1, .int l1), (6, .ref (ad X l6))] [.long s0] g none g' := by
  rw [f_X6_goOnFrom_79] at h
  refine SF_lstore [(8, .long s0), (0, .ref (ad X l0)), (1, .int l1), (6, .ref (ad X l6))] 81 dX6_goOnFrom_79 (by decide) rfl rfl ?_
  refine SF_iconst (0 : Int32) 82 dX6_goOnFrom_81 rfl rfl ?_
  refine SF_istore [(10, .int (0 : Int32)), (8, .long s0), (0, .ref (ad X l0)), (1, .int l1), (6, .ref (ad X l6))] 84 dX6_goOnFrom_82 (by decide) rfl rfl ?_
  refine SF_sub [2, 3, 4, 1, 0] rfl ?_
  exact w_X6_goOnFrom_84 hd FU l0 l1 l6 s0 (0 : Int32) g k_l0 k_l6 h

set_option maxRecDepth 20000 in
set_option maxHeartbeats 2000000 in
theorem w_X6_goOnFrom_6 {X : CX} {d : Nat} (hd : 2 ≤ d) {g' : G} {rx : Unit} : ∀ (n : Nat) (l0 : Nat) (l1 : Int32) (l2 : Int64) (l4 : Int64) (l6 : Nat) (l7 : Int32) (l8 : Int32) (g : G), KD g l0 4 → KD g l6 15 → f_X6_goOnFrom_6 n l0 l1 l2 l4 l6 l7 l8 g = some (rx, g') → SemF X m_X6_goOnFrom d 6 [(0, .ref (ad X l0)), (1, .int l1), (2, .long l2), (4, .long l4), (6, .ref (ad X l6)), (7, .int l7), (8, .int l8)] [] g none g' := by
  intro n
  induction n with
  | zero =>
    intro l0 l1 l2 l4 l6 l7 l8 g k_l0 k_l6 h
    rw [f_X6_goOnFrom_6] at h
    cases h
  | succ n ih =>
  intro l0 l1 l2 l4 l6 l7 l8 g k_l0 k_l6 h
  rw [f_X6_goOnFrom_6] at h
  refine SF_iload 6 8 dX6_goOnFrom_6 rfl rfl ?_
  refine SF_bipush (8 : Int32) 10 dX6_goOnFrom_8 rfl rfl ?_
  refine SF_icge 43 13 dX6_goOnFrom_10 rfl rfl (fun c1 => ?_) (fun c1 => ?_)
  · have h := ite_t c1 h
    refine SF_iload 5 45 dX6_goOnFrom_43 rfl rfl ?_
    refine SF_ifne 60 48 dX6_goOnFrom_45 rfl rfl (fun c2 => ?_) (fun c2 => ?_)
    · have h := ite_f c2 h
      refine SF_lload 3 62 dX6_goOnFrom_60 rfl rfl ?_
      refine SF_lconst (0 : Int64) 63 dX6_goOnFrom_62 rfl rfl ?_
      refine SF_lcmp 64 dX6_goOnFrom_63 rfl ?_
      refine SF_ifne 71 67 dX6_goOnFrom_64 rfl rfl (fun c3 => ?_) (fun c3 => ?_)
      · have h := ite_f c3 h
        refine SF_lload_n 2 72 dX6_goOnFrom_71 rfl rfl rfl ?_
        refine SF_lload 3 74 dX6_goOnFrom_72 rfl rfl ?_
        refine SF_iload 5 76 dX6_goOnFrom_74 rfl rfl ?_
        refine SF_i2l 77 dX6_goOnFrom_76 rfl ?_
        obtain ⟨z4, h⟩ := gdZl_some h
        refine SF_ldiv 78 dX6_goOnFrom_77 z4 rfl ?_
        refine SF_lmul 79 dX6_goOnFrom_78 rfl ?_
        refine SF_sub [0, 1, 4] rfl ?_
        exact w_X6_goOnFrom_79 hd l0 l1 l6 (l2 * (l4 / (l7.toInt64))) g k_l0 k_l6 h
      · have h := ite_t c3 h
        refine SF_lload_n 2 68 dX6_goOnFrom_67 rfl rfl rfl ?_
        refine SF_goto 79 dX6_goOnFrom_68 rfl ?_
        refine SF_sub [0, 1, 4] rfl ?_
        exact w_X6_goOnFrom_79 hd l0 l1 l6 l2 g k_l0 k_l6 h
    · have h := ite_t c2 h
      refine SF_aload 4 50 dX6_goOnFrom_48 rfl rfl ?_
      refine SF_iload_n 1 51 dX6_goOnFrom_50 rfl rfl rfl ?_
      refine SF_dup2_11 52 dX6_goOnFrom_51 rfl rfl rfl ?_
      obtain ⟨i5, h⟩ := gdI_some h
      refine SF_lald 53 dX6_goOnFrom_52 k_l6.1 i5 rfl ?_
      refine SF_lload_n 2 54 dX6_goOnFrom_53 rfl rfl rfl ?_
      refine SF_lload 3 56 dX6_goOnFrom_54 rfl rfl ?_
      refine SF_lmul 57 dX6_goOnFrom_56 rfl ?_
      refine SF_ladd 58 dX6_goOnFrom_57 rfl ?_
      refine SF_last 59 dX6_goOnFrom_58 k_l6.1 i5 rfl ?_
      obtain ⟨g6, e7, h⟩ := lg_some h
      rw [← e7]
      have k_l0 := KD.eq e7 k_l0
      have k_l6 := KD.eq e7 k_l6
      have i5 := vp_eq e7 i5
      exact RT_v rfl dX6_goOnFrom_59 h
  · have h := ite_f c1 h
    refine SF_iload 5 15 dX6_goOnFrom_13 rfl rfl ?_
    refine SF_aload_n 0 16 dX6_goOnFrom_15 rfl rfl rfl ?_
    refine SF_aload_n 0 17 dX6_goOnFrom_16 rfl rfl rfl ?_
    refine SF_iload_n 1 18 dX6_goOnFrom_17 rfl rfl rfl ?_
    refine SF_iload 6 20 dX6_goOnFrom_18 rfl rfl ?_
    obtain ⟨v8, g9, q10, h⟩ := bd_some h
    have s11 := w_X4_nextOf (X := X) (Nat.le_refl 1) l0 l1 l8 g g9 v8 k_l0 q10
    refine SF_callVi 23 mi_X4_nextOf ml_X6_41 dX6_goOnFrom_20 (Nat.le_trans (by decide) hd) s11 k_l0.1 rfl rfl (Nat.le_of_ble_eq_true rfl) rfl ?_
    have k_l0 := k_l0.ext s11.1
    have k_l6 := k_l6.ext s11.1
    obtain ⟨v12, g13, q14, h⟩ := bd_some h
    have s15 := w_X4_has (X := X) (Nat.le_refl 0) l0 v8 g9 g13 v12 k_l0 q14
    refine SF_callVb 26 mi_X4_has ml_X6_45 dX6_goOnFrom_23 (Nat.le_trans (by decide) hd) s15 k_l0.1 rfl rfl (Nat.le_of_ble_eq_true rfl) rfl ?_
    have k_l0 := k_l0.ext s15.1
    have k_l6 := k_l6.ext s15.1
    refine SF_ifeq 33 29 dX6_goOnFrom_26 rfl rfl (fun c16 => ?_) (fun c16 => ?_)
    · have h := ite_t c16 h
      refine SF_iconst (0 : Int32) 34 dX6_goOnFrom_33 rfl rfl ?_
      refine SF_sub [0, 1, 2, 3, 4, 6] rfl ?_
      exact w_X6_goOnFrom_34 hd (f_X6_goOnFrom_6 n) ih l0 l1 l2 l4 l6 l8 (0 : Int32) l7 g13 k_l0 k_l6 h
    · have h := ite_f c16 h
      refine SF_iconst (1 : Int32) 30 dX6_goOnFrom_29 rfl rfl ?_
      refine SF_goto 34 dX6_goOnFrom_30 rfl ?_
      refine SF_sub [0, 1, 2, 3, 4, 6] rfl ?_
      exact w_X6_goOnFrom_34 hd (f_X6_goOnFrom_6 n) ih l0 l1 l2 l4 l6 l8 (1 : Int32) l7 g13 k_l0 k_l6 h

set_option maxRecDepth 20000 in
set_option maxHeartbeats 2000000 in
theorem w_X6_goOnFrom {X : CX} {d : Nat} (hd : 2 ≤ d) (l0 : Nat) (l1 : Int32) (l2 : Int64) (l4 : Int64) (l6 : Nat) (g g' : G) (rx : Unit) (k_l0 : KD g l0 4) (k_l6 : KD g l6 15) (h : f_X6_goOnFrom l0 l1 l2 l4 l6 g = some (rx, g')) : Sem X m_X6_goOnFrom d [.ref (ad X l0), .int l1, .long l2, .long l4, .ref (ad X l6)] g none g' := by
  refine Sem_of (lo := [(0, .ref (ad X l0)), (1, .int l1), (2, .long l2), (4, .long l4), (6, .ref (ad X l6))]) (by decide +kernel) rfl (Nat.le_of_ble_eq_true rfl) ?_
  rw [f_X6_goOnFrom] at h
  refine SF_iconst (0 : Int32) 1 dX6_goOnFrom_0 rfl rfl ?_
  refine SF_istore [(7, .int (0 : Int32)), (0, .ref (ad X l0)), (1, .int l1), (2, .long l2), (4, .long l4), (6, .ref (ad X l6))] 3 dX6_goOnFrom_1 (by decide) rfl rfl ?_
  refine SF_iconst (0 : Int32) 4 dX6_goOnFrom_3 rfl rfl ?_
  refine SF_istore [(8, .int (0 : Int32)), (7, .int (0 : Int32)), (0, .ref (ad X l0)), (1, .int l1), (2, .long l2), (4, .long l4), (6, .ref (ad X l6))] 6 dX6_goOnFrom_4 (by decide) rfl rfl ?_
  refine SF_sub [2, 3, 4, 5, 6, 1, 0] rfl ?_
  exact w_X6_goOnFrom_6 hd FU l0 l1 l2 l4 l6 (0 : Int32) (0 : Int32) g k_l0 k_l6 h

theorem dX6_goOn_0 : decode cX6_goOn 0 = .ok (.aload_n 0, 1) := by decide +kernel
theorem dX6_goOn_1 : decode cX6_goOn 1 = .ok (.getfield 11, 3) := by decide +kernel
theorem dX6_goOn_4 : decode cX6_goOn 4 = .ok (.aload_n 0, 1) := by decide +kernel
theorem dX6_goOn_5 : decode cX6_goOn 5 = .ok (.getfield 20, 3) := by decide +kernel
theorem dX6_goOn_8 : decode cX6_goOn 8 = .ok (.aaload, 1) := by decide +kernel
theorem dX6_goOn_9 : decode cX6_goOn 9 = .ok (.astore_n 3, 1) := by decide +kernel
theorem dX6_goOn_10 : decode cX6_goOn 10 = .ok (.aload_n 0, 1) := by decide +kernel
theorem dX6_goOn_11 : decode cX6_goOn 11 = .ok (.getfield 11, 3) := by decide +kernel
theorem dX6_goOn_14 : decode cX6_goOn 14 = .ok (.iconst 1, 1) := by decide +kernel
theorem dX6_goOn_15 : decode cX6_goOn 15 = .ok (.aload_n 0, 1) := by decide +kernel
theorem dX6_goOn_16 : decode cX6_goOn 16 = .ok (.getfield 20, 3) := by decide +kernel
theorem dX6_goOn_19 : decode cX6_goOn 19 = .ok (.isub, 1) := by decide +kernel
theorem dX6_goOn_20 : decode cX6_goOn 20 = .ok (.aaload, 1) := by decide +kernel
theorem dX6_goOn_21 : decode cX6_goOn 21 = .ok (.astore 4, 2) := by decide +kernel
theorem dX6_goOn_23 : decode cX6_goOn 23 = .ok (.aload 4, 2) := by decide +kernel
theorem dX6_goOn_25 : decode cX6_goOn 25 = .ok (.lconst 0, 1) := by decide +kernel
theorem dX6_goOn_26 : decode cX6_goOn 26 = .ok (.invokestatic 24, 3) := by decide +kernel
theorem dX6_goOn_29 : decode cX6_goOn 29 = .ok (.iconst 0, 1) := by decide +kernel
theorem dX6_goOn_30 : decode cX6_goOn 30 = .ok (.istore 5, 2) := by decide +kernel
theorem dX6_goOn_32 : decode cX6_goOn 32 = .ok (.iload 5, 2) := by decide +kernel
theorem dX6_goOn_34 : decode cX6_goOn 34 = .ok (.aload_n 1, 1) := by decide +kernel
theorem dX6_goOn_35 : decode cX6_goOn 35 = .ok (.getfield 30, 3) := by decide +kernel
theorem dX6_goOn_38 : decode cX6_goOn 38 = .ok (.if_icmp .ge 49, 3) := by decide +kernel
theorem dX6_goOn_41 : decode cX6_goOn 41 = .ok (.iload 5, 2) := by decide +kernel
theorem dX6_goOn_43 : decode cX6_goOn 43 = .ok (.sipush 256, 3) := by decide +kernel
theorem dX6_goOn_46 : decode cX6_goOn 46 = .ok (.if_icmp .ge 41, 3) := by decide +kernel
theorem dX6_goOn_49 : decode cX6_goOn 49 = .ok (.aload_n 3, 1) := by decide +kernel
theorem dX6_goOn_50 : decode cX6_goOn 50 = .ok (.iload 5, 2) := by decide +kernel
theorem dX6_goOn_52 : decode cX6_goOn 52 = .ok (.laload, 1) := by decide +kernel
theorem dX6_goOn_53 : decode cX6_goOn 53 = .ok (.lconst 0, 1) := by decide +kernel
theorem dX6_goOn_54 : decode cX6_goOn 54 = .ok (.lcmp, 1) := by decide +kernel
theorem dX6_goOn_55 : decode cX6_goOn 55 = .ok (.ifCond .eq 26, 3) := by decide +kernel
theorem dX6_goOn_58 : decode cX6_goOn 58 = .ok (.aload_n 1, 1) := by decide +kernel
theorem dX6_goOn_59 : decode cX6_goOn 59 = .ok (.iload 5, 2) := by decide +kernel
theorem dX6_goOn_61 : decode cX6_goOn 61 = .ok (.aload_n 3, 1) := by decide +kernel
theorem dX6_goOn_62 : decode cX6_goOn 62 = .ok (.iload 5, 2) := by decide +kernel
theorem dX6_goOn_64 : decode cX6_goOn 64 = .ok (.laload, 1) := by decide +kernel
theorem dX6_goOn_65 : decode cX6_goOn 65 = .ok (.iload_n 2, 1) := by decide +kernel
theorem dX6_goOn_66 : decode cX6_goOn 66 = .ok (.ifCond .eq 9, 3) := by decide +kernel
theorem dX6_goOn_69 : decode cX6_goOn 69 = .ok (.ldc2_w 35, 3) := by decide +kernel
theorem dX6_goOn_72 : decode cX6_goOn 72 = .ok (.goto 4, 3) := by decide +kernel
theorem dX6_goOn_75 : decode cX6_goOn 75 = .ok (.lconst 0, 1) := by decide +kernel
theorem dX6_goOn_76 : decode cX6_goOn 76 = .ok (.aload 4, 2) := by decide +kernel
theorem dX6_goOn_78 : decode cX6_goOn 78 = .ok (.invokestatic 37, 3) := by decide +kernel
theorem dX6_goOn_81 : decode cX6_goOn 81 = .ok (.iinc 5 1, 3) := by decide +kernel
theorem dX6_goOn_84 : decode cX6_goOn 84 = .ok (.goto (-52), 3) := by decide +kernel
theorem dX6_goOn_87 : decode cX6_goOn 87 = .ok (.aload_n 0, 1) := by decide +kernel
theorem dX6_goOn_88 : decode cX6_goOn 88 = .ok (.iconst 1, 1) := by decide +kernel
theorem dX6_goOn_89 : decode cX6_goOn 89 = .ok (.aload_n 0, 1) := by decide +kernel
theorem dX6_goOn_90 : decode cX6_goOn 90 = .ok (.getfield 20, 3) := by decide +kernel
theorem dX6_goOn_93 : decode cX6_goOn 93 = .ok (.isub, 1) := by decide +kernel
theorem dX6_goOn_94 : decode cX6_goOn 94 = .ok (.putfield 20, 3) := by decide +kernel
theorem dX6_goOn_97 : decode cX6_goOn 97 = .ok (.return_, 1) := by decide +kernel
set_option maxRecDepth 20000 in
set_option maxHeartbeats 2000000 in
theorem w_X6_goOn_81 {X : CX} {d : Nat} (hd : 3 ≤ d) {g' : G} {rx : Unit} (k32 : Nat → Nat → Int32 → Nat → Nat → Int32 → G → Option (Unit × G)) (hk32 : ∀ (l0 : Nat) (l1 : Nat) (l2 : Int32) (l3 : Nat) (l4 : Nat) (l5 : Int32) (g : G), KD g l0 6 → KD g l1 4 → KD g l3 15 → KD g l4 15 → k32 l0 l1 l2 l3 l4 l5 g = some (rx, g') → SemF X m_X6_goOn d 32 [(0, .ref (ad X l0)), (1, .ref (ad X l1)), (2, .int l2), (3, .ref (ad X l3)), (4, .ref (ad X l4)), (5, .int l5)] [] g none g') (l0 : Nat) (l1 : Nat) (l2 : Int32) (l3 : Nat) (l4 : Nat) (l5 : Int32) (g : G) (k_l0 : KD g l0 6) (k_l1 : KD g l1 4) (k_l3 : KD g l3 15) (k_l4 : KD g l4 15) (h : f_X6_goOn_81 k32 l0 l1 l2 l3 l4 l5 g = some (rx, g')) : SemF X m_X6_goOn d 81 [(0, .ref (ad X l0)), (1, .ref (ad X l1)), (2, .int l2), (3, .ref (ad X l3)), (4, .ref (ad X l4)), (5, .int l5)] [] g none g' := by
  rw [f_X6_goOn_81] at h
  refine SF_iinc 5 (l5 + (1 : Int32)) [(5, .int (l5 + (1 : Int32))), (0, .ref (ad X l0)), (1, .ref (ad X l1)), (2, .int l2), (3, .ref (ad X l3)), (4, .ref (ad X l4))] 84 dX6_goOn_81 rfl rfl (by decide) rfl rfl ?_
  refine SF_goto 32 dX6_goOn_84 rfl ?_
  refine SF_sub [1, 2, 3, 4, 5, 0] rfl ?_
  exact hk32 l0 l1 l2 l3 l4 (l5 + (1 : Int32)) g k_l0 k_l1 k_l3 k_l4 h

set_option maxRecDepth 20000 in
set_option maxHeartbeats 2000000 in
theorem w_X6_goOn_76 {X : CX} {d : Nat} (hd : 3 ≤ d) {g' : G} {rx : Unit} (k32 : Nat → Nat → Int32 → Nat → Nat → Int32 → G → Option (Unit × G)) (hk32 : ∀ (l0 : Nat) (l1 : Nat) (l2 : Int32) (l3 : Nat) (l4 : Nat) (l5 : Int32) (g : G), KD g l0 6 → KD g l1 4 → KD g l3 15 → KD g l4 15 → k32 l0 l1 l2 l3 l4 l5 g = some (rx, g') → SemF X m_X6_goOn d 32 [(0, .ref (ad X l0)), (1, .ref (ad X l1)), (2, .int l2), (3, .ref (ad X l3)), (4, .ref (ad X l4)), (5, .int l5)] [] g none g') (l0 : Nat) (l1 : Nat) (l2 : Int32) (l3 : Nat) (l4 : Nat) (l5 : Int32) (s0 : Int64) (s1 : Int64) (s2 : Int32) (s3 : Nat) (g : G) (k_l0 : KD g l0 6) (k_l1 : KD g l1 4) (k_l3 : KD g l3 15) (k_l4 : KD g l4 15) (k_s3 : KD g s3 4) (h : f_X6_goOn_76 k32 l0 l1 l2 l3 l4 l5 s0 s1 s2 s3 g = some (rx, g')) : SemF X m_X6_goOn d 76 [(0, .ref (ad X l0)), (1, .ref (ad X l1)), (2, .int l2), (3, .ref (ad X l3)), (4, .ref (ad X l4)), (5, .int l5)] [.long s0, .long s1, .int s2, .ref (ad X s3)] g none g' := by
  rw [f_X6_goOn_76] at h
  refine SF_aload 4 78 dX6_goOn_76 rfl rfl ?_
  obtain ⟨v1, g2, q3, h⟩ := bd_some h
  have s4 := w_X6_goOnFrom (X := X) (Nat.le_refl 2) s3 s2 s1 s0 l4 g g2 v1 k_s3 k_l4 q3
  refine SF_callSv 81 mi_X6_goOnFrom ml_X6_37 dX6_goOn_78 (Nat.le_trans (by decide) hd) s4 rfl rfl (Nat.le_of_ble_eq_true rfl) rfl ?_
  have k_l0 := k_l0.ext s4.1
  have k_l1 := k_l1.ext s4.1
  have k_l3 := k_l3.ext s4.1
  have k_l4 := k_l4.ext s4.1
  have k_s3 := k_s3.ext s4.1
  exact w_X6_goOn_81 hd k32 hk32 l0 l1 l2 l3 l4 l5 g2 k_l0 k_l1 k_l3 k_l4 h

set_option maxRecDepth 20000 in
set_option maxHeartbeats 2000000 in
theorem w_X6_goOn_87 {X : CX} {d : Nat} (hd : 3 ≤ d) {g' : G} {rx : Unit} (l0 : Nat) (g : G) (k_l0 : KD g l0 6) (h : f_X6_goOn_87 l0 g = some (rx, g')) : SemF X m_X6_goOn d 87 [(0, .ref (ad X l0))] [] g none g' := by
  rw [f_X6_goOn_87] at h
  refine SF_aload_n 0 88 dX6_goOn_87 rfl rfl rfl ?_
  refine SF_iconst (1 : Int32) 89 dX6_goOn_88 rfl rfl ?_
  refine SF_aload_n 0 90 dX6_goOn_89 rfl rfl rfl ?_
  refine SF_getI 93 fl_X6_20 dX6_goOn_90 k_l0.1 rfl ?_
  refine SF_isub 94 dX6_goOn_93 rfl ?_
  refine SF_putI 97 fl_X6_20 dX6_goOn_94 k_l0.1 (fn_int _) (Or.inl rfl) rfl ?_
  obtain ⟨g1, e2, h⟩ := lg_some h
  rw [← e2]
  have k_l0 := KD.eq e2 k_l0
  exact RT_v rfl dX6_goOn_97 h

set_option maxRecDepth 20000 in
set_option maxHeartbeats 2000000 in
theorem w_X6_goOn_32 {X : CX} {d : Nat} (hd : 3 ≤ d) {g' : G} {rx : Unit} : ∀ (n : Nat) (l0 : Nat) (l1 : Nat) (l2 : Int32) (l3 : Nat) (l4 : Nat) (l5 : Int32) (g : G), KD g l0 6 → KD g l1 4 → KD g l3 15 → KD g l4 15 → f_X6_goOn_32 n l0 l1 l2 l3 l4 l5 g = some (rx, g') → SemF X m_X6_goOn d 32 [(0, .ref (ad X l0)), (1, .ref (ad X l1)), (2, .int l2), (3, .ref (ad X l3)), (4, .ref (ad X l4)), (5, .int l5)] [] g none g' := by
  intro n
  induction n with
  | zero =>
    intro l0 l1 l2 l3 l4 l5 g k_l0 k_l1 k_l3 k_l4 h
    rw [f_X6_goOn_32] at h
    cases h
  | succ n ih =>
  intro l0 l1 l2 l3 l4 l5 g k_l0 k_l1 k_l3 k_l4 h
  rw [f_X6_goOn_32] at h
  refine SF_iload 5 34 dX6_goOn_32 rfl rfl ?_
  refine SF_aload_n 1 35 dX6_goOn_34 rfl rfl rfl ?_
  refine SF_getI 38 fl_X6_30 dX6_goOn_35 k_l1.1 rfl ?_
  refine SF_icge 87 41 dX6_goOn_38 rfl rfl (fun c1 => ?_) (fun c1 => ?_)
  · have h := ite_t c1 h
    refine SF_sub [0] rfl ?_
    exact w_X6_goOn_87 hd l0 g k_l0 h
  · have h := ite_f c1 h
    refine SF_iload 5 43 dX6_goOn_41 rfl rfl ?_
    refine SF_sipush (256 : Int32) 46 dX6_goOn_43 rfl rfl ?_
    refine SF_icge 87 49 dX6_goOn_46 rfl rfl (fun c2 => ?_) (fun c2 => ?_)
    · have h := ite_t c2 h
      refine SF_sub [0] rfl ?_
      exact w_X6_goOn_87 hd l0 g k_l0 h
    · have h := ite_f c2 h
      refine SF_aload_n 3 50 dX6_goOn_49 rfl rfl rfl ?_
      refine SF_iload 5 52 dX6_goOn_50 rfl rfl ?_
      obtain ⟨i3, h⟩ := gdI_some h
      refine SF_lald 53 dX6_goOn_52 k_l3.1 i3 rfl ?_
      refine SF_lconst (0 : Int64) 54 dX6_goOn_53 rfl rfl ?_
      refine SF_lcmp 55 dX6_goOn_54 rfl ?_
      refine SF_ifeq 81 58 dX6_goOn_55 rfl rfl (fun c4 => ?_) (fun c4 => ?_)
      · have h := ite_t c4 h
        exact w_X6_goOn_81 hd (f_X6_goOn_32 n) ih l0 l1 l2 l3 l4 l5 g k_l0 k_l1 k_l3 k_l4 h
      · have h := ite_f c4 h
        refine SF_aload_n 1 59 dX6_goOn_58 rfl rfl rfl ?_
        refine SF_iload 5 61 dX6_goOn_59 rfl rfl ?_
        refine SF_aload_n 3 62 dX6_goOn_61 rfl rfl rfl ?_
        refine SF_iload 5 64 dX6_goOn_62 rfl rfl ?_
        refine SF_lald 65 dX6_goOn_64 k_l3.1 i3 rfl ?_
        refine SF_iload_n 2 66 dX6_goOn_65 rfl rfl rfl ?_
        refine SF_ifeq 75 69 dX6_goOn_66 rfl rfl (fun c5 => ?_) (fun c5 => ?_)
        · have h := ite_t c5 h
          refine SF_lconst (0 : Int64) 76 dX6_goOn_75 rfl rfl ?_
          exact w_X6_goOn_76 hd (f_X6_goOn_32 n) ih l0 l1 l2 l3 l4 l5 (0 : Int64) (gL g l3 l5.toNatClampNeg) l5 l1 g k_l0 k_l1 k_l3 k_l4 k_l1 h
        · have h := ite_f c5 h
          refine SF_ldc2 72 dX6_goOn_69 kl_X6_35 rfl ?_
          refine SF_goto 76 dX6_goOn_72 rfl ?_
          exact w_X6_goOn_76 hd (f_X6_goOn_32 n) ih l0 l1 l2 l3 l4 l5 (840 : Int64) (gL g l3 l5.toNatClampNeg) l5 l1 g k_l0 k_l1 k_l3 k_l4 k_l1 h

set_option maxRecDepth 20000 in
set_option maxHeartbeats 2000000 in
theorem w_X6_goOn {X : CX} {d : Nat} (hd : 3 ≤ d) (l0 : Nat) (l1 : Nat) (l2 : Int32) (g g' : G) (rx : Unit) (k_l0 : KD g l0 6) (k_l1 : KD g l1 4) (h : f_X6_goOn l0 l1 l2 g = some (rx, g')) : Sem X m_X6_goOn d [.ref (ad X l0), .ref (ad X l1), .int l2] g none g' := by
  refine Sem_of (lo := [(0, .ref (ad X l0)), (1, .ref (ad X l1)), (2, .int l2)]) (by decide +kernel) rfl (Nat.le_of_ble_eq_true rfl) ?_
  rw [f_X6_goOn] at h
  refine SF_aload_n 0 1 dX6_goOn_0 rfl rfl rfl ?_
  obtain ⟨b1, r2, h⟩ := dr_some h
  refine SF_getR 4 fl_X6_11 dX6_goOn_1 k_l0.1 r2 rfl ?_
  refine SF_aload_n 0 5 dX6_goOn_4 rfl rfl rfl ?_
  refine SF_getI 8 fl_X6_20 dX6_goOn_5 k_l0.1 rfl ?_
  obtain ⟨k3, h⟩ := gdK_some h
  obtain ⟨i4, h⟩ := gdI_some h
  obtain ⟨b5, r6, h⟩ := dr_some h
  refine SF_aald 9 dX6_goOn_8 k3.1 (Or.inr (Or.inr rfl)) i4 r6 rfl ?_
  refine SF_astore_n [(3, .ref (ad X b5)), (0, .ref (ad X l0)), (1, .ref (ad X l1)), (2, .int l2)] 10 dX6_goOn_9 rfl (by decide) rfl rfl ?_
  refine SF_aload_n 1 11 dX6_goOn_10 rfl rfl rfl ?_
  refine SF_getR 14 fl_X6_11 dX6_goOn_11 k_l0.1 r2 rfl ?_
  refine SF_iconst (1 : Int32) 15 dX6_goOn_14 rfl rfl ?_
  refine SF_aload_n 1 16 dX6_goOn_15 rfl rfl rfl ?_
  refine SF_getI 19 fl_X6_20 dX6_goOn_16 k_l0.1 rfl ?_
  refine SF_isub 20 dX6_goOn_19 rfl ?_
  obtain ⟨i7, h⟩ := gdI_some h
  obtain ⟨b8, r9, h⟩ := dr_some h
  refine SF_aald 21 dX6_goOn_20 k3.1 (Or.inr (Or.inr rfl)) i7 r9 rfl ?_
  refine SF_astore [(4, .ref (ad X b8)), (3, .ref (ad X b5)), (0, .ref (ad X l0)), (1, .ref (ad X l1)), (2, .int l2)] 23 dX6_goOn_21 (by decide) rfl rfl ?_
  refine SF_aload 0 25 dX6_goOn_23 rfl rfl ?_
  refine SF_lconst (0 : Int64) 26 dX6_goOn_25 rfl rfl ?_
  obtain ⟨k10, h⟩ := gdK_some h
  obtain ⟨v11, g12, q13, h⟩ := bd_some h
  have s14 := w_J7_fill_d0a16 (X := X) (Nat.le_refl 0) b8 (0 : Int64) g g12 v11 k10 q13
  refine SF_callSv 29 mi_J7_fill_d0a16 ml_X6_24 dX6_goOn_26 (Nat.le_trans (by decide) hd) s14 rfl rfl (Nat.le_of_ble_eq_true rfl) rfl ?_
  have k_l0 := k_l0.ext s14.1
  have k_l1 := k_l1.ext s14.1
  have k3 := k3.ext s14.1
  have k10 := k10.ext s14.1
  refine SF_iconst (0 : Int32) 30 dX6_goOn_29 rfl rfl ?_
  refine SF_istore [(5, .int (0 : Int32)), (4, .ref (ad X b8)), (3, .ref (ad X b5)), (0, .ref (ad X l0)), (1, .ref (ad X l1)), (2, .int l2)] 32 dX6_goOn_30 (by decide) rfl rfl ?_
  obtain ⟨k15, h⟩ := gdK_some h
  refine SF_sub [3, 4, 5, 2, 1, 0] rfl ?_
  exact w_X6_goOn_32 hd FU l0 l1 l2 b5 b8 (0 : Int32) g12 k_l0 k_l1 k15 k10 h

theorem dX6_sumAt_0 : decode cX6_sumAt 0 = .ok (.lconst 0, 1) := by decide +kernel
theorem dX6_sumAt_1 : decode cX6_sumAt 1 = .ok (.lstore 4, 2) := by decide +kernel
theorem dX6_sumAt_3 : decode cX6_sumAt 3 = .ok (.iconst 0, 1) := by decide +kernel
theorem dX6_sumAt_4 : decode cX6_sumAt 4 = .ok (.istore 6, 2) := by decide +kernel
theorem dX6_sumAt_6 : decode cX6_sumAt 6 = .ok (.iload 6, 2) := by decide +kernel
theorem dX6_sumAt_8 : decode cX6_sumAt 8 = .ok (.aload_n 1, 1) := by decide +kernel
theorem dX6_sumAt_9 : decode cX6_sumAt 9 = .ok (.getfield 30, 3) := by decide +kernel
theorem dX6_sumAt_12 : decode cX6_sumAt 12 = .ok (.if_icmp .ge 49, 3) := by decide +kernel
theorem dX6_sumAt_15 : decode cX6_sumAt 15 = .ok (.iload 6, 2) := by decide +kernel
theorem dX6_sumAt_17 : decode cX6_sumAt 17 = .ok (.sipush 256, 3) := by decide +kernel
theorem dX6_sumAt_20 : decode cX6_sumAt 20 = .ok (.if_icmp .ge 41, 3) := by decide +kernel
theorem dX6_sumAt_23 : decode cX6_sumAt 23 = .ok (.lload 4, 2) := by decide +kernel
theorem dX6_sumAt_25 : decode cX6_sumAt 25 = .ok (.aload_n 1, 1) := by decide +kernel
theorem dX6_sumAt_26 : decode cX6_sumAt 26 = .ok (.iload 6, 2) := by decide +kernel
theorem dX6_sumAt_28 : decode cX6_sumAt 28 = .ok (.iload_n 2, 1) := by decide +kernel
theorem dX6_sumAt_29 : decode cX6_sumAt 29 = .ok (.iload_n 3, 1) := by decide +kernel
theorem dX6_sumAt_30 : decode cX6_sumAt 30 = .ok (.invokevirtual 49, 3) := by decide +kernel
theorem dX6_sumAt_33 : decode cX6_sumAt 33 = .ok (.ifCond .eq 18, 3) := by decide +kernel
theorem dX6_sumAt_36 : decode cX6_sumAt 36 = .ok (.aload_n 0, 1) := by decide +kernel
theorem dX6_sumAt_37 : decode cX6_sumAt 37 = .ok (.getfield 11, 3) := by decide +kernel
theorem dX6_sumAt_40 : decode cX6_sumAt 40 = .ok (.aload_n 0, 1) := by decide +kernel
theorem dX6_sumAt_41 : decode cX6_sumAt 41 = .ok (.getfield 20, 3) := by decide +kernel
theorem dX6_sumAt_44 : decode cX6_sumAt 44 = .ok (.aaload, 1) := by decide +kernel
theorem dX6_sumAt_45 : decode cX6_sumAt 45 = .ok (.iload 6, 2) := by decide +kernel
theorem dX6_sumAt_47 : decode cX6_sumAt 47 = .ok (.laload, 1) := by decide +kernel
theorem dX6_sumAt_48 : decode cX6_sumAt 48 = .ok (.goto 4, 3) := by decide +kernel
theorem dX6_sumAt_51 : decode cX6_sumAt 51 = .ok (.lconst 0, 1) := by decide +kernel
theorem dX6_sumAt_52 : decode cX6_sumAt 52 = .ok (.ladd, 1) := by decide +kernel
theorem dX6_sumAt_53 : decode cX6_sumAt 53 = .ok (.lstore 4, 2) := by decide +kernel
theorem dX6_sumAt_55 : decode cX6_sumAt 55 = .ok (.iinc 6 1, 3) := by decide +kernel
theorem dX6_sumAt_58 : decode cX6_sumAt 58 = .ok (.goto (-52), 3) := by decide +kernel
theorem dX6_sumAt_61 : decode cX6_sumAt 61 = .ok (.lload 4, 2) := by decide +kernel
theorem dX6_sumAt_63 : decode cX6_sumAt 63 = .ok (.lreturn, 1) := by decide +kernel
set_option maxRecDepth 20000 in
set_option maxHeartbeats 2000000 in
theorem w_X6_sumAt_52 {X : CX} {d : Nat} (hd : 2 ≤ d) {g' : G} {rx : Int64} (k6 : Nat → Nat → Int32 → Int32 → Int64 → Int32 → G → Option (Int64 × G)) (hk6 : ∀ (l0 : Nat) (l1 : Nat) (l2 : Int32) (l3 : Int32) (l4 : Int64) (l6 : Int32) (g : G), KD g l0 6 → KD g l1 4 → k6 l0 l1 l2 l3 l4 l6 g = some (rx, g') → SemF X m_X6_sumAt d 6 [(0, .ref (ad X l0)), (1, .ref (ad X l1)), (2, .int l2), (3, .int l3), (4, .long l4), (6, .int l6)] [] g (some (.long rx)) g') (l0 : Nat) (l1 : Nat) (l2 : Int32) (l3 : Int32) (l6 : Int32) (s0 : Int64) (s1 : Int64) (g : G) (k_l0 : KD g l0 6) (k_l1 : KD g l1 4) (h : f_X6_sumAt_52 k6 l0 l1 l2 l3 l6 s0 s1 g = some (rx, g')) : SemF X m_X6_sumAt d 52 [(0, .ref (ad X l0)), (1, .ref (ad X l1)), (2, .int l2), (3, .int l3), (6, .int l6)] [.long s0, .long s1] g (some (.long rx)) g' := by
  rw [f_X6_sumAt_52] at h
  refine SF_ladd 53 dX6_sumAt_52 rfl ?_
  obtain ⟨y1, e2, h⟩ := ll_some h
  refine SF_eqL e2 ?_
  refine SF_lstore [(4, .long y1), (0, .ref (ad X l0)), (1, .ref (ad X l1)), (2, .int l2), (3, .int l3), (6, .int l6)] 55 dX6_sumAt_53 (by decide) rfl rfl ?_
  refine SF_iinc 5 (l6 + (1 : Int32)) [(6, .int (l6 + (1 : Int32))), (4, .long y1), (0, .ref (ad X l0)), (1, .ref (ad X l1)), (2, .int l2), (3, .int l3)] 58 dX6_sumAt_55 rfl rfl (by decide) rfl rfl ?_
  refine SF_goto 6 dX6_sumAt_58 rfl ?_
  refine SF_sub [2, 3, 4, 5, 1, 0] rfl ?_
  exact hk6 l0 l1 l2 l3 y1 (l6 + (1 : Int32)) g k_l0 k_l1 h

set_option maxRecDepth 20000 in
set_option maxHeartbeats 2000000 in
theorem w_X6_sumAt_61 {X : CX} {d : Nat} (hd : 2 ≤ d) {g' : G} {rx : Int64} (l4 : Int64) (g : G) (h : f_X6_sumAt_61 l4 g = some (rx, g')) : SemF X m_X6_sumAt d 61 [(4, .long l4)] [] g (some (.long rx)) g' := by
  rw [f_X6_sumAt_61] at h
  refine SF_lload 0 63 dX6_sumAt_61 rfl rfl ?_
  exact RT_l rfl dX6_sumAt_63 h

set_option maxRecDepth 20000 in
set_option maxHeartbeats 2000000 in
theorem w_X6_sumAt_6 {X : CX} {d : Nat} (hd : 2 ≤ d) {g' : G} {rx : Int64} : ∀ (n : Nat) (l0 : Nat) (l1 : Nat) (l2 : Int32) (l3 : Int32) (l4 : Int64) (l6 : Int32) (g : G), KD g l0 6 → KD g l1 4 → f_X6_sumAt_6 n l0 l1 l2 l3 l4 l6 g = some (rx, g') → SemF X m_X6_sumAt d 6 [(0, .ref (ad X l0)), (1, .ref (ad X l1)), (2, .int l2), (3, .int l3), (4, .long l4), (6, .int l6)] [] g (some (.long rx)) g' := by
  intro n
  induction n with
  | zero =>
    intro l0 l1 l2 l3 l4 l6 g k_l0 k_l1 h
    rw [f_X6_sumAt_6] at h
    cases h
  | succ n ih =>
  intro l0 l1 l2 l3 l4 l6 g k_l0 k_l1 h
  rw [f_X6_sumAt_6] at h
  refine SF_iload 5 8 dX6_sumAt_6 rfl rfl ?_
  refine SF_aload_n 1 9 dX6_sumAt_8 rfl rfl rfl ?_
  refine SF_getI 12 fl_X6_30 dX6_sumAt_9 k_l1.1 rfl ?_
  refine SF_icge 61 15 dX6_sumAt_12 rfl rfl (fun c1 => ?_) (fun c1 => ?_)
  · have h := ite_t c1 h
    refine SF_sub [4] rfl ?_
    exact w_X6_sumAt_61 hd l4 g  h
  · have h := ite_f c1 h
    refine SF_iload 5 17 dX6_sumAt_15 rfl rfl ?_
    refine SF_sipush (256 : Int32) 20 dX6_sumAt_17 rfl rfl ?_
    refine SF_icge 61 23 dX6_sumAt_20 rfl rfl (fun c2 => ?_) (fun c2 => ?_)
    · have h := ite_t c2 h
      refine SF_sub [4] rfl ?_
      exact w_X6_sumAt_61 hd l4 g  h
    · have h := ite_f c2 h
      refine SF_lload 4 25 dX6_sumAt_23 rfl rfl ?_
      refine SF_aload_n 1 26 dX6_sumAt_25 rfl rfl rfl ?_
      refine SF_iload 5 28 dX6_sumAt_26 rfl rfl ?_
      refine SF_iload_n 2 29 dX6_sumAt_28 rfl rfl rfl ?_
      refine SF_iload_n 3 30 dX6_sumAt_29 rfl rfl rfl ?_
      obtain ⟨v3, g4, q5, h⟩ := bd_some h
      have s6 := w_X4_fits (X := X) (Nat.le_refl 1) l1 l6 l2 l3 g g4 v3 k_l1 q5
      refine SF_callVb 33 mi_X4_fits ml_X6_49 dX6_sumAt_30 (Nat.le_trans (by decide) hd) s6 k_l1.1 rfl rfl (Nat.le_of_ble_eq_true rfl) rfl ?_
      have k_l0 := k_l0.ext s6.1
      have k_l1 := k_l1.ext s6.1
      refine SF_ifeq 51 36 dX6_sumAt_33 rfl rfl (fun c7 => ?_) (fun c7 => ?_)
      · have h := ite_t c7 h
        refine SF_lconst (0 : Int64) 52 dX6_sumAt_51 rfl rfl ?_
        refine SF_sub [0, 1, 2, 3, 5] rfl ?_
        exact w_X6_sumAt_52 hd (f_X6_sumAt_6 n) ih l0 l1 l2 l3 l6 (0 : Int64) l4 g4 k_l0 k_l1 h
      · have h := ite_f c7 h
        refine SF_aload_n 0 37 dX6_sumAt_36 rfl rfl rfl ?_
        obtain ⟨b8, r9, h⟩ := dr_some h
        refine SF_getR 40 fl_X6_11 dX6_sumAt_37 k_l0.1 r9 rfl ?_
        refine SF_aload_n 0 41 dX6_sumAt_40 rfl rfl rfl ?_
        refine SF_getI 44 fl_X6_20 dX6_sumAt_41 k_l0.1 rfl ?_
        obtain ⟨k10, h⟩ := gdK_some h
        obtain ⟨i11, h⟩ := gdI_some h
        obtain ⟨b12, r13, h⟩ := dr_some h
        refine SF_aald 45 dX6_sumAt_44 k10.1 (Or.inr (Or.inr rfl)) i11 r13 rfl ?_
        refine SF_iload 5 47 dX6_sumAt_45 rfl rfl ?_
        obtain ⟨k14, h⟩ := gdK_some h
        obtain ⟨i15, h⟩ := gdI_some h
        refine SF_lald 48 dX6_sumAt_47 k14.1 i15 rfl ?_
        refine SF_goto 52 dX6_sumAt_48 rfl ?_
        refine SF_sub [0, 1, 2, 3, 5] rfl ?_
        exact w_X6_sumAt_52 hd (f_X6_sumAt_6 n) ih l0 l1 l2 l3 l6 (gL g4 b12 l6.toNatClampNeg) l4 g4 k_l0 k_l1 h

set_option maxRecDepth 20000 in
set_option maxHeartbeats 2000000 in
theorem w_X6_sumAt {X : CX} {d : Nat} (hd : 2 ≤ d) (l0 : Nat) (l1 : Nat) (l2 : Int32) (l3 : Int32) (g g' : G) (rx : Int64) (k_l0 : KD g l0 6) (k_l1 : KD g l1 4) (h : f_X6_sumAt l0 l1 l2 l3 g = some (rx, g')) : Sem X m_X6_sumAt d [.ref (ad X l0), .ref (ad X l1), .int l2, .int l3] g (some (.long rx)) g' := by
  refine Sem_of (lo := [(0, .ref (ad X l0)), (1, .ref (ad X l1)), (2, .int l2), (3, .int l3)]) (by decide +kernel) rfl (Nat.le_of_ble_eq_true rfl) ?_
  rw [f_X6_sumAt] at h
  refine SF_lconst (0 : Int64) 1 dX6_sumAt_0 rfl rfl ?_
  refine SF_lstore [(4, .long (0 : Int64)), (0, .ref (ad X l0)), (1, .ref (ad X l1)), (2, .int l2), (3, .int l3)] 3 dX6_sumAt_1 (by decide) rfl rfl ?_
  refine SF_iconst (0 : Int32) 4 dX6_sumAt_3 rfl rfl ?_
  refine SF_istore [(6, .int (0 : Int32)), (4, .long (0 : Int64)), (0, .ref (ad X l0)), (1, .ref (ad X l1)), (2, .int l2), (3, .int l3)] 6 dX6_sumAt_4 (by decide) rfl rfl ?_
  refine SF_sub [2, 3, 4, 5, 1, 0] rfl ?_
  exact w_X6_sumAt_6 hd FU l0 l1 l2 l3 (0 : Int64) (0 : Int32) g k_l0 k_l1 h

theorem dX11_rows_0 : decode cX11_rows 0 = .ok (.aload_n 0, 1) := by decide +kernel
theorem dX11_rows_1 : decode cX11_rows 1 = .ok (.iload_n 1, 1) := by decide +kernel
theorem dX11_rows_2 : decode cX11_rows 2 = .ok (.iload_n 2, 1) := by decide +kernel
theorem dX11_rows_3 : decode cX11_rows 3 = .ok (.iload_n 3, 1) := by decide +kernel
theorem dX11_rows_4 : decode cX11_rows 4 = .ok (.invokevirtual 255, 3) := by decide +kernel
theorem dX11_rows_7 : decode cX11_rows 7 = .ok (.ifCond .ne 7, 3) := by decide +kernel
theorem dX11_rows_10 : decode cX11_rows 10 = .ok (.ldc2_w 286, 3) := by decide +kernel
theorem dX11_rows_13 : decode cX11_rows 13 = .ok (.lreturn, 1) := by decide +kernel
theorem dX11_rows_14 : decode cX11_rows 14 = .ok (.iload 4, 2) := by decide +kernel
theorem dX11_rows_16 : decode cX11_rows 16 = .ok (.ifCond .lt 10, 3) := by decide +kernel
theorem dX11_rows_19 : decode cX11_rows 19 = .ok (.iload 4, 2) := by decide +kernel
theorem dX11_rows_21 : decode cX11_rows 21 = .ok (.bipush 15, 2) := by decide +kernel
theorem dX11_rows_23 : decode cX11_rows 23 = .ok (.if_icmp .le 7, 3) := by decide +kernel
theorem dX11_rows_26 : decode cX11_rows 26 = .ok (.ldc2_w 288, 3) := by decide +kernel
theorem dX11_rows_29 : decode cX11_rows 29 = .ok (.lreturn, 1) := by decide +kernel
theorem dX11_rows_30 : decode cX11_rows 30 = .ok (.aload_n 0, 1) := by decide +kernel
theorem dX11_rows_31 : decode cX11_rows 31 = .ok (.iload_n 1, 1) := by decide +kernel
theorem dX11_rows_32 : decode cX11_rows 32 = .ok (.invokevirtual 259, 3) := by decide +kernel
theorem dX11_rows_35 : decode cX11_rows 35 = .ok (.astore 5, 2) := by decide +kernel
theorem dX11_rows_37 : decode cX11_rows 37 = .ok (.aload_n 0, 1) := by decide +kernel
theorem dX11_rows_38 : decode cX11_rows 38 = .ok (.getfield 54, 3) := by decide +kernel
theorem dX11_rows_41 : decode cX11_rows 41 = .ok (.invokevirtual 290, 3) := by decide +kernel
theorem dX11_rows_44 : decode cX11_rows 44 = .ok (.iconst 0, 1) := by decide +kernel
theorem dX11_rows_45 : decode cX11_rows 45 = .ok (.istore 6, 2) := by decide +kernel
theorem dX11_rows_47 : decode cX11_rows 47 = .ok (.iload 6, 2) := by decide +kernel
theorem dX11_rows_49 : decode cX11_rows 49 = .ok (.iload 4, 2) := by decide +kernel
theorem dX11_rows_51 : decode cX11_rows 51 = .ok (.if_icmp .ge 19, 3) := by decide +kernel
theorem dX11_rows_54 : decode cX11_rows 54 = .ok (.aload_n 0, 1) := by decide +kernel
theorem dX11_rows_55 : decode cX11_rows 55 = .ok (.getfield 54, 3) := by decide +kernel
theorem dX11_rows_58 : decode cX11_rows 58 = .ok (.aload 5, 2) := by decide +kernel
theorem dX11_rows_60 : decode cX11_rows 60 = .ok (.iconst 0, 1) := by decide +kernel
theorem dX11_rows_61 : decode cX11_rows 61 = .ok (.invokevirtual 293, 3) := by decide +kernel
theorem dX11_rows_64 : decode cX11_rows 64 = .ok (.iinc 6 1, 3) := by decide +kernel
theorem dX11_rows_67 : decode cX11_rows 67 = .ok (.goto (-20), 3) := by decide +kernel
theorem dX11_rows_70 : decode cX11_rows 70 = .ok (.aload_n 0, 1) := by decide +kernel
theorem dX11_rows_71 : decode cX11_rows 71 = .ok (.getfield 54, 3) := by decide +kernel
theorem dX11_rows_74 : decode cX11_rows 74 = .ok (.aload 5, 2) := by decide +kernel
theorem dX11_rows_76 : decode cX11_rows 76 = .ok (.iload_n 2, 1) := by decide +kernel
theorem dX11_rows_77 : decode cX11_rows 77 = .ok (.iload_n 3, 1) := by decide +kernel
theorem dX11_rows_78 : decode cX11_rows 78 = .ok (.invokevirtual 297, 3) := by decide +kernel
theorem dX11_rows_81 : decode cX11_rows 81 = .ok (.lreturn, 1) := by decide +kernel
set_option maxRecDepth 20000 in
set_option maxHeartbeats 2000000 in
theorem w_X11_rows_26 {X : CX} {d : Nat} (hd : 7 ≤ d) {g' : G} {rx : Int64} (g : G) (h : f_X11_rows_26 g = some (rx, g')) : SemF X m_X11_rows d 26 [] [] g (some (.long rx)) g' := by
  rw [f_X11_rows_26] at h
  refine SF_ldc2 29 dX11_rows_26 kl_X11_288 rfl ?_
  exact RT_l rfl dX11_rows_29 h

set_option maxRecDepth 20000 in
set_option maxHeartbeats 2000000 in
theorem w_X11_rows_47 {X : CX} {d : Nat} (hd : 7 ≤ d) {g' : G} {rx : Int64} : ∀ (n : Nat) (l0 : Nat) (l2 : Int32) (l3 : Int32) (l4 : Int32) (l5 : Nat) (l6 : Int32) (g : G), KD g l0 11 → KD g l5 4 → f_X11_rows_47 n l0 l2 l3 l4 l5 l6 g = some (rx, g') → SemF X m_X11_rows d 47 [(0, .ref (ad X l0)), (2, .int l2), (3, .int l3), (4, .int l4), (5, .ref (ad X l5)), (6, .int l6)] [] g (some (.long rx)) g' := by
  intro n
  induction n with
  | zero =>
    intro l0 l2 l3 l4 l5 l6 g k_l0 k_l5 h
    rw [f_X11_rows_47] at h
    cases h
  | succ n ih =>
  intro l0 l2 l3 l4 l5 l6 g k_l0 k_l5 h
  rw [f_X11_rows_47] at h
  refine SF_iload 5 49 dX11_rows_47 rfl rfl ?_
  refine SF_iload 3 51 dX11_rows_49 rfl rfl ?_
  refine SF_icge 70 54 dX11_rows_51 rfl rfl (fun c1 => ?_) (fun c1 => ?_)
  · have h := ite_t c1 h
    refine SF_aload_n 0 71 dX11_rows_70 rfl rfl rfl ?_
    obtain ⟨b2, r3, h⟩ := dr_some h
    refine SF_getR 74 fl_X11_54 dX11_rows_71 k_l0.1 r3 rfl ?_
    refine SF_aload 4 76 dX11_rows_74 rfl rfl ?_
    refine SF_iload_n 1 77 dX11_rows_76 rfl rfl rfl ?_
    refine SF_iload_n 2 78 dX11_rows_77 rfl rfl rfl ?_
    obtain ⟨k4, h⟩ := gdK_some h
    obtain ⟨v5, g6, q7, h⟩ := bd_some h
    have s8 := w_X6_sumAt (X := X) (Nat.le_refl 2) b2 l5 l2 l3 g g6 v5 k4 k_l5 q7
    refine SF_callVl 81 mi_X6_sumAt ml_X11_297 dX11_rows_78 (Nat.le_trans (by decide) hd) s8 k4.1 rfl rfl (Nat.le_of_ble_eq_true rfl) rfl ?_
    have k_l0 := k_l0.ext s8.1
    have k_l5 := k_l5.ext s8.1
    have k4 := k4.ext s8.1
    exact RT_l rfl dX11_rows_81 h
  · have h := ite_f c1 h
    refine SF_aload_n 0 55 dX11_rows_54 rfl rfl rfl ?_
    obtain ⟨b9, r10, h⟩ := dr_some h
    refine SF_getR 58 fl_X11_54 dX11_rows_55 k_l0.1 r10 rfl ?_
    refine SF_aload 4 60 dX11_rows_58 rfl rfl ?_
    refine SF_iconst (0 : Int32) 61 dX11_rows_60 rfl rfl ?_
    obtain ⟨k11, h⟩ := gdK_some h
    obtain ⟨v12, g13, q14, h⟩ := bd_some h
    have s15 := w_X6_goOn (X := X) (Nat.le_refl 3) b9 l5 (0 : Int32) g g13 v12 k11 k_l5 q14
    refine SF_callVv 64 mi_X6_goOn ml_X11_293 dX11_rows_61 (Nat.le_trans (by decide) hd) s15 k11.1 rfl rfl (Nat.le_of_ble_eq_true rfl) rfl ?_
    have k_l0 := k_l0.ext s15.1
    have k_l5 := k_l5.ext s15.1
    have k11 := k11.ext s15.1
    refine SF_iinc 5 (l6 + (1 : Int32)) [(6, .int (l6 + (1 : Int32))), (0, .ref (ad X l0)), (2, .int l2), (3, .int l3), (4, .int l4), (5, .ref (ad X l5))] 67 dX11_rows_64 rfl rfl (by decide) rfl rfl ?_
    refine SF_goto 47 dX11_rows_67 rfl ?_
    refine SF_sub [1, 2, 3, 4, 5, 0] rfl ?_
    exact ih l0 l2 l3 l4 l5 (l6 + (1 : Int32)) g13 k_l0 k_l5 h

set_option maxRecDepth 20000 in
set_option maxHeartbeats 2000000 in
theorem w_X11_rows {X : CX} {d : Nat} (hd : 7 ≤ d) (l0 : Nat) (l1 : Int32) (l2 : Int32) (l3 : Int32) (l4 : Int32) (g g' : G) (rx : Int64) (k_l0 : KD g l0 11) (h : f_X11_rows l0 l1 l2 l3 l4 g = some (rx, g')) : Sem X m_X11_rows d [.ref (ad X l0), .int l1, .int l2, .int l3, .int l4] g (some (.long rx)) g' := by
  refine Sem_of (lo := [(0, .ref (ad X l0)), (1, .int l1), (2, .int l2), (3, .int l3), (4, .int l4)]) (by decide +kernel) rfl (Nat.le_of_ble_eq_true rfl) ?_
  rw [f_X11_rows] at h
  refine SF_aload_n 0 1 dX11_rows_0 rfl rfl rfl ?_
  refine SF_iload_n 1 2 dX11_rows_1 rfl rfl rfl ?_
  refine SF_iload_n 2 3 dX11_rows_2 rfl rfl rfl ?_
  refine SF_iload_n 3 4 dX11_rows_3 rfl rfl rfl ?_
  obtain ⟨v1, g2, q3, h⟩ := bd_some h
  have s4 := w_X11_isGoal (X := X) (Nat.le_refl 2) l0 l1 l2 l3 g g2 v1 k_l0 q3
  refine SF_callVb 7 mi_X11_isGoal ml_X11_255 dX11_rows_4 (Nat.le_trans (by decide) hd) s4 k_l0.1 rfl rfl (Nat.le_of_ble_eq_true rfl) rfl ?_
  have k_l0 := k_l0.ext s4.1
  refine SF_ifne 14 10 dX11_rows_7 rfl rfl (fun c5 => ?_) (fun c5 => ?_)
  · have h := ite_f c5 h
    refine SF_iload 4 16 dX11_rows_14 rfl rfl ?_
    refine SF_iflt 26 19 dX11_rows_16 rfl rfl (fun c6 => ?_) (fun c6 => ?_)
    · have h := ite_t c6 h
      refine SF_sub [] rfl ?_
      exact w_X11_rows_26 hd g2  h
    · have h := ite_f c6 h
      refine SF_iload 4 21 dX11_rows_19 rfl rfl ?_
      refine SF_bipush (15 : Int32) 23 dX11_rows_21 rfl rfl ?_
      refine SF_icle 30 26 dX11_rows_23 rfl rfl (fun c7 => ?_) (fun c7 => ?_)
      · have h := ite_t c7 h
        refine SF_aload_n 0 31 dX11_rows_30 rfl rfl rfl ?_
        refine SF_iload_n 1 32 dX11_rows_31 rfl rfl rfl ?_
        obtain ⟨v8, g9, q10, h⟩ := bd_some h
        have s11 := w_X11_graphOf (X := X) (Nat.le_refl 6) l0 l1 g2 g9 v8 k_l0 q10
        refine SF_callVr 35 mi_X11_graphOf ml_X11_259 dX11_rows_32 (Nat.le_trans (by decide) hd) s11 k_l0.1 rfl rfl (Nat.le_of_ble_eq_true rfl) rfl ?_
        have k_l0 := k_l0.ext s11.1
        refine SF_astore [(5, .ref (ad X v8)), (0, .ref (ad X l0)), (1, .int l1), (2, .int l2), (3, .int l3), (4, .int l4)] 37 dX11_rows_35 (by decide) rfl rfl ?_
        refine SF_aload_n 1 38 dX11_rows_37 rfl rfl rfl ?_
        obtain ⟨b12, r13, h⟩ := dr_some h
        refine SF_getR 41 fl_X11_54 dX11_rows_38 k_l0.1 r13 rfl ?_
        obtain ⟨k14, h⟩ := gdK_some h
        obtain ⟨v15, g16, q17, h⟩ := bd_some h
        have s18 := w_X6_start (X := X) (Nat.le_refl 1) b12 g9 g16 v15 k14 q17
        refine SF_callVv 44 mi_X6_start ml_X11_290 dX11_rows_41 (Nat.le_trans (by decide) hd) s18 k14.1 rfl rfl (Nat.le_of_ble_eq_true rfl) rfl ?_
        have k_l0 := k_l0.ext s18.1
        have k14 := k14.ext s18.1
        refine SF_iconst (0 : Int32) 45 dX11_rows_44 rfl rfl ?_
        refine SF_istore [(6, .int (0 : Int32)), (5, .ref (ad X v8)), (0, .ref (ad X l0)), (1, .int l1), (2, .int l2), (3, .int l3), (4, .int l4)] 47 dX11_rows_45 (by decide) rfl rfl ?_
        obtain ⟨k19, h⟩ := gdK_some h
        refine SF_sub [2, 4, 5, 6, 1, 0] rfl ?_
        exact w_X11_rows_47 hd FU l0 l2 l3 l4 v8 (0 : Int32) g16 k_l0 k19 h
      · have h := ite_f c7 h
        refine SF_sub [] rfl ?_
        exact w_X11_rows_26 hd g2  h
  · have h := ite_t c5 h
    refine SF_ldc2 13 dX11_rows_10 kl_X11_286 rfl ?_
    exact RT_l rfl dX11_rows_13 h

theorem dX12_beginsMany_0 : decode cX12_beginsMany 0 = .ok (.iconst 0, 1) := by decide +kernel
theorem dX12_beginsMany_1 : decode cX12_beginsMany 1 = .ok (.istore_n 2, 1) := by decide +kernel
theorem dX12_beginsMany_2 : decode cX12_beginsMany 2 = .ok (.iload_n 2, 1) := by decide +kernel
theorem dX12_beginsMany_3 : decode cX12_beginsMany 3 = .ok (.sipush 1296, 3) := by decide +kernel
theorem dX12_beginsMany_6 : decode cX12_beginsMany 6 = .ok (.if_icmp .ge 29, 3) := by decide +kernel
theorem dX12_beginsMany_9 : decode cX12_beginsMany 9 = .ok (.aload_n 0, 1) := by decide +kernel
theorem dX12_beginsMany_10 : decode cX12_beginsMany 10 = .ok (.getfield 54, 3) := by decide +kernel
theorem dX12_beginsMany_13 : decode cX12_beginsMany 13 = .ok (.iload_n 2, 1) := by decide +kernel
theorem dX12_beginsMany_14 : decode cX12_beginsMany 14 = .ok (.iload_n 2, 1) := by decide +kernel
theorem dX12_beginsMany_15 : decode cX12_beginsMany 15 = .ok (.aload_n 0, 1) := by decide +kernel
theorem dX12_beginsMany_16 : decode cX12_beginsMany 16 = .ok (.iload_n 1, 1) := by decide +kernel
theorem dX12_beginsMany_17 : decode cX12_beginsMany 17 = .ok (.invokevirtual 370, 3) := by decide +kernel
theorem dX12_beginsMany_20 : decode cX12_beginsMany 20 = .ok (.if_icmp .ne 7, 3) := by decide +kernel
theorem dX12_beginsMany_23 : decode cX12_beginsMany 23 = .ok (.lconst 1, 1) := by decide +kernel
theorem dX12_beginsMany_24 : decode cX12_beginsMany 24 = .ok (.goto 4, 3) := by decide +kernel
theorem dX12_beginsMany_27 : decode cX12_beginsMany 27 = .ok (.lconst 0, 1) := by decide +kernel
theorem dX12_beginsMany_28 : decode cX12_beginsMany 28 = .ok (.lastore, 1) := by decide +kernel
theorem dX12_beginsMany_29 : decode cX12_beginsMany 29 = .ok (.iinc 2 1, 3) := by decide +kernel
theorem dX12_beginsMany_32 : decode cX12_beginsMany 32 = .ok (.goto (-30), 3) := by decide +kernel
theorem dX12_beginsMany_35 : decode cX12_beginsMany 35 = .ok (.return_, 1) := by decide +kernel
set_option maxRecDepth 20000 in
set_option maxHeartbeats 2000000 in
theorem w_X12_beginsMany_28 {X : CX} {d : Nat} (hd : 2 ≤ d) {g' : G} {rx : Unit} (k2 : Nat → Int32 → Int32 → G → Option (Unit × G)) (hk2 : ∀ (l0 : Nat) (l1 : Int32) (l2 : Int32) (g : G), KD g l0 12 → k2 l0 l1 l2 g = some (rx, g') → SemF X m_X12_beginsMany d 2 [(0, .ref (ad X l0)), (1, .int l1), (2, .int l2)] [] g none g') (l0 : Nat) (l1 : Int32) (l2 : Int32) (s0 : Int64) (s1 : Int32) (s2 : Nat) (g : G) (k_l0 : KD g l0 12) (k_s2 : KD g s2 15) (h : f_X12_beginsMany_28 k2 l0 l1 l2 s0 s1 s2 g = some (rx, g')) : SemF X m_X12_beginsMany d 28 [(0, .ref (ad X l0)), (1, .int l1), (2, .int l2)] [.long s0, .int s1, .ref (ad X s2)] g none g' := by
  rw [f_X12_beginsMany_28] at h
  obtain ⟨i1, h⟩ := gdI_some h
  refine SF_last 29 dX12_beginsMany_28 k_s2.1 i1 rfl ?_
  obtain ⟨g2, e3, h⟩ := lg_some h
  rw [← e3]
  have k_l0 := KD.eq e3 k_l0
  have k_s2 := KD.eq e3 k_s2
  have i1 := vp_eq e3 i1
  refine SF_iinc 2 (l2 + (1 : Int32)) [(2, .int (l2 + (1 : Int32))), (0, .ref (ad X l0)), (1, .int l1)] 32 dX12_beginsMany_29 rfl rfl (by decide) rfl rfl ?_
  refine SF_goto 2 dX12_beginsMany_32 rfl ?_
  refine SF_sub [1, 2, 0] rfl ?_
  exact hk2 l0 l1 (l2 + (1 : Int32)) g2 k_l0 h

set_option maxRecDepth 20000 in
set_option maxHeartbeats 2000000 in
theorem w_X12_beginsMany_2 {X : CX} {d : Nat} (hd : 2 ≤ d) {g' : G} {rx : Unit} : ∀ (n : Nat) (l0 : Nat) (l1 : Int32) (l2 : Int32) (g : G), KD g l0 12 → f_X12_beginsMany_2 n l0 l1 l2 g = some (rx, g') → SemF X m_X12_beginsMany d 2 [(0, .ref (ad X l0)), (1, .int l1), (2, .int l2)] [] g none g' := by
  intro n
  induction n with
  | zero =>
    intro l0 l1 l2 g k_l0 h
    rw [f_X12_beginsMany_2] at h
    cases h
  | succ n ih =>
  intro l0 l1 l2 g k_l0 h
  rw [f_X12_beginsMany_2] at h
  refine SF_iload_n 2 3 dX12_beginsMany_2 rfl rfl rfl ?_
  refine SF_sipush (1296 : Int32) 6 dX12_beginsMany_3 rfl rfl ?_
  refine SF_icge 35 9 dX12_beginsMany_6 rfl rfl (fun c1 => ?_) (fun c1 => ?_)
  · have h := ite_t c1 h
    exact RT_v rfl dX12_beginsMany_35 h
  · have h := ite_f c1 h
    refine SF_aload_n 0 10 dX12_beginsMany_9 rfl rfl rfl ?_
    obtain ⟨b2, r3, h⟩ := dr_some h
    refine SF_getR 13 fl_X12_54 dX12_beginsMany_10 k_l0.1 r3 rfl ?_
    refine SF_iload_n 2 14 dX12_beginsMany_13 rfl rfl rfl ?_
    refine SF_iload_n 2 15 dX12_beginsMany_14 rfl rfl rfl ?_
    refine SF_aload_n 0 16 dX12_beginsMany_15 rfl rfl rfl ?_
    refine SF_iload_n 1 17 dX12_beginsMany_16 rfl rfl rfl ?_
    obtain ⟨v4, g5, q6, h⟩ := bd_some h
    have s7 := w_X12_standNow (X := X) (Nat.le_refl 1) l0 l1 g g5 v4 k_l0 q6
    refine SF_callVi 20 mi_X12_standNow ml_X12_370 dX12_beginsMany_17 (Nat.le_trans (by decide) hd) s7 k_l0.1 rfl rfl (Nat.le_of_ble_eq_true rfl) rfl ?_
    have k_l0 := k_l0.ext s7.1
    refine SF_icne 27 23 dX12_beginsMany_20 rfl rfl (fun c8 => ?_) (fun c8 => ?_)
    · have h := ite_f c8 h
      refine SF_lconst (0 : Int64) 28 dX12_beginsMany_27 rfl rfl ?_
      obtain ⟨k9, h⟩ := gdK_some h
      exact w_X12_beginsMany_28 hd (f_X12_beginsMany_2 n) ih l0 l1 l2 (0 : Int64) l2 b2 g5 k_l0 k9 h
    · have h := ite_t c8 h
      refine SF_lconst (1 : Int64) 24 dX12_beginsMany_23 rfl rfl ?_
      refine SF_goto 28 dX12_beginsMany_24 rfl ?_
      obtain ⟨k10, h⟩ := gdK_some h
      exact w_X12_beginsMany_28 hd (f_X12_beginsMany_2 n) ih l0 l1 l2 (1 : Int64) l2 b2 g5 k_l0 k10 h

set_option maxRecDepth 20000 in
set_option maxHeartbeats 2000000 in
theorem w_X12_beginsMany {X : CX} {d : Nat} (hd : 2 ≤ d) (l0 : Nat) (l1 : Int32) (g g' : G) (rx : Unit) (k_l0 : KD g l0 12) (h : f_X12_beginsMany l0 l1 g = some (rx, g')) : Sem X m_X12_beginsMany d [.ref (ad X l0), .int l1] g none g' := by
  refine Sem_of (lo := [(0, .ref (ad X l0)), (1, .int l1)]) (by decide +kernel) rfl (Nat.le_of_ble_eq_true rfl) ?_
  rw [f_X12_beginsMany] at h
  refine SF_iconst (0 : Int32) 1 dX12_beginsMany_0 rfl rfl ?_
  refine SF_istore_n [(2, .int (0 : Int32)), (0, .ref (ad X l0)), (1, .int l1)] 2 dX12_beginsMany_1 rfl (by decide) rfl rfl ?_
  refine SF_sub [1, 2, 0] rfl ?_
  exact w_X12_beginsMany_2 hd FU l0 l1 (0 : Int32) g k_l0 h

theorem dX12_isThen_0 : decode cX12_isThen 0 = .ok (.iconst 0, 1) := by decide +kernel
theorem dX12_isThen_1 : decode cX12_isThen 1 = .ok (.istore_n 1, 1) := by decide +kernel
theorem dX12_isThen_2 : decode cX12_isThen 2 = .ok (.iload_n 1, 1) := by decide +kernel
theorem dX12_isThen_3 : decode cX12_isThen 3 = .ok (.sipush 1296, 3) := by decide +kernel
theorem dX12_isThen_6 : decode cX12_isThen 6 = .ok (.if_icmp .ge 28, 3) := by decide +kernel
theorem dX12_isThen_9 : decode cX12_isThen 9 = .ok (.aload_n 0, 1) := by decide +kernel
theorem dX12_isThen_10 : decode cX12_isThen 10 = .ok (.getfield 54, 3) := by decide +kernel
theorem dX12_isThen_13 : decode cX12_isThen 13 = .ok (.iload_n 1, 1) := by decide +kernel
theorem dX12_isThen_14 : decode cX12_isThen 14 = .ok (.aload_n 0, 1) := by decide +kernel
theorem dX12_isThen_15 : decode cX12_isThen 15 = .ok (.getfield 58, 3) := by decide +kernel
theorem dX12_isThen_18 : decode cX12_isThen 18 = .ok (.iload_n 1, 1) := by decide +kernel
theorem dX12_isThen_19 : decode cX12_isThen 19 = .ok (.laload, 1) := by decide +kernel
theorem dX12_isThen_20 : decode cX12_isThen 20 = .ok (.lastore, 1) := by decide +kernel
theorem dX12_isThen_21 : decode cX12_isThen 21 = .ok (.aload_n 0, 1) := by decide +kernel
theorem dX12_isThen_22 : decode cX12_isThen 22 = .ok (.getfield 58, 3) := by decide +kernel
theorem dX12_isThen_25 : decode cX12_isThen 25 = .ok (.iload_n 1, 1) := by decide +kernel
theorem dX12_isThen_26 : decode cX12_isThen 26 = .ok (.lconst 0, 1) := by decide +kernel
theorem dX12_isThen_27 : decode cX12_isThen 27 = .ok (.lastore, 1) := by decide +kernel
theorem dX12_isThen_28 : decode cX12_isThen 28 = .ok (.iinc 1 1, 3) := by decide +kernel
theorem dX12_isThen_31 : decode cX12_isThen 31 = .ok (.goto (-29), 3) := by decide +kernel
theorem dX12_isThen_34 : decode cX12_isThen 34 = .ok (.return_, 1) := by decide +kernel
set_option maxRecDepth 20000 in
set_option maxHeartbeats 2000000 in
theorem w_X12_isThen_2 {X : CX} {d : Nat} (hd : 0 ≤ d) {g' : G} {rx : Unit} : ∀ (n : Nat) (l0 : Nat) (l1 : Int32) (g : G), KD g l0 12 → f_X12_isThen_2 n l0 l1 g = some (rx, g') → SemF X m_X12_isThen d 2 [(0, .ref (ad X l0)), (1, .int l1)] [] g none g' := by
  intro n
  induction n with
  | zero =>
    intro l0 l1 g k_l0 h
    rw [f_X12_isThen_2] at h
    cases h
  | succ n ih =>
  intro l0 l1 g k_l0 h
  rw [f_X12_isThen_2] at h
  refine SF_iload_n 1 3 dX12_isThen_2 rfl rfl rfl ?_
  refine SF_sipush (1296 : Int32) 6 dX12_isThen_3 rfl rfl ?_
  refine SF_icge 34 9 dX12_isThen_6 rfl rfl (fun c1 => ?_) (fun c1 => ?_)
  · have h := ite_t c1 h
    exact RT_v rfl dX12_isThen_34 h
  · have h := ite_f c1 h
    refine SF_aload_n 0 10 dX12_isThen_9 rfl rfl rfl ?_
    obtain ⟨b2, r3, h⟩ := dr_some h
    refine SF_getR 13 fl_X12_54 dX12_isThen_10 k_l0.1 r3 rfl ?_
    refine SF_iload_n 1 14 dX12_isThen_13 rfl rfl rfl ?_
    refine SF_aload_n 0 15 dX12_isThen_14 rfl rfl rfl ?_
    obtain ⟨b4, r5, h⟩ := dr_some h
    refine SF_getR 18 fl_X12_58 dX12_isThen_15 k_l0.1 r5 rfl ?_
    refine SF_iload_n 1 19 dX12_isThen_18 rfl rfl rfl ?_
    obtain ⟨k6, h⟩ := gdK_some h
    obtain ⟨i7, h⟩ := gdI_some h
    refine SF_lald 20 dX12_isThen_19 k6.1 i7 rfl ?_
    obtain ⟨k8, h⟩ := gdK_some h
    obtain ⟨i9, h⟩ := gdI_some h
    refine SF_last 21 dX12_isThen_20 k8.1 i9 rfl ?_
    obtain ⟨g10, e11, h⟩ := lg_some h
    rw [← e11]
    have k_l0 := KD.eq e11 k_l0
    have k6 := KD.eq e11 k6
    have k8 := KD.eq e11 k8
    have r3 := gR_eq e11 r3
    have r5 := gR_eq e11 r5
    have i7 := vp_eq e11 i7
    have i9 := vp_eq e11 i9
    refine SF_aload_n 0 22 dX12_isThen_21 rfl rfl rfl ?_
    refine SF_getR 25 fl_X12_58 dX12_isThen_22 k_l0.1 r5 rfl ?_
    refine SF_iload_n 1 26 dX12_isThen_25 rfl rfl rfl ?_
    refine SF_lconst (0 : Int64) 27 dX12_isThen_26 rfl rfl ?_
    refine SF_last 28 dX12_isThen_27 k6.1 i7 rfl ?_
    obtain ⟨g12, e13, h⟩ := lg_some h
    rw [← e13]
    have k_l0 := KD.eq e13 k_l0
    have k6 := KD.eq e13 k6
    have k8 := KD.eq e13 k8
    have r3 := gR_eq e13 r3
    have r5 := gR_eq e13 r5
    have i7 := vp_eq e13 i7
    have i9 := vp_eq e13 i9
    refine SF_iinc 1 (l1 + (1 : Int32)) [(1, .int (l1 + (1 : Int32))), (0, .ref (ad X l0))] 31 dX12_isThen_28 rfl rfl (by decide) rfl rfl ?_
    refine SF_goto 2 dX12_isThen_31 rfl ?_
    refine SF_sub [1, 0] rfl ?_
    exact ih l0 (l1 + (1 : Int32)) g12 k_l0 h

set_option maxRecDepth 20000 in
set_option maxHeartbeats 2000000 in
theorem w_X12_isThen {X : CX} {d : Nat} (hd : 0 ≤ d) (l0 : Nat) (g g' : G) (rx : Unit) (k_l0 : KD g l0 12) (h : f_X12_isThen l0 g = some (rx, g')) : Sem X m_X12_isThen d [.ref (ad X l0)] g none g' := by
  refine Sem_of (lo := [(0, .ref (ad X l0))]) (by decide +kernel) rfl (Nat.le_of_ble_eq_true rfl) ?_
  rw [f_X12_isThen] at h
  refine SF_iconst (0 : Int32) 1 dX12_isThen_0 rfl rfl ?_
  refine SF_istore_n [(1, .int (0 : Int32)), (0, .ref (ad X l0))] 2 dX12_isThen_1 rfl (by decide) rfl rfl ?_
  refine SF_sub [1, 0] rfl ?_
  exact w_X12_isThen_2 hd FU l0 (0 : Int32) g k_l0 h

theorem dX12_rows_0 : decode cX12_rows 0 = .ok (.aload_n 0, 1) := by decide +kernel
theorem dX12_rows_1 : decode cX12_rows 1 = .ok (.iconst 0, 1) := by decide +kernel
theorem dX12_rows_2 : decode cX12_rows 2 = .ok (.putfield 1, 3) := by decide +kernel
theorem dX12_rows_5 : decode cX12_rows 5 = .ok (.aload_n 0, 1) := by decide +kernel
theorem dX12_rows_6 : decode cX12_rows 6 = .ok (.iload_n 1, 1) := by decide +kernel
theorem dX12_rows_7 : decode cX12_rows 7 = .ok (.iload_n 2, 1) := by decide +kernel
theorem dX12_rows_8 : decode cX12_rows 8 = .ok (.iload_n 3, 1) := by decide +kernel
theorem dX12_rows_9 : decode cX12_rows 9 = .ok (.invokevirtual 373, 3) := by decide +kernel
theorem dX12_rows_12 : decode cX12_rows 12 = .ok (.ifCond .ne 7, 3) := by decide +kernel
theorem dX12_rows_15 : decode cX12_rows 15 = .ok (.ldc2_w 396, 3) := by decide +kernel
theorem dX12_rows_18 : decode cX12_rows 18 = .ok (.lreturn, 1) := by decide +kernel
theorem dX12_rows_19 : decode cX12_rows 19 = .ok (.iload 4, 2) := by decide +kernel
theorem dX12_rows_21 : decode cX12_rows 21 = .ok (.i2l, 1) := by decide +kernel
theorem dX12_rows_22 : decode cX12_rows 22 = .ok (.lconst 0, 1) := by decide +kernel
theorem dX12_rows_23 : decode cX12_rows 23 = .ok (.ldc2_w 398, 3) := by decide +kernel
theorem dX12_rows_26 : decode cX12_rows 26 = .ok (.invokestatic 139, 3) := by decide +kernel
theorem dX12_rows_29 : decode cX12_rows 29 = .ok (.ifCond .ne 7, 3) := by decide +kernel
theorem dX12_rows_32 : decode cX12_rows 32 = .ok (.ldc2_w 400, 3) := by decide +kernel
theorem dX12_rows_35 : decode cX12_rows 35 = .ok (.lreturn, 1) := by decide +kernel
theorem dX12_rows_36 : decode cX12_rows 36 = .ok (.aload_n 0, 1) := by decide +kernel
theorem dX12_rows_37 : decode cX12_rows 37 = .ok (.iload_n 1, 1) := by decide +kernel
theorem dX12_rows_38 : decode cX12_rows 38 = .ok (.invokevirtual 376, 3) := by decide +kernel
theorem dX12_rows_41 : decode cX12_rows 41 = .ok (.aload_n 0, 1) := by decide +kernel
theorem dX12_rows_42 : decode cX12_rows 42 = .ok (.iload_n 1, 1) := by decide +kernel
theorem dX12_rows_43 : decode cX12_rows 43 = .ok (.invokevirtual 402, 3) := by decide +kernel
theorem dX12_rows_46 : decode cX12_rows 46 = .ok (.iconst 0, 1) := by decide +kernel
theorem dX12_rows_47 : decode cX12_rows 47 = .ok (.istore 5, 2) := by decide +kernel
theorem dX12_rows_49 : decode cX12_rows 49 = .ok (.iload 5, 2) := by decide +kernel
theorem dX12_rows_51 : decode cX12_rows 51 = .ok (.sipush 1296, 3) := by decide +kernel
theorem dX12_rows_54 : decode cX12_rows 54 = .ok (.if_icmp .ge 17, 3) := by decide +kernel
theorem dX12_rows_57 : decode cX12_rows 57 = .ok (.aload_n 0, 1) := by decide +kernel
theorem dX12_rows_58 : decode cX12_rows 58 = .ok (.getfield 58, 3) := by decide +kernel
theorem dX12_rows_61 : decode cX12_rows 61 = .ok (.iload 5, 2) := by decide +kernel
theorem dX12_rows_63 : decode cX12_rows 63 = .ok (.lconst 0, 1) := by decide +kernel
theorem dX12_rows_64 : decode cX12_rows 64 = .ok (.lastore, 1) := by decide +kernel
theorem dX12_rows_65 : decode cX12_rows 65 = .ok (.iinc 5 1, 3) := by decide +kernel
theorem dX12_rows_68 : decode cX12_rows 68 = .ok (.goto (-19), 3) := by decide +kernel
theorem dX12_rows_71 : decode cX12_rows 71 = .ok (.iconst 0, 1) := by decide +kernel
theorem dX12_rows_72 : decode cX12_rows 72 = .ok (.istore 5, 2) := by decide +kernel
theorem dX12_rows_74 : decode cX12_rows 74 = .ok (.iload 5, 2) := by decide +kernel
theorem dX12_rows_76 : decode cX12_rows 76 = .ok (.iload 4, 2) := by decide +kernel
theorem dX12_rows_78 : decode cX12_rows 78 = .ok (.if_icmp .ge 103, 3) := by decide +kernel
theorem dX12_rows_81 : decode cX12_rows 81 = .ok (.iconst 0, 1) := by decide +kernel
theorem dX12_rows_82 : decode cX12_rows 82 = .ok (.istore 6, 2) := by decide +kernel
theorem dX12_rows_84 : decode cX12_rows 84 = .ok (.iload 6, 2) := by decide +kernel
theorem dX12_rows_86 : decode cX12_rows 86 = .ok (.sipush 1296, 3) := by decide +kernel
theorem dX12_rows_89 : decode cX12_rows 89 = .ok (.if_icmp .ge 82, 3) := by decide +kernel
theorem dX12_rows_92 : decode cX12_rows 92 = .ok (.iconst 0, 1) := by decide +kernel
theorem dX12_rows_93 : decode cX12_rows 93 = .ok (.istore 7, 2) := by decide +kernel
theorem dX12_rows_95 : decode cX12_rows 95 = .ok (.iload 7, 2) := by decide +kernel
theorem dX12_rows_97 : decode cX12_rows 97 = .ok (.bipush 8, 2) := by decide +kernel
theorem dX12_rows_99 : decode cX12_rows 99 = .ok (.if_icmp .ge 66, 3) := by decide +kernel
theorem dX12_rows_102 : decode cX12_rows 102 = .ok (.aload_n 0, 1) := by decide +kernel
theorem dX12_rows_103 : decode cX12_rows 103 = .ok (.getfield 54, 3) := by decide +kernel
theorem dX12_rows_106 : decode cX12_rows 106 = .ok (.iload 6, 2) := by decide +kernel
theorem dX12_rows_108 : decode cX12_rows 108 = .ok (.laload, 1) := by decide +kernel
theorem dX12_rows_109 : decode cX12_rows 109 = .ok (.lconst 0, 1) := by decide +kernel
theorem dX12_rows_110 : decode cX12_rows 110 = .ok (.lcmp, 1) := by decide +kernel
theorem dX12_rows_111 : decode cX12_rows 111 = .ok (.ifCond .le 54, 3) := by decide +kernel
theorem dX12_rows_114 : decode cX12_rows 114 = .ok (.aload_n 0, 1) := by decide +kernel
theorem dX12_rows_115 : decode cX12_rows 115 = .ok (.getfield 42, 3) := by decide +kernel
theorem dX12_rows_118 : decode cX12_rows 118 = .ok (.bipush 8, 2) := by decide +kernel
theorem dX12_rows_120 : decode cX12_rows 120 = .ok (.iload 6, 2) := by decide +kernel
theorem dX12_rows_122 : decode cX12_rows 122 = .ok (.imul, 1) := by decide +kernel
theorem dX12_rows_123 : decode cX12_rows 123 = .ok (.iload 7, 2) := by decide +kernel
theorem dX12_rows_125 : decode cX12_rows 125 = .ok (.iadd, 1) := by decide +kernel
theorem dX12_rows_126 : decode cX12_rows 126 = .ok (.iaload, 1) := by decide +kernel
theorem dX12_rows_127 : decode cX12_rows 127 = .ok (.iconst (-1), 1) := by decide +kernel
theorem dX12_rows_128 : decode cX12_rows 128 = .ok (.if_icmp .eq 31, 3) := by decide +kernel
theorem dX12_rows_131 : decode cX12_rows 131 = .ok (.aload_n 0, 1) := by decide +kernel
theorem dX12_rows_132 : decode cX12_rows 132 = .ok (.getfield 58, 3) := by decide +kernel
theorem dX12_rows_135 : decode cX12_rows 135 = .ok (.aload_n 0, 1) := by decide +kernel
theorem dX12_rows_136 : decode cX12_rows 136 = .ok (.getfield 42, 3) := by decide +kernel
theorem dX12_rows_139 : decode cX12_rows 139 = .ok (.bipush 8, 2) := by decide +kernel
theorem dX12_rows_141 : decode cX12_rows 141 = .ok (.iload 6, 2) := by decide +kernel
theorem dX12_rows_143 : decode cX12_rows 143 = .ok (.imul, 1) := by decide +kernel
theorem dX12_rows_144 : decode cX12_rows 144 = .ok (.iload 7, 2) := by decide +kernel
theorem dX12_rows_146 : decode cX12_rows 146 = .ok (.iadd, 1) := by decide +kernel
theorem dX12_rows_147 : decode cX12_rows 147 = .ok (.iaload, 1) := by decide +kernel
theorem dX12_rows_148 : decode cX12_rows 148 = .ok (.dup2, 1) := by decide +kernel
theorem dX12_rows_149 : decode cX12_rows 149 = .ok (.laload, 1) := by decide +kernel
theorem dX12_rows_150 : decode cX12_rows 150 = .ok (.aload_n 0, 1) := by decide +kernel
theorem dX12_rows_151 : decode cX12_rows 151 = .ok (.getfield 54, 3) := by decide +kernel
theorem dX12_rows_154 : decode cX12_rows 154 = .ok (.iload 6, 2) := by decide +kernel
theorem dX12_rows_156 : decode cX12_rows 156 = .ok (.laload, 1) := by decide +kernel
theorem dX12_rows_157 : decode cX12_rows 157 = .ok (.ladd, 1) := by decide +kernel
theorem dX12_rows_158 : decode cX12_rows 158 = .ok (.lastore, 1) := by decide +kernel
theorem dX12_rows_159 : decode cX12_rows 159 = .ok (.iinc 7 1, 3) := by decide +kernel
theorem dX12_rows_162 : decode cX12_rows 162 = .ok (.goto (-67), 3) := by decide +kernel
theorem dX12_rows_165 : decode cX12_rows 165 = .ok (.iinc 6 1, 3) := by decide +kernel
theorem dX12_rows_168 : decode cX12_rows 168 = .ok (.goto (-84), 3) := by decide +kernel
theorem dX12_rows_171 : decode cX12_rows 171 = .ok (.aload_n 0, 1) := by decide +kernel
theorem dX12_rows_172 : decode cX12_rows 172 = .ok (.invokevirtual 405, 3) := by decide +kernel
theorem dX12_rows_175 : decode cX12_rows 175 = .ok (.iinc 5 1, 3) := by decide +kernel
theorem dX12_rows_178 : decode cX12_rows 178 = .ok (.goto (-104), 3) := by decide +kernel
theorem dX12_rows_181 : decode cX12_rows 181 = .ok (.lconst 0, 1) := by decide +kernel
theorem dX12_rows_182 : decode cX12_rows 182 = .ok (.lstore 5, 2) := by decide +kernel
theorem dX12_rows_184 : decode cX12_rows 184 = .ok (.iconst 0, 1) := by decide +kernel
theorem dX12_rows_185 : decode cX12_rows 185 = .ok (.istore 7, 2) := by decide +kernel
theorem dX12_rows_187 : decode cX12_rows 187 = .ok (.iload 7, 2) := by decide +kernel
theorem dX12_rows_189 : decode cX12_rows 189 = .ok (.sipush 1296, 3) := by decide +kernel
theorem dX12_rows_192 : decode cX12_rows 192 = .ok (.if_icmp .ge 36, 3) := by decide +kernel
theorem dX12_rows_195 : decode cX12_rows 195 = .ok (.lload 5, 2) := by decide +kernel
theorem dX12_rows_197 : decode cX12_rows 197 = .ok (.aload_n 0, 1) := by decide +kernel
theorem dX12_rows_198 : decode cX12_rows 198 = .ok (.iload 7, 2) := by decide +kernel
theorem dX12_rows_200 : decode cX12_rows 200 = .ok (.iload_n 2, 1) := by decide +kernel
theorem dX12_rows_201 : decode cX12_rows 201 = .ok (.iload_n 3, 1) := by decide +kernel
theorem dX12_rows_202 : decode cX12_rows 202 = .ok (.invokevirtual 362, 3) := by decide +kernel
theorem dX12_rows_205 : decode cX12_rows 205 = .ok (.ifCond .eq 13, 3) := by decide +kernel
theorem dX12_rows_208 : decode cX12_rows 208 = .ok (.aload_n 0, 1) := by decide +kernel
theorem dX12_rows_209 : decode cX12_rows 209 = .ok (.getfield 54, 3) := by decide +kernel
theorem dX12_rows_212 : decode cX12_rows 212 = .ok (.iload 7, 2) := by decide +kernel
theorem dX12_rows_214 : decode cX12_rows 214 = .ok (.laload, 1) := by decide +kernel
theorem dX12_rows_215 : decode cX12_rows 215 = .ok (.goto 4, 3) := by decide +kernel
theorem dX12_rows_218 : decode cX12_rows 218 = .ok (.lconst 0, 1) := by decide +kernel
theorem dX12_rows_219 : decode cX12_rows 219 = .ok (.ladd, 1) := by decide +kernel
theorem dX12_rows_220 : decode cX12_rows 220 = .ok (.lstore 5, 2) := by decide +kernel
theorem dX12_rows_222 : decode cX12_rows 222 = .ok (.iinc 7 1, 3) := by decide +kernel
theorem dX12_rows_225 : decode cX12_rows 225 = .ok (.goto (-38), 3) := by decide +kernel
theorem dX12_rows_228 : decode cX12_rows 228 = .ok (.lload 5, 2) := by decide +kernel
theorem dX12_rows_230 : decode cX12_rows 230 = .ok (.lreturn, 1) := by decide +kernel
set_option maxRecDepth 20000 in
set_option maxHeartbeats 2000000 in
theorem w_X12_rows_159 {X : CX} {d : Nat} (hd : 7 ≤ d) {g' : G} {rx : Int64} (k74 : Nat → Int32 → Int32 → Int32 → Int32 → G → Option (Int64 × G)) (hk74 : ∀ (l0 : Nat) (l2 : Int32) (l3 : Int32) (l4 : Int32) (l5 : Int32) (g : G), KD g l0 12 → k74 l0 l2 l3 l4 l5 g = some (rx, g') → SemF X m_X12_rows d 74 [(0, .ref (ad X l0)), (2, .int l2), (3, .int l3), (4, .int l4), (5, .int l5)] [] g (some (.long rx)) g') (k84 : Nat → Int32 → Int32 → Int32 → Int32 → Int32 → G → Option (Int64 × G)) (hk84 : ∀ (l0 : Nat) (l2 : Int32) (l3 : Int32) (l4 : Int32) (l5 : Int32) (l6 : Int32) (g : G), KD g l0 12 → k84 l0 l2 l3 l4 l5 l6 g = some (rx, g') → SemF X m_X12_rows d 84 [(0, .ref (ad X l0)), (2, .int l2), (3, .int l3), (4, .int l4), (5, .int l5), (6, .int l6)] [] g (some (.long rx)) g') (k95 : Nat → Int32 → Int32 → Int32 → Int32 → Int32 → Int32 → G → Option (Int64 × G)) (hk95 : ∀ (l0 : Nat) (l2 : Int32) (l3 : Int32) (l4 : Int32) (l5 : Int32) (l6 : Int32) (l7 : Int32) (g : G), KD g l0 12 → k95 l0 l2 l3 l4 l5 l6 l7 g = some (rx, g') → SemF X m_X12_rows d 95 [(0, .ref (ad X l0)), (2, .int l2), (3, .int l3), (4, .int l4), (5, .int l5), (6, .int l6), (7, .int l7)] [] g (some (.long rx)) g') (l0 : Nat) (l2 : Int32) (l3 : Int32) (l4 : Int32) (l5 : Int32) (l6 : Int32) (l7 : Int32) (g : G) (k_l0 : KD g l0 12) (h : f_X12_rows_159 k74 k84 k95 l0 l2 l3 l4 l5 l6 l7 g = some (rx, g')) : SemF X m_X12_rows d 159 [(0, .ref (ad X l0)), (2, .int l2), (3, .int l3), (4, .int l4), (5, .int l5), (6, .int l6), (7, .int l7)] [] g (some (.long rx)) g' := by
  rw [f_X12_rows_159] at h
  refine SF_iinc 6 (l7 + (1 : Int32)) [(7, .int (l7 + (1 : Int32))), (0, .ref (ad X l0)), (2, .int l2), (3, .int l3), (4, .int l4), (5, .int l5), (6, .int l6)] 162 dX12_rows_159 rfl rfl (by decide) rfl rfl ?_
  refine SF_goto 95 dX12_rows_162 rfl ?_
  refine SF_sub [1, 2, 3, 4, 5, 6, 0] rfl ?_
  exact hk95 l0 l2 l3 l4 l5 l6 (l7 + (1 : Int32)) g k_l0 h

set_option maxRecDepth 20000 in
set_option maxHeartbeats 2000000 in
theorem w_X12_rows_165 {X : CX} {d : Nat} (hd : 7 ≤ d) {g' : G} {rx : Int64} (k74 : Nat → Int32 → Int32 → Int32 → Int32 → G → Option (Int64 × G)) (hk74 : ∀ (l0 : Nat) (l2 : Int32) (l3 : Int32) (l4 : Int32) (l5 : Int32) (g : G), KD g l0 12 → k74 l0 l2 l3 l4 l5 g = some (rx, g') → SemF X m_X12_rows d 74 [(0, .ref (ad X l0)), (2, .int l2), (3, .int l3), (4, .int l4), (5, .int l5)] [] g (some (.long rx)) g') (k84 : Nat → Int32 → Int32 → Int32 → Int32 → Int32 → G → Option (Int64 × G)) (hk84 : ∀ (l0 : Nat) (l2 : Int32) (l3 : Int32) (l4 : Int32) (l5 : Int32) (l6 : Int32) (g : G), KD g l0 12 → k84 l0 l2 l3 l4 l5 l6 g = some (rx, g') → SemF X m_X12_rows d 84 [(0, .ref (ad X l0)), (2, .int l2), (3, .int l3), (4, .int l4), (5, .int l5), (6, .int l6)] [] g (some (.long rx)) g') (l0 : Nat) (l2 : Int32) (l3 : Int32) (l4 : Int32) (l5 : Int32) (l6 : Int32) (g : G) (k_l0 : KD g l0 12) (h : f_X12_rows_165 k74 k84 l0 l2 l3 l4 l5 l6 g = some (rx, g')) : SemF X m_X12_rows d 165 [(0, .ref (ad X l0)), (2, .int l2), (3, .int l3), (4, .int l4), (5, .int l5), (6, .int l6)] [] g (some (.long rx)) g' := by
  rw [f_X12_rows_165] at h
  refine SF_iinc 5 (l6 + (1 : Int32)) [(6, .int (l6 + (1 : Int32))), (0, .ref (ad X l0)), (2, .int l2), (3, .int l3), (4, .int l4), (5, .int l5)] 168 dX12_rows_165 rfl rfl (by decide) rfl rfl ?_
  refine SF_goto 84 dX12_rows_168 rfl ?_
  refine SF_sub [1, 2, 3, 4, 5, 0] rfl ?_
  exact hk84 l0 l2 l3 l4 l5 (l6 + (1 : Int32)) g k_l0 h

set_option maxRecDepth 20000 in
set_option maxHeartbeats 2000000 in
theorem w_X12_rows_95 {X : CX} {d : Nat} (hd : 7 ≤ d) {g' : G} {rx : Int64} (k74 : Nat → Int32 → Int32 → Int32 → Int32 → G → Option (Int64 × G)) (hk74 : ∀ (l0 : Nat) (l2 : Int32) (l3 : Int32) (l4 : Int32) (l5 : Int32) (g : G), KD g l0 12 → k74 l0 l2 l3 l4 l5 g = some (rx, g') → SemF X m_X12_rows d 74 [(0, .ref (ad X l0)), (2, .int l2), (3, .int l3), (4, .int l4), (5, .int l5)] [] g (some (.long rx)) g') (k84 : Nat → Int32 → Int32 → Int32 → Int32 → Int32 → G → Option (Int64 × G)) (hk84 : ∀ (l0 : Nat) (l2 : Int32) (l3 : Int32) (l4 : Int32) (l5 : Int32) (l6 : Int32) (g : G), KD g l0 12 → k84 l0 l2 l3 l4 l5 l6 g = some (rx, g') → SemF X m_X12_rows d 84 [(0, .ref (ad X l0)), (2, .int l2), (3, .int l3), (4, .int l4), (5, .int l5), (6, .int l6)] [] g (some (.long rx)) g') : ∀ (n : Nat) (l0 : Nat) (l2 : Int32) (l3 : Int32) (l4 : Int32) (l5 : Int32) (l6 : Int32) (l7 : Int32) (g : G), KD g l0 12 → f_X12_rows_95 k74 k84 n l0 l2 l3 l4 l5 l6 l7 g = some (rx, g') → SemF X m_X12_rows d 95 [(0, .ref (ad X l0)), (2, .int l2), (3, .int l3), (4, .int l4), (5, .int l5), (6, .int l6), (7, .int l7)] [] g (some (.long rx)) g' := by
  intro n
  induction n with
  | zero =>
    intro l0 l2 l3 l4 l5 l6 l7 g k_l0 h
    rw [f_X12_rows_95] at h
    cases h
  | succ n ih =>
  intro l0 l2 l3 l4 l5 l6 l7 g k_l0 h
  rw [f_X12_rows_95] at h
  refine SF_iload 6 97 dX12_rows_95 rfl rfl ?_
  refine SF_bipush (8 : Int32) 99 dX12_rows_97 rfl rfl ?_
  refine SF_icge 165 102 dX12_rows_99 rfl rfl (fun c1 => ?_) (fun c1 => ?_)
  · have h := ite_t c1 h
    refine SF_sub [0, 1, 2, 3, 4, 5] rfl ?_
    exact w_X12_rows_165 hd k74 hk74 k84 hk84 l0 l2 l3 l4 l5 l6 g k_l0 h
  · have h := ite_f c1 h
    refine SF_aload_n 0 103 dX12_rows_102 rfl rfl rfl ?_
    obtain ⟨b2, r3, h⟩ := dr_some h
    refine SF_getR 106 fl_X12_54 dX12_rows_103 k_l0.1 r3 rfl ?_
    refine SF_iload 5 108 dX12_rows_106 rfl rfl ?_
    obtain ⟨k4, h⟩ := gdK_some h
    obtain ⟨i5, h⟩ := gdI_some h
    refine SF_lald 109 dX12_rows_108 k4.1 i5 rfl ?_
    refine SF_lconst (0 : Int64) 110 dX12_rows_109 rfl rfl ?_
    refine SF_lcmp 111 dX12_rows_110 rfl ?_
    refine SF_ifle 165 114 dX12_rows_111 rfl rfl (fun c6 => ?_) (fun c6 => ?_)
    · have h := ite_t c6 h
      refine SF_sub [0, 1, 2, 3, 4, 5] rfl ?_
      exact w_X12_rows_165 hd k74 hk74 k84 hk84 l0 l2 l3 l4 l5 l6 g k_l0 h
    · have h := ite_f c6 h
      refine SF_aload_n 0 115 dX12_rows_114 rfl rfl rfl ?_
      obtain ⟨b7, r8, h⟩ := dr_some h
      refine SF_getR 118 fl_X12_42 dX12_rows_115 k_l0.1 r8 rfl ?_
      refine SF_bipush (8 : Int32) 120 dX12_rows_118 rfl rfl ?_
      refine SF_iload 5 122 dX12_rows_120 rfl rfl ?_
      refine SF_imul 123 dX12_rows_122 rfl ?_
      refine SF_iload 6 125 dX12_rows_123 rfl rfl ?_
      refine SF_iadd 126 dX12_rows_125 rfl ?_
      obtain ⟨k9, h⟩ := gdK_some h
      obtain ⟨i10, h⟩ := gdI_some h
      refine SF_iald 127 dX12_rows_126 k9.1 i10 rfl ?_
      refine SF_iconst (-1 : Int32) 128 dX12_rows_127 rfl rfl ?_
      refine SF_iceq 159 131 dX12_rows_128 rfl rfl (fun c11 => ?_) (fun c11 => ?_)
      · have h := ite_t c11 h
        exact w_X12_rows_159 hd k74 hk74 k84 hk84 (f_X12_rows_95 k74 k84 n) ih l0 l2 l3 l4 l5 l6 l7 g k_l0 h
      · have h := ite_f c11 h
        refine SF_aload_n 0 132 dX12_rows_131 rfl rfl rfl ?_
        obtain ⟨b12, r13, h⟩ := dr_some h
        refine SF_getR 135 fl_X12_58 dX12_rows_132 k_l0.1 r13 rfl ?_
        refine SF_aload_n 0 136 dX12_rows_135 rfl rfl rfl ?_
        refine SF_getR 139 fl_X12_42 dX12_rows_136 k_l0.1 r8 rfl ?_
        refine SF_bipush (8 : Int32) 141 dX12_rows_139 rfl rfl ?_
        refine SF_iload 5 143 dX12_rows_141 rfl rfl ?_
        refine SF_imul 144 dX12_rows_143 rfl ?_
        refine SF_iload 6 146 dX12_rows_144 rfl rfl ?_
        refine SF_iadd 147 dX12_rows_146 rfl ?_
        refine SF_iald 148 dX12_rows_147 k9.1 i10 rfl ?_
        refine SF_dup2_11 149 dX12_rows_148 rfl rfl rfl ?_
        obtain ⟨k14, h⟩ := gdK_some h
        obtain ⟨i15, h⟩ := gdI_some h
        refine SF_lald 150 dX12_rows_149 k14.1 i15 rfl ?_
        refine SF_aload_n 0 151 dX12_rows_150 rfl rfl rfl ?_
        refine SF_getR 154 fl_X12_54 dX12_rows_151 k_l0.1 r3 rfl ?_
        refine SF_iload 5 156 dX12_rows_154 rfl rfl ?_
        refine SF_lald 157 dX12_rows_156 k4.1 i5 rfl ?_
        refine SF_ladd 158 dX12_rows_157 rfl ?_
        refine SF_last 159 dX12_rows_158 k14.1 i15 rfl ?_
        obtain ⟨g16, e17, h⟩ := lg_some h
        rw [← e17]
        have k_l0 := KD.eq e17 k_l0
        have k4 := KD.eq e17 k4
        have k9 := KD.eq e17 k9
        have k14 := KD.eq e17 k14
        have r3 := gR_eq e17 r3
        have r8 := gR_eq e17 r8
        have r13 := gR_eq e17 r13
        have i5 := vp_eq e17 i5
        have i10 := vp_eq e17 i10
        have i15 := vp_eq e17 i15
        exact w_X12_rows_159 hd k74 hk74 k84 hk84 (f_X12_rows_95 k74 k84 n) ih l0 l2 l3 l4 l5 l6 l7 g16 k_l0 h

set_option maxRecDepth 20000 in
set_option maxHeartbeats 2000000 in
theorem w_X12_rows_84 {X : CX} {d : Nat} (hd : 7 ≤ d) {g' : G} {rx : Int64} (k74 : Nat → Int32 → Int32 → Int32 → Int32 → G → Option (Int64 × G)) (hk74 : ∀ (l0 : Nat) (l2 : Int32) (l3 : Int32) (l4 : Int32) (l5 : Int32) (g : G), KD g l0 12 → k74 l0 l2 l3 l4 l5 g = some (rx, g') → SemF X m_X12_rows d 74 [(0, .ref (ad X l0)), (2, .int l2), (3, .int l3), (4, .int l4), (5, .int l5)] [] g (some (.long rx)) g') : ∀ (n : Nat) (l0 : Nat) (l2 : Int32) (l3 : Int32) (l4 : Int32) (l5 : Int32) (l6 : Int32) (g : G), KD g l0 12 → f_X12_rows_84 k74 n l0 l2 l3 l4 l5 l6 g = some (rx, g') → SemF X m_X12_rows d 84 [(0, .ref (ad X l0)), (2, .int l2), (3, .int l3), (4, .int l4), (5, .int l5), (6, .int l6)] [] g (some (.long rx)) g' := by
  intro n
  induction n with
  | zero =>
    intro l0 l2 l3 l4 l5 l6 g k_l0 h
    rw [f_X12_rows_84] at h
    cases h
  | succ n ih =>
  intro l0 l2 l3 l4 l5 l6 g k_l0 h
  rw [f_X12_rows_84] at h
  refine SF_iload 5 86 dX12_rows_84 rfl rfl ?_
  refine SF_sipush (1296 : Int32) 89 dX12_rows_86 rfl rfl ?_
  refine SF_icge 171 92 dX12_rows_89 rfl rfl (fun c1 => ?_) (fun c1 => ?_)
  · have h := ite_t c1 h
    refine SF_aload_n 0 172 dX12_rows_171 rfl rfl rfl ?_
    obtain ⟨v2, g3, q4, h⟩ := bd_some h
    have s5 := w_X12_isThen (X := X) (Nat.le_refl 0) l0 g g3 v2 k_l0 q4
    refine SF_callVv 175 mi_X12_isThen ml_X12_405 dX12_rows_172 (Nat.le_trans (by decide) hd) s5 k_l0.1 rfl rfl (Nat.le_of_ble_eq_true rfl) rfl ?_
    have k_l0 := k_l0.ext s5.1
    refine SF_iinc 4 (l5 + (1 : Int32)) [(5, .int (l5 + (1 : Int32))), (0, .ref (ad X l0)), (2, .int l2), (3, .int l3), (4, .int l4), (6, .int l6)] 178 dX12_rows_175 rfl rfl (by decide) rfl rfl ?_
    refine SF_goto 74 dX12_rows_178 rfl ?_
    refine SF_sub [1, 2, 3, 4, 0] rfl ?_
    exact hk74 l0 l2 l3 l4 (l5 + (1 : Int32)) g3 k_l0 h
  · have h := ite_f c1 h
    refine SF_iconst (0 : Int32) 93 dX12_rows_92 rfl rfl ?_
    refine SF_istore [(7, .int (0 : Int32)), (0, .ref (ad X l0)), (2, .int l2), (3, .int l3), (4, .int l4), (5, .int l5), (6, .int l6)] 95 dX12_rows_93 (by decide) rfl rfl ?_
    refine SF_sub [1, 2, 3, 4, 5, 6, 0] rfl ?_
    exact w_X12_rows_95 hd k74 hk74 (f_X12_rows_84 k74 n) ih FU l0 l2 l3 l4 l5 l6 (0 : Int32) g k_l0 h

set_option maxRecDepth 20000 in
set_option maxHeartbeats 2000000 in
theorem w_X12_rows_219 {X : CX} {d : Nat} (hd : 7 ≤ d) {g' : G} {rx : Int64} (k187 : Nat → Int32 → Int32 → Int64 → Int32 → G → Option (Int64 × G)) (hk187 : ∀ (l0 : Nat) (l2 : Int32) (l3 : Int32) (l5 : Int64) (l7 : Int32) (g : G), KD g l0 12 → k187 l0 l2 l3 l5 l7 g = some (rx, g') → SemF X m_X12_rows d 187 [(0, .ref (ad X l0)), (2, .int l2), (3, .int l3), (5, .long l5), (7, .int l7)] [] g (some (.long rx)) g') (l0 : Nat) (l2 : Int32) (l3 : Int32) (l7 : Int32) (s0 : Int64) (s1 : Int64) (g : G) (k_l0 : KD g l0 12) (h : f_X12_rows_219 k187 l0 l2 l3 l7 s0 s1 g = some (rx, g')) : SemF X m_X12_rows d 219 [(0, .ref (ad X l0)), (2, .int l2), (3, .int l3), (7, .int l7)] [.long s0, .long s1] g (some (.long rx)) g' := by
  rw [f_X12_rows_219] at h
  refine SF_ladd 220 dX12_rows_219 rfl ?_
  obtain ⟨y1, e2, h⟩ := ll_some h
  refine SF_eqL e2 ?_
  refine SF_lstore [(5, .long y1), (0, .ref (ad X l0)), (2, .int l2), (3, .int l3), (7, .int l7)] 222 dX12_rows_220 (by decide) rfl rfl ?_
  refine SF_iinc 4 (l7 + (1 : Int32)) [(7, .int (l7 + (1 : Int32))), (5, .long y1), (0, .ref (ad X l0)), (2, .int l2), (3, .int l3)] 225 dX12_rows_222 rfl rfl (by decide) rfl rfl ?_
  refine SF_goto 187 dX12_rows_225 rfl ?_
  refine SF_sub [2, 3, 4, 1, 0] rfl ?_
  exact hk187 l0 l2 l3 y1 (l7 + (1 : Int32)) g k_l0 h

set_option maxRecDepth 20000 in
set_option maxHeartbeats 2000000 in
theorem w_X12_rows_187 {X : CX} {d : Nat} (hd : 7 ≤ d) {g' : G} {rx : Int64} : ∀ (n : Nat) (l0 : Nat) (l2 : Int32) (l3 : Int32) (l5 : Int64) (l7 : Int32) (g : G), KD g l0 12 → f_X12_rows_187 n l0 l2 l3 l5 l7 g = some (rx, g') → SemF X m_X12_rows d 187 [(0, .ref (ad X l0)), (2, .int l2), (3, .int l3), (5, .long l5), (7, .int l7)] [] g (some (.long rx)) g' := by
  intro n
  induction n with
  | zero =>
    intro l0 l2 l3 l5 l7 g k_l0 h
    rw [f_X12_rows_187] at h
    cases h
  | succ n ih =>
  intro l0 l2 l3 l5 l7 g k_l0 h
  rw [f_X12_rows_187] at h
  refine SF_iload 4 189 dX12_rows_187 rfl rfl ?_
  refine SF_sipush (1296 : Int32) 192 dX12_rows_189 rfl rfl ?_
  refine SF_icge 228 195 dX12_rows_192 rfl rfl (fun c1 => ?_) (fun c1 => ?_)
  · have h := ite_t c1 h
    refine SF_lload 3 230 dX12_rows_228 rfl rfl ?_
    exact RT_l rfl dX12_rows_230 h
  · have h := ite_f c1 h
    refine SF_lload 3 197 dX12_rows_195 rfl rfl ?_
    refine SF_aload_n 0 198 dX12_rows_197 rfl rfl rfl ?_
    refine SF_iload 4 200 dX12_rows_198 rfl rfl ?_
    refine SF_iload_n 1 201 dX12_rows_200 rfl rfl rfl ?_
    refine SF_iload_n 2 202 dX12_rows_201 rfl rfl rfl ?_
    obtain ⟨v2, g3, q4, h⟩ := bd_some h
    have s5 := w_X12_isGoal (X := X) (Nat.le_refl 1) l0 l7 l2 l3 g g3 v2 k_l0 q4
    refine SF_callVb 205 mi_X12_isGoal ml_X12_362 dX12_rows_202 (Nat.le_trans (by decide) hd) s5 k_l0.1 rfl rfl (Nat.le_of_ble_eq_true rfl) rfl ?_
    have k_l0 := k_l0.ext s5.1
    refine SF_ifeq 218 208 dX12_rows_205 rfl rfl (fun c6 => ?_) (fun c6 => ?_)
    · have h := ite_t c6 h
      refine SF_lconst (0 : Int64) 219 dX12_rows_218 rfl rfl ?_
      refine SF_sub [0, 1, 2, 4] rfl ?_
      exact w_X12_rows_219 hd (f_X12_rows_187 n) ih l0 l2 l3 l7 (0 : Int64) l5 g3 k_l0 h
    · have h := ite_f c6 h
      refine SF_aload_n 0 209 dX12_rows_208 rfl rfl rfl ?_
      obtain ⟨b7, r8, h⟩ := dr_some h
      refine SF_getR 212 fl_X12_54 dX12_rows_209 k_l0.1 r8 rfl ?_
      refine SF_iload 4 214 dX12_rows_212 rfl rfl ?_
      obtain ⟨k9, h⟩ := gdK_some h
      obtain ⟨i10, h⟩ := gdI_some h
      refine SF_lald 215 dX12_rows_214 k9.1 i10 rfl ?_
      refine SF_goto 219 dX12_rows_215 rfl ?_
      refine SF_sub [0, 1, 2, 4] rfl ?_
      exact w_X12_rows_219 hd (f_X12_rows_187 n) ih l0 l2 l3 l7 (gL g3 b7 l7.toNatClampNeg) l5 g3 k_l0 h

set_option maxRecDepth 20000 in
set_option maxHeartbeats 2000000 in
theorem w_X12_rows_74 {X : CX} {d : Nat} (hd : 7 ≤ d) {g' : G} {rx : Int64} : ∀ (n : Nat) (l0 : Nat) (l2 : Int32) (l3 : Int32) (l4 : Int32) (l5 : Int32) (g : G), KD g l0 12 → f_X12_rows_74 n l0 l2 l3 l4 l5 g = some (rx, g') → SemF X m_X12_rows d 74 [(0, .ref (ad X l0)), (2, .int l2), (3, .int l3), (4, .int l4), (5, .int l5)] [] g (some (.long rx)) g' := by
  intro n
  induction n with
  | zero =>
    intro l0 l2 l3 l4 l5 g k_l0 h
    rw [f_X12_rows_74] at h
    cases h
  | succ n ih =>
  intro l0 l2 l3 l4 l5 g k_l0 h
  rw [f_X12_rows_74] at h
  refine SF_iload 4 76 dX12_rows_74 rfl rfl ?_
  refine SF_iload 3 78 dX12_rows_76 rfl rfl ?_
  refine SF_icge 181 81 dX12_rows_78 rfl rfl (fun c1 => ?_) (fun c1 => ?_)
  · have h := ite_t c1 h
    refine SF_lconst (0 : Int64) 182 dX12_rows_181 rfl rfl ?_
    refine SF_lstore [(5, .long (0 : Int64)), (0, .ref (ad X l0)), (2, .int l2), (3, .int l3), (4, .int l4)] 184 dX12_rows_182 (by decide) rfl rfl ?_
    refine SF_iconst (0 : Int32) 185 dX12_rows_184 rfl rfl ?_
    refine SF_istore [(7, .int (0 : Int32)), (5, .long (0 : Int64)), (0, .ref (ad X l0)), (2, .int l2), (3, .int l3), (4, .int l4)] 187 dX12_rows_185 (by decide) rfl rfl ?_
    refine SF_sub [2, 3, 4, 1, 0] rfl ?_
    exact w_X12_rows_187 hd FU l0 l2 l3 (0 : Int64) (0 : Int32) g k_l0 h
  · have h := ite_f c1 h
    refine SF_iconst (0 : Int32) 82 dX12_rows_81 rfl rfl ?_
    refine SF_istore [(6, .int (0 : Int32)), (0, .ref (ad X l0)), (2, .int l2), (3, .int l3), (4, .int l4), (5, .int l5)] 84 dX12_rows_82 (by decide) rfl rfl ?_
    refine SF_sub [1, 2, 3, 4, 5, 0] rfl ?_
    exact w_X12_rows_84 hd (f_X12_rows_74 n) ih FU l0 l2 l3 l4 l5 (0 : Int32) g k_l0 h

set_option maxRecDepth 20000 in
set_option maxHeartbeats 2000000 in
theorem w_X12_rows_49 {X : CX} {d : Nat} (hd : 7 ≤ d) {g' : G} {rx : Int64} : ∀ (n : Nat) (l0 : Nat) (l2 : Int32) (l3 : Int32) (l4 : Int32) (l5 : Int32) (g : G), KD g l0 12 → f_X12_rows_49 n l0 l2 l3 l4 l5 g = some (rx, g') → SemF X m_X12_rows d 49 [(0, .ref (ad X l0)), (2, .int l2), (3, .int l3), (4, .int l4), (5, .int l5)] [] g (some (.long rx)) g' := by
  intro n
  induction n with
  | zero =>
    intro l0 l2 l3 l4 l5 g k_l0 h
    rw [f_X12_rows_49] at h
    cases h
  | succ n ih =>
  intro l0 l2 l3 l4 l5 g k_l0 h
  rw [f_X12_rows_49] at h
  refine SF_iload 4 51 dX12_rows_49 rfl rfl ?_
  refine SF_sipush (1296 : Int32) 54 dX12_rows_51 rfl rfl ?_
  refine SF_icge 71 57 dX12_rows_54 rfl rfl (fun c1 => ?_) (fun c1 => ?_)
  · have h := ite_t c1 h
    refine SF_iconst (0 : Int32) 72 dX12_rows_71 rfl rfl ?_
    refine SF_istore [(5, .int (0 : Int32)), (0, .ref (ad X l0)), (2, .int l2), (3, .int l3), (4, .int l4)] 74 dX12_rows_72 (by decide) rfl rfl ?_
    refine SF_sub [1, 2, 3, 4, 0] rfl ?_
    exact w_X12_rows_74 hd FU l0 l2 l3 l4 (0 : Int32) g k_l0 h
  · have h := ite_f c1 h
    refine SF_aload_n 0 58 dX12_rows_57 rfl rfl rfl ?_
    obtain ⟨b2, r3, h⟩ := dr_some h
    refine SF_getR 61 fl_X12_58 dX12_rows_58 k_l0.1 r3 rfl ?_
    refine SF_iload 4 63 dX12_rows_61 rfl rfl ?_
    refine SF_lconst (0 : Int64) 64 dX12_rows_63 rfl rfl ?_
    obtain ⟨k4, h⟩ := gdK_some h
    obtain ⟨i5, h⟩ := gdI_some h
    refine SF_last 65 dX12_rows_64 k4.1 i5 rfl ?_
    obtain ⟨g6, e7, h⟩ := lg_some h
    rw [← e7]
    have k_l0 := KD.eq e7 k_l0
    have k4 := KD.eq e7 k4
    have r3 := gR_eq e7 r3
    have i5 := vp_eq e7 i5
    refine SF_iinc 4 (l5 + (1 : Int32)) [(5, .int (l5 + (1 : Int32))), (0, .ref (ad X l0)), (2, .int l2), (3, .int l3), (4, .int l4)] 68 dX12_rows_65 rfl rfl (by decide) rfl rfl ?_
    refine SF_goto 49 dX12_rows_68 rfl ?_
    refine SF_sub [1, 2, 3, 4, 0] rfl ?_
    exact ih l0 l2 l3 l4 (l5 + (1 : Int32)) g6 k_l0 h

set_option maxRecDepth 20000 in
set_option maxHeartbeats 2000000 in
theorem w_X12_rows {X : CX} {d : Nat} (hd : 7 ≤ d) (l0 : Nat) (l1 : Int32) (l2 : Int32) (l3 : Int32) (l4 : Int32) (g g' : G) (rx : Int64) (k_l0 : KD g l0 12) (h : f_X12_rows l0 l1 l2 l3 l4 g = some (rx, g')) : Sem X m_X12_rows d [.ref (ad X l0), .int l1, .int l2, .int l3, .int l4] g (some (.long rx)) g' := by
  refine Sem_of (lo := [(0, .ref (ad X l0)), (1, .int l1), (2, .int l2), (3, .int l3), (4, .int l4)]) (by decide +kernel) rfl (Nat.le_of_ble_eq_true rfl) ?_
  rw [f_X12_rows] at h
  refine SF_aload_n 0 1 dX12_rows_0 rfl rfl rfl ?_
  refine SF_iconst (0 : Int32) 2 dX12_rows_1 rfl rfl ?_
  refine SF_putI 5 fl_X12_1 dX12_rows_2 k_l0.1 (fn_int _) (Or.inl rfl) rfl ?_
  obtain ⟨g1, e2, h⟩ := lg_some h
  rw [← e2]
  have k_l0 := KD.eq e2 k_l0
  refine SF_aload_n 0 6 dX12_rows_5 rfl rfl rfl ?_
  refine SF_iload_n 1 7 dX12_rows_6 rfl rfl rfl ?_
  refine SF_iload_n 2 8 dX12_rows_7 rfl rfl rfl ?_
  refine SF_iload_n 3 9 dX12_rows_8 rfl rfl rfl ?_
  obtain ⟨v3, g4, q5, h⟩ := bd_some h
  have s6 := w_X12_isGoalTold (X := X) (Nat.le_refl 2) l0 l1 l2 l3 g1 g4 v3 k_l0 q5
  refine SF_callVb 12 mi_X12_isGoalTold ml_X12_373 dX12_rows_9 (Nat.le_trans (by decide) hd) s6 k_l0.1 rfl rfl (Nat.le_of_ble_eq_true rfl) rfl ?_
  have k_l0 := k_l0.ext s6.1
  refine SF_ifne 19 15 dX12_rows_12 rfl rfl (fun c7 => ?_) (fun c7 => ?_)
  · have h := ite_f c7 h
    refine SF_iload 4 21 dX12_rows_19 rfl rfl ?_
    refine SF_i2l 22 dX12_rows_21 rfl ?_
    refine SF_lconst (0 : Int64) 23 dX12_rows_22 rfl rfl ?_
    refine SF_ldc2 26 dX12_rows_23 kl_X12_398 rfl ?_
    obtain ⟨v8, g9, q10, h⟩ := bd_some h
    have s11 := w_X12_within (X := X) (Nat.le_refl 0) (l4.toInt64) (0 : Int64) (15 : Int64) g4 g9 v8 q10
    refine SF_callSb 29 mi_X12_within ml_X12_139 dX12_rows_26 (Nat.le_trans (by decide) hd) s11 rfl rfl (Nat.le_of_ble_eq_true rfl) rfl ?_
    have k_l0 := k_l0.ext s11.1
    refine SF_ifne 36 32 dX12_rows_29 rfl rfl (fun c12 => ?_) (fun c12 => ?_)
    · have h := ite_f c12 h
      refine SF_aload_n 0 37 dX12_rows_36 rfl rfl rfl ?_
      refine SF_iload_n 1 38 dX12_rows_37 rfl rfl rfl ?_
      obtain ⟨v13, g14, q15, h⟩ := bd_some h
      have s16 := w_X12_laysStands (X := X) (Nat.le_refl 6) l0 l1 g9 g14 v13 k_l0 q15
      refine SF_callVv 41 mi_X12_laysStands ml_X12_376 dX12_rows_38 (Nat.le_trans (by decide) hd) s16 k_l0.1 rfl rfl (Nat.le_of_ble_eq_true rfl) rfl ?_
      have k_l0 := k_l0.ext s16.1
      refine SF_aload_n 0 42 dX12_rows_41 rfl rfl rfl ?_
      refine SF_iload_n 1 43 dX12_rows_42 rfl rfl rfl ?_
      obtain ⟨v17, g18, q19, h⟩ := bd_some h
      have s20 := w_X12_beginsMany (X := X) (Nat.le_refl 2) l0 l1 g14 g18 v17 k_l0 q19
      refine SF_callVv 46 mi_X12_beginsMany ml_X12_402 dX12_rows_43 (Nat.le_trans (by decide) hd) s20 k_l0.1 rfl rfl (Nat.le_of_ble_eq_true rfl) rfl ?_
      have k_l0 := k_l0.ext s20.1
      refine SF_iconst (0 : Int32) 47 dX12_rows_46 rfl rfl ?_
      refine SF_istore [(5, .int (0 : Int32)), (0, .ref (ad X l0)), (1, .int l1), (2, .int l2), (3, .int l3), (4, .int l4)] 49 dX12_rows_47 (by decide) rfl rfl ?_
      refine SF_sub [1, 3, 4, 5, 0] rfl ?_
      exact w_X12_rows_49 hd FU l0 l2 l3 l4 (0 : Int32) g18 k_l0 h
    · have h := ite_t c12 h
      refine SF_ldc2 35 dX12_rows_32 kl_X12_400 rfl ?_
      exact RT_l rfl dX12_rows_35 h
  · have h := ite_t c7 h
    refine SF_ldc2 18 dX12_rows_15 kl_X12_396 rfl ?_
    exact RT_l rfl dX12_rows_18 h

theorem dX4_trailTo_0 : decode cX4_trailTo 0 = .ok (.lconst 0, 1) := by decide +kernel
theorem dX4_trailTo_1 : decode cX4_trailTo 1 = .ok (.lstore_n 2, 1) := by decide +kernel
theorem dX4_trailTo_2 : decode cX4_trailTo 2 = .ok (.iload_n 1, 1) := by decide +kernel
theorem dX4_trailTo_3 : decode cX4_trailTo 3 = .ok (.istore 4, 2) := by decide +kernel
theorem dX4_trailTo_5 : decode cX4_trailTo 5 = .ok (.iconst 0, 1) := by decide +kernel
theorem dX4_trailTo_6 : decode cX4_trailTo 6 = .ok (.istore 5, 2) := by decide +kernel
theorem dX4_trailTo_8 : decode cX4_trailTo 8 = .ok (.iload 5, 2) := by decide +kernel
theorem dX4_trailTo_10 : decode cX4_trailTo 10 = .ok (.sipush 256, 3) := by decide +kernel
theorem dX4_trailTo_13 : decode cX4_trailTo 13 = .ok (.if_icmp .ge 55, 3) := by decide +kernel
theorem dX4_trailTo_16 : decode cX4_trailTo 16 = .ok (.aload_n 0, 1) := by decide +kernel
theorem dX4_trailTo_17 : decode cX4_trailTo 17 = .ok (.iload 4, 2) := by decide +kernel
theorem dX4_trailTo_19 : decode cX4_trailTo 19 = .ok (.invokevirtual 54, 3) := by decide +kernel
theorem dX4_trailTo_22 : decode cX4_trailTo 22 = .ok (.ifCond .eq 46, 3) := by decide +kernel
theorem dX4_trailTo_25 : decode cX4_trailTo 25 = .ok (.lload_n 2, 1) := by decide +kernel
theorem dX4_trailTo_26 : decode cX4_trailTo 26 = .ok (.lconst 1, 1) := by decide +kernel
theorem dX4_trailTo_27 : decode cX4_trailTo 27 = .ok (.aload_n 0, 1) := by decide +kernel
theorem dX4_trailTo_28 : decode cX4_trailTo 28 = .ok (.getfield 9, 3) := by decide +kernel
theorem dX4_trailTo_31 : decode cX4_trailTo 31 = .ok (.iload 4, 2) := by decide +kernel
theorem dX4_trailTo_33 : decode cX4_trailTo 33 = .ok (.iaload, 1) := by decide +kernel
theorem dX4_trailTo_34 : decode cX4_trailTo 34 = .ok (.bipush 64, 2) := by decide +kernel
theorem dX4_trailTo_36 : decode cX4_trailTo 36 = .ok (.idiv, 1) := by decide +kernel
theorem dX4_trailTo_37 : decode cX4_trailTo 37 = .ok (.lshl, 1) := by decide +kernel
theorem dX4_trailTo_38 : decode cX4_trailTo 38 = .ok (.lconst 1, 1) := by decide +kernel
theorem dX4_trailTo_39 : decode cX4_trailTo 39 = .ok (.aload_n 0, 1) := by decide +kernel
theorem dX4_trailTo_40 : decode cX4_trailTo 40 = .ok (.getfield 9, 3) := by decide +kernel
theorem dX4_trailTo_43 : decode cX4_trailTo 43 = .ok (.iload 4, 2) := by decide +kernel
theorem dX4_trailTo_45 : decode cX4_trailTo 45 = .ok (.iaload, 1) := by decide +kernel
theorem dX4_trailTo_46 : decode cX4_trailTo 46 = .ok (.bipush 64, 2) := by decide +kernel
theorem dX4_trailTo_48 : decode cX4_trailTo 48 = .ok (.irem, 1) := by decide +kernel
theorem dX4_trailTo_49 : decode cX4_trailTo 49 = .ok (.lshl, 1) := by decide +kernel
theorem dX4_trailTo_50 : decode cX4_trailTo 50 = .ok (.lor, 1) := by decide +kernel
theorem dX4_trailTo_51 : decode cX4_trailTo 51 = .ok (.lor, 1) := by decide +kernel
theorem dX4_trailTo_52 : decode cX4_trailTo 52 = .ok (.lstore_n 2, 1) := by decide +kernel
theorem dX4_trailTo_53 : decode cX4_trailTo 53 = .ok (.aload_n 0, 1) := by decide +kernel
theorem dX4_trailTo_54 : decode cX4_trailTo 54 = .ok (.getfield 18, 3) := by decide +kernel
theorem dX4_trailTo_57 : decode cX4_trailTo 57 = .ok (.iload 4, 2) := by decide +kernel
theorem dX4_trailTo_59 : decode cX4_trailTo 59 = .ok (.iaload, 1) := by decide +kernel
theorem dX4_trailTo_60 : decode cX4_trailTo 60 = .ok (.istore 4, 2) := by decide +kernel
theorem dX4_trailTo_62 : decode cX4_trailTo 62 = .ok (.iinc 5 1, 3) := by decide +kernel
theorem dX4_trailTo_65 : decode cX4_trailTo 65 = .ok (.goto (-57), 3) := by decide +kernel
theorem dX4_trailTo_68 : decode cX4_trailTo 68 = .ok (.lload_n 2, 1) := by decide +kernel
theorem dX4_trailTo_69 : decode cX4_trailTo 69 = .ok (.lreturn, 1) := by decide +kernel
set_option maxRecDepth 20000 in
set_option maxHeartbeats 2000000 in
theorem w_X4_trailTo_68 {X : CX} {d : Nat} (hd : 1 ≤ d) {g' : G} {rx : Int64} (l2 : Int64) (g : G) (h : f_X4_trailTo_68 l2 g = some (rx, g')) : SemF X m_X4_trailTo d 68 [(2, .long l2)] [] g (some (.long rx)) g' := by
  rw [f_X4_trailTo_68] at h
  refine SF_lload_n 0 69 dX4_trailTo_68 rfl rfl rfl ?_
  exact RT_l rfl dX4_trailTo_69 h

set_option maxRecDepth 20000 in
set_option maxHeartbeats 2000000 in
theorem w_X4_trailTo_8 {X : CX} {d : Nat} (hd : 1 ≤ d) {g' : G} {rx : Int64} : ∀ (n : Nat) (l0 : Nat) (l2 : Int64) (l4 : Int32) (l5 : Int32) (g : G), KD g l0 4 → f_X4_trailTo_8 n l0 l2 l4 l5 g = some (rx, g') → SemF X m_X4_trailTo d 8 [(0, .ref (ad X l0)), (2, .long l2), (4, .int l4), (5, .int l5)] [] g (some (.long rx)) g' := by
  intro n
  induction n with
  | zero =>
    intro l0 l2 l4 l5 g k_l0 h
    rw [f_X4_trailTo_8] at h
    cases h
  | succ n ih =>
  intro l0 l2 l4 l5 g k_l0 h
  rw [f_X4_trailTo_8] at h
  refine SF_iload 3 10 dX4_trailTo_8 rfl rfl ?_
  refine SF_sipush (256 : Int32) 13 dX4_trailTo_10 rfl rfl ?_
  refine SF_icge 68 16 dX4_trailTo_13 rfl rfl (fun c1 => ?_) (fun c1 => ?_)
  · have h := ite_t c1 h
    refine SF_sub [1] rfl ?_
    exact w_X4_trailTo_68 hd l2 g  h
  · have h := ite_f c1 h
    refine SF_aload_n 0 17 dX4_trailTo_16 rfl rfl rfl ?_
    refine SF_iload 2 19 dX4_trailTo_17 rfl rfl ?_
    obtain ⟨v2, g3, q4, h⟩ := bd_some h
    have s5 := w_X4_has (X := X) (Nat.le_refl 0) l0 l4 g g3 v2 k_l0 q4
    refine SF_callVb 22 mi_X4_has ml_X4_54 dX4_trailTo_19 (Nat.le_trans (by decide) hd) s5 k_l0.1 rfl rfl (Nat.le_of_ble_eq_true rfl) rfl ?_
    have k_l0 := k_l0.ext s5.1
    refine SF_ifeq 68 25 dX4_trailTo_22 rfl rfl (fun c6 => ?_) (fun c6 => ?_)
    · have h := ite_t c6 h
      refine SF_sub [1] rfl ?_
      exact w_X4_trailTo_68 hd l2 g3  h
    · have h := ite_f c6 h
      refine SF_lload_n 1 26 dX4_trailTo_25 rfl rfl rfl ?_
      refine SF_lconst (1 : Int64) 27 dX4_trailTo_26 rfl rfl ?_
      refine SF_aload_n 0 28 dX4_trailTo_27 rfl rfl rfl ?_
      obtain ⟨b7, r8, h⟩ := dr_some h
      refine SF_getR 31 fl_X4_9 dX4_trailTo_28 k_l0.1 r8 rfl ?_
      refine SF_iload 2 33 dX4_trailTo_31 rfl rfl ?_
      obtain ⟨k9, h⟩ := gdK_some h
      obtain ⟨i10, h⟩ := gdI_some h
      refine SF_iald 34 dX4_trailTo_33 k9.1 i10 rfl ?_
      refine SF_bipush (64 : Int32) 36 dX4_trailTo_34 rfl rfl ?_
      refine SF_idiv 37 dX4_trailTo_36 (by decide) rfl ?_
      refine SF_lshl 38 dX4_trailTo_37 rfl ?_
      refine SF_lconst (1 : Int64) 39 dX4_trailTo_38 rfl rfl ?_
      refine SF_aload_n 0 40 dX4_trailTo_39 rfl rfl rfl ?_
      refine SF_getR 43 fl_X4_9 dX4_trailTo_40 k_l0.1 r8 rfl ?_
      refine SF_iload 2 45 dX4_trailTo_43 rfl rfl ?_
      refine SF_iald 46 dX4_trailTo_45 k9.1 i10 rfl ?_
      refine SF_bipush (64 : Int32) 48 dX4_trailTo_46 rfl rfl ?_
      refine SF_irem 49 dX4_trailTo_48 (by decide) rfl ?_
      refine SF_lshl 50 dX4_trailTo_49 rfl ?_
      refine SF_lor 51 dX4_trailTo_50 rfl ?_
      refine SF_lor 52 dX4_trailTo_51 rfl ?_
      obtain ⟨y11, e12, h⟩ := ll_some h
      refine SF_eqL e12 ?_
      refine SF_lstore_n [(2, .long y11), (0, .ref (ad X l0)), (4, .int l4), (5, .int l5)] 53 dX4_trailTo_52 rfl (by decide) rfl rfl ?_
      refine SF_aload_n 1 54 dX4_trailTo_53 rfl rfl rfl ?_
      obtain ⟨b13, r14, h⟩ := dr_some h
      refine SF_getR 57 fl_X4_18 dX4_trailTo_54 k_l0.1 r14 rfl ?_
      refine SF_iload 2 59 dX4_trailTo_57 rfl rfl ?_
      obtain ⟨k15, h⟩ := gdK_some h
      obtain ⟨i16, h⟩ := gdI_some h
      refine SF_iald 60 dX4_trailTo_59 k15.1 i16 rfl ?_
      obtain ⟨y17, e18, h⟩ := li_some h
      refine SF_eqI e18 ?_
      refine SF_istore [(4, .int y17), (2, .long y11), (0, .ref (ad X l0)), (5, .int l5)] 62 dX4_trailTo_60 (by decide) rfl rfl ?_
      refine SF_iinc 3 (l5 + (1 : Int32)) [(5, .int (l5 + (1 : Int32))), (4, .int y17), (2, .long y11), (0, .ref (ad X l0))] 65 dX4_trailTo_62 rfl rfl (by decide) rfl rfl ?_
      refine SF_goto 8 dX4_trailTo_65 rfl ?_
      refine SF_sub [3, 2, 1, 0] rfl ?_
      exact ih l0 y11 y17 (l5 + (1 : Int32)) g3 k_l0 h

set_option maxRecDepth 20000 in
set_option maxHeartbeats 2000000 in
theorem w_X4_trailTo {X : CX} {d : Nat} (hd : 1 ≤ d) (l0 : Nat) (l1 : Int32) (g g' : G) (rx : Int64) (k_l0 : KD g l0 4) (h : f_X4_trailTo l0 l1 g = some (rx, g')) : Sem X m_X4_trailTo d [.ref (ad X l0), .int l1] g (some (.long rx)) g' := by
  refine Sem_of (lo := [(0, .ref (ad X l0)), (1, .int l1)]) (by decide +kernel) rfl (Nat.le_of_ble_eq_true rfl) ?_
  rw [f_X4_trailTo] at h
  refine SF_lconst (0 : Int64) 1 dX4_trailTo_0 rfl rfl ?_
  refine SF_lstore_n [(2, .long (0 : Int64)), (0, .ref (ad X l0)), (1, .int l1)] 2 dX4_trailTo_1 rfl (by decide) rfl rfl ?_
  refine SF_iload_n 2 3 dX4_trailTo_2 rfl rfl rfl ?_
  refine SF_istore [(4, .int l1), (2, .long (0 : Int64)), (0, .ref (ad X l0)), (1, .int l1)] 5 dX4_trailTo_3 (by decide) rfl rfl ?_
  refine SF_iconst (0 : Int32) 6 dX4_trailTo_5 rfl rfl ?_
  refine SF_istore [(5, .int (0 : Int32)), (4, .int l1), (2, .long (0 : Int64)), (0, .ref (ad X l0)), (1, .int l1)] 8 dX4_trailTo_6 (by decide) rfl rfl ?_
  refine SF_sub [3, 2, 1, 0] rfl ?_
  exact w_X4_trailTo_8 hd FU l0 (0 : Int64) l1 (0 : Int32) g k_l0 h

theorem dX11_needed_0 : decode cX11_needed 0 = .ok (.aload_n 0, 1) := by decide +kernel
theorem dX11_needed_1 : decode cX11_needed 1 = .ok (.iload_n 1, 1) := by decide +kernel
theorem dX11_needed_2 : decode cX11_needed 2 = .ok (.iload_n 2, 1) := by decide +kernel
theorem dX11_needed_3 : decode cX11_needed 3 = .ok (.iload_n 3, 1) := by decide +kernel
theorem dX11_needed_4 : decode cX11_needed 4 = .ok (.invokevirtual 255, 3) := by decide +kernel
theorem dX11_needed_7 : decode cX11_needed 7 = .ok (.ifCond .ne 7, 3) := by decide +kernel
theorem dX11_needed_10 : decode cX11_needed 10 = .ok (.ldc2_w 286, 3) := by decide +kernel
theorem dX11_needed_13 : decode cX11_needed 13 = .ok (.lreturn, 1) := by decide +kernel
theorem dX11_needed_14 : decode cX11_needed 14 = .ok (.aload_n 0, 1) := by decide +kernel
theorem dX11_needed_15 : decode cX11_needed 15 = .ok (.iload_n 1, 1) := by decide +kernel
theorem dX11_needed_16 : decode cX11_needed 16 = .ok (.invokevirtual 259, 3) := by decide +kernel
theorem dX11_needed_19 : decode cX11_needed 19 = .ok (.astore 4, 2) := by decide +kernel
theorem dX11_needed_21 : decode cX11_needed 21 = .ok (.aload 4, 2) := by decide +kernel
theorem dX11_needed_23 : decode cX11_needed 23 = .ok (.iload_n 2, 1) := by decide +kernel
theorem dX11_needed_24 : decode cX11_needed 24 = .ok (.iload_n 3, 1) := by decide +kernel
theorem dX11_needed_25 : decode cX11_needed 25 = .ok (.invokevirtual 263, 3) := by decide +kernel
theorem dX11_needed_28 : decode cX11_needed 28 = .ok (.istore 5, 2) := by decide +kernel
theorem dX11_needed_30 : decode cX11_needed 30 = .ok (.iload 5, 2) := by decide +kernel
theorem dX11_needed_32 : decode cX11_needed 32 = .ok (.iconst (-1), 1) := by decide +kernel
theorem dX11_needed_33 : decode cX11_needed 33 = .ok (.if_icmp .ne 5, 3) := by decide +kernel
theorem dX11_needed_36 : decode cX11_needed 36 = .ok (.lconst 0, 1) := by decide +kernel
theorem dX11_needed_37 : decode cX11_needed 37 = .ok (.lreturn, 1) := by decide +kernel
theorem dX11_needed_38 : decode cX11_needed 38 = .ok (.aload_n 0, 1) := by decide +kernel
theorem dX11_needed_39 : decode cX11_needed 39 = .ok (.getfield 78, 3) := by decide +kernel
theorem dX11_needed_42 : decode cX11_needed 42 = .ok (.iload_n 1, 1) := by decide +kernel
theorem dX11_needed_43 : decode cX11_needed 43 = .ok (.invokevirtual 183, 3) := by decide +kernel
theorem dX11_needed_46 : decode cX11_needed 46 = .ok (.istore 6, 2) := by decide +kernel
theorem dX11_needed_48 : decode cX11_needed 48 = .ok (.lconst 1, 1) := by decide +kernel
theorem dX11_needed_49 : decode cX11_needed 49 = .ok (.iload 6, 2) := by decide +kernel
theorem dX11_needed_51 : decode cX11_needed 51 = .ok (.bipush 64, 2) := by decide +kernel
theorem dX11_needed_53 : decode cX11_needed 53 = .ok (.idiv, 1) := by decide +kernel
theorem dX11_needed_54 : decode cX11_needed 54 = .ok (.lshl, 1) := by decide +kernel
theorem dX11_needed_55 : decode cX11_needed 55 = .ok (.lconst 1, 1) := by decide +kernel
theorem dX11_needed_56 : decode cX11_needed 56 = .ok (.iload 6, 2) := by decide +kernel
theorem dX11_needed_58 : decode cX11_needed 58 = .ok (.bipush 64, 2) := by decide +kernel
theorem dX11_needed_60 : decode cX11_needed 60 = .ok (.irem, 1) := by decide +kernel
theorem dX11_needed_61 : decode cX11_needed 61 = .ok (.lshl, 1) := by decide +kernel
theorem dX11_needed_62 : decode cX11_needed 62 = .ok (.lor, 1) := by decide +kernel
theorem dX11_needed_63 : decode cX11_needed 63 = .ok (.lstore 7, 2) := by decide +kernel
theorem dX11_needed_65 : decode cX11_needed 65 = .ok (.aload 4, 2) := by decide +kernel
theorem dX11_needed_67 : decode cX11_needed 67 = .ok (.iload 5, 2) := by decide +kernel
theorem dX11_needed_69 : decode cX11_needed 69 = .ok (.invokevirtual 301, 3) := by decide +kernel
theorem dX11_needed_72 : decode cX11_needed 72 = .ok (.lload 7, 2) := by decide +kernel
theorem dX11_needed_74 : decode cX11_needed 74 = .ok (.ldc2_w 304, 3) := by decide +kernel
theorem dX11_needed_77 : decode cX11_needed 77 = .ok (.lxor, 1) := by decide +kernel
theorem dX11_needed_78 : decode cX11_needed 78 = .ok (.land, 1) := by decide +kernel
theorem dX11_needed_79 : decode cX11_needed 79 = .ok (.lstore 9, 2) := by decide +kernel
theorem dX11_needed_81 : decode cX11_needed 81 = .ok (.lconst 0, 1) := by decide +kernel
theorem dX11_needed_82 : decode cX11_needed 82 = .ok (.lstore 11, 2) := by decide +kernel
theorem dX11_needed_84 : decode cX11_needed 84 = .ok (.aload_n 0, 1) := by decide +kernel
theorem dX11_needed_85 : decode cX11_needed 85 = .ok (.getfield 95, 3) := by decide +kernel
theorem dX11_needed_88 : decode cX11_needed 88 = .ok (.aload_n 0, 1) := by decide +kernel
theorem dX11_needed_89 : decode cX11_needed 89 = .ok (.getfield 78, 3) := by decide +kernel
theorem dX11_needed_92 : decode cX11_needed 92 = .ok (.iload_n 1, 1) := by decide +kernel
theorem dX11_needed_93 : decode cX11_needed 93 = .ok (.invokevirtual 306, 3) := by decide +kernel
theorem dX11_needed_96 : decode cX11_needed 96 = .ok (.aload_n 0, 1) := by decide +kernel
theorem dX11_needed_97 : decode cX11_needed 97 = .ok (.getfield 95, 3) := by decide +kernel
theorem dX11_needed_100 : decode cX11_needed 100 = .ok (.getfield 310, 3) := by decide +kernel
theorem dX11_needed_103 : decode cX11_needed 103 = .ok (.lstore 13, 2) := by decide +kernel
theorem dX11_needed_105 : decode cX11_needed 105 = .ok (.iconst 0, 1) := by decide +kernel
theorem dX11_needed_106 : decode cX11_needed 106 = .ok (.istore 15, 2) := by decide +kernel
theorem dX11_needed_108 : decode cX11_needed 108 = .ok (.iload 15, 2) := by decide +kernel
theorem dX11_needed_110 : decode cX11_needed 110 = .ok (.bipush 36, 2) := by decide +kernel
theorem dX11_needed_112 : decode cX11_needed 112 = .ok (.if_icmp .ge 79, 3) := by decide +kernel
theorem dX11_needed_115 : decode cX11_needed 115 = .ok (.lload 9, 2) := by decide +kernel
theorem dX11_needed_117 : decode cX11_needed 117 = .ok (.iload 15, 2) := by decide +kernel
theorem dX11_needed_119 : decode cX11_needed 119 = .ok (.lushr, 1) := by decide +kernel
theorem dX11_needed_120 : decode cX11_needed 120 = .ok (.lconst 1, 1) := by decide +kernel
theorem dX11_needed_121 : decode cX11_needed 121 = .ok (.land, 1) := by decide +kernel
theorem dX11_needed_122 : decode cX11_needed 122 = .ok (.lconst 0, 1) := by decide +kernel
theorem dX11_needed_123 : decode cX11_needed 123 = .ok (.lcmp, 1) := by decide +kernel
theorem dX11_needed_124 : decode cX11_needed 124 = .ok (.ifCond .ne 6, 3) := by decide +kernel
theorem dX11_needed_127 : decode cX11_needed 127 = .ok (.goto 58, 3) := by decide +kernel
theorem dX11_needed_130 : decode cX11_needed 130 = .ok (.aload_n 0, 1) := by decide +kernel
theorem dX11_needed_131 : decode cX11_needed 131 = .ok (.getfield 95, 3) := by decide +kernel
theorem dX11_needed_134 : decode cX11_needed 134 = .ok (.lload 13, 2) := by decide +kernel
theorem dX11_needed_136 : decode cX11_needed 136 = .ok (.lconst 1, 1) := by decide +kernel
theorem dX11_needed_137 : decode cX11_needed 137 = .ok (.iload 15, 2) := by decide +kernel
theorem dX11_needed_139 : decode cX11_needed 139 = .ok (.lshl, 1) := by decide +kernel
theorem dX11_needed_140 : decode cX11_needed 140 = .ok (.ldc2_w 304, 3) := by decide +kernel
theorem dX11_needed_143 : decode cX11_needed 143 = .ok (.lxor, 1) := by decide +kernel
theorem dX11_needed_144 : decode cX11_needed 144 = .ok (.land, 1) := by decide +kernel
theorem dX11_needed_145 : decode cX11_needed 145 = .ok (.putfield 310, 3) := by decide +kernel
theorem dX11_needed_148 : decode cX11_needed 148 = .ok (.aload_n 0, 1) := by decide +kernel
theorem dX11_needed_149 : decode cX11_needed 149 = .ok (.getfield 24, 3) := by decide +kernel
theorem dX11_needed_152 : decode cX11_needed 152 = .ok (.aload_n 0, 1) := by decide +kernel
theorem dX11_needed_153 : decode cX11_needed 153 = .ok (.getfield 95, 3) := by decide +kernel
theorem dX11_needed_156 : decode cX11_needed 156 = .ok (.iload 6, 2) := by decide +kernel
theorem dX11_needed_158 : decode cX11_needed 158 = .ok (.iload_n 2, 1) := by decide +kernel
theorem dX11_needed_159 : decode cX11_needed 159 = .ok (.iload_n 3, 1) := by decide +kernel
theorem dX11_needed_160 : decode cX11_needed 160 = .ok (.invokevirtual 314, 3) := by decide +kernel
theorem dX11_needed_163 : decode cX11_needed 163 = .ok (.aload_n 0, 1) := by decide +kernel
theorem dX11_needed_164 : decode cX11_needed 164 = .ok (.getfield 24, 3) := by decide +kernel
theorem dX11_needed_167 : decode cX11_needed 167 = .ok (.iload_n 2, 1) := by decide +kernel
theorem dX11_needed_168 : decode cX11_needed 168 = .ok (.iload_n 3, 1) := by decide +kernel
theorem dX11_needed_169 : decode cX11_needed 169 = .ok (.invokevirtual 263, 3) := by decide +kernel
theorem dX11_needed_172 : decode cX11_needed 172 = .ok (.iconst (-1), 1) := by decide +kernel
theorem dX11_needed_173 : decode cX11_needed 173 = .ok (.if_icmp .ne 12, 3) := by decide +kernel
theorem dX11_needed_176 : decode cX11_needed 176 = .ok (.lload 11, 2) := by decide +kernel
theorem dX11_needed_178 : decode cX11_needed 178 = .ok (.lconst 1, 1) := by decide +kernel
theorem dX11_needed_179 : decode cX11_needed 179 = .ok (.iload 15, 2) := by decide +kernel
theorem dX11_needed_181 : decode cX11_needed 181 = .ok (.lshl, 1) := by decide +kernel
theorem dX11_needed_182 : decode cX11_needed 182 = .ok (.lor, 1) := by decide +kernel
theorem dX11_needed_183 : decode cX11_needed 183 = .ok (.lstore 11, 2) := by decide +kernel
theorem dX11_needed_185 : decode cX11_needed 185 = .ok (.iinc 15 1, 3) := by decide +kernel
theorem dX11_needed_188 : decode cX11_needed 188 = .ok (.goto (-80), 3) := by decide +kernel
theorem dX11_needed_191 : decode cX11_needed 191 = .ok (.lload 11, 2) := by decide +kernel
theorem dX11_needed_193 : decode cX11_needed 193 = .ok (.lreturn, 1) := by decide +kernel
set_option maxRecDepth 20000 in
set_option maxHeartbeats 2000000 in
theorem w_X11_needed_185 {X : CX} {d : Nat} (hd : 7 ≤ d) {g' : G} {rx : Int64} (k108 : Nat → Int32 → Int32 → Int32 → Int64 → Int64 → Int64 → Int32 → G → Option (Int64 × G)) (hk108 : ∀ (l0 : Nat) (l2 : Int32) (l3 : Int32) (l6 : Int32) (l9 : Int64) (l11 : Int64) (l13 : Int64) (l15 : Int32) (g : G), KD g l0 11 → k108 l0 l2 l3 l6 l9 l11 l13 l15 g = some (rx, g') → SemF X m_X11_needed d 108 [(0, .ref (ad X l0)), (2, .int l2), (3, .int l3), (6, .int l6), (9, .long l9), (11, .long l11), (13, .long l13), (15, .int l15)] [] g (some (.long rx)) g') (l0 : Nat) (l2 : Int32) (l3 : Int32) (l6 : Int32) (l9 : Int64) (l11 : Int64) (l13 : Int64) (l15 : Int32) (g : G) (k_l0 : KD g l0 11) (h : f_X11_needed_185 k108 l0 l2 l3 l6 l9 l11 l13 l15 g = some (rx, g')) : SemF X m_X11_needed d 185 [(0, .ref (ad X l0)), (2, .int l2), (3, .int l3), (6, .int l6), (9, .long l9), (11, .long l11), (13, .long l13), (15, .int l15)] [] g (some (.long rx)) g' := by
  rw [f_X11_needed_185] at h
  refine SF_iinc 7 (l15 + (1 : Int32)) [(15, .int (l15 + (1 : Int32))), (0, .ref (ad X l0)), (2, .int l2), (3, .int l3), (6, .int l6), (9, .long l9), (11, .long l11), (13, .long l13)] 188 dX11_needed_185 rfl rfl (by decide) rfl rfl ?_
  refine SF_goto 108 dX11_needed_188 rfl ?_
  refine SF_sub [1, 2, 3, 4, 5, 6, 7, 0] rfl ?_
  exact hk108 l0 l2 l3 l6 l9 l11 l13 (l15 + (1 : Int32)) g k_l0 h

set_option maxRecDepth 20000 in
set_option maxHeartbeats 2000000 in
theorem w_X11_needed_108 {X : CX} {d : Nat} (hd : 7 ≤ d) {g' : G} {rx : Int64} : ∀ (n : Nat) (l0 : Nat) (l2 : Int32) (l3 : Int32) (l6 : Int32) (l9 : Int64) (l11 : Int64) (l13 : Int64) (l15 : Int32) (g : G), KD g l0 11 → f_X11_needed_108 n l0 l2 l3 l6 l9 l11 l13 l15 g = some (rx, g') → SemF X m_X11_needed d 108 [(0, .ref (ad X l0)), (2, .int l2), (3, .int l3), (6, .int l6), (9, .long l9), (11, .long l11), (13, .long l13), (15, .int l15)] [] g (some (.long rx)) g' := by
  intro n
  induction n with
  | zero =>
    intro l0 l2 l3 l6 l9 l11 l13 l15 g k_l0 h
    rw [f_X11_needed_108] at h
    cases h
  | succ n ih =>
  intro l0 l2 l3 l6 l9 l11 l13 l15 g k_l0 h
  rw [f_X11_needed_108] at h
  refine SF_iload 7 110 dX11_needed_108 rfl rfl ?_
  refine SF_bipush (36 : Int32) 112 dX11_needed_110 rfl rfl ?_
  refine SF_icge 191 115 dX11_needed_112 rfl rfl (fun c1 => ?_) (fun c1 => ?_)
  · have h := ite_t c1 h
    refine SF_lload 5 193 dX11_needed_191 rfl rfl ?_
    exact RT_l rfl dX11_needed_193 h
  · have h := ite_f c1 h
    refine SF_lload 4 117 dX11_needed_115 rfl rfl ?_
    refine SF_iload 7 119 dX11_needed_117 rfl rfl ?_
    refine SF_lushr 120 dX11_needed_119 rfl ?_
    refine SF_lconst (1 : Int64) 121 dX11_needed_120 rfl rfl ?_
    refine SF_land 122 dX11_needed_121 rfl ?_
    refine SF_lconst (0 : Int64) 123 dX11_needed_122 rfl rfl ?_
    refine SF_lcmp 124 dX11_needed_123 rfl ?_
    refine SF_ifne 130 127 dX11_needed_124 rfl rfl (fun c2 => ?_) (fun c2 => ?_)
    · have h := ite_f c2 h
      refine SF_aload_n 0 131 dX11_needed_130 rfl rfl rfl ?_
      obtain ⟨b3, r4, h⟩ := dr_some h
      refine SF_getR 134 fl_X11_95 dX11_needed_131 k_l0.1 r4 rfl ?_
      refine SF_lload 6 136 dX11_needed_134 rfl rfl ?_
      refine SF_lconst (1 : Int64) 137 dX11_needed_136 rfl rfl ?_
      refine SF_iload 7 139 dX11_needed_137 rfl rfl ?_
      refine SF_lshl 140 dX11_needed_139 rfl ?_
      refine SF_ldc2 143 dX11_needed_140 kl_X11_304 rfl ?_
      refine SF_lxor 144 dX11_needed_143 rfl ?_
      refine SF_land 145 dX11_needed_144 rfl ?_
      obtain ⟨k5, h⟩ := gdK_some h
      refine SF_putL 148 fl_X11_310 dX11_needed_145 k5.1 (fn_long _) (Or.inl rfl) rfl ?_
      obtain ⟨g6, e7, h⟩ := lg_some h
      rw [← e7]
      have k_l0 := KD.eq e7 k_l0
      have k5 := KD.eq e7 k5
      have r4 := gR_eq e7 r4
      refine SF_aload_n 0 149 dX11_needed_148 rfl rfl rfl ?_
      obtain ⟨b8, r9, h⟩ := dr_some h
      refine SF_getR 152 fl_X11_24 dX11_needed_149 k_l0.1 r9 rfl ?_
      refine SF_aload_n 0 153 dX11_needed_152 rfl rfl rfl ?_
      refine SF_getR 156 fl_X11_95 dX11_needed_153 k_l0.1 r4 rfl ?_
      refine SF_iload 3 158 dX11_needed_156 rfl rfl ?_
      refine SF_iload_n 1 159 dX11_needed_158 rfl rfl rfl ?_
      refine SF_iload_n 2 160 dX11_needed_159 rfl rfl rfl ?_
      obtain ⟨k10, h⟩ := gdK_some h
      obtain ⟨v11, g12, q13, h⟩ := bd_some h
      have s14 := w_X4_build (X := X) (Nat.le_refl 5) b8 b3 l6 l2 l3 g6 g12 v11 k10 k5 q13
      refine SF_callVv 163 mi_X4_build ml_X11_314 dX11_needed_160 (Nat.le_trans (by decide) hd) s14 k10.1 rfl rfl (Nat.le_of_ble_eq_true rfl) rfl ?_
      have k_l0 := k_l0.ext s14.1
      have k5 := k5.ext s14.1
      have k10 := k10.ext s14.1
      refine SF_aload_n 0 164 dX11_needed_163 rfl rfl rfl ?_
      obtain ⟨b15, r16, h⟩ := dr_some h
      refine SF_getR 167 fl_X11_24 dX11_needed_164 k_l0.1 r16 rfl ?_
      refine SF_iload_n 1 168 dX11_needed_167 rfl rfl rfl ?_
      refine SF_iload_n 2 169 dX11_needed_168 rfl rfl rfl ?_
      obtain ⟨k17, h⟩ := gdK_some h
      obtain ⟨v18, g19, q20, h⟩ := bd_some h
      have s21 := w_X4_find (X := X) (Nat.le_refl 2) b15 l2 l3 g12 g19 v18 k17 q20
      refine SF_callVi 172 mi_X4_find ml_X11_263 dX11_needed_169 (Nat.le_trans (by decide) hd) s21 k17.1 rfl rfl (Nat.le_of_ble_eq_true rfl) rfl ?_
      have k_l0 := k_l0.ext s21.1
      have k5 := k5.ext s21.1
      have k10 := k10.ext s21.1
      have k17 := k17.ext s21.1
      refine SF_iconst (-1 : Int32) 173 dX11_needed_172 rfl rfl ?_
      refine SF_icne 185 176 dX11_needed_173 rfl rfl (fun c22 => ?_) (fun c22 => ?_)
      · have h := ite_f c22 h
        exact w_X11_needed_185 hd (f_X11_needed_108 n) ih l0 l2 l3 l6 l9 l11 l13 l15 g19 k_l0 h
      · have h := ite_t c22 h
        refine SF_lload 5 178 dX11_needed_176 rfl rfl ?_
        refine SF_lconst (1 : Int64) 179 dX11_needed_178 rfl rfl ?_
        refine SF_iload 7 181 dX11_needed_179 rfl rfl ?_
        refine SF_lshl 182 dX11_needed_181 rfl ?_
        refine SF_lor 183 dX11_needed_182 rfl ?_
        obtain ⟨y23, e24, h⟩ := ll_some h
        refine SF_eqL e24 ?_
        refine SF_lstore [(11, .long y23), (0, .ref (ad X l0)), (2, .int l2), (3, .int l3), (6, .int l6), (9, .long l9), (13, .long l13), (15, .int l15)] 185 dX11_needed_183 (by decide) rfl rfl ?_
        refine SF_sub [1, 2, 3, 4, 5, 0, 6, 7] rfl ?_
        exact w_X11_needed_185 hd (f_X11_needed_108 n) ih l0 l2 l3 l6 l9 y23 l13 l15 g19 k_l0 h
    · have h := ite_t c2 h
      refine SF_goto 185 dX11_needed_127 rfl ?_
      exact w_X11_needed_185 hd (f_X11_needed_108 n) ih l0 l2 l3 l6 l9 l11 l13 l15 g k_l0 h

set_option maxRecDepth 20000 in
set_option maxHeartbeats 2000000 in
theorem w_X11_needed {X : CX} {d : Nat} (hd : 7 ≤ d) (l0 : Nat) (l1 : Int32) (l2 : Int32) (l3 : Int32) (g g' : G) (rx : Int64) (k_l0 : KD g l0 11) (h : f_X11_needed l0 l1 l2 l3 g = some (rx, g')) : Sem X m_X11_needed d [.ref (ad X l0), .int l1, .int l2, .int l3] g (some (.long rx)) g' := by
  refine Sem_of (lo := [(0, .ref (ad X l0)), (1, .int l1), (2, .int l2), (3, .int l3)]) (by decide +kernel) rfl (Nat.le_of_ble_eq_true rfl) ?_
  rw [f_X11_needed] at h
  refine SF_aload_n 0 1 dX11_needed_0 rfl rfl rfl ?_
  refine SF_iload_n 1 2 dX11_needed_1 rfl rfl rfl ?_
  refine SF_iload_n 2 3 dX11_needed_2 rfl rfl rfl ?_
  refine SF_iload_n 3 4 dX11_needed_3 rfl rfl rfl ?_
  obtain ⟨v1, g2, q3, h⟩ := bd_some h
  have s4 := w_X11_isGoal (X := X) (Nat.le_refl 2) l0 l1 l2 l3 g g2 v1 k_l0 q3
  refine SF_callVb 7 mi_X11_isGoal ml_X11_255 dX11_needed_4 (Nat.le_trans (by decide) hd) s4 k_l0.1 rfl rfl (Nat.le_of_ble_eq_true rfl) rfl ?_
  have k_l0 := k_l0.ext s4.1
  refine SF_ifne 14 10 dX11_needed_7 rfl rfl (fun c5 => ?_) (fun c5 => ?_)
  · have h := ite_f c5 h
    refine SF_aload_n 0 15 dX11_needed_14 rfl rfl rfl ?_
    refine SF_iload_n 1 16 dX11_needed_15 rfl rfl rfl ?_
    obtain ⟨v6, g7, q8, h⟩ := bd_some h
    have s9 := w_X11_graphOf (X := X) (Nat.le_refl 6) l0 l1 g2 g7 v6 k_l0 q8
    refine SF_callVr 19 mi_X11_graphOf ml_X11_259 dX11_needed_16 (Nat.le_trans (by decide) hd) s9 k_l0.1 rfl rfl (Nat.le_of_ble_eq_true rfl) rfl ?_
    have k_l0 := k_l0.ext s9.1
    refine SF_astore [(4, .ref (ad X v6)), (0, .ref (ad X l0)), (1, .int l1), (2, .int l2), (3, .int l3)] 21 dX11_needed_19 (by decide) rfl rfl ?_
    refine SF_aload 0 23 dX11_needed_21 rfl rfl ?_
    refine SF_iload_n 3 24 dX11_needed_23 rfl rfl rfl ?_
    refine SF_iload_n 4 25 dX11_needed_24 rfl rfl rfl ?_
    obtain ⟨k10, h⟩ := gdK_some h
    obtain ⟨v11, g12, q13, h⟩ := bd_some h
    have s14 := w_X4_find (X := X) (Nat.le_refl 2) v6 l2 l3 g7 g12 v11 k10 q13
    refine SF_callVi 28 mi_X4_find ml_X11_263 dX11_needed_25 (Nat.le_trans (by decide) hd) s14 k10.1 rfl rfl (Nat.le_of_ble_eq_true rfl) rfl ?_
    have k_l0 := k_l0.ext s14.1
    have k10 := k10.ext s14.1
    refine SF_istore [(5, .int v11), (4, .ref (ad X v6)), (0, .ref (ad X l0)), (1, .int l1), (2, .int l2), (3, .int l3)] 30 dX11_needed_28 (by decide) rfl rfl ?_
    refine SF_iload 0 32 dX11_needed_30 rfl rfl ?_
    refine SF_iconst (-1 : Int32) 33 dX11_needed_32 rfl rfl ?_
    refine SF_icne 38 36 dX11_needed_33 rfl rfl (fun c15 => ?_) (fun c15 => ?_)
    · have h := ite_f c15 h
      refine SF_aload_n 2 39 dX11_needed_38 rfl rfl rfl ?_
      obtain ⟨b16, r17, h⟩ := dr_some h
      refine SF_getR 42 fl_X11_78 dX11_needed_39 k_l0.1 r17 rfl ?_
      refine SF_iload_n 3 43 dX11_needed_42 rfl rfl rfl ?_
      obtain ⟨k18, h⟩ := gdK_some h
      obtain ⟨v19, g20, q21, h⟩ := bd_some h
      have s22 := w_X0_standOf (X := X) (Nat.le_refl 1) b16 l1 g12 g20 v19 k18 q21
      refine SF_callVi 46 mi_X0_standOf ml_X11_183 dX11_needed_43 (Nat.le_trans (by decide) hd) s22 k18.1 rfl rfl (Nat.le_of_ble_eq_true rfl) rfl ?_
      have k_l0 := k_l0.ext s22.1
      have k10 := k10.ext s22.1
      have k18 := k18.ext s22.1
      refine SF_istore [(6, .int v19), (5, .int v11), (4, .ref (ad X v6)), (0, .ref (ad X l0)), (1, .int l1), (2, .int l2), (3, .int l3)] 48 dX11_needed_46 (by decide) rfl rfl ?_
      refine SF_lconst (1 : Int64) 49 dX11_needed_48 rfl rfl ?_
      refine SF_iload 0 51 dX11_needed_49 rfl rfl ?_
      refine SF_bipush (64 : Int32) 53 dX11_needed_51 rfl rfl ?_
      refine SF_idiv 54 dX11_needed_53 (by decide) rfl ?_
      refine SF_lshl 55 dX11_needed_54 rfl ?_
      refine SF_lconst (1 : Int64) 56 dX11_needed_55 rfl rfl ?_
      refine SF_iload 0 58 dX11_needed_56 rfl rfl ?_
      refine SF_bipush (64 : Int32) 60 dX11_needed_58 rfl rfl ?_
      refine SF_irem 61 dX11_needed_60 (by decide) rfl ?_
      refine SF_lshl 62 dX11_needed_61 rfl ?_
      refine SF_lor 63 dX11_needed_62 rfl ?_
      obtain ⟨y23, e24, h⟩ := ll_some h
      refine SF_eqL e24 ?_
      refine SF_lstore [(7, .long y23), (6, .int v19), (5, .int v11), (4, .ref (ad X v6)), (0, .ref (ad X l0)), (1, .int l1), (2, .int l2), (3, .int l3)] 65 dX11_needed_63 (by decide) rfl rfl ?_
      refine SF_aload 3 67 dX11_needed_65 rfl rfl ?_
      refine SF_iload 2 69 dX11_needed_67 rfl rfl ?_
      obtain ⟨v25, g26, q27, h⟩ := bd_some h
      have s28 := w_X4_trailTo (X := X) (Nat.le_refl 1) v6 v11 g20 g26 v25 k10 q27
      refine SF_callVl 72 mi_X4_trailTo ml_X11_301 dX11_needed_69 (Nat.le_trans (by decide) hd) s28 k10.1 rfl rfl (Nat.le_of_ble_eq_true rfl) rfl ?_
      have k_l0 := k_l0.ext s28.1
      have k10 := k10.ext s28.1
      have k18 := k18.ext s28.1
      refine SF_lload 0 74 dX11_needed_72 rfl rfl ?_
      refine SF_ldc2 77 dX11_needed_74 kl_X11_304 rfl ?_
      refine SF_lxor 78 dX11_needed_77 rfl ?_
      refine SF_land 79 dX11_needed_78 rfl ?_
      obtain ⟨y29, e30, h⟩ := ll_some h
      refine SF_eqL e30 ?_
      refine SF_lstore [(9, .long y29), (7, .long y23), (6, .int v19), (5, .int v11), (4, .ref (ad X v6)), (0, .ref (ad X l0)), (1, .int l1), (2, .int l2), (3, .int l3)] 81 dX11_needed_79 (by decide) rfl rfl ?_
      refine SF_lconst (0 : Int64) 82 dX11_needed_81 rfl rfl ?_
      refine SF_lstore [(11, .long (0 : Int64)), (9, .long y29), (7, .long y23), (6, .int v19), (5, .int v11), (4, .ref (ad X v6)), (0, .ref (ad X l0)), (1, .int l1), (2, .int l2), (3, .int l3)] 84 dX11_needed_82 (by decide) rfl rfl ?_
      refine SF_aload_n 6 85 dX11_needed_84 rfl rfl rfl ?_
      obtain ⟨b31, r32, h⟩ := dr_some h
      refine SF_getR 88 fl_X11_95 dX11_needed_85 k_l0.1 r32 rfl ?_
      refine SF_aload_n 6 89 dX11_needed_88 rfl rfl rfl ?_
      obtain ⟨b33, r34, h⟩ := dr_some h
      refine SF_getR 92 fl_X11_78 dX11_needed_89 k_l0.1 r34 rfl ?_
      refine SF_iload_n 7 93 dX11_needed_92 rfl rfl rfl ?_
      obtain ⟨k35, h⟩ := gdK_some h
      obtain ⟨k36, h⟩ := gdK_some h
      obtain ⟨v37, g38, q39, h⟩ := bd_some h
      have s40 := w_X9_aim (X := X) (Nat.le_refl 3) b31 b33 l1 g26 g38 v37 k35 k36 q39
      refine SF_callVv 96 mi_X9_aim ml_X11_306 dX11_needed_93 (Nat.le_trans (by decide) hd) s40 k35.1 rfl rfl (Nat.le_of_ble_eq_true rfl) rfl ?_
      have k_l0 := k_l0.ext s40.1
      have k10 := k10.ext s40.1
      have k18 := k18.ext s40.1
      have k35 := k35.ext s40.1
      have k36 := k36.ext s40.1
      refine SF_aload_n 6 97 dX11_needed_96 rfl rfl rfl ?_
      obtain ⟨b41, r42, h⟩ := dr_some h
      refine SF_getR 100 fl_X11_95 dX11_needed_97 k_l0.1 r42 rfl ?_
      obtain ⟨k43, h⟩ := gdK_some h
      refine SF_getL 103 fl_X11_310 dX11_needed_100 k43.1 rfl ?_
      obtain ⟨y44, e45, h⟩ := ll_some h
      refine SF_eqL e45 ?_
      refine SF_lstore [(13, .long y44), (11, .long (0 : Int64)), (9, .long y29), (7, .long y23), (6, .int v19), (5, .int v11), (4, .ref (ad X v6)), (0, .ref (ad X l0)), (1, .int l1), (2, .int l2), (3, .int l3)] 105 dX11_needed_103 (by decide) rfl rfl ?_
      refine SF_iconst (0 : Int32) 106 dX11_needed_105 rfl rfl ?_
      refine SF_istore [(15, .int (0 : Int32)), (13, .long y44), (11, .long (0 : Int64)), (9, .long y29), (7, .long y23), (6, .int v19), (5, .int v11), (4, .ref (ad X v6)), (0, .ref (ad X l0)), (1, .int l1), (2, .int l2), (3, .int l3)] 108 dX11_needed_106 (by decide) rfl rfl ?_
      refine SF_sub [8, 10, 11, 5, 3, 2, 1, 0] rfl ?_
      exact w_X11_needed_108 hd FU l0 l2 l3 v19 y29 (0 : Int64) y44 (0 : Int32) g38 k_l0 h
    · have h := ite_t c15 h
      refine SF_lconst (0 : Int64) 37 dX11_needed_36 rfl rfl ?_
      exact RT_l rfl dX11_needed_37 h
  · have h := ite_t c5 h
    refine SF_ldc2 13 dX11_needed_10 kl_X11_286 rfl ?_
    exact RT_l rfl dX11_needed_13 h

theorem dX12_needed_0 : decode cX12_needed 0 = .ok (.aload_n 0, 1) := by decide +kernel
theorem dX12_needed_1 : decode cX12_needed 1 = .ok (.iconst 0, 1) := by decide +kernel
theorem dX12_needed_2 : decode cX12_needed 2 = .ok (.putfield 1, 3) := by decide +kernel
theorem dX12_needed_5 : decode cX12_needed 5 = .ok (.aload_n 0, 1) := by decide +kernel
theorem dX12_needed_6 : decode cX12_needed 6 = .ok (.iload_n 1, 1) := by decide +kernel
theorem dX12_needed_7 : decode cX12_needed 7 = .ok (.iload_n 2, 1) := by decide +kernel
theorem dX12_needed_8 : decode cX12_needed 8 = .ok (.iload_n 3, 1) := by decide +kernel
theorem dX12_needed_9 : decode cX12_needed 9 = .ok (.invokevirtual 373, 3) := by decide +kernel
theorem dX12_needed_12 : decode cX12_needed 12 = .ok (.ifCond .ne 7, 3) := by decide +kernel
theorem dX12_needed_15 : decode cX12_needed 15 = .ok (.ldc2_w 396, 3) := by decide +kernel
theorem dX12_needed_18 : decode cX12_needed 18 = .ok (.lreturn, 1) := by decide +kernel
theorem dX12_needed_19 : decode cX12_needed 19 = .ok (.lconst 0, 1) := by decide +kernel
theorem dX12_needed_20 : decode cX12_needed 20 = .ok (.lstore 4, 2) := by decide +kernel
theorem dX12_needed_22 : decode cX12_needed 22 = .ok (.aload_n 0, 1) := by decide +kernel
theorem dX12_needed_23 : decode cX12_needed 23 = .ok (.iload_n 1, 1) := by decide +kernel
theorem dX12_needed_24 : decode cX12_needed 24 = .ok (.iload_n 2, 1) := by decide +kernel
theorem dX12_needed_25 : decode cX12_needed 25 = .ok (.iload_n 3, 1) := by decide +kernel
theorem dX12_needed_26 : decode cX12_needed 26 = .ok (.iconst 0, 1) := by decide +kernel
theorem dX12_needed_27 : decode cX12_needed 27 = .ok (.invokevirtual 389, 3) := by decide +kernel
theorem dX12_needed_30 : decode cX12_needed 30 = .ok (.iconst (-1), 1) := by decide +kernel
theorem dX12_needed_31 : decode cX12_needed 31 = .ok (.if_icmp .ne 6, 3) := by decide +kernel
theorem dX12_needed_34 : decode cX12_needed 34 = .ok (.lload 4, 2) := by decide +kernel
theorem dX12_needed_36 : decode cX12_needed 36 = .ok (.lreturn, 1) := by decide +kernel
theorem dX12_needed_37 : decode cX12_needed 37 = .ok (.iconst 0, 1) := by decide +kernel
theorem dX12_needed_38 : decode cX12_needed 38 = .ok (.istore 6, 2) := by decide +kernel
theorem dX12_needed_40 : decode cX12_needed 40 = .ok (.iload 6, 2) := by decide +kernel
theorem dX12_needed_42 : decode cX12_needed 42 = .ok (.aload_n 0, 1) := by decide +kernel
theorem dX12_needed_43 : decode cX12_needed 43 = .ok (.invokevirtual 214, 3) := by decide +kernel
theorem dX12_needed_46 : decode cX12_needed 46 = .ok (.if_icmp .ge 91, 3) := by decide +kernel
theorem dX12_needed_49 : decode cX12_needed 49 = .ok (.aload_n 0, 1) := by decide +kernel
theorem dX12_needed_50 : decode cX12_needed 50 = .ok (.iload_n 1, 1) := by decide +kernel
theorem dX12_needed_51 : decode cX12_needed 51 = .ok (.iload 6, 2) := by decide +kernel
theorem dX12_needed_53 : decode cX12_needed 53 = .ok (.invokevirtual 244, 3) := by decide +kernel
theorem dX12_needed_56 : decode cX12_needed 56 = .ok (.ifCond .eq 75, 3) := by decide +kernel
theorem dX12_needed_59 : decode cX12_needed 59 = .ok (.aload_n 0, 1) := by decide +kernel
theorem dX12_needed_60 : decode cX12_needed 60 = .ok (.iload_n 1, 1) := by decide +kernel
theorem dX12_needed_61 : decode cX12_needed 61 = .ok (.iconst 0, 1) := by decide +kernel
theorem dX12_needed_62 : decode cX12_needed 62 = .ok (.invokevirtual 205, 3) := by decide +kernel
theorem dX12_needed_65 : decode cX12_needed 65 = .ok (.iload 6, 2) := by decide +kernel
theorem dX12_needed_67 : decode cX12_needed 67 = .ok (.if_icmp .eq 64, 3) := by decide +kernel
theorem dX12_needed_70 : decode cX12_needed 70 = .ok (.aload_n 0, 1) := by decide +kernel
theorem dX12_needed_71 : decode cX12_needed 71 = .ok (.iload_n 1, 1) := by decide +kernel
theorem dX12_needed_72 : decode cX12_needed 72 = .ok (.iconst 1, 1) := by decide +kernel
theorem dX12_needed_73 : decode cX12_needed 73 = .ok (.invokevirtual 205, 3) := by decide +kernel
theorem dX12_needed_76 : decode cX12_needed 76 = .ok (.iload 6, 2) := by decide +kernel
theorem dX12_needed_78 : decode cX12_needed 78 = .ok (.if_icmp .ne 6, 3) := by decide +kernel
theorem dX12_needed_81 : decode cX12_needed 81 = .ok (.goto 50, 3) := by decide +kernel
theorem dX12_needed_84 : decode cX12_needed 84 = .ok (.aload_n 0, 1) := by decide +kernel
theorem dX12_needed_85 : decode cX12_needed 85 = .ok (.getfield 13, 3) := by decide +kernel
theorem dX12_needed_88 : decode cX12_needed 88 = .ok (.bipush 52, 2) := by decide +kernel
theorem dX12_needed_90 : decode cX12_needed 90 = .ok (.iload 6, 2) := by decide +kernel
theorem dX12_needed_92 : decode cX12_needed 92 = .ok (.iadd, 1) := by decide +kernel
theorem dX12_needed_93 : decode cX12_needed 93 = .ok (.iconst 1, 1) := by decide +kernel
theorem dX12_needed_94 : decode cX12_needed 94 = .ok (.iastore, 1) := by decide +kernel
theorem dX12_needed_95 : decode cX12_needed 95 = .ok (.lload 4, 2) := by decide +kernel
theorem dX12_needed_97 : decode cX12_needed 97 = .ok (.aload_n 0, 1) := by decide +kernel
theorem dX12_needed_98 : decode cX12_needed 98 = .ok (.iload_n 1, 1) := by decide +kernel
theorem dX12_needed_99 : decode cX12_needed 99 = .ok (.iload_n 2, 1) := by decide +kernel
theorem dX12_needed_100 : decode cX12_needed 100 = .ok (.iload_n 3, 1) := by decide +kernel
theorem dX12_needed_101 : decode cX12_needed 101 = .ok (.iconst 0, 1) := by decide +kernel
theorem dX12_needed_102 : decode cX12_needed 102 = .ok (.invokevirtual 389, 3) := by decide +kernel
theorem dX12_needed_105 : decode cX12_needed 105 = .ok (.iconst (-1), 1) := by decide +kernel
theorem dX12_needed_106 : decode cX12_needed 106 = .ok (.if_icmp .ne 10, 3) := by decide +kernel
theorem dX12_needed_109 : decode cX12_needed 109 = .ok (.lconst 1, 1) := by decide +kernel
theorem dX12_needed_110 : decode cX12_needed 110 = .ok (.iload 6, 2) := by decide +kernel
theorem dX12_needed_112 : decode cX12_needed 112 = .ok (.lshl, 1) := by decide +kernel
theorem dX12_needed_113 : decode cX12_needed 113 = .ok (.goto 4, 3) := by decide +kernel
theorem dX12_needed_116 : decode cX12_needed 116 = .ok (.lconst 0, 1) := by decide +kernel
theorem dX12_needed_117 : decode cX12_needed 117 = .ok (.lor, 1) := by decide +kernel
theorem dX12_needed_118 : decode cX12_needed 118 = .ok (.lstore 4, 2) := by decide +kernel
theorem dX12_needed_120 : decode cX12_needed 120 = .ok (.aload_n 0, 1) := by decide +kernel
theorem dX12_needed_121 : decode cX12_needed 121 = .ok (.getfield 13, 3) := by decide +kernel
theorem dX12_needed_124 : decode cX12_needed 124 = .ok (.bipush 52, 2) := by decide +kernel
theorem dX12_needed_126 : decode cX12_needed 126 = .ok (.iload 6, 2) := by decide +kernel
theorem dX12_needed_128 : decode cX12_needed 128 = .ok (.iadd, 1) := by decide +kernel
theorem dX12_needed_129 : decode cX12_needed 129 = .ok (.iconst 0, 1) := by decide +kernel
theorem dX12_needed_130 : decode cX12_needed 130 = .ok (.iastore, 1) := by decide +kernel
theorem dX12_needed_131 : decode cX12_needed 131 = .ok (.iinc 6 1, 3) := by decide +kernel
theorem dX12_needed_134 : decode cX12_needed 134 = .ok (.goto (-94), 3) := by decide +kernel
theorem dX12_needed_137 : decode cX12_needed 137 = .ok (.lload 4, 2) := by decide +kernel
theorem dX12_needed_139 : decode cX12_needed 139 = .ok (.lreturn, 1) := by decide +kernel
set_option maxRecDepth 20000 in
set_option maxHeartbeats 2000000 in
theorem w_X12_needed_131 {X : CX} {d : Nat} (hd : 8 ≤ d) {g' : G} {rx : Int64} (k40 : Nat → Int32 → Int32 → Int32 → Int64 → Int32 → G → Option (Int64 × G)) (hk40 : ∀ (l0 : Nat) (l1 : Int32) (l2 : Int32) (l3 : Int32) (l4 : Int64) (l6 : Int32) (g : G), KD g l0 12 → k40 l0 l1 l2 l3 l4 l6 g = some (rx, g') → SemF X m_X12_needed d 40 [(0, .ref (ad X l0)), (1, .int l1), (2, .int l2), (3, .int l3), (4, .long l4), (6, .int l6)] [] g (some (.long rx)) g') (l0 : Nat) (l1 : Int32) (l2 : Int32) (l3 : Int32) (l4 : Int64) (l6 : Int32) (g : G) (k_l0 : KD g l0 12) (h : f_X12_needed_131 k40 l0 l1 l2 l3 l4 l6 g = some (rx, g')) : SemF X m_X12_needed d 131 [(0, .ref (ad X l0)), (1, .int l1), (2, .int l2), (3, .int l3), (4, .long l4), (6, .int l6)] [] g (some (.long rx)) g' := by
  rw [f_X12_needed_131] at h
  refine SF_iinc 5 (l6 + (1 : Int32)) [(6, .int (l6 + (1 : Int32))), (0, .ref (ad X l0)), (1, .int l1), (2, .int l2), (3, .int l3), (4, .long l4)] 134 dX12_needed_131 rfl rfl (by decide) rfl rfl ?_
  refine SF_goto 40 dX12_needed_134 rfl ?_
  refine SF_sub [1, 2, 3, 4, 5, 0] rfl ?_
  exact hk40 l0 l1 l2 l3 l4 (l6 + (1 : Int32)) g k_l0 h

set_option maxRecDepth 20000 in
set_option maxHeartbeats 2000000 in
theorem w_X12_needed_117 {X : CX} {d : Nat} (hd : 8 ≤ d) {g' : G} {rx : Int64} (k40 : Nat → Int32 → Int32 → Int32 → Int64 → Int32 → G → Option (Int64 × G)) (hk40 : ∀ (l0 : Nat) (l1 : Int32) (l2 : Int32) (l3 : Int32) (l4 : Int64) (l6 : Int32) (g : G), KD g l0 12 → k40 l0 l1 l2 l3 l4 l6 g = some (rx, g') → SemF X m_X12_needed d 40 [(0, .ref (ad X l0)), (1, .int l1), (2, .int l2), (3, .int l3), (4, .long l4), (6, .int l6)] [] g (some (.long rx)) g') (l0 : Nat) (l1 : Int32) (l2 : Int32) (l3 : Int32) (l6 : Int32) (s0 : Int64) (s1 : Int64) (g : G) (k_l0 : KD g l0 12) (h : f_X12_needed_117 k40 l0 l1 l2 l3 l6 s0 s1 g = some (rx, g')) : SemF X m_X12_needed d 117 [(0, .ref (ad X l0)), (1, .int l1), (2, .int l2), (3, .int l3), (6, .int l6)] [.long s0, .long s1] g (some (.long rx)) g' := by
  rw [f_X12_needed_117] at h
  refine SF_lor 118 dX12_needed_117 rfl ?_
  obtain ⟨y1, e2, h⟩ := ll_some h
  refine SF_eqL e2 ?_
  refine SF_lstore [(4, .long y1), (0, .ref (ad X l0)), (1, .int l1), (2, .int l2), (3, .int l3), (6, .int l6)] 120 dX12_needed_118 (by decide) rfl rfl ?_
  refine SF_aload_n 1 121 dX12_needed_120 rfl rfl rfl ?_
  obtain ⟨b3, r4, h⟩ := dr_some h
  refine SF_getR 124 fl_X12_13 dX12_needed_121 k_l0.1 r4 rfl ?_
  refine SF_bipush (52 : Int32) 126 dX12_needed_124 rfl rfl ?_
  refine SF_iload 5 128 dX12_needed_126 rfl rfl ?_
  refine SF_iadd 129 dX12_needed_128 rfl ?_
  refine SF_iconst (0 : Int32) 130 dX12_needed_129 rfl rfl ?_
  obtain ⟨k5, h⟩ := gdK_some h
  obtain ⟨i6, h⟩ := gdI_some h
  refine SF_iast 131 dX12_needed_130 k5.1 i6 rfl ?_
  obtain ⟨g7, e8, h⟩ := lg_some h
  rw [← e8]
  have k_l0 := KD.eq e8 k_l0
  have k5 := KD.eq e8 k5
  have r4 := gR_eq e8 r4
  have i6 := vp_eq e8 i6
  refine SF_sub [1, 2, 3, 4, 0, 5] rfl ?_
  exact w_X12_needed_131 hd k40 hk40 l0 l1 l2 l3 y1 l6 g7 k_l0 h

set_option maxRecDepth 20000 in
set_option maxHeartbeats 2000000 in
theorem w_X12_needed_40 {X : CX} {d : Nat} (hd : 8 ≤ d) {g' : G} {rx : Int64} : ∀ (n : Nat) (l0 : Nat) (l1 : Int32) (l2 : Int32) (l3 : Int32) (l4 : Int64) (l6 : Int32) (g : G), KD g l0 12 → f_X12_needed_40 n l0 l1 l2 l3 l4 l6 g = some (rx, g') → SemF X m_X12_needed d 40 [(0, .ref (ad X l0)), (1, .int l1), (2, .int l2), (3, .int l3), (4, .long l4), (6, .int l6)] [] g (some (.long rx)) g' := by
  intro n
  induction n with
  | zero =>
    intro l0 l1 l2 l3 l4 l6 g k_l0 h
    rw [f_X12_needed_40] at h
    cases h
  | succ n ih =>
  intro l0 l1 l2 l3 l4 l6 g k_l0 h
  rw [f_X12_needed_40] at h
  refine SF_iload 5 42 dX12_needed_40 rfl rfl ?_
  refine SF_aload_n 0 43 dX12_needed_42 rfl rfl rfl ?_
  obtain ⟨v1, g2, q3, h⟩ := bd_some h
  have s4 := w_X12_cells (X := X) (Nat.le_refl 0) l0 g g2 v1 k_l0 q3
  refine SF_callVi 46 mi_X12_cells ml_X12_214 dX12_needed_43 (Nat.le_trans (by decide) hd) s4 k_l0.1 rfl rfl (Nat.le_of_ble_eq_true rfl) rfl ?_
  have k_l0 := k_l0.ext s4.1
  refine SF_icge 137 49 dX12_needed_46 rfl rfl (fun c5 => ?_) (fun c5 => ?_)
  · have h := ite_t c5 h
    refine SF_lload 4 139 dX12_needed_137 rfl rfl ?_
    exact RT_l rfl dX12_needed_139 h
  · have h := ite_f c5 h
    refine SF_aload_n 0 50 dX12_needed_49 rfl rfl rfl ?_
    refine SF_iload_n 1 51 dX12_needed_50 rfl rfl rfl ?_
    refine SF_iload 5 53 dX12_needed_51 rfl rfl ?_
    obtain ⟨v6, g7, q8, h⟩ := bd_some h
    have s9 := w_X12_isFree (X := X) (Nat.le_refl 1) l0 l1 l6 g2 g7 v6 k_l0 q8
    refine SF_callVb 56 mi_X12_isFree ml_X12_244 dX12_needed_53 (Nat.le_trans (by decide) hd) s9 k_l0.1 rfl rfl (Nat.le_of_ble_eq_true rfl) rfl ?_
    have k_l0 := k_l0.ext s9.1
    refine SF_ifeq 131 59 dX12_needed_56 rfl rfl (fun c10 => ?_) (fun c10 => ?_)
    · have h := ite_t c10 h
      exact w_X12_needed_131 hd (f_X12_needed_40 n) ih l0 l1 l2 l3 l4 l6 g7 k_l0 h
    · have h := ite_f c10 h
      refine SF_aload_n 0 60 dX12_needed_59 rfl rfl rfl ?_
      refine SF_iload_n 1 61 dX12_needed_60 rfl rfl rfl ?_
      refine SF_iconst (0 : Int32) 62 dX12_needed_61 rfl rfl ?_
      obtain ⟨v11, g12, q13, h⟩ := bd_some h
      have s14 := w_X12_twinOf (X := X) (Nat.le_refl 0) l0 l1 (0 : Int32) g7 g12 v11 k_l0 q13
      refine SF_callVi 65 mi_X12_twinOf ml_X12_205 dX12_needed_62 (Nat.le_trans (by decide) hd) s14 k_l0.1 rfl rfl (Nat.le_of_ble_eq_true rfl) rfl ?_
      have k_l0 := k_l0.ext s14.1
      refine SF_iload 5 67 dX12_needed_65 rfl rfl ?_
      refine SF_iceq 131 70 dX12_needed_67 rfl rfl (fun c15 => ?_) (fun c15 => ?_)
      · have h := ite_t c15 h
        exact w_X12_needed_131 hd (f_X12_needed_40 n) ih l0 l1 l2 l3 l4 l6 g12 k_l0 h
      · have h := ite_f c15 h
        refine SF_aload_n 0 71 dX12_needed_70 rfl rfl rfl ?_
        refine SF_iload_n 1 72 dX12_needed_71 rfl rfl rfl ?_
        refine SF_iconst (1 : Int32) 73 dX12_needed_72 rfl rfl ?_
        obtain ⟨v16, g17, q18, h⟩ := bd_some h
        have s19 := w_X12_twinOf (X := X) (Nat.le_refl 0) l0 l1 (1 : Int32) g12 g17 v16 k_l0 q18
        refine SF_callVi 76 mi_X12_twinOf ml_X12_205 dX12_needed_73 (Nat.le_trans (by decide) hd) s19 k_l0.1 rfl rfl (Nat.le_of_ble_eq_true rfl) rfl ?_
        have k_l0 := k_l0.ext s19.1
        refine SF_iload 5 78 dX12_needed_76 rfl rfl ?_
        refine SF_icne 84 81 dX12_needed_78 rfl rfl (fun c20 => ?_) (fun c20 => ?_)
        · have h := ite_f c20 h
          refine SF_aload_n 0 85 dX12_needed_84 rfl rfl rfl ?_
          obtain ⟨b21, r22, h⟩ := dr_some h
          refine SF_getR 88 fl_X12_13 dX12_needed_85 k_l0.1 r22 rfl ?_
          refine SF_bipush (52 : Int32) 90 dX12_needed_88 rfl rfl ?_
          refine SF_iload 5 92 dX12_needed_90 rfl rfl ?_
          refine SF_iadd 93 dX12_needed_92 rfl ?_
          refine SF_iconst (1 : Int32) 94 dX12_needed_93 rfl rfl ?_
          obtain ⟨k23, h⟩ := gdK_some h
          obtain ⟨i24, h⟩ := gdI_some h
          refine SF_iast 95 dX12_needed_94 k23.1 i24 rfl ?_
          obtain ⟨g25, e26, h⟩ := lg_some h
          rw [← e26]
          have k_l0 := KD.eq e26 k_l0
          have k23 := KD.eq e26 k23
          have r22 := gR_eq e26 r22
          have i24 := vp_eq e26 i24
          refine SF_lload 4 97 dX12_needed_95 rfl rfl ?_
          refine SF_aload_n 0 98 dX12_needed_97 rfl rfl rfl ?_
          refine SF_iload_n 1 99 dX12_needed_98 rfl rfl rfl ?_
          refine SF_iload_n 2 100 dX12_needed_99 rfl rfl rfl ?_
          refine SF_iload_n 3 101 dX12_needed_100 rfl rfl rfl ?_
          refine SF_iconst (0 : Int32) 102 dX12_needed_101 rfl rfl ?_
          obtain ⟨v27, g28, q29, h⟩ := bd_some h
          have s30 := w_X12_comes (X := X) (Nat.le_refl 7) l0 l1 l2 l3 (0 : Int32) g25 g28 v27 k_l0 q29
          refine SF_callVi 105 mi_X12_comes ml_X12_389 dX12_needed_102 (Nat.le_trans (by decide) hd) s30 k_l0.1 rfl rfl (Nat.le_of_ble_eq_true rfl) rfl ?_
          have k_l0 := k_l0.ext s30.1
          have k23 := k23.ext s30.1
          refine SF_iconst (-1 : Int32) 106 dX12_needed_105 rfl rfl ?_
          refine SF_icne 116 109 dX12_needed_106 rfl rfl (fun c31 => ?_) (fun c31 => ?_)
          · have h := ite_f c31 h
            refine SF_lconst (0 : Int64) 117 dX12_needed_116 rfl rfl ?_
            refine SF_sub [0, 1, 2, 3, 5] rfl ?_
            exact w_X12_needed_117 hd (f_X12_needed_40 n) ih l0 l1 l2 l3 l6 (0 : Int64) l4 g28 k_l0 h
          · have h := ite_t c31 h
            refine SF_lconst (1 : Int64) 110 dX12_needed_109 rfl rfl ?_
            refine SF_iload 5 112 dX12_needed_110 rfl rfl ?_
            refine SF_lshl 113 dX12_needed_112 rfl ?_
            refine SF_goto 117 dX12_needed_113 rfl ?_
            refine SF_sub [0, 1, 2, 3, 5] rfl ?_
            exact w_X12_needed_117 hd (f_X12_needed_40 n) ih l0 l1 l2 l3 l6 ((1 : Int64) <<< (l6.toInt64 &&& 63)) l4 g28 k_l0 h
        · have h := ite_t c20 h
          refine SF_goto 131 dX12_needed_81 rfl ?_
          exact w_X12_needed_131 hd (f_X12_needed_40 n) ih l0 l1 l2 l3 l4 l6 g17 k_l0 h

set_option maxRecDepth 20000 in
set_option maxHeartbeats 2000000 in
theorem w_X12_needed {X : CX} {d : Nat} (hd : 8 ≤ d) (l0 : Nat) (l1 : Int32) (l2 : Int32) (l3 : Int32) (g g' : G) (rx : Int64) (k_l0 : KD g l0 12) (h : f_X12_needed l0 l1 l2 l3 g = some (rx, g')) : Sem X m_X12_needed d [.ref (ad X l0), .int l1, .int l2, .int l3] g (some (.long rx)) g' := by
  refine Sem_of (lo := [(0, .ref (ad X l0)), (1, .int l1), (2, .int l2), (3, .int l3)]) (by decide +kernel) rfl (Nat.le_of_ble_eq_true rfl) ?_
  rw [f_X12_needed] at h
  refine SF_aload_n 0 1 dX12_needed_0 rfl rfl rfl ?_
  refine SF_iconst (0 : Int32) 2 dX12_needed_1 rfl rfl ?_
  refine SF_putI 5 fl_X12_1 dX12_needed_2 k_l0.1 (fn_int _) (Or.inl rfl) rfl ?_
  obtain ⟨g1, e2, h⟩ := lg_some h
  rw [← e2]
  have k_l0 := KD.eq e2 k_l0
  refine SF_aload_n 0 6 dX12_needed_5 rfl rfl rfl ?_
  refine SF_iload_n 1 7 dX12_needed_6 rfl rfl rfl ?_
  refine SF_iload_n 2 8 dX12_needed_7 rfl rfl rfl ?_
  refine SF_iload_n 3 9 dX12_needed_8 rfl rfl rfl ?_
  obtain ⟨v3, g4, q5, h⟩ := bd_some h
  have s6 := w_X12_isGoalTold (X := X) (Nat.le_refl 2) l0 l1 l2 l3 g1 g4 v3 k_l0 q5
  refine SF_callVb 12 mi_X12_isGoalTold ml_X12_373 dX12_needed_9 (Nat.le_trans (by decide) hd) s6 k_l0.1 rfl rfl (Nat.le_of_ble_eq_true rfl) rfl ?_
  have k_l0 := k_l0.ext s6.1
  refine SF_ifne 19 15 dX12_needed_12 rfl rfl (fun c7 => ?_) (fun c7 => ?_)
  · have h := ite_f c7 h
    refine SF_lconst (0 : Int64) 20 dX12_needed_19 rfl rfl ?_
    refine SF_lstore [(4, .long (0 : Int64)), (0, .ref (ad X l0)), (1, .int l1), (2, .int l2), (3, .int l3)] 22 dX12_needed_20 (by decide) rfl rfl ?_
    refine SF_aload_n 1 23 dX12_needed_22 rfl rfl rfl ?_
    refine SF_iload_n 2 24 dX12_needed_23 rfl rfl rfl ?_
    refine SF_iload_n 3 25 dX12_needed_24 rfl rfl rfl ?_
    refine SF_iload_n 4 26 dX12_needed_25 rfl rfl rfl ?_
    refine SF_iconst (0 : Int32) 27 dX12_needed_26 rfl rfl ?_
    obtain ⟨v8, g9, q10, h⟩ := bd_some h
    have s11 := w_X12_comes (X := X) (Nat.le_refl 7) l0 l1 l2 l3 (0 : Int32) g4 g9 v8 k_l0 q10
    refine SF_callVi 30 mi_X12_comes ml_X12_389 dX12_needed_27 (Nat.le_trans (by decide) hd) s11 k_l0.1 rfl rfl (Nat.le_of_ble_eq_true rfl) rfl ?_
    have k_l0 := k_l0.ext s11.1
    refine SF_iconst (-1 : Int32) 31 dX12_needed_30 rfl rfl ?_
    refine SF_icne 37 34 dX12_needed_31 rfl rfl (fun c12 => ?_) (fun c12 => ?_)
    · have h := ite_f c12 h
      refine SF_iconst (0 : Int32) 38 dX12_needed_37 rfl rfl ?_
      refine SF_istore [(6, .int (0 : Int32)), (4, .long (0 : Int64)), (0, .ref (ad X l0)), (1, .int l1), (2, .int l2), (3, .int l3)] 40 dX12_needed_38 (by decide) rfl rfl ?_
      refine SF_sub [2, 3, 4, 5, 1, 0] rfl ?_
      exact w_X12_needed_40 hd FU l0 l1 l2 l3 (0 : Int64) (0 : Int32) g9 k_l0 h
    · have h := ite_t c12 h
      refine SF_lload 0 36 dX12_needed_34 rfl rfl ?_
      exact RT_l rfl dX12_needed_36 h
  · have h := ite_t c7 h
    refine SF_ldc2 18 dX12_needed_15 kl_X12_396 rfl ?_
    exact RT_l rfl dX12_needed_18 h

theorem dX4_cellOf_0 : decode cX4_cellOf 0 = .ok (.aload_n 0, 1) := by decide +kernel
theorem dX4_cellOf_1 : decode cX4_cellOf 1 = .ok (.iload_n 1, 1) := by decide +kernel
theorem dX4_cellOf_2 : decode cX4_cellOf 2 = .ok (.invokevirtual 54, 3) := by decide +kernel
theorem dX4_cellOf_5 : decode cX4_cellOf 5 = .ok (.ifCond .ne 5, 3) := by decide +kernel
theorem dX4_cellOf_8 : decode cX4_cellOf 8 = .ok (.iconst (-1), 1) := by decide +kernel
theorem dX4_cellOf_9 : decode cX4_cellOf 9 = .ok (.ireturn, 1) := by decide +kernel
theorem dX4_cellOf_10 : decode cX4_cellOf 10 = .ok (.iload_n 2, 1) := by decide +kernel
theorem dX4_cellOf_11 : decode cX4_cellOf 11 = .ok (.ifCond .ne 15, 3) := by decide +kernel
theorem dX4_cellOf_14 : decode cX4_cellOf 14 = .ok (.aload_n 0, 1) := by decide +kernel
theorem dX4_cellOf_15 : decode cX4_cellOf 15 = .ok (.getfield 9, 3) := by decide +kernel
theorem dX4_cellOf_18 : decode cX4_cellOf 18 = .ok (.iload_n 1, 1) := by decide +kernel
theorem dX4_cellOf_19 : decode cX4_cellOf 19 = .ok (.iaload, 1) := by decide +kernel
theorem dX4_cellOf_20 : decode cX4_cellOf 20 = .ok (.bipush 64, 2) := by decide +kernel
theorem dX4_cellOf_22 : decode cX4_cellOf 22 = .ok (.idiv, 1) := by decide +kernel
theorem dX4_cellOf_23 : decode cX4_cellOf 23 = .ok (.goto 12, 3) := by decide +kernel
theorem dX4_cellOf_26 : decode cX4_cellOf 26 = .ok (.aload_n 0, 1) := by decide +kernel
theorem dX4_cellOf_27 : decode cX4_cellOf 27 = .ok (.getfield 9, 3) := by decide +kernel
theorem dX4_cellOf_30 : decode cX4_cellOf 30 = .ok (.iload_n 1, 1) := by decide +kernel
theorem dX4_cellOf_31 : decode cX4_cellOf 31 = .ok (.iaload, 1) := by decide +kernel
theorem dX4_cellOf_32 : decode cX4_cellOf 32 = .ok (.bipush 64, 2) := by decide +kernel
theorem dX4_cellOf_34 : decode cX4_cellOf 34 = .ok (.irem, 1) := by decide +kernel
theorem dX4_cellOf_35 : decode cX4_cellOf 35 = .ok (.ireturn, 1) := by decide +kernel
set_option maxRecDepth 20000 in
set_option maxHeartbeats 2000000 in
theorem w_X4_cellOf {X : CX} {d : Nat} (hd : 1 ≤ d) (l0 : Nat) (l1 : Int32) (l2 : Int32) (g g' : G) (rx : Int32) (k_l0 : KD g l0 4) (h : f_X4_cellOf l0 l1 l2 g = some (rx, g')) : Sem X m_X4_cellOf d [.ref (ad X l0), .int l1, .int l2] g (some (.int rx)) g' := by
  refine Sem_of (lo := [(0, .ref (ad X l0)), (1, .int l1), (2, .int l2)]) (by decide +kernel) rfl (Nat.le_of_ble_eq_true rfl) ?_
  rw [f_X4_cellOf] at h
  refine SF_aload_n 0 1 dX4_cellOf_0 rfl rfl rfl ?_
  refine SF_iload_n 1 2 dX4_cellOf_1 rfl rfl rfl ?_
  obtain ⟨v1, g2, q3, h⟩ := bd_some h
  have s4 := w_X4_has (X := X) (Nat.le_refl 0) l0 l1 g g2 v1 k_l0 q3
  refine SF_callVb 5 mi_X4_has ml_X4_54 dX4_cellOf_2 (Nat.le_trans (by decide) hd) s4 k_l0.1 rfl rfl (Nat.le_of_ble_eq_true rfl) rfl ?_
  have k_l0 := k_l0.ext s4.1
  refine SF_ifne 10 8 dX4_cellOf_5 rfl rfl (fun c5 => ?_) (fun c5 => ?_)
  · have h := ite_f c5 h
    refine SF_iload_n 2 11 dX4_cellOf_10 rfl rfl rfl ?_
    refine SF_ifne 26 14 dX4_cellOf_11 rfl rfl (fun c6 => ?_) (fun c6 => ?_)
    · have h := ite_f c6 h
      refine SF_aload_n 0 27 dX4_cellOf_26 rfl rfl rfl ?_
      obtain ⟨b7, r8, h⟩ := dr_some h
      refine SF_getR 30 fl_X4_9 dX4_cellOf_27 k_l0.1 r8 rfl ?_
      refine SF_iload_n 1 31 dX4_cellOf_30 rfl rfl rfl ?_
      obtain ⟨k9, h⟩ := gdK_some h
      obtain ⟨i10, h⟩ := gdI_some h
      refine SF_iald 32 dX4_cellOf_31 k9.1 i10 rfl ?_
      refine SF_bipush (64 : Int32) 34 dX4_cellOf_32 rfl rfl ?_
      refine SF_irem 35 dX4_cellOf_34 (by decide) rfl ?_
      exact RT_i rfl dX4_cellOf_35 h
    · have h := ite_t c6 h
      refine SF_aload_n 0 15 dX4_cellOf_14 rfl rfl rfl ?_
      obtain ⟨b11, r12, h⟩ := dr_some h
      refine SF_getR 18 fl_X4_9 dX4_cellOf_15 k_l0.1 r12 rfl ?_
      refine SF_iload_n 1 19 dX4_cellOf_18 rfl rfl rfl ?_
      obtain ⟨k13, h⟩ := gdK_some h
      obtain ⟨i14, h⟩ := gdI_some h
      refine SF_iald 20 dX4_cellOf_19 k13.1 i14 rfl ?_
      refine SF_bipush (64 : Int32) 22 dX4_cellOf_20 rfl rfl ?_
      refine SF_idiv 23 dX4_cellOf_22 (by decide) rfl ?_
      refine SF_goto 35 dX4_cellOf_23 rfl ?_
      exact RT_i rfl dX4_cellOf_35 h
  · have h := ite_t c5 h
    refine SF_iconst (-1 : Int32) 9 dX4_cellOf_8 rfl rfl ?_
    exact RT_i rfl dX4_cellOf_9 h

theorem dX2_explore_0 : decode cX2_explore 0 = .ok (.aload_n 0, 1) := by decide +kernel
theorem dX2_explore_1 : decode cX2_explore 1 = .ok (.getfield 21, 3) := by decide +kernel
theorem dX2_explore_4 : decode cX2_explore 4 = .ok (.iconst (-1), 1) := by decide +kernel
theorem dX2_explore_5 : decode cX2_explore 5 = .ok (.invokestatic 24, 3) := by decide +kernel
theorem dX2_explore_8 : decode cX2_explore 8 = .ok (.aload_n 0, 1) := by decide +kernel
theorem dX2_explore_9 : decode cX2_explore 9 = .ok (.iconst (-1), 1) := by decide +kernel
theorem dX2_explore_10 : decode cX2_explore 10 = .ok (.putfield 30, 3) := by decide +kernel
theorem dX2_explore_13 : decode cX2_explore 13 = .ok (.aload_n 2, 1) := by decide +kernel
theorem dX2_explore_14 : decode cX2_explore 14 = .ok (.iload_n 3, 1) := by decide +kernel
theorem dX2_explore_15 : decode cX2_explore 15 = .ok (.invokevirtual 34, 3) := by decide +kernel
theorem dX2_explore_18 : decode cX2_explore 18 = .ok (.ifCond .ne 4, 3) := by decide +kernel
theorem dX2_explore_21 : decode cX2_explore 21 = .ok (.return_, 1) := by decide +kernel
theorem dX2_explore_22 : decode cX2_explore 22 = .ok (.aload_n 2, 1) := by decide +kernel
theorem dX2_explore_23 : decode cX2_explore 23 = .ok (.getfield 40, 3) := by decide +kernel
theorem dX2_explore_26 : decode cX2_explore 26 = .ok (.getfield 44, 3) := by decide +kernel
theorem dX2_explore_29 : decode cX2_explore 29 = .ok (.iconst 2, 1) := by decide +kernel
theorem dX2_explore_30 : decode cX2_explore 30 = .ok (.iload_n 3, 1) := by decide +kernel
theorem dX2_explore_31 : decode cX2_explore 31 = .ok (.imul, 1) := by decide +kernel
theorem dX2_explore_32 : decode cX2_explore 32 = .ok (.iaload, 1) := by decide +kernel
theorem dX2_explore_33 : decode cX2_explore 33 = .ok (.istore 4, 2) := by decide +kernel
theorem dX2_explore_35 : decode cX2_explore 35 = .ok (.aload_n 2, 1) := by decide +kernel
theorem dX2_explore_36 : decode cX2_explore 36 = .ok (.getfield 40, 3) := by decide +kernel
theorem dX2_explore_39 : decode cX2_explore 39 = .ok (.getfield 44, 3) := by decide +kernel
theorem dX2_explore_42 : decode cX2_explore 42 = .ok (.iconst 2, 1) := by decide +kernel
theorem dX2_explore_43 : decode cX2_explore 43 = .ok (.iload_n 3, 1) := by decide +kernel
theorem dX2_explore_44 : decode cX2_explore 44 = .ok (.imul, 1) := by decide +kernel
theorem dX2_explore_45 : decode cX2_explore 45 = .ok (.iconst 1, 1) := by decide +kernel
theorem dX2_explore_46 : decode cX2_explore 46 = .ok (.iadd, 1) := by decide +kernel
theorem dX2_explore_47 : decode cX2_explore 47 = .ok (.iaload, 1) := by decide +kernel
theorem dX2_explore_48 : decode cX2_explore 48 = .ok (.istore 5, 2) := by decide +kernel
theorem dX2_explore_50 : decode cX2_explore 50 = .ok (.iload 4, 2) := by decide +kernel
theorem dX2_explore_52 : decode cX2_explore 52 = .ok (.iconst (-1), 1) := by decide +kernel
theorem dX2_explore_53 : decode cX2_explore 53 = .ok (.if_icmp .ne 7, 3) := by decide +kernel
theorem dX2_explore_56 : decode cX2_explore 56 = .ok (.iconst 1, 1) := by decide +kernel
theorem dX2_explore_57 : decode cX2_explore 57 = .ok (.goto 4, 3) := by decide +kernel
theorem dX2_explore_60 : decode cX2_explore 60 = .ok (.iconst 0, 1) := by decide +kernel
theorem dX2_explore_61 : decode cX2_explore 61 = .ok (.iload 5, 2) := by decide +kernel
theorem dX2_explore_63 : decode cX2_explore 63 = .ok (.iconst (-1), 1) := by decide +kernel
theorem dX2_explore_64 : decode cX2_explore 64 = .ok (.if_icmp .ne 7, 3) := by decide +kernel
theorem dX2_explore_67 : decode cX2_explore 67 = .ok (.iconst 2, 1) := by decide +kernel
theorem dX2_explore_68 : decode cX2_explore 68 = .ok (.goto 4, 3) := by decide +kernel
theorem dX2_explore_71 : decode cX2_explore 71 = .ok (.iconst 0, 1) := by decide +kernel
theorem dX2_explore_72 : decode cX2_explore 72 = .ok (.iadd, 1) := by decide +kernel
theorem dX2_explore_73 : decode cX2_explore 73 = .ok (.istore 6, 2) := by decide +kernel
theorem dX2_explore_75 : decode cX2_explore 75 = .ok (.iconst 1, 1) := by decide +kernel
theorem dX2_explore_76 : decode cX2_explore 76 = .ok (.istore 7, 2) := by decide +kernel
theorem dX2_explore_78 : decode cX2_explore 78 = .ok (.aload_n 0, 1) := by decide +kernel
theorem dX2_explore_79 : decode cX2_explore 79 = .ok (.getfield 9, 3) := by decide +kernel
theorem dX2_explore_82 : decode cX2_explore 82 = .ok (.iconst 0, 1) := by decide +kernel
theorem dX2_explore_83 : decode cX2_explore 83 = .ok (.aload_n 2, 1) := by decide +kernel
theorem dX2_explore_84 : decode cX2_explore 84 = .ok (.getfield 49, 3) := by decide +kernel
theorem dX2_explore_87 : decode cX2_explore 87 = .ok (.iload_n 3, 1) := by decide +kernel
theorem dX2_explore_88 : decode cX2_explore 88 = .ok (.iaload, 1) := by decide +kernel
theorem dX2_explore_89 : decode cX2_explore 89 = .ok (.iload 6, 2) := by decide +kernel
theorem dX2_explore_91 : decode cX2_explore 91 = .ok (.ior, 1) := by decide +kernel
theorem dX2_explore_92 : decode cX2_explore 92 = .ok (.iconst 3, 1) := by decide +kernel
theorem dX2_explore_93 : decode cX2_explore 93 = .ok (.iand, 1) := by decide +kernel
theorem dX2_explore_94 : decode cX2_explore 94 = .ok (.iastore, 1) := by decide +kernel
theorem dX2_explore_95 : decode cX2_explore 95 = .ok (.aload_n 0, 1) := by decide +kernel
theorem dX2_explore_96 : decode cX2_explore 96 = .ok (.getfield 21, 3) := by decide +kernel
theorem dX2_explore_99 : decode cX2_explore 99 = .ok (.aload_n 0, 1) := by decide +kernel
theorem dX2_explore_100 : decode cX2_explore 100 = .ok (.getfield 9, 3) := by decide +kernel
theorem dX2_explore_103 : decode cX2_explore 103 = .ok (.iconst 0, 1) := by decide +kernel
theorem dX2_explore_104 : decode cX2_explore 104 = .ok (.iaload, 1) := by decide +kernel
theorem dX2_explore_105 : decode cX2_explore 105 = .ok (.iconst 0, 1) := by decide +kernel
theorem dX2_explore_106 : decode cX2_explore 106 = .ok (.iastore, 1) := by decide +kernel
theorem dX2_explore_107 : decode cX2_explore 107 = .ok (.iconst 0, 1) := by decide +kernel
theorem dX2_explore_108 : decode cX2_explore 108 = .ok (.istore 8, 2) := by decide +kernel
theorem dX2_explore_110 : decode cX2_explore 110 = .ok (.iload 8, 2) := by decide +kernel
theorem dX2_explore_112 : decode cX2_explore 112 = .ok (.iload 7, 2) := by decide +kernel
theorem dX2_explore_114 : decode cX2_explore 114 = .ok (.if_icmp .ge 197, 3) := by decide +kernel
theorem dX2_explore_117 : decode cX2_explore 117 = .ok (.iload 8, 2) := by decide +kernel
theorem dX2_explore_119 : decode cX2_explore 119 = .ok (.sipush 1024, 3) := by decide +kernel
theorem dX2_explore_122 : decode cX2_explore 122 = .ok (.if_icmp .ge 189, 3) := by decide +kernel
theorem dX2_explore_125 : decode cX2_explore 125 = .ok (.aload_n 0, 1) := by decide +kernel
theorem dX2_explore_126 : decode cX2_explore 126 = .ok (.getfield 9, 3) := by decide +kernel
theorem dX2_explore_129 : decode cX2_explore 129 = .ok (.iload 8, 2) := by decide +kernel
theorem dX2_explore_131 : decode cX2_explore 131 = .ok (.iaload, 1) := by decide +kernel
theorem dX2_explore_132 : decode cX2_explore 132 = .ok (.istore 9, 2) := by decide +kernel
theorem dX2_explore_134 : decode cX2_explore 134 = .ok (.iload 9, 2) := by decide +kernel
theorem dX2_explore_136 : decode cX2_explore 136 = .ok (.iconst 4, 1) := by decide +kernel
theorem dX2_explore_137 : decode cX2_explore 137 = .ok (.irem, 1) := by decide +kernel
theorem dX2_explore_138 : decode cX2_explore 138 = .ok (.iconst 3, 1) := by decide +kernel
theorem dX2_explore_139 : decode cX2_explore 139 = .ok (.if_icmp .ne 10, 3) := by decide +kernel
theorem dX2_explore_142 : decode cX2_explore 142 = .ok (.aload_n 0, 1) := by decide +kernel
theorem dX2_explore_143 : decode cX2_explore 143 = .ok (.iload 9, 2) := by decide +kernel
theorem dX2_explore_145 : decode cX2_explore 145 = .ok (.putfield 30, 3) := by decide +kernel
theorem dX2_explore_148 : decode cX2_explore 148 = .ok (.return_, 1) := by decide +kernel
theorem dX2_explore_149 : decode cX2_explore 149 = .ok (.iconst 0, 1) := by decide +kernel
theorem dX2_explore_150 : decode cX2_explore 150 = .ok (.istore 10, 2) := by decide +kernel
theorem dX2_explore_152 : decode cX2_explore 152 = .ok (.iload 10, 2) := by decide +kernel
theorem dX2_explore_154 : decode cX2_explore 154 = .ok (.bipush 8, 2) := by decide +kernel
theorem dX2_explore_156 : decode cX2_explore 156 = .ok (.if_icmp .ge 149, 3) := by decide +kernel
theorem dX2_explore_159 : decode cX2_explore 159 = .ok (.aload_n 1, 1) := by decide +kernel
theorem dX2_explore_160 : decode cX2_explore 160 = .ok (.iload 9, 2) := by decide +kernel
theorem dX2_explore_162 : decode cX2_explore 162 = .ok (.iconst 4, 1) := by decide +kernel
theorem dX2_explore_163 : decode cX2_explore 163 = .ok (.idiv, 1) := by decide +kernel
theorem dX2_explore_164 : decode cX2_explore 164 = .ok (.iload 10, 2) := by decide +kernel
theorem dX2_explore_166 : decode cX2_explore 166 = .ok (.invokevirtual 52, 3) := by decide +kernel
theorem dX2_explore_169 : decode cX2_explore 169 = .ok (.istore 11, 2) := by decide +kernel
theorem dX2_explore_171 : decode cX2_explore 171 = .ok (.aload_n 1, 1) := by decide +kernel
theorem dX2_explore_172 : decode cX2_explore 172 = .ok (.iload 11, 2) := by decide +kernel
theorem dX2_explore_174 : decode cX2_explore 174 = .ok (.invokevirtual 58, 3) := by decide +kernel
theorem dX2_explore_177 : decode cX2_explore 177 = .ok (.ifCond .ne 6, 3) := by decide +kernel
theorem dX2_explore_180 : decode cX2_explore 180 = .ok (.goto 119, 3) := by decide +kernel
theorem dX2_explore_183 : decode cX2_explore 183 = .ok (.iload 9, 2) := by decide +kernel
theorem dX2_explore_185 : decode cX2_explore 185 = .ok (.iconst 4, 1) := by decide +kernel
theorem dX2_explore_186 : decode cX2_explore 186 = .ok (.irem, 1) := by decide +kernel
theorem dX2_explore_187 : decode cX2_explore 187 = .ok (.aload_n 1, 1) := by decide +kernel
theorem dX2_explore_188 : decode cX2_explore 188 = .ok (.iload 11, 2) := by decide +kernel
theorem dX2_explore_190 : decode cX2_explore 190 = .ok (.iconst 0, 1) := by decide +kernel
theorem dX2_explore_191 : decode cX2_explore 191 = .ok (.invokevirtual 61, 3) := by decide +kernel
theorem dX2_explore_194 : decode cX2_explore 194 = .ok (.iload 4, 2) := by decide +kernel
theorem dX2_explore_196 : decode cX2_explore 196 = .ok (.if_icmp .ne 7, 3) := by decide +kernel
theorem dX2_explore_199 : decode cX2_explore 199 = .ok (.iconst 1, 1) := by decide +kernel
theorem dX2_explore_200 : decode cX2_explore 200 = .ok (.goto 4, 3) := by decide +kernel
theorem dX2_explore_203 : decode cX2_explore 203 = .ok (.iconst 0, 1) := by decide +kernel
theorem dX2_explore_204 : decode cX2_explore 204 = .ok (.ior, 1) := by decide +kernel
theorem dX2_explore_205 : decode cX2_explore 205 = .ok (.aload_n 1, 1) := by decide +kernel
theorem dX2_explore_206 : decode cX2_explore 206 = .ok (.iload 11, 2) := by decide +kernel
theorem dX2_explore_208 : decode cX2_explore 208 = .ok (.iconst 1, 1) := by decide +kernel
theorem dX2_explore_209 : decode cX2_explore 209 = .ok (.invokevirtual 61, 3) := by decide +kernel
theorem dX2_explore_212 : decode cX2_explore 212 = .ok (.iload 5, 2) := by decide +kernel
theorem dX2_explore_214 : decode cX2_explore 214 = .ok (.if_icmp .ne 7, 3) := by decide +kernel
theorem dX2_explore_217 : decode cX2_explore 217 = .ok (.iconst 2, 1) := by decide +kernel
theorem dX2_explore_218 : decode cX2_explore 218 = .ok (.goto 4, 3) := by decide +kernel
theorem dX2_explore_221 : decode cX2_explore 221 = .ok (.iconst 0, 1) := by decide +kernel
theorem dX2_explore_222 : decode cX2_explore 222 = .ok (.ior, 1) := by decide +kernel
theorem dX2_explore_223 : decode cX2_explore 223 = .ok (.istore 12, 2) := by decide +kernel
theorem dX2_explore_225 : decode cX2_explore 225 = .ok (.iload 11, 2) := by decide +kernel
theorem dX2_explore_227 : decode cX2_explore 227 = .ok (.iconst 4, 1) := by decide +kernel
theorem dX2_explore_228 : decode cX2_explore 228 = .ok (.imul, 1) := by decide +kernel
theorem dX2_explore_229 : decode cX2_explore 229 = .ok (.iload 12, 2) := by decide +kernel
theorem dX2_explore_231 : decode cX2_explore 231 = .ok (.iadd, 1) := by decide +kernel
theorem dX2_explore_232 : decode cX2_explore 232 = .ok (.istore 13, 2) := by decide +kernel
theorem dX2_explore_234 : decode cX2_explore 234 = .ok (.aload_n 0, 1) := by decide +kernel
theorem dX2_explore_235 : decode cX2_explore 235 = .ok (.getfield 21, 3) := by decide +kernel
theorem dX2_explore_238 : decode cX2_explore 238 = .ok (.iload 13, 2) := by decide +kernel
theorem dX2_explore_240 : decode cX2_explore 240 = .ok (.iaload, 1) := by decide +kernel
theorem dX2_explore_241 : decode cX2_explore 241 = .ok (.iconst (-1), 1) := by decide +kernel
theorem dX2_explore_242 : decode cX2_explore 242 = .ok (.if_icmp .ne 57, 3) := by decide +kernel
theorem dX2_explore_245 : decode cX2_explore 245 = .ok (.iload 7, 2) := by decide +kernel
theorem dX2_explore_247 : decode cX2_explore 247 = .ok (.sipush 1024, 3) := by decide +kernel
theorem dX2_explore_250 : decode cX2_explore 250 = .ok (.if_icmp .ge 49, 3) := by decide +kernel
theorem dX2_explore_253 : decode cX2_explore 253 = .ok (.aload_n 0, 1) := by decide +kernel
theorem dX2_explore_254 : decode cX2_explore 254 = .ok (.getfield 21, 3) := by decide +kernel
theorem dX2_explore_257 : decode cX2_explore 257 = .ok (.iload 13, 2) := by decide +kernel
theorem dX2_explore_259 : decode cX2_explore 259 = .ok (.aload_n 0, 1) := by decide +kernel
theorem dX2_explore_260 : decode cX2_explore 260 = .ok (.getfield 21, 3) := by decide +kernel
theorem dX2_explore_263 : decode cX2_explore 263 = .ok (.iload 9, 2) := by decide +kernel
theorem dX2_explore_265 : decode cX2_explore 265 = .ok (.iaload, 1) := by decide +kernel
theorem dX2_explore_266 : decode cX2_explore 266 = .ok (.iconst 1, 1) := by decide +kernel
theorem dX2_explore_267 : decode cX2_explore 267 = .ok (.iadd, 1) := by decide +kernel
theorem dX2_explore_268 : decode cX2_explore 268 = .ok (.iastore, 1) := by decide +kernel
theorem dX2_explore_269 : decode cX2_explore 269 = .ok (.aload_n 0, 1) := by decide +kernel
theorem dX2_explore_270 : decode cX2_explore 270 = .ok (.getfield 15, 3) := by decide +kernel
theorem dX2_explore_273 : decode cX2_explore 273 = .ok (.iload 13, 2) := by decide +kernel
theorem dX2_explore_275 : decode cX2_explore 275 = .ok (.iload 9, 2) := by decide +kernel
theorem dX2_explore_277 : decode cX2_explore 277 = .ok (.iastore, 1) := by decide +kernel
theorem dX2_explore_278 : decode cX2_explore 278 = .ok (.aload_n 0, 1) := by decide +kernel
theorem dX2_explore_279 : decode cX2_explore 279 = .ok (.getfield 18, 3) := by decide +kernel
theorem dX2_explore_282 : decode cX2_explore 282 = .ok (.iload 13, 2) := by decide +kernel
theorem dX2_explore_284 : decode cX2_explore 284 = .ok (.iload 10, 2) := by decide +kernel
theorem dX2_explore_286 : decode cX2_explore 286 = .ok (.iastore, 1) := by decide +kernel
theorem dX2_explore_287 : decode cX2_explore 287 = .ok (.aload_n 0, 1) := by decide +kernel
theorem dX2_explore_288 : decode cX2_explore 288 = .ok (.getfield 9, 3) := by decide +kernel
theorem dX2_explore_291 : decode cX2_explore 291 = .ok (.iload 7, 2) := by decide +kernel
theorem dX2_explore_293 : decode cX2_explore 293 = .ok (.iload 13, 2) := by decide +kernel
theorem dX2_explore_295 : decode cX2_explore 295 = .ok (.iastore, 1) := by decide +kernel
theorem dX2_explore_296 : decode cX2_explore 296 = .ok (.iinc 7 1, 3) := by decide +kernel
theorem dX2_explore_299 : decode cX2_explore 299 = .ok (.iinc 10 1, 3) := by decide +kernel
theorem dX2_explore_302 : decode cX2_explore 302 = .ok (.goto (-150), 3) := by decide +kernel
theorem dX2_explore_305 : decode cX2_explore 305 = .ok (.iinc 8 1, 3) := by decide +kernel
theorem dX2_explore_308 : decode cX2_explore 308 = .ok (.goto (-198), 3) := by decide +kernel
theorem dX2_explore_311 : decode cX2_explore 311 = .ok (.return_, 1) := by decide +kernel
set_option maxRecDepth 20000 in
set_option maxHeartbeats 2000000 in
theorem w_X2_explore_299 {X : CX} {d : Nat} (hd : 2 ≤ d) {g' : G} {rx : Unit} (k110 : Nat → Nat → Int32 → Int32 → Int32 → Int32 → G → Option (Unit × G)) (hk110 : ∀ (l0 : Nat) (l1 : Nat) (l4 : Int32) (l5 : Int32) (l7 : Int32) (l8 : Int32) (g : G), KD g l0 2 → KD g l1 4 → k110 l0 l1 l4 l5 l7 l8 g = some (rx, g') → SemF X m_X2_explore d 110 [(0, .ref (ad X l0)), (1, .ref (ad X l1)), (4, .int l4), (5, .int l5), (7, .int l7), (8, .int l8)] [] g none g') (k152 : Nat → Nat → Int32 → Int32 → Int32 → Int32 → Int32 → Int32 → G → Option (Unit × G)) (hk152 : ∀ (l0 : Nat) (l1 : Nat) (l4 : Int32) (l5 : Int32) (l7 : Int32) (l8 : Int32) (l9 : Int32) (l10 : Int32) (g : G), KD g l0 2 → KD g l1 4 → k152 l0 l1 l4 l5 l7 l8 l9 l10 g = some (rx, g') → SemF X m_X2_explore d 152 [(0, .ref (ad X l0)), (1, .ref (ad X l1)), (4, .int l4), (5, .int l5), (7, .int l7), (8, .int l8), (9, .int l9), (10, .int l10)] [] g none g') (l0 : Nat) (l1 : Nat) (l4 : Int32) (l5 : Int32) (l7 : Int32) (l8 : Int32) (l9 : Int32) (l10 : Int32) (g : G) (k_l0 : KD g l0 2) (k_l1 : KD g l1 4) (h : f_X2_explore_299 k110 k152 l0 l1 l4 l5 l7 l8 l9 l10 g = some (rx, g')) : SemF X m_X2_explore d 299 [(0, .ref (ad X l0)), (1, .ref (ad X l1)), (4, .int l4), (5, .int l5), (7, .int l7), (8, .int l8), (9, .int l9), (10, .int l10)] [] g none g' := by
  rw [f_X2_explore_299] at h
  refine SF_iinc 7 (l10 + (1 : Int32)) [(10, .int (l10 + (1 : Int32))), (0, .ref (ad X l0)), (1, .ref (ad X l1)), (4, .int l4), (5, .int l5), (7, .int l7), (8, .int l8), (9, .int l9)] 302 dX2_explore_299 rfl rfl (by decide) rfl rfl ?_
  refine SF_goto 152 dX2_explore_302 rfl ?_
  refine SF_sub [1, 2, 3, 4, 5, 6, 7, 0] rfl ?_
  exact hk152 l0 l1 l4 l5 l7 l8 l9 (l10 + (1 : Int32)) g k_l0 k_l1 h

set_option maxRecDepth 20000 in
set_option maxHeartbeats 2000000 in
theorem w_X2_explore_222 {X : CX} {d : Nat} (hd : 2 ≤ d) {g' : G} {rx : Unit} (k110 : Nat → Nat → Int32 → Int32 → Int32 → Int32 → G → Option (Unit × G)) (hk110 : ∀ (l0 : Nat) (l1 : Nat) (l4 : Int32) (l5 : Int32) (l7 : Int32) (l8 : Int32) (g : G), KD g l0 2 → KD g l1 4 → k110 l0 l1 l4 l5 l7 l8 g = some (rx, g') → SemF X m_X2_explore d 110 [(0, .ref (ad X l0)), (1, .ref (ad X l1)), (4, .int l4), (5, .int l5), (7, .int l7), (8, .int l8)] [] g none g') (k152 : Nat → Nat → Int32 → Int32 → Int32 → Int32 → Int32 → Int32 → G → Option (Unit × G)) (hk152 : ∀ (l0 : Nat) (l1 : Nat) (l4 : Int32) (l5 : Int32) (l7 : Int32) (l8 : Int32) (l9 : Int32) (l10 : Int32) (g : G), KD g l0 2 → KD g l1 4 → k152 l0 l1 l4 l5 l7 l8 l9 l10 g = some (rx, g') → SemF X m_X2_explore d 152 [(0, .ref (ad X l0)), (1, .ref (ad X l1)), (4, .int l4), (5, .int l5), (7, .int l7), (8, .int l8), (9, .int l9), (10, .int l10)] [] g none g') (l0 : Nat) (l1 : Nat) (l4 : Int32) (l5 : Int32) (l7 : Int32) (l8 : Int32) (l9 : Int32) (l10 : Int32) (l11 : Int32) (s0 : Int32) (s1 : Int32) (g : G) (k_l0 : KD g l0 2) (k_l1 : KD g l1 4) (h : f_X2_explore_222 k110 k152 l0 l1 l4 l5 l7 l8 l9 l10 l11 s0 s1 g = some (rx, g')) : SemF X m_X2_explore d 222 [(0, .ref (ad X l0)), (1, .ref (ad X l1)), (4, .int l4), (5, .int l5), (7, .int l7), (8, .int l8), (9, .int l9), (10, .int l10), (11, .int l11)] [.int s0, .int s1] g none g' := by
  rw [f_X2_explore_222] at h
  refine SF_ior 223 dX2_explore_222 rfl ?_
  obtain ⟨y1, e2, h⟩ := li_some h
  refine SF_eqI e2 ?_
  refine SF_istore [(12, .int y1), (0, .ref (ad X l0)), (1, .ref (ad X l1)), (4, .int l4), (5, .int l5), (7, .int l7), (8, .int l8), (9, .int l9), (10, .int l10), (11, .int l11)] 225 dX2_explore_223 (by decide) rfl rfl ?_
  refine SF_iload 9 227 dX2_explore_225 rfl rfl ?_
  refine SF_iconst (4 : Int32) 228 dX2_explore_227 rfl rfl ?_
  refine SF_imul 229 dX2_explore_228 rfl ?_
  refine SF_iload 0 231 dX2_explore_229 rfl rfl ?_
  refine SF_iadd 232 dX2_explore_231 rfl ?_
  obtain ⟨y3, e4, h⟩ := li_some h
  refine SF_eqI e4 ?_
  refine SF_istore [(13, .int y3), (12, .int y1), (0, .ref (ad X l0)), (1, .ref (ad X l1)), (4, .int l4), (5, .int l5), (7, .int l7), (8, .int l8), (9, .int l9), (10, .int l10), (11, .int l11)] 234 dX2_explore_232 (by decide) rfl rfl ?_
  refine SF_aload_n 2 235 dX2_explore_234 rfl rfl rfl ?_
  obtain ⟨b5, r6, h⟩ := dr_some h
  refine SF_getR 238 fl_X2_21 dX2_explore_235 k_l0.1 r6 rfl ?_
  refine SF_iload 0 240 dX2_explore_238 rfl rfl ?_
  obtain ⟨k7, h⟩ := gdK_some h
  obtain ⟨i8, h⟩ := gdI_some h
  refine SF_iald 241 dX2_explore_240 k7.1 i8 rfl ?_
  refine SF_iconst (-1 : Int32) 242 dX2_explore_241 rfl rfl ?_
  refine SF_icne 299 245 dX2_explore_242 rfl rfl (fun c9 => ?_) (fun c9 => ?_)
  · have h := ite_f c9 h
    refine SF_sub [2, 3, 4, 5, 6, 7, 8, 9] rfl ?_
    exact w_X2_explore_299 hd k110 hk110 k152 hk152 l0 l1 l4 l5 l7 l8 l9 l10 g k_l0 k_l1 h
  · have h := ite_t c9 h
    refine SF_iload 6 247 dX2_explore_245 rfl rfl ?_
    refine SF_sipush (1024 : Int32) 250 dX2_explore_247 rfl rfl ?_
    refine SF_icge 299 253 dX2_explore_250 rfl rfl (fun c10 => ?_) (fun c10 => ?_)
    · have h := ite_t c10 h
      refine SF_sub [2, 3, 4, 5, 6, 7, 8, 9] rfl ?_
      exact w_X2_explore_299 hd k110 hk110 k152 hk152 l0 l1 l4 l5 l7 l8 l9 l10 g k_l0 k_l1 h
    · have h := ite_f c10 h
      refine SF_aload_n 2 254 dX2_explore_253 rfl rfl rfl ?_
      refine SF_getR 257 fl_X2_21 dX2_explore_254 k_l0.1 r6 rfl ?_
      refine SF_iload 0 259 dX2_explore_257 rfl rfl ?_
      refine SF_aload_n 2 260 dX2_explore_259 rfl rfl rfl ?_
      refine SF_getR 263 fl_X2_21 dX2_explore_260 k_l0.1 r6 rfl ?_
      refine SF_iload 8 265 dX2_explore_263 rfl rfl ?_
      obtain ⟨i11, h⟩ := gdI_some h
      refine SF_iald 266 dX2_explore_265 k7.1 i11 rfl ?_
      refine SF_iconst (1 : Int32) 267 dX2_explore_266 rfl rfl ?_
      refine SF_iadd 268 dX2_explore_267 rfl ?_
      refine SF_iast 269 dX2_explore_268 k7.1 i8 rfl ?_
      obtain ⟨g12, e13, h⟩ := lg_some h
      rw [← e13]
      have k_l0 := KD.eq e13 k_l0
      have k_l1 := KD.eq e13 k_l1
      have k7 := KD.eq e13 k7
      have r6 := gR_eq e13 r6
      have i8 := vp_eq e13 i8
      have i11 := vp_eq e13 i11
      refine SF_aload_n 2 270 dX2_explore_269 rfl rfl rfl ?_
      obtain ⟨b14, r15, h⟩ := dr_some h
      refine SF_getR 273 fl_X2_15 dX2_explore_270 k_l0.1 r15 rfl ?_
      refine SF_iload 0 275 dX2_explore_273 rfl rfl ?_
      refine SF_iload 8 277 dX2_explore_275 rfl rfl ?_
      obtain ⟨k16, h⟩ := gdK_some h
      obtain ⟨i17, h⟩ := gdI_some h
      refine SF_iast 278 dX2_explore_277 k16.1 i17 rfl ?_
      obtain ⟨g18, e19, h⟩ := lg_some h
      rw [← e19]
      have k_l0 := KD.eq e19 k_l0
      have k_l1 := KD.eq e19 k_l1
      have k7 := KD.eq e19 k7
      have k16 := KD.eq e19 k16
      have r6 := gR_eq e19 r6
      have r15 := gR_eq e19 r15
      have i8 := vp_eq e19 i8
      have i11 := vp_eq e19 i11
      have i17 := vp_eq e19 i17
      refine SF_aload_n 2 279 dX2_explore_278 rfl rfl rfl ?_
      obtain ⟨b20, r21, h⟩ := dr_some h
      refine SF_getR 282 fl_X2_18 dX2_explore_279 k_l0.1 r21 rfl ?_
      refine SF_iload 0 284 dX2_explore_282 rfl rfl ?_
      refine SF_iload 9 286 dX2_explore_284 rfl rfl ?_
      obtain ⟨k22, h⟩ := gdK_some h
      obtain ⟨i23, h⟩ := gdI_some h
      refine SF_iast 287 dX2_explore_286 k22.1 i23 rfl ?_
      obtain ⟨g24, e25, h⟩ := lg_some h
      rw [← e25]
      have k_l0 := KD.eq e25 k_l0
      have k_l1 := KD.eq e25 k_l1
      have k7 := KD.eq e25 k7
      have k16 := KD.eq e25 k16
      have k22 := KD.eq e25 k22
      have r6 := gR_eq e25 r6
      have r15 := gR_eq e25 r15
      have r21 := gR_eq e25 r21
      have i8 := vp_eq e25 i8
      have i11 := vp_eq e25 i11
      have i17 := vp_eq e25 i17
      have i23 := vp_eq e25 i23
      refine SF_aload_n 2 288 dX2_explore_287 rfl rfl rfl ?_
      obtain ⟨b26, r27, h⟩ := dr_some h
      refine SF_getR 291 fl_X2_9 dX2_explore_288 k_l0.1 r27 rfl ?_
      refine SF_iload 6 293 dX2_explore_291 rfl rfl ?_
      refine SF_iload 0 295 dX2_explore_293 rfl rfl ?_
      obtain ⟨k28, h⟩ := gdK_some h
      obtain ⟨i29, h⟩ := gdI_some h
      refine SF_iast 296 dX2_explore_295 k28.1 i29 rfl ?_
      obtain ⟨g30, e31, h⟩ := lg_some h
      rw [← e31]
      have k_l0 := KD.eq e31 k_l0
      have k_l1 := KD.eq e31 k_l1
      have k7 := KD.eq e31 k7
      have k16 := KD.eq e31 k16
      have k22 := KD.eq e31 k22
      have k28 := KD.eq e31 k28
      have r6 := gR_eq e31 r6
      have r15 := gR_eq e31 r15
      have r21 := gR_eq e31 r21
      have r27 := gR_eq e31 r27
      have i8 := vp_eq e31 i8
      have i11 := vp_eq e31 i11
      have i17 := vp_eq e31 i17
      have i23 := vp_eq e31 i23
      have i29 := vp_eq e31 i29
      refine SF_iinc 6 (l7 + (1 : Int32)) [(7, .int (l7 + (1 : Int32))), (13, .int y3), (12, .int y1), (0, .ref (ad X l0)), (1, .ref (ad X l1)), (4, .int l4), (5, .int l5), (8, .int l8), (9, .int l9), (10, .int l10), (11, .int l11)] 299 dX2_explore_296 rfl rfl (by decide) rfl rfl ?_
      refine SF_sub [3, 4, 5, 6, 0, 7, 8, 9] rfl ?_
      exact w_X2_explore_299 hd k110 hk110 k152 hk152 l0 l1 l4 l5 (l7 + (1 : Int32)) l8 l9 l10 g30 k_l0 k_l1 h

set_option maxRecDepth 20000 in
set_option maxHeartbeats 2000000 in
theorem w_X2_explore_204 {X : CX} {d : Nat} (hd : 2 ≤ d) {g' : G} {rx : Unit} (k110 : Nat → Nat → Int32 → Int32 → Int32 → Int32 → G → Option (Unit × G)) (hk110 : ∀ (l0 : Nat) (l1 : Nat) (l4 : Int32) (l5 : Int32) (l7 : Int32) (l8 : Int32) (g : G), KD g l0 2 → KD g l1 4 → k110 l0 l1 l4 l5 l7 l8 g = some (rx, g') → SemF X m_X2_explore d 110 [(0, .ref (ad X l0)), (1, .ref (ad X l1)), (4, .int l4), (5, .int l5), (7, .int l7), (8, .int l8)] [] g none g') (k152 : Nat → Nat → Int32 → Int32 → Int32 → Int32 → Int32 → Int32 → G → Option (Unit × G)) (hk152 : ∀ (l0 : Nat) (l1 : Nat) (l4 : Int32) (l5 : Int32) (l7 : Int32) (l8 : Int32) (l9 : Int32) (l10 : Int32) (g : G), KD g l0 2 → KD g l1 4 → k152 l0 l1 l4 l5 l7 l8 l9 l10 g = some (rx, g') → SemF X m_X2_explore d 152 [(0, .ref (ad X l0)), (1, .ref (ad X l1)), (4, .int l4), (5, .int l5), (7, .int l7), (8, .int l8), (9, .int l9), (10, .int l10)] [] g none g') (l0 : Nat) (l1 : Nat) (l4 : Int32) (l5 : Int32) (l7 : Int32) (l8 : Int32) (l9 : Int32) (l10 : Int32) (l11 : Int32) (s0 : Int32) (s1 : Int32) (g : G) (k_l0 : KD g l0 2) (k_l1 : KD g l1 4) (h : f_X2_explore_204 k110 k152 l0 l1 l4 l5 l7 l8 l9 l10 l11 s0 s1 g = some (rx, g')) : SemF X m_X2_explore d 204 [(0, .ref (ad X l0)), (1, .ref (ad X l1)), (4, .int l4), (5, .int l5), (7, .int l7), (8, .int l8), (9, .int l9), (10, .int l10), (11, .int l11)] [.int s0, .int s1] g none g' := by
  rw [f_X2_explore_204] at h
  refine SF_ior 205 dX2_explore_204 rfl ?_
  refine SF_aload_n 1 206 dX2_explore_205 rfl rfl rfl ?_
  refine SF_iload 8 208 dX2_explore_206 rfl rfl ?_
  refine SF_iconst (1 : Int32) 209 dX2_explore_208 rfl rfl ?_
  obtain ⟨v1, g2, q3, h⟩ := bd_some h
  have s4 := w_X4_cellOf (X := X) (Nat.le_refl 1) l1 l11 (1 : Int32) g g2 v1 k_l1 q3
  refine SF_callVi 212 mi_X4_cellOf ml_X2_61 dX2_explore_209 (Nat.le_trans (by decide) hd) s4 k_l1.1 rfl rfl (Nat.le_of_ble_eq_true rfl) rfl ?_
  have k_l0 := k_l0.ext s4.1
  have k_l1 := k_l1.ext s4.1
  refine SF_iload 3 214 dX2_explore_212 rfl rfl ?_
  refine SF_icne 221 217 dX2_explore_214 rfl rfl (fun c5 => ?_) (fun c5 => ?_)
  · have h := ite_f c5 h
    refine SF_iconst (0 : Int32) 222 dX2_explore_221 rfl rfl ?_
    exact w_X2_explore_222 hd k110 hk110 k152 hk152 l0 l1 l4 l5 l7 l8 l9 l10 l11 (0 : Int32) (s1 ||| s0) g2 k_l0 k_l1 h
  · have h := ite_t c5 h
    refine SF_iconst (2 : Int32) 218 dX2_explore_217 rfl rfl ?_
    refine SF_goto 222 dX2_explore_218 rfl ?_
    exact w_X2_explore_222 hd k110 hk110 k152 hk152 l0 l1 l4 l5 l7 l8 l9 l10 l11 (2 : Int32) (s1 ||| s0) g2 k_l0 k_l1 h

set_option maxRecDepth 20000 in
set_option maxHeartbeats 2000000 in
theorem w_X2_explore_152 {X : CX} {d : Nat} (hd : 2 ≤ d) {g' : G} {rx : Unit} (k110 : Nat → Nat → Int32 → Int32 → Int32 → Int32 → G → Option (Unit × G)) (hk110 : ∀ (l0 : Nat) (l1 : Nat) (l4 : Int32) (l5 : Int32) (l7 : Int32) (l8 : Int32) (g : G), KD g l0 2 → KD g l1 4 → k110 l0 l1 l4 l5 l7 l8 g = some (rx, g') → SemF X m_X2_explore d 110 [(0, .ref (ad X l0)), (1, .ref (ad X l1)), (4, .int l4), (5, .int l5), (7, .int l7), (8, .int l8)] [] g none g') : ∀ (n : Nat) (l0 : Nat) (l1 : Nat) (l4 : Int32) (l5 : Int32) (l7 : Int32) (l8 : Int32) (l9 : Int32) (l10 : Int32) (g : G), KD g l0 2 → KD g l1 4 → f_X2_explore_152 k110 n l0 l1 l4 l5 l7 l8 l9 l10 g = some (rx, g') → SemF X m_X2_explore d 152 [(0, .ref (ad X l0)), (1, .ref (ad X l1)), (4, .int l4), (5, .int l5), (7, .int l7), (8, .int l8), (9, .int l9), (10, .int l10)] [] g none g' := by
  intro n
  induction n with
  | zero =>
    intro l0 l1 l4 l5 l7 l8 l9 l10 g k_l0 k_l1 h
    rw [f_X2_explore_152] at h
    cases h
  | succ n ih =>
  intro l0 l1 l4 l5 l7 l8 l9 l10 g k_l0 k_l1 h
  rw [f_X2_explore_152] at h
  refine SF_iload 7 154 dX2_explore_152 rfl rfl ?_
  refine SF_bipush (8 : Int32) 156 dX2_explore_154 rfl rfl ?_
  refine SF_icge 305 159 dX2_explore_156 rfl rfl (fun c1 => ?_) (fun c1 => ?_)
  · have h := ite_t c1 h
    refine SF_iinc 5 (l8 + (1 : Int32)) [(8, .int (l8 + (1 : Int32))), (0, .ref (ad X l0)), (1, .ref (ad X l1)), (4, .int l4), (5, .int l5), (7, .int l7), (9, .int l9), (10, .int l10)] 308 dX2_explore_305 rfl rfl (by decide) rfl rfl ?_
    refine SF_goto 110 dX2_explore_308 rfl ?_
    refine SF_sub [1, 2, 3, 4, 5, 0] rfl ?_
    exact hk110 l0 l1 l4 l5 l7 (l8 + (1 : Int32)) g k_l0 k_l1 h
  · have h := ite_f c1 h
    refine SF_aload_n 1 160 dX2_explore_159 rfl rfl rfl ?_
    refine SF_iload 6 162 dX2_explore_160 rfl rfl ?_
    refine SF_iconst (4 : Int32) 163 dX2_explore_162 rfl rfl ?_
    refine SF_idiv 164 dX2_explore_163 (by decide) rfl ?_
    refine SF_iload 7 166 dX2_explore_164 rfl rfl ?_
    obtain ⟨v2, g3, q4, h⟩ := bd_some h
    have s5 := w_X4_nextOf (X := X) (Nat.le_refl 1) l1 (l9 / (4 : Int32)) l10 g g3 v2 k_l1 q4
    refine SF_callVi 169 mi_X4_nextOf ml_X2_52 dX2_explore_166 (Nat.le_trans (by decide) hd) s5 k_l1.1 rfl rfl (Nat.le_of_ble_eq_true rfl) rfl ?_
    have k_l0 := k_l0.ext s5.1
    have k_l1 := k_l1.ext s5.1
    refine SF_istore [(11, .int v2), (0, .ref (ad X l0)), (1, .ref (ad X l1)), (4, .int l4), (5, .int l5), (7, .int l7), (8, .int l8), (9, .int l9), (10, .int l10)] 171 dX2_explore_169 (by decide) rfl rfl ?_
    refine SF_aload_n 2 172 dX2_explore_171 rfl rfl rfl ?_
    refine SF_iload 0 174 dX2_explore_172 rfl rfl ?_
    obtain ⟨v6, g7, q8, h⟩ := bd_some h
    have s9 := w_X4_has (X := X) (Nat.le_refl 0) l1 v2 g3 g7 v6 k_l1 q8
    refine SF_callVb 177 mi_X4_has ml_X2_58 dX2_explore_174 (Nat.le_trans (by decide) hd) s9 k_l1.1 rfl rfl (Nat.le_of_ble_eq_true rfl) rfl ?_
    have k_l0 := k_l0.ext s9.1
    have k_l1 := k_l1.ext s9.1
    refine SF_ifne 183 180 dX2_explore_177 rfl rfl (fun c10 => ?_) (fun c10 => ?_)
    · have h := ite_f c10 h
      refine SF_iload 7 185 dX2_explore_183 rfl rfl ?_
      refine SF_iconst (4 : Int32) 186 dX2_explore_185 rfl rfl ?_
      refine SF_irem 187 dX2_explore_186 (by decide) rfl ?_
      refine SF_aload_n 2 188 dX2_explore_187 rfl rfl rfl ?_
      refine SF_iload 0 190 dX2_explore_188 rfl rfl ?_
      refine SF_iconst (0 : Int32) 191 dX2_explore_190 rfl rfl ?_
      obtain ⟨v11, g12, q13, h⟩ := bd_some h
      have s14 := w_X4_cellOf (X := X) (Nat.le_refl 1) l1 v2 (0 : Int32) g7 g12 v11 k_l1 q13
      refine SF_callVi 194 mi_X4_cellOf ml_X2_61 dX2_explore_191 (Nat.le_trans (by decide) hd) s14 k_l1.1 rfl rfl (Nat.le_of_ble_eq_true rfl) rfl ?_
      have k_l0 := k_l0.ext s14.1
      have k_l1 := k_l1.ext s14.1
      refine SF_iload 3 196 dX2_explore_194 rfl rfl ?_
      refine SF_icne 203 199 dX2_explore_196 rfl rfl (fun c15 => ?_) (fun c15 => ?_)
      · have h := ite_f c15 h
        refine SF_iconst (0 : Int32) 204 dX2_explore_203 rfl rfl ?_
        refine SF_sub [1, 2, 3, 4, 5, 6, 7, 8, 0] rfl ?_
        exact w_X2_explore_204 hd k110 hk110 (f_X2_explore_152 k110 n) ih l0 l1 l4 l5 l7 l8 l9 l10 v2 (0 : Int32) (l9 - l9 / (4 : Int32) * (4 : Int32)) g12 k_l0 k_l1 h
      · have h := ite_t c15 h
        refine SF_iconst (1 : Int32) 200 dX2_explore_199 rfl rfl ?_
        refine SF_goto 204 dX2_explore_200 rfl ?_
        refine SF_sub [1, 2, 3, 4, 5, 6, 7, 8, 0] rfl ?_
        exact w_X2_explore_204 hd k110 hk110 (f_X2_explore_152 k110 n) ih l0 l1 l4 l5 l7 l8 l9 l10 v2 (1 : Int32) (l9 - l9 / (4 : Int32) * (4 : Int32)) g12 k_l0 k_l1 h
    · have h := ite_t c10 h
      refine SF_goto 299 dX2_explore_180 rfl ?_
      refine SF_sub [1, 2, 3, 4, 5, 6, 7, 8] rfl ?_
      exact w_X2_explore_299 hd k110 hk110 (f_X2_explore_152 k110 n) ih l0 l1 l4 l5 l7 l8 l9 l10 g7 k_l0 k_l1 h

set_option maxRecDepth 20000 in
set_option maxHeartbeats 2000000 in
theorem w_X2_explore_110 {X : CX} {d : Nat} (hd : 2 ≤ d) {g' : G} {rx : Unit} : ∀ (n : Nat) (l0 : Nat) (l1 : Nat) (l4 : Int32) (l5 : Int32) (l7 : Int32) (l8 : Int32) (g : G), KD g l0 2 → KD g l1 4 → f_X2_explore_110 n l0 l1 l4 l5 l7 l8 g = some (rx, g') → SemF X m_X2_explore d 110 [(0, .ref (ad X l0)), (1, .ref (ad X l1)), (4, .int l4), (5, .int l5), (7, .int l7), (8, .int l8)] [] g none g' := by
  intro n
  induction n with
  | zero =>
    intro l0 l1 l4 l5 l7 l8 g k_l0 k_l1 h
    rw [f_X2_explore_110] at h
    cases h
  | succ n ih =>
  intro l0 l1 l4 l5 l7 l8 g k_l0 k_l1 h
  rw [f_X2_explore_110] at h
  refine SF_iload 5 112 dX2_explore_110 rfl rfl ?_
  refine SF_iload 4 114 dX2_explore_112 rfl rfl ?_
  refine SF_icge 311 117 dX2_explore_114 rfl rfl (fun c1 => ?_) (fun c1 => ?_)
  · have h := ite_t c1 h
    exact RT_v rfl dX2_explore_311 h
  · have h := ite_f c1 h
    refine SF_iload 5 119 dX2_explore_117 rfl rfl ?_
    refine SF_sipush (1024 : Int32) 122 dX2_explore_119 rfl rfl ?_
    refine SF_icge 311 125 dX2_explore_122 rfl rfl (fun c2 => ?_) (fun c2 => ?_)
    · have h := ite_t c2 h
      exact RT_v rfl dX2_explore_311 h
    · have h := ite_f c2 h
      refine SF_aload_n 0 126 dX2_explore_125 rfl rfl rfl ?_
      obtain ⟨b3, r4, h⟩ := dr_some h
      refine SF_getR 129 fl_X2_9 dX2_explore_126 k_l0.1 r4 rfl ?_
      refine SF_iload 5 131 dX2_explore_129 rfl rfl ?_
      obtain ⟨k5, h⟩ := gdK_some h
      obtain ⟨i6, h⟩ := gdI_some h
      refine SF_iald 132 dX2_explore_131 k5.1 i6 rfl ?_
      obtain ⟨y7, e8, h⟩ := li_some h
      refine SF_eqI e8 ?_
      refine SF_istore [(9, .int y7), (0, .ref (ad X l0)), (1, .ref (ad X l1)), (4, .int l4), (5, .int l5), (7, .int l7), (8, .int l8)] 134 dX2_explore_132 (by decide) rfl rfl ?_
      refine SF_iload 0 136 dX2_explore_134 rfl rfl ?_
      refine SF_iconst (4 : Int32) 137 dX2_explore_136 rfl rfl ?_
      refine SF_irem 138 dX2_explore_137 (by decide) rfl ?_
      refine SF_iconst (3 : Int32) 139 dX2_explore_138 rfl rfl ?_
      refine SF_icne 149 142 dX2_explore_139 rfl rfl (fun c9 => ?_) (fun c9 => ?_)
      · have h := ite_f c9 h
        refine SF_iconst (0 : Int32) 150 dX2_explore_149 rfl rfl ?_
        refine SF_istore [(10, .int (0 : Int32)), (9, .int y7), (0, .ref (ad X l0)), (1, .ref (ad X l1)), (4, .int l4), (5, .int l5), (7, .int l7), (8, .int l8)] 152 dX2_explore_150 (by decide) rfl rfl ?_
        refine SF_sub [2, 3, 4, 5, 6, 7, 1, 0] rfl ?_
        exact w_X2_explore_152 hd (f_X2_explore_110 n) ih FU l0 l1 l4 l5 l7 l8 y7 (0 : Int32) g k_l0 k_l1 h
      · have h := ite_t c9 h
        refine SF_aload_n 1 143 dX2_explore_142 rfl rfl rfl ?_
        refine SF_iload 0 145 dX2_explore_143 rfl rfl ?_
        refine SF_putI 148 fl_X2_30 dX2_explore_145 k_l0.1 (fn_int _) (Or.inl rfl) rfl ?_
        obtain ⟨g10, e11, h⟩ := lg_some h
        rw [← e11]
        have k_l0 := KD.eq e11 k_l0
        have k_l1 := KD.eq e11 k_l1
        have k5 := KD.eq e11 k5
        have r4 := gR_eq e11 r4
        have i6 := vp_eq e11 i6
        exact RT_v rfl dX2_explore_148 h

set_option maxRecDepth 20000 in
set_option maxHeartbeats 2000000 in
theorem w_X2_explore_72 {X : CX} {d : Nat} (hd : 2 ≤ d) {g' : G} {rx : Unit} (l0 : Nat) (l1 : Nat) (l2 : Nat) (l3 : Int32) (l4 : Int32) (l5 : Int32) (s0 : Int32) (s1 : Int32) (g : G) (k_l0 : KD g l0 2) (k_l1 : KD g l1 4) (k_l2 : KD g l2 0) (h : f_X2_explore_72 l0 l1 l2 l3 l4 l5 s0 s1 g = some (rx, g')) : SemF X m_X2_explore d 72 [(0, .ref (ad X l0)), (1, .ref (ad X l1)), (2, .ref (ad X l2)), (3, .int l3), (4, .int l4), (5, .int l5)] [.int s0, .int s1] g none g' := by
  rw [f_X2_explore_72] at h
  refine SF_iadd 73 dX2_explore_72 rfl ?_
  obtain ⟨y1, e2, h⟩ := li_some h
  refine SF_eqI e2 ?_
  refine SF_istore [(6, .int y1), (0, .ref (ad X l0)), (1, .ref (ad X l1)), (2, .ref (ad X l2)), (3, .int l3), (4, .int l4), (5, .int l5)] 75 dX2_explore_73 (by decide) rfl rfl ?_
  refine SF_iconst (1 : Int32) 76 dX2_explore_75 rfl rfl ?_
  refine SF_istore [(7, .int (1 : Int32)), (6, .int y1), (0, .ref (ad X l0)), (1, .ref (ad X l1)), (2, .ref (ad X l2)), (3, .int l3), (4, .int l4), (5, .int l5)] 78 dX2_explore_76 (by decide) rfl rfl ?_
  refine SF_aload_n 2 79 dX2_explore_78 rfl rfl rfl ?_
  obtain ⟨b3, r4, h⟩ := dr_some h
  refine SF_getR 82 fl_X2_9 dX2_explore_79 k_l0.1 r4 rfl ?_
  refine SF_iconst (0 : Int32) 83 dX2_explore_82 rfl rfl ?_
  refine SF_aload_n 4 84 dX2_explore_83 rfl rfl rfl ?_
  obtain ⟨b5, r6, h⟩ := dr_some h
  refine SF_getR 87 fl_X2_49 dX2_explore_84 k_l2.1 r6 rfl ?_
  refine SF_iload_n 5 88 dX2_explore_87 rfl rfl rfl ?_
  obtain ⟨k7, h⟩ := gdK_some h
  obtain ⟨i8, h⟩ := gdI_some h
  refine SF_iald 89 dX2_explore_88 k7.1 i8 rfl ?_
  refine SF_iload 1 91 dX2_explore_89 rfl rfl ?_
  refine SF_ior 92 dX2_explore_91 rfl ?_
  refine SF_iconst (3 : Int32) 93 dX2_explore_92 rfl rfl ?_
  refine SF_iand 94 dX2_explore_93 rfl ?_
  obtain ⟨k9, h⟩ := gdK_some h
  obtain ⟨i10, h⟩ := gdI_some h
  refine SF_iast 95 dX2_explore_94 k9.1 i10 rfl ?_
  obtain ⟨g11, e12, h⟩ := lg_some h
  rw [← e12]
  have k_l0 := KD.eq e12 k_l0
  have k_l1 := KD.eq e12 k_l1
  have k_l2 := KD.eq e12 k_l2
  have k7 := KD.eq e12 k7
  have k9 := KD.eq e12 k9
  have r4 := gR_eq e12 r4
  have r6 := gR_eq e12 r6
  have i8 := vp_eq e12 i8
  have i10 := vp_eq e12 i10
  refine SF_aload_n 2 96 dX2_explore_95 rfl rfl rfl ?_
  obtain ⟨b13, r14, h⟩ := dr_some h
  refine SF_getR 99 fl_X2_21 dX2_explore_96 k_l0.1 r14 rfl ?_
  refine SF_aload_n 2 100 dX2_explore_99 rfl rfl rfl ?_
  refine SF_getR 103 fl_X2_9 dX2_explore_100 k_l0.1 r4 rfl ?_
  refine SF_iconst (0 : Int32) 104 dX2_explore_103 rfl rfl ?_
  refine SF_iald 105 dX2_explore_104 k9.1 i10 rfl ?_
  refine SF_iconst (0 : Int32) 106 dX2_explore_105 rfl rfl ?_
  obtain ⟨k15, h⟩ := gdK_some h
  obtain ⟨i16, h⟩ := gdI_some h
  refine SF_iast 107 dX2_explore_106 k15.1 i16 rfl ?_
  obtain ⟨g17, e18, h⟩ := lg_some h
  rw [← e18]
  have k_l0 := KD.eq e18 k_l0
  have k_l1 := KD.eq e18 k_l1
  have k_l2 := KD.eq e18 k_l2
  have k7 := KD.eq e18 k7
  have k9 := KD.eq e18 k9
  have k15 := KD.eq e18 k15
  have r4 := gR_eq e18 r4
  have r6 := gR_eq e18 r6
  have r14 := gR_eq e18 r14
  have i8 := vp_eq e18 i8
  have i10 := vp_eq e18 i10
  have i16 := vp_eq e18 i16
  refine SF_iconst (0 : Int32) 108 dX2_explore_107 rfl rfl ?_
  refine SF_istore [(8, .int (0 : Int32)), (7, .int (1 : Int32)), (6, .int y1), (0, .ref (ad X l0)), (1, .ref (ad X l1)), (2, .ref (ad X l2)), (3, .int l3), (4, .int l4), (5, .int l5)] 110 dX2_explore_108 (by decide) rfl rfl ?_
  refine SF_sub [3, 4, 7, 8, 1, 0] rfl ?_
  exact w_X2_explore_110 hd FU l0 l1 l4 l5 (1 : Int32) (0 : Int32) g17 k_l0 k_l1 h

set_option maxRecDepth 20000 in
set_option maxHeartbeats 2000000 in
theorem w_X2_explore_61 {X : CX} {d : Nat} (hd : 2 ≤ d) {g' : G} {rx : Unit} (l0 : Nat) (l1 : Nat) (l2 : Nat) (l3 : Int32) (l4 : Int32) (l5 : Int32) (s0 : Int32) (g : G) (k_l0 : KD g l0 2) (k_l1 : KD g l1 4) (k_l2 : KD g l2 0) (h : f_X2_explore_61 l0 l1 l2 l3 l4 l5 s0 g = some (rx, g')) : SemF X m_X2_explore d 61 [(0, .ref (ad X l0)), (1, .ref (ad X l1)), (2, .ref (ad X l2)), (3, .int l3), (4, .int l4), (5, .int l5)] [.int s0] g none g' := by
  rw [f_X2_explore_61] at h
  refine SF_iload 5 63 dX2_explore_61 rfl rfl ?_
  refine SF_iconst (-1 : Int32) 64 dX2_explore_63 rfl rfl ?_
  refine SF_icne 71 67 dX2_explore_64 rfl rfl (fun c1 => ?_) (fun c1 => ?_)
  · have h := ite_f c1 h
    refine SF_iconst (0 : Int32) 72 dX2_explore_71 rfl rfl ?_
    exact w_X2_explore_72 hd l0 l1 l2 l3 l4 l5 (0 : Int32) s0 g k_l0 k_l1 k_l2 h
  · have h := ite_t c1 h
    refine SF_iconst (2 : Int32) 68 dX2_explore_67 rfl rfl ?_
    refine SF_goto 72 dX2_explore_68 rfl ?_
    exact w_X2_explore_72 hd l0 l1 l2 l3 l4 l5 (2 : Int32) s0 g k_l0 k_l1 k_l2 h

set_option maxRecDepth 20000 in
set_option maxHeartbeats 2000000 in
theorem w_X2_explore {X : CX} {d : Nat} (hd : 2 ≤ d) (l0 : Nat) (l1 : Nat) (l2 : Nat) (l3 : Int32) (g g' : G) (rx : Unit) (k_l0 : KD g l0 2) (k_l1 : KD g l1 4) (k_l2 : KD g l2 0) (h : f_X2_explore l0 l1 l2 l3 g = some (rx, g')) : Sem X m_X2_explore d [.ref (ad X l0), .ref (ad X l1), .ref (ad X l2), .int l3] g none g' := by
  refine Sem_of (lo := [(0, .ref (ad X l0)), (1, .ref (ad X l1)), (2, .ref (ad X l2)), (3, .int l3)]) (by decide +kernel) rfl (Nat.le_of_ble_eq_true rfl) ?_
  rw [f_X2_explore] at h
  refine SF_aload_n 0 1 dX2_explore_0 rfl rfl rfl ?_
  obtain ⟨b1, r2, h⟩ := dr_some h
  refine SF_getR 4 fl_X2_21 dX2_explore_1 k_l0.1 r2 rfl ?_
  refine SF_iconst (-1 : Int32) 5 dX2_explore_4 rfl rfl ?_
  obtain ⟨k3, h⟩ := gdK_some h
  obtain ⟨v4, g5, q6, h⟩ := bd_some h
  have s7 := w_J7_fill_53178 (X := X) (Nat.le_refl 0) b1 (-1 : Int32) g g5 v4 k3 q6
  refine SF_callSv 8 mi_J7_fill_53178 ml_X2_24 dX2_explore_5 (Nat.le_trans (by decide) hd) s7 rfl rfl (Nat.le_of_ble_eq_true rfl) rfl ?_
  have k_l0 := k_l0.ext s7.1
  have k_l1 := k_l1.ext s7.1
  have k_l2 := k_l2.ext s7.1
  have k3 := k3.ext s7.1
  refine SF_aload_n 0 9 dX2_explore_8 rfl rfl rfl ?_
  refine SF_iconst (-1 : Int32) 10 dX2_explore_9 rfl rfl ?_
  refine SF_putI 13 fl_X2_30 dX2_explore_10 k_l0.1 (fn_int _) (Or.inl rfl) rfl ?_
  obtain ⟨g8, e9, h⟩ := lg_some h
  rw [← e9]
  have k_l0 := KD.eq e9 k_l0
  have k_l1 := KD.eq e9 k_l1
  have k_l2 := KD.eq e9 k_l2
  have k3 := KD.eq e9 k3
  refine SF_aload_n 2 14 dX2_explore_13 rfl rfl rfl ?_
  refine SF_iload_n 3 15 dX2_explore_14 rfl rfl rfl ?_
  obtain ⟨v10, g11, q12, h⟩ := bd_some h
  have s13 := w_X0_isPair (X := X) (Nat.le_refl 0) l2 l3 g8 g11 v10 k_l2 q12
  refine SF_callVb 18 mi_X0_isPair ml_X2_34 dX2_explore_15 (Nat.le_trans (by decide) hd) s13 k_l2.1 rfl rfl (Nat.le_of_ble_eq_true rfl) rfl ?_
  have k_l0 := k_l0.ext s13.1
  have k_l1 := k_l1.ext s13.1
  have k_l2 := k_l2.ext s13.1
  have k3 := k3.ext s13.1
  refine SF_ifne 22 21 dX2_explore_18 rfl rfl (fun c14 => ?_) (fun c14 => ?_)
  · have h := ite_f c14 h
    refine SF_aload_n 2 23 dX2_explore_22 rfl rfl rfl ?_
    obtain ⟨b15, r16, h⟩ := dr_some h
    refine SF_getR 26 fl_X2_40 dX2_explore_23 k_l2.1 r16 rfl ?_
    obtain ⟨k17, h⟩ := gdK_some h
    obtain ⟨b18, r19, h⟩ := dr_some h
    refine SF_getR 29 fl_X2_44 dX2_explore_26 k17.1 r19 rfl ?_
    refine SF_iconst (2 : Int32) 30 dX2_explore_29 rfl rfl ?_
    refine SF_iload_n 3 31 dX2_explore_30 rfl rfl rfl ?_
    refine SF_imul 32 dX2_explore_31 rfl ?_
    obtain ⟨k20, h⟩ := gdK_some h
    obtain ⟨i21, h⟩ := gdI_some h
    refine SF_iald 33 dX2_explore_32 k20.1 i21 rfl ?_
    obtain ⟨y22, e23, h⟩ := li_some h
    refine SF_eqI e23 ?_
    refine SF_istore [(4, .int y22), (0, .ref (ad X l0)), (1, .ref (ad X l1)), (2, .ref (ad X l2)), (3, .int l3)] 35 dX2_explore_33 (by decide) rfl rfl ?_
    refine SF_aload_n 3 36 dX2_explore_35 rfl rfl rfl ?_
    refine SF_getR 39 fl_X2_40 dX2_explore_36 k_l2.1 r16 rfl ?_
    refine SF_getR 42 fl_X2_44 dX2_explore_39 k17.1 r19 rfl ?_
    refine SF_iconst (2 : Int32) 43 dX2_explore_42 rfl rfl ?_
    refine SF_iload_n 4 44 dX2_explore_43 rfl rfl rfl ?_
    refine SF_imul 45 dX2_explore_44 rfl ?_
    refine SF_iconst (1 : Int32) 46 dX2_explore_45 rfl rfl ?_
    refine SF_iadd 47 dX2_explore_46 rfl ?_
    obtain ⟨i24, h⟩ := gdI_some h
    refine SF_iald 48 dX2_explore_47 k20.1 i24 rfl ?_
    obtain ⟨y25, e26, h⟩ := li_some h
    refine SF_eqI e26 ?_
    refine SF_istore [(5, .int y25), (4, .int y22), (0, .ref (ad X l0)), (1, .ref (ad X l1)), (2, .ref (ad X l2)), (3, .int l3)] 50 dX2_explore_48 (by decide) rfl rfl ?_
    refine SF_iload 1 52 dX2_explore_50 rfl rfl ?_
    refine SF_iconst (-1 : Int32) 53 dX2_explore_52 rfl rfl ?_
    refine SF_icne 60 56 dX2_explore_53 rfl rfl (fun c27 => ?_) (fun c27 => ?_)
    · have h := ite_f c27 h
      refine SF_iconst (0 : Int32) 61 dX2_explore_60 rfl rfl ?_
      refine SF_sub [2, 3, 4, 5, 1, 0] rfl ?_
      exact w_X2_explore_61 hd l0 l1 l2 l3 y22 y25 (0 : Int32) g11 k_l0 k_l1 k_l2 h
    · have h := ite_t c27 h
      refine SF_iconst (1 : Int32) 57 dX2_explore_56 rfl rfl ?_
      refine SF_goto 61 dX2_explore_57 rfl ?_
      refine SF_sub [2, 3, 4, 5, 1, 0] rfl ?_
      exact w_X2_explore_61 hd l0 l1 l2 l3 y22 y25 (1 : Int32) g11 k_l0 k_l1 k_l2 h
  · have h := ite_t c14 h
    exact RT_v rfl dX2_explore_21 h

