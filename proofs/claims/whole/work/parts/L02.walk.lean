theorem dX4_init_0 : decode cX4_init 0 = .ok (.aload_n 0, 1) := by decide +kernel
theorem dX4_init_1 : decode cX4_init 1 = .ok (.invokespecial 3, 3) := by decide +kernel
theorem dX4_init_4 : decode cX4_init 4 = .ok (.aload_n 0, 1) := by decide +kernel
theorem dX4_init_5 : decode cX4_init 5 = .ok (.sipush 256, 3) := by decide +kernel
theorem dX4_init_8 : decode cX4_init 8 = .ok (.newarray .int, 2) := by decide +kernel
theorem dX4_init_10 : decode cX4_init 10 = .ok (.putfield 9, 3) := by decide +kernel
theorem dX4_init_13 : decode cX4_init 13 = .ok (.aload_n 0, 1) := by decide +kernel
theorem dX4_init_14 : decode cX4_init 14 = .ok (.sipush 256, 3) := by decide +kernel
theorem dX4_init_17 : decode cX4_init 17 = .ok (.newarray .int, 2) := by decide +kernel
theorem dX4_init_19 : decode cX4_init 19 = .ok (.putfield 15, 3) := by decide +kernel
theorem dX4_init_22 : decode cX4_init 22 = .ok (.aload_n 0, 1) := by decide +kernel
theorem dX4_init_23 : decode cX4_init 23 = .ok (.sipush 256, 3) := by decide +kernel
theorem dX4_init_26 : decode cX4_init 26 = .ok (.newarray .int, 2) := by decide +kernel
theorem dX4_init_28 : decode cX4_init 28 = .ok (.putfield 18, 3) := by decide +kernel
theorem dX4_init_31 : decode cX4_init 31 = .ok (.aload_n 0, 1) := by decide +kernel
theorem dX4_init_32 : decode cX4_init 32 = .ok (.sipush 256, 3) := by decide +kernel
theorem dX4_init_35 : decode cX4_init 35 = .ok (.newarray .int, 2) := by decide +kernel
theorem dX4_init_37 : decode cX4_init 37 = .ok (.putfield 21, 3) := by decide +kernel
theorem dX4_init_40 : decode cX4_init 40 = .ok (.aload_n 0, 1) := by decide +kernel
theorem dX4_init_41 : decode cX4_init 41 = .ok (.sipush 2048, 3) := by decide +kernel
theorem dX4_init_44 : decode cX4_init 44 = .ok (.newarray .int, 2) := by decide +kernel
theorem dX4_init_46 : decode cX4_init 46 = .ok (.putfield 24, 3) := by decide +kernel
theorem dX4_init_49 : decode cX4_init 49 = .ok (.aload_n 0, 1) := by decide +kernel
theorem dX4_init_50 : decode cX4_init 50 = .ok (.sipush 1296, 3) := by decide +kernel
theorem dX4_init_53 : decode cX4_init 53 = .ok (.newarray .int, 2) := by decide +kernel
theorem dX4_init_55 : decode cX4_init 55 = .ok (.putfield 27, 3) := by decide +kernel
theorem dX4_init_58 : decode cX4_init 58 = .ok (.return_, 1) := by decide +kernel
set_option maxRecDepth 20000 in
set_option maxHeartbeats 2000000 in
theorem w_X4_init {X : CX} {d : Nat} (hd : 1 ≤ d) (l0 : Nat) (g g' : G) (rx : Unit) (k_l0 : KD g l0 4) (h : f_X4_init l0 g = some (rx, g')) : Sem X m_X4_init d [.ref (ad X l0)] g none g' := by
  refine Sem_of (lo := [(0, .ref (ad X l0))]) (by decide +kernel) rfl (Nat.le_of_ble_eq_true rfl) ?_
  rw [f_X4_init] at h
  refine SF_aload_n 0 1 dX4_init_0 rfl rfl rfl ?_
  refine SF_objInit 4 ml_X4_3 wo_1 wo_2 dX4_init_1 (Nat.le_trans (by decide) hd) (Nat.le_of_ble_eq_true rfl) rfl ?_
  refine SF_aload_n 0 5 dX4_init_4 rfl rfl rfl ?_
  refine SF_sipush (256 : Int32) 8 dX4_init_5 rfl rfl ?_
  refine SF_newa 10 dX4_init_8 rfl (Or.inl ⟨rfl, rfl⟩) wr_int (by decide) (by decide) rfl ?_
  obtain ⟨g1, e2, h⟩ := lg_some h
  rw [← e2]
  have k_l0 := KD.alloc e2 k_l0
  have k5 := KD.fresh e2
  obtain ⟨a3, e4, h⟩ := ln_some h
  rw [← e4] at k5
  rw [← e4]
  refine SF_putR 13 fl_X4_9 dX4_init_10 k_l0.1 (fn_arr _ _) (Or.inr ⟨rfl, _, rfl, rfl⟩) rfl ?_
  obtain ⟨g6, e7, h⟩ := lg_some h
  rw [← e7]
  have k_l0 := KD.eq e7 k_l0
  have k5 := KD.eq e7 k5
  refine SF_aload_n 0 14 dX4_init_13 rfl rfl rfl ?_
  refine SF_sipush (256 : Int32) 17 dX4_init_14 rfl rfl ?_
  refine SF_newa 19 dX4_init_17 rfl (Or.inl ⟨rfl, rfl⟩) wr_int (by decide) (by decide) rfl ?_
  obtain ⟨g8, e9, h⟩ := lg_some h
  rw [← e9]
  have k_l0 := KD.alloc e9 k_l0
  have k5 := KD.alloc e9 k5
  have k12 := KD.fresh e9
  obtain ⟨a10, e11, h⟩ := ln_some h
  rw [← e11] at k12
  rw [← e11]
  refine SF_putR 22 fl_X4_15 dX4_init_19 k_l0.1 (fn_arr _ _) (Or.inr ⟨rfl, _, rfl, rfl⟩) rfl ?_
  obtain ⟨g13, e14, h⟩ := lg_some h
  rw [← e14]
  have k_l0 := KD.eq e14 k_l0
  have k5 := KD.eq e14 k5
  have k12 := KD.eq e14 k12
  refine SF_aload_n 0 23 dX4_init_22 rfl rfl rfl ?_
  refine SF_sipush (256 : Int32) 26 dX4_init_23 rfl rfl ?_
  refine SF_newa 28 dX4_init_26 rfl (Or.inl ⟨rfl, rfl⟩) wr_int (by decide) (by decide) rfl ?_
  obtain ⟨g15, e16, h⟩ := lg_some h
  rw [← e16]
  have k_l0 := KD.alloc e16 k_l0
  have k5 := KD.alloc e16 k5
  have k12 := KD.alloc e16 k12
  have k19 := KD.fresh e16
  obtain ⟨a17, e18, h⟩ := ln_some h
  rw [← e18] at k19
  rw [← e18]
  refine SF_putR 31 fl_X4_18 dX4_init_28 k_l0.1 (fn_arr _ _) (Or.inr ⟨rfl, _, rfl, rfl⟩) rfl ?_
  obtain ⟨g20, e21, h⟩ := lg_some h
  rw [← e21]
  have k_l0 := KD.eq e21 k_l0
  have k5 := KD.eq e21 k5
  have k12 := KD.eq e21 k12
  have k19 := KD.eq e21 k19
  refine SF_aload_n 0 32 dX4_init_31 rfl rfl rfl ?_
  refine SF_sipush (256 : Int32) 35 dX4_init_32 rfl rfl ?_
  refine SF_newa 37 dX4_init_35 rfl (Or.inl ⟨rfl, rfl⟩) wr_int (by decide) (by decide) rfl ?_
  obtain ⟨g22, e23, h⟩ := lg_some h
  rw [← e23]
  have k_l0 := KD.alloc e23 k_l0
  have k5 := KD.alloc e23 k5
  have k12 := KD.alloc e23 k12
  have k19 := KD.alloc e23 k19
  have k26 := KD.fresh e23
  obtain ⟨a24, e25, h⟩ := ln_some h
  rw [← e25] at k26
  rw [← e25]
  refine SF_putR 40 fl_X4_21 dX4_init_37 k_l0.1 (fn_arr _ _) (Or.inr ⟨rfl, _, rfl, rfl⟩) rfl ?_
  obtain ⟨g27, e28, h⟩ := lg_some h
  rw [← e28]
  have k_l0 := KD.eq e28 k_l0
  have k5 := KD.eq e28 k5
  have k12 := KD.eq e28 k12
  have k19 := KD.eq e28 k19
  have k26 := KD.eq e28 k26
  refine SF_aload_n 0 41 dX4_init_40 rfl rfl rfl ?_
  refine SF_sipush (2048 : Int32) 44 dX4_init_41 rfl rfl ?_
  refine SF_newa 46 dX4_init_44 rfl (Or.inl ⟨rfl, rfl⟩) wr_int (by decide) (by decide) rfl ?_
  obtain ⟨g29, e30, h⟩ := lg_some h
  rw [← e30]
  have k_l0 := KD.alloc e30 k_l0
  have k5 := KD.alloc e30 k5
  have k12 := KD.alloc e30 k12
  have k19 := KD.alloc e30 k19
  have k26 := KD.alloc e30 k26
  have k33 := KD.fresh e30
  obtain ⟨a31, e32, h⟩ := ln_some h
  rw [← e32] at k33
  rw [← e32]
  refine SF_putR 49 fl_X4_24 dX4_init_46 k_l0.1 (fn_arr _ _) (Or.inr ⟨rfl, _, rfl, rfl⟩) rfl ?_
  obtain ⟨g34, e35, h⟩ := lg_some h
  rw [← e35]
  have k_l0 := KD.eq e35 k_l0
  have k5 := KD.eq e35 k5
  have k12 := KD.eq e35 k12
  have k19 := KD.eq e35 k19
  have k26 := KD.eq e35 k26
  have k33 := KD.eq e35 k33
  refine SF_aload_n 0 50 dX4_init_49 rfl rfl rfl ?_
  refine SF_sipush (1296 : Int32) 53 dX4_init_50 rfl rfl ?_
  refine SF_newa 55 dX4_init_53 rfl (Or.inl ⟨rfl, rfl⟩) wr_int (by decide) (by decide) rfl ?_
  obtain ⟨g36, e37, h⟩ := lg_some h
  rw [← e37]
  have k_l0 := KD.alloc e37 k_l0
  have k5 := KD.alloc e37 k5
  have k12 := KD.alloc e37 k12
  have k19 := KD.alloc e37 k19
  have k26 := KD.alloc e37 k26
  have k33 := KD.alloc e37 k33
  have k40 := KD.fresh e37
  obtain ⟨a38, e39, h⟩ := ln_some h
  rw [← e39] at k40
  rw [← e39]
  refine SF_putR 58 fl_X4_27 dX4_init_55 k_l0.1 (fn_arr _ _) (Or.inr ⟨rfl, _, rfl, rfl⟩) rfl ?_
  obtain ⟨g41, e42, h⟩ := lg_some h
  rw [← e42]
  have k_l0 := KD.eq e42 k_l0
  have k5 := KD.eq e42 k5
  have k12 := KD.eq e42 k12
  have k19 := KD.eq e42 k19
  have k26 := KD.eq e42 k26
  have k33 := KD.eq e42 k33
  have k40 := KD.eq e42 k40
  exact RT_v rfl dX4_init_58 h

theorem dX1_init_0 : decode cX1_init 0 = .ok (.aload_n 0, 1) := by decide +kernel
theorem dX1_init_1 : decode cX1_init 1 = .ok (.invokespecial 3, 3) := by decide +kernel
theorem dX1_init_4 : decode cX1_init 4 = .ok (.aload_n 0, 1) := by decide +kernel
theorem dX1_init_5 : decode cX1_init 5 = .ok (.sipush 256, 3) := by decide +kernel
theorem dX1_init_8 : decode cX1_init 8 = .ok (.newarray .int, 2) := by decide +kernel
theorem dX1_init_10 : decode cX1_init 10 = .ok (.putfield 9, 3) := by decide +kernel
theorem dX1_init_13 : decode cX1_init 13 = .ok (.aload_n 0, 1) := by decide +kernel
theorem dX1_init_14 : decode cX1_init 14 = .ok (.sipush 2048, 3) := by decide +kernel
theorem dX1_init_17 : decode cX1_init 17 = .ok (.newarray .int, 2) := by decide +kernel
theorem dX1_init_19 : decode cX1_init 19 = .ok (.putfield 15, 3) := by decide +kernel
theorem dX1_init_22 : decode cX1_init 22 = .ok (.aload_n 0, 1) := by decide +kernel
theorem dX1_init_23 : decode cX1_init 23 = .ok (.sipush 256, 3) := by decide +kernel
theorem dX1_init_26 : decode cX1_init 26 = .ok (.newarray .int, 2) := by decide +kernel
theorem dX1_init_28 : decode cX1_init 28 = .ok (.putfield 18, 3) := by decide +kernel
theorem dX1_init_31 : decode cX1_init 31 = .ok (.aload_n 0, 1) := by decide +kernel
theorem dX1_init_32 : decode cX1_init 32 = .ok (.sipush 256, 3) := by decide +kernel
theorem dX1_init_35 : decode cX1_init 35 = .ok (.newarray .int, 2) := by decide +kernel
theorem dX1_init_37 : decode cX1_init 37 = .ok (.putfield 21, 3) := by decide +kernel
theorem dX1_init_40 : decode cX1_init 40 = .ok (.aload_n 0, 1) := by decide +kernel
theorem dX1_init_41 : decode cX1_init 41 = .ok (.sipush 256, 3) := by decide +kernel
theorem dX1_init_44 : decode cX1_init 44 = .ok (.newarray .int, 2) := by decide +kernel
theorem dX1_init_46 : decode cX1_init 46 = .ok (.putfield 24, 3) := by decide +kernel
theorem dX1_init_49 : decode cX1_init 49 = .ok (.return_, 1) := by decide +kernel
set_option maxRecDepth 20000 in
set_option maxHeartbeats 2000000 in
theorem w_X1_init {X : CX} {d : Nat} (hd : 1 ≤ d) (l0 : Nat) (g g' : G) (rx : Unit) (k_l0 : KD g l0 1) (h : f_X1_init l0 g = some (rx, g')) : Sem X m_X1_init d [.ref (ad X l0)] g none g' := by
  refine Sem_of (lo := [(0, .ref (ad X l0))]) (by decide +kernel) rfl (Nat.le_of_ble_eq_true rfl) ?_
  rw [f_X1_init] at h
  refine SF_aload_n 0 1 dX1_init_0 rfl rfl rfl ?_
  refine SF_objInit 4 ml_X1_3 wo_1 wo_2 dX1_init_1 (Nat.le_trans (by decide) hd) (Nat.le_of_ble_eq_true rfl) rfl ?_
  refine SF_aload_n 0 5 dX1_init_4 rfl rfl rfl ?_
  refine SF_sipush (256 : Int32) 8 dX1_init_5 rfl rfl ?_
  refine SF_newa 10 dX1_init_8 rfl (Or.inl ⟨rfl, rfl⟩) wr_int (by decide) (by decide) rfl ?_
  obtain ⟨g1, e2, h⟩ := lg_some h
  rw [← e2]
  have k_l0 := KD.alloc e2 k_l0
  have k5 := KD.fresh e2
  obtain ⟨a3, e4, h⟩ := ln_some h
  rw [← e4] at k5
  rw [← e4]
  refine SF_putR 13 fl_X1_9 dX1_init_10 k_l0.1 (fn_arr _ _) (Or.inr ⟨rfl, _, rfl, rfl⟩) rfl ?_
  obtain ⟨g6, e7, h⟩ := lg_some h
  rw [← e7]
  have k_l0 := KD.eq e7 k_l0
  have k5 := KD.eq e7 k5
  refine SF_aload_n 0 14 dX1_init_13 rfl rfl rfl ?_
  refine SF_sipush (2048 : Int32) 17 dX1_init_14 rfl rfl ?_
  refine SF_newa 19 dX1_init_17 rfl (Or.inl ⟨rfl, rfl⟩) wr_int (by decide) (by decide) rfl ?_
  obtain ⟨g8, e9, h⟩ := lg_some h
  rw [← e9]
  have k_l0 := KD.alloc e9 k_l0
  have k5 := KD.alloc e9 k5
  have k12 := KD.fresh e9
  obtain ⟨a10, e11, h⟩ := ln_some h
  rw [← e11] at k12
  rw [← e11]
  refine SF_putR 22 fl_X1_15 dX1_init_19 k_l0.1 (fn_arr _ _) (Or.inr ⟨rfl, _, rfl, rfl⟩) rfl ?_
  obtain ⟨g13, e14, h⟩ := lg_some h
  rw [← e14]
  have k_l0 := KD.eq e14 k_l0
  have k5 := KD.eq e14 k5
  have k12 := KD.eq e14 k12
  refine SF_aload_n 0 23 dX1_init_22 rfl rfl rfl ?_
  refine SF_sipush (256 : Int32) 26 dX1_init_23 rfl rfl ?_
  refine SF_newa 28 dX1_init_26 rfl (Or.inl ⟨rfl, rfl⟩) wr_int (by decide) (by decide) rfl ?_
  obtain ⟨g15, e16, h⟩ := lg_some h
  rw [← e16]
  have k_l0 := KD.alloc e16 k_l0
  have k5 := KD.alloc e16 k5
  have k12 := KD.alloc e16 k12
  have k19 := KD.fresh e16
  obtain ⟨a17, e18, h⟩ := ln_some h
  rw [← e18] at k19
  rw [← e18]
  refine SF_putR 31 fl_X1_18 dX1_init_28 k_l0.1 (fn_arr _ _) (Or.inr ⟨rfl, _, rfl, rfl⟩) rfl ?_
  obtain ⟨g20, e21, h⟩ := lg_some h
  rw [← e21]
  have k_l0 := KD.eq e21 k_l0
  have k5 := KD.eq e21 k5
  have k12 := KD.eq e21 k12
  have k19 := KD.eq e21 k19
  refine SF_aload_n 0 32 dX1_init_31 rfl rfl rfl ?_
  refine SF_sipush (256 : Int32) 35 dX1_init_32 rfl rfl ?_
  refine SF_newa 37 dX1_init_35 rfl (Or.inl ⟨rfl, rfl⟩) wr_int (by decide) (by decide) rfl ?_
  obtain ⟨g22, e23, h⟩ := lg_some h
  rw [← e23]
  have k_l0 := KD.alloc e23 k_l0
  have k5 := KD.alloc e23 k5
  have k12 := KD.alloc e23 k12
  have k19 := KD.alloc e23 k19
  have k26 := KD.fresh e23
  obtain ⟨a24, e25, h⟩ := ln_some h
  rw [← e25] at k26
  rw [← e25]
  refine SF_putR 40 fl_X1_21 dX1_init_37 k_l0.1 (fn_arr _ _) (Or.inr ⟨rfl, _, rfl, rfl⟩) rfl ?_
  obtain ⟨g27, e28, h⟩ := lg_some h
  rw [← e28]
  have k_l0 := KD.eq e28 k_l0
  have k5 := KD.eq e28 k5
  have k12 := KD.eq e28 k12
  have k19 := KD.eq e28 k19
  have k26 := KD.eq e28 k26
  refine SF_aload_n 0 41 dX1_init_40 rfl rfl rfl ?_
  refine SF_sipush (256 : Int32) 44 dX1_init_41 rfl rfl ?_
  refine SF_newa 46 dX1_init_44 rfl (Or.inl ⟨rfl, rfl⟩) wr_int (by decide) (by decide) rfl ?_
  obtain ⟨g29, e30, h⟩ := lg_some h
  rw [← e30]
  have k_l0 := KD.alloc e30 k_l0
  have k5 := KD.alloc e30 k5
  have k12 := KD.alloc e30 k12
  have k19 := KD.alloc e30 k19
  have k26 := KD.alloc e30 k26
  have k33 := KD.fresh e30
  obtain ⟨a31, e32, h⟩ := ln_some h
  rw [← e32] at k33
  rw [← e32]
  refine SF_putR 49 fl_X1_24 dX1_init_46 k_l0.1 (fn_arr _ _) (Or.inr ⟨rfl, _, rfl, rfl⟩) rfl ?_
  obtain ⟨g34, e35, h⟩ := lg_some h
  rw [← e35]
  have k_l0 := KD.eq e35 k_l0
  have k5 := KD.eq e35 k5
  have k12 := KD.eq e35 k12
  have k19 := KD.eq e35 k19
  have k26 := KD.eq e35 k26
  have k33 := KD.eq e35 k33
  exact RT_v rfl dX1_init_49 h

theorem dX2_init_0 : decode cX2_init 0 = .ok (.aload_n 0, 1) := by decide +kernel
theorem dX2_init_1 : decode cX2_init 1 = .ok (.invokespecial 3, 3) := by decide +kernel
theorem dX2_init_4 : decode cX2_init 4 = .ok (.aload_n 0, 1) := by decide +kernel
theorem dX2_init_5 : decode cX2_init 5 = .ok (.sipush 1024, 3) := by decide +kernel
theorem dX2_init_8 : decode cX2_init 8 = .ok (.newarray .int, 2) := by decide +kernel
theorem dX2_init_10 : decode cX2_init 10 = .ok (.putfield 9, 3) := by decide +kernel
theorem dX2_init_13 : decode cX2_init 13 = .ok (.aload_n 0, 1) := by decide +kernel
theorem dX2_init_14 : decode cX2_init 14 = .ok (.sipush 1024, 3) := by decide +kernel
theorem dX2_init_17 : decode cX2_init 17 = .ok (.newarray .int, 2) := by decide +kernel
theorem dX2_init_19 : decode cX2_init 19 = .ok (.putfield 15, 3) := by decide +kernel
theorem dX2_init_22 : decode cX2_init 22 = .ok (.aload_n 0, 1) := by decide +kernel
theorem dX2_init_23 : decode cX2_init 23 = .ok (.sipush 1024, 3) := by decide +kernel
theorem dX2_init_26 : decode cX2_init 26 = .ok (.newarray .int, 2) := by decide +kernel
theorem dX2_init_28 : decode cX2_init 28 = .ok (.putfield 18, 3) := by decide +kernel
theorem dX2_init_31 : decode cX2_init 31 = .ok (.aload_n 0, 1) := by decide +kernel
theorem dX2_init_32 : decode cX2_init 32 = .ok (.sipush 1024, 3) := by decide +kernel
theorem dX2_init_35 : decode cX2_init 35 = .ok (.newarray .int, 2) := by decide +kernel
theorem dX2_init_37 : decode cX2_init 37 = .ok (.putfield 21, 3) := by decide +kernel
theorem dX2_init_40 : decode cX2_init 40 = .ok (.return_, 1) := by decide +kernel
set_option maxRecDepth 20000 in
set_option maxHeartbeats 2000000 in
theorem w_X2_init {X : CX} {d : Nat} (hd : 1 ≤ d) (l0 : Nat) (g g' : G) (rx : Unit) (k_l0 : KD g l0 2) (h : f_X2_init l0 g = some (rx, g')) : Sem X m_X2_init d [.ref (ad X l0)] g none g' := by
  refine Sem_of (lo := [(0, .ref (ad X l0))]) (by decide +kernel) rfl (Nat.le_of_ble_eq_true rfl) ?_
  rw [f_X2_init] at h
  refine SF_aload_n 0 1 dX2_init_0 rfl rfl rfl ?_
  refine SF_objInit 4 ml_X2_3 wo_1 wo_2 dX2_init_1 (Nat.le_trans (by decide) hd) (Nat.le_of_ble_eq_true rfl) rfl ?_
  refine SF_aload_n 0 5 dX2_init_4 rfl rfl rfl ?_
  refine SF_sipush (1024 : Int32) 8 dX2_init_5 rfl rfl ?_
  refine SF_newa 10 dX2_init_8 rfl (Or.inl ⟨rfl, rfl⟩) wr_int (by decide) (by decide) rfl ?_
  obtain ⟨g1, e2, h⟩ := lg_some h
  rw [← e2]
  have k_l0 := KD.alloc e2 k_l0
  have k5 := KD.fresh e2
  obtain ⟨a3, e4, h⟩ := ln_some h
  rw [← e4] at k5
  rw [← e4]
  refine SF_putR 13 fl_X2_9 dX2_init_10 k_l0.1 (fn_arr _ _) (Or.inr ⟨rfl, _, rfl, rfl⟩) rfl ?_
  obtain ⟨g6, e7, h⟩ := lg_some h
  rw [← e7]
  have k_l0 := KD.eq e7 k_l0
  have k5 := KD.eq e7 k5
  refine SF_aload_n 0 14 dX2_init_13 rfl rfl rfl ?_
  refine SF_sipush (1024 : Int32) 17 dX2_init_14 rfl rfl ?_
  refine SF_newa 19 dX2_init_17 rfl (Or.inl ⟨rfl, rfl⟩) wr_int (by decide) (by decide) rfl ?_
  obtain ⟨g8, e9, h⟩ := lg_some h
  rw [← e9]
  have k_l0 := KD.alloc e9 k_l0
  have k5 := KD.alloc e9 k5
  have k12 := KD.fresh e9
  obtain ⟨a10, e11, h⟩ := ln_some h
  rw [← e11] at k12
  rw [← e11]
  refine SF_putR 22 fl_X2_15 dX2_init_19 k_l0.1 (fn_arr _ _) (Or.inr ⟨rfl, _, rfl, rfl⟩) rfl ?_
  obtain ⟨g13, e14, h⟩ := lg_some h
  rw [← e14]
  have k_l0 := KD.eq e14 k_l0
  have k5 := KD.eq e14 k5
  have k12 := KD.eq e14 k12
  refine SF_aload_n 0 23 dX2_init_22 rfl rfl rfl ?_
  refine SF_sipush (1024 : Int32) 26 dX2_init_23 rfl rfl ?_
  refine SF_newa 28 dX2_init_26 rfl (Or.inl ⟨rfl, rfl⟩) wr_int (by decide) (by decide) rfl ?_
  obtain ⟨g15, e16, h⟩ := lg_some h
  rw [← e16]
  have k_l0 := KD.alloc e16 k_l0
  have k5 := KD.alloc e16 k5
  have k12 := KD.alloc e16 k12
  have k19 := KD.fresh e16
  obtain ⟨a17, e18, h⟩ := ln_some h
  rw [← e18] at k19
  rw [← e18]
  refine SF_putR 31 fl_X2_18 dX2_init_28 k_l0.1 (fn_arr _ _) (Or.inr ⟨rfl, _, rfl, rfl⟩) rfl ?_
  obtain ⟨g20, e21, h⟩ := lg_some h
  rw [← e21]
  have k_l0 := KD.eq e21 k_l0
  have k5 := KD.eq e21 k5
  have k12 := KD.eq e21 k12
  have k19 := KD.eq e21 k19
  refine SF_aload_n 0 32 dX2_init_31 rfl rfl rfl ?_
  refine SF_sipush (1024 : Int32) 35 dX2_init_32 rfl rfl ?_
  refine SF_newa 37 dX2_init_35 rfl (Or.inl ⟨rfl, rfl⟩) wr_int (by decide) (by decide) rfl ?_
  obtain ⟨g22, e23, h⟩ := lg_some h
  rw [← e23]
  have k_l0 := KD.alloc e23 k_l0
  have k5 := KD.alloc e23 k5
  have k12 := KD.alloc e23 k12
  have k19 := KD.alloc e23 k19
  have k26 := KD.fresh e23
  obtain ⟨a24, e25, h⟩ := ln_some h
  rw [← e25] at k26
  rw [← e25]
  refine SF_putR 40 fl_X2_21 dX2_init_37 k_l0.1 (fn_arr _ _) (Or.inr ⟨rfl, _, rfl, rfl⟩) rfl ?_
  obtain ⟨g27, e28, h⟩ := lg_some h
  rw [← e28]
  have k_l0 := KD.eq e28 k_l0
  have k5 := KD.eq e28 k5
  have k12 := KD.eq e28 k12
  have k19 := KD.eq e28 k19
  have k26 := KD.eq e28 k26
  exact RT_v rfl dX2_init_40 h

theorem dX3_init_0 : decode cX3_init 0 = .ok (.aload_n 0, 1) := by decide +kernel
theorem dX3_init_1 : decode cX3_init 1 = .ok (.invokespecial 3, 3) := by decide +kernel
theorem dX3_init_4 : decode cX3_init 4 = .ok (.aload_n 0, 1) := by decide +kernel
theorem dX3_init_5 : decode cX3_init 5 = .ok (.sipush 512, 3) := by decide +kernel
theorem dX3_init_8 : decode cX3_init 8 = .ok (.newarray .int, 2) := by decide +kernel
theorem dX3_init_10 : decode cX3_init 10 = .ok (.putfield 9, 3) := by decide +kernel
theorem dX3_init_13 : decode cX3_init 13 = .ok (.aload_n 0, 1) := by decide +kernel
theorem dX3_init_14 : decode cX3_init 14 = .ok (.sipush 2048, 3) := by decide +kernel
theorem dX3_init_17 : decode cX3_init 17 = .ok (.newarray .int, 2) := by decide +kernel
theorem dX3_init_19 : decode cX3_init 19 = .ok (.putfield 15, 3) := by decide +kernel
theorem dX3_init_22 : decode cX3_init 22 = .ok (.aload_n 0, 1) := by decide +kernel
theorem dX3_init_23 : decode cX3_init 23 = .ok (.sipush 2048, 3) := by decide +kernel
theorem dX3_init_26 : decode cX3_init 26 = .ok (.newarray .int, 2) := by decide +kernel
theorem dX3_init_28 : decode cX3_init 28 = .ok (.putfield 18, 3) := by decide +kernel
theorem dX3_init_31 : decode cX3_init 31 = .ok (.aload_n 0, 1) := by decide +kernel
theorem dX3_init_32 : decode cX3_init 32 = .ok (.sipush 512, 3) := by decide +kernel
theorem dX3_init_35 : decode cX3_init 35 = .ok (.newarray .int, 2) := by decide +kernel
theorem dX3_init_37 : decode cX3_init 37 = .ok (.putfield 21, 3) := by decide +kernel
theorem dX3_init_40 : decode cX3_init 40 = .ok (.aload_n 0, 1) := by decide +kernel
theorem dX3_init_41 : decode cX3_init 41 = .ok (.sipush 512, 3) := by decide +kernel
theorem dX3_init_44 : decode cX3_init 44 = .ok (.newarray .int, 2) := by decide +kernel
theorem dX3_init_46 : decode cX3_init 46 = .ok (.putfield 24, 3) := by decide +kernel
theorem dX3_init_49 : decode cX3_init 49 = .ok (.aload_n 0, 1) := by decide +kernel
theorem dX3_init_50 : decode cX3_init 50 = .ok (.sipush 512, 3) := by decide +kernel
theorem dX3_init_53 : decode cX3_init 53 = .ok (.newarray .int, 2) := by decide +kernel
theorem dX3_init_55 : decode cX3_init 55 = .ok (.putfield 27, 3) := by decide +kernel
theorem dX3_init_58 : decode cX3_init 58 = .ok (.aload_n 0, 1) := by decide +kernel
theorem dX3_init_59 : decode cX3_init 59 = .ok (.sipush 512, 3) := by decide +kernel
theorem dX3_init_62 : decode cX3_init 62 = .ok (.newarray .int, 2) := by decide +kernel
theorem dX3_init_64 : decode cX3_init 64 = .ok (.putfield 30, 3) := by decide +kernel
theorem dX3_init_67 : decode cX3_init 67 = .ok (.return_, 1) := by decide +kernel
set_option maxRecDepth 20000 in
set_option maxHeartbeats 2000000 in
theorem w_X3_init {X : CX} {d : Nat} (hd : 1 ≤ d) (l0 : Nat) (g g' : G) (rx : Unit) (k_l0 : KD g l0 3) (h : f_X3_init l0 g = some (rx, g')) : Sem X m_X3_init d [.ref (ad X l0)] g none g' := by
  refine Sem_of (lo := [(0, .ref (ad X l0))]) (by decide +kernel) rfl (Nat.le_of_ble_eq_true rfl) ?_
  rw [f_X3_init] at h
  refine SF_aload_n 0 1 dX3_init_0 rfl rfl rfl ?_
  refine SF_objInit 4 ml_X3_3 wo_1 wo_2 dX3_init_1 (Nat.le_trans (by decide) hd) (Nat.le_of_ble_eq_true rfl) rfl ?_
  refine SF_aload_n 0 5 dX3_init_4 rfl rfl rfl ?_
  refine SF_sipush (512 : Int32) 8 dX3_init_5 rfl rfl ?_
  refine SF_newa 10 dX3_init_8 rfl (Or.inl ⟨rfl, rfl⟩) wr_int (by decide) (by decide) rfl ?_
  obtain ⟨g1, e2, h⟩ := lg_some h
  rw [← e2]
  have k_l0 := KD.alloc e2 k_l0
  have k5 := KD.fresh e2
  obtain ⟨a3, e4, h⟩ := ln_some h
  rw [← e4] at k5
  rw [← e4]
  refine SF_putR 13 fl_X3_9 dX3_init_10 k_l0.1 (fn_arr _ _) (Or.inr ⟨rfl, _, rfl, rfl⟩) rfl ?_
  obtain ⟨g6, e7, h⟩ := lg_some h
  rw [← e7]
  have k_l0 := KD.eq e7 k_l0
  have k5 := KD.eq e7 k5
  refine SF_aload_n 0 14 dX3_init_13 rfl rfl rfl ?_
  refine SF_sipush (2048 : Int32) 17 dX3_init_14 rfl rfl ?_
  refine SF_newa 19 dX3_init_17 rfl (Or.inl ⟨rfl, rfl⟩) wr_int (by decide) (by decide) rfl ?_
  obtain ⟨g8, e9, h⟩ := lg_some h
  rw [← e9]
  have k_l0 := KD.alloc e9 k_l0
  have k5 := KD.alloc e9 k5
  have k12 := KD.fresh e9
  obtain ⟨a10, e11, h⟩ := ln_some h
  rw [← e11] at k12
  rw [← e11]
  refine SF_putR 22 fl_X3_15 dX3_init_19 k_l0.1 (fn_arr _ _) (Or.inr ⟨rfl, _, rfl, rfl⟩) rfl ?_
  obtain ⟨g13, e14, h⟩ := lg_some h
  rw [← e14]
  have k_l0 := KD.eq e14 k_l0
  have k5 := KD.eq e14 k5
  have k12 := KD.eq e14 k12
  refine SF_aload_n 0 23 dX3_init_22 rfl rfl rfl ?_
  refine SF_sipush (2048 : Int32) 26 dX3_init_23 rfl rfl ?_
  refine SF_newa 28 dX3_init_26 rfl (Or.inl ⟨rfl, rfl⟩) wr_int (by decide) (by decide) rfl ?_
  obtain ⟨g15, e16, h⟩ := lg_some h
  rw [← e16]
  have k_l0 := KD.alloc e16 k_l0
  have k5 := KD.alloc e16 k5
  have k12 := KD.alloc e16 k12
  have k19 := KD.fresh e16
  obtain ⟨a17, e18, h⟩ := ln_some h
  rw [← e18] at k19
  rw [← e18]
  refine SF_putR 31 fl_X3_18 dX3_init_28 k_l0.1 (fn_arr _ _) (Or.inr ⟨rfl, _, rfl, rfl⟩) rfl ?_
  obtain ⟨g20, e21, h⟩ := lg_some h
  rw [← e21]
  have k_l0 := KD.eq e21 k_l0
  have k5 := KD.eq e21 k5
  have k12 := KD.eq e21 k12
  have k19 := KD.eq e21 k19
  refine SF_aload_n 0 32 dX3_init_31 rfl rfl rfl ?_
  refine SF_sipush (512 : Int32) 35 dX3_init_32 rfl rfl ?_
  refine SF_newa 37 dX3_init_35 rfl (Or.inl ⟨rfl, rfl⟩) wr_int (by decide) (by decide) rfl ?_
  obtain ⟨g22, e23, h⟩ := lg_some h
  rw [← e23]
  have k_l0 := KD.alloc e23 k_l0
  have k5 := KD.alloc e23 k5
  have k12 := KD.alloc e23 k12
  have k19 := KD.alloc e23 k19
  have k26 := KD.fresh e23
  obtain ⟨a24, e25, h⟩ := ln_some h
  rw [← e25] at k26
  rw [← e25]
  refine SF_putR 40 fl_X3_21 dX3_init_37 k_l0.1 (fn_arr _ _) (Or.inr ⟨rfl, _, rfl, rfl⟩) rfl ?_
  obtain ⟨g27, e28, h⟩ := lg_some h
  rw [← e28]
  have k_l0 := KD.eq e28 k_l0
  have k5 := KD.eq e28 k5
  have k12 := KD.eq e28 k12
  have k19 := KD.eq e28 k19
  have k26 := KD.eq e28 k26
  refine SF_aload_n 0 41 dX3_init_40 rfl rfl rfl ?_
  refine SF_sipush (512 : Int32) 44 dX3_init_41 rfl rfl ?_
  refine SF_newa 46 dX3_init_44 rfl (Or.inl ⟨rfl, rfl⟩) wr_int (by decide) (by decide) rfl ?_
  obtain ⟨g29, e30, h⟩ := lg_some h
  rw [← e30]
  have k_l0 := KD.alloc e30 k_l0
  have k5 := KD.alloc e30 k5
  have k12 := KD.alloc e30 k12
  have k19 := KD.alloc e30 k19
  have k26 := KD.alloc e30 k26
  have k33 := KD.fresh e30
  obtain ⟨a31, e32, h⟩ := ln_some h
  rw [← e32] at k33
  rw [← e32]
  refine SF_putR 49 fl_X3_24 dX3_init_46 k_l0.1 (fn_arr _ _) (Or.inr ⟨rfl, _, rfl, rfl⟩) rfl ?_
  obtain ⟨g34, e35, h⟩ := lg_some h
  rw [← e35]
  have k_l0 := KD.eq e35 k_l0
  have k5 := KD.eq e35 k5
  have k12 := KD.eq e35 k12
  have k19 := KD.eq e35 k19
  have k26 := KD.eq e35 k26
  have k33 := KD.eq e35 k33
  refine SF_aload_n 0 50 dX3_init_49 rfl rfl rfl ?_
  refine SF_sipush (512 : Int32) 53 dX3_init_50 rfl rfl ?_
  refine SF_newa 55 dX3_init_53 rfl (Or.inl ⟨rfl, rfl⟩) wr_int (by decide) (by decide) rfl ?_
  obtain ⟨g36, e37, h⟩ := lg_some h
  rw [← e37]
  have k_l0 := KD.alloc e37 k_l0
  have k5 := KD.alloc e37 k5
  have k12 := KD.alloc e37 k12
  have k19 := KD.alloc e37 k19
  have k26 := KD.alloc e37 k26
  have k33 := KD.alloc e37 k33
  have k40 := KD.fresh e37
  obtain ⟨a38, e39, h⟩ := ln_some h
  rw [← e39] at k40
  rw [← e39]
  refine SF_putR 58 fl_X3_27 dX3_init_55 k_l0.1 (fn_arr _ _) (Or.inr ⟨rfl, _, rfl, rfl⟩) rfl ?_
  obtain ⟨g41, e42, h⟩ := lg_some h
  rw [← e42]
  have k_l0 := KD.eq e42 k_l0
  have k5 := KD.eq e42 k5
  have k12 := KD.eq e42 k12
  have k19 := KD.eq e42 k19
  have k26 := KD.eq e42 k26
  have k33 := KD.eq e42 k33
  have k40 := KD.eq e42 k40
  refine SF_aload_n 0 59 dX3_init_58 rfl rfl rfl ?_
  refine SF_sipush (512 : Int32) 62 dX3_init_59 rfl rfl ?_
  refine SF_newa 64 dX3_init_62 rfl (Or.inl ⟨rfl, rfl⟩) wr_int (by decide) (by decide) rfl ?_
  obtain ⟨g43, e44, h⟩ := lg_some h
  rw [← e44]
  have k_l0 := KD.alloc e44 k_l0
  have k5 := KD.alloc e44 k5
  have k12 := KD.alloc e44 k12
  have k19 := KD.alloc e44 k19
  have k26 := KD.alloc e44 k26
  have k33 := KD.alloc e44 k33
  have k40 := KD.alloc e44 k40
  have k47 := KD.fresh e44
  obtain ⟨a45, e46, h⟩ := ln_some h
  rw [← e46] at k47
  rw [← e46]
  refine SF_putR 67 fl_X3_30 dX3_init_64 k_l0.1 (fn_arr _ _) (Or.inr ⟨rfl, _, rfl, rfl⟩) rfl ?_
  obtain ⟨g48, e49, h⟩ := lg_some h
  rw [← e49]
  have k_l0 := KD.eq e49 k_l0
  have k5 := KD.eq e49 k5
  have k12 := KD.eq e49 k12
  have k19 := KD.eq e49 k19
  have k26 := KD.eq e49 k26
  have k33 := KD.eq e49 k33
  have k40 := KD.eq e49 k40
  have k47 := KD.eq e49 k47
  exact RT_v rfl dX3_init_67 h

theorem dX6_init_0 : decode cX6_init 0 = .ok (.aload_n 0, 1) := by decide +kernel
theorem dX6_init_1 : decode cX6_init 1 = .ok (.invokespecial 3, 3) := by decide +kernel
theorem dX6_init_4 : decode cX6_init 4 = .ok (.aload_n 0, 1) := by decide +kernel
theorem dX6_init_5 : decode cX6_init 5 = .ok (.iconst 2, 1) := by decide +kernel
theorem dX6_init_6 : decode cX6_init 6 = .ok (.sipush 256, 3) := by decide +kernel
theorem dX6_init_9 : decode cX6_init 9 = .ok (.multianewarray 9 2, 4) := by decide +kernel
theorem dX6_init_13 : decode cX6_init 13 = .ok (.putfield 11, 3) := by decide +kernel
theorem dX6_init_16 : decode cX6_init 16 = .ok (.aload_n 0, 1) := by decide +kernel
theorem dX6_init_17 : decode cX6_init 17 = .ok (.bipush 36, 2) := by decide +kernel
theorem dX6_init_19 : decode cX6_init 19 = .ok (.newarray .long, 2) := by decide +kernel
theorem dX6_init_21 : decode cX6_init 21 = .ok (.putfield 16, 3) := by decide +kernel
theorem dX6_init_24 : decode cX6_init 24 = .ok (.return_, 1) := by decide +kernel
set_option maxRecDepth 20000 in
set_option maxHeartbeats 2000000 in
theorem w_X6_init {X : CX} {d : Nat} (hd : 1 ≤ d) (l0 : Nat) (g g' : G) (rx : Unit) (k_l0 : KD g l0 6) (h : f_X6_init l0 g = some (rx, g')) : Sem X m_X6_init d [.ref (ad X l0)] g none g' := by
  refine Sem_of (lo := [(0, .ref (ad X l0))]) (by decide +kernel) rfl (Nat.le_of_ble_eq_true rfl) ?_
  rw [f_X6_init] at h
  refine SF_aload_n 0 1 dX6_init_0 rfl rfl rfl ?_
  refine SF_objInit 4 ml_X6_3 wo_1 wo_2 dX6_init_1 (Nat.le_trans (by decide) hd) (Nat.le_of_ble_eq_true rfl) rfl ?_
  refine SF_aload_n 0 5 dX6_init_4 rfl rfl rfl ?_
  refine SF_iconst (2 : Int32) 6 dX6_init_5 rfl rfl ?_
  refine SF_sipush (256 : Int32) 9 dX6_init_6 rfl rfl ?_
  refine SF_mnew 13 dX6_init_9 mna_X6_9 (by decide) (by decide) rfl ?_
  obtain ⟨g1, e2, h⟩ := lg_some h
  rw [← e2]
  have k_l0 := KD.allocM e2 k_l0
  have k5 := KD.freshM e2
  obtain ⟨a3, e4, h⟩ := ln_some h
  rw [← e4] at k5
  rw [← e4]
  refine SF_putR 16 fl_X6_11 dX6_init_13 k_l0.1 (fn_arr _ _) (Or.inr ⟨rfl, _, rfl, rfl⟩) rfl ?_
  obtain ⟨g6, e7, h⟩ := lg_some h
  rw [← e7]
  have k_l0 := KD.eq e7 k_l0
  have k5 := KD.eq e7 k5
  refine SF_aload_n 0 17 dX6_init_16 rfl rfl rfl ?_
  refine SF_bipush (36 : Int32) 19 dX6_init_17 rfl rfl ?_
  refine SF_newa 21 dX6_init_19 rfl (Or.inr (Or.inl ⟨rfl, rfl⟩)) wr_long (by decide) (by decide) rfl ?_
  obtain ⟨g8, e9, h⟩ := lg_some h
  rw [← e9]
  have k_l0 := KD.alloc e9 k_l0
  have k5 := KD.alloc e9 k5
  have k12 := KD.fresh e9
  obtain ⟨a10, e11, h⟩ := ln_some h
  rw [← e11] at k12
  rw [← e11]
  refine SF_putR 24 fl_X6_16 dX6_init_21 k_l0.1 (fn_arr _ _) (Or.inr ⟨rfl, _, rfl, rfl⟩) rfl ?_
  obtain ⟨g13, e14, h⟩ := lg_some h
  rw [← e14]
  have k_l0 := KD.eq e14 k_l0
  have k5 := KD.eq e14 k5
  have k12 := KD.eq e14 k12
  exact RT_v rfl dX6_init_24 h

theorem dJ9_min_7cf53_0 : decode cJ9_min_7cf53 0 = .ok (.iload_n 0, 1) := by decide +kernel
theorem dJ9_min_7cf53_1 : decode cJ9_min_7cf53 1 = .ok (.iload_n 1, 1) := by decide +kernel
theorem dJ9_min_7cf53_2 : decode cJ9_min_7cf53 2 = .ok (.if_icmp .gt 7, 3) := by decide +kernel
theorem dJ9_min_7cf53_5 : decode cJ9_min_7cf53 5 = .ok (.iload_n 0, 1) := by decide +kernel
theorem dJ9_min_7cf53_6 : decode cJ9_min_7cf53 6 = .ok (.goto 4, 3) := by decide +kernel
theorem dJ9_min_7cf53_9 : decode cJ9_min_7cf53 9 = .ok (.iload_n 1, 1) := by decide +kernel
theorem dJ9_min_7cf53_10 : decode cJ9_min_7cf53 10 = .ok (.ireturn, 1) := by decide +kernel
set_option maxRecDepth 20000 in
set_option maxHeartbeats 2000000 in
theorem w_J9_min_7cf53 {X : CX} {d : Nat} (hd : 0 ≤ d) (l0 : Int32) (l1 : Int32) (g g' : G) (rx : Int32) (h : f_J9_min_7cf53 l0 l1 g = some (rx, g')) : Sem X m_J9_min_7cf53 d [.int l0, .int l1] g (some (.int rx)) g' := by
  refine Sem_ofF (lo := [(0, .int l0), (1, .int l1)]) (by decide +kernel) rfl (Nat.le_of_ble_eq_true rfl) ?_
  rw [f_J9_min_7cf53] at h
  refine SF_iload_n 0 1 dJ9_min_7cf53_0 rfl rfl rfl ?_
  refine SF_iload_n 1 2 dJ9_min_7cf53_1 rfl rfl rfl ?_
  refine SF_icgt 9 5 dJ9_min_7cf53_2 rfl rfl (fun c1 => ?_) (fun c1 => ?_)
  · have h := ite_t c1 h
    refine SF_iload_n 1 10 dJ9_min_7cf53_9 rfl rfl rfl ?_
    exact RT_i rfl dJ9_min_7cf53_10 h
  · have h := ite_f c1 h
    refine SF_iload_n 0 6 dJ9_min_7cf53_5 rfl rfl rfl ?_
    refine SF_goto 10 dJ9_min_7cf53_6 rfl ?_
    exact RT_i rfl dJ9_min_7cf53_10 h

theorem dJ9_max_7cf53_0 : decode cJ9_max_7cf53 0 = .ok (.iload_n 0, 1) := by decide +kernel
theorem dJ9_max_7cf53_1 : decode cJ9_max_7cf53 1 = .ok (.iload_n 1, 1) := by decide +kernel
theorem dJ9_max_7cf53_2 : decode cJ9_max_7cf53 2 = .ok (.if_icmp .lt 7, 3) := by decide +kernel
theorem dJ9_max_7cf53_5 : decode cJ9_max_7cf53 5 = .ok (.iload_n 0, 1) := by decide +kernel
theorem dJ9_max_7cf53_6 : decode cJ9_max_7cf53 6 = .ok (.goto 4, 3) := by decide +kernel
theorem dJ9_max_7cf53_9 : decode cJ9_max_7cf53 9 = .ok (.iload_n 1, 1) := by decide +kernel
theorem dJ9_max_7cf53_10 : decode cJ9_max_7cf53 10 = .ok (.ireturn, 1) := by decide +kernel
set_option maxRecDepth 20000 in
set_option maxHeartbeats 2000000 in
theorem w_J9_max_7cf53 {X : CX} {d : Nat} (hd : 0 ≤ d) (l0 : Int32) (l1 : Int32) (g g' : G) (rx : Int32) (h : f_J9_max_7cf53 l0 l1 g = some (rx, g')) : Sem X m_J9_max_7cf53 d [.int l0, .int l1] g (some (.int rx)) g' := by
  refine Sem_ofF (lo := [(0, .int l0), (1, .int l1)]) (by decide +kernel) rfl (Nat.le_of_ble_eq_true rfl) ?_
  rw [f_J9_max_7cf53] at h
  refine SF_iload_n 0 1 dJ9_max_7cf53_0 rfl rfl rfl ?_
  refine SF_iload_n 1 2 dJ9_max_7cf53_1 rfl rfl rfl ?_
  refine SF_iclt 9 5 dJ9_max_7cf53_2 rfl rfl (fun c1 => ?_) (fun c1 => ?_)
  · have h := ite_t c1 h
    refine SF_iload_n 1 10 dJ9_max_7cf53_9 rfl rfl rfl ?_
    exact RT_i rfl dJ9_max_7cf53_10 h
  · have h := ite_f c1 h
    refine SF_iload_n 0 6 dJ9_max_7cf53_5 rfl rfl rfl ?_
    refine SF_goto 10 dJ9_max_7cf53_6 rfl ?_
    exact RT_i rfl dJ9_max_7cf53_10 h

theorem dJ7_fill_53178_0 : decode cJ7_fill_53178 0 = .ok (.iconst 0, 1) := by decide +kernel
theorem dJ7_fill_53178_1 : decode cJ7_fill_53178 1 = .ok (.istore_n 2, 1) := by decide +kernel
theorem dJ7_fill_53178_2 : decode cJ7_fill_53178 2 = .ok (.aload_n 0, 1) := by decide +kernel
theorem dJ7_fill_53178_3 : decode cJ7_fill_53178 3 = .ok (.arraylength, 1) := by decide +kernel
theorem dJ7_fill_53178_4 : decode cJ7_fill_53178 4 = .ok (.istore_n 3, 1) := by decide +kernel
theorem dJ7_fill_53178_5 : decode cJ7_fill_53178 5 = .ok (.iload_n 2, 1) := by decide +kernel
theorem dJ7_fill_53178_6 : decode cJ7_fill_53178 6 = .ok (.iload_n 3, 1) := by decide +kernel
theorem dJ7_fill_53178_7 : decode cJ7_fill_53178 7 = .ok (.if_icmp .ge 13, 3) := by decide +kernel
theorem dJ7_fill_53178_10 : decode cJ7_fill_53178 10 = .ok (.aload_n 0, 1) := by decide +kernel
theorem dJ7_fill_53178_11 : decode cJ7_fill_53178 11 = .ok (.iload_n 2, 1) := by decide +kernel
theorem dJ7_fill_53178_12 : decode cJ7_fill_53178 12 = .ok (.iload_n 1, 1) := by decide +kernel
theorem dJ7_fill_53178_13 : decode cJ7_fill_53178 13 = .ok (.iastore, 1) := by decide +kernel
theorem dJ7_fill_53178_14 : decode cJ7_fill_53178 14 = .ok (.iinc 2 1, 3) := by decide +kernel
theorem dJ7_fill_53178_17 : decode cJ7_fill_53178 17 = .ok (.goto (-12), 3) := by decide +kernel
theorem dJ7_fill_53178_20 : decode cJ7_fill_53178 20 = .ok (.return_, 1) := by decide +kernel
set_option maxRecDepth 20000 in
set_option maxHeartbeats 2000000 in
theorem w_J7_fill_53178_5 {X : CX} {d : Nat} (hd : 0 ≤ d) {g' : G} {rx : Unit} : ∀ (n : Nat) (l0 : Nat) (l1 : Int32) (l2 : Int32) (l3 : Int32) (g : G), KD g l0 14 → f_J7_fill_53178_5 n l0 l1 l2 l3 g = some (rx, g') → SemF X m_J7_fill_53178 d 5 [(0, .ref (ad X l0)), (1, .int l1), (2, .int l2), (3, .int l3)] [] g none g' := by
  intro n
  induction n with
  | zero =>
    intro l0 l1 l2 l3 g k_l0 h
    rw [f_J7_fill_53178_5] at h
    cases h
  | succ n ih =>
  intro l0 l1 l2 l3 g k_l0 h
  rw [f_J7_fill_53178_5] at h
  refine SF_iload_n 2 6 dJ7_fill_53178_5 rfl rfl rfl ?_
  refine SF_iload_n 3 7 dJ7_fill_53178_6 rfl rfl rfl ?_
  refine SF_icge 20 10 dJ7_fill_53178_7 rfl rfl (fun c1 => ?_) (fun c1 => ?_)
  · have h := ite_t c1 h
    exact RT_v rfl dJ7_fill_53178_20 h
  · have h := ite_f c1 h
    refine SF_aload_n 0 11 dJ7_fill_53178_10 rfl rfl rfl ?_
    refine SF_iload_n 2 12 dJ7_fill_53178_11 rfl rfl rfl ?_
    refine SF_iload_n 1 13 dJ7_fill_53178_12 rfl rfl rfl ?_
    obtain ⟨i2, h⟩ := gdI_some h
    refine SF_iast 14 dJ7_fill_53178_13 k_l0.1 i2 rfl ?_
    obtain ⟨g3, e4, h⟩ := lg_some h
    rw [← e4]
    have k_l0 := KD.eq e4 k_l0
    have i2 := vp_eq e4 i2
    refine SF_iinc 2 (l2 + (1 : Int32)) [(2, .int (l2 + (1 : Int32))), (0, .ref (ad X l0)), (1, .int l1), (3, .int l3)] 17 dJ7_fill_53178_14 rfl rfl (by decide) rfl rfl ?_
    refine SF_goto 5 dJ7_fill_53178_17 rfl ?_
    refine SF_sub [1, 2, 0, 3] rfl ?_
    exact ih l0 l1 (l2 + (1 : Int32)) l3 g3 k_l0 h

set_option maxRecDepth 20000 in
set_option maxHeartbeats 2000000 in
theorem w_J7_fill_53178 {X : CX} {d : Nat} (hd : 0 ≤ d) (l0 : Nat) (l1 : Int32) (g g' : G) (rx : Unit) (k_l0 : KD g l0 14) (h : f_J7_fill_53178 l0 l1 g = some (rx, g')) : Sem X m_J7_fill_53178 d [.ref (ad X l0), .int l1] g none g' := by
  refine Sem_ofF (lo := [(0, .ref (ad X l0)), (1, .int l1)]) (by decide +kernel) rfl (Nat.le_of_ble_eq_true rfl) ?_
  rw [f_J7_fill_53178] at h
  refine SF_iconst (0 : Int32) 1 dJ7_fill_53178_0 rfl rfl ?_
  refine SF_istore_n [(2, .int (0 : Int32)), (0, .ref (ad X l0)), (1, .int l1)] 2 dJ7_fill_53178_1 rfl (by decide) rfl rfl ?_
  refine SF_aload_n 1 3 dJ7_fill_53178_2 rfl rfl rfl ?_
  refine SF_alen 4 dJ7_fill_53178_3 k_l0.1 (by decide) (by decide) rfl ?_
  obtain ⟨y1, e2, h⟩ := li_some h
  refine SF_eqI e2 ?_
  refine SF_istore_n [(3, .int y1), (2, .int (0 : Int32)), (0, .ref (ad X l0)), (1, .int l1)] 5 dJ7_fill_53178_4 rfl (by decide) rfl rfl ?_
  refine SF_sub [2, 3, 1, 0] rfl ?_
  exact w_J7_fill_53178_5 hd FU l0 l1 (0 : Int32) y1 g k_l0 h

theorem dX7_init_0 : decode cX7_init 0 = .ok (.aload_n 0, 1) := by decide +kernel
theorem dX7_init_1 : decode cX7_init 1 = .ok (.invokespecial 3, 3) := by decide +kernel
theorem dX7_init_4 : decode cX7_init 4 = .ok (.aload_n 0, 1) := by decide +kernel
theorem dX7_init_5 : decode cX7_init 5 = .ok (.bipush 36, 2) := by decide +kernel
theorem dX7_init_7 : decode cX7_init 7 = .ok (.newarray .int, 2) := by decide +kernel
theorem dX7_init_9 : decode cX7_init 9 = .ok (.putfield 9, 3) := by decide +kernel
theorem dX7_init_12 : decode cX7_init 12 = .ok (.aload_n 0, 1) := by decide +kernel
theorem dX7_init_13 : decode cX7_init 13 = .ok (.bipush 36, 2) := by decide +kernel
theorem dX7_init_15 : decode cX7_init 15 = .ok (.newarray .int, 2) := by decide +kernel
theorem dX7_init_17 : decode cX7_init 17 = .ok (.putfield 15, 3) := by decide +kernel
theorem dX7_init_20 : decode cX7_init 20 = .ok (.aload_n 0, 1) := by decide +kernel
theorem dX7_init_21 : decode cX7_init 21 = .ok (.bipush 36, 2) := by decide +kernel
theorem dX7_init_23 : decode cX7_init 23 = .ok (.newarray .int, 2) := by decide +kernel
theorem dX7_init_25 : decode cX7_init 25 = .ok (.putfield 18, 3) := by decide +kernel
theorem dX7_init_28 : decode cX7_init 28 = .ok (.aload_n 0, 1) := by decide +kernel
theorem dX7_init_29 : decode cX7_init 29 = .ok (.bipush 6, 2) := by decide +kernel
theorem dX7_init_31 : decode cX7_init 31 = .ok (.newarray .int, 2) := by decide +kernel
theorem dX7_init_33 : decode cX7_init 33 = .ok (.putfield 21, 3) := by decide +kernel
theorem dX7_init_36 : decode cX7_init 36 = .ok (.aload_n 0, 1) := by decide +kernel
theorem dX7_init_37 : decode cX7_init 37 = .ok (.iconst 1, 1) := by decide +kernel
theorem dX7_init_38 : decode cX7_init 38 = .ok (.bipush 6, 2) := by decide +kernel
theorem dX7_init_40 : decode cX7_init 40 = .ok (.iload_n 1, 1) := by decide +kernel
theorem dX7_init_41 : decode cX7_init 41 = .ok (.invokestatic 24, 3) := by decide +kernel
theorem dX7_init_44 : decode cX7_init 44 = .ok (.invokestatic 30, 3) := by decide +kernel
theorem dX7_init_47 : decode cX7_init 47 = .ok (.putfield 33, 3) := by decide +kernel
theorem dX7_init_50 : decode cX7_init 50 = .ok (.aload_n 0, 1) := by decide +kernel
theorem dX7_init_51 : decode cX7_init 51 = .ok (.iconst 1, 1) := by decide +kernel
theorem dX7_init_52 : decode cX7_init 52 = .ok (.bipush 6, 2) := by decide +kernel
theorem dX7_init_54 : decode cX7_init 54 = .ok (.iload_n 2, 1) := by decide +kernel
theorem dX7_init_55 : decode cX7_init 55 = .ok (.invokestatic 24, 3) := by decide +kernel
theorem dX7_init_58 : decode cX7_init 58 = .ok (.invokestatic 30, 3) := by decide +kernel
theorem dX7_init_61 : decode cX7_init 61 = .ok (.putfield 37, 3) := by decide +kernel
theorem dX7_init_64 : decode cX7_init 64 = .ok (.aload_n 0, 1) := by decide +kernel
theorem dX7_init_65 : decode cX7_init 65 = .ok (.aload_n 0, 1) := by decide +kernel
theorem dX7_init_66 : decode cX7_init 66 = .ok (.getfield 33, 3) := by decide +kernel
theorem dX7_init_69 : decode cX7_init 69 = .ok (.aload_n 0, 1) := by decide +kernel
theorem dX7_init_70 : decode cX7_init 70 = .ok (.getfield 37, 3) := by decide +kernel
theorem dX7_init_73 : decode cX7_init 73 = .ok (.imul, 1) := by decide +kernel
theorem dX7_init_74 : decode cX7_init 74 = .ok (.putfield 40, 3) := by decide +kernel
theorem dX7_init_77 : decode cX7_init 77 = .ok (.aload_n 0, 1) := by decide +kernel
theorem dX7_init_78 : decode cX7_init 78 = .ok (.lconst 1, 1) := by decide +kernel
theorem dX7_init_79 : decode cX7_init 79 = .ok (.aload_n 0, 1) := by decide +kernel
theorem dX7_init_80 : decode cX7_init 80 = .ok (.getfield 40, 3) := by decide +kernel
theorem dX7_init_83 : decode cX7_init 83 = .ok (.lshl, 1) := by decide +kernel
theorem dX7_init_84 : decode cX7_init 84 = .ok (.lconst 1, 1) := by decide +kernel
theorem dX7_init_85 : decode cX7_init 85 = .ok (.lsub, 1) := by decide +kernel
theorem dX7_init_86 : decode cX7_init 86 = .ok (.putfield 43, 3) := by decide +kernel
theorem dX7_init_89 : decode cX7_init 89 = .ok (.iconst 0, 1) := by decide +kernel
theorem dX7_init_90 : decode cX7_init 90 = .ok (.istore_n 3, 1) := by decide +kernel
theorem dX7_init_91 : decode cX7_init 91 = .ok (.iload_n 3, 1) := by decide +kernel
theorem dX7_init_92 : decode cX7_init 92 = .ok (.aload_n 0, 1) := by decide +kernel
theorem dX7_init_93 : decode cX7_init 93 = .ok (.getfield 40, 3) := by decide +kernel
theorem dX7_init_96 : decode cX7_init 96 = .ok (.if_icmp .ge 39, 3) := by decide +kernel
theorem dX7_init_99 : decode cX7_init 99 = .ok (.iload_n 3, 1) := by decide +kernel
theorem dX7_init_100 : decode cX7_init 100 = .ok (.bipush 36, 2) := by decide +kernel
theorem dX7_init_102 : decode cX7_init 102 = .ok (.if_icmp .ge 33, 3) := by decide +kernel
theorem dX7_init_105 : decode cX7_init 105 = .ok (.aload_n 0, 1) := by decide +kernel
theorem dX7_init_106 : decode cX7_init 106 = .ok (.getfield 15, 3) := by decide +kernel
theorem dX7_init_109 : decode cX7_init 109 = .ok (.iload_n 3, 1) := by decide +kernel
theorem dX7_init_110 : decode cX7_init 110 = .ok (.iload_n 3, 1) := by decide +kernel
theorem dX7_init_111 : decode cX7_init 111 = .ok (.aload_n 0, 1) := by decide +kernel
theorem dX7_init_112 : decode cX7_init 112 = .ok (.getfield 37, 3) := by decide +kernel
theorem dX7_init_115 : decode cX7_init 115 = .ok (.idiv, 1) := by decide +kernel
theorem dX7_init_116 : decode cX7_init 116 = .ok (.iastore, 1) := by decide +kernel
theorem dX7_init_117 : decode cX7_init 117 = .ok (.aload_n 0, 1) := by decide +kernel
theorem dX7_init_118 : decode cX7_init 118 = .ok (.getfield 18, 3) := by decide +kernel
theorem dX7_init_121 : decode cX7_init 121 = .ok (.iload_n 3, 1) := by decide +kernel
theorem dX7_init_122 : decode cX7_init 122 = .ok (.iload_n 3, 1) := by decide +kernel
theorem dX7_init_123 : decode cX7_init 123 = .ok (.aload_n 0, 1) := by decide +kernel
theorem dX7_init_124 : decode cX7_init 124 = .ok (.getfield 37, 3) := by decide +kernel
theorem dX7_init_127 : decode cX7_init 127 = .ok (.irem, 1) := by decide +kernel
theorem dX7_init_128 : decode cX7_init 128 = .ok (.iastore, 1) := by decide +kernel
theorem dX7_init_129 : decode cX7_init 129 = .ok (.iinc 3 1, 3) := by decide +kernel
theorem dX7_init_132 : decode cX7_init 132 = .ok (.goto (-41), 3) := by decide +kernel
theorem dX7_init_135 : decode cX7_init 135 = .ok (.aload_n 0, 1) := by decide +kernel
theorem dX7_init_136 : decode cX7_init 136 = .ok (.getfield 21, 3) := by decide +kernel
theorem dX7_init_139 : decode cX7_init 139 = .ok (.iconst (-1), 1) := by decide +kernel
theorem dX7_init_140 : decode cX7_init 140 = .ok (.invokestatic 47, 3) := by decide +kernel
theorem dX7_init_143 : decode cX7_init 143 = .ok (.return_, 1) := by decide +kernel
set_option maxRecDepth 20000 in
set_option maxHeartbeats 2000000 in
theorem w_X7_init_135 {X : CX} {d : Nat} (hd : 1 ≤ d) {g' : G} {rx : Unit} (l0 : Nat) (g : G) (k_l0 : KD g l0 7) (h : f_X7_init_135 l0 g = some (rx, g')) : SemF X m_X7_init d 135 [(0, .ref (ad X l0))] [] g none g' := by
  rw [f_X7_init_135] at h
  refine SF_aload_n 0 136 dX7_init_135 rfl rfl rfl ?_
  obtain ⟨b1, r2, h⟩ := dr_some h
  refine SF_getR 139 fl_X7_21 dX7_init_136 k_l0.1 r2 rfl ?_
  refine SF_iconst (-1 : Int32) 140 dX7_init_139 rfl rfl ?_
  obtain ⟨k3, h⟩ := gdK_some h
  obtain ⟨v4, g5, q6, h⟩ := bd_some h
  have s7 := w_J7_fill_53178 (X := X) (Nat.le_refl 0) b1 (-1 : Int32) g g5 v4 k3 q6
  refine SF_callSv 143 mi_J7_fill_53178 ml_X7_47 dX7_init_140 (Nat.le_trans (by decide) hd) s7 rfl rfl (Nat.le_of_ble_eq_true rfl) rfl ?_
  have k_l0 := k_l0.ext s7.1
  have k3 := k3.ext s7.1
  exact RT_v rfl dX7_init_143 h

set_option maxRecDepth 20000 in
set_option maxHeartbeats 2000000 in
theorem w_X7_init_91 {X : CX} {d : Nat} (hd : 1 ≤ d) {g' : G} {rx : Unit} : ∀ (n : Nat) (l0 : Nat) (l3 : Int32) (g : G), KD g l0 7 → f_X7_init_91 n l0 l3 g = some (rx, g') → SemF X m_X7_init d 91 [(0, .ref (ad X l0)), (3, .int l3)] [] g none g' := by
  intro n
  induction n with
  | zero =>
    intro l0 l3 g k_l0 h
    rw [f_X7_init_91] at h
    cases h
  | succ n ih =>
  intro l0 l3 g k_l0 h
  rw [f_X7_init_91] at h
  refine SF_iload_n 1 92 dX7_init_91 rfl rfl rfl ?_
  refine SF_aload_n 0 93 dX7_init_92 rfl rfl rfl ?_
  refine SF_getI 96 fl_X7_40 dX7_init_93 k_l0.1 rfl ?_
  refine SF_icge 135 99 dX7_init_96 rfl rfl (fun c1 => ?_) (fun c1 => ?_)
  · have h := ite_t c1 h
    refine SF_sub [0] rfl ?_
    exact w_X7_init_135 hd l0 g k_l0 h
  · have h := ite_f c1 h
    refine SF_iload_n 1 100 dX7_init_99 rfl rfl rfl ?_
    refine SF_bipush (36 : Int32) 102 dX7_init_100 rfl rfl ?_
    refine SF_icge 135 105 dX7_init_102 rfl rfl (fun c2 => ?_) (fun c2 => ?_)
    · have h := ite_t c2 h
      refine SF_sub [0] rfl ?_
      exact w_X7_init_135 hd l0 g k_l0 h
    · have h := ite_f c2 h
      refine SF_aload_n 0 106 dX7_init_105 rfl rfl rfl ?_
      obtain ⟨b3, r4, h⟩ := dr_some h
      refine SF_getR 109 fl_X7_15 dX7_init_106 k_l0.1 r4 rfl ?_
      refine SF_iload_n 1 110 dX7_init_109 rfl rfl rfl ?_
      refine SF_iload_n 1 111 dX7_init_110 rfl rfl rfl ?_
      refine SF_aload_n 0 112 dX7_init_111 rfl rfl rfl ?_
      refine SF_getI 115 fl_X7_37 dX7_init_112 k_l0.1 rfl ?_
      obtain ⟨z5, h⟩ := gdZ_some h
      refine SF_idiv 116 dX7_init_115 z5 rfl ?_
      obtain ⟨k6, h⟩ := gdK_some h
      obtain ⟨i7, h⟩ := gdI_some h
      refine SF_iast 117 dX7_init_116 k6.1 i7 rfl ?_
      obtain ⟨g8, e9, h⟩ := lg_some h
      rw [← e9]
      have k_l0 := KD.eq e9 k_l0
      have k6 := KD.eq e9 k6
      have r4 := gR_eq e9 r4
      have i7 := vp_eq e9 i7
      refine SF_aload_n 0 118 dX7_init_117 rfl rfl rfl ?_
      obtain ⟨b10, r11, h⟩ := dr_some h
      refine SF_getR 121 fl_X7_18 dX7_init_118 k_l0.1 r11 rfl ?_
      refine SF_iload_n 1 122 dX7_init_121 rfl rfl rfl ?_
      refine SF_iload_n 1 123 dX7_init_122 rfl rfl rfl ?_
      refine SF_aload_n 0 124 dX7_init_123 rfl rfl rfl ?_
      refine SF_getI 127 fl_X7_37 dX7_init_124 k_l0.1 rfl ?_
      obtain ⟨z12, h⟩ := gdZ_some h
      refine SF_irem 128 dX7_init_127 z12 rfl ?_
      obtain ⟨k13, h⟩ := gdK_some h
      obtain ⟨i14, h⟩ := gdI_some h
      refine SF_iast 129 dX7_init_128 k13.1 i14 rfl ?_
      obtain ⟨g15, e16, h⟩ := lg_some h
      rw [← e16]
      have k_l0 := KD.eq e16 k_l0
      have k6 := KD.eq e16 k6
      have k13 := KD.eq e16 k13
      have r4 := gR_eq e16 r4
      have r11 := gR_eq e16 r11
      have i7 := vp_eq e16 i7
      have i14 := vp_eq e16 i14
      refine SF_iinc 1 (l3 + (1 : Int32)) [(3, .int (l3 + (1 : Int32))), (0, .ref (ad X l0))] 132 dX7_init_129 rfl rfl (by decide) rfl rfl ?_
      refine SF_goto 91 dX7_init_132 rfl ?_
      refine SF_sub [1, 0] rfl ?_
      exact ih l0 (l3 + (1 : Int32)) g15 k_l0 h

set_option maxRecDepth 20000 in
set_option maxHeartbeats 2000000 in
theorem w_X7_init {X : CX} {d : Nat} (hd : 1 ≤ d) (l0 : Nat) (l1 : Int32) (l2 : Int32) (g g' : G) (rx : Unit) (k_l0 : KD g l0 7) (h : f_X7_init l0 l1 l2 g = some (rx, g')) : Sem X m_X7_init d [.ref (ad X l0), .int l1, .int l2] g none g' := by
  refine Sem_of (lo := [(0, .ref (ad X l0)), (1, .int l1), (2, .int l2)]) (by decide +kernel) rfl (Nat.le_of_ble_eq_true rfl) ?_
  rw [f_X7_init] at h
  refine SF_aload_n 0 1 dX7_init_0 rfl rfl rfl ?_
  refine SF_objInit 4 ml_X7_3 wo_1 wo_2 dX7_init_1 (Nat.le_trans (by decide) hd) (Nat.le_of_ble_eq_true rfl) rfl ?_
  refine SF_aload_n 0 5 dX7_init_4 rfl rfl rfl ?_
  refine SF_bipush (36 : Int32) 7 dX7_init_5 rfl rfl ?_
  refine SF_newa 9 dX7_init_7 rfl (Or.inl ⟨rfl, rfl⟩) wr_int (by decide) (by decide) rfl ?_
  obtain ⟨g1, e2, h⟩ := lg_some h
  rw [← e2]
  have k_l0 := KD.alloc e2 k_l0
  have k5 := KD.fresh e2
  obtain ⟨a3, e4, h⟩ := ln_some h
  rw [← e4] at k5
  rw [← e4]
  refine SF_putR 12 fl_X7_9 dX7_init_9 k_l0.1 (fn_arr _ _) (Or.inr ⟨rfl, _, rfl, rfl⟩) rfl ?_
  obtain ⟨g6, e7, h⟩ := lg_some h
  rw [← e7]
  have k_l0 := KD.eq e7 k_l0
  have k5 := KD.eq e7 k5
  refine SF_aload_n 0 13 dX7_init_12 rfl rfl rfl ?_
  refine SF_bipush (36 : Int32) 15 dX7_init_13 rfl rfl ?_
  refine SF_newa 17 dX7_init_15 rfl (Or.inl ⟨rfl, rfl⟩) wr_int (by decide) (by decide) rfl ?_
  obtain ⟨g8, e9, h⟩ := lg_some h
  rw [← e9]
  have k_l0 := KD.alloc e9 k_l0
  have k5 := KD.alloc e9 k5
  have k12 := KD.fresh e9
  obtain ⟨a10, e11, h⟩ := ln_some h
  rw [← e11] at k12
  rw [← e11]
  refine SF_putR 20 fl_X7_15 dX7_init_17 k_l0.1 (fn_arr _ _) (Or.inr ⟨rfl, _, rfl, rfl⟩) rfl ?_
  obtain ⟨g13, e14, h⟩ := lg_some h
  rw [← e14]
  have k_l0 := KD.eq e14 k_l0
  have k5 := KD.eq e14 k5
  have k12 := KD.eq e14 k12
  refine SF_aload_n 0 21 dX7_init_20 rfl rfl rfl ?_
  refine SF_bipush (36 : Int32) 23 dX7_init_21 rfl rfl ?_
  refine SF_newa 25 dX7_init_23 rfl (Or.inl ⟨rfl, rfl⟩) wr_int (by decide) (by decide) rfl ?_
  obtain ⟨g15, e16, h⟩ := lg_some h
  rw [← e16]
  have k_l0 := KD.alloc e16 k_l0
  have k5 := KD.alloc e16 k5
  have k12 := KD.alloc e16 k12
  have k19 := KD.fresh e16
  obtain ⟨a17, e18, h⟩ := ln_some h
  rw [← e18] at k19
  rw [← e18]
  refine SF_putR 28 fl_X7_18 dX7_init_25 k_l0.1 (fn_arr _ _) (Or.inr ⟨rfl, _, rfl, rfl⟩) rfl ?_
  obtain ⟨g20, e21, h⟩ := lg_some h
  rw [← e21]
  have k_l0 := KD.eq e21 k_l0
  have k5 := KD.eq e21 k5
  have k12 := KD.eq e21 k12
  have k19 := KD.eq e21 k19
  refine SF_aload_n 0 29 dX7_init_28 rfl rfl rfl ?_
  refine SF_bipush (6 : Int32) 31 dX7_init_29 rfl rfl ?_
  refine SF_newa 33 dX7_init_31 rfl (Or.inl ⟨rfl, rfl⟩) wr_int (by decide) (by decide) rfl ?_
  obtain ⟨g22, e23, h⟩ := lg_some h
  rw [← e23]
  have k_l0 := KD.alloc e23 k_l0
  have k5 := KD.alloc e23 k5
  have k12 := KD.alloc e23 k12
  have k19 := KD.alloc e23 k19
  have k26 := KD.fresh e23
  obtain ⟨a24, e25, h⟩ := ln_some h
  rw [← e25] at k26
  rw [← e25]
  refine SF_putR 36 fl_X7_21 dX7_init_33 k_l0.1 (fn_arr _ _) (Or.inr ⟨rfl, _, rfl, rfl⟩) rfl ?_
  obtain ⟨g27, e28, h⟩ := lg_some h
  rw [← e28]
  have k_l0 := KD.eq e28 k_l0
  have k5 := KD.eq e28 k5
  have k12 := KD.eq e28 k12
  have k19 := KD.eq e28 k19
  have k26 := KD.eq e28 k26
  refine SF_aload_n 0 37 dX7_init_36 rfl rfl rfl ?_
  refine SF_iconst (1 : Int32) 38 dX7_init_37 rfl rfl ?_
  refine SF_bipush (6 : Int32) 40 dX7_init_38 rfl rfl ?_
  refine SF_iload_n 1 41 dX7_init_40 rfl rfl rfl ?_
  obtain ⟨v29, g30, q31, h⟩ := bd_some h
  have s32 := w_J9_min_7cf53 (X := X) (Nat.le_refl 0) (6 : Int32) l1 g27 g30 v29 q31
  refine SF_callSi 44 mi_J9_min_7cf53 ml_X7_24 dX7_init_41 (Nat.le_trans (by decide) hd) s32 rfl rfl (Nat.le_of_ble_eq_true rfl) rfl ?_
  have k_l0 := k_l0.ext s32.1
  have k5 := k5.ext s32.1
  have k12 := k12.ext s32.1
  have k19 := k19.ext s32.1
  have k26 := k26.ext s32.1
  obtain ⟨v33, g34, q35, h⟩ := bd_some h
  have s36 := w_J9_max_7cf53 (X := X) (Nat.le_refl 0) (1 : Int32) v29 g30 g34 v33 q35
  refine SF_callSi 47 mi_J9_max_7cf53 ml_X7_30 dX7_init_44 (Nat.le_trans (by decide) hd) s36 rfl rfl (Nat.le_of_ble_eq_true rfl) rfl ?_
  have k_l0 := k_l0.ext s36.1
  have k5 := k5.ext s36.1
  have k12 := k12.ext s36.1
  have k19 := k19.ext s36.1
  have k26 := k26.ext s36.1
  refine SF_putI 50 fl_X7_33 dX7_init_47 k_l0.1 (fn_int _) (Or.inr ⟨rfl, _, rfl, rfl⟩) rfl ?_
  obtain ⟨g37, e38, h⟩ := lg_some h
  rw [← e38]
  have k_l0 := KD.eq e38 k_l0
  have k5 := KD.eq e38 k5
  have k12 := KD.eq e38 k12
  have k19 := KD.eq e38 k19
  have k26 := KD.eq e38 k26
  refine SF_aload_n 0 51 dX7_init_50 rfl rfl rfl ?_
  refine SF_iconst (1 : Int32) 52 dX7_init_51 rfl rfl ?_
  refine SF_bipush (6 : Int32) 54 dX7_init_52 rfl rfl ?_
  refine SF_iload_n 2 55 dX7_init_54 rfl rfl rfl ?_
  obtain ⟨v39, g40, q41, h⟩ := bd_some h
  have s42 := w_J9_min_7cf53 (X := X) (Nat.le_refl 0) (6 : Int32) l2 g37 g40 v39 q41
  refine SF_callSi 58 mi_J9_min_7cf53 ml_X7_24 dX7_init_55 (Nat.le_trans (by decide) hd) s42 rfl rfl (Nat.le_of_ble_eq_true rfl) rfl ?_
  have k_l0 := k_l0.ext s42.1
  have k5 := k5.ext s42.1
  have k12 := k12.ext s42.1
  have k19 := k19.ext s42.1
  have k26 := k26.ext s42.1
  obtain ⟨v43, g44, q45, h⟩ := bd_some h
  have s46 := w_J9_max_7cf53 (X := X) (Nat.le_refl 0) (1 : Int32) v39 g40 g44 v43 q45
  refine SF_callSi 61 mi_J9_max_7cf53 ml_X7_30 dX7_init_58 (Nat.le_trans (by decide) hd) s46 rfl rfl (Nat.le_of_ble_eq_true rfl) rfl ?_
  have k_l0 := k_l0.ext s46.1
  have k5 := k5.ext s46.1
  have k12 := k12.ext s46.1
  have k19 := k19.ext s46.1
  have k26 := k26.ext s46.1
  refine SF_putI 64 fl_X7_37 dX7_init_61 k_l0.1 (fn_int _) (Or.inr ⟨rfl, _, rfl, rfl⟩) rfl ?_
  obtain ⟨g47, e48, h⟩ := lg_some h
  rw [← e48]
  have k_l0 := KD.eq e48 k_l0
  have k5 := KD.eq e48 k5
  have k12 := KD.eq e48 k12
  have k19 := KD.eq e48 k19
  have k26 := KD.eq e48 k26
  refine SF_aload_n 0 65 dX7_init_64 rfl rfl rfl ?_
  refine SF_aload_n 0 66 dX7_init_65 rfl rfl rfl ?_
  refine SF_getI 69 fl_X7_33 dX7_init_66 k_l0.1 rfl ?_
  refine SF_aload_n 0 70 dX7_init_69 rfl rfl rfl ?_
  refine SF_getI 73 fl_X7_37 dX7_init_70 k_l0.1 rfl ?_
  refine SF_imul 74 dX7_init_73 rfl ?_
  refine SF_putI 77 fl_X7_40 dX7_init_74 k_l0.1 (fn_int _) (Or.inr ⟨rfl, _, rfl, rfl⟩) rfl ?_
  obtain ⟨g49, e50, h⟩ := lg_some h
  rw [← e50]
  have k_l0 := KD.eq e50 k_l0
  have k5 := KD.eq e50 k5
  have k12 := KD.eq e50 k12
  have k19 := KD.eq e50 k19
  have k26 := KD.eq e50 k26
  refine SF_aload_n 0 78 dX7_init_77 rfl rfl rfl ?_
  refine SF_lconst (1 : Int64) 79 dX7_init_78 rfl rfl ?_
  refine SF_aload_n 0 80 dX7_init_79 rfl rfl rfl ?_
  refine SF_getI 83 fl_X7_40 dX7_init_80 k_l0.1 rfl ?_
  refine SF_lshl 84 dX7_init_83 rfl ?_
  refine SF_lconst (1 : Int64) 85 dX7_init_84 rfl rfl ?_
  refine SF_lsub 86 dX7_init_85 rfl ?_
  refine SF_putL 89 fl_X7_43 dX7_init_86 k_l0.1 (fn_long _) (Or.inr ⟨rfl, _, rfl, rfl⟩) rfl ?_
  obtain ⟨g51, e52, h⟩ := lg_some h
  rw [← e52]
  have k_l0 := KD.eq e52 k_l0
  have k5 := KD.eq e52 k5
  have k12 := KD.eq e52 k12
  have k19 := KD.eq e52 k19
  have k26 := KD.eq e52 k26
  refine SF_iconst (0 : Int32) 90 dX7_init_89 rfl rfl ?_
  refine SF_istore_n [(3, .int (0 : Int32)), (0, .ref (ad X l0)), (1, .int l1), (2, .int l2)] 91 dX7_init_90 rfl (by decide) rfl rfl ?_
  refine SF_sub [1, 0] rfl ?_
  exact w_X7_init_91 hd FU l0 (0 : Int32) g51 k_l0 h

theorem dX0_init_0 : decode cX0_init 0 = .ok (.aload_n 0, 1) := by decide +kernel
theorem dX0_init_1 : decode cX0_init 1 = .ok (.invokespecial 3, 3) := by decide +kernel
theorem dX0_init_4 : decode cX0_init 4 = .ok (.aload_n 0, 1) := by decide +kernel
theorem dX0_init_5 : decode cX0_init 5 = .ok (.bipush 6, 2) := by decide +kernel
theorem dX0_init_7 : decode cX0_init 7 = .ok (.newarray .int, 2) := by decide +kernel
theorem dX0_init_9 : decode cX0_init 9 = .ok (.putfield 9, 3) := by decide +kernel
theorem dX0_init_12 : decode cX0_init 12 = .ok (.aload_n 0, 1) := by decide +kernel
theorem dX0_init_13 : decode cX0_init 13 = .ok (.iconst 3, 1) := by decide +kernel
theorem dX0_init_14 : decode cX0_init 14 = .ok (.newarray .int, 2) := by decide +kernel
theorem dX0_init_16 : decode cX0_init 16 = .ok (.putfield 15, 3) := by decide +kernel
theorem dX0_init_19 : decode cX0_init 19 = .ok (.aload_n 0, 1) := by decide +kernel
theorem dX0_init_20 : decode cX0_init 20 = .ok (.iconst 3, 1) := by decide +kernel
theorem dX0_init_21 : decode cX0_init 21 = .ok (.newarray .int, 2) := by decide +kernel
theorem dX0_init_23 : decode cX0_init 23 = .ok (.putfield 18, 3) := by decide +kernel
theorem dX0_init_26 : decode cX0_init 26 = .ok (.aload_n 0, 1) := by decide +kernel
theorem dX0_init_27 : decode cX0_init 27 = .ok (.iconst 3, 1) := by decide +kernel
theorem dX0_init_28 : decode cX0_init 28 = .ok (.newarray .int, 2) := by decide +kernel
theorem dX0_init_30 : decode cX0_init 30 = .ok (.putfield 21, 3) := by decide +kernel
theorem dX0_init_33 : decode cX0_init 33 = .ok (.aload_n 0, 1) := by decide +kernel
theorem dX0_init_34 : decode cX0_init 34 = .ok (.aload_n 1, 1) := by decide +kernel
theorem dX0_init_35 : decode cX0_init 35 = .ok (.putfield 24, 3) := by decide +kernel
theorem dX0_init_38 : decode cX0_init 38 = .ok (.return_, 1) := by decide +kernel
set_option maxRecDepth 20000 in
set_option maxHeartbeats 2000000 in
theorem w_X0_init {X : CX} {d : Nat} (hd : 1 ≤ d) (l0 : Nat) (l1 : Nat) (g g' : G) (rx : Unit) (k_l0 : KD g l0 0) (k_l1 : KD g l1 7) (h : f_X0_init l0 l1 g = some (rx, g')) : Sem X m_X0_init d [.ref (ad X l0), .ref (ad X l1)] g none g' := by
  refine Sem_of (lo := [(0, .ref (ad X l0)), (1, .ref (ad X l1))]) (by decide +kernel) rfl (Nat.le_of_ble_eq_true rfl) ?_
  rw [f_X0_init] at h
  refine SF_aload_n 0 1 dX0_init_0 rfl rfl rfl ?_
  refine SF_objInit 4 ml_X0_3 wo_1 wo_2 dX0_init_1 (Nat.le_trans (by decide) hd) (Nat.le_of_ble_eq_true rfl) rfl ?_
  refine SF_aload_n 0 5 dX0_init_4 rfl rfl rfl ?_
  refine SF_bipush (6 : Int32) 7 dX0_init_5 rfl rfl ?_
  refine SF_newa 9 dX0_init_7 rfl (Or.inl ⟨rfl, rfl⟩) wr_int (by decide) (by decide) rfl ?_
  obtain ⟨g1, e2, h⟩ := lg_some h
  rw [← e2]
  have k_l0 := KD.alloc e2 k_l0
  have k_l1 := KD.alloc e2 k_l1
  have k5 := KD.fresh e2
  obtain ⟨a3, e4, h⟩ := ln_some h
  rw [← e4] at k5
  rw [← e4]
  refine SF_putR 12 fl_X0_9 dX0_init_9 k_l0.1 (fn_arr _ _) (Or.inr ⟨rfl, _, rfl, rfl⟩) rfl ?_
  obtain ⟨g6, e7, h⟩ := lg_some h
  rw [← e7]
  have k_l0 := KD.eq e7 k_l0
  have k_l1 := KD.eq e7 k_l1
  have k5 := KD.eq e7 k5
  refine SF_aload_n 0 13 dX0_init_12 rfl rfl rfl ?_
  refine SF_iconst (3 : Int32) 14 dX0_init_13 rfl rfl ?_
  refine SF_newa 16 dX0_init_14 rfl (Or.inl ⟨rfl, rfl⟩) wr_int (by decide) (by decide) rfl ?_
  obtain ⟨g8, e9, h⟩ := lg_some h
  rw [← e9]
  have k_l0 := KD.alloc e9 k_l0
  have k_l1 := KD.alloc e9 k_l1
  have k5 := KD.alloc e9 k5
  have k12 := KD.fresh e9
  obtain ⟨a10, e11, h⟩ := ln_some h
  rw [← e11] at k12
  rw [← e11]
  refine SF_putR 19 fl_X0_15 dX0_init_16 k_l0.1 (fn_arr _ _) (Or.inr ⟨rfl, _, rfl, rfl⟩) rfl ?_
  obtain ⟨g13, e14, h⟩ := lg_some h
  rw [← e14]
  have k_l0 := KD.eq e14 k_l0
  have k_l1 := KD.eq e14 k_l1
  have k5 := KD.eq e14 k5
  have k12 := KD.eq e14 k12
  refine SF_aload_n 0 20 dX0_init_19 rfl rfl rfl ?_
  refine SF_iconst (3 : Int32) 21 dX0_init_20 rfl rfl ?_
  refine SF_newa 23 dX0_init_21 rfl (Or.inl ⟨rfl, rfl⟩) wr_int (by decide) (by decide) rfl ?_
  obtain ⟨g15, e16, h⟩ := lg_some h
  rw [← e16]
  have k_l0 := KD.alloc e16 k_l0
  have k_l1 := KD.alloc e16 k_l1
  have k5 := KD.alloc e16 k5
  have k12 := KD.alloc e16 k12
  have k19 := KD.fresh e16
  obtain ⟨a17, e18, h⟩ := ln_some h
  rw [← e18] at k19
  rw [← e18]
  refine SF_putR 26 fl_X0_18 dX0_init_23 k_l0.1 (fn_arr _ _) (Or.inr ⟨rfl, _, rfl, rfl⟩) rfl ?_
  obtain ⟨g20, e21, h⟩ := lg_some h
  rw [← e21]
  have k_l0 := KD.eq e21 k_l0
  have k_l1 := KD.eq e21 k_l1
  have k5 := KD.eq e21 k5
  have k12 := KD.eq e21 k12
  have k19 := KD.eq e21 k19
  refine SF_aload_n 0 27 dX0_init_26 rfl rfl rfl ?_
  refine SF_iconst (3 : Int32) 28 dX0_init_27 rfl rfl ?_
  refine SF_newa 30 dX0_init_28 rfl (Or.inl ⟨rfl, rfl⟩) wr_int (by decide) (by decide) rfl ?_
  obtain ⟨g22, e23, h⟩ := lg_some h
  rw [← e23]
  have k_l0 := KD.alloc e23 k_l0
  have k_l1 := KD.alloc e23 k_l1
  have k5 := KD.alloc e23 k5
  have k12 := KD.alloc e23 k12
  have k19 := KD.alloc e23 k19
  have k26 := KD.fresh e23
  obtain ⟨a24, e25, h⟩ := ln_some h
  rw [← e25] at k26
  rw [← e25]
  refine SF_putR 33 fl_X0_21 dX0_init_30 k_l0.1 (fn_arr _ _) (Or.inr ⟨rfl, _, rfl, rfl⟩) rfl ?_
  obtain ⟨g27, e28, h⟩ := lg_some h
  rw [← e28]
  have k_l0 := KD.eq e28 k_l0
  have k_l1 := KD.eq e28 k_l1
  have k5 := KD.eq e28 k5
  have k12 := KD.eq e28 k12
  have k19 := KD.eq e28 k19
  have k26 := KD.eq e28 k26
  refine SF_aload_n 0 34 dX0_init_33 rfl rfl rfl ?_
  refine SF_aload_n 1 35 dX0_init_34 rfl rfl rfl ?_
  refine SF_putR 38 fl_X0_24 dX0_init_35 k_l0.1 (fn_obj _ _) (Or.inl rfl) rfl ?_
  obtain ⟨g29, e30, h⟩ := lg_some h
  rw [← e30]
  have k_l0 := KD.eq e30 k_l0
  have k_l1 := KD.eq e30 k_l1
  have k5 := KD.eq e30 k5
  have k12 := KD.eq e30 k12
  have k19 := KD.eq e30 k19
  have k26 := KD.eq e30 k26
  exact RT_v rfl dX0_init_38 h

theorem dX8_init_0 : decode cX8_init 0 = .ok (.aload_n 0, 1) := by decide +kernel
theorem dX8_init_1 : decode cX8_init 1 = .ok (.invokespecial 3, 3) := by decide +kernel
theorem dX8_init_4 : decode cX8_init 4 = .ok (.aload_n 0, 1) := by decide +kernel
theorem dX8_init_5 : decode cX8_init 5 = .ok (.iconst (-1), 1) := by decide +kernel
theorem dX8_init_6 : decode cX8_init 6 = .ok (.putfield 9, 3) := by decide +kernel
theorem dX8_init_9 : decode cX8_init 9 = .ok (.aload_n 0, 1) := by decide +kernel
theorem dX8_init_10 : decode cX8_init 10 = .ok (.iconst 0, 1) := by decide +kernel
theorem dX8_init_11 : decode cX8_init 11 = .ok (.newarray .byte, 2) := by decide +kernel
theorem dX8_init_13 : decode cX8_init 13 = .ok (.putfield 15, 3) := by decide +kernel
theorem dX8_init_16 : decode cX8_init 16 = .ok (.aload_n 0, 1) := by decide +kernel
theorem dX8_init_17 : decode cX8_init 17 = .ok (.sipush 901, 3) := by decide +kernel
theorem dX8_init_20 : decode cX8_init 20 = .ok (.newarray .int, 2) := by decide +kernel
theorem dX8_init_22 : decode cX8_init 22 = .ok (.putfield 19, 3) := by decide +kernel
theorem dX8_init_25 : decode cX8_init 25 = .ok (.aload_n 0, 1) := by decide +kernel
theorem dX8_init_26 : decode cX8_init 26 = .ok (.sipush 901, 3) := by decide +kernel
theorem dX8_init_29 : decode cX8_init 29 = .ok (.newarray .int, 2) := by decide +kernel
theorem dX8_init_31 : decode cX8_init 31 = .ok (.putfield 23, 3) := by decide +kernel
theorem dX8_init_34 : decode cX8_init 34 = .ok (.aload_n 0, 1) := by decide +kernel
theorem dX8_init_35 : decode cX8_init 35 = .ok (.sipush 901, 3) := by decide +kernel
theorem dX8_init_38 : decode cX8_init 38 = .ok (.newarray .int, 2) := by decide +kernel
theorem dX8_init_40 : decode cX8_init 40 = .ok (.putfield 26, 3) := by decide +kernel
theorem dX8_init_43 : decode cX8_init 43 = .ok (.aload_n 0, 1) := by decide +kernel
theorem dX8_init_44 : decode cX8_init 44 = .ok (.sipush 900, 3) := by decide +kernel
theorem dX8_init_47 : decode cX8_init 47 = .ok (.newarray .int, 2) := by decide +kernel
theorem dX8_init_49 : decode cX8_init 49 = .ok (.putfield 29, 3) := by decide +kernel
theorem dX8_init_52 : decode cX8_init 52 = .ok (.aload_n 0, 1) := by decide +kernel
theorem dX8_init_53 : decode cX8_init 53 = .ok (.aload_n 1, 1) := by decide +kernel
theorem dX8_init_54 : decode cX8_init 54 = .ok (.putfield 32, 3) := by decide +kernel
theorem dX8_init_57 : decode cX8_init 57 = .ok (.aload_n 0, 1) := by decide +kernel
theorem dX8_init_58 : decode cX8_init 58 = .ok (.new 36, 3) := by decide +kernel
theorem dX8_init_61 : decode cX8_init 61 = .ok (.dup, 1) := by decide +kernel
theorem dX8_init_62 : decode cX8_init 62 = .ok (.aload_n 1, 1) := by decide +kernel
theorem dX8_init_63 : decode cX8_init 63 = .ok (.invokespecial 38, 3) := by decide +kernel
theorem dX8_init_66 : decode cX8_init 66 = .ok (.putfield 41, 3) := by decide +kernel
theorem dX8_init_69 : decode cX8_init 69 = .ok (.return_, 1) := by decide +kernel
set_option maxRecDepth 20000 in
set_option maxHeartbeats 2000000 in
theorem w_X8_init {X : CX} {d : Nat} (hd : 2 ≤ d) (l0 : Nat) (l1 : Nat) (g g' : G) (rx : Unit) (k_l0 : KD g l0 8) (k_l1 : KD g l1 7) (h : f_X8_init l0 l1 g = some (rx, g')) : Sem X m_X8_init d [.ref (ad X l0), .ref (ad X l1)] g none g' := by
  refine Sem_of (lo := [(0, .ref (ad X l0)), (1, .ref (ad X l1))]) (by decide +kernel) rfl (Nat.le_of_ble_eq_true rfl) ?_
  rw [f_X8_init] at h
  refine SF_aload_n 0 1 dX8_init_0 rfl rfl rfl ?_
  refine SF_objInit 4 ml_X8_3 wo_1 wo_2 dX8_init_1 (Nat.le_trans (by decide) hd) (Nat.le_of_ble_eq_true rfl) rfl ?_
  refine SF_aload_n 0 5 dX8_init_4 rfl rfl rfl ?_
  refine SF_iconst (-1 : Int32) 6 dX8_init_5 rfl rfl ?_
  refine SF_putI 9 fl_X8_9 dX8_init_6 k_l0.1 (fn_int _) (Or.inl rfl) rfl ?_
  obtain ⟨g1, e2, h⟩ := lg_some h
  rw [← e2]
  have k_l0 := KD.eq e2 k_l0
  have k_l1 := KD.eq e2 k_l1
  refine SF_aload_n 0 10 dX8_init_9 rfl rfl rfl ?_
  refine SF_iconst (0 : Int32) 11 dX8_init_10 rfl rfl ?_
  refine SF_newa 13 dX8_init_11 rfl (Or.inr (Or.inr (Or.inr ⟨rfl, rfl⟩))) wr_byte (by decide) (by decide) rfl ?_
  obtain ⟨g3, e4, h⟩ := lg_some h
  rw [← e4]
  have k_l0 := KD.alloc e4 k_l0
  have k_l1 := KD.alloc e4 k_l1
  have k7 := KD.fresh e4
  obtain ⟨a5, e6, h⟩ := ln_some h
  rw [← e6] at k7
  rw [← e6]
  refine SF_putR 16 fl_X8_15 dX8_init_13 k_l0.1 (fn_arr _ _) (Or.inl rfl) rfl ?_
  obtain ⟨g8, e9, h⟩ := lg_some h
  rw [← e9]
  have k_l0 := KD.eq e9 k_l0
  have k_l1 := KD.eq e9 k_l1
  have k7 := KD.eq e9 k7
  refine SF_aload_n 0 17 dX8_init_16 rfl rfl rfl ?_
  refine SF_sipush (901 : Int32) 20 dX8_init_17 rfl rfl ?_
  refine SF_newa 22 dX8_init_20 rfl (Or.inl ⟨rfl, rfl⟩) wr_int (by decide) (by decide) rfl ?_
  obtain ⟨g10, e11, h⟩ := lg_some h
  rw [← e11]
  have k_l0 := KD.alloc e11 k_l0
  have k_l1 := KD.alloc e11 k_l1
  have k7 := KD.alloc e11 k7
  have k14 := KD.fresh e11
  obtain ⟨a12, e13, h⟩ := ln_some h
  rw [← e13] at k14
  rw [← e13]
  refine SF_putR 25 fl_X8_19 dX8_init_22 k_l0.1 (fn_arr _ _) (Or.inr ⟨rfl, _, rfl, rfl⟩) rfl ?_
  obtain ⟨g15, e16, h⟩ := lg_some h
  rw [← e16]
  have k_l0 := KD.eq e16 k_l0
  have k_l1 := KD.eq e16 k_l1
  have k7 := KD.eq e16 k7
  have k14 := KD.eq e16 k14
  refine SF_aload_n 0 26 dX8_init_25 rfl rfl rfl ?_
  refine SF_sipush (901 : Int32) 29 dX8_init_26 rfl rfl ?_
  refine SF_newa 31 dX8_init_29 rfl (Or.inl ⟨rfl, rfl⟩) wr_int (by decide) (by decide) rfl ?_
  obtain ⟨g17, e18, h⟩ := lg_some h
  rw [← e18]
  have k_l0 := KD.alloc e18 k_l0
  have k_l1 := KD.alloc e18 k_l1
  have k7 := KD.alloc e18 k7
  have k14 := KD.alloc e18 k14
  have k21 := KD.fresh e18
  obtain ⟨a19, e20, h⟩ := ln_some h
  rw [← e20] at k21
  rw [← e20]
  refine SF_putR 34 fl_X8_23 dX8_init_31 k_l0.1 (fn_arr _ _) (Or.inr ⟨rfl, _, rfl, rfl⟩) rfl ?_
  obtain ⟨g22, e23, h⟩ := lg_some h
  rw [← e23]
  have k_l0 := KD.eq e23 k_l0
  have k_l1 := KD.eq e23 k_l1
  have k7 := KD.eq e23 k7
  have k14 := KD.eq e23 k14
  have k21 := KD.eq e23 k21
  refine SF_aload_n 0 35 dX8_init_34 rfl rfl rfl ?_
  refine SF_sipush (901 : Int32) 38 dX8_init_35 rfl rfl ?_
  refine SF_newa 40 dX8_init_38 rfl (Or.inl ⟨rfl, rfl⟩) wr_int (by decide) (by decide) rfl ?_
  obtain ⟨g24, e25, h⟩ := lg_some h
  rw [← e25]
  have k_l0 := KD.alloc e25 k_l0
  have k_l1 := KD.alloc e25 k_l1
  have k7 := KD.alloc e25 k7
  have k14 := KD.alloc e25 k14
  have k21 := KD.alloc e25 k21
  have k28 := KD.fresh e25
  obtain ⟨a26, e27, h⟩ := ln_some h
  rw [← e27] at k28
  rw [← e27]
  refine SF_putR 43 fl_X8_26 dX8_init_40 k_l0.1 (fn_arr _ _) (Or.inr ⟨rfl, _, rfl, rfl⟩) rfl ?_
  obtain ⟨g29, e30, h⟩ := lg_some h
  rw [← e30]
  have k_l0 := KD.eq e30 k_l0
  have k_l1 := KD.eq e30 k_l1
  have k7 := KD.eq e30 k7
  have k14 := KD.eq e30 k14
  have k21 := KD.eq e30 k21
  have k28 := KD.eq e30 k28
  refine SF_aload_n 0 44 dX8_init_43 rfl rfl rfl ?_
  refine SF_sipush (900 : Int32) 47 dX8_init_44 rfl rfl ?_
  refine SF_newa 49 dX8_init_47 rfl (Or.inl ⟨rfl, rfl⟩) wr_int (by decide) (by decide) rfl ?_
  obtain ⟨g31, e32, h⟩ := lg_some h
  rw [← e32]
  have k_l0 := KD.alloc e32 k_l0
  have k_l1 := KD.alloc e32 k_l1
  have k7 := KD.alloc e32 k7
  have k14 := KD.alloc e32 k14
  have k21 := KD.alloc e32 k21
  have k28 := KD.alloc e32 k28
  have k35 := KD.fresh e32
  obtain ⟨a33, e34, h⟩ := ln_some h
  rw [← e34] at k35
  rw [← e34]
  refine SF_putR 52 fl_X8_29 dX8_init_49 k_l0.1 (fn_arr _ _) (Or.inr ⟨rfl, _, rfl, rfl⟩) rfl ?_
  obtain ⟨g36, e37, h⟩ := lg_some h
  rw [← e37]
  have k_l0 := KD.eq e37 k_l0
  have k_l1 := KD.eq e37 k_l1
  have k7 := KD.eq e37 k7
  have k14 := KD.eq e37 k14
  have k21 := KD.eq e37 k21
  have k28 := KD.eq e37 k28
  have k35 := KD.eq e37 k35
  refine SF_aload_n 0 53 dX8_init_52 rfl rfl rfl ?_
  refine SF_aload_n 1 54 dX8_init_53 rfl rfl rfl ?_
  refine SF_putR 57 fl_X8_32 dX8_init_54 k_l0.1 (fn_obj _ _) (Or.inl rfl) rfl ?_
  obtain ⟨g38, e39, h⟩ := lg_some h
  rw [← e39]
  have k_l0 := KD.eq e39 k_l0
  have k_l1 := KD.eq e39 k_l1
  have k7 := KD.eq e39 k7
  have k14 := KD.eq e39 k14
  have k21 := KD.eq e39 k21
  have k28 := KD.eq e39 k28
  have k35 := KD.eq e39 k35
  refine SF_aload_n 0 58 dX8_init_57 rfl rfl rfl ?_
  refine SF_new 61 nw_X8_36 dX8_init_58 rfl ?_
  obtain ⟨g40, e41, h⟩ := lg_some h
  rw [← e41]
  have k_l0 := KD.alloc e41 k_l0
  have k_l1 := KD.alloc e41 k_l1
  have k7 := KD.alloc e41 k7
  have k14 := KD.alloc e41 k14
  have k21 := KD.alloc e41 k21
  have k28 := KD.alloc e41 k28
  have k35 := KD.alloc e41 k35
  have k44 := KD.fresh e41
  obtain ⟨a42, e43, h⟩ := ln_some h
  rw [← e43] at k44
  rw [← e43]
  refine SF_dup 62 dX8_init_61 rfl rfl ?_
  refine SF_aload_n 1 63 dX8_init_62 rfl rfl rfl ?_
  obtain ⟨v45, g46, q47, h⟩ := bd_some h
  have s48 := w_X0_init (X := X) (Nat.le_refl 1) a42 l1 g40 g46 v45 k44 k_l1 q47
  refine SF_callI 66 mi_X0_init ml_X8_38 dX8_init_63 (Nat.le_trans (by decide) hd) s48 rfl rfl (Nat.le_of_ble_eq_true rfl) rfl ?_
  have k_l0 := k_l0.ext s48.1
  have k_l1 := k_l1.ext s48.1
  have k7 := k7.ext s48.1
  have k14 := k14.ext s48.1
  have k21 := k21.ext s48.1
  have k28 := k28.ext s48.1
  have k35 := k35.ext s48.1
  have k44 := k44.ext s48.1
  refine SF_putR 69 fl_X8_41 dX8_init_66 k_l0.1 (fn_obj _ _) (Or.inr ⟨rfl, _, rfl, rfl⟩) rfl ?_
  obtain ⟨g49, e50, h⟩ := lg_some h
  rw [← e50]
  have k_l0 := KD.eq e50 k_l0
  have k_l1 := KD.eq e50 k_l1
  have k7 := KD.eq e50 k7
  have k14 := KD.eq e50 k14
  have k21 := KD.eq e50 k21
  have k28 := KD.eq e50 k28
  have k35 := KD.eq e50 k35
  have k44 := KD.eq e50 k44
  exact RT_v rfl dX8_init_69 h

theorem dX9_init_0 : decode cX9_init 0 = .ok (.aload_n 0, 1) := by decide +kernel
theorem dX9_init_1 : decode cX9_init 1 = .ok (.invokespecial 3, 3) := by decide +kernel
theorem dX9_init_4 : decode cX9_init 4 = .ok (.aload_n 0, 1) := by decide +kernel
theorem dX9_init_5 : decode cX9_init 5 = .ok (.bipush 8, 2) := by decide +kernel
theorem dX9_init_7 : decode cX9_init 7 = .ok (.newarray .int, 2) := by decide +kernel
theorem dX9_init_9 : decode cX9_init 9 = .ok (.putfield 11, 3) := by decide +kernel
theorem dX9_init_12 : decode cX9_init 12 = .ok (.aload_n 0, 1) := by decide +kernel
theorem dX9_init_13 : decode cX9_init 13 = .ok (.sipush 396, 3) := by decide +kernel
theorem dX9_init_16 : decode cX9_init 16 = .ok (.newarray .long, 2) := by decide +kernel
theorem dX9_init_18 : decode cX9_init 18 = .ok (.putfield 15, 3) := by decide +kernel
theorem dX9_init_21 : decode cX9_init 21 = .ok (.aload_n 0, 1) := by decide +kernel
theorem dX9_init_22 : decode cX9_init 22 = .ok (.sipush 2592, 3) := by decide +kernel
theorem dX9_init_25 : decode cX9_init 25 = .ok (.newarray .int, 2) := by decide +kernel
theorem dX9_init_27 : decode cX9_init 27 = .ok (.putfield 19, 3) := by decide +kernel
theorem dX9_init_30 : decode cX9_init 30 = .ok (.aload_n 0, 1) := by decide +kernel
theorem dX9_init_31 : decode cX9_init 31 = .ok (.sipush 2592, 3) := by decide +kernel
theorem dX9_init_34 : decode cX9_init 34 = .ok (.newarray .int, 2) := by decide +kernel
theorem dX9_init_36 : decode cX9_init 36 = .ok (.putfield 22, 3) := by decide +kernel
theorem dX9_init_39 : decode cX9_init 39 = .ok (.aload_n 0, 1) := by decide +kernel
theorem dX9_init_40 : decode cX9_init 40 = .ok (.sipush 2592, 3) := by decide +kernel
theorem dX9_init_43 : decode cX9_init 43 = .ok (.newarray .int, 2) := by decide +kernel
theorem dX9_init_45 : decode cX9_init 45 = .ok (.putfield 25, 3) := by decide +kernel
theorem dX9_init_48 : decode cX9_init 48 = .ok (.aload_n 0, 1) := by decide +kernel
theorem dX9_init_49 : decode cX9_init 49 = .ok (.sipush 2592, 3) := by decide +kernel
theorem dX9_init_52 : decode cX9_init 52 = .ok (.newarray .int, 2) := by decide +kernel
theorem dX9_init_54 : decode cX9_init 54 = .ok (.putfield 28, 3) := by decide +kernel
theorem dX9_init_57 : decode cX9_init 57 = .ok (.aload_n 0, 1) := by decide +kernel
theorem dX9_init_58 : decode cX9_init 58 = .ok (.bipush 64, 2) := by decide +kernel
theorem dX9_init_60 : decode cX9_init 60 = .ok (.newarray .long, 2) := by decide +kernel
theorem dX9_init_62 : decode cX9_init 62 = .ok (.putfield 31, 3) := by decide +kernel
theorem dX9_init_65 : decode cX9_init 65 = .ok (.aload_n 0, 1) := by decide +kernel
theorem dX9_init_66 : decode cX9_init 66 = .ok (.aload_n 1, 1) := by decide +kernel
theorem dX9_init_67 : decode cX9_init 67 = .ok (.putfield 34, 3) := by decide +kernel
theorem dX9_init_70 : decode cX9_init 70 = .ok (.return_, 1) := by decide +kernel
set_option maxRecDepth 20000 in
set_option maxHeartbeats 2000000 in
theorem w_X9_init {X : CX} {d : Nat} (hd : 1 ≤ d) (l0 : Nat) (l1 : Nat) (g g' : G) (rx : Unit) (k_l0 : KD g l0 9) (k_l1 : KD g l1 7) (h : f_X9_init l0 l1 g = some (rx, g')) : Sem X m_X9_init d [.ref (ad X l0), .ref (ad X l1)] g none g' := by
  refine Sem_of (lo := [(0, .ref (ad X l0)), (1, .ref (ad X l1))]) (by decide +kernel) rfl (Nat.le_of_ble_eq_true rfl) ?_
  rw [f_X9_init] at h
  refine SF_aload_n 0 1 dX9_init_0 rfl rfl rfl ?_
  refine SF_objInit 4 ml_X9_3 wo_1 wo_2 dX9_init_1 (Nat.le_trans (by decide) hd) (Nat.le_of_ble_eq_true rfl) rfl ?_
  refine SF_aload_n 0 5 dX9_init_4 rfl rfl rfl ?_
  refine SF_bipush (8 : Int32) 7 dX9_init_5 rfl rfl ?_
  refine SF_newa 9 dX9_init_7 rfl (Or.inl ⟨rfl, rfl⟩) wr_int (by decide) (by decide) rfl ?_
  obtain ⟨g1, e2, h⟩ := lg_some h
  rw [← e2]
  have k_l0 := KD.alloc e2 k_l0
  have k_l1 := KD.alloc e2 k_l1
  have k5 := KD.fresh e2
  obtain ⟨a3, e4, h⟩ := ln_some h
  rw [← e4] at k5
  rw [← e4]
  refine SF_putR 12 fl_X9_11 dX9_init_9 k_l0.1 (fn_arr _ _) (Or.inr ⟨rfl, _, rfl, rfl⟩) rfl ?_
  obtain ⟨g6, e7, h⟩ := lg_some h
  rw [← e7]
  have k_l0 := KD.eq e7 k_l0
  have k_l1 := KD.eq e7 k_l1
  have k5 := KD.eq e7 k5
  refine SF_aload_n 0 13 dX9_init_12 rfl rfl rfl ?_
  refine SF_sipush (396 : Int32) 16 dX9_init_13 rfl rfl ?_
  refine SF_newa 18 dX9_init_16 rfl (Or.inr (Or.inl ⟨rfl, rfl⟩)) wr_long (by decide) (by decide) rfl ?_
  obtain ⟨g8, e9, h⟩ := lg_some h
  rw [← e9]
  have k_l0 := KD.alloc e9 k_l0
  have k_l1 := KD.alloc e9 k_l1
  have k5 := KD.alloc e9 k5
  have k12 := KD.fresh e9
  obtain ⟨a10, e11, h⟩ := ln_some h
  rw [← e11] at k12
  rw [← e11]
  refine SF_putR 21 fl_X9_15 dX9_init_18 k_l0.1 (fn_arr _ _) (Or.inr ⟨rfl, _, rfl, rfl⟩) rfl ?_
  obtain ⟨g13, e14, h⟩ := lg_some h
  rw [← e14]
  have k_l0 := KD.eq e14 k_l0
  have k_l1 := KD.eq e14 k_l1
  have k5 := KD.eq e14 k5
  have k12 := KD.eq e14 k12
  refine SF_aload_n 0 22 dX9_init_21 rfl rfl rfl ?_
  refine SF_sipush (2592 : Int32) 25 dX9_init_22 rfl rfl ?_
  refine SF_newa 27 dX9_init_25 rfl (Or.inl ⟨rfl, rfl⟩) wr_int (by decide) (by decide) rfl ?_
  obtain ⟨g15, e16, h⟩ := lg_some h
  rw [← e16]
  have k_l0 := KD.alloc e16 k_l0
  have k_l1 := KD.alloc e16 k_l1
  have k5 := KD.alloc e16 k5
  have k12 := KD.alloc e16 k12
  have k19 := KD.fresh e16
  obtain ⟨a17, e18, h⟩ := ln_some h
  rw [← e18] at k19
  rw [← e18]
  refine SF_putR 30 fl_X9_19 dX9_init_27 k_l0.1 (fn_arr _ _) (Or.inr ⟨rfl, _, rfl, rfl⟩) rfl ?_
  obtain ⟨g20, e21, h⟩ := lg_some h
  rw [← e21]
  have k_l0 := KD.eq e21 k_l0
  have k_l1 := KD.eq e21 k_l1
  have k5 := KD.eq e21 k5
  have k12 := KD.eq e21 k12
  have k19 := KD.eq e21 k19
  refine SF_aload_n 0 31 dX9_init_30 rfl rfl rfl ?_
  refine SF_sipush (2592 : Int32) 34 dX9_init_31 rfl rfl ?_
  refine SF_newa 36 dX9_init_34 rfl (Or.inl ⟨rfl, rfl⟩) wr_int (by decide) (by decide) rfl ?_
  obtain ⟨g22, e23, h⟩ := lg_some h
  rw [← e23]
  have k_l0 := KD.alloc e23 k_l0
  have k_l1 := KD.alloc e23 k_l1
  have k5 := KD.alloc e23 k5
  have k12 := KD.alloc e23 k12
  have k19 := KD.alloc e23 k19
  have k26 := KD.fresh e23
  obtain ⟨a24, e25, h⟩ := ln_some h
  rw [← e25] at k26
  rw [← e25]
  refine SF_putR 39 fl_X9_22 dX9_init_36 k_l0.1 (fn_arr _ _) (Or.inr ⟨rfl, _, rfl, rfl⟩) rfl ?_
  obtain ⟨g27, e28, h⟩ := lg_some h
  rw [← e28]
  have k_l0 := KD.eq e28 k_l0
  have k_l1 := KD.eq e28 k_l1
  have k5 := KD.eq e28 k5
  have k12 := KD.eq e28 k12
  have k19 := KD.eq e28 k19
  have k26 := KD.eq e28 k26
  refine SF_aload_n 0 40 dX9_init_39 rfl rfl rfl ?_
  refine SF_sipush (2592 : Int32) 43 dX9_init_40 rfl rfl ?_
  refine SF_newa 45 dX9_init_43 rfl (Or.inl ⟨rfl, rfl⟩) wr_int (by decide) (by decide) rfl ?_
  obtain ⟨g29, e30, h⟩ := lg_some h
  rw [← e30]
  have k_l0 := KD.alloc e30 k_l0
  have k_l1 := KD.alloc e30 k_l1
  have k5 := KD.alloc e30 k5
  have k12 := KD.alloc e30 k12
  have k19 := KD.alloc e30 k19
  have k26 := KD.alloc e30 k26
  have k33 := KD.fresh e30
  obtain ⟨a31, e32, h⟩ := ln_some h
  rw [← e32] at k33
  rw [← e32]
  refine SF_putR 48 fl_X9_25 dX9_init_45 k_l0.1 (fn_arr _ _) (Or.inr ⟨rfl, _, rfl, rfl⟩) rfl ?_
  obtain ⟨g34, e35, h⟩ := lg_some h
  rw [← e35]
  have k_l0 := KD.eq e35 k_l0
  have k_l1 := KD.eq e35 k_l1
  have k5 := KD.eq e35 k5
  have k12 := KD.eq e35 k12
  have k19 := KD.eq e35 k19
  have k26 := KD.eq e35 k26
  have k33 := KD.eq e35 k33
  refine SF_aload_n 0 49 dX9_init_48 rfl rfl rfl ?_
  refine SF_sipush (2592 : Int32) 52 dX9_init_49 rfl rfl ?_
  refine SF_newa 54 dX9_init_52 rfl (Or.inl ⟨rfl, rfl⟩) wr_int (by decide) (by decide) rfl ?_
  obtain ⟨g36, e37, h⟩ := lg_some h
  rw [← e37]
  have k_l0 := KD.alloc e37 k_l0
  have k_l1 := KD.alloc e37 k_l1
  have k5 := KD.alloc e37 k5
  have k12 := KD.alloc e37 k12
  have k19 := KD.alloc e37 k19
  have k26 := KD.alloc e37 k26
  have k33 := KD.alloc e37 k33
  have k40 := KD.fresh e37
  obtain ⟨a38, e39, h⟩ := ln_some h
  rw [← e39] at k40
  rw [← e39]
  refine SF_putR 57 fl_X9_28 dX9_init_54 k_l0.1 (fn_arr _ _) (Or.inr ⟨rfl, _, rfl, rfl⟩) rfl ?_
  obtain ⟨g41, e42, h⟩ := lg_some h
  rw [← e42]
  have k_l0 := KD.eq e42 k_l0
  have k_l1 := KD.eq e42 k_l1
  have k5 := KD.eq e42 k5
  have k12 := KD.eq e42 k12
  have k19 := KD.eq e42 k19
  have k26 := KD.eq e42 k26
  have k33 := KD.eq e42 k33
  have k40 := KD.eq e42 k40
  refine SF_aload_n 0 58 dX9_init_57 rfl rfl rfl ?_
  refine SF_bipush (64 : Int32) 60 dX9_init_58 rfl rfl ?_
  refine SF_newa 62 dX9_init_60 rfl (Or.inr (Or.inl ⟨rfl, rfl⟩)) wr_long (by decide) (by decide) rfl ?_
  obtain ⟨g43, e44, h⟩ := lg_some h
  rw [← e44]
  have k_l0 := KD.alloc e44 k_l0
  have k_l1 := KD.alloc e44 k_l1
  have k5 := KD.alloc e44 k5
  have k12 := KD.alloc e44 k12
  have k19 := KD.alloc e44 k19
  have k26 := KD.alloc e44 k26
  have k33 := KD.alloc e44 k33
  have k40 := KD.alloc e44 k40
  have k47 := KD.fresh e44
  obtain ⟨a45, e46, h⟩ := ln_some h
  rw [← e46] at k47
  rw [← e46]
  refine SF_putR 65 fl_X9_31 dX9_init_62 k_l0.1 (fn_arr _ _) (Or.inr ⟨rfl, _, rfl, rfl⟩) rfl ?_
  obtain ⟨g48, e49, h⟩ := lg_some h
  rw [← e49]
  have k_l0 := KD.eq e49 k_l0
  have k_l1 := KD.eq e49 k_l1
  have k5 := KD.eq e49 k5
  have k12 := KD.eq e49 k12
  have k19 := KD.eq e49 k19
  have k26 := KD.eq e49 k26
  have k33 := KD.eq e49 k33
  have k40 := KD.eq e49 k40
  have k47 := KD.eq e49 k47
  refine SF_aload_n 0 66 dX9_init_65 rfl rfl rfl ?_
  refine SF_aload_n 1 67 dX9_init_66 rfl rfl rfl ?_
  refine SF_putR 70 fl_X9_34 dX9_init_67 k_l0.1 (fn_obj _ _) (Or.inl rfl) rfl ?_
  obtain ⟨g50, e51, h⟩ := lg_some h
  rw [← e51]
  have k_l0 := KD.eq e51 k_l0
  have k_l1 := KD.eq e51 k_l1
  have k5 := KD.eq e51 k5
  have k12 := KD.eq e51 k12
  have k19 := KD.eq e51 k19
  have k26 := KD.eq e51 k26
  have k33 := KD.eq e51 k33
  have k40 := KD.eq e51 k40
  have k47 := KD.eq e51 k47
  exact RT_v rfl dX9_init_70 h

theorem dX5_init_0 : decode cX5_init 0 = .ok (.aload_n 0, 1) := by decide +kernel
theorem dX5_init_1 : decode cX5_init 1 = .ok (.invokespecial 3, 3) := by decide +kernel
theorem dX5_init_4 : decode cX5_init 4 = .ok (.aload_n 0, 1) := by decide +kernel
theorem dX5_init_5 : decode cX5_init 5 = .ok (.bipush 10, 2) := by decide +kernel
theorem dX5_init_7 : decode cX5_init 7 = .ok (.anewarray 9, 3) := by decide +kernel
theorem dX5_init_10 : decode cX5_init 10 = .ok (.putfield 11, 3) := by decide +kernel
theorem dX5_init_13 : decode cX5_init 13 = .ok (.iconst 0, 1) := by decide +kernel
theorem dX5_init_14 : decode cX5_init 14 = .ok (.istore_n 2, 1) := by decide +kernel
theorem dX5_init_15 : decode cX5_init 15 = .ok (.iload_n 2, 1) := by decide +kernel
theorem dX5_init_16 : decode cX5_init 16 = .ok (.bipush 10, 2) := by decide +kernel
theorem dX5_init_18 : decode cX5_init 18 = .ok (.if_icmp .ge 23, 3) := by decide +kernel
theorem dX5_init_21 : decode cX5_init 21 = .ok (.aload_n 0, 1) := by decide +kernel
theorem dX5_init_22 : decode cX5_init 22 = .ok (.getfield 11, 3) := by decide +kernel
theorem dX5_init_25 : decode cX5_init 25 = .ok (.iload_n 2, 1) := by decide +kernel
theorem dX5_init_26 : decode cX5_init 26 = .ok (.new 9, 3) := by decide +kernel
theorem dX5_init_29 : decode cX5_init 29 = .ok (.dup, 1) := by decide +kernel
theorem dX5_init_30 : decode cX5_init 30 = .ok (.aload_n 1, 1) := by decide +kernel
theorem dX5_init_31 : decode cX5_init 31 = .ok (.invokespecial 17, 3) := by decide +kernel
theorem dX5_init_34 : decode cX5_init 34 = .ok (.aastore, 1) := by decide +kernel
theorem dX5_init_35 : decode cX5_init 35 = .ok (.iinc 2 1, 3) := by decide +kernel
theorem dX5_init_38 : decode cX5_init 38 = .ok (.goto (-23), 3) := by decide +kernel
theorem dX5_init_41 : decode cX5_init 41 = .ok (.return_, 1) := by decide +kernel
set_option maxRecDepth 20000 in
set_option maxHeartbeats 2000000 in
theorem w_X5_init_15 {X : CX} {d : Nat} (hd : 2 ≤ d) {g' : G} {rx : Unit} : ∀ (n : Nat) (l0 : Nat) (l1 : Nat) (l2 : Int32) (g : G), KD g l0 5 → KD g l1 7 → f_X5_init_15 n l0 l1 l2 g = some (rx, g') → SemF X m_X5_init d 15 [(0, .ref (ad X l0)), (1, .ref (ad X l1)), (2, .int l2)] [] g none g' := by
  intro n
  induction n with
  | zero =>
    intro l0 l1 l2 g k_l0 k_l1 h
    rw [f_X5_init_15] at h
    cases h
  | succ n ih =>
  intro l0 l1 l2 g k_l0 k_l1 h
  rw [f_X5_init_15] at h
  refine SF_iload_n 2 16 dX5_init_15 rfl rfl rfl ?_
  refine SF_bipush (10 : Int32) 18 dX5_init_16 rfl rfl ?_
  refine SF_icge 41 21 dX5_init_18 rfl rfl (fun c1 => ?_) (fun c1 => ?_)
  · have h := ite_t c1 h
    exact RT_v rfl dX5_init_41 h
  · have h := ite_f c1 h
    refine SF_aload_n 0 22 dX5_init_21 rfl rfl rfl ?_
    obtain ⟨b2, r3, h⟩ := dr_some h
    refine SF_getR 25 fl_X5_11 dX5_init_22 k_l0.1 r3 rfl ?_
    refine SF_iload_n 2 26 dX5_init_25 rfl rfl rfl ?_
    refine SF_new 29 nw_X5_9 dX5_init_26 rfl ?_
    obtain ⟨g4, e5, h⟩ := lg_some h
    rw [← e5]
    have k_l0 := KD.alloc e5 k_l0
    have k_l1 := KD.alloc e5 k_l1
    have k8 := KD.fresh e5
    obtain ⟨a6, e7, h⟩ := ln_some h
    rw [← e7] at k8
    rw [← e7]
    refine SF_dup 30 dX5_init_29 rfl rfl ?_
    refine SF_aload_n 1 31 dX5_init_30 rfl rfl rfl ?_
    obtain ⟨v9, g10, q11, h⟩ := bd_some h
    have s12 := w_X0_init (X := X) (Nat.le_refl 1) a6 l1 g4 g10 v9 k8 k_l1 q11
    refine SF_callI 34 mi_X0_init ml_X5_17 dX5_init_31 (Nat.le_trans (by decide) hd) s12 rfl rfl (Nat.le_of_ble_eq_true rfl) rfl ?_
    have k_l0 := k_l0.ext s12.1
    have k_l1 := k_l1.ext s12.1
    have k8 := k8.ext s12.1
    obtain ⟨k13, h⟩ := gdK_some h
    obtain ⟨i14, h⟩ := gdI_some h
    refine SF_aast 35 dX5_init_34 k13.1 k8.1 (Or.inl ⟨rfl, rfl⟩) i14 rfl ?_
    obtain ⟨g15, e16, h⟩ := lg_some h
    rw [← e16]
    have k_l0 := KD.eq e16 k_l0
    have k_l1 := KD.eq e16 k_l1
    have k8 := KD.eq e16 k8
    have k13 := KD.eq e16 k13
    have i14 := vp_eq e16 i14
    refine SF_iinc 2 (l2 + (1 : Int32)) [(2, .int (l2 + (1 : Int32))), (0, .ref (ad X l0)), (1, .ref (ad X l1))] 38 dX5_init_35 rfl rfl (by decide) rfl rfl ?_
    refine SF_goto 15 dX5_init_38 rfl ?_
    refine SF_sub [1, 2, 0] rfl ?_
    exact ih l0 l1 (l2 + (1 : Int32)) g15 k_l0 k_l1 h

set_option maxRecDepth 20000 in
set_option maxHeartbeats 2000000 in
theorem w_X5_init {X : CX} {d : Nat} (hd : 2 ≤ d) (l0 : Nat) (l1 : Nat) (g g' : G) (rx : Unit) (k_l0 : KD g l0 5) (k_l1 : KD g l1 7) (h : f_X5_init l0 l1 g = some (rx, g')) : Sem X m_X5_init d [.ref (ad X l0), .ref (ad X l1)] g none g' := by
  refine Sem_of (lo := [(0, .ref (ad X l0)), (1, .ref (ad X l1))]) (by decide +kernel) rfl (Nat.le_of_ble_eq_true rfl) ?_
  rw [f_X5_init] at h
  refine SF_aload_n 0 1 dX5_init_0 rfl rfl rfl ?_
  refine SF_objInit 4 ml_X5_3 wo_1 wo_2 dX5_init_1 (Nat.le_trans (by decide) hd) (Nat.le_of_ble_eq_true rfl) rfl ?_
  refine SF_aload_n 0 5 dX5_init_4 rfl rfl rfl ?_
  refine SF_bipush (10 : Int32) 7 dX5_init_5 rfl rfl ?_
  refine SF_anew 10 dX5_init_7 (Or.inl ⟨rfl, rfl⟩) cl_X5_9 (by decide) (by decide) rfl ?_
  obtain ⟨g1, e2, h⟩ := lg_some h
  rw [← e2]
  have k_l0 := KD.alloc e2 k_l0
  have k_l1 := KD.alloc e2 k_l1
  have k5 := KD.fresh e2
  obtain ⟨a3, e4, h⟩ := ln_some h
  rw [← e4] at k5
  rw [← e4]
  refine SF_putR 13 fl_X5_11 dX5_init_10 k_l0.1 (fn_arr _ _) (Or.inr ⟨rfl, _, rfl, rfl⟩) rfl ?_
  obtain ⟨g6, e7, h⟩ := lg_some h
  rw [← e7]
  have k_l0 := KD.eq e7 k_l0
  have k_l1 := KD.eq e7 k_l1
  have k5 := KD.eq e7 k5
  refine SF_iconst (0 : Int32) 14 dX5_init_13 rfl rfl ?_
  refine SF_istore_n [(2, .int (0 : Int32)), (0, .ref (ad X l0)), (1, .ref (ad X l1))] 15 dX5_init_14 rfl (by decide) rfl rfl ?_
  refine SF_sub [1, 2, 0] rfl ?_
  exact w_X5_init_15 hd FU l0 l1 (0 : Int32) g6 k_l0 k_l1 h

theorem dX10_init_0 : decode cX10_init 0 = .ok (.aload_n 0, 1) := by decide +kernel
theorem dX10_init_1 : decode cX10_init 1 = .ok (.invokespecial 3, 3) := by decide +kernel
theorem dX10_init_4 : decode cX10_init 4 = .ok (.aload_n 0, 1) := by decide +kernel
theorem dX10_init_5 : decode cX10_init 5 = .ok (.iconst (-1), 1) := by decide +kernel
theorem dX10_init_6 : decode cX10_init 6 = .ok (.putfield 9, 3) := by decide +kernel
theorem dX10_init_9 : decode cX10_init 9 = .ok (.aload_n 0, 1) := by decide +kernel
theorem dX10_init_10 : decode cX10_init 10 = .ok (.bipush 40, 2) := by decide +kernel
theorem dX10_init_12 : decode cX10_init 12 = .ok (.newarray .long, 2) := by decide +kernel
theorem dX10_init_14 : decode cX10_init 14 = .ok (.putfield 15, 3) := by decide +kernel
theorem dX10_init_17 : decode cX10_init 17 = .ok (.return_, 1) := by decide +kernel
set_option maxRecDepth 20000 in
set_option maxHeartbeats 2000000 in
theorem w_X10_init {X : CX} {d : Nat} (hd : 1 ≤ d) (l0 : Nat) (g g' : G) (rx : Unit) (k_l0 : KD g l0 10) (h : f_X10_init l0 g = some (rx, g')) : Sem X m_X10_init d [.ref (ad X l0)] g none g' := by
  refine Sem_of (lo := [(0, .ref (ad X l0))]) (by decide +kernel) rfl (Nat.le_of_ble_eq_true rfl) ?_
  rw [f_X10_init] at h
  refine SF_aload_n 0 1 dX10_init_0 rfl rfl rfl ?_
  refine SF_objInit 4 ml_X10_3 wo_1 wo_2 dX10_init_1 (Nat.le_trans (by decide) hd) (Nat.le_of_ble_eq_true rfl) rfl ?_
  refine SF_aload_n 0 5 dX10_init_4 rfl rfl rfl ?_
  refine SF_iconst (-1 : Int32) 6 dX10_init_5 rfl rfl ?_
  refine SF_putI 9 fl_X10_9 dX10_init_6 k_l0.1 (fn_int _) (Or.inl rfl) rfl ?_
  obtain ⟨g1, e2, h⟩ := lg_some h
  rw [← e2]
  have k_l0 := KD.eq e2 k_l0
  refine SF_aload_n 0 10 dX10_init_9 rfl rfl rfl ?_
  refine SF_bipush (40 : Int32) 12 dX10_init_10 rfl rfl ?_
  refine SF_newa 14 dX10_init_12 rfl (Or.inr (Or.inl ⟨rfl, rfl⟩)) wr_long (by decide) (by decide) rfl ?_
  obtain ⟨g3, e4, h⟩ := lg_some h
  rw [← e4]
  have k_l0 := KD.alloc e4 k_l0
  have k7 := KD.fresh e4
  obtain ⟨a5, e6, h⟩ := ln_some h
  rw [← e6] at k7
  rw [← e6]
  refine SF_putR 17 fl_X10_15 dX10_init_14 k_l0.1 (fn_arr _ _) (Or.inr ⟨rfl, _, rfl, rfl⟩) rfl ?_
  obtain ⟨g8, e9, h⟩ := lg_some h
  rw [← e9]
  have k_l0 := KD.eq e9 k_l0
  have k7 := KD.eq e9 k7
  exact RT_v rfl dX10_init_17 h

theorem dX11_init_0 : decode cX11_init 0 = .ok (.aload_n 0, 1) := by decide +kernel
theorem dX11_init_1 : decode cX11_init 1 = .ok (.invokespecial 1, 3) := by decide +kernel
theorem dX11_init_4 : decode cX11_init 4 = .ok (.aload_n 0, 1) := by decide +kernel
theorem dX11_init_5 : decode cX11_init 5 = .ok (.sipush 900, 3) := by decide +kernel
theorem dX11_init_8 : decode cX11_init 8 = .ok (.newarray .byte, 2) := by decide +kernel
theorem dX11_init_10 : decode cX11_init 10 = .ok (.putfield 9, 3) := by decide +kernel
theorem dX11_init_13 : decode cX11_init 13 = .ok (.aload_n 0, 1) := by decide +kernel
theorem dX11_init_14 : decode cX11_init 14 = .ok (.iconst (-1), 1) := by decide +kernel
theorem dX11_init_15 : decode cX11_init 15 = .ok (.putfield 13, 3) := by decide +kernel
theorem dX11_init_18 : decode cX11_init 18 = .ok (.aload_n 0, 1) := by decide +kernel
theorem dX11_init_19 : decode cX11_init 19 = .ok (.new 17, 3) := by decide +kernel
theorem dX11_init_22 : decode cX11_init 22 = .ok (.dup, 1) := by decide +kernel
theorem dX11_init_23 : decode cX11_init 23 = .ok (.invokespecial 19, 3) := by decide +kernel
theorem dX11_init_26 : decode cX11_init 26 = .ok (.putfield 20, 3) := by decide +kernel
theorem dX11_init_29 : decode cX11_init 29 = .ok (.aload_n 0, 1) := by decide +kernel
theorem dX11_init_30 : decode cX11_init 30 = .ok (.new 17, 3) := by decide +kernel
theorem dX11_init_33 : decode cX11_init 33 = .ok (.dup, 1) := by decide +kernel
theorem dX11_init_34 : decode cX11_init 34 = .ok (.invokespecial 19, 3) := by decide +kernel
theorem dX11_init_37 : decode cX11_init 37 = .ok (.putfield 24, 3) := by decide +kernel
theorem dX11_init_40 : decode cX11_init 40 = .ok (.aload_n 0, 1) := by decide +kernel
theorem dX11_init_41 : decode cX11_init 41 = .ok (.iconst (-1), 1) := by decide +kernel
theorem dX11_init_42 : decode cX11_init 42 = .ok (.putfield 27, 3) := by decide +kernel
theorem dX11_init_45 : decode cX11_init 45 = .ok (.aload_n 0, 1) := by decide +kernel
theorem dX11_init_46 : decode cX11_init 46 = .ok (.new 30, 3) := by decide +kernel
theorem dX11_init_49 : decode cX11_init 49 = .ok (.dup, 1) := by decide +kernel
theorem dX11_init_50 : decode cX11_init 50 = .ok (.invokespecial 32, 3) := by decide +kernel
theorem dX11_init_53 : decode cX11_init 53 = .ok (.putfield 33, 3) := by decide +kernel
theorem dX11_init_56 : decode cX11_init 56 = .ok (.aload_n 0, 1) := by decide +kernel
theorem dX11_init_57 : decode cX11_init 57 = .ok (.new 37, 3) := by decide +kernel
theorem dX11_init_60 : decode cX11_init 60 = .ok (.dup, 1) := by decide +kernel
theorem dX11_init_61 : decode cX11_init 61 = .ok (.invokespecial 39, 3) := by decide +kernel
theorem dX11_init_64 : decode cX11_init 64 = .ok (.putfield 40, 3) := by decide +kernel
theorem dX11_init_67 : decode cX11_init 67 = .ok (.aload_n 0, 1) := by decide +kernel
theorem dX11_init_68 : decode cX11_init 68 = .ok (.new 44, 3) := by decide +kernel
theorem dX11_init_71 : decode cX11_init 71 = .ok (.dup, 1) := by decide +kernel
theorem dX11_init_72 : decode cX11_init 72 = .ok (.invokespecial 46, 3) := by decide +kernel
theorem dX11_init_75 : decode cX11_init 75 = .ok (.putfield 47, 3) := by decide +kernel
theorem dX11_init_78 : decode cX11_init 78 = .ok (.aload_n 0, 1) := by decide +kernel
theorem dX11_init_79 : decode cX11_init 79 = .ok (.new 51, 3) := by decide +kernel
theorem dX11_init_82 : decode cX11_init 82 = .ok (.dup, 1) := by decide +kernel
theorem dX11_init_83 : decode cX11_init 83 = .ok (.invokespecial 53, 3) := by decide +kernel
theorem dX11_init_86 : decode cX11_init 86 = .ok (.putfield 54, 3) := by decide +kernel
theorem dX11_init_89 : decode cX11_init 89 = .ok (.aload_n 0, 1) := by decide +kernel
theorem dX11_init_90 : decode cX11_init 90 = .ok (.iconst 4, 1) := by decide +kernel
theorem dX11_init_91 : decode cX11_init 91 = .ok (.anewarray 58, 3) := by decide +kernel
theorem dX11_init_94 : decode cX11_init 94 = .ok (.putfield 60, 3) := by decide +kernel
theorem dX11_init_97 : decode cX11_init 97 = .ok (.aload_n 0, 1) := by decide +kernel
theorem dX11_init_98 : decode cX11_init 98 = .ok (.iconst 2, 1) := by decide +kernel
theorem dX11_init_99 : decode cX11_init 99 = .ok (.anewarray 64, 3) := by decide +kernel
theorem dX11_init_102 : decode cX11_init 102 = .ok (.putfield 66, 3) := by decide +kernel
theorem dX11_init_105 : decode cX11_init 105 = .ok (.new 70, 3) := by decide +kernel
theorem dX11_init_108 : decode cX11_init 108 = .ok (.dup, 1) := by decide +kernel
theorem dX11_init_109 : decode cX11_init 109 = .ok (.iconst 1, 1) := by decide +kernel
theorem dX11_init_110 : decode cX11_init 110 = .ok (.iconst 1, 1) := by decide +kernel
theorem dX11_init_111 : decode cX11_init 111 = .ok (.invokespecial 72, 3) := by decide +kernel
theorem dX11_init_114 : decode cX11_init 114 = .ok (.astore_n 1, 1) := by decide +kernel
theorem dX11_init_115 : decode cX11_init 115 = .ok (.aload_n 0, 1) := by decide +kernel
theorem dX11_init_116 : decode cX11_init 116 = .ok (.new 64, 3) := by decide +kernel
theorem dX11_init_119 : decode cX11_init 119 = .ok (.dup, 1) := by decide +kernel
theorem dX11_init_120 : decode cX11_init 120 = .ok (.aload_n 1, 1) := by decide +kernel
theorem dX11_init_121 : decode cX11_init 121 = .ok (.invokespecial 75, 3) := by decide +kernel
theorem dX11_init_124 : decode cX11_init 124 = .ok (.putfield 78, 3) := by decide +kernel
theorem dX11_init_127 : decode cX11_init 127 = .ok (.aload_n 0, 1) := by decide +kernel
theorem dX11_init_128 : decode cX11_init 128 = .ok (.new 64, 3) := by decide +kernel
theorem dX11_init_131 : decode cX11_init 131 = .ok (.dup, 1) := by decide +kernel
theorem dX11_init_132 : decode cX11_init 132 = .ok (.aload_n 1, 1) := by decide +kernel
theorem dX11_init_133 : decode cX11_init 133 = .ok (.invokespecial 75, 3) := by decide +kernel
theorem dX11_init_136 : decode cX11_init 136 = .ok (.putfield 82, 3) := by decide +kernel
theorem dX11_init_139 : decode cX11_init 139 = .ok (.aload_n 0, 1) := by decide +kernel
theorem dX11_init_140 : decode cX11_init 140 = .ok (.new 85, 3) := by decide +kernel
theorem dX11_init_143 : decode cX11_init 143 = .ok (.dup, 1) := by decide +kernel
theorem dX11_init_144 : decode cX11_init 144 = .ok (.aload_n 1, 1) := by decide +kernel
theorem dX11_init_145 : decode cX11_init 145 = .ok (.invokespecial 87, 3) := by decide +kernel
theorem dX11_init_148 : decode cX11_init 148 = .ok (.putfield 88, 3) := by decide +kernel
theorem dX11_init_151 : decode cX11_init 151 = .ok (.aload_n 0, 1) := by decide +kernel
theorem dX11_init_152 : decode cX11_init 152 = .ok (.new 92, 3) := by decide +kernel
theorem dX11_init_155 : decode cX11_init 155 = .ok (.dup, 1) := by decide +kernel
theorem dX11_init_156 : decode cX11_init 156 = .ok (.aload_n 1, 1) := by decide +kernel
theorem dX11_init_157 : decode cX11_init 157 = .ok (.invokespecial 94, 3) := by decide +kernel
theorem dX11_init_160 : decode cX11_init 160 = .ok (.putfield 95, 3) := by decide +kernel
theorem dX11_init_163 : decode cX11_init 163 = .ok (.aload_n 0, 1) := by decide +kernel
theorem dX11_init_164 : decode cX11_init 164 = .ok (.new 99, 3) := by decide +kernel
theorem dX11_init_167 : decode cX11_init 167 = .ok (.dup, 1) := by decide +kernel
theorem dX11_init_168 : decode cX11_init 168 = .ok (.aload_n 1, 1) := by decide +kernel
theorem dX11_init_169 : decode cX11_init 169 = .ok (.invokespecial 101, 3) := by decide +kernel
theorem dX11_init_172 : decode cX11_init 172 = .ok (.putfield 102, 3) := by decide +kernel
theorem dX11_init_175 : decode cX11_init 175 = .ok (.iconst 0, 1) := by decide +kernel
theorem dX11_init_176 : decode cX11_init 176 = .ok (.istore_n 2, 1) := by decide +kernel
theorem dX11_init_177 : decode cX11_init 177 = .ok (.iload_n 2, 1) := by decide +kernel
theorem dX11_init_178 : decode cX11_init 178 = .ok (.iconst 4, 1) := by decide +kernel
theorem dX11_init_179 : decode cX11_init 179 = .ok (.if_icmp .ge 22, 3) := by decide +kernel
theorem dX11_init_182 : decode cX11_init 182 = .ok (.aload_n 0, 1) := by decide +kernel
theorem dX11_init_183 : decode cX11_init 183 = .ok (.getfield 60, 3) := by decide +kernel
theorem dX11_init_186 : decode cX11_init 186 = .ok (.iload_n 2, 1) := by decide +kernel
theorem dX11_init_187 : decode cX11_init 187 = .ok (.new 58, 3) := by decide +kernel
theorem dX11_init_190 : decode cX11_init 190 = .ok (.dup, 1) := by decide +kernel
theorem dX11_init_191 : decode cX11_init 191 = .ok (.invokespecial 106, 3) := by decide +kernel
theorem dX11_init_194 : decode cX11_init 194 = .ok (.aastore, 1) := by decide +kernel
theorem dX11_init_195 : decode cX11_init 195 = .ok (.iinc 2 1, 3) := by decide +kernel
theorem dX11_init_198 : decode cX11_init 198 = .ok (.goto (-21), 3) := by decide +kernel
theorem dX11_init_201 : decode cX11_init 201 = .ok (.return_, 1) := by decide +kernel
set_option maxRecDepth 20000 in
set_option maxHeartbeats 2000000 in
theorem w_X11_init_177 {X : CX} {d : Nat} (hd : 3 ≤ d) {g' : G} {rx : Unit} : ∀ (n : Nat) (l0 : Nat) (l2 : Int32) (g : G), KD g l0 11 → f_X11_init_177 n l0 l2 g = some (rx, g') → SemF X m_X11_init d 177 [(0, .ref (ad X l0)), (2, .int l2)] [] g none g' := by
  intro n
  induction n with
  | zero =>
    intro l0 l2 g k_l0 h
    rw [f_X11_init_177] at h
    cases h
  | succ n ih =>
  intro l0 l2 g k_l0 h
  rw [f_X11_init_177] at h
  refine SF_iload_n 1 178 dX11_init_177 rfl rfl rfl ?_
  refine SF_iconst (4 : Int32) 179 dX11_init_178 rfl rfl ?_
  refine SF_icge 201 182 dX11_init_179 rfl rfl (fun c1 => ?_) (fun c1 => ?_)
  · have h := ite_t c1 h
    exact RT_v rfl dX11_init_201 h
  · have h := ite_f c1 h
    refine SF_aload_n 0 183 dX11_init_182 rfl rfl rfl ?_
    obtain ⟨b2, r3, h⟩ := dr_some h
    refine SF_getR 186 fl_X11_60 dX11_init_183 k_l0.1 r3 rfl ?_
    refine SF_iload_n 1 187 dX11_init_186 rfl rfl rfl ?_
    refine SF_new 190 nw_X11_58 dX11_init_187 rfl ?_
    obtain ⟨g4, e5, h⟩ := lg_some h
    rw [← e5]
    have k_l0 := KD.alloc e5 k_l0
    have k8 := KD.fresh e5
    obtain ⟨a6, e7, h⟩ := ln_some h
    rw [← e7] at k8
    rw [← e7]
    refine SF_dup 191 dX11_init_190 rfl rfl ?_
    obtain ⟨v9, g10, q11, h⟩ := bd_some h
    have s12 := w_X10_init (X := X) (Nat.le_refl 1) a6 g4 g10 v9 k8 q11
    refine SF_callIN 194 mi_X10_init rfl (by decide +kernel) dX11_init_191 (Nat.le_trans (by decide) hd) s12 rfl rfl (Nat.le_of_ble_eq_true rfl) rfl ?_
    have k_l0 := k_l0.ext s12.1
    have k8 := k8.ext s12.1
    obtain ⟨k13, h⟩ := gdK_some h
    obtain ⟨i14, h⟩ := gdI_some h
    refine SF_aast 195 dX11_init_194 k13.1 k8.1 (Or.inr ⟨rfl, rfl⟩) i14 rfl ?_
    obtain ⟨g15, e16, h⟩ := lg_some h
    rw [← e16]
    have k_l0 := KD.eq e16 k_l0
    have k8 := KD.eq e16 k8
    have k13 := KD.eq e16 k13
    have i14 := vp_eq e16 i14
    refine SF_iinc 1 (l2 + (1 : Int32)) [(2, .int (l2 + (1 : Int32))), (0, .ref (ad X l0))] 198 dX11_init_195 rfl rfl (by decide) rfl rfl ?_
    refine SF_goto 177 dX11_init_198 rfl ?_
    refine SF_sub [1, 0] rfl ?_
    exact ih l0 (l2 + (1 : Int32)) g15 k_l0 h

set_option maxRecDepth 20000 in
set_option maxHeartbeats 2000000 in
theorem w_X11_init {X : CX} {d : Nat} (hd : 3 ≤ d) (l0 : Nat) (g g' : G) (rx : Unit) (k_l0 : KD g l0 11) (h : f_X11_init l0 g = some (rx, g')) : Sem X m_X11_init d [.ref (ad X l0)] g none g' := by
  refine Sem_of (lo := [(0, .ref (ad X l0))]) (by decide +kernel) rfl (Nat.le_of_ble_eq_true rfl) ?_
  rw [f_X11_init] at h
  refine SF_aload_n 0 1 dX11_init_0 rfl rfl rfl ?_
  refine SF_objInit 4 ml_X11_1 wo_1 wo_2 dX11_init_1 (Nat.le_trans (by decide) hd) (Nat.le_of_ble_eq_true rfl) rfl ?_
  refine SF_aload_n 0 5 dX11_init_4 rfl rfl rfl ?_
  refine SF_sipush (900 : Int32) 8 dX11_init_5 rfl rfl ?_
  refine SF_newa 10 dX11_init_8 rfl (Or.inr (Or.inr (Or.inr ⟨rfl, rfl⟩))) wr_byte (by decide) (by decide) rfl ?_
  obtain ⟨g1, e2, h⟩ := lg_some h
  rw [← e2]
  have k_l0 := KD.alloc e2 k_l0
  have k5 := KD.fresh e2
  obtain ⟨a3, e4, h⟩ := ln_some h
  rw [← e4] at k5
  rw [← e4]
  refine SF_putR 13 fl_X11_9 dX11_init_10 k_l0.1 (fn_arr _ _) (Or.inr ⟨rfl, _, rfl, rfl⟩) rfl ?_
  obtain ⟨g6, e7, h⟩ := lg_some h
  rw [← e7]
  have k_l0 := KD.eq e7 k_l0
  have k5 := KD.eq e7 k5
  refine SF_aload_n 0 14 dX11_init_13 rfl rfl rfl ?_
  refine SF_iconst (-1 : Int32) 15 dX11_init_14 rfl rfl ?_
  refine SF_putI 18 fl_X11_13 dX11_init_15 k_l0.1 (fn_int _) (Or.inl rfl) rfl ?_
  obtain ⟨g8, e9, h⟩ := lg_some h
  rw [← e9]
  have k_l0 := KD.eq e9 k_l0
  have k5 := KD.eq e9 k5
  refine SF_aload_n 0 19 dX11_init_18 rfl rfl rfl ?_
  refine SF_new 22 nw_X11_17 dX11_init_19 rfl ?_
  obtain ⟨g10, e11, h⟩ := lg_some h
  rw [← e11]
  have k_l0 := KD.alloc e11 k_l0
  have k5 := KD.alloc e11 k5
  have k14 := KD.fresh e11
  obtain ⟨a12, e13, h⟩ := ln_some h
  rw [← e13] at k14
  rw [← e13]
  refine SF_dup 23 dX11_init_22 rfl rfl ?_
  obtain ⟨v15, g16, q17, h⟩ := bd_some h
  have s18 := w_X4_init (X := X) (Nat.le_refl 1) a12 g10 g16 v15 k14 q17
  refine SF_callIN 26 mi_X4_init rfl (by decide +kernel) dX11_init_23 (Nat.le_trans (by decide) hd) s18 rfl rfl (Nat.le_of_ble_eq_true rfl) rfl ?_
  have k_l0 := k_l0.ext s18.1
  have k5 := k5.ext s18.1
  have k14 := k14.ext s18.1
  refine SF_putR 29 fl_X11_20 dX11_init_26 k_l0.1 (fn_obj _ _) (Or.inr ⟨rfl, _, rfl, rfl⟩) rfl ?_
  obtain ⟨g19, e20, h⟩ := lg_some h
  rw [← e20]
  have k_l0 := KD.eq e20 k_l0
  have k5 := KD.eq e20 k5
  have k14 := KD.eq e20 k14
  refine SF_aload_n 0 30 dX11_init_29 rfl rfl rfl ?_
  refine SF_new 33 nw_X11_17 dX11_init_30 rfl ?_
  obtain ⟨g21, e22, h⟩ := lg_some h
  rw [← e22]
  have k_l0 := KD.alloc e22 k_l0
  have k5 := KD.alloc e22 k5
  have k14 := KD.alloc e22 k14
  have k25 := KD.fresh e22
  obtain ⟨a23, e24, h⟩ := ln_some h
  rw [← e24] at k25
  rw [← e24]
  refine SF_dup 34 dX11_init_33 rfl rfl ?_
  obtain ⟨v26, g27, q28, h⟩ := bd_some h
  have s29 := w_X4_init (X := X) (Nat.le_refl 1) a23 g21 g27 v26 k25 q28
  refine SF_callIN 37 mi_X4_init rfl (by decide +kernel) dX11_init_34 (Nat.le_trans (by decide) hd) s29 rfl rfl (Nat.le_of_ble_eq_true rfl) rfl ?_
  have k_l0 := k_l0.ext s29.1
  have k5 := k5.ext s29.1
  have k14 := k14.ext s29.1
  have k25 := k25.ext s29.1
  refine SF_putR 40 fl_X11_24 dX11_init_37 k_l0.1 (fn_obj _ _) (Or.inr ⟨rfl, _, rfl, rfl⟩) rfl ?_
  obtain ⟨g30, e31, h⟩ := lg_some h
  rw [← e31]
  have k_l0 := KD.eq e31 k_l0
  have k5 := KD.eq e31 k5
  have k14 := KD.eq e31 k14
  have k25 := KD.eq e31 k25
  refine SF_aload_n 0 41 dX11_init_40 rfl rfl rfl ?_
  refine SF_iconst (-1 : Int32) 42 dX11_init_41 rfl rfl ?_
  refine SF_putI 45 fl_X11_27 dX11_init_42 k_l0.1 (fn_int _) (Or.inl rfl) rfl ?_
  obtain ⟨g32, e33, h⟩ := lg_some h
  rw [← e33]
  have k_l0 := KD.eq e33 k_l0
  have k5 := KD.eq e33 k5
  have k14 := KD.eq e33 k14
  have k25 := KD.eq e33 k25
  refine SF_aload_n 0 46 dX11_init_45 rfl rfl rfl ?_
  refine SF_new 49 nw_X11_30 dX11_init_46 rfl ?_
  obtain ⟨g34, e35, h⟩ := lg_some h
  rw [← e35]
  have k_l0 := KD.alloc e35 k_l0
  have k5 := KD.alloc e35 k5
  have k14 := KD.alloc e35 k14
  have k25 := KD.alloc e35 k25
  have k38 := KD.fresh e35
  obtain ⟨a36, e37, h⟩ := ln_some h
  rw [← e37] at k38
  rw [← e37]
  refine SF_dup 50 dX11_init_49 rfl rfl ?_
  obtain ⟨v39, g40, q41, h⟩ := bd_some h
  have s42 := w_X1_init (X := X) (Nat.le_refl 1) a36 g34 g40 v39 k38 q41
  refine SF_callIN 53 mi_X1_init rfl (by decide +kernel) dX11_init_50 (Nat.le_trans (by decide) hd) s42 rfl rfl (Nat.le_of_ble_eq_true rfl) rfl ?_
  have k_l0 := k_l0.ext s42.1
  have k5 := k5.ext s42.1
  have k14 := k14.ext s42.1
  have k25 := k25.ext s42.1
  have k38 := k38.ext s42.1
  refine SF_putR 56 fl_X11_33 dX11_init_53 k_l0.1 (fn_obj _ _) (Or.inr ⟨rfl, _, rfl, rfl⟩) rfl ?_
  obtain ⟨g43, e44, h⟩ := lg_some h
  rw [← e44]
  have k_l0 := KD.eq e44 k_l0
  have k5 := KD.eq e44 k5
  have k14 := KD.eq e44 k14
  have k25 := KD.eq e44 k25
  have k38 := KD.eq e44 k38
  refine SF_aload_n 0 57 dX11_init_56 rfl rfl rfl ?_
  refine SF_new 60 nw_X11_37 dX11_init_57 rfl ?_
  obtain ⟨g45, e46, h⟩ := lg_some h
  rw [← e46]
  have k_l0 := KD.alloc e46 k_l0
  have k5 := KD.alloc e46 k5
  have k14 := KD.alloc e46 k14
  have k25 := KD.alloc e46 k25
  have k38 := KD.alloc e46 k38
  have k49 := KD.fresh e46
  obtain ⟨a47, e48, h⟩ := ln_some h
  rw [← e48] at k49
  rw [← e48]
  refine SF_dup 61 dX11_init_60 rfl rfl ?_
  obtain ⟨v50, g51, q52, h⟩ := bd_some h
  have s53 := w_X2_init (X := X) (Nat.le_refl 1) a47 g45 g51 v50 k49 q52
  refine SF_callIN 64 mi_X2_init rfl (by decide +kernel) dX11_init_61 (Nat.le_trans (by decide) hd) s53 rfl rfl (Nat.le_of_ble_eq_true rfl) rfl ?_
  have k_l0 := k_l0.ext s53.1
  have k5 := k5.ext s53.1
  have k14 := k14.ext s53.1
  have k25 := k25.ext s53.1
  have k38 := k38.ext s53.1
  have k49 := k49.ext s53.1
  refine SF_putR 67 fl_X11_40 dX11_init_64 k_l0.1 (fn_obj _ _) (Or.inr ⟨rfl, _, rfl, rfl⟩) rfl ?_
  obtain ⟨g54, e55, h⟩ := lg_some h
  rw [← e55]
  have k_l0 := KD.eq e55 k_l0
  have k5 := KD.eq e55 k5
  have k14 := KD.eq e55 k14
  have k25 := KD.eq e55 k25
  have k38 := KD.eq e55 k38
  have k49 := KD.eq e55 k49
  refine SF_aload_n 0 68 dX11_init_67 rfl rfl rfl ?_
  refine SF_new 71 nw_X11_44 dX11_init_68 rfl ?_
  obtain ⟨g56, e57, h⟩ := lg_some h
  rw [← e57]
  have k_l0 := KD.alloc e57 k_l0
  have k5 := KD.alloc e57 k5
  have k14 := KD.alloc e57 k14
  have k25 := KD.alloc e57 k25
  have k38 := KD.alloc e57 k38
  have k49 := KD.alloc e57 k49
  have k60 := KD.fresh e57
  obtain ⟨a58, e59, h⟩ := ln_some h
  rw [← e59] at k60
  rw [← e59]
  refine SF_dup 72 dX11_init_71 rfl rfl ?_
  obtain ⟨v61, g62, q63, h⟩ := bd_some h
  have s64 := w_X3_init (X := X) (Nat.le_refl 1) a58 g56 g62 v61 k60 q63
  refine SF_callIN 75 mi_X3_init rfl (by decide +kernel) dX11_init_72 (Nat.le_trans (by decide) hd) s64 rfl rfl (Nat.le_of_ble_eq_true rfl) rfl ?_
  have k_l0 := k_l0.ext s64.1
  have k5 := k5.ext s64.1
  have k14 := k14.ext s64.1
  have k25 := k25.ext s64.1
  have k38 := k38.ext s64.1
  have k49 := k49.ext s64.1
  have k60 := k60.ext s64.1
  refine SF_putR 78 fl_X11_47 dX11_init_75 k_l0.1 (fn_obj _ _) (Or.inr ⟨rfl, _, rfl, rfl⟩) rfl ?_
  obtain ⟨g65, e66, h⟩ := lg_some h
  rw [← e66]
  have k_l0 := KD.eq e66 k_l0
  have k5 := KD.eq e66 k5
  have k14 := KD.eq e66 k14
  have k25 := KD.eq e66 k25
  have k38 := KD.eq e66 k38
  have k49 := KD.eq e66 k49
  have k60 := KD.eq e66 k60
  refine SF_aload_n 0 79 dX11_init_78 rfl rfl rfl ?_
  refine SF_new 82 nw_X11_51 dX11_init_79 rfl ?_
  obtain ⟨g67, e68, h⟩ := lg_some h
  rw [← e68]
  have k_l0 := KD.alloc e68 k_l0
  have k5 := KD.alloc e68 k5
  have k14 := KD.alloc e68 k14
  have k25 := KD.alloc e68 k25
  have k38 := KD.alloc e68 k38
  have k49 := KD.alloc e68 k49
  have k60 := KD.alloc e68 k60
  have k71 := KD.fresh e68
  obtain ⟨a69, e70, h⟩ := ln_some h
  rw [← e70] at k71
  rw [← e70]
  refine SF_dup 83 dX11_init_82 rfl rfl ?_
  obtain ⟨v72, g73, q74, h⟩ := bd_some h
  have s75 := w_X6_init (X := X) (Nat.le_refl 1) a69 g67 g73 v72 k71 q74
  refine SF_callIN 86 mi_X6_init rfl (by decide +kernel) dX11_init_83 (Nat.le_trans (by decide) hd) s75 rfl rfl (Nat.le_of_ble_eq_true rfl) rfl ?_
  have k_l0 := k_l0.ext s75.1
  have k5 := k5.ext s75.1
  have k14 := k14.ext s75.1
  have k25 := k25.ext s75.1
  have k38 := k38.ext s75.1
  have k49 := k49.ext s75.1
  have k60 := k60.ext s75.1
  have k71 := k71.ext s75.1
  refine SF_putR 89 fl_X11_54 dX11_init_86 k_l0.1 (fn_obj _ _) (Or.inr ⟨rfl, _, rfl, rfl⟩) rfl ?_
  obtain ⟨g76, e77, h⟩ := lg_some h
  rw [← e77]
  have k_l0 := KD.eq e77 k_l0
  have k5 := KD.eq e77 k5
  have k14 := KD.eq e77 k14
  have k25 := KD.eq e77 k25
  have k38 := KD.eq e77 k38
  have k49 := KD.eq e77 k49
  have k60 := KD.eq e77 k60
  have k71 := KD.eq e77 k71
  refine SF_aload_n 0 90 dX11_init_89 rfl rfl rfl ?_
  refine SF_iconst (4 : Int32) 91 dX11_init_90 rfl rfl ?_
  refine SF_anew 94 dX11_init_91 (Or.inr ⟨rfl, rfl⟩) cl_X11_58 (by decide) (by decide) rfl ?_
  obtain ⟨g78, e79, h⟩ := lg_some h
  rw [← e79]
  have k_l0 := KD.alloc e79 k_l0
  have k5 := KD.alloc e79 k5
  have k14 := KD.alloc e79 k14
  have k25 := KD.alloc e79 k25
  have k38 := KD.alloc e79 k38
  have k49 := KD.alloc e79 k49
  have k60 := KD.alloc e79 k60
  have k71 := KD.alloc e79 k71
  have k82 := KD.fresh e79
  obtain ⟨a80, e81, h⟩ := ln_some h
  rw [← e81] at k82
  rw [← e81]
  refine SF_putR 97 fl_X11_60 dX11_init_94 k_l0.1 (fn_arr _ _) (Or.inr ⟨rfl, _, rfl, rfl⟩) rfl ?_
  obtain ⟨g83, e84, h⟩ := lg_some h
  rw [← e84]
  have k_l0 := KD.eq e84 k_l0
  have k5 := KD.eq e84 k5
  have k14 := KD.eq e84 k14
  have k25 := KD.eq e84 k25
  have k38 := KD.eq e84 k38
  have k49 := KD.eq e84 k49
  have k60 := KD.eq e84 k60
  have k71 := KD.eq e84 k71
  have k82 := KD.eq e84 k82
  refine SF_aload_n 0 98 dX11_init_97 rfl rfl rfl ?_
  refine SF_iconst (2 : Int32) 99 dX11_init_98 rfl rfl ?_
  refine SF_anew 102 dX11_init_99 (Or.inl ⟨rfl, rfl⟩) cl_X11_64 (by decide) (by decide) rfl ?_
  obtain ⟨g85, e86, h⟩ := lg_some h
  rw [← e86]
  have k_l0 := KD.alloc e86 k_l0
  have k5 := KD.alloc e86 k5
  have k14 := KD.alloc e86 k14
  have k25 := KD.alloc e86 k25
  have k38 := KD.alloc e86 k38
  have k49 := KD.alloc e86 k49
  have k60 := KD.alloc e86 k60
  have k71 := KD.alloc e86 k71
  have k82 := KD.alloc e86 k82
  have k89 := KD.fresh e86
  obtain ⟨a87, e88, h⟩ := ln_some h
  rw [← e88] at k89
  rw [← e88]
  refine SF_putR 105 fl_X11_66 dX11_init_102 k_l0.1 (fn_arr _ _) (Or.inr ⟨rfl, _, rfl, rfl⟩) rfl ?_
  obtain ⟨g90, e91, h⟩ := lg_some h
  rw [← e91]
  have k_l0 := KD.eq e91 k_l0
  have k5 := KD.eq e91 k5
  have k14 := KD.eq e91 k14
  have k25 := KD.eq e91 k25
  have k38 := KD.eq e91 k38
  have k49 := KD.eq e91 k49
  have k60 := KD.eq e91 k60
  have k71 := KD.eq e91 k71
  have k82 := KD.eq e91 k82
  have k89 := KD.eq e91 k89
  refine SF_new 108 nw_X11_70 dX11_init_105 rfl ?_
  obtain ⟨g92, e93, h⟩ := lg_some h
  rw [← e93]
  have k_l0 := KD.alloc e93 k_l0
  have k5 := KD.alloc e93 k5
  have k14 := KD.alloc e93 k14
  have k25 := KD.alloc e93 k25
  have k38 := KD.alloc e93 k38
  have k49 := KD.alloc e93 k49
  have k60 := KD.alloc e93 k60
  have k71 := KD.alloc e93 k71
  have k82 := KD.alloc e93 k82
  have k89 := KD.alloc e93 k89
  have k96 := KD.fresh e93
  obtain ⟨a94, e95, h⟩ := ln_some h
  rw [← e95] at k96
  rw [← e95]
  refine SF_dup 109 dX11_init_108 rfl rfl ?_
  refine SF_iconst (1 : Int32) 110 dX11_init_109 rfl rfl ?_
  refine SF_iconst (1 : Int32) 111 dX11_init_110 rfl rfl ?_
  obtain ⟨v97, g98, q99, h⟩ := bd_some h
  have s100 := w_X7_init (X := X) (Nat.le_refl 1) a94 (1 : Int32) (1 : Int32) g92 g98 v97 k96 q99
  refine SF_callI 114 mi_X7_init ml_X11_72 dX11_init_111 (Nat.le_trans (by decide) hd) s100 rfl rfl (Nat.le_of_ble_eq_true rfl) rfl ?_
  have k_l0 := k_l0.ext s100.1
  have k5 := k5.ext s100.1
  have k14 := k14.ext s100.1
  have k25 := k25.ext s100.1
  have k38 := k38.ext s100.1
  have k49 := k49.ext s100.1
  have k60 := k60.ext s100.1
  have k71 := k71.ext s100.1
  have k82 := k82.ext s100.1
  have k89 := k89.ext s100.1
  have k96 := k96.ext s100.1
  refine SF_astore_n [(1, .ref (ad X a94)), (0, .ref (ad X l0))] 115 dX11_init_114 rfl (by decide) rfl rfl ?_
  refine SF_aload_n 1 116 dX11_init_115 rfl rfl rfl ?_
  refine SF_new 119 nw_X11_64 dX11_init_116 rfl ?_
  obtain ⟨g101, e102, h⟩ := lg_some h
  rw [← e102]
  have k_l0 := KD.alloc e102 k_l0
  have k5 := KD.alloc e102 k5
  have k14 := KD.alloc e102 k14
  have k25 := KD.alloc e102 k25
  have k38 := KD.alloc e102 k38
  have k49 := KD.alloc e102 k49
  have k60 := KD.alloc e102 k60
  have k71 := KD.alloc e102 k71
  have k82 := KD.alloc e102 k82
  have k89 := KD.alloc e102 k89
  have k96 := KD.alloc e102 k96
  have k105 := KD.fresh e102
  obtain ⟨a103, e104, h⟩ := ln_some h
  rw [← e104] at k105
  rw [← e104]
  refine SF_dup 120 dX11_init_119 rfl rfl ?_
  refine SF_aload_n 0 121 dX11_init_120 rfl rfl rfl ?_
  obtain ⟨v106, g107, q108, h⟩ := bd_some h
  have s109 := w_X0_init (X := X) (Nat.le_refl 1) a103 a94 g101 g107 v106 k105 k96 q108
  refine SF_callI 124 mi_X0_init ml_X11_75 dX11_init_121 (Nat.le_trans (by decide) hd) s109 rfl rfl (Nat.le_of_ble_eq_true rfl) rfl ?_
  have k_l0 := k_l0.ext s109.1
  have k5 := k5.ext s109.1
  have k14 := k14.ext s109.1
  have k25 := k25.ext s109.1
  have k38 := k38.ext s109.1
  have k49 := k49.ext s109.1
  have k60 := k60.ext s109.1
  have k71 := k71.ext s109.1
  have k82 := k82.ext s109.1
  have k89 := k89.ext s109.1
  have k96 := k96.ext s109.1
  have k105 := k105.ext s109.1
  refine SF_putR 127 fl_X11_78 dX11_init_124 k_l0.1 (fn_obj _ _) (Or.inr ⟨rfl, _, rfl, rfl⟩) rfl ?_
  obtain ⟨g110, e111, h⟩ := lg_some h
  rw [← e111]
  have k_l0 := KD.eq e111 k_l0
  have k5 := KD.eq e111 k5
  have k14 := KD.eq e111 k14
  have k25 := KD.eq e111 k25
  have k38 := KD.eq e111 k38
  have k49 := KD.eq e111 k49
  have k60 := KD.eq e111 k60
  have k71 := KD.eq e111 k71
  have k82 := KD.eq e111 k82
  have k89 := KD.eq e111 k89
  have k96 := KD.eq e111 k96
  have k105 := KD.eq e111 k105
  refine SF_aload_n 1 128 dX11_init_127 rfl rfl rfl ?_
  refine SF_new 131 nw_X11_64 dX11_init_128 rfl ?_
  obtain ⟨g112, e113, h⟩ := lg_some h
  rw [← e113]
  have k_l0 := KD.alloc e113 k_l0
  have k5 := KD.alloc e113 k5
  have k14 := KD.alloc e113 k14
  have k25 := KD.alloc e113 k25
  have k38 := KD.alloc e113 k38
  have k49 := KD.alloc e113 k49
  have k60 := KD.alloc e113 k60
  have k71 := KD.alloc e113 k71
  have k82 := KD.alloc e113 k82
  have k89 := KD.alloc e113 k89
  have k96 := KD.alloc e113 k96
  have k105 := KD.alloc e113 k105
  have k116 := KD.fresh e113
  obtain ⟨a114, e115, h⟩ := ln_some h
  rw [← e115] at k116
  rw [← e115]
  refine SF_dup 132 dX11_init_131 rfl rfl ?_
  refine SF_aload_n 0 133 dX11_init_132 rfl rfl rfl ?_
  obtain ⟨v117, g118, q119, h⟩ := bd_some h
  have s120 := w_X0_init (X := X) (Nat.le_refl 1) a114 a94 g112 g118 v117 k116 k96 q119
  refine SF_callI 136 mi_X0_init ml_X11_75 dX11_init_133 (Nat.le_trans (by decide) hd) s120 rfl rfl (Nat.le_of_ble_eq_true rfl) rfl ?_
  have k_l0 := k_l0.ext s120.1
  have k5 := k5.ext s120.1
  have k14 := k14.ext s120.1
  have k25 := k25.ext s120.1
  have k38 := k38.ext s120.1
  have k49 := k49.ext s120.1
  have k60 := k60.ext s120.1
  have k71 := k71.ext s120.1
  have k82 := k82.ext s120.1
  have k89 := k89.ext s120.1
  have k96 := k96.ext s120.1
  have k105 := k105.ext s120.1
  have k116 := k116.ext s120.1
  refine SF_putR 139 fl_X11_82 dX11_init_136 k_l0.1 (fn_obj _ _) (Or.inr ⟨rfl, _, rfl, rfl⟩) rfl ?_
  obtain ⟨g121, e122, h⟩ := lg_some h
  rw [← e122]
  have k_l0 := KD.eq e122 k_l0
  have k5 := KD.eq e122 k5
  have k14 := KD.eq e122 k14
  have k25 := KD.eq e122 k25
  have k38 := KD.eq e122 k38
  have k49 := KD.eq e122 k49
  have k60 := KD.eq e122 k60
  have k71 := KD.eq e122 k71
  have k82 := KD.eq e122 k82
  have k89 := KD.eq e122 k89
  have k96 := KD.eq e122 k96
  have k105 := KD.eq e122 k105
  have k116 := KD.eq e122 k116
  refine SF_aload_n 1 140 dX11_init_139 rfl rfl rfl ?_
  refine SF_new 143 nw_X11_85 dX11_init_140 rfl ?_
  obtain ⟨g123, e124, h⟩ := lg_some h
  rw [← e124]
  have k_l0 := KD.alloc e124 k_l0
  have k5 := KD.alloc e124 k5
  have k14 := KD.alloc e124 k14
  have k25 := KD.alloc e124 k25
  have k38 := KD.alloc e124 k38
  have k49 := KD.alloc e124 k49
  have k60 := KD.alloc e124 k60
  have k71 := KD.alloc e124 k71
  have k82 := KD.alloc e124 k82
  have k89 := KD.alloc e124 k89
  have k96 := KD.alloc e124 k96
  have k105 := KD.alloc e124 k105
  have k116 := KD.alloc e124 k116
  have k127 := KD.fresh e124
  obtain ⟨a125, e126, h⟩ := ln_some h
  rw [← e126] at k127
  rw [← e126]
  refine SF_dup 144 dX11_init_143 rfl rfl ?_
  refine SF_aload_n 0 145 dX11_init_144 rfl rfl rfl ?_
  obtain ⟨v128, g129, q130, h⟩ := bd_some h
  have s131 := w_X8_init (X := X) (Nat.le_refl 2) a125 a94 g123 g129 v128 k127 k96 q130
  refine SF_callI 148 mi_X8_init ml_X11_87 dX11_init_145 (Nat.le_trans (by decide) hd) s131 rfl rfl (Nat.le_of_ble_eq_true rfl) rfl ?_
  have k_l0 := k_l0.ext s131.1
  have k5 := k5.ext s131.1
  have k14 := k14.ext s131.1
  have k25 := k25.ext s131.1
  have k38 := k38.ext s131.1
  have k49 := k49.ext s131.1
  have k60 := k60.ext s131.1
  have k71 := k71.ext s131.1
  have k82 := k82.ext s131.1
  have k89 := k89.ext s131.1
  have k96 := k96.ext s131.1
  have k105 := k105.ext s131.1
  have k116 := k116.ext s131.1
  have k127 := k127.ext s131.1
  refine SF_putR 151 fl_X11_88 dX11_init_148 k_l0.1 (fn_obj _ _) (Or.inr ⟨rfl, _, rfl, rfl⟩) rfl ?_
  obtain ⟨g132, e133, h⟩ := lg_some h
  rw [← e133]
  have k_l0 := KD.eq e133 k_l0
  have k5 := KD.eq e133 k5
  have k14 := KD.eq e133 k14
  have k25 := KD.eq e133 k25
  have k38 := KD.eq e133 k38
  have k49 := KD.eq e133 k49
  have k60 := KD.eq e133 k60
  have k71 := KD.eq e133 k71
  have k82 := KD.eq e133 k82
  have k89 := KD.eq e133 k89
  have k96 := KD.eq e133 k96
  have k105 := KD.eq e133 k105
  have k116 := KD.eq e133 k116
  have k127 := KD.eq e133 k127
  refine SF_aload_n 1 152 dX11_init_151 rfl rfl rfl ?_
  refine SF_new 155 nw_X11_92 dX11_init_152 rfl ?_
  obtain ⟨g134, e135, h⟩ := lg_some h
  rw [← e135]
  have k_l0 := KD.alloc e135 k_l0
  have k5 := KD.alloc e135 k5
  have k14 := KD.alloc e135 k14
  have k25 := KD.alloc e135 k25
  have k38 := KD.alloc e135 k38
  have k49 := KD.alloc e135 k49
  have k60 := KD.alloc e135 k60
  have k71 := KD.alloc e135 k71
  have k82 := KD.alloc e135 k82
  have k89 := KD.alloc e135 k89
  have k96 := KD.alloc e135 k96
  have k105 := KD.alloc e135 k105
  have k116 := KD.alloc e135 k116
  have k127 := KD.alloc e135 k127
  have k138 := KD.fresh e135
  obtain ⟨a136, e137, h⟩ := ln_some h
  rw [← e137] at k138
  rw [← e137]
  refine SF_dup 156 dX11_init_155 rfl rfl ?_
  refine SF_aload_n 0 157 dX11_init_156 rfl rfl rfl ?_
  obtain ⟨v139, g140, q141, h⟩ := bd_some h
  have s142 := w_X9_init (X := X) (Nat.le_refl 1) a136 a94 g134 g140 v139 k138 k96 q141
  refine SF_callI 160 mi_X9_init ml_X11_94 dX11_init_157 (Nat.le_trans (by decide) hd) s142 rfl rfl (Nat.le_of_ble_eq_true rfl) rfl ?_
  have k_l0 := k_l0.ext s142.1
  have k5 := k5.ext s142.1
  have k14 := k14.ext s142.1
  have k25 := k25.ext s142.1
  have k38 := k38.ext s142.1
  have k49 := k49.ext s142.1
  have k60 := k60.ext s142.1
  have k71 := k71.ext s142.1
  have k82 := k82.ext s142.1
  have k89 := k89.ext s142.1
  have k96 := k96.ext s142.1
  have k105 := k105.ext s142.1
  have k116 := k116.ext s142.1
  have k127 := k127.ext s142.1
  have k138 := k138.ext s142.1
  refine SF_putR 163 fl_X11_95 dX11_init_160 k_l0.1 (fn_obj _ _) (Or.inr ⟨rfl, _, rfl, rfl⟩) rfl ?_
  obtain ⟨g143, e144, h⟩ := lg_some h
  rw [← e144]
  have k_l0 := KD.eq e144 k_l0
  have k5 := KD.eq e144 k5
  have k14 := KD.eq e144 k14
  have k25 := KD.eq e144 k25
  have k38 := KD.eq e144 k38
  have k49 := KD.eq e144 k49
  have k60 := KD.eq e144 k60
  have k71 := KD.eq e144 k71
  have k82 := KD.eq e144 k82
  have k89 := KD.eq e144 k89
  have k96 := KD.eq e144 k96
  have k105 := KD.eq e144 k105
  have k116 := KD.eq e144 k116
  have k127 := KD.eq e144 k127
  have k138 := KD.eq e144 k138
  refine SF_aload_n 1 164 dX11_init_163 rfl rfl rfl ?_
  refine SF_new 167 nw_X11_99 dX11_init_164 rfl ?_
  obtain ⟨g145, e146, h⟩ := lg_some h
  rw [← e146]
  have k_l0 := KD.alloc e146 k_l0
  have k5 := KD.alloc e146 k5
  have k14 := KD.alloc e146 k14
  have k25 := KD.alloc e146 k25
  have k38 := KD.alloc e146 k38
  have k49 := KD.alloc e146 k49
  have k60 := KD.alloc e146 k60
  have k71 := KD.alloc e146 k71
  have k82 := KD.alloc e146 k82
  have k89 := KD.alloc e146 k89
  have k96 := KD.alloc e146 k96
  have k105 := KD.alloc e146 k105
  have k116 := KD.alloc e146 k116
  have k127 := KD.alloc e146 k127
  have k138 := KD.alloc e146 k138
  have k149 := KD.fresh e146
  obtain ⟨a147, e148, h⟩ := ln_some h
  rw [← e148] at k149
  rw [← e148]
  refine SF_dup 168 dX11_init_167 rfl rfl ?_
  refine SF_aload_n 0 169 dX11_init_168 rfl rfl rfl ?_
  obtain ⟨v150, g151, q152, h⟩ := bd_some h
  have s153 := w_X5_init (X := X) (Nat.le_refl 2) a147 a94 g145 g151 v150 k149 k96 q152
  refine SF_callI 172 mi_X5_init ml_X11_101 dX11_init_169 (Nat.le_trans (by decide) hd) s153 rfl rfl (Nat.le_of_ble_eq_true rfl) rfl ?_
  have k_l0 := k_l0.ext s153.1
  have k5 := k5.ext s153.1
  have k14 := k14.ext s153.1
  have k25 := k25.ext s153.1
  have k38 := k38.ext s153.1
  have k49 := k49.ext s153.1
  have k60 := k60.ext s153.1
  have k71 := k71.ext s153.1
  have k82 := k82.ext s153.1
  have k89 := k89.ext s153.1
  have k96 := k96.ext s153.1
  have k105 := k105.ext s153.1
  have k116 := k116.ext s153.1
  have k127 := k127.ext s153.1
  have k138 := k138.ext s153.1
  have k149 := k149.ext s153.1
  refine SF_putR 175 fl_X11_102 dX11_init_172 k_l0.1 (fn_obj _ _) (Or.inr ⟨rfl, _, rfl, rfl⟩) rfl ?_
  obtain ⟨g154, e155, h⟩ := lg_some h
  rw [← e155]
  have k_l0 := KD.eq e155 k_l0
  have k5 := KD.eq e155 k5
  have k14 := KD.eq e155 k14
  have k25 := KD.eq e155 k25
  have k38 := KD.eq e155 k38
  have k49 := KD.eq e155 k49
  have k60 := KD.eq e155 k60
  have k71 := KD.eq e155 k71
  have k82 := KD.eq e155 k82
  have k89 := KD.eq e155 k89
  have k96 := KD.eq e155 k96
  have k105 := KD.eq e155 k105
  have k116 := KD.eq e155 k116
  have k127 := KD.eq e155 k127
  have k138 := KD.eq e155 k138
  have k149 := KD.eq e155 k149
  refine SF_iconst (0 : Int32) 176 dX11_init_175 rfl rfl ?_
  refine SF_istore_n [(2, .int (0 : Int32)), (1, .ref (ad X a94)), (0, .ref (ad X l0))] 177 dX11_init_176 rfl (by decide) rfl rfl ?_
  refine SF_sub [2, 0] rfl ?_
  exact w_X11_init_177 hd FU l0 (0 : Int32) g154 k_l0 h

theorem dX12_plain_0 : decode cX12_plain 0 = .ok (.iconst 0, 1) := by decide +kernel
theorem dX12_plain_1 : decode cX12_plain 1 = .ok (.istore_n 1, 1) := by decide +kernel
theorem dX12_plain_2 : decode cX12_plain 2 = .ok (.iload_n 1, 1) := by decide +kernel
theorem dX12_plain_3 : decode cX12_plain 3 = .ok (.sipush 1515, 3) := by decide +kernel
theorem dX12_plain_6 : decode cX12_plain 6 = .ok (.if_icmp .ge 13, 3) := by decide +kernel
theorem dX12_plain_9 : decode cX12_plain 9 = .ok (.aload_n 0, 1) := by decide +kernel
theorem dX12_plain_10 : decode cX12_plain 10 = .ok (.iload_n 1, 1) := by decide +kernel
theorem dX12_plain_11 : decode cX12_plain 11 = .ok (.iconst 0, 1) := by decide +kernel
theorem dX12_plain_12 : decode cX12_plain 12 = .ok (.iastore, 1) := by decide +kernel
theorem dX12_plain_13 : decode cX12_plain 13 = .ok (.iinc 1 1, 3) := by decide +kernel
theorem dX12_plain_16 : decode cX12_plain 16 = .ok (.goto (-14), 3) := by decide +kernel
theorem dX12_plain_19 : decode cX12_plain 19 = .ok (.aload_n 0, 1) := by decide +kernel
theorem dX12_plain_20 : decode cX12_plain 20 = .ok (.iconst 1, 1) := by decide +kernel
theorem dX12_plain_21 : decode cX12_plain 21 = .ok (.iconst 1, 1) := by decide +kernel
theorem dX12_plain_22 : decode cX12_plain 22 = .ok (.iastore, 1) := by decide +kernel
theorem dX12_plain_23 : decode cX12_plain 23 = .ok (.aload_n 0, 1) := by decide +kernel
theorem dX12_plain_24 : decode cX12_plain 24 = .ok (.iconst 2, 1) := by decide +kernel
theorem dX12_plain_25 : decode cX12_plain 25 = .ok (.iconst 1, 1) := by decide +kernel
theorem dX12_plain_26 : decode cX12_plain 26 = .ok (.iastore, 1) := by decide +kernel
theorem dX12_plain_27 : decode cX12_plain 27 = .ok (.iconst 0, 1) := by decide +kernel
theorem dX12_plain_28 : decode cX12_plain 28 = .ok (.istore_n 1, 1) := by decide +kernel
theorem dX12_plain_29 : decode cX12_plain 29 = .ok (.iload_n 1, 1) := by decide +kernel
theorem dX12_plain_30 : decode cX12_plain 30 = .ok (.bipush 6, 2) := by decide +kernel
theorem dX12_plain_32 : decode cX12_plain 32 = .ok (.if_icmp .ge 23, 3) := by decide +kernel
theorem dX12_plain_35 : decode cX12_plain 35 = .ok (.aload_n 0, 1) := by decide +kernel
theorem dX12_plain_36 : decode cX12_plain 36 = .ok (.bipush 46, 2) := by decide +kernel
theorem dX12_plain_38 : decode cX12_plain 38 = .ok (.iload_n 1, 1) := by decide +kernel
theorem dX12_plain_39 : decode cX12_plain 39 = .ok (.iadd, 1) := by decide +kernel
theorem dX12_plain_40 : decode cX12_plain 40 = .ok (.iconst (-1), 1) := by decide +kernel
theorem dX12_plain_41 : decode cX12_plain 41 = .ok (.iastore, 1) := by decide +kernel
theorem dX12_plain_42 : decode cX12_plain 42 = .ok (.aload_n 0, 1) := by decide +kernel
theorem dX12_plain_43 : decode cX12_plain 43 = .ok (.bipush 88, 2) := by decide +kernel
theorem dX12_plain_45 : decode cX12_plain 45 = .ok (.iload_n 1, 1) := by decide +kernel
theorem dX12_plain_46 : decode cX12_plain 46 = .ok (.iadd, 1) := by decide +kernel
theorem dX12_plain_47 : decode cX12_plain 47 = .ok (.iconst (-1), 1) := by decide +kernel
theorem dX12_plain_48 : decode cX12_plain 48 = .ok (.iastore, 1) := by decide +kernel
theorem dX12_plain_49 : decode cX12_plain 49 = .ok (.iinc 1 1, 3) := by decide +kernel
theorem dX12_plain_52 : decode cX12_plain 52 = .ok (.goto (-23), 3) := by decide +kernel
theorem dX12_plain_55 : decode cX12_plain 55 = .ok (.return_, 1) := by decide +kernel
set_option maxRecDepth 20000 in
set_option maxHeartbeats 2000000 in
theorem w_X12_plain_29 {X : CX} {d : Nat} (hd : 0 ≤ d) {g' : G} {rx : Unit} : ∀ (n : Nat) (l0 : Nat) (l1 : Int32) (g : G), KD g l0 14 → f_X12_plain_29 n l0 l1 g = some (rx, g') → SemF X m_X12_plain d 29 [(0, .ref (ad X l0)), (1, .int l1)] [] g none g' := by
  intro n
  induction n with
  | zero =>
    intro l0 l1 g k_l0 h
    rw [f_X12_plain_29] at h
    cases h
  | succ n ih =>
  intro l0 l1 g k_l0 h
  rw [f_X12_plain_29] at h
  refine SF_iload_n 1 30 dX12_plain_29 rfl rfl rfl ?_
  refine SF_bipush (6 : Int32) 32 dX12_plain_30 rfl rfl ?_
  refine SF_icge 55 35 dX12_plain_32 rfl rfl (fun c1 => ?_) (fun c1 => ?_)
  · have h := ite_t c1 h
    exact RT_v rfl dX12_plain_55 h
  · have h := ite_f c1 h
    refine SF_aload_n 0 36 dX12_plain_35 rfl rfl rfl ?_
    refine SF_bipush (46 : Int32) 38 dX12_plain_36 rfl rfl ?_
    refine SF_iload_n 1 39 dX12_plain_38 rfl rfl rfl ?_
    refine SF_iadd 40 dX12_plain_39 rfl ?_
    refine SF_iconst (-1 : Int32) 41 dX12_plain_40 rfl rfl ?_
    obtain ⟨i2, h⟩ := gdI_some h
    refine SF_iast 42 dX12_plain_41 k_l0.1 i2 rfl ?_
    obtain ⟨g3, e4, h⟩ := lg_some h
    rw [← e4]
    have k_l0 := KD.eq e4 k_l0
    have i2 := vp_eq e4 i2
    refine SF_aload_n 0 43 dX12_plain_42 rfl rfl rfl ?_
    refine SF_bipush (88 : Int32) 45 dX12_plain_43 rfl rfl ?_
    refine SF_iload_n 1 46 dX12_plain_45 rfl rfl rfl ?_
    refine SF_iadd 47 dX12_plain_46 rfl ?_
    refine SF_iconst (-1 : Int32) 48 dX12_plain_47 rfl rfl ?_
    obtain ⟨i5, h⟩ := gdI_some h
    refine SF_iast 49 dX12_plain_48 k_l0.1 i5 rfl ?_
    obtain ⟨g6, e7, h⟩ := lg_some h
    rw [← e7]
    have k_l0 := KD.eq e7 k_l0
    have i2 := vp_eq e7 i2
    have i5 := vp_eq e7 i5
    refine SF_iinc 1 (l1 + (1 : Int32)) [(1, .int (l1 + (1 : Int32))), (0, .ref (ad X l0))] 52 dX12_plain_49 rfl rfl (by decide) rfl rfl ?_
    refine SF_goto 29 dX12_plain_52 rfl ?_
    refine SF_sub [1, 0] rfl ?_
    exact ih l0 (l1 + (1 : Int32)) g6 k_l0 h

set_option maxRecDepth 20000 in
set_option maxHeartbeats 2000000 in
theorem w_X12_plain_2 {X : CX} {d : Nat} (hd : 0 ≤ d) {g' : G} {rx : Unit} : ∀ (n : Nat) (l0 : Nat) (l1 : Int32) (g : G), KD g l0 14 → f_X12_plain_2 n l0 l1 g = some (rx, g') → SemF X m_X12_plain d 2 [(0, .ref (ad X l0)), (1, .int l1)] [] g none g' := by
  intro n
  induction n with
  | zero =>
    intro l0 l1 g k_l0 h
    rw [f_X12_plain_2] at h
    cases h
  | succ n ih =>
  intro l0 l1 g k_l0 h
  rw [f_X12_plain_2] at h
  refine SF_iload_n 1 3 dX12_plain_2 rfl rfl rfl ?_
  refine SF_sipush (1515 : Int32) 6 dX12_plain_3 rfl rfl ?_
  refine SF_icge 19 9 dX12_plain_6 rfl rfl (fun c1 => ?_) (fun c1 => ?_)
  · have h := ite_t c1 h
    refine SF_aload_n 0 20 dX12_plain_19 rfl rfl rfl ?_
    refine SF_iconst (1 : Int32) 21 dX12_plain_20 rfl rfl ?_
    refine SF_iconst (1 : Int32) 22 dX12_plain_21 rfl rfl ?_
    obtain ⟨i2, h⟩ := gdI_some h
    refine SF_iast 23 dX12_plain_22 k_l0.1 i2 rfl ?_
    obtain ⟨g3, e4, h⟩ := lg_some h
    rw [← e4]
    have k_l0 := KD.eq e4 k_l0
    have i2 := vp_eq e4 i2
    refine SF_aload_n 0 24 dX12_plain_23 rfl rfl rfl ?_
    refine SF_iconst (2 : Int32) 25 dX12_plain_24 rfl rfl ?_
    refine SF_iconst (1 : Int32) 26 dX12_plain_25 rfl rfl ?_
    obtain ⟨i5, h⟩ := gdI_some h
    refine SF_iast 27 dX12_plain_26 k_l0.1 i5 rfl ?_
    obtain ⟨g6, e7, h⟩ := lg_some h
    rw [← e7]
    have k_l0 := KD.eq e7 k_l0
    have i2 := vp_eq e7 i2
    have i5 := vp_eq e7 i5
    refine SF_iconst (0 : Int32) 28 dX12_plain_27 rfl rfl ?_
    refine SF_istore_n [(1, .int (0 : Int32)), (0, .ref (ad X l0))] 29 dX12_plain_28 rfl (by decide) rfl rfl ?_
    refine SF_sub [1, 0] rfl ?_
    exact w_X12_plain_29 hd FU l0 (0 : Int32) g6 k_l0 h
  · have h := ite_f c1 h
    refine SF_aload_n 0 10 dX12_plain_9 rfl rfl rfl ?_
    refine SF_iload_n 1 11 dX12_plain_10 rfl rfl rfl ?_
    refine SF_iconst (0 : Int32) 12 dX12_plain_11 rfl rfl ?_
    obtain ⟨i8, h⟩ := gdI_some h
    refine SF_iast 13 dX12_plain_12 k_l0.1 i8 rfl ?_
    obtain ⟨g9, e10, h⟩ := lg_some h
    rw [← e10]
    have k_l0 := KD.eq e10 k_l0
    have i8 := vp_eq e10 i8
    refine SF_iinc 1 (l1 + (1 : Int32)) [(1, .int (l1 + (1 : Int32))), (0, .ref (ad X l0))] 16 dX12_plain_13 rfl rfl (by decide) rfl rfl ?_
    refine SF_goto 2 dX12_plain_16 rfl ?_
    refine SF_sub [1, 0] rfl ?_
    exact ih l0 (l1 + (1 : Int32)) g9 k_l0 h

set_option maxRecDepth 20000 in
set_option maxHeartbeats 2000000 in
theorem w_X12_plain {X : CX} {d : Nat} (hd : 0 ≤ d) (l0 : Nat) (g g' : G) (rx : Unit) (k_l0 : KD g l0 14) (h : f_X12_plain l0 g = some (rx, g')) : Sem X m_X12_plain d [.ref (ad X l0)] g none g' := by
  refine Sem_of (lo := [(0, .ref (ad X l0))]) (by decide +kernel) rfl (Nat.le_of_ble_eq_true rfl) ?_
  rw [f_X12_plain] at h
  refine SF_iconst (0 : Int32) 1 dX12_plain_0 rfl rfl ?_
  refine SF_istore_n [(1, .int (0 : Int32)), (0, .ref (ad X l0))] 2 dX12_plain_1 rfl (by decide) rfl rfl ?_
  refine SF_sub [1, 0] rfl ?_
  exact w_X12_plain_2 hd FU l0 (0 : Int32) g k_l0 h

theorem dX12_init_0 : decode cX12_init 0 = .ok (.aload_n 0, 1) := by decide +kernel
theorem dX12_init_1 : decode cX12_init 1 = .ok (.invokespecial 7, 3) := by decide +kernel
theorem dX12_init_4 : decode cX12_init 4 = .ok (.aload_n 0, 1) := by decide +kernel
theorem dX12_init_5 : decode cX12_init 5 = .ok (.sipush 4545, 3) := by decide +kernel
theorem dX12_init_8 : decode cX12_init 8 = .ok (.newarray .int, 2) := by decide +kernel
theorem dX12_init_10 : decode cX12_init 10 = .ok (.putfield 13, 3) := by decide +kernel
theorem dX12_init_13 : decode cX12_init 13 = .ok (.aload_n 0, 1) := by decide +kernel
theorem dX12_init_14 : decode cX12_init 14 = .ok (.iconst 2, 1) := by decide +kernel
theorem dX12_init_15 : decode cX12_init 15 = .ok (.newarray .boolean, 2) := by decide +kernel
theorem dX12_init_17 : decode cX12_init 17 = .ok (.putfield 17, 3) := by decide +kernel
theorem dX12_init_20 : decode cX12_init 20 = .ok (.aload_n 0, 1) := by decide +kernel
theorem dX12_init_21 : decode cX12_init 21 = .ok (.sipush 900, 3) := by decide +kernel
theorem dX12_init_24 : decode cX12_init 24 = .ok (.newarray .int, 2) := by decide +kernel
theorem dX12_init_26 : decode cX12_init 26 = .ok (.putfield 21, 3) := by decide +kernel
theorem dX12_init_29 : decode cX12_init 29 = .ok (.aload_n 0, 1) := by decide +kernel
theorem dX12_init_30 : decode cX12_init 30 = .ok (.sipush 1515, 3) := by decide +kernel
theorem dX12_init_33 : decode cX12_init 33 = .ok (.newarray .int, 2) := by decide +kernel
theorem dX12_init_35 : decode cX12_init 35 = .ok (.putfield 24, 3) := by decide +kernel
theorem dX12_init_38 : decode cX12_init 38 = .ok (.aload_n 0, 1) := by decide +kernel
theorem dX12_init_39 : decode cX12_init 39 = .ok (.iconst (-1), 1) := by decide +kernel
theorem dX12_init_40 : decode cX12_init 40 = .ok (.putfield 27, 3) := by decide +kernel
theorem dX12_init_43 : decode cX12_init 43 = .ok (.aload_n 0, 1) := by decide +kernel
theorem dX12_init_44 : decode cX12_init 44 = .ok (.sipush 900, 3) := by decide +kernel
theorem dX12_init_47 : decode cX12_init 47 = .ok (.newarray .int, 2) := by decide +kernel
theorem dX12_init_49 : decode cX12_init 49 = .ok (.putfield 30, 3) := by decide +kernel
theorem dX12_init_52 : decode cX12_init 52 = .ok (.aload_n 0, 1) := by decide +kernel
theorem dX12_init_53 : decode cX12_init 53 = .ok (.bipush 8, 2) := by decide +kernel
theorem dX12_init_55 : decode cX12_init 55 = .ok (.newarray .int, 2) := by decide +kernel
theorem dX12_init_57 : decode cX12_init 57 = .ok (.putfield 33, 3) := by decide +kernel
theorem dX12_init_60 : decode cX12_init 60 = .ok (.aload_n 0, 1) := by decide +kernel
theorem dX12_init_61 : decode cX12_init 61 = .ok (.bipush 51, 2) := by decide +kernel
theorem dX12_init_63 : decode cX12_init 63 = .ok (.newarray .int, 2) := by decide +kernel
theorem dX12_init_65 : decode cX12_init 65 = .ok (.putfield 36, 3) := by decide +kernel
theorem dX12_init_68 : decode cX12_init 68 = .ok (.aload_n 0, 1) := by decide +kernel
theorem dX12_init_69 : decode cX12_init 69 = .ok (.sipush 1296, 3) := by decide +kernel
theorem dX12_init_72 : decode cX12_init 72 = .ok (.newarray .boolean, 2) := by decide +kernel
theorem dX12_init_74 : decode cX12_init 74 = .ok (.putfield 39, 3) := by decide +kernel
theorem dX12_init_77 : decode cX12_init 77 = .ok (.aload_n 0, 1) := by decide +kernel
theorem dX12_init_78 : decode cX12_init 78 = .ok (.sipush 10368, 3) := by decide +kernel
theorem dX12_init_81 : decode cX12_init 81 = .ok (.newarray .int, 2) := by decide +kernel
theorem dX12_init_83 : decode cX12_init 83 = .ok (.putfield 42, 3) := by decide +kernel
theorem dX12_init_86 : decode cX12_init 86 = .ok (.aload_n 0, 1) := by decide +kernel
theorem dX12_init_87 : decode cX12_init 87 = .ok (.sipush 10368, 3) := by decide +kernel
theorem dX12_init_90 : decode cX12_init 90 = .ok (.newarray .int, 2) := by decide +kernel
theorem dX12_init_92 : decode cX12_init 92 = .ok (.putfield 45, 3) := by decide +kernel
theorem dX12_init_95 : decode cX12_init 95 = .ok (.aload_n 0, 1) := by decide +kernel
theorem dX12_init_96 : decode cX12_init 96 = .ok (.sipush 5184, 3) := by decide +kernel
theorem dX12_init_99 : decode cX12_init 99 = .ok (.newarray .int, 2) := by decide +kernel
theorem dX12_init_101 : decode cX12_init 101 = .ok (.putfield 48, 3) := by decide +kernel
theorem dX12_init_104 : decode cX12_init 104 = .ok (.aload_n 0, 1) := by decide +kernel
theorem dX12_init_105 : decode cX12_init 105 = .ok (.sipush 1296, 3) := by decide +kernel
theorem dX12_init_108 : decode cX12_init 108 = .ok (.newarray .int, 2) := by decide +kernel
theorem dX12_init_110 : decode cX12_init 110 = .ok (.putfield 51, 3) := by decide +kernel
theorem dX12_init_113 : decode cX12_init 113 = .ok (.aload_n 0, 1) := by decide +kernel
theorem dX12_init_114 : decode cX12_init 114 = .ok (.sipush 1296, 3) := by decide +kernel
theorem dX12_init_117 : decode cX12_init 117 = .ok (.newarray .long, 2) := by decide +kernel
theorem dX12_init_119 : decode cX12_init 119 = .ok (.putfield 54, 3) := by decide +kernel
theorem dX12_init_122 : decode cX12_init 122 = .ok (.aload_n 0, 1) := by decide +kernel
theorem dX12_init_123 : decode cX12_init 123 = .ok (.sipush 1296, 3) := by decide +kernel
theorem dX12_init_126 : decode cX12_init 126 = .ok (.newarray .long, 2) := by decide +kernel
theorem dX12_init_128 : decode cX12_init 128 = .ok (.putfield 58, 3) := by decide +kernel
theorem dX12_init_131 : decode cX12_init 131 = .ok (.aload_n 0, 1) := by decide +kernel
theorem dX12_init_132 : decode cX12_init 132 = .ok (.sipush 1296, 3) := by decide +kernel
theorem dX12_init_135 : decode cX12_init 135 = .ok (.newarray .int, 2) := by decide +kernel
theorem dX12_init_137 : decode cX12_init 137 = .ok (.putfield 61, 3) := by decide +kernel
theorem dX12_init_140 : decode cX12_init 140 = .ok (.aload_n 0, 1) := by decide +kernel
theorem dX12_init_141 : decode cX12_init 141 = .ok (.iconst 4, 1) := by decide +kernel
theorem dX12_init_142 : decode cX12_init 142 = .ok (.newarray .int, 2) := by decide +kernel
theorem dX12_init_144 : decode cX12_init 144 = .ok (.dup, 1) := by decide +kernel
theorem dX12_init_145 : decode cX12_init 145 = .ok (.iconst 0, 1) := by decide +kernel
theorem dX12_init_146 : decode cX12_init 146 = .ok (.iconst (-1), 1) := by decide +kernel
theorem dX12_init_147 : decode cX12_init 147 = .ok (.iastore, 1) := by decide +kernel
theorem dX12_init_148 : decode cX12_init 148 = .ok (.dup, 1) := by decide +kernel
theorem dX12_init_149 : decode cX12_init 149 = .ok (.iconst 1, 1) := by decide +kernel
theorem dX12_init_150 : decode cX12_init 150 = .ok (.iconst (-1), 1) := by decide +kernel
theorem dX12_init_151 : decode cX12_init 151 = .ok (.iastore, 1) := by decide +kernel
theorem dX12_init_152 : decode cX12_init 152 = .ok (.dup, 1) := by decide +kernel
theorem dX12_init_153 : decode cX12_init 153 = .ok (.iconst 2, 1) := by decide +kernel
theorem dX12_init_154 : decode cX12_init 154 = .ok (.iconst (-1), 1) := by decide +kernel
theorem dX12_init_155 : decode cX12_init 155 = .ok (.iastore, 1) := by decide +kernel
theorem dX12_init_156 : decode cX12_init 156 = .ok (.dup, 1) := by decide +kernel
theorem dX12_init_157 : decode cX12_init 157 = .ok (.iconst 3, 1) := by decide +kernel
theorem dX12_init_158 : decode cX12_init 158 = .ok (.iconst (-1), 1) := by decide +kernel
theorem dX12_init_159 : decode cX12_init 159 = .ok (.iastore, 1) := by decide +kernel
theorem dX12_init_160 : decode cX12_init 160 = .ok (.putfield 64, 3) := by decide +kernel
theorem dX12_init_163 : decode cX12_init 163 = .ok (.aload_n 0, 1) := by decide +kernel
theorem dX12_init_164 : decode cX12_init 164 = .ok (.iconst 4, 1) := by decide +kernel
theorem dX12_init_165 : decode cX12_init 165 = .ok (.newarray .int, 2) := by decide +kernel
theorem dX12_init_167 : decode cX12_init 167 = .ok (.putfield 67, 3) := by decide +kernel
theorem dX12_init_170 : decode cX12_init 170 = .ok (.aload_n 0, 1) := by decide +kernel
theorem dX12_init_171 : decode cX12_init 171 = .ok (.sipush 160, 3) := by decide +kernel
theorem dX12_init_174 : decode cX12_init 174 = .ok (.newarray .long, 2) := by decide +kernel
theorem dX12_init_176 : decode cX12_init 176 = .ok (.putfield 70, 3) := by decide +kernel
theorem dX12_init_179 : decode cX12_init 179 = .ok (.aload_n 0, 1) := by decide +kernel
theorem dX12_init_180 : decode cX12_init 180 = .ok (.getfield 13, 3) := by decide +kernel
theorem dX12_init_183 : decode cX12_init 183 = .ok (.invokestatic 73, 3) := by decide +kernel
theorem dX12_init_186 : decode cX12_init 186 = .ok (.return_, 1) := by decide +kernel
set_option maxRecDepth 20000 in
set_option maxHeartbeats 2000000 in
theorem w_X12_init {X : CX} {d : Nat} (hd : 1 ≤ d) (l0 : Nat) (g g' : G) (rx : Unit) (k_l0 : KD g l0 12) (h : f_X12_init l0 g = some (rx, g')) : Sem X m_X12_init d [.ref (ad X l0)] g none g' := by
  refine Sem_of (lo := [(0, .ref (ad X l0))]) (by decide +kernel) rfl (Nat.le_of_ble_eq_true rfl) ?_
  rw [f_X12_init] at h
  refine SF_aload_n 0 1 dX12_init_0 rfl rfl rfl ?_
  refine SF_objInit 4 ml_X12_7 wo_1 wo_2 dX12_init_1 (Nat.le_trans (by decide) hd) (Nat.le_of_ble_eq_true rfl) rfl ?_
  refine SF_aload_n 0 5 dX12_init_4 rfl rfl rfl ?_
  refine SF_sipush (4545 : Int32) 8 dX12_init_5 rfl rfl ?_
  refine SF_newa 10 dX12_init_8 rfl (Or.inl ⟨rfl, rfl⟩) wr_int (by decide) (by decide) rfl ?_
  obtain ⟨g1, e2, h⟩ := lg_some h
  rw [← e2]
  have k_l0 := KD.alloc e2 k_l0
  have k5 := KD.fresh e2
  obtain ⟨a3, e4, h⟩ := ln_some h
  rw [← e4] at k5
  rw [← e4]
  refine SF_putR 13 fl_X12_13 dX12_init_10 k_l0.1 (fn_arr _ _) (Or.inr ⟨rfl, _, rfl, rfl⟩) rfl ?_
  obtain ⟨g6, e7, h⟩ := lg_some h
  rw [← e7]
  have k_l0 := KD.eq e7 k_l0
  have k5 := KD.eq e7 k5
  refine SF_aload_n 0 14 dX12_init_13 rfl rfl rfl ?_
  refine SF_iconst (2 : Int32) 15 dX12_init_14 rfl rfl ?_
  refine SF_newa 17 dX12_init_15 rfl (Or.inr (Or.inr (Or.inl ⟨rfl, rfl⟩))) wr_boolean (by decide) (by decide) rfl ?_
  obtain ⟨g8, e9, h⟩ := lg_some h
  rw [← e9]
  have k_l0 := KD.alloc e9 k_l0
  have k5 := KD.alloc e9 k5
  have k12 := KD.fresh e9
  obtain ⟨a10, e11, h⟩ := ln_some h
  rw [← e11] at k12
  rw [← e11]
  refine SF_putR 20 fl_X12_17 dX12_init_17 k_l0.1 (fn_arr _ _) (Or.inr ⟨rfl, _, rfl, rfl⟩) rfl ?_
  obtain ⟨g13, e14, h⟩ := lg_some h
  rw [← e14]
  have k_l0 := KD.eq e14 k_l0
  have k5 := KD.eq e14 k5
  have k12 := KD.eq e14 k12
  refine SF_aload_n 0 21 dX12_init_20 rfl rfl rfl ?_
  refine SF_sipush (900 : Int32) 24 dX12_init_21 rfl rfl ?_
  refine SF_newa 26 dX12_init_24 rfl (Or.inl ⟨rfl, rfl⟩) wr_int (by decide) (by decide) rfl ?_
  obtain ⟨g15, e16, h⟩ := lg_some h
  rw [← e16]
  have k_l0 := KD.alloc e16 k_l0
  have k5 := KD.alloc e16 k5
  have k12 := KD.alloc e16 k12
  have k19 := KD.fresh e16
  obtain ⟨a17, e18, h⟩ := ln_some h
  rw [← e18] at k19
  rw [← e18]
  refine SF_putR 29 fl_X12_21 dX12_init_26 k_l0.1 (fn_arr _ _) (Or.inr ⟨rfl, _, rfl, rfl⟩) rfl ?_
  obtain ⟨g20, e21, h⟩ := lg_some h
  rw [← e21]
  have k_l0 := KD.eq e21 k_l0
  have k5 := KD.eq e21 k5
  have k12 := KD.eq e21 k12
  have k19 := KD.eq e21 k19
  refine SF_aload_n 0 30 dX12_init_29 rfl rfl rfl ?_
  refine SF_sipush (1515 : Int32) 33 dX12_init_30 rfl rfl ?_
  refine SF_newa 35 dX12_init_33 rfl (Or.inl ⟨rfl, rfl⟩) wr_int (by decide) (by decide) rfl ?_
  obtain ⟨g22, e23, h⟩ := lg_some h
  rw [← e23]
  have k_l0 := KD.alloc e23 k_l0
  have k5 := KD.alloc e23 k5
  have k12 := KD.alloc e23 k12
  have k19 := KD.alloc e23 k19
  have k26 := KD.fresh e23
  obtain ⟨a24, e25, h⟩ := ln_some h
  rw [← e25] at k26
  rw [← e25]
  refine SF_putR 38 fl_X12_24 dX12_init_35 k_l0.1 (fn_arr _ _) (Or.inr ⟨rfl, _, rfl, rfl⟩) rfl ?_
  obtain ⟨g27, e28, h⟩ := lg_some h
  rw [← e28]
  have k_l0 := KD.eq e28 k_l0
  have k5 := KD.eq e28 k5
  have k12 := KD.eq e28 k12
  have k19 := KD.eq e28 k19
  have k26 := KD.eq e28 k26
  refine SF_aload_n 0 39 dX12_init_38 rfl rfl rfl ?_
  refine SF_iconst (-1 : Int32) 40 dX12_init_39 rfl rfl ?_
  refine SF_putI 43 fl_X12_27 dX12_init_40 k_l0.1 (fn_int _) (Or.inl rfl) rfl ?_
  obtain ⟨g29, e30, h⟩ := lg_some h
  rw [← e30]
  have k_l0 := KD.eq e30 k_l0
  have k5 := KD.eq e30 k5
  have k12 := KD.eq e30 k12
  have k19 := KD.eq e30 k19
  have k26 := KD.eq e30 k26
  refine SF_aload_n 0 44 dX12_init_43 rfl rfl rfl ?_
  refine SF_sipush (900 : Int32) 47 dX12_init_44 rfl rfl ?_
  refine SF_newa 49 dX12_init_47 rfl (Or.inl ⟨rfl, rfl⟩) wr_int (by decide) (by decide) rfl ?_
  obtain ⟨g31, e32, h⟩ := lg_some h
  rw [← e32]
  have k_l0 := KD.alloc e32 k_l0
  have k5 := KD.alloc e32 k5
  have k12 := KD.alloc e32 k12
  have k19 := KD.alloc e32 k19
  have k26 := KD.alloc e32 k26
  have k35 := KD.fresh e32
  obtain ⟨a33, e34, h⟩ := ln_some h
  rw [← e34] at k35
  rw [← e34]
  refine SF_putR 52 fl_X12_30 dX12_init_49 k_l0.1 (fn_arr _ _) (Or.inr ⟨rfl, _, rfl, rfl⟩) rfl ?_
  obtain ⟨g36, e37, h⟩ := lg_some h
  rw [← e37]
  have k_l0 := KD.eq e37 k_l0
  have k5 := KD.eq e37 k5
  have k12 := KD.eq e37 k12
  have k19 := KD.eq e37 k19
  have k26 := KD.eq e37 k26
  have k35 := KD.eq e37 k35
  refine SF_aload_n 0 53 dX12_init_52 rfl rfl rfl ?_
  refine SF_bipush (8 : Int32) 55 dX12_init_53 rfl rfl ?_
  refine SF_newa 57 dX12_init_55 rfl (Or.inl ⟨rfl, rfl⟩) wr_int (by decide) (by decide) rfl ?_
  obtain ⟨g38, e39, h⟩ := lg_some h
  rw [← e39]
  have k_l0 := KD.alloc e39 k_l0
  have k5 := KD.alloc e39 k5
  have k12 := KD.alloc e39 k12
  have k19 := KD.alloc e39 k19
  have k26 := KD.alloc e39 k26
  have k35 := KD.alloc e39 k35
  have k42 := KD.fresh e39
  obtain ⟨a40, e41, h⟩ := ln_some h
  rw [← e41] at k42
  rw [← e41]
  refine SF_putR 60 fl_X12_33 dX12_init_57 k_l0.1 (fn_arr _ _) (Or.inr ⟨rfl, _, rfl, rfl⟩) rfl ?_
  obtain ⟨g43, e44, h⟩ := lg_some h
  rw [← e44]
  have k_l0 := KD.eq e44 k_l0
  have k5 := KD.eq e44 k5
  have k12 := KD.eq e44 k12
  have k19 := KD.eq e44 k19
  have k26 := KD.eq e44 k26
  have k35 := KD.eq e44 k35
  have k42 := KD.eq e44 k42
  refine SF_aload_n 0 61 dX12_init_60 rfl rfl rfl ?_
  refine SF_bipush (51 : Int32) 63 dX12_init_61 rfl rfl ?_
  refine SF_newa 65 dX12_init_63 rfl (Or.inl ⟨rfl, rfl⟩) wr_int (by decide) (by decide) rfl ?_
  obtain ⟨g45, e46, h⟩ := lg_some h
  rw [← e46]
  have k_l0 := KD.alloc e46 k_l0
  have k5 := KD.alloc e46 k5
  have k12 := KD.alloc e46 k12
  have k19 := KD.alloc e46 k19
  have k26 := KD.alloc e46 k26
  have k35 := KD.alloc e46 k35
  have k42 := KD.alloc e46 k42
  have k49 := KD.fresh e46
  obtain ⟨a47, e48, h⟩ := ln_some h
  rw [← e48] at k49
  rw [← e48]
  refine SF_putR 68 fl_X12_36 dX12_init_65 k_l0.1 (fn_arr _ _) (Or.inr ⟨rfl, _, rfl, rfl⟩) rfl ?_
  obtain ⟨g50, e51, h⟩ := lg_some h
  rw [← e51]
  have k_l0 := KD.eq e51 k_l0
  have k5 := KD.eq e51 k5
  have k12 := KD.eq e51 k12
  have k19 := KD.eq e51 k19
  have k26 := KD.eq e51 k26
  have k35 := KD.eq e51 k35
  have k42 := KD.eq e51 k42
  have k49 := KD.eq e51 k49
  refine SF_aload_n 0 69 dX12_init_68 rfl rfl rfl ?_
  refine SF_sipush (1296 : Int32) 72 dX12_init_69 rfl rfl ?_
  refine SF_newa 74 dX12_init_72 rfl (Or.inr (Or.inr (Or.inl ⟨rfl, rfl⟩))) wr_boolean (by decide) (by decide) rfl ?_
  obtain ⟨g52, e53, h⟩ := lg_some h
  rw [← e53]
  have k_l0 := KD.alloc e53 k_l0
  have k5 := KD.alloc e53 k5
  have k12 := KD.alloc e53 k12
  have k19 := KD.alloc e53 k19
  have k26 := KD.alloc e53 k26
  have k35 := KD.alloc e53 k35
  have k42 := KD.alloc e53 k42
  have k49 := KD.alloc e53 k49
  have k56 := KD.fresh e53
  obtain ⟨a54, e55, h⟩ := ln_some h
  rw [← e55] at k56
  rw [← e55]
  refine SF_putR 77 fl_X12_39 dX12_init_74 k_l0.1 (fn_arr _ _) (Or.inr ⟨rfl, _, rfl, rfl⟩) rfl ?_
  obtain ⟨g57, e58, h⟩ := lg_some h
  rw [← e58]
  have k_l0 := KD.eq e58 k_l0
  have k5 := KD.eq e58 k5
  have k12 := KD.eq e58 k12
  have k19 := KD.eq e58 k19
  have k26 := KD.eq e58 k26
  have k35 := KD.eq e58 k35
  have k42 := KD.eq e58 k42
  have k49 := KD.eq e58 k49
  have k56 := KD.eq e58 k56
  refine SF_aload_n 0 78 dX12_init_77 rfl rfl rfl ?_
  refine SF_sipush (10368 : Int32) 81 dX12_init_78 rfl rfl ?_
  refine SF_newa 83 dX12_init_81 rfl (Or.inl ⟨rfl, rfl⟩) wr_int (by decide) (by decide) rfl ?_
  obtain ⟨g59, e60, h⟩ := lg_some h
  rw [← e60]
  have k_l0 := KD.alloc e60 k_l0
  have k5 := KD.alloc e60 k5
  have k12 := KD.alloc e60 k12
  have k19 := KD.alloc e60 k19
  have k26 := KD.alloc e60 k26
  have k35 := KD.alloc e60 k35
  have k42 := KD.alloc e60 k42
  have k49 := KD.alloc e60 k49
  have k56 := KD.alloc e60 k56
  have k63 := KD.fresh e60
  obtain ⟨a61, e62, h⟩ := ln_some h
  rw [← e62] at k63
  rw [← e62]
  refine SF_putR 86 fl_X12_42 dX12_init_83 k_l0.1 (fn_arr _ _) (Or.inr ⟨rfl, _, rfl, rfl⟩) rfl ?_
  obtain ⟨g64, e65, h⟩ := lg_some h
  rw [← e65]
  have k_l0 := KD.eq e65 k_l0
  have k5 := KD.eq e65 k5
  have k12 := KD.eq e65 k12
  have k19 := KD.eq e65 k19
  have k26 := KD.eq e65 k26
  have k35 := KD.eq e65 k35
  have k42 := KD.eq e65 k42
  have k49 := KD.eq e65 k49
  have k56 := KD.eq e65 k56
  have k63 := KD.eq e65 k63
  refine SF_aload_n 0 87 dX12_init_86 rfl rfl rfl ?_
  refine SF_sipush (10368 : Int32) 90 dX12_init_87 rfl rfl ?_
  refine SF_newa 92 dX12_init_90 rfl (Or.inl ⟨rfl, rfl⟩) wr_int (by decide) (by decide) rfl ?_
  obtain ⟨g66, e67, h⟩ := lg_some h
  rw [← e67]
  have k_l0 := KD.alloc e67 k_l0
  have k5 := KD.alloc e67 k5
  have k12 := KD.alloc e67 k12
  have k19 := KD.alloc e67 k19
  have k26 := KD.alloc e67 k26
  have k35 := KD.alloc e67 k35
  have k42 := KD.alloc e67 k42
  have k49 := KD.alloc e67 k49
  have k56 := KD.alloc e67 k56
  have k63 := KD.alloc e67 k63
  have k70 := KD.fresh e67
  obtain ⟨a68, e69, h⟩ := ln_some h
  rw [← e69] at k70
  rw [← e69]
  refine SF_putR 95 fl_X12_45 dX12_init_92 k_l0.1 (fn_arr _ _) (Or.inr ⟨rfl, _, rfl, rfl⟩) rfl ?_
  obtain ⟨g71, e72, h⟩ := lg_some h
  rw [← e72]
  have k_l0 := KD.eq e72 k_l0
  have k5 := KD.eq e72 k5
  have k12 := KD.eq e72 k12
  have k19 := KD.eq e72 k19
  have k26 := KD.eq e72 k26
  have k35 := KD.eq e72 k35
  have k42 := KD.eq e72 k42
  have k49 := KD.eq e72 k49
  have k56 := KD.eq e72 k56
  have k63 := KD.eq e72 k63
  have k70 := KD.eq e72 k70
  refine SF_aload_n 0 96 dX12_init_95 rfl rfl rfl ?_
  refine SF_sipush (5184 : Int32) 99 dX12_init_96 rfl rfl ?_
  refine SF_newa 101 dX12_init_99 rfl (Or.inl ⟨rfl, rfl⟩) wr_int (by decide) (by decide) rfl ?_
  obtain ⟨g73, e74, h⟩ := lg_some h
  rw [← e74]
  have k_l0 := KD.alloc e74 k_l0
  have k5 := KD.alloc e74 k5
  have k12 := KD.alloc e74 k12
  have k19 := KD.alloc e74 k19
  have k26 := KD.alloc e74 k26
  have k35 := KD.alloc e74 k35
  have k42 := KD.alloc e74 k42
  have k49 := KD.alloc e74 k49
  have k56 := KD.alloc e74 k56
  have k63 := KD.alloc e74 k63
  have k70 := KD.alloc e74 k70
  have k77 := KD.fresh e74
  obtain ⟨a75, e76, h⟩ := ln_some h
  rw [← e76] at k77
  rw [← e76]
  refine SF_putR 104 fl_X12_48 dX12_init_101 k_l0.1 (fn_arr _ _) (Or.inr ⟨rfl, _, rfl, rfl⟩) rfl ?_
  obtain ⟨g78, e79, h⟩ := lg_some h
  rw [← e79]
  have k_l0 := KD.eq e79 k_l0
  have k5 := KD.eq e79 k5
  have k12 := KD.eq e79 k12
  have k19 := KD.eq e79 k19
  have k26 := KD.eq e79 k26
  have k35 := KD.eq e79 k35
  have k42 := KD.eq e79 k42
  have k49 := KD.eq e79 k49
  have k56 := KD.eq e79 k56
  have k63 := KD.eq e79 k63
  have k70 := KD.eq e79 k70
  have k77 := KD.eq e79 k77
  refine SF_aload_n 0 105 dX12_init_104 rfl rfl rfl ?_
  refine SF_sipush (1296 : Int32) 108 dX12_init_105 rfl rfl ?_
  refine SF_newa 110 dX12_init_108 rfl (Or.inl ⟨rfl, rfl⟩) wr_int (by decide) (by decide) rfl ?_
  obtain ⟨g80, e81, h⟩ := lg_some h
  rw [← e81]
  have k_l0 := KD.alloc e81 k_l0
  have k5 := KD.alloc e81 k5
  have k12 := KD.alloc e81 k12
  have k19 := KD.alloc e81 k19
  have k26 := KD.alloc e81 k26
  have k35 := KD.alloc e81 k35
  have k42 := KD.alloc e81 k42
  have k49 := KD.alloc e81 k49
  have k56 := KD.alloc e81 k56
  have k63 := KD.alloc e81 k63
  have k70 := KD.alloc e81 k70
  have k77 := KD.alloc e81 k77
  have k84 := KD.fresh e81
  obtain ⟨a82, e83, h⟩ := ln_some h
  rw [← e83] at k84
  rw [← e83]
  refine SF_putR 113 fl_X12_51 dX12_init_110 k_l0.1 (fn_arr _ _) (Or.inr ⟨rfl, _, rfl, rfl⟩) rfl ?_
  obtain ⟨g85, e86, h⟩ := lg_some h
  rw [← e86]
  have k_l0 := KD.eq e86 k_l0
  have k5 := KD.eq e86 k5
  have k12 := KD.eq e86 k12
  have k19 := KD.eq e86 k19
  have k26 := KD.eq e86 k26
  have k35 := KD.eq e86 k35
  have k42 := KD.eq e86 k42
  have k49 := KD.eq e86 k49
  have k56 := KD.eq e86 k56
  have k63 := KD.eq e86 k63
  have k70 := KD.eq e86 k70
  have k77 := KD.eq e86 k77
  have k84 := KD.eq e86 k84
  refine SF_aload_n 0 114 dX12_init_113 rfl rfl rfl ?_
  refine SF_sipush (1296 : Int32) 117 dX12_init_114 rfl rfl ?_
  refine SF_newa 119 dX12_init_117 rfl (Or.inr (Or.inl ⟨rfl, rfl⟩)) wr_long (by decide) (by decide) rfl ?_
  obtain ⟨g87, e88, h⟩ := lg_some h
  rw [← e88]
  have k_l0 := KD.alloc e88 k_l0
  have k5 := KD.alloc e88 k5
  have k12 := KD.alloc e88 k12
  have k19 := KD.alloc e88 k19
  have k26 := KD.alloc e88 k26
  have k35 := KD.alloc e88 k35
  have k42 := KD.alloc e88 k42
  have k49 := KD.alloc e88 k49
  have k56 := KD.alloc e88 k56
  have k63 := KD.alloc e88 k63
  have k70 := KD.alloc e88 k70
  have k77 := KD.alloc e88 k77
  have k84 := KD.alloc e88 k84
  have k91 := KD.fresh e88
  obtain ⟨a89, e90, h⟩ := ln_some h
  rw [← e90] at k91
  rw [← e90]
  refine SF_putR 122 fl_X12_54 dX12_init_119 k_l0.1 (fn_arr _ _) (Or.inr ⟨rfl, _, rfl, rfl⟩) rfl ?_
  obtain ⟨g92, e93, h⟩ := lg_some h
  rw [← e93]
  have k_l0 := KD.eq e93 k_l0
  have k5 := KD.eq e93 k5
  have k12 := KD.eq e93 k12
  have k19 := KD.eq e93 k19
  have k26 := KD.eq e93 k26
  have k35 := KD.eq e93 k35
  have k42 := KD.eq e93 k42
  have k49 := KD.eq e93 k49
  have k56 := KD.eq e93 k56
  have k63 := KD.eq e93 k63
  have k70 := KD.eq e93 k70
  have k77 := KD.eq e93 k77
  have k84 := KD.eq e93 k84
  have k91 := KD.eq e93 k91
  refine SF_aload_n 0 123 dX12_init_122 rfl rfl rfl ?_
  refine SF_sipush (1296 : Int32) 126 dX12_init_123 rfl rfl ?_
  refine SF_newa 128 dX12_init_126 rfl (Or.inr (Or.inl ⟨rfl, rfl⟩)) wr_long (by decide) (by decide) rfl ?_
  obtain ⟨g94, e95, h⟩ := lg_some h
  rw [← e95]
  have k_l0 := KD.alloc e95 k_l0
  have k5 := KD.alloc e95 k5
  have k12 := KD.alloc e95 k12
  have k19 := KD.alloc e95 k19
  have k26 := KD.alloc e95 k26
  have k35 := KD.alloc e95 k35
  have k42 := KD.alloc e95 k42
  have k49 := KD.alloc e95 k49
  have k56 := KD.alloc e95 k56
  have k63 := KD.alloc e95 k63
  have k70 := KD.alloc e95 k70
  have k77 := KD.alloc e95 k77
  have k84 := KD.alloc e95 k84
  have k91 := KD.alloc e95 k91
  have k98 := KD.fresh e95
  obtain ⟨a96, e97, h⟩ := ln_some h
  rw [← e97] at k98
  rw [← e97]
  refine SF_putR 131 fl_X12_58 dX12_init_128 k_l0.1 (fn_arr _ _) (Or.inr ⟨rfl, _, rfl, rfl⟩) rfl ?_
  obtain ⟨g99, e100, h⟩ := lg_some h
  rw [← e100]
  have k_l0 := KD.eq e100 k_l0
  have k5 := KD.eq e100 k5
  have k12 := KD.eq e100 k12
  have k19 := KD.eq e100 k19
  have k26 := KD.eq e100 k26
  have k35 := KD.eq e100 k35
  have k42 := KD.eq e100 k42
  have k49 := KD.eq e100 k49
  have k56 := KD.eq e100 k56
  have k63 := KD.eq e100 k63
  have k70 := KD.eq e100 k70
  have k77 := KD.eq e100 k77
  have k84 := KD.eq e100 k84
  have k91 := KD.eq e100 k91
  have k98 := KD.eq e100 k98
  refine SF_aload_n 0 132 dX12_init_131 rfl rfl rfl ?_
  refine SF_sipush (1296 : Int32) 135 dX12_init_132 rfl rfl ?_
  refine SF_newa 137 dX12_init_135 rfl (Or.inl ⟨rfl, rfl⟩) wr_int (by decide) (by decide) rfl ?_
  obtain ⟨g101, e102, h⟩ := lg_some h
  rw [← e102]
  have k_l0 := KD.alloc e102 k_l0
  have k5 := KD.alloc e102 k5
  have k12 := KD.alloc e102 k12
  have k19 := KD.alloc e102 k19
  have k26 := KD.alloc e102 k26
  have k35 := KD.alloc e102 k35
  have k42 := KD.alloc e102 k42
  have k49 := KD.alloc e102 k49
  have k56 := KD.alloc e102 k56
  have k63 := KD.alloc e102 k63
  have k70 := KD.alloc e102 k70
  have k77 := KD.alloc e102 k77
  have k84 := KD.alloc e102 k84
  have k91 := KD.alloc e102 k91
  have k98 := KD.alloc e102 k98
  have k105 := KD.fresh e102
  obtain ⟨a103, e104, h⟩ := ln_some h
  rw [← e104] at k105
  rw [← e104]
  refine SF_putR 140 fl_X12_61 dX12_init_137 k_l0.1 (fn_arr _ _) (Or.inr ⟨rfl, _, rfl, rfl⟩) rfl ?_
  obtain ⟨g106, e107, h⟩ := lg_some h
  rw [← e107]
  have k_l0 := KD.eq e107 k_l0
  have k5 := KD.eq e107 k5
  have k12 := KD.eq e107 k12
  have k19 := KD.eq e107 k19
  have k26 := KD.eq e107 k26
  have k35 := KD.eq e107 k35
  have k42 := KD.eq e107 k42
  have k49 := KD.eq e107 k49
  have k56 := KD.eq e107 k56
  have k63 := KD.eq e107 k63
  have k70 := KD.eq e107 k70
  have k77 := KD.eq e107 k77
  have k84 := KD.eq e107 k84
  have k91 := KD.eq e107 k91
  have k98 := KD.eq e107 k98
  have k105 := KD.eq e107 k105
  refine SF_aload_n 0 141 dX12_init_140 rfl rfl rfl ?_
  refine SF_iconst (4 : Int32) 142 dX12_init_141 rfl rfl ?_
  refine SF_newa 144 dX12_init_142 rfl (Or.inl ⟨rfl, rfl⟩) wr_int (by decide) (by decide) rfl ?_
  obtain ⟨g108, e109, h⟩ := lg_some h
  rw [← e109]
  have k_l0 := KD.alloc e109 k_l0
  have k5 := KD.alloc e109 k5
  have k12 := KD.alloc e109 k12
  have k19 := KD.alloc e109 k19
  have k26 := KD.alloc e109 k26
  have k35 := KD.alloc e109 k35
  have k42 := KD.alloc e109 k42
  have k49 := KD.alloc e109 k49
  have k56 := KD.alloc e109 k56
  have k63 := KD.alloc e109 k63
  have k70 := KD.alloc e109 k70
  have k77 := KD.alloc e109 k77
  have k84 := KD.alloc e109 k84
  have k91 := KD.alloc e109 k91
  have k98 := KD.alloc e109 k98
  have k105 := KD.alloc e109 k105
  have k112 := KD.fresh e109
  obtain ⟨a110, e111, h⟩ := ln_some h
  rw [← e111] at k112
  rw [← e111]
  refine SF_dup 145 dX12_init_144 rfl rfl ?_
  refine SF_iconst (0 : Int32) 146 dX12_init_145 rfl rfl ?_
  refine SF_iconst (-1 : Int32) 147 dX12_init_146 rfl rfl ?_
  obtain ⟨i113, h⟩ := gdI_some h
  refine SF_iast 148 dX12_init_147 k112.1 i113 rfl ?_
  obtain ⟨g114, e115, h⟩ := lg_some h
  rw [← e115]
  have k_l0 := KD.eq e115 k_l0
  have k5 := KD.eq e115 k5
  have k12 := KD.eq e115 k12
  have k19 := KD.eq e115 k19
  have k26 := KD.eq e115 k26
  have k35 := KD.eq e115 k35
  have k42 := KD.eq e115 k42
  have k49 := KD.eq e115 k49
  have k56 := KD.eq e115 k56
  have k63 := KD.eq e115 k63
  have k70 := KD.eq e115 k70
  have k77 := KD.eq e115 k77
  have k84 := KD.eq e115 k84
  have k91 := KD.eq e115 k91
  have k98 := KD.eq e115 k98
  have k105 := KD.eq e115 k105
  have k112 := KD.eq e115 k112
  have i113 := vp_eq e115 i113
  refine SF_dup 149 dX12_init_148 rfl rfl ?_
  refine SF_iconst (1 : Int32) 150 dX12_init_149 rfl rfl ?_
  refine SF_iconst (-1 : Int32) 151 dX12_init_150 rfl rfl ?_
  obtain ⟨i116, h⟩ := gdI_some h
  refine SF_iast 152 dX12_init_151 k112.1 i116 rfl ?_
  obtain ⟨g117, e118, h⟩ := lg_some h
  rw [← e118]
  have k_l0 := KD.eq e118 k_l0
  have k5 := KD.eq e118 k5
  have k12 := KD.eq e118 k12
  have k19 := KD.eq e118 k19
  have k26 := KD.eq e118 k26
  have k35 := KD.eq e118 k35
  have k42 := KD.eq e118 k42
  have k49 := KD.eq e118 k49
  have k56 := KD.eq e118 k56
  have k63 := KD.eq e118 k63
  have k70 := KD.eq e118 k70
  have k77 := KD.eq e118 k77
  have k84 := KD.eq e118 k84
  have k91 := KD.eq e118 k91
  have k98 := KD.eq e118 k98
  have k105 := KD.eq e118 k105
  have k112 := KD.eq e118 k112
  have i113 := vp_eq e118 i113
  have i116 := vp_eq e118 i116
  refine SF_dup 153 dX12_init_152 rfl rfl ?_
  refine SF_iconst (2 : Int32) 154 dX12_init_153 rfl rfl ?_
  refine SF_iconst (-1 : Int32) 155 dX12_init_154 rfl rfl ?_
  obtain ⟨i119, h⟩ := gdI_some h
  refine SF_iast 156 dX12_init_155 k112.1 i119 rfl ?_
  obtain ⟨g120, e121, h⟩ := lg_some h
  rw [← e121]
  have k_l0 := KD.eq e121 k_l0
  have k5 := KD.eq e121 k5
  have k12 := KD.eq e121 k12
  have k19 := KD.eq e121 k19
  have k26 := KD.eq e121 k26
  have k35 := KD.eq e121 k35
  have k42 := KD.eq e121 k42
  have k49 := KD.eq e121 k49
  have k56 := KD.eq e121 k56
  have k63 := KD.eq e121 k63
  have k70 := KD.eq e121 k70
  have k77 := KD.eq e121 k77
  have k84 := KD.eq e121 k84
  have k91 := KD.eq e121 k91
  have k98 := KD.eq e121 k98
  have k105 := KD.eq e121 k105
  have k112 := KD.eq e121 k112
  have i113 := vp_eq e121 i113
  have i116 := vp_eq e121 i116
  have i119 := vp_eq e121 i119
  refine SF_dup 157 dX12_init_156 rfl rfl ?_
  refine SF_iconst (3 : Int32) 158 dX12_init_157 rfl rfl ?_
  refine SF_iconst (-1 : Int32) 159 dX12_init_158 rfl rfl ?_
  obtain ⟨i122, h⟩ := gdI_some h
  refine SF_iast 160 dX12_init_159 k112.1 i122 rfl ?_
  obtain ⟨g123, e124, h⟩ := lg_some h
  rw [← e124]
  have k_l0 := KD.eq e124 k_l0
  have k5 := KD.eq e124 k5
  have k12 := KD.eq e124 k12
  have k19 := KD.eq e124 k19
  have k26 := KD.eq e124 k26
  have k35 := KD.eq e124 k35
  have k42 := KD.eq e124 k42
  have k49 := KD.eq e124 k49
  have k56 := KD.eq e124 k56
  have k63 := KD.eq e124 k63
  have k70 := KD.eq e124 k70
  have k77 := KD.eq e124 k77
  have k84 := KD.eq e124 k84
  have k91 := KD.eq e124 k91
  have k98 := KD.eq e124 k98
  have k105 := KD.eq e124 k105
  have k112 := KD.eq e124 k112
  have i113 := vp_eq e124 i113
  have i116 := vp_eq e124 i116
  have i119 := vp_eq e124 i119
  have i122 := vp_eq e124 i122
  refine SF_putR 163 fl_X12_64 dX12_init_160 k_l0.1 (fn_arr _ _) (Or.inr ⟨rfl, _, rfl, rfl⟩) rfl ?_
  obtain ⟨g125, e126, h⟩ := lg_some h
  rw [← e126]
  have k_l0 := KD.eq e126 k_l0
  have k5 := KD.eq e126 k5
  have k12 := KD.eq e126 k12
  have k19 := KD.eq e126 k19
  have k26 := KD.eq e126 k26
  have k35 := KD.eq e126 k35
  have k42 := KD.eq e126 k42
  have k49 := KD.eq e126 k49
  have k56 := KD.eq e126 k56
  have k63 := KD.eq e126 k63
  have k70 := KD.eq e126 k70
  have k77 := KD.eq e126 k77
  have k84 := KD.eq e126 k84
  have k91 := KD.eq e126 k91
  have k98 := KD.eq e126 k98
  have k105 := KD.eq e126 k105
  have k112 := KD.eq e126 k112
  have i113 := vp_eq e126 i113
  have i116 := vp_eq e126 i116
  have i119 := vp_eq e126 i119
  have i122 := vp_eq e126 i122
  refine SF_aload_n 0 164 dX12_init_163 rfl rfl rfl ?_
  refine SF_iconst (4 : Int32) 165 dX12_init_164 rfl rfl ?_
  refine SF_newa 167 dX12_init_165 rfl (Or.inl ⟨rfl, rfl⟩) wr_int (by decide) (by decide) rfl ?_
  obtain ⟨g127, e128, h⟩ := lg_some h
  rw [← e128]
  have k_l0 := KD.alloc e128 k_l0
  have k5 := KD.alloc e128 k5
  have k12 := KD.alloc e128 k12
  have k19 := KD.alloc e128 k19
  have k26 := KD.alloc e128 k26
  have k35 := KD.alloc e128 k35
  have k42 := KD.alloc e128 k42
  have k49 := KD.alloc e128 k49
  have k56 := KD.alloc e128 k56
  have k63 := KD.alloc e128 k63
  have k70 := KD.alloc e128 k70
  have k77 := KD.alloc e128 k77
  have k84 := KD.alloc e128 k84
  have k91 := KD.alloc e128 k91
  have k98 := KD.alloc e128 k98
  have k105 := KD.alloc e128 k105
  have k112 := KD.alloc e128 k112
  have k131 := KD.fresh e128
  obtain ⟨a129, e130, h⟩ := ln_some h
  rw [← e130] at k131
  rw [← e130]
  refine SF_putR 170 fl_X12_67 dX12_init_167 k_l0.1 (fn_arr _ _) (Or.inr ⟨rfl, _, rfl, rfl⟩) rfl ?_
  obtain ⟨g132, e133, h⟩ := lg_some h
  rw [← e133]
  have k_l0 := KD.eq e133 k_l0
  have k5 := KD.eq e133 k5
  have k12 := KD.eq e133 k12
  have k19 := KD.eq e133 k19
  have k26 := KD.eq e133 k26
  have k35 := KD.eq e133 k35
  have k42 := KD.eq e133 k42
  have k49 := KD.eq e133 k49
  have k56 := KD.eq e133 k56
  have k63 := KD.eq e133 k63
  have k70 := KD.eq e133 k70
  have k77 := KD.eq e133 k77
  have k84 := KD.eq e133 k84
  have k91 := KD.eq e133 k91
  have k98 := KD.eq e133 k98
  have k105 := KD.eq e133 k105
  have k112 := KD.eq e133 k112
  have k131 := KD.eq e133 k131
  refine SF_aload_n 0 171 dX12_init_170 rfl rfl rfl ?_
  refine SF_sipush (160 : Int32) 174 dX12_init_171 rfl rfl ?_
  refine SF_newa 176 dX12_init_174 rfl (Or.inr (Or.inl ⟨rfl, rfl⟩)) wr_long (by decide) (by decide) rfl ?_
  obtain ⟨g134, e135, h⟩ := lg_some h
  rw [← e135]
  have k_l0 := KD.alloc e135 k_l0
  have k5 := KD.alloc e135 k5
  have k12 := KD.alloc e135 k12
  have k19 := KD.alloc e135 k19
  have k26 := KD.alloc e135 k26
  have k35 := KD.alloc e135 k35
  have k42 := KD.alloc e135 k42
  have k49 := KD.alloc e135 k49
  have k56 := KD.alloc e135 k56
  have k63 := KD.alloc e135 k63
  have k70 := KD.alloc e135 k70
  have k77 := KD.alloc e135 k77
  have k84 := KD.alloc e135 k84
  have k91 := KD.alloc e135 k91
  have k98 := KD.alloc e135 k98
  have k105 := KD.alloc e135 k105
  have k112 := KD.alloc e135 k112
  have k131 := KD.alloc e135 k131
  have k138 := KD.fresh e135
  obtain ⟨a136, e137, h⟩ := ln_some h
  rw [← e137] at k138
  rw [← e137]
  refine SF_putR 179 fl_X12_70 dX12_init_176 k_l0.1 (fn_arr _ _) (Or.inr ⟨rfl, _, rfl, rfl⟩) rfl ?_
  obtain ⟨g139, e140, h⟩ := lg_some h
  rw [← e140]
  have k_l0 := KD.eq e140 k_l0
  have k5 := KD.eq e140 k5
  have k12 := KD.eq e140 k12
  have k19 := KD.eq e140 k19
  have k26 := KD.eq e140 k26
  have k35 := KD.eq e140 k35
  have k42 := KD.eq e140 k42
  have k49 := KD.eq e140 k49
  have k56 := KD.eq e140 k56
  have k63 := KD.eq e140 k63
  have k70 := KD.eq e140 k70
  have k77 := KD.eq e140 k77
  have k84 := KD.eq e140 k84
  have k91 := KD.eq e140 k91
  have k98 := KD.eq e140 k98
  have k105 := KD.eq e140 k105
  have k112 := KD.eq e140 k112
  have k131 := KD.eq e140 k131
  have k138 := KD.eq e140 k138
  refine SF_aload_n 0 180 dX12_init_179 rfl rfl rfl ?_
  obtain ⟨b141, r142, h⟩ := dr_some h
  refine SF_getR 183 fl_X12_13 dX12_init_180 k_l0.1 r142 rfl ?_
  obtain ⟨k143, h⟩ := gdK_some h
  obtain ⟨v144, g145, q146, h⟩ := bd_some h
  have s147 := w_X12_plain (X := X) (Nat.le_refl 0) b141 g139 g145 v144 k143 q146
  refine SF_callSv 186 mi_X12_plain ml_X12_73 dX12_init_183 (Nat.le_trans (by decide) hd) s147 rfl rfl (Nat.le_of_ble_eq_true rfl) rfl ?_
  have k_l0 := k_l0.ext s147.1
  have k5 := k5.ext s147.1
  have k12 := k12.ext s147.1
  have k19 := k19.ext s147.1
  have k26 := k26.ext s147.1
  have k35 := k35.ext s147.1
  have k42 := k42.ext s147.1
  have k49 := k49.ext s147.1
  have k56 := k56.ext s147.1
  have k63 := k63.ext s147.1
  have k70 := k70.ext s147.1
  have k77 := k77.ext s147.1
  have k84 := k84.ext s147.1
  have k91 := k91.ext s147.1
  have k98 := k98.ext s147.1
  have k105 := k105.ext s147.1
  have k112 := k112.ext s147.1
  have k131 := k131.ext s147.1
  have k138 := k138.ext s147.1
  have k143 := k143.ext s147.1
  exact RT_v rfl dX12_init_186 h

theorem dX11_feedWord_0 : decode cX11_feedWord 0 = .ok (.bipush 24, 2) := by decide +kernel
theorem dX11_feedWord_2 : decode cX11_feedWord 2 = .ok (.istore_n 2, 1) := by decide +kernel
theorem dX11_feedWord_3 : decode cX11_feedWord 3 = .ok (.iload_n 2, 1) := by decide +kernel
theorem dX11_feedWord_4 : decode cX11_feedWord 4 = .ok (.ifCond .lt 42, 3) := by decide +kernel
theorem dX11_feedWord_7 : decode cX11_feedWord 7 = .ok (.aload_n 0, 1) := by decide +kernel
theorem dX11_feedWord_8 : decode cX11_feedWord 8 = .ok (.getfield 107, 3) := by decide +kernel
theorem dX11_feedWord_11 : decode cX11_feedWord 11 = .ok (.sipush 900, 3) := by decide +kernel
theorem dX11_feedWord_14 : decode cX11_feedWord 14 = .ok (.if_icmp .ge 32, 3) := by decide +kernel
theorem dX11_feedWord_17 : decode cX11_feedWord 17 = .ok (.aload_n 0, 1) := by decide +kernel
theorem dX11_feedWord_18 : decode cX11_feedWord 18 = .ok (.getfield 9, 3) := by decide +kernel
theorem dX11_feedWord_21 : decode cX11_feedWord 21 = .ok (.aload_n 0, 1) := by decide +kernel
theorem dX11_feedWord_22 : decode cX11_feedWord 22 = .ok (.getfield 107, 3) := by decide +kernel
theorem dX11_feedWord_25 : decode cX11_feedWord 25 = .ok (.iload_n 1, 1) := by decide +kernel
theorem dX11_feedWord_26 : decode cX11_feedWord 26 = .ok (.iload_n 2, 1) := by decide +kernel
theorem dX11_feedWord_27 : decode cX11_feedWord 27 = .ok (.ishr, 1) := by decide +kernel
theorem dX11_feedWord_28 : decode cX11_feedWord 28 = .ok (.i2b, 1) := by decide +kernel
theorem dX11_feedWord_29 : decode cX11_feedWord 29 = .ok (.bastore, 1) := by decide +kernel
theorem dX11_feedWord_30 : decode cX11_feedWord 30 = .ok (.aload_n 0, 1) := by decide +kernel
theorem dX11_feedWord_31 : decode cX11_feedWord 31 = .ok (.dup, 1) := by decide +kernel
theorem dX11_feedWord_32 : decode cX11_feedWord 32 = .ok (.getfield 107, 3) := by decide +kernel
theorem dX11_feedWord_35 : decode cX11_feedWord 35 = .ok (.iconst 1, 1) := by decide +kernel
theorem dX11_feedWord_36 : decode cX11_feedWord 36 = .ok (.iadd, 1) := by decide +kernel
theorem dX11_feedWord_37 : decode cX11_feedWord 37 = .ok (.putfield 107, 3) := by decide +kernel
theorem dX11_feedWord_40 : decode cX11_feedWord 40 = .ok (.iinc 2 (-8), 3) := by decide +kernel
theorem dX11_feedWord_43 : decode cX11_feedWord 43 = .ok (.goto (-40), 3) := by decide +kernel
theorem dX11_feedWord_46 : decode cX11_feedWord 46 = .ok (.return_, 1) := by decide +kernel
set_option maxRecDepth 20000 in
set_option maxHeartbeats 2000000 in
theorem w_X11_feedWord_3 {X : CX} {d : Nat} (hd : 0 ≤ d) {g' : G} {rx : Unit} : ∀ (n : Nat) (l0 : Nat) (l1 : Int32) (l2 : Int32) (g : G), KD g l0 11 → f_X11_feedWord_3 n l0 l1 l2 g = some (rx, g') → SemF X m_X11_feedWord d 3 [(0, .ref (ad X l0)), (1, .int l1), (2, .int l2)] [] g none g' := by
  intro n
  induction n with
  | zero =>
    intro l0 l1 l2 g k_l0 h
    rw [f_X11_feedWord_3] at h
    cases h
  | succ n ih =>
  intro l0 l1 l2 g k_l0 h
  rw [f_X11_feedWord_3] at h
  refine SF_iload_n 2 4 dX11_feedWord_3 rfl rfl rfl ?_
  refine SF_iflt 46 7 dX11_feedWord_4 rfl rfl (fun c1 => ?_) (fun c1 => ?_)
  · have h := ite_t c1 h
    exact RT_v rfl dX11_feedWord_46 h
  · have h := ite_f c1 h
    refine SF_aload_n 0 8 dX11_feedWord_7 rfl rfl rfl ?_
    refine SF_getI 11 fl_X11_107 dX11_feedWord_8 k_l0.1 rfl ?_
    refine SF_sipush (900 : Int32) 14 dX11_feedWord_11 rfl rfl ?_
    refine SF_icge 46 17 dX11_feedWord_14 rfl rfl (fun c2 => ?_) (fun c2 => ?_)
    · have h := ite_t c2 h
      exact RT_v rfl dX11_feedWord_46 h
    · have h := ite_f c2 h
      refine SF_aload_n 0 18 dX11_feedWord_17 rfl rfl rfl ?_
      obtain ⟨b3, r4, h⟩ := dr_some h
      refine SF_getR 21 fl_X11_9 dX11_feedWord_18 k_l0.1 r4 rfl ?_
      refine SF_aload_n 0 22 dX11_feedWord_21 rfl rfl rfl ?_
      refine SF_getI 25 fl_X11_107 dX11_feedWord_22 k_l0.1 rfl ?_
      refine SF_iload_n 1 26 dX11_feedWord_25 rfl rfl rfl ?_
      refine SF_iload_n 2 27 dX11_feedWord_26 rfl rfl rfl ?_
      refine SF_ishr 28 dX11_feedWord_27 rfl ?_
      refine SF_i2b 29 dX11_feedWord_28 rfl ?_
      obtain ⟨k5, h⟩ := gdK_some h
      obtain ⟨i6, h⟩ := gdI_some h
      refine SF_bast 30 dX11_feedWord_29 k5.1 i6 rfl ?_
      obtain ⟨g7, e8, h⟩ := lg_some h
      rw [← e8]
      have k_l0 := KD.eq e8 k_l0
      have k5 := KD.eq e8 k5
      have r4 := gR_eq e8 r4
      have i6 := vp_eq e8 i6
      refine SF_aload_n 0 31 dX11_feedWord_30 rfl rfl rfl ?_
      refine SF_dup 32 dX11_feedWord_31 rfl rfl ?_
      refine SF_getI 35 fl_X11_107 dX11_feedWord_32 k_l0.1 rfl ?_
      refine SF_iconst (1 : Int32) 36 dX11_feedWord_35 rfl rfl ?_
      refine SF_iadd 37 dX11_feedWord_36 rfl ?_
      refine SF_putI 40 fl_X11_107 dX11_feedWord_37 k_l0.1 (fn_int _) (Or.inl rfl) rfl ?_
      obtain ⟨g9, e10, h⟩ := lg_some h
      rw [← e10]
      have k_l0 := KD.eq e10 k_l0
      have k5 := KD.eq e10 k5
      have r4 := gR_eq e10 r4
      have i6 := vp_eq e10 i6
      refine SF_iinc 2 (l2 + (-8 : Int32)) [(2, .int (l2 + (-8 : Int32))), (0, .ref (ad X l0)), (1, .int l1)] 43 dX11_feedWord_40 rfl rfl (by decide) rfl rfl ?_
      refine SF_goto 3 dX11_feedWord_43 rfl ?_
      refine SF_sub [1, 2, 0] rfl ?_
      exact ih l0 l1 (l2 + (-8 : Int32)) g9 k_l0 h

set_option maxRecDepth 20000 in
set_option maxHeartbeats 2000000 in
theorem w_X11_feedWord {X : CX} {d : Nat} (hd : 0 ≤ d) (l0 : Nat) (l1 : Int32) (g g' : G) (rx : Unit) (k_l0 : KD g l0 11) (h : f_X11_feedWord l0 l1 g = some (rx, g')) : Sem X m_X11_feedWord d [.ref (ad X l0), .int l1] g none g' := by
  refine Sem_of (lo := [(0, .ref (ad X l0)), (1, .int l1)]) (by decide +kernel) rfl (Nat.le_of_ble_eq_true rfl) ?_
  rw [f_X11_feedWord] at h
  refine SF_bipush (24 : Int32) 2 dX11_feedWord_0 rfl rfl ?_
  refine SF_istore_n [(2, .int (24 : Int32)), (0, .ref (ad X l0)), (1, .int l1)] 3 dX11_feedWord_2 rfl (by decide) rfl rfl ?_
  refine SF_sub [1, 2, 0] rfl ?_
  exact w_X11_feedWord_3 hd FU l0 l1 (24 : Int32) g k_l0 h

theorem dX11_feed_0 : decode cX11_feed 0 = .ok (.aload_n 0, 1) := by decide +kernel
theorem dX11_feed_1 : decode cX11_feed 1 = .ok (.getfield 107, 3) := by decide +kernel
theorem dX11_feed_4 : decode cX11_feed 4 = .ok (.bipush 20, 2) := by decide +kernel
theorem dX11_feed_6 : decode cX11_feed 6 = .ok (.iadd, 1) := by decide +kernel
theorem dX11_feed_7 : decode cX11_feed 7 = .ok (.sipush 900, 3) := by decide +kernel
theorem dX11_feed_10 : decode cX11_feed 10 = .ok (.if_icmp .le 6, 3) := by decide +kernel
theorem dX11_feed_13 : decode cX11_feed 13 = .ok (.bipush (-5), 2) := by decide +kernel
theorem dX11_feed_15 : decode cX11_feed 15 = .ok (.ireturn, 1) := by decide +kernel
theorem dX11_feed_16 : decode cX11_feed 16 = .ok (.aload_n 0, 1) := by decide +kernel
theorem dX11_feed_17 : decode cX11_feed 17 = .ok (.iload_n 1, 1) := by decide +kernel
theorem dX11_feed_18 : decode cX11_feed 18 = .ok (.invokevirtual 110, 3) := by decide +kernel
theorem dX11_feed_21 : decode cX11_feed 21 = .ok (.aload_n 0, 1) := by decide +kernel
theorem dX11_feed_22 : decode cX11_feed 22 = .ok (.iload_n 2, 1) := by decide +kernel
theorem dX11_feed_23 : decode cX11_feed 23 = .ok (.invokevirtual 110, 3) := by decide +kernel
theorem dX11_feed_26 : decode cX11_feed 26 = .ok (.aload_n 0, 1) := by decide +kernel
theorem dX11_feed_27 : decode cX11_feed 27 = .ok (.iload_n 3, 1) := by decide +kernel
theorem dX11_feed_28 : decode cX11_feed 28 = .ok (.invokevirtual 110, 3) := by decide +kernel
theorem dX11_feed_31 : decode cX11_feed 31 = .ok (.aload_n 0, 1) := by decide +kernel
theorem dX11_feed_32 : decode cX11_feed 32 = .ok (.iload 4, 2) := by decide +kernel
theorem dX11_feed_34 : decode cX11_feed 34 = .ok (.invokevirtual 110, 3) := by decide +kernel
theorem dX11_feed_37 : decode cX11_feed 37 = .ok (.aload_n 0, 1) := by decide +kernel
theorem dX11_feed_38 : decode cX11_feed 38 = .ok (.iload 5, 2) := by decide +kernel
theorem dX11_feed_40 : decode cX11_feed 40 = .ok (.invokevirtual 110, 3) := by decide +kernel
theorem dX11_feed_43 : decode cX11_feed 43 = .ok (.aload_n 0, 1) := by decide +kernel
theorem dX11_feed_44 : decode cX11_feed 44 = .ok (.getfield 107, 3) := by decide +kernel
theorem dX11_feed_47 : decode cX11_feed 47 = .ok (.ireturn, 1) := by decide +kernel
set_option maxRecDepth 20000 in
set_option maxHeartbeats 2000000 in
theorem w_X11_feed {X : CX} {d : Nat} (hd : 1 ≤ d) (l0 : Nat) (l1 : Int32) (l2 : Int32) (l3 : Int32) (l4 : Int32) (l5 : Int32) (g g' : G) (rx : Int32) (k_l0 : KD g l0 11) (h : f_X11_feed l0 l1 l2 l3 l4 l5 g = some (rx, g')) : Sem X m_X11_feed d [.ref (ad X l0), .int l1, .int l2, .int l3, .int l4, .int l5] g (some (.int rx)) g' := by
  refine Sem_of (lo := [(0, .ref (ad X l0)), (1, .int l1), (2, .int l2), (3, .int l3), (4, .int l4), (5, .int l5)]) (by decide +kernel) rfl (Nat.le_of_ble_eq_true rfl) ?_
  rw [f_X11_feed] at h
  refine SF_aload_n 0 1 dX11_feed_0 rfl rfl rfl ?_
  refine SF_getI 4 fl_X11_107 dX11_feed_1 k_l0.1 rfl ?_
  refine SF_bipush (20 : Int32) 6 dX11_feed_4 rfl rfl ?_
  refine SF_iadd 7 dX11_feed_6 rfl ?_
  refine SF_sipush (900 : Int32) 10 dX11_feed_7 rfl rfl ?_
  refine SF_icle 16 13 dX11_feed_10 rfl rfl (fun c1 => ?_) (fun c1 => ?_)
  · have h := ite_t c1 h
    refine SF_aload_n 0 17 dX11_feed_16 rfl rfl rfl ?_
    refine SF_iload_n 1 18 dX11_feed_17 rfl rfl rfl ?_
    obtain ⟨v2, g3, q4, h⟩ := bd_some h
    have s5 := w_X11_feedWord (X := X) (Nat.le_refl 0) l0 l1 g g3 v2 k_l0 q4
    refine SF_callVv 21 mi_X11_feedWord ml_X11_110 dX11_feed_18 (Nat.le_trans (by decide) hd) s5 k_l0.1 rfl rfl (Nat.le_of_ble_eq_true rfl) rfl ?_
    have k_l0 := k_l0.ext s5.1
    refine SF_aload_n 0 22 dX11_feed_21 rfl rfl rfl ?_
    refine SF_iload_n 2 23 dX11_feed_22 rfl rfl rfl ?_
    obtain ⟨v6, g7, q8, h⟩ := bd_some h
    have s9 := w_X11_feedWord (X := X) (Nat.le_refl 0) l0 l2 g3 g7 v6 k_l0 q8
    refine SF_callVv 26 mi_X11_feedWord ml_X11_110 dX11_feed_23 (Nat.le_trans (by decide) hd) s9 k_l0.1 rfl rfl (Nat.le_of_ble_eq_true rfl) rfl ?_
    have k_l0 := k_l0.ext s9.1
    refine SF_aload_n 0 27 dX11_feed_26 rfl rfl rfl ?_
    refine SF_iload_n 3 28 dX11_feed_27 rfl rfl rfl ?_
    obtain ⟨v10, g11, q12, h⟩ := bd_some h
    have s13 := w_X11_feedWord (X := X) (Nat.le_refl 0) l0 l3 g7 g11 v10 k_l0 q12
    refine SF_callVv 31 mi_X11_feedWord ml_X11_110 dX11_feed_28 (Nat.le_trans (by decide) hd) s13 k_l0.1 rfl rfl (Nat.le_of_ble_eq_true rfl) rfl ?_
    have k_l0 := k_l0.ext s13.1
    refine SF_aload_n 0 32 dX11_feed_31 rfl rfl rfl ?_
    refine SF_iload 4 34 dX11_feed_32 rfl rfl ?_
    obtain ⟨v14, g15, q16, h⟩ := bd_some h
    have s17 := w_X11_feedWord (X := X) (Nat.le_refl 0) l0 l4 g11 g15 v14 k_l0 q16
    refine SF_callVv 37 mi_X11_feedWord ml_X11_110 dX11_feed_34 (Nat.le_trans (by decide) hd) s17 k_l0.1 rfl rfl (Nat.le_of_ble_eq_true rfl) rfl ?_
    have k_l0 := k_l0.ext s17.1
    refine SF_aload_n 0 38 dX11_feed_37 rfl rfl rfl ?_
    refine SF_iload 5 40 dX11_feed_38 rfl rfl ?_
    obtain ⟨v18, g19, q20, h⟩ := bd_some h
    have s21 := w_X11_feedWord (X := X) (Nat.le_refl 0) l0 l5 g15 g19 v18 k_l0 q20
    refine SF_callVv 43 mi_X11_feedWord ml_X11_110 dX11_feed_40 (Nat.le_trans (by decide) hd) s21 k_l0.1 rfl rfl (Nat.le_of_ble_eq_true rfl) rfl ?_
    have k_l0 := k_l0.ext s21.1
    refine SF_aload_n 0 44 dX11_feed_43 rfl rfl rfl ?_
    refine SF_getI 47 fl_X11_107 dX11_feed_44 k_l0.1 rfl ?_
    exact RT_i rfl dX11_feed_47 h
  · have h := ite_f c1 h
    refine SF_bipush (-5 : Int32) 15 dX11_feed_13 rfl rfl ?_
    exact RT_i rfl dX11_feed_15 h

theorem dX12_feed_0 : decode cX12_feed 0 = .ok (.aload_n 0, 1) := by decide +kernel
theorem dX12_feed_1 : decode cX12_feed 1 = .ok (.iconst 0, 1) := by decide +kernel
theorem dX12_feed_2 : decode cX12_feed 2 = .ok (.putfield 1, 3) := by decide +kernel
theorem dX12_feed_5 : decode cX12_feed 5 = .ok (.aload_n 0, 1) := by decide +kernel
theorem dX12_feed_6 : decode cX12_feed 6 = .ok (.getfield 77, 3) := by decide +kernel
theorem dX12_feed_9 : decode cX12_feed 9 = .ok (.bipush 20, 2) := by decide +kernel
theorem dX12_feed_11 : decode cX12_feed 11 = .ok (.iadd, 1) := by decide +kernel
theorem dX12_feed_12 : decode cX12_feed 12 = .ok (.sipush 900, 3) := by decide +kernel
theorem dX12_feed_15 : decode cX12_feed 15 = .ok (.if_icmp .le 6, 3) := by decide +kernel
theorem dX12_feed_18 : decode cX12_feed 18 = .ok (.bipush (-5), 2) := by decide +kernel
theorem dX12_feed_20 : decode cX12_feed 20 = .ok (.ireturn, 1) := by decide +kernel
theorem dX12_feed_21 : decode cX12_feed 21 = .ok (.iconst 0, 1) := by decide +kernel
theorem dX12_feed_22 : decode cX12_feed 22 = .ok (.istore 6, 2) := by decide +kernel
theorem dX12_feed_24 : decode cX12_feed 24 = .ok (.iload 6, 2) := by decide +kernel
theorem dX12_feed_26 : decode cX12_feed 26 = .ok (.bipush 20, 2) := by decide +kernel
theorem dX12_feed_28 : decode cX12_feed 28 = .ok (.if_icmp .ge 93, 3) := by decide +kernel
theorem dX12_feed_31 : decode cX12_feed 31 = .ok (.iload 6, 2) := by decide +kernel
theorem dX12_feed_33 : decode cX12_feed 33 = .ok (.iconst 4, 1) := by decide +kernel
theorem dX12_feed_34 : decode cX12_feed 34 = .ok (.if_icmp .ge 7, 3) := by decide +kernel
theorem dX12_feed_37 : decode cX12_feed 37 = .ok (.iload_n 1, 1) := by decide +kernel
theorem dX12_feed_38 : decode cX12_feed 38 = .ok (.goto 39, 3) := by decide +kernel
theorem dX12_feed_41 : decode cX12_feed 41 = .ok (.iload 6, 2) := by decide +kernel
theorem dX12_feed_43 : decode cX12_feed 43 = .ok (.bipush 8, 2) := by decide +kernel
theorem dX12_feed_45 : decode cX12_feed 45 = .ok (.if_icmp .ge 7, 3) := by decide +kernel
theorem dX12_feed_48 : decode cX12_feed 48 = .ok (.iload_n 2, 1) := by decide +kernel
theorem dX12_feed_49 : decode cX12_feed 49 = .ok (.goto 28, 3) := by decide +kernel
theorem dX12_feed_52 : decode cX12_feed 52 = .ok (.iload 6, 2) := by decide +kernel
theorem dX12_feed_54 : decode cX12_feed 54 = .ok (.bipush 12, 2) := by decide +kernel
theorem dX12_feed_56 : decode cX12_feed 56 = .ok (.if_icmp .ge 7, 3) := by decide +kernel
theorem dX12_feed_59 : decode cX12_feed 59 = .ok (.iload_n 3, 1) := by decide +kernel
theorem dX12_feed_60 : decode cX12_feed 60 = .ok (.goto 17, 3) := by decide +kernel
theorem dX12_feed_63 : decode cX12_feed 63 = .ok (.iload 6, 2) := by decide +kernel
theorem dX12_feed_65 : decode cX12_feed 65 = .ok (.bipush 16, 2) := by decide +kernel
theorem dX12_feed_67 : decode cX12_feed 67 = .ok (.if_icmp .ge 8, 3) := by decide +kernel
theorem dX12_feed_70 : decode cX12_feed 70 = .ok (.iload 4, 2) := by decide +kernel
theorem dX12_feed_72 : decode cX12_feed 72 = .ok (.goto 5, 3) := by decide +kernel
theorem dX12_feed_75 : decode cX12_feed 75 = .ok (.iload 5, 2) := by decide +kernel
theorem dX12_feed_77 : decode cX12_feed 77 = .ok (.istore 7, 2) := by decide +kernel
theorem dX12_feed_79 : decode cX12_feed 79 = .ok (.aload_n 0, 1) := by decide +kernel
theorem dX12_feed_80 : decode cX12_feed 80 = .ok (.getfield 21, 3) := by decide +kernel
theorem dX12_feed_83 : decode cX12_feed 83 = .ok (.aload_n 0, 1) := by decide +kernel
theorem dX12_feed_84 : decode cX12_feed 84 = .ok (.getfield 77, 3) := by decide +kernel
theorem dX12_feed_87 : decode cX12_feed 87 = .ok (.iload 7, 2) := by decide +kernel
theorem dX12_feed_89 : decode cX12_feed 89 = .ok (.bipush 24, 2) := by decide +kernel
theorem dX12_feed_91 : decode cX12_feed 91 = .ok (.bipush 8, 2) := by decide +kernel
theorem dX12_feed_93 : decode cX12_feed 93 = .ok (.iload 6, 2) := by decide +kernel
theorem dX12_feed_95 : decode cX12_feed 95 = .ok (.iconst 4, 1) := by decide +kernel
theorem dX12_feed_96 : decode cX12_feed 96 = .ok (.irem, 1) := by decide +kernel
theorem dX12_feed_97 : decode cX12_feed 97 = .ok (.imul, 1) := by decide +kernel
theorem dX12_feed_98 : decode cX12_feed 98 = .ok (.isub, 1) := by decide +kernel
theorem dX12_feed_99 : decode cX12_feed 99 = .ok (.ishr, 1) := by decide +kernel
theorem dX12_feed_100 : decode cX12_feed 100 = .ok (.sipush 255, 3) := by decide +kernel
theorem dX12_feed_103 : decode cX12_feed 103 = .ok (.iand, 1) := by decide +kernel
theorem dX12_feed_104 : decode cX12_feed 104 = .ok (.iastore, 1) := by decide +kernel
theorem dX12_feed_105 : decode cX12_feed 105 = .ok (.aload_n 0, 1) := by decide +kernel
theorem dX12_feed_106 : decode cX12_feed 106 = .ok (.dup, 1) := by decide +kernel
theorem dX12_feed_107 : decode cX12_feed 107 = .ok (.getfield 77, 3) := by decide +kernel
theorem dX12_feed_110 : decode cX12_feed 110 = .ok (.iconst 1, 1) := by decide +kernel
theorem dX12_feed_111 : decode cX12_feed 111 = .ok (.iadd, 1) := by decide +kernel
theorem dX12_feed_112 : decode cX12_feed 112 = .ok (.putfield 77, 3) := by decide +kernel
theorem dX12_feed_115 : decode cX12_feed 115 = .ok (.iinc 6 1, 3) := by decide +kernel
theorem dX12_feed_118 : decode cX12_feed 118 = .ok (.goto (-94), 3) := by decide +kernel
theorem dX12_feed_121 : decode cX12_feed 121 = .ok (.aload_n 0, 1) := by decide +kernel
theorem dX12_feed_122 : decode cX12_feed 122 = .ok (.getfield 77, 3) := by decide +kernel
theorem dX12_feed_125 : decode cX12_feed 125 = .ok (.ireturn, 1) := by decide +kernel
set_option maxRecDepth 20000 in
set_option maxHeartbeats 2000000 in
theorem w_X12_feed_77 {X : CX} {d : Nat} (hd : 0 ≤ d) {g' : G} {rx : Int32} (k24 : Nat → Int32 → Int32 → Int32 → Int32 → Int32 → Int32 → G → Option (Int32 × G)) (hk24 : ∀ (l0 : Nat) (l1 : Int32) (l2 : Int32) (l3 : Int32) (l4 : Int32) (l5 : Int32) (l6 : Int32) (g : G), KD g l0 12 → k24 l0 l1 l2 l3 l4 l5 l6 g = some (rx, g') → SemF X m_X12_feed d 24 [(0, .ref (ad X l0)), (1, .int l1), (2, .int l2), (3, .int l3), (4, .int l4), (5, .int l5), (6, .int l6)] [] g (some (.int rx)) g') (l0 : Nat) (l1 : Int32) (l2 : Int32) (l3 : Int32) (l4 : Int32) (l5 : Int32) (l6 : Int32) (s0 : Int32) (g : G) (k_l0 : KD g l0 12) (h : f_X12_feed_77 k24 l0 l1 l2 l3 l4 l5 l6 s0 g = some (rx, g')) : SemF X m_X12_feed d 77 [(0, .ref (ad X l0)), (1, .int l1), (2, .int l2), (3, .int l3), (4, .int l4), (5, .int l5), (6, .int l6)] [.int s0] g (some (.int rx)) g' := by
  rw [f_X12_feed_77] at h
  refine SF_istore [(7, .int s0), (0, .ref (ad X l0)), (1, .int l1), (2, .int l2), (3, .int l3), (4, .int l4), (5, .int l5), (6, .int l6)] 79 dX12_feed_77 (by decide) rfl rfl ?_
  refine SF_aload_n 1 80 dX12_feed_79 rfl rfl rfl ?_
  obtain ⟨b1, r2, h⟩ := dr_some h
  refine SF_getR 83 fl_X12_21 dX12_feed_80 k_l0.1 r2 rfl ?_
  refine SF_aload_n 1 84 dX12_feed_83 rfl rfl rfl ?_
  refine SF_getI 87 fl_X12_77 dX12_feed_84 k_l0.1 rfl ?_
  refine SF_iload 0 89 dX12_feed_87 rfl rfl ?_
  refine SF_bipush (24 : Int32) 91 dX12_feed_89 rfl rfl ?_
  refine SF_bipush (8 : Int32) 93 dX12_feed_91 rfl rfl ?_
  refine SF_iload 7 95 dX12_feed_93 rfl rfl ?_
  refine SF_iconst (4 : Int32) 96 dX12_feed_95 rfl rfl ?_
  refine SF_irem 97 dX12_feed_96 (by decide) rfl ?_
  refine SF_imul 98 dX12_feed_97 rfl ?_
  refine SF_isub 99 dX12_feed_98 rfl ?_
  refine SF_ishr 100 dX12_feed_99 rfl ?_
  refine SF_sipush (255 : Int32) 103 dX12_feed_100 rfl rfl ?_
  refine SF_iand 104 dX12_feed_103 rfl ?_
  obtain ⟨k3, h⟩ := gdK_some h
  obtain ⟨i4, h⟩ := gdI_some h
  refine SF_iast 105 dX12_feed_104 k3.1 i4 rfl ?_
  obtain ⟨g5, e6, h⟩ := lg_some h
  rw [← e6]
  have k_l0 := KD.eq e6 k_l0
  have k3 := KD.eq e6 k3
  have r2 := gR_eq e6 r2
  have i4 := vp_eq e6 i4
  refine SF_aload_n 1 106 dX12_feed_105 rfl rfl rfl ?_
  refine SF_dup 107 dX12_feed_106 rfl rfl ?_
  refine SF_getI 110 fl_X12_77 dX12_feed_107 k_l0.1 rfl ?_
  refine SF_iconst (1 : Int32) 111 dX12_feed_110 rfl rfl ?_
  refine SF_iadd 112 dX12_feed_111 rfl ?_
  refine SF_putI 115 fl_X12_77 dX12_feed_112 k_l0.1 (fn_int _) (Or.inl rfl) rfl ?_
  obtain ⟨g7, e8, h⟩ := lg_some h
  rw [← e8]
  have k_l0 := KD.eq e8 k_l0
  have k3 := KD.eq e8 k3
  have r2 := gR_eq e8 r2
  have i4 := vp_eq e8 i4
  refine SF_iinc 7 (l6 + (1 : Int32)) [(6, .int (l6 + (1 : Int32))), (7, .int s0), (0, .ref (ad X l0)), (1, .int l1), (2, .int l2), (3, .int l3), (4, .int l4), (5, .int l5)] 118 dX12_feed_115 rfl rfl (by decide) rfl rfl ?_
  refine SF_goto 24 dX12_feed_118 rfl ?_
  refine SF_sub [2, 3, 4, 5, 6, 7, 0] rfl ?_
  exact hk24 l0 l1 l2 l3 l4 l5 (l6 + (1 : Int32)) g7 k_l0 h

set_option maxRecDepth 20000 in
set_option maxHeartbeats 2000000 in
theorem w_X12_feed_24 {X : CX} {d : Nat} (hd : 0 ≤ d) {g' : G} {rx : Int32} : ∀ (n : Nat) (l0 : Nat) (l1 : Int32) (l2 : Int32) (l3 : Int32) (l4 : Int32) (l5 : Int32) (l6 : Int32) (g : G), KD g l0 12 → f_X12_feed_24 n l0 l1 l2 l3 l4 l5 l6 g = some (rx, g') → SemF X m_X12_feed d 24 [(0, .ref (ad X l0)), (1, .int l1), (2, .int l2), (3, .int l3), (4, .int l4), (5, .int l5), (6, .int l6)] [] g (some (.int rx)) g' := by
  intro n
  induction n with
  | zero =>
    intro l0 l1 l2 l3 l4 l5 l6 g k_l0 h
    rw [f_X12_feed_24] at h
    cases h
  | succ n ih =>
  intro l0 l1 l2 l3 l4 l5 l6 g k_l0 h
  rw [f_X12_feed_24] at h
  refine SF_iload 6 26 dX12_feed_24 rfl rfl ?_
  refine SF_bipush (20 : Int32) 28 dX12_feed_26 rfl rfl ?_
  refine SF_icge 121 31 dX12_feed_28 rfl rfl (fun c1 => ?_) (fun c1 => ?_)
  · have h := ite_t c1 h
    refine SF_aload_n 0 122 dX12_feed_121 rfl rfl rfl ?_
    refine SF_getI 125 fl_X12_77 dX12_feed_122 k_l0.1 rfl ?_
    exact RT_i rfl dX12_feed_125 h
  · have h := ite_f c1 h
    refine SF_iload 6 33 dX12_feed_31 rfl rfl ?_
    refine SF_iconst (4 : Int32) 34 dX12_feed_33 rfl rfl ?_
    refine SF_icge 41 37 dX12_feed_34 rfl rfl (fun c2 => ?_) (fun c2 => ?_)
    · have h := ite_t c2 h
      refine SF_iload 6 43 dX12_feed_41 rfl rfl ?_
      refine SF_bipush (8 : Int32) 45 dX12_feed_43 rfl rfl ?_
      refine SF_icge 52 48 dX12_feed_45 rfl rfl (fun c3 => ?_) (fun c3 => ?_)
      · have h := ite_t c3 h
        refine SF_iload 6 54 dX12_feed_52 rfl rfl ?_
        refine SF_bipush (12 : Int32) 56 dX12_feed_54 rfl rfl ?_
        refine SF_icge 63 59 dX12_feed_56 rfl rfl (fun c4 => ?_) (fun c4 => ?_)
        · have h := ite_t c4 h
          refine SF_iload 6 65 dX12_feed_63 rfl rfl ?_
          refine SF_bipush (16 : Int32) 67 dX12_feed_65 rfl rfl ?_
          refine SF_icge 75 70 dX12_feed_67 rfl rfl (fun c5 => ?_) (fun c5 => ?_)
          · have h := ite_t c5 h
            refine SF_iload 5 77 dX12_feed_75 rfl rfl ?_
            exact w_X12_feed_77 hd (f_X12_feed_24 n) ih l0 l1 l2 l3 l4 l5 l6 l5 g k_l0 h
          · have h := ite_f c5 h
            refine SF_iload 4 72 dX12_feed_70 rfl rfl ?_
            refine SF_goto 77 dX12_feed_72 rfl ?_
            exact w_X12_feed_77 hd (f_X12_feed_24 n) ih l0 l1 l2 l3 l4 l5 l6 l4 g k_l0 h
        · have h := ite_f c4 h
          refine SF_iload_n 3 60 dX12_feed_59 rfl rfl rfl ?_
          refine SF_goto 77 dX12_feed_60 rfl ?_
          exact w_X12_feed_77 hd (f_X12_feed_24 n) ih l0 l1 l2 l3 l4 l5 l6 l3 g k_l0 h
      · have h := ite_f c3 h
        refine SF_iload_n 2 49 dX12_feed_48 rfl rfl rfl ?_
        refine SF_goto 77 dX12_feed_49 rfl ?_
        exact w_X12_feed_77 hd (f_X12_feed_24 n) ih l0 l1 l2 l3 l4 l5 l6 l2 g k_l0 h
    · have h := ite_f c2 h
      refine SF_iload_n 1 38 dX12_feed_37 rfl rfl rfl ?_
      refine SF_goto 77 dX12_feed_38 rfl ?_
      exact w_X12_feed_77 hd (f_X12_feed_24 n) ih l0 l1 l2 l3 l4 l5 l6 l1 g k_l0 h

set_option maxRecDepth 20000 in
set_option maxHeartbeats 2000000 in
theorem w_X12_feed {X : CX} {d : Nat} (hd : 0 ≤ d) (l0 : Nat) (l1 : Int32) (l2 : Int32) (l3 : Int32) (l4 : Int32) (l5 : Int32) (g g' : G) (rx : Int32) (k_l0 : KD g l0 12) (h : f_X12_feed l0 l1 l2 l3 l4 l5 g = some (rx, g')) : Sem X m_X12_feed d [.ref (ad X l0), .int l1, .int l2, .int l3, .int l4, .int l5] g (some (.int rx)) g' := by
  refine Sem_of (lo := [(0, .ref (ad X l0)), (1, .int l1), (2, .int l2), (3, .int l3), (4, .int l4), (5, .int l5)]) (by decide +kernel) rfl (Nat.le_of_ble_eq_true rfl) ?_
  rw [f_X12_feed] at h
  refine SF_aload_n 0 1 dX12_feed_0 rfl rfl rfl ?_
  refine SF_iconst (0 : Int32) 2 dX12_feed_1 rfl rfl ?_
  refine SF_putI 5 fl_X12_1 dX12_feed_2 k_l0.1 (fn_int _) (Or.inl rfl) rfl ?_
  obtain ⟨g1, e2, h⟩ := lg_some h
  rw [← e2]
  have k_l0 := KD.eq e2 k_l0
  refine SF_aload_n 0 6 dX12_feed_5 rfl rfl rfl ?_
  refine SF_getI 9 fl_X12_77 dX12_feed_6 k_l0.1 rfl ?_
  refine SF_bipush (20 : Int32) 11 dX12_feed_9 rfl rfl ?_
  refine SF_iadd 12 dX12_feed_11 rfl ?_
  refine SF_sipush (900 : Int32) 15 dX12_feed_12 rfl rfl ?_
  refine SF_icle 21 18 dX12_feed_15 rfl rfl (fun c3 => ?_) (fun c3 => ?_)
  · have h := ite_t c3 h
    refine SF_iconst (0 : Int32) 22 dX12_feed_21 rfl rfl ?_
    refine SF_istore [(6, .int (0 : Int32)), (0, .ref (ad X l0)), (1, .int l1), (2, .int l2), (3, .int l3), (4, .int l4), (5, .int l5)] 24 dX12_feed_22 (by decide) rfl rfl ?_
    refine SF_sub [1, 2, 3, 4, 5, 6, 0] rfl ?_
    exact w_X12_feed_24 hd FU l0 l1 l2 l3 l4 l5 (0 : Int32) g1 k_l0 h
  · have h := ite_f c3 h
    refine SF_bipush (-5 : Int32) 20 dX12_feed_18 rfl rfl ?_
    exact RT_i rfl dX12_feed_20 h

theorem dX8_signAt_0 : decode cX8_signAt 0 = .ok (.iload_n 1, 1) := by decide +kernel
theorem dX8_signAt_1 : decode cX8_signAt 1 = .ok (.ifCond .lt 29, 3) := by decide +kernel
theorem dX8_signAt_4 : decode cX8_signAt 4 = .ok (.iload_n 1, 1) := by decide +kernel
theorem dX8_signAt_5 : decode cX8_signAt 5 = .ok (.aload_n 0, 1) := by decide +kernel
theorem dX8_signAt_6 : decode cX8_signAt 6 = .ok (.getfield 54, 3) := by decide +kernel
theorem dX8_signAt_9 : decode cX8_signAt 9 = .ok (.if_icmp .ge 21, 3) := by decide +kernel
theorem dX8_signAt_12 : decode cX8_signAt 12 = .ok (.iload_n 1, 1) := by decide +kernel
theorem dX8_signAt_13 : decode cX8_signAt 13 = .ok (.aload_n 0, 1) := by decide +kernel
theorem dX8_signAt_14 : decode cX8_signAt 14 = .ok (.getfield 15, 3) := by decide +kernel
theorem dX8_signAt_17 : decode cX8_signAt 17 = .ok (.arraylength, 1) := by decide +kernel
theorem dX8_signAt_18 : decode cX8_signAt 18 = .ok (.if_icmp .ge 12, 3) := by decide +kernel
theorem dX8_signAt_21 : decode cX8_signAt 21 = .ok (.aload_n 0, 1) := by decide +kernel
theorem dX8_signAt_22 : decode cX8_signAt 22 = .ok (.getfield 15, 3) := by decide +kernel
theorem dX8_signAt_25 : decode cX8_signAt 25 = .ok (.iload_n 1, 1) := by decide +kernel
theorem dX8_signAt_26 : decode cX8_signAt 26 = .ok (.baload, 1) := by decide +kernel
theorem dX8_signAt_27 : decode cX8_signAt 27 = .ok (.goto 4, 3) := by decide +kernel
theorem dX8_signAt_30 : decode cX8_signAt 30 = .ok (.iconst 0, 1) := by decide +kernel
theorem dX8_signAt_31 : decode cX8_signAt 31 = .ok (.ireturn, 1) := by decide +kernel
set_option maxRecDepth 20000 in
set_option maxHeartbeats 2000000 in
theorem w_X8_signAt {X : CX} {d : Nat} (hd : 0 ≤ d) (l0 : Nat) (l1 : Int32) (g g' : G) (rx : Int32) (k_l0 : KD g l0 8) (h : f_X8_signAt l0 l1 g = some (rx, g')) : Sem X m_X8_signAt d [.ref (ad X l0), .int l1] g (some (.int rx)) g' := by
  refine Sem_of (lo := [(0, .ref (ad X l0)), (1, .int l1)]) (by decide +kernel) rfl (Nat.le_of_ble_eq_true rfl) ?_
  rw [f_X8_signAt] at h
  refine SF_iload_n 1 1 dX8_signAt_0 rfl rfl rfl ?_
  refine SF_iflt 30 4 dX8_signAt_1 rfl rfl (fun c1 => ?_) (fun c1 => ?_)
  · have h := ite_t c1 h
    refine SF_iconst (0 : Int32) 31 dX8_signAt_30 rfl rfl ?_
    exact RT_i rfl dX8_signAt_31 h
  · have h := ite_f c1 h
    refine SF_iload_n 1 5 dX8_signAt_4 rfl rfl rfl ?_
    refine SF_aload_n 0 6 dX8_signAt_5 rfl rfl rfl ?_
    refine SF_getI 9 fl_X8_54 dX8_signAt_6 k_l0.1 rfl ?_
    refine SF_icge 30 12 dX8_signAt_9 rfl rfl (fun c2 => ?_) (fun c2 => ?_)
    · have h := ite_t c2 h
      refine SF_iconst (0 : Int32) 31 dX8_signAt_30 rfl rfl ?_
      exact RT_i rfl dX8_signAt_31 h
    · have h := ite_f c2 h
      refine SF_iload_n 1 13 dX8_signAt_12 rfl rfl rfl ?_
      refine SF_aload_n 0 14 dX8_signAt_13 rfl rfl rfl ?_
      obtain ⟨b3, r4, h⟩ := dr_some h
      refine SF_getR 17 fl_X8_15 dX8_signAt_14 k_l0.1 r4 rfl ?_
      obtain ⟨k5, h⟩ := gdK_some h
      refine SF_alen 18 dX8_signAt_17 k5.1 (by decide) (by decide) rfl ?_
      refine SF_icge 30 21 dX8_signAt_18 rfl rfl (fun c6 => ?_) (fun c6 => ?_)
      · have h := ite_t c6 h
        refine SF_iconst (0 : Int32) 31 dX8_signAt_30 rfl rfl ?_
        exact RT_i rfl dX8_signAt_31 h
      · have h := ite_f c6 h
        refine SF_aload_n 0 22 dX8_signAt_21 rfl rfl rfl ?_
        refine SF_getR 25 fl_X8_15 dX8_signAt_22 k_l0.1 r4 rfl ?_
        refine SF_iload_n 1 26 dX8_signAt_25 rfl rfl rfl ?_
        obtain ⟨i7, h⟩ := gdI_some h
        refine SF_bald 27 dX8_signAt_26 k5.1 i7 rfl ?_
        refine SF_goto 31 dX8_signAt_27 rfl ?_
        exact RT_i rfl dX8_signAt_31 h

theorem dX8_skipBlanks_0 : decode cX8_skipBlanks 0 = .ok (.aload_n 0, 1) := by decide +kernel
theorem dX8_skipBlanks_1 : decode cX8_skipBlanks 1 = .ok (.getfield 79, 3) := by decide +kernel
theorem dX8_skipBlanks_4 : decode cX8_skipBlanks 4 = .ok (.aload_n 0, 1) := by decide +kernel
theorem dX8_skipBlanks_5 : decode cX8_skipBlanks 5 = .ok (.getfield 54, 3) := by decide +kernel
theorem dX8_skipBlanks_8 : decode cX8_skipBlanks 8 = .ok (.if_icmp .ge 42, 3) := by decide +kernel
theorem dX8_skipBlanks_11 : decode cX8_skipBlanks 11 = .ok (.aload_n 0, 1) := by decide +kernel
theorem dX8_skipBlanks_12 : decode cX8_skipBlanks 12 = .ok (.aload_n 0, 1) := by decide +kernel
theorem dX8_skipBlanks_13 : decode cX8_skipBlanks 13 = .ok (.getfield 79, 3) := by decide +kernel
theorem dX8_skipBlanks_16 : decode cX8_skipBlanks 16 = .ok (.invokevirtual 92, 3) := by decide +kernel
theorem dX8_skipBlanks_19 : decode cX8_skipBlanks 19 = .ok (.bipush 32, 2) := by decide +kernel
theorem dX8_skipBlanks_21 : decode cX8_skipBlanks 21 = .ok (.if_icmp .eq 16, 3) := by decide +kernel
theorem dX8_skipBlanks_24 : decode cX8_skipBlanks 24 = .ok (.aload_n 0, 1) := by decide +kernel
theorem dX8_skipBlanks_25 : decode cX8_skipBlanks 25 = .ok (.aload_n 0, 1) := by decide +kernel
theorem dX8_skipBlanks_26 : decode cX8_skipBlanks 26 = .ok (.getfield 79, 3) := by decide +kernel
theorem dX8_skipBlanks_29 : decode cX8_skipBlanks 29 = .ok (.invokevirtual 92, 3) := by decide +kernel
theorem dX8_skipBlanks_32 : decode cX8_skipBlanks 32 = .ok (.bipush 10, 2) := by decide +kernel
theorem dX8_skipBlanks_34 : decode cX8_skipBlanks 34 = .ok (.if_icmp .ne 16, 3) := by decide +kernel
theorem dX8_skipBlanks_37 : decode cX8_skipBlanks 37 = .ok (.aload_n 0, 1) := by decide +kernel
theorem dX8_skipBlanks_38 : decode cX8_skipBlanks 38 = .ok (.dup, 1) := by decide +kernel
theorem dX8_skipBlanks_39 : decode cX8_skipBlanks 39 = .ok (.getfield 79, 3) := by decide +kernel
theorem dX8_skipBlanks_42 : decode cX8_skipBlanks 42 = .ok (.iconst 1, 1) := by decide +kernel
theorem dX8_skipBlanks_43 : decode cX8_skipBlanks 43 = .ok (.iadd, 1) := by decide +kernel
theorem dX8_skipBlanks_44 : decode cX8_skipBlanks 44 = .ok (.putfield 79, 3) := by decide +kernel
theorem dX8_skipBlanks_47 : decode cX8_skipBlanks 47 = .ok (.goto (-47), 3) := by decide +kernel
theorem dX8_skipBlanks_50 : decode cX8_skipBlanks 50 = .ok (.return_, 1) := by decide +kernel
set_option maxRecDepth 20000 in
set_option maxHeartbeats 2000000 in
theorem w_X8_skipBlanks_37 {X : CX} {d : Nat} (hd : 1 ≤ d) {g' : G} {rx : Unit} (k0 : Nat → G → Option (Unit × G)) (hk0 : ∀ (l0 : Nat) (g : G), KD g l0 8 → k0 l0 g = some (rx, g') → SemF X m_X8_skipBlanks d 0 [(0, .ref (ad X l0))] [] g none g') (l0 : Nat) (g : G) (k_l0 : KD g l0 8) (h : f_X8_skipBlanks_37 k0 l0 g = some (rx, g')) : SemF X m_X8_skipBlanks d 37 [(0, .ref (ad X l0))] [] g none g' := by
  rw [f_X8_skipBlanks_37] at h
  refine SF_aload_n 0 38 dX8_skipBlanks_37 rfl rfl rfl ?_
  refine SF_dup 39 dX8_skipBlanks_38 rfl rfl ?_
  refine SF_getI 42 fl_X8_79 dX8_skipBlanks_39 k_l0.1 rfl ?_
  refine SF_iconst (1 : Int32) 43 dX8_skipBlanks_42 rfl rfl ?_
  refine SF_iadd 44 dX8_skipBlanks_43 rfl ?_
  refine SF_putI 47 fl_X8_79 dX8_skipBlanks_44 k_l0.1 (fn_int _) (Or.inl rfl) rfl ?_
  obtain ⟨g1, e2, h⟩ := lg_some h
  rw [← e2]
  have k_l0 := KD.eq e2 k_l0
  refine SF_goto 0 dX8_skipBlanks_47 rfl ?_
  exact hk0 l0 g1 k_l0 h

set_option maxRecDepth 20000 in
set_option maxHeartbeats 2000000 in
theorem w_X8_skipBlanks_0 {X : CX} {d : Nat} (hd : 1 ≤ d) {g' : G} {rx : Unit} : ∀ (n : Nat) (l0 : Nat) (g : G), KD g l0 8 → f_X8_skipBlanks_0 n l0 g = some (rx, g') → SemF X m_X8_skipBlanks d 0 [(0, .ref (ad X l0))] [] g none g' := by
  intro n
  induction n with
  | zero =>
    intro l0 g k_l0 h
    rw [f_X8_skipBlanks_0] at h
    cases h
  | succ n ih =>
  intro l0 g k_l0 h
  rw [f_X8_skipBlanks_0] at h
  refine SF_aload_n 0 1 dX8_skipBlanks_0 rfl rfl rfl ?_
  refine SF_getI 4 fl_X8_79 dX8_skipBlanks_1 k_l0.1 rfl ?_
  refine SF_aload_n 0 5 dX8_skipBlanks_4 rfl rfl rfl ?_
  refine SF_getI 8 fl_X8_54 dX8_skipBlanks_5 k_l0.1 rfl ?_
  refine SF_icge 50 11 dX8_skipBlanks_8 rfl rfl (fun c1 => ?_) (fun c1 => ?_)
  · have h := ite_t c1 h
    exact RT_v rfl dX8_skipBlanks_50 h
  · have h := ite_f c1 h
    refine SF_aload_n 0 12 dX8_skipBlanks_11 rfl rfl rfl ?_
    refine SF_aload_n 0 13 dX8_skipBlanks_12 rfl rfl rfl ?_
    refine SF_getI 16 fl_X8_79 dX8_skipBlanks_13 k_l0.1 rfl ?_
    obtain ⟨v2, g3, q4, h⟩ := bd_some h
    have s5 := w_X8_signAt (X := X) (Nat.le_refl 0) l0 (gI g l0 6) g g3 v2 k_l0 q4
    refine SF_callVi 19 mi_X8_signAt ml_X8_92 dX8_skipBlanks_16 (Nat.le_trans (by decide) hd) s5 k_l0.1 rfl rfl (Nat.le_of_ble_eq_true rfl) rfl ?_
    have k_l0 := k_l0.ext s5.1
    refine SF_bipush (32 : Int32) 21 dX8_skipBlanks_19 rfl rfl ?_
    refine SF_iceq 37 24 dX8_skipBlanks_21 rfl rfl (fun c6 => ?_) (fun c6 => ?_)
    · have h := ite_t c6 h
      exact w_X8_skipBlanks_37 hd (f_X8_skipBlanks_0 n) ih l0 g3 k_l0 h
    · have h := ite_f c6 h
      refine SF_aload_n 0 25 dX8_skipBlanks_24 rfl rfl rfl ?_
      refine SF_aload_n 0 26 dX8_skipBlanks_25 rfl rfl rfl ?_
      refine SF_getI 29 fl_X8_79 dX8_skipBlanks_26 k_l0.1 rfl ?_
      obtain ⟨v7, g8, q9, h⟩ := bd_some h
      have s10 := w_X8_signAt (X := X) (Nat.le_refl 0) l0 (gI g3 l0 6) g3 g8 v7 k_l0 q9
      refine SF_callVi 32 mi_X8_signAt ml_X8_92 dX8_skipBlanks_29 (Nat.le_trans (by decide) hd) s10 k_l0.1 rfl rfl (Nat.le_of_ble_eq_true rfl) rfl ?_
      have k_l0 := k_l0.ext s10.1
      refine SF_bipush (10 : Int32) 34 dX8_skipBlanks_32 rfl rfl ?_
      refine SF_icne 50 37 dX8_skipBlanks_34 rfl rfl (fun c11 => ?_) (fun c11 => ?_)
      · have h := ite_f c11 h
        exact RT_v rfl dX8_skipBlanks_50 h
      · have h := ite_t c11 h
        exact w_X8_skipBlanks_37 hd (f_X8_skipBlanks_0 n) ih l0 g8 k_l0 h

set_option maxRecDepth 20000 in
set_option maxHeartbeats 2000000 in
theorem w_X8_skipBlanks {X : CX} {d : Nat} (hd : 1 ≤ d) (l0 : Nat) (g g' : G) (rx : Unit) (k_l0 : KD g l0 8) (h : f_X8_skipBlanks l0 g = some (rx, g')) : Sem X m_X8_skipBlanks d [.ref (ad X l0)] g none g' := by
  refine Sem_of (lo := [(0, .ref (ad X l0))]) (by decide +kernel) rfl (Nat.le_of_ble_eq_true rfl) ?_
  rw [f_X8_skipBlanks] at h
  exact w_X8_skipBlanks_0 hd FU l0 g k_l0 h

theorem dX8_isLetter_0 : decode cX8_isLetter 0 = .ok (.iload_n 0, 1) := by decide +kernel
theorem dX8_isLetter_1 : decode cX8_isLetter 1 = .ok (.bipush 97, 2) := by decide +kernel
theorem dX8_isLetter_3 : decode cX8_isLetter 3 = .ok (.if_icmp .lt 13, 3) := by decide +kernel
theorem dX8_isLetter_6 : decode cX8_isLetter 6 = .ok (.iload_n 0, 1) := by decide +kernel
theorem dX8_isLetter_7 : decode cX8_isLetter 7 = .ok (.bipush 122, 2) := by decide +kernel
theorem dX8_isLetter_9 : decode cX8_isLetter 9 = .ok (.if_icmp .gt 7, 3) := by decide +kernel
theorem dX8_isLetter_12 : decode cX8_isLetter 12 = .ok (.iconst 1, 1) := by decide +kernel
theorem dX8_isLetter_13 : decode cX8_isLetter 13 = .ok (.goto 4, 3) := by decide +kernel
theorem dX8_isLetter_16 : decode cX8_isLetter 16 = .ok (.iconst 0, 1) := by decide +kernel
theorem dX8_isLetter_17 : decode cX8_isLetter 17 = .ok (.ireturn, 1) := by decide +kernel
set_option maxRecDepth 20000 in
set_option maxHeartbeats 2000000 in
theorem w_X8_isLetter {X : CX} {d : Nat} (hd : 0 ≤ d) (l0 : Int32) (g g' : G) (rx : Bool) (h : f_X8_isLetter l0 g = some (rx, g')) : Sem X m_X8_isLetter d [.int l0] g (some (.int (b2i rx))) g' := by
  refine Sem_of (lo := [(0, .int l0)]) (by decide +kernel) rfl (Nat.le_of_ble_eq_true rfl) ?_
  rw [f_X8_isLetter] at h
  refine SF_iload_n 0 1 dX8_isLetter_0 rfl rfl rfl ?_
  refine SF_bipush (97 : Int32) 3 dX8_isLetter_1 rfl rfl ?_
  refine SF_iclt 16 6 dX8_isLetter_3 rfl rfl (fun c1 => ?_) (fun c1 => ?_)
  · have h := ite_t c1 h
    refine SF_iconst (0 : Int32) 17 dX8_isLetter_16 rfl rfl ?_
    exact RT_b rfl rfl dX8_isLetter_17 h
  · have h := ite_f c1 h
    refine SF_iload_n 0 7 dX8_isLetter_6 rfl rfl rfl ?_
    refine SF_bipush (122 : Int32) 9 dX8_isLetter_7 rfl rfl ?_
    refine SF_icgt 16 12 dX8_isLetter_9 rfl rfl (fun c2 => ?_) (fun c2 => ?_)
    · have h := ite_t c2 h
      refine SF_iconst (0 : Int32) 17 dX8_isLetter_16 rfl rfl ?_
      exact RT_b rfl rfl dX8_isLetter_17 h
    · have h := ite_f c2 h
      refine SF_iconst (1 : Int32) 13 dX8_isLetter_12 rfl rfl ?_
      refine SF_goto 17 dX8_isLetter_13 rfl ?_
      exact RT_b rfl rfl dX8_isLetter_17 h

theorem dX8_splitWord_0 : decode cX8_splitWord 0 = .ok (.aload_n 0, 1) := by decide +kernel
theorem dX8_splitWord_1 : decode cX8_splitWord 1 = .ok (.getfield 79, 3) := by decide +kernel
theorem dX8_splitWord_4 : decode cX8_splitWord 4 = .ok (.istore_n 1, 1) := by decide +kernel
theorem dX8_splitWord_5 : decode cX8_splitWord 5 = .ok (.aload_n 0, 1) := by decide +kernel
theorem dX8_splitWord_6 : decode cX8_splitWord 6 = .ok (.getfield 79, 3) := by decide +kernel
theorem dX8_splitWord_9 : decode cX8_splitWord 9 = .ok (.aload_n 0, 1) := by decide +kernel
theorem dX8_splitWord_10 : decode cX8_splitWord 10 = .ok (.getfield 54, 3) := by decide +kernel
theorem dX8_splitWord_13 : decode cX8_splitWord 13 = .ok (.if_icmp .ge 30, 3) := by decide +kernel
theorem dX8_splitWord_16 : decode cX8_splitWord 16 = .ok (.aload_n 0, 1) := by decide +kernel
theorem dX8_splitWord_17 : decode cX8_splitWord 17 = .ok (.aload_n 0, 1) := by decide +kernel
theorem dX8_splitWord_18 : decode cX8_splitWord 18 = .ok (.getfield 79, 3) := by decide +kernel
theorem dX8_splitWord_21 : decode cX8_splitWord 21 = .ok (.invokevirtual 92, 3) := by decide +kernel
theorem dX8_splitWord_24 : decode cX8_splitWord 24 = .ok (.invokestatic 95, 3) := by decide +kernel
theorem dX8_splitWord_27 : decode cX8_splitWord 27 = .ok (.ifCond .eq 16, 3) := by decide +kernel
theorem dX8_splitWord_30 : decode cX8_splitWord 30 = .ok (.aload_n 0, 1) := by decide +kernel
theorem dX8_splitWord_31 : decode cX8_splitWord 31 = .ok (.dup, 1) := by decide +kernel
theorem dX8_splitWord_32 : decode cX8_splitWord 32 = .ok (.getfield 79, 3) := by decide +kernel
theorem dX8_splitWord_35 : decode cX8_splitWord 35 = .ok (.iconst 1, 1) := by decide +kernel
theorem dX8_splitWord_36 : decode cX8_splitWord 36 = .ok (.iadd, 1) := by decide +kernel
theorem dX8_splitWord_37 : decode cX8_splitWord 37 = .ok (.putfield 79, 3) := by decide +kernel
theorem dX8_splitWord_40 : decode cX8_splitWord 40 = .ok (.goto (-35), 3) := by decide +kernel
theorem dX8_splitWord_43 : decode cX8_splitWord 43 = .ok (.iconst 0, 1) := by decide +kernel
theorem dX8_splitWord_44 : decode cX8_splitWord 44 = .ok (.istore_n 2, 1) := by decide +kernel
theorem dX8_splitWord_45 : decode cX8_splitWord 45 = .ok (.iload_n 1, 1) := by decide +kernel
theorem dX8_splitWord_46 : decode cX8_splitWord 46 = .ok (.istore_n 3, 1) := by decide +kernel
theorem dX8_splitWord_47 : decode cX8_splitWord 47 = .ok (.iconst 1, 1) := by decide +kernel
theorem dX8_splitWord_48 : decode cX8_splitWord 48 = .ok (.istore 4, 2) := by decide +kernel
theorem dX8_splitWord_50 : decode cX8_splitWord 50 = .ok (.iconst 0, 1) := by decide +kernel
theorem dX8_splitWord_51 : decode cX8_splitWord 51 = .ok (.istore 5, 2) := by decide +kernel
theorem dX8_splitWord_53 : decode cX8_splitWord 53 = .ok (.iload 5, 2) := by decide +kernel
theorem dX8_splitWord_55 : decode cX8_splitWord 55 = .ok (.ldc 116, 2) := by decide +kernel
theorem dX8_splitWord_57 : decode cX8_splitWord 57 = .ok (.invokevirtual 118, 3) := by decide +kernel
theorem dX8_splitWord_60 : decode cX8_splitWord 60 = .ok (.if_icmp .ge 84, 3) := by decide +kernel
theorem dX8_splitWord_63 : decode cX8_splitWord 63 = .ok (.ldc 116, 2) := by decide +kernel
theorem dX8_splitWord_65 : decode cX8_splitWord 65 = .ok (.iload 5, 2) := by decide +kernel
theorem dX8_splitWord_67 : decode cX8_splitWord 67 = .ok (.invokevirtual 120, 3) := by decide +kernel
theorem dX8_splitWord_70 : decode cX8_splitWord 70 = .ok (.istore 6, 2) := by decide +kernel
theorem dX8_splitWord_72 : decode cX8_splitWord 72 = .ok (.iload 6, 2) := by decide +kernel
theorem dX8_splitWord_74 : decode cX8_splitWord 74 = .ok (.bipush 32, 2) := by decide +kernel
theorem dX8_splitWord_76 : decode cX8_splitWord 76 = .ok (.if_icmp .eq 39, 3) := by decide +kernel
theorem dX8_splitWord_79 : decode cX8_splitWord 79 = .ok (.iload 4, 2) := by decide +kernel
theorem dX8_splitWord_81 : decode cX8_splitWord 81 = .ok (.ifCond .eq 25, 3) := by decide +kernel
theorem dX8_splitWord_84 : decode cX8_splitWord 84 = .ok (.iload_n 3, 1) := by decide +kernel
theorem dX8_splitWord_85 : decode cX8_splitWord 85 = .ok (.aload_n 0, 1) := by decide +kernel
theorem dX8_splitWord_86 : decode cX8_splitWord 86 = .ok (.getfield 79, 3) := by decide +kernel
theorem dX8_splitWord_89 : decode cX8_splitWord 89 = .ok (.if_icmp .ge 17, 3) := by decide +kernel
theorem dX8_splitWord_92 : decode cX8_splitWord 92 = .ok (.aload_n 0, 1) := by decide +kernel
theorem dX8_splitWord_93 : decode cX8_splitWord 93 = .ok (.iload_n 3, 1) := by decide +kernel
theorem dX8_splitWord_94 : decode cX8_splitWord 94 = .ok (.invokevirtual 92, 3) := by decide +kernel
theorem dX8_splitWord_97 : decode cX8_splitWord 97 = .ok (.iload 6, 2) := by decide +kernel
theorem dX8_splitWord_99 : decode cX8_splitWord 99 = .ok (.if_icmp .ne 7, 3) := by decide +kernel
theorem dX8_splitWord_102 : decode cX8_splitWord 102 = .ok (.iconst 1, 1) := by decide +kernel
theorem dX8_splitWord_103 : decode cX8_splitWord 103 = .ok (.goto 4, 3) := by decide +kernel
theorem dX8_splitWord_106 : decode cX8_splitWord 106 = .ok (.iconst 0, 1) := by decide +kernel
theorem dX8_splitWord_107 : decode cX8_splitWord 107 = .ok (.istore 4, 2) := by decide +kernel
theorem dX8_splitWord_109 : decode cX8_splitWord 109 = .ok (.iinc 3 1, 3) := by decide +kernel
theorem dX8_splitWord_112 : decode cX8_splitWord 112 = .ok (.goto 26, 3) := by decide +kernel
theorem dX8_splitWord_115 : decode cX8_splitWord 115 = .ok (.iload 4, 2) := by decide +kernel
theorem dX8_splitWord_117 : decode cX8_splitWord 117 = .ok (.ifCond .eq 13, 3) := by decide +kernel
theorem dX8_splitWord_120 : decode cX8_splitWord 120 = .ok (.iload_n 3, 1) := by decide +kernel
theorem dX8_splitWord_121 : decode cX8_splitWord 121 = .ok (.aload_n 0, 1) := by decide +kernel
theorem dX8_splitWord_122 : decode cX8_splitWord 122 = .ok (.getfield 79, 3) := by decide +kernel
theorem dX8_splitWord_125 : decode cX8_splitWord 125 = .ok (.if_icmp .ne 5, 3) := by decide +kernel
theorem dX8_splitWord_128 : decode cX8_splitWord 128 = .ok (.iload_n 2, 1) := by decide +kernel
theorem dX8_splitWord_129 : decode cX8_splitWord 129 = .ok (.ireturn, 1) := by decide +kernel
theorem dX8_splitWord_130 : decode cX8_splitWord 130 = .ok (.iinc 2 1, 3) := by decide +kernel
theorem dX8_splitWord_133 : decode cX8_splitWord 133 = .ok (.iload_n 1, 1) := by decide +kernel
theorem dX8_splitWord_134 : decode cX8_splitWord 134 = .ok (.istore_n 3, 1) := by decide +kernel
theorem dX8_splitWord_135 : decode cX8_splitWord 135 = .ok (.iconst 1, 1) := by decide +kernel
theorem dX8_splitWord_136 : decode cX8_splitWord 136 = .ok (.istore 4, 2) := by decide +kernel
theorem dX8_splitWord_138 : decode cX8_splitWord 138 = .ok (.iinc 5 1, 3) := by decide +kernel
theorem dX8_splitWord_141 : decode cX8_splitWord 141 = .ok (.goto (-88), 3) := by decide +kernel
theorem dX8_splitWord_144 : decode cX8_splitWord 144 = .ok (.bipush 15, 2) := by decide +kernel
theorem dX8_splitWord_146 : decode cX8_splitWord 146 = .ok (.ireturn, 1) := by decide +kernel
set_option maxRecDepth 20000 in
set_option maxHeartbeats 2000000 in
theorem w_X8_splitWord_138 {X : CX} {d : Nat} (hd : 4 ≤ d) {g' : G} {rx : Int32} (k53 : Nat → Int32 → Int32 → Int32 → Int32 → Int32 → G → Option (Int32 × G)) (hk53 : ∀ (l0 : Nat) (l1 : Int32) (l2 : Int32) (l3 : Int32) (l4 : Int32) (l5 : Int32) (g : G), KD g l0 8 → k53 l0 l1 l2 l3 l4 l5 g = some (rx, g') → SemF X m_X8_splitWord d 53 [(0, .ref (ad X l0)), (1, .int l1), (2, .int l2), (3, .int l3), (4, .int l4), (5, .int l5)] [] g (some (.int rx)) g') (l0 : Nat) (l1 : Int32) (l2 : Int32) (l3 : Int32) (l4 : Int32) (l5 : Int32) (g : G) (k_l0 : KD g l0 8) (h : f_X8_splitWord_138 k53 l0 l1 l2 l3 l4 l5 g = some (rx, g')) : SemF X m_X8_splitWord d 138 [(0, .ref (ad X l0)), (1, .int l1), (2, .int l2), (3, .int l3), (4, .int l4), (5, .int l5)] [] g (some (.int rx)) g' := by
  rw [f_X8_splitWord_138] at h
  refine SF_iinc 5 (l5 + (1 : Int32)) [(5, .int (l5 + (1 : Int32))), (0, .ref (ad X l0)), (1, .int l1), (2, .int l2), (3, .int l3), (4, .int l4)] 141 dX8_splitWord_138 rfl rfl (by decide) rfl rfl ?_
  refine SF_goto 53 dX8_splitWord_141 rfl ?_
  refine SF_sub [1, 2, 3, 4, 5, 0] rfl ?_
  exact hk53 l0 l1 l2 l3 l4 (l5 + (1 : Int32)) g k_l0 h

set_option maxRecDepth 20000 in
set_option maxHeartbeats 2000000 in
theorem w_X8_splitWord_107 {X : CX} {d : Nat} (hd : 4 ≤ d) {g' : G} {rx : Int32} (k53 : Nat → Int32 → Int32 → Int32 → Int32 → Int32 → G → Option (Int32 × G)) (hk53 : ∀ (l0 : Nat) (l1 : Int32) (l2 : Int32) (l3 : Int32) (l4 : Int32) (l5 : Int32) (g : G), KD g l0 8 → k53 l0 l1 l2 l3 l4 l5 g = some (rx, g') → SemF X m_X8_splitWord d 53 [(0, .ref (ad X l0)), (1, .int l1), (2, .int l2), (3, .int l3), (4, .int l4), (5, .int l5)] [] g (some (.int rx)) g') (l0 : Nat) (l1 : Int32) (l2 : Int32) (l3 : Int32) (l5 : Int32) (s0 : Int32) (g : G) (k_l0 : KD g l0 8) (h : f_X8_splitWord_107 k53 l0 l1 l2 l3 l5 s0 g = some (rx, g')) : SemF X m_X8_splitWord d 107 [(0, .ref (ad X l0)), (1, .int l1), (2, .int l2), (3, .int l3), (5, .int l5)] [.int s0] g (some (.int rx)) g' := by
  rw [f_X8_splitWord_107] at h
  refine SF_istore [(4, .int s0), (0, .ref (ad X l0)), (1, .int l1), (2, .int l2), (3, .int l3), (5, .int l5)] 109 dX8_splitWord_107 (by decide) rfl rfl ?_
  refine SF_iinc 4 (l3 + (1 : Int32)) [(3, .int (l3 + (1 : Int32))), (4, .int s0), (0, .ref (ad X l0)), (1, .int l1), (2, .int l2), (5, .int l5)] 112 dX8_splitWord_109 rfl rfl (by decide) rfl rfl ?_
  refine SF_goto 138 dX8_splitWord_112 rfl ?_
  refine SF_sub [2, 3, 4, 0, 1, 5] rfl ?_
  exact w_X8_splitWord_138 hd k53 hk53 l0 l1 l2 (l3 + (1 : Int32)) s0 l5 g k_l0 h

set_option maxRecDepth 20000 in
set_option maxHeartbeats 2000000 in
theorem w_X8_splitWord_106 {X : CX} {d : Nat} (hd : 4 ≤ d) {g' : G} {rx : Int32} (k53 : Nat → Int32 → Int32 → Int32 → Int32 → Int32 → G → Option (Int32 × G)) (hk53 : ∀ (l0 : Nat) (l1 : Int32) (l2 : Int32) (l3 : Int32) (l4 : Int32) (l5 : Int32) (g : G), KD g l0 8 → k53 l0 l1 l2 l3 l4 l5 g = some (rx, g') → SemF X m_X8_splitWord d 53 [(0, .ref (ad X l0)), (1, .int l1), (2, .int l2), (3, .int l3), (4, .int l4), (5, .int l5)] [] g (some (.int rx)) g') (l0 : Nat) (l1 : Int32) (l2 : Int32) (l3 : Int32) (l5 : Int32) (g : G) (k_l0 : KD g l0 8) (h : f_X8_splitWord_106 k53 l0 l1 l2 l3 l5 g = some (rx, g')) : SemF X m_X8_splitWord d 106 [(0, .ref (ad X l0)), (1, .int l1), (2, .int l2), (3, .int l3), (5, .int l5)] [] g (some (.int rx)) g' := by
  rw [f_X8_splitWord_106] at h
  refine SF_iconst (0 : Int32) 107 dX8_splitWord_106 rfl rfl ?_
  exact w_X8_splitWord_107 hd k53 hk53 l0 l1 l2 l3 l5 (0 : Int32) g k_l0 h

set_option maxRecDepth 20000 in
set_option maxHeartbeats 2000000 in
theorem w_X8_splitWord_130 {X : CX} {d : Nat} (hd : 4 ≤ d) {g' : G} {rx : Int32} (k53 : Nat → Int32 → Int32 → Int32 → Int32 → Int32 → G → Option (Int32 × G)) (hk53 : ∀ (l0 : Nat) (l1 : Int32) (l2 : Int32) (l3 : Int32) (l4 : Int32) (l5 : Int32) (g : G), KD g l0 8 → k53 l0 l1 l2 l3 l4 l5 g = some (rx, g') → SemF X m_X8_splitWord d 53 [(0, .ref (ad X l0)), (1, .int l1), (2, .int l2), (3, .int l3), (4, .int l4), (5, .int l5)] [] g (some (.int rx)) g') (l0 : Nat) (l1 : Int32) (l2 : Int32) (l5 : Int32) (g : G) (k_l0 : KD g l0 8) (h : f_X8_splitWord_130 k53 l0 l1 l2 l5 g = some (rx, g')) : SemF X m_X8_splitWord d 130 [(0, .ref (ad X l0)), (1, .int l1), (2, .int l2), (5, .int l5)] [] g (some (.int rx)) g' := by
  rw [f_X8_splitWord_130] at h
  refine SF_iinc 2 (l2 + (1 : Int32)) [(2, .int (l2 + (1 : Int32))), (0, .ref (ad X l0)), (1, .int l1), (5, .int l5)] 133 dX8_splitWord_130 rfl rfl (by decide) rfl rfl ?_
  refine SF_iload_n 2 134 dX8_splitWord_133 rfl rfl rfl ?_
  refine SF_istore_n [(3, .int l1), (2, .int (l2 + (1 : Int32))), (0, .ref (ad X l0)), (1, .int l1), (5, .int l5)] 135 dX8_splitWord_134 rfl (by decide) rfl rfl ?_
  refine SF_iconst (1 : Int32) 136 dX8_splitWord_135 rfl rfl ?_
  refine SF_istore [(4, .int (1 : Int32)), (3, .int l1), (2, .int (l2 + (1 : Int32))), (0, .ref (ad X l0)), (1, .int l1), (5, .int l5)] 138 dX8_splitWord_136 (by decide) rfl rfl ?_
  refine SF_sub [3, 4, 2, 1, 0, 5] rfl ?_
  exact w_X8_splitWord_138 hd k53 hk53 l0 l1 (l2 + (1 : Int32)) l1 (1 : Int32) l5 g k_l0 h

set_option maxRecDepth 20000 in
set_option maxHeartbeats 2000000 in
theorem w_X8_splitWord_53 {X : CX} {d : Nat} (hd : 4 ≤ d) {g' : G} {rx : Int32} : ∀ (n : Nat) (l0 : Nat) (l1 : Int32) (l2 : Int32) (l3 : Int32) (l4 : Int32) (l5 : Int32) (g : G), KD g l0 8 → f_X8_splitWord_53 n l0 l1 l2 l3 l4 l5 g = some (rx, g') → SemF X m_X8_splitWord d 53 [(0, .ref (ad X l0)), (1, .int l1), (2, .int l2), (3, .int l3), (4, .int l4), (5, .int l5)] [] g (some (.int rx)) g' := by
  intro n
  induction n with
  | zero =>
    intro l0 l1 l2 l3 l4 l5 g k_l0 h
    rw [f_X8_splitWord_53] at h
    cases h
  | succ n ih =>
  intro l0 l1 l2 l3 l4 l5 g k_l0 h
  rw [f_X8_splitWord_53] at h
  refine SF_iload 5 55 dX8_splitWord_53 rfl rfl ?_
  refine SF_ldcS 2 57 dX8_splitWord_55 (fun U h9 => h9.2.2.2.2.1) rfl ?_
  obtain ⟨v1, g2, q3, h⟩ := bd_some h
  have s4 := w_J0_length_8abf5 (X := X) (Nat.le_refl 1) 2 g g2 v1 (by decide) q3
  refine SF_callT 60 (by decide) mi_J0_length_8abf5 ml_X8_118 dX8_splitWord_57 (Nat.le_trans (by decide) hd) s4 rfl rfl (Nat.le_of_ble_eq_true rfl) rfl ?_
  have k_l0 := k_l0.ext s4.1
  refine SF_icge 144 63 dX8_splitWord_60 rfl rfl (fun c5 => ?_) (fun c5 => ?_)
  · have h := ite_t c5 h
    refine SF_bipush (15 : Int32) 146 dX8_splitWord_144 rfl rfl ?_
    exact RT_i rfl dX8_splitWord_146 h
  · have h := ite_f c5 h
    refine SF_ldcS 2 65 dX8_splitWord_63 (fun U h9 => h9.2.2.2.2.1) rfl ?_
    refine SF_iload 5 67 dX8_splitWord_65 rfl rfl ?_
    obtain ⟨v6, g7, q8, h⟩ := bd_some h
    have s9 := w_J0_charAt_5068e (X := X) (Nat.le_refl 3) 2 l5 g2 g7 v6 (by decide) q8
    refine SF_callT 70 (by decide) mi_J0_charAt_5068e ml_X8_120 dX8_splitWord_67 (Nat.le_trans (by decide) hd) s9 rfl rfl (Nat.le_of_ble_eq_true rfl) rfl ?_
    have k_l0 := k_l0.ext s9.1
    refine SF_istore [(6, .int v6), (0, .ref (ad X l0)), (1, .int l1), (2, .int l2), (3, .int l3), (4, .int l4), (5, .int l5)] 72 dX8_splitWord_70 (by decide) rfl rfl ?_
    refine SF_iload 0 74 dX8_splitWord_72 rfl rfl ?_
    refine SF_bipush (32 : Int32) 76 dX8_splitWord_74 rfl rfl ?_
    refine SF_iceq 115 79 dX8_splitWord_76 rfl rfl (fun c10 => ?_) (fun c10 => ?_)
    · have h := ite_t c10 h
      refine SF_iload 5 117 dX8_splitWord_115 rfl rfl ?_
      refine SF_ifeq 130 120 dX8_splitWord_117 rfl rfl (fun c11 => ?_) (fun c11 => ?_)
      · have h := ite_t c11 h
        refine SF_sub [1, 2, 3, 6] rfl ?_
        exact w_X8_splitWord_130 hd (f_X8_splitWord_53 n) ih l0 l1 l2 l5 g7 k_l0 h
      · have h := ite_f c11 h
        refine SF_iload_n 4 121 dX8_splitWord_120 rfl rfl rfl ?_
        refine SF_aload_n 1 122 dX8_splitWord_121 rfl rfl rfl ?_
        refine SF_getI 125 fl_X8_79 dX8_splitWord_122 k_l0.1 rfl ?_
        refine SF_icne 130 128 dX8_splitWord_125 rfl rfl (fun c12 => ?_) (fun c12 => ?_)
        · have h := ite_f c12 h
          refine SF_sub [1, 2, 3, 6] rfl ?_
          exact w_X8_splitWord_130 hd (f_X8_splitWord_53 n) ih l0 l1 l2 l5 g7 k_l0 h
        · have h := ite_t c12 h
          refine SF_iload_n 3 129 dX8_splitWord_128 rfl rfl rfl ?_
          exact RT_i rfl dX8_splitWord_129 h
    · have h := ite_f c10 h
      refine SF_iload 5 81 dX8_splitWord_79 rfl rfl ?_
      refine SF_ifeq 106 84 dX8_splitWord_81 rfl rfl (fun c13 => ?_) (fun c13 => ?_)
      · have h := ite_t c13 h
        refine SF_sub [1, 2, 3, 4, 6] rfl ?_
        exact w_X8_splitWord_106 hd (f_X8_splitWord_53 n) ih l0 l1 l2 l3 l5 g7 k_l0 h
      · have h := ite_f c13 h
        refine SF_iload_n 4 85 dX8_splitWord_84 rfl rfl rfl ?_
        refine SF_aload_n 1 86 dX8_splitWord_85 rfl rfl rfl ?_
        refine SF_getI 89 fl_X8_79 dX8_splitWord_86 k_l0.1 rfl ?_
        refine SF_icge 106 92 dX8_splitWord_89 rfl rfl (fun c14 => ?_) (fun c14 => ?_)
        · have h := ite_t c14 h
          refine SF_sub [1, 2, 3, 4, 6] rfl ?_
          exact w_X8_splitWord_106 hd (f_X8_splitWord_53 n) ih l0 l1 l2 l3 l5 g7 k_l0 h
        · have h := ite_f c14 h
          refine SF_aload_n 1 93 dX8_splitWord_92 rfl rfl rfl ?_
          refine SF_iload_n 4 94 dX8_splitWord_93 rfl rfl rfl ?_
          obtain ⟨v15, g16, q17, h⟩ := bd_some h
          have s18 := w_X8_signAt (X := X) (Nat.le_refl 0) l0 l3 g7 g16 v15 k_l0 q17
          refine SF_callVi 97 mi_X8_signAt ml_X8_92 dX8_splitWord_94 (Nat.le_trans (by decide) hd) s18 k_l0.1 rfl rfl (Nat.le_of_ble_eq_true rfl) rfl ?_
          have k_l0 := k_l0.ext s18.1
          refine SF_iload 0 99 dX8_splitWord_97 rfl rfl ?_
          refine SF_icne 106 102 dX8_splitWord_99 rfl rfl (fun c19 => ?_) (fun c19 => ?_)
          · have h := ite_f c19 h
            refine SF_sub [1, 2, 3, 4, 6] rfl ?_
            exact w_X8_splitWord_106 hd (f_X8_splitWord_53 n) ih l0 l1 l2 l3 l5 g16 k_l0 h
          · have h := ite_t c19 h
            refine SF_iconst (1 : Int32) 103 dX8_splitWord_102 rfl rfl ?_
            refine SF_goto 107 dX8_splitWord_103 rfl ?_
            refine SF_sub [1, 2, 3, 4, 6] rfl ?_
            exact w_X8_splitWord_107 hd (f_X8_splitWord_53 n) ih l0 l1 l2 l3 l5 (1 : Int32) g16 k_l0 h

set_option maxRecDepth 20000 in
set_option maxHeartbeats 2000000 in
theorem w_X8_splitWord_43 {X : CX} {d : Nat} (hd : 4 ≤ d) {g' : G} {rx : Int32} (l0 : Nat) (l1 : Int32) (g : G) (k_l0 : KD g l0 8) (h : f_X8_splitWord_43 l0 l1 g = some (rx, g')) : SemF X m_X8_splitWord d 43 [(0, .ref (ad X l0)), (1, .int l1)] [] g (some (.int rx)) g' := by
  rw [f_X8_splitWord_43] at h
  refine SF_iconst (0 : Int32) 44 dX8_splitWord_43 rfl rfl ?_
  refine SF_istore_n [(2, .int (0 : Int32)), (0, .ref (ad X l0)), (1, .int l1)] 45 dX8_splitWord_44 rfl (by decide) rfl rfl ?_
  refine SF_iload_n 2 46 dX8_splitWord_45 rfl rfl rfl ?_
  refine SF_istore_n [(3, .int l1), (2, .int (0 : Int32)), (0, .ref (ad X l0)), (1, .int l1)] 47 dX8_splitWord_46 rfl (by decide) rfl rfl ?_
  refine SF_iconst (1 : Int32) 48 dX8_splitWord_47 rfl rfl ?_
  refine SF_istore [(4, .int (1 : Int32)), (3, .int l1), (2, .int (0 : Int32)), (0, .ref (ad X l0)), (1, .int l1)] 50 dX8_splitWord_48 (by decide) rfl rfl ?_
  refine SF_iconst (0 : Int32) 51 dX8_splitWord_50 rfl rfl ?_
  refine SF_istore [(5, .int (0 : Int32)), (4, .int (1 : Int32)), (3, .int l1), (2, .int (0 : Int32)), (0, .ref (ad X l0)), (1, .int l1)] 53 dX8_splitWord_51 (by decide) rfl rfl ?_
  refine SF_sub [4, 5, 3, 2, 1, 0] rfl ?_
  exact w_X8_splitWord_53 hd FU l0 l1 (0 : Int32) l1 (1 : Int32) (0 : Int32) g k_l0 h

set_option maxRecDepth 20000 in
set_option maxHeartbeats 2000000 in
theorem w_X8_splitWord_5 {X : CX} {d : Nat} (hd : 4 ≤ d) {g' : G} {rx : Int32} : ∀ (n : Nat) (l0 : Nat) (l1 : Int32) (g : G), KD g l0 8 → f_X8_splitWord_5 n l0 l1 g = some (rx, g') → SemF X m_X8_splitWord d 5 [(0, .ref (ad X l0)), (1, .int l1)] [] g (some (.int rx)) g' := by
  intro n
  induction n with
  | zero =>
    intro l0 l1 g k_l0 h
    rw [f_X8_splitWord_5] at h
    cases h
  | succ n ih =>
  intro l0 l1 g k_l0 h
  rw [f_X8_splitWord_5] at h
  refine SF_aload_n 0 6 dX8_splitWord_5 rfl rfl rfl ?_
  refine SF_getI 9 fl_X8_79 dX8_splitWord_6 k_l0.1 rfl ?_
  refine SF_aload_n 0 10 dX8_splitWord_9 rfl rfl rfl ?_
  refine SF_getI 13 fl_X8_54 dX8_splitWord_10 k_l0.1 rfl ?_
  refine SF_icge 43 16 dX8_splitWord_13 rfl rfl (fun c1 => ?_) (fun c1 => ?_)
  · have h := ite_t c1 h
    exact w_X8_splitWord_43 hd l0 l1 g k_l0 h
  · have h := ite_f c1 h
    refine SF_aload_n 0 17 dX8_splitWord_16 rfl rfl rfl ?_
    refine SF_aload_n 0 18 dX8_splitWord_17 rfl rfl rfl ?_
    refine SF_getI 21 fl_X8_79 dX8_splitWord_18 k_l0.1 rfl ?_
    obtain ⟨v2, g3, q4, h⟩ := bd_some h
    have s5 := w_X8_signAt (X := X) (Nat.le_refl 0) l0 (gI g l0 6) g g3 v2 k_l0 q4
    refine SF_callVi 24 mi_X8_signAt ml_X8_92 dX8_splitWord_21 (Nat.le_trans (by decide) hd) s5 k_l0.1 rfl rfl (Nat.le_of_ble_eq_true rfl) rfl ?_
    have k_l0 := k_l0.ext s5.1
    obtain ⟨v6, g7, q8, h⟩ := bd_some h
    have s9 := w_X8_isLetter (X := X) (Nat.le_refl 0) v2 g3 g7 v6 q8
    refine SF_callSb 27 mi_X8_isLetter ml_X8_95 dX8_splitWord_24 (Nat.le_trans (by decide) hd) s9 rfl rfl (Nat.le_of_ble_eq_true rfl) rfl ?_
    have k_l0 := k_l0.ext s9.1
    refine SF_ifeq 43 30 dX8_splitWord_27 rfl rfl (fun c10 => ?_) (fun c10 => ?_)
    · have h := ite_t c10 h
      exact w_X8_splitWord_43 hd l0 l1 g7 k_l0 h
    · have h := ite_f c10 h
      refine SF_aload_n 0 31 dX8_splitWord_30 rfl rfl rfl ?_
      refine SF_dup 32 dX8_splitWord_31 rfl rfl ?_
      refine SF_getI 35 fl_X8_79 dX8_splitWord_32 k_l0.1 rfl ?_
      refine SF_iconst (1 : Int32) 36 dX8_splitWord_35 rfl rfl ?_
      refine SF_iadd 37 dX8_splitWord_36 rfl ?_
      refine SF_putI 40 fl_X8_79 dX8_splitWord_37 k_l0.1 (fn_int _) (Or.inl rfl) rfl ?_
      obtain ⟨g11, e12, h⟩ := lg_some h
      rw [← e12]
      have k_l0 := KD.eq e12 k_l0
      refine SF_goto 5 dX8_splitWord_40 rfl ?_
      exact ih l0 l1 g11 k_l0 h

set_option maxRecDepth 20000 in
set_option maxHeartbeats 2000000 in
theorem w_X8_splitWord {X : CX} {d : Nat} (hd : 4 ≤ d) (l0 : Nat) (g g' : G) (rx : Int32) (k_l0 : KD g l0 8) (h : f_X8_splitWord l0 g = some (rx, g')) : Sem X m_X8_splitWord d [.ref (ad X l0)] g (some (.int rx)) g' := by
  refine Sem_of (lo := [(0, .ref (ad X l0))]) (by decide +kernel) rfl (Nat.le_of_ble_eq_true rfl) ?_
  rw [f_X8_splitWord] at h
  refine SF_aload_n 0 1 dX8_splitWord_0 rfl rfl rfl ?_
  refine SF_getI 4 fl_X8_79 dX8_splitWord_1 k_l0.1 rfl ?_
  obtain ⟨y1, e2, h⟩ := li_some h
  refine SF_eqI e2 ?_
  refine SF_istore_n [(1, .int y1), (0, .ref (ad X l0))] 5 dX8_splitWord_4 rfl (by decide) rfl rfl ?_
  refine SF_sub [1, 0] rfl ?_
  exact w_X8_splitWord_5 hd FU l0 y1 g k_l0 h

theorem dX8_isDigit_0 : decode cX8_isDigit 0 = .ok (.iload_n 0, 1) := by decide +kernel
theorem dX8_isDigit_1 : decode cX8_isDigit 1 = .ok (.bipush 48, 2) := by decide +kernel
theorem dX8_isDigit_3 : decode cX8_isDigit 3 = .ok (.if_icmp .lt 13, 3) := by decide +kernel
theorem dX8_isDigit_6 : decode cX8_isDigit 6 = .ok (.iload_n 0, 1) := by decide +kernel
theorem dX8_isDigit_7 : decode cX8_isDigit 7 = .ok (.bipush 57, 2) := by decide +kernel
theorem dX8_isDigit_9 : decode cX8_isDigit 9 = .ok (.if_icmp .gt 7, 3) := by decide +kernel
theorem dX8_isDigit_12 : decode cX8_isDigit 12 = .ok (.iconst 1, 1) := by decide +kernel
theorem dX8_isDigit_13 : decode cX8_isDigit 13 = .ok (.goto 4, 3) := by decide +kernel
theorem dX8_isDigit_16 : decode cX8_isDigit 16 = .ok (.iconst 0, 1) := by decide +kernel
theorem dX8_isDigit_17 : decode cX8_isDigit 17 = .ok (.ireturn, 1) := by decide +kernel
set_option maxRecDepth 20000 in
set_option maxHeartbeats 2000000 in
theorem w_X8_isDigit {X : CX} {d : Nat} (hd : 0 ≤ d) (l0 : Int32) (g g' : G) (rx : Bool) (h : f_X8_isDigit l0 g = some (rx, g')) : Sem X m_X8_isDigit d [.int l0] g (some (.int (b2i rx))) g' := by
  refine Sem_of (lo := [(0, .int l0)]) (by decide +kernel) rfl (Nat.le_of_ble_eq_true rfl) ?_
  rw [f_X8_isDigit] at h
  refine SF_iload_n 0 1 dX8_isDigit_0 rfl rfl rfl ?_
  refine SF_bipush (48 : Int32) 3 dX8_isDigit_1 rfl rfl ?_
  refine SF_iclt 16 6 dX8_isDigit_3 rfl rfl (fun c1 => ?_) (fun c1 => ?_)
  · have h := ite_t c1 h
    refine SF_iconst (0 : Int32) 17 dX8_isDigit_16 rfl rfl ?_
    exact RT_b rfl rfl dX8_isDigit_17 h
  · have h := ite_f c1 h
    refine SF_iload_n 0 7 dX8_isDigit_6 rfl rfl rfl ?_
    refine SF_bipush (57 : Int32) 9 dX8_isDigit_7 rfl rfl ?_
    refine SF_icgt 16 12 dX8_isDigit_9 rfl rfl (fun c2 => ?_) (fun c2 => ?_)
    · have h := ite_t c2 h
      refine SF_iconst (0 : Int32) 17 dX8_isDigit_16 rfl rfl ?_
      exact RT_b rfl rfl dX8_isDigit_17 h
    · have h := ite_f c2 h
      refine SF_iconst (1 : Int32) 13 dX8_isDigit_12 rfl rfl ?_
      refine SF_goto 17 dX8_isDigit_13 rfl ?_
      exact RT_b rfl rfl dX8_isDigit_17 h

theorem dX8_splitNumber_0 : decode cX8_splitNumber 0 = .ok (.iconst 0, 1) := by decide +kernel
theorem dX8_splitNumber_1 : decode cX8_splitNumber 1 = .ok (.istore_n 1, 1) := by decide +kernel
theorem dX8_splitNumber_2 : decode cX8_splitNumber 2 = .ok (.aload_n 0, 1) := by decide +kernel
theorem dX8_splitNumber_3 : decode cX8_splitNumber 3 = .ok (.getfield 79, 3) := by decide +kernel
theorem dX8_splitNumber_6 : decode cX8_splitNumber 6 = .ok (.aload_n 0, 1) := by decide +kernel
theorem dX8_splitNumber_7 : decode cX8_splitNumber 7 = .ok (.getfield 54, 3) := by decide +kernel
theorem dX8_splitNumber_10 : decode cX8_splitNumber 10 = .ok (.if_icmp .ge 51, 3) := by decide +kernel
theorem dX8_splitNumber_13 : decode cX8_splitNumber 13 = .ok (.aload_n 0, 1) := by decide +kernel
theorem dX8_splitNumber_14 : decode cX8_splitNumber 14 = .ok (.aload_n 0, 1) := by decide +kernel
theorem dX8_splitNumber_15 : decode cX8_splitNumber 15 = .ok (.getfield 79, 3) := by decide +kernel
theorem dX8_splitNumber_18 : decode cX8_splitNumber 18 = .ok (.invokevirtual 92, 3) := by decide +kernel
theorem dX8_splitNumber_21 : decode cX8_splitNumber 21 = .ok (.invokestatic 103, 3) := by decide +kernel
theorem dX8_splitNumber_24 : decode cX8_splitNumber 24 = .ok (.ifCond .eq 37, 3) := by decide +kernel
theorem dX8_splitNumber_27 : decode cX8_splitNumber 27 = .ok (.bipush 10, 2) := by decide +kernel
theorem dX8_splitNumber_29 : decode cX8_splitNumber 29 = .ok (.iload_n 1, 1) := by decide +kernel
theorem dX8_splitNumber_30 : decode cX8_splitNumber 30 = .ok (.imul, 1) := by decide +kernel
theorem dX8_splitNumber_31 : decode cX8_splitNumber 31 = .ok (.aload_n 0, 1) := by decide +kernel
theorem dX8_splitNumber_32 : decode cX8_splitNumber 32 = .ok (.aload_n 0, 1) := by decide +kernel
theorem dX8_splitNumber_33 : decode cX8_splitNumber 33 = .ok (.getfield 79, 3) := by decide +kernel
theorem dX8_splitNumber_36 : decode cX8_splitNumber 36 = .ok (.invokevirtual 92, 3) := by decide +kernel
theorem dX8_splitNumber_39 : decode cX8_splitNumber 39 = .ok (.iadd, 1) := by decide +kernel
theorem dX8_splitNumber_40 : decode cX8_splitNumber 40 = .ok (.bipush 48, 2) := by decide +kernel
theorem dX8_splitNumber_42 : decode cX8_splitNumber 42 = .ok (.isub, 1) := by decide +kernel
theorem dX8_splitNumber_43 : decode cX8_splitNumber 43 = .ok (.sipush 1000, 3) := by decide +kernel
theorem dX8_splitNumber_46 : decode cX8_splitNumber 46 = .ok (.irem, 1) := by decide +kernel
theorem dX8_splitNumber_47 : decode cX8_splitNumber 47 = .ok (.istore_n 1, 1) := by decide +kernel
theorem dX8_splitNumber_48 : decode cX8_splitNumber 48 = .ok (.aload_n 0, 1) := by decide +kernel
theorem dX8_splitNumber_49 : decode cX8_splitNumber 49 = .ok (.dup, 1) := by decide +kernel
theorem dX8_splitNumber_50 : decode cX8_splitNumber 50 = .ok (.getfield 79, 3) := by decide +kernel
theorem dX8_splitNumber_53 : decode cX8_splitNumber 53 = .ok (.iconst 1, 1) := by decide +kernel
theorem dX8_splitNumber_54 : decode cX8_splitNumber 54 = .ok (.iadd, 1) := by decide +kernel
theorem dX8_splitNumber_55 : decode cX8_splitNumber 55 = .ok (.putfield 79, 3) := by decide +kernel
theorem dX8_splitNumber_58 : decode cX8_splitNumber 58 = .ok (.goto (-56), 3) := by decide +kernel
theorem dX8_splitNumber_61 : decode cX8_splitNumber 61 = .ok (.iload_n 1, 1) := by decide +kernel
theorem dX8_splitNumber_62 : decode cX8_splitNumber 62 = .ok (.ireturn, 1) := by decide +kernel
set_option maxRecDepth 20000 in
set_option maxHeartbeats 2000000 in
theorem w_X8_splitNumber_2 {X : CX} {d : Nat} (hd : 1 ≤ d) {g' : G} {rx : Int32} : ∀ (n : Nat) (l0 : Nat) (l1 : Int32) (g : G), KD g l0 8 → f_X8_splitNumber_2 n l0 l1 g = some (rx, g') → SemF X m_X8_splitNumber d 2 [(0, .ref (ad X l0)), (1, .int l1)] [] g (some (.int rx)) g' := by
  intro n
  induction n with
  | zero =>
    intro l0 l1 g k_l0 h
    rw [f_X8_splitNumber_2] at h
    cases h
  | succ n ih =>
  intro l0 l1 g k_l0 h
  rw [f_X8_splitNumber_2] at h
  refine SF_aload_n 0 3 dX8_splitNumber_2 rfl rfl rfl ?_
  refine SF_getI 6 fl_X8_79 dX8_splitNumber_3 k_l0.1 rfl ?_
  refine SF_aload_n 0 7 dX8_splitNumber_6 rfl rfl rfl ?_
  refine SF_getI 10 fl_X8_54 dX8_splitNumber_7 k_l0.1 rfl ?_
  refine SF_icge 61 13 dX8_splitNumber_10 rfl rfl (fun c1 => ?_) (fun c1 => ?_)
  · have h := ite_t c1 h
    refine SF_iload_n 1 62 dX8_splitNumber_61 rfl rfl rfl ?_
    exact RT_i rfl dX8_splitNumber_62 h
  · have h := ite_f c1 h
    refine SF_aload_n 0 14 dX8_splitNumber_13 rfl rfl rfl ?_
    refine SF_aload_n 0 15 dX8_splitNumber_14 rfl rfl rfl ?_
    refine SF_getI 18 fl_X8_79 dX8_splitNumber_15 k_l0.1 rfl ?_
    obtain ⟨v2, g3, q4, h⟩ := bd_some h
    have s5 := w_X8_signAt (X := X) (Nat.le_refl 0) l0 (gI g l0 6) g g3 v2 k_l0 q4
    refine SF_callVi 21 mi_X8_signAt ml_X8_92 dX8_splitNumber_18 (Nat.le_trans (by decide) hd) s5 k_l0.1 rfl rfl (Nat.le_of_ble_eq_true rfl) rfl ?_
    have k_l0 := k_l0.ext s5.1
    obtain ⟨v6, g7, q8, h⟩ := bd_some h
    have s9 := w_X8_isDigit (X := X) (Nat.le_refl 0) v2 g3 g7 v6 q8
    refine SF_callSb 24 mi_X8_isDigit ml_X8_103 dX8_splitNumber_21 (Nat.le_trans (by decide) hd) s9 rfl rfl (Nat.le_of_ble_eq_true rfl) rfl ?_
    have k_l0 := k_l0.ext s9.1
    refine SF_ifeq 61 27 dX8_splitNumber_24 rfl rfl (fun c10 => ?_) (fun c10 => ?_)
    · have h := ite_t c10 h
      refine SF_iload_n 1 62 dX8_splitNumber_61 rfl rfl rfl ?_
      exact RT_i rfl dX8_splitNumber_62 h
    · have h := ite_f c10 h
      refine SF_bipush (10 : Int32) 29 dX8_splitNumber_27 rfl rfl ?_
      refine SF_iload_n 1 30 dX8_splitNumber_29 rfl rfl rfl ?_
      refine SF_imul 31 dX8_splitNumber_30 rfl ?_
      refine SF_aload_n 0 32 dX8_splitNumber_31 rfl rfl rfl ?_
      refine SF_aload_n 0 33 dX8_splitNumber_32 rfl rfl rfl ?_
      refine SF_getI 36 fl_X8_79 dX8_splitNumber_33 k_l0.1 rfl ?_
      obtain ⟨v11, g12, q13, h⟩ := bd_some h
      have s14 := w_X8_signAt (X := X) (Nat.le_refl 0) l0 (gI g7 l0 6) g7 g12 v11 k_l0 q13
      refine SF_callVi 39 mi_X8_signAt ml_X8_92 dX8_splitNumber_36 (Nat.le_trans (by decide) hd) s14 k_l0.1 rfl rfl (Nat.le_of_ble_eq_true rfl) rfl ?_
      have k_l0 := k_l0.ext s14.1
      refine SF_iadd 40 dX8_splitNumber_39 rfl ?_
      refine SF_bipush (48 : Int32) 42 dX8_splitNumber_40 rfl rfl ?_
      refine SF_isub 43 dX8_splitNumber_42 rfl ?_
      refine SF_sipush (1000 : Int32) 46 dX8_splitNumber_43 rfl rfl ?_
      refine SF_irem 47 dX8_splitNumber_46 (by decide) rfl ?_
      obtain ⟨y15, e16, h⟩ := li_some h
      refine SF_eqI e16 ?_
      refine SF_istore_n [(1, .int y15), (0, .ref (ad X l0))] 48 dX8_splitNumber_47 rfl (by decide) rfl rfl ?_
      refine SF_aload_n 1 49 dX8_splitNumber_48 rfl rfl rfl ?_
      refine SF_dup 50 dX8_splitNumber_49 rfl rfl ?_
      refine SF_getI 53 fl_X8_79 dX8_splitNumber_50 k_l0.1 rfl ?_
      refine SF_iconst (1 : Int32) 54 dX8_splitNumber_53 rfl rfl ?_
      refine SF_iadd 55 dX8_splitNumber_54 rfl ?_
      refine SF_putI 58 fl_X8_79 dX8_splitNumber_55 k_l0.1 (fn_int _) (Or.inl rfl) rfl ?_
      obtain ⟨g17, e18, h⟩ := lg_some h
      rw [← e18]
      have k_l0 := KD.eq e18 k_l0
      refine SF_goto 2 dX8_splitNumber_58 rfl ?_
      refine SF_sub [1, 0] rfl ?_
      exact ih l0 y15 g17 k_l0 h

set_option maxRecDepth 20000 in
set_option maxHeartbeats 2000000 in
theorem w_X8_splitNumber {X : CX} {d : Nat} (hd : 1 ≤ d) (l0 : Nat) (g g' : G) (rx : Int32) (k_l0 : KD g l0 8) (h : f_X8_splitNumber l0 g = some (rx, g')) : Sem X m_X8_splitNumber d [.ref (ad X l0)] g (some (.int rx)) g' := by
  refine Sem_of (lo := [(0, .ref (ad X l0))]) (by decide +kernel) rfl (Nat.le_of_ble_eq_true rfl) ?_
  rw [f_X8_splitNumber] at h
  refine SF_iconst (0 : Int32) 1 dX8_splitNumber_0 rfl rfl ?_
  refine SF_istore_n [(1, .int (0 : Int32)), (0, .ref (ad X l0))] 2 dX8_splitNumber_1 rfl (by decide) rfl rfl ?_
  refine SF_sub [1, 0] rfl ?_
  exact w_X8_splitNumber_2 hd FU l0 (0 : Int32) g k_l0 h

theorem dJ1_canEncode_9a6ad_0 : decode cJ1_canEncode_9a6ad 0 = .ok (.iload_n 0, 1) := by decide +kernel
theorem dJ1_canEncode_9a6ad_1 : decode cJ1_canEncode_9a6ad 1 = .ok (.ifCond .lt 14, 3) := by decide +kernel
theorem dJ1_canEncode_9a6ad_4 : decode cJ1_canEncode_9a6ad 4 = .ok (.iload_n 0, 1) := by decide +kernel
theorem dJ1_canEncode_9a6ad_5 : decode cJ1_canEncode_9a6ad 5 = .ok (.sipush 255, 3) := by decide +kernel
theorem dJ1_canEncode_9a6ad_8 : decode cJ1_canEncode_9a6ad 8 = .ok (.if_icmp .gt 7, 3) := by decide +kernel
theorem dJ1_canEncode_9a6ad_11 : decode cJ1_canEncode_9a6ad 11 = .ok (.iconst 1, 1) := by decide +kernel
theorem dJ1_canEncode_9a6ad_12 : decode cJ1_canEncode_9a6ad 12 = .ok (.goto 4, 3) := by decide +kernel
theorem dJ1_canEncode_9a6ad_15 : decode cJ1_canEncode_9a6ad 15 = .ok (.iconst 0, 1) := by decide +kernel
theorem dJ1_canEncode_9a6ad_16 : decode cJ1_canEncode_9a6ad 16 = .ok (.ireturn, 1) := by decide +kernel
set_option maxRecDepth 20000 in
set_option maxHeartbeats 2000000 in
theorem w_J1_canEncode_9a6ad {X : CX} {d : Nat} (hd : 0 ≤ d) (l0 : Int32) (g g' : G) (rx : Bool) (h : f_J1_canEncode_9a6ad l0 g = some (rx, g')) : Sem X m_J1_canEncode_9a6ad d [.int l0] g (some (.int (b2i rx))) g' := by
  refine Sem_ofF (lo := [(0, .int l0)]) (by decide +kernel) rfl (Nat.le_of_ble_eq_true rfl) ?_
  rw [f_J1_canEncode_9a6ad] at h
  refine SF_iload_n 0 1 dJ1_canEncode_9a6ad_0 rfl rfl rfl ?_
  refine SF_iflt 15 4 dJ1_canEncode_9a6ad_1 rfl rfl (fun c1 => ?_) (fun c1 => ?_)
  · have h := ite_t c1 h
    refine SF_iconst (0 : Int32) 16 dJ1_canEncode_9a6ad_15 rfl rfl ?_
    exact RT_b rfl rfl dJ1_canEncode_9a6ad_16 h
  · have h := ite_f c1 h
    refine SF_iload_n 0 5 dJ1_canEncode_9a6ad_4 rfl rfl rfl ?_
    refine SF_sipush (255 : Int32) 8 dJ1_canEncode_9a6ad_5 rfl rfl ?_
    refine SF_icgt 15 11 dJ1_canEncode_9a6ad_8 rfl rfl (fun c2 => ?_) (fun c2 => ?_)
    · have h := ite_t c2 h
      refine SF_iconst (0 : Int32) 16 dJ1_canEncode_9a6ad_15 rfl rfl ?_
      exact RT_b rfl rfl dJ1_canEncode_9a6ad_16 h
    · have h := ite_f c2 h
      refine SF_iconst (1 : Int32) 12 dJ1_canEncode_9a6ad_11 rfl rfl ?_
      refine SF_goto 16 dJ1_canEncode_9a6ad_12 rfl ?_
      exact RT_b rfl rfl dJ1_canEncode_9a6ad_16 h

theorem dJ1_indexOfChar_4cfef_0 : decode cJ1_indexOfChar_4cfef 0 = .ok (.iload_n 1, 1) := by decide +kernel
theorem dJ1_indexOfChar_4cfef_1 : decode cJ1_indexOfChar_4cfef 1 = .ok (.i2b, 1) := by decide +kernel
theorem dJ1_indexOfChar_4cfef_2 : decode cJ1_indexOfChar_4cfef 2 = .ok (.istore 4, 2) := by decide +kernel
theorem dJ1_indexOfChar_4cfef_4 : decode cJ1_indexOfChar_4cfef 4 = .ok (.iload_n 2, 1) := by decide +kernel
theorem dJ1_indexOfChar_4cfef_5 : decode cJ1_indexOfChar_4cfef 5 = .ok (.istore 5, 2) := by decide +kernel
theorem dJ1_indexOfChar_4cfef_7 : decode cJ1_indexOfChar_4cfef 7 = .ok (.iload 5, 2) := by decide +kernel
theorem dJ1_indexOfChar_4cfef_9 : decode cJ1_indexOfChar_4cfef 9 = .ok (.iload_n 3, 1) := by decide +kernel
theorem dJ1_indexOfChar_4cfef_10 : decode cJ1_indexOfChar_4cfef 10 = .ok (.if_icmp .ge 21, 3) := by decide +kernel
theorem dJ1_indexOfChar_4cfef_13 : decode cJ1_indexOfChar_4cfef 13 = .ok (.aload_n 0, 1) := by decide +kernel
theorem dJ1_indexOfChar_4cfef_14 : decode cJ1_indexOfChar_4cfef 14 = .ok (.iload 5, 2) := by decide +kernel
theorem dJ1_indexOfChar_4cfef_16 : decode cJ1_indexOfChar_4cfef 16 = .ok (.baload, 1) := by decide +kernel
theorem dJ1_indexOfChar_4cfef_17 : decode cJ1_indexOfChar_4cfef 17 = .ok (.iload 4, 2) := by decide +kernel
theorem dJ1_indexOfChar_4cfef_19 : decode cJ1_indexOfChar_4cfef 19 = .ok (.if_icmp .ne 6, 3) := by decide +kernel
theorem dJ1_indexOfChar_4cfef_22 : decode cJ1_indexOfChar_4cfef 22 = .ok (.iload 5, 2) := by decide +kernel
theorem dJ1_indexOfChar_4cfef_24 : decode cJ1_indexOfChar_4cfef 24 = .ok (.ireturn, 1) := by decide +kernel
theorem dJ1_indexOfChar_4cfef_25 : decode cJ1_indexOfChar_4cfef 25 = .ok (.iinc 5 1, 3) := by decide +kernel
theorem dJ1_indexOfChar_4cfef_28 : decode cJ1_indexOfChar_4cfef 28 = .ok (.goto (-21), 3) := by decide +kernel
theorem dJ1_indexOfChar_4cfef_31 : decode cJ1_indexOfChar_4cfef 31 = .ok (.iconst (-1), 1) := by decide +kernel
theorem dJ1_indexOfChar_4cfef_32 : decode cJ1_indexOfChar_4cfef 32 = .ok (.ireturn, 1) := by decide +kernel
set_option maxRecDepth 20000 in
set_option maxHeartbeats 2000000 in
theorem w_J1_indexOfChar_4cfef_7 {X : CX} {d : Nat} (hd : 0 ≤ d) {g' : G} {rx : Int32} : ∀ (n : Nat) (l0 : Nat) (l3 : Int32) (l4 : Int32) (l5 : Int32) (g : G), l0 < 3 → f_J1_indexOfChar_4cfef_7 n l0 l3 l4 l5 g = some (rx, g') → SemF X m_J1_indexOfChar_4cfef d 7 [(0, .ref (xVa X l0)), (3, .int l3), (4, .int l4), (5, .int l5)] [] g (some (.int rx)) g' := by
  intro n
  induction n with
  | zero =>
    intro l0 l3 l4 l5 g k_l0 h
    rw [f_J1_indexOfChar_4cfef_7] at h
    cases h
  | succ n ih =>
  intro l0 l3 l4 l5 g k_l0 h
  rw [f_J1_indexOfChar_4cfef_7] at h
  refine SF_iload 3 9 dJ1_indexOfChar_4cfef_7 rfl rfl ?_
  refine SF_iload_n 1 10 dJ1_indexOfChar_4cfef_9 rfl rfl rfl ?_
  refine SF_icge 31 13 dJ1_indexOfChar_4cfef_10 rfl rfl (fun c1 => ?_) (fun c1 => ?_)
  · have h := ite_t c1 h
    refine SF_iconst (-1 : Int32) 32 dJ1_indexOfChar_4cfef_31 rfl rfl ?_
    exact RT_i rfl dJ1_indexOfChar_4cfef_32 h
  · have h := ite_f c1 h
    refine SF_aload_n 0 14 dJ1_indexOfChar_4cfef_13 rfl rfl rfl ?_
    refine SF_iload 3 16 dJ1_indexOfChar_4cfef_14 rfl rfl ?_
    obtain ⟨i2, h⟩ := gdI_some h
    refine SF_tbald 17 k_l0 dJ1_indexOfChar_4cfef_16 i2 rfl ?_
    refine SF_iload 2 19 dJ1_indexOfChar_4cfef_17 rfl rfl ?_
    refine SF_icne 25 22 dJ1_indexOfChar_4cfef_19 rfl rfl (fun c3 => ?_) (fun c3 => ?_)
    · have h := ite_f c3 h
      refine SF_iinc 3 (l5 + (1 : Int32)) [(5, .int (l5 + (1 : Int32))), (0, .ref (xVa X l0)), (3, .int l3), (4, .int l4)] 28 dJ1_indexOfChar_4cfef_25 rfl rfl (by decide) rfl rfl ?_
      refine SF_goto 7 dJ1_indexOfChar_4cfef_28 rfl ?_
      refine SF_sub [1, 2, 3, 0] rfl ?_
      exact ih l0 l3 l4 (l5 + (1 : Int32)) g k_l0 h
    · have h := ite_t c3 h
      refine SF_iload 3 24 dJ1_indexOfChar_4cfef_22 rfl rfl ?_
      exact RT_i rfl dJ1_indexOfChar_4cfef_24 h

set_option maxRecDepth 20000 in
set_option maxHeartbeats 2000000 in
theorem w_J1_indexOfChar_4cfef {X : CX} {d : Nat} (hd : 0 ≤ d) (l0 : Nat) (l1 : Int32) (l2 : Int32) (l3 : Int32) (g g' : G) (rx : Int32) (k_l0 : l0 < 3) (h : f_J1_indexOfChar_4cfef l0 l1 l2 l3 g = some (rx, g')) : Sem X m_J1_indexOfChar_4cfef d [.ref (xVa X l0), .int l1, .int l2, .int l3] g (some (.int rx)) g' := by
  refine Sem_ofF (lo := [(0, .ref (xVa X l0)), (1, .int l1), (2, .int l2), (3, .int l3)]) (by decide +kernel) rfl (Nat.le_of_ble_eq_true rfl) ?_
  rw [f_J1_indexOfChar_4cfef] at h
  refine SF_iload_n 1 1 dJ1_indexOfChar_4cfef_0 rfl rfl rfl ?_
  refine SF_i2b 2 dJ1_indexOfChar_4cfef_1 rfl ?_
  obtain ⟨y1, e2, h⟩ := li_some h
  refine SF_eqI e2 ?_
  refine SF_istore [(4, .int y1), (0, .ref (xVa X l0)), (1, .int l1), (2, .int l2), (3, .int l3)] 4 dJ1_indexOfChar_4cfef_2 (by decide) rfl rfl ?_
  refine SF_iload_n 3 5 dJ1_indexOfChar_4cfef_4 rfl rfl rfl ?_
  refine SF_istore [(5, .int l2), (4, .int y1), (0, .ref (xVa X l0)), (1, .int l1), (2, .int l2), (3, .int l3)] 7 dJ1_indexOfChar_4cfef_5 (by decide) rfl rfl ?_
  refine SF_sub [2, 5, 1, 0] rfl ?_
  exact w_J1_indexOfChar_4cfef_7 hd FU l0 l3 y1 l2 g k_l0 h

theorem dJ1_indexOf_4cfef_0 : decode cJ1_indexOf_4cfef 0 = .ok (.iload_n 1, 1) := by decide +kernel
theorem dJ1_indexOf_4cfef_1 : decode cJ1_indexOf_4cfef 1 = .ok (.invokestatic 88, 3) := by decide +kernel
theorem dJ1_indexOf_4cfef_4 : decode cJ1_indexOf_4cfef 4 = .ok (.ifCond .ne 5, 3) := by decide +kernel
theorem dJ1_indexOf_4cfef_7 : decode cJ1_indexOf_4cfef 7 = .ok (.iconst (-1), 1) := by decide +kernel
theorem dJ1_indexOf_4cfef_8 : decode cJ1_indexOf_4cfef 8 = .ok (.ireturn, 1) := by decide +kernel
theorem dJ1_indexOf_4cfef_9 : decode cJ1_indexOf_4cfef 9 = .ok (.iload_n 2, 1) := by decide +kernel
theorem dJ1_indexOf_4cfef_10 : decode cJ1_indexOf_4cfef 10 = .ok (.iconst 0, 1) := by decide +kernel
theorem dJ1_indexOf_4cfef_11 : decode cJ1_indexOf_4cfef 11 = .ok (.invokestatic 92, 3) := by decide +kernel
theorem dJ1_indexOf_4cfef_14 : decode cJ1_indexOf_4cfef 14 = .ok (.istore_n 2, 1) := by decide +kernel
theorem dJ1_indexOf_4cfef_15 : decode cJ1_indexOf_4cfef 15 = .ok (.iload_n 3, 1) := by decide +kernel
theorem dJ1_indexOf_4cfef_16 : decode cJ1_indexOf_4cfef 16 = .ok (.aload_n 0, 1) := by decide +kernel
theorem dJ1_indexOf_4cfef_17 : decode cJ1_indexOf_4cfef 17 = .ok (.arraylength, 1) := by decide +kernel
theorem dJ1_indexOf_4cfef_18 : decode cJ1_indexOf_4cfef 18 = .ok (.invokestatic 38, 3) := by decide +kernel
theorem dJ1_indexOf_4cfef_21 : decode cJ1_indexOf_4cfef 21 = .ok (.istore_n 3, 1) := by decide +kernel
theorem dJ1_indexOf_4cfef_22 : decode cJ1_indexOf_4cfef 22 = .ok (.iload_n 2, 1) := by decide +kernel
theorem dJ1_indexOf_4cfef_23 : decode cJ1_indexOf_4cfef 23 = .ok (.iload_n 3, 1) := by decide +kernel
theorem dJ1_indexOf_4cfef_24 : decode cJ1_indexOf_4cfef 24 = .ok (.if_icmp .lt 5, 3) := by decide +kernel
theorem dJ1_indexOf_4cfef_27 : decode cJ1_indexOf_4cfef 27 = .ok (.iconst (-1), 1) := by decide +kernel
theorem dJ1_indexOf_4cfef_28 : decode cJ1_indexOf_4cfef 28 = .ok (.ireturn, 1) := by decide +kernel
theorem dJ1_indexOf_4cfef_29 : decode cJ1_indexOf_4cfef 29 = .ok (.aload_n 0, 1) := by decide +kernel
theorem dJ1_indexOf_4cfef_30 : decode cJ1_indexOf_4cfef 30 = .ok (.iload_n 1, 1) := by decide +kernel
theorem dJ1_indexOf_4cfef_31 : decode cJ1_indexOf_4cfef 31 = .ok (.iload_n 2, 1) := by decide +kernel
theorem dJ1_indexOf_4cfef_32 : decode cJ1_indexOf_4cfef 32 = .ok (.iload_n 3, 1) := by decide +kernel
theorem dJ1_indexOf_4cfef_33 : decode cJ1_indexOf_4cfef 33 = .ok (.invokestatic 95, 3) := by decide +kernel
theorem dJ1_indexOf_4cfef_36 : decode cJ1_indexOf_4cfef 36 = .ok (.ireturn, 1) := by decide +kernel
set_option maxRecDepth 20000 in
set_option maxHeartbeats 2000000 in
theorem w_J1_indexOf_4cfef {X : CX} {d : Nat} (hd : 1 ≤ d) (l0 : Nat) (l1 : Int32) (l2 : Int32) (l3 : Int32) (g g' : G) (rx : Int32) (k_l0 : l0 < 3) (h : f_J1_indexOf_4cfef l0 l1 l2 l3 g = some (rx, g')) : Sem X m_J1_indexOf_4cfef d [.ref (xVa X l0), .int l1, .int l2, .int l3] g (some (.int rx)) g' := by
  refine Sem_ofF (lo := [(0, .ref (xVa X l0)), (1, .int l1), (2, .int l2), (3, .int l3)]) (by decide +kernel) rfl (Nat.le_of_ble_eq_true rfl) ?_
  rw [f_J1_indexOf_4cfef] at h
  refine SF_iload_n 1 1 dJ1_indexOf_4cfef_0 rfl rfl rfl ?_
  obtain ⟨v1, g2, q3, h⟩ := bd_some h
  have s4 := w_J1_canEncode_9a6ad (X := X) (Nat.le_refl 0) l1 g g2 v1 q3
  refine SF_callSb 4 mi_J1_canEncode_9a6ad ml_J1_88 dJ1_indexOf_4cfef_1 (Nat.le_trans (by decide) hd) s4 rfl rfl (Nat.le_of_ble_eq_true rfl) rfl ?_
  refine SF_ifne 9 7 dJ1_indexOf_4cfef_4 rfl rfl (fun c5 => ?_) (fun c5 => ?_)
  · have h := ite_f c5 h
    refine SF_iload_n 2 10 dJ1_indexOf_4cfef_9 rfl rfl rfl ?_
    refine SF_iconst (0 : Int32) 11 dJ1_indexOf_4cfef_10 rfl rfl ?_
    obtain ⟨v6, g7, q8, h⟩ := bd_some h
    have s9 := w_J9_max_7cf53 (X := X) (Nat.le_refl 0) l2 (0 : Int32) g2 g7 v6 q8
    refine SF_callSi 14 mi_J9_max_7cf53 ml_J1_92 dJ1_indexOf_4cfef_11 (Nat.le_trans (by decide) hd) s9 rfl rfl (Nat.le_of_ble_eq_true rfl) rfl ?_
    refine SF_istore_n [(2, .int v6), (0, .ref (xVa X l0)), (1, .int l1), (3, .int l3)] 15 dJ1_indexOf_4cfef_14 rfl (by decide) rfl rfl ?_
    refine SF_iload_n 3 16 dJ1_indexOf_4cfef_15 rfl rfl rfl ?_
    refine SF_aload_n 1 17 dJ1_indexOf_4cfef_16 rfl rfl rfl ?_
    refine SF_talen 18 k_l0 dJ1_indexOf_4cfef_17 rfl ?_
    obtain ⟨v10, g11, q12, h⟩ := bd_some h
    have s13 := w_J9_min_7cf53 (X := X) (Nat.le_refl 0) l3 (nI (jlen l0)) g7 g11 v10 q12
    refine SF_callSi 21 mi_J9_min_7cf53 ml_J1_38 dJ1_indexOf_4cfef_18 (Nat.le_trans (by decide) hd) s13 rfl rfl (Nat.le_of_ble_eq_true rfl) rfl ?_
    refine SF_istore_n [(3, .int v10), (2, .int v6), (0, .ref (xVa X l0)), (1, .int l1)] 22 dJ1_indexOf_4cfef_21 rfl (by decide) rfl rfl ?_
    refine SF_iload_n 1 23 dJ1_indexOf_4cfef_22 rfl rfl rfl ?_
    refine SF_iload_n 0 24 dJ1_indexOf_4cfef_23 rfl rfl rfl ?_
    refine SF_iclt 29 27 dJ1_indexOf_4cfef_24 rfl rfl (fun c14 => ?_) (fun c14 => ?_)
    · have h := ite_t c14 h
      refine SF_aload_n 2 30 dJ1_indexOf_4cfef_29 rfl rfl rfl ?_
      refine SF_iload_n 3 31 dJ1_indexOf_4cfef_30 rfl rfl rfl ?_
      refine SF_iload_n 1 32 dJ1_indexOf_4cfef_31 rfl rfl rfl ?_
      refine SF_iload_n 0 33 dJ1_indexOf_4cfef_32 rfl rfl rfl ?_
      obtain ⟨v15, g16, q17, h⟩ := bd_some h
      have s18 := w_J1_indexOfChar_4cfef (X := X) (Nat.le_refl 0) l0 l1 v6 v10 g11 g16 v15 k_l0 q17
      refine SF_callSi 36 mi_J1_indexOfChar_4cfef ml_J1_95 dJ1_indexOf_4cfef_33 (Nat.le_trans (by decide) hd) s18 rfl rfl (Nat.le_of_ble_eq_true rfl) rfl ?_
      exact RT_i rfl dJ1_indexOf_4cfef_36 h
    · have h := ite_f c14 h
      refine SF_iconst (-1 : Int32) 28 dJ1_indexOf_4cfef_27 rfl rfl ?_
      exact RT_i rfl dJ1_indexOf_4cfef_28 h
  · have h := ite_t c5 h
    refine SF_iconst (-1 : Int32) 8 dJ1_indexOf_4cfef_7 rfl rfl ?_
    exact RT_i rfl dJ1_indexOf_4cfef_8 h

theorem dJ0_indexOf_7cf53_0 : decode cJ0_indexOf_7cf53 0 = .ok (.aload_n 0, 1) := by decide +kernel
theorem dJ0_indexOf_7cf53_1 : decode cJ0_indexOf_7cf53 1 = .ok (.invokevirtual 492, 3) := by decide +kernel
theorem dJ0_indexOf_7cf53_4 : decode cJ0_indexOf_7cf53 4 = .ok (.ifCond .eq 19, 3) := by decide +kernel
theorem dJ0_indexOf_7cf53_7 : decode cJ0_indexOf_7cf53 7 = .ok (.aload_n 0, 1) := by decide +kernel
theorem dJ0_indexOf_7cf53_8 : decode cJ0_indexOf_7cf53 8 = .ok (.getfield 9, 3) := by decide +kernel
theorem dJ0_indexOf_7cf53_11 : decode cJ0_indexOf_7cf53 11 = .ok (.iload_n 1, 1) := by decide +kernel
theorem dJ0_indexOf_7cf53_12 : decode cJ0_indexOf_7cf53 12 = .ok (.iload_n 2, 1) := by decide +kernel
theorem dJ0_indexOf_7cf53_13 : decode cJ0_indexOf_7cf53 13 = .ok (.aload_n 0, 1) := by decide +kernel
theorem dJ0_indexOf_7cf53_14 : decode cJ0_indexOf_7cf53 14 = .ok (.invokevirtual 505, 3) := by decide +kernel
theorem dJ0_indexOf_7cf53_17 : decode cJ0_indexOf_7cf53 17 = .ok (.invokestatic 637, 3) := by decide +kernel
theorem dJ0_indexOf_7cf53_20 : decode cJ0_indexOf_7cf53 20 = .ok (.goto 16, 3) := by decide +kernel
theorem dJ0_indexOf_7cf53_36 : decode cJ0_indexOf_7cf53 36 = .ok (.ireturn, 1) := by decide +kernel
set_option maxRecDepth 20000 in
set_option maxHeartbeats 2000000 in
theorem w_J0_indexOf_7cf53 {X : CX} {d : Nat} (hd : 2 ≤ d) (l0 : Nat) (l1 : Int32) (l2 : Int32) (g g' : G) (rx : Int32) (k_l0 : l0 < 3) (h : f_J0_indexOf_7cf53 l0 l1 l2 g = some (rx, g')) : Sem X m_J0_indexOf_7cf53 d [.ref (xKa X l0), .int l1, .int l2] g (some (.int rx)) g' := by
  refine Sem_ofF (lo := [(0, .ref (xKa X l0)), (1, .int l1), (2, .int l2)]) (by decide +kernel) rfl (Nat.le_of_ble_eq_true rfl) ?_
  rw [f_J0_indexOf_7cf53] at h
  refine SF_aload_n 0 1 dJ0_indexOf_7cf53_0 rfl rfl rfl ?_
  obtain ⟨v1, g2, q3, h⟩ := bd_some h
  have s4 := w_J0_isLatin1_aae02 (X := X) (Nat.le_refl 0) l0 g g2 v1 k_l0 q3
  refine SF_callT 4 k_l0 mi_J0_isLatin1_aae02 ml_J0_492 dJ0_indexOf_7cf53_1 (Nat.le_trans (by decide) hd) s4 rfl rfl (Nat.le_of_ble_eq_true rfl) rfl ?_
  refine SF_ifeq 23 7 dJ0_indexOf_7cf53_4 rfl rfl (fun c5 => ?_) (fun c5 => ?_)
  · have h := ite_t c5 h
    cases h
  · have h := ite_f c5 h
    refine SF_aload_n 0 8 dJ0_indexOf_7cf53_7 rfl rfl rfl ?_
    refine SF_getSV 11 k_l0 fs_J0_9 dJ0_indexOf_7cf53_8 rfl ?_
    refine SF_iload_n 1 12 dJ0_indexOf_7cf53_11 rfl rfl rfl ?_
    refine SF_iload_n 2 13 dJ0_indexOf_7cf53_12 rfl rfl rfl ?_
    refine SF_aload_n 0 14 dJ0_indexOf_7cf53_13 rfl rfl rfl ?_
    obtain ⟨v6, g7, q8, h⟩ := bd_some h
    have s9 := w_J0_length_8abf5 (X := X) (Nat.le_refl 1) l0 g2 g7 v6 k_l0 q8
    refine SF_callT 17 k_l0 mi_J0_length_8abf5 ml_J0_505 dJ0_indexOf_7cf53_14 (Nat.le_trans (by decide) hd) s9 rfl rfl (Nat.le_of_ble_eq_true rfl) rfl ?_
    obtain ⟨v10, g11, q12, h⟩ := bd_some h
    have s13 := w_J1_indexOf_4cfef (X := X) (Nat.le_refl 1) l0 l1 l2 v6 g7 g11 v10 k_l0 q12
    refine SF_callSi 20 mi_J1_indexOf_4cfef ml_J0_637 dJ0_indexOf_7cf53_17 (Nat.le_trans (by decide) hd) s13 rfl rfl (Nat.le_of_ble_eq_true rfl) rfl ?_
    refine SF_goto 36 dJ0_indexOf_7cf53_20 rfl ?_
    exact RT_i rfl dJ0_indexOf_7cf53_36 h

theorem dJ0_indexOf_0f7a4_0 : decode cJ0_indexOf_0f7a4 0 = .ok (.aload_n 0, 1) := by decide +kernel
theorem dJ0_indexOf_0f7a4_1 : decode cJ0_indexOf_0f7a4 1 = .ok (.iload_n 1, 1) := by decide +kernel
theorem dJ0_indexOf_0f7a4_2 : decode cJ0_indexOf_0f7a4 2 = .ok (.iconst 0, 1) := by decide +kernel
theorem dJ0_indexOf_0f7a4_3 : decode cJ0_indexOf_0f7a4 3 = .ok (.invokevirtual 633, 3) := by decide +kernel
theorem dJ0_indexOf_0f7a4_6 : decode cJ0_indexOf_0f7a4 6 = .ok (.ireturn, 1) := by decide +kernel
set_option maxRecDepth 20000 in
set_option maxHeartbeats 2000000 in
theorem w_J0_indexOf_0f7a4 {X : CX} {d : Nat} (hd : 3 ≤ d) (l0 : Nat) (l1 : Int32) (g g' : G) (rx : Int32) (k_l0 : l0 < 3) (h : f_J0_indexOf_0f7a4 l0 l1 g = some (rx, g')) : Sem X m_J0_indexOf_0f7a4 d [.ref (xKa X l0), .int l1] g (some (.int rx)) g' := by
  refine Sem_ofF (lo := [(0, .ref (xKa X l0)), (1, .int l1)]) (by decide +kernel) rfl (Nat.le_of_ble_eq_true rfl) ?_
  rw [f_J0_indexOf_0f7a4] at h
  refine SF_aload_n 0 1 dJ0_indexOf_0f7a4_0 rfl rfl rfl ?_
  refine SF_iload_n 1 2 dJ0_indexOf_0f7a4_1 rfl rfl rfl ?_
  refine SF_iconst (0 : Int32) 3 dJ0_indexOf_0f7a4_2 rfl rfl ?_
  obtain ⟨v1, g2, q3, h⟩ := bd_some h
  have s4 := w_J0_indexOf_7cf53 (X := X) (Nat.le_refl 2) l0 l1 (0 : Int32) g g2 v1 k_l0 q3
  refine SF_callT 6 k_l0 mi_J0_indexOf_7cf53 ml_J0_633 dJ0_indexOf_0f7a4_3 (Nat.le_trans (by decide) hd) s4 rfl rfl (Nat.le_of_ble_eq_true rfl) rfl ?_
  exact RT_i rfl dJ0_indexOf_0f7a4_6 h

theorem dX8_splitToken_0 : decode cX8_splitToken 0 = .ok (.aload_n 0, 1) := by decide +kernel
theorem dX8_splitToken_1 : decode cX8_splitToken 1 = .ok (.aload_n 0, 1) := by decide +kernel
theorem dX8_splitToken_2 : decode cX8_splitToken 2 = .ok (.getfield 79, 3) := by decide +kernel
theorem dX8_splitToken_5 : decode cX8_splitToken 5 = .ok (.invokevirtual 92, 3) := by decide +kernel
theorem dX8_splitToken_8 : decode cX8_splitToken 8 = .ok (.istore_n 2, 1) := by decide +kernel
theorem dX8_splitToken_9 : decode cX8_splitToken 9 = .ok (.aload_n 0, 1) := by decide +kernel
theorem dX8_splitToken_10 : decode cX8_splitToken 10 = .ok (.getfield 79, 3) := by decide +kernel
theorem dX8_splitToken_13 : decode cX8_splitToken 13 = .ok (.aload_n 0, 1) := by decide +kernel
theorem dX8_splitToken_14 : decode cX8_splitToken 14 = .ok (.getfield 54, 3) := by decide +kernel
theorem dX8_splitToken_17 : decode cX8_splitToken 17 = .ok (.if_icmp .lt 5, 3) := by decide +kernel
theorem dX8_splitToken_20 : decode cX8_splitToken 20 = .ok (.iconst 0, 1) := by decide +kernel
theorem dX8_splitToken_21 : decode cX8_splitToken 21 = .ok (.ireturn, 1) := by decide +kernel
theorem dX8_splitToken_22 : decode cX8_splitToken 22 = .ok (.iload_n 2, 1) := by decide +kernel
theorem dX8_splitToken_23 : decode cX8_splitToken 23 = .ok (.invokestatic 95, 3) := by decide +kernel
theorem dX8_splitToken_26 : decode cX8_splitToken 26 = .ok (.ifCond .eq 15, 3) := by decide +kernel
theorem dX8_splitToken_29 : decode cX8_splitToken 29 = .ok (.aload_n 0, 1) := by decide +kernel
theorem dX8_splitToken_30 : decode cX8_splitToken 30 = .ok (.getfield 26, 3) := by decide +kernel
theorem dX8_splitToken_33 : decode cX8_splitToken 33 = .ok (.iload_n 1, 1) := by decide +kernel
theorem dX8_splitToken_34 : decode cX8_splitToken 34 = .ok (.aload_n 0, 1) := by decide +kernel
theorem dX8_splitToken_35 : decode cX8_splitToken 35 = .ok (.invokevirtual 99, 3) := by decide +kernel
theorem dX8_splitToken_38 : decode cX8_splitToken 38 = .ok (.iastore, 1) := by decide +kernel
theorem dX8_splitToken_39 : decode cX8_splitToken 39 = .ok (.iconst 2, 1) := by decide +kernel
theorem dX8_splitToken_40 : decode cX8_splitToken 40 = .ok (.ireturn, 1) := by decide +kernel
theorem dX8_splitToken_41 : decode cX8_splitToken 41 = .ok (.iload_n 2, 1) := by decide +kernel
theorem dX8_splitToken_42 : decode cX8_splitToken 42 = .ok (.invokestatic 103, 3) := by decide +kernel
theorem dX8_splitToken_45 : decode cX8_splitToken 45 = .ok (.ifCond .eq 34, 3) := by decide +kernel
theorem dX8_splitToken_48 : decode cX8_splitToken 48 = .ok (.aload_n 0, 1) := by decide +kernel
theorem dX8_splitToken_49 : decode cX8_splitToken 49 = .ok (.getfield 79, 3) := by decide +kernel
theorem dX8_splitToken_52 : decode cX8_splitToken 52 = .ok (.istore_n 3, 1) := by decide +kernel
theorem dX8_splitToken_53 : decode cX8_splitToken 53 = .ok (.aload_n 0, 1) := by decide +kernel
theorem dX8_splitToken_54 : decode cX8_splitToken 54 = .ok (.getfield 26, 3) := by decide +kernel
theorem dX8_splitToken_57 : decode cX8_splitToken 57 = .ok (.iload_n 1, 1) := by decide +kernel
theorem dX8_splitToken_58 : decode cX8_splitToken 58 = .ok (.aload_n 0, 1) := by decide +kernel
theorem dX8_splitToken_59 : decode cX8_splitToken 59 = .ok (.invokevirtual 106, 3) := by decide +kernel
theorem dX8_splitToken_62 : decode cX8_splitToken 62 = .ok (.iastore, 1) := by decide +kernel
theorem dX8_splitToken_63 : decode cX8_splitToken 63 = .ok (.aload_n 0, 1) := by decide +kernel
theorem dX8_splitToken_64 : decode cX8_splitToken 64 = .ok (.getfield 79, 3) := by decide +kernel
theorem dX8_splitToken_67 : decode cX8_splitToken 67 = .ok (.iload_n 3, 1) := by decide +kernel
theorem dX8_splitToken_68 : decode cX8_splitToken 68 = .ok (.iconst 3, 1) := by decide +kernel
theorem dX8_splitToken_69 : decode cX8_splitToken 69 = .ok (.iadd, 1) := by decide +kernel
theorem dX8_splitToken_70 : decode cX8_splitToken 70 = .ok (.if_icmp .le 7, 3) := by decide +kernel
theorem dX8_splitToken_73 : decode cX8_splitToken 73 = .ok (.iconst 1, 1) := by decide +kernel
theorem dX8_splitToken_74 : decode cX8_splitToken 74 = .ok (.goto 4, 3) := by decide +kernel
theorem dX8_splitToken_77 : decode cX8_splitToken 77 = .ok (.iconst 3, 1) := by decide +kernel
theorem dX8_splitToken_78 : decode cX8_splitToken 78 = .ok (.ireturn, 1) := by decide +kernel
theorem dX8_splitToken_79 : decode cX8_splitToken 79 = .ok (.aload_n 0, 1) := by decide +kernel
theorem dX8_splitToken_80 : decode cX8_splitToken 80 = .ok (.dup, 1) := by decide +kernel
theorem dX8_splitToken_81 : decode cX8_splitToken 81 = .ok (.getfield 79, 3) := by decide +kernel
theorem dX8_splitToken_84 : decode cX8_splitToken 84 = .ok (.iconst 1, 1) := by decide +kernel
theorem dX8_splitToken_85 : decode cX8_splitToken 85 = .ok (.iadd, 1) := by decide +kernel
theorem dX8_splitToken_86 : decode cX8_splitToken 86 = .ok (.putfield 79, 3) := by decide +kernel
theorem dX8_splitToken_89 : decode cX8_splitToken 89 = .ok (.iload_n 2, 1) := by decide +kernel
theorem dX8_splitToken_90 : decode cX8_splitToken 90 = .ok (.ifCond .le 17, 3) := by decide +kernel
theorem dX8_splitToken_93 : decode cX8_splitToken 93 = .ok (.ldc 109, 2) := by decide +kernel
theorem dX8_splitToken_95 : decode cX8_splitToken 95 = .ok (.iload_n 2, 1) := by decide +kernel
theorem dX8_splitToken_96 : decode cX8_splitToken 96 = .ok (.i2c, 1) := by decide +kernel
theorem dX8_splitToken_97 : decode cX8_splitToken 97 = .ok (.invokevirtual 111, 3) := by decide +kernel
theorem dX8_splitToken_100 : decode cX8_splitToken 100 = .ok (.ifCond .lt 7, 3) := by decide +kernel
theorem dX8_splitToken_103 : decode cX8_splitToken 103 = .ok (.iload_n 2, 1) := by decide +kernel
theorem dX8_splitToken_104 : decode cX8_splitToken 104 = .ok (.goto 4, 3) := by decide +kernel
theorem dX8_splitToken_107 : decode cX8_splitToken 107 = .ok (.iconst 1, 1) := by decide +kernel
theorem dX8_splitToken_108 : decode cX8_splitToken 108 = .ok (.ireturn, 1) := by decide +kernel
set_option maxRecDepth 20000 in
set_option maxHeartbeats 2000000 in
theorem w_X8_splitToken {X : CX} {d : Nat} (hd : 5 ≤ d) (l0 : Nat) (l1 : Int32) (g g' : G) (rx : Int32) (k_l0 : KD g l0 8) (h : f_X8_splitToken l0 l1 g = some (rx, g')) : Sem X m_X8_splitToken d [.ref (ad X l0), .int l1] g (some (.int rx)) g' := by
  refine Sem_of (lo := [(0, .ref (ad X l0)), (1, .int l1)]) (by decide +kernel) rfl (Nat.le_of_ble_eq_true rfl) ?_
  rw [f_X8_splitToken] at h
  refine SF_aload_n 0 1 dX8_splitToken_0 rfl rfl rfl ?_
  refine SF_aload_n 0 2 dX8_splitToken_1 rfl rfl rfl ?_
  refine SF_getI 5 fl_X8_79 dX8_splitToken_2 k_l0.1 rfl ?_
  obtain ⟨v1, g2, q3, h⟩ := bd_some h
  have s4 := w_X8_signAt (X := X) (Nat.le_refl 0) l0 (gI g l0 6) g g2 v1 k_l0 q3
  refine SF_callVi 8 mi_X8_signAt ml_X8_92 dX8_splitToken_5 (Nat.le_trans (by decide) hd) s4 k_l0.1 rfl rfl (Nat.le_of_ble_eq_true rfl) rfl ?_
  have k_l0 := k_l0.ext s4.1
  refine SF_istore_n [(2, .int v1), (0, .ref (ad X l0)), (1, .int l1)] 9 dX8_splitToken_8 rfl (by decide) rfl rfl ?_
  refine SF_aload_n 1 10 dX8_splitToken_9 rfl rfl rfl ?_
  refine SF_getI 13 fl_X8_79 dX8_splitToken_10 k_l0.1 rfl ?_
  refine SF_aload_n 1 14 dX8_splitToken_13 rfl rfl rfl ?_
  refine SF_getI 17 fl_X8_54 dX8_splitToken_14 k_l0.1 rfl ?_
  refine SF_iclt 22 20 dX8_splitToken_17 rfl rfl (fun c5 => ?_) (fun c5 => ?_)
  · have h := ite_t c5 h
    refine SF_iload_n 0 23 dX8_splitToken_22 rfl rfl rfl ?_
    obtain ⟨v6, g7, q8, h⟩ := bd_some h
    have s9 := w_X8_isLetter (X := X) (Nat.le_refl 0) v1 g2 g7 v6 q8
    refine SF_callSb 26 mi_X8_isLetter ml_X8_95 dX8_splitToken_23 (Nat.le_trans (by decide) hd) s9 rfl rfl (Nat.le_of_ble_eq_true rfl) rfl ?_
    have k_l0 := k_l0.ext s9.1
    refine SF_ifeq 41 29 dX8_splitToken_26 rfl rfl (fun c10 => ?_) (fun c10 => ?_)
    · have h := ite_t c10 h
      refine SF_iload_n 0 42 dX8_splitToken_41 rfl rfl rfl ?_
      obtain ⟨v11, g12, q13, h⟩ := bd_some h
      have s14 := w_X8_isDigit (X := X) (Nat.le_refl 0) v1 g7 g12 v11 q13
      refine SF_callSb 45 mi_X8_isDigit ml_X8_103 dX8_splitToken_42 (Nat.le_trans (by decide) hd) s14 rfl rfl (Nat.le_of_ble_eq_true rfl) rfl ?_
      have k_l0 := k_l0.ext s14.1
      refine SF_ifeq 79 48 dX8_splitToken_45 rfl rfl (fun c15 => ?_) (fun c15 => ?_)
      · have h := ite_t c15 h
        refine SF_aload_n 1 80 dX8_splitToken_79 rfl rfl rfl ?_
        refine SF_dup 81 dX8_splitToken_80 rfl rfl ?_
        refine SF_getI 84 fl_X8_79 dX8_splitToken_81 k_l0.1 rfl ?_
        refine SF_iconst (1 : Int32) 85 dX8_splitToken_84 rfl rfl ?_
        refine SF_iadd 86 dX8_splitToken_85 rfl ?_
        refine SF_putI 89 fl_X8_79 dX8_splitToken_86 k_l0.1 (fn_int _) (Or.inl rfl) rfl ?_
        obtain ⟨g16, e17, h⟩ := lg_some h
        rw [← e17]
        have k_l0 := KD.eq e17 k_l0
        refine SF_iload_n 0 90 dX8_splitToken_89 rfl rfl rfl ?_
        refine SF_ifle 107 93 dX8_splitToken_90 rfl rfl (fun c18 => ?_) (fun c18 => ?_)
        · have h := ite_t c18 h
          refine SF_iconst (1 : Int32) 108 dX8_splitToken_107 rfl rfl ?_
          exact RT_i rfl dX8_splitToken_108 h
        · have h := ite_f c18 h
          refine SF_ldcS 1 95 dX8_splitToken_93 (fun U h9 => h9.2.2.2.1) rfl ?_
          refine SF_iload_n 0 96 dX8_splitToken_95 rfl rfl rfl ?_
          refine SF_i2c 97 dX8_splitToken_96 rfl ?_
          obtain ⟨v19, g20, q21, h⟩ := bd_some h
          have s22 := w_J0_indexOf_0f7a4 (X := X) (Nat.le_refl 3) 1 ((v1.toUInt32 % 65536).toInt32) g16 g20 v19 (by decide) q21
          refine SF_callT 100 (by decide) mi_J0_indexOf_0f7a4 ml_X8_111 dX8_splitToken_97 (Nat.le_trans (by decide) hd) s22 rfl rfl (Nat.le_of_ble_eq_true rfl) rfl ?_
          have k_l0 := k_l0.ext s22.1
          refine SF_iflt 107 103 dX8_splitToken_100 rfl rfl (fun c23 => ?_) (fun c23 => ?_)
          · have h := ite_t c23 h
            refine SF_iconst (1 : Int32) 108 dX8_splitToken_107 rfl rfl ?_
            exact RT_i rfl dX8_splitToken_108 h
          · have h := ite_f c23 h
            refine SF_iload_n 0 104 dX8_splitToken_103 rfl rfl rfl ?_
            refine SF_goto 108 dX8_splitToken_104 rfl ?_
            exact RT_i rfl dX8_splitToken_108 h
      · have h := ite_f c15 h
        refine SF_aload_n 1 49 dX8_splitToken_48 rfl rfl rfl ?_
        refine SF_getI 52 fl_X8_79 dX8_splitToken_49 k_l0.1 rfl ?_
        obtain ⟨y24, e25, h⟩ := li_some h
        refine SF_eqI e25 ?_
        refine SF_istore_n [(3, .int y24), (2, .int v1), (0, .ref (ad X l0)), (1, .int l1)] 53 dX8_splitToken_52 rfl (by decide) rfl rfl ?_
        refine SF_aload_n 2 54 dX8_splitToken_53 rfl rfl rfl ?_
        obtain ⟨b26, r27, h⟩ := dr_some h
        refine SF_getR 57 fl_X8_26 dX8_splitToken_54 k_l0.1 r27 rfl ?_
        refine SF_iload_n 3 58 dX8_splitToken_57 rfl rfl rfl ?_
        refine SF_aload_n 2 59 dX8_splitToken_58 rfl rfl rfl ?_
        obtain ⟨v28, g29, q30, h⟩ := bd_some h
        have s31 := w_X8_splitNumber (X := X) (Nat.le_refl 1) l0 g12 g29 v28 k_l0 q30
        refine SF_callVi 62 mi_X8_splitNumber ml_X8_106 dX8_splitToken_59 (Nat.le_trans (by decide) hd) s31 k_l0.1 rfl rfl (Nat.le_of_ble_eq_true rfl) rfl ?_
        have k_l0 := k_l0.ext s31.1
        obtain ⟨k32, h⟩ := gdK_some h
        obtain ⟨i33, h⟩ := gdI_some h
        refine SF_iast 63 dX8_splitToken_62 k32.1 i33 rfl ?_
        obtain ⟨g34, e35, h⟩ := lg_some h
        rw [← e35]
        have k_l0 := KD.eq e35 k_l0
        have k32 := KD.eq e35 k32
        have i33 := vp_eq e35 i33
        refine SF_aload_n 2 64 dX8_splitToken_63 rfl rfl rfl ?_
        refine SF_getI 67 fl_X8_79 dX8_splitToken_64 k_l0.1 rfl ?_
        refine SF_iload_n 0 68 dX8_splitToken_67 rfl rfl rfl ?_
        refine SF_iconst (3 : Int32) 69 dX8_splitToken_68 rfl rfl ?_
        refine SF_iadd 70 dX8_splitToken_69 rfl ?_
        refine SF_icle 77 73 dX8_splitToken_70 rfl rfl (fun c36 => ?_) (fun c36 => ?_)
        · have h := ite_t c36 h
          refine SF_iconst (3 : Int32) 78 dX8_splitToken_77 rfl rfl ?_
          exact RT_i rfl dX8_splitToken_78 h
        · have h := ite_f c36 h
          refine SF_iconst (1 : Int32) 74 dX8_splitToken_73 rfl rfl ?_
          refine SF_goto 78 dX8_splitToken_74 rfl ?_
          exact RT_i rfl dX8_splitToken_78 h
    · have h := ite_f c10 h
      refine SF_aload_n 1 30 dX8_splitToken_29 rfl rfl rfl ?_
      obtain ⟨b37, r38, h⟩ := dr_some h
      refine SF_getR 33 fl_X8_26 dX8_splitToken_30 k_l0.1 r38 rfl ?_
      refine SF_iload_n 2 34 dX8_splitToken_33 rfl rfl rfl ?_
      refine SF_aload_n 1 35 dX8_splitToken_34 rfl rfl rfl ?_
      obtain ⟨v39, g40, q41, h⟩ := bd_some h
      have s42 := w_X8_splitWord (X := X) (Nat.le_refl 4) l0 g7 g40 v39 k_l0 q41
      refine SF_callVi 38 mi_X8_splitWord ml_X8_99 dX8_splitToken_35 (Nat.le_trans (by decide) hd) s42 k_l0.1 rfl rfl (Nat.le_of_ble_eq_true rfl) rfl ?_
      have k_l0 := k_l0.ext s42.1
      obtain ⟨k43, h⟩ := gdK_some h
      obtain ⟨i44, h⟩ := gdI_some h
      refine SF_iast 39 dX8_splitToken_38 k43.1 i44 rfl ?_
      obtain ⟨g45, e46, h⟩ := lg_some h
      rw [← e46]
      have k_l0 := KD.eq e46 k_l0
      have k43 := KD.eq e46 k43
      have i44 := vp_eq e46 i44
      refine SF_iconst (2 : Int32) 40 dX8_splitToken_39 rfl rfl ?_
      exact RT_i rfl dX8_splitToken_40 h
  · have h := ite_f c5 h
    refine SF_iconst (0 : Int32) 21 dX8_splitToken_20 rfl rfl ?_
    exact RT_i rfl dX8_splitToken_21 h

