theorem dX8_splitText_0 : decode cX8_splitText 0 = .ok (.aload_n 0, 1) := by decide +kernel
theorem dX8_splitText_1 : decode cX8_splitText 1 = .ok (.iconst 0, 1) := by decide +kernel
theorem dX8_splitText_2 : decode cX8_splitText 2 = .ok (.putfield 79, 3) := by decide +kernel
theorem dX8_splitText_5 : decode cX8_splitText 5 = .ok (.aload_n 0, 1) := by decide +kernel
theorem dX8_splitText_6 : decode cX8_splitText 6 = .ok (.iconst 0, 1) := by decide +kernel
theorem dX8_splitText_7 : decode cX8_splitText 7 = .ok (.putfield 82, 3) := by decide +kernel
theorem dX8_splitText_10 : decode cX8_splitText 10 = .ok (.iconst 2, 1) := by decide +kernel
theorem dX8_splitText_11 : decode cX8_splitText 11 = .ok (.istore_n 1, 1) := by decide +kernel
theorem dX8_splitText_12 : decode cX8_splitText 12 = .ok (.iconst 0, 1) := by decide +kernel
theorem dX8_splitText_13 : decode cX8_splitText 13 = .ok (.istore_n 2, 1) := by decide +kernel
theorem dX8_splitText_14 : decode cX8_splitText 14 = .ok (.iload_n 2, 1) := by decide +kernel
theorem dX8_splitText_15 : decode cX8_splitText 15 = .ok (.sipush 900, 3) := by decide +kernel
theorem dX8_splitText_18 : decode cX8_splitText 18 = .ok (.if_icmp .gt 52, 3) := by decide +kernel
theorem dX8_splitText_21 : decode cX8_splitText 21 = .ok (.iload_n 1, 1) := by decide +kernel
theorem dX8_splitText_22 : decode cX8_splitText 22 = .ok (.ifCond .eq 48, 3) := by decide +kernel
theorem dX8_splitText_25 : decode cX8_splitText 25 = .ok (.iload_n 1, 1) := by decide +kernel
theorem dX8_splitText_26 : decode cX8_splitText 26 = .ok (.iconst 1, 1) := by decide +kernel
theorem dX8_splitText_27 : decode cX8_splitText 27 = .ok (.if_icmp .eq 43, 3) := by decide +kernel
theorem dX8_splitText_30 : decode cX8_splitText 30 = .ok (.aload_n 0, 1) := by decide +kernel
theorem dX8_splitText_31 : decode cX8_splitText 31 = .ok (.invokevirtual 85, 3) := by decide +kernel
theorem dX8_splitText_34 : decode cX8_splitText 34 = .ok (.aload_n 0, 1) := by decide +kernel
theorem dX8_splitText_35 : decode cX8_splitText 35 = .ok (.getfield 23, 3) := by decide +kernel
theorem dX8_splitText_38 : decode cX8_splitText 38 = .ok (.iload_n 2, 1) := by decide +kernel
theorem dX8_splitText_39 : decode cX8_splitText 39 = .ok (.aload_n 0, 1) := by decide +kernel
theorem dX8_splitText_40 : decode cX8_splitText 40 = .ok (.getfield 79, 3) := by decide +kernel
theorem dX8_splitText_43 : decode cX8_splitText 43 = .ok (.iastore, 1) := by decide +kernel
theorem dX8_splitText_44 : decode cX8_splitText 44 = .ok (.aload_n 0, 1) := by decide +kernel
theorem dX8_splitText_45 : decode cX8_splitText 45 = .ok (.iload_n 2, 1) := by decide +kernel
theorem dX8_splitText_46 : decode cX8_splitText 46 = .ok (.invokevirtual 88, 3) := by decide +kernel
theorem dX8_splitText_49 : decode cX8_splitText 49 = .ok (.istore_n 1, 1) := by decide +kernel
theorem dX8_splitText_50 : decode cX8_splitText 50 = .ok (.aload_n 0, 1) := by decide +kernel
theorem dX8_splitText_51 : decode cX8_splitText 51 = .ok (.getfield 19, 3) := by decide +kernel
theorem dX8_splitText_54 : decode cX8_splitText 54 = .ok (.iload_n 2, 1) := by decide +kernel
theorem dX8_splitText_55 : decode cX8_splitText 55 = .ok (.iload_n 1, 1) := by decide +kernel
theorem dX8_splitText_56 : decode cX8_splitText 56 = .ok (.iastore, 1) := by decide +kernel
theorem dX8_splitText_57 : decode cX8_splitText 57 = .ok (.aload_n 0, 1) := by decide +kernel
theorem dX8_splitText_58 : decode cX8_splitText 58 = .ok (.iload_n 2, 1) := by decide +kernel
theorem dX8_splitText_59 : decode cX8_splitText 59 = .ok (.iconst 1, 1) := by decide +kernel
theorem dX8_splitText_60 : decode cX8_splitText 60 = .ok (.iadd, 1) := by decide +kernel
theorem dX8_splitText_61 : decode cX8_splitText 61 = .ok (.putfield 82, 3) := by decide +kernel
theorem dX8_splitText_64 : decode cX8_splitText 64 = .ok (.iinc 2 1, 3) := by decide +kernel
theorem dX8_splitText_67 : decode cX8_splitText 67 = .ok (.goto (-53), 3) := by decide +kernel
theorem dX8_splitText_70 : decode cX8_splitText 70 = .ok (.return_, 1) := by decide +kernel
set_option maxRecDepth 20000 in
set_option maxHeartbeats 2000000 in
theorem w_X8_splitText_14 {X : CX} {d : Nat} (hd : 6 ≤ d) {g' : G} {rx : Unit} : ∀ (n : Nat) (l0 : Nat) (l1 : Int32) (l2 : Int32) (g : G), KD g l0 8 → f_X8_splitText_14 n l0 l1 l2 g = some (rx, g') → SemF X m_X8_splitText d 14 [(0, .ref (ad X l0)), (1, .int l1), (2, .int l2)] [] g none g' := by
  intro n
  induction n with
  | zero =>
    intro l0 l1 l2 g k_l0 h
    rw [f_X8_splitText_14] at h
    cases h
  | succ n ih =>
  intro l0 l1 l2 g k_l0 h
  rw [f_X8_splitText_14] at h
  refine SF_iload_n 2 15 dX8_splitText_14 rfl rfl rfl ?_
  refine SF_sipush (900 : Int32) 18 dX8_splitText_15 rfl rfl ?_
  refine SF_icgt 70 21 dX8_splitText_18 rfl rfl (fun c1 => ?_) (fun c1 => ?_)
  · have h := ite_t c1 h
    exact RT_v rfl dX8_splitText_70 h
  · have h := ite_f c1 h
    refine SF_iload_n 1 22 dX8_splitText_21 rfl rfl rfl ?_
    refine SF_ifeq 70 25 dX8_splitText_22 rfl rfl (fun c2 => ?_) (fun c2 => ?_)
    · have h := ite_t c2 h
      exact RT_v rfl dX8_splitText_70 h
    · have h := ite_f c2 h
      refine SF_iload_n 1 26 dX8_splitText_25 rfl rfl rfl ?_
      refine SF_iconst (1 : Int32) 27 dX8_splitText_26 rfl rfl ?_
      refine SF_iceq 70 30 dX8_splitText_27 rfl rfl (fun c3 => ?_) (fun c3 => ?_)
      · have h := ite_t c3 h
        exact RT_v rfl dX8_splitText_70 h
      · have h := ite_f c3 h
        refine SF_aload_n 0 31 dX8_splitText_30 rfl rfl rfl ?_
        obtain ⟨v4, g5, q6, h⟩ := bd_some h
        have s7 := w_X8_skipBlanks (X := X) (Nat.le_refl 1) l0 g g5 v4 k_l0 q6
        refine SF_callVv 34 mi_X8_skipBlanks ml_X8_85 dX8_splitText_31 (Nat.le_trans (by decide) hd) s7 k_l0.1 rfl rfl (Nat.le_of_ble_eq_true rfl) rfl ?_
        have k_l0 := k_l0.ext s7.1
        refine SF_aload_n 0 35 dX8_splitText_34 rfl rfl rfl ?_
        obtain ⟨b8, r9, h⟩ := dr_some h
        refine SF_getR 38 fl_X8_23 dX8_splitText_35 k_l0.1 r9 rfl ?_
        refine SF_iload_n 2 39 dX8_splitText_38 rfl rfl rfl ?_
        refine SF_aload_n 0 40 dX8_splitText_39 rfl rfl rfl ?_
        refine SF_getI 43 fl_X8_79 dX8_splitText_40 k_l0.1 rfl ?_
        obtain ⟨k10, h⟩ := gdK_some h
        obtain ⟨i11, h⟩ := gdI_some h
        refine SF_iast 44 dX8_splitText_43 k10.1 i11 rfl ?_
        obtain ⟨g12, e13, h⟩ := lg_some h
        rw [← e13]
        have k_l0 := KD.eq e13 k_l0
        have k10 := KD.eq e13 k10
        have r9 := gR_eq e13 r9
        have i11 := vp_eq e13 i11
        refine SF_aload_n 0 45 dX8_splitText_44 rfl rfl rfl ?_
        refine SF_iload_n 2 46 dX8_splitText_45 rfl rfl rfl ?_
        obtain ⟨v14, g15, q16, h⟩ := bd_some h
        have s17 := w_X8_splitToken (X := X) (Nat.le_refl 5) l0 l2 g12 g15 v14 k_l0 q16
        refine SF_callVi 49 mi_X8_splitToken ml_X8_88 dX8_splitText_46 (Nat.le_trans (by decide) hd) s17 k_l0.1 rfl rfl (Nat.le_of_ble_eq_true rfl) rfl ?_
        have k_l0 := k_l0.ext s17.1
        have k10 := k10.ext s17.1
        refine SF_istore_n [(1, .int v14), (0, .ref (ad X l0)), (2, .int l2)] 50 dX8_splitText_49 rfl (by decide) rfl rfl ?_
        refine SF_aload_n 1 51 dX8_splitText_50 rfl rfl rfl ?_
        obtain ⟨b18, r19, h⟩ := dr_some h
        refine SF_getR 54 fl_X8_19 dX8_splitText_51 k_l0.1 r19 rfl ?_
        refine SF_iload_n 2 55 dX8_splitText_54 rfl rfl rfl ?_
        refine SF_iload_n 0 56 dX8_splitText_55 rfl rfl rfl ?_
        obtain ⟨k20, h⟩ := gdK_some h
        obtain ⟨i21, h⟩ := gdI_some h
        refine SF_iast 57 dX8_splitText_56 k20.1 i21 rfl ?_
        obtain ⟨g22, e23, h⟩ := lg_some h
        rw [← e23]
        have k_l0 := KD.eq e23 k_l0
        have k10 := KD.eq e23 k10
        have k20 := KD.eq e23 k20
        have r19 := gR_eq e23 r19
        have i21 := vp_eq e23 i21
        refine SF_aload_n 1 58 dX8_splitText_57 rfl rfl rfl ?_
        refine SF_iload_n 2 59 dX8_splitText_58 rfl rfl rfl ?_
        refine SF_iconst (1 : Int32) 60 dX8_splitText_59 rfl rfl ?_
        refine SF_iadd 61 dX8_splitText_60 rfl ?_
        refine SF_putI 64 fl_X8_82 dX8_splitText_61 k_l0.1 (fn_int _) (Or.inl rfl) rfl ?_
        obtain ⟨g24, e25, h⟩ := lg_some h
        rw [← e25]
        have k_l0 := KD.eq e25 k_l0
        have k10 := KD.eq e25 k10
        have k20 := KD.eq e25 k20
        have r19 := gR_eq e25 r19
        have i21 := vp_eq e25 i21
        refine SF_iinc 2 (l2 + (1 : Int32)) [(2, .int (l2 + (1 : Int32))), (1, .int v14), (0, .ref (ad X l0))] 67 dX8_splitText_64 rfl rfl (by decide) rfl rfl ?_
        refine SF_goto 14 dX8_splitText_67 rfl ?_
        refine SF_sub [2, 1, 0] rfl ?_
        exact ih l0 v14 (l2 + (1 : Int32)) g24 k_l0 h

set_option maxRecDepth 20000 in
set_option maxHeartbeats 2000000 in
theorem w_X8_splitText {X : CX} {d : Nat} (hd : 6 ≤ d) (l0 : Nat) (g g' : G) (rx : Unit) (k_l0 : KD g l0 8) (h : f_X8_splitText l0 g = some (rx, g')) : Sem X m_X8_splitText d [.ref (ad X l0)] g none g' := by
  refine Sem_of (lo := [(0, .ref (ad X l0))]) (by decide +kernel) rfl (Nat.le_of_ble_eq_true rfl) ?_
  rw [f_X8_splitText] at h
  refine SF_aload_n 0 1 dX8_splitText_0 rfl rfl rfl ?_
  refine SF_iconst (0 : Int32) 2 dX8_splitText_1 rfl rfl ?_
  refine SF_putI 5 fl_X8_79 dX8_splitText_2 k_l0.1 (fn_int _) (Or.inl rfl) rfl ?_
  obtain ⟨g1, e2, h⟩ := lg_some h
  rw [← e2]
  have k_l0 := KD.eq e2 k_l0
  refine SF_aload_n 0 6 dX8_splitText_5 rfl rfl rfl ?_
  refine SF_iconst (0 : Int32) 7 dX8_splitText_6 rfl rfl ?_
  refine SF_putI 10 fl_X8_82 dX8_splitText_7 k_l0.1 (fn_int _) (Or.inl rfl) rfl ?_
  obtain ⟨g3, e4, h⟩ := lg_some h
  rw [← e4]
  have k_l0 := KD.eq e4 k_l0
  refine SF_iconst (2 : Int32) 11 dX8_splitText_10 rfl rfl ?_
  refine SF_istore_n [(1, .int (2 : Int32)), (0, .ref (ad X l0))] 12 dX8_splitText_11 rfl (by decide) rfl rfl ?_
  refine SF_iconst (0 : Int32) 13 dX8_splitText_12 rfl rfl ?_
  refine SF_istore_n [(2, .int (0 : Int32)), (1, .int (2 : Int32)), (0, .ref (ad X l0))] 14 dX8_splitText_13 rfl (by decide) rfl rfl ?_
  refine SF_sub [2, 1, 0] rfl ?_
  exact w_X8_splitText_14 hd FU l0 (2 : Int32) (0 : Int32) g3 k_l0 h

theorem dX8_takeNumber_0 : decode cX8_takeNumber 0 = .ok (.aload_n 0, 1) := by decide +kernel
theorem dX8_takeNumber_1 : decode cX8_takeNumber 1 = .ok (.getfield 73, 3) := by decide +kernel
theorem dX8_takeNumber_4 : decode cX8_takeNumber 4 = .ok (.iconst 3, 1) := by decide +kernel
theorem dX8_takeNumber_5 : decode cX8_takeNumber 5 = .ok (.if_icmp .eq 8, 3) := by decide +kernel
theorem dX8_takeNumber_8 : decode cX8_takeNumber 8 = .ok (.aload_n 0, 1) := by decide +kernel
theorem dX8_takeNumber_9 : decode cX8_takeNumber 9 = .ok (.invokevirtual 133, 3) := by decide +kernel
theorem dX8_takeNumber_12 : decode cX8_takeNumber 12 = .ok (.ireturn, 1) := by decide +kernel
theorem dX8_takeNumber_13 : decode cX8_takeNumber 13 = .ok (.aload_n 0, 1) := by decide +kernel
theorem dX8_takeNumber_14 : decode cX8_takeNumber 14 = .ok (.getfield 127, 3) := by decide +kernel
theorem dX8_takeNumber_17 : decode cX8_takeNumber 17 = .ok (.iload_n 1, 1) := by decide +kernel
theorem dX8_takeNumber_18 : decode cX8_takeNumber 18 = .ok (.if_icmp .lt 11, 3) := by decide +kernel
theorem dX8_takeNumber_21 : decode cX8_takeNumber 21 = .ok (.aload_n 0, 1) := by decide +kernel
theorem dX8_takeNumber_22 : decode cX8_takeNumber 22 = .ok (.getfield 127, 3) := by decide +kernel
theorem dX8_takeNumber_25 : decode cX8_takeNumber 25 = .ok (.iload_n 2, 1) := by decide +kernel
theorem dX8_takeNumber_26 : decode cX8_takeNumber 26 = .ok (.if_icmp .le 9, 3) := by decide +kernel
theorem dX8_takeNumber_29 : decode cX8_takeNumber 29 = .ok (.aload_n 0, 1) := by decide +kernel
theorem dX8_takeNumber_30 : decode cX8_takeNumber 30 = .ok (.iconst 3, 1) := by decide +kernel
theorem dX8_takeNumber_31 : decode cX8_takeNumber 31 = .ok (.invokevirtual 130, 3) := by decide +kernel
theorem dX8_takeNumber_34 : decode cX8_takeNumber 34 = .ok (.ireturn, 1) := by decide +kernel
theorem dX8_takeNumber_35 : decode cX8_takeNumber 35 = .ok (.aload_n 0, 1) := by decide +kernel
theorem dX8_takeNumber_36 : decode cX8_takeNumber 36 = .ok (.aload_n 0, 1) := by decide +kernel
theorem dX8_takeNumber_37 : decode cX8_takeNumber 37 = .ok (.getfield 127, 3) := by decide +kernel
theorem dX8_takeNumber_40 : decode cX8_takeNumber 40 = .ok (.putfield 136, 3) := by decide +kernel
theorem dX8_takeNumber_43 : decode cX8_takeNumber 43 = .ok (.aload_n 0, 1) := by decide +kernel
theorem dX8_takeNumber_44 : decode cX8_takeNumber 44 = .ok (.invokevirtual 66, 3) := by decide +kernel
theorem dX8_takeNumber_47 : decode cX8_takeNumber 47 = .ok (.iconst 1, 1) := by decide +kernel
theorem dX8_takeNumber_48 : decode cX8_takeNumber 48 = .ok (.ireturn, 1) := by decide +kernel
set_option maxRecDepth 20000 in
set_option maxHeartbeats 2000000 in
theorem w_X8_takeNumber_29 {X : CX} {d : Nat} (hd : 2 ≤ d) {g' : G} {rx : Bool} (l0 : Nat) (g : G) (k_l0 : KD g l0 8) (h : f_X8_takeNumber_29 l0 g = some (rx, g')) : SemF X m_X8_takeNumber d 29 [(0, .ref (ad X l0))] [] g (some (.int (b2i rx))) g' := by
  rw [f_X8_takeNumber_29] at h
  refine SF_aload_n 0 30 dX8_takeNumber_29 rfl rfl rfl ?_
  refine SF_iconst (3 : Int32) 31 dX8_takeNumber_30 rfl rfl ?_
  obtain ⟨v1, g2, q3, h⟩ := bd_some h
  have s4 := w_X8_refuse (X := X) (Nat.le_refl 0) l0 (3 : Int32) g g2 v1 k_l0 q3
  refine SF_callVb 34 mi_X8_refuse ml_X8_130 dX8_takeNumber_31 (Nat.le_trans (by decide) hd) s4 k_l0.1 rfl rfl (Nat.le_of_ble_eq_true rfl) rfl ?_
  have k_l0 := k_l0.ext s4.1
  exact RT_b rfl rfl dX8_takeNumber_34 h

set_option maxRecDepth 20000 in
set_option maxHeartbeats 2000000 in
theorem w_X8_takeNumber {X : CX} {d : Nat} (hd : 2 ≤ d) (l0 : Nat) (l1 : Int32) (l2 : Int32) (g g' : G) (rx : Bool) (k_l0 : KD g l0 8) (h : f_X8_takeNumber l0 l1 l2 g = some (rx, g')) : Sem X m_X8_takeNumber d [.ref (ad X l0), .int l1, .int l2] g (some (.int (b2i rx))) g' := by
  refine Sem_of (lo := [(0, .ref (ad X l0)), (1, .int l1), (2, .int l2)]) (by decide +kernel) rfl (Nat.le_of_ble_eq_true rfl) ?_
  rw [f_X8_takeNumber] at h
  refine SF_aload_n 0 1 dX8_takeNumber_0 rfl rfl rfl ?_
  refine SF_getI 4 fl_X8_73 dX8_takeNumber_1 k_l0.1 rfl ?_
  refine SF_iconst (3 : Int32) 5 dX8_takeNumber_4 rfl rfl ?_
  refine SF_iceq 13 8 dX8_takeNumber_5 rfl rfl (fun c1 => ?_) (fun c1 => ?_)
  · have h := ite_t c1 h
    refine SF_aload_n 0 14 dX8_takeNumber_13 rfl rfl rfl ?_
    refine SF_getI 17 fl_X8_127 dX8_takeNumber_14 k_l0.1 rfl ?_
    refine SF_iload_n 1 18 dX8_takeNumber_17 rfl rfl rfl ?_
    refine SF_iclt 29 21 dX8_takeNumber_18 rfl rfl (fun c2 => ?_) (fun c2 => ?_)
    · have h := ite_t c2 h
      refine SF_sub [0] rfl ?_
      exact w_X8_takeNumber_29 hd l0 g k_l0 h
    · have h := ite_f c2 h
      refine SF_aload_n 0 22 dX8_takeNumber_21 rfl rfl rfl ?_
      refine SF_getI 25 fl_X8_127 dX8_takeNumber_22 k_l0.1 rfl ?_
      refine SF_iload_n 2 26 dX8_takeNumber_25 rfl rfl rfl ?_
      refine SF_icle 35 29 dX8_takeNumber_26 rfl rfl (fun c3 => ?_) (fun c3 => ?_)
      · have h := ite_t c3 h
        refine SF_aload_n 0 36 dX8_takeNumber_35 rfl rfl rfl ?_
        refine SF_aload_n 0 37 dX8_takeNumber_36 rfl rfl rfl ?_
        refine SF_getI 40 fl_X8_127 dX8_takeNumber_37 k_l0.1 rfl ?_
        refine SF_putI 43 fl_X8_136 dX8_takeNumber_40 k_l0.1 (fn_int _) (Or.inl rfl) rfl ?_
        obtain ⟨g4, e5, h⟩ := lg_some h
        rw [← e5]
        have k_l0 := KD.eq e5 k_l0
        refine SF_aload_n 0 44 dX8_takeNumber_43 rfl rfl rfl ?_
        obtain ⟨v6, g7, q8, h⟩ := bd_some h
        have s9 := w_X8_look (X := X) (Nat.le_refl 0) l0 g4 g7 v6 k_l0 q8
        refine SF_callVv 47 mi_X8_look ml_X8_66 dX8_takeNumber_44 (Nat.le_trans (by decide) hd) s9 k_l0.1 rfl rfl (Nat.le_of_ble_eq_true rfl) rfl ?_
        have k_l0 := k_l0.ext s9.1
        refine SF_iconst (1 : Int32) 48 dX8_takeNumber_47 rfl rfl ?_
        exact RT_b rfl rfl dX8_takeNumber_48 h
      · have h := ite_f c3 h
        refine SF_sub [0] rfl ?_
        exact w_X8_takeNumber_29 hd l0 g k_l0 h
  · have h := ite_f c1 h
    refine SF_aload_n 0 9 dX8_takeNumber_8 rfl rfl rfl ?_
    obtain ⟨v10, g11, q12, h⟩ := bd_some h
    have s13 := w_X8_refuseToken (X := X) (Nat.le_refl 1) l0 g g11 v10 k_l0 q12
    refine SF_callVb 12 mi_X8_refuseToken ml_X8_133 dX8_takeNumber_9 (Nat.le_trans (by decide) hd) s13 k_l0.1 rfl rfl (Nat.le_of_ble_eq_true rfl) rfl ?_
    have k_l0 := k_l0.ext s13.1
    exact RT_b rfl rfl dX8_takeNumber_12 h

theorem dX0_clearFor_0 : decode cX0_clearFor 0 = .ok (.aload_n 0, 1) := by decide +kernel
theorem dX0_clearFor_1 : decode cX0_clearFor 1 = .ok (.aload_n 1, 1) := by decide +kernel
theorem dX0_clearFor_2 : decode cX0_clearFor 2 = .ok (.putfield 24, 3) := by decide +kernel
theorem dX0_clearFor_5 : decode cX0_clearFor 5 = .ok (.aload_n 0, 1) := by decide +kernel
theorem dX0_clearFor_6 : decode cX0_clearFor 6 = .ok (.lconst 0, 1) := by decide +kernel
theorem dX0_clearFor_7 : decode cX0_clearFor 7 = .ok (.putfield 28, 3) := by decide +kernel
theorem dX0_clearFor_10 : decode cX0_clearFor 10 = .ok (.aload_n 0, 1) := by decide +kernel
theorem dX0_clearFor_11 : decode cX0_clearFor 11 = .ok (.getfield 9, 3) := by decide +kernel
theorem dX0_clearFor_14 : decode cX0_clearFor 14 = .ok (.iconst 0, 1) := by decide +kernel
theorem dX0_clearFor_15 : decode cX0_clearFor 15 = .ok (.invokestatic 38, 3) := by decide +kernel
theorem dX0_clearFor_18 : decode cX0_clearFor 18 = .ok (.aload_n 0, 1) := by decide +kernel
theorem dX0_clearFor_19 : decode cX0_clearFor 19 = .ok (.getfield 15, 3) := by decide +kernel
theorem dX0_clearFor_22 : decode cX0_clearFor 22 = .ok (.iconst 0, 1) := by decide +kernel
theorem dX0_clearFor_23 : decode cX0_clearFor 23 = .ok (.invokestatic 38, 3) := by decide +kernel
theorem dX0_clearFor_26 : decode cX0_clearFor 26 = .ok (.aload_n 0, 1) := by decide +kernel
theorem dX0_clearFor_27 : decode cX0_clearFor 27 = .ok (.getfield 18, 3) := by decide +kernel
theorem dX0_clearFor_30 : decode cX0_clearFor 30 = .ok (.iconst 0, 1) := by decide +kernel
theorem dX0_clearFor_31 : decode cX0_clearFor 31 = .ok (.invokestatic 38, 3) := by decide +kernel
theorem dX0_clearFor_34 : decode cX0_clearFor 34 = .ok (.aload_n 0, 1) := by decide +kernel
theorem dX0_clearFor_35 : decode cX0_clearFor 35 = .ok (.getfield 21, 3) := by decide +kernel
theorem dX0_clearFor_38 : decode cX0_clearFor 38 = .ok (.iconst 0, 1) := by decide +kernel
theorem dX0_clearFor_39 : decode cX0_clearFor 39 = .ok (.invokestatic 38, 3) := by decide +kernel
theorem dX0_clearFor_42 : decode cX0_clearFor 42 = .ok (.return_, 1) := by decide +kernel
set_option maxRecDepth 20000 in
set_option maxHeartbeats 2000000 in
theorem w_X0_clearFor {X : CX} {d : Nat} (hd : 1 ≤ d) (l0 : Nat) (l1 : Nat) (g g' : G) (rx : Unit) (k_l0 : KD g l0 0) (k_l1 : KD g l1 7) (h : f_X0_clearFor l0 l1 g = some (rx, g')) : Sem X m_X0_clearFor d [.ref (ad X l0), .ref (ad X l1)] g none g' := by
  refine Sem_of (lo := [(0, .ref (ad X l0)), (1, .ref (ad X l1))]) (by decide +kernel) rfl (Nat.le_of_ble_eq_true rfl) ?_
  rw [f_X0_clearFor] at h
  refine SF_aload_n 0 1 dX0_clearFor_0 rfl rfl rfl ?_
  refine SF_aload_n 1 2 dX0_clearFor_1 rfl rfl rfl ?_
  refine SF_putR 5 fl_X0_24 dX0_clearFor_2 k_l0.1 (fn_obj _ _) (Or.inl rfl) rfl ?_
  obtain ⟨g1, e2, h⟩ := lg_some h
  rw [← e2]
  have k_l0 := KD.eq e2 k_l0
  have k_l1 := KD.eq e2 k_l1
  refine SF_aload_n 0 6 dX0_clearFor_5 rfl rfl rfl ?_
  refine SF_lconst (0 : Int64) 7 dX0_clearFor_6 rfl rfl ?_
  refine SF_putL 10 fl_X0_28 dX0_clearFor_7 k_l0.1 (fn_long _) (Or.inl rfl) rfl ?_
  obtain ⟨g3, e4, h⟩ := lg_some h
  rw [← e4]
  have k_l0 := KD.eq e4 k_l0
  have k_l1 := KD.eq e4 k_l1
  refine SF_aload_n 0 11 dX0_clearFor_10 rfl rfl rfl ?_
  obtain ⟨b5, r6, h⟩ := dr_some h
  refine SF_getR 14 fl_X0_9 dX0_clearFor_11 k_l0.1 r6 rfl ?_
  refine SF_iconst (0 : Int32) 15 dX0_clearFor_14 rfl rfl ?_
  obtain ⟨k7, h⟩ := gdK_some h
  obtain ⟨v8, g9, q10, h⟩ := bd_some h
  have s11 := w_J7_fill_53178 (X := X) (Nat.le_refl 0) b5 (0 : Int32) g3 g9 v8 k7 q10
  refine SF_callSv 18 mi_J7_fill_53178 ml_X0_38 dX0_clearFor_15 (Nat.le_trans (by decide) hd) s11 rfl rfl (Nat.le_of_ble_eq_true rfl) rfl ?_
  have k_l0 := k_l0.ext s11.1
  have k_l1 := k_l1.ext s11.1
  have k7 := k7.ext s11.1
  refine SF_aload_n 0 19 dX0_clearFor_18 rfl rfl rfl ?_
  obtain ⟨b12, r13, h⟩ := dr_some h
  refine SF_getR 22 fl_X0_15 dX0_clearFor_19 k_l0.1 r13 rfl ?_
  refine SF_iconst (0 : Int32) 23 dX0_clearFor_22 rfl rfl ?_
  obtain ⟨k14, h⟩ := gdK_some h
  obtain ⟨v15, g16, q17, h⟩ := bd_some h
  have s18 := w_J7_fill_53178 (X := X) (Nat.le_refl 0) b12 (0 : Int32) g9 g16 v15 k14 q17
  refine SF_callSv 26 mi_J7_fill_53178 ml_X0_38 dX0_clearFor_23 (Nat.le_trans (by decide) hd) s18 rfl rfl (Nat.le_of_ble_eq_true rfl) rfl ?_
  have k_l0 := k_l0.ext s18.1
  have k_l1 := k_l1.ext s18.1
  have k7 := k7.ext s18.1
  have k14 := k14.ext s18.1
  refine SF_aload_n 0 27 dX0_clearFor_26 rfl rfl rfl ?_
  obtain ⟨b19, r20, h⟩ := dr_some h
  refine SF_getR 30 fl_X0_18 dX0_clearFor_27 k_l0.1 r20 rfl ?_
  refine SF_iconst (0 : Int32) 31 dX0_clearFor_30 rfl rfl ?_
  obtain ⟨k21, h⟩ := gdK_some h
  obtain ⟨v22, g23, q24, h⟩ := bd_some h
  have s25 := w_J7_fill_53178 (X := X) (Nat.le_refl 0) b19 (0 : Int32) g16 g23 v22 k21 q24
  refine SF_callSv 34 mi_J7_fill_53178 ml_X0_38 dX0_clearFor_31 (Nat.le_trans (by decide) hd) s25 rfl rfl (Nat.le_of_ble_eq_true rfl) rfl ?_
  have k_l0 := k_l0.ext s25.1
  have k_l1 := k_l1.ext s25.1
  have k7 := k7.ext s25.1
  have k14 := k14.ext s25.1
  have k21 := k21.ext s25.1
  refine SF_aload_n 0 35 dX0_clearFor_34 rfl rfl rfl ?_
  obtain ⟨b26, r27, h⟩ := dr_some h
  refine SF_getR 38 fl_X0_21 dX0_clearFor_35 k_l0.1 r27 rfl ?_
  refine SF_iconst (0 : Int32) 39 dX0_clearFor_38 rfl rfl ?_
  obtain ⟨k28, h⟩ := gdK_some h
  obtain ⟨v29, g30, q31, h⟩ := bd_some h
  have s32 := w_J7_fill_53178 (X := X) (Nat.le_refl 0) b26 (0 : Int32) g23 g30 v29 k28 q31
  refine SF_callSv 42 mi_J7_fill_53178 ml_X0_38 dX0_clearFor_39 (Nat.le_trans (by decide) hd) s32 rfl rfl (Nat.le_of_ble_eq_true rfl) rfl ?_
  have k_l0 := k_l0.ext s32.1
  have k_l1 := k_l1.ext s32.1
  have k7 := k7.ext s32.1
  have k14 := k14.ext s32.1
  have k21 := k21.ext s32.1
  have k28 := k28.ext s32.1
  exact RT_v rfl dX0_clearFor_42 h

theorem dX8_fieldLine_0 : decode cX8_fieldLine 0 = .ok (.aload_n 0, 1) := by decide +kernel
theorem dX8_fieldLine_1 : decode cX8_fieldLine 1 = .ok (.bipush 8, 2) := by decide +kernel
theorem dX8_fieldLine_3 : decode cX8_fieldLine 3 = .ok (.invokevirtual 139, 3) := by decide +kernel
theorem dX8_fieldLine_6 : decode cX8_fieldLine 6 = .ok (.ifCond .ne 8, 3) := by decide +kernel
theorem dX8_fieldLine_9 : decode cX8_fieldLine 9 = .ok (.aload_n 0, 1) := by decide +kernel
theorem dX8_fieldLine_10 : decode cX8_fieldLine 10 = .ok (.invokevirtual 133, 3) := by decide +kernel
theorem dX8_fieldLine_13 : decode cX8_fieldLine 13 = .ok (.ireturn, 1) := by decide +kernel
theorem dX8_fieldLine_14 : decode cX8_fieldLine 14 = .ok (.aload_n 0, 1) := by decide +kernel
theorem dX8_fieldLine_15 : decode cX8_fieldLine 15 = .ok (.invokevirtual 66, 3) := by decide +kernel
theorem dX8_fieldLine_18 : decode cX8_fieldLine 18 = .ok (.aload_n 0, 1) := by decide +kernel
theorem dX8_fieldLine_19 : decode cX8_fieldLine 19 = .ok (.iconst 1, 1) := by decide +kernel
theorem dX8_fieldLine_20 : decode cX8_fieldLine 20 = .ok (.bipush 6, 2) := by decide +kernel
theorem dX8_fieldLine_22 : decode cX8_fieldLine 22 = .ok (.invokevirtual 142, 3) := by decide +kernel
theorem dX8_fieldLine_25 : decode cX8_fieldLine 25 = .ok (.ifCond .ne 5, 3) := by decide +kernel
theorem dX8_fieldLine_28 : decode cX8_fieldLine 28 = .ok (.iconst 0, 1) := by decide +kernel
theorem dX8_fieldLine_29 : decode cX8_fieldLine 29 = .ok (.ireturn, 1) := by decide +kernel
theorem dX8_fieldLine_30 : decode cX8_fieldLine 30 = .ok (.aload_n 0, 1) := by decide +kernel
theorem dX8_fieldLine_31 : decode cX8_fieldLine 31 = .ok (.getfield 136, 3) := by decide +kernel
theorem dX8_fieldLine_34 : decode cX8_fieldLine 34 = .ok (.istore_n 1, 1) := by decide +kernel
theorem dX8_fieldLine_35 : decode cX8_fieldLine 35 = .ok (.aload_n 0, 1) := by decide +kernel
theorem dX8_fieldLine_36 : decode cX8_fieldLine 36 = .ok (.iconst 1, 1) := by decide +kernel
theorem dX8_fieldLine_37 : decode cX8_fieldLine 37 = .ok (.bipush 6, 2) := by decide +kernel
theorem dX8_fieldLine_39 : decode cX8_fieldLine 39 = .ok (.invokevirtual 142, 3) := by decide +kernel
theorem dX8_fieldLine_42 : decode cX8_fieldLine 42 = .ok (.ifCond .ne 5, 3) := by decide +kernel
theorem dX8_fieldLine_45 : decode cX8_fieldLine 45 = .ok (.iconst 0, 1) := by decide +kernel
theorem dX8_fieldLine_46 : decode cX8_fieldLine 46 = .ok (.ireturn, 1) := by decide +kernel
theorem dX8_fieldLine_47 : decode cX8_fieldLine 47 = .ok (.aload_n 0, 1) := by decide +kernel
theorem dX8_fieldLine_48 : decode cX8_fieldLine 48 = .ok (.new 146, 3) := by decide +kernel
theorem dX8_fieldLine_51 : decode cX8_fieldLine 51 = .ok (.dup, 1) := by decide +kernel
theorem dX8_fieldLine_52 : decode cX8_fieldLine 52 = .ok (.iload_n 1, 1) := by decide +kernel
theorem dX8_fieldLine_53 : decode cX8_fieldLine 53 = .ok (.aload_n 0, 1) := by decide +kernel
theorem dX8_fieldLine_54 : decode cX8_fieldLine 54 = .ok (.getfield 136, 3) := by decide +kernel
theorem dX8_fieldLine_57 : decode cX8_fieldLine 57 = .ok (.invokespecial 148, 3) := by decide +kernel
theorem dX8_fieldLine_60 : decode cX8_fieldLine 60 = .ok (.putfield 32, 3) := by decide +kernel
theorem dX8_fieldLine_63 : decode cX8_fieldLine 63 = .ok (.aload_n 0, 1) := by decide +kernel
theorem dX8_fieldLine_64 : decode cX8_fieldLine 64 = .ok (.getfield 32, 3) := by decide +kernel
theorem dX8_fieldLine_67 : decode cX8_fieldLine 67 = .ok (.iconst 1, 1) := by decide +kernel
theorem dX8_fieldLine_68 : decode cX8_fieldLine 68 = .ok (.putfield 151, 3) := by decide +kernel
theorem dX8_fieldLine_71 : decode cX8_fieldLine 71 = .ok (.aload_n 0, 1) := by decide +kernel
theorem dX8_fieldLine_72 : decode cX8_fieldLine 72 = .ok (.getfield 41, 3) := by decide +kernel
theorem dX8_fieldLine_75 : decode cX8_fieldLine 75 = .ok (.aload_n 0, 1) := by decide +kernel
theorem dX8_fieldLine_76 : decode cX8_fieldLine 76 = .ok (.getfield 32, 3) := by decide +kernel
theorem dX8_fieldLine_79 : decode cX8_fieldLine 79 = .ok (.invokevirtual 154, 3) := by decide +kernel
theorem dX8_fieldLine_82 : decode cX8_fieldLine 82 = .ok (.aload_n 0, 1) := by decide +kernel
theorem dX8_fieldLine_83 : decode cX8_fieldLine 83 = .ok (.bipush 59, 2) := by decide +kernel
theorem dX8_fieldLine_85 : decode cX8_fieldLine 85 = .ok (.invokevirtual 157, 3) := by decide +kernel
theorem dX8_fieldLine_88 : decode cX8_fieldLine 88 = .ok (.ireturn, 1) := by decide +kernel
set_option maxRecDepth 20000 in
set_option maxHeartbeats 2000000 in
theorem w_X8_fieldLine {X : CX} {d : Nat} (hd : 3 ≤ d) (l0 : Nat) (g g' : G) (rx : Bool) (k_l0 : KD g l0 8) (h : f_X8_fieldLine l0 g = some (rx, g')) : Sem X m_X8_fieldLine d [.ref (ad X l0)] g (some (.int (b2i rx))) g' := by
  refine Sem_of (lo := [(0, .ref (ad X l0))]) (by decide +kernel) rfl (Nat.le_of_ble_eq_true rfl) ?_
  rw [f_X8_fieldLine] at h
  refine SF_aload_n 0 1 dX8_fieldLine_0 rfl rfl rfl ?_
  refine SF_bipush (8 : Int32) 3 dX8_fieldLine_1 rfl rfl ?_
  obtain ⟨v1, g2, q3, h⟩ := bd_some h
  have s4 := w_X8_isWord (X := X) (Nat.le_refl 0) l0 (8 : Int32) g g2 v1 k_l0 q3
  refine SF_callVb 6 mi_X8_isWord ml_X8_139 dX8_fieldLine_3 (Nat.le_trans (by decide) hd) s4 k_l0.1 rfl rfl (Nat.le_of_ble_eq_true rfl) rfl ?_
  have k_l0 := k_l0.ext s4.1
  refine SF_ifne 14 9 dX8_fieldLine_6 rfl rfl (fun c5 => ?_) (fun c5 => ?_)
  · have h := ite_f c5 h
    refine SF_aload_n 0 15 dX8_fieldLine_14 rfl rfl rfl ?_
    obtain ⟨v6, g7, q8, h⟩ := bd_some h
    have s9 := w_X8_look (X := X) (Nat.le_refl 0) l0 g2 g7 v6 k_l0 q8
    refine SF_callVv 18 mi_X8_look ml_X8_66 dX8_fieldLine_15 (Nat.le_trans (by decide) hd) s9 k_l0.1 rfl rfl (Nat.le_of_ble_eq_true rfl) rfl ?_
    have k_l0 := k_l0.ext s9.1
    refine SF_aload_n 0 19 dX8_fieldLine_18 rfl rfl rfl ?_
    refine SF_iconst (1 : Int32) 20 dX8_fieldLine_19 rfl rfl ?_
    refine SF_bipush (6 : Int32) 22 dX8_fieldLine_20 rfl rfl ?_
    obtain ⟨v10, g11, q12, h⟩ := bd_some h
    have s13 := w_X8_takeNumber (X := X) (Nat.le_refl 2) l0 (1 : Int32) (6 : Int32) g7 g11 v10 k_l0 q12
    refine SF_callVb 25 mi_X8_takeNumber ml_X8_142 dX8_fieldLine_22 (Nat.le_trans (by decide) hd) s13 k_l0.1 rfl rfl (Nat.le_of_ble_eq_true rfl) rfl ?_
    have k_l0 := k_l0.ext s13.1
    refine SF_ifne 30 28 dX8_fieldLine_25 rfl rfl (fun c14 => ?_) (fun c14 => ?_)
    · have h := ite_f c14 h
      refine SF_aload_n 0 31 dX8_fieldLine_30 rfl rfl rfl ?_
      refine SF_getI 34 fl_X8_136 dX8_fieldLine_31 k_l0.1 rfl ?_
      obtain ⟨y15, e16, h⟩ := li_some h
      refine SF_eqI e16 ?_
      refine SF_istore_n [(1, .int y15), (0, .ref (ad X l0))] 35 dX8_fieldLine_34 rfl (by decide) rfl rfl ?_
      refine SF_aload_n 1 36 dX8_fieldLine_35 rfl rfl rfl ?_
      refine SF_iconst (1 : Int32) 37 dX8_fieldLine_36 rfl rfl ?_
      refine SF_bipush (6 : Int32) 39 dX8_fieldLine_37 rfl rfl ?_
      obtain ⟨v17, g18, q19, h⟩ := bd_some h
      have s20 := w_X8_takeNumber (X := X) (Nat.le_refl 2) l0 (1 : Int32) (6 : Int32) g11 g18 v17 k_l0 q19
      refine SF_callVb 42 mi_X8_takeNumber ml_X8_142 dX8_fieldLine_39 (Nat.le_trans (by decide) hd) s20 k_l0.1 rfl rfl (Nat.le_of_ble_eq_true rfl) rfl ?_
      have k_l0 := k_l0.ext s20.1
      refine SF_ifne 47 45 dX8_fieldLine_42 rfl rfl (fun c21 => ?_) (fun c21 => ?_)
      · have h := ite_f c21 h
        refine SF_aload_n 1 48 dX8_fieldLine_47 rfl rfl rfl ?_
        refine SF_new 51 nw_X8_146 dX8_fieldLine_48 rfl ?_
        obtain ⟨g22, e23, h⟩ := lg_some h
        rw [← e23]
        have k_l0 := KD.alloc e23 k_l0
        have k26 := KD.fresh e23
        obtain ⟨a24, e25, h⟩ := ln_some h
        rw [← e25] at k26
        rw [← e25]
        refine SF_dup 52 dX8_fieldLine_51 rfl rfl ?_
        refine SF_iload_n 0 53 dX8_fieldLine_52 rfl rfl rfl ?_
        refine SF_aload_n 1 54 dX8_fieldLine_53 rfl rfl rfl ?_
        refine SF_getI 57 fl_X8_136 dX8_fieldLine_54 k_l0.1 rfl ?_
        obtain ⟨v27, g28, q29, h⟩ := bd_some h
        have s30 := w_X7_init (X := X) (Nat.le_refl 1) a24 y15 (gI g22 l0 15) g22 g28 v27 k26 q29
        refine SF_callI 60 mi_X7_init ml_X8_148 dX8_fieldLine_57 (Nat.le_trans (by decide) hd) s30 rfl rfl (Nat.le_of_ble_eq_true rfl) rfl ?_
        have k_l0 := k_l0.ext s30.1
        have k26 := k26.ext s30.1
        refine SF_putR 63 fl_X8_32 dX8_fieldLine_60 k_l0.1 (fn_obj _ _) (Or.inl rfl) rfl ?_
        obtain ⟨g31, e32, h⟩ := lg_some h
        rw [← e32]
        have k_l0 := KD.eq e32 k_l0
        have k26 := KD.eq e32 k26
        refine SF_aload_n 1 64 dX8_fieldLine_63 rfl rfl rfl ?_
        obtain ⟨b33, r34, h⟩ := dr_some h
        refine SF_getR 67 fl_X8_32 dX8_fieldLine_64 k_l0.1 r34 rfl ?_
        refine SF_iconst (1 : Int32) 68 dX8_fieldLine_67 rfl rfl ?_
        obtain ⟨k35, h⟩ := gdK_some h
        refine SF_putI 71 fl_X8_151 dX8_fieldLine_68 k35.1 (fn_int _) (Or.inl rfl) rfl ?_
        obtain ⟨g36, e37, h⟩ := lg_some h
        rw [← e37]
        have k_l0 := KD.eq e37 k_l0
        have k26 := KD.eq e37 k26
        have k35 := KD.eq e37 k35
        have r34 := gR_eq e37 r34
        refine SF_aload_n 1 72 dX8_fieldLine_71 rfl rfl rfl ?_
        obtain ⟨b38, r39, h⟩ := dr_some h
        refine SF_getR 75 fl_X8_41 dX8_fieldLine_72 k_l0.1 r39 rfl ?_
        refine SF_aload_n 1 76 dX8_fieldLine_75 rfl rfl rfl ?_
        refine SF_getR 79 fl_X8_32 dX8_fieldLine_76 k_l0.1 r34 rfl ?_
        obtain ⟨k40, h⟩ := gdK_some h
        obtain ⟨v41, g42, q43, h⟩ := bd_some h
        have s44 := w_X0_clearFor (X := X) (Nat.le_refl 1) b38 b33 g36 g42 v41 k40 k35 q43
        refine SF_callVv 82 mi_X0_clearFor ml_X8_154 dX8_fieldLine_79 (Nat.le_trans (by decide) hd) s44 k40.1 rfl rfl (Nat.le_of_ble_eq_true rfl) rfl ?_
        have k_l0 := k_l0.ext s44.1
        have k26 := k26.ext s44.1
        have k35 := k35.ext s44.1
        have k40 := k40.ext s44.1
        refine SF_aload_n 1 83 dX8_fieldLine_82 rfl rfl rfl ?_
        refine SF_bipush (59 : Int32) 85 dX8_fieldLine_83 rfl rfl ?_
        obtain ⟨v45, g46, q47, h⟩ := bd_some h
        have s48 := w_X8_take (X := X) (Nat.le_refl 2) l0 (59 : Int32) g42 g46 v45 k_l0 q47
        refine SF_callVb 88 mi_X8_take ml_X8_157 dX8_fieldLine_85 (Nat.le_trans (by decide) hd) s48 k_l0.1 rfl rfl (Nat.le_of_ble_eq_true rfl) rfl ?_
        have k_l0 := k_l0.ext s48.1
        have k26 := k26.ext s48.1
        have k35 := k35.ext s48.1
        have k40 := k40.ext s48.1
        exact RT_b rfl rfl dX8_fieldLine_88 h
      · have h := ite_t c21 h
        refine SF_iconst (0 : Int32) 46 dX8_fieldLine_45 rfl rfl ?_
        exact RT_b rfl rfl dX8_fieldLine_46 h
    · have h := ite_t c14 h
      refine SF_iconst (0 : Int32) 29 dX8_fieldLine_28 rfl rfl ?_
      exact RT_b rfl rfl dX8_fieldLine_29 h
  · have h := ite_t c5 h
    refine SF_aload_n 0 10 dX8_fieldLine_9 rfl rfl rfl ?_
    obtain ⟨v49, g50, q51, h⟩ := bd_some h
    have s52 := w_X8_refuseToken (X := X) (Nat.le_refl 1) l0 g2 g50 v49 k_l0 q51
    refine SF_callVb 13 mi_X8_refuseToken ml_X8_133 dX8_fieldLine_10 (Nat.le_trans (by decide) hd) s52 k_l0.1 rfl rfl (Nat.le_of_ble_eq_true rfl) rfl ?_
    have k_l0 := k_l0.ext s52.1
    exact RT_b rfl rfl dX8_fieldLine_13 h

theorem dX7_isCell_0 : decode cX7_isCell 0 = .ok (.iload_n 1, 1) := by decide +kernel
theorem dX7_isCell_1 : decode cX7_isCell 1 = .ok (.ifCond .lt 21, 3) := by decide +kernel
theorem dX7_isCell_4 : decode cX7_isCell 4 = .ok (.iload_n 1, 1) := by decide +kernel
theorem dX7_isCell_5 : decode cX7_isCell 5 = .ok (.aload_n 0, 1) := by decide +kernel
theorem dX7_isCell_6 : decode cX7_isCell 6 = .ok (.getfield 40, 3) := by decide +kernel
theorem dX7_isCell_9 : decode cX7_isCell 9 = .ok (.if_icmp .ge 13, 3) := by decide +kernel
theorem dX7_isCell_12 : decode cX7_isCell 12 = .ok (.iload_n 1, 1) := by decide +kernel
theorem dX7_isCell_13 : decode cX7_isCell 13 = .ok (.bipush 36, 2) := by decide +kernel
theorem dX7_isCell_15 : decode cX7_isCell 15 = .ok (.if_icmp .ge 7, 3) := by decide +kernel
theorem dX7_isCell_18 : decode cX7_isCell 18 = .ok (.iconst 1, 1) := by decide +kernel
theorem dX7_isCell_19 : decode cX7_isCell 19 = .ok (.goto 4, 3) := by decide +kernel
theorem dX7_isCell_22 : decode cX7_isCell 22 = .ok (.iconst 0, 1) := by decide +kernel
theorem dX7_isCell_23 : decode cX7_isCell 23 = .ok (.ireturn, 1) := by decide +kernel
set_option maxRecDepth 20000 in
set_option maxHeartbeats 2000000 in
theorem w_X7_isCell {X : CX} {d : Nat} (hd : 0 ≤ d) (l0 : Nat) (l1 : Int32) (g g' : G) (rx : Bool) (k_l0 : KD g l0 7) (h : f_X7_isCell l0 l1 g = some (rx, g')) : Sem X m_X7_isCell d [.ref (ad X l0), .int l1] g (some (.int (b2i rx))) g' := by
  refine Sem_of (lo := [(0, .ref (ad X l0)), (1, .int l1)]) (by decide +kernel) rfl (Nat.le_of_ble_eq_true rfl) ?_
  rw [f_X7_isCell] at h
  refine SF_iload_n 1 1 dX7_isCell_0 rfl rfl rfl ?_
  refine SF_iflt 22 4 dX7_isCell_1 rfl rfl (fun c1 => ?_) (fun c1 => ?_)
  · have h := ite_t c1 h
    refine SF_iconst (0 : Int32) 23 dX7_isCell_22 rfl rfl ?_
    exact RT_b rfl rfl dX7_isCell_23 h
  · have h := ite_f c1 h
    refine SF_iload_n 1 5 dX7_isCell_4 rfl rfl rfl ?_
    refine SF_aload_n 0 6 dX7_isCell_5 rfl rfl rfl ?_
    refine SF_getI 9 fl_X7_40 dX7_isCell_6 k_l0.1 rfl ?_
    refine SF_icge 22 12 dX7_isCell_9 rfl rfl (fun c2 => ?_) (fun c2 => ?_)
    · have h := ite_t c2 h
      refine SF_iconst (0 : Int32) 23 dX7_isCell_22 rfl rfl ?_
      exact RT_b rfl rfl dX7_isCell_23 h
    · have h := ite_f c2 h
      refine SF_iload_n 1 13 dX7_isCell_12 rfl rfl rfl ?_
      refine SF_bipush (36 : Int32) 15 dX7_isCell_13 rfl rfl ?_
      refine SF_icge 22 18 dX7_isCell_15 rfl rfl (fun c3 => ?_) (fun c3 => ?_)
      · have h := ite_t c3 h
        refine SF_iconst (0 : Int32) 23 dX7_isCell_22 rfl rfl ?_
        exact RT_b rfl rfl dX7_isCell_23 h
      · have h := ite_f c3 h
        refine SF_iconst (1 : Int32) 19 dX7_isCell_18 rfl rfl ?_
        refine SF_goto 23 dX7_isCell_19 rfl ?_
        exact RT_b rfl rfl dX7_isCell_23 h

theorem dX8_tell_0 : decode cX8_tell 0 = .ok (.aload_n 0, 1) := by decide +kernel
theorem dX8_tell_1 : decode cX8_tell 1 = .ok (.getfield 32, 3) := by decide +kernel
theorem dX8_tell_4 : decode cX8_tell 4 = .ok (.iload_n 1, 1) := by decide +kernel
theorem dX8_tell_5 : decode cX8_tell 5 = .ok (.invokevirtual 185, 3) := by decide +kernel
theorem dX8_tell_8 : decode cX8_tell 8 = .ok (.ifCond .eq 67, 3) := by decide +kernel
theorem dX8_tell_11 : decode cX8_tell 11 = .ok (.iload_n 2, 1) := by decide +kernel
theorem dX8_tell_12 : decode cX8_tell 12 = .ok (.bipush 9, 2) := by decide +kernel
theorem dX8_tell_14 : decode cX8_tell 14 = .ok (.if_icmp .ne 7, 3) := by decide +kernel
theorem dX8_tell_17 : decode cX8_tell 17 = .ok (.iconst 1, 1) := by decide +kernel
theorem dX8_tell_18 : decode cX8_tell 18 = .ok (.goto 4, 3) := by decide +kernel
theorem dX8_tell_21 : decode cX8_tell 21 = .ok (.iconst 0, 1) := by decide +kernel
theorem dX8_tell_22 : decode cX8_tell 22 = .ok (.istore_n 3, 1) := by decide +kernel
theorem dX8_tell_23 : decode cX8_tell 23 = .ok (.aload_n 0, 1) := by decide +kernel
theorem dX8_tell_24 : decode cX8_tell 24 = .ok (.getfield 32, 3) := by decide +kernel
theorem dX8_tell_27 : decode cX8_tell 27 = .ok (.getfield 188, 3) := by decide +kernel
theorem dX8_tell_30 : decode cX8_tell 30 = .ok (.iload_n 1, 1) := by decide +kernel
theorem dX8_tell_31 : decode cX8_tell 31 = .ok (.iload_n 3, 1) := by decide +kernel
theorem dX8_tell_32 : decode cX8_tell 32 = .ok (.ifCond .eq 7, 3) := by decide +kernel
theorem dX8_tell_35 : decode cX8_tell 35 = .ok (.iconst 0, 1) := by decide +kernel
theorem dX8_tell_36 : decode cX8_tell 36 = .ok (.goto 4, 3) := by decide +kernel
theorem dX8_tell_39 : decode cX8_tell 39 = .ok (.iload_n 2, 1) := by decide +kernel
theorem dX8_tell_40 : decode cX8_tell 40 = .ok (.iastore, 1) := by decide +kernel
theorem dX8_tell_41 : decode cX8_tell 41 = .ok (.aload_n 0, 1) := by decide +kernel
theorem dX8_tell_42 : decode cX8_tell 42 = .ok (.getfield 41, 3) := by decide +kernel
theorem dX8_tell_45 : decode cX8_tell 45 = .ok (.aload_n 0, 1) := by decide +kernel
theorem dX8_tell_46 : decode cX8_tell 46 = .ok (.getfield 41, 3) := by decide +kernel
theorem dX8_tell_49 : decode cX8_tell 49 = .ok (.getfield 191, 3) := by decide +kernel
theorem dX8_tell_52 : decode cX8_tell 52 = .ok (.lconst 1, 1) := by decide +kernel
theorem dX8_tell_53 : decode cX8_tell 53 = .ok (.iload_n 1, 1) := by decide +kernel
theorem dX8_tell_54 : decode cX8_tell 54 = .ok (.lshl, 1) := by decide +kernel
theorem dX8_tell_55 : decode cX8_tell 55 = .ok (.ldc2_w 195, 3) := by decide +kernel
theorem dX8_tell_58 : decode cX8_tell 58 = .ok (.lxor, 1) := by decide +kernel
theorem dX8_tell_59 : decode cX8_tell 59 = .ok (.land, 1) := by decide +kernel
theorem dX8_tell_60 : decode cX8_tell 60 = .ok (.iload_n 3, 1) := by decide +kernel
theorem dX8_tell_61 : decode cX8_tell 61 = .ok (.ifCond .eq 9, 3) := by decide +kernel
theorem dX8_tell_64 : decode cX8_tell 64 = .ok (.lconst 1, 1) := by decide +kernel
theorem dX8_tell_65 : decode cX8_tell 65 = .ok (.iload_n 1, 1) := by decide +kernel
theorem dX8_tell_66 : decode cX8_tell 66 = .ok (.lshl, 1) := by decide +kernel
theorem dX8_tell_67 : decode cX8_tell 67 = .ok (.goto 4, 3) := by decide +kernel
theorem dX8_tell_70 : decode cX8_tell 70 = .ok (.lconst 0, 1) := by decide +kernel
theorem dX8_tell_71 : decode cX8_tell 71 = .ok (.lor, 1) := by decide +kernel
theorem dX8_tell_72 : decode cX8_tell 72 = .ok (.putfield 191, 3) := by decide +kernel
theorem dX8_tell_75 : decode cX8_tell 75 = .ok (.return_, 1) := by decide +kernel
set_option maxRecDepth 20000 in
set_option maxHeartbeats 2000000 in
theorem w_X8_tell_71 {X : CX} {d : Nat} (hd : 1 ≤ d) {g' : G} {rx : Unit} (s0 : Int64) (s1 : Int64) (s2 : Nat) (g : G) (k_s2 : KD g s2 0) (h : f_X8_tell_71 s0 s1 s2 g = some (rx, g')) : SemF X m_X8_tell d 71 [] [.long s0, .long s1, .ref (ad X s2)] g none g' := by
  rw [f_X8_tell_71] at h
  refine SF_lor 72 dX8_tell_71 rfl ?_
  refine SF_putL 75 fl_X8_191 dX8_tell_72 k_s2.1 (fn_long _) (Or.inl rfl) rfl ?_
  obtain ⟨g1, e2, h⟩ := lg_some h
  rw [← e2]
  have k_s2 := KD.eq e2 k_s2
  exact RT_v rfl dX8_tell_75 h

set_option maxRecDepth 20000 in
set_option maxHeartbeats 2000000 in
theorem w_X8_tell_40 {X : CX} {d : Nat} (hd : 1 ≤ d) {g' : G} {rx : Unit} (l0 : Nat) (l1 : Int32) (l3 : Int32) (s0 : Int32) (s1 : Int32) (s2 : Nat) (g : G) (k_l0 : KD g l0 8) (k_s2 : KD g s2 14) (h : f_X8_tell_40 l0 l1 l3 s0 s1 s2 g = some (rx, g')) : SemF X m_X8_tell d 40 [(0, .ref (ad X l0)), (1, .int l1), (3, .int l3)] [.int s0, .int s1, .ref (ad X s2)] g none g' := by
  rw [f_X8_tell_40] at h
  obtain ⟨i1, h⟩ := gdI_some h
  refine SF_iast 41 dX8_tell_40 k_s2.1 i1 rfl ?_
  obtain ⟨g2, e3, h⟩ := lg_some h
  rw [← e3]
  have k_l0 := KD.eq e3 k_l0
  have k_s2 := KD.eq e3 k_s2
  have i1 := vp_eq e3 i1
  refine SF_aload_n 0 42 dX8_tell_41 rfl rfl rfl ?_
  obtain ⟨b4, r5, h⟩ := dr_some h
  refine SF_getR 45 fl_X8_41 dX8_tell_42 k_l0.1 r5 rfl ?_
  refine SF_aload_n 0 46 dX8_tell_45 rfl rfl rfl ?_
  refine SF_getR 49 fl_X8_41 dX8_tell_46 k_l0.1 r5 rfl ?_
  obtain ⟨k6, h⟩ := gdK_some h
  refine SF_getL 52 fl_X8_191 dX8_tell_49 k6.1 rfl ?_
  refine SF_lconst (1 : Int64) 53 dX8_tell_52 rfl rfl ?_
  refine SF_iload_n 1 54 dX8_tell_53 rfl rfl rfl ?_
  refine SF_lshl 55 dX8_tell_54 rfl ?_
  refine SF_ldc2 58 dX8_tell_55 kl_X8_195 rfl ?_
  refine SF_lxor 59 dX8_tell_58 rfl ?_
  refine SF_land 60 dX8_tell_59 rfl ?_
  refine SF_iload_n 2 61 dX8_tell_60 rfl rfl rfl ?_
  refine SF_ifeq 70 64 dX8_tell_61 rfl rfl (fun c7 => ?_) (fun c7 => ?_)
  · have h := ite_t c7 h
    refine SF_lconst (0 : Int64) 71 dX8_tell_70 rfl rfl ?_
    refine SF_sub [] rfl ?_
    exact w_X8_tell_71 hd (0 : Int64) ((gL g2 b4 1) &&& (((1 : Int64) <<< (l1.toInt64 &&& 63)) ^^^ (-1 : Int64))) b4 g2 k6 h
  · have h := ite_f c7 h
    refine SF_lconst (1 : Int64) 65 dX8_tell_64 rfl rfl ?_
    refine SF_iload_n 1 66 dX8_tell_65 rfl rfl rfl ?_
    refine SF_lshl 67 dX8_tell_66 rfl ?_
    refine SF_goto 71 dX8_tell_67 rfl ?_
    refine SF_sub [] rfl ?_
    exact w_X8_tell_71 hd ((1 : Int64) <<< (l1.toInt64 &&& 63)) ((gL g2 b4 1) &&& (((1 : Int64) <<< (l1.toInt64 &&& 63)) ^^^ (-1 : Int64))) b4 g2 k6 h

set_option maxRecDepth 20000 in
set_option maxHeartbeats 2000000 in
theorem w_X8_tell_22 {X : CX} {d : Nat} (hd : 1 ≤ d) {g' : G} {rx : Unit} (l0 : Nat) (l1 : Int32) (l2 : Int32) (s0 : Int32) (g : G) (k_l0 : KD g l0 8) (h : f_X8_tell_22 l0 l1 l2 s0 g = some (rx, g')) : SemF X m_X8_tell d 22 [(0, .ref (ad X l0)), (1, .int l1), (2, .int l2)] [.int s0] g none g' := by
  rw [f_X8_tell_22] at h
  refine SF_istore_n [(3, .int s0), (0, .ref (ad X l0)), (1, .int l1), (2, .int l2)] 23 dX8_tell_22 rfl (by decide) rfl rfl ?_
  refine SF_aload_n 1 24 dX8_tell_23 rfl rfl rfl ?_
  obtain ⟨b1, r2, h⟩ := dr_some h
  refine SF_getR 27 fl_X8_32 dX8_tell_24 k_l0.1 r2 rfl ?_
  obtain ⟨k3, h⟩ := gdK_some h
  obtain ⟨b4, r5, h⟩ := dr_some h
  refine SF_getR 30 fl_X8_188 dX8_tell_27 k3.1 r5 rfl ?_
  refine SF_iload_n 2 31 dX8_tell_30 rfl rfl rfl ?_
  refine SF_iload_n 0 32 dX8_tell_31 rfl rfl rfl ?_
  refine SF_ifeq 39 35 dX8_tell_32 rfl rfl (fun c6 => ?_) (fun c6 => ?_)
  · have h := ite_t c6 h
    refine SF_iload_n 3 40 dX8_tell_39 rfl rfl rfl ?_
    obtain ⟨k7, h⟩ := gdK_some h
    refine SF_sub [1, 2, 0] rfl ?_
    exact w_X8_tell_40 hd l0 l1 s0 l2 l1 b4 g k_l0 k7 h
  · have h := ite_f c6 h
    refine SF_iconst (0 : Int32) 36 dX8_tell_35 rfl rfl ?_
    refine SF_goto 40 dX8_tell_36 rfl ?_
    obtain ⟨k8, h⟩ := gdK_some h
    refine SF_sub [1, 2, 0] rfl ?_
    exact w_X8_tell_40 hd l0 l1 s0 (0 : Int32) l1 b4 g k_l0 k8 h

set_option maxRecDepth 20000 in
set_option maxHeartbeats 2000000 in
theorem w_X8_tell {X : CX} {d : Nat} (hd : 1 ≤ d) (l0 : Nat) (l1 : Int32) (l2 : Int32) (g g' : G) (rx : Unit) (k_l0 : KD g l0 8) (h : f_X8_tell l0 l1 l2 g = some (rx, g')) : Sem X m_X8_tell d [.ref (ad X l0), .int l1, .int l2] g none g' := by
  refine Sem_of (lo := [(0, .ref (ad X l0)), (1, .int l1), (2, .int l2)]) (by decide +kernel) rfl (Nat.le_of_ble_eq_true rfl) ?_
  rw [f_X8_tell] at h
  refine SF_aload_n 0 1 dX8_tell_0 rfl rfl rfl ?_
  obtain ⟨b1, r2, h⟩ := dr_some h
  refine SF_getR 4 fl_X8_32 dX8_tell_1 k_l0.1 r2 rfl ?_
  refine SF_iload_n 1 5 dX8_tell_4 rfl rfl rfl ?_
  obtain ⟨k3, h⟩ := gdK_some h
  obtain ⟨v4, g5, q6, h⟩ := bd_some h
  have s7 := w_X7_isCell (X := X) (Nat.le_refl 0) b1 l1 g g5 v4 k3 q6
  refine SF_callVb 8 mi_X7_isCell ml_X8_185 dX8_tell_5 (Nat.le_trans (by decide) hd) s7 k3.1 rfl rfl (Nat.le_of_ble_eq_true rfl) rfl ?_
  have k_l0 := k_l0.ext s7.1
  have k3 := k3.ext s7.1
  refine SF_ifeq 75 11 dX8_tell_8 rfl rfl (fun c8 => ?_) (fun c8 => ?_)
  · have h := ite_t c8 h
    exact RT_v rfl dX8_tell_75 h
  · have h := ite_f c8 h
    refine SF_iload_n 2 12 dX8_tell_11 rfl rfl rfl ?_
    refine SF_bipush (9 : Int32) 14 dX8_tell_12 rfl rfl ?_
    refine SF_icne 21 17 dX8_tell_14 rfl rfl (fun c9 => ?_) (fun c9 => ?_)
    · have h := ite_f c9 h
      refine SF_iconst (0 : Int32) 22 dX8_tell_21 rfl rfl ?_
      exact w_X8_tell_22 hd l0 l1 l2 (0 : Int32) g5 k_l0 h
    · have h := ite_t c9 h
      refine SF_iconst (1 : Int32) 18 dX8_tell_17 rfl rfl ?_
      refine SF_goto 22 dX8_tell_18 rfl ?_
      exact w_X8_tell_22 hd l0 l1 l2 (1 : Int32) g5 k_l0 h

theorem dX8_rowLine_0 : decode cX8_rowLine 0 = .ok (.aload_n 0, 1) := by decide +kernel
theorem dX8_rowLine_1 : decode cX8_rowLine 1 = .ok (.invokevirtual 66, 3) := by decide +kernel
theorem dX8_rowLine_4 : decode cX8_rowLine 4 = .ok (.aload_n 0, 1) := by decide +kernel
theorem dX8_rowLine_5 : decode cX8_rowLine 5 = .ok (.iconst 0, 1) := by decide +kernel
theorem dX8_rowLine_6 : decode cX8_rowLine 6 = .ok (.aload_n 0, 1) := by decide +kernel
theorem dX8_rowLine_7 : decode cX8_rowLine 7 = .ok (.getfield 32, 3) := by decide +kernel
theorem dX8_rowLine_10 : decode cX8_rowLine 10 = .ok (.getfield 176, 3) := by decide +kernel
theorem dX8_rowLine_13 : decode cX8_rowLine 13 = .ok (.iconst 1, 1) := by decide +kernel
theorem dX8_rowLine_14 : decode cX8_rowLine 14 = .ok (.isub, 1) := by decide +kernel
theorem dX8_rowLine_15 : decode cX8_rowLine 15 = .ok (.invokevirtual 142, 3) := by decide +kernel
theorem dX8_rowLine_18 : decode cX8_rowLine 18 = .ok (.ifCond .ne 5, 3) := by decide +kernel
theorem dX8_rowLine_21 : decode cX8_rowLine 21 = .ok (.iconst 0, 1) := by decide +kernel
theorem dX8_rowLine_22 : decode cX8_rowLine 22 = .ok (.ireturn, 1) := by decide +kernel
theorem dX8_rowLine_23 : decode cX8_rowLine 23 = .ok (.aload_n 0, 1) := by decide +kernel
theorem dX8_rowLine_24 : decode cX8_rowLine 24 = .ok (.getfield 136, 3) := by decide +kernel
theorem dX8_rowLine_27 : decode cX8_rowLine 27 = .ok (.aload_n 0, 1) := by decide +kernel
theorem dX8_rowLine_28 : decode cX8_rowLine 28 = .ok (.getfield 32, 3) := by decide +kernel
theorem dX8_rowLine_31 : decode cX8_rowLine 31 = .ok (.getfield 179, 3) := by decide +kernel
theorem dX8_rowLine_34 : decode cX8_rowLine 34 = .ok (.imul, 1) := by decide +kernel
theorem dX8_rowLine_35 : decode cX8_rowLine 35 = .ok (.istore_n 1, 1) := by decide +kernel
theorem dX8_rowLine_36 : decode cX8_rowLine 36 = .ok (.iconst 0, 1) := by decide +kernel
theorem dX8_rowLine_37 : decode cX8_rowLine 37 = .ok (.istore_n 2, 1) := by decide +kernel
theorem dX8_rowLine_38 : decode cX8_rowLine 38 = .ok (.iload_n 2, 1) := by decide +kernel
theorem dX8_rowLine_39 : decode cX8_rowLine 39 = .ok (.aload_n 0, 1) := by decide +kernel
theorem dX8_rowLine_40 : decode cX8_rowLine 40 = .ok (.getfield 32, 3) := by decide +kernel
theorem dX8_rowLine_43 : decode cX8_rowLine 43 = .ok (.getfield 179, 3) := by decide +kernel
theorem dX8_rowLine_46 : decode cX8_rowLine 46 = .ok (.if_icmp .ge 32, 3) := by decide +kernel
theorem dX8_rowLine_49 : decode cX8_rowLine 49 = .ok (.aload_n 0, 1) := by decide +kernel
theorem dX8_rowLine_50 : decode cX8_rowLine 50 = .ok (.iconst 0, 1) := by decide +kernel
theorem dX8_rowLine_51 : decode cX8_rowLine 51 = .ok (.bipush 9, 2) := by decide +kernel
theorem dX8_rowLine_53 : decode cX8_rowLine 53 = .ok (.invokevirtual 142, 3) := by decide +kernel
theorem dX8_rowLine_56 : decode cX8_rowLine 56 = .ok (.ifCond .ne 5, 3) := by decide +kernel
theorem dX8_rowLine_59 : decode cX8_rowLine 59 = .ok (.iconst 0, 1) := by decide +kernel
theorem dX8_rowLine_60 : decode cX8_rowLine 60 = .ok (.ireturn, 1) := by decide +kernel
theorem dX8_rowLine_61 : decode cX8_rowLine 61 = .ok (.aload_n 0, 1) := by decide +kernel
theorem dX8_rowLine_62 : decode cX8_rowLine 62 = .ok (.iload_n 1, 1) := by decide +kernel
theorem dX8_rowLine_63 : decode cX8_rowLine 63 = .ok (.iload_n 2, 1) := by decide +kernel
theorem dX8_rowLine_64 : decode cX8_rowLine 64 = .ok (.iadd, 1) := by decide +kernel
theorem dX8_rowLine_65 : decode cX8_rowLine 65 = .ok (.aload_n 0, 1) := by decide +kernel
theorem dX8_rowLine_66 : decode cX8_rowLine 66 = .ok (.getfield 136, 3) := by decide +kernel
theorem dX8_rowLine_69 : decode cX8_rowLine 69 = .ok (.invokevirtual 182, 3) := by decide +kernel
theorem dX8_rowLine_72 : decode cX8_rowLine 72 = .ok (.iinc 2 1, 3) := by decide +kernel
theorem dX8_rowLine_75 : decode cX8_rowLine 75 = .ok (.goto (-37), 3) := by decide +kernel
theorem dX8_rowLine_78 : decode cX8_rowLine 78 = .ok (.iconst 1, 1) := by decide +kernel
theorem dX8_rowLine_79 : decode cX8_rowLine 79 = .ok (.ireturn, 1) := by decide +kernel
set_option maxRecDepth 20000 in
set_option maxHeartbeats 2000000 in
theorem w_X8_rowLine_38 {X : CX} {d : Nat} (hd : 3 ≤ d) {g' : G} {rx : Bool} : ∀ (n : Nat) (l0 : Nat) (l1 : Int32) (l2 : Int32) (g : G), KD g l0 8 → f_X8_rowLine_38 n l0 l1 l2 g = some (rx, g') → SemF X m_X8_rowLine d 38 [(0, .ref (ad X l0)), (1, .int l1), (2, .int l2)] [] g (some (.int (b2i rx))) g' := by
  intro n
  induction n with
  | zero =>
    intro l0 l1 l2 g k_l0 h
    rw [f_X8_rowLine_38] at h
    cases h
  | succ n ih =>
  intro l0 l1 l2 g k_l0 h
  rw [f_X8_rowLine_38] at h
  refine SF_iload_n 2 39 dX8_rowLine_38 rfl rfl rfl ?_
  refine SF_aload_n 0 40 dX8_rowLine_39 rfl rfl rfl ?_
  obtain ⟨b1, r2, h⟩ := dr_some h
  refine SF_getR 43 fl_X8_32 dX8_rowLine_40 k_l0.1 r2 rfl ?_
  obtain ⟨k3, h⟩ := gdK_some h
  refine SF_getI 46 fl_X8_179 dX8_rowLine_43 k3.1 rfl ?_
  refine SF_icge 78 49 dX8_rowLine_46 rfl rfl (fun c4 => ?_) (fun c4 => ?_)
  · have h := ite_t c4 h
    refine SF_iconst (1 : Int32) 79 dX8_rowLine_78 rfl rfl ?_
    exact RT_b rfl rfl dX8_rowLine_79 h
  · have h := ite_f c4 h
    refine SF_aload_n 0 50 dX8_rowLine_49 rfl rfl rfl ?_
    refine SF_iconst (0 : Int32) 51 dX8_rowLine_50 rfl rfl ?_
    refine SF_bipush (9 : Int32) 53 dX8_rowLine_51 rfl rfl ?_
    obtain ⟨v5, g6, q7, h⟩ := bd_some h
    have s8 := w_X8_takeNumber (X := X) (Nat.le_refl 2) l0 (0 : Int32) (9 : Int32) g g6 v5 k_l0 q7
    refine SF_callVb 56 mi_X8_takeNumber ml_X8_142 dX8_rowLine_53 (Nat.le_trans (by decide) hd) s8 k_l0.1 rfl rfl (Nat.le_of_ble_eq_true rfl) rfl ?_
    have k_l0 := k_l0.ext s8.1
    have k3 := k3.ext s8.1
    refine SF_ifne 61 59 dX8_rowLine_56 rfl rfl (fun c9 => ?_) (fun c9 => ?_)
    · have h := ite_f c9 h
      refine SF_aload_n 0 62 dX8_rowLine_61 rfl rfl rfl ?_
      refine SF_iload_n 1 63 dX8_rowLine_62 rfl rfl rfl ?_
      refine SF_iload_n 2 64 dX8_rowLine_63 rfl rfl rfl ?_
      refine SF_iadd 65 dX8_rowLine_64 rfl ?_
      refine SF_aload_n 0 66 dX8_rowLine_65 rfl rfl rfl ?_
      refine SF_getI 69 fl_X8_136 dX8_rowLine_66 k_l0.1 rfl ?_
      obtain ⟨v10, g11, q12, h⟩ := bd_some h
      have s13 := w_X8_tell (X := X) (Nat.le_refl 1) l0 (l1 + l2) (gI g6 l0 15) g6 g11 v10 k_l0 q12
      refine SF_callVv 72 mi_X8_tell ml_X8_182 dX8_rowLine_69 (Nat.le_trans (by decide) hd) s13 k_l0.1 rfl rfl (Nat.le_of_ble_eq_true rfl) rfl ?_
      have k_l0 := k_l0.ext s13.1
      have k3 := k3.ext s13.1
      refine SF_iinc 2 (l2 + (1 : Int32)) [(2, .int (l2 + (1 : Int32))), (0, .ref (ad X l0)), (1, .int l1)] 75 dX8_rowLine_72 rfl rfl (by decide) rfl rfl ?_
      refine SF_goto 38 dX8_rowLine_75 rfl ?_
      refine SF_sub [1, 2, 0] rfl ?_
      exact ih l0 l1 (l2 + (1 : Int32)) g11 k_l0 h
    · have h := ite_t c9 h
      refine SF_iconst (0 : Int32) 60 dX8_rowLine_59 rfl rfl ?_
      exact RT_b rfl rfl dX8_rowLine_60 h

set_option maxRecDepth 20000 in
set_option maxHeartbeats 2000000 in
theorem w_X8_rowLine {X : CX} {d : Nat} (hd : 3 ≤ d) (l0 : Nat) (g g' : G) (rx : Bool) (k_l0 : KD g l0 8) (h : f_X8_rowLine l0 g = some (rx, g')) : Sem X m_X8_rowLine d [.ref (ad X l0)] g (some (.int (b2i rx))) g' := by
  refine Sem_of (lo := [(0, .ref (ad X l0))]) (by decide +kernel) rfl (Nat.le_of_ble_eq_true rfl) ?_
  rw [f_X8_rowLine] at h
  refine SF_aload_n 0 1 dX8_rowLine_0 rfl rfl rfl ?_
  obtain ⟨v1, g2, q3, h⟩ := bd_some h
  have s4 := w_X8_look (X := X) (Nat.le_refl 0) l0 g g2 v1 k_l0 q3
  refine SF_callVv 4 mi_X8_look ml_X8_66 dX8_rowLine_1 (Nat.le_trans (by decide) hd) s4 k_l0.1 rfl rfl (Nat.le_of_ble_eq_true rfl) rfl ?_
  have k_l0 := k_l0.ext s4.1
  refine SF_aload_n 0 5 dX8_rowLine_4 rfl rfl rfl ?_
  refine SF_iconst (0 : Int32) 6 dX8_rowLine_5 rfl rfl ?_
  refine SF_aload_n 0 7 dX8_rowLine_6 rfl rfl rfl ?_
  obtain ⟨b5, r6, h⟩ := dr_some h
  refine SF_getR 10 fl_X8_32 dX8_rowLine_7 k_l0.1 r6 rfl ?_
  obtain ⟨k7, h⟩ := gdK_some h
  refine SF_getI 13 fl_X8_176 dX8_rowLine_10 k7.1 rfl ?_
  refine SF_iconst (1 : Int32) 14 dX8_rowLine_13 rfl rfl ?_
  refine SF_isub 15 dX8_rowLine_14 rfl ?_
  obtain ⟨v8, g9, q10, h⟩ := bd_some h
  have s11 := w_X8_takeNumber (X := X) (Nat.le_refl 2) l0 (0 : Int32) ((gI g2 b5 0) - (1 : Int32)) g2 g9 v8 k_l0 q10
  refine SF_callVb 18 mi_X8_takeNumber ml_X8_142 dX8_rowLine_15 (Nat.le_trans (by decide) hd) s11 k_l0.1 rfl rfl (Nat.le_of_ble_eq_true rfl) rfl ?_
  have k_l0 := k_l0.ext s11.1
  have k7 := k7.ext s11.1
  refine SF_ifne 23 21 dX8_rowLine_18 rfl rfl (fun c12 => ?_) (fun c12 => ?_)
  · have h := ite_f c12 h
    refine SF_aload_n 0 24 dX8_rowLine_23 rfl rfl rfl ?_
    refine SF_getI 27 fl_X8_136 dX8_rowLine_24 k_l0.1 rfl ?_
    refine SF_aload_n 0 28 dX8_rowLine_27 rfl rfl rfl ?_
    obtain ⟨b13, r14, h⟩ := dr_some h
    refine SF_getR 31 fl_X8_32 dX8_rowLine_28 k_l0.1 r14 rfl ?_
    obtain ⟨k15, h⟩ := gdK_some h
    refine SF_getI 34 fl_X8_179 dX8_rowLine_31 k15.1 rfl ?_
    refine SF_imul 35 dX8_rowLine_34 rfl ?_
    obtain ⟨y16, e17, h⟩ := li_some h
    refine SF_eqI e17 ?_
    refine SF_istore_n [(1, .int y16), (0, .ref (ad X l0))] 36 dX8_rowLine_35 rfl (by decide) rfl rfl ?_
    refine SF_iconst (0 : Int32) 37 dX8_rowLine_36 rfl rfl ?_
    refine SF_istore_n [(2, .int (0 : Int32)), (1, .int y16), (0, .ref (ad X l0))] 38 dX8_rowLine_37 rfl (by decide) rfl rfl ?_
    refine SF_sub [2, 1, 0] rfl ?_
    exact w_X8_rowLine_38 hd FU l0 y16 (0 : Int32) g9 k_l0 h
  · have h := ite_t c12 h
    refine SF_iconst (0 : Int32) 22 dX8_rowLine_21 rfl rfl ?_
    exact RT_b rfl rfl dX8_rowLine_22 h

theorem dX8_endLine_0 : decode cX8_endLine 0 = .ok (.aload_n 0, 1) := by decide +kernel
theorem dX8_endLine_1 : decode cX8_endLine 1 = .ok (.getfield 32, 3) := by decide +kernel
theorem dX8_endLine_4 : decode cX8_endLine 4 = .ok (.dup, 1) := by decide +kernel
theorem dX8_endLine_5 : decode cX8_endLine 5 = .ok (.getfield 151, 3) := by decide +kernel
theorem dX8_endLine_8 : decode cX8_endLine 8 = .ok (.iconst 1, 1) := by decide +kernel
theorem dX8_endLine_9 : decode cX8_endLine 9 = .ok (.iadd, 1) := by decide +kernel
theorem dX8_endLine_10 : decode cX8_endLine 10 = .ok (.putfield 151, 3) := by decide +kernel
theorem dX8_endLine_13 : decode cX8_endLine 13 = .ok (.aload_n 0, 1) := by decide +kernel
theorem dX8_endLine_14 : decode cX8_endLine 14 = .ok (.bipush 59, 2) := by decide +kernel
theorem dX8_endLine_16 : decode cX8_endLine 16 = .ok (.invokevirtual 157, 3) := by decide +kernel
theorem dX8_endLine_19 : decode cX8_endLine 19 = .ok (.ireturn, 1) := by decide +kernel
set_option maxRecDepth 20000 in
set_option maxHeartbeats 2000000 in
theorem w_X8_endLine {X : CX} {d : Nat} (hd : 3 ≤ d) (l0 : Nat) (g g' : G) (rx : Bool) (k_l0 : KD g l0 8) (h : f_X8_endLine l0 g = some (rx, g')) : Sem X m_X8_endLine d [.ref (ad X l0)] g (some (.int (b2i rx))) g' := by
  refine Sem_of (lo := [(0, .ref (ad X l0))]) (by decide +kernel) rfl (Nat.le_of_ble_eq_true rfl) ?_
  rw [f_X8_endLine] at h
  refine SF_aload_n 0 1 dX8_endLine_0 rfl rfl rfl ?_
  obtain ⟨b1, r2, h⟩ := dr_some h
  refine SF_getR 4 fl_X8_32 dX8_endLine_1 k_l0.1 r2 rfl ?_
  refine SF_dup 5 dX8_endLine_4 rfl rfl ?_
  obtain ⟨k3, h⟩ := gdK_some h
  refine SF_getI 8 fl_X8_151 dX8_endLine_5 k3.1 rfl ?_
  refine SF_iconst (1 : Int32) 9 dX8_endLine_8 rfl rfl ?_
  refine SF_iadd 10 dX8_endLine_9 rfl ?_
  refine SF_putI 13 fl_X8_151 dX8_endLine_10 k3.1 (fn_int _) (Or.inl rfl) rfl ?_
  obtain ⟨g4, e5, h⟩ := lg_some h
  rw [← e5]
  have k_l0 := KD.eq e5 k_l0
  have k3 := KD.eq e5 k3
  have r2 := gR_eq e5 r2
  refine SF_aload_n 0 14 dX8_endLine_13 rfl rfl rfl ?_
  refine SF_bipush (59 : Int32) 16 dX8_endLine_14 rfl rfl ?_
  obtain ⟨v6, g7, q8, h⟩ := bd_some h
  have s9 := w_X8_take (X := X) (Nat.le_refl 2) l0 (59 : Int32) g4 g7 v6 k_l0 q8
  refine SF_callVb 19 mi_X8_take ml_X8_157 dX8_endLine_16 (Nat.le_trans (by decide) hd) s9 k_l0.1 rfl rfl (Nat.le_of_ble_eq_true rfl) rfl ?_
  have k_l0 := k_l0.ext s9.1
  have k3 := k3.ext s9.1
  exact RT_b rfl rfl dX8_endLine_19 h

theorem dX0_isPair_0 : decode cX0_isPair 0 = .ok (.iload_n 1, 1) := by decide +kernel
theorem dX0_isPair_1 : decode cX0_isPair 1 = .ok (.ifCond .lt 23, 3) := by decide +kernel
theorem dX0_isPair_4 : decode cX0_isPair 4 = .ok (.iload_n 1, 1) := by decide +kernel
theorem dX0_isPair_5 : decode cX0_isPair 5 = .ok (.aload_n 0, 1) := by decide +kernel
theorem dX0_isPair_6 : decode cX0_isPair 6 = .ok (.getfield 24, 3) := by decide +kernel
theorem dX0_isPair_9 : decode cX0_isPair 9 = .ok (.getfield 44, 3) := by decide +kernel
theorem dX0_isPair_12 : decode cX0_isPair 12 = .ok (.if_icmp .ge 12, 3) := by decide +kernel
theorem dX0_isPair_15 : decode cX0_isPair 15 = .ok (.iload_n 1, 1) := by decide +kernel
theorem dX0_isPair_16 : decode cX0_isPair 16 = .ok (.iconst 3, 1) := by decide +kernel
theorem dX0_isPair_17 : decode cX0_isPair 17 = .ok (.if_icmp .ge 7, 3) := by decide +kernel
theorem dX0_isPair_20 : decode cX0_isPair 20 = .ok (.iconst 1, 1) := by decide +kernel
theorem dX0_isPair_21 : decode cX0_isPair 21 = .ok (.goto 4, 3) := by decide +kernel
theorem dX0_isPair_24 : decode cX0_isPair 24 = .ok (.iconst 0, 1) := by decide +kernel
theorem dX0_isPair_25 : decode cX0_isPair 25 = .ok (.ireturn, 1) := by decide +kernel
set_option maxRecDepth 20000 in
set_option maxHeartbeats 2000000 in
theorem w_X0_isPair {X : CX} {d : Nat} (hd : 0 ≤ d) (l0 : Nat) (l1 : Int32) (g g' : G) (rx : Bool) (k_l0 : KD g l0 0) (h : f_X0_isPair l0 l1 g = some (rx, g')) : Sem X m_X0_isPair d [.ref (ad X l0), .int l1] g (some (.int (b2i rx))) g' := by
  refine Sem_of (lo := [(0, .ref (ad X l0)), (1, .int l1)]) (by decide +kernel) rfl (Nat.le_of_ble_eq_true rfl) ?_
  rw [f_X0_isPair] at h
  refine SF_iload_n 1 1 dX0_isPair_0 rfl rfl rfl ?_
  refine SF_iflt 24 4 dX0_isPair_1 rfl rfl (fun c1 => ?_) (fun c1 => ?_)
  · have h := ite_t c1 h
    refine SF_iconst (0 : Int32) 25 dX0_isPair_24 rfl rfl ?_
    exact RT_b rfl rfl dX0_isPair_25 h
  · have h := ite_f c1 h
    refine SF_iload_n 1 5 dX0_isPair_4 rfl rfl rfl ?_
    refine SF_aload_n 0 6 dX0_isPair_5 rfl rfl rfl ?_
    obtain ⟨b2, r3, h⟩ := dr_some h
    refine SF_getR 9 fl_X0_24 dX0_isPair_6 k_l0.1 r3 rfl ?_
    obtain ⟨k4, h⟩ := gdK_some h
    refine SF_getI 12 fl_X0_44 dX0_isPair_9 k4.1 rfl ?_
    refine SF_icge 24 15 dX0_isPair_12 rfl rfl (fun c5 => ?_) (fun c5 => ?_)
    · have h := ite_t c5 h
      refine SF_iconst (0 : Int32) 25 dX0_isPair_24 rfl rfl ?_
      exact RT_b rfl rfl dX0_isPair_25 h
    · have h := ite_f c5 h
      refine SF_iload_n 1 16 dX0_isPair_15 rfl rfl rfl ?_
      refine SF_iconst (3 : Int32) 17 dX0_isPair_16 rfl rfl ?_
      refine SF_icge 24 20 dX0_isPair_17 rfl rfl (fun c6 => ?_) (fun c6 => ?_)
      · have h := ite_t c6 h
        refine SF_iconst (0 : Int32) 25 dX0_isPair_24 rfl rfl ?_
        exact RT_b rfl rfl dX0_isPair_25 h
      · have h := ite_f c6 h
        refine SF_iconst (1 : Int32) 21 dX0_isPair_20 rfl rfl ?_
        refine SF_goto 25 dX0_isPair_21 rfl ?_
        exact RT_b rfl rfl dX0_isPair_25 h

theorem dX0_freeFor_0 : decode cX0_freeFor 0 = .ok (.aload_n 0, 1) := by decide +kernel
theorem dX0_freeFor_1 : decode cX0_freeFor 1 = .ok (.getfield 28, 3) := by decide +kernel
theorem dX0_freeFor_4 : decode cX0_freeFor 4 = .ok (.lstore_n 2, 1) := by decide +kernel
theorem dX0_freeFor_5 : decode cX0_freeFor 5 = .ok (.iconst 0, 1) := by decide +kernel
theorem dX0_freeFor_6 : decode cX0_freeFor 6 = .ok (.istore 4, 2) := by decide +kernel
theorem dX0_freeFor_8 : decode cX0_freeFor 8 = .ok (.iload 4, 2) := by decide +kernel
theorem dX0_freeFor_10 : decode cX0_freeFor 10 = .ok (.bipush 6, 2) := by decide +kernel
theorem dX0_freeFor_12 : decode cX0_freeFor 12 = .ok (.if_icmp .ge 40, 3) := by decide +kernel
theorem dX0_freeFor_15 : decode cX0_freeFor 15 = .ok (.iload 4, 2) := by decide +kernel
theorem dX0_freeFor_17 : decode cX0_freeFor 17 = .ok (.iconst 2, 1) := by decide +kernel
theorem dX0_freeFor_18 : decode cX0_freeFor 18 = .ok (.idiv, 1) := by decide +kernel
theorem dX0_freeFor_19 : decode cX0_freeFor 19 = .ok (.iload_n 1, 1) := by decide +kernel
theorem dX0_freeFor_20 : decode cX0_freeFor 20 = .ok (.if_icmp .eq 26, 3) := by decide +kernel
theorem dX0_freeFor_23 : decode cX0_freeFor 23 = .ok (.aload_n 0, 1) := by decide +kernel
theorem dX0_freeFor_24 : decode cX0_freeFor 24 = .ok (.iload 4, 2) := by decide +kernel
theorem dX0_freeFor_26 : decode cX0_freeFor 26 = .ok (.iconst 2, 1) := by decide +kernel
theorem dX0_freeFor_27 : decode cX0_freeFor 27 = .ok (.idiv, 1) := by decide +kernel
theorem dX0_freeFor_28 : decode cX0_freeFor 28 = .ok (.invokevirtual 54, 3) := by decide +kernel
theorem dX0_freeFor_31 : decode cX0_freeFor 31 = .ok (.ifCond .eq 15, 3) := by decide +kernel
theorem dX0_freeFor_34 : decode cX0_freeFor 34 = .ok (.lload_n 2, 1) := by decide +kernel
theorem dX0_freeFor_35 : decode cX0_freeFor 35 = .ok (.lconst 1, 1) := by decide +kernel
theorem dX0_freeFor_36 : decode cX0_freeFor 36 = .ok (.aload_n 0, 1) := by decide +kernel
theorem dX0_freeFor_37 : decode cX0_freeFor 37 = .ok (.getfield 9, 3) := by decide +kernel
theorem dX0_freeFor_40 : decode cX0_freeFor 40 = .ok (.iload 4, 2) := by decide +kernel
theorem dX0_freeFor_42 : decode cX0_freeFor 42 = .ok (.iaload, 1) := by decide +kernel
theorem dX0_freeFor_43 : decode cX0_freeFor 43 = .ok (.lshl, 1) := by decide +kernel
theorem dX0_freeFor_44 : decode cX0_freeFor 44 = .ok (.lor, 1) := by decide +kernel
theorem dX0_freeFor_45 : decode cX0_freeFor 45 = .ok (.lstore_n 2, 1) := by decide +kernel
theorem dX0_freeFor_46 : decode cX0_freeFor 46 = .ok (.iinc 4 1, 3) := by decide +kernel
theorem dX0_freeFor_49 : decode cX0_freeFor 49 = .ok (.goto (-41), 3) := by decide +kernel
theorem dX0_freeFor_52 : decode cX0_freeFor 52 = .ok (.aload_n 0, 1) := by decide +kernel
theorem dX0_freeFor_53 : decode cX0_freeFor 53 = .ok (.getfield 24, 3) := by decide +kernel
theorem dX0_freeFor_56 : decode cX0_freeFor 56 = .ok (.getfield 57, 3) := by decide +kernel
theorem dX0_freeFor_59 : decode cX0_freeFor 59 = .ok (.lload_n 2, 1) := by decide +kernel
theorem dX0_freeFor_60 : decode cX0_freeFor 60 = .ok (.ldc2_w 60, 3) := by decide +kernel
theorem dX0_freeFor_63 : decode cX0_freeFor 63 = .ok (.lxor, 1) := by decide +kernel
theorem dX0_freeFor_64 : decode cX0_freeFor 64 = .ok (.land, 1) := by decide +kernel
theorem dX0_freeFor_65 : decode cX0_freeFor 65 = .ok (.lreturn, 1) := by decide +kernel
set_option maxRecDepth 20000 in
set_option maxHeartbeats 2000000 in
theorem w_X0_freeFor_46 {X : CX} {d : Nat} (hd : 1 ≤ d) {g' : G} {rx : Int64} (k8 : Nat → Int32 → Int64 → Int32 → G → Option (Int64 × G)) (hk8 : ∀ (l0 : Nat) (l1 : Int32) (l2 : Int64) (l4 : Int32) (g : G), KD g l0 0 → k8 l0 l1 l2 l4 g = some (rx, g') → SemF X m_X0_freeFor d 8 [(0, .ref (ad X l0)), (1, .int l1), (2, .long l2), (4, .int l4)] [] g (some (.long rx)) g') (l0 : Nat) (l1 : Int32) (l2 : Int64) (l4 : Int32) (g : G) (k_l0 : KD g l0 0) (h : f_X0_freeFor_46 k8 l0 l1 l2 l4 g = some (rx, g')) : SemF X m_X0_freeFor d 46 [(0, .ref (ad X l0)), (1, .int l1), (2, .long l2), (4, .int l4)] [] g (some (.long rx)) g' := by
  rw [f_X0_freeFor_46] at h
  refine SF_iinc 3 (l4 + (1 : Int32)) [(4, .int (l4 + (1 : Int32))), (0, .ref (ad X l0)), (1, .int l1), (2, .long l2)] 49 dX0_freeFor_46 rfl rfl (by decide) rfl rfl ?_
  refine SF_goto 8 dX0_freeFor_49 rfl ?_
  refine SF_sub [1, 2, 3, 0] rfl ?_
  exact hk8 l0 l1 l2 (l4 + (1 : Int32)) g k_l0 h

set_option maxRecDepth 20000 in
set_option maxHeartbeats 2000000 in
theorem w_X0_freeFor_8 {X : CX} {d : Nat} (hd : 1 ≤ d) {g' : G} {rx : Int64} : ∀ (n : Nat) (l0 : Nat) (l1 : Int32) (l2 : Int64) (l4 : Int32) (g : G), KD g l0 0 → f_X0_freeFor_8 n l0 l1 l2 l4 g = some (rx, g') → SemF X m_X0_freeFor d 8 [(0, .ref (ad X l0)), (1, .int l1), (2, .long l2), (4, .int l4)] [] g (some (.long rx)) g' := by
  intro n
  induction n with
  | zero =>
    intro l0 l1 l2 l4 g k_l0 h
    rw [f_X0_freeFor_8] at h
    cases h
  | succ n ih =>
  intro l0 l1 l2 l4 g k_l0 h
  rw [f_X0_freeFor_8] at h
  refine SF_iload 3 10 dX0_freeFor_8 rfl rfl ?_
  refine SF_bipush (6 : Int32) 12 dX0_freeFor_10 rfl rfl ?_
  refine SF_icge 52 15 dX0_freeFor_12 rfl rfl (fun c1 => ?_) (fun c1 => ?_)
  · have h := ite_t c1 h
    refine SF_aload_n 0 53 dX0_freeFor_52 rfl rfl rfl ?_
    obtain ⟨b2, r3, h⟩ := dr_some h
    refine SF_getR 56 fl_X0_24 dX0_freeFor_53 k_l0.1 r3 rfl ?_
    obtain ⟨k4, h⟩ := gdK_some h
    refine SF_getL 59 fl_X0_57 dX0_freeFor_56 k4.1 rfl ?_
    refine SF_lload_n 2 60 dX0_freeFor_59 rfl rfl rfl ?_
    refine SF_ldc2 63 dX0_freeFor_60 kl_X0_60 rfl ?_
    refine SF_lxor 64 dX0_freeFor_63 rfl ?_
    refine SF_land 65 dX0_freeFor_64 rfl ?_
    exact RT_l rfl dX0_freeFor_65 h
  · have h := ite_f c1 h
    refine SF_iload 3 17 dX0_freeFor_15 rfl rfl ?_
    refine SF_iconst (2 : Int32) 18 dX0_freeFor_17 rfl rfl ?_
    refine SF_idiv 19 dX0_freeFor_18 (by decide) rfl ?_
    refine SF_iload_n 1 20 dX0_freeFor_19 rfl rfl rfl ?_
    refine SF_iceq 46 23 dX0_freeFor_20 rfl rfl (fun c5 => ?_) (fun c5 => ?_)
    · have h := ite_t c5 h
      exact w_X0_freeFor_46 hd (f_X0_freeFor_8 n) ih l0 l1 l2 l4 g k_l0 h
    · have h := ite_f c5 h
      refine SF_aload_n 0 24 dX0_freeFor_23 rfl rfl rfl ?_
      refine SF_iload 3 26 dX0_freeFor_24 rfl rfl ?_
      refine SF_iconst (2 : Int32) 27 dX0_freeFor_26 rfl rfl ?_
      refine SF_idiv 28 dX0_freeFor_27 (by decide) rfl ?_
      obtain ⟨v6, g7, q8, h⟩ := bd_some h
      have s9 := w_X0_isPair (X := X) (Nat.le_refl 0) l0 (l4 / (2 : Int32)) g g7 v6 k_l0 q8
      refine SF_callVb 31 mi_X0_isPair ml_X0_54 dX0_freeFor_28 (Nat.le_trans (by decide) hd) s9 k_l0.1 rfl rfl (Nat.le_of_ble_eq_true rfl) rfl ?_
      have k_l0 := k_l0.ext s9.1
      refine SF_ifeq 46 34 dX0_freeFor_31 rfl rfl (fun c10 => ?_) (fun c10 => ?_)
      · have h := ite_t c10 h
        exact w_X0_freeFor_46 hd (f_X0_freeFor_8 n) ih l0 l1 l2 l4 g7 k_l0 h
      · have h := ite_f c10 h
        refine SF_lload_n 2 35 dX0_freeFor_34 rfl rfl rfl ?_
        refine SF_lconst (1 : Int64) 36 dX0_freeFor_35 rfl rfl ?_
        refine SF_aload_n 0 37 dX0_freeFor_36 rfl rfl rfl ?_
        obtain ⟨b11, r12, h⟩ := dr_some h
        refine SF_getR 40 fl_X0_9 dX0_freeFor_37 k_l0.1 r12 rfl ?_
        refine SF_iload 3 42 dX0_freeFor_40 rfl rfl ?_
        obtain ⟨k13, h⟩ := gdK_some h
        obtain ⟨i14, h⟩ := gdI_some h
        refine SF_iald 43 dX0_freeFor_42 k13.1 i14 rfl ?_
        refine SF_lshl 44 dX0_freeFor_43 rfl ?_
        refine SF_lor 45 dX0_freeFor_44 rfl ?_
        obtain ⟨y15, e16, h⟩ := ll_some h
        refine SF_eqL e16 ?_
        refine SF_lstore_n [(2, .long y15), (0, .ref (ad X l0)), (1, .int l1), (4, .int l4)] 46 dX0_freeFor_45 rfl (by decide) rfl rfl ?_
        refine SF_sub [1, 2, 0, 3] rfl ?_
        exact w_X0_freeFor_46 hd (f_X0_freeFor_8 n) ih l0 l1 y15 l4 g7 k_l0 h

set_option maxRecDepth 20000 in
set_option maxHeartbeats 2000000 in
theorem w_X0_freeFor {X : CX} {d : Nat} (hd : 1 ≤ d) (l0 : Nat) (l1 : Int32) (g g' : G) (rx : Int64) (k_l0 : KD g l0 0) (h : f_X0_freeFor l0 l1 g = some (rx, g')) : Sem X m_X0_freeFor d [.ref (ad X l0), .int l1] g (some (.long rx)) g' := by
  refine Sem_of (lo := [(0, .ref (ad X l0)), (1, .int l1)]) (by decide +kernel) rfl (Nat.le_of_ble_eq_true rfl) ?_
  rw [f_X0_freeFor] at h
  refine SF_aload_n 0 1 dX0_freeFor_0 rfl rfl rfl ?_
  refine SF_getL 4 fl_X0_28 dX0_freeFor_1 k_l0.1 rfl ?_
  obtain ⟨y1, e2, h⟩ := ll_some h
  refine SF_eqL e2 ?_
  refine SF_lstore_n [(2, .long y1), (0, .ref (ad X l0)), (1, .int l1)] 5 dX0_freeFor_4 rfl (by decide) rfl rfl ?_
  refine SF_iconst (0 : Int32) 6 dX0_freeFor_5 rfl rfl ?_
  refine SF_istore [(4, .int (0 : Int32)), (2, .long y1), (0, .ref (ad X l0)), (1, .int l1)] 8 dX0_freeFor_6 (by decide) rfl rfl ?_
  refine SF_sub [2, 3, 1, 0] rfl ?_
  exact w_X0_freeFor_8 hd FU l0 l1 y1 (0 : Int32) g k_l0 h

theorem dX8_takeCell_0 : decode cX8_takeCell 0 = .ok (.aload_n 0, 1) := by decide +kernel
theorem dX8_takeCell_1 : decode cX8_takeCell 1 = .ok (.getfield 73, 3) := by decide +kernel
theorem dX8_takeCell_4 : decode cX8_takeCell 4 = .ok (.iconst 3, 1) := by decide +kernel
theorem dX8_takeCell_5 : decode cX8_takeCell 5 = .ok (.if_icmp .eq 8, 3) := by decide +kernel
theorem dX8_takeCell_8 : decode cX8_takeCell 8 = .ok (.aload_n 0, 1) := by decide +kernel
theorem dX8_takeCell_9 : decode cX8_takeCell 9 = .ok (.invokevirtual 133, 3) := by decide +kernel
theorem dX8_takeCell_12 : decode cX8_takeCell 12 = .ok (.ireturn, 1) := by decide +kernel
theorem dX8_takeCell_13 : decode cX8_takeCell 13 = .ok (.aload_n 0, 1) := by decide +kernel
theorem dX8_takeCell_14 : decode cX8_takeCell 14 = .ok (.getfield 127, 3) := by decide +kernel
theorem dX8_takeCell_17 : decode cX8_takeCell 17 = .ok (.bipush 36, 2) := by decide +kernel
theorem dX8_takeCell_19 : decode cX8_takeCell 19 = .ok (.if_icmp .ge 16, 3) := by decide +kernel
theorem dX8_takeCell_22 : decode cX8_takeCell 22 = .ok (.lload_n 1, 1) := by decide +kernel
theorem dX8_takeCell_23 : decode cX8_takeCell 23 = .ok (.aload_n 0, 1) := by decide +kernel
theorem dX8_takeCell_24 : decode cX8_takeCell 24 = .ok (.getfield 127, 3) := by decide +kernel
theorem dX8_takeCell_27 : decode cX8_takeCell 27 = .ok (.lushr, 1) := by decide +kernel
theorem dX8_takeCell_28 : decode cX8_takeCell 28 = .ok (.lconst 1, 1) := by decide +kernel
theorem dX8_takeCell_29 : decode cX8_takeCell 29 = .ok (.land, 1) := by decide +kernel
theorem dX8_takeCell_30 : decode cX8_takeCell 30 = .ok (.lconst 0, 1) := by decide +kernel
theorem dX8_takeCell_31 : decode cX8_takeCell 31 = .ok (.lcmp, 1) := by decide +kernel
theorem dX8_takeCell_32 : decode cX8_takeCell 32 = .ok (.ifCond .ne 9, 3) := by decide +kernel
theorem dX8_takeCell_35 : decode cX8_takeCell 35 = .ok (.aload_n 0, 1) := by decide +kernel
theorem dX8_takeCell_36 : decode cX8_takeCell 36 = .ok (.iconst 3, 1) := by decide +kernel
theorem dX8_takeCell_37 : decode cX8_takeCell 37 = .ok (.invokevirtual 130, 3) := by decide +kernel
theorem dX8_takeCell_40 : decode cX8_takeCell 40 = .ok (.ireturn, 1) := by decide +kernel
theorem dX8_takeCell_41 : decode cX8_takeCell 41 = .ok (.aload_n 0, 1) := by decide +kernel
theorem dX8_takeCell_42 : decode cX8_takeCell 42 = .ok (.aload_n 0, 1) := by decide +kernel
theorem dX8_takeCell_43 : decode cX8_takeCell 43 = .ok (.getfield 127, 3) := by decide +kernel
theorem dX8_takeCell_46 : decode cX8_takeCell 46 = .ok (.putfield 136, 3) := by decide +kernel
theorem dX8_takeCell_49 : decode cX8_takeCell 49 = .ok (.aload_n 0, 1) := by decide +kernel
theorem dX8_takeCell_50 : decode cX8_takeCell 50 = .ok (.invokevirtual 66, 3) := by decide +kernel
theorem dX8_takeCell_53 : decode cX8_takeCell 53 = .ok (.iconst 1, 1) := by decide +kernel
theorem dX8_takeCell_54 : decode cX8_takeCell 54 = .ok (.ireturn, 1) := by decide +kernel
set_option maxRecDepth 20000 in
set_option maxHeartbeats 2000000 in
theorem w_X8_takeCell_35 {X : CX} {d : Nat} (hd : 2 ≤ d) {g' : G} {rx : Bool} (l0 : Nat) (g : G) (k_l0 : KD g l0 8) (h : f_X8_takeCell_35 l0 g = some (rx, g')) : SemF X m_X8_takeCell d 35 [(0, .ref (ad X l0))] [] g (some (.int (b2i rx))) g' := by
  rw [f_X8_takeCell_35] at h
  refine SF_aload_n 0 36 dX8_takeCell_35 rfl rfl rfl ?_
  refine SF_iconst (3 : Int32) 37 dX8_takeCell_36 rfl rfl ?_
  obtain ⟨v1, g2, q3, h⟩ := bd_some h
  have s4 := w_X8_refuse (X := X) (Nat.le_refl 0) l0 (3 : Int32) g g2 v1 k_l0 q3
  refine SF_callVb 40 mi_X8_refuse ml_X8_130 dX8_takeCell_37 (Nat.le_trans (by decide) hd) s4 k_l0.1 rfl rfl (Nat.le_of_ble_eq_true rfl) rfl ?_
  have k_l0 := k_l0.ext s4.1
  exact RT_b rfl rfl dX8_takeCell_40 h

set_option maxRecDepth 20000 in
set_option maxHeartbeats 2000000 in
theorem w_X8_takeCell {X : CX} {d : Nat} (hd : 2 ≤ d) (l0 : Nat) (l1 : Int64) (g g' : G) (rx : Bool) (k_l0 : KD g l0 8) (h : f_X8_takeCell l0 l1 g = some (rx, g')) : Sem X m_X8_takeCell d [.ref (ad X l0), .long l1] g (some (.int (b2i rx))) g' := by
  refine Sem_of (lo := [(0, .ref (ad X l0)), (1, .long l1)]) (by decide +kernel) rfl (Nat.le_of_ble_eq_true rfl) ?_
  rw [f_X8_takeCell] at h
  refine SF_aload_n 0 1 dX8_takeCell_0 rfl rfl rfl ?_
  refine SF_getI 4 fl_X8_73 dX8_takeCell_1 k_l0.1 rfl ?_
  refine SF_iconst (3 : Int32) 5 dX8_takeCell_4 rfl rfl ?_
  refine SF_iceq 13 8 dX8_takeCell_5 rfl rfl (fun c1 => ?_) (fun c1 => ?_)
  · have h := ite_t c1 h
    refine SF_aload_n 0 14 dX8_takeCell_13 rfl rfl rfl ?_
    refine SF_getI 17 fl_X8_127 dX8_takeCell_14 k_l0.1 rfl ?_
    refine SF_bipush (36 : Int32) 19 dX8_takeCell_17 rfl rfl ?_
    refine SF_icge 35 22 dX8_takeCell_19 rfl rfl (fun c2 => ?_) (fun c2 => ?_)
    · have h := ite_t c2 h
      refine SF_sub [0] rfl ?_
      exact w_X8_takeCell_35 hd l0 g k_l0 h
    · have h := ite_f c2 h
      refine SF_lload_n 1 23 dX8_takeCell_22 rfl rfl rfl ?_
      refine SF_aload_n 0 24 dX8_takeCell_23 rfl rfl rfl ?_
      refine SF_getI 27 fl_X8_127 dX8_takeCell_24 k_l0.1 rfl ?_
      refine SF_lushr 28 dX8_takeCell_27 rfl ?_
      refine SF_lconst (1 : Int64) 29 dX8_takeCell_28 rfl rfl ?_
      refine SF_land 30 dX8_takeCell_29 rfl ?_
      refine SF_lconst (0 : Int64) 31 dX8_takeCell_30 rfl rfl ?_
      refine SF_lcmp 32 dX8_takeCell_31 rfl ?_
      refine SF_ifne 41 35 dX8_takeCell_32 rfl rfl (fun c3 => ?_) (fun c3 => ?_)
      · have h := ite_f c3 h
        refine SF_aload_n 0 42 dX8_takeCell_41 rfl rfl rfl ?_
        refine SF_aload_n 0 43 dX8_takeCell_42 rfl rfl rfl ?_
        refine SF_getI 46 fl_X8_127 dX8_takeCell_43 k_l0.1 rfl ?_
        refine SF_putI 49 fl_X8_136 dX8_takeCell_46 k_l0.1 (fn_int _) (Or.inl rfl) rfl ?_
        obtain ⟨g4, e5, h⟩ := lg_some h
        rw [← e5]
        have k_l0 := KD.eq e5 k_l0
        refine SF_aload_n 0 50 dX8_takeCell_49 rfl rfl rfl ?_
        obtain ⟨v6, g7, q8, h⟩ := bd_some h
        have s9 := w_X8_look (X := X) (Nat.le_refl 0) l0 g4 g7 v6 k_l0 q8
        refine SF_callVv 53 mi_X8_look ml_X8_66 dX8_takeCell_50 (Nat.le_trans (by decide) hd) s9 k_l0.1 rfl rfl (Nat.le_of_ble_eq_true rfl) rfl ?_
        have k_l0 := k_l0.ext s9.1
        refine SF_iconst (1 : Int32) 54 dX8_takeCell_53 rfl rfl ?_
        exact RT_b rfl rfl dX8_takeCell_54 h
      · have h := ite_t c3 h
        refine SF_sub [0] rfl ?_
        exact w_X8_takeCell_35 hd l0 g k_l0 h
  · have h := ite_f c1 h
    refine SF_aload_n 0 9 dX8_takeCell_8 rfl rfl rfl ?_
    obtain ⟨v10, g11, q12, h⟩ := bd_some h
    have s13 := w_X8_refuseToken (X := X) (Nat.le_refl 1) l0 g g11 v10 k_l0 q12
    refine SF_callVb 12 mi_X8_refuseToken ml_X8_133 dX8_takeCell_9 (Nat.le_trans (by decide) hd) s13 k_l0.1 rfl rfl (Nat.le_of_ble_eq_true rfl) rfl ?_
    have k_l0 := k_l0.ext s13.1
    exact RT_b rfl rfl dX8_takeCell_12 h

theorem dX8_flag_0 : decode cX8_flag 0 = .ok (.aload_n 0, 1) := by decide +kernel
theorem dX8_flag_1 : decode cX8_flag 1 = .ok (.iconst 2, 1) := by decide +kernel
theorem dX8_flag_2 : decode cX8_flag 2 = .ok (.invokevirtual 139, 3) := by decide +kernel
theorem dX8_flag_5 : decode cX8_flag 5 = .ok (.istore_n 2, 1) := by decide +kernel
theorem dX8_flag_6 : decode cX8_flag 6 = .ok (.aload_n 0, 1) := by decide +kernel
theorem dX8_flag_7 : decode cX8_flag 7 = .ok (.invokevirtual 66, 3) := by decide +kernel
theorem dX8_flag_10 : decode cX8_flag 10 = .ok (.iload_n 2, 1) := by decide +kernel
theorem dX8_flag_11 : decode cX8_flag 11 = .ok (.ifCond .eq 30, 3) := by decide +kernel
theorem dX8_flag_14 : decode cX8_flag 14 = .ok (.aload_n 0, 1) := by decide +kernel
theorem dX8_flag_15 : decode cX8_flag 15 = .ok (.iconst 0, 1) := by decide +kernel
theorem dX8_flag_16 : decode cX8_flag 16 = .ok (.bipush 9, 2) := by decide +kernel
theorem dX8_flag_18 : decode cX8_flag 18 = .ok (.invokevirtual 142, 3) := by decide +kernel
theorem dX8_flag_21 : decode cX8_flag 21 = .ok (.ifCond .ne 5, 3) := by decide +kernel
theorem dX8_flag_24 : decode cX8_flag 24 = .ok (.iconst 0, 1) := by decide +kernel
theorem dX8_flag_25 : decode cX8_flag 25 = .ok (.ireturn, 1) := by decide +kernel
theorem dX8_flag_26 : decode cX8_flag 26 = .ok (.aload_n 0, 1) := by decide +kernel
theorem dX8_flag_27 : decode cX8_flag 27 = .ok (.getfield 41, 3) := by decide +kernel
theorem dX8_flag_30 : decode cX8_flag 30 = .ok (.getfield 211, 3) := by decide +kernel
theorem dX8_flag_33 : decode cX8_flag 33 = .ok (.iload_n 1, 1) := by decide +kernel
theorem dX8_flag_34 : decode cX8_flag 34 = .ok (.aload_n 0, 1) := by decide +kernel
theorem dX8_flag_35 : decode cX8_flag 35 = .ok (.getfield 136, 3) := by decide +kernel
theorem dX8_flag_38 : decode cX8_flag 38 = .ok (.iastore, 1) := by decide +kernel
theorem dX8_flag_39 : decode cX8_flag 39 = .ok (.iconst 1, 1) := by decide +kernel
theorem dX8_flag_40 : decode cX8_flag 40 = .ok (.ireturn, 1) := by decide +kernel
theorem dX8_flag_41 : decode cX8_flag 41 = .ok (.aload_n 0, 1) := by decide +kernel
theorem dX8_flag_42 : decode cX8_flag 42 = .ok (.aload_n 0, 1) := by decide +kernel
theorem dX8_flag_43 : decode cX8_flag 43 = .ok (.getfield 32, 3) := by decide +kernel
theorem dX8_flag_46 : decode cX8_flag 46 = .ok (.getfield 214, 3) := by decide +kernel
theorem dX8_flag_49 : decode cX8_flag 49 = .ok (.invokevirtual 201, 3) := by decide +kernel
theorem dX8_flag_52 : decode cX8_flag 52 = .ok (.ifCond .ne 5, 3) := by decide +kernel
theorem dX8_flag_55 : decode cX8_flag 55 = .ok (.iconst 0, 1) := by decide +kernel
theorem dX8_flag_56 : decode cX8_flag 56 = .ok (.ireturn, 1) := by decide +kernel
theorem dX8_flag_57 : decode cX8_flag 57 = .ok (.aload_n 0, 1) := by decide +kernel
theorem dX8_flag_58 : decode cX8_flag 58 = .ok (.getfield 32, 3) := by decide +kernel
theorem dX8_flag_61 : decode cX8_flag 61 = .ok (.getfield 217, 3) := by decide +kernel
theorem dX8_flag_64 : decode cX8_flag 64 = .ok (.iconst 2, 1) := by decide +kernel
theorem dX8_flag_65 : decode cX8_flag 65 = .ok (.iload_n 1, 1) := by decide +kernel
theorem dX8_flag_66 : decode cX8_flag 66 = .ok (.imul, 1) := by decide +kernel
theorem dX8_flag_67 : decode cX8_flag 67 = .ok (.aload_n 0, 1) := by decide +kernel
theorem dX8_flag_68 : decode cX8_flag 68 = .ok (.getfield 136, 3) := by decide +kernel
theorem dX8_flag_71 : decode cX8_flag 71 = .ok (.iastore, 1) := by decide +kernel
theorem dX8_flag_72 : decode cX8_flag 72 = .ok (.aload_n 0, 1) := by decide +kernel
theorem dX8_flag_73 : decode cX8_flag 73 = .ok (.aload_n 0, 1) := by decide +kernel
theorem dX8_flag_74 : decode cX8_flag 74 = .ok (.getfield 32, 3) := by decide +kernel
theorem dX8_flag_77 : decode cX8_flag 77 = .ok (.getfield 214, 3) := by decide +kernel
theorem dX8_flag_80 : decode cX8_flag 80 = .ok (.invokevirtual 201, 3) := by decide +kernel
theorem dX8_flag_83 : decode cX8_flag 83 = .ok (.ifCond .ne 5, 3) := by decide +kernel
theorem dX8_flag_86 : decode cX8_flag 86 = .ok (.iconst 0, 1) := by decide +kernel
theorem dX8_flag_87 : decode cX8_flag 87 = .ok (.ireturn, 1) := by decide +kernel
theorem dX8_flag_88 : decode cX8_flag 88 = .ok (.aload_n 0, 1) := by decide +kernel
theorem dX8_flag_89 : decode cX8_flag 89 = .ok (.getfield 32, 3) := by decide +kernel
theorem dX8_flag_92 : decode cX8_flag 92 = .ok (.getfield 217, 3) := by decide +kernel
theorem dX8_flag_95 : decode cX8_flag 95 = .ok (.iconst 2, 1) := by decide +kernel
theorem dX8_flag_96 : decode cX8_flag 96 = .ok (.iload_n 1, 1) := by decide +kernel
theorem dX8_flag_97 : decode cX8_flag 97 = .ok (.imul, 1) := by decide +kernel
theorem dX8_flag_98 : decode cX8_flag 98 = .ok (.iconst 1, 1) := by decide +kernel
theorem dX8_flag_99 : decode cX8_flag 99 = .ok (.iadd, 1) := by decide +kernel
theorem dX8_flag_100 : decode cX8_flag 100 = .ok (.aload_n 0, 1) := by decide +kernel
theorem dX8_flag_101 : decode cX8_flag 101 = .ok (.getfield 136, 3) := by decide +kernel
theorem dX8_flag_104 : decode cX8_flag 104 = .ok (.iastore, 1) := by decide +kernel
theorem dX8_flag_105 : decode cX8_flag 105 = .ok (.iconst 1, 1) := by decide +kernel
theorem dX8_flag_106 : decode cX8_flag 106 = .ok (.ireturn, 1) := by decide +kernel
set_option maxRecDepth 20000 in
set_option maxHeartbeats 2000000 in
theorem w_X8_flag {X : CX} {d : Nat} (hd : 3 ≤ d) (l0 : Nat) (l1 : Int32) (g g' : G) (rx : Bool) (k_l0 : KD g l0 8) (h : f_X8_flag l0 l1 g = some (rx, g')) : Sem X m_X8_flag d [.ref (ad X l0), .int l1] g (some (.int (b2i rx))) g' := by
  refine Sem_of (lo := [(0, .ref (ad X l0)), (1, .int l1)]) (by decide +kernel) rfl (Nat.le_of_ble_eq_true rfl) ?_
  rw [f_X8_flag] at h
  refine SF_aload_n 0 1 dX8_flag_0 rfl rfl rfl ?_
  refine SF_iconst (2 : Int32) 2 dX8_flag_1 rfl rfl ?_
  obtain ⟨v1, g2, q3, h⟩ := bd_some h
  have s4 := w_X8_isWord (X := X) (Nat.le_refl 0) l0 (2 : Int32) g g2 v1 k_l0 q3
  refine SF_callVb 5 mi_X8_isWord ml_X8_139 dX8_flag_2 (Nat.le_trans (by decide) hd) s4 k_l0.1 rfl rfl (Nat.le_of_ble_eq_true rfl) rfl ?_
  have k_l0 := k_l0.ext s4.1
  obtain ⟨y5, e6, h⟩ := li_some h
  refine SF_eqI e6 ?_
  refine SF_istore_n [(2, .int y5), (0, .ref (ad X l0)), (1, .int l1)] 6 dX8_flag_5 rfl (by decide) rfl rfl ?_
  refine SF_aload_n 1 7 dX8_flag_6 rfl rfl rfl ?_
  obtain ⟨v7, g8, q9, h⟩ := bd_some h
  have s10 := w_X8_look (X := X) (Nat.le_refl 0) l0 g2 g8 v7 k_l0 q9
  refine SF_callVv 10 mi_X8_look ml_X8_66 dX8_flag_7 (Nat.le_trans (by decide) hd) s10 k_l0.1 rfl rfl (Nat.le_of_ble_eq_true rfl) rfl ?_
  have k_l0 := k_l0.ext s10.1
  refine SF_iload_n 0 11 dX8_flag_10 rfl rfl rfl ?_
  refine SF_ifeq 41 14 dX8_flag_11 rfl rfl (fun c11 => ?_) (fun c11 => ?_)
  · have h := ite_t c11 h
    refine SF_aload_n 1 42 dX8_flag_41 rfl rfl rfl ?_
    refine SF_aload_n 1 43 dX8_flag_42 rfl rfl rfl ?_
    obtain ⟨b12, r13, h⟩ := dr_some h
    refine SF_getR 46 fl_X8_32 dX8_flag_43 k_l0.1 r13 rfl ?_
    obtain ⟨k14, h⟩ := gdK_some h
    refine SF_getL 49 fl_X8_214 dX8_flag_46 k14.1 rfl ?_
    obtain ⟨v15, g16, q17, h⟩ := bd_some h
    have s18 := w_X8_takeCell (X := X) (Nat.le_refl 2) l0 (gL g8 b12 3) g8 g16 v15 k_l0 q17
    refine SF_callVb 52 mi_X8_takeCell ml_X8_201 dX8_flag_49 (Nat.le_trans (by decide) hd) s18 k_l0.1 rfl rfl (Nat.le_of_ble_eq_true rfl) rfl ?_
    have k_l0 := k_l0.ext s18.1
    have k14 := k14.ext s18.1
    refine SF_ifne 57 55 dX8_flag_52 rfl rfl (fun c19 => ?_) (fun c19 => ?_)
    · have h := ite_f c19 h
      refine SF_aload_n 1 58 dX8_flag_57 rfl rfl rfl ?_
      obtain ⟨b20, r21, h⟩ := dr_some h
      refine SF_getR 61 fl_X8_32 dX8_flag_58 k_l0.1 r21 rfl ?_
      obtain ⟨k22, h⟩ := gdK_some h
      obtain ⟨b23, r24, h⟩ := dr_some h
      refine SF_getR 64 fl_X8_217 dX8_flag_61 k22.1 r24 rfl ?_
      refine SF_iconst (2 : Int32) 65 dX8_flag_64 rfl rfl ?_
      refine SF_iload_n 2 66 dX8_flag_65 rfl rfl rfl ?_
      refine SF_imul 67 dX8_flag_66 rfl ?_
      refine SF_aload_n 1 68 dX8_flag_67 rfl rfl rfl ?_
      refine SF_getI 71 fl_X8_136 dX8_flag_68 k_l0.1 rfl ?_
      obtain ⟨k25, h⟩ := gdK_some h
      obtain ⟨i26, h⟩ := gdI_some h
      refine SF_iast 72 dX8_flag_71 k25.1 i26 rfl ?_
      obtain ⟨g27, e28, h⟩ := lg_some h
      rw [← e28]
      have k_l0 := KD.eq e28 k_l0
      have k14 := KD.eq e28 k14
      have k22 := KD.eq e28 k22
      have k25 := KD.eq e28 k25
      have r21 := gR_eq e28 r21
      have r24 := gR_eq e28 r24
      have i26 := vp_eq e28 i26
      refine SF_aload_n 1 73 dX8_flag_72 rfl rfl rfl ?_
      refine SF_aload_n 1 74 dX8_flag_73 rfl rfl rfl ?_
      refine SF_getR 77 fl_X8_32 dX8_flag_74 k_l0.1 r21 rfl ?_
      refine SF_getL 80 fl_X8_214 dX8_flag_77 k22.1 rfl ?_
      obtain ⟨v29, g30, q31, h⟩ := bd_some h
      have s32 := w_X8_takeCell (X := X) (Nat.le_refl 2) l0 (gL g27 b20 3) g27 g30 v29 k_l0 q31
      refine SF_callVb 83 mi_X8_takeCell ml_X8_201 dX8_flag_80 (Nat.le_trans (by decide) hd) s32 k_l0.1 rfl rfl (Nat.le_of_ble_eq_true rfl) rfl ?_
      have k_l0 := k_l0.ext s32.1
      have k14 := k14.ext s32.1
      have k22 := k22.ext s32.1
      have k25 := k25.ext s32.1
      refine SF_ifne 88 86 dX8_flag_83 rfl rfl (fun c33 => ?_) (fun c33 => ?_)
      · have h := ite_f c33 h
        refine SF_aload_n 1 89 dX8_flag_88 rfl rfl rfl ?_
        obtain ⟨b34, r35, h⟩ := dr_some h
        refine SF_getR 92 fl_X8_32 dX8_flag_89 k_l0.1 r35 rfl ?_
        obtain ⟨k36, h⟩ := gdK_some h
        obtain ⟨b37, r38, h⟩ := dr_some h
        refine SF_getR 95 fl_X8_217 dX8_flag_92 k36.1 r38 rfl ?_
        refine SF_iconst (2 : Int32) 96 dX8_flag_95 rfl rfl ?_
        refine SF_iload_n 2 97 dX8_flag_96 rfl rfl rfl ?_
        refine SF_imul 98 dX8_flag_97 rfl ?_
        refine SF_iconst (1 : Int32) 99 dX8_flag_98 rfl rfl ?_
        refine SF_iadd 100 dX8_flag_99 rfl ?_
        refine SF_aload_n 1 101 dX8_flag_100 rfl rfl rfl ?_
        refine SF_getI 104 fl_X8_136 dX8_flag_101 k_l0.1 rfl ?_
        obtain ⟨k39, h⟩ := gdK_some h
        obtain ⟨i40, h⟩ := gdI_some h
        refine SF_iast 105 dX8_flag_104 k39.1 i40 rfl ?_
        obtain ⟨g41, e42, h⟩ := lg_some h
        rw [← e42]
        have k_l0 := KD.eq e42 k_l0
        have k14 := KD.eq e42 k14
        have k22 := KD.eq e42 k22
        have k25 := KD.eq e42 k25
        have k36 := KD.eq e42 k36
        have k39 := KD.eq e42 k39
        have r35 := gR_eq e42 r35
        have r38 := gR_eq e42 r38
        have i40 := vp_eq e42 i40
        refine SF_iconst (1 : Int32) 106 dX8_flag_105 rfl rfl ?_
        exact RT_b rfl rfl dX8_flag_106 h
      · have h := ite_t c33 h
        refine SF_iconst (0 : Int32) 87 dX8_flag_86 rfl rfl ?_
        exact RT_b rfl rfl dX8_flag_87 h
    · have h := ite_t c19 h
      refine SF_iconst (0 : Int32) 56 dX8_flag_55 rfl rfl ?_
      exact RT_b rfl rfl dX8_flag_56 h
  · have h := ite_f c11 h
    refine SF_aload_n 1 15 dX8_flag_14 rfl rfl rfl ?_
    refine SF_iconst (0 : Int32) 16 dX8_flag_15 rfl rfl ?_
    refine SF_bipush (9 : Int32) 18 dX8_flag_16 rfl rfl ?_
    obtain ⟨v43, g44, q45, h⟩ := bd_some h
    have s46 := w_X8_takeNumber (X := X) (Nat.le_refl 2) l0 (0 : Int32) (9 : Int32) g8 g44 v43 k_l0 q45
    refine SF_callVb 21 mi_X8_takeNumber ml_X8_142 dX8_flag_18 (Nat.le_trans (by decide) hd) s46 k_l0.1 rfl rfl (Nat.le_of_ble_eq_true rfl) rfl ?_
    have k_l0 := k_l0.ext s46.1
    refine SF_ifne 26 24 dX8_flag_21 rfl rfl (fun c47 => ?_) (fun c47 => ?_)
    · have h := ite_f c47 h
      refine SF_aload_n 1 27 dX8_flag_26 rfl rfl rfl ?_
      obtain ⟨b48, r49, h⟩ := dr_some h
      refine SF_getR 30 fl_X8_41 dX8_flag_27 k_l0.1 r49 rfl ?_
      obtain ⟨k50, h⟩ := gdK_some h
      obtain ⟨b51, r52, h⟩ := dr_some h
      refine SF_getR 33 fl_X8_211 dX8_flag_30 k50.1 r52 rfl ?_
      refine SF_iload_n 2 34 dX8_flag_33 rfl rfl rfl ?_
      refine SF_aload_n 1 35 dX8_flag_34 rfl rfl rfl ?_
      refine SF_getI 38 fl_X8_136 dX8_flag_35 k_l0.1 rfl ?_
      obtain ⟨k53, h⟩ := gdK_some h
      obtain ⟨i54, h⟩ := gdI_some h
      refine SF_iast 39 dX8_flag_38 k53.1 i54 rfl ?_
      obtain ⟨g55, e56, h⟩ := lg_some h
      rw [← e56]
      have k_l0 := KD.eq e56 k_l0
      have k50 := KD.eq e56 k50
      have k53 := KD.eq e56 k53
      have r49 := gR_eq e56 r49
      have r52 := gR_eq e56 r52
      have i54 := vp_eq e56 i54
      refine SF_iconst (1 : Int32) 40 dX8_flag_39 rfl rfl ?_
      exact RT_b rfl rfl dX8_flag_40 h
    · have h := ite_t c47 h
      refine SF_iconst (0 : Int32) 25 dX8_flag_24 rfl rfl ?_
      exact RT_b rfl rfl dX8_flag_25 h

theorem dX0_isFreeFor_0 : decode cX0_isFreeFor 0 = .ok (.aload_n 0, 1) := by decide +kernel
theorem dX0_isFreeFor_1 : decode cX0_isFreeFor 1 = .ok (.getfield 24, 3) := by decide +kernel
theorem dX0_isFreeFor_4 : decode cX0_isFreeFor 4 = .ok (.iload_n 2, 1) := by decide +kernel
theorem dX0_isFreeFor_5 : decode cX0_isFreeFor 5 = .ok (.invokevirtual 50, 3) := by decide +kernel
theorem dX0_isFreeFor_8 : decode cX0_isFreeFor 8 = .ok (.ifCond .eq 21, 3) := by decide +kernel
theorem dX0_isFreeFor_11 : decode cX0_isFreeFor 11 = .ok (.aload_n 0, 1) := by decide +kernel
theorem dX0_isFreeFor_12 : decode cX0_isFreeFor 12 = .ok (.iload_n 1, 1) := by decide +kernel
theorem dX0_isFreeFor_13 : decode cX0_isFreeFor 13 = .ok (.invokevirtual 62, 3) := by decide +kernel
theorem dX0_isFreeFor_16 : decode cX0_isFreeFor 16 = .ok (.iload_n 2, 1) := by decide +kernel
theorem dX0_isFreeFor_17 : decode cX0_isFreeFor 17 = .ok (.lushr, 1) := by decide +kernel
theorem dX0_isFreeFor_18 : decode cX0_isFreeFor 18 = .ok (.lconst 1, 1) := by decide +kernel
theorem dX0_isFreeFor_19 : decode cX0_isFreeFor 19 = .ok (.land, 1) := by decide +kernel
theorem dX0_isFreeFor_20 : decode cX0_isFreeFor 20 = .ok (.lconst 0, 1) := by decide +kernel
theorem dX0_isFreeFor_21 : decode cX0_isFreeFor 21 = .ok (.lcmp, 1) := by decide +kernel
theorem dX0_isFreeFor_22 : decode cX0_isFreeFor 22 = .ok (.ifCond .eq 7, 3) := by decide +kernel
theorem dX0_isFreeFor_25 : decode cX0_isFreeFor 25 = .ok (.iconst 1, 1) := by decide +kernel
theorem dX0_isFreeFor_26 : decode cX0_isFreeFor 26 = .ok (.goto 4, 3) := by decide +kernel
theorem dX0_isFreeFor_29 : decode cX0_isFreeFor 29 = .ok (.iconst 0, 1) := by decide +kernel
theorem dX0_isFreeFor_30 : decode cX0_isFreeFor 30 = .ok (.ireturn, 1) := by decide +kernel
set_option maxRecDepth 20000 in
set_option maxHeartbeats 2000000 in
theorem w_X0_isFreeFor {X : CX} {d : Nat} (hd : 2 ≤ d) (l0 : Nat) (l1 : Int32) (l2 : Int32) (g g' : G) (rx : Bool) (k_l0 : KD g l0 0) (h : f_X0_isFreeFor l0 l1 l2 g = some (rx, g')) : Sem X m_X0_isFreeFor d [.ref (ad X l0), .int l1, .int l2] g (some (.int (b2i rx))) g' := by
  refine Sem_of (lo := [(0, .ref (ad X l0)), (1, .int l1), (2, .int l2)]) (by decide +kernel) rfl (Nat.le_of_ble_eq_true rfl) ?_
  rw [f_X0_isFreeFor] at h
  refine SF_aload_n 0 1 dX0_isFreeFor_0 rfl rfl rfl ?_
  obtain ⟨b1, r2, h⟩ := dr_some h
  refine SF_getR 4 fl_X0_24 dX0_isFreeFor_1 k_l0.1 r2 rfl ?_
  refine SF_iload_n 2 5 dX0_isFreeFor_4 rfl rfl rfl ?_
  obtain ⟨k3, h⟩ := gdK_some h
  obtain ⟨v4, g5, q6, h⟩ := bd_some h
  have s7 := w_X7_isCell (X := X) (Nat.le_refl 0) b1 l2 g g5 v4 k3 q6
  refine SF_callVb 8 mi_X7_isCell ml_X0_50 dX0_isFreeFor_5 (Nat.le_trans (by decide) hd) s7 k3.1 rfl rfl (Nat.le_of_ble_eq_true rfl) rfl ?_
  have k_l0 := k_l0.ext s7.1
  have k3 := k3.ext s7.1
  refine SF_ifeq 29 11 dX0_isFreeFor_8 rfl rfl (fun c8 => ?_) (fun c8 => ?_)
  · have h := ite_t c8 h
    refine SF_iconst (0 : Int32) 30 dX0_isFreeFor_29 rfl rfl ?_
    exact RT_b rfl rfl dX0_isFreeFor_30 h
  · have h := ite_f c8 h
    refine SF_aload_n 0 12 dX0_isFreeFor_11 rfl rfl rfl ?_
    refine SF_iload_n 1 13 dX0_isFreeFor_12 rfl rfl rfl ?_
    obtain ⟨v9, g10, q11, h⟩ := bd_some h
    have s12 := w_X0_freeFor (X := X) (Nat.le_refl 1) l0 l1 g5 g10 v9 k_l0 q11
    refine SF_callVl 16 mi_X0_freeFor ml_X0_62 dX0_isFreeFor_13 (Nat.le_trans (by decide) hd) s12 k_l0.1 rfl rfl (Nat.le_of_ble_eq_true rfl) rfl ?_
    have k_l0 := k_l0.ext s12.1
    have k3 := k3.ext s12.1
    refine SF_iload_n 2 17 dX0_isFreeFor_16 rfl rfl rfl ?_
    refine SF_lushr 18 dX0_isFreeFor_17 rfl ?_
    refine SF_lconst (1 : Int64) 19 dX0_isFreeFor_18 rfl rfl ?_
    refine SF_land 20 dX0_isFreeFor_19 rfl ?_
    refine SF_lconst (0 : Int64) 21 dX0_isFreeFor_20 rfl rfl ?_
    refine SF_lcmp 22 dX0_isFreeFor_21 rfl ?_
    refine SF_ifeq 29 25 dX0_isFreeFor_22 rfl rfl (fun c13 => ?_) (fun c13 => ?_)
    · have h := ite_t c13 h
      refine SF_iconst (0 : Int32) 30 dX0_isFreeFor_29 rfl rfl ?_
      exact RT_b rfl rfl dX0_isFreeFor_30 h
    · have h := ite_f c13 h
      refine SF_iconst (1 : Int32) 26 dX0_isFreeFor_25 rfl rfl ?_
      refine SF_goto 30 dX0_isFreeFor_26 rfl ?_
      exact RT_b rfl rfl dX0_isFreeFor_30 h

theorem dJ9_abs_0f7a4_0 : decode cJ9_abs_0f7a4 0 = .ok (.iload_n 0, 1) := by decide +kernel
theorem dJ9_abs_0f7a4_1 : decode cJ9_abs_0f7a4 1 = .ok (.ifCond .ge 8, 3) := by decide +kernel
theorem dJ9_abs_0f7a4_4 : decode cJ9_abs_0f7a4 4 = .ok (.iload_n 0, 1) := by decide +kernel
theorem dJ9_abs_0f7a4_5 : decode cJ9_abs_0f7a4 5 = .ok (.ineg, 1) := by decide +kernel
theorem dJ9_abs_0f7a4_6 : decode cJ9_abs_0f7a4 6 = .ok (.goto 4, 3) := by decide +kernel
theorem dJ9_abs_0f7a4_9 : decode cJ9_abs_0f7a4 9 = .ok (.iload_n 0, 1) := by decide +kernel
theorem dJ9_abs_0f7a4_10 : decode cJ9_abs_0f7a4 10 = .ok (.ireturn, 1) := by decide +kernel
set_option maxRecDepth 20000 in
set_option maxHeartbeats 2000000 in
theorem w_J9_abs_0f7a4 {X : CX} {d : Nat} (hd : 0 ≤ d) (l0 : Int32) (g g' : G) (rx : Int32) (h : f_J9_abs_0f7a4 l0 g = some (rx, g')) : Sem X m_J9_abs_0f7a4 d [.int l0] g (some (.int rx)) g' := by
  refine Sem_ofF (lo := [(0, .int l0)]) (by decide +kernel) rfl (Nat.le_of_ble_eq_true rfl) ?_
  rw [f_J9_abs_0f7a4] at h
  refine SF_iload_n 0 1 dJ9_abs_0f7a4_0 rfl rfl rfl ?_
  refine SF_ifge 9 4 dJ9_abs_0f7a4_1 rfl rfl (fun c1 => ?_) (fun c1 => ?_)
  · have h := ite_t c1 h
    refine SF_iload_n 0 10 dJ9_abs_0f7a4_9 rfl rfl rfl ?_
    exact RT_i rfl dJ9_abs_0f7a4_10 h
  · have h := ite_f c1 h
    refine SF_iload_n 0 5 dJ9_abs_0f7a4_4 rfl rfl rfl ?_
    refine SF_ineg 6 dJ9_abs_0f7a4_5 rfl ?_
    refine SF_goto 10 dJ9_abs_0f7a4_6 rfl ?_
    exact RT_i rfl dJ9_abs_0f7a4_10 h

theorem dX7_apart_0 : decode cX7_apart 0 = .ok (.aload_n 0, 1) := by decide +kernel
theorem dX7_apart_1 : decode cX7_apart 1 = .ok (.iload_n 1, 1) := by decide +kernel
theorem dX7_apart_2 : decode cX7_apart 2 = .ok (.invokevirtual 53, 3) := by decide +kernel
theorem dX7_apart_5 : decode cX7_apart 5 = .ok (.ifCond .eq 11, 3) := by decide +kernel
theorem dX7_apart_8 : decode cX7_apart 8 = .ok (.aload_n 0, 1) := by decide +kernel
theorem dX7_apart_9 : decode cX7_apart 9 = .ok (.iload_n 2, 1) := by decide +kernel
theorem dX7_apart_10 : decode cX7_apart 10 = .ok (.invokevirtual 53, 3) := by decide +kernel
theorem dX7_apart_13 : decode cX7_apart 13 = .ok (.ifCond .ne 5, 3) := by decide +kernel
theorem dX7_apart_16 : decode cX7_apart 16 = .ok (.iconst 0, 1) := by decide +kernel
theorem dX7_apart_17 : decode cX7_apart 17 = .ok (.ireturn, 1) := by decide +kernel
theorem dX7_apart_18 : decode cX7_apart 18 = .ok (.aload_n 0, 1) := by decide +kernel
theorem dX7_apart_19 : decode cX7_apart 19 = .ok (.getfield 15, 3) := by decide +kernel
theorem dX7_apart_22 : decode cX7_apart 22 = .ok (.iload_n 1, 1) := by decide +kernel
theorem dX7_apart_23 : decode cX7_apart 23 = .ok (.iaload, 1) := by decide +kernel
theorem dX7_apart_24 : decode cX7_apart 24 = .ok (.aload_n 0, 1) := by decide +kernel
theorem dX7_apart_25 : decode cX7_apart 25 = .ok (.getfield 15, 3) := by decide +kernel
theorem dX7_apart_28 : decode cX7_apart 28 = .ok (.iload_n 2, 1) := by decide +kernel
theorem dX7_apart_29 : decode cX7_apart 29 = .ok (.iaload, 1) := by decide +kernel
theorem dX7_apart_30 : decode cX7_apart 30 = .ok (.isub, 1) := by decide +kernel
theorem dX7_apart_31 : decode cX7_apart 31 = .ok (.invokestatic 57, 3) := by decide +kernel
theorem dX7_apart_34 : decode cX7_apart 34 = .ok (.aload_n 0, 1) := by decide +kernel
theorem dX7_apart_35 : decode cX7_apart 35 = .ok (.getfield 18, 3) := by decide +kernel
theorem dX7_apart_38 : decode cX7_apart 38 = .ok (.iload_n 1, 1) := by decide +kernel
theorem dX7_apart_39 : decode cX7_apart 39 = .ok (.iaload, 1) := by decide +kernel
theorem dX7_apart_40 : decode cX7_apart 40 = .ok (.aload_n 0, 1) := by decide +kernel
theorem dX7_apart_41 : decode cX7_apart 41 = .ok (.getfield 18, 3) := by decide +kernel
theorem dX7_apart_44 : decode cX7_apart 44 = .ok (.iload_n 2, 1) := by decide +kernel
theorem dX7_apart_45 : decode cX7_apart 45 = .ok (.iaload, 1) := by decide +kernel
theorem dX7_apart_46 : decode cX7_apart 46 = .ok (.isub, 1) := by decide +kernel
theorem dX7_apart_47 : decode cX7_apart 47 = .ok (.invokestatic 57, 3) := by decide +kernel
theorem dX7_apart_50 : decode cX7_apart 50 = .ok (.iadd, 1) := by decide +kernel
theorem dX7_apart_51 : decode cX7_apart 51 = .ok (.ireturn, 1) := by decide +kernel
set_option maxRecDepth 20000 in
set_option maxHeartbeats 2000000 in
theorem w_X7_apart {X : CX} {d : Nat} (hd : 1 ≤ d) (l0 : Nat) (l1 : Int32) (l2 : Int32) (g g' : G) (rx : Int32) (k_l0 : KD g l0 7) (h : f_X7_apart l0 l1 l2 g = some (rx, g')) : Sem X m_X7_apart d [.ref (ad X l0), .int l1, .int l2] g (some (.int rx)) g' := by
  refine Sem_of (lo := [(0, .ref (ad X l0)), (1, .int l1), (2, .int l2)]) (by decide +kernel) rfl (Nat.le_of_ble_eq_true rfl) ?_
  rw [f_X7_apart] at h
  refine SF_aload_n 0 1 dX7_apart_0 rfl rfl rfl ?_
  refine SF_iload_n 1 2 dX7_apart_1 rfl rfl rfl ?_
  obtain ⟨v1, g2, q3, h⟩ := bd_some h
  have s4 := w_X7_isCell (X := X) (Nat.le_refl 0) l0 l1 g g2 v1 k_l0 q3
  refine SF_callVb 5 mi_X7_isCell ml_X7_53 dX7_apart_2 (Nat.le_trans (by decide) hd) s4 k_l0.1 rfl rfl (Nat.le_of_ble_eq_true rfl) rfl ?_
  have k_l0 := k_l0.ext s4.1
  refine SF_ifeq 16 8 dX7_apart_5 rfl rfl (fun c5 => ?_) (fun c5 => ?_)
  · have h := ite_t c5 h
    refine SF_iconst (0 : Int32) 17 dX7_apart_16 rfl rfl ?_
    exact RT_i rfl dX7_apart_17 h
  · have h := ite_f c5 h
    refine SF_aload_n 0 9 dX7_apart_8 rfl rfl rfl ?_
    refine SF_iload_n 2 10 dX7_apart_9 rfl rfl rfl ?_
    obtain ⟨v6, g7, q8, h⟩ := bd_some h
    have s9 := w_X7_isCell (X := X) (Nat.le_refl 0) l0 l2 g2 g7 v6 k_l0 q8
    refine SF_callVb 13 mi_X7_isCell ml_X7_53 dX7_apart_10 (Nat.le_trans (by decide) hd) s9 k_l0.1 rfl rfl (Nat.le_of_ble_eq_true rfl) rfl ?_
    have k_l0 := k_l0.ext s9.1
    refine SF_ifne 18 16 dX7_apart_13 rfl rfl (fun c10 => ?_) (fun c10 => ?_)
    · have h := ite_f c10 h
      refine SF_aload_n 0 19 dX7_apart_18 rfl rfl rfl ?_
      obtain ⟨b11, r12, h⟩ := dr_some h
      refine SF_getR 22 fl_X7_15 dX7_apart_19 k_l0.1 r12 rfl ?_
      refine SF_iload_n 1 23 dX7_apart_22 rfl rfl rfl ?_
      obtain ⟨k13, h⟩ := gdK_some h
      obtain ⟨i14, h⟩ := gdI_some h
      refine SF_iald 24 dX7_apart_23 k13.1 i14 rfl ?_
      refine SF_aload_n 0 25 dX7_apart_24 rfl rfl rfl ?_
      refine SF_getR 28 fl_X7_15 dX7_apart_25 k_l0.1 r12 rfl ?_
      refine SF_iload_n 2 29 dX7_apart_28 rfl rfl rfl ?_
      obtain ⟨i15, h⟩ := gdI_some h
      refine SF_iald 30 dX7_apart_29 k13.1 i15 rfl ?_
      refine SF_isub 31 dX7_apart_30 rfl ?_
      obtain ⟨v16, g17, q18, h⟩ := bd_some h
      have s19 := w_J9_abs_0f7a4 (X := X) (Nat.le_refl 0) ((gI g7 b11 l1.toNatClampNeg) - (gI g7 b11 l2.toNatClampNeg)) g7 g17 v16 q18
      refine SF_callSi 34 mi_J9_abs_0f7a4 ml_X7_57 dX7_apart_31 (Nat.le_trans (by decide) hd) s19 rfl rfl (Nat.le_of_ble_eq_true rfl) rfl ?_
      have k_l0 := k_l0.ext s19.1
      have k13 := k13.ext s19.1
      refine SF_aload_n 0 35 dX7_apart_34 rfl rfl rfl ?_
      obtain ⟨b20, r21, h⟩ := dr_some h
      refine SF_getR 38 fl_X7_18 dX7_apart_35 k_l0.1 r21 rfl ?_
      refine SF_iload_n 1 39 dX7_apart_38 rfl rfl rfl ?_
      obtain ⟨k22, h⟩ := gdK_some h
      obtain ⟨i23, h⟩ := gdI_some h
      refine SF_iald 40 dX7_apart_39 k22.1 i23 rfl ?_
      refine SF_aload_n 0 41 dX7_apart_40 rfl rfl rfl ?_
      refine SF_getR 44 fl_X7_18 dX7_apart_41 k_l0.1 r21 rfl ?_
      refine SF_iload_n 2 45 dX7_apart_44 rfl rfl rfl ?_
      obtain ⟨i24, h⟩ := gdI_some h
      refine SF_iald 46 dX7_apart_45 k22.1 i24 rfl ?_
      refine SF_isub 47 dX7_apart_46 rfl ?_
      obtain ⟨v25, g26, q27, h⟩ := bd_some h
      have s28 := w_J9_abs_0f7a4 (X := X) (Nat.le_refl 0) ((gI g17 b20 l1.toNatClampNeg) - (gI g17 b20 l2.toNatClampNeg)) g17 g26 v25 q27
      refine SF_callSi 50 mi_J9_abs_0f7a4 ml_X7_57 dX7_apart_47 (Nat.le_trans (by decide) hd) s28 rfl rfl (Nat.le_of_ble_eq_true rfl) rfl ?_
      have k_l0 := k_l0.ext s28.1
      have k13 := k13.ext s28.1
      have k22 := k22.ext s28.1
      refine SF_iadd 51 dX7_apart_50 rfl ?_
      exact RT_i rfl dX7_apart_51 h
    · have h := ite_t c10 h
      refine SF_iconst (0 : Int32) 17 dX7_apart_16 rfl rfl ?_
      exact RT_i rfl dX7_apart_17 h

theorem dX0_settle_0 : decode cX0_settle 0 = .ok (.iconst 0, 1) := by decide +kernel
theorem dX0_settle_1 : decode cX0_settle 1 = .ok (.istore_n 2, 1) := by decide +kernel
theorem dX0_settle_2 : decode cX0_settle 2 = .ok (.iload_n 2, 1) := by decide +kernel
theorem dX0_settle_3 : decode cX0_settle 3 = .ok (.iconst 2, 1) := by decide +kernel
theorem dX0_settle_4 : decode cX0_settle 4 = .ok (.if_icmp .ge 55, 3) := by decide +kernel
theorem dX0_settle_7 : decode cX0_settle 7 = .ok (.aload_n 0, 1) := by decide +kernel
theorem dX0_settle_8 : decode cX0_settle 8 = .ok (.iload_n 1, 1) := by decide +kernel
theorem dX0_settle_9 : decode cX0_settle 9 = .ok (.invokevirtual 54, 3) := by decide +kernel
theorem dX0_settle_12 : decode cX0_settle 12 = .ok (.ifCond .eq 41, 3) := by decide +kernel
theorem dX0_settle_15 : decode cX0_settle 15 = .ok (.aload_n 0, 1) := by decide +kernel
theorem dX0_settle_16 : decode cX0_settle 16 = .ok (.getfield 24, 3) := by decide +kernel
theorem dX0_settle_19 : decode cX0_settle 19 = .ok (.getfield 89, 3) := by decide +kernel
theorem dX0_settle_22 : decode cX0_settle 22 = .ok (.iconst 2, 1) := by decide +kernel
theorem dX0_settle_23 : decode cX0_settle 23 = .ok (.iload_n 1, 1) := by decide +kernel
theorem dX0_settle_24 : decode cX0_settle 24 = .ok (.imul, 1) := by decide +kernel
theorem dX0_settle_25 : decode cX0_settle 25 = .ok (.iload_n 2, 1) := by decide +kernel
theorem dX0_settle_26 : decode cX0_settle 26 = .ok (.iadd, 1) := by decide +kernel
theorem dX0_settle_27 : decode cX0_settle 27 = .ok (.iaload, 1) := by decide +kernel
theorem dX0_settle_28 : decode cX0_settle 28 = .ok (.aload_n 0, 1) := by decide +kernel
theorem dX0_settle_29 : decode cX0_settle 29 = .ok (.getfield 9, 3) := by decide +kernel
theorem dX0_settle_32 : decode cX0_settle 32 = .ok (.iconst 2, 1) := by decide +kernel
theorem dX0_settle_33 : decode cX0_settle 33 = .ok (.iload_n 1, 1) := by decide +kernel
theorem dX0_settle_34 : decode cX0_settle 34 = .ok (.imul, 1) := by decide +kernel
theorem dX0_settle_35 : decode cX0_settle 35 = .ok (.iload_n 2, 1) := by decide +kernel
theorem dX0_settle_36 : decode cX0_settle 36 = .ok (.iadd, 1) := by decide +kernel
theorem dX0_settle_37 : decode cX0_settle 37 = .ok (.iaload, 1) := by decide +kernel
theorem dX0_settle_38 : decode cX0_settle 38 = .ok (.if_icmp .ne 15, 3) := by decide +kernel
theorem dX0_settle_41 : decode cX0_settle 41 = .ok (.aload_n 0, 1) := by decide +kernel
theorem dX0_settle_42 : decode cX0_settle 42 = .ok (.getfield 21, 3) := by decide +kernel
theorem dX0_settle_45 : decode cX0_settle 45 = .ok (.iload_n 1, 1) := by decide +kernel
theorem dX0_settle_46 : decode cX0_settle 46 = .ok (.dup2, 1) := by decide +kernel
theorem dX0_settle_47 : decode cX0_settle 47 = .ok (.iaload, 1) := by decide +kernel
theorem dX0_settle_48 : decode cX0_settle 48 = .ok (.iconst 1, 1) := by decide +kernel
theorem dX0_settle_49 : decode cX0_settle 49 = .ok (.iload_n 2, 1) := by decide +kernel
theorem dX0_settle_50 : decode cX0_settle 50 = .ok (.ishl, 1) := by decide +kernel
theorem dX0_settle_51 : decode cX0_settle 51 = .ok (.ior, 1) := by decide +kernel
theorem dX0_settle_52 : decode cX0_settle 52 = .ok (.iastore, 1) := by decide +kernel
theorem dX0_settle_53 : decode cX0_settle 53 = .ok (.iinc 2 1, 3) := by decide +kernel
theorem dX0_settle_56 : decode cX0_settle 56 = .ok (.goto (-54), 3) := by decide +kernel
theorem dX0_settle_59 : decode cX0_settle 59 = .ok (.return_, 1) := by decide +kernel
set_option maxRecDepth 20000 in
set_option maxHeartbeats 2000000 in
theorem w_X0_settle_53 {X : CX} {d : Nat} (hd : 1 ≤ d) {g' : G} {rx : Unit} (k2 : Nat → Int32 → Int32 → G → Option (Unit × G)) (hk2 : ∀ (l0 : Nat) (l1 : Int32) (l2 : Int32) (g : G), KD g l0 0 → k2 l0 l1 l2 g = some (rx, g') → SemF X m_X0_settle d 2 [(0, .ref (ad X l0)), (1, .int l1), (2, .int l2)] [] g none g') (l0 : Nat) (l1 : Int32) (l2 : Int32) (g : G) (k_l0 : KD g l0 0) (h : f_X0_settle_53 k2 l0 l1 l2 g = some (rx, g')) : SemF X m_X0_settle d 53 [(0, .ref (ad X l0)), (1, .int l1), (2, .int l2)] [] g none g' := by
  rw [f_X0_settle_53] at h
  refine SF_iinc 2 (l2 + (1 : Int32)) [(2, .int (l2 + (1 : Int32))), (0, .ref (ad X l0)), (1, .int l1)] 56 dX0_settle_53 rfl rfl (by decide) rfl rfl ?_
  refine SF_goto 2 dX0_settle_56 rfl ?_
  refine SF_sub [1, 2, 0] rfl ?_
  exact hk2 l0 l1 (l2 + (1 : Int32)) g k_l0 h

set_option maxRecDepth 20000 in
set_option maxHeartbeats 2000000 in
theorem w_X0_settle_2 {X : CX} {d : Nat} (hd : 1 ≤ d) {g' : G} {rx : Unit} : ∀ (n : Nat) (l0 : Nat) (l1 : Int32) (l2 : Int32) (g : G), KD g l0 0 → f_X0_settle_2 n l0 l1 l2 g = some (rx, g') → SemF X m_X0_settle d 2 [(0, .ref (ad X l0)), (1, .int l1), (2, .int l2)] [] g none g' := by
  intro n
  induction n with
  | zero =>
    intro l0 l1 l2 g k_l0 h
    rw [f_X0_settle_2] at h
    cases h
  | succ n ih =>
  intro l0 l1 l2 g k_l0 h
  rw [f_X0_settle_2] at h
  refine SF_iload_n 2 3 dX0_settle_2 rfl rfl rfl ?_
  refine SF_iconst (2 : Int32) 4 dX0_settle_3 rfl rfl ?_
  refine SF_icge 59 7 dX0_settle_4 rfl rfl (fun c1 => ?_) (fun c1 => ?_)
  · have h := ite_t c1 h
    exact RT_v rfl dX0_settle_59 h
  · have h := ite_f c1 h
    refine SF_aload_n 0 8 dX0_settle_7 rfl rfl rfl ?_
    refine SF_iload_n 1 9 dX0_settle_8 rfl rfl rfl ?_
    obtain ⟨v2, g3, q4, h⟩ := bd_some h
    have s5 := w_X0_isPair (X := X) (Nat.le_refl 0) l0 l1 g g3 v2 k_l0 q4
    refine SF_callVb 12 mi_X0_isPair ml_X0_54 dX0_settle_9 (Nat.le_trans (by decide) hd) s5 k_l0.1 rfl rfl (Nat.le_of_ble_eq_true rfl) rfl ?_
    have k_l0 := k_l0.ext s5.1
    refine SF_ifeq 53 15 dX0_settle_12 rfl rfl (fun c6 => ?_) (fun c6 => ?_)
    · have h := ite_t c6 h
      exact w_X0_settle_53 hd (f_X0_settle_2 n) ih l0 l1 l2 g3 k_l0 h
    · have h := ite_f c6 h
      refine SF_aload_n 0 16 dX0_settle_15 rfl rfl rfl ?_
      obtain ⟨b7, r8, h⟩ := dr_some h
      refine SF_getR 19 fl_X0_24 dX0_settle_16 k_l0.1 r8 rfl ?_
      obtain ⟨k9, h⟩ := gdK_some h
      obtain ⟨b10, r11, h⟩ := dr_some h
      refine SF_getR 22 fl_X0_89 dX0_settle_19 k9.1 r11 rfl ?_
      refine SF_iconst (2 : Int32) 23 dX0_settle_22 rfl rfl ?_
      refine SF_iload_n 1 24 dX0_settle_23 rfl rfl rfl ?_
      refine SF_imul 25 dX0_settle_24 rfl ?_
      refine SF_iload_n 2 26 dX0_settle_25 rfl rfl rfl ?_
      refine SF_iadd 27 dX0_settle_26 rfl ?_
      obtain ⟨k12, h⟩ := gdK_some h
      obtain ⟨i13, h⟩ := gdI_some h
      refine SF_iald 28 dX0_settle_27 k12.1 i13 rfl ?_
      refine SF_aload_n 0 29 dX0_settle_28 rfl rfl rfl ?_
      obtain ⟨b14, r15, h⟩ := dr_some h
      refine SF_getR 32 fl_X0_9 dX0_settle_29 k_l0.1 r15 rfl ?_
      refine SF_iconst (2 : Int32) 33 dX0_settle_32 rfl rfl ?_
      refine SF_iload_n 1 34 dX0_settle_33 rfl rfl rfl ?_
      refine SF_imul 35 dX0_settle_34 rfl ?_
      refine SF_iload_n 2 36 dX0_settle_35 rfl rfl rfl ?_
      refine SF_iadd 37 dX0_settle_36 rfl ?_
      obtain ⟨k16, h⟩ := gdK_some h
      obtain ⟨i17, h⟩ := gdI_some h
      refine SF_iald 38 dX0_settle_37 k16.1 i17 rfl ?_
      refine SF_icne 53 41 dX0_settle_38 rfl rfl (fun c18 => ?_) (fun c18 => ?_)
      · have h := ite_f c18 h
        exact w_X0_settle_53 hd (f_X0_settle_2 n) ih l0 l1 l2 g3 k_l0 h
      · have h := ite_t c18 h
        refine SF_aload_n 0 42 dX0_settle_41 rfl rfl rfl ?_
        obtain ⟨b19, r20, h⟩ := dr_some h
        refine SF_getR 45 fl_X0_21 dX0_settle_42 k_l0.1 r20 rfl ?_
        refine SF_iload_n 1 46 dX0_settle_45 rfl rfl rfl ?_
        refine SF_dup2_11 47 dX0_settle_46 rfl rfl rfl ?_
        obtain ⟨k21, h⟩ := gdK_some h
        obtain ⟨i22, h⟩ := gdI_some h
        refine SF_iald 48 dX0_settle_47 k21.1 i22 rfl ?_
        refine SF_iconst (1 : Int32) 49 dX0_settle_48 rfl rfl ?_
        refine SF_iload_n 2 50 dX0_settle_49 rfl rfl rfl ?_
        refine SF_ishl 51 dX0_settle_50 rfl ?_
        refine SF_ior 52 dX0_settle_51 rfl ?_
        refine SF_iast 53 dX0_settle_52 k21.1 i22 rfl ?_
        obtain ⟨g23, e24, h⟩ := lg_some h
        rw [← e24]
        have k_l0 := KD.eq e24 k_l0
        have k9 := KD.eq e24 k9
        have k12 := KD.eq e24 k12
        have k16 := KD.eq e24 k16
        have k21 := KD.eq e24 k21
        have r8 := gR_eq e24 r8
        have r11 := gR_eq e24 r11
        have r15 := gR_eq e24 r15
        have r20 := gR_eq e24 r20
        have i13 := vp_eq e24 i13
        have i17 := vp_eq e24 i17
        have i22 := vp_eq e24 i22
        exact w_X0_settle_53 hd (f_X0_settle_2 n) ih l0 l1 l2 g23 k_l0 h

set_option maxRecDepth 20000 in
set_option maxHeartbeats 2000000 in
theorem w_X0_settle {X : CX} {d : Nat} (hd : 1 ≤ d) (l0 : Nat) (l1 : Int32) (g g' : G) (rx : Unit) (k_l0 : KD g l0 0) (h : f_X0_settle l0 l1 g = some (rx, g')) : Sem X m_X0_settle d [.ref (ad X l0), .int l1] g none g' := by
  refine Sem_of (lo := [(0, .ref (ad X l0)), (1, .int l1)]) (by decide +kernel) rfl (Nat.le_of_ble_eq_true rfl) ?_
  rw [f_X0_settle] at h
  refine SF_iconst (0 : Int32) 1 dX0_settle_0 rfl rfl ?_
  refine SF_istore_n [(2, .int (0 : Int32)), (0, .ref (ad X l0)), (1, .int l1)] 2 dX0_settle_1 rfl (by decide) rfl rfl ?_
  refine SF_sub [1, 2, 0] rfl ?_
  exact w_X0_settle_2 hd FU l0 l1 (0 : Int32) g k_l0 h

theorem dX0_go_0 : decode cX0_go 0 = .ok (.aload_n 0, 1) := by decide +kernel
theorem dX0_go_1 : decode cX0_go 1 = .ok (.iload_n 1, 1) := by decide +kernel
theorem dX0_go_2 : decode cX0_go 2 = .ok (.invokevirtual 54, 3) := by decide +kernel
theorem dX0_go_5 : decode cX0_go 5 = .ok (.ifCond .eq 34, 3) := by decide +kernel
theorem dX0_go_8 : decode cX0_go 8 = .ok (.aload_n 0, 1) := by decide +kernel
theorem dX0_go_9 : decode cX0_go 9 = .ok (.getfield 9, 3) := by decide +kernel
theorem dX0_go_12 : decode cX0_go 12 = .ok (.iconst 2, 1) := by decide +kernel
theorem dX0_go_13 : decode cX0_go 13 = .ok (.iload_n 1, 1) := by decide +kernel
theorem dX0_go_14 : decode cX0_go 14 = .ok (.imul, 1) := by decide +kernel
theorem dX0_go_15 : decode cX0_go 15 = .ok (.iload_n 2, 1) := by decide +kernel
theorem dX0_go_16 : decode cX0_go 16 = .ok (.bipush 64, 2) := by decide +kernel
theorem dX0_go_18 : decode cX0_go 18 = .ok (.idiv, 1) := by decide +kernel
theorem dX0_go_19 : decode cX0_go 19 = .ok (.iastore, 1) := by decide +kernel
theorem dX0_go_20 : decode cX0_go 20 = .ok (.aload_n 0, 1) := by decide +kernel
theorem dX0_go_21 : decode cX0_go 21 = .ok (.getfield 9, 3) := by decide +kernel
theorem dX0_go_24 : decode cX0_go 24 = .ok (.iconst 2, 1) := by decide +kernel
theorem dX0_go_25 : decode cX0_go 25 = .ok (.iload_n 1, 1) := by decide +kernel
theorem dX0_go_26 : decode cX0_go 26 = .ok (.imul, 1) := by decide +kernel
theorem dX0_go_27 : decode cX0_go 27 = .ok (.iconst 1, 1) := by decide +kernel
theorem dX0_go_28 : decode cX0_go 28 = .ok (.iadd, 1) := by decide +kernel
theorem dX0_go_29 : decode cX0_go 29 = .ok (.iload_n 2, 1) := by decide +kernel
theorem dX0_go_30 : decode cX0_go 30 = .ok (.bipush 64, 2) := by decide +kernel
theorem dX0_go_32 : decode cX0_go 32 = .ok (.irem, 1) := by decide +kernel
theorem dX0_go_33 : decode cX0_go 33 = .ok (.iastore, 1) := by decide +kernel
theorem dX0_go_34 : decode cX0_go 34 = .ok (.aload_n 0, 1) := by decide +kernel
theorem dX0_go_35 : decode cX0_go 35 = .ok (.iload_n 1, 1) := by decide +kernel
theorem dX0_go_36 : decode cX0_go 36 = .ok (.invokevirtual 85, 3) := by decide +kernel
theorem dX0_go_39 : decode cX0_go 39 = .ok (.return_, 1) := by decide +kernel
set_option maxRecDepth 20000 in
set_option maxHeartbeats 2000000 in
theorem w_X0_go {X : CX} {d : Nat} (hd : 2 ≤ d) (l0 : Nat) (l1 : Int32) (l2 : Int32) (g g' : G) (rx : Unit) (k_l0 : KD g l0 0) (h : f_X0_go l0 l1 l2 g = some (rx, g')) : Sem X m_X0_go d [.ref (ad X l0), .int l1, .int l2] g none g' := by
  refine Sem_of (lo := [(0, .ref (ad X l0)), (1, .int l1), (2, .int l2)]) (by decide +kernel) rfl (Nat.le_of_ble_eq_true rfl) ?_
  rw [f_X0_go] at h
  refine SF_aload_n 0 1 dX0_go_0 rfl rfl rfl ?_
  refine SF_iload_n 1 2 dX0_go_1 rfl rfl rfl ?_
  obtain ⟨v1, g2, q3, h⟩ := bd_some h
  have s4 := w_X0_isPair (X := X) (Nat.le_refl 0) l0 l1 g g2 v1 k_l0 q3
  refine SF_callVb 5 mi_X0_isPair ml_X0_54 dX0_go_2 (Nat.le_trans (by decide) hd) s4 k_l0.1 rfl rfl (Nat.le_of_ble_eq_true rfl) rfl ?_
  have k_l0 := k_l0.ext s4.1
  refine SF_ifeq 39 8 dX0_go_5 rfl rfl (fun c5 => ?_) (fun c5 => ?_)
  · have h := ite_t c5 h
    exact RT_v rfl dX0_go_39 h
  · have h := ite_f c5 h
    refine SF_aload_n 0 9 dX0_go_8 rfl rfl rfl ?_
    obtain ⟨b6, r7, h⟩ := dr_some h
    refine SF_getR 12 fl_X0_9 dX0_go_9 k_l0.1 r7 rfl ?_
    refine SF_iconst (2 : Int32) 13 dX0_go_12 rfl rfl ?_
    refine SF_iload_n 1 14 dX0_go_13 rfl rfl rfl ?_
    refine SF_imul 15 dX0_go_14 rfl ?_
    refine SF_iload_n 2 16 dX0_go_15 rfl rfl rfl ?_
    refine SF_bipush (64 : Int32) 18 dX0_go_16 rfl rfl ?_
    refine SF_idiv 19 dX0_go_18 (by decide) rfl ?_
    obtain ⟨k8, h⟩ := gdK_some h
    obtain ⟨i9, h⟩ := gdI_some h
    refine SF_iast 20 dX0_go_19 k8.1 i9 rfl ?_
    obtain ⟨g10, e11, h⟩ := lg_some h
    rw [← e11]
    have k_l0 := KD.eq e11 k_l0
    have k8 := KD.eq e11 k8
    have r7 := gR_eq e11 r7
    have i9 := vp_eq e11 i9
    refine SF_aload_n 0 21 dX0_go_20 rfl rfl rfl ?_
    refine SF_getR 24 fl_X0_9 dX0_go_21 k_l0.1 r7 rfl ?_
    refine SF_iconst (2 : Int32) 25 dX0_go_24 rfl rfl ?_
    refine SF_iload_n 1 26 dX0_go_25 rfl rfl rfl ?_
    refine SF_imul 27 dX0_go_26 rfl ?_
    refine SF_iconst (1 : Int32) 28 dX0_go_27 rfl rfl ?_
    refine SF_iadd 29 dX0_go_28 rfl ?_
    refine SF_iload_n 2 30 dX0_go_29 rfl rfl rfl ?_
    refine SF_bipush (64 : Int32) 32 dX0_go_30 rfl rfl ?_
    refine SF_irem 33 dX0_go_32 (by decide) rfl ?_
    obtain ⟨i12, h⟩ := gdI_some h
    refine SF_iast 34 dX0_go_33 k8.1 i12 rfl ?_
    obtain ⟨g13, e14, h⟩ := lg_some h
    rw [← e14]
    have k_l0 := KD.eq e14 k_l0
    have k8 := KD.eq e14 k8
    have r7 := gR_eq e14 r7
    have i9 := vp_eq e14 i9
    have i12 := vp_eq e14 i12
    refine SF_aload_n 0 35 dX0_go_34 rfl rfl rfl ?_
    refine SF_iload_n 1 36 dX0_go_35 rfl rfl rfl ?_
    obtain ⟨v15, g16, q17, h⟩ := bd_some h
    have s18 := w_X0_settle (X := X) (Nat.le_refl 1) l0 l1 g13 g16 v15 k_l0 q17
    refine SF_callVv 39 mi_X0_settle ml_X0_85 dX0_go_36 (Nat.le_trans (by decide) hd) s18 k_l0.1 rfl rfl (Nat.le_of_ble_eq_true rfl) rfl ?_
    have k_l0 := k_l0.ext s18.1
    have k8 := k8.ext s18.1
    exact RT_v rfl dX0_go_39 h

theorem dX0_place_0 : decode cX0_place 0 = .ok (.aload_n 0, 1) := by decide +kernel
theorem dX0_place_1 : decode cX0_place 1 = .ok (.iload_n 1, 1) := by decide +kernel
theorem dX0_place_2 : decode cX0_place 2 = .ok (.invokevirtual 54, 3) := by decide +kernel
theorem dX0_place_5 : decode cX0_place 5 = .ok (.ifCond .eq 25, 3) := by decide +kernel
theorem dX0_place_8 : decode cX0_place 8 = .ok (.aload_n 0, 1) := by decide +kernel
theorem dX0_place_9 : decode cX0_place 9 = .ok (.getfield 24, 3) := by decide +kernel
theorem dX0_place_12 : decode cX0_place 12 = .ok (.iload_n 2, 1) := by decide +kernel
theorem dX0_place_13 : decode cX0_place 13 = .ok (.invokevirtual 50, 3) := by decide +kernel
theorem dX0_place_16 : decode cX0_place 16 = .ok (.ifCond .eq 14, 3) := by decide +kernel
theorem dX0_place_19 : decode cX0_place 19 = .ok (.aload_n 0, 1) := by decide +kernel
theorem dX0_place_20 : decode cX0_place 20 = .ok (.getfield 24, 3) := by decide +kernel
theorem dX0_place_23 : decode cX0_place 23 = .ok (.iload_n 3, 1) := by decide +kernel
theorem dX0_place_24 : decode cX0_place 24 = .ok (.invokevirtual 50, 3) := by decide +kernel
theorem dX0_place_27 : decode cX0_place 27 = .ok (.ifCond .ne 5, 3) := by decide +kernel
theorem dX0_place_30 : decode cX0_place 30 = .ok (.iconst (-1), 1) := by decide +kernel
theorem dX0_place_31 : decode cX0_place 31 = .ok (.ireturn, 1) := by decide +kernel
theorem dX0_place_32 : decode cX0_place 32 = .ok (.aload_n 0, 1) := by decide +kernel
theorem dX0_place_33 : decode cX0_place 33 = .ok (.iload_n 1, 1) := by decide +kernel
theorem dX0_place_34 : decode cX0_place 34 = .ok (.iload_n 2, 1) := by decide +kernel
theorem dX0_place_35 : decode cX0_place 35 = .ok (.invokevirtual 98, 3) := by decide +kernel
theorem dX0_place_38 : decode cX0_place 38 = .ok (.ifCond .eq 12, 3) := by decide +kernel
theorem dX0_place_41 : decode cX0_place 41 = .ok (.aload_n 0, 1) := by decide +kernel
theorem dX0_place_42 : decode cX0_place 42 = .ok (.iload_n 1, 1) := by decide +kernel
theorem dX0_place_43 : decode cX0_place 43 = .ok (.iload_n 3, 1) := by decide +kernel
theorem dX0_place_44 : decode cX0_place 44 = .ok (.invokevirtual 98, 3) := by decide +kernel
theorem dX0_place_47 : decode cX0_place 47 = .ok (.ifCond .ne 6, 3) := by decide +kernel
theorem dX0_place_50 : decode cX0_place 50 = .ok (.bipush (-2), 2) := by decide +kernel
theorem dX0_place_52 : decode cX0_place 52 = .ok (.ireturn, 1) := by decide +kernel
theorem dX0_place_53 : decode cX0_place 53 = .ok (.aload_n 0, 1) := by decide +kernel
theorem dX0_place_54 : decode cX0_place 54 = .ok (.getfield 15, 3) := by decide +kernel
theorem dX0_place_57 : decode cX0_place 57 = .ok (.iload_n 1, 1) := by decide +kernel
theorem dX0_place_58 : decode cX0_place 58 = .ok (.aload_n 0, 1) := by decide +kernel
theorem dX0_place_59 : decode cX0_place 59 = .ok (.getfield 24, 3) := by decide +kernel
theorem dX0_place_62 : decode cX0_place 62 = .ok (.iload_n 2, 1) := by decide +kernel
theorem dX0_place_63 : decode cX0_place 63 = .ok (.iload_n 3, 1) := by decide +kernel
theorem dX0_place_64 : decode cX0_place 64 = .ok (.invokevirtual 102, 3) := by decide +kernel
theorem dX0_place_67 : decode cX0_place 67 = .ok (.iastore, 1) := by decide +kernel
theorem dX0_place_68 : decode cX0_place 68 = .ok (.aload_n 0, 1) := by decide +kernel
theorem dX0_place_69 : decode cX0_place 69 = .ok (.getfield 21, 3) := by decide +kernel
theorem dX0_place_72 : decode cX0_place 72 = .ok (.iload_n 1, 1) := by decide +kernel
theorem dX0_place_73 : decode cX0_place 73 = .ok (.iconst 0, 1) := by decide +kernel
theorem dX0_place_74 : decode cX0_place 74 = .ok (.iastore, 1) := by decide +kernel
theorem dX0_place_75 : decode cX0_place 75 = .ok (.aload_n 0, 1) := by decide +kernel
theorem dX0_place_76 : decode cX0_place 76 = .ok (.iload_n 1, 1) := by decide +kernel
theorem dX0_place_77 : decode cX0_place 77 = .ok (.iload_n 2, 1) := by decide +kernel
theorem dX0_place_78 : decode cX0_place 78 = .ok (.bipush 64, 2) := by decide +kernel
theorem dX0_place_80 : decode cX0_place 80 = .ok (.imul, 1) := by decide +kernel
theorem dX0_place_81 : decode cX0_place 81 = .ok (.iload_n 3, 1) := by decide +kernel
theorem dX0_place_82 : decode cX0_place 82 = .ok (.iadd, 1) := by decide +kernel
theorem dX0_place_83 : decode cX0_place 83 = .ok (.invokevirtual 106, 3) := by decide +kernel
theorem dX0_place_86 : decode cX0_place 86 = .ok (.aload_n 0, 1) := by decide +kernel
theorem dX0_place_87 : decode cX0_place 87 = .ok (.getfield 15, 3) := by decide +kernel
theorem dX0_place_90 : decode cX0_place 90 = .ok (.iload_n 1, 1) := by decide +kernel
theorem dX0_place_91 : decode cX0_place 91 = .ok (.iaload, 1) := by decide +kernel
theorem dX0_place_92 : decode cX0_place 92 = .ok (.ireturn, 1) := by decide +kernel
set_option maxRecDepth 20000 in
set_option maxHeartbeats 2000000 in
theorem w_X0_place {X : CX} {d : Nat} (hd : 3 ≤ d) (l0 : Nat) (l1 : Int32) (l2 : Int32) (l3 : Int32) (g g' : G) (rx : Int32) (k_l0 : KD g l0 0) (h : f_X0_place l0 l1 l2 l3 g = some (rx, g')) : Sem X m_X0_place d [.ref (ad X l0), .int l1, .int l2, .int l3] g (some (.int rx)) g' := by
  refine Sem_of (lo := [(0, .ref (ad X l0)), (1, .int l1), (2, .int l2), (3, .int l3)]) (by decide +kernel) rfl (Nat.le_of_ble_eq_true rfl) ?_
  rw [f_X0_place] at h
  refine SF_aload_n 0 1 dX0_place_0 rfl rfl rfl ?_
  refine SF_iload_n 1 2 dX0_place_1 rfl rfl rfl ?_
  obtain ⟨v1, g2, q3, h⟩ := bd_some h
  have s4 := w_X0_isPair (X := X) (Nat.le_refl 0) l0 l1 g g2 v1 k_l0 q3
  refine SF_callVb 5 mi_X0_isPair ml_X0_54 dX0_place_2 (Nat.le_trans (by decide) hd) s4 k_l0.1 rfl rfl (Nat.le_of_ble_eq_true rfl) rfl ?_
  have k_l0 := k_l0.ext s4.1
  refine SF_ifeq 30 8 dX0_place_5 rfl rfl (fun c5 => ?_) (fun c5 => ?_)
  · have h := ite_t c5 h
    refine SF_iconst (-1 : Int32) 31 dX0_place_30 rfl rfl ?_
    exact RT_i rfl dX0_place_31 h
  · have h := ite_f c5 h
    refine SF_aload_n 0 9 dX0_place_8 rfl rfl rfl ?_
    obtain ⟨b6, r7, h⟩ := dr_some h
    refine SF_getR 12 fl_X0_24 dX0_place_9 k_l0.1 r7 rfl ?_
    refine SF_iload_n 2 13 dX0_place_12 rfl rfl rfl ?_
    obtain ⟨k8, h⟩ := gdK_some h
    obtain ⟨v9, g10, q11, h⟩ := bd_some h
    have s12 := w_X7_isCell (X := X) (Nat.le_refl 0) b6 l2 g2 g10 v9 k8 q11
    refine SF_callVb 16 mi_X7_isCell ml_X0_50 dX0_place_13 (Nat.le_trans (by decide) hd) s12 k8.1 rfl rfl (Nat.le_of_ble_eq_true rfl) rfl ?_
    have k_l0 := k_l0.ext s12.1
    have k8 := k8.ext s12.1
    refine SF_ifeq 30 19 dX0_place_16 rfl rfl (fun c13 => ?_) (fun c13 => ?_)
    · have h := ite_t c13 h
      refine SF_iconst (-1 : Int32) 31 dX0_place_30 rfl rfl ?_
      exact RT_i rfl dX0_place_31 h
    · have h := ite_f c13 h
      refine SF_aload_n 0 20 dX0_place_19 rfl rfl rfl ?_
      obtain ⟨b14, r15, h⟩ := dr_some h
      refine SF_getR 23 fl_X0_24 dX0_place_20 k_l0.1 r15 rfl ?_
      refine SF_iload_n 3 24 dX0_place_23 rfl rfl rfl ?_
      obtain ⟨k16, h⟩ := gdK_some h
      obtain ⟨v17, g18, q19, h⟩ := bd_some h
      have s20 := w_X7_isCell (X := X) (Nat.le_refl 0) b14 l3 g10 g18 v17 k16 q19
      refine SF_callVb 27 mi_X7_isCell ml_X0_50 dX0_place_24 (Nat.le_trans (by decide) hd) s20 k16.1 rfl rfl (Nat.le_of_ble_eq_true rfl) rfl ?_
      have k_l0 := k_l0.ext s20.1
      have k8 := k8.ext s20.1
      have k16 := k16.ext s20.1
      refine SF_ifne 32 30 dX0_place_27 rfl rfl (fun c21 => ?_) (fun c21 => ?_)
      · have h := ite_f c21 h
        refine SF_aload_n 0 33 dX0_place_32 rfl rfl rfl ?_
        refine SF_iload_n 1 34 dX0_place_33 rfl rfl rfl ?_
        refine SF_iload_n 2 35 dX0_place_34 rfl rfl rfl ?_
        obtain ⟨v22, g23, q24, h⟩ := bd_some h
        have s25 := w_X0_isFreeFor (X := X) (Nat.le_refl 2) l0 l1 l2 g18 g23 v22 k_l0 q24
        refine SF_callVb 38 mi_X0_isFreeFor ml_X0_98 dX0_place_35 (Nat.le_trans (by decide) hd) s25 k_l0.1 rfl rfl (Nat.le_of_ble_eq_true rfl) rfl ?_
        have k_l0 := k_l0.ext s25.1
        have k8 := k8.ext s25.1
        have k16 := k16.ext s25.1
        refine SF_ifeq 50 41 dX0_place_38 rfl rfl (fun c26 => ?_) (fun c26 => ?_)
        · have h := ite_t c26 h
          refine SF_bipush (-2 : Int32) 52 dX0_place_50 rfl rfl ?_
          exact RT_i rfl dX0_place_52 h
        · have h := ite_f c26 h
          refine SF_aload_n 0 42 dX0_place_41 rfl rfl rfl ?_
          refine SF_iload_n 1 43 dX0_place_42 rfl rfl rfl ?_
          refine SF_iload_n 3 44 dX0_place_43 rfl rfl rfl ?_
          obtain ⟨v27, g28, q29, h⟩ := bd_some h
          have s30 := w_X0_isFreeFor (X := X) (Nat.le_refl 2) l0 l1 l3 g23 g28 v27 k_l0 q29
          refine SF_callVb 47 mi_X0_isFreeFor ml_X0_98 dX0_place_44 (Nat.le_trans (by decide) hd) s30 k_l0.1 rfl rfl (Nat.le_of_ble_eq_true rfl) rfl ?_
          have k_l0 := k_l0.ext s30.1
          have k8 := k8.ext s30.1
          have k16 := k16.ext s30.1
          refine SF_ifne 53 50 dX0_place_47 rfl rfl (fun c31 => ?_) (fun c31 => ?_)
          · have h := ite_f c31 h
            refine SF_aload_n 0 54 dX0_place_53 rfl rfl rfl ?_
            obtain ⟨b32, r33, h⟩ := dr_some h
            refine SF_getR 57 fl_X0_15 dX0_place_54 k_l0.1 r33 rfl ?_
            refine SF_iload_n 1 58 dX0_place_57 rfl rfl rfl ?_
            refine SF_aload_n 0 59 dX0_place_58 rfl rfl rfl ?_
            obtain ⟨b34, r35, h⟩ := dr_some h
            refine SF_getR 62 fl_X0_24 dX0_place_59 k_l0.1 r35 rfl ?_
            refine SF_iload_n 2 63 dX0_place_62 rfl rfl rfl ?_
            refine SF_iload_n 3 64 dX0_place_63 rfl rfl rfl ?_
            obtain ⟨k36, h⟩ := gdK_some h
            obtain ⟨v37, g38, q39, h⟩ := bd_some h
            have s40 := w_X7_apart (X := X) (Nat.le_refl 1) b34 l2 l3 g28 g38 v37 k36 q39
            refine SF_callVi 67 mi_X7_apart ml_X0_102 dX0_place_64 (Nat.le_trans (by decide) hd) s40 k36.1 rfl rfl (Nat.le_of_ble_eq_true rfl) rfl ?_
            have k_l0 := k_l0.ext s40.1
            have k8 := k8.ext s40.1
            have k16 := k16.ext s40.1
            have k36 := k36.ext s40.1
            obtain ⟨k41, h⟩ := gdK_some h
            obtain ⟨i42, h⟩ := gdI_some h
            refine SF_iast 68 dX0_place_67 k41.1 i42 rfl ?_
            obtain ⟨g43, e44, h⟩ := lg_some h
            rw [← e44]
            have k_l0 := KD.eq e44 k_l0
            have k8 := KD.eq e44 k8
            have k16 := KD.eq e44 k16
            have k36 := KD.eq e44 k36
            have k41 := KD.eq e44 k41
            have i42 := vp_eq e44 i42
            refine SF_aload_n 0 69 dX0_place_68 rfl rfl rfl ?_
            obtain ⟨b45, r46, h⟩ := dr_some h
            refine SF_getR 72 fl_X0_21 dX0_place_69 k_l0.1 r46 rfl ?_
            refine SF_iload_n 1 73 dX0_place_72 rfl rfl rfl ?_
            refine SF_iconst (0 : Int32) 74 dX0_place_73 rfl rfl ?_
            obtain ⟨k47, h⟩ := gdK_some h
            obtain ⟨i48, h⟩ := gdI_some h
            refine SF_iast 75 dX0_place_74 k47.1 i48 rfl ?_
            obtain ⟨g49, e50, h⟩ := lg_some h
            rw [← e50]
            have k_l0 := KD.eq e50 k_l0
            have k8 := KD.eq e50 k8
            have k16 := KD.eq e50 k16
            have k36 := KD.eq e50 k36
            have k41 := KD.eq e50 k41
            have k47 := KD.eq e50 k47
            have r46 := gR_eq e50 r46
            have i42 := vp_eq e50 i42
            have i48 := vp_eq e50 i48
            refine SF_aload_n 0 76 dX0_place_75 rfl rfl rfl ?_
            refine SF_iload_n 1 77 dX0_place_76 rfl rfl rfl ?_
            refine SF_iload_n 2 78 dX0_place_77 rfl rfl rfl ?_
            refine SF_bipush (64 : Int32) 80 dX0_place_78 rfl rfl ?_
            refine SF_imul 81 dX0_place_80 rfl ?_
            refine SF_iload_n 3 82 dX0_place_81 rfl rfl rfl ?_
            refine SF_iadd 83 dX0_place_82 rfl ?_
            obtain ⟨v51, g52, q53, h⟩ := bd_some h
            have s54 := w_X0_go (X := X) (Nat.le_refl 2) l0 l1 ((l2 * (64 : Int32)) + l3) g49 g52 v51 k_l0 q53
            refine SF_callVv 86 mi_X0_go ml_X0_106 dX0_place_83 (Nat.le_trans (by decide) hd) s54 k_l0.1 rfl rfl (Nat.le_of_ble_eq_true rfl) rfl ?_
            have k_l0 := k_l0.ext s54.1
            have k8 := k8.ext s54.1
            have k16 := k16.ext s54.1
            have k36 := k36.ext s54.1
            have k41 := k41.ext s54.1
            have k47 := k47.ext s54.1
            refine SF_aload_n 0 87 dX0_place_86 rfl rfl rfl ?_
            obtain ⟨b55, r56, h⟩ := dr_some h
            refine SF_getR 90 fl_X0_15 dX0_place_87 k_l0.1 r56 rfl ?_
            refine SF_iload_n 1 91 dX0_place_90 rfl rfl rfl ?_
            obtain ⟨k57, h⟩ := gdK_some h
            obtain ⟨i58, h⟩ := gdI_some h
            refine SF_iald 92 dX0_place_91 k57.1 i58 rfl ?_
            exact RT_i rfl dX0_place_92 h
          · have h := ite_t c31 h
            refine SF_bipush (-2 : Int32) 52 dX0_place_50 rfl rfl ?_
            exact RT_i rfl dX0_place_52 h
      · have h := ite_t c21 h
        refine SF_iconst (-1 : Int32) 31 dX0_place_30 rfl rfl ?_
        exact RT_i rfl dX0_place_31 h

theorem dX8_pairLine_0 : decode cX8_pairLine 0 = .ok (.aload_n 0, 1) := by decide +kernel
theorem dX8_pairLine_1 : decode cX8_pairLine 1 = .ok (.getfield 32, 3) := by decide +kernel
theorem dX8_pairLine_4 : decode cX8_pairLine 4 = .ok (.getfield 160, 3) := by decide +kernel
theorem dX8_pairLine_7 : decode cX8_pairLine 7 = .ok (.istore_n 1, 1) := by decide +kernel
theorem dX8_pairLine_8 : decode cX8_pairLine 8 = .ok (.iload_n 1, 1) := by decide +kernel
theorem dX8_pairLine_9 : decode cX8_pairLine 9 = .ok (.iconst 3, 1) := by decide +kernel
theorem dX8_pairLine_10 : decode cX8_pairLine 10 = .ok (.if_icmp .lt 9, 3) := by decide +kernel
theorem dX8_pairLine_13 : decode cX8_pairLine 13 = .ok (.aload_n 0, 1) := by decide +kernel
theorem dX8_pairLine_14 : decode cX8_pairLine 14 = .ok (.iconst 4, 1) := by decide +kernel
theorem dX8_pairLine_15 : decode cX8_pairLine 15 = .ok (.invokevirtual 130, 3) := by decide +kernel
theorem dX8_pairLine_18 : decode cX8_pairLine 18 = .ok (.ireturn, 1) := by decide +kernel
theorem dX8_pairLine_19 : decode cX8_pairLine 19 = .ok (.aload_n 0, 1) := by decide +kernel
theorem dX8_pairLine_20 : decode cX8_pairLine 20 = .ok (.invokevirtual 66, 3) := by decide +kernel
theorem dX8_pairLine_23 : decode cX8_pairLine 23 = .ok (.aload_n 0, 1) := by decide +kernel
theorem dX8_pairLine_24 : decode cX8_pairLine 24 = .ok (.getfield 41, 3) := by decide +kernel
theorem dX8_pairLine_27 : decode cX8_pairLine 27 = .ok (.iload_n 1, 1) := by decide +kernel
theorem dX8_pairLine_28 : decode cX8_pairLine 28 = .ok (.invokevirtual 197, 3) := by decide +kernel
theorem dX8_pairLine_31 : decode cX8_pairLine 31 = .ok (.lstore_n 2, 1) := by decide +kernel
theorem dX8_pairLine_32 : decode cX8_pairLine 32 = .ok (.aload_n 0, 1) := by decide +kernel
theorem dX8_pairLine_33 : decode cX8_pairLine 33 = .ok (.lload_n 2, 1) := by decide +kernel
theorem dX8_pairLine_34 : decode cX8_pairLine 34 = .ok (.invokevirtual 201, 3) := by decide +kernel
theorem dX8_pairLine_37 : decode cX8_pairLine 37 = .ok (.ifCond .ne 5, 3) := by decide +kernel
theorem dX8_pairLine_40 : decode cX8_pairLine 40 = .ok (.iconst 0, 1) := by decide +kernel
theorem dX8_pairLine_41 : decode cX8_pairLine 41 = .ok (.ireturn, 1) := by decide +kernel
theorem dX8_pairLine_42 : decode cX8_pairLine 42 = .ok (.aload_n 0, 1) := by decide +kernel
theorem dX8_pairLine_43 : decode cX8_pairLine 43 = .ok (.getfield 136, 3) := by decide +kernel
theorem dX8_pairLine_46 : decode cX8_pairLine 46 = .ok (.istore 4, 2) := by decide +kernel
theorem dX8_pairLine_48 : decode cX8_pairLine 48 = .ok (.aload_n 0, 1) := by decide +kernel
theorem dX8_pairLine_49 : decode cX8_pairLine 49 = .ok (.lload_n 2, 1) := by decide +kernel
theorem dX8_pairLine_50 : decode cX8_pairLine 50 = .ok (.invokevirtual 201, 3) := by decide +kernel
theorem dX8_pairLine_53 : decode cX8_pairLine 53 = .ok (.ifCond .ne 5, 3) := by decide +kernel
theorem dX8_pairLine_56 : decode cX8_pairLine 56 = .ok (.iconst 0, 1) := by decide +kernel
theorem dX8_pairLine_57 : decode cX8_pairLine 57 = .ok (.ireturn, 1) := by decide +kernel
theorem dX8_pairLine_58 : decode cX8_pairLine 58 = .ok (.aload_n 0, 1) := by decide +kernel
theorem dX8_pairLine_59 : decode cX8_pairLine 59 = .ok (.getfield 136, 3) := by decide +kernel
theorem dX8_pairLine_62 : decode cX8_pairLine 62 = .ok (.istore 5, 2) := by decide +kernel
theorem dX8_pairLine_64 : decode cX8_pairLine 64 = .ok (.iconst 0, 1) := by decide +kernel
theorem dX8_pairLine_65 : decode cX8_pairLine 65 = .ok (.istore 6, 2) := by decide +kernel
theorem dX8_pairLine_67 : decode cX8_pairLine 67 = .ok (.iload 6, 2) := by decide +kernel
theorem dX8_pairLine_69 : decode cX8_pairLine 69 = .ok (.sipush 900, 3) := by decide +kernel
theorem dX8_pairLine_72 : decode cX8_pairLine 72 = .ok (.if_icmp .ge 36, 3) := by decide +kernel
theorem dX8_pairLine_75 : decode cX8_pairLine 75 = .ok (.aload_n 0, 1) := by decide +kernel
theorem dX8_pairLine_76 : decode cX8_pairLine 76 = .ok (.bipush 11, 2) := by decide +kernel
theorem dX8_pairLine_78 : decode cX8_pairLine 78 = .ok (.invokevirtual 139, 3) := by decide +kernel
theorem dX8_pairLine_81 : decode cX8_pairLine 81 = .ok (.ifCond .ne 11, 3) := by decide +kernel
theorem dX8_pairLine_84 : decode cX8_pairLine 84 = .ok (.aload_n 0, 1) := by decide +kernel
theorem dX8_pairLine_85 : decode cX8_pairLine 85 = .ok (.iconst 2, 1) := by decide +kernel
theorem dX8_pairLine_86 : decode cX8_pairLine 86 = .ok (.invokevirtual 139, 3) := by decide +kernel
theorem dX8_pairLine_89 : decode cX8_pairLine 89 = .ok (.ifCond .eq 19, 3) := by decide +kernel
theorem dX8_pairLine_92 : decode cX8_pairLine 92 = .ok (.aload_n 0, 1) := by decide +kernel
theorem dX8_pairLine_93 : decode cX8_pairLine 93 = .ok (.iload_n 1, 1) := by decide +kernel
theorem dX8_pairLine_94 : decode cX8_pairLine 94 = .ok (.invokevirtual 205, 3) := by decide +kernel
theorem dX8_pairLine_97 : decode cX8_pairLine 97 = .ok (.ifCond .ne 5, 3) := by decide +kernel
theorem dX8_pairLine_100 : decode cX8_pairLine 100 = .ok (.iconst 0, 1) := by decide +kernel
theorem dX8_pairLine_101 : decode cX8_pairLine 101 = .ok (.ireturn, 1) := by decide +kernel
theorem dX8_pairLine_102 : decode cX8_pairLine 102 = .ok (.iinc 6 1, 3) := by decide +kernel
theorem dX8_pairLine_105 : decode cX8_pairLine 105 = .ok (.goto (-38), 3) := by decide +kernel
theorem dX8_pairLine_108 : decode cX8_pairLine 108 = .ok (.aload_n 0, 1) := by decide +kernel
theorem dX8_pairLine_109 : decode cX8_pairLine 109 = .ok (.getfield 32, 3) := by decide +kernel
theorem dX8_pairLine_112 : decode cX8_pairLine 112 = .ok (.iload_n 1, 1) := by decide +kernel
theorem dX8_pairLine_113 : decode cX8_pairLine 113 = .ok (.iconst 1, 1) := by decide +kernel
theorem dX8_pairLine_114 : decode cX8_pairLine 114 = .ok (.iadd, 1) := by decide +kernel
theorem dX8_pairLine_115 : decode cX8_pairLine 115 = .ok (.putfield 160, 3) := by decide +kernel
theorem dX8_pairLine_118 : decode cX8_pairLine 118 = .ok (.aload_n 0, 1) := by decide +kernel
theorem dX8_pairLine_119 : decode cX8_pairLine 119 = .ok (.getfield 41, 3) := by decide +kernel
theorem dX8_pairLine_122 : decode cX8_pairLine 122 = .ok (.iload_n 1, 1) := by decide +kernel
theorem dX8_pairLine_123 : decode cX8_pairLine 123 = .ok (.iload 4, 2) := by decide +kernel
theorem dX8_pairLine_125 : decode cX8_pairLine 125 = .ok (.iload 5, 2) := by decide +kernel
theorem dX8_pairLine_127 : decode cX8_pairLine 127 = .ok (.invokevirtual 208, 3) := by decide +kernel
theorem dX8_pairLine_130 : decode cX8_pairLine 130 = .ok (.pop, 1) := by decide +kernel
theorem dX8_pairLine_131 : decode cX8_pairLine 131 = .ok (.iconst 1, 1) := by decide +kernel
theorem dX8_pairLine_132 : decode cX8_pairLine 132 = .ok (.ireturn, 1) := by decide +kernel
set_option maxRecDepth 20000 in
set_option maxHeartbeats 2000000 in
theorem w_X8_pairLine_92 {X : CX} {d : Nat} (hd : 4 ≤ d) {g' : G} {rx : Bool} (k67 : Nat → Int32 → Int32 → Int32 → Int32 → G → Option (Bool × G)) (hk67 : ∀ (l0 : Nat) (l1 : Int32) (l4 : Int32) (l5 : Int32) (l6 : Int32) (g : G), KD g l0 8 → k67 l0 l1 l4 l5 l6 g = some (rx, g') → SemF X m_X8_pairLine d 67 [(0, .ref (ad X l0)), (1, .int l1), (4, .int l4), (5, .int l5), (6, .int l6)] [] g (some (.int (b2i rx))) g') (l0 : Nat) (l1 : Int32) (l4 : Int32) (l5 : Int32) (l6 : Int32) (g : G) (k_l0 : KD g l0 8) (h : f_X8_pairLine_92 k67 l0 l1 l4 l5 l6 g = some (rx, g')) : SemF X m_X8_pairLine d 92 [(0, .ref (ad X l0)), (1, .int l1), (4, .int l4), (5, .int l5), (6, .int l6)] [] g (some (.int (b2i rx))) g' := by
  rw [f_X8_pairLine_92] at h
  refine SF_aload_n 0 93 dX8_pairLine_92 rfl rfl rfl ?_
  refine SF_iload_n 1 94 dX8_pairLine_93 rfl rfl rfl ?_
  obtain ⟨v1, g2, q3, h⟩ := bd_some h
  have s4 := w_X8_flag (X := X) (Nat.le_refl 3) l0 l1 g g2 v1 k_l0 q3
  refine SF_callVb 97 mi_X8_flag ml_X8_205 dX8_pairLine_94 (Nat.le_trans (by decide) hd) s4 k_l0.1 rfl rfl (Nat.le_of_ble_eq_true rfl) rfl ?_
  have k_l0 := k_l0.ext s4.1
  refine SF_ifne 102 100 dX8_pairLine_97 rfl rfl (fun c5 => ?_) (fun c5 => ?_)
  · have h := ite_f c5 h
    refine SF_iinc 4 (l6 + (1 : Int32)) [(6, .int (l6 + (1 : Int32))), (0, .ref (ad X l0)), (1, .int l1), (4, .int l4), (5, .int l5)] 105 dX8_pairLine_102 rfl rfl (by decide) rfl rfl ?_
    refine SF_goto 67 dX8_pairLine_105 rfl ?_
    refine SF_sub [1, 2, 3, 4, 0] rfl ?_
    exact hk67 l0 l1 l4 l5 (l6 + (1 : Int32)) g2 k_l0 h
  · have h := ite_t c5 h
    refine SF_iconst (0 : Int32) 101 dX8_pairLine_100 rfl rfl ?_
    exact RT_b rfl rfl dX8_pairLine_101 h

set_option maxRecDepth 20000 in
set_option maxHeartbeats 2000000 in
theorem w_X8_pairLine_108 {X : CX} {d : Nat} (hd : 4 ≤ d) {g' : G} {rx : Bool} (l0 : Nat) (l1 : Int32) (l4 : Int32) (l5 : Int32) (g : G) (k_l0 : KD g l0 8) (h : f_X8_pairLine_108 l0 l1 l4 l5 g = some (rx, g')) : SemF X m_X8_pairLine d 108 [(0, .ref (ad X l0)), (1, .int l1), (4, .int l4), (5, .int l5)] [] g (some (.int (b2i rx))) g' := by
  rw [f_X8_pairLine_108] at h
  refine SF_aload_n 0 109 dX8_pairLine_108 rfl rfl rfl ?_
  obtain ⟨b1, r2, h⟩ := dr_some h
  refine SF_getR 112 fl_X8_32 dX8_pairLine_109 k_l0.1 r2 rfl ?_
  refine SF_iload_n 1 113 dX8_pairLine_112 rfl rfl rfl ?_
  refine SF_iconst (1 : Int32) 114 dX8_pairLine_113 rfl rfl ?_
  refine SF_iadd 115 dX8_pairLine_114 rfl ?_
  obtain ⟨k3, h⟩ := gdK_some h
  refine SF_putI 118 fl_X8_160 dX8_pairLine_115 k3.1 (fn_int _) (Or.inl rfl) rfl ?_
  obtain ⟨g4, e5, h⟩ := lg_some h
  rw [← e5]
  have k_l0 := KD.eq e5 k_l0
  have k3 := KD.eq e5 k3
  have r2 := gR_eq e5 r2
  refine SF_aload_n 0 119 dX8_pairLine_118 rfl rfl rfl ?_
  obtain ⟨b6, r7, h⟩ := dr_some h
  refine SF_getR 122 fl_X8_41 dX8_pairLine_119 k_l0.1 r7 rfl ?_
  refine SF_iload_n 1 123 dX8_pairLine_122 rfl rfl rfl ?_
  refine SF_iload 2 125 dX8_pairLine_123 rfl rfl ?_
  refine SF_iload 3 127 dX8_pairLine_125 rfl rfl ?_
  obtain ⟨k8, h⟩ := gdK_some h
  obtain ⟨v9, g10, q11, h⟩ := bd_some h
  have s12 := w_X0_place (X := X) (Nat.le_refl 3) b6 l1 l4 l5 g4 g10 v9 k8 q11
  refine SF_callVi 130 mi_X0_place ml_X8_208 dX8_pairLine_127 (Nat.le_trans (by decide) hd) s12 k8.1 rfl rfl (Nat.le_of_ble_eq_true rfl) rfl ?_
  have k_l0 := k_l0.ext s12.1
  have k3 := k3.ext s12.1
  have k8 := k8.ext s12.1
  refine SF_pop 131 dX8_pairLine_130 rfl rfl ?_
  refine SF_iconst (1 : Int32) 132 dX8_pairLine_131 rfl rfl ?_
  exact RT_b rfl rfl dX8_pairLine_132 h

set_option maxRecDepth 20000 in
set_option maxHeartbeats 2000000 in
theorem w_X8_pairLine_67 {X : CX} {d : Nat} (hd : 4 ≤ d) {g' : G} {rx : Bool} : ∀ (n : Nat) (l0 : Nat) (l1 : Int32) (l4 : Int32) (l5 : Int32) (l6 : Int32) (g : G), KD g l0 8 → f_X8_pairLine_67 n l0 l1 l4 l5 l6 g = some (rx, g') → SemF X m_X8_pairLine d 67 [(0, .ref (ad X l0)), (1, .int l1), (4, .int l4), (5, .int l5), (6, .int l6)] [] g (some (.int (b2i rx))) g' := by
  intro n
  induction n with
  | zero =>
    intro l0 l1 l4 l5 l6 g k_l0 h
    rw [f_X8_pairLine_67] at h
    cases h
  | succ n ih =>
  intro l0 l1 l4 l5 l6 g k_l0 h
  rw [f_X8_pairLine_67] at h
  refine SF_iload 4 69 dX8_pairLine_67 rfl rfl ?_
  refine SF_sipush (900 : Int32) 72 dX8_pairLine_69 rfl rfl ?_
  refine SF_icge 108 75 dX8_pairLine_72 rfl rfl (fun c1 => ?_) (fun c1 => ?_)
  · have h := ite_t c1 h
    refine SF_sub [0, 1, 2, 3] rfl ?_
    exact w_X8_pairLine_108 hd l0 l1 l4 l5 g k_l0 h
  · have h := ite_f c1 h
    refine SF_aload_n 0 76 dX8_pairLine_75 rfl rfl rfl ?_
    refine SF_bipush (11 : Int32) 78 dX8_pairLine_76 rfl rfl ?_
    obtain ⟨v2, g3, q4, h⟩ := bd_some h
    have s5 := w_X8_isWord (X := X) (Nat.le_refl 0) l0 (11 : Int32) g g3 v2 k_l0 q4
    refine SF_callVb 81 mi_X8_isWord ml_X8_139 dX8_pairLine_78 (Nat.le_trans (by decide) hd) s5 k_l0.1 rfl rfl (Nat.le_of_ble_eq_true rfl) rfl ?_
    have k_l0 := k_l0.ext s5.1
    refine SF_ifne 92 84 dX8_pairLine_81 rfl rfl (fun c6 => ?_) (fun c6 => ?_)
    · have h := ite_f c6 h
      exact w_X8_pairLine_92 hd (f_X8_pairLine_67 n) ih l0 l1 l4 l5 l6 g3 k_l0 h
    · have h := ite_t c6 h
      refine SF_aload_n 0 85 dX8_pairLine_84 rfl rfl rfl ?_
      refine SF_iconst (2 : Int32) 86 dX8_pairLine_85 rfl rfl ?_
      obtain ⟨v7, g8, q9, h⟩ := bd_some h
      have s10 := w_X8_isWord (X := X) (Nat.le_refl 0) l0 (2 : Int32) g3 g8 v7 k_l0 q9
      refine SF_callVb 89 mi_X8_isWord ml_X8_139 dX8_pairLine_86 (Nat.le_trans (by decide) hd) s10 k_l0.1 rfl rfl (Nat.le_of_ble_eq_true rfl) rfl ?_
      have k_l0 := k_l0.ext s10.1
      refine SF_ifeq 108 92 dX8_pairLine_89 rfl rfl (fun c11 => ?_) (fun c11 => ?_)
      · have h := ite_t c11 h
        refine SF_sub [0, 1, 2, 3] rfl ?_
        exact w_X8_pairLine_108 hd l0 l1 l4 l5 g8 k_l0 h
      · have h := ite_f c11 h
        exact w_X8_pairLine_92 hd (f_X8_pairLine_67 n) ih l0 l1 l4 l5 l6 g8 k_l0 h

set_option maxRecDepth 20000 in
set_option maxHeartbeats 2000000 in
theorem w_X8_pairLine {X : CX} {d : Nat} (hd : 4 ≤ d) (l0 : Nat) (g g' : G) (rx : Bool) (k_l0 : KD g l0 8) (h : f_X8_pairLine l0 g = some (rx, g')) : Sem X m_X8_pairLine d [.ref (ad X l0)] g (some (.int (b2i rx))) g' := by
  refine Sem_of (lo := [(0, .ref (ad X l0))]) (by decide +kernel) rfl (Nat.le_of_ble_eq_true rfl) ?_
  rw [f_X8_pairLine] at h
  refine SF_aload_n 0 1 dX8_pairLine_0 rfl rfl rfl ?_
  obtain ⟨b1, r2, h⟩ := dr_some h
  refine SF_getR 4 fl_X8_32 dX8_pairLine_1 k_l0.1 r2 rfl ?_
  obtain ⟨k3, h⟩ := gdK_some h
  refine SF_getI 7 fl_X8_160 dX8_pairLine_4 k3.1 rfl ?_
  obtain ⟨y4, e5, h⟩ := li_some h
  refine SF_eqI e5 ?_
  refine SF_istore_n [(1, .int y4), (0, .ref (ad X l0))] 8 dX8_pairLine_7 rfl (by decide) rfl rfl ?_
  refine SF_iload_n 0 9 dX8_pairLine_8 rfl rfl rfl ?_
  refine SF_iconst (3 : Int32) 10 dX8_pairLine_9 rfl rfl ?_
  refine SF_iclt 19 13 dX8_pairLine_10 rfl rfl (fun c6 => ?_) (fun c6 => ?_)
  · have h := ite_t c6 h
    refine SF_aload_n 1 20 dX8_pairLine_19 rfl rfl rfl ?_
    obtain ⟨v7, g8, q9, h⟩ := bd_some h
    have s10 := w_X8_look (X := X) (Nat.le_refl 0) l0 g g8 v7 k_l0 q9
    refine SF_callVv 23 mi_X8_look ml_X8_66 dX8_pairLine_20 (Nat.le_trans (by decide) hd) s10 k_l0.1 rfl rfl (Nat.le_of_ble_eq_true rfl) rfl ?_
    have k_l0 := k_l0.ext s10.1
    have k3 := k3.ext s10.1
    refine SF_aload_n 1 24 dX8_pairLine_23 rfl rfl rfl ?_
    obtain ⟨b11, r12, h⟩ := dr_some h
    refine SF_getR 27 fl_X8_41 dX8_pairLine_24 k_l0.1 r12 rfl ?_
    refine SF_iload_n 0 28 dX8_pairLine_27 rfl rfl rfl ?_
    obtain ⟨k13, h⟩ := gdK_some h
    obtain ⟨v14, g15, q16, h⟩ := bd_some h
    have s17 := w_X0_freeFor (X := X) (Nat.le_refl 1) b11 y4 g8 g15 v14 k13 q16
    refine SF_callVl 31 mi_X0_freeFor ml_X8_197 dX8_pairLine_28 (Nat.le_trans (by decide) hd) s17 k13.1 rfl rfl (Nat.le_of_ble_eq_true rfl) rfl ?_
    have k_l0 := k_l0.ext s17.1
    have k3 := k3.ext s17.1
    have k13 := k13.ext s17.1
    refine SF_lstore_n [(2, .long v14), (1, .int y4), (0, .ref (ad X l0))] 32 dX8_pairLine_31 rfl (by decide) rfl rfl ?_
    refine SF_aload_n 2 33 dX8_pairLine_32 rfl rfl rfl ?_
    refine SF_lload_n 0 34 dX8_pairLine_33 rfl rfl rfl ?_
    obtain ⟨v18, g19, q20, h⟩ := bd_some h
    have s21 := w_X8_takeCell (X := X) (Nat.le_refl 2) l0 v14 g15 g19 v18 k_l0 q20
    refine SF_callVb 37 mi_X8_takeCell ml_X8_201 dX8_pairLine_34 (Nat.le_trans (by decide) hd) s21 k_l0.1 rfl rfl (Nat.le_of_ble_eq_true rfl) rfl ?_
    have k_l0 := k_l0.ext s21.1
    have k3 := k3.ext s21.1
    have k13 := k13.ext s21.1
    refine SF_ifne 42 40 dX8_pairLine_37 rfl rfl (fun c22 => ?_) (fun c22 => ?_)
    · have h := ite_f c22 h
      refine SF_aload_n 2 43 dX8_pairLine_42 rfl rfl rfl ?_
      refine SF_getI 46 fl_X8_136 dX8_pairLine_43 k_l0.1 rfl ?_
      obtain ⟨y23, e24, h⟩ := li_some h
      refine SF_eqI e24 ?_
      refine SF_istore [(4, .int y23), (2, .long v14), (1, .int y4), (0, .ref (ad X l0))] 48 dX8_pairLine_46 (by decide) rfl rfl ?_
      refine SF_aload_n 3 49 dX8_pairLine_48 rfl rfl rfl ?_
      refine SF_lload_n 1 50 dX8_pairLine_49 rfl rfl rfl ?_
      obtain ⟨v25, g26, q27, h⟩ := bd_some h
      have s28 := w_X8_takeCell (X := X) (Nat.le_refl 2) l0 v14 g19 g26 v25 k_l0 q27
      refine SF_callVb 53 mi_X8_takeCell ml_X8_201 dX8_pairLine_50 (Nat.le_trans (by decide) hd) s28 k_l0.1 rfl rfl (Nat.le_of_ble_eq_true rfl) rfl ?_
      have k_l0 := k_l0.ext s28.1
      have k3 := k3.ext s28.1
      have k13 := k13.ext s28.1
      refine SF_ifne 58 56 dX8_pairLine_53 rfl rfl (fun c29 => ?_) (fun c29 => ?_)
      · have h := ite_f c29 h
        refine SF_aload_n 3 59 dX8_pairLine_58 rfl rfl rfl ?_
        refine SF_getI 62 fl_X8_136 dX8_pairLine_59 k_l0.1 rfl ?_
        obtain ⟨y30, e31, h⟩ := li_some h
        refine SF_eqI e31 ?_
        refine SF_istore [(5, .int y30), (4, .int y23), (2, .long v14), (1, .int y4), (0, .ref (ad X l0))] 64 dX8_pairLine_62 (by decide) rfl rfl ?_
        refine SF_iconst (0 : Int32) 65 dX8_pairLine_64 rfl rfl ?_
        refine SF_istore [(6, .int (0 : Int32)), (5, .int y30), (4, .int y23), (2, .long v14), (1, .int y4), (0, .ref (ad X l0))] 67 dX8_pairLine_65 (by decide) rfl rfl ?_
        refine SF_sub [5, 4, 2, 1, 0] rfl ?_
        exact w_X8_pairLine_67 hd FU l0 y4 y23 y30 (0 : Int32) g26 k_l0 h
      · have h := ite_t c29 h
        refine SF_iconst (0 : Int32) 57 dX8_pairLine_56 rfl rfl ?_
        exact RT_b rfl rfl dX8_pairLine_57 h
    · have h := ite_t c22 h
      refine SF_iconst (0 : Int32) 41 dX8_pairLine_40 rfl rfl ?_
      exact RT_b rfl rfl dX8_pairLine_41 h
  · have h := ite_f c6 h
    refine SF_aload_n 1 14 dX8_pairLine_13 rfl rfl rfl ?_
    refine SF_iconst (4 : Int32) 15 dX8_pairLine_14 rfl rfl ?_
    obtain ⟨v32, g33, q34, h⟩ := bd_some h
    have s35 := w_X8_refuse (X := X) (Nat.le_refl 0) l0 (4 : Int32) g g33 v32 k_l0 q34
    refine SF_callVb 18 mi_X8_refuse ml_X8_130 dX8_pairLine_15 (Nat.le_trans (by decide) hd) s35 k_l0.1 rfl rfl (Nat.le_of_ble_eq_true rfl) rfl ?_
    have k_l0 := k_l0.ext s35.1
    have k3 := k3.ext s35.1
    exact RT_b rfl rfl dX8_pairLine_18 h

theorem dJ7_copyOf_59c91_0 : decode cJ7_copyOf_59c91 0 = .ok (.iload_n 1, 1) := by decide +kernel
theorem dJ7_copyOf_59c91_1 : decode cJ7_copyOf_59c91 1 = .ok (.aload_n 0, 1) := by decide +kernel
theorem dJ7_copyOf_59c91_2 : decode cJ7_copyOf_59c91 2 = .ok (.arraylength, 1) := by decide +kernel
theorem dJ7_copyOf_59c91_3 : decode cJ7_copyOf_59c91 3 = .ok (.if_icmp .ne 11, 3) := by decide +kernel
theorem dJ7_copyOf_59c91_14 : decode cJ7_copyOf_59c91 14 = .ok (.iload_n 1, 1) := by decide +kernel
theorem dJ7_copyOf_59c91_15 : decode cJ7_copyOf_59c91 15 = .ok (.newarray .int, 2) := by decide +kernel
theorem dJ7_copyOf_59c91_17 : decode cJ7_copyOf_59c91 17 = .ok (.astore_n 2, 1) := by decide +kernel
theorem dJ7_copyOf_59c91_18 : decode cJ7_copyOf_59c91 18 = .ok (.aload_n 0, 1) := by decide +kernel
theorem dJ7_copyOf_59c91_19 : decode cJ7_copyOf_59c91 19 = .ok (.iconst 0, 1) := by decide +kernel
theorem dJ7_copyOf_59c91_20 : decode cJ7_copyOf_59c91 20 = .ok (.aload_n 2, 1) := by decide +kernel
theorem dJ7_copyOf_59c91_21 : decode cJ7_copyOf_59c91 21 = .ok (.iconst 0, 1) := by decide +kernel
theorem dJ7_copyOf_59c91_22 : decode cJ7_copyOf_59c91 22 = .ok (.aload_n 0, 1) := by decide +kernel
theorem dJ7_copyOf_59c91_23 : decode cJ7_copyOf_59c91 23 = .ok (.arraylength, 1) := by decide +kernel
theorem dJ7_copyOf_59c91_24 : decode cJ7_copyOf_59c91 24 = .ok (.iload_n 1, 1) := by decide +kernel
theorem dJ7_copyOf_59c91_25 : decode cJ7_copyOf_59c91 25 = .ok (.invokestatic 304, 3) := by decide +kernel
theorem dJ7_copyOf_59c91_28 : decode cJ7_copyOf_59c91 28 = .ok (.invokestatic 150, 3) := by decide +kernel
theorem dJ7_copyOf_59c91_31 : decode cJ7_copyOf_59c91 31 = .ok (.aload_n 2, 1) := by decide +kernel
theorem dJ7_copyOf_59c91_32 : decode cJ7_copyOf_59c91 32 = .ok (.areturn, 1) := by decide +kernel
set_option maxRecDepth 20000 in
set_option maxHeartbeats 2000000 in
theorem w_J7_copyOf_59c91 {X : CX} {d : Nat} (hd : 1 ≤ d) (l0 : Nat) (l1 : Int32) (g g' : G) (rx : Nat) (k_l0 : KD g l0 14) (h : f_J7_copyOf_59c91 l0 l1 g = some (rx, g')) : Sem X m_J7_copyOf_59c91 d [.ref (ad X l0), .int l1] g (some (.ref (ad X rx))) g' := by
  refine Sem_ofF (lo := [(0, .ref (ad X l0)), (1, .int l1)]) (by decide +kernel) rfl (Nat.le_of_ble_eq_true rfl) ?_
  rw [f_J7_copyOf_59c91] at h
  refine SF_iload_n 1 1 dJ7_copyOf_59c91_0 rfl rfl rfl ?_
  refine SF_aload_n 0 2 dJ7_copyOf_59c91_1 rfl rfl rfl ?_
  refine SF_alen 3 dJ7_copyOf_59c91_2 k_l0.1 (by decide) (by decide) rfl ?_
  refine SF_icne 14 6 dJ7_copyOf_59c91_3 rfl rfl (fun c1 => ?_) (fun c1 => ?_)
  · have h := ite_f c1 h
    refine SF_iload_n 1 15 dJ7_copyOf_59c91_14 rfl rfl rfl ?_
    obtain ⟨z2, h⟩ := gdA_some h
    refine SF_newa 17 dJ7_copyOf_59c91_15 rfl (Or.inl ⟨rfl, rfl⟩) wr_int z2.1 z2.2 rfl ?_
    obtain ⟨g3, e4, h⟩ := lg_some h
    rw [← e4]
    have k_l0 := KD.alloc e4 k_l0
    have k7 := KD.fresh e4
    obtain ⟨a5, e6, h⟩ := ln_some h
    rw [← e6] at k7
    rw [← e6]
    refine SF_astore_n [(2, .ref (ad X a5)), (0, .ref (ad X l0)), (1, .int l1)] 18 dJ7_copyOf_59c91_17 rfl (by decide) rfl rfl ?_
    refine SF_aload_n 1 19 dJ7_copyOf_59c91_18 rfl rfl rfl ?_
    refine SF_iconst (0 : Int32) 20 dJ7_copyOf_59c91_19 rfl rfl ?_
    refine SF_aload_n 0 21 dJ7_copyOf_59c91_20 rfl rfl rfl ?_
    refine SF_iconst (0 : Int32) 22 dJ7_copyOf_59c91_21 rfl rfl ?_
    refine SF_aload_n 1 23 dJ7_copyOf_59c91_22 rfl rfl rfl ?_
    refine SF_alen 24 dJ7_copyOf_59c91_23 k_l0.1 (by decide) (by decide) rfl ?_
    refine SF_iload_n 2 25 dJ7_copyOf_59c91_24 rfl rfl rfl ?_
    obtain ⟨v8, g9, q10, h⟩ := bd_some h
    have s11 := w_J9_min_7cf53 (X := X) (Nat.le_refl 0) (nI (gN g3 l0)) l1 g3 g9 v8 q10
    refine SF_callSi 28 mi_J9_min_7cf53 ml_J7_304 dJ7_copyOf_59c91_25 (Nat.le_trans (by decide) hd) s11 rfl rfl (Nat.le_of_ble_eq_true rfl) rfl ?_
    have k_l0 := k_l0.ext s11.1
    have k7 := k7.ext s11.1
    obtain ⟨z12, h⟩ := gdC_some h
    refine SF_cpyI 31 ml_J7_150 wa_1 wa_2 wa_3 dJ7_copyOf_59c91_28 (Nat.le_trans (by decide) hd) k_l0.1 k7.1 z12 (Nat.le_of_ble_eq_true rfl) rfl ?_
    obtain ⟨g13, e14, h⟩ := lg_some h
    rw [← e14]
    have k_l0 := KD.eq e14 k_l0
    have k7 := KD.eq e14 k7
    refine SF_aload_n 0 32 dJ7_copyOf_59c91_31 rfl rfl rfl ?_
    exact RT_a rfl (Or.inr ⟨_, rfl⟩) dJ7_copyOf_59c91_32 h
  · have h := ite_t c1 h
    cases h

theorem dX8_lawLine_0 : decode cX8_lawLine 0 = .ok (.aload_n 0, 1) := by decide +kernel
theorem dX8_lawLine_1 : decode cX8_lawLine 1 = .ok (.invokevirtual 66, 3) := by decide +kernel
theorem dX8_lawLine_4 : decode cX8_lawLine 4 = .ok (.aload_n 0, 1) := by decide +kernel
theorem dX8_lawLine_5 : decode cX8_lawLine 5 = .ok (.iconst 0, 1) := by decide +kernel
theorem dX8_lawLine_6 : decode cX8_lawLine 6 = .ok (.putfield 220, 3) := by decide +kernel
theorem dX8_lawLine_9 : decode cX8_lawLine 9 = .ok (.aload_n 0, 1) := by decide +kernel
theorem dX8_lawLine_10 : decode cX8_lawLine 10 = .ok (.bipush 58, 2) := by decide +kernel
theorem dX8_lawLine_12 : decode cX8_lawLine 12 = .ok (.invokevirtual 157, 3) := by decide +kernel
theorem dX8_lawLine_15 : decode cX8_lawLine 15 = .ok (.ifCond .eq 26, 3) := by decide +kernel
theorem dX8_lawLine_18 : decode cX8_lawLine 18 = .ok (.iload_n 1, 1) := by decide +kernel
theorem dX8_lawLine_19 : decode cX8_lawLine 19 = .ok (.ifCond .eq 14, 3) := by decide +kernel
theorem dX8_lawLine_22 : decode cX8_lawLine 22 = .ok (.aload_n 0, 1) := by decide +kernel
theorem dX8_lawLine_23 : decode cX8_lawLine 23 = .ok (.iconst 0, 1) := by decide +kernel
theorem dX8_lawLine_24 : decode cX8_lawLine 24 = .ok (.invokevirtual 223, 3) := by decide +kernel
theorem dX8_lawLine_27 : decode cX8_lawLine 27 = .ok (.ifCond .eq 14, 3) := by decide +kernel
theorem dX8_lawLine_30 : decode cX8_lawLine 30 = .ok (.goto 13, 3) := by decide +kernel
theorem dX8_lawLine_33 : decode cX8_lawLine 33 = .ok (.aload_n 0, 1) := by decide +kernel
theorem dX8_lawLine_34 : decode cX8_lawLine 34 = .ok (.iconst 0, 1) := by decide +kernel
theorem dX8_lawLine_35 : decode cX8_lawLine 35 = .ok (.invokevirtual 226, 3) := by decide +kernel
theorem dX8_lawLine_38 : decode cX8_lawLine 38 = .ok (.ifCond .ne 5, 3) := by decide +kernel
theorem dX8_lawLine_41 : decode cX8_lawLine 41 = .ok (.iconst 0, 1) := by decide +kernel
theorem dX8_lawLine_42 : decode cX8_lawLine 42 = .ok (.ireturn, 1) := by decide +kernel
theorem dX8_lawLine_43 : decode cX8_lawLine 43 = .ok (.aload_n 0, 1) := by decide +kernel
theorem dX8_lawLine_44 : decode cX8_lawLine 44 = .ok (.getfield 29, 3) := by decide +kernel
theorem dX8_lawLine_47 : decode cX8_lawLine 47 = .ok (.aload_n 0, 1) := by decide +kernel
theorem dX8_lawLine_48 : decode cX8_lawLine 48 = .ok (.getfield 220, 3) := by decide +kernel
theorem dX8_lawLine_51 : decode cX8_lawLine 51 = .ok (.invokestatic 229, 3) := by decide +kernel
theorem dX8_lawLine_54 : decode cX8_lawLine 54 = .ok (.astore_n 2, 1) := by decide +kernel
theorem dX8_lawLine_55 : decode cX8_lawLine 55 = .ok (.iload_n 1, 1) := by decide +kernel
theorem dX8_lawLine_56 : decode cX8_lawLine 56 = .ok (.ifCond .eq 14, 3) := by decide +kernel
theorem dX8_lawLine_59 : decode cX8_lawLine 59 = .ok (.aload_n 0, 1) := by decide +kernel
theorem dX8_lawLine_60 : decode cX8_lawLine 60 = .ok (.getfield 32, 3) := by decide +kernel
theorem dX8_lawLine_63 : decode cX8_lawLine 63 = .ok (.aload_n 2, 1) := by decide +kernel
theorem dX8_lawLine_64 : decode cX8_lawLine 64 = .ok (.putfield 235, 3) := by decide +kernel
theorem dX8_lawLine_67 : decode cX8_lawLine 67 = .ok (.goto 11, 3) := by decide +kernel
theorem dX8_lawLine_70 : decode cX8_lawLine 70 = .ok (.aload_n 0, 1) := by decide +kernel
theorem dX8_lawLine_71 : decode cX8_lawLine 71 = .ok (.getfield 32, 3) := by decide +kernel
theorem dX8_lawLine_74 : decode cX8_lawLine 74 = .ok (.aload_n 2, 1) := by decide +kernel
theorem dX8_lawLine_75 : decode cX8_lawLine 75 = .ok (.putfield 238, 3) := by decide +kernel
theorem dX8_lawLine_78 : decode cX8_lawLine 78 = .ok (.iconst 1, 1) := by decide +kernel
theorem dX8_lawLine_79 : decode cX8_lawLine 79 = .ok (.ireturn, 1) := by decide +kernel
set_option maxRecDepth 20000 in
set_option maxHeartbeats 2000000 in
theorem w_X8_lawLine_43 {X : CX} {d : Nat} (hd : 57 ≤ d) {g' : G} {rx : Bool} (l0 : Nat) (l1 : Int32) (g : G) (k_l0 : KD g l0 8) (h : f_X8_lawLine_43 l0 l1 g = some (rx, g')) : SemF X m_X8_lawLine d 43 [(0, .ref (ad X l0)), (1, .int l1)] [] g (some (.int (b2i rx))) g' := by
  rw [f_X8_lawLine_43] at h
  refine SF_aload_n 0 44 dX8_lawLine_43 rfl rfl rfl ?_
  obtain ⟨b1, r2, h⟩ := dr_some h
  refine SF_getR 47 fl_X8_29 dX8_lawLine_44 k_l0.1 r2 rfl ?_
  refine SF_aload_n 0 48 dX8_lawLine_47 rfl rfl rfl ?_
  refine SF_getI 51 fl_X8_220 dX8_lawLine_48 k_l0.1 rfl ?_
  obtain ⟨k3, h⟩ := gdK_some h
  obtain ⟨v4, g5, q6, h⟩ := bd_some h
  have s7 := w_J7_copyOf_59c91 (X := X) (Nat.le_refl 1) b1 (gI g l0 17) g g5 v4 k3 q6
  refine SF_callSr 54 mi_J7_copyOf_59c91 ml_X8_229 dX8_lawLine_51 (Nat.le_trans (by decide) hd) s7 rfl rfl (Nat.le_of_ble_eq_true rfl) rfl ?_
  have k_l0 := k_l0.ext s7.1
  have k3 := k3.ext s7.1
  refine SF_astore_n [(2, .ref (ad X v4)), (0, .ref (ad X l0)), (1, .int l1)] 55 dX8_lawLine_54 rfl (by decide) rfl rfl ?_
  refine SF_iload_n 2 56 dX8_lawLine_55 rfl rfl rfl ?_
  refine SF_ifeq 70 59 dX8_lawLine_56 rfl rfl (fun c8 => ?_) (fun c8 => ?_)
  · have h := ite_t c8 h
    refine SF_aload_n 1 71 dX8_lawLine_70 rfl rfl rfl ?_
    obtain ⟨b9, r10, h⟩ := dr_some h
    refine SF_getR 74 fl_X8_32 dX8_lawLine_71 k_l0.1 r10 rfl ?_
    refine SF_aload_n 0 75 dX8_lawLine_74 rfl rfl rfl ?_
    obtain ⟨k11, h⟩ := gdK_some h
    refine SF_putR 78 fl_X8_238 dX8_lawLine_75 k11.1 (fn_arr _ _) (Or.inl rfl) rfl ?_
    obtain ⟨g12, e13, h⟩ := lg_some h
    rw [← e13]
    have k_l0 := KD.eq e13 k_l0
    have k3 := KD.eq e13 k3
    have k11 := KD.eq e13 k11
    refine SF_iconst (1 : Int32) 79 dX8_lawLine_78 rfl rfl ?_
    exact RT_b rfl rfl dX8_lawLine_79 h
  · have h := ite_f c8 h
    refine SF_aload_n 1 60 dX8_lawLine_59 rfl rfl rfl ?_
    obtain ⟨b14, r15, h⟩ := dr_some h
    refine SF_getR 63 fl_X8_32 dX8_lawLine_60 k_l0.1 r15 rfl ?_
    refine SF_aload_n 0 64 dX8_lawLine_63 rfl rfl rfl ?_
    obtain ⟨k16, h⟩ := gdK_some h
    refine SF_putR 67 fl_X8_235 dX8_lawLine_64 k16.1 (fn_arr _ _) (Or.inl rfl) rfl ?_
    obtain ⟨g17, e18, h⟩ := lg_some h
    rw [← e18]
    have k_l0 := KD.eq e18 k_l0
    have k3 := KD.eq e18 k3
    have k16 := KD.eq e18 k16
    refine SF_goto 78 dX8_lawLine_67 rfl ?_
    refine SF_iconst (1 : Int32) 79 dX8_lawLine_78 rfl rfl ?_
    exact RT_b rfl rfl dX8_lawLine_79 h

set_option maxRecDepth 20000 in
set_option maxHeartbeats 2000000 in
theorem w_X8_lawLine {X : CX} {d : Nat} (hd : 57 ≤ d) (l0 : Nat) (l1 : Int32) (g g' : G) (rx : Bool) (k_l0 : KD g l0 8) (h : f_X8_lawLine l0 l1 g = some (rx, g')) : Sem X m_X8_lawLine d [.ref (ad X l0), .int l1] g (some (.int (b2i rx))) g' := by
  refine Sem_of (lo := [(0, .ref (ad X l0)), (1, .int l1)]) (by decide +kernel) rfl (Nat.le_of_ble_eq_true rfl) ?_
  rw [f_X8_lawLine] at h
  refine SF_aload_n 0 1 dX8_lawLine_0 rfl rfl rfl ?_
  obtain ⟨v1, g2, q3, h⟩ := bd_some h
  have s4 := w_X8_look (X := X) (Nat.le_refl 0) l0 g g2 v1 k_l0 q3
  refine SF_callVv 4 mi_X8_look ml_X8_66 dX8_lawLine_1 (Nat.le_trans (by decide) hd) s4 k_l0.1 rfl rfl (Nat.le_of_ble_eq_true rfl) rfl ?_
  have k_l0 := k_l0.ext s4.1
  refine SF_aload_n 0 5 dX8_lawLine_4 rfl rfl rfl ?_
  refine SF_iconst (0 : Int32) 6 dX8_lawLine_5 rfl rfl ?_
  refine SF_putI 9 fl_X8_220 dX8_lawLine_6 k_l0.1 (fn_int _) (Or.inl rfl) rfl ?_
  obtain ⟨g5, e6, h⟩ := lg_some h
  rw [← e6]
  have k_l0 := KD.eq e6 k_l0
  refine SF_aload_n 0 10 dX8_lawLine_9 rfl rfl rfl ?_
  refine SF_bipush (58 : Int32) 12 dX8_lawLine_10 rfl rfl ?_
  obtain ⟨v7, g8, q9, h⟩ := bd_some h
  have s10 := w_X8_take (X := X) (Nat.le_refl 2) l0 (58 : Int32) g5 g8 v7 k_l0 q9
  refine SF_callVb 15 mi_X8_take ml_X8_157 dX8_lawLine_12 (Nat.le_trans (by decide) hd) s10 k_l0.1 rfl rfl (Nat.le_of_ble_eq_true rfl) rfl ?_
  have k_l0 := k_l0.ext s10.1
  refine SF_ifeq 41 18 dX8_lawLine_15 rfl rfl (fun c11 => ?_) (fun c11 => ?_)
  · have h := ite_t c11 h
    refine SF_iconst (0 : Int32) 42 dX8_lawLine_41 rfl rfl ?_
    exact RT_b rfl rfl dX8_lawLine_42 h
  · have h := ite_f c11 h
    refine SF_iload_n 1 19 dX8_lawLine_18 rfl rfl rfl ?_
    refine SF_ifeq 33 22 dX8_lawLine_19 rfl rfl (fun c12 => ?_) (fun c12 => ?_)
    · have h := ite_t c12 h
      refine SF_aload_n 0 34 dX8_lawLine_33 rfl rfl rfl ?_
      refine SF_iconst (0 : Int32) 35 dX8_lawLine_34 rfl rfl ?_
      obtain ⟨v13, g14, q15, h⟩ := bd_some h
      have s16 := w_X8_sum_T (X := X) (Nat.le_refl 56) l0 (0 : Int32) g8 g14 v13 k_l0 q15
      refine SF_callVb 38 mi_X8_sum ml_X8_226 dX8_lawLine_35 (Nat.le_trans (by decide) hd) s16 k_l0.1 rfl rfl (Nat.le_of_ble_eq_true rfl) rfl ?_
      have k_l0 := k_l0.ext s16.1
      refine SF_ifne 43 41 dX8_lawLine_38 rfl rfl (fun c17 => ?_) (fun c17 => ?_)
      · have h := ite_f c17 h
        exact w_X8_lawLine_43 hd l0 l1 g14 k_l0 h
      · have h := ite_t c17 h
        refine SF_iconst (0 : Int32) 42 dX8_lawLine_41 rfl rfl ?_
        exact RT_b rfl rfl dX8_lawLine_42 h
    · have h := ite_f c12 h
      refine SF_aload_n 0 23 dX8_lawLine_22 rfl rfl rfl ?_
      refine SF_iconst (0 : Int32) 24 dX8_lawLine_23 rfl rfl ?_
      obtain ⟨v18, g19, q20, h⟩ := bd_some h
      have s21 := w_X8_truth_T (X := X) (Nat.le_refl 56) l0 (0 : Int32) g8 g19 v18 k_l0 q20
      refine SF_callVb 27 mi_X8_truth ml_X8_223 dX8_lawLine_24 (Nat.le_trans (by decide) hd) s21 k_l0.1 rfl rfl (Nat.le_of_ble_eq_true rfl) rfl ?_
      have k_l0 := k_l0.ext s21.1
      refine SF_ifeq 41 30 dX8_lawLine_27 rfl rfl (fun c22 => ?_) (fun c22 => ?_)
      · have h := ite_t c22 h
        refine SF_iconst (0 : Int32) 42 dX8_lawLine_41 rfl rfl ?_
        exact RT_b rfl rfl dX8_lawLine_42 h
      · have h := ite_f c22 h
        refine SF_goto 43 dX8_lawLine_30 rfl ?_
        exact w_X8_lawLine_43 hd l0 l1 g19 k_l0 h

theorem dX8_line_0 : decode cX8_line 0 = .ok (.aload_n 0, 1) := by decide +kernel
theorem dX8_line_1 : decode cX8_line 1 = .ok (.bipush 6, 2) := by decide +kernel
theorem dX8_line_3 : decode cX8_line 3 = .ok (.invokevirtual 139, 3) := by decide +kernel
theorem dX8_line_6 : decode cX8_line 6 = .ok (.ifCond .eq 33, 3) := by decide +kernel
theorem dX8_line_9 : decode cX8_line 9 = .ok (.aload_n 0, 1) := by decide +kernel
theorem dX8_line_10 : decode cX8_line 10 = .ok (.getfield 32, 3) := by decide +kernel
theorem dX8_line_13 : decode cX8_line 13 = .ok (.getfield 160, 3) := by decide +kernel
theorem dX8_line_16 : decode cX8_line 16 = .ok (.ifCond .ne 23, 3) := by decide +kernel
theorem dX8_line_19 : decode cX8_line 19 = .ok (.aload_n 0, 1) := by decide +kernel
theorem dX8_line_20 : decode cX8_line 20 = .ok (.invokevirtual 163, 3) := by decide +kernel
theorem dX8_line_23 : decode cX8_line 23 = .ok (.ifCond .eq 14, 3) := by decide +kernel
theorem dX8_line_26 : decode cX8_line 26 = .ok (.aload_n 0, 1) := by decide +kernel
theorem dX8_line_27 : decode cX8_line 27 = .ok (.invokevirtual 166, 3) := by decide +kernel
theorem dX8_line_30 : decode cX8_line 30 = .ok (.ifCond .eq 7, 3) := by decide +kernel
theorem dX8_line_33 : decode cX8_line 33 = .ok (.iconst 1, 1) := by decide +kernel
theorem dX8_line_34 : decode cX8_line 34 = .ok (.goto 4, 3) := by decide +kernel
theorem dX8_line_37 : decode cX8_line 37 = .ok (.iconst 0, 1) := by decide +kernel
theorem dX8_line_38 : decode cX8_line 38 = .ok (.ireturn, 1) := by decide +kernel
theorem dX8_line_39 : decode cX8_line 39 = .ok (.aload_n 0, 1) := by decide +kernel
theorem dX8_line_40 : decode cX8_line 40 = .ok (.iconst 0, 1) := by decide +kernel
theorem dX8_line_41 : decode cX8_line 41 = .ok (.invokevirtual 139, 3) := by decide +kernel
theorem dX8_line_44 : decode cX8_line 44 = .ok (.ifCond .eq 23, 3) := by decide +kernel
theorem dX8_line_47 : decode cX8_line 47 = .ok (.aload_n 0, 1) := by decide +kernel
theorem dX8_line_48 : decode cX8_line 48 = .ok (.invokevirtual 169, 3) := by decide +kernel
theorem dX8_line_51 : decode cX8_line 51 = .ok (.ifCond .eq 14, 3) := by decide +kernel
theorem dX8_line_54 : decode cX8_line 54 = .ok (.aload_n 0, 1) := by decide +kernel
theorem dX8_line_55 : decode cX8_line 55 = .ok (.invokevirtual 166, 3) := by decide +kernel
theorem dX8_line_58 : decode cX8_line 58 = .ok (.ifCond .eq 7, 3) := by decide +kernel
theorem dX8_line_61 : decode cX8_line 61 = .ok (.iconst 1, 1) := by decide +kernel
theorem dX8_line_62 : decode cX8_line 62 = .ok (.goto 4, 3) := by decide +kernel
theorem dX8_line_65 : decode cX8_line 65 = .ok (.iconst 0, 1) := by decide +kernel
theorem dX8_line_66 : decode cX8_line 66 = .ok (.ireturn, 1) := by decide +kernel
theorem dX8_line_67 : decode cX8_line 67 = .ok (.aload_n 0, 1) := by decide +kernel
theorem dX8_line_68 : decode cX8_line 68 = .ok (.bipush 9, 2) := by decide +kernel
theorem dX8_line_70 : decode cX8_line 70 = .ok (.invokevirtual 139, 3) := by decide +kernel
theorem dX8_line_73 : decode cX8_line 73 = .ok (.ifCond .ne 12, 3) := by decide +kernel
theorem dX8_line_76 : decode cX8_line 76 = .ok (.aload_n 0, 1) := by decide +kernel
theorem dX8_line_77 : decode cX8_line 77 = .ok (.bipush 10, 2) := by decide +kernel
theorem dX8_line_79 : decode cX8_line 79 = .ok (.invokevirtual 139, 3) := by decide +kernel
theorem dX8_line_82 : decode cX8_line 82 = .ok (.ifCond .eq 37, 3) := by decide +kernel
theorem dX8_line_85 : decode cX8_line 85 = .ok (.aload_n 0, 1) := by decide +kernel
theorem dX8_line_86 : decode cX8_line 86 = .ok (.aload_n 0, 1) := by decide +kernel
theorem dX8_line_87 : decode cX8_line 87 = .ok (.getfield 127, 3) := by decide +kernel
theorem dX8_line_90 : decode cX8_line 90 = .ok (.bipush 9, 2) := by decide +kernel
theorem dX8_line_92 : decode cX8_line 92 = .ok (.if_icmp .ne 7, 3) := by decide +kernel
theorem dX8_line_95 : decode cX8_line 95 = .ok (.iconst 1, 1) := by decide +kernel
theorem dX8_line_96 : decode cX8_line 96 = .ok (.goto 4, 3) := by decide +kernel
theorem dX8_line_99 : decode cX8_line 99 = .ok (.iconst 0, 1) := by decide +kernel
theorem dX8_line_100 : decode cX8_line 100 = .ok (.invokevirtual 172, 3) := by decide +kernel
theorem dX8_line_103 : decode cX8_line 103 = .ok (.ifCond .eq 14, 3) := by decide +kernel
theorem dX8_line_106 : decode cX8_line 106 = .ok (.aload_n 0, 1) := by decide +kernel
theorem dX8_line_107 : decode cX8_line 107 = .ok (.invokevirtual 166, 3) := by decide +kernel
theorem dX8_line_110 : decode cX8_line 110 = .ok (.ifCond .eq 7, 3) := by decide +kernel
theorem dX8_line_113 : decode cX8_line 113 = .ok (.iconst 1, 1) := by decide +kernel
theorem dX8_line_114 : decode cX8_line 114 = .ok (.goto 4, 3) := by decide +kernel
theorem dX8_line_117 : decode cX8_line 117 = .ok (.iconst 0, 1) := by decide +kernel
theorem dX8_line_118 : decode cX8_line 118 = .ok (.ireturn, 1) := by decide +kernel
theorem dX8_line_119 : decode cX8_line 119 = .ok (.aload_n 0, 1) := by decide +kernel
theorem dX8_line_120 : decode cX8_line 120 = .ok (.invokevirtual 133, 3) := by decide +kernel
theorem dX8_line_123 : decode cX8_line 123 = .ok (.ireturn, 1) := by decide +kernel
set_option maxRecDepth 20000 in
set_option maxHeartbeats 2000000 in
theorem w_X8_line_100 {X : CX} {d : Nat} (hd : 58 ≤ d) {g' : G} {rx : Bool} (l0 : Nat) (s0 : Int32) (s1 : Nat) (g : G) (k_l0 : KD g l0 8) (k_s1 : KD g s1 8) (h : f_X8_line_100 l0 s0 s1 g = some (rx, g')) : SemF X m_X8_line d 100 [(0, .ref (ad X l0))] [.int s0, .ref (ad X s1)] g (some (.int (b2i rx))) g' := by
  rw [f_X8_line_100] at h
  obtain ⟨v1, g2, q3, h⟩ := bd_some h
  have s4 := w_X8_lawLine (X := X) (Nat.le_refl 57) s1 s0 g g2 v1 k_s1 q3
  refine SF_callVb 103 mi_X8_lawLine ml_X8_172 dX8_line_100 (Nat.le_trans (by decide) hd) s4 k_s1.1 rfl rfl (Nat.le_of_ble_eq_true rfl) rfl ?_
  have k_l0 := k_l0.ext s4.1
  have k_s1 := k_s1.ext s4.1
  refine SF_ifeq 117 106 dX8_line_103 rfl rfl (fun c5 => ?_) (fun c5 => ?_)
  · have h := ite_t c5 h
    refine SF_iconst (0 : Int32) 118 dX8_line_117 rfl rfl ?_
    exact RT_b rfl rfl dX8_line_118 h
  · have h := ite_f c5 h
    refine SF_aload_n 0 107 dX8_line_106 rfl rfl rfl ?_
    obtain ⟨v6, g7, q8, h⟩ := bd_some h
    have s9 := w_X8_endLine (X := X) (Nat.le_refl 3) l0 g2 g7 v6 k_l0 q8
    refine SF_callVb 110 mi_X8_endLine ml_X8_166 dX8_line_107 (Nat.le_trans (by decide) hd) s9 k_l0.1 rfl rfl (Nat.le_of_ble_eq_true rfl) rfl ?_
    have k_l0 := k_l0.ext s9.1
    have k_s1 := k_s1.ext s9.1
    refine SF_ifeq 117 113 dX8_line_110 rfl rfl (fun c10 => ?_) (fun c10 => ?_)
    · have h := ite_t c10 h
      refine SF_iconst (0 : Int32) 118 dX8_line_117 rfl rfl ?_
      exact RT_b rfl rfl dX8_line_118 h
    · have h := ite_f c10 h
      refine SF_iconst (1 : Int32) 114 dX8_line_113 rfl rfl ?_
      refine SF_goto 118 dX8_line_114 rfl ?_
      exact RT_b rfl rfl dX8_line_118 h

set_option maxRecDepth 20000 in
set_option maxHeartbeats 2000000 in
theorem w_X8_line_85 {X : CX} {d : Nat} (hd : 58 ≤ d) {g' : G} {rx : Bool} (l0 : Nat) (g : G) (k_l0 : KD g l0 8) (h : f_X8_line_85 l0 g = some (rx, g')) : SemF X m_X8_line d 85 [(0, .ref (ad X l0))] [] g (some (.int (b2i rx))) g' := by
  rw [f_X8_line_85] at h
  refine SF_aload_n 0 86 dX8_line_85 rfl rfl rfl ?_
  refine SF_aload_n 0 87 dX8_line_86 rfl rfl rfl ?_
  refine SF_getI 90 fl_X8_127 dX8_line_87 k_l0.1 rfl ?_
  refine SF_bipush (9 : Int32) 92 dX8_line_90 rfl rfl ?_
  refine SF_icne 99 95 dX8_line_92 rfl rfl (fun c1 => ?_) (fun c1 => ?_)
  · have h := ite_f c1 h
    refine SF_iconst (0 : Int32) 100 dX8_line_99 rfl rfl ?_
    exact w_X8_line_100 hd l0 (0 : Int32) l0 g k_l0 k_l0 h
  · have h := ite_t c1 h
    refine SF_iconst (1 : Int32) 96 dX8_line_95 rfl rfl ?_
    refine SF_goto 100 dX8_line_96 rfl ?_
    exact w_X8_line_100 hd l0 (1 : Int32) l0 g k_l0 k_l0 h

set_option maxRecDepth 20000 in
set_option maxHeartbeats 2000000 in
theorem w_X8_line_39 {X : CX} {d : Nat} (hd : 58 ≤ d) {g' : G} {rx : Bool} (l0 : Nat) (g : G) (k_l0 : KD g l0 8) (h : f_X8_line_39 l0 g = some (rx, g')) : SemF X m_X8_line d 39 [(0, .ref (ad X l0))] [] g (some (.int (b2i rx))) g' := by
  rw [f_X8_line_39] at h
  refine SF_aload_n 0 40 dX8_line_39 rfl rfl rfl ?_
  refine SF_iconst (0 : Int32) 41 dX8_line_40 rfl rfl ?_
  obtain ⟨v1, g2, q3, h⟩ := bd_some h
  have s4 := w_X8_isWord (X := X) (Nat.le_refl 0) l0 (0 : Int32) g g2 v1 k_l0 q3
  refine SF_callVb 44 mi_X8_isWord ml_X8_139 dX8_line_41 (Nat.le_trans (by decide) hd) s4 k_l0.1 rfl rfl (Nat.le_of_ble_eq_true rfl) rfl ?_
  have k_l0 := k_l0.ext s4.1
  refine SF_ifeq 67 47 dX8_line_44 rfl rfl (fun c5 => ?_) (fun c5 => ?_)
  · have h := ite_t c5 h
    refine SF_aload_n 0 68 dX8_line_67 rfl rfl rfl ?_
    refine SF_bipush (9 : Int32) 70 dX8_line_68 rfl rfl ?_
    obtain ⟨v6, g7, q8, h⟩ := bd_some h
    have s9 := w_X8_isWord (X := X) (Nat.le_refl 0) l0 (9 : Int32) g2 g7 v6 k_l0 q8
    refine SF_callVb 73 mi_X8_isWord ml_X8_139 dX8_line_70 (Nat.le_trans (by decide) hd) s9 k_l0.1 rfl rfl (Nat.le_of_ble_eq_true rfl) rfl ?_
    have k_l0 := k_l0.ext s9.1
    refine SF_ifne 85 76 dX8_line_73 rfl rfl (fun c10 => ?_) (fun c10 => ?_)
    · have h := ite_f c10 h
      exact w_X8_line_85 hd l0 g7 k_l0 h
    · have h := ite_t c10 h
      refine SF_aload_n 0 77 dX8_line_76 rfl rfl rfl ?_
      refine SF_bipush (10 : Int32) 79 dX8_line_77 rfl rfl ?_
      obtain ⟨v11, g12, q13, h⟩ := bd_some h
      have s14 := w_X8_isWord (X := X) (Nat.le_refl 0) l0 (10 : Int32) g7 g12 v11 k_l0 q13
      refine SF_callVb 82 mi_X8_isWord ml_X8_139 dX8_line_79 (Nat.le_trans (by decide) hd) s14 k_l0.1 rfl rfl (Nat.le_of_ble_eq_true rfl) rfl ?_
      have k_l0 := k_l0.ext s14.1
      refine SF_ifeq 119 85 dX8_line_82 rfl rfl (fun c15 => ?_) (fun c15 => ?_)
      · have h := ite_t c15 h
        refine SF_aload_n 0 120 dX8_line_119 rfl rfl rfl ?_
        obtain ⟨v16, g17, q18, h⟩ := bd_some h
        have s19 := w_X8_refuseToken (X := X) (Nat.le_refl 1) l0 g12 g17 v16 k_l0 q18
        refine SF_callVb 123 mi_X8_refuseToken ml_X8_133 dX8_line_120 (Nat.le_trans (by decide) hd) s19 k_l0.1 rfl rfl (Nat.le_of_ble_eq_true rfl) rfl ?_
        have k_l0 := k_l0.ext s19.1
        exact RT_b rfl rfl dX8_line_123 h
      · have h := ite_f c15 h
        exact w_X8_line_85 hd l0 g12 k_l0 h
  · have h := ite_f c5 h
    refine SF_aload_n 0 48 dX8_line_47 rfl rfl rfl ?_
    obtain ⟨v20, g21, q22, h⟩ := bd_some h
    have s23 := w_X8_pairLine (X := X) (Nat.le_refl 4) l0 g2 g21 v20 k_l0 q22
    refine SF_callVb 51 mi_X8_pairLine ml_X8_169 dX8_line_48 (Nat.le_trans (by decide) hd) s23 k_l0.1 rfl rfl (Nat.le_of_ble_eq_true rfl) rfl ?_
    have k_l0 := k_l0.ext s23.1
    refine SF_ifeq 65 54 dX8_line_51 rfl rfl (fun c24 => ?_) (fun c24 => ?_)
    · have h := ite_t c24 h
      refine SF_iconst (0 : Int32) 66 dX8_line_65 rfl rfl ?_
      exact RT_b rfl rfl dX8_line_66 h
    · have h := ite_f c24 h
      refine SF_aload_n 0 55 dX8_line_54 rfl rfl rfl ?_
      obtain ⟨v25, g26, q27, h⟩ := bd_some h
      have s28 := w_X8_endLine (X := X) (Nat.le_refl 3) l0 g21 g26 v25 k_l0 q27
      refine SF_callVb 58 mi_X8_endLine ml_X8_166 dX8_line_55 (Nat.le_trans (by decide) hd) s28 k_l0.1 rfl rfl (Nat.le_of_ble_eq_true rfl) rfl ?_
      have k_l0 := k_l0.ext s28.1
      refine SF_ifeq 65 61 dX8_line_58 rfl rfl (fun c29 => ?_) (fun c29 => ?_)
      · have h := ite_t c29 h
        refine SF_iconst (0 : Int32) 66 dX8_line_65 rfl rfl ?_
        exact RT_b rfl rfl dX8_line_66 h
      · have h := ite_f c29 h
        refine SF_iconst (1 : Int32) 62 dX8_line_61 rfl rfl ?_
        refine SF_goto 66 dX8_line_62 rfl ?_
        exact RT_b rfl rfl dX8_line_66 h

set_option maxRecDepth 20000 in
set_option maxHeartbeats 2000000 in
theorem w_X8_line {X : CX} {d : Nat} (hd : 58 ≤ d) (l0 : Nat) (g g' : G) (rx : Bool) (k_l0 : KD g l0 8) (h : f_X8_line l0 g = some (rx, g')) : Sem X m_X8_line d [.ref (ad X l0)] g (some (.int (b2i rx))) g' := by
  refine Sem_of (lo := [(0, .ref (ad X l0))]) (by decide +kernel) rfl (Nat.le_of_ble_eq_true rfl) ?_
  rw [f_X8_line] at h
  refine SF_aload_n 0 1 dX8_line_0 rfl rfl rfl ?_
  refine SF_bipush (6 : Int32) 3 dX8_line_1 rfl rfl ?_
  obtain ⟨v1, g2, q3, h⟩ := bd_some h
  have s4 := w_X8_isWord (X := X) (Nat.le_refl 0) l0 (6 : Int32) g g2 v1 k_l0 q3
  refine SF_callVb 6 mi_X8_isWord ml_X8_139 dX8_line_3 (Nat.le_trans (by decide) hd) s4 k_l0.1 rfl rfl (Nat.le_of_ble_eq_true rfl) rfl ?_
  have k_l0 := k_l0.ext s4.1
  refine SF_ifeq 39 9 dX8_line_6 rfl rfl (fun c5 => ?_) (fun c5 => ?_)
  · have h := ite_t c5 h
    exact w_X8_line_39 hd l0 g2 k_l0 h
  · have h := ite_f c5 h
    refine SF_aload_n 0 10 dX8_line_9 rfl rfl rfl ?_
    obtain ⟨b6, r7, h⟩ := dr_some h
    refine SF_getR 13 fl_X8_32 dX8_line_10 k_l0.1 r7 rfl ?_
    obtain ⟨k8, h⟩ := gdK_some h
    refine SF_getI 16 fl_X8_160 dX8_line_13 k8.1 rfl ?_
    refine SF_ifne 39 19 dX8_line_16 rfl rfl (fun c9 => ?_) (fun c9 => ?_)
    · have h := ite_f c9 h
      exact w_X8_line_39 hd l0 g2 k_l0 h
    · have h := ite_t c9 h
      refine SF_aload_n 0 20 dX8_line_19 rfl rfl rfl ?_
      obtain ⟨v10, g11, q12, h⟩ := bd_some h
      have s13 := w_X8_rowLine (X := X) (Nat.le_refl 3) l0 g2 g11 v10 k_l0 q12
      refine SF_callVb 23 mi_X8_rowLine ml_X8_163 dX8_line_20 (Nat.le_trans (by decide) hd) s13 k_l0.1 rfl rfl (Nat.le_of_ble_eq_true rfl) rfl ?_
      have k_l0 := k_l0.ext s13.1
      have k8 := k8.ext s13.1
      refine SF_ifeq 37 26 dX8_line_23 rfl rfl (fun c14 => ?_) (fun c14 => ?_)
      · have h := ite_t c14 h
        refine SF_iconst (0 : Int32) 38 dX8_line_37 rfl rfl ?_
        exact RT_b rfl rfl dX8_line_38 h
      · have h := ite_f c14 h
        refine SF_aload_n 0 27 dX8_line_26 rfl rfl rfl ?_
        obtain ⟨v15, g16, q17, h⟩ := bd_some h
        have s18 := w_X8_endLine (X := X) (Nat.le_refl 3) l0 g11 g16 v15 k_l0 q17
        refine SF_callVb 30 mi_X8_endLine ml_X8_166 dX8_line_27 (Nat.le_trans (by decide) hd) s18 k_l0.1 rfl rfl (Nat.le_of_ble_eq_true rfl) rfl ?_
        have k_l0 := k_l0.ext s18.1
        have k8 := k8.ext s18.1
        refine SF_ifeq 37 33 dX8_line_30 rfl rfl (fun c19 => ?_) (fun c19 => ?_)
        · have h := ite_t c19 h
          refine SF_iconst (0 : Int32) 38 dX8_line_37 rfl rfl ?_
          exact RT_b rfl rfl dX8_line_38 h
        · have h := ite_f c19 h
          refine SF_iconst (1 : Int32) 34 dX8_line_33 rfl rfl ?_
          refine SF_goto 38 dX8_line_34 rfl ?_
          exact RT_b rfl rfl dX8_line_38 h

theorem dX8_reads_0 : decode cX8_reads 0 = .ok (.aload_n 0, 1) := by decide +kernel
theorem dX8_reads_1 : decode cX8_reads 1 = .ok (.aload_n 1, 1) := by decide +kernel
theorem dX8_reads_2 : decode cX8_reads 2 = .ok (.putfield 15, 3) := by decide +kernel
theorem dX8_reads_5 : decode cX8_reads 5 = .ok (.aload_n 0, 1) := by decide +kernel
theorem dX8_reads_6 : decode cX8_reads 6 = .ok (.iconst 0, 1) := by decide +kernel
theorem dX8_reads_7 : decode cX8_reads 7 = .ok (.iload_n 2, 1) := by decide +kernel
theorem dX8_reads_8 : decode cX8_reads 8 = .ok (.aload_n 1, 1) := by decide +kernel
theorem dX8_reads_9 : decode cX8_reads 9 = .ok (.arraylength, 1) := by decide +kernel
theorem dX8_reads_10 : decode cX8_reads 10 = .ok (.invokestatic 45, 3) := by decide +kernel
theorem dX8_reads_13 : decode cX8_reads 13 = .ok (.invokestatic 51, 3) := by decide +kernel
theorem dX8_reads_16 : decode cX8_reads 16 = .ok (.putfield 54, 3) := by decide +kernel
theorem dX8_reads_19 : decode cX8_reads 19 = .ok (.aload_n 0, 1) := by decide +kernel
theorem dX8_reads_20 : decode cX8_reads 20 = .ok (.iconst 0, 1) := by decide +kernel
theorem dX8_reads_21 : decode cX8_reads 21 = .ok (.putfield 57, 3) := by decide +kernel
theorem dX8_reads_24 : decode cX8_reads 24 = .ok (.aload_n 0, 1) := by decide +kernel
theorem dX8_reads_25 : decode cX8_reads 25 = .ok (.iconst (-1), 1) := by decide +kernel
theorem dX8_reads_26 : decode cX8_reads 26 = .ok (.putfield 9, 3) := by decide +kernel
theorem dX8_reads_29 : decode cX8_reads 29 = .ok (.aload_n 0, 1) := by decide +kernel
theorem dX8_reads_30 : decode cX8_reads 30 = .ok (.invokevirtual 60, 3) := by decide +kernel
theorem dX8_reads_33 : decode cX8_reads 33 = .ok (.aload_n 0, 1) := by decide +kernel
theorem dX8_reads_34 : decode cX8_reads 34 = .ok (.iconst (-1), 1) := by decide +kernel
theorem dX8_reads_35 : decode cX8_reads 35 = .ok (.putfield 63, 3) := by decide +kernel
theorem dX8_reads_38 : decode cX8_reads 38 = .ok (.aload_n 0, 1) := by decide +kernel
theorem dX8_reads_39 : decode cX8_reads 39 = .ok (.invokevirtual 66, 3) := by decide +kernel
theorem dX8_reads_42 : decode cX8_reads 42 = .ok (.aload_n 0, 1) := by decide +kernel
theorem dX8_reads_43 : decode cX8_reads 43 = .ok (.invokevirtual 69, 3) := by decide +kernel
theorem dX8_reads_46 : decode cX8_reads 46 = .ok (.ifCond .ne 5, 3) := by decide +kernel
theorem dX8_reads_49 : decode cX8_reads 49 = .ok (.iconst 0, 1) := by decide +kernel
theorem dX8_reads_50 : decode cX8_reads 50 = .ok (.ireturn, 1) := by decide +kernel
theorem dX8_reads_51 : decode cX8_reads 51 = .ok (.iconst 0, 1) := by decide +kernel
theorem dX8_reads_52 : decode cX8_reads 52 = .ok (.istore_n 3, 1) := by decide +kernel
theorem dX8_reads_53 : decode cX8_reads 53 = .ok (.iload_n 3, 1) := by decide +kernel
theorem dX8_reads_54 : decode cX8_reads 54 = .ok (.sipush 900, 3) := by decide +kernel
theorem dX8_reads_57 : decode cX8_reads 57 = .ok (.if_icmp .ge 25, 3) := by decide +kernel
theorem dX8_reads_60 : decode cX8_reads 60 = .ok (.aload_n 0, 1) := by decide +kernel
theorem dX8_reads_61 : decode cX8_reads 61 = .ok (.getfield 73, 3) := by decide +kernel
theorem dX8_reads_64 : decode cX8_reads 64 = .ok (.ifCond .eq 18, 3) := by decide +kernel
theorem dX8_reads_67 : decode cX8_reads 67 = .ok (.aload_n 0, 1) := by decide +kernel
theorem dX8_reads_68 : decode cX8_reads 68 = .ok (.invokevirtual 76, 3) := by decide +kernel
theorem dX8_reads_71 : decode cX8_reads 71 = .ok (.ifCond .ne 5, 3) := by decide +kernel
theorem dX8_reads_74 : decode cX8_reads 74 = .ok (.iconst 0, 1) := by decide +kernel
theorem dX8_reads_75 : decode cX8_reads 75 = .ok (.ireturn, 1) := by decide +kernel
theorem dX8_reads_76 : decode cX8_reads 76 = .ok (.iinc 3 1, 3) := by decide +kernel
theorem dX8_reads_79 : decode cX8_reads 79 = .ok (.goto (-26), 3) := by decide +kernel
theorem dX8_reads_82 : decode cX8_reads 82 = .ok (.iconst 1, 1) := by decide +kernel
theorem dX8_reads_83 : decode cX8_reads 83 = .ok (.ireturn, 1) := by decide +kernel
set_option maxRecDepth 20000 in
set_option maxHeartbeats 2000000 in
theorem w_X8_reads_53 {X : CX} {d : Nat} (hd : 59 ≤ d) {g' : G} {rx : Bool} : ∀ (n : Nat) (l0 : Nat) (l3 : Int32) (g : G), KD g l0 8 → f_X8_reads_53 n l0 l3 g = some (rx, g') → SemF X m_X8_reads d 53 [(0, .ref (ad X l0)), (3, .int l3)] [] g (some (.int (b2i rx))) g' := by
  intro n
  induction n with
  | zero =>
    intro l0 l3 g k_l0 h
    rw [f_X8_reads_53] at h
    cases h
  | succ n ih =>
  intro l0 l3 g k_l0 h
  rw [f_X8_reads_53] at h
  refine SF_iload_n 1 54 dX8_reads_53 rfl rfl rfl ?_
  refine SF_sipush (900 : Int32) 57 dX8_reads_54 rfl rfl ?_
  refine SF_icge 82 60 dX8_reads_57 rfl rfl (fun c1 => ?_) (fun c1 => ?_)
  · have h := ite_t c1 h
    refine SF_iconst (1 : Int32) 83 dX8_reads_82 rfl rfl ?_
    exact RT_b rfl rfl dX8_reads_83 h
  · have h := ite_f c1 h
    refine SF_aload_n 0 61 dX8_reads_60 rfl rfl rfl ?_
    refine SF_getI 64 fl_X8_73 dX8_reads_61 k_l0.1 rfl ?_
    refine SF_ifeq 82 67 dX8_reads_64 rfl rfl (fun c2 => ?_) (fun c2 => ?_)
    · have h := ite_t c2 h
      refine SF_iconst (1 : Int32) 83 dX8_reads_82 rfl rfl ?_
      exact RT_b rfl rfl dX8_reads_83 h
    · have h := ite_f c2 h
      refine SF_aload_n 0 68 dX8_reads_67 rfl rfl rfl ?_
      obtain ⟨v3, g4, q5, h⟩ := bd_some h
      have s6 := w_X8_line (X := X) (Nat.le_refl 58) l0 g g4 v3 k_l0 q5
      refine SF_callVb 71 mi_X8_line ml_X8_76 dX8_reads_68 (Nat.le_trans (by decide) hd) s6 k_l0.1 rfl rfl (Nat.le_of_ble_eq_true rfl) rfl ?_
      have k_l0 := k_l0.ext s6.1
      refine SF_ifne 76 74 dX8_reads_71 rfl rfl (fun c7 => ?_) (fun c7 => ?_)
      · have h := ite_f c7 h
        refine SF_iinc 1 (l3 + (1 : Int32)) [(3, .int (l3 + (1 : Int32))), (0, .ref (ad X l0))] 79 dX8_reads_76 rfl rfl (by decide) rfl rfl ?_
        refine SF_goto 53 dX8_reads_79 rfl ?_
        refine SF_sub [1, 0] rfl ?_
        exact ih l0 (l3 + (1 : Int32)) g4 k_l0 h
      · have h := ite_t c7 h
        refine SF_iconst (0 : Int32) 75 dX8_reads_74 rfl rfl ?_
        exact RT_b rfl rfl dX8_reads_75 h

set_option maxRecDepth 20000 in
set_option maxHeartbeats 2000000 in
theorem w_X8_reads {X : CX} {d : Nat} (hd : 59 ≤ d) (l0 : Nat) (l1 : Nat) (l2 : Int32) (g g' : G) (rx : Bool) (k_l0 : KD g l0 8) (k_l1 : KD g l1 13) (h : f_X8_reads l0 l1 l2 g = some (rx, g')) : Sem X m_X8_reads d [.ref (ad X l0), .ref (ad X l1), .int l2] g (some (.int (b2i rx))) g' := by
  refine Sem_of (lo := [(0, .ref (ad X l0)), (1, .ref (ad X l1)), (2, .int l2)]) (by decide +kernel) rfl (Nat.le_of_ble_eq_true rfl) ?_
  rw [f_X8_reads] at h
  refine SF_aload_n 0 1 dX8_reads_0 rfl rfl rfl ?_
  refine SF_aload_n 1 2 dX8_reads_1 rfl rfl rfl ?_
  refine SF_putR 5 fl_X8_15 dX8_reads_2 k_l0.1 (fn_arr _ _) (Or.inl rfl) rfl ?_
  obtain ⟨g1, e2, h⟩ := lg_some h
  rw [← e2]
  have k_l0 := KD.eq e2 k_l0
  have k_l1 := KD.eq e2 k_l1
  refine SF_aload_n 0 6 dX8_reads_5 rfl rfl rfl ?_
  refine SF_iconst (0 : Int32) 7 dX8_reads_6 rfl rfl ?_
  refine SF_iload_n 2 8 dX8_reads_7 rfl rfl rfl ?_
  refine SF_aload_n 1 9 dX8_reads_8 rfl rfl rfl ?_
  refine SF_alen 10 dX8_reads_9 k_l1.1 (by decide) (by decide) rfl ?_
  obtain ⟨v3, g4, q5, h⟩ := bd_some h
  have s6 := w_J9_min_7cf53 (X := X) (Nat.le_refl 0) l2 (nI (gN g1 l1)) g1 g4 v3 q5
  refine SF_callSi 13 mi_J9_min_7cf53 ml_X8_45 dX8_reads_10 (Nat.le_trans (by decide) hd) s6 rfl rfl (Nat.le_of_ble_eq_true rfl) rfl ?_
  have k_l0 := k_l0.ext s6.1
  have k_l1 := k_l1.ext s6.1
  obtain ⟨v7, g8, q9, h⟩ := bd_some h
  have s10 := w_J9_max_7cf53 (X := X) (Nat.le_refl 0) (0 : Int32) v3 g4 g8 v7 q9
  refine SF_callSi 16 mi_J9_max_7cf53 ml_X8_51 dX8_reads_13 (Nat.le_trans (by decide) hd) s10 rfl rfl (Nat.le_of_ble_eq_true rfl) rfl ?_
  have k_l0 := k_l0.ext s10.1
  have k_l1 := k_l1.ext s10.1
  refine SF_putI 19 fl_X8_54 dX8_reads_16 k_l0.1 (fn_int _) (Or.inl rfl) rfl ?_
  obtain ⟨g11, e12, h⟩ := lg_some h
  rw [← e12]
  have k_l0 := KD.eq e12 k_l0
  have k_l1 := KD.eq e12 k_l1
  refine SF_aload_n 0 20 dX8_reads_19 rfl rfl rfl ?_
  refine SF_iconst (0 : Int32) 21 dX8_reads_20 rfl rfl ?_
  refine SF_putI 24 fl_X8_57 dX8_reads_21 k_l0.1 (fn_int _) (Or.inl rfl) rfl ?_
  obtain ⟨g13, e14, h⟩ := lg_some h
  rw [← e14]
  have k_l0 := KD.eq e14 k_l0
  have k_l1 := KD.eq e14 k_l1
  refine SF_aload_n 0 25 dX8_reads_24 rfl rfl rfl ?_
  refine SF_iconst (-1 : Int32) 26 dX8_reads_25 rfl rfl ?_
  refine SF_putI 29 fl_X8_9 dX8_reads_26 k_l0.1 (fn_int _) (Or.inl rfl) rfl ?_
  obtain ⟨g15, e16, h⟩ := lg_some h
  rw [← e16]
  have k_l0 := KD.eq e16 k_l0
  have k_l1 := KD.eq e16 k_l1
  refine SF_aload_n 0 30 dX8_reads_29 rfl rfl rfl ?_
  obtain ⟨v17, g18, q19, h⟩ := bd_some h
  have s20 := w_X8_splitText (X := X) (Nat.le_refl 6) l0 g15 g18 v17 k_l0 q19
  refine SF_callVv 33 mi_X8_splitText ml_X8_60 dX8_reads_30 (Nat.le_trans (by decide) hd) s20 k_l0.1 rfl rfl (Nat.le_of_ble_eq_true rfl) rfl ?_
  have k_l0 := k_l0.ext s20.1
  have k_l1 := k_l1.ext s20.1
  refine SF_aload_n 0 34 dX8_reads_33 rfl rfl rfl ?_
  refine SF_iconst (-1 : Int32) 35 dX8_reads_34 rfl rfl ?_
  refine SF_putI 38 fl_X8_63 dX8_reads_35 k_l0.1 (fn_int _) (Or.inl rfl) rfl ?_
  obtain ⟨g21, e22, h⟩ := lg_some h
  rw [← e22]
  have k_l0 := KD.eq e22 k_l0
  have k_l1 := KD.eq e22 k_l1
  refine SF_aload_n 0 39 dX8_reads_38 rfl rfl rfl ?_
  obtain ⟨v23, g24, q25, h⟩ := bd_some h
  have s26 := w_X8_look (X := X) (Nat.le_refl 0) l0 g21 g24 v23 k_l0 q25
  refine SF_callVv 42 mi_X8_look ml_X8_66 dX8_reads_39 (Nat.le_trans (by decide) hd) s26 k_l0.1 rfl rfl (Nat.le_of_ble_eq_true rfl) rfl ?_
  have k_l0 := k_l0.ext s26.1
  have k_l1 := k_l1.ext s26.1
  refine SF_aload_n 0 43 dX8_reads_42 rfl rfl rfl ?_
  obtain ⟨v27, g28, q29, h⟩ := bd_some h
  have s30 := w_X8_fieldLine (X := X) (Nat.le_refl 3) l0 g24 g28 v27 k_l0 q29
  refine SF_callVb 46 mi_X8_fieldLine ml_X8_69 dX8_reads_43 (Nat.le_trans (by decide) hd) s30 k_l0.1 rfl rfl (Nat.le_of_ble_eq_true rfl) rfl ?_
  have k_l0 := k_l0.ext s30.1
  have k_l1 := k_l1.ext s30.1
  refine SF_ifne 51 49 dX8_reads_46 rfl rfl (fun c31 => ?_) (fun c31 => ?_)
  · have h := ite_f c31 h
    refine SF_iconst (0 : Int32) 52 dX8_reads_51 rfl rfl ?_
    refine SF_istore_n [(3, .int (0 : Int32)), (0, .ref (ad X l0)), (1, .ref (ad X l1)), (2, .int l2)] 53 dX8_reads_52 rfl (by decide) rfl rfl ?_
    refine SF_sub [1, 0] rfl ?_
    exact w_X8_reads_53 hd FU l0 (0 : Int32) g28 k_l0 h
  · have h := ite_t c31 h
    refine SF_iconst (0 : Int32) 50 dX8_reads_49 rfl rfl ?_
    exact RT_b rfl rfl dX8_reads_50 h

theorem dX0_copyFrom_0 : decode cX0_copyFrom 0 = .ok (.aload_n 0, 1) := by decide +kernel
theorem dX0_copyFrom_1 : decode cX0_copyFrom 1 = .ok (.aload_n 1, 1) := by decide +kernel
theorem dX0_copyFrom_2 : decode cX0_copyFrom 2 = .ok (.getfield 24, 3) := by decide +kernel
theorem dX0_copyFrom_5 : decode cX0_copyFrom 5 = .ok (.putfield 24, 3) := by decide +kernel
theorem dX0_copyFrom_8 : decode cX0_copyFrom 8 = .ok (.aload_n 0, 1) := by decide +kernel
theorem dX0_copyFrom_9 : decode cX0_copyFrom 9 = .ok (.aload_n 1, 1) := by decide +kernel
theorem dX0_copyFrom_10 : decode cX0_copyFrom 10 = .ok (.getfield 28, 3) := by decide +kernel
theorem dX0_copyFrom_13 : decode cX0_copyFrom 13 = .ok (.putfield 28, 3) := by decide +kernel
theorem dX0_copyFrom_16 : decode cX0_copyFrom 16 = .ok (.aload_n 1, 1) := by decide +kernel
theorem dX0_copyFrom_17 : decode cX0_copyFrom 17 = .ok (.getfield 9, 3) := by decide +kernel
theorem dX0_copyFrom_20 : decode cX0_copyFrom 20 = .ok (.iconst 0, 1) := by decide +kernel
theorem dX0_copyFrom_21 : decode cX0_copyFrom 21 = .ok (.aload_n 0, 1) := by decide +kernel
theorem dX0_copyFrom_22 : decode cX0_copyFrom 22 = .ok (.getfield 9, 3) := by decide +kernel
theorem dX0_copyFrom_25 : decode cX0_copyFrom 25 = .ok (.iconst 0, 1) := by decide +kernel
theorem dX0_copyFrom_26 : decode cX0_copyFrom 26 = .ok (.bipush 6, 2) := by decide +kernel
theorem dX0_copyFrom_28 : decode cX0_copyFrom 28 = .ok (.invokestatic 32, 3) := by decide +kernel
theorem dX0_copyFrom_31 : decode cX0_copyFrom 31 = .ok (.aload_n 1, 1) := by decide +kernel
theorem dX0_copyFrom_32 : decode cX0_copyFrom 32 = .ok (.getfield 15, 3) := by decide +kernel
theorem dX0_copyFrom_35 : decode cX0_copyFrom 35 = .ok (.iconst 0, 1) := by decide +kernel
theorem dX0_copyFrom_36 : decode cX0_copyFrom 36 = .ok (.aload_n 0, 1) := by decide +kernel
theorem dX0_copyFrom_37 : decode cX0_copyFrom 37 = .ok (.getfield 15, 3) := by decide +kernel
theorem dX0_copyFrom_40 : decode cX0_copyFrom 40 = .ok (.iconst 0, 1) := by decide +kernel
theorem dX0_copyFrom_41 : decode cX0_copyFrom 41 = .ok (.iconst 3, 1) := by decide +kernel
theorem dX0_copyFrom_42 : decode cX0_copyFrom 42 = .ok (.invokestatic 32, 3) := by decide +kernel
theorem dX0_copyFrom_45 : decode cX0_copyFrom 45 = .ok (.aload_n 1, 1) := by decide +kernel
theorem dX0_copyFrom_46 : decode cX0_copyFrom 46 = .ok (.getfield 18, 3) := by decide +kernel
theorem dX0_copyFrom_49 : decode cX0_copyFrom 49 = .ok (.iconst 0, 1) := by decide +kernel
theorem dX0_copyFrom_50 : decode cX0_copyFrom 50 = .ok (.aload_n 0, 1) := by decide +kernel
theorem dX0_copyFrom_51 : decode cX0_copyFrom 51 = .ok (.getfield 18, 3) := by decide +kernel
theorem dX0_copyFrom_54 : decode cX0_copyFrom 54 = .ok (.iconst 0, 1) := by decide +kernel
theorem dX0_copyFrom_55 : decode cX0_copyFrom 55 = .ok (.iconst 3, 1) := by decide +kernel
theorem dX0_copyFrom_56 : decode cX0_copyFrom 56 = .ok (.invokestatic 32, 3) := by decide +kernel
theorem dX0_copyFrom_59 : decode cX0_copyFrom 59 = .ok (.aload_n 1, 1) := by decide +kernel
theorem dX0_copyFrom_60 : decode cX0_copyFrom 60 = .ok (.getfield 21, 3) := by decide +kernel
theorem dX0_copyFrom_63 : decode cX0_copyFrom 63 = .ok (.iconst 0, 1) := by decide +kernel
theorem dX0_copyFrom_64 : decode cX0_copyFrom 64 = .ok (.aload_n 0, 1) := by decide +kernel
theorem dX0_copyFrom_65 : decode cX0_copyFrom 65 = .ok (.getfield 21, 3) := by decide +kernel
theorem dX0_copyFrom_68 : decode cX0_copyFrom 68 = .ok (.iconst 0, 1) := by decide +kernel
theorem dX0_copyFrom_69 : decode cX0_copyFrom 69 = .ok (.iconst 3, 1) := by decide +kernel
theorem dX0_copyFrom_70 : decode cX0_copyFrom 70 = .ok (.invokestatic 32, 3) := by decide +kernel
theorem dX0_copyFrom_73 : decode cX0_copyFrom 73 = .ok (.return_, 1) := by decide +kernel
set_option maxRecDepth 20000 in
set_option maxHeartbeats 2000000 in
theorem w_X0_copyFrom {X : CX} {d : Nat} (hd : 1 ≤ d) (l0 : Nat) (l1 : Nat) (g g' : G) (rx : Unit) (k_l0 : KD g l0 0) (k_l1 : KD g l1 0) (h : f_X0_copyFrom l0 l1 g = some (rx, g')) : Sem X m_X0_copyFrom d [.ref (ad X l0), .ref (ad X l1)] g none g' := by
  refine Sem_of (lo := [(0, .ref (ad X l0)), (1, .ref (ad X l1))]) (by decide +kernel) rfl (Nat.le_of_ble_eq_true rfl) ?_
  rw [f_X0_copyFrom] at h
  refine SF_aload_n 0 1 dX0_copyFrom_0 rfl rfl rfl ?_
  refine SF_aload_n 1 2 dX0_copyFrom_1 rfl rfl rfl ?_
  obtain ⟨b1, r2, h⟩ := dr_some h
  refine SF_getR 5 fl_X0_24 dX0_copyFrom_2 k_l1.1 r2 rfl ?_
  refine SF_putR 8 fl_X0_24 dX0_copyFrom_5 k_l0.1 (fn_obj _ _) (Or.inl rfl) rfl ?_
  obtain ⟨g3, e4, h⟩ := lg_some h
  rw [← e4]
  have k_l0 := KD.eq e4 k_l0
  have k_l1 := KD.eq e4 k_l1
  refine SF_aload_n 0 9 dX0_copyFrom_8 rfl rfl rfl ?_
  refine SF_aload_n 1 10 dX0_copyFrom_9 rfl rfl rfl ?_
  refine SF_getL 13 fl_X0_28 dX0_copyFrom_10 k_l1.1 rfl ?_
  refine SF_putL 16 fl_X0_28 dX0_copyFrom_13 k_l0.1 (fn_long _) (Or.inl rfl) rfl ?_
  obtain ⟨g5, e6, h⟩ := lg_some h
  rw [← e6]
  have k_l0 := KD.eq e6 k_l0
  have k_l1 := KD.eq e6 k_l1
  refine SF_aload_n 1 17 dX0_copyFrom_16 rfl rfl rfl ?_
  obtain ⟨b7, r8, h⟩ := dr_some h
  refine SF_getR 20 fl_X0_9 dX0_copyFrom_17 k_l1.1 r8 rfl ?_
  refine SF_iconst (0 : Int32) 21 dX0_copyFrom_20 rfl rfl ?_
  refine SF_aload_n 0 22 dX0_copyFrom_21 rfl rfl rfl ?_
  obtain ⟨b9, r10, h⟩ := dr_some h
  refine SF_getR 25 fl_X0_9 dX0_copyFrom_22 k_l0.1 r10 rfl ?_
  refine SF_iconst (0 : Int32) 26 dX0_copyFrom_25 rfl rfl ?_
  refine SF_bipush (6 : Int32) 28 dX0_copyFrom_26 rfl rfl ?_
  obtain ⟨k11, h⟩ := gdK_some h
  obtain ⟨k12, h⟩ := gdK_some h
  obtain ⟨z13, h⟩ := gdC_some h
  refine SF_cpyI 31 ml_X0_32 wa_1 wa_2 wa_3 dX0_copyFrom_28 (Nat.le_trans (by decide) hd) k11.1 k12.1 z13 (Nat.le_of_ble_eq_true rfl) rfl ?_
  obtain ⟨g14, e15, h⟩ := lg_some h
  rw [← e15]
  have k_l0 := KD.eq e15 k_l0
  have k_l1 := KD.eq e15 k_l1
  have k11 := KD.eq e15 k11
  have k12 := KD.eq e15 k12
  have r8 := gR_eq e15 r8
  have r10 := gR_eq e15 r10
  refine SF_aload_n 1 32 dX0_copyFrom_31 rfl rfl rfl ?_
  obtain ⟨b16, r17, h⟩ := dr_some h
  refine SF_getR 35 fl_X0_15 dX0_copyFrom_32 k_l1.1 r17 rfl ?_
  refine SF_iconst (0 : Int32) 36 dX0_copyFrom_35 rfl rfl ?_
  refine SF_aload_n 0 37 dX0_copyFrom_36 rfl rfl rfl ?_
  obtain ⟨b18, r19, h⟩ := dr_some h
  refine SF_getR 40 fl_X0_15 dX0_copyFrom_37 k_l0.1 r19 rfl ?_
  refine SF_iconst (0 : Int32) 41 dX0_copyFrom_40 rfl rfl ?_
  refine SF_iconst (3 : Int32) 42 dX0_copyFrom_41 rfl rfl ?_
  obtain ⟨k20, h⟩ := gdK_some h
  obtain ⟨k21, h⟩ := gdK_some h
  obtain ⟨z22, h⟩ := gdC_some h
  refine SF_cpyI 45 ml_X0_32 wa_1 wa_2 wa_3 dX0_copyFrom_42 (Nat.le_trans (by decide) hd) k20.1 k21.1 z22 (Nat.le_of_ble_eq_true rfl) rfl ?_
  obtain ⟨g23, e24, h⟩ := lg_some h
  rw [← e24]
  have k_l0 := KD.eq e24 k_l0
  have k_l1 := KD.eq e24 k_l1
  have k11 := KD.eq e24 k11
  have k12 := KD.eq e24 k12
  have k20 := KD.eq e24 k20
  have k21 := KD.eq e24 k21
  have r8 := gR_eq e24 r8
  have r10 := gR_eq e24 r10
  have r17 := gR_eq e24 r17
  have r19 := gR_eq e24 r19
  refine SF_aload_n 1 46 dX0_copyFrom_45 rfl rfl rfl ?_
  obtain ⟨b25, r26, h⟩ := dr_some h
  refine SF_getR 49 fl_X0_18 dX0_copyFrom_46 k_l1.1 r26 rfl ?_
  refine SF_iconst (0 : Int32) 50 dX0_copyFrom_49 rfl rfl ?_
  refine SF_aload_n 0 51 dX0_copyFrom_50 rfl rfl rfl ?_
  obtain ⟨b27, r28, h⟩ := dr_some h
  refine SF_getR 54 fl_X0_18 dX0_copyFrom_51 k_l0.1 r28 rfl ?_
  refine SF_iconst (0 : Int32) 55 dX0_copyFrom_54 rfl rfl ?_
  refine SF_iconst (3 : Int32) 56 dX0_copyFrom_55 rfl rfl ?_
  obtain ⟨k29, h⟩ := gdK_some h
  obtain ⟨k30, h⟩ := gdK_some h
  obtain ⟨z31, h⟩ := gdC_some h
  refine SF_cpyI 59 ml_X0_32 wa_1 wa_2 wa_3 dX0_copyFrom_56 (Nat.le_trans (by decide) hd) k29.1 k30.1 z31 (Nat.le_of_ble_eq_true rfl) rfl ?_
  obtain ⟨g32, e33, h⟩ := lg_some h
  rw [← e33]
  have k_l0 := KD.eq e33 k_l0
  have k_l1 := KD.eq e33 k_l1
  have k11 := KD.eq e33 k11
  have k12 := KD.eq e33 k12
  have k20 := KD.eq e33 k20
  have k21 := KD.eq e33 k21
  have k29 := KD.eq e33 k29
  have k30 := KD.eq e33 k30
  have r8 := gR_eq e33 r8
  have r10 := gR_eq e33 r10
  have r17 := gR_eq e33 r17
  have r19 := gR_eq e33 r19
  have r26 := gR_eq e33 r26
  have r28 := gR_eq e33 r28
  refine SF_aload_n 1 60 dX0_copyFrom_59 rfl rfl rfl ?_
  obtain ⟨b34, r35, h⟩ := dr_some h
  refine SF_getR 63 fl_X0_21 dX0_copyFrom_60 k_l1.1 r35 rfl ?_
  refine SF_iconst (0 : Int32) 64 dX0_copyFrom_63 rfl rfl ?_
  refine SF_aload_n 0 65 dX0_copyFrom_64 rfl rfl rfl ?_
  obtain ⟨b36, r37, h⟩ := dr_some h
  refine SF_getR 68 fl_X0_21 dX0_copyFrom_65 k_l0.1 r37 rfl ?_
  refine SF_iconst (0 : Int32) 69 dX0_copyFrom_68 rfl rfl ?_
  refine SF_iconst (3 : Int32) 70 dX0_copyFrom_69 rfl rfl ?_
  obtain ⟨k38, h⟩ := gdK_some h
  obtain ⟨k39, h⟩ := gdK_some h
  obtain ⟨z40, h⟩ := gdC_some h
  refine SF_cpyI 73 ml_X0_32 wa_1 wa_2 wa_3 dX0_copyFrom_70 (Nat.le_trans (by decide) hd) k38.1 k39.1 z40 (Nat.le_of_ble_eq_true rfl) rfl ?_
  obtain ⟨g41, e42, h⟩ := lg_some h
  rw [← e42]
  have k_l0 := KD.eq e42 k_l0
  have k_l1 := KD.eq e42 k_l1
  have k11 := KD.eq e42 k11
  have k12 := KD.eq e42 k12
  have k20 := KD.eq e42 k20
  have k21 := KD.eq e42 k21
  have k29 := KD.eq e42 k29
  have k30 := KD.eq e42 k30
  have k38 := KD.eq e42 k38
  have k39 := KD.eq e42 k39
  have r8 := gR_eq e42 r8
  have r10 := gR_eq e42 r10
  have r17 := gR_eq e42 r17
  have r19 := gR_eq e42 r19
  have r26 := gR_eq e42 r26
  have r28 := gR_eq e42 r28
  have r35 := gR_eq e42 r35
  have r37 := gR_eq e42 r37
  exact RT_v rfl dX0_copyFrom_73 h

theorem dX5_forget_0 : decode cX5_forget 0 = .ok (.aload_n 0, 1) := by decide +kernel
theorem dX5_forget_1 : decode cX5_forget 1 = .ok (.iconst 0, 1) := by decide +kernel
theorem dX5_forget_2 : decode cX5_forget 2 = .ok (.putfield 20, 3) := by decide +kernel
theorem dX5_forget_5 : decode cX5_forget 5 = .ok (.aload_n 0, 1) := by decide +kernel
theorem dX5_forget_6 : decode cX5_forget 6 = .ok (.iconst 0, 1) := by decide +kernel
theorem dX5_forget_7 : decode cX5_forget 7 = .ok (.putfield 24, 3) := by decide +kernel
theorem dX5_forget_10 : decode cX5_forget 10 = .ok (.return_, 1) := by decide +kernel
set_option maxRecDepth 20000 in
set_option maxHeartbeats 2000000 in
theorem w_X5_forget {X : CX} {d : Nat} (hd : 0 ≤ d) (l0 : Nat) (g g' : G) (rx : Unit) (k_l0 : KD g l0 5) (h : f_X5_forget l0 g = some (rx, g')) : Sem X m_X5_forget d [.ref (ad X l0)] g none g' := by
  refine Sem_of (lo := [(0, .ref (ad X l0))]) (by decide +kernel) rfl (Nat.le_of_ble_eq_true rfl) ?_
  rw [f_X5_forget] at h
  refine SF_aload_n 0 1 dX5_forget_0 rfl rfl rfl ?_
  refine SF_iconst (0 : Int32) 2 dX5_forget_1 rfl rfl ?_
  refine SF_putI 5 fl_X5_20 dX5_forget_2 k_l0.1 (fn_int _) (Or.inl rfl) rfl ?_
  obtain ⟨g1, e2, h⟩ := lg_some h
  rw [← e2]
  have k_l0 := KD.eq e2 k_l0
  refine SF_aload_n 0 6 dX5_forget_5 rfl rfl rfl ?_
  refine SF_iconst (0 : Int32) 7 dX5_forget_6 rfl rfl ?_
  refine SF_putI 10 fl_X5_24 dX5_forget_7 k_l0.1 (fn_int _) (Or.inl rfl) rfl ?_
  obtain ⟨g3, e4, h⟩ := lg_some h
  rw [← e4]
  have k_l0 := KD.eq e4 k_l0
  exact RT_v rfl dX5_forget_10 h

theorem dX11_forgetWays_0 : decode cX11_forgetWays 0 = .ok (.aload_n 0, 1) := by decide +kernel
theorem dX11_forgetWays_1 : decode cX11_forgetWays 1 = .ok (.iconst (-1), 1) := by decide +kernel
theorem dX11_forgetWays_2 : decode cX11_forgetWays 2 = .ok (.putfield 27, 3) := by decide +kernel
theorem dX11_forgetWays_5 : decode cX11_forgetWays 5 = .ok (.aload_n 0, 1) := by decide +kernel
theorem dX11_forgetWays_6 : decode cX11_forgetWays 6 = .ok (.getfield 33, 3) := by decide +kernel
theorem dX11_forgetWays_9 : decode cX11_forgetWays 9 = .ok (.iconst 0, 1) := by decide +kernel
theorem dX11_forgetWays_10 : decode cX11_forgetWays 10 = .ok (.putfield 250, 3) := by decide +kernel
theorem dX11_forgetWays_13 : decode cX11_forgetWays 13 = .ok (.aload_n 0, 1) := by decide +kernel
theorem dX11_forgetWays_14 : decode cX11_forgetWays 14 = .ok (.getfield 47, 3) := by decide +kernel
theorem dX11_forgetWays_17 : decode cX11_forgetWays 17 = .ok (.iconst 0, 1) := by decide +kernel
theorem dX11_forgetWays_18 : decode cX11_forgetWays 18 = .ok (.putfield 254, 3) := by decide +kernel
theorem dX11_forgetWays_21 : decode cX11_forgetWays 21 = .ok (.return_, 1) := by decide +kernel
set_option maxRecDepth 20000 in
set_option maxHeartbeats 2000000 in
theorem w_X11_forgetWays {X : CX} {d : Nat} (hd : 0 ≤ d) (l0 : Nat) (g g' : G) (rx : Unit) (k_l0 : KD g l0 11) (h : f_X11_forgetWays l0 g = some (rx, g')) : Sem X m_X11_forgetWays d [.ref (ad X l0)] g none g' := by
  refine Sem_of (lo := [(0, .ref (ad X l0))]) (by decide +kernel) rfl (Nat.le_of_ble_eq_true rfl) ?_
  rw [f_X11_forgetWays] at h
  refine SF_aload_n 0 1 dX11_forgetWays_0 rfl rfl rfl ?_
  refine SF_iconst (-1 : Int32) 2 dX11_forgetWays_1 rfl rfl ?_
  refine SF_putI 5 fl_X11_27 dX11_forgetWays_2 k_l0.1 (fn_int _) (Or.inl rfl) rfl ?_
  obtain ⟨g1, e2, h⟩ := lg_some h
  rw [← e2]
  have k_l0 := KD.eq e2 k_l0
  refine SF_aload_n 0 6 dX11_forgetWays_5 rfl rfl rfl ?_
  obtain ⟨b3, r4, h⟩ := dr_some h
  refine SF_getR 9 fl_X11_33 dX11_forgetWays_6 k_l0.1 r4 rfl ?_
  refine SF_iconst (0 : Int32) 10 dX11_forgetWays_9 rfl rfl ?_
  obtain ⟨k5, h⟩ := gdK_some h
  refine SF_putI 13 fl_X11_250 dX11_forgetWays_10 k5.1 ⟨rfl, rfl⟩ (Or.inl rfl) rfl ?_
  obtain ⟨g6, e7, h⟩ := lg_some h
  rw [← e7]
  have k_l0 := KD.eq e7 k_l0
  have k5 := KD.eq e7 k5
  have r4 := gR_eq e7 r4
  refine SF_aload_n 0 14 dX11_forgetWays_13 rfl rfl rfl ?_
  obtain ⟨b8, r9, h⟩ := dr_some h
  refine SF_getR 17 fl_X11_47 dX11_forgetWays_14 k_l0.1 r9 rfl ?_
  refine SF_iconst (0 : Int32) 18 dX11_forgetWays_17 rfl rfl ?_
  obtain ⟨k10, h⟩ := gdK_some h
  refine SF_putI 21 fl_X11_254 dX11_forgetWays_18 k10.1 ⟨rfl, rfl⟩ (Or.inl rfl) rfl ?_
  obtain ⟨g11, e12, h⟩ := lg_some h
  rw [← e12]
  have k_l0 := KD.eq e12 k_l0
  have k5 := KD.eq e12 k5
  have k10 := KD.eq e12 k10
  have r4 := gR_eq e12 r4
  have r9 := gR_eq e12 r9
  exact RT_v rfl dX11_forgetWays_21 h

theorem dX11_field_0 : decode cX11_field 0 = .ok (.iload_n 1, 1) := by decide +kernel
theorem dX11_field_1 : decode cX11_field 1 = .ok (.ifCond .lt 11, 3) := by decide +kernel
theorem dX11_field_4 : decode cX11_field 4 = .ok (.iload_n 1, 1) := by decide +kernel
theorem dX11_field_5 : decode cX11_field 5 = .ok (.aload_n 0, 1) := by decide +kernel
theorem dX11_field_6 : decode cX11_field 6 = .ok (.getfield 107, 3) := by decide +kernel
theorem dX11_field_9 : decode cX11_field 9 = .ok (.if_icmp .le 6, 3) := by decide +kernel
theorem dX11_field_12 : decode cX11_field 12 = .ok (.bipush (-3), 2) := by decide +kernel
theorem dX11_field_14 : decode cX11_field 14 = .ok (.ireturn, 1) := by decide +kernel
theorem dX11_field_15 : decode cX11_field 15 = .ok (.aload_n 0, 1) := by decide +kernel
theorem dX11_field_16 : decode cX11_field 16 = .ok (.iconst 0, 1) := by decide +kernel
theorem dX11_field_17 : decode cX11_field 17 = .ok (.putfield 107, 3) := by decide +kernel
theorem dX11_field_20 : decode cX11_field 20 = .ok (.aload_n 0, 1) := by decide +kernel
theorem dX11_field_21 : decode cX11_field 21 = .ok (.getfield 88, 3) := by decide +kernel
theorem dX11_field_24 : decode cX11_field 24 = .ok (.aload_n 0, 1) := by decide +kernel
theorem dX11_field_25 : decode cX11_field 25 = .ok (.getfield 9, 3) := by decide +kernel
theorem dX11_field_28 : decode cX11_field 28 = .ok (.iload_n 1, 1) := by decide +kernel
theorem dX11_field_29 : decode cX11_field 29 = .ok (.invokevirtual 114, 3) := by decide +kernel
theorem dX11_field_32 : decode cX11_field 32 = .ok (.istore_n 2, 1) := by decide +kernel
theorem dX11_field_33 : decode cX11_field 33 = .ok (.aload_n 0, 1) := by decide +kernel
theorem dX11_field_34 : decode cX11_field 34 = .ok (.aload_n 0, 1) := by decide +kernel
theorem dX11_field_35 : decode cX11_field 35 = .ok (.getfield 88, 3) := by decide +kernel
theorem dX11_field_38 : decode cX11_field 38 = .ok (.getfield 118, 3) := by decide +kernel
theorem dX11_field_41 : decode cX11_field 41 = .ok (.putfield 121, 3) := by decide +kernel
theorem dX11_field_44 : decode cX11_field 44 = .ok (.aload_n 0, 1) := by decide +kernel
theorem dX11_field_45 : decode cX11_field 45 = .ok (.aload_n 0, 1) := by decide +kernel
theorem dX11_field_46 : decode cX11_field 46 = .ok (.getfield 88, 3) := by decide +kernel
theorem dX11_field_49 : decode cX11_field 49 = .ok (.getfield 122, 3) := by decide +kernel
theorem dX11_field_52 : decode cX11_field 52 = .ok (.putfield 13, 3) := by decide +kernel
theorem dX11_field_55 : decode cX11_field 55 = .ok (.iload_n 2, 1) := by decide +kernel
theorem dX11_field_56 : decode cX11_field 56 = .ok (.ifCond .ne 11, 3) := by decide +kernel
theorem dX11_field_59 : decode cX11_field 59 = .ok (.bipush (-30), 2) := by decide +kernel
theorem dX11_field_61 : decode cX11_field 61 = .ok (.aload_n 0, 1) := by decide +kernel
theorem dX11_field_62 : decode cX11_field 62 = .ok (.getfield 121, 3) := by decide +kernel
theorem dX11_field_65 : decode cX11_field 65 = .ok (.isub, 1) := by decide +kernel
theorem dX11_field_66 : decode cX11_field 66 = .ok (.ireturn, 1) := by decide +kernel
theorem dX11_field_67 : decode cX11_field 67 = .ok (.aload_n 0, 1) := by decide +kernel
theorem dX11_field_68 : decode cX11_field 68 = .ok (.getfield 78, 3) := by decide +kernel
theorem dX11_field_71 : decode cX11_field 71 = .ok (.aload_n 0, 1) := by decide +kernel
theorem dX11_field_72 : decode cX11_field 72 = .ok (.getfield 88, 3) := by decide +kernel
theorem dX11_field_75 : decode cX11_field 75 = .ok (.getfield 123, 3) := by decide +kernel
theorem dX11_field_78 : decode cX11_field 78 = .ok (.invokevirtual 126, 3) := by decide +kernel
theorem dX11_field_81 : decode cX11_field 81 = .ok (.aload_n 0, 1) := by decide +kernel
theorem dX11_field_82 : decode cX11_field 82 = .ok (.getfield 102, 3) := by decide +kernel
theorem dX11_field_85 : decode cX11_field 85 = .ok (.invokevirtual 130, 3) := by decide +kernel
theorem dX11_field_88 : decode cX11_field 88 = .ok (.aload_n 0, 1) := by decide +kernel
theorem dX11_field_89 : decode cX11_field 89 = .ok (.invokevirtual 133, 3) := by decide +kernel
theorem dX11_field_92 : decode cX11_field 92 = .ok (.aload_n 0, 1) := by decide +kernel
theorem dX11_field_93 : decode cX11_field 93 = .ok (.getfield 78, 3) := by decide +kernel
theorem dX11_field_96 : decode cX11_field 96 = .ok (.getfield 136, 3) := by decide +kernel
theorem dX11_field_99 : decode cX11_field 99 = .ok (.getfield 140, 3) := by decide +kernel
theorem dX11_field_102 : decode cX11_field 102 = .ok (.ireturn, 1) := by decide +kernel
set_option maxRecDepth 20000 in
set_option maxHeartbeats 2000000 in
theorem w_X11_field {X : CX} {d : Nat} (hd : 60 ≤ d) (l0 : Nat) (l1 : Int32) (g g' : G) (rx : Int32) (k_l0 : KD g l0 11) (h : f_X11_field l0 l1 g = some (rx, g')) : Sem X m_X11_field d [.ref (ad X l0), .int l1] g (some (.int rx)) g' := by
  refine Sem_of (lo := [(0, .ref (ad X l0)), (1, .int l1)]) (by decide +kernel) rfl (Nat.le_of_ble_eq_true rfl) ?_
  rw [f_X11_field] at h
  refine SF_iload_n 1 1 dX11_field_0 rfl rfl rfl ?_
  refine SF_iflt 12 4 dX11_field_1 rfl rfl (fun c1 => ?_) (fun c1 => ?_)
  · have h := ite_t c1 h
    refine SF_bipush (-3 : Int32) 14 dX11_field_12 rfl rfl ?_
    exact RT_i rfl dX11_field_14 h
  · have h := ite_f c1 h
    refine SF_iload_n 1 5 dX11_field_4 rfl rfl rfl ?_
    refine SF_aload_n 0 6 dX11_field_5 rfl rfl rfl ?_
    refine SF_getI 9 fl_X11_107 dX11_field_6 k_l0.1 rfl ?_
    refine SF_icle 15 12 dX11_field_9 rfl rfl (fun c2 => ?_) (fun c2 => ?_)
    · have h := ite_t c2 h
      refine SF_aload_n 0 16 dX11_field_15 rfl rfl rfl ?_
      refine SF_iconst (0 : Int32) 17 dX11_field_16 rfl rfl ?_
      refine SF_putI 20 fl_X11_107 dX11_field_17 k_l0.1 (fn_int _) (Or.inl rfl) rfl ?_
      obtain ⟨g3, e4, h⟩ := lg_some h
      rw [← e4]
      have k_l0 := KD.eq e4 k_l0
      refine SF_aload_n 0 21 dX11_field_20 rfl rfl rfl ?_
      obtain ⟨b5, r6, h⟩ := dr_some h
      refine SF_getR 24 fl_X11_88 dX11_field_21 k_l0.1 r6 rfl ?_
      refine SF_aload_n 0 25 dX11_field_24 rfl rfl rfl ?_
      obtain ⟨b7, r8, h⟩ := dr_some h
      refine SF_getR 28 fl_X11_9 dX11_field_25 k_l0.1 r8 rfl ?_
      refine SF_iload_n 1 29 dX11_field_28 rfl rfl rfl ?_
      obtain ⟨k9, h⟩ := gdK_some h
      obtain ⟨k10, h⟩ := gdK_some h
      obtain ⟨v11, g12, q13, h⟩ := bd_some h
      have s14 := w_X8_reads (X := X) (Nat.le_refl 59) b5 b7 l1 g3 g12 v11 k9 k10 q13
      refine SF_callVb 32 mi_X8_reads ml_X11_114 dX11_field_29 (Nat.le_trans (by decide) hd) s14 k9.1 rfl rfl (Nat.le_of_ble_eq_true rfl) rfl ?_
      have k_l0 := k_l0.ext s14.1
      have k9 := k9.ext s14.1
      have k10 := k10.ext s14.1
      obtain ⟨y15, e16, h⟩ := li_some h
      refine SF_eqI e16 ?_
      refine SF_istore_n [(2, .int y15), (0, .ref (ad X l0)), (1, .int l1)] 33 dX11_field_32 rfl (by decide) rfl rfl ?_
      refine SF_aload_n 1 34 dX11_field_33 rfl rfl rfl ?_
      refine SF_aload_n 1 35 dX11_field_34 rfl rfl rfl ?_
      obtain ⟨b17, r18, h⟩ := dr_some h
      refine SF_getR 38 fl_X11_88 dX11_field_35 k_l0.1 r18 rfl ?_
      obtain ⟨k19, h⟩ := gdK_some h
      refine SF_getI 41 fl_X11_118 dX11_field_38 k19.1 rfl ?_
      refine SF_putI 44 fl_X11_121 dX11_field_41 k_l0.1 (fn_int _) (Or.inl rfl) rfl ?_
      obtain ⟨g20, e21, h⟩ := lg_some h
      rw [← e21]
      have k_l0 := KD.eq e21 k_l0
      have k9 := KD.eq e21 k9
      have k10 := KD.eq e21 k10
      have k19 := KD.eq e21 k19
      have r18 := gR_eq e21 r18
      refine SF_aload_n 1 45 dX11_field_44 rfl rfl rfl ?_
      refine SF_aload_n 1 46 dX11_field_45 rfl rfl rfl ?_
      refine SF_getR 49 fl_X11_88 dX11_field_46 k_l0.1 r18 rfl ?_
      refine SF_getI 52 fl_X11_122 dX11_field_49 k19.1 rfl ?_
      refine SF_putI 55 fl_X11_13 dX11_field_52 k_l0.1 (fn_int _) (Or.inl rfl) rfl ?_
      obtain ⟨g22, e23, h⟩ := lg_some h
      rw [← e23]
      have k_l0 := KD.eq e23 k_l0
      have k9 := KD.eq e23 k9
      have k10 := KD.eq e23 k10
      have k19 := KD.eq e23 k19
      have r18 := gR_eq e23 r18
      refine SF_iload_n 0 56 dX11_field_55 rfl rfl rfl ?_
      refine SF_ifne 67 59 dX11_field_56 rfl rfl (fun c24 => ?_) (fun c24 => ?_)
      · have h := ite_f c24 h
        refine SF_aload_n 1 68 dX11_field_67 rfl rfl rfl ?_
        obtain ⟨b25, r26, h⟩ := dr_some h
        refine SF_getR 71 fl_X11_78 dX11_field_68 k_l0.1 r26 rfl ?_
        refine SF_aload_n 1 72 dX11_field_71 rfl rfl rfl ?_
        refine SF_getR 75 fl_X11_88 dX11_field_72 k_l0.1 r18 rfl ?_
        obtain ⟨b27, r28, h⟩ := dr_some h
        refine SF_getR 78 fl_X11_123 dX11_field_75 k19.1 r28 rfl ?_
        obtain ⟨k29, h⟩ := gdK_some h
        obtain ⟨k30, h⟩ := gdK_some h
        obtain ⟨v31, g32, q33, h⟩ := bd_some h
        have s34 := w_X0_copyFrom (X := X) (Nat.le_refl 1) b25 b27 g22 g32 v31 k29 k30 q33
        refine SF_callVv 81 mi_X0_copyFrom ml_X11_126 dX11_field_78 (Nat.le_trans (by decide) hd) s34 k29.1 rfl rfl (Nat.le_of_ble_eq_true rfl) rfl ?_
        have k_l0 := k_l0.ext s34.1
        have k9 := k9.ext s34.1
        have k10 := k10.ext s34.1
        have k19 := k19.ext s34.1
        have k29 := k29.ext s34.1
        have k30 := k30.ext s34.1
        refine SF_aload_n 1 82 dX11_field_81 rfl rfl rfl ?_
        obtain ⟨b35, r36, h⟩ := dr_some h
        refine SF_getR 85 fl_X11_102 dX11_field_82 k_l0.1 r36 rfl ?_
        obtain ⟨k37, h⟩ := gdK_some h
        obtain ⟨v38, g39, q40, h⟩ := bd_some h
        have s41 := w_X5_forget (X := X) (Nat.le_refl 0) b35 g32 g39 v38 k37 q40
        refine SF_callVv 88 mi_X5_forget ml_X11_130 dX11_field_85 (Nat.le_trans (by decide) hd) s41 k37.1 rfl rfl (Nat.le_of_ble_eq_true rfl) rfl ?_
        have k_l0 := k_l0.ext s41.1
        have k9 := k9.ext s41.1
        have k10 := k10.ext s41.1
        have k19 := k19.ext s41.1
        have k29 := k29.ext s41.1
        have k30 := k30.ext s41.1
        have k37 := k37.ext s41.1
        refine SF_aload_n 1 89 dX11_field_88 rfl rfl rfl ?_
        obtain ⟨v42, g43, q44, h⟩ := bd_some h
        have s45 := w_X11_forgetWays (X := X) (Nat.le_refl 0) l0 g39 g43 v42 k_l0 q44
        refine SF_callVv 92 mi_X11_forgetWays ml_X11_133 dX11_field_89 (Nat.le_trans (by decide) hd) s45 k_l0.1 rfl rfl (Nat.le_of_ble_eq_true rfl) rfl ?_
        have k_l0 := k_l0.ext s45.1
        have k9 := k9.ext s45.1
        have k10 := k10.ext s45.1
        have k19 := k19.ext s45.1
        have k29 := k29.ext s45.1
        have k30 := k30.ext s45.1
        have k37 := k37.ext s45.1
        refine SF_aload_n 1 93 dX11_field_92 rfl rfl rfl ?_
        obtain ⟨b46, r47, h⟩ := dr_some h
        refine SF_getR 96 fl_X11_78 dX11_field_93 k_l0.1 r47 rfl ?_
        obtain ⟨k48, h⟩ := gdK_some h
        obtain ⟨b49, r50, h⟩ := dr_some h
        refine SF_getR 99 fl_X11_136 dX11_field_96 k48.1 r50 rfl ?_
        obtain ⟨k51, h⟩ := gdK_some h
        refine SF_getI 102 fl_X11_140 dX11_field_99 k51.1 rfl ?_
        exact RT_i rfl dX11_field_102 h
      · have h := ite_t c24 h
        refine SF_bipush (-30 : Int32) 61 dX11_field_59 rfl rfl ?_
        refine SF_aload_n 1 62 dX11_field_61 rfl rfl rfl ?_
        refine SF_getI 65 fl_X11_121 dX11_field_62 k_l0.1 rfl ?_
        refine SF_isub 66 dX11_field_65 rfl ?_
        exact RT_i rfl dX11_field_66 h
    · have h := ite_f c2 h
      refine SF_bipush (-3 : Int32) 14 dX11_field_12 rfl rfl ?_
      exact RT_i rfl dX11_field_14 h

theorem dX12_within_0 : decode cX12_within 0 = .ok (.lload_n 0, 1) := by decide +kernel
theorem dX12_within_1 : decode cX12_within 1 = .ok (.lload_n 2, 1) := by decide +kernel
theorem dX12_within_2 : decode cX12_within 2 = .ok (.lcmp, 1) := by decide +kernel
theorem dX12_within_3 : decode cX12_within 3 = .ok (.ifCond .lt 14, 3) := by decide +kernel
theorem dX12_within_6 : decode cX12_within 6 = .ok (.lload_n 0, 1) := by decide +kernel
theorem dX12_within_7 : decode cX12_within 7 = .ok (.lload 4, 2) := by decide +kernel
theorem dX12_within_9 : decode cX12_within 9 = .ok (.lcmp, 1) := by decide +kernel
theorem dX12_within_10 : decode cX12_within 10 = .ok (.ifCond .gt 7, 3) := by decide +kernel
theorem dX12_within_13 : decode cX12_within 13 = .ok (.iconst 1, 1) := by decide +kernel
theorem dX12_within_14 : decode cX12_within 14 = .ok (.goto 4, 3) := by decide +kernel
theorem dX12_within_17 : decode cX12_within 17 = .ok (.iconst 0, 1) := by decide +kernel
theorem dX12_within_18 : decode cX12_within 18 = .ok (.ireturn, 1) := by decide +kernel
set_option maxRecDepth 20000 in
set_option maxHeartbeats 2000000 in
theorem w_X12_within {X : CX} {d : Nat} (hd : 0 ≤ d) (l0 : Int64) (l2 : Int64) (l4 : Int64) (g g' : G) (rx : Bool) (h : f_X12_within l0 l2 l4 g = some (rx, g')) : Sem X m_X12_within d [.long l0, .long l2, .long l4] g (some (.int (b2i rx))) g' := by
  refine Sem_of (lo := [(0, .long l0), (2, .long l2), (4, .long l4)]) (by decide +kernel) rfl (Nat.le_of_ble_eq_true rfl) ?_
  rw [f_X12_within] at h
  refine SF_lload_n 0 1 dX12_within_0 rfl rfl rfl ?_
  refine SF_lload_n 1 2 dX12_within_1 rfl rfl rfl ?_
  refine SF_lcmp 3 dX12_within_2 rfl ?_
  refine SF_iflt 17 6 dX12_within_3 rfl rfl (fun c1 => ?_) (fun c1 => ?_)
  · have h := ite_t c1 h
    refine SF_iconst (0 : Int32) 18 dX12_within_17 rfl rfl ?_
    exact RT_b rfl rfl dX12_within_18 h
  · have h := ite_f c1 h
    refine SF_lload_n 0 7 dX12_within_6 rfl rfl rfl ?_
    refine SF_lload 2 9 dX12_within_7 rfl rfl ?_
    refine SF_lcmp 10 dX12_within_9 rfl ?_
    refine SF_ifgt 17 13 dX12_within_10 rfl rfl (fun c2 => ?_) (fun c2 => ?_)
    · have h := ite_t c2 h
      refine SF_iconst (0 : Int32) 18 dX12_within_17 rfl rfl ?_
      exact RT_b rfl rfl dX12_within_18 h
    · have h := ite_f c2 h
      refine SF_iconst (1 : Int32) 14 dX12_within_13 rfl rfl ?_
      refine SF_goto 18 dX12_within_14 rfl ?_
      exact RT_b rfl rfl dX12_within_18 h

theorem dX12_takes_0 : decode cX12_takes 0 = .ok (.aload_n 0, 1) := by decide +kernel
theorem dX12_takes_1 : decode cX12_takes 1 = .ok (.bipush 23, 2) := by decide +kernel
theorem dX12_takes_3 : decode cX12_takes 3 = .ok (.invokevirtual 129, 3) := by decide +kernel
theorem dX12_takes_6 : decode cX12_takes 6 = .ok (.ifCond .ne 11, 3) := by decide +kernel
theorem dX12_takes_9 : decode cX12_takes 9 = .ok (.aload_n 0, 1) := by decide +kernel
theorem dX12_takes_10 : decode cX12_takes 10 = .ok (.iconst 2, 1) := by decide +kernel
theorem dX12_takes_11 : decode cX12_takes 11 = .ok (.invokevirtual 135, 3) := by decide +kernel
theorem dX12_takes_14 : decode cX12_takes 14 = .ok (.goto 23, 3) := by decide +kernel
theorem dX12_takes_17 : decode cX12_takes 17 = .ok (.aload_n 0, 1) := by decide +kernel
theorem dX12_takes_18 : decode cX12_takes 18 = .ok (.getfield 118, 3) := by decide +kernel
theorem dX12_takes_21 : decode cX12_takes 21 = .ok (.i2l, 1) := by decide +kernel
theorem dX12_takes_22 : decode cX12_takes 22 = .ok (.iload_n 1, 1) := by decide +kernel
theorem dX12_takes_23 : decode cX12_takes 23 = .ok (.i2l, 1) := by decide +kernel
theorem dX12_takes_24 : decode cX12_takes 24 = .ok (.iload_n 2, 1) := by decide +kernel
theorem dX12_takes_25 : decode cX12_takes 25 = .ok (.i2l, 1) := by decide +kernel
theorem dX12_takes_26 : decode cX12_takes 26 = .ok (.invokestatic 139, 3) := by decide +kernel
theorem dX12_takes_29 : decode cX12_takes 29 = .ok (.ifCond .ne 8, 3) := by decide +kernel
theorem dX12_takes_32 : decode cX12_takes 32 = .ok (.aload_n 0, 1) := by decide +kernel
theorem dX12_takes_33 : decode cX12_takes 33 = .ok (.iconst 3, 1) := by decide +kernel
theorem dX12_takes_34 : decode cX12_takes 34 = .ok (.invokevirtual 135, 3) := by decide +kernel
theorem dX12_takes_37 : decode cX12_takes 37 = .ok (.aload_n 0, 1) := by decide +kernel
theorem dX12_takes_38 : decode cX12_takes 38 = .ok (.getfield 118, 3) := by decide +kernel
theorem dX12_takes_41 : decode cX12_takes 41 = .ok (.istore_n 3, 1) := by decide +kernel
theorem dX12_takes_42 : decode cX12_takes 42 = .ok (.aload_n 0, 1) := by decide +kernel
theorem dX12_takes_43 : decode cX12_takes 43 = .ok (.getfield 123, 3) := by decide +kernel
theorem dX12_takes_46 : decode cX12_takes 46 = .ok (.ifCond .ne 7, 3) := by decide +kernel
theorem dX12_takes_49 : decode cX12_takes 49 = .ok (.aload_n 0, 1) := by decide +kernel
theorem dX12_takes_50 : decode cX12_takes 50 = .ok (.invokevirtual 132, 3) := by decide +kernel
theorem dX12_takes_53 : decode cX12_takes 53 = .ok (.iload_n 3, 1) := by decide +kernel
theorem dX12_takes_54 : decode cX12_takes 54 = .ok (.ireturn, 1) := by decide +kernel
set_option maxRecDepth 20000 in
set_option maxHeartbeats 2000000 in
theorem w_X12_takes_37 {X : CX} {d : Nat} (hd : 6 ≤ d) {g' : G} {rx : Int32} (l0 : Nat) (g : G) (k_l0 : KD g l0 12) (h : f_X12_takes_37 l0 g = some (rx, g')) : SemF X m_X12_takes d 37 [(0, .ref (ad X l0))] [] g (some (.int rx)) g' := by
  rw [f_X12_takes_37] at h
  refine SF_aload_n 0 38 dX12_takes_37 rfl rfl rfl ?_
  refine SF_getI 41 fl_X12_118 dX12_takes_38 k_l0.1 rfl ?_
  obtain ⟨y1, e2, h⟩ := li_some h
  refine SF_eqI e2 ?_
  refine SF_istore_n [(3, .int y1), (0, .ref (ad X l0))] 42 dX12_takes_41 rfl (by decide) rfl rfl ?_
  refine SF_aload_n 1 43 dX12_takes_42 rfl rfl rfl ?_
  refine SF_getI 46 fl_X12_123 dX12_takes_43 k_l0.1 rfl ?_
  refine SF_ifne 53 49 dX12_takes_46 rfl rfl (fun c3 => ?_) (fun c3 => ?_)
  · have h := ite_f c3 h
    refine SF_iload_n 0 54 dX12_takes_53 rfl rfl rfl ?_
    exact RT_i rfl dX12_takes_54 h
  · have h := ite_t c3 h
    refine SF_aload_n 1 50 dX12_takes_49 rfl rfl rfl ?_
    obtain ⟨v4, g5, q6, h⟩ := bd_some h
    have s7 := w_X12_next (X := X) (Nat.le_refl 5) l0 g g5 v4 k_l0 q6
    refine SF_callVv 53 mi_X12_next ml_X12_132 dX12_takes_50 (Nat.le_trans (by decide) hd) s7 k_l0.1 rfl rfl (Nat.le_of_ble_eq_true rfl) rfl ?_
    have k_l0 := k_l0.ext s7.1
    refine SF_iload_n 0 54 dX12_takes_53 rfl rfl rfl ?_
    exact RT_i rfl dX12_takes_54 h

set_option maxRecDepth 20000 in
set_option maxHeartbeats 2000000 in
theorem w_X12_takes {X : CX} {d : Nat} (hd : 6 ≤ d) (l0 : Nat) (l1 : Int32) (l2 : Int32) (g g' : G) (rx : Int32) (k_l0 : KD g l0 12) (h : f_X12_takes l0 l1 l2 g = some (rx, g')) : Sem X m_X12_takes d [.ref (ad X l0), .int l1, .int l2] g (some (.int rx)) g' := by
  refine Sem_of (lo := [(0, .ref (ad X l0)), (1, .int l1), (2, .int l2)]) (by decide +kernel) rfl (Nat.le_of_ble_eq_true rfl) ?_
  rw [f_X12_takes] at h
  refine SF_aload_n 0 1 dX12_takes_0 rfl rfl rfl ?_
  refine SF_bipush (23 : Int32) 3 dX12_takes_1 rfl rfl ?_
  obtain ⟨v1, g2, q3, h⟩ := bd_some h
  have s4 := w_X12_is (X := X) (Nat.le_refl 0) l0 (23 : Int32) g g2 v1 k_l0 q3
  refine SF_callVb 6 mi_X12_is ml_X12_129 dX12_takes_3 (Nat.le_trans (by decide) hd) s4 k_l0.1 rfl rfl (Nat.le_of_ble_eq_true rfl) rfl ?_
  have k_l0 := k_l0.ext s4.1
  refine SF_ifne 17 9 dX12_takes_6 rfl rfl (fun c5 => ?_) (fun c5 => ?_)
  · have h := ite_f c5 h
    refine SF_aload_n 0 18 dX12_takes_17 rfl rfl rfl ?_
    refine SF_getI 21 fl_X12_118 dX12_takes_18 k_l0.1 rfl ?_
    refine SF_i2l 22 dX12_takes_21 rfl ?_
    refine SF_iload_n 1 23 dX12_takes_22 rfl rfl rfl ?_
    refine SF_i2l 24 dX12_takes_23 rfl ?_
    refine SF_iload_n 2 25 dX12_takes_24 rfl rfl rfl ?_
    refine SF_i2l 26 dX12_takes_25 rfl ?_
    obtain ⟨v6, g7, q8, h⟩ := bd_some h
    have s9 := w_X12_within (X := X) (Nat.le_refl 0) ((gI g2 l0 10).toInt64) (l1.toInt64) (l2.toInt64) g2 g7 v6 q8
    refine SF_callSb 29 mi_X12_within ml_X12_139 dX12_takes_26 (Nat.le_trans (by decide) hd) s9 rfl rfl (Nat.le_of_ble_eq_true rfl) rfl ?_
    have k_l0 := k_l0.ext s9.1
    refine SF_ifne 37 32 dX12_takes_29 rfl rfl (fun c10 => ?_) (fun c10 => ?_)
    · have h := ite_f c10 h
      refine SF_sub [0] rfl ?_
      exact w_X12_takes_37 hd l0 g7 k_l0 h
    · have h := ite_t c10 h
      refine SF_aload_n 0 33 dX12_takes_32 rfl rfl rfl ?_
      refine SF_iconst (3 : Int32) 34 dX12_takes_33 rfl rfl ?_
      obtain ⟨v11, g12, q13, h⟩ := bd_some h
      have s14 := w_X12_fails (X := X) (Nat.le_refl 0) l0 (3 : Int32) g7 g12 v11 k_l0 q13
      refine SF_callVv 37 mi_X12_fails ml_X12_135 dX12_takes_34 (Nat.le_trans (by decide) hd) s14 k_l0.1 rfl rfl (Nat.le_of_ble_eq_true rfl) rfl ?_
      have k_l0 := k_l0.ext s14.1
      refine SF_sub [0] rfl ?_
      exact w_X12_takes_37 hd l0 g12 k_l0 h
  · have h := ite_t c5 h
    refine SF_aload_n 0 10 dX12_takes_9 rfl rfl rfl ?_
    refine SF_iconst (2 : Int32) 11 dX12_takes_10 rfl rfl ?_
    obtain ⟨v15, g16, q17, h⟩ := bd_some h
    have s18 := w_X12_fails (X := X) (Nat.le_refl 0) l0 (2 : Int32) g2 g16 v15 k_l0 q17
    refine SF_callVv 14 mi_X12_fails ml_X12_135 dX12_takes_11 (Nat.le_trans (by decide) hd) s18 k_l0.1 rfl rfl (Nat.le_of_ble_eq_true rfl) rfl ?_
    have k_l0 := k_l0.ext s18.1
    refine SF_goto 37 dX12_takes_14 rfl ?_
    refine SF_sub [0] rfl ?_
    exact w_X12_takes_37 hd l0 g16 k_l0 h

theorem dX12_ends_0 : decode cX12_ends 0 = .ok (.aload_n 0, 1) := by decide +kernel
theorem dX12_ends_1 : decode cX12_ends 1 = .ok (.bipush 30, 2) := by decide +kernel
theorem dX12_ends_3 : decode cX12_ends 3 = .ok (.invokevirtual 155, 3) := by decide +kernel
theorem dX12_ends_6 : decode cX12_ends 6 = .ok (.ifCond .ne 8, 3) := by decide +kernel
theorem dX12_ends_9 : decode cX12_ends 9 = .ok (.aload_n 0, 1) := by decide +kernel
theorem dX12_ends_10 : decode cX12_ends 10 = .ok (.iconst 2, 1) := by decide +kernel
theorem dX12_ends_11 : decode cX12_ends 11 = .ok (.invokevirtual 135, 3) := by decide +kernel
theorem dX12_ends_14 : decode cX12_ends 14 = .ok (.aload_n 0, 1) := by decide +kernel
theorem dX12_ends_15 : decode cX12_ends 15 = .ok (.getfield 24, 3) := by decide +kernel
theorem dX12_ends_18 : decode cX12_ends 18 = .ok (.iconst 0, 1) := by decide +kernel
theorem dX12_ends_19 : decode cX12_ends 19 = .ok (.dup2, 1) := by decide +kernel
theorem dX12_ends_20 : decode cX12_ends 20 = .ok (.iaload, 1) := by decide +kernel
theorem dX12_ends_21 : decode cX12_ends 21 = .ok (.iconst 1, 1) := by decide +kernel
theorem dX12_ends_22 : decode cX12_ends 22 = .ok (.iadd, 1) := by decide +kernel
theorem dX12_ends_23 : decode cX12_ends 23 = .ok (.iastore, 1) := by decide +kernel
theorem dX12_ends_24 : decode cX12_ends 24 = .ok (.return_, 1) := by decide +kernel
set_option maxRecDepth 20000 in
set_option maxHeartbeats 2000000 in
theorem w_X12_ends_14 {X : CX} {d : Nat} (hd : 7 ≤ d) {g' : G} {rx : Unit} (l0 : Nat) (g : G) (k_l0 : KD g l0 12) (h : f_X12_ends_14 l0 g = some (rx, g')) : SemF X m_X12_ends d 14 [(0, .ref (ad X l0))] [] g none g' := by
  rw [f_X12_ends_14] at h
  refine SF_aload_n 0 15 dX12_ends_14 rfl rfl rfl ?_
  obtain ⟨b1, r2, h⟩ := dr_some h
  refine SF_getR 18 fl_X12_24 dX12_ends_15 k_l0.1 r2 rfl ?_
  refine SF_iconst (0 : Int32) 19 dX12_ends_18 rfl rfl ?_
  refine SF_dup2_11 20 dX12_ends_19 rfl rfl rfl ?_
  obtain ⟨k3, h⟩ := gdK_some h
  obtain ⟨i4, h⟩ := gdI_some h
  refine SF_iald 21 dX12_ends_20 k3.1 i4 rfl ?_
  refine SF_iconst (1 : Int32) 22 dX12_ends_21 rfl rfl ?_
  refine SF_iadd 23 dX12_ends_22 rfl ?_
  refine SF_iast 24 dX12_ends_23 k3.1 i4 rfl ?_
  obtain ⟨g5, e6, h⟩ := lg_some h
  rw [← e6]
  have k_l0 := KD.eq e6 k_l0
  have k3 := KD.eq e6 k3
  have r2 := gR_eq e6 r2
  have i4 := vp_eq e6 i4
  exact RT_v rfl dX12_ends_24 h

set_option maxRecDepth 20000 in
set_option maxHeartbeats 2000000 in
theorem w_X12_ends {X : CX} {d : Nat} (hd : 7 ≤ d) (l0 : Nat) (g g' : G) (rx : Unit) (k_l0 : KD g l0 12) (h : f_X12_ends l0 g = some (rx, g')) : Sem X m_X12_ends d [.ref (ad X l0)] g none g' := by
  refine Sem_of (lo := [(0, .ref (ad X l0))]) (by decide +kernel) rfl (Nat.le_of_ble_eq_true rfl) ?_
  rw [f_X12_ends] at h
  refine SF_aload_n 0 1 dX12_ends_0 rfl rfl rfl ?_
  refine SF_bipush (30 : Int32) 3 dX12_ends_1 rfl rfl ?_
  obtain ⟨v1, g2, q3, h⟩ := bd_some h
  have s4 := w_X12_eats (X := X) (Nat.le_refl 6) l0 (30 : Int32) g g2 v1 k_l0 q3
  refine SF_callVb 6 mi_X12_eats ml_X12_155 dX12_ends_3 (Nat.le_trans (by decide) hd) s4 k_l0.1 rfl rfl (Nat.le_of_ble_eq_true rfl) rfl ?_
  have k_l0 := k_l0.ext s4.1
  refine SF_ifne 14 9 dX12_ends_6 rfl rfl (fun c5 => ?_) (fun c5 => ?_)
  · have h := ite_f c5 h
    exact w_X12_ends_14 hd l0 g2 k_l0 h
  · have h := ite_t c5 h
    refine SF_aload_n 0 10 dX12_ends_9 rfl rfl rfl ?_
    refine SF_iconst (2 : Int32) 11 dX12_ends_10 rfl rfl ?_
    obtain ⟨v6, g7, q8, h⟩ := bd_some h
    have s9 := w_X12_fails (X := X) (Nat.le_refl 0) l0 (2 : Int32) g2 g7 v6 k_l0 q8
    refine SF_callVv 14 mi_X12_fails ml_X12_135 dX12_ends_11 (Nat.le_trans (by decide) hd) s9 k_l0.1 rfl rfl (Nat.le_of_ble_eq_true rfl) rfl ?_
    have k_l0 := k_l0.ext s9.1
    exact w_X12_ends_14 hd l0 g7 k_l0 h

theorem dX12_readRow_0 : decode cX12_readRow 0 = .ok (.aload_n 0, 1) := by decide +kernel
theorem dX12_readRow_1 : decode cX12_readRow 1 = .ok (.getfield 24, 3) := by decide +kernel
theorem dX12_readRow_4 : decode cX12_readRow 4 = .ok (.iconst 3, 1) := by decide +kernel
theorem dX12_readRow_5 : decode cX12_readRow 5 = .ok (.iaload, 1) := by decide +kernel
theorem dX12_readRow_6 : decode cX12_readRow 6 = .ok (.ifCond .le 8, 3) := by decide +kernel
theorem dX12_readRow_9 : decode cX12_readRow 9 = .ok (.aload_n 0, 1) := by decide +kernel
theorem dX12_readRow_10 : decode cX12_readRow 10 = .ok (.iconst 2, 1) := by decide +kernel
theorem dX12_readRow_11 : decode cX12_readRow 11 = .ok (.invokevirtual 135, 3) := by decide +kernel
theorem dX12_readRow_14 : decode cX12_readRow 14 = .ok (.aload_n 0, 1) := by decide +kernel
theorem dX12_readRow_15 : decode cX12_readRow 15 = .ok (.getfield 123, 3) := by decide +kernel
theorem dX12_readRow_18 : decode cX12_readRow 18 = .ok (.ifCond .eq 4, 3) := by decide +kernel
theorem dX12_readRow_21 : decode cX12_readRow 21 = .ok (.return_, 1) := by decide +kernel
theorem dX12_readRow_22 : decode cX12_readRow 22 = .ok (.aload_n 0, 1) := by decide +kernel
theorem dX12_readRow_23 : decode cX12_readRow 23 = .ok (.invokevirtual 132, 3) := by decide +kernel
theorem dX12_readRow_26 : decode cX12_readRow 26 = .ok (.aload_n 0, 1) := by decide +kernel
theorem dX12_readRow_27 : decode cX12_readRow 27 = .ok (.iconst 0, 1) := by decide +kernel
theorem dX12_readRow_28 : decode cX12_readRow 28 = .ok (.aload_n 0, 1) := by decide +kernel
theorem dX12_readRow_29 : decode cX12_readRow 29 = .ok (.getfield 24, 3) := by decide +kernel
theorem dX12_readRow_32 : decode cX12_readRow 32 = .ok (.iconst 1, 1) := by decide +kernel
theorem dX12_readRow_33 : decode cX12_readRow 33 = .ok (.iaload, 1) := by decide +kernel
theorem dX12_readRow_34 : decode cX12_readRow 34 = .ok (.iconst 1, 1) := by decide +kernel
theorem dX12_readRow_35 : decode cX12_readRow 35 = .ok (.isub, 1) := by decide +kernel
theorem dX12_readRow_36 : decode cX12_readRow 36 = .ok (.invokevirtual 173, 3) := by decide +kernel
theorem dX12_readRow_39 : decode cX12_readRow 39 = .ok (.istore_n 1, 1) := by decide +kernel
theorem dX12_readRow_40 : decode cX12_readRow 40 = .ok (.iconst 0, 1) := by decide +kernel
theorem dX12_readRow_41 : decode cX12_readRow 41 = .ok (.istore_n 2, 1) := by decide +kernel
theorem dX12_readRow_42 : decode cX12_readRow 42 = .ok (.iload_n 2, 1) := by decide +kernel
theorem dX12_readRow_43 : decode cX12_readRow 43 = .ok (.aload_n 0, 1) := by decide +kernel
theorem dX12_readRow_44 : decode cX12_readRow 44 = .ok (.getfield 24, 3) := by decide +kernel
theorem dX12_readRow_47 : decode cX12_readRow 47 = .ok (.iconst 2, 1) := by decide +kernel
theorem dX12_readRow_48 : decode cX12_readRow 48 = .ok (.iaload, 1) := by decide +kernel
theorem dX12_readRow_49 : decode cX12_readRow 49 = .ok (.if_icmp .ge 41, 3) := by decide +kernel
theorem dX12_readRow_52 : decode cX12_readRow 52 = .ok (.aload_n 0, 1) := by decide +kernel
theorem dX12_readRow_53 : decode cX12_readRow 53 = .ok (.getfield 123, 3) := by decide +kernel
theorem dX12_readRow_56 : decode cX12_readRow 56 = .ok (.ifCond .ne 34, 3) := by decide +kernel
theorem dX12_readRow_59 : decode cX12_readRow 59 = .ok (.aload_n 0, 1) := by decide +kernel
theorem dX12_readRow_60 : decode cX12_readRow 60 = .ok (.getfield 24, 3) := by decide +kernel
theorem dX12_readRow_63 : decode cX12_readRow 63 = .ok (.bipush 10, 2) := by decide +kernel
theorem dX12_readRow_65 : decode cX12_readRow 65 = .ok (.aload_n 0, 1) := by decide +kernel
theorem dX12_readRow_66 : decode cX12_readRow 66 = .ok (.getfield 24, 3) := by decide +kernel
theorem dX12_readRow_69 : decode cX12_readRow 69 = .ok (.iconst 2, 1) := by decide +kernel
theorem dX12_readRow_70 : decode cX12_readRow 70 = .ok (.iaload, 1) := by decide +kernel
theorem dX12_readRow_71 : decode cX12_readRow 71 = .ok (.iload_n 1, 1) := by decide +kernel
theorem dX12_readRow_72 : decode cX12_readRow 72 = .ok (.imul, 1) := by decide +kernel
theorem dX12_readRow_73 : decode cX12_readRow 73 = .ok (.iadd, 1) := by decide +kernel
theorem dX12_readRow_74 : decode cX12_readRow 74 = .ok (.iload_n 2, 1) := by decide +kernel
theorem dX12_readRow_75 : decode cX12_readRow 75 = .ok (.iadd, 1) := by decide +kernel
theorem dX12_readRow_76 : decode cX12_readRow 76 = .ok (.aload_n 0, 1) := by decide +kernel
theorem dX12_readRow_77 : decode cX12_readRow 77 = .ok (.iconst 0, 1) := by decide +kernel
theorem dX12_readRow_78 : decode cX12_readRow 78 = .ok (.bipush 9, 2) := by decide +kernel
theorem dX12_readRow_80 : decode cX12_readRow 80 = .ok (.invokevirtual 173, 3) := by decide +kernel
theorem dX12_readRow_83 : decode cX12_readRow 83 = .ok (.iastore, 1) := by decide +kernel
theorem dX12_readRow_84 : decode cX12_readRow 84 = .ok (.iinc 2 1, 3) := by decide +kernel
theorem dX12_readRow_87 : decode cX12_readRow 87 = .ok (.goto (-45), 3) := by decide +kernel
theorem dX12_readRow_90 : decode cX12_readRow 90 = .ok (.return_, 1) := by decide +kernel
set_option maxRecDepth 20000 in
set_option maxHeartbeats 2000000 in
theorem w_X12_readRow_42 {X : CX} {d : Nat} (hd : 7 ≤ d) {g' : G} {rx : Unit} : ∀ (n : Nat) (l0 : Nat) (l1 : Int32) (l2 : Int32) (g : G), KD g l0 12 → f_X12_readRow_42 n l0 l1 l2 g = some (rx, g') → SemF X m_X12_readRow d 42 [(0, .ref (ad X l0)), (1, .int l1), (2, .int l2)] [] g none g' := by
  intro n
  induction n with
  | zero =>
    intro l0 l1 l2 g k_l0 h
    rw [f_X12_readRow_42] at h
    cases h
  | succ n ih =>
  intro l0 l1 l2 g k_l0 h
  rw [f_X12_readRow_42] at h
  refine SF_iload_n 2 43 dX12_readRow_42 rfl rfl rfl ?_
  refine SF_aload_n 0 44 dX12_readRow_43 rfl rfl rfl ?_
  obtain ⟨b1, r2, h⟩ := dr_some h
  refine SF_getR 47 fl_X12_24 dX12_readRow_44 k_l0.1 r2 rfl ?_
  refine SF_iconst (2 : Int32) 48 dX12_readRow_47 rfl rfl ?_
  obtain ⟨k3, h⟩ := gdK_some h
  obtain ⟨i4, h⟩ := gdI_some h
  refine SF_iald 49 dX12_readRow_48 k3.1 i4 rfl ?_
  refine SF_icge 90 52 dX12_readRow_49 rfl rfl (fun c5 => ?_) (fun c5 => ?_)
  · have h := ite_t c5 h
    exact RT_v rfl dX12_readRow_90 h
  · have h := ite_f c5 h
    refine SF_aload_n 0 53 dX12_readRow_52 rfl rfl rfl ?_
    refine SF_getI 56 fl_X12_123 dX12_readRow_53 k_l0.1 rfl ?_
    refine SF_ifne 90 59 dX12_readRow_56 rfl rfl (fun c6 => ?_) (fun c6 => ?_)
    · have h := ite_f c6 h
      exact RT_v rfl dX12_readRow_90 h
    · have h := ite_t c6 h
      refine SF_aload_n 0 60 dX12_readRow_59 rfl rfl rfl ?_
      refine SF_getR 63 fl_X12_24 dX12_readRow_60 k_l0.1 r2 rfl ?_
      refine SF_bipush (10 : Int32) 65 dX12_readRow_63 rfl rfl ?_
      refine SF_aload_n 0 66 dX12_readRow_65 rfl rfl rfl ?_
      refine SF_getR 69 fl_X12_24 dX12_readRow_66 k_l0.1 r2 rfl ?_
      refine SF_iconst (2 : Int32) 70 dX12_readRow_69 rfl rfl ?_
      refine SF_iald 71 dX12_readRow_70 k3.1 i4 rfl ?_
      refine SF_iload_n 1 72 dX12_readRow_71 rfl rfl rfl ?_
      refine SF_imul 73 dX12_readRow_72 rfl ?_
      refine SF_iadd 74 dX12_readRow_73 rfl ?_
      refine SF_iload_n 2 75 dX12_readRow_74 rfl rfl rfl ?_
      refine SF_iadd 76 dX12_readRow_75 rfl ?_
      refine SF_aload_n 0 77 dX12_readRow_76 rfl rfl rfl ?_
      refine SF_iconst (0 : Int32) 78 dX12_readRow_77 rfl rfl ?_
      refine SF_bipush (9 : Int32) 80 dX12_readRow_78 rfl rfl ?_
      obtain ⟨v7, g8, q9, h⟩ := bd_some h
      have s10 := w_X12_takes (X := X) (Nat.le_refl 6) l0 (0 : Int32) (9 : Int32) g g8 v7 k_l0 q9
      refine SF_callVi 83 mi_X12_takes ml_X12_173 dX12_readRow_80 (Nat.le_trans (by decide) hd) s10 k_l0.1 rfl rfl (Nat.le_of_ble_eq_true rfl) rfl ?_
      have k_l0 := k_l0.ext s10.1
      have k3 := k3.ext s10.1
      obtain ⟨i11, h⟩ := gdI_some h
      refine SF_iast 84 dX12_readRow_83 k3.1 i11 rfl ?_
      obtain ⟨g12, e13, h⟩ := lg_some h
      rw [← e13]
      have k_l0 := KD.eq e13 k_l0
      have k3 := KD.eq e13 k3
      have i11 := vp_eq e13 i11
      refine SF_iinc 2 (l2 + (1 : Int32)) [(2, .int (l2 + (1 : Int32))), (0, .ref (ad X l0)), (1, .int l1)] 87 dX12_readRow_84 rfl rfl (by decide) rfl rfl ?_
      refine SF_goto 42 dX12_readRow_87 rfl ?_
      refine SF_sub [1, 2, 0] rfl ?_
      exact ih l0 l1 (l2 + (1 : Int32)) g12 k_l0 h

set_option maxRecDepth 20000 in
set_option maxHeartbeats 2000000 in
theorem w_X12_readRow_14 {X : CX} {d : Nat} (hd : 7 ≤ d) {g' : G} {rx : Unit} (l0 : Nat) (g : G) (k_l0 : KD g l0 12) (h : f_X12_readRow_14 l0 g = some (rx, g')) : SemF X m_X12_readRow d 14 [(0, .ref (ad X l0))] [] g none g' := by
  rw [f_X12_readRow_14] at h
  refine SF_aload_n 0 15 dX12_readRow_14 rfl rfl rfl ?_
  refine SF_getI 18 fl_X12_123 dX12_readRow_15 k_l0.1 rfl ?_
  refine SF_ifeq 22 21 dX12_readRow_18 rfl rfl (fun c1 => ?_) (fun c1 => ?_)
  · have h := ite_t c1 h
    refine SF_aload_n 0 23 dX12_readRow_22 rfl rfl rfl ?_
    obtain ⟨v2, g3, q4, h⟩ := bd_some h
    have s5 := w_X12_next (X := X) (Nat.le_refl 5) l0 g g3 v2 k_l0 q4
    refine SF_callVv 26 mi_X12_next ml_X12_132 dX12_readRow_23 (Nat.le_trans (by decide) hd) s5 k_l0.1 rfl rfl (Nat.le_of_ble_eq_true rfl) rfl ?_
    have k_l0 := k_l0.ext s5.1
    refine SF_aload_n 0 27 dX12_readRow_26 rfl rfl rfl ?_
    refine SF_iconst (0 : Int32) 28 dX12_readRow_27 rfl rfl ?_
    refine SF_aload_n 0 29 dX12_readRow_28 rfl rfl rfl ?_
    obtain ⟨b6, r7, h⟩ := dr_some h
    refine SF_getR 32 fl_X12_24 dX12_readRow_29 k_l0.1 r7 rfl ?_
    refine SF_iconst (1 : Int32) 33 dX12_readRow_32 rfl rfl ?_
    obtain ⟨k8, h⟩ := gdK_some h
    obtain ⟨i9, h⟩ := gdI_some h
    refine SF_iald 34 dX12_readRow_33 k8.1 i9 rfl ?_
    refine SF_iconst (1 : Int32) 35 dX12_readRow_34 rfl rfl ?_
    refine SF_isub 36 dX12_readRow_35 rfl ?_
    obtain ⟨v10, g11, q12, h⟩ := bd_some h
    have s13 := w_X12_takes (X := X) (Nat.le_refl 6) l0 (0 : Int32) ((gI g3 b6 (1 : Int32).toNatClampNeg) - (1 : Int32)) g3 g11 v10 k_l0 q12
    refine SF_callVi 39 mi_X12_takes ml_X12_173 dX12_readRow_36 (Nat.le_trans (by decide) hd) s13 k_l0.1 rfl rfl (Nat.le_of_ble_eq_true rfl) rfl ?_
    have k_l0 := k_l0.ext s13.1
    have k8 := k8.ext s13.1
    refine SF_istore_n [(1, .int v10), (0, .ref (ad X l0))] 40 dX12_readRow_39 rfl (by decide) rfl rfl ?_
    refine SF_iconst (0 : Int32) 41 dX12_readRow_40 rfl rfl ?_
    refine SF_istore_n [(2, .int (0 : Int32)), (1, .int v10), (0, .ref (ad X l0))] 42 dX12_readRow_41 rfl (by decide) rfl rfl ?_
    refine SF_sub [2, 1, 0] rfl ?_
    exact w_X12_readRow_42 hd FU l0 v10 (0 : Int32) g11 k_l0 h
  · have h := ite_f c1 h
    exact RT_v rfl dX12_readRow_21 h

set_option maxRecDepth 20000 in
set_option maxHeartbeats 2000000 in
theorem w_X12_readRow {X : CX} {d : Nat} (hd : 7 ≤ d) (l0 : Nat) (g g' : G) (rx : Unit) (k_l0 : KD g l0 12) (h : f_X12_readRow l0 g = some (rx, g')) : Sem X m_X12_readRow d [.ref (ad X l0)] g none g' := by
  refine Sem_of (lo := [(0, .ref (ad X l0))]) (by decide +kernel) rfl (Nat.le_of_ble_eq_true rfl) ?_
  rw [f_X12_readRow] at h
  refine SF_aload_n 0 1 dX12_readRow_0 rfl rfl rfl ?_
  obtain ⟨b1, r2, h⟩ := dr_some h
  refine SF_getR 4 fl_X12_24 dX12_readRow_1 k_l0.1 r2 rfl ?_
  refine SF_iconst (3 : Int32) 5 dX12_readRow_4 rfl rfl ?_
  obtain ⟨k3, h⟩ := gdK_some h
  obtain ⟨i4, h⟩ := gdI_some h
  refine SF_iald 6 dX12_readRow_5 k3.1 i4 rfl ?_
  refine SF_ifle 14 9 dX12_readRow_6 rfl rfl (fun c5 => ?_) (fun c5 => ?_)
  · have h := ite_t c5 h
    exact w_X12_readRow_14 hd l0 g k_l0 h
  · have h := ite_f c5 h
    refine SF_aload_n 0 10 dX12_readRow_9 rfl rfl rfl ?_
    refine SF_iconst (2 : Int32) 11 dX12_readRow_10 rfl rfl ?_
    obtain ⟨v6, g7, q8, h⟩ := bd_some h
    have s9 := w_X12_fails (X := X) (Nat.le_refl 0) l0 (2 : Int32) g g7 v6 k_l0 q8
    refine SF_callVv 14 mi_X12_fails ml_X12_135 dX12_readRow_11 (Nat.le_trans (by decide) hd) s9 k_l0.1 rfl rfl (Nat.le_of_ble_eq_true rfl) rfl ?_
    have k_l0 := k_l0.ext s9.1
    have k3 := k3.ext s9.1
    exact w_X12_readRow_14 hd l0 g7 k_l0 h

