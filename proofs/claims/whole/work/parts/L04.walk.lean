theorem dX12_isTaken_0 : decode cX12_isTaken 0 = .ok (.aload_n 0, 1) := by decide +kernel
theorem dX12_isTaken_1 : decode cX12_isTaken 1 = .ok (.getfield 24, 3) := by decide +kernel
theorem dX12_isTaken_4 : decode cX12_isTaken 4 = .ok (.bipush 10, 2) := by decide +kernel
theorem dX12_isTaken_6 : decode cX12_isTaken 6 = .ok (.iload_n 1, 1) := by decide +kernel
theorem dX12_isTaken_7 : decode cX12_isTaken 7 = .ok (.iadd, 1) := by decide +kernel
theorem dX12_isTaken_8 : decode cX12_isTaken 8 = .ok (.iaload, 1) := by decide +kernel
theorem dX12_isTaken_9 : decode cX12_isTaken 9 = .ok (.bipush 9, 2) := by decide +kernel
theorem dX12_isTaken_11 : decode cX12_isTaken 11 = .ok (.if_icmp .ne 5, 3) := by decide +kernel
theorem dX12_isTaken_14 : decode cX12_isTaken 14 = .ok (.iconst 1, 1) := by decide +kernel
theorem dX12_isTaken_15 : decode cX12_isTaken 15 = .ok (.ireturn, 1) := by decide +kernel
theorem dX12_isTaken_16 : decode cX12_isTaken 16 = .ok (.iconst 0, 1) := by decide +kernel
theorem dX12_isTaken_17 : decode cX12_isTaken 17 = .ok (.istore_n 2, 1) := by decide +kernel
theorem dX12_isTaken_18 : decode cX12_isTaken 18 = .ok (.iload_n 2, 1) := by decide +kernel
theorem dX12_isTaken_19 : decode cX12_isTaken 19 = .ok (.iconst 2, 1) := by decide +kernel
theorem dX12_isTaken_20 : decode cX12_isTaken 20 = .ok (.aload_n 0, 1) := by decide +kernel
theorem dX12_isTaken_21 : decode cX12_isTaken 21 = .ok (.getfield 24, 3) := by decide +kernel
theorem dX12_isTaken_24 : decode cX12_isTaken 24 = .ok (.iconst 3, 1) := by decide +kernel
theorem dX12_isTaken_25 : decode cX12_isTaken 25 = .ok (.iaload, 1) := by decide +kernel
theorem dX12_isTaken_26 : decode cX12_isTaken 26 = .ok (.imul, 1) := by decide +kernel
theorem dX12_isTaken_27 : decode cX12_isTaken 27 = .ok (.if_icmp .ge 24, 3) := by decide +kernel
theorem dX12_isTaken_30 : decode cX12_isTaken 30 = .ok (.aload_n 0, 1) := by decide +kernel
theorem dX12_isTaken_31 : decode cX12_isTaken 31 = .ok (.getfield 24, 3) := by decide +kernel
theorem dX12_isTaken_34 : decode cX12_isTaken 34 = .ok (.bipush 88, 2) := by decide +kernel
theorem dX12_isTaken_36 : decode cX12_isTaken 36 = .ok (.iload_n 2, 1) := by decide +kernel
theorem dX12_isTaken_37 : decode cX12_isTaken 37 = .ok (.iadd, 1) := by decide +kernel
theorem dX12_isTaken_38 : decode cX12_isTaken 38 = .ok (.iaload, 1) := by decide +kernel
theorem dX12_isTaken_39 : decode cX12_isTaken 39 = .ok (.iload_n 1, 1) := by decide +kernel
theorem dX12_isTaken_40 : decode cX12_isTaken 40 = .ok (.if_icmp .ne 5, 3) := by decide +kernel
theorem dX12_isTaken_43 : decode cX12_isTaken 43 = .ok (.iconst 1, 1) := by decide +kernel
theorem dX12_isTaken_44 : decode cX12_isTaken 44 = .ok (.ireturn, 1) := by decide +kernel
theorem dX12_isTaken_45 : decode cX12_isTaken 45 = .ok (.iinc 2 1, 3) := by decide +kernel
theorem dX12_isTaken_48 : decode cX12_isTaken 48 = .ok (.goto (-30), 3) := by decide +kernel
theorem dX12_isTaken_51 : decode cX12_isTaken 51 = .ok (.iconst 0, 1) := by decide +kernel
theorem dX12_isTaken_52 : decode cX12_isTaken 52 = .ok (.ireturn, 1) := by decide +kernel
set_option maxRecDepth 20000 in
set_option maxHeartbeats 2000000 in
theorem w_X12_isTaken_18 {X : CX} {d : Nat} (hd : 0 ≤ d) {g' : G} {rx : Bool} : ∀ (n : Nat) (l0 : Nat) (l1 : Int32) (l2 : Int32) (g : G), KD g l0 12 → f_X12_isTaken_18 n l0 l1 l2 g = some (rx, g') → SemF X m_X12_isTaken d 18 [(0, .ref (ad X l0)), (1, .int l1), (2, .int l2)] [] g (some (.int (b2i rx))) g' := by
  intro n
  induction n with
  | zero =>
    intro l0 l1 l2 g k_l0 h
    rw [f_X12_isTaken_18] at h
    cases h
  | succ n ih =>
  intro l0 l1 l2 g k_l0 h
  rw [f_X12_isTaken_18] at h
  refine SF_iload_n 2 19 dX12_isTaken_18 rfl rfl rfl ?_
  refine SF_iconst (2 : Int32) 20 dX12_isTaken_19 rfl rfl ?_
  refine SF_aload_n 0 21 dX12_isTaken_20 rfl rfl rfl ?_
  obtain ⟨b1, r2, h⟩ := dr_some h
  refine SF_getR 24 fl_X12_24 dX12_isTaken_21 k_l0.1 r2 rfl ?_
  refine SF_iconst (3 : Int32) 25 dX12_isTaken_24 rfl rfl ?_
  obtain ⟨k3, h⟩ := gdK_some h
  obtain ⟨i4, h⟩ := gdI_some h
  refine SF_iald 26 dX12_isTaken_25 k3.1 i4 rfl ?_
  refine SF_imul 27 dX12_isTaken_26 rfl ?_
  refine SF_icge 51 30 dX12_isTaken_27 rfl rfl (fun c5 => ?_) (fun c5 => ?_)
  · have h := ite_t c5 h
    refine SF_iconst (0 : Int32) 52 dX12_isTaken_51 rfl rfl ?_
    exact RT_b rfl rfl dX12_isTaken_52 h
  · have h := ite_f c5 h
    refine SF_aload_n 0 31 dX12_isTaken_30 rfl rfl rfl ?_
    refine SF_getR 34 fl_X12_24 dX12_isTaken_31 k_l0.1 r2 rfl ?_
    refine SF_bipush (88 : Int32) 36 dX12_isTaken_34 rfl rfl ?_
    refine SF_iload_n 2 37 dX12_isTaken_36 rfl rfl rfl ?_
    refine SF_iadd 38 dX12_isTaken_37 rfl ?_
    obtain ⟨i6, h⟩ := gdI_some h
    refine SF_iald 39 dX12_isTaken_38 k3.1 i6 rfl ?_
    refine SF_iload_n 1 40 dX12_isTaken_39 rfl rfl rfl ?_
    refine SF_icne 45 43 dX12_isTaken_40 rfl rfl (fun c7 => ?_) (fun c7 => ?_)
    · have h := ite_f c7 h
      refine SF_iinc 2 (l2 + (1 : Int32)) [(2, .int (l2 + (1 : Int32))), (0, .ref (ad X l0)), (1, .int l1)] 48 dX12_isTaken_45 rfl rfl (by decide) rfl rfl ?_
      refine SF_goto 18 dX12_isTaken_48 rfl ?_
      refine SF_sub [1, 2, 0] rfl ?_
      exact ih l0 l1 (l2 + (1 : Int32)) g k_l0 h
    · have h := ite_t c7 h
      refine SF_iconst (1 : Int32) 44 dX12_isTaken_43 rfl rfl ?_
      exact RT_b rfl rfl dX12_isTaken_44 h

set_option maxRecDepth 20000 in
set_option maxHeartbeats 2000000 in
theorem w_X12_isTaken {X : CX} {d : Nat} (hd : 0 ≤ d) (l0 : Nat) (l1 : Int32) (g g' : G) (rx : Bool) (k_l0 : KD g l0 12) (h : f_X12_isTaken l0 l1 g = some (rx, g')) : Sem X m_X12_isTaken d [.ref (ad X l0), .int l1] g (some (.int (b2i rx))) g' := by
  refine Sem_of (lo := [(0, .ref (ad X l0)), (1, .int l1)]) (by decide +kernel) rfl (Nat.le_of_ble_eq_true rfl) ?_
  rw [f_X12_isTaken] at h
  refine SF_aload_n 0 1 dX12_isTaken_0 rfl rfl rfl ?_
  obtain ⟨b1, r2, h⟩ := dr_some h
  refine SF_getR 4 fl_X12_24 dX12_isTaken_1 k_l0.1 r2 rfl ?_
  refine SF_bipush (10 : Int32) 6 dX12_isTaken_4 rfl rfl ?_
  refine SF_iload_n 1 7 dX12_isTaken_6 rfl rfl rfl ?_
  refine SF_iadd 8 dX12_isTaken_7 rfl ?_
  obtain ⟨k3, h⟩ := gdK_some h
  obtain ⟨i4, h⟩ := gdI_some h
  refine SF_iald 9 dX12_isTaken_8 k3.1 i4 rfl ?_
  refine SF_bipush (9 : Int32) 11 dX12_isTaken_9 rfl rfl ?_
  refine SF_icne 16 14 dX12_isTaken_11 rfl rfl (fun c5 => ?_) (fun c5 => ?_)
  · have h := ite_f c5 h
    refine SF_iconst (0 : Int32) 17 dX12_isTaken_16 rfl rfl ?_
    refine SF_istore_n [(2, .int (0 : Int32)), (0, .ref (ad X l0)), (1, .int l1)] 18 dX12_isTaken_17 rfl (by decide) rfl rfl ?_
    refine SF_sub [1, 2, 0] rfl ?_
    exact w_X12_isTaken_18 hd FU l0 l1 (0 : Int32) g k_l0 h
  · have h := ite_t c5 h
    refine SF_iconst (1 : Int32) 15 dX12_isTaken_14 rfl rfl ?_
    exact RT_b rfl rfl dX12_isTaken_15 h

theorem dX12_readPlace_0 : decode cX12_readPlace 0 = .ok (.iload_n 1, 1) := by decide +kernel
theorem dX12_readPlace_1 : decode cX12_readPlace 1 = .ok (.ifCond .eq 48, 3) := by decide +kernel
theorem dX12_readPlace_4 : decode cX12_readPlace 4 = .ok (.aload_n 0, 1) := by decide +kernel
theorem dX12_readPlace_5 : decode cX12_readPlace 5 = .ok (.bipush 23, 2) := by decide +kernel
theorem dX12_readPlace_7 : decode cX12_readPlace 7 = .ok (.invokevirtual 129, 3) := by decide +kernel
theorem dX12_readPlace_10 : decode cX12_readPlace 10 = .ok (.ifCond .eq 39, 3) := by decide +kernel
theorem dX12_readPlace_13 : decode cX12_readPlace 13 = .ok (.aload_n 0, 1) := by decide +kernel
theorem dX12_readPlace_14 : decode cX12_readPlace 14 = .ok (.getfield 118, 3) := by decide +kernel
theorem dX12_readPlace_17 : decode cX12_readPlace 17 = .ok (.aload_n 0, 1) := by decide +kernel
theorem dX12_readPlace_18 : decode cX12_readPlace 18 = .ok (.getfield 24, 3) := by decide +kernel
theorem dX12_readPlace_21 : decode cX12_readPlace 21 = .ok (.iconst 1, 1) := by decide +kernel
theorem dX12_readPlace_22 : decode cX12_readPlace 22 = .ok (.iaload, 1) := by decide +kernel
theorem dX12_readPlace_23 : decode cX12_readPlace 23 = .ok (.aload_n 0, 1) := by decide +kernel
theorem dX12_readPlace_24 : decode cX12_readPlace 24 = .ok (.getfield 24, 3) := by decide +kernel
theorem dX12_readPlace_27 : decode cX12_readPlace 27 = .ok (.iconst 2, 1) := by decide +kernel
theorem dX12_readPlace_28 : decode cX12_readPlace 28 = .ok (.iaload, 1) := by decide +kernel
theorem dX12_readPlace_29 : decode cX12_readPlace 29 = .ok (.imul, 1) := by decide +kernel
theorem dX12_readPlace_30 : decode cX12_readPlace 30 = .ok (.if_icmp .ge 19, 3) := by decide +kernel
theorem dX12_readPlace_33 : decode cX12_readPlace 33 = .ok (.aload_n 0, 1) := by decide +kernel
theorem dX12_readPlace_34 : decode cX12_readPlace 34 = .ok (.aload_n 0, 1) := by decide +kernel
theorem dX12_readPlace_35 : decode cX12_readPlace 35 = .ok (.getfield 118, 3) := by decide +kernel
theorem dX12_readPlace_38 : decode cX12_readPlace 38 = .ok (.invokevirtual 177, 3) := by decide +kernel
theorem dX12_readPlace_41 : decode cX12_readPlace 41 = .ok (.ifCond .eq 8, 3) := by decide +kernel
theorem dX12_readPlace_44 : decode cX12_readPlace 44 = .ok (.aload_n 0, 1) := by decide +kernel
theorem dX12_readPlace_45 : decode cX12_readPlace 45 = .ok (.iconst 3, 1) := by decide +kernel
theorem dX12_readPlace_46 : decode cX12_readPlace 46 = .ok (.invokevirtual 135, 3) := by decide +kernel
theorem dX12_readPlace_49 : decode cX12_readPlace 49 = .ok (.aload_n 0, 1) := by decide +kernel
theorem dX12_readPlace_50 : decode cX12_readPlace 50 = .ok (.iconst 0, 1) := by decide +kernel
theorem dX12_readPlace_51 : decode cX12_readPlace 51 = .ok (.aload_n 0, 1) := by decide +kernel
theorem dX12_readPlace_52 : decode cX12_readPlace 52 = .ok (.getfield 24, 3) := by decide +kernel
theorem dX12_readPlace_55 : decode cX12_readPlace 55 = .ok (.iconst 1, 1) := by decide +kernel
theorem dX12_readPlace_56 : decode cX12_readPlace 56 = .ok (.iaload, 1) := by decide +kernel
theorem dX12_readPlace_57 : decode cX12_readPlace 57 = .ok (.aload_n 0, 1) := by decide +kernel
theorem dX12_readPlace_58 : decode cX12_readPlace 58 = .ok (.getfield 24, 3) := by decide +kernel
theorem dX12_readPlace_61 : decode cX12_readPlace 61 = .ok (.iconst 2, 1) := by decide +kernel
theorem dX12_readPlace_62 : decode cX12_readPlace 62 = .ok (.iaload, 1) := by decide +kernel
theorem dX12_readPlace_63 : decode cX12_readPlace 63 = .ok (.imul, 1) := by decide +kernel
theorem dX12_readPlace_64 : decode cX12_readPlace 64 = .ok (.iconst 1, 1) := by decide +kernel
theorem dX12_readPlace_65 : decode cX12_readPlace 65 = .ok (.isub, 1) := by decide +kernel
theorem dX12_readPlace_66 : decode cX12_readPlace 66 = .ok (.invokevirtual 173, 3) := by decide +kernel
theorem dX12_readPlace_69 : decode cX12_readPlace 69 = .ok (.ireturn, 1) := by decide +kernel
set_option maxRecDepth 20000 in
set_option maxHeartbeats 2000000 in
theorem w_X12_readPlace_49 {X : CX} {d : Nat} (hd : 7 ≤ d) {g' : G} {rx : Int32} (l0 : Nat) (g : G) (k_l0 : KD g l0 12) (h : f_X12_readPlace_49 l0 g = some (rx, g')) : SemF X m_X12_readPlace d 49 [(0, .ref (ad X l0))] [] g (some (.int rx)) g' := by
  rw [f_X12_readPlace_49] at h
  refine SF_aload_n 0 50 dX12_readPlace_49 rfl rfl rfl ?_
  refine SF_iconst (0 : Int32) 51 dX12_readPlace_50 rfl rfl ?_
  refine SF_aload_n 0 52 dX12_readPlace_51 rfl rfl rfl ?_
  obtain ⟨b1, r2, h⟩ := dr_some h
  refine SF_getR 55 fl_X12_24 dX12_readPlace_52 k_l0.1 r2 rfl ?_
  refine SF_iconst (1 : Int32) 56 dX12_readPlace_55 rfl rfl ?_
  obtain ⟨k3, h⟩ := gdK_some h
  obtain ⟨i4, h⟩ := gdI_some h
  refine SF_iald 57 dX12_readPlace_56 k3.1 i4 rfl ?_
  refine SF_aload_n 0 58 dX12_readPlace_57 rfl rfl rfl ?_
  refine SF_getR 61 fl_X12_24 dX12_readPlace_58 k_l0.1 r2 rfl ?_
  refine SF_iconst (2 : Int32) 62 dX12_readPlace_61 rfl rfl ?_
  obtain ⟨i5, h⟩ := gdI_some h
  refine SF_iald 63 dX12_readPlace_62 k3.1 i5 rfl ?_
  refine SF_imul 64 dX12_readPlace_63 rfl ?_
  refine SF_iconst (1 : Int32) 65 dX12_readPlace_64 rfl rfl ?_
  refine SF_isub 66 dX12_readPlace_65 rfl ?_
  obtain ⟨v6, g7, q8, h⟩ := bd_some h
  have s9 := w_X12_takes (X := X) (Nat.le_refl 6) l0 (0 : Int32) (((gI g b1 (1 : Int32).toNatClampNeg) * (gI g b1 (2 : Int32).toNatClampNeg)) - (1 : Int32)) g g7 v6 k_l0 q8
  refine SF_callVi 69 mi_X12_takes ml_X12_173 dX12_readPlace_66 (Nat.le_trans (by decide) hd) s9 k_l0.1 rfl rfl (Nat.le_of_ble_eq_true rfl) rfl ?_
  have k_l0 := k_l0.ext s9.1
  have k3 := k3.ext s9.1
  exact RT_i rfl dX12_readPlace_69 h

set_option maxRecDepth 20000 in
set_option maxHeartbeats 2000000 in
theorem w_X12_readPlace {X : CX} {d : Nat} (hd : 7 ≤ d) (l0 : Nat) (l1 : Int32) (g g' : G) (rx : Int32) (k_l0 : KD g l0 12) (h : f_X12_readPlace l0 l1 g = some (rx, g')) : Sem X m_X12_readPlace d [.ref (ad X l0), .int l1] g (some (.int rx)) g' := by
  refine Sem_of (lo := [(0, .ref (ad X l0)), (1, .int l1)]) (by decide +kernel) rfl (Nat.le_of_ble_eq_true rfl) ?_
  rw [f_X12_readPlace] at h
  refine SF_iload_n 1 1 dX12_readPlace_0 rfl rfl rfl ?_
  refine SF_ifeq 49 4 dX12_readPlace_1 rfl rfl (fun c1 => ?_) (fun c1 => ?_)
  · have h := ite_t c1 h
    refine SF_sub [0] rfl ?_
    exact w_X12_readPlace_49 hd l0 g k_l0 h
  · have h := ite_f c1 h
    refine SF_aload_n 0 5 dX12_readPlace_4 rfl rfl rfl ?_
    refine SF_bipush (23 : Int32) 7 dX12_readPlace_5 rfl rfl ?_
    obtain ⟨v2, g3, q4, h⟩ := bd_some h
    have s5 := w_X12_is (X := X) (Nat.le_refl 0) l0 (23 : Int32) g g3 v2 k_l0 q4
    refine SF_callVb 10 mi_X12_is ml_X12_129 dX12_readPlace_7 (Nat.le_trans (by decide) hd) s5 k_l0.1 rfl rfl (Nat.le_of_ble_eq_true rfl) rfl ?_
    have k_l0 := k_l0.ext s5.1
    refine SF_ifeq 49 13 dX12_readPlace_10 rfl rfl (fun c6 => ?_) (fun c6 => ?_)
    · have h := ite_t c6 h
      refine SF_sub [0] rfl ?_
      exact w_X12_readPlace_49 hd l0 g3 k_l0 h
    · have h := ite_f c6 h
      refine SF_aload_n 0 14 dX12_readPlace_13 rfl rfl rfl ?_
      refine SF_getI 17 fl_X12_118 dX12_readPlace_14 k_l0.1 rfl ?_
      refine SF_aload_n 0 18 dX12_readPlace_17 rfl rfl rfl ?_
      obtain ⟨b7, r8, h⟩ := dr_some h
      refine SF_getR 21 fl_X12_24 dX12_readPlace_18 k_l0.1 r8 rfl ?_
      refine SF_iconst (1 : Int32) 22 dX12_readPlace_21 rfl rfl ?_
      obtain ⟨k9, h⟩ := gdK_some h
      obtain ⟨i10, h⟩ := gdI_some h
      refine SF_iald 23 dX12_readPlace_22 k9.1 i10 rfl ?_
      refine SF_aload_n 0 24 dX12_readPlace_23 rfl rfl rfl ?_
      refine SF_getR 27 fl_X12_24 dX12_readPlace_24 k_l0.1 r8 rfl ?_
      refine SF_iconst (2 : Int32) 28 dX12_readPlace_27 rfl rfl ?_
      obtain ⟨i11, h⟩ := gdI_some h
      refine SF_iald 29 dX12_readPlace_28 k9.1 i11 rfl ?_
      refine SF_imul 30 dX12_readPlace_29 rfl ?_
      refine SF_icge 49 33 dX12_readPlace_30 rfl rfl (fun c12 => ?_) (fun c12 => ?_)
      · have h := ite_t c12 h
        refine SF_sub [0] rfl ?_
        exact w_X12_readPlace_49 hd l0 g3 k_l0 h
      · have h := ite_f c12 h
        refine SF_aload_n 0 34 dX12_readPlace_33 rfl rfl rfl ?_
        refine SF_aload_n 0 35 dX12_readPlace_34 rfl rfl rfl ?_
        refine SF_getI 38 fl_X12_118 dX12_readPlace_35 k_l0.1 rfl ?_
        obtain ⟨v13, g14, q15, h⟩ := bd_some h
        have s16 := w_X12_isTaken (X := X) (Nat.le_refl 0) l0 (gI g3 l0 10) g3 g14 v13 k_l0 q15
        refine SF_callVb 41 mi_X12_isTaken ml_X12_177 dX12_readPlace_38 (Nat.le_trans (by decide) hd) s16 k_l0.1 rfl rfl (Nat.le_of_ble_eq_true rfl) rfl ?_
        have k_l0 := k_l0.ext s16.1
        have k9 := k9.ext s16.1
        refine SF_ifeq 49 44 dX12_readPlace_41 rfl rfl (fun c17 => ?_) (fun c17 => ?_)
        · have h := ite_t c17 h
          refine SF_sub [0] rfl ?_
          exact w_X12_readPlace_49 hd l0 g14 k_l0 h
        · have h := ite_f c17 h
          refine SF_aload_n 0 45 dX12_readPlace_44 rfl rfl rfl ?_
          refine SF_iconst (3 : Int32) 46 dX12_readPlace_45 rfl rfl ?_
          obtain ⟨v18, g19, q20, h⟩ := bd_some h
          have s21 := w_X12_fails (X := X) (Nat.le_refl 0) l0 (3 : Int32) g14 g19 v18 k_l0 q20
          refine SF_callVv 49 mi_X12_fails ml_X12_135 dX12_readPlace_46 (Nat.le_trans (by decide) hd) s21 k_l0.1 rfl rfl (Nat.le_of_ble_eq_true rfl) rfl ?_
          have k_l0 := k_l0.ext s21.1
          have k9 := k9.ext s21.1
          refine SF_sub [0] rfl ?_
          exact w_X12_readPlace_49 hd l0 g19 k_l0 h

theorem dX12_readFlag_0 : decode cX12_readFlag 0 = .ok (.aload_n 0, 1) := by decide +kernel
theorem dX12_readFlag_1 : decode cX12_readFlag 1 = .ok (.iconst 4, 1) := by decide +kernel
theorem dX12_readFlag_2 : decode cX12_readFlag 2 = .ok (.invokevirtual 155, 3) := by decide +kernel
theorem dX12_readFlag_5 : decode cX12_readFlag 5 = .ok (.ifCond .eq 22, 3) := by decide +kernel
theorem dX12_readFlag_8 : decode cX12_readFlag 8 = .ok (.aload_n 0, 1) := by decide +kernel
theorem dX12_readFlag_9 : decode cX12_readFlag 9 = .ok (.getfield 24, 3) := by decide +kernel
theorem dX12_readFlag_12 : decode cX12_readFlag 12 = .ok (.bipush 97, 2) := by decide +kernel
theorem dX12_readFlag_14 : decode cX12_readFlag 14 = .ok (.iload_n 1, 1) := by decide +kernel
theorem dX12_readFlag_15 : decode cX12_readFlag 15 = .ok (.iadd, 1) := by decide +kernel
theorem dX12_readFlag_16 : decode cX12_readFlag 16 = .ok (.aload_n 0, 1) := by decide +kernel
theorem dX12_readFlag_17 : decode cX12_readFlag 17 = .ok (.iconst 0, 1) := by decide +kernel
theorem dX12_readFlag_18 : decode cX12_readFlag 18 = .ok (.bipush 9, 2) := by decide +kernel
theorem dX12_readFlag_20 : decode cX12_readFlag 20 = .ok (.invokevirtual 173, 3) := by decide +kernel
theorem dX12_readFlag_23 : decode cX12_readFlag 23 = .ok (.iastore, 1) := by decide +kernel
theorem dX12_readFlag_24 : decode cX12_readFlag 24 = .ok (.goto 50, 3) := by decide +kernel
theorem dX12_readFlag_27 : decode cX12_readFlag 27 = .ok (.aload_n 0, 1) := by decide +kernel
theorem dX12_readFlag_28 : decode cX12_readFlag 28 = .ok (.iconst 3, 1) := by decide +kernel
theorem dX12_readFlag_29 : decode cX12_readFlag 29 = .ok (.invokevirtual 155, 3) := by decide +kernel
theorem dX12_readFlag_32 : decode cX12_readFlag 32 = .ok (.ifCond .eq 40, 3) := by decide +kernel
theorem dX12_readFlag_35 : decode cX12_readFlag 35 = .ok (.aload_n 0, 1) := by decide +kernel
theorem dX12_readFlag_36 : decode cX12_readFlag 36 = .ok (.getfield 24, 3) := by decide +kernel
theorem dX12_readFlag_39 : decode cX12_readFlag 39 = .ok (.bipush 46, 2) := by decide +kernel
theorem dX12_readFlag_41 : decode cX12_readFlag 41 = .ok (.iconst 2, 1) := by decide +kernel
theorem dX12_readFlag_42 : decode cX12_readFlag 42 = .ok (.iload_n 1, 1) := by decide +kernel
theorem dX12_readFlag_43 : decode cX12_readFlag 43 = .ok (.imul, 1) := by decide +kernel
theorem dX12_readFlag_44 : decode cX12_readFlag 44 = .ok (.iadd, 1) := by decide +kernel
theorem dX12_readFlag_45 : decode cX12_readFlag 45 = .ok (.aload_n 0, 1) := by decide +kernel
theorem dX12_readFlag_46 : decode cX12_readFlag 46 = .ok (.iconst 0, 1) := by decide +kernel
theorem dX12_readFlag_47 : decode cX12_readFlag 47 = .ok (.invokevirtual 180, 3) := by decide +kernel
theorem dX12_readFlag_50 : decode cX12_readFlag 50 = .ok (.iastore, 1) := by decide +kernel
theorem dX12_readFlag_51 : decode cX12_readFlag 51 = .ok (.aload_n 0, 1) := by decide +kernel
theorem dX12_readFlag_52 : decode cX12_readFlag 52 = .ok (.getfield 24, 3) := by decide +kernel
theorem dX12_readFlag_55 : decode cX12_readFlag 55 = .ok (.bipush 46, 2) := by decide +kernel
theorem dX12_readFlag_57 : decode cX12_readFlag 57 = .ok (.iconst 2, 1) := by decide +kernel
theorem dX12_readFlag_58 : decode cX12_readFlag 58 = .ok (.iload_n 1, 1) := by decide +kernel
theorem dX12_readFlag_59 : decode cX12_readFlag 59 = .ok (.imul, 1) := by decide +kernel
theorem dX12_readFlag_60 : decode cX12_readFlag 60 = .ok (.iadd, 1) := by decide +kernel
theorem dX12_readFlag_61 : decode cX12_readFlag 61 = .ok (.iconst 1, 1) := by decide +kernel
theorem dX12_readFlag_62 : decode cX12_readFlag 62 = .ok (.iadd, 1) := by decide +kernel
theorem dX12_readFlag_63 : decode cX12_readFlag 63 = .ok (.aload_n 0, 1) := by decide +kernel
theorem dX12_readFlag_64 : decode cX12_readFlag 64 = .ok (.iconst 0, 1) := by decide +kernel
theorem dX12_readFlag_65 : decode cX12_readFlag 65 = .ok (.invokevirtual 180, 3) := by decide +kernel
theorem dX12_readFlag_68 : decode cX12_readFlag 68 = .ok (.iastore, 1) := by decide +kernel
theorem dX12_readFlag_69 : decode cX12_readFlag 69 = .ok (.goto 5, 3) := by decide +kernel
theorem dX12_readFlag_72 : decode cX12_readFlag 72 = .ok (.iconst 0, 1) := by decide +kernel
theorem dX12_readFlag_73 : decode cX12_readFlag 73 = .ok (.ireturn, 1) := by decide +kernel
theorem dX12_readFlag_74 : decode cX12_readFlag 74 = .ok (.aload_n 0, 1) := by decide +kernel
theorem dX12_readFlag_75 : decode cX12_readFlag 75 = .ok (.getfield 123, 3) := by decide +kernel
theorem dX12_readFlag_78 : decode cX12_readFlag 78 = .ok (.ifCond .ne 7, 3) := by decide +kernel
theorem dX12_readFlag_81 : decode cX12_readFlag 81 = .ok (.iconst 1, 1) := by decide +kernel
theorem dX12_readFlag_82 : decode cX12_readFlag 82 = .ok (.goto 4, 3) := by decide +kernel
theorem dX12_readFlag_85 : decode cX12_readFlag 85 = .ok (.iconst 0, 1) := by decide +kernel
theorem dX12_readFlag_86 : decode cX12_readFlag 86 = .ok (.ireturn, 1) := by decide +kernel
set_option maxRecDepth 20000 in
set_option maxHeartbeats 2000000 in
theorem w_X12_readFlag_74 {X : CX} {d : Nat} (hd : 8 ≤ d) {g' : G} {rx : Bool} (l0 : Nat) (g : G) (k_l0 : KD g l0 12) (h : f_X12_readFlag_74 l0 g = some (rx, g')) : SemF X m_X12_readFlag d 74 [(0, .ref (ad X l0))] [] g (some (.int (b2i rx))) g' := by
  rw [f_X12_readFlag_74] at h
  refine SF_aload_n 0 75 dX12_readFlag_74 rfl rfl rfl ?_
  refine SF_getI 78 fl_X12_123 dX12_readFlag_75 k_l0.1 rfl ?_
  refine SF_ifne 85 81 dX12_readFlag_78 rfl rfl (fun c1 => ?_) (fun c1 => ?_)
  · have h := ite_f c1 h
    refine SF_iconst (0 : Int32) 86 dX12_readFlag_85 rfl rfl ?_
    exact RT_b rfl rfl dX12_readFlag_86 h
  · have h := ite_t c1 h
    refine SF_iconst (1 : Int32) 82 dX12_readFlag_81 rfl rfl ?_
    refine SF_goto 86 dX12_readFlag_82 rfl ?_
    exact RT_b rfl rfl dX12_readFlag_86 h

set_option maxRecDepth 20000 in
set_option maxHeartbeats 2000000 in
theorem w_X12_readFlag {X : CX} {d : Nat} (hd : 8 ≤ d) (l0 : Nat) (l1 : Int32) (g g' : G) (rx : Bool) (k_l0 : KD g l0 12) (h : f_X12_readFlag l0 l1 g = some (rx, g')) : Sem X m_X12_readFlag d [.ref (ad X l0), .int l1] g (some (.int (b2i rx))) g' := by
  refine Sem_of (lo := [(0, .ref (ad X l0)), (1, .int l1)]) (by decide +kernel) rfl (Nat.le_of_ble_eq_true rfl) ?_
  rw [f_X12_readFlag] at h
  refine SF_aload_n 0 1 dX12_readFlag_0 rfl rfl rfl ?_
  refine SF_iconst (4 : Int32) 2 dX12_readFlag_1 rfl rfl ?_
  obtain ⟨v1, g2, q3, h⟩ := bd_some h
  have s4 := w_X12_eats (X := X) (Nat.le_refl 6) l0 (4 : Int32) g g2 v1 k_l0 q3
  refine SF_callVb 5 mi_X12_eats ml_X12_155 dX12_readFlag_2 (Nat.le_trans (by decide) hd) s4 k_l0.1 rfl rfl (Nat.le_of_ble_eq_true rfl) rfl ?_
  have k_l0 := k_l0.ext s4.1
  refine SF_ifeq 27 8 dX12_readFlag_5 rfl rfl (fun c5 => ?_) (fun c5 => ?_)
  · have h := ite_t c5 h
    refine SF_aload_n 0 28 dX12_readFlag_27 rfl rfl rfl ?_
    refine SF_iconst (3 : Int32) 29 dX12_readFlag_28 rfl rfl ?_
    obtain ⟨v6, g7, q8, h⟩ := bd_some h
    have s9 := w_X12_eats (X := X) (Nat.le_refl 6) l0 (3 : Int32) g2 g7 v6 k_l0 q8
    refine SF_callVb 32 mi_X12_eats ml_X12_155 dX12_readFlag_29 (Nat.le_trans (by decide) hd) s9 k_l0.1 rfl rfl (Nat.le_of_ble_eq_true rfl) rfl ?_
    have k_l0 := k_l0.ext s9.1
    refine SF_ifeq 72 35 dX12_readFlag_32 rfl rfl (fun c10 => ?_) (fun c10 => ?_)
    · have h := ite_t c10 h
      refine SF_iconst (0 : Int32) 73 dX12_readFlag_72 rfl rfl ?_
      exact RT_b rfl rfl dX12_readFlag_73 h
    · have h := ite_f c10 h
      refine SF_aload_n 0 36 dX12_readFlag_35 rfl rfl rfl ?_
      obtain ⟨b11, r12, h⟩ := dr_some h
      refine SF_getR 39 fl_X12_24 dX12_readFlag_36 k_l0.1 r12 rfl ?_
      refine SF_bipush (46 : Int32) 41 dX12_readFlag_39 rfl rfl ?_
      refine SF_iconst (2 : Int32) 42 dX12_readFlag_41 rfl rfl ?_
      refine SF_iload_n 1 43 dX12_readFlag_42 rfl rfl rfl ?_
      refine SF_imul 44 dX12_readFlag_43 rfl ?_
      refine SF_iadd 45 dX12_readFlag_44 rfl ?_
      refine SF_aload_n 0 46 dX12_readFlag_45 rfl rfl rfl ?_
      refine SF_iconst (0 : Int32) 47 dX12_readFlag_46 rfl rfl ?_
      obtain ⟨v13, g14, q15, h⟩ := bd_some h
      have s16 := w_X12_readPlace (X := X) (Nat.le_refl 7) l0 (0 : Int32) g7 g14 v13 k_l0 q15
      refine SF_callVi 50 mi_X12_readPlace ml_X12_180 dX12_readFlag_47 (Nat.le_trans (by decide) hd) s16 k_l0.1 rfl rfl (Nat.le_of_ble_eq_true rfl) rfl ?_
      have k_l0 := k_l0.ext s16.1
      obtain ⟨k17, h⟩ := gdK_some h
      obtain ⟨i18, h⟩ := gdI_some h
      refine SF_iast 51 dX12_readFlag_50 k17.1 i18 rfl ?_
      obtain ⟨g19, e20, h⟩ := lg_some h
      rw [← e20]
      have k_l0 := KD.eq e20 k_l0
      have k17 := KD.eq e20 k17
      have i18 := vp_eq e20 i18
      refine SF_aload_n 0 52 dX12_readFlag_51 rfl rfl rfl ?_
      obtain ⟨b21, r22, h⟩ := dr_some h
      refine SF_getR 55 fl_X12_24 dX12_readFlag_52 k_l0.1 r22 rfl ?_
      refine SF_bipush (46 : Int32) 57 dX12_readFlag_55 rfl rfl ?_
      refine SF_iconst (2 : Int32) 58 dX12_readFlag_57 rfl rfl ?_
      refine SF_iload_n 1 59 dX12_readFlag_58 rfl rfl rfl ?_
      refine SF_imul 60 dX12_readFlag_59 rfl ?_
      refine SF_iadd 61 dX12_readFlag_60 rfl ?_
      refine SF_iconst (1 : Int32) 62 dX12_readFlag_61 rfl rfl ?_
      refine SF_iadd 63 dX12_readFlag_62 rfl ?_
      refine SF_aload_n 0 64 dX12_readFlag_63 rfl rfl rfl ?_
      refine SF_iconst (0 : Int32) 65 dX12_readFlag_64 rfl rfl ?_
      obtain ⟨v23, g24, q25, h⟩ := bd_some h
      have s26 := w_X12_readPlace (X := X) (Nat.le_refl 7) l0 (0 : Int32) g19 g24 v23 k_l0 q25
      refine SF_callVi 68 mi_X12_readPlace ml_X12_180 dX12_readFlag_65 (Nat.le_trans (by decide) hd) s26 k_l0.1 rfl rfl (Nat.le_of_ble_eq_true rfl) rfl ?_
      have k_l0 := k_l0.ext s26.1
      have k17 := k17.ext s26.1
      obtain ⟨k27, h⟩ := gdK_some h
      obtain ⟨i28, h⟩ := gdI_some h
      refine SF_iast 69 dX12_readFlag_68 k27.1 i28 rfl ?_
      obtain ⟨g29, e30, h⟩ := lg_some h
      rw [← e30]
      have k_l0 := KD.eq e30 k_l0
      have k17 := KD.eq e30 k17
      have k27 := KD.eq e30 k27
      have i28 := vp_eq e30 i28
      refine SF_goto 74 dX12_readFlag_69 rfl ?_
      refine SF_sub [0] rfl ?_
      exact w_X12_readFlag_74 hd l0 g29 k_l0 h
  · have h := ite_f c5 h
    refine SF_aload_n 0 9 dX12_readFlag_8 rfl rfl rfl ?_
    obtain ⟨b31, r32, h⟩ := dr_some h
    refine SF_getR 12 fl_X12_24 dX12_readFlag_9 k_l0.1 r32 rfl ?_
    refine SF_bipush (97 : Int32) 14 dX12_readFlag_12 rfl rfl ?_
    refine SF_iload_n 1 15 dX12_readFlag_14 rfl rfl rfl ?_
    refine SF_iadd 16 dX12_readFlag_15 rfl ?_
    refine SF_aload_n 0 17 dX12_readFlag_16 rfl rfl rfl ?_
    refine SF_iconst (0 : Int32) 18 dX12_readFlag_17 rfl rfl ?_
    refine SF_bipush (9 : Int32) 20 dX12_readFlag_18 rfl rfl ?_
    obtain ⟨v33, g34, q35, h⟩ := bd_some h
    have s36 := w_X12_takes (X := X) (Nat.le_refl 6) l0 (0 : Int32) (9 : Int32) g2 g34 v33 k_l0 q35
    refine SF_callVi 23 mi_X12_takes ml_X12_173 dX12_readFlag_20 (Nat.le_trans (by decide) hd) s36 k_l0.1 rfl rfl (Nat.le_of_ble_eq_true rfl) rfl ?_
    have k_l0 := k_l0.ext s36.1
    obtain ⟨k37, h⟩ := gdK_some h
    obtain ⟨i38, h⟩ := gdI_some h
    refine SF_iast 24 dX12_readFlag_23 k37.1 i38 rfl ?_
    obtain ⟨g39, e40, h⟩ := lg_some h
    rw [← e40]
    have k_l0 := KD.eq e40 k_l0
    have k37 := KD.eq e40 k37
    have i38 := vp_eq e40 i38
    refine SF_goto 74 dX12_readFlag_24 rfl ?_
    refine SF_sub [0] rfl ?_
    exact w_X12_readFlag_74 hd l0 g39 k_l0 h

theorem dX12_readPair_0 : decode cX12_readPair 0 = .ok (.aload_n 0, 1) := by decide +kernel
theorem dX12_readPair_1 : decode cX12_readPair 1 = .ok (.getfield 24, 3) := by decide +kernel
theorem dX12_readPair_4 : decode cX12_readPair 4 = .ok (.iconst 3, 1) := by decide +kernel
theorem dX12_readPair_5 : decode cX12_readPair 5 = .ok (.iaload, 1) := by decide +kernel
theorem dX12_readPair_6 : decode cX12_readPair 6 = .ok (.istore_n 1, 1) := by decide +kernel
theorem dX12_readPair_7 : decode cX12_readPair 7 = .ok (.iload_n 1, 1) := by decide +kernel
theorem dX12_readPair_8 : decode cX12_readPair 8 = .ok (.iconst 3, 1) := by decide +kernel
theorem dX12_readPair_9 : decode cX12_readPair 9 = .ok (.if_icmp .ne 8, 3) := by decide +kernel
theorem dX12_readPair_12 : decode cX12_readPair 12 = .ok (.aload_n 0, 1) := by decide +kernel
theorem dX12_readPair_13 : decode cX12_readPair 13 = .ok (.iconst 4, 1) := by decide +kernel
theorem dX12_readPair_14 : decode cX12_readPair 14 = .ok (.invokevirtual 135, 3) := by decide +kernel
theorem dX12_readPair_17 : decode cX12_readPair 17 = .ok (.aload_n 0, 1) := by decide +kernel
theorem dX12_readPair_18 : decode cX12_readPair 18 = .ok (.getfield 123, 3) := by decide +kernel
theorem dX12_readPair_21 : decode cX12_readPair 21 = .ok (.ifCond .eq 4, 3) := by decide +kernel
theorem dX12_readPair_24 : decode cX12_readPair 24 = .ok (.return_, 1) := by decide +kernel
theorem dX12_readPair_25 : decode cX12_readPair 25 = .ok (.aload_n 0, 1) := by decide +kernel
theorem dX12_readPair_26 : decode cX12_readPair 26 = .ok (.invokevirtual 132, 3) := by decide +kernel
theorem dX12_readPair_29 : decode cX12_readPair 29 = .ok (.aload_n 0, 1) := by decide +kernel
theorem dX12_readPair_30 : decode cX12_readPair 30 = .ok (.iconst 1, 1) := by decide +kernel
theorem dX12_readPair_31 : decode cX12_readPair 31 = .ok (.invokevirtual 180, 3) := by decide +kernel
theorem dX12_readPair_34 : decode cX12_readPair 34 = .ok (.istore_n 2, 1) := by decide +kernel
theorem dX12_readPair_35 : decode cX12_readPair 35 = .ok (.aload_n 0, 1) := by decide +kernel
theorem dX12_readPair_36 : decode cX12_readPair 36 = .ok (.iconst 1, 1) := by decide +kernel
theorem dX12_readPair_37 : decode cX12_readPair 37 = .ok (.invokevirtual 180, 3) := by decide +kernel
theorem dX12_readPair_40 : decode cX12_readPair 40 = .ok (.istore_n 3, 1) := by decide +kernel
theorem dX12_readPair_41 : decode cX12_readPair 41 = .ok (.aload_n 0, 1) := by decide +kernel
theorem dX12_readPair_42 : decode cX12_readPair 42 = .ok (.getfield 123, 3) := by decide +kernel
theorem dX12_readPair_45 : decode cX12_readPair 45 = .ok (.ifCond .ne 14, 3) := by decide +kernel
theorem dX12_readPair_48 : decode cX12_readPair 48 = .ok (.aload_n 0, 1) := by decide +kernel
theorem dX12_readPair_49 : decode cX12_readPair 49 = .ok (.iload_n 1, 1) := by decide +kernel
theorem dX12_readPair_50 : decode cX12_readPair 50 = .ok (.invokevirtual 184, 3) := by decide +kernel
theorem dX12_readPair_53 : decode cX12_readPair 53 = .ok (.ifCond .eq 6, 3) := by decide +kernel
theorem dX12_readPair_56 : decode cX12_readPair 56 = .ok (.goto (-15), 3) := by decide +kernel
theorem dX12_readPair_59 : decode cX12_readPair 59 = .ok (.aload_n 0, 1) := by decide +kernel
theorem dX12_readPair_60 : decode cX12_readPair 60 = .ok (.getfield 123, 3) := by decide +kernel
theorem dX12_readPair_63 : decode cX12_readPair 63 = .ok (.ifCond .eq 4, 3) := by decide +kernel
theorem dX12_readPair_66 : decode cX12_readPair 66 = .ok (.return_, 1) := by decide +kernel
theorem dX12_readPair_67 : decode cX12_readPair 67 = .ok (.aload_n 0, 1) := by decide +kernel
theorem dX12_readPair_68 : decode cX12_readPair 68 = .ok (.getfield 24, 3) := by decide +kernel
theorem dX12_readPair_71 : decode cX12_readPair 71 = .ok (.bipush 88, 2) := by decide +kernel
theorem dX12_readPair_73 : decode cX12_readPair 73 = .ok (.iconst 2, 1) := by decide +kernel
theorem dX12_readPair_74 : decode cX12_readPair 74 = .ok (.iload_n 1, 1) := by decide +kernel
theorem dX12_readPair_75 : decode cX12_readPair 75 = .ok (.imul, 1) := by decide +kernel
theorem dX12_readPair_76 : decode cX12_readPair 76 = .ok (.iadd, 1) := by decide +kernel
theorem dX12_readPair_77 : decode cX12_readPair 77 = .ok (.iload_n 2, 1) := by decide +kernel
theorem dX12_readPair_78 : decode cX12_readPair 78 = .ok (.iastore, 1) := by decide +kernel
theorem dX12_readPair_79 : decode cX12_readPair 79 = .ok (.aload_n 0, 1) := by decide +kernel
theorem dX12_readPair_80 : decode cX12_readPair 80 = .ok (.getfield 24, 3) := by decide +kernel
theorem dX12_readPair_83 : decode cX12_readPair 83 = .ok (.bipush 88, 2) := by decide +kernel
theorem dX12_readPair_85 : decode cX12_readPair 85 = .ok (.iconst 2, 1) := by decide +kernel
theorem dX12_readPair_86 : decode cX12_readPair 86 = .ok (.iload_n 1, 1) := by decide +kernel
theorem dX12_readPair_87 : decode cX12_readPair 87 = .ok (.imul, 1) := by decide +kernel
theorem dX12_readPair_88 : decode cX12_readPair 88 = .ok (.iadd, 1) := by decide +kernel
theorem dX12_readPair_89 : decode cX12_readPair 89 = .ok (.iconst 1, 1) := by decide +kernel
theorem dX12_readPair_90 : decode cX12_readPair 90 = .ok (.iadd, 1) := by decide +kernel
theorem dX12_readPair_91 : decode cX12_readPair 91 = .ok (.iload_n 3, 1) := by decide +kernel
theorem dX12_readPair_92 : decode cX12_readPair 92 = .ok (.iastore, 1) := by decide +kernel
theorem dX12_readPair_93 : decode cX12_readPair 93 = .ok (.aload_n 0, 1) := by decide +kernel
theorem dX12_readPair_94 : decode cX12_readPair 94 = .ok (.getfield 24, 3) := by decide +kernel
theorem dX12_readPair_97 : decode cX12_readPair 97 = .ok (.iconst 3, 1) := by decide +kernel
theorem dX12_readPair_98 : decode cX12_readPair 98 = .ok (.dup2, 1) := by decide +kernel
theorem dX12_readPair_99 : decode cX12_readPair 99 = .ok (.iaload, 1) := by decide +kernel
theorem dX12_readPair_100 : decode cX12_readPair 100 = .ok (.iconst 1, 1) := by decide +kernel
theorem dX12_readPair_101 : decode cX12_readPair 101 = .ok (.iadd, 1) := by decide +kernel
theorem dX12_readPair_102 : decode cX12_readPair 102 = .ok (.iastore, 1) := by decide +kernel
theorem dX12_readPair_103 : decode cX12_readPair 103 = .ok (.return_, 1) := by decide +kernel
set_option maxRecDepth 20000 in
set_option maxHeartbeats 2000000 in
theorem w_X12_readPair_59 {X : CX} {d : Nat} (hd : 9 ≤ d) {g' : G} {rx : Unit} (l0 : Nat) (l1 : Int32) (l2 : Int32) (l3 : Int32) (g : G) (k_l0 : KD g l0 12) (h : f_X12_readPair_59 l0 l1 l2 l3 g = some (rx, g')) : SemF X m_X12_readPair d 59 [(0, .ref (ad X l0)), (1, .int l1), (2, .int l2), (3, .int l3)] [] g none g' := by
  rw [f_X12_readPair_59] at h
  refine SF_aload_n 0 60 dX12_readPair_59 rfl rfl rfl ?_
  refine SF_getI 63 fl_X12_123 dX12_readPair_60 k_l0.1 rfl ?_
  refine SF_ifeq 67 66 dX12_readPair_63 rfl rfl (fun c1 => ?_) (fun c1 => ?_)
  · have h := ite_t c1 h
    refine SF_aload_n 0 68 dX12_readPair_67 rfl rfl rfl ?_
    obtain ⟨b2, r3, h⟩ := dr_some h
    refine SF_getR 71 fl_X12_24 dX12_readPair_68 k_l0.1 r3 rfl ?_
    refine SF_bipush (88 : Int32) 73 dX12_readPair_71 rfl rfl ?_
    refine SF_iconst (2 : Int32) 74 dX12_readPair_73 rfl rfl ?_
    refine SF_iload_n 1 75 dX12_readPair_74 rfl rfl rfl ?_
    refine SF_imul 76 dX12_readPair_75 rfl ?_
    refine SF_iadd 77 dX12_readPair_76 rfl ?_
    refine SF_iload_n 2 78 dX12_readPair_77 rfl rfl rfl ?_
    obtain ⟨k4, h⟩ := gdK_some h
    obtain ⟨i5, h⟩ := gdI_some h
    refine SF_iast 79 dX12_readPair_78 k4.1 i5 rfl ?_
    obtain ⟨g6, e7, h⟩ := lg_some h
    rw [← e7]
    have k_l0 := KD.eq e7 k_l0
    have k4 := KD.eq e7 k4
    have r3 := gR_eq e7 r3
    have i5 := vp_eq e7 i5
    refine SF_aload_n 0 80 dX12_readPair_79 rfl rfl rfl ?_
    refine SF_getR 83 fl_X12_24 dX12_readPair_80 k_l0.1 r3 rfl ?_
    refine SF_bipush (88 : Int32) 85 dX12_readPair_83 rfl rfl ?_
    refine SF_iconst (2 : Int32) 86 dX12_readPair_85 rfl rfl ?_
    refine SF_iload_n 1 87 dX12_readPair_86 rfl rfl rfl ?_
    refine SF_imul 88 dX12_readPair_87 rfl ?_
    refine SF_iadd 89 dX12_readPair_88 rfl ?_
    refine SF_iconst (1 : Int32) 90 dX12_readPair_89 rfl rfl ?_
    refine SF_iadd 91 dX12_readPair_90 rfl ?_
    refine SF_iload_n 3 92 dX12_readPair_91 rfl rfl rfl ?_
    obtain ⟨i8, h⟩ := gdI_some h
    refine SF_iast 93 dX12_readPair_92 k4.1 i8 rfl ?_
    obtain ⟨g9, e10, h⟩ := lg_some h
    rw [← e10]
    have k_l0 := KD.eq e10 k_l0
    have k4 := KD.eq e10 k4
    have r3 := gR_eq e10 r3
    have i5 := vp_eq e10 i5
    have i8 := vp_eq e10 i8
    refine SF_aload_n 0 94 dX12_readPair_93 rfl rfl rfl ?_
    refine SF_getR 97 fl_X12_24 dX12_readPair_94 k_l0.1 r3 rfl ?_
    refine SF_iconst (3 : Int32) 98 dX12_readPair_97 rfl rfl ?_
    refine SF_dup2_11 99 dX12_readPair_98 rfl rfl rfl ?_
    obtain ⟨i11, h⟩ := gdI_some h
    refine SF_iald 100 dX12_readPair_99 k4.1 i11 rfl ?_
    refine SF_iconst (1 : Int32) 101 dX12_readPair_100 rfl rfl ?_
    refine SF_iadd 102 dX12_readPair_101 rfl ?_
    refine SF_iast 103 dX12_readPair_102 k4.1 i11 rfl ?_
    obtain ⟨g12, e13, h⟩ := lg_some h
    rw [← e13]
    have k_l0 := KD.eq e13 k_l0
    have k4 := KD.eq e13 k4
    have r3 := gR_eq e13 r3
    have i5 := vp_eq e13 i5
    have i8 := vp_eq e13 i8
    have i11 := vp_eq e13 i11
    exact RT_v rfl dX12_readPair_103 h
  · have h := ite_f c1 h
    exact RT_v rfl dX12_readPair_66 h

set_option maxRecDepth 20000 in
set_option maxHeartbeats 2000000 in
theorem w_X12_readPair_41 {X : CX} {d : Nat} (hd : 9 ≤ d) {g' : G} {rx : Unit} : ∀ (n : Nat) (l0 : Nat) (l1 : Int32) (l2 : Int32) (l3 : Int32) (g : G), KD g l0 12 → f_X12_readPair_41 n l0 l1 l2 l3 g = some (rx, g') → SemF X m_X12_readPair d 41 [(0, .ref (ad X l0)), (1, .int l1), (2, .int l2), (3, .int l3)] [] g none g' := by
  intro n
  induction n with
  | zero =>
    intro l0 l1 l2 l3 g k_l0 h
    rw [f_X12_readPair_41] at h
    cases h
  | succ n ih =>
  intro l0 l1 l2 l3 g k_l0 h
  rw [f_X12_readPair_41] at h
  refine SF_aload_n 0 42 dX12_readPair_41 rfl rfl rfl ?_
  refine SF_getI 45 fl_X12_123 dX12_readPair_42 k_l0.1 rfl ?_
  refine SF_ifne 59 48 dX12_readPair_45 rfl rfl (fun c1 => ?_) (fun c1 => ?_)
  · have h := ite_f c1 h
    exact w_X12_readPair_59 hd l0 l1 l2 l3 g k_l0 h
  · have h := ite_t c1 h
    refine SF_aload_n 0 49 dX12_readPair_48 rfl rfl rfl ?_
    refine SF_iload_n 1 50 dX12_readPair_49 rfl rfl rfl ?_
    obtain ⟨v2, g3, q4, h⟩ := bd_some h
    have s5 := w_X12_readFlag (X := X) (Nat.le_refl 8) l0 l1 g g3 v2 k_l0 q4
    refine SF_callVb 53 mi_X12_readFlag ml_X12_184 dX12_readPair_50 (Nat.le_trans (by decide) hd) s5 k_l0.1 rfl rfl (Nat.le_of_ble_eq_true rfl) rfl ?_
    have k_l0 := k_l0.ext s5.1
    refine SF_ifeq 59 56 dX12_readPair_53 rfl rfl (fun c6 => ?_) (fun c6 => ?_)
    · have h := ite_t c6 h
      exact w_X12_readPair_59 hd l0 l1 l2 l3 g3 k_l0 h
    · have h := ite_f c6 h
      refine SF_goto 41 dX12_readPair_56 rfl ?_
      exact ih l0 l1 l2 l3 g3 k_l0 h

set_option maxRecDepth 20000 in
set_option maxHeartbeats 2000000 in
theorem w_X12_readPair_17 {X : CX} {d : Nat} (hd : 9 ≤ d) {g' : G} {rx : Unit} (l0 : Nat) (l1 : Int32) (g : G) (k_l0 : KD g l0 12) (h : f_X12_readPair_17 l0 l1 g = some (rx, g')) : SemF X m_X12_readPair d 17 [(0, .ref (ad X l0)), (1, .int l1)] [] g none g' := by
  rw [f_X12_readPair_17] at h
  refine SF_aload_n 0 18 dX12_readPair_17 rfl rfl rfl ?_
  refine SF_getI 21 fl_X12_123 dX12_readPair_18 k_l0.1 rfl ?_
  refine SF_ifeq 25 24 dX12_readPair_21 rfl rfl (fun c1 => ?_) (fun c1 => ?_)
  · have h := ite_t c1 h
    refine SF_aload_n 0 26 dX12_readPair_25 rfl rfl rfl ?_
    obtain ⟨v2, g3, q4, h⟩ := bd_some h
    have s5 := w_X12_next (X := X) (Nat.le_refl 5) l0 g g3 v2 k_l0 q4
    refine SF_callVv 29 mi_X12_next ml_X12_132 dX12_readPair_26 (Nat.le_trans (by decide) hd) s5 k_l0.1 rfl rfl (Nat.le_of_ble_eq_true rfl) rfl ?_
    have k_l0 := k_l0.ext s5.1
    refine SF_aload_n 0 30 dX12_readPair_29 rfl rfl rfl ?_
    refine SF_iconst (1 : Int32) 31 dX12_readPair_30 rfl rfl ?_
    obtain ⟨v6, g7, q8, h⟩ := bd_some h
    have s9 := w_X12_readPlace (X := X) (Nat.le_refl 7) l0 (1 : Int32) g3 g7 v6 k_l0 q8
    refine SF_callVi 34 mi_X12_readPlace ml_X12_180 dX12_readPair_31 (Nat.le_trans (by decide) hd) s9 k_l0.1 rfl rfl (Nat.le_of_ble_eq_true rfl) rfl ?_
    have k_l0 := k_l0.ext s9.1
    refine SF_istore_n [(2, .int v6), (0, .ref (ad X l0)), (1, .int l1)] 35 dX12_readPair_34 rfl (by decide) rfl rfl ?_
    refine SF_aload_n 1 36 dX12_readPair_35 rfl rfl rfl ?_
    refine SF_iconst (1 : Int32) 37 dX12_readPair_36 rfl rfl ?_
    obtain ⟨v10, g11, q12, h⟩ := bd_some h
    have s13 := w_X12_readPlace (X := X) (Nat.le_refl 7) l0 (1 : Int32) g7 g11 v10 k_l0 q12
    refine SF_callVi 40 mi_X12_readPlace ml_X12_180 dX12_readPair_37 (Nat.le_trans (by decide) hd) s13 k_l0.1 rfl rfl (Nat.le_of_ble_eq_true rfl) rfl ?_
    have k_l0 := k_l0.ext s13.1
    refine SF_istore_n [(3, .int v10), (2, .int v6), (0, .ref (ad X l0)), (1, .int l1)] 41 dX12_readPair_40 rfl (by decide) rfl rfl ?_
    refine SF_sub [2, 3, 1, 0] rfl ?_
    exact w_X12_readPair_41 hd FU l0 l1 v6 v10 g11 k_l0 h
  · have h := ite_f c1 h
    exact RT_v rfl dX12_readPair_24 h

set_option maxRecDepth 20000 in
set_option maxHeartbeats 2000000 in
theorem w_X12_readPair {X : CX} {d : Nat} (hd : 9 ≤ d) (l0 : Nat) (g g' : G) (rx : Unit) (k_l0 : KD g l0 12) (h : f_X12_readPair l0 g = some (rx, g')) : Sem X m_X12_readPair d [.ref (ad X l0)] g none g' := by
  refine Sem_of (lo := [(0, .ref (ad X l0))]) (by decide +kernel) rfl (Nat.le_of_ble_eq_true rfl) ?_
  rw [f_X12_readPair] at h
  refine SF_aload_n 0 1 dX12_readPair_0 rfl rfl rfl ?_
  obtain ⟨b1, r2, h⟩ := dr_some h
  refine SF_getR 4 fl_X12_24 dX12_readPair_1 k_l0.1 r2 rfl ?_
  refine SF_iconst (3 : Int32) 5 dX12_readPair_4 rfl rfl ?_
  obtain ⟨k3, h⟩ := gdK_some h
  obtain ⟨i4, h⟩ := gdI_some h
  refine SF_iald 6 dX12_readPair_5 k3.1 i4 rfl ?_
  obtain ⟨y5, e6, h⟩ := li_some h
  refine SF_eqI e6 ?_
  refine SF_istore_n [(1, .int y5), (0, .ref (ad X l0))] 7 dX12_readPair_6 rfl (by decide) rfl rfl ?_
  refine SF_iload_n 0 8 dX12_readPair_7 rfl rfl rfl ?_
  refine SF_iconst (3 : Int32) 9 dX12_readPair_8 rfl rfl ?_
  refine SF_icne 17 12 dX12_readPair_9 rfl rfl (fun c7 => ?_) (fun c7 => ?_)
  · have h := ite_f c7 h
    refine SF_sub [1, 0] rfl ?_
    exact w_X12_readPair_17 hd l0 y5 g k_l0 h
  · have h := ite_t c7 h
    refine SF_aload_n 1 13 dX12_readPair_12 rfl rfl rfl ?_
    refine SF_iconst (4 : Int32) 14 dX12_readPair_13 rfl rfl ?_
    obtain ⟨v8, g9, q10, h⟩ := bd_some h
    have s11 := w_X12_fails (X := X) (Nat.le_refl 0) l0 (4 : Int32) g g9 v8 k_l0 q10
    refine SF_callVv 17 mi_X12_fails ml_X12_135 dX12_readPair_14 (Nat.le_trans (by decide) hd) s11 k_l0.1 rfl rfl (Nat.le_of_ble_eq_true rfl) rfl ?_
    have k_l0 := k_l0.ext s11.1
    have k3 := k3.ext s11.1
    refine SF_sub [1, 0] rfl ?_
    exact w_X12_readPair_17 hd l0 y5 g9 k_l0 h

theorem dX12_readLaw_0 : decode cX12_readLaw 0 = .ok (.aload_n 0, 1) := by decide +kernel
theorem dX12_readLaw_1 : decode cX12_readLaw 1 = .ok (.invokevirtual 132, 3) := by decide +kernel
theorem dX12_readLaw_4 : decode cX12_readLaw 4 = .ok (.aload_n 0, 1) := by decide +kernel
theorem dX12_readLaw_5 : decode cX12_readLaw 5 = .ok (.bipush 31, 2) := by decide +kernel
theorem dX12_readLaw_7 : decode cX12_readLaw 7 = .ok (.invokevirtual 155, 3) := by decide +kernel
theorem dX12_readLaw_10 : decode cX12_readLaw 10 = .ok (.ifCond .ne 8, 3) := by decide +kernel
theorem dX12_readLaw_13 : decode cX12_readLaw 13 = .ok (.aload_n 0, 1) := by decide +kernel
theorem dX12_readLaw_14 : decode cX12_readLaw 14 = .ok (.iconst 2, 1) := by decide +kernel
theorem dX12_readLaw_15 : decode cX12_readLaw 15 = .ok (.invokevirtual 135, 3) := by decide +kernel
theorem dX12_readLaw_18 : decode cX12_readLaw 18 = .ok (.aload_n 0, 1) := by decide +kernel
theorem dX12_readLaw_19 : decode cX12_readLaw 19 = .ok (.getfield 24, 3) := by decide +kernel
theorem dX12_readLaw_22 : decode cX12_readLaw 22 = .ok (.sipush 614, 3) := by decide +kernel
theorem dX12_readLaw_25 : decode cX12_readLaw 25 = .ok (.iaload, 1) := by decide +kernel
theorem dX12_readLaw_26 : decode cX12_readLaw 26 = .ok (.istore_n 2, 1) := by decide +kernel
theorem dX12_readLaw_27 : decode cX12_readLaw 27 = .ok (.iload_n 1, 1) := by decide +kernel
theorem dX12_readLaw_28 : decode cX12_readLaw 28 = .ok (.iconst 1, 1) := by decide +kernel
theorem dX12_readLaw_29 : decode cX12_readLaw 29 = .ok (.if_icmp .ne 11, 3) := by decide +kernel
theorem dX12_readLaw_32 : decode cX12_readLaw 32 = .ok (.aload_n 0, 1) := by decide +kernel
theorem dX12_readLaw_33 : decode cX12_readLaw 33 = .ok (.iconst 0, 1) := by decide +kernel
theorem dX12_readLaw_34 : decode cX12_readLaw 34 = .ok (.invokevirtual 152, 3) := by decide +kernel
theorem dX12_readLaw_37 : decode cX12_readLaw 37 = .ok (.goto 8, 3) := by decide +kernel
theorem dX12_readLaw_40 : decode cX12_readLaw 40 = .ok (.aload_n 0, 1) := by decide +kernel
theorem dX12_readLaw_41 : decode cX12_readLaw 41 = .ok (.iconst 0, 1) := by decide +kernel
theorem dX12_readLaw_42 : decode cX12_readLaw 42 = .ok (.invokevirtual 167, 3) := by decide +kernel
theorem dX12_readLaw_45 : decode cX12_readLaw 45 = .ok (.aload_n 0, 1) := by decide +kernel
theorem dX12_readLaw_46 : decode cX12_readLaw 46 = .ok (.getfield 123, 3) := by decide +kernel
theorem dX12_readLaw_49 : decode cX12_readLaw 49 = .ok (.ifCond .eq 4, 3) := by decide +kernel
theorem dX12_readLaw_52 : decode cX12_readLaw 52 = .ok (.return_, 1) := by decide +kernel
theorem dX12_readLaw_53 : decode cX12_readLaw 53 = .ok (.aload_n 0, 1) := by decide +kernel
theorem dX12_readLaw_54 : decode cX12_readLaw 54 = .ok (.getfield 24, 3) := by decide +kernel
theorem dX12_readLaw_57 : decode cX12_readLaw 57 = .ok (.iconst 4, 1) := by decide +kernel
theorem dX12_readLaw_58 : decode cX12_readLaw 58 = .ok (.iload_n 1, 1) := by decide +kernel
theorem dX12_readLaw_59 : decode cX12_readLaw 59 = .ok (.iadd, 1) := by decide +kernel
theorem dX12_readLaw_60 : decode cX12_readLaw 60 = .ok (.iconst 1, 1) := by decide +kernel
theorem dX12_readLaw_61 : decode cX12_readLaw 61 = .ok (.iastore, 1) := by decide +kernel
theorem dX12_readLaw_62 : decode cX12_readLaw 62 = .ok (.aload_n 0, 1) := by decide +kernel
theorem dX12_readLaw_63 : decode cX12_readLaw 63 = .ok (.getfield 24, 3) := by decide +kernel
theorem dX12_readLaw_66 : decode cX12_readLaw 66 = .ok (.bipush 6, 2) := by decide +kernel
theorem dX12_readLaw_68 : decode cX12_readLaw 68 = .ok (.iload_n 1, 1) := by decide +kernel
theorem dX12_readLaw_69 : decode cX12_readLaw 69 = .ok (.iadd, 1) := by decide +kernel
theorem dX12_readLaw_70 : decode cX12_readLaw 70 = .ok (.iload_n 2, 1) := by decide +kernel
theorem dX12_readLaw_71 : decode cX12_readLaw 71 = .ok (.iastore, 1) := by decide +kernel
theorem dX12_readLaw_72 : decode cX12_readLaw 72 = .ok (.aload_n 0, 1) := by decide +kernel
theorem dX12_readLaw_73 : decode cX12_readLaw 73 = .ok (.getfield 24, 3) := by decide +kernel
theorem dX12_readLaw_76 : decode cX12_readLaw 76 = .ok (.bipush 8, 2) := by decide +kernel
theorem dX12_readLaw_78 : decode cX12_readLaw 78 = .ok (.iload_n 1, 1) := by decide +kernel
theorem dX12_readLaw_79 : decode cX12_readLaw 79 = .ok (.iadd, 1) := by decide +kernel
theorem dX12_readLaw_80 : decode cX12_readLaw 80 = .ok (.aload_n 0, 1) := by decide +kernel
theorem dX12_readLaw_81 : decode cX12_readLaw 81 = .ok (.getfield 24, 3) := by decide +kernel
theorem dX12_readLaw_84 : decode cX12_readLaw 84 = .ok (.sipush 614, 3) := by decide +kernel
theorem dX12_readLaw_87 : decode cX12_readLaw 87 = .ok (.iaload, 1) := by decide +kernel
theorem dX12_readLaw_88 : decode cX12_readLaw 88 = .ok (.iload_n 2, 1) := by decide +kernel
theorem dX12_readLaw_89 : decode cX12_readLaw 89 = .ok (.isub, 1) := by decide +kernel
theorem dX12_readLaw_90 : decode cX12_readLaw 90 = .ok (.iastore, 1) := by decide +kernel
theorem dX12_readLaw_91 : decode cX12_readLaw 91 = .ok (.return_, 1) := by decide +kernel
set_option maxRecDepth 20000 in
set_option maxHeartbeats 2000000 in
theorem w_X12_readLaw_45 {X : CX} {d : Nat} (hd : 61 ≤ d) {g' : G} {rx : Unit} (l0 : Nat) (l1 : Int32) (l2 : Int32) (g : G) (k_l0 : KD g l0 12) (h : f_X12_readLaw_45 l0 l1 l2 g = some (rx, g')) : SemF X m_X12_readLaw d 45 [(0, .ref (ad X l0)), (1, .int l1), (2, .int l2)] [] g none g' := by
  rw [f_X12_readLaw_45] at h
  refine SF_aload_n 0 46 dX12_readLaw_45 rfl rfl rfl ?_
  refine SF_getI 49 fl_X12_123 dX12_readLaw_46 k_l0.1 rfl ?_
  refine SF_ifeq 53 52 dX12_readLaw_49 rfl rfl (fun c1 => ?_) (fun c1 => ?_)
  · have h := ite_t c1 h
    refine SF_aload_n 0 54 dX12_readLaw_53 rfl rfl rfl ?_
    obtain ⟨b2, r3, h⟩ := dr_some h
    refine SF_getR 57 fl_X12_24 dX12_readLaw_54 k_l0.1 r3 rfl ?_
    refine SF_iconst (4 : Int32) 58 dX12_readLaw_57 rfl rfl ?_
    refine SF_iload_n 1 59 dX12_readLaw_58 rfl rfl rfl ?_
    refine SF_iadd 60 dX12_readLaw_59 rfl ?_
    refine SF_iconst (1 : Int32) 61 dX12_readLaw_60 rfl rfl ?_
    obtain ⟨k4, h⟩ := gdK_some h
    obtain ⟨i5, h⟩ := gdI_some h
    refine SF_iast 62 dX12_readLaw_61 k4.1 i5 rfl ?_
    obtain ⟨g6, e7, h⟩ := lg_some h
    rw [← e7]
    have k_l0 := KD.eq e7 k_l0
    have k4 := KD.eq e7 k4
    have r3 := gR_eq e7 r3
    have i5 := vp_eq e7 i5
    refine SF_aload_n 0 63 dX12_readLaw_62 rfl rfl rfl ?_
    refine SF_getR 66 fl_X12_24 dX12_readLaw_63 k_l0.1 r3 rfl ?_
    refine SF_bipush (6 : Int32) 68 dX12_readLaw_66 rfl rfl ?_
    refine SF_iload_n 1 69 dX12_readLaw_68 rfl rfl rfl ?_
    refine SF_iadd 70 dX12_readLaw_69 rfl ?_
    refine SF_iload_n 2 71 dX12_readLaw_70 rfl rfl rfl ?_
    obtain ⟨i8, h⟩ := gdI_some h
    refine SF_iast 72 dX12_readLaw_71 k4.1 i8 rfl ?_
    obtain ⟨g9, e10, h⟩ := lg_some h
    rw [← e10]
    have k_l0 := KD.eq e10 k_l0
    have k4 := KD.eq e10 k4
    have r3 := gR_eq e10 r3
    have i5 := vp_eq e10 i5
    have i8 := vp_eq e10 i8
    refine SF_aload_n 0 73 dX12_readLaw_72 rfl rfl rfl ?_
    refine SF_getR 76 fl_X12_24 dX12_readLaw_73 k_l0.1 r3 rfl ?_
    refine SF_bipush (8 : Int32) 78 dX12_readLaw_76 rfl rfl ?_
    refine SF_iload_n 1 79 dX12_readLaw_78 rfl rfl rfl ?_
    refine SF_iadd 80 dX12_readLaw_79 rfl ?_
    refine SF_aload_n 0 81 dX12_readLaw_80 rfl rfl rfl ?_
    refine SF_getR 84 fl_X12_24 dX12_readLaw_81 k_l0.1 r3 rfl ?_
    refine SF_sipush (614 : Int32) 87 dX12_readLaw_84 rfl rfl ?_
    obtain ⟨i11, h⟩ := gdI_some h
    refine SF_iald 88 dX12_readLaw_87 k4.1 i11 rfl ?_
    refine SF_iload_n 2 89 dX12_readLaw_88 rfl rfl rfl ?_
    refine SF_isub 90 dX12_readLaw_89 rfl ?_
    obtain ⟨i12, h⟩ := gdI_some h
    refine SF_iast 91 dX12_readLaw_90 k4.1 i12 rfl ?_
    obtain ⟨g13, e14, h⟩ := lg_some h
    rw [← e14]
    have k_l0 := KD.eq e14 k_l0
    have k4 := KD.eq e14 k4
    have r3 := gR_eq e14 r3
    have i5 := vp_eq e14 i5
    have i8 := vp_eq e14 i8
    have i11 := vp_eq e14 i11
    have i12 := vp_eq e14 i12
    exact RT_v rfl dX12_readLaw_91 h
  · have h := ite_f c1 h
    exact RT_v rfl dX12_readLaw_52 h

set_option maxRecDepth 20000 in
set_option maxHeartbeats 2000000 in
theorem w_X12_readLaw_18 {X : CX} {d : Nat} (hd : 61 ≤ d) {g' : G} {rx : Unit} (l0 : Nat) (l1 : Int32) (g : G) (k_l0 : KD g l0 12) (h : f_X12_readLaw_18 l0 l1 g = some (rx, g')) : SemF X m_X12_readLaw d 18 [(0, .ref (ad X l0)), (1, .int l1)] [] g none g' := by
  rw [f_X12_readLaw_18] at h
  refine SF_aload_n 0 19 dX12_readLaw_18 rfl rfl rfl ?_
  obtain ⟨b1, r2, h⟩ := dr_some h
  refine SF_getR 22 fl_X12_24 dX12_readLaw_19 k_l0.1 r2 rfl ?_
  refine SF_sipush (614 : Int32) 25 dX12_readLaw_22 rfl rfl ?_
  obtain ⟨k3, h⟩ := gdK_some h
  obtain ⟨i4, h⟩ := gdI_some h
  refine SF_iald 26 dX12_readLaw_25 k3.1 i4 rfl ?_
  obtain ⟨y5, e6, h⟩ := li_some h
  refine SF_eqI e6 ?_
  refine SF_istore_n [(2, .int y5), (0, .ref (ad X l0)), (1, .int l1)] 27 dX12_readLaw_26 rfl (by decide) rfl rfl ?_
  refine SF_iload_n 2 28 dX12_readLaw_27 rfl rfl rfl ?_
  refine SF_iconst (1 : Int32) 29 dX12_readLaw_28 rfl rfl ?_
  refine SF_icne 40 32 dX12_readLaw_29 rfl rfl (fun c7 => ?_) (fun c7 => ?_)
  · have h := ite_f c7 h
    refine SF_aload_n 1 41 dX12_readLaw_40 rfl rfl rfl ?_
    refine SF_iconst (0 : Int32) 42 dX12_readLaw_41 rfl rfl ?_
    obtain ⟨v8, g9, q10, h⟩ := bd_some h
    have s11 := w_X12_readTruth_T (X := X) (Nat.le_refl 60) l0 (0 : Int32) g g9 v8 k_l0 q10
    refine SF_callVv 45 mi_X12_readTruth ml_X12_167 dX12_readLaw_42 (Nat.le_trans (by decide) hd) s11 k_l0.1 rfl rfl (Nat.le_of_ble_eq_true rfl) rfl ?_
    have k_l0 := k_l0.ext s11.1
    have k3 := k3.ext s11.1
    refine SF_sub [1, 2, 0] rfl ?_
    exact w_X12_readLaw_45 hd l0 l1 y5 g9 k_l0 h
  · have h := ite_t c7 h
    refine SF_aload_n 1 33 dX12_readLaw_32 rfl rfl rfl ?_
    refine SF_iconst (0 : Int32) 34 dX12_readLaw_33 rfl rfl ?_
    obtain ⟨v12, g13, q14, h⟩ := bd_some h
    have s15 := w_X12_readSum_T (X := X) (Nat.le_refl 60) l0 (0 : Int32) g g13 v12 k_l0 q14
    refine SF_callVv 37 mi_X12_readSum ml_X12_152 dX12_readLaw_34 (Nat.le_trans (by decide) hd) s15 k_l0.1 rfl rfl (Nat.le_of_ble_eq_true rfl) rfl ?_
    have k_l0 := k_l0.ext s15.1
    have k3 := k3.ext s15.1
    refine SF_goto 45 dX12_readLaw_37 rfl ?_
    refine SF_sub [1, 2, 0] rfl ?_
    exact w_X12_readLaw_45 hd l0 l1 y5 g13 k_l0 h

set_option maxRecDepth 20000 in
set_option maxHeartbeats 2000000 in
theorem w_X12_readLaw {X : CX} {d : Nat} (hd : 61 ≤ d) (l0 : Nat) (l1 : Int32) (g g' : G) (rx : Unit) (k_l0 : KD g l0 12) (h : f_X12_readLaw l0 l1 g = some (rx, g')) : Sem X m_X12_readLaw d [.ref (ad X l0), .int l1] g none g' := by
  refine Sem_of (lo := [(0, .ref (ad X l0)), (1, .int l1)]) (by decide +kernel) rfl (Nat.le_of_ble_eq_true rfl) ?_
  rw [f_X12_readLaw] at h
  refine SF_aload_n 0 1 dX12_readLaw_0 rfl rfl rfl ?_
  obtain ⟨v1, g2, q3, h⟩ := bd_some h
  have s4 := w_X12_next (X := X) (Nat.le_refl 5) l0 g g2 v1 k_l0 q3
  refine SF_callVv 4 mi_X12_next ml_X12_132 dX12_readLaw_1 (Nat.le_trans (by decide) hd) s4 k_l0.1 rfl rfl (Nat.le_of_ble_eq_true rfl) rfl ?_
  have k_l0 := k_l0.ext s4.1
  refine SF_aload_n 0 5 dX12_readLaw_4 rfl rfl rfl ?_
  refine SF_bipush (31 : Int32) 7 dX12_readLaw_5 rfl rfl ?_
  obtain ⟨v5, g6, q7, h⟩ := bd_some h
  have s8 := w_X12_eats (X := X) (Nat.le_refl 6) l0 (31 : Int32) g2 g6 v5 k_l0 q7
  refine SF_callVb 10 mi_X12_eats ml_X12_155 dX12_readLaw_7 (Nat.le_trans (by decide) hd) s8 k_l0.1 rfl rfl (Nat.le_of_ble_eq_true rfl) rfl ?_
  have k_l0 := k_l0.ext s8.1
  refine SF_ifne 18 13 dX12_readLaw_10 rfl rfl (fun c9 => ?_) (fun c9 => ?_)
  · have h := ite_f c9 h
    exact w_X12_readLaw_18 hd l0 l1 g6 k_l0 h
  · have h := ite_t c9 h
    refine SF_aload_n 0 14 dX12_readLaw_13 rfl rfl rfl ?_
    refine SF_iconst (2 : Int32) 15 dX12_readLaw_14 rfl rfl ?_
    obtain ⟨v10, g11, q12, h⟩ := bd_some h
    have s13 := w_X12_fails (X := X) (Nat.le_refl 0) l0 (2 : Int32) g6 g11 v10 k_l0 q12
    refine SF_callVv 18 mi_X12_fails ml_X12_135 dX12_readLaw_15 (Nat.le_trans (by decide) hd) s13 k_l0.1 rfl rfl (Nat.le_of_ble_eq_true rfl) rfl ?_
    have k_l0 := k_l0.ext s13.1
    exact w_X12_readLaw_18 hd l0 l1 g11 k_l0 h

theorem dX12_readLine_0 : decode cX12_readLine 0 = .ok (.aload_n 0, 1) := by decide +kernel
theorem dX12_readLine_1 : decode cX12_readLine 1 = .ok (.getfield 123, 3) := by decide +kernel
theorem dX12_readLine_4 : decode cX12_readLine 4 = .ok (.ifCond .eq 4, 3) := by decide +kernel
theorem dX12_readLine_7 : decode cX12_readLine 7 = .ok (.return_, 1) := by decide +kernel
theorem dX12_readLine_8 : decode cX12_readLine 8 = .ok (.aload_n 0, 1) := by decide +kernel
theorem dX12_readLine_9 : decode cX12_readLine 9 = .ok (.iconst 1, 1) := by decide +kernel
theorem dX12_readLine_10 : decode cX12_readLine 10 = .ok (.invokevirtual 129, 3) := by decide +kernel
theorem dX12_readLine_13 : decode cX12_readLine 13 = .ok (.ifCond .eq 10, 3) := by decide +kernel
theorem dX12_readLine_16 : decode cX12_readLine 16 = .ok (.aload_n 0, 1) := by decide +kernel
theorem dX12_readLine_17 : decode cX12_readLine 17 = .ok (.invokevirtual 187, 3) := by decide +kernel
theorem dX12_readLine_20 : decode cX12_readLine 20 = .ok (.goto 53, 3) := by decide +kernel
theorem dX12_readLine_23 : decode cX12_readLine 23 = .ok (.aload_n 0, 1) := by decide +kernel
theorem dX12_readLine_24 : decode cX12_readLine 24 = .ok (.iconst 2, 1) := by decide +kernel
theorem dX12_readLine_25 : decode cX12_readLine 25 = .ok (.invokevirtual 129, 3) := by decide +kernel
theorem dX12_readLine_28 : decode cX12_readLine 28 = .ok (.ifCond .eq 10, 3) := by decide +kernel
theorem dX12_readLine_31 : decode cX12_readLine 31 = .ok (.aload_n 0, 1) := by decide +kernel
theorem dX12_readLine_32 : decode cX12_readLine 32 = .ok (.invokevirtual 190, 3) := by decide +kernel
theorem dX12_readLine_35 : decode cX12_readLine 35 = .ok (.goto 38, 3) := by decide +kernel
theorem dX12_readLine_38 : decode cX12_readLine 38 = .ok (.aload_n 0, 1) := by decide +kernel
theorem dX12_readLine_39 : decode cX12_readLine 39 = .ok (.iconst 5, 1) := by decide +kernel
theorem dX12_readLine_40 : decode cX12_readLine 40 = .ok (.invokevirtual 129, 3) := by decide +kernel
theorem dX12_readLine_43 : decode cX12_readLine 43 = .ok (.ifCond .ne 12, 3) := by decide +kernel
theorem dX12_readLine_46 : decode cX12_readLine 46 = .ok (.aload_n 0, 1) := by decide +kernel
theorem dX12_readLine_47 : decode cX12_readLine 47 = .ok (.bipush 6, 2) := by decide +kernel
theorem dX12_readLine_49 : decode cX12_readLine 49 = .ok (.invokevirtual 129, 3) := by decide +kernel
theorem dX12_readLine_52 : decode cX12_readLine 52 = .ok (.ifCond .eq 16, 3) := by decide +kernel
theorem dX12_readLine_55 : decode cX12_readLine 55 = .ok (.aload_n 0, 1) := by decide +kernel
theorem dX12_readLine_56 : decode cX12_readLine 56 = .ok (.aload_n 0, 1) := by decide +kernel
theorem dX12_readLine_57 : decode cX12_readLine 57 = .ok (.getfield 105, 3) := by decide +kernel
theorem dX12_readLine_60 : decode cX12_readLine 60 = .ok (.iconst 5, 1) := by decide +kernel
theorem dX12_readLine_61 : decode cX12_readLine 61 = .ok (.isub, 1) := by decide +kernel
theorem dX12_readLine_62 : decode cX12_readLine 62 = .ok (.invokevirtual 193, 3) := by decide +kernel
theorem dX12_readLine_65 : decode cX12_readLine 65 = .ok (.goto 8, 3) := by decide +kernel
theorem dX12_readLine_68 : decode cX12_readLine 68 = .ok (.aload_n 0, 1) := by decide +kernel
theorem dX12_readLine_69 : decode cX12_readLine 69 = .ok (.iconst 2, 1) := by decide +kernel
theorem dX12_readLine_70 : decode cX12_readLine 70 = .ok (.invokevirtual 135, 3) := by decide +kernel
theorem dX12_readLine_73 : decode cX12_readLine 73 = .ok (.return_, 1) := by decide +kernel
set_option maxRecDepth 20000 in
set_option maxHeartbeats 2000000 in
theorem w_X12_readLine_55 {X : CX} {d : Nat} (hd : 62 ≤ d) {g' : G} {rx : Unit} (l0 : Nat) (g : G) (k_l0 : KD g l0 12) (h : f_X12_readLine_55 l0 g = some (rx, g')) : SemF X m_X12_readLine d 55 [(0, .ref (ad X l0))] [] g none g' := by
  rw [f_X12_readLine_55] at h
  refine SF_aload_n 0 56 dX12_readLine_55 rfl rfl rfl ?_
  refine SF_aload_n 0 57 dX12_readLine_56 rfl rfl rfl ?_
  refine SF_getI 60 fl_X12_105 dX12_readLine_57 k_l0.1 rfl ?_
  refine SF_iconst (5 : Int32) 61 dX12_readLine_60 rfl rfl ?_
  refine SF_isub 62 dX12_readLine_61 rfl ?_
  obtain ⟨v1, g2, q3, h⟩ := bd_some h
  have s4 := w_X12_readLaw (X := X) (Nat.le_refl 61) l0 ((gI g l0 9) - (5 : Int32)) g g2 v1 k_l0 q3
  refine SF_callVv 65 mi_X12_readLaw ml_X12_193 dX12_readLine_62 (Nat.le_trans (by decide) hd) s4 k_l0.1 rfl rfl (Nat.le_of_ble_eq_true rfl) rfl ?_
  have k_l0 := k_l0.ext s4.1
  refine SF_goto 73 dX12_readLine_65 rfl ?_
  exact RT_v rfl dX12_readLine_73 h

set_option maxRecDepth 20000 in
set_option maxHeartbeats 2000000 in
theorem w_X12_readLine {X : CX} {d : Nat} (hd : 62 ≤ d) (l0 : Nat) (g g' : G) (rx : Unit) (k_l0 : KD g l0 12) (h : f_X12_readLine l0 g = some (rx, g')) : Sem X m_X12_readLine d [.ref (ad X l0)] g none g' := by
  refine Sem_of (lo := [(0, .ref (ad X l0))]) (by decide +kernel) rfl (Nat.le_of_ble_eq_true rfl) ?_
  rw [f_X12_readLine] at h
  refine SF_aload_n 0 1 dX12_readLine_0 rfl rfl rfl ?_
  refine SF_getI 4 fl_X12_123 dX12_readLine_1 k_l0.1 rfl ?_
  refine SF_ifeq 8 7 dX12_readLine_4 rfl rfl (fun c1 => ?_) (fun c1 => ?_)
  · have h := ite_t c1 h
    refine SF_aload_n 0 9 dX12_readLine_8 rfl rfl rfl ?_
    refine SF_iconst (1 : Int32) 10 dX12_readLine_9 rfl rfl ?_
    obtain ⟨v2, g3, q4, h⟩ := bd_some h
    have s5 := w_X12_is (X := X) (Nat.le_refl 0) l0 (1 : Int32) g g3 v2 k_l0 q4
    refine SF_callVb 13 mi_X12_is ml_X12_129 dX12_readLine_10 (Nat.le_trans (by decide) hd) s5 k_l0.1 rfl rfl (Nat.le_of_ble_eq_true rfl) rfl ?_
    have k_l0 := k_l0.ext s5.1
    refine SF_ifeq 23 16 dX12_readLine_13 rfl rfl (fun c6 => ?_) (fun c6 => ?_)
    · have h := ite_t c6 h
      refine SF_aload_n 0 24 dX12_readLine_23 rfl rfl rfl ?_
      refine SF_iconst (2 : Int32) 25 dX12_readLine_24 rfl rfl ?_
      obtain ⟨v7, g8, q9, h⟩ := bd_some h
      have s10 := w_X12_is (X := X) (Nat.le_refl 0) l0 (2 : Int32) g3 g8 v7 k_l0 q9
      refine SF_callVb 28 mi_X12_is ml_X12_129 dX12_readLine_25 (Nat.le_trans (by decide) hd) s10 k_l0.1 rfl rfl (Nat.le_of_ble_eq_true rfl) rfl ?_
      have k_l0 := k_l0.ext s10.1
      refine SF_ifeq 38 31 dX12_readLine_28 rfl rfl (fun c11 => ?_) (fun c11 => ?_)
      · have h := ite_t c11 h
        refine SF_aload_n 0 39 dX12_readLine_38 rfl rfl rfl ?_
        refine SF_iconst (5 : Int32) 40 dX12_readLine_39 rfl rfl ?_
        obtain ⟨v12, g13, q14, h⟩ := bd_some h
        have s15 := w_X12_is (X := X) (Nat.le_refl 0) l0 (5 : Int32) g8 g13 v12 k_l0 q14
        refine SF_callVb 43 mi_X12_is ml_X12_129 dX12_readLine_40 (Nat.le_trans (by decide) hd) s15 k_l0.1 rfl rfl (Nat.le_of_ble_eq_true rfl) rfl ?_
        have k_l0 := k_l0.ext s15.1
        refine SF_ifne 55 46 dX12_readLine_43 rfl rfl (fun c16 => ?_) (fun c16 => ?_)
        · have h := ite_f c16 h
          exact w_X12_readLine_55 hd l0 g13 k_l0 h
        · have h := ite_t c16 h
          refine SF_aload_n 0 47 dX12_readLine_46 rfl rfl rfl ?_
          refine SF_bipush (6 : Int32) 49 dX12_readLine_47 rfl rfl ?_
          obtain ⟨v17, g18, q19, h⟩ := bd_some h
          have s20 := w_X12_is (X := X) (Nat.le_refl 0) l0 (6 : Int32) g13 g18 v17 k_l0 q19
          refine SF_callVb 52 mi_X12_is ml_X12_129 dX12_readLine_49 (Nat.le_trans (by decide) hd) s20 k_l0.1 rfl rfl (Nat.le_of_ble_eq_true rfl) rfl ?_
          have k_l0 := k_l0.ext s20.1
          refine SF_ifeq 68 55 dX12_readLine_52 rfl rfl (fun c21 => ?_) (fun c21 => ?_)
          · have h := ite_t c21 h
            refine SF_aload_n 0 69 dX12_readLine_68 rfl rfl rfl ?_
            refine SF_iconst (2 : Int32) 70 dX12_readLine_69 rfl rfl ?_
            obtain ⟨v22, g23, q24, h⟩ := bd_some h
            have s25 := w_X12_fails (X := X) (Nat.le_refl 0) l0 (2 : Int32) g18 g23 v22 k_l0 q24
            refine SF_callVv 73 mi_X12_fails ml_X12_135 dX12_readLine_70 (Nat.le_trans (by decide) hd) s25 k_l0.1 rfl rfl (Nat.le_of_ble_eq_true rfl) rfl ?_
            have k_l0 := k_l0.ext s25.1
            exact RT_v rfl dX12_readLine_73 h
          · have h := ite_f c21 h
            exact w_X12_readLine_55 hd l0 g18 k_l0 h
      · have h := ite_f c11 h
        refine SF_aload_n 0 32 dX12_readLine_31 rfl rfl rfl ?_
        obtain ⟨v26, g27, q28, h⟩ := bd_some h
        have s29 := w_X12_readPair (X := X) (Nat.le_refl 9) l0 g8 g27 v26 k_l0 q28
        refine SF_callVv 35 mi_X12_readPair ml_X12_190 dX12_readLine_32 (Nat.le_trans (by decide) hd) s29 k_l0.1 rfl rfl (Nat.le_of_ble_eq_true rfl) rfl ?_
        have k_l0 := k_l0.ext s29.1
        refine SF_goto 73 dX12_readLine_35 rfl ?_
        exact RT_v rfl dX12_readLine_73 h
    · have h := ite_f c6 h
      refine SF_aload_n 0 17 dX12_readLine_16 rfl rfl rfl ?_
      obtain ⟨v30, g31, q32, h⟩ := bd_some h
      have s33 := w_X12_readRow (X := X) (Nat.le_refl 7) l0 g3 g31 v30 k_l0 q32
      refine SF_callVv 20 mi_X12_readRow ml_X12_187 dX12_readLine_17 (Nat.le_trans (by decide) hd) s33 k_l0.1 rfl rfl (Nat.le_of_ble_eq_true rfl) rfl ?_
      have k_l0 := k_l0.ext s33.1
      refine SF_goto 73 dX12_readLine_20 rfl ?_
      exact RT_v rfl dX12_readLine_73 h
  · have h := ite_f c1 h
    exact RT_v rfl dX12_readLine_7 h

theorem dX12_twinOf_0 : decode cX12_twinOf 0 = .ok (.aload_n 0, 1) := by decide +kernel
theorem dX12_twinOf_1 : decode cX12_twinOf 1 = .ok (.getfield 13, 3) := by decide +kernel
theorem dX12_twinOf_4 : decode cX12_twinOf 4 = .ok (.bipush 88, 2) := by decide +kernel
theorem dX12_twinOf_6 : decode cX12_twinOf 6 = .ok (.iconst 2, 1) := by decide +kernel
theorem dX12_twinOf_7 : decode cX12_twinOf 7 = .ok (.iload_n 1, 1) := by decide +kernel
theorem dX12_twinOf_8 : decode cX12_twinOf 8 = .ok (.imul, 1) := by decide +kernel
theorem dX12_twinOf_9 : decode cX12_twinOf 9 = .ok (.iadd, 1) := by decide +kernel
theorem dX12_twinOf_10 : decode cX12_twinOf 10 = .ok (.iload_n 2, 1) := by decide +kernel
theorem dX12_twinOf_11 : decode cX12_twinOf 11 = .ok (.iadd, 1) := by decide +kernel
theorem dX12_twinOf_12 : decode cX12_twinOf 12 = .ok (.iaload, 1) := by decide +kernel
theorem dX12_twinOf_13 : decode cX12_twinOf 13 = .ok (.ireturn, 1) := by decide +kernel
set_option maxRecDepth 20000 in
set_option maxHeartbeats 2000000 in
theorem w_X12_twinOf {X : CX} {d : Nat} (hd : 0 ≤ d) (l0 : Nat) (l1 : Int32) (l2 : Int32) (g g' : G) (rx : Int32) (k_l0 : KD g l0 12) (h : f_X12_twinOf l0 l1 l2 g = some (rx, g')) : Sem X m_X12_twinOf d [.ref (ad X l0), .int l1, .int l2] g (some (.int rx)) g' := by
  refine Sem_of (lo := [(0, .ref (ad X l0)), (1, .int l1), (2, .int l2)]) (by decide +kernel) rfl (Nat.le_of_ble_eq_true rfl) ?_
  rw [f_X12_twinOf] at h
  refine SF_aload_n 0 1 dX12_twinOf_0 rfl rfl rfl ?_
  obtain ⟨b1, r2, h⟩ := dr_some h
  refine SF_getR 4 fl_X12_13 dX12_twinOf_1 k_l0.1 r2 rfl ?_
  refine SF_bipush (88 : Int32) 6 dX12_twinOf_4 rfl rfl ?_
  refine SF_iconst (2 : Int32) 7 dX12_twinOf_6 rfl rfl ?_
  refine SF_iload_n 1 8 dX12_twinOf_7 rfl rfl rfl ?_
  refine SF_imul 9 dX12_twinOf_8 rfl ?_
  refine SF_iadd 10 dX12_twinOf_9 rfl ?_
  refine SF_iload_n 2 11 dX12_twinOf_10 rfl rfl rfl ?_
  refine SF_iadd 12 dX12_twinOf_11 rfl ?_
  obtain ⟨k3, h⟩ := gdK_some h
  obtain ⟨i4, h⟩ := gdI_some h
  refine SF_iald 13 dX12_twinOf_12 k3.1 i4 rfl ?_
  exact RT_i rfl dX12_twinOf_13 h

theorem dX12_less_0 : decode cX12_less 0 = .ok (.iload_n 0, 1) := by decide +kernel
theorem dX12_less_1 : decode cX12_less 1 = .ok (.iload_n 1, 1) := by decide +kernel
theorem dX12_less_2 : decode cX12_less 2 = .ok (.if_icmp .ge 9, 3) := by decide +kernel
theorem dX12_less_5 : decode cX12_less 5 = .ok (.iload_n 1, 1) := by decide +kernel
theorem dX12_less_6 : decode cX12_less 6 = .ok (.iload_n 0, 1) := by decide +kernel
theorem dX12_less_7 : decode cX12_less 7 = .ok (.isub, 1) := by decide +kernel
theorem dX12_less_8 : decode cX12_less 8 = .ok (.goto 6, 3) := by decide +kernel
theorem dX12_less_11 : decode cX12_less 11 = .ok (.iload_n 0, 1) := by decide +kernel
theorem dX12_less_12 : decode cX12_less 12 = .ok (.iload_n 1, 1) := by decide +kernel
theorem dX12_less_13 : decode cX12_less 13 = .ok (.isub, 1) := by decide +kernel
theorem dX12_less_14 : decode cX12_less 14 = .ok (.ireturn, 1) := by decide +kernel
set_option maxRecDepth 20000 in
set_option maxHeartbeats 2000000 in
theorem w_X12_less {X : CX} {d : Nat} (hd : 0 ≤ d) (l0 : Int32) (l1 : Int32) (g g' : G) (rx : Int32) (h : f_X12_less l0 l1 g = some (rx, g')) : Sem X m_X12_less d [.int l0, .int l1] g (some (.int rx)) g' := by
  refine Sem_of (lo := [(0, .int l0), (1, .int l1)]) (by decide +kernel) rfl (Nat.le_of_ble_eq_true rfl) ?_
  rw [f_X12_less] at h
  refine SF_iload_n 0 1 dX12_less_0 rfl rfl rfl ?_
  refine SF_iload_n 1 2 dX12_less_1 rfl rfl rfl ?_
  refine SF_icge 11 5 dX12_less_2 rfl rfl (fun c1 => ?_) (fun c1 => ?_)
  · have h := ite_t c1 h
    refine SF_iload_n 0 12 dX12_less_11 rfl rfl rfl ?_
    refine SF_iload_n 1 13 dX12_less_12 rfl rfl rfl ?_
    refine SF_isub 14 dX12_less_13 rfl ?_
    exact RT_i rfl dX12_less_14 h
  · have h := ite_f c1 h
    refine SF_iload_n 1 6 dX12_less_5 rfl rfl rfl ?_
    refine SF_iload_n 0 7 dX12_less_6 rfl rfl rfl ?_
    refine SF_isub 8 dX12_less_7 rfl ?_
    refine SF_goto 14 dX12_less_8 rfl ?_
    exact RT_i rfl dX12_less_14 h

theorem dX12_apart_0 : decode cX12_apart 0 = .ok (.iload_n 1, 1) := by decide +kernel
theorem dX12_apart_1 : decode cX12_apart 1 = .ok (.aload_n 0, 1) := by decide +kernel
theorem dX12_apart_2 : decode cX12_apart 2 = .ok (.getfield 13, 3) := by decide +kernel
theorem dX12_apart_5 : decode cX12_apart 5 = .ok (.iconst 2, 1) := by decide +kernel
theorem dX12_apart_6 : decode cX12_apart 6 = .ok (.iaload, 1) := by decide +kernel
theorem dX12_apart_7 : decode cX12_apart 7 = .ok (.idiv, 1) := by decide +kernel
theorem dX12_apart_8 : decode cX12_apart 8 = .ok (.iload_n 2, 1) := by decide +kernel
theorem dX12_apart_9 : decode cX12_apart 9 = .ok (.aload_n 0, 1) := by decide +kernel
theorem dX12_apart_10 : decode cX12_apart 10 = .ok (.getfield 13, 3) := by decide +kernel
theorem dX12_apart_13 : decode cX12_apart 13 = .ok (.iconst 2, 1) := by decide +kernel
theorem dX12_apart_14 : decode cX12_apart 14 = .ok (.iaload, 1) := by decide +kernel
theorem dX12_apart_15 : decode cX12_apart 15 = .ok (.idiv, 1) := by decide +kernel
theorem dX12_apart_16 : decode cX12_apart 16 = .ok (.invokestatic 217, 3) := by decide +kernel
theorem dX12_apart_19 : decode cX12_apart 19 = .ok (.iload_n 1, 1) := by decide +kernel
theorem dX12_apart_20 : decode cX12_apart 20 = .ok (.aload_n 0, 1) := by decide +kernel
theorem dX12_apart_21 : decode cX12_apart 21 = .ok (.getfield 13, 3) := by decide +kernel
theorem dX12_apart_24 : decode cX12_apart 24 = .ok (.iconst 2, 1) := by decide +kernel
theorem dX12_apart_25 : decode cX12_apart 25 = .ok (.iaload, 1) := by decide +kernel
theorem dX12_apart_26 : decode cX12_apart 26 = .ok (.irem, 1) := by decide +kernel
theorem dX12_apart_27 : decode cX12_apart 27 = .ok (.iload_n 2, 1) := by decide +kernel
theorem dX12_apart_28 : decode cX12_apart 28 = .ok (.aload_n 0, 1) := by decide +kernel
theorem dX12_apart_29 : decode cX12_apart 29 = .ok (.getfield 13, 3) := by decide +kernel
theorem dX12_apart_32 : decode cX12_apart 32 = .ok (.iconst 2, 1) := by decide +kernel
theorem dX12_apart_33 : decode cX12_apart 33 = .ok (.iaload, 1) := by decide +kernel
theorem dX12_apart_34 : decode cX12_apart 34 = .ok (.irem, 1) := by decide +kernel
theorem dX12_apart_35 : decode cX12_apart 35 = .ok (.invokestatic 217, 3) := by decide +kernel
theorem dX12_apart_38 : decode cX12_apart 38 = .ok (.iadd, 1) := by decide +kernel
theorem dX12_apart_39 : decode cX12_apart 39 = .ok (.ireturn, 1) := by decide +kernel
set_option maxRecDepth 20000 in
set_option maxHeartbeats 2000000 in
theorem w_X12_apart {X : CX} {d : Nat} (hd : 1 ≤ d) (l0 : Nat) (l1 : Int32) (l2 : Int32) (g g' : G) (rx : Int32) (k_l0 : KD g l0 12) (h : f_X12_apart l0 l1 l2 g = some (rx, g')) : Sem X m_X12_apart d [.ref (ad X l0), .int l1, .int l2] g (some (.int rx)) g' := by
  refine Sem_of (lo := [(0, .ref (ad X l0)), (1, .int l1), (2, .int l2)]) (by decide +kernel) rfl (Nat.le_of_ble_eq_true rfl) ?_
  rw [f_X12_apart] at h
  refine SF_iload_n 1 1 dX12_apart_0 rfl rfl rfl ?_
  refine SF_aload_n 0 2 dX12_apart_1 rfl rfl rfl ?_
  obtain ⟨b1, r2, h⟩ := dr_some h
  refine SF_getR 5 fl_X12_13 dX12_apart_2 k_l0.1 r2 rfl ?_
  refine SF_iconst (2 : Int32) 6 dX12_apart_5 rfl rfl ?_
  obtain ⟨k3, h⟩ := gdK_some h
  obtain ⟨i4, h⟩ := gdI_some h
  refine SF_iald 7 dX12_apart_6 k3.1 i4 rfl ?_
  obtain ⟨z5, h⟩ := gdZ_some h
  refine SF_idiv 8 dX12_apart_7 z5 rfl ?_
  refine SF_iload_n 2 9 dX12_apart_8 rfl rfl rfl ?_
  refine SF_aload_n 0 10 dX12_apart_9 rfl rfl rfl ?_
  refine SF_getR 13 fl_X12_13 dX12_apart_10 k_l0.1 r2 rfl ?_
  refine SF_iconst (2 : Int32) 14 dX12_apart_13 rfl rfl ?_
  refine SF_iald 15 dX12_apart_14 k3.1 i4 rfl ?_
  obtain ⟨z6, h⟩ := gdZ_some h
  refine SF_idiv 16 dX12_apart_15 z6 rfl ?_
  obtain ⟨v7, g8, q9, h⟩ := bd_some h
  have s10 := w_X12_less (X := X) (Nat.le_refl 0) (l1 / (gI g b1 (2 : Int32).toNatClampNeg)) (l2 / (gI g b1 (2 : Int32).toNatClampNeg)) g g8 v7 q9
  refine SF_callSi 19 mi_X12_less ml_X12_217 dX12_apart_16 (Nat.le_trans (by decide) hd) s10 rfl rfl (Nat.le_of_ble_eq_true rfl) rfl ?_
  have k_l0 := k_l0.ext s10.1
  have k3 := k3.ext s10.1
  refine SF_iload_n 1 20 dX12_apart_19 rfl rfl rfl ?_
  refine SF_aload_n 0 21 dX12_apart_20 rfl rfl rfl ?_
  obtain ⟨b11, r12, h⟩ := dr_some h
  refine SF_getR 24 fl_X12_13 dX12_apart_21 k_l0.1 r12 rfl ?_
  refine SF_iconst (2 : Int32) 25 dX12_apart_24 rfl rfl ?_
  obtain ⟨k13, h⟩ := gdK_some h
  obtain ⟨i14, h⟩ := gdI_some h
  refine SF_iald 26 dX12_apart_25 k13.1 i14 rfl ?_
  obtain ⟨z15, h⟩ := gdZ_some h
  refine SF_irem 27 dX12_apart_26 z15 rfl ?_
  refine SF_iload_n 2 28 dX12_apart_27 rfl rfl rfl ?_
  refine SF_aload_n 0 29 dX12_apart_28 rfl rfl rfl ?_
  refine SF_getR 32 fl_X12_13 dX12_apart_29 k_l0.1 r12 rfl ?_
  refine SF_iconst (2 : Int32) 33 dX12_apart_32 rfl rfl ?_
  refine SF_iald 34 dX12_apart_33 k13.1 i14 rfl ?_
  obtain ⟨z16, h⟩ := gdZ_some h
  refine SF_irem 35 dX12_apart_34 z16 rfl ?_
  obtain ⟨v17, g18, q19, h⟩ := bd_some h
  have s20 := w_X12_less (X := X) (Nat.le_refl 0) (l1 - l1 / (gI g8 b11 (2 : Int32).toNatClampNeg) * (gI g8 b11 (2 : Int32).toNatClampNeg)) (l2 - l2 / (gI g8 b11 (2 : Int32).toNatClampNeg) * (gI g8 b11 (2 : Int32).toNatClampNeg)) g8 g18 v17 q19
  refine SF_callSi 38 mi_X12_less ml_X12_217 dX12_apart_35 (Nat.le_trans (by decide) hd) s20 rfl rfl (Nat.le_of_ble_eq_true rfl) rfl ?_
  have k_l0 := k_l0.ext s20.1
  have k3 := k3.ext s20.1
  have k13 := k13.ext s20.1
  refine SF_iadd 39 dX12_apart_38 rfl ?_
  exact RT_i rfl dX12_apart_39 h

theorem dX12_isDone_0 : decode cX12_isDone 0 = .ok (.iconst 0, 1) := by decide +kernel
theorem dX12_isDone_1 : decode cX12_isDone 1 = .ok (.istore_n 2, 1) := by decide +kernel
theorem dX12_isDone_2 : decode cX12_isDone 2 = .ok (.iload_n 2, 1) := by decide +kernel
theorem dX12_isDone_3 : decode cX12_isDone 3 = .ok (.iconst 2, 1) := by decide +kernel
theorem dX12_isDone_4 : decode cX12_isDone 4 = .ok (.if_icmp .ge 46, 3) := by decide +kernel
theorem dX12_isDone_7 : decode cX12_isDone 7 = .ok (.aload_n 0, 1) := by decide +kernel
theorem dX12_isDone_8 : decode cX12_isDone 8 = .ok (.iload_n 1, 1) := by decide +kernel
theorem dX12_isDone_9 : decode cX12_isDone 9 = .ok (.iload_n 2, 1) := by decide +kernel
theorem dX12_isDone_10 : decode cX12_isDone 10 = .ok (.invokevirtual 205, 3) := by decide +kernel
theorem dX12_isDone_13 : decode cX12_isDone 13 = .ok (.aload_n 0, 1) := by decide +kernel
theorem dX12_isDone_14 : decode cX12_isDone 14 = .ok (.getfield 13, 3) := by decide +kernel
theorem dX12_isDone_17 : decode cX12_isDone 17 = .ok (.bipush 46, 2) := by decide +kernel
theorem dX12_isDone_19 : decode cX12_isDone 19 = .ok (.iconst 2, 1) := by decide +kernel
theorem dX12_isDone_20 : decode cX12_isDone 20 = .ok (.iload_n 1, 1) := by decide +kernel
theorem dX12_isDone_21 : decode cX12_isDone 21 = .ok (.imul, 1) := by decide +kernel
theorem dX12_isDone_22 : decode cX12_isDone 22 = .ok (.iadd, 1) := by decide +kernel
theorem dX12_isDone_23 : decode cX12_isDone 23 = .ok (.iload_n 2, 1) := by decide +kernel
theorem dX12_isDone_24 : decode cX12_isDone 24 = .ok (.iadd, 1) := by decide +kernel
theorem dX12_isDone_25 : decode cX12_isDone 25 = .ok (.iaload, 1) := by decide +kernel
theorem dX12_isDone_26 : decode cX12_isDone 26 = .ok (.if_icmp .ne 18, 3) := by decide +kernel
theorem dX12_isDone_29 : decode cX12_isDone 29 = .ok (.aload_n 0, 1) := by decide +kernel
theorem dX12_isDone_30 : decode cX12_isDone 30 = .ok (.getfield 13, 3) := by decide +kernel
theorem dX12_isDone_33 : decode cX12_isDone 33 = .ok (.bipush 100, 2) := by decide +kernel
theorem dX12_isDone_35 : decode cX12_isDone 35 = .ok (.iload_n 1, 1) := by decide +kernel
theorem dX12_isDone_36 : decode cX12_isDone 36 = .ok (.iadd, 1) := by decide +kernel
theorem dX12_isDone_37 : decode cX12_isDone 37 = .ok (.dup2, 1) := by decide +kernel
theorem dX12_isDone_38 : decode cX12_isDone 38 = .ok (.iaload, 1) := by decide +kernel
theorem dX12_isDone_39 : decode cX12_isDone 39 = .ok (.iconst 1, 1) := by decide +kernel
theorem dX12_isDone_40 : decode cX12_isDone 40 = .ok (.iload_n 2, 1) := by decide +kernel
theorem dX12_isDone_41 : decode cX12_isDone 41 = .ok (.ishl, 1) := by decide +kernel
theorem dX12_isDone_42 : decode cX12_isDone 42 = .ok (.ior, 1) := by decide +kernel
theorem dX12_isDone_43 : decode cX12_isDone 43 = .ok (.iastore, 1) := by decide +kernel
theorem dX12_isDone_44 : decode cX12_isDone 44 = .ok (.iinc 2 1, 3) := by decide +kernel
theorem dX12_isDone_47 : decode cX12_isDone 47 = .ok (.goto (-45), 3) := by decide +kernel
theorem dX12_isDone_50 : decode cX12_isDone 50 = .ok (.return_, 1) := by decide +kernel
set_option maxRecDepth 20000 in
set_option maxHeartbeats 2000000 in
theorem w_X12_isDone_44 {X : CX} {d : Nat} (hd : 1 ≤ d) {g' : G} {rx : Unit} (k2 : Nat → Int32 → Int32 → G → Option (Unit × G)) (hk2 : ∀ (l0 : Nat) (l1 : Int32) (l2 : Int32) (g : G), KD g l0 12 → k2 l0 l1 l2 g = some (rx, g') → SemF X m_X12_isDone d 2 [(0, .ref (ad X l0)), (1, .int l1), (2, .int l2)] [] g none g') (l0 : Nat) (l1 : Int32) (l2 : Int32) (g : G) (k_l0 : KD g l0 12) (h : f_X12_isDone_44 k2 l0 l1 l2 g = some (rx, g')) : SemF X m_X12_isDone d 44 [(0, .ref (ad X l0)), (1, .int l1), (2, .int l2)] [] g none g' := by
  rw [f_X12_isDone_44] at h
  refine SF_iinc 2 (l2 + (1 : Int32)) [(2, .int (l2 + (1 : Int32))), (0, .ref (ad X l0)), (1, .int l1)] 47 dX12_isDone_44 rfl rfl (by decide) rfl rfl ?_
  refine SF_goto 2 dX12_isDone_47 rfl ?_
  refine SF_sub [1, 2, 0] rfl ?_
  exact hk2 l0 l1 (l2 + (1 : Int32)) g k_l0 h

set_option maxRecDepth 20000 in
set_option maxHeartbeats 2000000 in
theorem w_X12_isDone_2 {X : CX} {d : Nat} (hd : 1 ≤ d) {g' : G} {rx : Unit} : ∀ (n : Nat) (l0 : Nat) (l1 : Int32) (l2 : Int32) (g : G), KD g l0 12 → f_X12_isDone_2 n l0 l1 l2 g = some (rx, g') → SemF X m_X12_isDone d 2 [(0, .ref (ad X l0)), (1, .int l1), (2, .int l2)] [] g none g' := by
  intro n
  induction n with
  | zero =>
    intro l0 l1 l2 g k_l0 h
    rw [f_X12_isDone_2] at h
    cases h
  | succ n ih =>
  intro l0 l1 l2 g k_l0 h
  rw [f_X12_isDone_2] at h
  refine SF_iload_n 2 3 dX12_isDone_2 rfl rfl rfl ?_
  refine SF_iconst (2 : Int32) 4 dX12_isDone_3 rfl rfl ?_
  refine SF_icge 50 7 dX12_isDone_4 rfl rfl (fun c1 => ?_) (fun c1 => ?_)
  · have h := ite_t c1 h
    exact RT_v rfl dX12_isDone_50 h
  · have h := ite_f c1 h
    refine SF_aload_n 0 8 dX12_isDone_7 rfl rfl rfl ?_
    refine SF_iload_n 1 9 dX12_isDone_8 rfl rfl rfl ?_
    refine SF_iload_n 2 10 dX12_isDone_9 rfl rfl rfl ?_
    obtain ⟨v2, g3, q4, h⟩ := bd_some h
    have s5 := w_X12_twinOf (X := X) (Nat.le_refl 0) l0 l1 l2 g g3 v2 k_l0 q4
    refine SF_callVi 13 mi_X12_twinOf ml_X12_205 dX12_isDone_10 (Nat.le_trans (by decide) hd) s5 k_l0.1 rfl rfl (Nat.le_of_ble_eq_true rfl) rfl ?_
    have k_l0 := k_l0.ext s5.1
    refine SF_aload_n 0 14 dX12_isDone_13 rfl rfl rfl ?_
    obtain ⟨b6, r7, h⟩ := dr_some h
    refine SF_getR 17 fl_X12_13 dX12_isDone_14 k_l0.1 r7 rfl ?_
    refine SF_bipush (46 : Int32) 19 dX12_isDone_17 rfl rfl ?_
    refine SF_iconst (2 : Int32) 20 dX12_isDone_19 rfl rfl ?_
    refine SF_iload_n 1 21 dX12_isDone_20 rfl rfl rfl ?_
    refine SF_imul 22 dX12_isDone_21 rfl ?_
    refine SF_iadd 23 dX12_isDone_22 rfl ?_
    refine SF_iload_n 2 24 dX12_isDone_23 rfl rfl rfl ?_
    refine SF_iadd 25 dX12_isDone_24 rfl ?_
    obtain ⟨k8, h⟩ := gdK_some h
    obtain ⟨i9, h⟩ := gdI_some h
    refine SF_iald 26 dX12_isDone_25 k8.1 i9 rfl ?_
    refine SF_icne 44 29 dX12_isDone_26 rfl rfl (fun c10 => ?_) (fun c10 => ?_)
    · have h := ite_f c10 h
      exact w_X12_isDone_44 hd (f_X12_isDone_2 n) ih l0 l1 l2 g3 k_l0 h
    · have h := ite_t c10 h
      refine SF_aload_n 0 30 dX12_isDone_29 rfl rfl rfl ?_
      refine SF_getR 33 fl_X12_13 dX12_isDone_30 k_l0.1 r7 rfl ?_
      refine SF_bipush (100 : Int32) 35 dX12_isDone_33 rfl rfl ?_
      refine SF_iload_n 1 36 dX12_isDone_35 rfl rfl rfl ?_
      refine SF_iadd 37 dX12_isDone_36 rfl ?_
      refine SF_dup2_11 38 dX12_isDone_37 rfl rfl rfl ?_
      obtain ⟨i11, h⟩ := gdI_some h
      refine SF_iald 39 dX12_isDone_38 k8.1 i11 rfl ?_
      refine SF_iconst (1 : Int32) 40 dX12_isDone_39 rfl rfl ?_
      refine SF_iload_n 2 41 dX12_isDone_40 rfl rfl rfl ?_
      refine SF_ishl 42 dX12_isDone_41 rfl ?_
      refine SF_ior 43 dX12_isDone_42 rfl ?_
      refine SF_iast 44 dX12_isDone_43 k8.1 i11 rfl ?_
      obtain ⟨g12, e13, h⟩ := lg_some h
      rw [← e13]
      have k_l0 := KD.eq e13 k_l0
      have k8 := KD.eq e13 k8
      have r7 := gR_eq e13 r7
      have i9 := vp_eq e13 i9
      have i11 := vp_eq e13 i11
      exact w_X12_isDone_44 hd (f_X12_isDone_2 n) ih l0 l1 l2 g12 k_l0 h

set_option maxRecDepth 20000 in
set_option maxHeartbeats 2000000 in
theorem w_X12_isDone {X : CX} {d : Nat} (hd : 1 ≤ d) (l0 : Nat) (l1 : Int32) (g g' : G) (rx : Unit) (k_l0 : KD g l0 12) (h : f_X12_isDone l0 l1 g = some (rx, g')) : Sem X m_X12_isDone d [.ref (ad X l0), .int l1] g none g' := by
  refine Sem_of (lo := [(0, .ref (ad X l0)), (1, .int l1)]) (by decide +kernel) rfl (Nat.le_of_ble_eq_true rfl) ?_
  rw [f_X12_isDone] at h
  refine SF_iconst (0 : Int32) 1 dX12_isDone_0 rfl rfl ?_
  refine SF_istore_n [(2, .int (0 : Int32)), (0, .ref (ad X l0)), (1, .int l1)] 2 dX12_isDone_1 rfl (by decide) rfl rfl ?_
  refine SF_sub [1, 2, 0] rfl ?_
  exact w_X12_isDone_2 hd FU l0 l1 (0 : Int32) g k_l0 h

theorem dX12_field_0 : decode cX12_field 0 = .ok (.aload_n 0, 1) := by decide +kernel
theorem dX12_field_1 : decode cX12_field 1 = .ok (.iconst 0, 1) := by decide +kernel
theorem dX12_field_2 : decode cX12_field 2 = .ok (.putfield 1, 3) := by decide +kernel
theorem dX12_field_5 : decode cX12_field 5 = .ok (.iload_n 1, 1) := by decide +kernel
theorem dX12_field_6 : decode cX12_field 6 = .ok (.i2l, 1) := by decide +kernel
theorem dX12_field_7 : decode cX12_field 7 = .ok (.lconst 0, 1) := by decide +kernel
theorem dX12_field_8 : decode cX12_field 8 = .ok (.aload_n 0, 1) := by decide +kernel
theorem dX12_field_9 : decode cX12_field 9 = .ok (.getfield 77, 3) := by decide +kernel
theorem dX12_field_12 : decode cX12_field 12 = .ok (.i2l, 1) := by decide +kernel
theorem dX12_field_13 : decode cX12_field 13 = .ok (.invokestatic 139, 3) := by decide +kernel
theorem dX12_field_16 : decode cX12_field 16 = .ok (.ifCond .ne 6, 3) := by decide +kernel
theorem dX12_field_19 : decode cX12_field 19 = .ok (.bipush (-3), 2) := by decide +kernel
theorem dX12_field_21 : decode cX12_field 21 = .ok (.ireturn, 1) := by decide +kernel
theorem dX12_field_22 : decode cX12_field 22 = .ok (.aload_n 0, 1) := by decide +kernel
theorem dX12_field_23 : decode cX12_field 23 = .ok (.iload_n 1, 1) := by decide +kernel
theorem dX12_field_24 : decode cX12_field 24 = .ok (.putfield 80, 3) := by decide +kernel
theorem dX12_field_27 : decode cX12_field 27 = .ok (.aload_n 0, 1) := by decide +kernel
theorem dX12_field_28 : decode cX12_field 28 = .ok (.iconst 0, 1) := by decide +kernel
theorem dX12_field_29 : decode cX12_field 29 = .ok (.putfield 77, 3) := by decide +kernel
theorem dX12_field_32 : decode cX12_field 32 = .ok (.aload_n 0, 1) := by decide +kernel
theorem dX12_field_33 : decode cX12_field 33 = .ok (.iconst 0, 1) := by decide +kernel
theorem dX12_field_34 : decode cX12_field 34 = .ok (.putfield 98, 3) := by decide +kernel
theorem dX12_field_37 : decode cX12_field 37 = .ok (.aload_n 0, 1) := by decide +kernel
theorem dX12_field_38 : decode cX12_field 38 = .ok (.iconst 0, 1) := by decide +kernel
theorem dX12_field_39 : decode cX12_field 39 = .ok (.putfield 123, 3) := by decide +kernel
theorem dX12_field_42 : decode cX12_field 42 = .ok (.aload_n 0, 1) := by decide +kernel
theorem dX12_field_43 : decode cX12_field 43 = .ok (.getfield 24, 3) := by decide +kernel
theorem dX12_field_46 : decode cX12_field 46 = .ok (.invokestatic 73, 3) := by decide +kernel
theorem dX12_field_49 : decode cX12_field 49 = .ok (.aload_n 0, 1) := by decide +kernel
theorem dX12_field_50 : decode cX12_field 50 = .ok (.invokevirtual 132, 3) := by decide +kernel
theorem dX12_field_53 : decode cX12_field 53 = .ok (.aload_n 0, 1) := by decide +kernel
theorem dX12_field_54 : decode cX12_field 54 = .ok (.iconst 0, 1) := by decide +kernel
theorem dX12_field_55 : decode cX12_field 55 = .ok (.invokevirtual 155, 3) := by decide +kernel
theorem dX12_field_58 : decode cX12_field 58 = .ok (.ifCond .ne 8, 3) := by decide +kernel
theorem dX12_field_61 : decode cX12_field 61 = .ok (.aload_n 0, 1) := by decide +kernel
theorem dX12_field_62 : decode cX12_field 62 = .ok (.iconst 2, 1) := by decide +kernel
theorem dX12_field_63 : decode cX12_field 63 = .ok (.invokevirtual 135, 3) := by decide +kernel
theorem dX12_field_66 : decode cX12_field 66 = .ok (.aload_n 0, 1) := by decide +kernel
theorem dX12_field_67 : decode cX12_field 67 = .ok (.getfield 24, 3) := by decide +kernel
theorem dX12_field_70 : decode cX12_field 70 = .ok (.iconst 1, 1) := by decide +kernel
theorem dX12_field_71 : decode cX12_field 71 = .ok (.aload_n 0, 1) := by decide +kernel
theorem dX12_field_72 : decode cX12_field 72 = .ok (.iconst 1, 1) := by decide +kernel
theorem dX12_field_73 : decode cX12_field 73 = .ok (.bipush 6, 2) := by decide +kernel
theorem dX12_field_75 : decode cX12_field 75 = .ok (.invokevirtual 173, 3) := by decide +kernel
theorem dX12_field_78 : decode cX12_field 78 = .ok (.iastore, 1) := by decide +kernel
theorem dX12_field_79 : decode cX12_field 79 = .ok (.aload_n 0, 1) := by decide +kernel
theorem dX12_field_80 : decode cX12_field 80 = .ok (.getfield 24, 3) := by decide +kernel
theorem dX12_field_83 : decode cX12_field 83 = .ok (.iconst 2, 1) := by decide +kernel
theorem dX12_field_84 : decode cX12_field 84 = .ok (.aload_n 0, 1) := by decide +kernel
theorem dX12_field_85 : decode cX12_field 85 = .ok (.iconst 1, 1) := by decide +kernel
theorem dX12_field_86 : decode cX12_field 86 = .ok (.bipush 6, 2) := by decide +kernel
theorem dX12_field_88 : decode cX12_field 88 = .ok (.invokevirtual 173, 3) := by decide +kernel
theorem dX12_field_91 : decode cX12_field 91 = .ok (.iastore, 1) := by decide +kernel
theorem dX12_field_92 : decode cX12_field 92 = .ok (.aload_n 0, 1) := by decide +kernel
theorem dX12_field_93 : decode cX12_field 93 = .ok (.invokevirtual 196, 3) := by decide +kernel
theorem dX12_field_96 : decode cX12_field 96 = .ok (.aload_n 0, 1) := by decide +kernel
theorem dX12_field_97 : decode cX12_field 97 = .ok (.getfield 123, 3) := by decide +kernel
theorem dX12_field_100 : decode cX12_field 100 = .ok (.ifCond .ne 23, 3) := by decide +kernel
theorem dX12_field_103 : decode cX12_field 103 = .ok (.aload_n 0, 1) := by decide +kernel
theorem dX12_field_104 : decode cX12_field 104 = .ok (.getfield 105, 3) := by decide +kernel
theorem dX12_field_107 : decode cX12_field 107 = .ok (.bipush 24, 2) := by decide +kernel
theorem dX12_field_109 : decode cX12_field 109 = .ok (.if_icmp .eq 14, 3) := by decide +kernel
theorem dX12_field_112 : decode cX12_field 112 = .ok (.aload_n 0, 1) := by decide +kernel
theorem dX12_field_113 : decode cX12_field 113 = .ok (.invokevirtual 199, 3) := by decide +kernel
theorem dX12_field_116 : decode cX12_field 116 = .ok (.aload_n 0, 1) := by decide +kernel
theorem dX12_field_117 : decode cX12_field 117 = .ok (.invokevirtual 196, 3) := by decide +kernel
theorem dX12_field_120 : decode cX12_field 120 = .ok (.goto (-24), 3) := by decide +kernel
theorem dX12_field_123 : decode cX12_field 123 = .ok (.aload_n 0, 1) := by decide +kernel
theorem dX12_field_124 : decode cX12_field 124 = .ok (.aload_n 0, 1) := by decide +kernel
theorem dX12_field_125 : decode cX12_field 125 = .ok (.getfield 123, 3) := by decide +kernel
theorem dX12_field_128 : decode cX12_field 128 = .ok (.putfield 202, 3) := by decide +kernel
theorem dX12_field_131 : decode cX12_field 131 = .ok (.aload_n 0, 1) := by decide +kernel
theorem dX12_field_132 : decode cX12_field 132 = .ok (.aload_n 0, 1) := by decide +kernel
theorem dX12_field_133 : decode cX12_field 133 = .ok (.getfield 123, 3) := by decide +kernel
theorem dX12_field_136 : decode cX12_field 136 = .ok (.ifCond .ne 7, 3) := by decide +kernel
theorem dX12_field_139 : decode cX12_field 139 = .ok (.iconst (-1), 1) := by decide +kernel
theorem dX12_field_140 : decode cX12_field 140 = .ok (.goto 7, 3) := by decide +kernel
theorem dX12_field_143 : decode cX12_field 143 = .ok (.aload_n 0, 1) := by decide +kernel
theorem dX12_field_144 : decode cX12_field 144 = .ok (.getfield 126, 3) := by decide +kernel
theorem dX12_field_147 : decode cX12_field 147 = .ok (.putfield 27, 3) := by decide +kernel
theorem dX12_field_150 : decode cX12_field 150 = .ok (.aload_n 0, 1) := by decide +kernel
theorem dX12_field_151 : decode cX12_field 151 = .ok (.getfield 123, 3) := by decide +kernel
theorem dX12_field_154 : decode cX12_field 154 = .ok (.ifCond .eq 11, 3) := by decide +kernel
theorem dX12_field_157 : decode cX12_field 157 = .ok (.bipush (-30), 2) := by decide +kernel
theorem dX12_field_159 : decode cX12_field 159 = .ok (.aload_n 0, 1) := by decide +kernel
theorem dX12_field_160 : decode cX12_field 160 = .ok (.getfield 123, 3) := by decide +kernel
theorem dX12_field_163 : decode cX12_field 163 = .ok (.isub, 1) := by decide +kernel
theorem dX12_field_164 : decode cX12_field 164 = .ok (.ireturn, 1) := by decide +kernel
theorem dX12_field_165 : decode cX12_field 165 = .ok (.iconst 0, 1) := by decide +kernel
theorem dX12_field_166 : decode cX12_field 166 = .ok (.istore_n 2, 1) := by decide +kernel
theorem dX12_field_167 : decode cX12_field 167 = .ok (.iload_n 2, 1) := by decide +kernel
theorem dX12_field_168 : decode cX12_field 168 = .ok (.sipush 1515, 3) := by decide +kernel
theorem dX12_field_171 : decode cX12_field 171 = .ok (.if_icmp .ge 21, 3) := by decide +kernel
theorem dX12_field_174 : decode cX12_field 174 = .ok (.aload_n 0, 1) := by decide +kernel
theorem dX12_field_175 : decode cX12_field 175 = .ok (.getfield 13, 3) := by decide +kernel
theorem dX12_field_178 : decode cX12_field 178 = .ok (.iload_n 2, 1) := by decide +kernel
theorem dX12_field_179 : decode cX12_field 179 = .ok (.aload_n 0, 1) := by decide +kernel
theorem dX12_field_180 : decode cX12_field 180 = .ok (.getfield 24, 3) := by decide +kernel
theorem dX12_field_183 : decode cX12_field 183 = .ok (.iload_n 2, 1) := by decide +kernel
theorem dX12_field_184 : decode cX12_field 184 = .ok (.iaload, 1) := by decide +kernel
theorem dX12_field_185 : decode cX12_field 185 = .ok (.iastore, 1) := by decide +kernel
theorem dX12_field_186 : decode cX12_field 186 = .ok (.iinc 2 1, 3) := by decide +kernel
theorem dX12_field_189 : decode cX12_field 189 = .ok (.goto (-22), 3) := by decide +kernel
theorem dX12_field_192 : decode cX12_field 192 = .ok (.iconst 0, 1) := by decide +kernel
theorem dX12_field_193 : decode cX12_field 193 = .ok (.istore_n 2, 1) := by decide +kernel
theorem dX12_field_194 : decode cX12_field 194 = .ok (.iload_n 2, 1) := by decide +kernel
theorem dX12_field_195 : decode cX12_field 195 = .ok (.bipush 36, 2) := by decide +kernel
theorem dX12_field_197 : decode cX12_field 197 = .ok (.if_icmp .ge 37, 3) := by decide +kernel
theorem dX12_field_200 : decode cX12_field 200 = .ok (.aload_n 0, 1) := by decide +kernel
theorem dX12_field_201 : decode cX12_field 201 = .ok (.getfield 13, 3) := by decide +kernel
theorem dX12_field_204 : decode cX12_field 204 = .ok (.bipush 52, 2) := by decide +kernel
theorem dX12_field_206 : decode cX12_field 206 = .ok (.iload_n 2, 1) := by decide +kernel
theorem dX12_field_207 : decode cX12_field 207 = .ok (.iadd, 1) := by decide +kernel
theorem dX12_field_208 : decode cX12_field 208 = .ok (.aload_n 0, 1) := by decide +kernel
theorem dX12_field_209 : decode cX12_field 209 = .ok (.getfield 13, 3) := by decide +kernel
theorem dX12_field_212 : decode cX12_field 212 = .ok (.bipush 10, 2) := by decide +kernel
theorem dX12_field_214 : decode cX12_field 214 = .ok (.iload_n 2, 1) := by decide +kernel
theorem dX12_field_215 : decode cX12_field 215 = .ok (.iadd, 1) := by decide +kernel
theorem dX12_field_216 : decode cX12_field 216 = .ok (.iaload, 1) := by decide +kernel
theorem dX12_field_217 : decode cX12_field 217 = .ok (.bipush 9, 2) := by decide +kernel
theorem dX12_field_219 : decode cX12_field 219 = .ok (.if_icmp .ne 7, 3) := by decide +kernel
theorem dX12_field_222 : decode cX12_field 222 = .ok (.iconst 1, 1) := by decide +kernel
theorem dX12_field_223 : decode cX12_field 223 = .ok (.goto 4, 3) := by decide +kernel
theorem dX12_field_226 : decode cX12_field 226 = .ok (.iconst 0, 1) := by decide +kernel
theorem dX12_field_227 : decode cX12_field 227 = .ok (.iastore, 1) := by decide +kernel
theorem dX12_field_228 : decode cX12_field 228 = .ok (.iinc 2 1, 3) := by decide +kernel
theorem dX12_field_231 : decode cX12_field 231 = .ok (.goto (-37), 3) := by decide +kernel
theorem dX12_field_234 : decode cX12_field 234 = .ok (.iconst 0, 1) := by decide +kernel
theorem dX12_field_235 : decode cX12_field 235 = .ok (.istore_n 2, 1) := by decide +kernel
theorem dX12_field_236 : decode cX12_field 236 = .ok (.iload_n 2, 1) := by decide +kernel
theorem dX12_field_237 : decode cX12_field 237 = .ok (.aload_n 0, 1) := by decide +kernel
theorem dX12_field_238 : decode cX12_field 238 = .ok (.getfield 13, 3) := by decide +kernel
theorem dX12_field_241 : decode cX12_field 241 = .ok (.iconst 3, 1) := by decide +kernel
theorem dX12_field_242 : decode cX12_field 242 = .ok (.iaload, 1) := by decide +kernel
theorem dX12_field_243 : decode cX12_field 243 = .ok (.if_icmp .ge 39, 3) := by decide +kernel
theorem dX12_field_246 : decode cX12_field 246 = .ok (.aload_n 0, 1) := by decide +kernel
theorem dX12_field_247 : decode cX12_field 247 = .ok (.getfield 13, 3) := by decide +kernel
theorem dX12_field_250 : decode cX12_field 250 = .ok (.bipush 94, 2) := by decide +kernel
theorem dX12_field_252 : decode cX12_field 252 = .ok (.iload_n 2, 1) := by decide +kernel
theorem dX12_field_253 : decode cX12_field 253 = .ok (.iadd, 1) := by decide +kernel
theorem dX12_field_254 : decode cX12_field 254 = .ok (.aload_n 0, 1) := by decide +kernel
theorem dX12_field_255 : decode cX12_field 255 = .ok (.aload_n 0, 1) := by decide +kernel
theorem dX12_field_256 : decode cX12_field 256 = .ok (.iload_n 2, 1) := by decide +kernel
theorem dX12_field_257 : decode cX12_field 257 = .ok (.iconst 0, 1) := by decide +kernel
theorem dX12_field_258 : decode cX12_field 258 = .ok (.invokevirtual 205, 3) := by decide +kernel
theorem dX12_field_261 : decode cX12_field 261 = .ok (.aload_n 0, 1) := by decide +kernel
theorem dX12_field_262 : decode cX12_field 262 = .ok (.iload_n 2, 1) := by decide +kernel
theorem dX12_field_263 : decode cX12_field 263 = .ok (.iconst 1, 1) := by decide +kernel
theorem dX12_field_264 : decode cX12_field 264 = .ok (.invokevirtual 205, 3) := by decide +kernel
theorem dX12_field_267 : decode cX12_field 267 = .ok (.invokevirtual 208, 3) := by decide +kernel
theorem dX12_field_270 : decode cX12_field 270 = .ok (.iastore, 1) := by decide +kernel
theorem dX12_field_271 : decode cX12_field 271 = .ok (.aload_n 0, 1) := by decide +kernel
theorem dX12_field_272 : decode cX12_field 272 = .ok (.iload_n 2, 1) := by decide +kernel
theorem dX12_field_273 : decode cX12_field 273 = .ok (.invokevirtual 211, 3) := by decide +kernel
theorem dX12_field_276 : decode cX12_field 276 = .ok (.iinc 2 1, 3) := by decide +kernel
theorem dX12_field_279 : decode cX12_field 279 = .ok (.goto (-43), 3) := by decide +kernel
theorem dX12_field_282 : decode cX12_field 282 = .ok (.aload_n 0, 1) := by decide +kernel
theorem dX12_field_283 : decode cX12_field 283 = .ok (.getfield 13, 3) := by decide +kernel
theorem dX12_field_286 : decode cX12_field 286 = .ok (.iconst 0, 1) := by decide +kernel
theorem dX12_field_287 : decode cX12_field 287 = .ok (.iaload, 1) := by decide +kernel
theorem dX12_field_288 : decode cX12_field 288 = .ok (.ireturn, 1) := by decide +kernel
set_option maxRecDepth 20000 in
set_option maxHeartbeats 2000000 in
theorem w_X12_field_227 {X : CX} {d : Nat} (hd : 63 ≤ d) {g' : G} {rx : Int32} (k194 : Nat → Int32 → G → Option (Int32 × G)) (hk194 : ∀ (l0 : Nat) (l2 : Int32) (g : G), KD g l0 12 → k194 l0 l2 g = some (rx, g') → SemF X m_X12_field d 194 [(0, .ref (ad X l0)), (2, .int l2)] [] g (some (.int rx)) g') (l0 : Nat) (l2 : Int32) (s0 : Int32) (s1 : Int32) (s2 : Nat) (g : G) (k_l0 : KD g l0 12) (k_s2 : KD g s2 14) (h : f_X12_field_227 k194 l0 l2 s0 s1 s2 g = some (rx, g')) : SemF X m_X12_field d 227 [(0, .ref (ad X l0)), (2, .int l2)] [.int s0, .int s1, .ref (ad X s2)] g (some (.int rx)) g' := by
  rw [f_X12_field_227] at h
  obtain ⟨i1, h⟩ := gdI_some h
  refine SF_iast 228 dX12_field_227 k_s2.1 i1 rfl ?_
  obtain ⟨g2, e3, h⟩ := lg_some h
  rw [← e3]
  have k_l0 := KD.eq e3 k_l0
  have k_s2 := KD.eq e3 k_s2
  have i1 := vp_eq e3 i1
  refine SF_iinc 1 (l2 + (1 : Int32)) [(2, .int (l2 + (1 : Int32))), (0, .ref (ad X l0))] 231 dX12_field_228 rfl rfl (by decide) rfl rfl ?_
  refine SF_goto 194 dX12_field_231 rfl ?_
  refine SF_sub [1, 0] rfl ?_
  exact hk194 l0 (l2 + (1 : Int32)) g2 k_l0 h

set_option maxRecDepth 20000 in
set_option maxHeartbeats 2000000 in
theorem w_X12_field_236 {X : CX} {d : Nat} (hd : 63 ≤ d) {g' : G} {rx : Int32} : ∀ (n : Nat) (l0 : Nat) (l2 : Int32) (g : G), KD g l0 12 → f_X12_field_236 n l0 l2 g = some (rx, g') → SemF X m_X12_field d 236 [(0, .ref (ad X l0)), (2, .int l2)] [] g (some (.int rx)) g' := by
  intro n
  induction n with
  | zero =>
    intro l0 l2 g k_l0 h
    rw [f_X12_field_236] at h
    cases h
  | succ n ih =>
  intro l0 l2 g k_l0 h
  rw [f_X12_field_236] at h
  refine SF_iload_n 1 237 dX12_field_236 rfl rfl rfl ?_
  refine SF_aload_n 0 238 dX12_field_237 rfl rfl rfl ?_
  obtain ⟨b1, r2, h⟩ := dr_some h
  refine SF_getR 241 fl_X12_13 dX12_field_238 k_l0.1 r2 rfl ?_
  refine SF_iconst (3 : Int32) 242 dX12_field_241 rfl rfl ?_
  obtain ⟨k3, h⟩ := gdK_some h
  obtain ⟨i4, h⟩ := gdI_some h
  refine SF_iald 243 dX12_field_242 k3.1 i4 rfl ?_
  refine SF_icge 282 246 dX12_field_243 rfl rfl (fun c5 => ?_) (fun c5 => ?_)
  · have h := ite_t c5 h
    refine SF_aload_n 0 283 dX12_field_282 rfl rfl rfl ?_
    refine SF_getR 286 fl_X12_13 dX12_field_283 k_l0.1 r2 rfl ?_
    refine SF_iconst (0 : Int32) 287 dX12_field_286 rfl rfl ?_
    obtain ⟨i6, h⟩ := gdI_some h
    refine SF_iald 288 dX12_field_287 k3.1 i6 rfl ?_
    exact RT_i rfl dX12_field_288 h
  · have h := ite_f c5 h
    refine SF_aload_n 0 247 dX12_field_246 rfl rfl rfl ?_
    refine SF_getR 250 fl_X12_13 dX12_field_247 k_l0.1 r2 rfl ?_
    refine SF_bipush (94 : Int32) 252 dX12_field_250 rfl rfl ?_
    refine SF_iload_n 1 253 dX12_field_252 rfl rfl rfl ?_
    refine SF_iadd 254 dX12_field_253 rfl ?_
    refine SF_aload_n 0 255 dX12_field_254 rfl rfl rfl ?_
    refine SF_aload_n 0 256 dX12_field_255 rfl rfl rfl ?_
    refine SF_iload_n 1 257 dX12_field_256 rfl rfl rfl ?_
    refine SF_iconst (0 : Int32) 258 dX12_field_257 rfl rfl ?_
    obtain ⟨v7, g8, q9, h⟩ := bd_some h
    have s10 := w_X12_twinOf (X := X) (Nat.le_refl 0) l0 l2 (0 : Int32) g g8 v7 k_l0 q9
    refine SF_callVi 261 mi_X12_twinOf ml_X12_205 dX12_field_258 (Nat.le_trans (by decide) hd) s10 k_l0.1 rfl rfl (Nat.le_of_ble_eq_true rfl) rfl ?_
    have k_l0 := k_l0.ext s10.1
    have k3 := k3.ext s10.1
    refine SF_aload_n 0 262 dX12_field_261 rfl rfl rfl ?_
    refine SF_iload_n 1 263 dX12_field_262 rfl rfl rfl ?_
    refine SF_iconst (1 : Int32) 264 dX12_field_263 rfl rfl ?_
    obtain ⟨v11, g12, q13, h⟩ := bd_some h
    have s14 := w_X12_twinOf (X := X) (Nat.le_refl 0) l0 l2 (1 : Int32) g8 g12 v11 k_l0 q13
    refine SF_callVi 267 mi_X12_twinOf ml_X12_205 dX12_field_264 (Nat.le_trans (by decide) hd) s14 k_l0.1 rfl rfl (Nat.le_of_ble_eq_true rfl) rfl ?_
    have k_l0 := k_l0.ext s14.1
    have k3 := k3.ext s14.1
    obtain ⟨v15, g16, q17, h⟩ := bd_some h
    have s18 := w_X12_apart (X := X) (Nat.le_refl 1) l0 v7 v11 g12 g16 v15 k_l0 q17
    refine SF_callVi 270 mi_X12_apart ml_X12_208 dX12_field_267 (Nat.le_trans (by decide) hd) s18 k_l0.1 rfl rfl (Nat.le_of_ble_eq_true rfl) rfl ?_
    have k_l0 := k_l0.ext s18.1
    have k3 := k3.ext s18.1
    obtain ⟨i19, h⟩ := gdI_some h
    refine SF_iast 271 dX12_field_270 k3.1 i19 rfl ?_
    obtain ⟨g20, e21, h⟩ := lg_some h
    rw [← e21]
    have k_l0 := KD.eq e21 k_l0
    have k3 := KD.eq e21 k3
    have i19 := vp_eq e21 i19
    refine SF_aload_n 0 272 dX12_field_271 rfl rfl rfl ?_
    refine SF_iload_n 1 273 dX12_field_272 rfl rfl rfl ?_
    obtain ⟨v22, g23, q24, h⟩ := bd_some h
    have s25 := w_X12_isDone (X := X) (Nat.le_refl 1) l0 l2 g20 g23 v22 k_l0 q24
    refine SF_callVv 276 mi_X12_isDone ml_X12_211 dX12_field_273 (Nat.le_trans (by decide) hd) s25 k_l0.1 rfl rfl (Nat.le_of_ble_eq_true rfl) rfl ?_
    have k_l0 := k_l0.ext s25.1
    have k3 := k3.ext s25.1
    refine SF_iinc 1 (l2 + (1 : Int32)) [(2, .int (l2 + (1 : Int32))), (0, .ref (ad X l0))] 279 dX12_field_276 rfl rfl (by decide) rfl rfl ?_
    refine SF_goto 236 dX12_field_279 rfl ?_
    refine SF_sub [1, 0] rfl ?_
    exact ih l0 (l2 + (1 : Int32)) g23 k_l0 h

set_option maxRecDepth 20000 in
set_option maxHeartbeats 2000000 in
theorem w_X12_field_194 {X : CX} {d : Nat} (hd : 63 ≤ d) {g' : G} {rx : Int32} : ∀ (n : Nat) (l0 : Nat) (l2 : Int32) (g : G), KD g l0 12 → f_X12_field_194 n l0 l2 g = some (rx, g') → SemF X m_X12_field d 194 [(0, .ref (ad X l0)), (2, .int l2)] [] g (some (.int rx)) g' := by
  intro n
  induction n with
  | zero =>
    intro l0 l2 g k_l0 h
    rw [f_X12_field_194] at h
    cases h
  | succ n ih =>
  intro l0 l2 g k_l0 h
  rw [f_X12_field_194] at h
  refine SF_iload_n 1 195 dX12_field_194 rfl rfl rfl ?_
  refine SF_bipush (36 : Int32) 197 dX12_field_195 rfl rfl ?_
  refine SF_icge 234 200 dX12_field_197 rfl rfl (fun c1 => ?_) (fun c1 => ?_)
  · have h := ite_t c1 h
    refine SF_iconst (0 : Int32) 235 dX12_field_234 rfl rfl ?_
    refine SF_istore_n [(2, .int (0 : Int32)), (0, .ref (ad X l0))] 236 dX12_field_235 rfl (by decide) rfl rfl ?_
    refine SF_sub [1, 0] rfl ?_
    exact w_X12_field_236 hd FU l0 (0 : Int32) g k_l0 h
  · have h := ite_f c1 h
    refine SF_aload_n 0 201 dX12_field_200 rfl rfl rfl ?_
    obtain ⟨b2, r3, h⟩ := dr_some h
    refine SF_getR 204 fl_X12_13 dX12_field_201 k_l0.1 r3 rfl ?_
    refine SF_bipush (52 : Int32) 206 dX12_field_204 rfl rfl ?_
    refine SF_iload_n 1 207 dX12_field_206 rfl rfl rfl ?_
    refine SF_iadd 208 dX12_field_207 rfl ?_
    refine SF_aload_n 0 209 dX12_field_208 rfl rfl rfl ?_
    refine SF_getR 212 fl_X12_13 dX12_field_209 k_l0.1 r3 rfl ?_
    refine SF_bipush (10 : Int32) 214 dX12_field_212 rfl rfl ?_
    refine SF_iload_n 1 215 dX12_field_214 rfl rfl rfl ?_
    refine SF_iadd 216 dX12_field_215 rfl ?_
    obtain ⟨k4, h⟩ := gdK_some h
    obtain ⟨i5, h⟩ := gdI_some h
    refine SF_iald 217 dX12_field_216 k4.1 i5 rfl ?_
    refine SF_bipush (9 : Int32) 219 dX12_field_217 rfl rfl ?_
    refine SF_icne 226 222 dX12_field_219 rfl rfl (fun c6 => ?_) (fun c6 => ?_)
    · have h := ite_f c6 h
      refine SF_iconst (0 : Int32) 227 dX12_field_226 rfl rfl ?_
      exact w_X12_field_227 hd (f_X12_field_194 n) ih l0 l2 (0 : Int32) ((52 : Int32) + l2) b2 g k_l0 k4 h
    · have h := ite_t c6 h
      refine SF_iconst (1 : Int32) 223 dX12_field_222 rfl rfl ?_
      refine SF_goto 227 dX12_field_223 rfl ?_
      exact w_X12_field_227 hd (f_X12_field_194 n) ih l0 l2 (1 : Int32) ((52 : Int32) + l2) b2 g k_l0 k4 h

set_option maxRecDepth 20000 in
set_option maxHeartbeats 2000000 in
theorem w_X12_field_167 {X : CX} {d : Nat} (hd : 63 ≤ d) {g' : G} {rx : Int32} : ∀ (n : Nat) (l0 : Nat) (l2 : Int32) (g : G), KD g l0 12 → f_X12_field_167 n l0 l2 g = some (rx, g') → SemF X m_X12_field d 167 [(0, .ref (ad X l0)), (2, .int l2)] [] g (some (.int rx)) g' := by
  intro n
  induction n with
  | zero =>
    intro l0 l2 g k_l0 h
    rw [f_X12_field_167] at h
    cases h
  | succ n ih =>
  intro l0 l2 g k_l0 h
  rw [f_X12_field_167] at h
  refine SF_iload_n 1 168 dX12_field_167 rfl rfl rfl ?_
  refine SF_sipush (1515 : Int32) 171 dX12_field_168 rfl rfl ?_
  refine SF_icge 192 174 dX12_field_171 rfl rfl (fun c1 => ?_) (fun c1 => ?_)
  · have h := ite_t c1 h
    refine SF_iconst (0 : Int32) 193 dX12_field_192 rfl rfl ?_
    refine SF_istore_n [(2, .int (0 : Int32)), (0, .ref (ad X l0))] 194 dX12_field_193 rfl (by decide) rfl rfl ?_
    refine SF_sub [1, 0] rfl ?_
    exact w_X12_field_194 hd FU l0 (0 : Int32) g k_l0 h
  · have h := ite_f c1 h
    refine SF_aload_n 0 175 dX12_field_174 rfl rfl rfl ?_
    obtain ⟨b2, r3, h⟩ := dr_some h
    refine SF_getR 178 fl_X12_13 dX12_field_175 k_l0.1 r3 rfl ?_
    refine SF_iload_n 1 179 dX12_field_178 rfl rfl rfl ?_
    refine SF_aload_n 0 180 dX12_field_179 rfl rfl rfl ?_
    obtain ⟨b4, r5, h⟩ := dr_some h
    refine SF_getR 183 fl_X12_24 dX12_field_180 k_l0.1 r5 rfl ?_
    refine SF_iload_n 1 184 dX12_field_183 rfl rfl rfl ?_
    obtain ⟨k6, h⟩ := gdK_some h
    obtain ⟨i7, h⟩ := gdI_some h
    refine SF_iald 185 dX12_field_184 k6.1 i7 rfl ?_
    obtain ⟨k8, h⟩ := gdK_some h
    obtain ⟨i9, h⟩ := gdI_some h
    refine SF_iast 186 dX12_field_185 k8.1 i9 rfl ?_
    obtain ⟨g10, e11, h⟩ := lg_some h
    rw [← e11]
    have k_l0 := KD.eq e11 k_l0
    have k6 := KD.eq e11 k6
    have k8 := KD.eq e11 k8
    have r3 := gR_eq e11 r3
    have r5 := gR_eq e11 r5
    have i7 := vp_eq e11 i7
    have i9 := vp_eq e11 i9
    refine SF_iinc 1 (l2 + (1 : Int32)) [(2, .int (l2 + (1 : Int32))), (0, .ref (ad X l0))] 189 dX12_field_186 rfl rfl (by decide) rfl rfl ?_
    refine SF_goto 167 dX12_field_189 rfl ?_
    refine SF_sub [1, 0] rfl ?_
    exact ih l0 (l2 + (1 : Int32)) g10 k_l0 h

set_option maxRecDepth 20000 in
set_option maxHeartbeats 2000000 in
theorem w_X12_field_147 {X : CX} {d : Nat} (hd : 63 ≤ d) {g' : G} {rx : Int32} (l0 : Nat) (s0 : Int32) (s1 : Nat) (g : G) (k_l0 : KD g l0 12) (k_s1 : KD g s1 12) (h : f_X12_field_147 l0 s0 s1 g = some (rx, g')) : SemF X m_X12_field d 147 [(0, .ref (ad X l0))] [.int s0, .ref (ad X s1)] g (some (.int rx)) g' := by
  rw [f_X12_field_147] at h
  refine SF_putI 150 fl_X12_27 dX12_field_147 k_s1.1 (fn_int _) (Or.inl rfl) rfl ?_
  obtain ⟨g1, e2, h⟩ := lg_some h
  rw [← e2]
  have k_l0 := KD.eq e2 k_l0
  have k_s1 := KD.eq e2 k_s1
  refine SF_aload_n 0 151 dX12_field_150 rfl rfl rfl ?_
  refine SF_getI 154 fl_X12_123 dX12_field_151 k_l0.1 rfl ?_
  refine SF_ifeq 165 157 dX12_field_154 rfl rfl (fun c3 => ?_) (fun c3 => ?_)
  · have h := ite_t c3 h
    refine SF_iconst (0 : Int32) 166 dX12_field_165 rfl rfl ?_
    refine SF_istore_n [(2, .int (0 : Int32)), (0, .ref (ad X l0))] 167 dX12_field_166 rfl (by decide) rfl rfl ?_
    refine SF_sub [1, 0] rfl ?_
    exact w_X12_field_167 hd FU l0 (0 : Int32) g1 k_l0 h
  · have h := ite_f c3 h
    refine SF_bipush (-30 : Int32) 159 dX12_field_157 rfl rfl ?_
    refine SF_aload_n 0 160 dX12_field_159 rfl rfl rfl ?_
    refine SF_getI 163 fl_X12_123 dX12_field_160 k_l0.1 rfl ?_
    refine SF_isub 164 dX12_field_163 rfl ?_
    exact RT_i rfl dX12_field_164 h

set_option maxRecDepth 20000 in
set_option maxHeartbeats 2000000 in
theorem w_X12_field_123 {X : CX} {d : Nat} (hd : 63 ≤ d) {g' : G} {rx : Int32} (l0 : Nat) (g : G) (k_l0 : KD g l0 12) (h : f_X12_field_123 l0 g = some (rx, g')) : SemF X m_X12_field d 123 [(0, .ref (ad X l0))] [] g (some (.int rx)) g' := by
  rw [f_X12_field_123] at h
  refine SF_aload_n 0 124 dX12_field_123 rfl rfl rfl ?_
  refine SF_aload_n 0 125 dX12_field_124 rfl rfl rfl ?_
  refine SF_getI 128 fl_X12_123 dX12_field_125 k_l0.1 rfl ?_
  refine SF_putI 131 fl_X12_202 dX12_field_128 k_l0.1 (fn_int _) (Or.inl rfl) rfl ?_
  obtain ⟨g1, e2, h⟩ := lg_some h
  rw [← e2]
  have k_l0 := KD.eq e2 k_l0
  refine SF_aload_n 0 132 dX12_field_131 rfl rfl rfl ?_
  refine SF_aload_n 0 133 dX12_field_132 rfl rfl rfl ?_
  refine SF_getI 136 fl_X12_123 dX12_field_133 k_l0.1 rfl ?_
  refine SF_ifne 143 139 dX12_field_136 rfl rfl (fun c3 => ?_) (fun c3 => ?_)
  · have h := ite_f c3 h
    refine SF_aload_n 0 144 dX12_field_143 rfl rfl rfl ?_
    refine SF_getI 147 fl_X12_126 dX12_field_144 k_l0.1 rfl ?_
    exact w_X12_field_147 hd l0 (gI g1 l0 12) l0 g1 k_l0 k_l0 h
  · have h := ite_t c3 h
    refine SF_iconst (-1 : Int32) 140 dX12_field_139 rfl rfl ?_
    refine SF_goto 147 dX12_field_140 rfl ?_
    exact w_X12_field_147 hd l0 (-1 : Int32) l0 g1 k_l0 k_l0 h

set_option maxRecDepth 20000 in
set_option maxHeartbeats 2000000 in
theorem w_X12_field_96 {X : CX} {d : Nat} (hd : 63 ≤ d) {g' : G} {rx : Int32} : ∀ (n : Nat) (l0 : Nat) (g : G), KD g l0 12 → f_X12_field_96 n l0 g = some (rx, g') → SemF X m_X12_field d 96 [(0, .ref (ad X l0))] [] g (some (.int rx)) g' := by
  intro n
  induction n with
  | zero =>
    intro l0 g k_l0 h
    rw [f_X12_field_96] at h
    cases h
  | succ n ih =>
  intro l0 g k_l0 h
  rw [f_X12_field_96] at h
  refine SF_aload_n 0 97 dX12_field_96 rfl rfl rfl ?_
  refine SF_getI 100 fl_X12_123 dX12_field_97 k_l0.1 rfl ?_
  refine SF_ifne 123 103 dX12_field_100 rfl rfl (fun c1 => ?_) (fun c1 => ?_)
  · have h := ite_f c1 h
    exact w_X12_field_123 hd l0 g k_l0 h
  · have h := ite_t c1 h
    refine SF_aload_n 0 104 dX12_field_103 rfl rfl rfl ?_
    refine SF_getI 107 fl_X12_105 dX12_field_104 k_l0.1 rfl ?_
    refine SF_bipush (24 : Int32) 109 dX12_field_107 rfl rfl ?_
    refine SF_iceq 123 112 dX12_field_109 rfl rfl (fun c2 => ?_) (fun c2 => ?_)
    · have h := ite_t c2 h
      exact w_X12_field_123 hd l0 g k_l0 h
    · have h := ite_f c2 h
      refine SF_aload_n 0 113 dX12_field_112 rfl rfl rfl ?_
      obtain ⟨v3, g4, q5, h⟩ := bd_some h
      have s6 := w_X12_readLine (X := X) (Nat.le_refl 62) l0 g g4 v3 k_l0 q5
      refine SF_callVv 116 mi_X12_readLine ml_X12_199 dX12_field_113 (Nat.le_trans (by decide) hd) s6 k_l0.1 rfl rfl (Nat.le_of_ble_eq_true rfl) rfl ?_
      have k_l0 := k_l0.ext s6.1
      refine SF_aload_n 0 117 dX12_field_116 rfl rfl rfl ?_
      obtain ⟨v7, g8, q9, h⟩ := bd_some h
      have s10 := w_X12_ends (X := X) (Nat.le_refl 7) l0 g4 g8 v7 k_l0 q9
      refine SF_callVv 120 mi_X12_ends ml_X12_196 dX12_field_117 (Nat.le_trans (by decide) hd) s10 k_l0.1 rfl rfl (Nat.le_of_ble_eq_true rfl) rfl ?_
      have k_l0 := k_l0.ext s10.1
      refine SF_goto 96 dX12_field_120 rfl ?_
      exact ih l0 g8 k_l0 h

set_option maxRecDepth 20000 in
set_option maxHeartbeats 2000000 in
theorem w_X12_field_66 {X : CX} {d : Nat} (hd : 63 ≤ d) {g' : G} {rx : Int32} (l0 : Nat) (g : G) (k_l0 : KD g l0 12) (h : f_X12_field_66 l0 g = some (rx, g')) : SemF X m_X12_field d 66 [(0, .ref (ad X l0))] [] g (some (.int rx)) g' := by
  rw [f_X12_field_66] at h
  refine SF_aload_n 0 67 dX12_field_66 rfl rfl rfl ?_
  obtain ⟨b1, r2, h⟩ := dr_some h
  refine SF_getR 70 fl_X12_24 dX12_field_67 k_l0.1 r2 rfl ?_
  refine SF_iconst (1 : Int32) 71 dX12_field_70 rfl rfl ?_
  refine SF_aload_n 0 72 dX12_field_71 rfl rfl rfl ?_
  refine SF_iconst (1 : Int32) 73 dX12_field_72 rfl rfl ?_
  refine SF_bipush (6 : Int32) 75 dX12_field_73 rfl rfl ?_
  obtain ⟨v3, g4, q5, h⟩ := bd_some h
  have s6 := w_X12_takes (X := X) (Nat.le_refl 6) l0 (1 : Int32) (6 : Int32) g g4 v3 k_l0 q5
  refine SF_callVi 78 mi_X12_takes ml_X12_173 dX12_field_75 (Nat.le_trans (by decide) hd) s6 k_l0.1 rfl rfl (Nat.le_of_ble_eq_true rfl) rfl ?_
  have k_l0 := k_l0.ext s6.1
  obtain ⟨k7, h⟩ := gdK_some h
  obtain ⟨i8, h⟩ := gdI_some h
  refine SF_iast 79 dX12_field_78 k7.1 i8 rfl ?_
  obtain ⟨g9, e10, h⟩ := lg_some h
  rw [← e10]
  have k_l0 := KD.eq e10 k_l0
  have k7 := KD.eq e10 k7
  have i8 := vp_eq e10 i8
  refine SF_aload_n 0 80 dX12_field_79 rfl rfl rfl ?_
  obtain ⟨b11, r12, h⟩ := dr_some h
  refine SF_getR 83 fl_X12_24 dX12_field_80 k_l0.1 r12 rfl ?_
  refine SF_iconst (2 : Int32) 84 dX12_field_83 rfl rfl ?_
  refine SF_aload_n 0 85 dX12_field_84 rfl rfl rfl ?_
  refine SF_iconst (1 : Int32) 86 dX12_field_85 rfl rfl ?_
  refine SF_bipush (6 : Int32) 88 dX12_field_86 rfl rfl ?_
  obtain ⟨v13, g14, q15, h⟩ := bd_some h
  have s16 := w_X12_takes (X := X) (Nat.le_refl 6) l0 (1 : Int32) (6 : Int32) g9 g14 v13 k_l0 q15
  refine SF_callVi 91 mi_X12_takes ml_X12_173 dX12_field_88 (Nat.le_trans (by decide) hd) s16 k_l0.1 rfl rfl (Nat.le_of_ble_eq_true rfl) rfl ?_
  have k_l0 := k_l0.ext s16.1
  have k7 := k7.ext s16.1
  obtain ⟨k17, h⟩ := gdK_some h
  obtain ⟨i18, h⟩ := gdI_some h
  refine SF_iast 92 dX12_field_91 k17.1 i18 rfl ?_
  obtain ⟨g19, e20, h⟩ := lg_some h
  rw [← e20]
  have k_l0 := KD.eq e20 k_l0
  have k7 := KD.eq e20 k7
  have k17 := KD.eq e20 k17
  have i18 := vp_eq e20 i18
  refine SF_aload_n 0 93 dX12_field_92 rfl rfl rfl ?_
  obtain ⟨v21, g22, q23, h⟩ := bd_some h
  have s24 := w_X12_ends (X := X) (Nat.le_refl 7) l0 g19 g22 v21 k_l0 q23
  refine SF_callVv 96 mi_X12_ends ml_X12_196 dX12_field_93 (Nat.le_trans (by decide) hd) s24 k_l0.1 rfl rfl (Nat.le_of_ble_eq_true rfl) rfl ?_
  have k_l0 := k_l0.ext s24.1
  have k7 := k7.ext s24.1
  have k17 := k17.ext s24.1
  exact w_X12_field_96 hd FU l0 g22 k_l0 h

set_option maxRecDepth 20000 in
set_option maxHeartbeats 2000000 in
theorem w_X12_field {X : CX} {d : Nat} (hd : 63 ≤ d) (l0 : Nat) (l1 : Int32) (g g' : G) (rx : Int32) (k_l0 : KD g l0 12) (h : f_X12_field l0 l1 g = some (rx, g')) : Sem X m_X12_field d [.ref (ad X l0), .int l1] g (some (.int rx)) g' := by
  refine Sem_of (lo := [(0, .ref (ad X l0)), (1, .int l1)]) (by decide +kernel) rfl (Nat.le_of_ble_eq_true rfl) ?_
  rw [f_X12_field] at h
  refine SF_aload_n 0 1 dX12_field_0 rfl rfl rfl ?_
  refine SF_iconst (0 : Int32) 2 dX12_field_1 rfl rfl ?_
  refine SF_putI 5 fl_X12_1 dX12_field_2 k_l0.1 (fn_int _) (Or.inl rfl) rfl ?_
  obtain ⟨g1, e2, h⟩ := lg_some h
  rw [← e2]
  have k_l0 := KD.eq e2 k_l0
  refine SF_iload_n 1 6 dX12_field_5 rfl rfl rfl ?_
  refine SF_i2l 7 dX12_field_6 rfl ?_
  refine SF_lconst (0 : Int64) 8 dX12_field_7 rfl rfl ?_
  refine SF_aload_n 0 9 dX12_field_8 rfl rfl rfl ?_
  refine SF_getI 12 fl_X12_77 dX12_field_9 k_l0.1 rfl ?_
  refine SF_i2l 13 dX12_field_12 rfl ?_
  obtain ⟨v3, g4, q5, h⟩ := bd_some h
  have s6 := w_X12_within (X := X) (Nat.le_refl 0) (l1.toInt64) (0 : Int64) ((gI g1 l0 5).toInt64) g1 g4 v3 q5
  refine SF_callSb 16 mi_X12_within ml_X12_139 dX12_field_13 (Nat.le_trans (by decide) hd) s6 rfl rfl (Nat.le_of_ble_eq_true rfl) rfl ?_
  have k_l0 := k_l0.ext s6.1
  refine SF_ifne 22 19 dX12_field_16 rfl rfl (fun c7 => ?_) (fun c7 => ?_)
  · have h := ite_f c7 h
    refine SF_aload_n 0 23 dX12_field_22 rfl rfl rfl ?_
    refine SF_iload_n 1 24 dX12_field_23 rfl rfl rfl ?_
    refine SF_putI 27 fl_X12_80 dX12_field_24 k_l0.1 (fn_int _) (Or.inl rfl) rfl ?_
    obtain ⟨g8, e9, h⟩ := lg_some h
    rw [← e9]
    have k_l0 := KD.eq e9 k_l0
    refine SF_aload_n 0 28 dX12_field_27 rfl rfl rfl ?_
    refine SF_iconst (0 : Int32) 29 dX12_field_28 rfl rfl ?_
    refine SF_putI 32 fl_X12_77 dX12_field_29 k_l0.1 (fn_int _) (Or.inl rfl) rfl ?_
    obtain ⟨g10, e11, h⟩ := lg_some h
    rw [← e11]
    have k_l0 := KD.eq e11 k_l0
    refine SF_aload_n 0 33 dX12_field_32 rfl rfl rfl ?_
    refine SF_iconst (0 : Int32) 34 dX12_field_33 rfl rfl ?_
    refine SF_putI 37 fl_X12_98 dX12_field_34 k_l0.1 (fn_int _) (Or.inl rfl) rfl ?_
    obtain ⟨g12, e13, h⟩ := lg_some h
    rw [← e13]
    have k_l0 := KD.eq e13 k_l0
    refine SF_aload_n 0 38 dX12_field_37 rfl rfl rfl ?_
    refine SF_iconst (0 : Int32) 39 dX12_field_38 rfl rfl ?_
    refine SF_putI 42 fl_X12_123 dX12_field_39 k_l0.1 (fn_int _) (Or.inl rfl) rfl ?_
    obtain ⟨g14, e15, h⟩ := lg_some h
    rw [← e15]
    have k_l0 := KD.eq e15 k_l0
    refine SF_aload_n 0 43 dX12_field_42 rfl rfl rfl ?_
    obtain ⟨b16, r17, h⟩ := dr_some h
    refine SF_getR 46 fl_X12_24 dX12_field_43 k_l0.1 r17 rfl ?_
    obtain ⟨k18, h⟩ := gdK_some h
    obtain ⟨v19, g20, q21, h⟩ := bd_some h
    have s22 := w_X12_plain (X := X) (Nat.le_refl 0) b16 g14 g20 v19 k18 q21
    refine SF_callSv 49 mi_X12_plain ml_X12_73 dX12_field_46 (Nat.le_trans (by decide) hd) s22 rfl rfl (Nat.le_of_ble_eq_true rfl) rfl ?_
    have k_l0 := k_l0.ext s22.1
    have k18 := k18.ext s22.1
    refine SF_aload_n 0 50 dX12_field_49 rfl rfl rfl ?_
    obtain ⟨v23, g24, q25, h⟩ := bd_some h
    have s26 := w_X12_next (X := X) (Nat.le_refl 5) l0 g20 g24 v23 k_l0 q25
    refine SF_callVv 53 mi_X12_next ml_X12_132 dX12_field_50 (Nat.le_trans (by decide) hd) s26 k_l0.1 rfl rfl (Nat.le_of_ble_eq_true rfl) rfl ?_
    have k_l0 := k_l0.ext s26.1
    have k18 := k18.ext s26.1
    refine SF_aload_n 0 54 dX12_field_53 rfl rfl rfl ?_
    refine SF_iconst (0 : Int32) 55 dX12_field_54 rfl rfl ?_
    obtain ⟨v27, g28, q29, h⟩ := bd_some h
    have s30 := w_X12_eats (X := X) (Nat.le_refl 6) l0 (0 : Int32) g24 g28 v27 k_l0 q29
    refine SF_callVb 58 mi_X12_eats ml_X12_155 dX12_field_55 (Nat.le_trans (by decide) hd) s30 k_l0.1 rfl rfl (Nat.le_of_ble_eq_true rfl) rfl ?_
    have k_l0 := k_l0.ext s30.1
    have k18 := k18.ext s30.1
    refine SF_ifne 66 61 dX12_field_58 rfl rfl (fun c31 => ?_) (fun c31 => ?_)
    · have h := ite_f c31 h
      refine SF_sub [0] rfl ?_
      exact w_X12_field_66 hd l0 g28 k_l0 h
    · have h := ite_t c31 h
      refine SF_aload_n 0 62 dX12_field_61 rfl rfl rfl ?_
      refine SF_iconst (2 : Int32) 63 dX12_field_62 rfl rfl ?_
      obtain ⟨v32, g33, q34, h⟩ := bd_some h
      have s35 := w_X12_fails (X := X) (Nat.le_refl 0) l0 (2 : Int32) g28 g33 v32 k_l0 q34
      refine SF_callVv 66 mi_X12_fails ml_X12_135 dX12_field_63 (Nat.le_trans (by decide) hd) s35 k_l0.1 rfl rfl (Nat.le_of_ble_eq_true rfl) rfl ?_
      have k_l0 := k_l0.ext s35.1
      have k18 := k18.ext s35.1
      refine SF_sub [0] rfl ?_
      exact w_X12_field_66 hd l0 g33 k_l0 h
  · have h := ite_t c7 h
    refine SF_bipush (-3 : Int32) 21 dX12_field_19 rfl rfl ?_
    exact RT_i rfl dX12_field_21 h

theorem dX11_fault_0 : decode cX11_fault 0 = .ok (.iload_n 1, 1) := by decide +kernel
theorem dX11_fault_1 : decode cX11_fault 1 = .ok (.ifCond .ne 8, 3) := by decide +kernel
theorem dX11_fault_4 : decode cX11_fault 4 = .ok (.aload_n 0, 1) := by decide +kernel
theorem dX11_fault_5 : decode cX11_fault 5 = .ok (.getfield 121, 3) := by decide +kernel
theorem dX11_fault_8 : decode cX11_fault 8 = .ok (.ireturn, 1) := by decide +kernel
theorem dX11_fault_9 : decode cX11_fault 9 = .ok (.iload_n 1, 1) := by decide +kernel
theorem dX11_fault_10 : decode cX11_fault 10 = .ok (.iconst 1, 1) := by decide +kernel
theorem dX11_fault_11 : decode cX11_fault 11 = .ok (.if_icmp .ne 10, 3) := by decide +kernel
theorem dX11_fault_14 : decode cX11_fault 14 = .ok (.aload_n 0, 1) := by decide +kernel
theorem dX11_fault_15 : decode cX11_fault 15 = .ok (.getfield 13, 3) := by decide +kernel
theorem dX11_fault_18 : decode cX11_fault 18 = .ok (.goto 4, 3) := by decide +kernel
theorem dX11_fault_21 : decode cX11_fault 21 = .ok (.iconst (-1), 1) := by decide +kernel
theorem dX11_fault_22 : decode cX11_fault 22 = .ok (.ireturn, 1) := by decide +kernel
set_option maxRecDepth 20000 in
set_option maxHeartbeats 2000000 in
theorem w_X11_fault {X : CX} {d : Nat} (hd : 0 ≤ d) (l0 : Nat) (l1 : Int32) (g g' : G) (rx : Int32) (k_l0 : KD g l0 11) (h : f_X11_fault l0 l1 g = some (rx, g')) : Sem X m_X11_fault d [.ref (ad X l0), .int l1] g (some (.int rx)) g' := by
  refine Sem_of (lo := [(0, .ref (ad X l0)), (1, .int l1)]) (by decide +kernel) rfl (Nat.le_of_ble_eq_true rfl) ?_
  rw [f_X11_fault] at h
  refine SF_iload_n 1 1 dX11_fault_0 rfl rfl rfl ?_
  refine SF_ifne 9 4 dX11_fault_1 rfl rfl (fun c1 => ?_) (fun c1 => ?_)
  · have h := ite_f c1 h
    refine SF_iload_n 1 10 dX11_fault_9 rfl rfl rfl ?_
    refine SF_iconst (1 : Int32) 11 dX11_fault_10 rfl rfl ?_
    refine SF_icne 21 14 dX11_fault_11 rfl rfl (fun c2 => ?_) (fun c2 => ?_)
    · have h := ite_f c2 h
      refine SF_iconst (-1 : Int32) 22 dX11_fault_21 rfl rfl ?_
      exact RT_i rfl dX11_fault_22 h
    · have h := ite_t c2 h
      refine SF_aload_n 0 15 dX11_fault_14 rfl rfl rfl ?_
      refine SF_getI 18 fl_X11_13 dX11_fault_15 k_l0.1 rfl ?_
      refine SF_goto 22 dX11_fault_18 rfl ?_
      exact RT_i rfl dX11_fault_22 h
  · have h := ite_t c1 h
    refine SF_aload_n 0 5 dX11_fault_4 rfl rfl rfl ?_
    refine SF_getI 8 fl_X11_121 dX11_fault_5 k_l0.1 rfl ?_
    exact RT_i rfl dX11_fault_8 h

theorem dX12_fault_0 : decode cX12_fault 0 = .ok (.aload_n 0, 1) := by decide +kernel
theorem dX12_fault_1 : decode cX12_fault 1 = .ok (.iconst 0, 1) := by decide +kernel
theorem dX12_fault_2 : decode cX12_fault 2 = .ok (.putfield 1, 3) := by decide +kernel
theorem dX12_fault_5 : decode cX12_fault 5 = .ok (.iload_n 1, 1) := by decide +kernel
theorem dX12_fault_6 : decode cX12_fault 6 = .ok (.ifCond .ne 10, 3) := by decide +kernel
theorem dX12_fault_9 : decode cX12_fault 9 = .ok (.aload_n 0, 1) := by decide +kernel
theorem dX12_fault_10 : decode cX12_fault 10 = .ok (.getfield 202, 3) := by decide +kernel
theorem dX12_fault_13 : decode cX12_fault 13 = .ok (.goto 16, 3) := by decide +kernel
theorem dX12_fault_16 : decode cX12_fault 16 = .ok (.iload_n 1, 1) := by decide +kernel
theorem dX12_fault_17 : decode cX12_fault 17 = .ok (.iconst 1, 1) := by decide +kernel
theorem dX12_fault_18 : decode cX12_fault 18 = .ok (.if_icmp .ne 10, 3) := by decide +kernel
theorem dX12_fault_21 : decode cX12_fault 21 = .ok (.aload_n 0, 1) := by decide +kernel
theorem dX12_fault_22 : decode cX12_fault 22 = .ok (.getfield 27, 3) := by decide +kernel
theorem dX12_fault_25 : decode cX12_fault 25 = .ok (.goto 4, 3) := by decide +kernel
theorem dX12_fault_28 : decode cX12_fault 28 = .ok (.iconst (-1), 1) := by decide +kernel
theorem dX12_fault_29 : decode cX12_fault 29 = .ok (.ireturn, 1) := by decide +kernel
set_option maxRecDepth 20000 in
set_option maxHeartbeats 2000000 in
theorem w_X12_fault {X : CX} {d : Nat} (hd : 0 ≤ d) (l0 : Nat) (l1 : Int32) (g g' : G) (rx : Int32) (k_l0 : KD g l0 12) (h : f_X12_fault l0 l1 g = some (rx, g')) : Sem X m_X12_fault d [.ref (ad X l0), .int l1] g (some (.int rx)) g' := by
  refine Sem_of (lo := [(0, .ref (ad X l0)), (1, .int l1)]) (by decide +kernel) rfl (Nat.le_of_ble_eq_true rfl) ?_
  rw [f_X12_fault] at h
  refine SF_aload_n 0 1 dX12_fault_0 rfl rfl rfl ?_
  refine SF_iconst (0 : Int32) 2 dX12_fault_1 rfl rfl ?_
  refine SF_putI 5 fl_X12_1 dX12_fault_2 k_l0.1 (fn_int _) (Or.inl rfl) rfl ?_
  obtain ⟨g1, e2, h⟩ := lg_some h
  rw [← e2]
  have k_l0 := KD.eq e2 k_l0
  refine SF_iload_n 1 6 dX12_fault_5 rfl rfl rfl ?_
  refine SF_ifne 16 9 dX12_fault_6 rfl rfl (fun c3 => ?_) (fun c3 => ?_)
  · have h := ite_f c3 h
    refine SF_iload_n 1 17 dX12_fault_16 rfl rfl rfl ?_
    refine SF_iconst (1 : Int32) 18 dX12_fault_17 rfl rfl ?_
    refine SF_icne 28 21 dX12_fault_18 rfl rfl (fun c4 => ?_) (fun c4 => ?_)
    · have h := ite_f c4 h
      refine SF_iconst (-1 : Int32) 29 dX12_fault_28 rfl rfl ?_
      exact RT_i rfl dX12_fault_29 h
    · have h := ite_t c4 h
      refine SF_aload_n 0 22 dX12_fault_21 rfl rfl rfl ?_
      refine SF_getI 25 fl_X12_27 dX12_fault_22 k_l0.1 rfl ?_
      refine SF_goto 29 dX12_fault_25 rfl ?_
      exact RT_i rfl dX12_fault_29 h
  · have h := ite_t c3 h
    refine SF_aload_n 0 10 dX12_fault_9 rfl rfl rfl ?_
    refine SF_getI 13 fl_X12_202 dX12_fault_10 k_l0.1 rfl ?_
    refine SF_goto 29 dX12_fault_13 rfl ?_
    exact RT_i rfl dX12_fault_29 h

theorem dX0_isWall_0 : decode cX0_isWall 0 = .ok (.aload_n 0, 1) := by decide +kernel
theorem dX0_isWall_1 : decode cX0_isWall 1 = .ok (.getfield 24, 3) := by decide +kernel
theorem dX0_isWall_4 : decode cX0_isWall 4 = .ok (.iload_n 1, 1) := by decide +kernel
theorem dX0_isWall_5 : decode cX0_isWall 5 = .ok (.invokevirtual 50, 3) := by decide +kernel
theorem dX0_isWall_8 : decode cX0_isWall 8 = .ok (.ifCond .eq 20, 3) := by decide +kernel
theorem dX0_isWall_11 : decode cX0_isWall 11 = .ok (.aload_n 0, 1) := by decide +kernel
theorem dX0_isWall_12 : decode cX0_isWall 12 = .ok (.getfield 28, 3) := by decide +kernel
theorem dX0_isWall_15 : decode cX0_isWall 15 = .ok (.iload_n 1, 1) := by decide +kernel
theorem dX0_isWall_16 : decode cX0_isWall 16 = .ok (.lushr, 1) := by decide +kernel
theorem dX0_isWall_17 : decode cX0_isWall 17 = .ok (.lconst 1, 1) := by decide +kernel
theorem dX0_isWall_18 : decode cX0_isWall 18 = .ok (.land, 1) := by decide +kernel
theorem dX0_isWall_19 : decode cX0_isWall 19 = .ok (.lconst 0, 1) := by decide +kernel
theorem dX0_isWall_20 : decode cX0_isWall 20 = .ok (.lcmp, 1) := by decide +kernel
theorem dX0_isWall_21 : decode cX0_isWall 21 = .ok (.ifCond .eq 7, 3) := by decide +kernel
theorem dX0_isWall_24 : decode cX0_isWall 24 = .ok (.iconst 1, 1) := by decide +kernel
theorem dX0_isWall_25 : decode cX0_isWall 25 = .ok (.goto 4, 3) := by decide +kernel
theorem dX0_isWall_28 : decode cX0_isWall 28 = .ok (.iconst 0, 1) := by decide +kernel
theorem dX0_isWall_29 : decode cX0_isWall 29 = .ok (.ireturn, 1) := by decide +kernel
set_option maxRecDepth 20000 in
set_option maxHeartbeats 2000000 in
theorem w_X0_isWall {X : CX} {d : Nat} (hd : 1 ≤ d) (l0 : Nat) (l1 : Int32) (g g' : G) (rx : Bool) (k_l0 : KD g l0 0) (h : f_X0_isWall l0 l1 g = some (rx, g')) : Sem X m_X0_isWall d [.ref (ad X l0), .int l1] g (some (.int (b2i rx))) g' := by
  refine Sem_of (lo := [(0, .ref (ad X l0)), (1, .int l1)]) (by decide +kernel) rfl (Nat.le_of_ble_eq_true rfl) ?_
  rw [f_X0_isWall] at h
  refine SF_aload_n 0 1 dX0_isWall_0 rfl rfl rfl ?_
  obtain ⟨b1, r2, h⟩ := dr_some h
  refine SF_getR 4 fl_X0_24 dX0_isWall_1 k_l0.1 r2 rfl ?_
  refine SF_iload_n 1 5 dX0_isWall_4 rfl rfl rfl ?_
  obtain ⟨k3, h⟩ := gdK_some h
  obtain ⟨v4, g5, q6, h⟩ := bd_some h
  have s7 := w_X7_isCell (X := X) (Nat.le_refl 0) b1 l1 g g5 v4 k3 q6
  refine SF_callVb 8 mi_X7_isCell ml_X0_50 dX0_isWall_5 (Nat.le_trans (by decide) hd) s7 k3.1 rfl rfl (Nat.le_of_ble_eq_true rfl) rfl ?_
  have k_l0 := k_l0.ext s7.1
  have k3 := k3.ext s7.1
  refine SF_ifeq 28 11 dX0_isWall_8 rfl rfl (fun c8 => ?_) (fun c8 => ?_)
  · have h := ite_t c8 h
    refine SF_iconst (0 : Int32) 29 dX0_isWall_28 rfl rfl ?_
    exact RT_b rfl rfl dX0_isWall_29 h
  · have h := ite_f c8 h
    refine SF_aload_n 0 12 dX0_isWall_11 rfl rfl rfl ?_
    refine SF_getL 15 fl_X0_28 dX0_isWall_12 k_l0.1 rfl ?_
    refine SF_iload_n 1 16 dX0_isWall_15 rfl rfl rfl ?_
    refine SF_lushr 17 dX0_isWall_16 rfl ?_
    refine SF_lconst (1 : Int64) 18 dX0_isWall_17 rfl rfl ?_
    refine SF_land 19 dX0_isWall_18 rfl ?_
    refine SF_lconst (0 : Int64) 20 dX0_isWall_19 rfl rfl ?_
    refine SF_lcmp 21 dX0_isWall_20 rfl ?_
    refine SF_ifeq 28 24 dX0_isWall_21 rfl rfl (fun c9 => ?_) (fun c9 => ?_)
    · have h := ite_t c9 h
      refine SF_iconst (0 : Int32) 29 dX0_isWall_28 rfl rfl ?_
      exact RT_b rfl rfl dX0_isWall_29 h
    · have h := ite_f c9 h
      refine SF_iconst (1 : Int32) 25 dX0_isWall_24 rfl rfl ?_
      refine SF_goto 29 dX0_isWall_25 rfl ?_
      exact RT_b rfl rfl dX0_isWall_29 h

theorem dX0_twinsAt_0 : decode cX0_twinsAt 0 = .ok (.iconst 0, 1) := by decide +kernel
theorem dX0_twinsAt_1 : decode cX0_twinsAt 1 = .ok (.istore_n 2, 1) := by decide +kernel
theorem dX0_twinsAt_2 : decode cX0_twinsAt 2 = .ok (.iconst 0, 1) := by decide +kernel
theorem dX0_twinsAt_3 : decode cX0_twinsAt 3 = .ok (.istore_n 3, 1) := by decide +kernel
theorem dX0_twinsAt_4 : decode cX0_twinsAt 4 = .ok (.iload_n 3, 1) := by decide +kernel
theorem dX0_twinsAt_5 : decode cX0_twinsAt 5 = .ok (.bipush 6, 2) := by decide +kernel
theorem dX0_twinsAt_7 : decode cX0_twinsAt 7 = .ok (.if_icmp .ge 37, 3) := by decide +kernel
theorem dX0_twinsAt_10 : decode cX0_twinsAt 10 = .ok (.iload_n 2, 1) := by decide +kernel
theorem dX0_twinsAt_11 : decode cX0_twinsAt 11 = .ok (.aload_n 0, 1) := by decide +kernel
theorem dX0_twinsAt_12 : decode cX0_twinsAt 12 = .ok (.iload_n 3, 1) := by decide +kernel
theorem dX0_twinsAt_13 : decode cX0_twinsAt 13 = .ok (.iconst 2, 1) := by decide +kernel
theorem dX0_twinsAt_14 : decode cX0_twinsAt 14 = .ok (.idiv, 1) := by decide +kernel
theorem dX0_twinsAt_15 : decode cX0_twinsAt 15 = .ok (.invokevirtual 54, 3) := by decide +kernel
theorem dX0_twinsAt_18 : decode cX0_twinsAt 18 = .ok (.ifCond .eq 17, 3) := by decide +kernel
theorem dX0_twinsAt_21 : decode cX0_twinsAt 21 = .ok (.aload_n 0, 1) := by decide +kernel
theorem dX0_twinsAt_22 : decode cX0_twinsAt 22 = .ok (.getfield 9, 3) := by decide +kernel
theorem dX0_twinsAt_25 : decode cX0_twinsAt 25 = .ok (.iload_n 3, 1) := by decide +kernel
theorem dX0_twinsAt_26 : decode cX0_twinsAt 26 = .ok (.iaload, 1) := by decide +kernel
theorem dX0_twinsAt_27 : decode cX0_twinsAt 27 = .ok (.iload_n 1, 1) := by decide +kernel
theorem dX0_twinsAt_28 : decode cX0_twinsAt 28 = .ok (.if_icmp .ne 7, 3) := by decide +kernel
theorem dX0_twinsAt_31 : decode cX0_twinsAt 31 = .ok (.iconst 1, 1) := by decide +kernel
theorem dX0_twinsAt_32 : decode cX0_twinsAt 32 = .ok (.goto 4, 3) := by decide +kernel
theorem dX0_twinsAt_35 : decode cX0_twinsAt 35 = .ok (.iconst 0, 1) := by decide +kernel
theorem dX0_twinsAt_36 : decode cX0_twinsAt 36 = .ok (.iadd, 1) := by decide +kernel
theorem dX0_twinsAt_37 : decode cX0_twinsAt 37 = .ok (.istore_n 2, 1) := by decide +kernel
theorem dX0_twinsAt_38 : decode cX0_twinsAt 38 = .ok (.iinc 3 1, 3) := by decide +kernel
theorem dX0_twinsAt_41 : decode cX0_twinsAt 41 = .ok (.goto (-37), 3) := by decide +kernel
theorem dX0_twinsAt_44 : decode cX0_twinsAt 44 = .ok (.iload_n 2, 1) := by decide +kernel
theorem dX0_twinsAt_45 : decode cX0_twinsAt 45 = .ok (.ireturn, 1) := by decide +kernel
set_option maxRecDepth 20000 in
set_option maxHeartbeats 2000000 in
theorem w_X0_twinsAt_36 {X : CX} {d : Nat} (hd : 1 ≤ d) {g' : G} {rx : Int32} (k4 : Nat → Int32 → Int32 → Int32 → G → Option (Int32 × G)) (hk4 : ∀ (l0 : Nat) (l1 : Int32) (l2 : Int32) (l3 : Int32) (g : G), KD g l0 0 → k4 l0 l1 l2 l3 g = some (rx, g') → SemF X m_X0_twinsAt d 4 [(0, .ref (ad X l0)), (1, .int l1), (2, .int l2), (3, .int l3)] [] g (some (.int rx)) g') (l0 : Nat) (l1 : Int32) (l3 : Int32) (s0 : Int32) (s1 : Int32) (g : G) (k_l0 : KD g l0 0) (h : f_X0_twinsAt_36 k4 l0 l1 l3 s0 s1 g = some (rx, g')) : SemF X m_X0_twinsAt d 36 [(0, .ref (ad X l0)), (1, .int l1), (3, .int l3)] [.int s0, .int s1] g (some (.int rx)) g' := by
  rw [f_X0_twinsAt_36] at h
  refine SF_iadd 37 dX0_twinsAt_36 rfl ?_
  obtain ⟨y1, e2, h⟩ := li_some h
  refine SF_eqI e2 ?_
  refine SF_istore_n [(2, .int y1), (0, .ref (ad X l0)), (1, .int l1), (3, .int l3)] 38 dX0_twinsAt_37 rfl (by decide) rfl rfl ?_
  refine SF_iinc 3 (l3 + (1 : Int32)) [(3, .int (l3 + (1 : Int32))), (2, .int y1), (0, .ref (ad X l0)), (1, .int l1)] 41 dX0_twinsAt_38 rfl rfl (by decide) rfl rfl ?_
  refine SF_goto 4 dX0_twinsAt_41 rfl ?_
  refine SF_sub [2, 3, 1, 0] rfl ?_
  exact hk4 l0 l1 y1 (l3 + (1 : Int32)) g k_l0 h

set_option maxRecDepth 20000 in
set_option maxHeartbeats 2000000 in
theorem w_X0_twinsAt_35 {X : CX} {d : Nat} (hd : 1 ≤ d) {g' : G} {rx : Int32} (k4 : Nat → Int32 → Int32 → Int32 → G → Option (Int32 × G)) (hk4 : ∀ (l0 : Nat) (l1 : Int32) (l2 : Int32) (l3 : Int32) (g : G), KD g l0 0 → k4 l0 l1 l2 l3 g = some (rx, g') → SemF X m_X0_twinsAt d 4 [(0, .ref (ad X l0)), (1, .int l1), (2, .int l2), (3, .int l3)] [] g (some (.int rx)) g') (l0 : Nat) (l1 : Int32) (l3 : Int32) (s0 : Int32) (g : G) (k_l0 : KD g l0 0) (h : f_X0_twinsAt_35 k4 l0 l1 l3 s0 g = some (rx, g')) : SemF X m_X0_twinsAt d 35 [(0, .ref (ad X l0)), (1, .int l1), (3, .int l3)] [.int s0] g (some (.int rx)) g' := by
  rw [f_X0_twinsAt_35] at h
  refine SF_iconst (0 : Int32) 36 dX0_twinsAt_35 rfl rfl ?_
  exact w_X0_twinsAt_36 hd k4 hk4 l0 l1 l3 (0 : Int32) s0 g k_l0 h

set_option maxRecDepth 20000 in
set_option maxHeartbeats 2000000 in
theorem w_X0_twinsAt_4 {X : CX} {d : Nat} (hd : 1 ≤ d) {g' : G} {rx : Int32} : ∀ (n : Nat) (l0 : Nat) (l1 : Int32) (l2 : Int32) (l3 : Int32) (g : G), KD g l0 0 → f_X0_twinsAt_4 n l0 l1 l2 l3 g = some (rx, g') → SemF X m_X0_twinsAt d 4 [(0, .ref (ad X l0)), (1, .int l1), (2, .int l2), (3, .int l3)] [] g (some (.int rx)) g' := by
  intro n
  induction n with
  | zero =>
    intro l0 l1 l2 l3 g k_l0 h
    rw [f_X0_twinsAt_4] at h
    cases h
  | succ n ih =>
  intro l0 l1 l2 l3 g k_l0 h
  rw [f_X0_twinsAt_4] at h
  refine SF_iload_n 3 5 dX0_twinsAt_4 rfl rfl rfl ?_
  refine SF_bipush (6 : Int32) 7 dX0_twinsAt_5 rfl rfl ?_
  refine SF_icge 44 10 dX0_twinsAt_7 rfl rfl (fun c1 => ?_) (fun c1 => ?_)
  · have h := ite_t c1 h
    refine SF_iload_n 2 45 dX0_twinsAt_44 rfl rfl rfl ?_
    exact RT_i rfl dX0_twinsAt_45 h
  · have h := ite_f c1 h
    refine SF_iload_n 2 11 dX0_twinsAt_10 rfl rfl rfl ?_
    refine SF_aload_n 0 12 dX0_twinsAt_11 rfl rfl rfl ?_
    refine SF_iload_n 3 13 dX0_twinsAt_12 rfl rfl rfl ?_
    refine SF_iconst (2 : Int32) 14 dX0_twinsAt_13 rfl rfl ?_
    refine SF_idiv 15 dX0_twinsAt_14 (by decide) rfl ?_
    obtain ⟨v2, g3, q4, h⟩ := bd_some h
    have s5 := w_X0_isPair (X := X) (Nat.le_refl 0) l0 (l3 / (2 : Int32)) g g3 v2 k_l0 q4
    refine SF_callVb 18 mi_X0_isPair ml_X0_54 dX0_twinsAt_15 (Nat.le_trans (by decide) hd) s5 k_l0.1 rfl rfl (Nat.le_of_ble_eq_true rfl) rfl ?_
    have k_l0 := k_l0.ext s5.1
    refine SF_ifeq 35 21 dX0_twinsAt_18 rfl rfl (fun c6 => ?_) (fun c6 => ?_)
    · have h := ite_t c6 h
      refine SF_sub [0, 1, 3] rfl ?_
      exact w_X0_twinsAt_35 hd (f_X0_twinsAt_4 n) ih l0 l1 l3 l2 g3 k_l0 h
    · have h := ite_f c6 h
      refine SF_aload_n 0 22 dX0_twinsAt_21 rfl rfl rfl ?_
      obtain ⟨b7, r8, h⟩ := dr_some h
      refine SF_getR 25 fl_X0_9 dX0_twinsAt_22 k_l0.1 r8 rfl ?_
      refine SF_iload_n 3 26 dX0_twinsAt_25 rfl rfl rfl ?_
      obtain ⟨k9, h⟩ := gdK_some h
      obtain ⟨i10, h⟩ := gdI_some h
      refine SF_iald 27 dX0_twinsAt_26 k9.1 i10 rfl ?_
      refine SF_iload_n 1 28 dX0_twinsAt_27 rfl rfl rfl ?_
      refine SF_icne 35 31 dX0_twinsAt_28 rfl rfl (fun c11 => ?_) (fun c11 => ?_)
      · have h := ite_f c11 h
        refine SF_sub [0, 1, 3] rfl ?_
        exact w_X0_twinsAt_35 hd (f_X0_twinsAt_4 n) ih l0 l1 l3 l2 g3 k_l0 h
      · have h := ite_t c11 h
        refine SF_iconst (1 : Int32) 32 dX0_twinsAt_31 rfl rfl ?_
        refine SF_goto 36 dX0_twinsAt_32 rfl ?_
        refine SF_sub [0, 1, 3] rfl ?_
        exact w_X0_twinsAt_36 hd (f_X0_twinsAt_4 n) ih l0 l1 l3 (1 : Int32) l2 g3 k_l0 h

set_option maxRecDepth 20000 in
set_option maxHeartbeats 2000000 in
theorem w_X0_twinsAt {X : CX} {d : Nat} (hd : 1 ≤ d) (l0 : Nat) (l1 : Int32) (g g' : G) (rx : Int32) (k_l0 : KD g l0 0) (h : f_X0_twinsAt l0 l1 g = some (rx, g')) : Sem X m_X0_twinsAt d [.ref (ad X l0), .int l1] g (some (.int rx)) g' := by
  refine Sem_of (lo := [(0, .ref (ad X l0)), (1, .int l1)]) (by decide +kernel) rfl (Nat.le_of_ble_eq_true rfl) ?_
  rw [f_X0_twinsAt] at h
  refine SF_iconst (0 : Int32) 1 dX0_twinsAt_0 rfl rfl ?_
  refine SF_istore_n [(2, .int (0 : Int32)), (0, .ref (ad X l0)), (1, .int l1)] 2 dX0_twinsAt_1 rfl (by decide) rfl rfl ?_
  refine SF_iconst (0 : Int32) 3 dX0_twinsAt_2 rfl rfl ?_
  refine SF_istore_n [(3, .int (0 : Int32)), (2, .int (0 : Int32)), (0, .ref (ad X l0)), (1, .int l1)] 4 dX0_twinsAt_3 rfl (by decide) rfl rfl ?_
  refine SF_sub [2, 3, 1, 0] rfl ?_
  exact w_X0_twinsAt_4 hd FU l0 l1 (0 : Int32) (0 : Int32) g k_l0 h

theorem dX0_firstPairAt_0 : decode cX0_firstPairAt 0 = .ok (.iconst 0, 1) := by decide +kernel
theorem dX0_firstPairAt_1 : decode cX0_firstPairAt 1 = .ok (.istore_n 2, 1) := by decide +kernel
theorem dX0_firstPairAt_2 : decode cX0_firstPairAt 2 = .ok (.iload_n 2, 1) := by decide +kernel
theorem dX0_firstPairAt_3 : decode cX0_firstPairAt 3 = .ok (.bipush 6, 2) := by decide +kernel
theorem dX0_firstPairAt_5 : decode cX0_firstPairAt 5 = .ok (.if_icmp .ge 33, 3) := by decide +kernel
theorem dX0_firstPairAt_8 : decode cX0_firstPairAt 8 = .ok (.aload_n 0, 1) := by decide +kernel
theorem dX0_firstPairAt_9 : decode cX0_firstPairAt 9 = .ok (.iload_n 2, 1) := by decide +kernel
theorem dX0_firstPairAt_10 : decode cX0_firstPairAt 10 = .ok (.iconst 2, 1) := by decide +kernel
theorem dX0_firstPairAt_11 : decode cX0_firstPairAt 11 = .ok (.idiv, 1) := by decide +kernel
theorem dX0_firstPairAt_12 : decode cX0_firstPairAt 12 = .ok (.invokevirtual 54, 3) := by decide +kernel
theorem dX0_firstPairAt_15 : decode cX0_firstPairAt 15 = .ok (.ifCond .eq 17, 3) := by decide +kernel
theorem dX0_firstPairAt_18 : decode cX0_firstPairAt 18 = .ok (.aload_n 0, 1) := by decide +kernel
theorem dX0_firstPairAt_19 : decode cX0_firstPairAt 19 = .ok (.getfield 9, 3) := by decide +kernel
theorem dX0_firstPairAt_22 : decode cX0_firstPairAt 22 = .ok (.iload_n 2, 1) := by decide +kernel
theorem dX0_firstPairAt_23 : decode cX0_firstPairAt 23 = .ok (.iaload, 1) := by decide +kernel
theorem dX0_firstPairAt_24 : decode cX0_firstPairAt 24 = .ok (.iload_n 1, 1) := by decide +kernel
theorem dX0_firstPairAt_25 : decode cX0_firstPairAt 25 = .ok (.if_icmp .ne 7, 3) := by decide +kernel
theorem dX0_firstPairAt_28 : decode cX0_firstPairAt 28 = .ok (.iload_n 2, 1) := by decide +kernel
theorem dX0_firstPairAt_29 : decode cX0_firstPairAt 29 = .ok (.iconst 2, 1) := by decide +kernel
theorem dX0_firstPairAt_30 : decode cX0_firstPairAt 30 = .ok (.idiv, 1) := by decide +kernel
theorem dX0_firstPairAt_31 : decode cX0_firstPairAt 31 = .ok (.ireturn, 1) := by decide +kernel
theorem dX0_firstPairAt_32 : decode cX0_firstPairAt 32 = .ok (.iinc 2 1, 3) := by decide +kernel
theorem dX0_firstPairAt_35 : decode cX0_firstPairAt 35 = .ok (.goto (-33), 3) := by decide +kernel
theorem dX0_firstPairAt_38 : decode cX0_firstPairAt 38 = .ok (.iconst (-1), 1) := by decide +kernel
theorem dX0_firstPairAt_39 : decode cX0_firstPairAt 39 = .ok (.ireturn, 1) := by decide +kernel
set_option maxRecDepth 20000 in
set_option maxHeartbeats 2000000 in
theorem w_X0_firstPairAt_32 {X : CX} {d : Nat} (hd : 1 ≤ d) {g' : G} {rx : Int32} (k2 : Nat → Int32 → Int32 → G → Option (Int32 × G)) (hk2 : ∀ (l0 : Nat) (l1 : Int32) (l2 : Int32) (g : G), KD g l0 0 → k2 l0 l1 l2 g = some (rx, g') → SemF X m_X0_firstPairAt d 2 [(0, .ref (ad X l0)), (1, .int l1), (2, .int l2)] [] g (some (.int rx)) g') (l0 : Nat) (l1 : Int32) (l2 : Int32) (g : G) (k_l0 : KD g l0 0) (h : f_X0_firstPairAt_32 k2 l0 l1 l2 g = some (rx, g')) : SemF X m_X0_firstPairAt d 32 [(0, .ref (ad X l0)), (1, .int l1), (2, .int l2)] [] g (some (.int rx)) g' := by
  rw [f_X0_firstPairAt_32] at h
  refine SF_iinc 2 (l2 + (1 : Int32)) [(2, .int (l2 + (1 : Int32))), (0, .ref (ad X l0)), (1, .int l1)] 35 dX0_firstPairAt_32 rfl rfl (by decide) rfl rfl ?_
  refine SF_goto 2 dX0_firstPairAt_35 rfl ?_
  refine SF_sub [1, 2, 0] rfl ?_
  exact hk2 l0 l1 (l2 + (1 : Int32)) g k_l0 h

set_option maxRecDepth 20000 in
set_option maxHeartbeats 2000000 in
theorem w_X0_firstPairAt_2 {X : CX} {d : Nat} (hd : 1 ≤ d) {g' : G} {rx : Int32} : ∀ (n : Nat) (l0 : Nat) (l1 : Int32) (l2 : Int32) (g : G), KD g l0 0 → f_X0_firstPairAt_2 n l0 l1 l2 g = some (rx, g') → SemF X m_X0_firstPairAt d 2 [(0, .ref (ad X l0)), (1, .int l1), (2, .int l2)] [] g (some (.int rx)) g' := by
  intro n
  induction n with
  | zero =>
    intro l0 l1 l2 g k_l0 h
    rw [f_X0_firstPairAt_2] at h
    cases h
  | succ n ih =>
  intro l0 l1 l2 g k_l0 h
  rw [f_X0_firstPairAt_2] at h
  refine SF_iload_n 2 3 dX0_firstPairAt_2 rfl rfl rfl ?_
  refine SF_bipush (6 : Int32) 5 dX0_firstPairAt_3 rfl rfl ?_
  refine SF_icge 38 8 dX0_firstPairAt_5 rfl rfl (fun c1 => ?_) (fun c1 => ?_)
  · have h := ite_t c1 h
    refine SF_iconst (-1 : Int32) 39 dX0_firstPairAt_38 rfl rfl ?_
    exact RT_i rfl dX0_firstPairAt_39 h
  · have h := ite_f c1 h
    refine SF_aload_n 0 9 dX0_firstPairAt_8 rfl rfl rfl ?_
    refine SF_iload_n 2 10 dX0_firstPairAt_9 rfl rfl rfl ?_
    refine SF_iconst (2 : Int32) 11 dX0_firstPairAt_10 rfl rfl ?_
    refine SF_idiv 12 dX0_firstPairAt_11 (by decide) rfl ?_
    obtain ⟨v2, g3, q4, h⟩ := bd_some h
    have s5 := w_X0_isPair (X := X) (Nat.le_refl 0) l0 (l2 / (2 : Int32)) g g3 v2 k_l0 q4
    refine SF_callVb 15 mi_X0_isPair ml_X0_54 dX0_firstPairAt_12 (Nat.le_trans (by decide) hd) s5 k_l0.1 rfl rfl (Nat.le_of_ble_eq_true rfl) rfl ?_
    have k_l0 := k_l0.ext s5.1
    refine SF_ifeq 32 18 dX0_firstPairAt_15 rfl rfl (fun c6 => ?_) (fun c6 => ?_)
    · have h := ite_t c6 h
      exact w_X0_firstPairAt_32 hd (f_X0_firstPairAt_2 n) ih l0 l1 l2 g3 k_l0 h
    · have h := ite_f c6 h
      refine SF_aload_n 0 19 dX0_firstPairAt_18 rfl rfl rfl ?_
      obtain ⟨b7, r8, h⟩ := dr_some h
      refine SF_getR 22 fl_X0_9 dX0_firstPairAt_19 k_l0.1 r8 rfl ?_
      refine SF_iload_n 2 23 dX0_firstPairAt_22 rfl rfl rfl ?_
      obtain ⟨k9, h⟩ := gdK_some h
      obtain ⟨i10, h⟩ := gdI_some h
      refine SF_iald 24 dX0_firstPairAt_23 k9.1 i10 rfl ?_
      refine SF_iload_n 1 25 dX0_firstPairAt_24 rfl rfl rfl ?_
      refine SF_icne 32 28 dX0_firstPairAt_25 rfl rfl (fun c11 => ?_) (fun c11 => ?_)
      · have h := ite_f c11 h
        exact w_X0_firstPairAt_32 hd (f_X0_firstPairAt_2 n) ih l0 l1 l2 g3 k_l0 h
      · have h := ite_t c11 h
        refine SF_iload_n 2 29 dX0_firstPairAt_28 rfl rfl rfl ?_
        refine SF_iconst (2 : Int32) 30 dX0_firstPairAt_29 rfl rfl ?_
        refine SF_idiv 31 dX0_firstPairAt_30 (by decide) rfl ?_
        exact RT_i rfl dX0_firstPairAt_31 h

set_option maxRecDepth 20000 in
set_option maxHeartbeats 2000000 in
theorem w_X0_firstPairAt {X : CX} {d : Nat} (hd : 1 ≤ d) (l0 : Nat) (l1 : Int32) (g g' : G) (rx : Int32) (k_l0 : KD g l0 0) (h : f_X0_firstPairAt l0 l1 g = some (rx, g')) : Sem X m_X0_firstPairAt d [.ref (ad X l0), .int l1] g (some (.int rx)) g' := by
  refine Sem_of (lo := [(0, .ref (ad X l0)), (1, .int l1)]) (by decide +kernel) rfl (Nat.le_of_ble_eq_true rfl) ?_
  rw [f_X0_firstPairAt] at h
  refine SF_iconst (0 : Int32) 1 dX0_firstPairAt_0 rfl rfl ?_
  refine SF_istore_n [(2, .int (0 : Int32)), (0, .ref (ad X l0)), (1, .int l1)] 2 dX0_firstPairAt_1 rfl (by decide) rfl rfl ?_
  refine SF_sub [1, 2, 0] rfl ?_
  exact w_X0_firstPairAt_2 hd FU l0 l1 (0 : Int32) g k_l0 h

theorem dX11_cell_0 : decode cX11_cell 0 = .ok (.aload_n 0, 1) := by decide +kernel
theorem dX11_cell_1 : decode cX11_cell 1 = .ok (.getfield 78, 3) := by decide +kernel
theorem dX11_cell_4 : decode cX11_cell 4 = .ok (.getfield 136, 3) := by decide +kernel
theorem dX11_cell_7 : decode cX11_cell 7 = .ok (.iload_n 1, 1) := by decide +kernel
theorem dX11_cell_8 : decode cX11_cell 8 = .ok (.invokevirtual 143, 3) := by decide +kernel
theorem dX11_cell_11 : decode cX11_cell 11 = .ok (.ifCond .ne 6, 3) := by decide +kernel
theorem dX11_cell_14 : decode cX11_cell 14 = .ok (.bipush (-2), 2) := by decide +kernel
theorem dX11_cell_16 : decode cX11_cell 16 = .ok (.ireturn, 1) := by decide +kernel
theorem dX11_cell_17 : decode cX11_cell 17 = .ok (.iload_n 2, 1) := by decide +kernel
theorem dX11_cell_18 : decode cX11_cell 18 = .ok (.ifCond .ne 32, 3) := by decide +kernel
theorem dX11_cell_21 : decode cX11_cell 21 = .ok (.aload_n 0, 1) := by decide +kernel
theorem dX11_cell_22 : decode cX11_cell 22 = .ok (.getfield 78, 3) := by decide +kernel
theorem dX11_cell_25 : decode cX11_cell 25 = .ok (.iload_n 1, 1) := by decide +kernel
theorem dX11_cell_26 : decode cX11_cell 26 = .ok (.invokevirtual 147, 3) := by decide +kernel
theorem dX11_cell_29 : decode cX11_cell 29 = .ok (.ifCond .eq 8, 3) := by decide +kernel
theorem dX11_cell_32 : decode cX11_cell 32 = .ok (.bipush 9, 2) := by decide +kernel
theorem dX11_cell_34 : decode cX11_cell 34 = .ok (.goto 15, 3) := by decide +kernel
theorem dX11_cell_37 : decode cX11_cell 37 = .ok (.aload_n 0, 1) := by decide +kernel
theorem dX11_cell_38 : decode cX11_cell 38 = .ok (.getfield 78, 3) := by decide +kernel
theorem dX11_cell_41 : decode cX11_cell 41 = .ok (.getfield 136, 3) := by decide +kernel
theorem dX11_cell_44 : decode cX11_cell 44 = .ok (.getfield 150, 3) := by decide +kernel
theorem dX11_cell_47 : decode cX11_cell 47 = .ok (.iload_n 1, 1) := by decide +kernel
theorem dX11_cell_48 : decode cX11_cell 48 = .ok (.iaload, 1) := by decide +kernel
theorem dX11_cell_49 : decode cX11_cell 49 = .ok (.ireturn, 1) := by decide +kernel
theorem dX11_cell_50 : decode cX11_cell 50 = .ok (.iload_n 2, 1) := by decide +kernel
theorem dX11_cell_51 : decode cX11_cell 51 = .ok (.iconst 1, 1) := by decide +kernel
theorem dX11_cell_52 : decode cX11_cell 52 = .ok (.if_icmp .ne 12, 3) := by decide +kernel
theorem dX11_cell_55 : decode cX11_cell 55 = .ok (.aload_n 0, 1) := by decide +kernel
theorem dX11_cell_56 : decode cX11_cell 56 = .ok (.getfield 78, 3) := by decide +kernel
theorem dX11_cell_59 : decode cX11_cell 59 = .ok (.iload_n 1, 1) := by decide +kernel
theorem dX11_cell_60 : decode cX11_cell 60 = .ok (.invokevirtual 154, 3) := by decide +kernel
theorem dX11_cell_63 : decode cX11_cell 63 = .ok (.ireturn, 1) := by decide +kernel
theorem dX11_cell_64 : decode cX11_cell 64 = .ok (.iload_n 2, 1) := by decide +kernel
theorem dX11_cell_65 : decode cX11_cell 65 = .ok (.iconst 2, 1) := by decide +kernel
theorem dX11_cell_66 : decode cX11_cell 66 = .ok (.if_icmp .ne 14, 3) := by decide +kernel
theorem dX11_cell_69 : decode cX11_cell 69 = .ok (.aload_n 0, 1) := by decide +kernel
theorem dX11_cell_70 : decode cX11_cell 70 = .ok (.getfield 78, 3) := by decide +kernel
theorem dX11_cell_73 : decode cX11_cell 73 = .ok (.iload_n 1, 1) := by decide +kernel
theorem dX11_cell_74 : decode cX11_cell 74 = .ok (.invokevirtual 158, 3) := by decide +kernel
theorem dX11_cell_77 : decode cX11_cell 77 = .ok (.goto 5, 3) := by decide +kernel
theorem dX11_cell_80 : decode cX11_cell 80 = .ok (.bipush (-2), 2) := by decide +kernel
theorem dX11_cell_82 : decode cX11_cell 82 = .ok (.ireturn, 1) := by decide +kernel
set_option maxRecDepth 20000 in
set_option maxHeartbeats 2000000 in
theorem w_X11_cell {X : CX} {d : Nat} (hd : 2 ≤ d) (l0 : Nat) (l1 : Int32) (l2 : Int32) (g g' : G) (rx : Int32) (k_l0 : KD g l0 11) (h : f_X11_cell l0 l1 l2 g = some (rx, g')) : Sem X m_X11_cell d [.ref (ad X l0), .int l1, .int l2] g (some (.int rx)) g' := by
  refine Sem_of (lo := [(0, .ref (ad X l0)), (1, .int l1), (2, .int l2)]) (by decide +kernel) rfl (Nat.le_of_ble_eq_true rfl) ?_
  rw [f_X11_cell] at h
  refine SF_aload_n 0 1 dX11_cell_0 rfl rfl rfl ?_
  obtain ⟨b1, r2, h⟩ := dr_some h
  refine SF_getR 4 fl_X11_78 dX11_cell_1 k_l0.1 r2 rfl ?_
  obtain ⟨k3, h⟩ := gdK_some h
  obtain ⟨b4, r5, h⟩ := dr_some h
  refine SF_getR 7 fl_X11_136 dX11_cell_4 k3.1 r5 rfl ?_
  refine SF_iload_n 1 8 dX11_cell_7 rfl rfl rfl ?_
  obtain ⟨k6, h⟩ := gdK_some h
  obtain ⟨v7, g8, q9, h⟩ := bd_some h
  have s10 := w_X7_isCell (X := X) (Nat.le_refl 0) b4 l1 g g8 v7 k6 q9
  refine SF_callVb 11 mi_X7_isCell ml_X11_143 dX11_cell_8 (Nat.le_trans (by decide) hd) s10 k6.1 rfl rfl (Nat.le_of_ble_eq_true rfl) rfl ?_
  have k_l0 := k_l0.ext s10.1
  have k3 := k3.ext s10.1
  have k6 := k6.ext s10.1
  refine SF_ifne 17 14 dX11_cell_11 rfl rfl (fun c11 => ?_) (fun c11 => ?_)
  · have h := ite_f c11 h
    refine SF_iload_n 2 18 dX11_cell_17 rfl rfl rfl ?_
    refine SF_ifne 50 21 dX11_cell_18 rfl rfl (fun c12 => ?_) (fun c12 => ?_)
    · have h := ite_f c12 h
      refine SF_iload_n 2 51 dX11_cell_50 rfl rfl rfl ?_
      refine SF_iconst (1 : Int32) 52 dX11_cell_51 rfl rfl ?_
      refine SF_icne 64 55 dX11_cell_52 rfl rfl (fun c13 => ?_) (fun c13 => ?_)
      · have h := ite_f c13 h
        refine SF_iload_n 2 65 dX11_cell_64 rfl rfl rfl ?_
        refine SF_iconst (2 : Int32) 66 dX11_cell_65 rfl rfl ?_
        refine SF_icne 80 69 dX11_cell_66 rfl rfl (fun c14 => ?_) (fun c14 => ?_)
        · have h := ite_f c14 h
          refine SF_bipush (-2 : Int32) 82 dX11_cell_80 rfl rfl ?_
          exact RT_i rfl dX11_cell_82 h
        · have h := ite_t c14 h
          refine SF_aload_n 0 70 dX11_cell_69 rfl rfl rfl ?_
          obtain ⟨b15, r16, h⟩ := dr_some h
          refine SF_getR 73 fl_X11_78 dX11_cell_70 k_l0.1 r16 rfl ?_
          refine SF_iload_n 1 74 dX11_cell_73 rfl rfl rfl ?_
          obtain ⟨k17, h⟩ := gdK_some h
          obtain ⟨v18, g19, q20, h⟩ := bd_some h
          have s21 := w_X0_firstPairAt (X := X) (Nat.le_refl 1) b15 l1 g8 g19 v18 k17 q20
          refine SF_callVi 77 mi_X0_firstPairAt ml_X11_158 dX11_cell_74 (Nat.le_trans (by decide) hd) s21 k17.1 rfl rfl (Nat.le_of_ble_eq_true rfl) rfl ?_
          have k_l0 := k_l0.ext s21.1
          have k3 := k3.ext s21.1
          have k6 := k6.ext s21.1
          have k17 := k17.ext s21.1
          refine SF_goto 82 dX11_cell_77 rfl ?_
          exact RT_i rfl dX11_cell_82 h
      · have h := ite_t c13 h
        refine SF_aload_n 0 56 dX11_cell_55 rfl rfl rfl ?_
        obtain ⟨b22, r23, h⟩ := dr_some h
        refine SF_getR 59 fl_X11_78 dX11_cell_56 k_l0.1 r23 rfl ?_
        refine SF_iload_n 1 60 dX11_cell_59 rfl rfl rfl ?_
        obtain ⟨k24, h⟩ := gdK_some h
        obtain ⟨v25, g26, q27, h⟩ := bd_some h
        have s28 := w_X0_twinsAt (X := X) (Nat.le_refl 1) b22 l1 g8 g26 v25 k24 q27
        refine SF_callVi 63 mi_X0_twinsAt ml_X11_154 dX11_cell_60 (Nat.le_trans (by decide) hd) s28 k24.1 rfl rfl (Nat.le_of_ble_eq_true rfl) rfl ?_
        have k_l0 := k_l0.ext s28.1
        have k3 := k3.ext s28.1
        have k6 := k6.ext s28.1
        have k24 := k24.ext s28.1
        exact RT_i rfl dX11_cell_63 h
    · have h := ite_t c12 h
      refine SF_aload_n 0 22 dX11_cell_21 rfl rfl rfl ?_
      obtain ⟨b29, r30, h⟩ := dr_some h
      refine SF_getR 25 fl_X11_78 dX11_cell_22 k_l0.1 r30 rfl ?_
      refine SF_iload_n 1 26 dX11_cell_25 rfl rfl rfl ?_
      obtain ⟨k31, h⟩ := gdK_some h
      obtain ⟨v32, g33, q34, h⟩ := bd_some h
      have s35 := w_X0_isWall (X := X) (Nat.le_refl 1) b29 l1 g8 g33 v32 k31 q34
      refine SF_callVb 29 mi_X0_isWall ml_X11_147 dX11_cell_26 (Nat.le_trans (by decide) hd) s35 k31.1 rfl rfl (Nat.le_of_ble_eq_true rfl) rfl ?_
      have k_l0 := k_l0.ext s35.1
      have k3 := k3.ext s35.1
      have k6 := k6.ext s35.1
      have k31 := k31.ext s35.1
      refine SF_ifeq 37 32 dX11_cell_29 rfl rfl (fun c36 => ?_) (fun c36 => ?_)
      · have h := ite_t c36 h
        refine SF_aload_n 0 38 dX11_cell_37 rfl rfl rfl ?_
        obtain ⟨b37, r38, h⟩ := dr_some h
        refine SF_getR 41 fl_X11_78 dX11_cell_38 k_l0.1 r38 rfl ?_
        obtain ⟨k39, h⟩ := gdK_some h
        obtain ⟨b40, r41, h⟩ := dr_some h
        refine SF_getR 44 fl_X11_136 dX11_cell_41 k39.1 r41 rfl ?_
        obtain ⟨k42, h⟩ := gdK_some h
        obtain ⟨b43, r44, h⟩ := dr_some h
        refine SF_getR 47 fl_X11_150 dX11_cell_44 k42.1 r44 rfl ?_
        refine SF_iload_n 1 48 dX11_cell_47 rfl rfl rfl ?_
        obtain ⟨k45, h⟩ := gdK_some h
        obtain ⟨i46, h⟩ := gdI_some h
        refine SF_iald 49 dX11_cell_48 k45.1 i46 rfl ?_
        exact RT_i rfl dX11_cell_49 h
      · have h := ite_f c36 h
        refine SF_bipush (9 : Int32) 34 dX11_cell_32 rfl rfl ?_
        refine SF_goto 49 dX11_cell_34 rfl ?_
        exact RT_i rfl dX11_cell_49 h
  · have h := ite_t c11 h
    refine SF_bipush (-2 : Int32) 16 dX11_cell_14 rfl rfl ?_
    exact RT_i rfl dX11_cell_16 h

theorem dX12_cells_0 : decode cX12_cells 0 = .ok (.aload_n 0, 1) := by decide +kernel
theorem dX12_cells_1 : decode cX12_cells 1 = .ok (.getfield 13, 3) := by decide +kernel
theorem dX12_cells_4 : decode cX12_cells 4 = .ok (.iconst 1, 1) := by decide +kernel
theorem dX12_cells_5 : decode cX12_cells 5 = .ok (.iaload, 1) := by decide +kernel
theorem dX12_cells_6 : decode cX12_cells 6 = .ok (.aload_n 0, 1) := by decide +kernel
theorem dX12_cells_7 : decode cX12_cells 7 = .ok (.getfield 13, 3) := by decide +kernel
theorem dX12_cells_10 : decode cX12_cells 10 = .ok (.iconst 2, 1) := by decide +kernel
theorem dX12_cells_11 : decode cX12_cells 11 = .ok (.iaload, 1) := by decide +kernel
theorem dX12_cells_12 : decode cX12_cells 12 = .ok (.imul, 1) := by decide +kernel
theorem dX12_cells_13 : decode cX12_cells 13 = .ok (.ireturn, 1) := by decide +kernel
set_option maxRecDepth 20000 in
set_option maxHeartbeats 2000000 in
theorem w_X12_cells {X : CX} {d : Nat} (hd : 0 ≤ d) (l0 : Nat) (g g' : G) (rx : Int32) (k_l0 : KD g l0 12) (h : f_X12_cells l0 g = some (rx, g')) : Sem X m_X12_cells d [.ref (ad X l0)] g (some (.int rx)) g' := by
  refine Sem_of (lo := [(0, .ref (ad X l0))]) (by decide +kernel) rfl (Nat.le_of_ble_eq_true rfl) ?_
  rw [f_X12_cells] at h
  refine SF_aload_n 0 1 dX12_cells_0 rfl rfl rfl ?_
  obtain ⟨b1, r2, h⟩ := dr_some h
  refine SF_getR 4 fl_X12_13 dX12_cells_1 k_l0.1 r2 rfl ?_
  refine SF_iconst (1 : Int32) 5 dX12_cells_4 rfl rfl ?_
  obtain ⟨k3, h⟩ := gdK_some h
  obtain ⟨i4, h⟩ := gdI_some h
  refine SF_iald 6 dX12_cells_5 k3.1 i4 rfl ?_
  refine SF_aload_n 0 7 dX12_cells_6 rfl rfl rfl ?_
  refine SF_getR 10 fl_X12_13 dX12_cells_7 k_l0.1 r2 rfl ?_
  refine SF_iconst (2 : Int32) 11 dX12_cells_10 rfl rfl ?_
  obtain ⟨i5, h⟩ := gdI_some h
  refine SF_iald 12 dX12_cells_11 k3.1 i5 rfl ?_
  refine SF_imul 13 dX12_cells_12 rfl ?_
  exact RT_i rfl dX12_cells_13 h

theorem dX12_isCell_0 : decode cX12_isCell 0 = .ok (.lload_n 1, 1) := by decide +kernel
theorem dX12_isCell_1 : decode cX12_isCell 1 = .ok (.lconst 0, 1) := by decide +kernel
theorem dX12_isCell_2 : decode cX12_isCell 2 = .ok (.aload_n 0, 1) := by decide +kernel
theorem dX12_isCell_3 : decode cX12_isCell 3 = .ok (.invokevirtual 214, 3) := by decide +kernel
theorem dX12_isCell_6 : decode cX12_isCell 6 = .ok (.iconst 1, 1) := by decide +kernel
theorem dX12_isCell_7 : decode cX12_isCell 7 = .ok (.isub, 1) := by decide +kernel
theorem dX12_isCell_8 : decode cX12_isCell 8 = .ok (.i2l, 1) := by decide +kernel
theorem dX12_isCell_9 : decode cX12_isCell 9 = .ok (.invokestatic 139, 3) := by decide +kernel
theorem dX12_isCell_12 : decode cX12_isCell 12 = .ok (.ireturn, 1) := by decide +kernel
set_option maxRecDepth 20000 in
set_option maxHeartbeats 2000000 in
theorem w_X12_isCell {X : CX} {d : Nat} (hd : 1 ≤ d) (l0 : Nat) (l1 : Int64) (g g' : G) (rx : Bool) (k_l0 : KD g l0 12) (h : f_X12_isCell l0 l1 g = some (rx, g')) : Sem X m_X12_isCell d [.ref (ad X l0), .long l1] g (some (.int (b2i rx))) g' := by
  refine Sem_of (lo := [(0, .ref (ad X l0)), (1, .long l1)]) (by decide +kernel) rfl (Nat.le_of_ble_eq_true rfl) ?_
  rw [f_X12_isCell] at h
  refine SF_lload_n 1 1 dX12_isCell_0 rfl rfl rfl ?_
  refine SF_lconst (0 : Int64) 2 dX12_isCell_1 rfl rfl ?_
  refine SF_aload_n 0 3 dX12_isCell_2 rfl rfl rfl ?_
  obtain ⟨v1, g2, q3, h⟩ := bd_some h
  have s4 := w_X12_cells (X := X) (Nat.le_refl 0) l0 g g2 v1 k_l0 q3
  refine SF_callVi 6 mi_X12_cells ml_X12_214 dX12_isCell_3 (Nat.le_trans (by decide) hd) s4 k_l0.1 rfl rfl (Nat.le_of_ble_eq_true rfl) rfl ?_
  have k_l0 := k_l0.ext s4.1
  refine SF_iconst (1 : Int32) 7 dX12_isCell_6 rfl rfl ?_
  refine SF_isub 8 dX12_isCell_7 rfl ?_
  refine SF_i2l 9 dX12_isCell_8 rfl ?_
  obtain ⟨v5, g6, q7, h⟩ := bd_some h
  have s8 := w_X12_within (X := X) (Nat.le_refl 0) l1 (0 : Int64) ((v1 - (1 : Int32)).toInt64) g2 g6 v5 q7
  refine SF_callSb 12 mi_X12_within ml_X12_139 dX12_isCell_9 (Nat.le_trans (by decide) hd) s8 rfl rfl (Nat.le_of_ble_eq_true rfl) rfl ?_
  have k_l0 := k_l0.ext s8.1
  exact RT_b rfl rfl dX12_isCell_12 h

theorem dX12_heightOf_0 : decode cX12_heightOf 0 = .ok (.aload_n 0, 1) := by decide +kernel
theorem dX12_heightOf_1 : decode cX12_heightOf 1 = .ok (.getfield 13, 3) := by decide +kernel
theorem dX12_heightOf_4 : decode cX12_heightOf 4 = .ok (.bipush 52, 2) := by decide +kernel
theorem dX12_heightOf_6 : decode cX12_heightOf 6 = .ok (.iload_n 1, 1) := by decide +kernel
theorem dX12_heightOf_7 : decode cX12_heightOf 7 = .ok (.iadd, 1) := by decide +kernel
theorem dX12_heightOf_8 : decode cX12_heightOf 8 = .ok (.iaload, 1) := by decide +kernel
theorem dX12_heightOf_9 : decode cX12_heightOf 9 = .ok (.iconst 1, 1) := by decide +kernel
theorem dX12_heightOf_10 : decode cX12_heightOf 10 = .ok (.if_icmp .ne 8, 3) := by decide +kernel
theorem dX12_heightOf_13 : decode cX12_heightOf 13 = .ok (.bipush 9, 2) := by decide +kernel
theorem dX12_heightOf_15 : decode cX12_heightOf 15 = .ok (.goto 30, 3) := by decide +kernel
theorem dX12_heightOf_18 : decode cX12_heightOf 18 = .ok (.aload_n 0, 1) := by decide +kernel
theorem dX12_heightOf_19 : decode cX12_heightOf 19 = .ok (.getfield 13, 3) := by decide +kernel
theorem dX12_heightOf_22 : decode cX12_heightOf 22 = .ok (.bipush 10, 2) := by decide +kernel
theorem dX12_heightOf_24 : decode cX12_heightOf 24 = .ok (.iload_n 1, 1) := by decide +kernel
theorem dX12_heightOf_25 : decode cX12_heightOf 25 = .ok (.iadd, 1) := by decide +kernel
theorem dX12_heightOf_26 : decode cX12_heightOf 26 = .ok (.iaload, 1) := by decide +kernel
theorem dX12_heightOf_27 : decode cX12_heightOf 27 = .ok (.bipush 9, 2) := by decide +kernel
theorem dX12_heightOf_29 : decode cX12_heightOf 29 = .ok (.if_icmp .ne 7, 3) := by decide +kernel
theorem dX12_heightOf_32 : decode cX12_heightOf 32 = .ok (.iconst 0, 1) := by decide +kernel
theorem dX12_heightOf_33 : decode cX12_heightOf 33 = .ok (.goto 12, 3) := by decide +kernel
theorem dX12_heightOf_36 : decode cX12_heightOf 36 = .ok (.aload_n 0, 1) := by decide +kernel
theorem dX12_heightOf_37 : decode cX12_heightOf 37 = .ok (.getfield 13, 3) := by decide +kernel
theorem dX12_heightOf_40 : decode cX12_heightOf 40 = .ok (.bipush 10, 2) := by decide +kernel
theorem dX12_heightOf_42 : decode cX12_heightOf 42 = .ok (.iload_n 1, 1) := by decide +kernel
theorem dX12_heightOf_43 : decode cX12_heightOf 43 = .ok (.iadd, 1) := by decide +kernel
theorem dX12_heightOf_44 : decode cX12_heightOf 44 = .ok (.iaload, 1) := by decide +kernel
theorem dX12_heightOf_45 : decode cX12_heightOf 45 = .ok (.ireturn, 1) := by decide +kernel
set_option maxRecDepth 20000 in
set_option maxHeartbeats 2000000 in
theorem w_X12_heightOf {X : CX} {d : Nat} (hd : 0 ≤ d) (l0 : Nat) (l1 : Int32) (g g' : G) (rx : Int32) (k_l0 : KD g l0 12) (h : f_X12_heightOf l0 l1 g = some (rx, g')) : Sem X m_X12_heightOf d [.ref (ad X l0), .int l1] g (some (.int rx)) g' := by
  refine Sem_of (lo := [(0, .ref (ad X l0)), (1, .int l1)]) (by decide +kernel) rfl (Nat.le_of_ble_eq_true rfl) ?_
  rw [f_X12_heightOf] at h
  refine SF_aload_n 0 1 dX12_heightOf_0 rfl rfl rfl ?_
  obtain ⟨b1, r2, h⟩ := dr_some h
  refine SF_getR 4 fl_X12_13 dX12_heightOf_1 k_l0.1 r2 rfl ?_
  refine SF_bipush (52 : Int32) 6 dX12_heightOf_4 rfl rfl ?_
  refine SF_iload_n 1 7 dX12_heightOf_6 rfl rfl rfl ?_
  refine SF_iadd 8 dX12_heightOf_7 rfl ?_
  obtain ⟨k3, h⟩ := gdK_some h
  obtain ⟨i4, h⟩ := gdI_some h
  refine SF_iald 9 dX12_heightOf_8 k3.1 i4 rfl ?_
  refine SF_iconst (1 : Int32) 10 dX12_heightOf_9 rfl rfl ?_
  refine SF_icne 18 13 dX12_heightOf_10 rfl rfl (fun c5 => ?_) (fun c5 => ?_)
  · have h := ite_f c5 h
    refine SF_aload_n 0 19 dX12_heightOf_18 rfl rfl rfl ?_
    refine SF_getR 22 fl_X12_13 dX12_heightOf_19 k_l0.1 r2 rfl ?_
    refine SF_bipush (10 : Int32) 24 dX12_heightOf_22 rfl rfl ?_
    refine SF_iload_n 1 25 dX12_heightOf_24 rfl rfl rfl ?_
    refine SF_iadd 26 dX12_heightOf_25 rfl ?_
    obtain ⟨i6, h⟩ := gdI_some h
    refine SF_iald 27 dX12_heightOf_26 k3.1 i6 rfl ?_
    refine SF_bipush (9 : Int32) 29 dX12_heightOf_27 rfl rfl ?_
    refine SF_icne 36 32 dX12_heightOf_29 rfl rfl (fun c7 => ?_) (fun c7 => ?_)
    · have h := ite_f c7 h
      refine SF_aload_n 0 37 dX12_heightOf_36 rfl rfl rfl ?_
      refine SF_getR 40 fl_X12_13 dX12_heightOf_37 k_l0.1 r2 rfl ?_
      refine SF_bipush (10 : Int32) 42 dX12_heightOf_40 rfl rfl ?_
      refine SF_iload_n 1 43 dX12_heightOf_42 rfl rfl rfl ?_
      refine SF_iadd 44 dX12_heightOf_43 rfl ?_
      refine SF_iald 45 dX12_heightOf_44 k3.1 i6 rfl ?_
      exact RT_i rfl dX12_heightOf_45 h
    · have h := ite_t c7 h
      refine SF_iconst (0 : Int32) 33 dX12_heightOf_32 rfl rfl ?_
      refine SF_goto 45 dX12_heightOf_33 rfl ?_
      exact RT_i rfl dX12_heightOf_45 h
  · have h := ite_t c5 h
    refine SF_bipush (9 : Int32) 15 dX12_heightOf_13 rfl rfl ?_
    refine SF_goto 45 dX12_heightOf_15 rfl ?_
    exact RT_i rfl dX12_heightOf_45 h

theorem dX12_twinsIn_0 : decode cX12_twinsIn 0 = .ok (.iconst 0, 1) := by decide +kernel
theorem dX12_twinsIn_1 : decode cX12_twinsIn 1 = .ok (.istore_n 3, 1) := by decide +kernel
theorem dX12_twinsIn_2 : decode cX12_twinsIn 2 = .ok (.iconst 0, 1) := by decide +kernel
theorem dX12_twinsIn_3 : decode cX12_twinsIn 3 = .ok (.istore 4, 2) := by decide +kernel
theorem dX12_twinsIn_5 : decode cX12_twinsIn 5 = .ok (.iload 4, 2) := by decide +kernel
theorem dX12_twinsIn_7 : decode cX12_twinsIn 7 = .ok (.iconst 2, 1) := by decide +kernel
theorem dX12_twinsIn_8 : decode cX12_twinsIn 8 = .ok (.aload_n 0, 1) := by decide +kernel
theorem dX12_twinsIn_9 : decode cX12_twinsIn 9 = .ok (.getfield 13, 3) := by decide +kernel
theorem dX12_twinsIn_12 : decode cX12_twinsIn 12 = .ok (.iconst 3, 1) := by decide +kernel
theorem dX12_twinsIn_13 : decode cX12_twinsIn 13 = .ok (.iaload, 1) := by decide +kernel
theorem dX12_twinsIn_14 : decode cX12_twinsIn 14 = .ok (.imul, 1) := by decide +kernel
theorem dX12_twinsIn_15 : decode cX12_twinsIn 15 = .ok (.if_icmp .ge 39, 3) := by decide +kernel
theorem dX12_twinsIn_18 : decode cX12_twinsIn 18 = .ok (.iload_n 3, 1) := by decide +kernel
theorem dX12_twinsIn_19 : decode cX12_twinsIn 19 = .ok (.iload 4, 2) := by decide +kernel
theorem dX12_twinsIn_21 : decode cX12_twinsIn 21 = .ok (.iconst 2, 1) := by decide +kernel
theorem dX12_twinsIn_22 : decode cX12_twinsIn 22 = .ok (.idiv, 1) := by decide +kernel
theorem dX12_twinsIn_23 : decode cX12_twinsIn 23 = .ok (.iload_n 2, 1) := by decide +kernel
theorem dX12_twinsIn_24 : decode cX12_twinsIn 24 = .ok (.if_icmp .eq 21, 3) := by decide +kernel
theorem dX12_twinsIn_27 : decode cX12_twinsIn 27 = .ok (.aload_n 0, 1) := by decide +kernel
theorem dX12_twinsIn_28 : decode cX12_twinsIn 28 = .ok (.getfield 13, 3) := by decide +kernel
theorem dX12_twinsIn_31 : decode cX12_twinsIn 31 = .ok (.bipush 88, 2) := by decide +kernel
theorem dX12_twinsIn_33 : decode cX12_twinsIn 33 = .ok (.iload 4, 2) := by decide +kernel
theorem dX12_twinsIn_35 : decode cX12_twinsIn 35 = .ok (.iadd, 1) := by decide +kernel
theorem dX12_twinsIn_36 : decode cX12_twinsIn 36 = .ok (.iaload, 1) := by decide +kernel
theorem dX12_twinsIn_37 : decode cX12_twinsIn 37 = .ok (.iload_n 1, 1) := by decide +kernel
theorem dX12_twinsIn_38 : decode cX12_twinsIn 38 = .ok (.if_icmp .ne 7, 3) := by decide +kernel
theorem dX12_twinsIn_41 : decode cX12_twinsIn 41 = .ok (.iconst 1, 1) := by decide +kernel
theorem dX12_twinsIn_42 : decode cX12_twinsIn 42 = .ok (.goto 4, 3) := by decide +kernel
theorem dX12_twinsIn_45 : decode cX12_twinsIn 45 = .ok (.iconst 0, 1) := by decide +kernel
theorem dX12_twinsIn_46 : decode cX12_twinsIn 46 = .ok (.iadd, 1) := by decide +kernel
theorem dX12_twinsIn_47 : decode cX12_twinsIn 47 = .ok (.istore_n 3, 1) := by decide +kernel
theorem dX12_twinsIn_48 : decode cX12_twinsIn 48 = .ok (.iinc 4 1, 3) := by decide +kernel
theorem dX12_twinsIn_51 : decode cX12_twinsIn 51 = .ok (.goto (-46), 3) := by decide +kernel
theorem dX12_twinsIn_54 : decode cX12_twinsIn 54 = .ok (.iload_n 3, 1) := by decide +kernel
theorem dX12_twinsIn_55 : decode cX12_twinsIn 55 = .ok (.ireturn, 1) := by decide +kernel
set_option maxRecDepth 20000 in
set_option maxHeartbeats 2000000 in
theorem w_X12_twinsIn_46 {X : CX} {d : Nat} (hd : 0 ≤ d) {g' : G} {rx : Int32} (k5 : Nat → Int32 → Int32 → Int32 → Int32 → G → Option (Int32 × G)) (hk5 : ∀ (l0 : Nat) (l1 : Int32) (l2 : Int32) (l3 : Int32) (l4 : Int32) (g : G), KD g l0 12 → k5 l0 l1 l2 l3 l4 g = some (rx, g') → SemF X m_X12_twinsIn d 5 [(0, .ref (ad X l0)), (1, .int l1), (2, .int l2), (3, .int l3), (4, .int l4)] [] g (some (.int rx)) g') (l0 : Nat) (l1 : Int32) (l2 : Int32) (l4 : Int32) (s0 : Int32) (s1 : Int32) (g : G) (k_l0 : KD g l0 12) (h : f_X12_twinsIn_46 k5 l0 l1 l2 l4 s0 s1 g = some (rx, g')) : SemF X m_X12_twinsIn d 46 [(0, .ref (ad X l0)), (1, .int l1), (2, .int l2), (4, .int l4)] [.int s0, .int s1] g (some (.int rx)) g' := by
  rw [f_X12_twinsIn_46] at h
  refine SF_iadd 47 dX12_twinsIn_46 rfl ?_
  obtain ⟨y1, e2, h⟩ := li_some h
  refine SF_eqI e2 ?_
  refine SF_istore_n [(3, .int y1), (0, .ref (ad X l0)), (1, .int l1), (2, .int l2), (4, .int l4)] 48 dX12_twinsIn_47 rfl (by decide) rfl rfl ?_
  refine SF_iinc 4 (l4 + (1 : Int32)) [(4, .int (l4 + (1 : Int32))), (3, .int y1), (0, .ref (ad X l0)), (1, .int l1), (2, .int l2)] 51 dX12_twinsIn_48 rfl rfl (by decide) rfl rfl ?_
  refine SF_goto 5 dX12_twinsIn_51 rfl ?_
  refine SF_sub [2, 3, 4, 1, 0] rfl ?_
  exact hk5 l0 l1 l2 y1 (l4 + (1 : Int32)) g k_l0 h

set_option maxRecDepth 20000 in
set_option maxHeartbeats 2000000 in
theorem w_X12_twinsIn_45 {X : CX} {d : Nat} (hd : 0 ≤ d) {g' : G} {rx : Int32} (k5 : Nat → Int32 → Int32 → Int32 → Int32 → G → Option (Int32 × G)) (hk5 : ∀ (l0 : Nat) (l1 : Int32) (l2 : Int32) (l3 : Int32) (l4 : Int32) (g : G), KD g l0 12 → k5 l0 l1 l2 l3 l4 g = some (rx, g') → SemF X m_X12_twinsIn d 5 [(0, .ref (ad X l0)), (1, .int l1), (2, .int l2), (3, .int l3), (4, .int l4)] [] g (some (.int rx)) g') (l0 : Nat) (l1 : Int32) (l2 : Int32) (l4 : Int32) (s0 : Int32) (g : G) (k_l0 : KD g l0 12) (h : f_X12_twinsIn_45 k5 l0 l1 l2 l4 s0 g = some (rx, g')) : SemF X m_X12_twinsIn d 45 [(0, .ref (ad X l0)), (1, .int l1), (2, .int l2), (4, .int l4)] [.int s0] g (some (.int rx)) g' := by
  rw [f_X12_twinsIn_45] at h
  refine SF_iconst (0 : Int32) 46 dX12_twinsIn_45 rfl rfl ?_
  exact w_X12_twinsIn_46 hd k5 hk5 l0 l1 l2 l4 (0 : Int32) s0 g k_l0 h

set_option maxRecDepth 20000 in
set_option maxHeartbeats 2000000 in
theorem w_X12_twinsIn_5 {X : CX} {d : Nat} (hd : 0 ≤ d) {g' : G} {rx : Int32} : ∀ (n : Nat) (l0 : Nat) (l1 : Int32) (l2 : Int32) (l3 : Int32) (l4 : Int32) (g : G), KD g l0 12 → f_X12_twinsIn_5 n l0 l1 l2 l3 l4 g = some (rx, g') → SemF X m_X12_twinsIn d 5 [(0, .ref (ad X l0)), (1, .int l1), (2, .int l2), (3, .int l3), (4, .int l4)] [] g (some (.int rx)) g' := by
  intro n
  induction n with
  | zero =>
    intro l0 l1 l2 l3 l4 g k_l0 h
    rw [f_X12_twinsIn_5] at h
    cases h
  | succ n ih =>
  intro l0 l1 l2 l3 l4 g k_l0 h
  rw [f_X12_twinsIn_5] at h
  refine SF_iload 4 7 dX12_twinsIn_5 rfl rfl ?_
  refine SF_iconst (2 : Int32) 8 dX12_twinsIn_7 rfl rfl ?_
  refine SF_aload_n 0 9 dX12_twinsIn_8 rfl rfl rfl ?_
  obtain ⟨b1, r2, h⟩ := dr_some h
  refine SF_getR 12 fl_X12_13 dX12_twinsIn_9 k_l0.1 r2 rfl ?_
  refine SF_iconst (3 : Int32) 13 dX12_twinsIn_12 rfl rfl ?_
  obtain ⟨k3, h⟩ := gdK_some h
  obtain ⟨i4, h⟩ := gdI_some h
  refine SF_iald 14 dX12_twinsIn_13 k3.1 i4 rfl ?_
  refine SF_imul 15 dX12_twinsIn_14 rfl ?_
  refine SF_icge 54 18 dX12_twinsIn_15 rfl rfl (fun c5 => ?_) (fun c5 => ?_)
  · have h := ite_t c5 h
    refine SF_iload_n 3 55 dX12_twinsIn_54 rfl rfl rfl ?_
    exact RT_i rfl dX12_twinsIn_55 h
  · have h := ite_f c5 h
    refine SF_iload_n 3 19 dX12_twinsIn_18 rfl rfl rfl ?_
    refine SF_iload 4 21 dX12_twinsIn_19 rfl rfl ?_
    refine SF_iconst (2 : Int32) 22 dX12_twinsIn_21 rfl rfl ?_
    refine SF_idiv 23 dX12_twinsIn_22 (by decide) rfl ?_
    refine SF_iload_n 2 24 dX12_twinsIn_23 rfl rfl rfl ?_
    refine SF_iceq 45 27 dX12_twinsIn_24 rfl rfl (fun c6 => ?_) (fun c6 => ?_)
    · have h := ite_t c6 h
      refine SF_sub [0, 1, 2, 4] rfl ?_
      exact w_X12_twinsIn_45 hd (f_X12_twinsIn_5 n) ih l0 l1 l2 l4 l3 g k_l0 h
    · have h := ite_f c6 h
      refine SF_aload_n 0 28 dX12_twinsIn_27 rfl rfl rfl ?_
      refine SF_getR 31 fl_X12_13 dX12_twinsIn_28 k_l0.1 r2 rfl ?_
      refine SF_bipush (88 : Int32) 33 dX12_twinsIn_31 rfl rfl ?_
      refine SF_iload 4 35 dX12_twinsIn_33 rfl rfl ?_
      refine SF_iadd 36 dX12_twinsIn_35 rfl ?_
      obtain ⟨i7, h⟩ := gdI_some h
      refine SF_iald 37 dX12_twinsIn_36 k3.1 i7 rfl ?_
      refine SF_iload_n 1 38 dX12_twinsIn_37 rfl rfl rfl ?_
      refine SF_icne 45 41 dX12_twinsIn_38 rfl rfl (fun c8 => ?_) (fun c8 => ?_)
      · have h := ite_f c8 h
        refine SF_sub [0, 1, 2, 4] rfl ?_
        exact w_X12_twinsIn_45 hd (f_X12_twinsIn_5 n) ih l0 l1 l2 l4 l3 g k_l0 h
      · have h := ite_t c8 h
        refine SF_iconst (1 : Int32) 42 dX12_twinsIn_41 rfl rfl ?_
        refine SF_goto 46 dX12_twinsIn_42 rfl ?_
        refine SF_sub [0, 1, 2, 4] rfl ?_
        exact w_X12_twinsIn_46 hd (f_X12_twinsIn_5 n) ih l0 l1 l2 l4 (1 : Int32) l3 g k_l0 h

set_option maxRecDepth 20000 in
set_option maxHeartbeats 2000000 in
theorem w_X12_twinsIn {X : CX} {d : Nat} (hd : 0 ≤ d) (l0 : Nat) (l1 : Int32) (l2 : Int32) (g g' : G) (rx : Int32) (k_l0 : KD g l0 12) (h : f_X12_twinsIn l0 l1 l2 g = some (rx, g')) : Sem X m_X12_twinsIn d [.ref (ad X l0), .int l1, .int l2] g (some (.int rx)) g' := by
  refine Sem_of (lo := [(0, .ref (ad X l0)), (1, .int l1), (2, .int l2)]) (by decide +kernel) rfl (Nat.le_of_ble_eq_true rfl) ?_
  rw [f_X12_twinsIn] at h
  refine SF_iconst (0 : Int32) 1 dX12_twinsIn_0 rfl rfl ?_
  refine SF_istore_n [(3, .int (0 : Int32)), (0, .ref (ad X l0)), (1, .int l1), (2, .int l2)] 2 dX12_twinsIn_1 rfl (by decide) rfl rfl ?_
  refine SF_iconst (0 : Int32) 3 dX12_twinsIn_2 rfl rfl ?_
  refine SF_istore [(4, .int (0 : Int32)), (3, .int (0 : Int32)), (0, .ref (ad X l0)), (1, .int l1), (2, .int l2)] 5 dX12_twinsIn_3 (by decide) rfl rfl ?_
  refine SF_sub [2, 3, 4, 1, 0] rfl ?_
  exact w_X12_twinsIn_5 hd FU l0 l1 l2 (0 : Int32) (0 : Int32) g k_l0 h

theorem dX12_cell_0 : decode cX12_cell 0 = .ok (.aload_n 0, 1) := by decide +kernel
theorem dX12_cell_1 : decode cX12_cell 1 = .ok (.iconst 0, 1) := by decide +kernel
theorem dX12_cell_2 : decode cX12_cell 2 = .ok (.putfield 1, 3) := by decide +kernel
theorem dX12_cell_5 : decode cX12_cell 5 = .ok (.aload_n 0, 1) := by decide +kernel
theorem dX12_cell_6 : decode cX12_cell 6 = .ok (.iload_n 1, 1) := by decide +kernel
theorem dX12_cell_7 : decode cX12_cell 7 = .ok (.i2l, 1) := by decide +kernel
theorem dX12_cell_8 : decode cX12_cell 8 = .ok (.invokevirtual 264, 3) := by decide +kernel
theorem dX12_cell_11 : decode cX12_cell 11 = .ok (.ifCond .ne 6, 3) := by decide +kernel
theorem dX12_cell_14 : decode cX12_cell 14 = .ok (.bipush (-2), 2) := by decide +kernel
theorem dX12_cell_16 : decode cX12_cell 16 = .ok (.ireturn, 1) := by decide +kernel
theorem dX12_cell_17 : decode cX12_cell 17 = .ok (.iload_n 2, 1) := by decide +kernel
theorem dX12_cell_18 : decode cX12_cell 18 = .ok (.ifCond .ne 9, 3) := by decide +kernel
theorem dX12_cell_21 : decode cX12_cell 21 = .ok (.aload_n 0, 1) := by decide +kernel
theorem dX12_cell_22 : decode cX12_cell 22 = .ok (.iload_n 1, 1) := by decide +kernel
theorem dX12_cell_23 : decode cX12_cell 23 = .ok (.invokevirtual 227, 3) := by decide +kernel
theorem dX12_cell_26 : decode cX12_cell 26 = .ok (.ireturn, 1) := by decide +kernel
theorem dX12_cell_27 : decode cX12_cell 27 = .ok (.iload_n 2, 1) := by decide +kernel
theorem dX12_cell_28 : decode cX12_cell 28 = .ok (.iconst 1, 1) := by decide +kernel
theorem dX12_cell_29 : decode cX12_cell 29 = .ok (.if_icmp .ne 10, 3) := by decide +kernel
theorem dX12_cell_32 : decode cX12_cell 32 = .ok (.aload_n 0, 1) := by decide +kernel
theorem dX12_cell_33 : decode cX12_cell 33 = .ok (.iload_n 1, 1) := by decide +kernel
theorem dX12_cell_34 : decode cX12_cell 34 = .ok (.iconst (-1), 1) := by decide +kernel
theorem dX12_cell_35 : decode cX12_cell 35 = .ok (.invokevirtual 220, 3) := by decide +kernel
theorem dX12_cell_38 : decode cX12_cell 38 = .ok (.ireturn, 1) := by decide +kernel
theorem dX12_cell_39 : decode cX12_cell 39 = .ok (.iload_n 2, 1) := by decide +kernel
theorem dX12_cell_40 : decode cX12_cell 40 = .ok (.iconst 2, 1) := by decide +kernel
theorem dX12_cell_41 : decode cX12_cell 41 = .ok (.if_icmp .eq 6, 3) := by decide +kernel
theorem dX12_cell_44 : decode cX12_cell 44 = .ok (.bipush (-2), 2) := by decide +kernel
theorem dX12_cell_46 : decode cX12_cell 46 = .ok (.ireturn, 1) := by decide +kernel
theorem dX12_cell_47 : decode cX12_cell 47 = .ok (.iconst 0, 1) := by decide +kernel
theorem dX12_cell_48 : decode cX12_cell 48 = .ok (.istore_n 3, 1) := by decide +kernel
theorem dX12_cell_49 : decode cX12_cell 49 = .ok (.iload_n 3, 1) := by decide +kernel
theorem dX12_cell_50 : decode cX12_cell 50 = .ok (.iconst 2, 1) := by decide +kernel
theorem dX12_cell_51 : decode cX12_cell 51 = .ok (.aload_n 0, 1) := by decide +kernel
theorem dX12_cell_52 : decode cX12_cell 52 = .ok (.getfield 13, 3) := by decide +kernel
theorem dX12_cell_55 : decode cX12_cell 55 = .ok (.iconst 3, 1) := by decide +kernel
theorem dX12_cell_56 : decode cX12_cell 56 = .ok (.iaload, 1) := by decide +kernel
theorem dX12_cell_57 : decode cX12_cell 57 = .ok (.imul, 1) := by decide +kernel
theorem dX12_cell_58 : decode cX12_cell 58 = .ok (.if_icmp .ge 26, 3) := by decide +kernel
theorem dX12_cell_61 : decode cX12_cell 61 = .ok (.aload_n 0, 1) := by decide +kernel
theorem dX12_cell_62 : decode cX12_cell 62 = .ok (.getfield 13, 3) := by decide +kernel
theorem dX12_cell_65 : decode cX12_cell 65 = .ok (.bipush 88, 2) := by decide +kernel
theorem dX12_cell_67 : decode cX12_cell 67 = .ok (.iload_n 3, 1) := by decide +kernel
theorem dX12_cell_68 : decode cX12_cell 68 = .ok (.iadd, 1) := by decide +kernel
theorem dX12_cell_69 : decode cX12_cell 69 = .ok (.iaload, 1) := by decide +kernel
theorem dX12_cell_70 : decode cX12_cell 70 = .ok (.iload_n 1, 1) := by decide +kernel
theorem dX12_cell_71 : decode cX12_cell 71 = .ok (.if_icmp .ne 7, 3) := by decide +kernel
theorem dX12_cell_74 : decode cX12_cell 74 = .ok (.iload_n 3, 1) := by decide +kernel
theorem dX12_cell_75 : decode cX12_cell 75 = .ok (.iconst 2, 1) := by decide +kernel
theorem dX12_cell_76 : decode cX12_cell 76 = .ok (.idiv, 1) := by decide +kernel
theorem dX12_cell_77 : decode cX12_cell 77 = .ok (.ireturn, 1) := by decide +kernel
theorem dX12_cell_78 : decode cX12_cell 78 = .ok (.iinc 3 1, 3) := by decide +kernel
theorem dX12_cell_81 : decode cX12_cell 81 = .ok (.goto (-32), 3) := by decide +kernel
theorem dX12_cell_84 : decode cX12_cell 84 = .ok (.iconst (-1), 1) := by decide +kernel
theorem dX12_cell_85 : decode cX12_cell 85 = .ok (.ireturn, 1) := by decide +kernel
set_option maxRecDepth 20000 in
set_option maxHeartbeats 2000000 in
theorem w_X12_cell_49 {X : CX} {d : Nat} (hd : 2 ≤ d) {g' : G} {rx : Int32} : ∀ (n : Nat) (l0 : Nat) (l1 : Int32) (l3 : Int32) (g : G), KD g l0 12 → f_X12_cell_49 n l0 l1 l3 g = some (rx, g') → SemF X m_X12_cell d 49 [(0, .ref (ad X l0)), (1, .int l1), (3, .int l3)] [] g (some (.int rx)) g' := by
  intro n
  induction n with
  | zero =>
    intro l0 l1 l3 g k_l0 h
    rw [f_X12_cell_49] at h
    cases h
  | succ n ih =>
  intro l0 l1 l3 g k_l0 h
  rw [f_X12_cell_49] at h
  refine SF_iload_n 2 50 dX12_cell_49 rfl rfl rfl ?_
  refine SF_iconst (2 : Int32) 51 dX12_cell_50 rfl rfl ?_
  refine SF_aload_n 0 52 dX12_cell_51 rfl rfl rfl ?_
  obtain ⟨b1, r2, h⟩ := dr_some h
  refine SF_getR 55 fl_X12_13 dX12_cell_52 k_l0.1 r2 rfl ?_
  refine SF_iconst (3 : Int32) 56 dX12_cell_55 rfl rfl ?_
  obtain ⟨k3, h⟩ := gdK_some h
  obtain ⟨i4, h⟩ := gdI_some h
  refine SF_iald 57 dX12_cell_56 k3.1 i4 rfl ?_
  refine SF_imul 58 dX12_cell_57 rfl ?_
  refine SF_icge 84 61 dX12_cell_58 rfl rfl (fun c5 => ?_) (fun c5 => ?_)
  · have h := ite_t c5 h
    refine SF_iconst (-1 : Int32) 85 dX12_cell_84 rfl rfl ?_
    exact RT_i rfl dX12_cell_85 h
  · have h := ite_f c5 h
    refine SF_aload_n 0 62 dX12_cell_61 rfl rfl rfl ?_
    refine SF_getR 65 fl_X12_13 dX12_cell_62 k_l0.1 r2 rfl ?_
    refine SF_bipush (88 : Int32) 67 dX12_cell_65 rfl rfl ?_
    refine SF_iload_n 2 68 dX12_cell_67 rfl rfl rfl ?_
    refine SF_iadd 69 dX12_cell_68 rfl ?_
    obtain ⟨i6, h⟩ := gdI_some h
    refine SF_iald 70 dX12_cell_69 k3.1 i6 rfl ?_
    refine SF_iload_n 1 71 dX12_cell_70 rfl rfl rfl ?_
    refine SF_icne 78 74 dX12_cell_71 rfl rfl (fun c7 => ?_) (fun c7 => ?_)
    · have h := ite_f c7 h
      refine SF_iinc 2 (l3 + (1 : Int32)) [(3, .int (l3 + (1 : Int32))), (0, .ref (ad X l0)), (1, .int l1)] 81 dX12_cell_78 rfl rfl (by decide) rfl rfl ?_
      refine SF_goto 49 dX12_cell_81 rfl ?_
      refine SF_sub [1, 2, 0] rfl ?_
      exact ih l0 l1 (l3 + (1 : Int32)) g k_l0 h
    · have h := ite_t c7 h
      refine SF_iload_n 2 75 dX12_cell_74 rfl rfl rfl ?_
      refine SF_iconst (2 : Int32) 76 dX12_cell_75 rfl rfl ?_
      refine SF_idiv 77 dX12_cell_76 (by decide) rfl ?_
      exact RT_i rfl dX12_cell_77 h

set_option maxRecDepth 20000 in
set_option maxHeartbeats 2000000 in
theorem w_X12_cell {X : CX} {d : Nat} (hd : 2 ≤ d) (l0 : Nat) (l1 : Int32) (l2 : Int32) (g g' : G) (rx : Int32) (k_l0 : KD g l0 12) (h : f_X12_cell l0 l1 l2 g = some (rx, g')) : Sem X m_X12_cell d [.ref (ad X l0), .int l1, .int l2] g (some (.int rx)) g' := by
  refine Sem_of (lo := [(0, .ref (ad X l0)), (1, .int l1), (2, .int l2)]) (by decide +kernel) rfl (Nat.le_of_ble_eq_true rfl) ?_
  rw [f_X12_cell] at h
  refine SF_aload_n 0 1 dX12_cell_0 rfl rfl rfl ?_
  refine SF_iconst (0 : Int32) 2 dX12_cell_1 rfl rfl ?_
  refine SF_putI 5 fl_X12_1 dX12_cell_2 k_l0.1 (fn_int _) (Or.inl rfl) rfl ?_
  obtain ⟨g1, e2, h⟩ := lg_some h
  rw [← e2]
  have k_l0 := KD.eq e2 k_l0
  refine SF_aload_n 0 6 dX12_cell_5 rfl rfl rfl ?_
  refine SF_iload_n 1 7 dX12_cell_6 rfl rfl rfl ?_
  refine SF_i2l 8 dX12_cell_7 rfl ?_
  obtain ⟨v3, g4, q5, h⟩ := bd_some h
  have s6 := w_X12_isCell (X := X) (Nat.le_refl 1) l0 (l1.toInt64) g1 g4 v3 k_l0 q5
  refine SF_callVb 11 mi_X12_isCell ml_X12_264 dX12_cell_8 (Nat.le_trans (by decide) hd) s6 k_l0.1 rfl rfl (Nat.le_of_ble_eq_true rfl) rfl ?_
  have k_l0 := k_l0.ext s6.1
  refine SF_ifne 17 14 dX12_cell_11 rfl rfl (fun c7 => ?_) (fun c7 => ?_)
  · have h := ite_f c7 h
    refine SF_iload_n 2 18 dX12_cell_17 rfl rfl rfl ?_
    refine SF_ifne 27 21 dX12_cell_18 rfl rfl (fun c8 => ?_) (fun c8 => ?_)
    · have h := ite_f c8 h
      refine SF_iload_n 2 28 dX12_cell_27 rfl rfl rfl ?_
      refine SF_iconst (1 : Int32) 29 dX12_cell_28 rfl rfl ?_
      refine SF_icne 39 32 dX12_cell_29 rfl rfl (fun c9 => ?_) (fun c9 => ?_)
      · have h := ite_f c9 h
        refine SF_iload_n 2 40 dX12_cell_39 rfl rfl rfl ?_
        refine SF_iconst (2 : Int32) 41 dX12_cell_40 rfl rfl ?_
        refine SF_iceq 47 44 dX12_cell_41 rfl rfl (fun c10 => ?_) (fun c10 => ?_)
        · have h := ite_t c10 h
          refine SF_iconst (0 : Int32) 48 dX12_cell_47 rfl rfl ?_
          refine SF_istore_n [(3, .int (0 : Int32)), (0, .ref (ad X l0)), (1, .int l1), (2, .int l2)] 49 dX12_cell_48 rfl (by decide) rfl rfl ?_
          refine SF_sub [1, 2, 0] rfl ?_
          exact w_X12_cell_49 hd FU l0 l1 (0 : Int32) g4 k_l0 h
        · have h := ite_f c10 h
          refine SF_bipush (-2 : Int32) 46 dX12_cell_44 rfl rfl ?_
          exact RT_i rfl dX12_cell_46 h
      · have h := ite_t c9 h
        refine SF_aload_n 0 33 dX12_cell_32 rfl rfl rfl ?_
        refine SF_iload_n 1 34 dX12_cell_33 rfl rfl rfl ?_
        refine SF_iconst (-1 : Int32) 35 dX12_cell_34 rfl rfl ?_
        obtain ⟨v11, g12, q13, h⟩ := bd_some h
        have s14 := w_X12_twinsIn (X := X) (Nat.le_refl 0) l0 l1 (-1 : Int32) g4 g12 v11 k_l0 q13
        refine SF_callVi 38 mi_X12_twinsIn ml_X12_220 dX12_cell_35 (Nat.le_trans (by decide) hd) s14 k_l0.1 rfl rfl (Nat.le_of_ble_eq_true rfl) rfl ?_
        have k_l0 := k_l0.ext s14.1
        exact RT_i rfl dX12_cell_38 h
    · have h := ite_t c8 h
      refine SF_aload_n 0 22 dX12_cell_21 rfl rfl rfl ?_
      refine SF_iload_n 1 23 dX12_cell_22 rfl rfl rfl ?_
      obtain ⟨v15, g16, q17, h⟩ := bd_some h
      have s18 := w_X12_heightOf (X := X) (Nat.le_refl 0) l0 l1 g4 g16 v15 k_l0 q17
      refine SF_callVi 26 mi_X12_heightOf ml_X12_227 dX12_cell_23 (Nat.le_trans (by decide) hd) s18 k_l0.1 rfl rfl (Nat.le_of_ble_eq_true rfl) rfl ?_
      have k_l0 := k_l0.ext s18.1
      exact RT_i rfl dX12_cell_26 h
  · have h := ite_t c7 h
    refine SF_bipush (-2 : Int32) 16 dX12_cell_14 rfl rfl ?_
    exact RT_i rfl dX12_cell_16 h

theorem dX11_pair_0 : decode cX11_pair 0 = .ok (.aload_n 0, 1) := by decide +kernel
theorem dX11_pair_1 : decode cX11_pair 1 = .ok (.getfield 78, 3) := by decide +kernel
theorem dX11_pair_4 : decode cX11_pair 4 = .ok (.iload_n 1, 1) := by decide +kernel
theorem dX11_pair_5 : decode cX11_pair 5 = .ok (.invokevirtual 161, 3) := by decide +kernel
theorem dX11_pair_8 : decode cX11_pair 8 = .ok (.ifCond .ne 6, 3) := by decide +kernel
theorem dX11_pair_11 : decode cX11_pair 11 = .ok (.bipush (-2), 2) := by decide +kernel
theorem dX11_pair_13 : decode cX11_pair 13 = .ok (.ireturn, 1) := by decide +kernel
theorem dX11_pair_14 : decode cX11_pair 14 = .ok (.iload_n 2, 1) := by decide +kernel
theorem dX11_pair_15 : decode cX11_pair 15 = .ok (.tableswitch 104 0 6 #[41, 41, 55, 65, 75, 75, 94], 41) := by decide +kernel
theorem dX11_pair_56 : decode cX11_pair 56 = .ok (.aload_n 0, 1) := by decide +kernel
theorem dX11_pair_57 : decode cX11_pair 57 = .ok (.getfield 78, 3) := by decide +kernel
theorem dX11_pair_60 : decode cX11_pair 60 = .ok (.getfield 164, 3) := by decide +kernel
theorem dX11_pair_63 : decode cX11_pair 63 = .ok (.iconst 2, 1) := by decide +kernel
theorem dX11_pair_64 : decode cX11_pair 64 = .ok (.iload_n 1, 1) := by decide +kernel
theorem dX11_pair_65 : decode cX11_pair 65 = .ok (.imul, 1) := by decide +kernel
theorem dX11_pair_66 : decode cX11_pair 66 = .ok (.iload_n 2, 1) := by decide +kernel
theorem dX11_pair_67 : decode cX11_pair 67 = .ok (.iadd, 1) := by decide +kernel
theorem dX11_pair_68 : decode cX11_pair 68 = .ok (.iaload, 1) := by decide +kernel
theorem dX11_pair_69 : decode cX11_pair 69 = .ok (.ireturn, 1) := by decide +kernel
theorem dX11_pair_70 : decode cX11_pair 70 = .ok (.aload_n 0, 1) := by decide +kernel
theorem dX11_pair_71 : decode cX11_pair 71 = .ok (.getfield 78, 3) := by decide +kernel
theorem dX11_pair_74 : decode cX11_pair 74 = .ok (.getfield 167, 3) := by decide +kernel
theorem dX11_pair_77 : decode cX11_pair 77 = .ok (.iload_n 1, 1) := by decide +kernel
theorem dX11_pair_78 : decode cX11_pair 78 = .ok (.iaload, 1) := by decide +kernel
theorem dX11_pair_79 : decode cX11_pair 79 = .ok (.ireturn, 1) := by decide +kernel
theorem dX11_pair_80 : decode cX11_pair 80 = .ok (.aload_n 0, 1) := by decide +kernel
theorem dX11_pair_81 : decode cX11_pair 81 = .ok (.getfield 78, 3) := by decide +kernel
theorem dX11_pair_84 : decode cX11_pair 84 = .ok (.getfield 170, 3) := by decide +kernel
theorem dX11_pair_87 : decode cX11_pair 87 = .ok (.iload_n 1, 1) := by decide +kernel
theorem dX11_pair_88 : decode cX11_pair 88 = .ok (.iaload, 1) := by decide +kernel
theorem dX11_pair_89 : decode cX11_pair 89 = .ok (.ireturn, 1) := by decide +kernel
theorem dX11_pair_90 : decode cX11_pair 90 = .ok (.aload_n 0, 1) := by decide +kernel
theorem dX11_pair_91 : decode cX11_pair 91 = .ok (.getfield 78, 3) := by decide +kernel
theorem dX11_pair_94 : decode cX11_pair 94 = .ok (.getfield 136, 3) := by decide +kernel
theorem dX11_pair_97 : decode cX11_pair 97 = .ok (.getfield 173, 3) := by decide +kernel
theorem dX11_pair_100 : decode cX11_pair 100 = .ok (.iconst 2, 1) := by decide +kernel
theorem dX11_pair_101 : decode cX11_pair 101 = .ok (.iload_n 1, 1) := by decide +kernel
theorem dX11_pair_102 : decode cX11_pair 102 = .ok (.imul, 1) := by decide +kernel
theorem dX11_pair_103 : decode cX11_pair 103 = .ok (.iload_n 2, 1) := by decide +kernel
theorem dX11_pair_104 : decode cX11_pair 104 = .ok (.iadd, 1) := by decide +kernel
theorem dX11_pair_105 : decode cX11_pair 105 = .ok (.iconst 4, 1) := by decide +kernel
theorem dX11_pair_106 : decode cX11_pair 106 = .ok (.isub, 1) := by decide +kernel
theorem dX11_pair_107 : decode cX11_pair 107 = .ok (.iaload, 1) := by decide +kernel
theorem dX11_pair_108 : decode cX11_pair 108 = .ok (.ireturn, 1) := by decide +kernel
theorem dX11_pair_109 : decode cX11_pair 109 = .ok (.aload_n 0, 1) := by decide +kernel
theorem dX11_pair_110 : decode cX11_pair 110 = .ok (.getfield 78, 3) := by decide +kernel
theorem dX11_pair_113 : decode cX11_pair 113 = .ok (.getfield 176, 3) := by decide +kernel
theorem dX11_pair_116 : decode cX11_pair 116 = .ok (.iload_n 1, 1) := by decide +kernel
theorem dX11_pair_117 : decode cX11_pair 117 = .ok (.iaload, 1) := by decide +kernel
theorem dX11_pair_118 : decode cX11_pair 118 = .ok (.ireturn, 1) := by decide +kernel
theorem dX11_pair_119 : decode cX11_pair 119 = .ok (.bipush (-2), 2) := by decide +kernel
theorem dX11_pair_121 : decode cX11_pair 121 = .ok (.ireturn, 1) := by decide +kernel
set_option maxRecDepth 20000 in
set_option maxHeartbeats 2000000 in
theorem w_X11_pair_90 {X : CX} {d : Nat} (hd : 1 ≤ d) {g' : G} {rx : Int32} (l0 : Nat) (l1 : Int32) (l2 : Int32) (g : G) (k_l0 : KD g l0 11) (h : f_X11_pair_90 l0 l1 l2 g = some (rx, g')) : SemF X m_X11_pair d 90 [(0, .ref (ad X l0)), (1, .int l1), (2, .int l2)] [] g (some (.int rx)) g' := by
  rw [f_X11_pair_90] at h
  refine SF_aload_n 0 91 dX11_pair_90 rfl rfl rfl ?_
  obtain ⟨b1, r2, h⟩ := dr_some h
  refine SF_getR 94 fl_X11_78 dX11_pair_91 k_l0.1 r2 rfl ?_
  obtain ⟨k3, h⟩ := gdK_some h
  obtain ⟨b4, r5, h⟩ := dr_some h
  refine SF_getR 97 fl_X11_136 dX11_pair_94 k3.1 r5 rfl ?_
  obtain ⟨k6, h⟩ := gdK_some h
  obtain ⟨b7, r8, h⟩ := dr_some h
  refine SF_getR 100 fl_X11_173 dX11_pair_97 k6.1 r8 rfl ?_
  refine SF_iconst (2 : Int32) 101 dX11_pair_100 rfl rfl ?_
  refine SF_iload_n 1 102 dX11_pair_101 rfl rfl rfl ?_
  refine SF_imul 103 dX11_pair_102 rfl ?_
  refine SF_iload_n 2 104 dX11_pair_103 rfl rfl rfl ?_
  refine SF_iadd 105 dX11_pair_104 rfl ?_
  refine SF_iconst (4 : Int32) 106 dX11_pair_105 rfl rfl ?_
  refine SF_isub 107 dX11_pair_106 rfl ?_
  obtain ⟨k9, h⟩ := gdK_some h
  obtain ⟨i10, h⟩ := gdI_some h
  refine SF_iald 108 dX11_pair_107 k9.1 i10 rfl ?_
  exact RT_i rfl dX11_pair_108 h

set_option maxRecDepth 20000 in
set_option maxHeartbeats 2000000 in
theorem w_X11_pair_56 {X : CX} {d : Nat} (hd : 1 ≤ d) {g' : G} {rx : Int32} (l0 : Nat) (l1 : Int32) (l2 : Int32) (g : G) (k_l0 : KD g l0 11) (h : f_X11_pair_56 l0 l1 l2 g = some (rx, g')) : SemF X m_X11_pair d 56 [(0, .ref (ad X l0)), (1, .int l1), (2, .int l2)] [] g (some (.int rx)) g' := by
  rw [f_X11_pair_56] at h
  refine SF_aload_n 0 57 dX11_pair_56 rfl rfl rfl ?_
  obtain ⟨b1, r2, h⟩ := dr_some h
  refine SF_getR 60 fl_X11_78 dX11_pair_57 k_l0.1 r2 rfl ?_
  obtain ⟨k3, h⟩ := gdK_some h
  obtain ⟨b4, r5, h⟩ := dr_some h
  refine SF_getR 63 fl_X11_164 dX11_pair_60 k3.1 r5 rfl ?_
  refine SF_iconst (2 : Int32) 64 dX11_pair_63 rfl rfl ?_
  refine SF_iload_n 1 65 dX11_pair_64 rfl rfl rfl ?_
  refine SF_imul 66 dX11_pair_65 rfl ?_
  refine SF_iload_n 2 67 dX11_pair_66 rfl rfl rfl ?_
  refine SF_iadd 68 dX11_pair_67 rfl ?_
  obtain ⟨k6, h⟩ := gdK_some h
  obtain ⟨i7, h⟩ := gdI_some h
  refine SF_iald 69 dX11_pair_68 k6.1 i7 rfl ?_
  exact RT_i rfl dX11_pair_69 h

set_option maxRecDepth 20000 in
set_option maxHeartbeats 2000000 in
theorem w_X11_pair {X : CX} {d : Nat} (hd : 1 ≤ d) (l0 : Nat) (l1 : Int32) (l2 : Int32) (g g' : G) (rx : Int32) (k_l0 : KD g l0 11) (h : f_X11_pair l0 l1 l2 g = some (rx, g')) : Sem X m_X11_pair d [.ref (ad X l0), .int l1, .int l2] g (some (.int rx)) g' := by
  refine Sem_of (lo := [(0, .ref (ad X l0)), (1, .int l1), (2, .int l2)]) (by decide +kernel) rfl (Nat.le_of_ble_eq_true rfl) ?_
  rw [f_X11_pair] at h
  refine SF_aload_n 0 1 dX11_pair_0 rfl rfl rfl ?_
  obtain ⟨b1, r2, h⟩ := dr_some h
  refine SF_getR 4 fl_X11_78 dX11_pair_1 k_l0.1 r2 rfl ?_
  refine SF_iload_n 1 5 dX11_pair_4 rfl rfl rfl ?_
  obtain ⟨k3, h⟩ := gdK_some h
  obtain ⟨v4, g5, q6, h⟩ := bd_some h
  have s7 := w_X0_isPair (X := X) (Nat.le_refl 0) b1 l1 g g5 v4 k3 q6
  refine SF_callVb 8 mi_X0_isPair ml_X11_161 dX11_pair_5 (Nat.le_trans (by decide) hd) s7 k3.1 rfl rfl (Nat.le_of_ble_eq_true rfl) rfl ?_
  have k_l0 := k_l0.ext s7.1
  have k3 := k3.ext s7.1
  refine SF_ifne 14 11 dX11_pair_8 rfl rfl (fun c8 => ?_) (fun c8 => ?_)
  · have h := ite_f c8 h
    refine SF_iload_n 2 15 dX11_pair_14 rfl rfl rfl ?_
    by_cases c30 : l2.toInt < 0
    · have h := ite_t c30 h
      refine SF_tabOut 119 dX11_pair_15 (Or.inl c30) rfl ?_
      refine SF_bipush (-2 : Int32) 121 dX11_pair_119 rfl rfl ?_
      exact RT_i rfl dX11_pair_121 h
    · have h := ite_f c30 h
      generalize m31 : (l2.toInt - 0).toNat = mm at h
      match mm, m31, h with
      | 0, m31, h =>
        refine SF_tabIn 56 dX11_pair_15 c30 (by omega) (by rw [m31]; rfl) rfl ?_
        exact w_X11_pair_56 hd l0 l1 l2 g5 k_l0 h
      | 1, m31, h =>
        refine SF_tabIn 56 dX11_pair_15 c30 (by omega) (by rw [m31]; rfl) rfl ?_
        exact w_X11_pair_56 hd l0 l1 l2 g5 k_l0 h
      | 2, m31, h =>
        refine SF_tabIn 70 dX11_pair_15 c30 (by omega) (by rw [m31]; rfl) rfl ?_
        refine SF_aload_n 0 71 dX11_pair_70 rfl rfl rfl ?_
        obtain ⟨b9, r10, h⟩ := dr_some h
        refine SF_getR 74 fl_X11_78 dX11_pair_71 k_l0.1 r10 rfl ?_
        obtain ⟨k11, h⟩ := gdK_some h
        obtain ⟨b12, r13, h⟩ := dr_some h
        refine SF_getR 77 fl_X11_167 dX11_pair_74 k11.1 r13 rfl ?_
        refine SF_iload_n 1 78 dX11_pair_77 rfl rfl rfl ?_
        obtain ⟨k14, h⟩ := gdK_some h
        obtain ⟨i15, h⟩ := gdI_some h
        refine SF_iald 79 dX11_pair_78 k14.1 i15 rfl ?_
        exact RT_i rfl dX11_pair_79 h
      | 3, m31, h =>
        refine SF_tabIn 80 dX11_pair_15 c30 (by omega) (by rw [m31]; rfl) rfl ?_
        refine SF_aload_n 0 81 dX11_pair_80 rfl rfl rfl ?_
        obtain ⟨b16, r17, h⟩ := dr_some h
        refine SF_getR 84 fl_X11_78 dX11_pair_81 k_l0.1 r17 rfl ?_
        obtain ⟨k18, h⟩ := gdK_some h
        obtain ⟨b19, r20, h⟩ := dr_some h
        refine SF_getR 87 fl_X11_170 dX11_pair_84 k18.1 r20 rfl ?_
        refine SF_iload_n 1 88 dX11_pair_87 rfl rfl rfl ?_
        obtain ⟨k21, h⟩ := gdK_some h
        obtain ⟨i22, h⟩ := gdI_some h
        refine SF_iald 89 dX11_pair_88 k21.1 i22 rfl ?_
        exact RT_i rfl dX11_pair_89 h
      | 4, m31, h =>
        refine SF_tabIn 90 dX11_pair_15 c30 (by omega) (by rw [m31]; rfl) rfl ?_
        exact w_X11_pair_90 hd l0 l1 l2 g5 k_l0 h
      | 5, m31, h =>
        refine SF_tabIn 90 dX11_pair_15 c30 (by omega) (by rw [m31]; rfl) rfl ?_
        exact w_X11_pair_90 hd l0 l1 l2 g5 k_l0 h
      | 6, m31, h =>
        refine SF_tabIn 109 dX11_pair_15 c30 (by omega) (by rw [m31]; rfl) rfl ?_
        refine SF_aload_n 0 110 dX11_pair_109 rfl rfl rfl ?_
        obtain ⟨b23, r24, h⟩ := dr_some h
        refine SF_getR 113 fl_X11_78 dX11_pair_110 k_l0.1 r24 rfl ?_
        obtain ⟨k25, h⟩ := gdK_some h
        obtain ⟨b26, r27, h⟩ := dr_some h
        refine SF_getR 116 fl_X11_176 dX11_pair_113 k25.1 r27 rfl ?_
        refine SF_iload_n 1 117 dX11_pair_116 rfl rfl rfl ?_
        obtain ⟨k28, h⟩ := gdK_some h
        obtain ⟨i29, h⟩ := gdI_some h
        refine SF_iald 118 dX11_pair_117 k28.1 i29 rfl ?_
        exact RT_i rfl dX11_pair_118 h
      | mm + 7, m31, h =>
        refine SF_tabOut 119 dX11_pair_15 (Or.inr (by omega)) rfl ?_
        refine SF_bipush (-2 : Int32) 121 dX11_pair_119 rfl rfl ?_
        exact RT_i rfl dX11_pair_121 h
  · have h := ite_t c8 h
    refine SF_bipush (-2 : Int32) 13 dX11_pair_11 rfl rfl ?_
    exact RT_i rfl dX11_pair_13 h

theorem dX12_isPair_0 : decode cX12_isPair 0 = .ok (.lload_n 1, 1) := by decide +kernel
theorem dX12_isPair_1 : decode cX12_isPair 1 = .ok (.lconst 0, 1) := by decide +kernel
theorem dX12_isPair_2 : decode cX12_isPair 2 = .ok (.aload_n 0, 1) := by decide +kernel
theorem dX12_isPair_3 : decode cX12_isPair 3 = .ok (.getfield 13, 3) := by decide +kernel
theorem dX12_isPair_6 : decode cX12_isPair 6 = .ok (.iconst 3, 1) := by decide +kernel
theorem dX12_isPair_7 : decode cX12_isPair 7 = .ok (.iaload, 1) := by decide +kernel
theorem dX12_isPair_8 : decode cX12_isPair 8 = .ok (.iconst 1, 1) := by decide +kernel
theorem dX12_isPair_9 : decode cX12_isPair 9 = .ok (.isub, 1) := by decide +kernel
theorem dX12_isPair_10 : decode cX12_isPair 10 = .ok (.i2l, 1) := by decide +kernel
theorem dX12_isPair_11 : decode cX12_isPair 11 = .ok (.invokestatic 139, 3) := by decide +kernel
theorem dX12_isPair_14 : decode cX12_isPair 14 = .ok (.ireturn, 1) := by decide +kernel
set_option maxRecDepth 20000 in
set_option maxHeartbeats 2000000 in
theorem w_X12_isPair {X : CX} {d : Nat} (hd : 1 ≤ d) (l0 : Nat) (l1 : Int64) (g g' : G) (rx : Bool) (k_l0 : KD g l0 12) (h : f_X12_isPair l0 l1 g = some (rx, g')) : Sem X m_X12_isPair d [.ref (ad X l0), .long l1] g (some (.int (b2i rx))) g' := by
  refine Sem_of (lo := [(0, .ref (ad X l0)), (1, .long l1)]) (by decide +kernel) rfl (Nat.le_of_ble_eq_true rfl) ?_
  rw [f_X12_isPair] at h
  refine SF_lload_n 1 1 dX12_isPair_0 rfl rfl rfl ?_
  refine SF_lconst (0 : Int64) 2 dX12_isPair_1 rfl rfl ?_
  refine SF_aload_n 0 3 dX12_isPair_2 rfl rfl rfl ?_
  obtain ⟨b1, r2, h⟩ := dr_some h
  refine SF_getR 6 fl_X12_13 dX12_isPair_3 k_l0.1 r2 rfl ?_
  refine SF_iconst (3 : Int32) 7 dX12_isPair_6 rfl rfl ?_
  obtain ⟨k3, h⟩ := gdK_some h
  obtain ⟨i4, h⟩ := gdI_some h
  refine SF_iald 8 dX12_isPair_7 k3.1 i4 rfl ?_
  refine SF_iconst (1 : Int32) 9 dX12_isPair_8 rfl rfl ?_
  refine SF_isub 10 dX12_isPair_9 rfl ?_
  refine SF_i2l 11 dX12_isPair_10 rfl ?_
  obtain ⟨v5, g6, q7, h⟩ := bd_some h
  have s8 := w_X12_within (X := X) (Nat.le_refl 0) l1 (0 : Int64) (((gI g b1 (3 : Int32).toNatClampNeg) - (1 : Int32)).toInt64) g g6 v5 q7
  refine SF_callSb 14 mi_X12_within ml_X12_139 dX12_isPair_11 (Nat.le_trans (by decide) hd) s8 rfl rfl (Nat.le_of_ble_eq_true rfl) rfl ?_
  have k_l0 := k_l0.ext s8.1
  have k3 := k3.ext s8.1
  exact RT_b rfl rfl dX12_isPair_14 h

theorem dX12_pair_0 : decode cX12_pair 0 = .ok (.aload_n 0, 1) := by decide +kernel
theorem dX12_pair_1 : decode cX12_pair 1 = .ok (.iconst 0, 1) := by decide +kernel
theorem dX12_pair_2 : decode cX12_pair 2 = .ok (.putfield 1, 3) := by decide +kernel
theorem dX12_pair_5 : decode cX12_pair 5 = .ok (.aload_n 0, 1) := by decide +kernel
theorem dX12_pair_6 : decode cX12_pair 6 = .ok (.iload_n 1, 1) := by decide +kernel
theorem dX12_pair_7 : decode cX12_pair 7 = .ok (.i2l, 1) := by decide +kernel
theorem dX12_pair_8 : decode cX12_pair 8 = .ok (.invokevirtual 255, 3) := by decide +kernel
theorem dX12_pair_11 : decode cX12_pair 11 = .ok (.ifCond .ne 6, 3) := by decide +kernel
theorem dX12_pair_14 : decode cX12_pair 14 = .ok (.bipush (-2), 2) := by decide +kernel
theorem dX12_pair_16 : decode cX12_pair 16 = .ok (.ireturn, 1) := by decide +kernel
theorem dX12_pair_17 : decode cX12_pair 17 = .ok (.iload_n 2, 1) := by decide +kernel
theorem dX12_pair_18 : decode cX12_pair 18 = .ok (.tableswitch 112 0 6 #[42, 49, 56, 66, 76, 88, 102], 42) := by decide +kernel
theorem dX12_pair_60 : decode cX12_pair 60 = .ok (.aload_n 0, 1) := by decide +kernel
theorem dX12_pair_61 : decode cX12_pair 61 = .ok (.iload_n 1, 1) := by decide +kernel
theorem dX12_pair_62 : decode cX12_pair 62 = .ok (.iconst 0, 1) := by decide +kernel
theorem dX12_pair_63 : decode cX12_pair 63 = .ok (.invokevirtual 205, 3) := by decide +kernel
theorem dX12_pair_66 : decode cX12_pair 66 = .ok (.ireturn, 1) := by decide +kernel
theorem dX12_pair_67 : decode cX12_pair 67 = .ok (.aload_n 0, 1) := by decide +kernel
theorem dX12_pair_68 : decode cX12_pair 68 = .ok (.iload_n 1, 1) := by decide +kernel
theorem dX12_pair_69 : decode cX12_pair 69 = .ok (.iconst 1, 1) := by decide +kernel
theorem dX12_pair_70 : decode cX12_pair 70 = .ok (.invokevirtual 205, 3) := by decide +kernel
theorem dX12_pair_73 : decode cX12_pair 73 = .ok (.ireturn, 1) := by decide +kernel
theorem dX12_pair_74 : decode cX12_pair 74 = .ok (.aload_n 0, 1) := by decide +kernel
theorem dX12_pair_75 : decode cX12_pair 75 = .ok (.getfield 13, 3) := by decide +kernel
theorem dX12_pair_78 : decode cX12_pair 78 = .ok (.bipush 94, 2) := by decide +kernel
theorem dX12_pair_80 : decode cX12_pair 80 = .ok (.iload_n 1, 1) := by decide +kernel
theorem dX12_pair_81 : decode cX12_pair 81 = .ok (.iadd, 1) := by decide +kernel
theorem dX12_pair_82 : decode cX12_pair 82 = .ok (.iaload, 1) := by decide +kernel
theorem dX12_pair_83 : decode cX12_pair 83 = .ok (.ireturn, 1) := by decide +kernel
theorem dX12_pair_84 : decode cX12_pair 84 = .ok (.aload_n 0, 1) := by decide +kernel
theorem dX12_pair_85 : decode cX12_pair 85 = .ok (.getfield 13, 3) := by decide +kernel
theorem dX12_pair_88 : decode cX12_pair 88 = .ok (.bipush 97, 2) := by decide +kernel
theorem dX12_pair_90 : decode cX12_pair 90 = .ok (.iload_n 1, 1) := by decide +kernel
theorem dX12_pair_91 : decode cX12_pair 91 = .ok (.iadd, 1) := by decide +kernel
theorem dX12_pair_92 : decode cX12_pair 92 = .ok (.iaload, 1) := by decide +kernel
theorem dX12_pair_93 : decode cX12_pair 93 = .ok (.ireturn, 1) := by decide +kernel
theorem dX12_pair_94 : decode cX12_pair 94 = .ok (.aload_n 0, 1) := by decide +kernel
theorem dX12_pair_95 : decode cX12_pair 95 = .ok (.getfield 13, 3) := by decide +kernel
theorem dX12_pair_98 : decode cX12_pair 98 = .ok (.bipush 46, 2) := by decide +kernel
theorem dX12_pair_100 : decode cX12_pair 100 = .ok (.iconst 2, 1) := by decide +kernel
theorem dX12_pair_101 : decode cX12_pair 101 = .ok (.iload_n 1, 1) := by decide +kernel
theorem dX12_pair_102 : decode cX12_pair 102 = .ok (.imul, 1) := by decide +kernel
theorem dX12_pair_103 : decode cX12_pair 103 = .ok (.iadd, 1) := by decide +kernel
theorem dX12_pair_104 : decode cX12_pair 104 = .ok (.iaload, 1) := by decide +kernel
theorem dX12_pair_105 : decode cX12_pair 105 = .ok (.ireturn, 1) := by decide +kernel
theorem dX12_pair_106 : decode cX12_pair 106 = .ok (.aload_n 0, 1) := by decide +kernel
theorem dX12_pair_107 : decode cX12_pair 107 = .ok (.getfield 13, 3) := by decide +kernel
theorem dX12_pair_110 : decode cX12_pair 110 = .ok (.bipush 46, 2) := by decide +kernel
theorem dX12_pair_112 : decode cX12_pair 112 = .ok (.iconst 2, 1) := by decide +kernel
theorem dX12_pair_113 : decode cX12_pair 113 = .ok (.iload_n 1, 1) := by decide +kernel
theorem dX12_pair_114 : decode cX12_pair 114 = .ok (.imul, 1) := by decide +kernel
theorem dX12_pair_115 : decode cX12_pair 115 = .ok (.iadd, 1) := by decide +kernel
theorem dX12_pair_116 : decode cX12_pair 116 = .ok (.iconst 1, 1) := by decide +kernel
theorem dX12_pair_117 : decode cX12_pair 117 = .ok (.iadd, 1) := by decide +kernel
theorem dX12_pair_118 : decode cX12_pair 118 = .ok (.iaload, 1) := by decide +kernel
theorem dX12_pair_119 : decode cX12_pair 119 = .ok (.ireturn, 1) := by decide +kernel
theorem dX12_pair_120 : decode cX12_pair 120 = .ok (.aload_n 0, 1) := by decide +kernel
theorem dX12_pair_121 : decode cX12_pair 121 = .ok (.getfield 13, 3) := by decide +kernel
theorem dX12_pair_124 : decode cX12_pair 124 = .ok (.bipush 100, 2) := by decide +kernel
theorem dX12_pair_126 : decode cX12_pair 126 = .ok (.iload_n 1, 1) := by decide +kernel
theorem dX12_pair_127 : decode cX12_pair 127 = .ok (.iadd, 1) := by decide +kernel
theorem dX12_pair_128 : decode cX12_pair 128 = .ok (.iaload, 1) := by decide +kernel
theorem dX12_pair_129 : decode cX12_pair 129 = .ok (.ireturn, 1) := by decide +kernel
theorem dX12_pair_130 : decode cX12_pair 130 = .ok (.bipush (-2), 2) := by decide +kernel
theorem dX12_pair_132 : decode cX12_pair 132 = .ok (.ireturn, 1) := by decide +kernel
set_option maxRecDepth 20000 in
set_option maxHeartbeats 2000000 in
theorem w_X12_pair {X : CX} {d : Nat} (hd : 2 ≤ d) (l0 : Nat) (l1 : Int32) (l2 : Int32) (g g' : G) (rx : Int32) (k_l0 : KD g l0 12) (h : f_X12_pair l0 l1 l2 g = some (rx, g')) : Sem X m_X12_pair d [.ref (ad X l0), .int l1, .int l2] g (some (.int rx)) g' := by
  refine Sem_of (lo := [(0, .ref (ad X l0)), (1, .int l1), (2, .int l2)]) (by decide +kernel) rfl (Nat.le_of_ble_eq_true rfl) ?_
  rw [f_X12_pair] at h
  refine SF_aload_n 0 1 dX12_pair_0 rfl rfl rfl ?_
  refine SF_iconst (0 : Int32) 2 dX12_pair_1 rfl rfl ?_
  refine SF_putI 5 fl_X12_1 dX12_pair_2 k_l0.1 (fn_int _) (Or.inl rfl) rfl ?_
  obtain ⟨g1, e2, h⟩ := lg_some h
  rw [← e2]
  have k_l0 := KD.eq e2 k_l0
  refine SF_aload_n 0 6 dX12_pair_5 rfl rfl rfl ?_
  refine SF_iload_n 1 7 dX12_pair_6 rfl rfl rfl ?_
  refine SF_i2l 8 dX12_pair_7 rfl ?_
  obtain ⟨v3, g4, q5, h⟩ := bd_some h
  have s6 := w_X12_isPair (X := X) (Nat.le_refl 1) l0 (l1.toInt64) g1 g4 v3 k_l0 q5
  refine SF_callVb 11 mi_X12_isPair ml_X12_255 dX12_pair_8 (Nat.le_trans (by decide) hd) s6 k_l0.1 rfl rfl (Nat.le_of_ble_eq_true rfl) rfl ?_
  have k_l0 := k_l0.ext s6.1
  refine SF_ifne 17 14 dX12_pair_11 rfl rfl (fun c7 => ?_) (fun c7 => ?_)
  · have h := ite_f c7 h
    refine SF_iload_n 2 18 dX12_pair_17 rfl rfl rfl ?_
    by_cases c36 : l2.toInt < 0
    · have h := ite_t c36 h
      refine SF_tabOut 130 dX12_pair_18 (Or.inl c36) rfl ?_
      refine SF_bipush (-2 : Int32) 132 dX12_pair_130 rfl rfl ?_
      exact RT_i rfl dX12_pair_132 h
    · have h := ite_f c36 h
      generalize m37 : (l2.toInt - 0).toNat = mm at h
      match mm, m37, h with
      | 0, m37, h =>
        refine SF_tabIn 60 dX12_pair_18 c36 (by omega) (by rw [m37]; rfl) rfl ?_
        refine SF_aload_n 0 61 dX12_pair_60 rfl rfl rfl ?_
        refine SF_iload_n 1 62 dX12_pair_61 rfl rfl rfl ?_
        refine SF_iconst (0 : Int32) 63 dX12_pair_62 rfl rfl ?_
        obtain ⟨v8, g9, q10, h⟩ := bd_some h
        have s11 := w_X12_twinOf (X := X) (Nat.le_refl 0) l0 l1 (0 : Int32) g4 g9 v8 k_l0 q10
        refine SF_callVi 66 mi_X12_twinOf ml_X12_205 dX12_pair_63 (Nat.le_trans (by decide) hd) s11 k_l0.1 rfl rfl (Nat.le_of_ble_eq_true rfl) rfl ?_
        have k_l0 := k_l0.ext s11.1
        exact RT_i rfl dX12_pair_66 h
      | 1, m37, h =>
        refine SF_tabIn 67 dX12_pair_18 c36 (by omega) (by rw [m37]; rfl) rfl ?_
        refine SF_aload_n 0 68 dX12_pair_67 rfl rfl rfl ?_
        refine SF_iload_n 1 69 dX12_pair_68 rfl rfl rfl ?_
        refine SF_iconst (1 : Int32) 70 dX12_pair_69 rfl rfl ?_
        obtain ⟨v12, g13, q14, h⟩ := bd_some h
        have s15 := w_X12_twinOf (X := X) (Nat.le_refl 0) l0 l1 (1 : Int32) g4 g13 v12 k_l0 q14
        refine SF_callVi 73 mi_X12_twinOf ml_X12_205 dX12_pair_70 (Nat.le_trans (by decide) hd) s15 k_l0.1 rfl rfl (Nat.le_of_ble_eq_true rfl) rfl ?_
        have k_l0 := k_l0.ext s15.1
        exact RT_i rfl dX12_pair_73 h
      | 2, m37, h =>
        refine SF_tabIn 74 dX12_pair_18 c36 (by omega) (by rw [m37]; rfl) rfl ?_
        refine SF_aload_n 0 75 dX12_pair_74 rfl rfl rfl ?_
        obtain ⟨b16, r17, h⟩ := dr_some h
        refine SF_getR 78 fl_X12_13 dX12_pair_75 k_l0.1 r17 rfl ?_
        refine SF_bipush (94 : Int32) 80 dX12_pair_78 rfl rfl ?_
        refine SF_iload_n 1 81 dX12_pair_80 rfl rfl rfl ?_
        refine SF_iadd 82 dX12_pair_81 rfl ?_
        obtain ⟨k18, h⟩ := gdK_some h
        obtain ⟨i19, h⟩ := gdI_some h
        refine SF_iald 83 dX12_pair_82 k18.1 i19 rfl ?_
        exact RT_i rfl dX12_pair_83 h
      | 3, m37, h =>
        refine SF_tabIn 84 dX12_pair_18 c36 (by omega) (by rw [m37]; rfl) rfl ?_
        refine SF_aload_n 0 85 dX12_pair_84 rfl rfl rfl ?_
        obtain ⟨b20, r21, h⟩ := dr_some h
        refine SF_getR 88 fl_X12_13 dX12_pair_85 k_l0.1 r21 rfl ?_
        refine SF_bipush (97 : Int32) 90 dX12_pair_88 rfl rfl ?_
        refine SF_iload_n 1 91 dX12_pair_90 rfl rfl rfl ?_
        refine SF_iadd 92 dX12_pair_91 rfl ?_
        obtain ⟨k22, h⟩ := gdK_some h
        obtain ⟨i23, h⟩ := gdI_some h
        refine SF_iald 93 dX12_pair_92 k22.1 i23 rfl ?_
        exact RT_i rfl dX12_pair_93 h
      | 4, m37, h =>
        refine SF_tabIn 94 dX12_pair_18 c36 (by omega) (by rw [m37]; rfl) rfl ?_
        refine SF_aload_n 0 95 dX12_pair_94 rfl rfl rfl ?_
        obtain ⟨b24, r25, h⟩ := dr_some h
        refine SF_getR 98 fl_X12_13 dX12_pair_95 k_l0.1 r25 rfl ?_
        refine SF_bipush (46 : Int32) 100 dX12_pair_98 rfl rfl ?_
        refine SF_iconst (2 : Int32) 101 dX12_pair_100 rfl rfl ?_
        refine SF_iload_n 1 102 dX12_pair_101 rfl rfl rfl ?_
        refine SF_imul 103 dX12_pair_102 rfl ?_
        refine SF_iadd 104 dX12_pair_103 rfl ?_
        obtain ⟨k26, h⟩ := gdK_some h
        obtain ⟨i27, h⟩ := gdI_some h
        refine SF_iald 105 dX12_pair_104 k26.1 i27 rfl ?_
        exact RT_i rfl dX12_pair_105 h
      | 5, m37, h =>
        refine SF_tabIn 106 dX12_pair_18 c36 (by omega) (by rw [m37]; rfl) rfl ?_
        refine SF_aload_n 0 107 dX12_pair_106 rfl rfl rfl ?_
        obtain ⟨b28, r29, h⟩ := dr_some h
        refine SF_getR 110 fl_X12_13 dX12_pair_107 k_l0.1 r29 rfl ?_
        refine SF_bipush (46 : Int32) 112 dX12_pair_110 rfl rfl ?_
        refine SF_iconst (2 : Int32) 113 dX12_pair_112 rfl rfl ?_
        refine SF_iload_n 1 114 dX12_pair_113 rfl rfl rfl ?_
        refine SF_imul 115 dX12_pair_114 rfl ?_
        refine SF_iadd 116 dX12_pair_115 rfl ?_
        refine SF_iconst (1 : Int32) 117 dX12_pair_116 rfl rfl ?_
        refine SF_iadd 118 dX12_pair_117 rfl ?_
        obtain ⟨k30, h⟩ := gdK_some h
        obtain ⟨i31, h⟩ := gdI_some h
        refine SF_iald 119 dX12_pair_118 k30.1 i31 rfl ?_
        exact RT_i rfl dX12_pair_119 h
      | 6, m37, h =>
        refine SF_tabIn 120 dX12_pair_18 c36 (by omega) (by rw [m37]; rfl) rfl ?_
        refine SF_aload_n 0 121 dX12_pair_120 rfl rfl rfl ?_
        obtain ⟨b32, r33, h⟩ := dr_some h
        refine SF_getR 124 fl_X12_13 dX12_pair_121 k_l0.1 r33 rfl ?_
        refine SF_bipush (100 : Int32) 126 dX12_pair_124 rfl rfl ?_
        refine SF_iload_n 1 127 dX12_pair_126 rfl rfl rfl ?_
        refine SF_iadd 128 dX12_pair_127 rfl ?_
        obtain ⟨k34, h⟩ := gdK_some h
        obtain ⟨i35, h⟩ := gdI_some h
        refine SF_iald 129 dX12_pair_128 k34.1 i35 rfl ?_
        exact RT_i rfl dX12_pair_129 h
      | mm + 7, m37, h =>
        refine SF_tabOut 130 dX12_pair_18 (Or.inr (by omega)) rfl ?_
        refine SF_bipush (-2 : Int32) 132 dX12_pair_130 rfl rfl ?_
        exact RT_i rfl dX12_pair_132 h
  · have h := ite_t c7 h
    refine SF_bipush (-2 : Int32) 16 dX12_pair_14 rfl rfl ?_
    exact RT_i rfl dX12_pair_16 h

theorem dX9_assume_0 : decode cX9_assume 0 = .ok (.aload_n 0, 1) := by decide +kernel
theorem dX9_assume_1 : decode cX9_assume 1 = .ok (.getfield 11, 3) := by decide +kernel
theorem dX9_assume_4 : decode cX9_assume 4 = .ok (.iconst 2, 1) := by decide +kernel
theorem dX9_assume_5 : decode cX9_assume 5 = .ok (.iload_n 1, 1) := by decide +kernel
theorem dX9_assume_6 : decode cX9_assume 6 = .ok (.iastore, 1) := by decide +kernel
theorem dX9_assume_7 : decode cX9_assume 7 = .ok (.aload_n 0, 1) := by decide +kernel
theorem dX9_assume_8 : decode cX9_assume 8 = .ok (.dup, 1) := by decide +kernel
theorem dX9_assume_9 : decode cX9_assume 9 = .ok (.getfield 84, 3) := by decide +kernel
theorem dX9_assume_12 : decode cX9_assume 12 = .ok (.iconst 1, 1) := by decide +kernel
theorem dX9_assume_13 : decode cX9_assume 13 = .ok (.iadd, 1) := by decide +kernel
theorem dX9_assume_14 : decode cX9_assume 14 = .ok (.putfield 84, 3) := by decide +kernel
theorem dX9_assume_17 : decode cX9_assume 17 = .ok (.return_, 1) := by decide +kernel
set_option maxRecDepth 20000 in
set_option maxHeartbeats 2000000 in
theorem w_X9_assume {X : CX} {d : Nat} (hd : 0 ≤ d) (l0 : Nat) (l1 : Int32) (g g' : G) (rx : Unit) (k_l0 : KD g l0 9) (h : f_X9_assume l0 l1 g = some (rx, g')) : Sem X m_X9_assume d [.ref (ad X l0), .int l1] g none g' := by
  refine Sem_of (lo := [(0, .ref (ad X l0)), (1, .int l1)]) (by decide +kernel) rfl (Nat.le_of_ble_eq_true rfl) ?_
  rw [f_X9_assume] at h
  refine SF_aload_n 0 1 dX9_assume_0 rfl rfl rfl ?_
  obtain ⟨b1, r2, h⟩ := dr_some h
  refine SF_getR 4 fl_X9_11 dX9_assume_1 k_l0.1 r2 rfl ?_
  refine SF_iconst (2 : Int32) 5 dX9_assume_4 rfl rfl ?_
  refine SF_iload_n 1 6 dX9_assume_5 rfl rfl rfl ?_
  obtain ⟨k3, h⟩ := gdK_some h
  obtain ⟨i4, h⟩ := gdI_some h
  refine SF_iast 7 dX9_assume_6 k3.1 i4 rfl ?_
  obtain ⟨g5, e6, h⟩ := lg_some h
  rw [← e6]
  have k_l0 := KD.eq e6 k_l0
  have k3 := KD.eq e6 k3
  have r2 := gR_eq e6 r2
  have i4 := vp_eq e6 i4
  refine SF_aload_n 0 8 dX9_assume_7 rfl rfl rfl ?_
  refine SF_dup 9 dX9_assume_8 rfl rfl ?_
  refine SF_getI 12 fl_X9_84 dX9_assume_9 k_l0.1 rfl ?_
  refine SF_iconst (1 : Int32) 13 dX9_assume_12 rfl rfl ?_
  refine SF_iadd 14 dX9_assume_13 rfl ?_
  refine SF_putI 17 fl_X9_84 dX9_assume_14 k_l0.1 (fn_int _) (Or.inl rfl) rfl ?_
  obtain ⟨g7, e8, h⟩ := lg_some h
  rw [← e8]
  have k_l0 := KD.eq e8 k_l0
  have k3 := KD.eq e8 k3
  have r2 := gR_eq e8 r2
  have i4 := vp_eq e8 i4
  exact RT_v rfl dX9_assume_17 h

theorem dJ7_fill_d0a16_0 : decode cJ7_fill_d0a16 0 = .ok (.iconst 0, 1) := by decide +kernel
theorem dJ7_fill_d0a16_1 : decode cJ7_fill_d0a16 1 = .ok (.istore_n 3, 1) := by decide +kernel
theorem dJ7_fill_d0a16_2 : decode cJ7_fill_d0a16 2 = .ok (.aload_n 0, 1) := by decide +kernel
theorem dJ7_fill_d0a16_3 : decode cJ7_fill_d0a16 3 = .ok (.arraylength, 1) := by decide +kernel
theorem dJ7_fill_d0a16_4 : decode cJ7_fill_d0a16 4 = .ok (.istore 4, 2) := by decide +kernel
theorem dJ7_fill_d0a16_6 : decode cJ7_fill_d0a16 6 = .ok (.iload_n 3, 1) := by decide +kernel
theorem dJ7_fill_d0a16_7 : decode cJ7_fill_d0a16 7 = .ok (.iload 4, 2) := by decide +kernel
theorem dJ7_fill_d0a16_9 : decode cJ7_fill_d0a16 9 = .ok (.if_icmp .ge 13, 3) := by decide +kernel
theorem dJ7_fill_d0a16_12 : decode cJ7_fill_d0a16 12 = .ok (.aload_n 0, 1) := by decide +kernel
theorem dJ7_fill_d0a16_13 : decode cJ7_fill_d0a16 13 = .ok (.iload_n 3, 1) := by decide +kernel
theorem dJ7_fill_d0a16_14 : decode cJ7_fill_d0a16 14 = .ok (.lload_n 1, 1) := by decide +kernel
theorem dJ7_fill_d0a16_15 : decode cJ7_fill_d0a16 15 = .ok (.lastore, 1) := by decide +kernel
theorem dJ7_fill_d0a16_16 : decode cJ7_fill_d0a16 16 = .ok (.iinc 3 1, 3) := by decide +kernel
theorem dJ7_fill_d0a16_19 : decode cJ7_fill_d0a16 19 = .ok (.goto (-13), 3) := by decide +kernel
theorem dJ7_fill_d0a16_22 : decode cJ7_fill_d0a16 22 = .ok (.return_, 1) := by decide +kernel
set_option maxRecDepth 20000 in
set_option maxHeartbeats 2000000 in
theorem w_J7_fill_d0a16_6 {X : CX} {d : Nat} (hd : 0 ≤ d) {g' : G} {rx : Unit} : ∀ (n : Nat) (l0 : Nat) (l1 : Int64) (l3 : Int32) (l4 : Int32) (g : G), KD g l0 15 → f_J7_fill_d0a16_6 n l0 l1 l3 l4 g = some (rx, g') → SemF X m_J7_fill_d0a16 d 6 [(0, .ref (ad X l0)), (1, .long l1), (3, .int l3), (4, .int l4)] [] g none g' := by
  intro n
  induction n with
  | zero =>
    intro l0 l1 l3 l4 g k_l0 h
    rw [f_J7_fill_d0a16_6] at h
    cases h
  | succ n ih =>
  intro l0 l1 l3 l4 g k_l0 h
  rw [f_J7_fill_d0a16_6] at h
  refine SF_iload_n 2 7 dJ7_fill_d0a16_6 rfl rfl rfl ?_
  refine SF_iload 3 9 dJ7_fill_d0a16_7 rfl rfl ?_
  refine SF_icge 22 12 dJ7_fill_d0a16_9 rfl rfl (fun c1 => ?_) (fun c1 => ?_)
  · have h := ite_t c1 h
    exact RT_v rfl dJ7_fill_d0a16_22 h
  · have h := ite_f c1 h
    refine SF_aload_n 0 13 dJ7_fill_d0a16_12 rfl rfl rfl ?_
    refine SF_iload_n 2 14 dJ7_fill_d0a16_13 rfl rfl rfl ?_
    refine SF_lload_n 1 15 dJ7_fill_d0a16_14 rfl rfl rfl ?_
    obtain ⟨i2, h⟩ := gdI_some h
    refine SF_last 16 dJ7_fill_d0a16_15 k_l0.1 i2 rfl ?_
    obtain ⟨g3, e4, h⟩ := lg_some h
    rw [← e4]
    have k_l0 := KD.eq e4 k_l0
    have i2 := vp_eq e4 i2
    refine SF_iinc 2 (l3 + (1 : Int32)) [(3, .int (l3 + (1 : Int32))), (0, .ref (ad X l0)), (1, .long l1), (4, .int l4)] 19 dJ7_fill_d0a16_16 rfl rfl (by decide) rfl rfl ?_
    refine SF_goto 6 dJ7_fill_d0a16_19 rfl ?_
    refine SF_sub [1, 2, 0, 3] rfl ?_
    exact ih l0 l1 (l3 + (1 : Int32)) l4 g3 k_l0 h

set_option maxRecDepth 20000 in
set_option maxHeartbeats 2000000 in
theorem w_J7_fill_d0a16 {X : CX} {d : Nat} (hd : 0 ≤ d) (l0 : Nat) (l1 : Int64) (g g' : G) (rx : Unit) (k_l0 : KD g l0 15) (h : f_J7_fill_d0a16 l0 l1 g = some (rx, g')) : Sem X m_J7_fill_d0a16 d [.ref (ad X l0), .long l1] g none g' := by
  refine Sem_ofF (lo := [(0, .ref (ad X l0)), (1, .long l1)]) (by decide +kernel) rfl (Nat.le_of_ble_eq_true rfl) ?_
  rw [f_J7_fill_d0a16] at h
  refine SF_iconst (0 : Int32) 1 dJ7_fill_d0a16_0 rfl rfl ?_
  refine SF_istore_n [(3, .int (0 : Int32)), (0, .ref (ad X l0)), (1, .long l1)] 2 dJ7_fill_d0a16_1 rfl (by decide) rfl rfl ?_
  refine SF_aload_n 1 3 dJ7_fill_d0a16_2 rfl rfl rfl ?_
  refine SF_alen 4 dJ7_fill_d0a16_3 k_l0.1 (by decide) (by decide) rfl ?_
  obtain ⟨y1, e2, h⟩ := li_some h
  refine SF_eqI e2 ?_
  refine SF_istore [(4, .int y1), (3, .int (0 : Int32)), (0, .ref (ad X l0)), (1, .long l1)] 6 dJ7_fill_d0a16_4 (by decide) rfl rfl ?_
  refine SF_sub [2, 3, 1, 0] rfl ?_
  exact w_J7_fill_d0a16_6 hd FU l0 l1 (0 : Int32) y1 g k_l0 h

theorem dX9_drawRings_0 : decode cX9_drawRings 0 = .ok (.aload_n 0, 1) := by decide +kernel
theorem dX9_drawRings_1 : decode cX9_drawRings 1 = .ok (.getfield 15, 3) := by decide +kernel
theorem dX9_drawRings_4 : decode cX9_drawRings 4 = .ok (.lconst 0, 1) := by decide +kernel
theorem dX9_drawRings_5 : decode cX9_drawRings 5 = .ok (.invokestatic 87, 3) := by decide +kernel
theorem dX9_drawRings_8 : decode cX9_drawRings 8 = .ok (.aload_n 0, 1) := by decide +kernel
theorem dX9_drawRings_9 : decode cX9_drawRings 9 = .ok (.aload_n 0, 1) := by decide +kernel
theorem dX9_drawRings_10 : decode cX9_drawRings 10 = .ok (.getfield 34, 3) := by decide +kernel
theorem dX9_drawRings_13 : decode cX9_drawRings 13 = .ok (.getfield 70, 3) := by decide +kernel
theorem dX9_drawRings_16 : decode cX9_drawRings 16 = .ok (.putfield 67, 3) := by decide +kernel
theorem dX9_drawRings_19 : decode cX9_drawRings 19 = .ok (.aload_n 0, 1) := by decide +kernel
theorem dX9_drawRings_20 : decode cX9_drawRings 20 = .ok (.aload_n 0, 1) := by decide +kernel
theorem dX9_drawRings_21 : decode cX9_drawRings 21 = .ok (.getfield 34, 3) := by decide +kernel
theorem dX9_drawRings_24 : decode cX9_drawRings 24 = .ok (.getfield 78, 3) := by decide +kernel
theorem dX9_drawRings_27 : decode cX9_drawRings 27 = .ok (.putfield 75, 3) := by decide +kernel
theorem dX9_drawRings_30 : decode cX9_drawRings 30 = .ok (.iconst 0, 1) := by decide +kernel
theorem dX9_drawRings_31 : decode cX9_drawRings 31 = .ok (.istore_n 1, 1) := by decide +kernel
theorem dX9_drawRings_32 : decode cX9_drawRings 32 = .ok (.iload_n 1, 1) := by decide +kernel
theorem dX9_drawRings_33 : decode cX9_drawRings 33 = .ok (.aload_n 0, 1) := by decide +kernel
theorem dX9_drawRings_34 : decode cX9_drawRings 34 = .ok (.getfield 34, 3) := by decide +kernel
theorem dX9_drawRings_37 : decode cX9_drawRings 37 = .ok (.getfield 93, 3) := by decide +kernel
theorem dX9_drawRings_40 : decode cX9_drawRings 40 = .ok (.if_icmp .ge 73, 3) := by decide +kernel
theorem dX9_drawRings_43 : decode cX9_drawRings 43 = .ok (.iload_n 1, 1) := by decide +kernel
theorem dX9_drawRings_44 : decode cX9_drawRings 44 = .ok (.bipush 36, 2) := by decide +kernel
theorem dX9_drawRings_46 : decode cX9_drawRings 46 = .ok (.if_icmp .ge 67, 3) := by decide +kernel
theorem dX9_drawRings_49 : decode cX9_drawRings 49 = .ok (.iconst 0, 1) := by decide +kernel
theorem dX9_drawRings_50 : decode cX9_drawRings 50 = .ok (.istore_n 2, 1) := by decide +kernel
theorem dX9_drawRings_51 : decode cX9_drawRings 51 = .ok (.iload_n 2, 1) := by decide +kernel
theorem dX9_drawRings_52 : decode cX9_drawRings 52 = .ok (.aload_n 0, 1) := by decide +kernel
theorem dX9_drawRings_53 : decode cX9_drawRings 53 = .ok (.getfield 34, 3) := by decide +kernel
theorem dX9_drawRings_56 : decode cX9_drawRings 56 = .ok (.getfield 93, 3) := by decide +kernel
theorem dX9_drawRings_59 : decode cX9_drawRings 59 = .ok (.if_icmp .ge 48, 3) := by decide +kernel
theorem dX9_drawRings_62 : decode cX9_drawRings 62 = .ok (.iload_n 2, 1) := by decide +kernel
theorem dX9_drawRings_63 : decode cX9_drawRings 63 = .ok (.bipush 36, 2) := by decide +kernel
theorem dX9_drawRings_65 : decode cX9_drawRings 65 = .ok (.if_icmp .ge 42, 3) := by decide +kernel
theorem dX9_drawRings_68 : decode cX9_drawRings 68 = .ok (.aload_n 0, 1) := by decide +kernel
theorem dX9_drawRings_69 : decode cX9_drawRings 69 = .ok (.getfield 34, 3) := by decide +kernel
theorem dX9_drawRings_72 : decode cX9_drawRings 72 = .ok (.iload_n 1, 1) := by decide +kernel
theorem dX9_drawRings_73 : decode cX9_drawRings 73 = .ok (.iload_n 2, 1) := by decide +kernel
theorem dX9_drawRings_74 : decode cX9_drawRings 74 = .ok (.invokevirtual 96, 3) := by decide +kernel
theorem dX9_drawRings_77 : decode cX9_drawRings 77 = .ok (.istore_n 3, 1) := by decide +kernel
theorem dX9_drawRings_78 : decode cX9_drawRings 78 = .ok (.iload_n 3, 1) := by decide +kernel
theorem dX9_drawRings_79 : decode cX9_drawRings 79 = .ok (.bipush 10, 2) := by decide +kernel
theorem dX9_drawRings_81 : decode cX9_drawRings 81 = .ok (.if_icmp .gt 20, 3) := by decide +kernel
theorem dX9_drawRings_84 : decode cX9_drawRings 84 = .ok (.aload_n 0, 1) := by decide +kernel
theorem dX9_drawRings_85 : decode cX9_drawRings 85 = .ok (.getfield 15, 3) := by decide +kernel
theorem dX9_drawRings_88 : decode cX9_drawRings 88 = .ok (.iload_n 3, 1) := by decide +kernel
theorem dX9_drawRings_89 : decode cX9_drawRings 89 = .ok (.bipush 36, 2) := by decide +kernel
theorem dX9_drawRings_91 : decode cX9_drawRings 91 = .ok (.imul, 1) := by decide +kernel
theorem dX9_drawRings_92 : decode cX9_drawRings 92 = .ok (.iload_n 1, 1) := by decide +kernel
theorem dX9_drawRings_93 : decode cX9_drawRings 93 = .ok (.iadd, 1) := by decide +kernel
theorem dX9_drawRings_94 : decode cX9_drawRings 94 = .ok (.dup2, 1) := by decide +kernel
theorem dX9_drawRings_95 : decode cX9_drawRings 95 = .ok (.laload, 1) := by decide +kernel
theorem dX9_drawRings_96 : decode cX9_drawRings 96 = .ok (.lconst 1, 1) := by decide +kernel
theorem dX9_drawRings_97 : decode cX9_drawRings 97 = .ok (.iload_n 2, 1) := by decide +kernel
theorem dX9_drawRings_98 : decode cX9_drawRings 98 = .ok (.lshl, 1) := by decide +kernel
theorem dX9_drawRings_99 : decode cX9_drawRings 99 = .ok (.lor, 1) := by decide +kernel
theorem dX9_drawRings_100 : decode cX9_drawRings 100 = .ok (.lastore, 1) := by decide +kernel
theorem dX9_drawRings_101 : decode cX9_drawRings 101 = .ok (.iinc 2 1, 3) := by decide +kernel
theorem dX9_drawRings_104 : decode cX9_drawRings 104 = .ok (.goto (-53), 3) := by decide +kernel
theorem dX9_drawRings_107 : decode cX9_drawRings 107 = .ok (.iinc 1 1, 3) := by decide +kernel
theorem dX9_drawRings_110 : decode cX9_drawRings 110 = .ok (.goto (-78), 3) := by decide +kernel
theorem dX9_drawRings_113 : decode cX9_drawRings 113 = .ok (.return_, 1) := by decide +kernel
set_option maxRecDepth 20000 in
set_option maxHeartbeats 2000000 in
theorem w_X9_drawRings_101 {X : CX} {d : Nat} (hd : 2 ≤ d) {g' : G} {rx : Unit} (k32 : Nat → Int32 → G → Option (Unit × G)) (hk32 : ∀ (l0 : Nat) (l1 : Int32) (g : G), KD g l0 9 → k32 l0 l1 g = some (rx, g') → SemF X m_X9_drawRings d 32 [(0, .ref (ad X l0)), (1, .int l1)] [] g none g') (k51 : Nat → Int32 → Int32 → G → Option (Unit × G)) (hk51 : ∀ (l0 : Nat) (l1 : Int32) (l2 : Int32) (g : G), KD g l0 9 → k51 l0 l1 l2 g = some (rx, g') → SemF X m_X9_drawRings d 51 [(0, .ref (ad X l0)), (1, .int l1), (2, .int l2)] [] g none g') (l0 : Nat) (l1 : Int32) (l2 : Int32) (g : G) (k_l0 : KD g l0 9) (h : f_X9_drawRings_101 k32 k51 l0 l1 l2 g = some (rx, g')) : SemF X m_X9_drawRings d 101 [(0, .ref (ad X l0)), (1, .int l1), (2, .int l2)] [] g none g' := by
  rw [f_X9_drawRings_101] at h
  refine SF_iinc 2 (l2 + (1 : Int32)) [(2, .int (l2 + (1 : Int32))), (0, .ref (ad X l0)), (1, .int l1)] 104 dX9_drawRings_101 rfl rfl (by decide) rfl rfl ?_
  refine SF_goto 51 dX9_drawRings_104 rfl ?_
  refine SF_sub [1, 2, 0] rfl ?_
  exact hk51 l0 l1 (l2 + (1 : Int32)) g k_l0 h

set_option maxRecDepth 20000 in
set_option maxHeartbeats 2000000 in
theorem w_X9_drawRings_107 {X : CX} {d : Nat} (hd : 2 ≤ d) {g' : G} {rx : Unit} (k32 : Nat → Int32 → G → Option (Unit × G)) (hk32 : ∀ (l0 : Nat) (l1 : Int32) (g : G), KD g l0 9 → k32 l0 l1 g = some (rx, g') → SemF X m_X9_drawRings d 32 [(0, .ref (ad X l0)), (1, .int l1)] [] g none g') (l0 : Nat) (l1 : Int32) (g : G) (k_l0 : KD g l0 9) (h : f_X9_drawRings_107 k32 l0 l1 g = some (rx, g')) : SemF X m_X9_drawRings d 107 [(0, .ref (ad X l0)), (1, .int l1)] [] g none g' := by
  rw [f_X9_drawRings_107] at h
  refine SF_iinc 1 (l1 + (1 : Int32)) [(1, .int (l1 + (1 : Int32))), (0, .ref (ad X l0))] 110 dX9_drawRings_107 rfl rfl (by decide) rfl rfl ?_
  refine SF_goto 32 dX9_drawRings_110 rfl ?_
  refine SF_sub [1, 0] rfl ?_
  exact hk32 l0 (l1 + (1 : Int32)) g k_l0 h

set_option maxRecDepth 20000 in
set_option maxHeartbeats 2000000 in
theorem w_X9_drawRings_51 {X : CX} {d : Nat} (hd : 2 ≤ d) {g' : G} {rx : Unit} (k32 : Nat → Int32 → G → Option (Unit × G)) (hk32 : ∀ (l0 : Nat) (l1 : Int32) (g : G), KD g l0 9 → k32 l0 l1 g = some (rx, g') → SemF X m_X9_drawRings d 32 [(0, .ref (ad X l0)), (1, .int l1)] [] g none g') : ∀ (n : Nat) (l0 : Nat) (l1 : Int32) (l2 : Int32) (g : G), KD g l0 9 → f_X9_drawRings_51 k32 n l0 l1 l2 g = some (rx, g') → SemF X m_X9_drawRings d 51 [(0, .ref (ad X l0)), (1, .int l1), (2, .int l2)] [] g none g' := by
  intro n
  induction n with
  | zero =>
    intro l0 l1 l2 g k_l0 h
    rw [f_X9_drawRings_51] at h
    cases h
  | succ n ih =>
  intro l0 l1 l2 g k_l0 h
  rw [f_X9_drawRings_51] at h
  refine SF_iload_n 2 52 dX9_drawRings_51 rfl rfl rfl ?_
  refine SF_aload_n 0 53 dX9_drawRings_52 rfl rfl rfl ?_
  obtain ⟨b1, r2, h⟩ := dr_some h
  refine SF_getR 56 fl_X9_34 dX9_drawRings_53 k_l0.1 r2 rfl ?_
  obtain ⟨k3, h⟩ := gdK_some h
  refine SF_getI 59 fl_X9_93 dX9_drawRings_56 k3.1 rfl ?_
  refine SF_icge 107 62 dX9_drawRings_59 rfl rfl (fun c4 => ?_) (fun c4 => ?_)
  · have h := ite_t c4 h
    refine SF_sub [0, 1] rfl ?_
    exact w_X9_drawRings_107 hd k32 hk32 l0 l1 g k_l0 h
  · have h := ite_f c4 h
    refine SF_iload_n 2 63 dX9_drawRings_62 rfl rfl rfl ?_
    refine SF_bipush (36 : Int32) 65 dX9_drawRings_63 rfl rfl ?_
    refine SF_icge 107 68 dX9_drawRings_65 rfl rfl (fun c5 => ?_) (fun c5 => ?_)
    · have h := ite_t c5 h
      refine SF_sub [0, 1] rfl ?_
      exact w_X9_drawRings_107 hd k32 hk32 l0 l1 g k_l0 h
    · have h := ite_f c5 h
      refine SF_aload_n 0 69 dX9_drawRings_68 rfl rfl rfl ?_
      refine SF_getR 72 fl_X9_34 dX9_drawRings_69 k_l0.1 r2 rfl ?_
      refine SF_iload_n 1 73 dX9_drawRings_72 rfl rfl rfl ?_
      refine SF_iload_n 2 74 dX9_drawRings_73 rfl rfl rfl ?_
      obtain ⟨v6, g7, q8, h⟩ := bd_some h
      have s9 := w_X7_apart (X := X) (Nat.le_refl 1) b1 l1 l2 g g7 v6 k3 q8
      refine SF_callVi 77 mi_X7_apart ml_X9_96 dX9_drawRings_74 (Nat.le_trans (by decide) hd) s9 k3.1 rfl rfl (Nat.le_of_ble_eq_true rfl) rfl ?_
      have k_l0 := k_l0.ext s9.1
      have k3 := k3.ext s9.1
      refine SF_istore_n [(3, .int v6), (0, .ref (ad X l0)), (1, .int l1), (2, .int l2)] 78 dX9_drawRings_77 rfl (by decide) rfl rfl ?_
      refine SF_iload_n 0 79 dX9_drawRings_78 rfl rfl rfl ?_
      refine SF_bipush (10 : Int32) 81 dX9_drawRings_79 rfl rfl ?_
      refine SF_icgt 101 84 dX9_drawRings_81 rfl rfl (fun c10 => ?_) (fun c10 => ?_)
      · have h := ite_t c10 h
        refine SF_sub [1, 2, 3] rfl ?_
        exact w_X9_drawRings_101 hd k32 hk32 (f_X9_drawRings_51 k32 n) ih l0 l1 l2 g7 k_l0 h
      · have h := ite_f c10 h
        refine SF_aload_n 1 85 dX9_drawRings_84 rfl rfl rfl ?_
        obtain ⟨b11, r12, h⟩ := dr_some h
        refine SF_getR 88 fl_X9_15 dX9_drawRings_85 k_l0.1 r12 rfl ?_
        refine SF_iload_n 0 89 dX9_drawRings_88 rfl rfl rfl ?_
        refine SF_bipush (36 : Int32) 91 dX9_drawRings_89 rfl rfl ?_
        refine SF_imul 92 dX9_drawRings_91 rfl ?_
        refine SF_iload_n 2 93 dX9_drawRings_92 rfl rfl rfl ?_
        refine SF_iadd 94 dX9_drawRings_93 rfl ?_
        refine SF_dup2_11 95 dX9_drawRings_94 rfl rfl rfl ?_
        obtain ⟨k13, h⟩ := gdK_some h
        obtain ⟨i14, h⟩ := gdI_some h
        refine SF_lald 96 dX9_drawRings_95 k13.1 i14 rfl ?_
        refine SF_lconst (1 : Int64) 97 dX9_drawRings_96 rfl rfl ?_
        refine SF_iload_n 3 98 dX9_drawRings_97 rfl rfl rfl ?_
        refine SF_lshl 99 dX9_drawRings_98 rfl ?_
        refine SF_lor 100 dX9_drawRings_99 rfl ?_
        refine SF_last 101 dX9_drawRings_100 k13.1 i14 rfl ?_
        obtain ⟨g15, e16, h⟩ := lg_some h
        rw [← e16]
        have k_l0 := KD.eq e16 k_l0
        have k3 := KD.eq e16 k3
        have k13 := KD.eq e16 k13
        have r12 := gR_eq e16 r12
        have i14 := vp_eq e16 i14
        refine SF_sub [1, 2, 3] rfl ?_
        exact w_X9_drawRings_101 hd k32 hk32 (f_X9_drawRings_51 k32 n) ih l0 l1 l2 g15 k_l0 h

set_option maxRecDepth 20000 in
set_option maxHeartbeats 2000000 in
theorem w_X9_drawRings_32 {X : CX} {d : Nat} (hd : 2 ≤ d) {g' : G} {rx : Unit} : ∀ (n : Nat) (l0 : Nat) (l1 : Int32) (g : G), KD g l0 9 → f_X9_drawRings_32 n l0 l1 g = some (rx, g') → SemF X m_X9_drawRings d 32 [(0, .ref (ad X l0)), (1, .int l1)] [] g none g' := by
  intro n
  induction n with
  | zero =>
    intro l0 l1 g k_l0 h
    rw [f_X9_drawRings_32] at h
    cases h
  | succ n ih =>
  intro l0 l1 g k_l0 h
  rw [f_X9_drawRings_32] at h
  refine SF_iload_n 1 33 dX9_drawRings_32 rfl rfl rfl ?_
  refine SF_aload_n 0 34 dX9_drawRings_33 rfl rfl rfl ?_
  obtain ⟨b1, r2, h⟩ := dr_some h
  refine SF_getR 37 fl_X9_34 dX9_drawRings_34 k_l0.1 r2 rfl ?_
  obtain ⟨k3, h⟩ := gdK_some h
  refine SF_getI 40 fl_X9_93 dX9_drawRings_37 k3.1 rfl ?_
  refine SF_icge 113 43 dX9_drawRings_40 rfl rfl (fun c4 => ?_) (fun c4 => ?_)
  · have h := ite_t c4 h
    exact RT_v rfl dX9_drawRings_113 h
  · have h := ite_f c4 h
    refine SF_iload_n 1 44 dX9_drawRings_43 rfl rfl rfl ?_
    refine SF_bipush (36 : Int32) 46 dX9_drawRings_44 rfl rfl ?_
    refine SF_icge 113 49 dX9_drawRings_46 rfl rfl (fun c5 => ?_) (fun c5 => ?_)
    · have h := ite_t c5 h
      exact RT_v rfl dX9_drawRings_113 h
    · have h := ite_f c5 h
      refine SF_iconst (0 : Int32) 50 dX9_drawRings_49 rfl rfl ?_
      refine SF_istore_n [(2, .int (0 : Int32)), (0, .ref (ad X l0)), (1, .int l1)] 51 dX9_drawRings_50 rfl (by decide) rfl rfl ?_
      refine SF_sub [1, 2, 0] rfl ?_
      exact w_X9_drawRings_51 hd (f_X9_drawRings_32 n) ih FU l0 l1 (0 : Int32) g k_l0 h

set_option maxRecDepth 20000 in
set_option maxHeartbeats 2000000 in
theorem w_X9_drawRings {X : CX} {d : Nat} (hd : 2 ≤ d) (l0 : Nat) (g g' : G) (rx : Unit) (k_l0 : KD g l0 9) (h : f_X9_drawRings l0 g = some (rx, g')) : Sem X m_X9_drawRings d [.ref (ad X l0)] g none g' := by
  refine Sem_of (lo := [(0, .ref (ad X l0))]) (by decide +kernel) rfl (Nat.le_of_ble_eq_true rfl) ?_
  rw [f_X9_drawRings] at h
  refine SF_aload_n 0 1 dX9_drawRings_0 rfl rfl rfl ?_
  obtain ⟨b1, r2, h⟩ := dr_some h
  refine SF_getR 4 fl_X9_15 dX9_drawRings_1 k_l0.1 r2 rfl ?_
  refine SF_lconst (0 : Int64) 5 dX9_drawRings_4 rfl rfl ?_
  obtain ⟨k3, h⟩ := gdK_some h
  obtain ⟨v4, g5, q6, h⟩ := bd_some h
  have s7 := w_J7_fill_d0a16 (X := X) (Nat.le_refl 0) b1 (0 : Int64) g g5 v4 k3 q6
  refine SF_callSv 8 mi_J7_fill_d0a16 ml_X9_87 dX9_drawRings_5 (Nat.le_trans (by decide) hd) s7 rfl rfl (Nat.le_of_ble_eq_true rfl) rfl ?_
  have k_l0 := k_l0.ext s7.1
  have k3 := k3.ext s7.1
  refine SF_aload_n 0 9 dX9_drawRings_8 rfl rfl rfl ?_
  refine SF_aload_n 0 10 dX9_drawRings_9 rfl rfl rfl ?_
  obtain ⟨b8, r9, h⟩ := dr_some h
  refine SF_getR 13 fl_X9_34 dX9_drawRings_10 k_l0.1 r9 rfl ?_
  obtain ⟨k10, h⟩ := gdK_some h
  refine SF_getI 16 fl_X9_70 dX9_drawRings_13 k10.1 rfl ?_
  refine SF_putI 19 fl_X9_67 dX9_drawRings_16 k_l0.1 (fn_int _) (Or.inl rfl) rfl ?_
  obtain ⟨g11, e12, h⟩ := lg_some h
  rw [← e12]
  have k_l0 := KD.eq e12 k_l0
  have k3 := KD.eq e12 k3
  have k10 := KD.eq e12 k10
  have r9 := gR_eq e12 r9
  refine SF_aload_n 0 20 dX9_drawRings_19 rfl rfl rfl ?_
  refine SF_aload_n 0 21 dX9_drawRings_20 rfl rfl rfl ?_
  refine SF_getR 24 fl_X9_34 dX9_drawRings_21 k_l0.1 r9 rfl ?_
  refine SF_getI 27 fl_X9_78 dX9_drawRings_24 k10.1 rfl ?_
  refine SF_putI 30 fl_X9_75 dX9_drawRings_27 k_l0.1 (fn_int _) (Or.inl rfl) rfl ?_
  obtain ⟨g13, e14, h⟩ := lg_some h
  rw [← e14]
  have k_l0 := KD.eq e14 k_l0
  have k3 := KD.eq e14 k3
  have k10 := KD.eq e14 k10
  have r9 := gR_eq e14 r9
  refine SF_iconst (0 : Int32) 31 dX9_drawRings_30 rfl rfl ?_
  refine SF_istore_n [(1, .int (0 : Int32)), (0, .ref (ad X l0))] 32 dX9_drawRings_31 rfl (by decide) rfl rfl ?_
  refine SF_sub [1, 0] rfl ?_
  exact w_X9_drawRings_32 hd FU l0 (0 : Int32) g13 k_l0 h

