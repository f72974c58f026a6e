theorem dX2_length_0 : decode cX2_length 0 = .ok (.aload_n 0, 1) := by decide +kernel
theorem dX2_length_1 : decode cX2_length 1 = .ok (.getfield 30, 3) := by decide +kernel
theorem dX2_length_4 : decode cX2_length 4 = .ok (.ifCond .ge 7, 3) := by decide +kernel
theorem dX2_length_7 : decode cX2_length 7 = .ok (.iconst (-1), 1) := by decide +kernel
theorem dX2_length_8 : decode cX2_length 8 = .ok (.goto 12, 3) := by decide +kernel
theorem dX2_length_11 : decode cX2_length 11 = .ok (.aload_n 0, 1) := by decide +kernel
theorem dX2_length_12 : decode cX2_length 12 = .ok (.getfield 21, 3) := by decide +kernel
theorem dX2_length_15 : decode cX2_length 15 = .ok (.aload_n 0, 1) := by decide +kernel
theorem dX2_length_16 : decode cX2_length 16 = .ok (.getfield 30, 3) := by decide +kernel
theorem dX2_length_19 : decode cX2_length 19 = .ok (.iaload, 1) := by decide +kernel
theorem dX2_length_20 : decode cX2_length 20 = .ok (.ireturn, 1) := by decide +kernel
set_option maxRecDepth 20000 in
set_option maxHeartbeats 2000000 in
theorem w_X2_length {X : CX} {d : Nat} (hd : 0 ≤ d) (l0 : Nat) (g g' : G) (rx : Int32) (k_l0 : KD g l0 2) (h : f_X2_length l0 g = some (rx, g')) : Sem X m_X2_length d [.ref (ad X l0)] g (some (.int rx)) g' := by
  refine Sem_of (lo := [(0, .ref (ad X l0))]) (by decide +kernel) rfl (Nat.le_of_ble_eq_true rfl) ?_
  rw [f_X2_length] at h
  refine SF_aload_n 0 1 dX2_length_0 rfl rfl rfl ?_
  refine SF_getI 4 fl_X2_30 dX2_length_1 k_l0.1 rfl ?_
  refine SF_ifge 11 7 dX2_length_4 rfl rfl (fun c1 => ?_) (fun c1 => ?_)
  · have h := ite_t c1 h
    refine SF_aload_n 0 12 dX2_length_11 rfl rfl rfl ?_
    obtain ⟨b2, r3, h⟩ := dr_some h
    refine SF_getR 15 fl_X2_21 dX2_length_12 k_l0.1 r3 rfl ?_
    refine SF_aload_n 0 16 dX2_length_15 rfl rfl rfl ?_
    refine SF_getI 19 fl_X2_30 dX2_length_16 k_l0.1 rfl ?_
    obtain ⟨k4, h⟩ := gdK_some h
    obtain ⟨i5, h⟩ := gdI_some h
    refine SF_iald 20 dX2_length_19 k4.1 i5 rfl ?_
    exact RT_i rfl dX2_length_20 h
  · have h := ite_f c1 h
    refine SF_iconst (-1 : Int32) 8 dX2_length_7 rfl rfl ?_
    refine SF_goto 20 dX2_length_8 rfl ?_
    exact RT_i rfl dX2_length_20 h

theorem dX11_errands_0 : decode cX11_errands 0 = .ok (.aload_n 0, 1) := by decide +kernel
theorem dX11_errands_1 : decode cX11_errands 1 = .ok (.getfield 78, 3) := by decide +kernel
theorem dX11_errands_4 : decode cX11_errands 4 = .ok (.iload_n 1, 1) := by decide +kernel
theorem dX11_errands_5 : decode cX11_errands 5 = .ok (.invokevirtual 161, 3) := by decide +kernel
theorem dX11_errands_8 : decode cX11_errands 8 = .ok (.ifCond .ne 6, 3) := by decide +kernel
theorem dX11_errands_11 : decode cX11_errands 11 = .ok (.bipush (-2), 2) := by decide +kernel
theorem dX11_errands_13 : decode cX11_errands 13 = .ok (.ireturn, 1) := by decide +kernel
theorem dX11_errands_14 : decode cX11_errands 14 = .ok (.aload_n 0, 1) := by decide +kernel
theorem dX11_errands_15 : decode cX11_errands 15 = .ok (.getfield 40, 3) := by decide +kernel
theorem dX11_errands_18 : decode cX11_errands 18 = .ok (.aload_n 0, 1) := by decide +kernel
theorem dX11_errands_19 : decode cX11_errands 19 = .ok (.iload_n 1, 1) := by decide +kernel
theorem dX11_errands_20 : decode cX11_errands 20 = .ok (.invokevirtual 259, 3) := by decide +kernel
theorem dX11_errands_23 : decode cX11_errands 23 = .ok (.aload_n 0, 1) := by decide +kernel
theorem dX11_errands_24 : decode cX11_errands 24 = .ok (.getfield 78, 3) := by decide +kernel
theorem dX11_errands_27 : decode cX11_errands 27 = .ok (.iload_n 1, 1) := by decide +kernel
theorem dX11_errands_28 : decode cX11_errands 28 = .ok (.invokevirtual 318, 3) := by decide +kernel
theorem dX11_errands_31 : decode cX11_errands 31 = .ok (.aload_n 0, 1) := by decide +kernel
theorem dX11_errands_32 : decode cX11_errands 32 = .ok (.getfield 40, 3) := by decide +kernel
theorem dX11_errands_35 : decode cX11_errands 35 = .ok (.invokevirtual 322, 3) := by decide +kernel
theorem dX11_errands_38 : decode cX11_errands 38 = .ok (.ireturn, 1) := by decide +kernel
set_option maxRecDepth 20000 in
set_option maxHeartbeats 2000000 in
theorem w_X11_errands {X : CX} {d : Nat} (hd : 7 ≤ d) (l0 : Nat) (l1 : Int32) (g g' : G) (rx : Int32) (k_l0 : KD g l0 11) (h : f_X11_errands l0 l1 g = some (rx, g')) : Sem X m_X11_errands d [.ref (ad X l0), .int l1] g (some (.int rx)) g' := by
  refine Sem_of (lo := [(0, .ref (ad X l0)), (1, .int l1)]) (by decide +kernel) rfl (Nat.le_of_ble_eq_true rfl) ?_
  rw [f_X11_errands] at h
  refine SF_aload_n 0 1 dX11_errands_0 rfl rfl rfl ?_
  obtain ⟨b1, r2, h⟩ := dr_some h
  refine SF_getR 4 fl_X11_78 dX11_errands_1 k_l0.1 r2 rfl ?_
  refine SF_iload_n 1 5 dX11_errands_4 rfl rfl rfl ?_
  obtain ⟨k3, h⟩ := gdK_some h
  obtain ⟨v4, g5, q6, h⟩ := bd_some h
  have s7 := w_X0_isPair (X := X) (Nat.le_refl 0) b1 l1 g g5 v4 k3 q6
  refine SF_callVb 8 mi_X0_isPair ml_X11_161 dX11_errands_5 (Nat.le_trans (by decide) hd) s7 k3.1 rfl rfl (Nat.le_of_ble_eq_true rfl) rfl ?_
  have k_l0 := k_l0.ext s7.1
  have k3 := k3.ext s7.1
  refine SF_ifne 14 11 dX11_errands_8 rfl rfl (fun c8 => ?_) (fun c8 => ?_)
  · have h := ite_f c8 h
    refine SF_aload_n 0 15 dX11_errands_14 rfl rfl rfl ?_
    obtain ⟨b9, r10, h⟩ := dr_some h
    refine SF_getR 18 fl_X11_40 dX11_errands_15 k_l0.1 r10 rfl ?_
    refine SF_aload_n 0 19 dX11_errands_18 rfl rfl rfl ?_
    refine SF_iload_n 1 20 dX11_errands_19 rfl rfl rfl ?_
    obtain ⟨v11, g12, q13, h⟩ := bd_some h
    have s14 := w_X11_graphOf (X := X) (Nat.le_refl 6) l0 l1 g5 g12 v11 k_l0 q13
    refine SF_callVr 23 mi_X11_graphOf ml_X11_259 dX11_errands_20 (Nat.le_trans (by decide) hd) s14 k_l0.1 rfl rfl (Nat.le_of_ble_eq_true rfl) rfl ?_
    have k_l0 := k_l0.ext s14.1
    have k3 := k3.ext s14.1
    refine SF_aload_n 0 24 dX11_errands_23 rfl rfl rfl ?_
    obtain ⟨b15, r16, h⟩ := dr_some h
    refine SF_getR 27 fl_X11_78 dX11_errands_24 k_l0.1 r16 rfl ?_
    refine SF_iload_n 1 28 dX11_errands_27 rfl rfl rfl ?_
    obtain ⟨k17, h⟩ := gdK_some h
    obtain ⟨k18, h⟩ := gdK_some h
    obtain ⟨k19, h⟩ := gdK_some h
    obtain ⟨v20, g21, q22, h⟩ := bd_some h
    have s23 := w_X2_explore (X := X) (Nat.le_refl 2) b9 v11 b15 l1 g12 g21 v20 k17 k18 k19 q22
    refine SF_callVv 31 mi_X2_explore ml_X11_318 dX11_errands_28 (Nat.le_trans (by decide) hd) s23 k17.1 rfl rfl (Nat.le_of_ble_eq_true rfl) rfl ?_
    have k_l0 := k_l0.ext s23.1
    have k3 := k3.ext s23.1
    have k17 := k17.ext s23.1
    have k18 := k18.ext s23.1
    have k19 := k19.ext s23.1
    refine SF_aload_n 0 32 dX11_errands_31 rfl rfl rfl ?_
    obtain ⟨b24, r25, h⟩ := dr_some h
    refine SF_getR 35 fl_X11_40 dX11_errands_32 k_l0.1 r25 rfl ?_
    obtain ⟨k26, h⟩ := gdK_some h
    obtain ⟨v27, g28, q29, h⟩ := bd_some h
    have s30 := w_X2_length (X := X) (Nat.le_refl 0) b24 g21 g28 v27 k26 q29
    refine SF_callVi 38 mi_X2_length ml_X11_322 dX11_errands_35 (Nat.le_trans (by decide) hd) s30 k26.1 rfl rfl (Nat.le_of_ble_eq_true rfl) rfl ?_
    have k_l0 := k_l0.ext s30.1
    have k3 := k3.ext s30.1
    have k17 := k17.ext s30.1
    have k18 := k18.ext s30.1
    have k19 := k19.ext s30.1
    have k26 := k26.ext s30.1
    exact RT_i rfl dX11_errands_38 h
  · have h := ite_t c8 h
    refine SF_bipush (-2 : Int32) 13 dX11_errands_11 rfl rfl ?_
    exact RT_i rfl dX11_errands_13 h

theorem dX12_doneIn_0 : decode cX12_doneIn 0 = .ok (.iload_n 3, 1) := by decide +kernel
theorem dX12_doneIn_1 : decode cX12_doneIn 1 = .ok (.istore 4, 2) := by decide +kernel
theorem dX12_doneIn_3 : decode cX12_doneIn 3 = .ok (.iconst 0, 1) := by decide +kernel
theorem dX12_doneIn_4 : decode cX12_doneIn 4 = .ok (.istore 5, 2) := by decide +kernel
theorem dX12_doneIn_6 : decode cX12_doneIn 6 = .ok (.iload 5, 2) := by decide +kernel
theorem dX12_doneIn_8 : decode cX12_doneIn 8 = .ok (.iconst 2, 1) := by decide +kernel
theorem dX12_doneIn_9 : decode cX12_doneIn 9 = .ok (.if_icmp .ge 63, 3) := by decide +kernel
theorem dX12_doneIn_12 : decode cX12_doneIn 12 = .ok (.iload 4, 2) := by decide +kernel
theorem dX12_doneIn_14 : decode cX12_doneIn 14 = .ok (.aload_n 0, 1) := by decide +kernel
theorem dX12_doneIn_15 : decode cX12_doneIn 15 = .ok (.getfield 13, 3) := by decide +kernel
theorem dX12_doneIn_18 : decode cX12_doneIn 18 = .ok (.bipush 46, 2) := by decide +kernel
theorem dX12_doneIn_20 : decode cX12_doneIn 20 = .ok (.iconst 2, 1) := by decide +kernel
theorem dX12_doneIn_21 : decode cX12_doneIn 21 = .ok (.iload_n 1, 1) := by decide +kernel
theorem dX12_doneIn_22 : decode cX12_doneIn 22 = .ok (.imul, 1) := by decide +kernel
theorem dX12_doneIn_23 : decode cX12_doneIn 23 = .ok (.iadd, 1) := by decide +kernel
theorem dX12_doneIn_24 : decode cX12_doneIn 24 = .ok (.iload 5, 2) := by decide +kernel
theorem dX12_doneIn_26 : decode cX12_doneIn 26 = .ok (.iadd, 1) := by decide +kernel
theorem dX12_doneIn_27 : decode cX12_doneIn 27 = .ok (.iaload, 1) := by decide +kernel
theorem dX12_doneIn_28 : decode cX12_doneIn 28 = .ok (.iconst (-1), 1) := by decide +kernel
theorem dX12_doneIn_29 : decode cX12_doneIn 29 = .ok (.if_icmp .eq 26, 3) := by decide +kernel
theorem dX12_doneIn_32 : decode cX12_doneIn 32 = .ok (.iload_n 2, 1) := by decide +kernel
theorem dX12_doneIn_33 : decode cX12_doneIn 33 = .ok (.iload 5, 2) := by decide +kernel
theorem dX12_doneIn_35 : decode cX12_doneIn 35 = .ok (.invokestatic 347, 3) := by decide +kernel
theorem dX12_doneIn_38 : decode cX12_doneIn 38 = .ok (.aload_n 0, 1) := by decide +kernel
theorem dX12_doneIn_39 : decode cX12_doneIn 39 = .ok (.getfield 13, 3) := by decide +kernel
theorem dX12_doneIn_42 : decode cX12_doneIn 42 = .ok (.bipush 46, 2) := by decide +kernel
theorem dX12_doneIn_44 : decode cX12_doneIn 44 = .ok (.iconst 2, 1) := by decide +kernel
theorem dX12_doneIn_45 : decode cX12_doneIn 45 = .ok (.iload_n 1, 1) := by decide +kernel
theorem dX12_doneIn_46 : decode cX12_doneIn 46 = .ok (.imul, 1) := by decide +kernel
theorem dX12_doneIn_47 : decode cX12_doneIn 47 = .ok (.iadd, 1) := by decide +kernel
theorem dX12_doneIn_48 : decode cX12_doneIn 48 = .ok (.iload 5, 2) := by decide +kernel
theorem dX12_doneIn_50 : decode cX12_doneIn 50 = .ok (.iadd, 1) := by decide +kernel
theorem dX12_doneIn_51 : decode cX12_doneIn 51 = .ok (.iaload, 1) := by decide +kernel
theorem dX12_doneIn_52 : decode cX12_doneIn 52 = .ok (.if_icmp .ne 10, 3) := by decide +kernel
theorem dX12_doneIn_55 : decode cX12_doneIn 55 = .ok (.iconst 1, 1) := by decide +kernel
theorem dX12_doneIn_56 : decode cX12_doneIn 56 = .ok (.iload 5, 2) := by decide +kernel
theorem dX12_doneIn_58 : decode cX12_doneIn 58 = .ok (.ishl, 1) := by decide +kernel
theorem dX12_doneIn_59 : decode cX12_doneIn 59 = .ok (.goto 4, 3) := by decide +kernel
theorem dX12_doneIn_62 : decode cX12_doneIn 62 = .ok (.iconst 0, 1) := by decide +kernel
theorem dX12_doneIn_63 : decode cX12_doneIn 63 = .ok (.ior, 1) := by decide +kernel
theorem dX12_doneIn_64 : decode cX12_doneIn 64 = .ok (.istore 4, 2) := by decide +kernel
theorem dX12_doneIn_66 : decode cX12_doneIn 66 = .ok (.iinc 5 1, 3) := by decide +kernel
theorem dX12_doneIn_69 : decode cX12_doneIn 69 = .ok (.goto (-63), 3) := by decide +kernel
theorem dX12_doneIn_72 : decode cX12_doneIn 72 = .ok (.iload 4, 2) := by decide +kernel
theorem dX12_doneIn_74 : decode cX12_doneIn 74 = .ok (.ireturn, 1) := by decide +kernel
set_option maxRecDepth 20000 in
set_option maxHeartbeats 2000000 in
theorem w_X12_doneIn_63 {X : CX} {d : Nat} (hd : 1 ≤ d) {g' : G} {rx : Int32} (k6 : Nat → Int32 → Int32 → Int32 → Int32 → G → Option (Int32 × G)) (hk6 : ∀ (l0 : Nat) (l1 : Int32) (l2 : Int32) (l4 : Int32) (l5 : Int32) (g : G), KD g l0 12 → k6 l0 l1 l2 l4 l5 g = some (rx, g') → SemF X m_X12_doneIn d 6 [(0, .ref (ad X l0)), (1, .int l1), (2, .int l2), (4, .int l4), (5, .int l5)] [] g (some (.int rx)) g') (l0 : Nat) (l1 : Int32) (l2 : Int32) (l5 : Int32) (s0 : Int32) (s1 : Int32) (g : G) (k_l0 : KD g l0 12) (h : f_X12_doneIn_63 k6 l0 l1 l2 l5 s0 s1 g = some (rx, g')) : SemF X m_X12_doneIn d 63 [(0, .ref (ad X l0)), (1, .int l1), (2, .int l2), (5, .int l5)] [.int s0, .int s1] g (some (.int rx)) g' := by
  rw [f_X12_doneIn_63] at h
  refine SF_ior 64 dX12_doneIn_63 rfl ?_
  obtain ⟨y1, e2, h⟩ := li_some h
  refine SF_eqI e2 ?_
  refine SF_istore [(4, .int y1), (0, .ref (ad X l0)), (1, .int l1), (2, .int l2), (5, .int l5)] 66 dX12_doneIn_64 (by decide) rfl rfl ?_
  refine SF_iinc 4 (l5 + (1 : Int32)) [(5, .int (l5 + (1 : Int32))), (4, .int y1), (0, .ref (ad X l0)), (1, .int l1), (2, .int l2)] 69 dX12_doneIn_66 rfl rfl (by decide) rfl rfl ?_
  refine SF_goto 6 dX12_doneIn_69 rfl ?_
  refine SF_sub [2, 3, 4, 1, 0] rfl ?_
  exact hk6 l0 l1 l2 y1 (l5 + (1 : Int32)) g k_l0 h

set_option maxRecDepth 20000 in
set_option maxHeartbeats 2000000 in
theorem w_X12_doneIn_55 {X : CX} {d : Nat} (hd : 1 ≤ d) {g' : G} {rx : Int32} (k6 : Nat → Int32 → Int32 → Int32 → Int32 → G → Option (Int32 × G)) (hk6 : ∀ (l0 : Nat) (l1 : Int32) (l2 : Int32) (l4 : Int32) (l5 : Int32) (g : G), KD g l0 12 → k6 l0 l1 l2 l4 l5 g = some (rx, g') → SemF X m_X12_doneIn d 6 [(0, .ref (ad X l0)), (1, .int l1), (2, .int l2), (4, .int l4), (5, .int l5)] [] g (some (.int rx)) g') (l0 : Nat) (l1 : Int32) (l2 : Int32) (l5 : Int32) (s0 : Int32) (g : G) (k_l0 : KD g l0 12) (h : f_X12_doneIn_55 k6 l0 l1 l2 l5 s0 g = some (rx, g')) : SemF X m_X12_doneIn d 55 [(0, .ref (ad X l0)), (1, .int l1), (2, .int l2), (5, .int l5)] [.int s0] g (some (.int rx)) g' := by
  rw [f_X12_doneIn_55] at h
  refine SF_iconst (1 : Int32) 56 dX12_doneIn_55 rfl rfl ?_
  refine SF_iload 3 58 dX12_doneIn_56 rfl rfl ?_
  refine SF_ishl 59 dX12_doneIn_58 rfl ?_
  refine SF_goto 63 dX12_doneIn_59 rfl ?_
  exact w_X12_doneIn_63 hd k6 hk6 l0 l1 l2 l5 ((1 : Int32) <<< (l5 &&& 31)) s0 g k_l0 h

set_option maxRecDepth 20000 in
set_option maxHeartbeats 2000000 in
theorem w_X12_doneIn_6 {X : CX} {d : Nat} (hd : 1 ≤ d) {g' : G} {rx : Int32} : ∀ (n : Nat) (l0 : Nat) (l1 : Int32) (l2 : Int32) (l4 : Int32) (l5 : Int32) (g : G), KD g l0 12 → f_X12_doneIn_6 n l0 l1 l2 l4 l5 g = some (rx, g') → SemF X m_X12_doneIn d 6 [(0, .ref (ad X l0)), (1, .int l1), (2, .int l2), (4, .int l4), (5, .int l5)] [] g (some (.int rx)) g' := by
  intro n
  induction n with
  | zero =>
    intro l0 l1 l2 l4 l5 g k_l0 h
    rw [f_X12_doneIn_6] at h
    cases h
  | succ n ih =>
  intro l0 l1 l2 l4 l5 g k_l0 h
  rw [f_X12_doneIn_6] at h
  refine SF_iload 4 8 dX12_doneIn_6 rfl rfl ?_
  refine SF_iconst (2 : Int32) 9 dX12_doneIn_8 rfl rfl ?_
  refine SF_icge 72 12 dX12_doneIn_9 rfl rfl (fun c1 => ?_) (fun c1 => ?_)
  · have h := ite_t c1 h
    refine SF_iload 3 74 dX12_doneIn_72 rfl rfl ?_
    exact RT_i rfl dX12_doneIn_74 h
  · have h := ite_f c1 h
    refine SF_iload 3 14 dX12_doneIn_12 rfl rfl ?_
    refine SF_aload_n 0 15 dX12_doneIn_14 rfl rfl rfl ?_
    obtain ⟨b2, r3, h⟩ := dr_some h
    refine SF_getR 18 fl_X12_13 dX12_doneIn_15 k_l0.1 r3 rfl ?_
    refine SF_bipush (46 : Int32) 20 dX12_doneIn_18 rfl rfl ?_
    refine SF_iconst (2 : Int32) 21 dX12_doneIn_20 rfl rfl ?_
    refine SF_iload_n 1 22 dX12_doneIn_21 rfl rfl rfl ?_
    refine SF_imul 23 dX12_doneIn_22 rfl ?_
    refine SF_iadd 24 dX12_doneIn_23 rfl ?_
    refine SF_iload 4 26 dX12_doneIn_24 rfl rfl ?_
    refine SF_iadd 27 dX12_doneIn_26 rfl ?_
    obtain ⟨k4, h⟩ := gdK_some h
    obtain ⟨i5, h⟩ := gdI_some h
    refine SF_iald 28 dX12_doneIn_27 k4.1 i5 rfl ?_
    refine SF_iconst (-1 : Int32) 29 dX12_doneIn_28 rfl rfl ?_
    refine SF_iceq 55 32 dX12_doneIn_29 rfl rfl (fun c6 => ?_) (fun c6 => ?_)
    · have h := ite_t c6 h
      refine SF_sub [0, 1, 2, 4] rfl ?_
      exact w_X12_doneIn_55 hd (f_X12_doneIn_6 n) ih l0 l1 l2 l5 l4 g k_l0 h
    · have h := ite_f c6 h
      refine SF_iload_n 2 33 dX12_doneIn_32 rfl rfl rfl ?_
      refine SF_iload 4 35 dX12_doneIn_33 rfl rfl ?_
      obtain ⟨v7, g8, q9, h⟩ := bd_some h
      have s10 := w_X12_inStand (X := X) (Nat.le_refl 0) l2 l5 g g8 v7 q9
      refine SF_callSi 38 mi_X12_inStand ml_X12_347 dX12_doneIn_35 (Nat.le_trans (by decide) hd) s10 rfl rfl (Nat.le_of_ble_eq_true rfl) rfl ?_
      have k_l0 := k_l0.ext s10.1
      have k4 := k4.ext s10.1
      refine SF_aload_n 0 39 dX12_doneIn_38 rfl rfl rfl ?_
      obtain ⟨b11, r12, h⟩ := dr_some h
      refine SF_getR 42 fl_X12_13 dX12_doneIn_39 k_l0.1 r12 rfl ?_
      refine SF_bipush (46 : Int32) 44 dX12_doneIn_42 rfl rfl ?_
      refine SF_iconst (2 : Int32) 45 dX12_doneIn_44 rfl rfl ?_
      refine SF_iload_n 1 46 dX12_doneIn_45 rfl rfl rfl ?_
      refine SF_imul 47 dX12_doneIn_46 rfl ?_
      refine SF_iadd 48 dX12_doneIn_47 rfl ?_
      refine SF_iload 4 50 dX12_doneIn_48 rfl rfl ?_
      refine SF_iadd 51 dX12_doneIn_50 rfl ?_
      obtain ⟨k13, h⟩ := gdK_some h
      obtain ⟨i14, h⟩ := gdI_some h
      refine SF_iald 52 dX12_doneIn_51 k13.1 i14 rfl ?_
      refine SF_icne 62 55 dX12_doneIn_52 rfl rfl (fun c15 => ?_) (fun c15 => ?_)
      · have h := ite_f c15 h
        refine SF_iconst (0 : Int32) 63 dX12_doneIn_62 rfl rfl ?_
        refine SF_sub [0, 1, 2, 4] rfl ?_
        exact w_X12_doneIn_63 hd (f_X12_doneIn_6 n) ih l0 l1 l2 l5 (0 : Int32) l4 g8 k_l0 h
      · have h := ite_t c15 h
        refine SF_sub [0, 1, 2, 4] rfl ?_
        exact w_X12_doneIn_55 hd (f_X12_doneIn_6 n) ih l0 l1 l2 l5 l4 g8 k_l0 h

set_option maxRecDepth 20000 in
set_option maxHeartbeats 2000000 in
theorem w_X12_doneIn {X : CX} {d : Nat} (hd : 1 ≤ d) (l0 : Nat) (l1 : Int32) (l2 : Int32) (l3 : Int32) (g g' : G) (rx : Int32) (k_l0 : KD g l0 12) (h : f_X12_doneIn l0 l1 l2 l3 g = some (rx, g')) : Sem X m_X12_doneIn d [.ref (ad X l0), .int l1, .int l2, .int l3] g (some (.int rx)) g' := by
  refine Sem_of (lo := [(0, .ref (ad X l0)), (1, .int l1), (2, .int l2), (3, .int l3)]) (by decide +kernel) rfl (Nat.le_of_ble_eq_true rfl) ?_
  rw [f_X12_doneIn] at h
  refine SF_iload_n 3 1 dX12_doneIn_0 rfl rfl rfl ?_
  refine SF_istore [(4, .int l3), (0, .ref (ad X l0)), (1, .int l1), (2, .int l2), (3, .int l3)] 3 dX12_doneIn_1 (by decide) rfl rfl ?_
  refine SF_iconst (0 : Int32) 4 dX12_doneIn_3 rfl rfl ?_
  refine SF_istore [(5, .int (0 : Int32)), (4, .int l3), (0, .ref (ad X l0)), (1, .int l1), (2, .int l2), (3, .int l3)] 6 dX12_doneIn_4 (by decide) rfl rfl ?_
  refine SF_sub [2, 3, 4, 1, 0] rfl ?_
  exact w_X12_doneIn_6 hd FU l0 l1 l2 l3 (0 : Int32) g k_l0 h

theorem dX12_errandBy_0 : decode cX12_errandBy 0 = .ok (.aload_n 0, 1) := by decide +kernel
theorem dX12_errandBy_1 : decode cX12_errandBy 1 = .ok (.getfield 42, 3) := by decide +kernel
theorem dX12_errandBy_4 : decode cX12_errandBy 4 = .ok (.bipush 8, 2) := by decide +kernel
theorem dX12_errandBy_6 : decode cX12_errandBy 6 = .ok (.iload_n 2, 1) := by decide +kernel
theorem dX12_errandBy_7 : decode cX12_errandBy 7 = .ok (.imul, 1) := by decide +kernel
theorem dX12_errandBy_8 : decode cX12_errandBy 8 = .ok (.iload 4, 2) := by decide +kernel
theorem dX12_errandBy_10 : decode cX12_errandBy 10 = .ok (.iadd, 1) := by decide +kernel
theorem dX12_errandBy_11 : decode cX12_errandBy 11 = .ok (.iaload, 1) := by decide +kernel
theorem dX12_errandBy_12 : decode cX12_errandBy 12 = .ok (.istore 5, 2) := by decide +kernel
theorem dX12_errandBy_14 : decode cX12_errandBy 14 = .ok (.iload 5, 2) := by decide +kernel
theorem dX12_errandBy_16 : decode cX12_errandBy 16 = .ok (.iconst (-1), 1) := by decide +kernel
theorem dX12_errandBy_17 : decode cX12_errandBy 17 = .ok (.if_icmp .ne 7, 3) := by decide +kernel
theorem dX12_errandBy_20 : decode cX12_errandBy 20 = .ok (.ldc_w 354, 3) := by decide +kernel
theorem dX12_errandBy_23 : decode cX12_errandBy 23 = .ok (.ireturn, 1) := by decide +kernel
theorem dX12_errandBy_24 : decode cX12_errandBy 24 = .ok (.aload_n 0, 1) := by decide +kernel
theorem dX12_errandBy_25 : decode cX12_errandBy 25 = .ok (.getfield 48, 3) := by decide +kernel
theorem dX12_errandBy_28 : decode cX12_errandBy 28 = .ok (.iconst 4, 1) := by decide +kernel
theorem dX12_errandBy_29 : decode cX12_errandBy 29 = .ok (.iload 5, 2) := by decide +kernel
theorem dX12_errandBy_31 : decode cX12_errandBy 31 = .ok (.imul, 1) := by decide +kernel
theorem dX12_errandBy_32 : decode cX12_errandBy 32 = .ok (.aload_n 0, 1) := by decide +kernel
theorem dX12_errandBy_33 : decode cX12_errandBy 33 = .ok (.iload_n 1, 1) := by decide +kernel
theorem dX12_errandBy_34 : decode cX12_errandBy 34 = .ok (.iload 5, 2) := by decide +kernel
theorem dX12_errandBy_36 : decode cX12_errandBy 36 = .ok (.iload_n 3, 1) := by decide +kernel
theorem dX12_errandBy_37 : decode cX12_errandBy 37 = .ok (.invokevirtual 408, 3) := by decide +kernel
theorem dX12_errandBy_40 : decode cX12_errandBy 40 = .ok (.iadd, 1) := by decide +kernel
theorem dX12_errandBy_41 : decode cX12_errandBy 41 = .ok (.iaload, 1) := by decide +kernel
theorem dX12_errandBy_42 : decode cX12_errandBy 42 = .ok (.istore 6, 2) := by decide +kernel
theorem dX12_errandBy_44 : decode cX12_errandBy 44 = .ok (.iload 6, 2) := by decide +kernel
theorem dX12_errandBy_46 : decode cX12_errandBy 46 = .ok (.ldc_w 354, 3) := by decide +kernel
theorem dX12_errandBy_49 : decode cX12_errandBy 49 = .ok (.if_icmp .ne 9, 3) := by decide +kernel
theorem dX12_errandBy_52 : decode cX12_errandBy 52 = .ok (.ldc_w 354, 3) := by decide +kernel
theorem dX12_errandBy_55 : decode cX12_errandBy 55 = .ok (.goto 7, 3) := by decide +kernel
theorem dX12_errandBy_58 : decode cX12_errandBy 58 = .ok (.iload 6, 2) := by decide +kernel
theorem dX12_errandBy_60 : decode cX12_errandBy 60 = .ok (.iconst 1, 1) := by decide +kernel
theorem dX12_errandBy_61 : decode cX12_errandBy 61 = .ok (.iadd, 1) := by decide +kernel
theorem dX12_errandBy_62 : decode cX12_errandBy 62 = .ok (.ireturn, 1) := by decide +kernel
set_option maxRecDepth 20000 in
set_option maxHeartbeats 2000000 in
theorem w_X12_errandBy {X : CX} {d : Nat} (hd : 2 ≤ d) (l0 : Nat) (l1 : Int32) (l2 : Int32) (l3 : Int32) (l4 : Int32) (g g' : G) (rx : Int32) (k_l0 : KD g l0 12) (h : f_X12_errandBy l0 l1 l2 l3 l4 g = some (rx, g')) : Sem X m_X12_errandBy d [.ref (ad X l0), .int l1, .int l2, .int l3, .int l4] g (some (.int rx)) g' := by
  refine Sem_of (lo := [(0, .ref (ad X l0)), (1, .int l1), (2, .int l2), (3, .int l3), (4, .int l4)]) (by decide +kernel) rfl (Nat.le_of_ble_eq_true rfl) ?_
  rw [f_X12_errandBy] at h
  refine SF_aload_n 0 1 dX12_errandBy_0 rfl rfl rfl ?_
  obtain ⟨b1, r2, h⟩ := dr_some h
  refine SF_getR 4 fl_X12_42 dX12_errandBy_1 k_l0.1 r2 rfl ?_
  refine SF_bipush (8 : Int32) 6 dX12_errandBy_4 rfl rfl ?_
  refine SF_iload_n 2 7 dX12_errandBy_6 rfl rfl rfl ?_
  refine SF_imul 8 dX12_errandBy_7 rfl ?_
  refine SF_iload 4 10 dX12_errandBy_8 rfl rfl ?_
  refine SF_iadd 11 dX12_errandBy_10 rfl ?_
  obtain ⟨k3, h⟩ := gdK_some h
  obtain ⟨i4, h⟩ := gdI_some h
  refine SF_iald 12 dX12_errandBy_11 k3.1 i4 rfl ?_
  obtain ⟨y5, e6, h⟩ := li_some h
  refine SF_eqI e6 ?_
  refine SF_istore [(5, .int y5), (0, .ref (ad X l0)), (1, .int l1), (2, .int l2), (3, .int l3), (4, .int l4)] 14 dX12_errandBy_12 (by decide) rfl rfl ?_
  refine SF_iload 0 16 dX12_errandBy_14 rfl rfl ?_
  refine SF_iconst (-1 : Int32) 17 dX12_errandBy_16 rfl rfl ?_
  refine SF_icne 24 20 dX12_errandBy_17 rfl rfl (fun c7 => ?_) (fun c7 => ?_)
  · have h := ite_f c7 h
    refine SF_aload_n 1 25 dX12_errandBy_24 rfl rfl rfl ?_
    obtain ⟨b8, r9, h⟩ := dr_some h
    refine SF_getR 28 fl_X12_48 dX12_errandBy_25 k_l0.1 r9 rfl ?_
    refine SF_iconst (4 : Int32) 29 dX12_errandBy_28 rfl rfl ?_
    refine SF_iload 0 31 dX12_errandBy_29 rfl rfl ?_
    refine SF_imul 32 dX12_errandBy_31 rfl ?_
    refine SF_aload_n 1 33 dX12_errandBy_32 rfl rfl rfl ?_
    refine SF_iload_n 2 34 dX12_errandBy_33 rfl rfl rfl ?_
    refine SF_iload 0 36 dX12_errandBy_34 rfl rfl ?_
    refine SF_iload_n 4 37 dX12_errandBy_36 rfl rfl rfl ?_
    obtain ⟨v10, g11, q12, h⟩ := bd_some h
    have s13 := w_X12_doneIn (X := X) (Nat.le_refl 1) l0 l1 y5 l3 g g11 v10 k_l0 q12
    refine SF_callVi 40 mi_X12_doneIn ml_X12_408 dX12_errandBy_37 (Nat.le_trans (by decide) hd) s13 k_l0.1 rfl rfl (Nat.le_of_ble_eq_true rfl) rfl ?_
    have k_l0 := k_l0.ext s13.1
    have k3 := k3.ext s13.1
    refine SF_iadd 41 dX12_errandBy_40 rfl ?_
    obtain ⟨k14, h⟩ := gdK_some h
    obtain ⟨i15, h⟩ := gdI_some h
    refine SF_iald 42 dX12_errandBy_41 k14.1 i15 rfl ?_
    obtain ⟨y16, e17, h⟩ := li_some h
    refine SF_eqI e17 ?_
    refine SF_istore [(6, .int y16), (5, .int y5), (0, .ref (ad X l0)), (1, .int l1), (2, .int l2), (3, .int l3), (4, .int l4)] 44 dX12_errandBy_42 (by decide) rfl rfl ?_
    refine SF_iload 0 46 dX12_errandBy_44 rfl rfl ?_
    refine SF_ldcw 49 dX12_errandBy_46 ki_X12_354 rfl ?_
    refine SF_icne 58 52 dX12_errandBy_49 rfl rfl (fun c18 => ?_) (fun c18 => ?_)
    · have h := ite_f c18 h
      refine SF_iload 0 60 dX12_errandBy_58 rfl rfl ?_
      refine SF_iconst (1 : Int32) 61 dX12_errandBy_60 rfl rfl ?_
      refine SF_iadd 62 dX12_errandBy_61 rfl ?_
      exact RT_i rfl dX12_errandBy_62 h
    · have h := ite_t c18 h
      refine SF_ldcw 55 dX12_errandBy_52 ki_X12_354 rfl ?_
      refine SF_goto 62 dX12_errandBy_55 rfl ?_
      exact RT_i rfl dX12_errandBy_62 h
  · have h := ite_t c7 h
    refine SF_ldcw 23 dX12_errandBy_20 ki_X12_354 rfl ?_
    exact RT_i rfl dX12_errandBy_23 h

theorem dX12_laysErrands_0 : decode cX12_laysErrands 0 = .ok (.aload_n 0, 1) := by decide +kernel
theorem dX12_laysErrands_1 : decode cX12_laysErrands 1 = .ok (.iload_n 1, 1) := by decide +kernel
theorem dX12_laysErrands_2 : decode cX12_laysErrands 2 = .ok (.invokevirtual 376, 3) := by decide +kernel
theorem dX12_laysErrands_5 : decode cX12_laysErrands 5 = .ok (.iconst 0, 1) := by decide +kernel
theorem dX12_laysErrands_6 : decode cX12_laysErrands 6 = .ok (.istore_n 2, 1) := by decide +kernel
theorem dX12_laysErrands_7 : decode cX12_laysErrands 7 = .ok (.iload_n 2, 1) := by decide +kernel
theorem dX12_laysErrands_8 : decode cX12_laysErrands 8 = .ok (.sipush 5184, 3) := by decide +kernel
theorem dX12_laysErrands_11 : decode cX12_laysErrands 11 = .ok (.if_icmp .ge 29, 3) := by decide +kernel
theorem dX12_laysErrands_14 : decode cX12_laysErrands 14 = .ok (.aload_n 0, 1) := by decide +kernel
theorem dX12_laysErrands_15 : decode cX12_laysErrands 15 = .ok (.getfield 48, 3) := by decide +kernel
theorem dX12_laysErrands_18 : decode cX12_laysErrands 18 = .ok (.iload_n 2, 1) := by decide +kernel
theorem dX12_laysErrands_19 : decode cX12_laysErrands 19 = .ok (.iload_n 2, 1) := by decide +kernel
theorem dX12_laysErrands_20 : decode cX12_laysErrands 20 = .ok (.iconst 4, 1) := by decide +kernel
theorem dX12_laysErrands_21 : decode cX12_laysErrands 21 = .ok (.irem, 1) := by decide +kernel
theorem dX12_laysErrands_22 : decode cX12_laysErrands 22 = .ok (.iconst 3, 1) := by decide +kernel
theorem dX12_laysErrands_23 : decode cX12_laysErrands 23 = .ok (.if_icmp .ne 7, 3) := by decide +kernel
theorem dX12_laysErrands_26 : decode cX12_laysErrands 26 = .ok (.iconst 0, 1) := by decide +kernel
theorem dX12_laysErrands_27 : decode cX12_laysErrands 27 = .ok (.goto 6, 3) := by decide +kernel
theorem dX12_laysErrands_30 : decode cX12_laysErrands 30 = .ok (.ldc_w 354, 3) := by decide +kernel
theorem dX12_laysErrands_33 : decode cX12_laysErrands 33 = .ok (.iastore, 1) := by decide +kernel
theorem dX12_laysErrands_34 : decode cX12_laysErrands 34 = .ok (.iinc 2 1, 3) := by decide +kernel
theorem dX12_laysErrands_37 : decode cX12_laysErrands 37 = .ok (.goto (-30), 3) := by decide +kernel
theorem dX12_laysErrands_40 : decode cX12_laysErrands 40 = .ok (.iconst 1, 1) := by decide +kernel
theorem dX12_laysErrands_41 : decode cX12_laysErrands 41 = .ok (.istore_n 2, 1) := by decide +kernel
theorem dX12_laysErrands_42 : decode cX12_laysErrands 42 = .ok (.iload_n 2, 1) := by decide +kernel
theorem dX12_laysErrands_43 : decode cX12_laysErrands 43 = .ok (.ifCond .eq 98, 3) := by decide +kernel
theorem dX12_laysErrands_46 : decode cX12_laysErrands 46 = .ok (.iconst 0, 1) := by decide +kernel
theorem dX12_laysErrands_47 : decode cX12_laysErrands 47 = .ok (.istore_n 2, 1) := by decide +kernel
theorem dX12_laysErrands_48 : decode cX12_laysErrands 48 = .ok (.iconst 0, 1) := by decide +kernel
theorem dX12_laysErrands_49 : decode cX12_laysErrands 49 = .ok (.istore_n 3, 1) := by decide +kernel
theorem dX12_laysErrands_50 : decode cX12_laysErrands 50 = .ok (.iload_n 3, 1) := by decide +kernel
theorem dX12_laysErrands_51 : decode cX12_laysErrands 51 = .ok (.sipush 5184, 3) := by decide +kernel
theorem dX12_laysErrands_54 : decode cX12_laysErrands 54 = .ok (.if_icmp .ge 84, 3) := by decide +kernel
theorem dX12_laysErrands_57 : decode cX12_laysErrands 57 = .ok (.iload_n 3, 1) := by decide +kernel
theorem dX12_laysErrands_58 : decode cX12_laysErrands 58 = .ok (.iconst 4, 1) := by decide +kernel
theorem dX12_laysErrands_59 : decode cX12_laysErrands 59 = .ok (.idiv, 1) := by decide +kernel
theorem dX12_laysErrands_60 : decode cX12_laysErrands 60 = .ok (.istore 4, 2) := by decide +kernel
theorem dX12_laysErrands_62 : decode cX12_laysErrands 62 = .ok (.iconst 0, 1) := by decide +kernel
theorem dX12_laysErrands_63 : decode cX12_laysErrands 63 = .ok (.istore 5, 2) := by decide +kernel
theorem dX12_laysErrands_65 : decode cX12_laysErrands 65 = .ok (.iload 5, 2) := by decide +kernel
theorem dX12_laysErrands_67 : decode cX12_laysErrands 67 = .ok (.bipush 8, 2) := by decide +kernel
theorem dX12_laysErrands_69 : decode cX12_laysErrands 69 = .ok (.if_icmp .ge 63, 3) := by decide +kernel
theorem dX12_laysErrands_72 : decode cX12_laysErrands 72 = .ok (.aload_n 0, 1) := by decide +kernel
theorem dX12_laysErrands_73 : decode cX12_laysErrands 73 = .ok (.getfield 39, 3) := by decide +kernel
theorem dX12_laysErrands_76 : decode cX12_laysErrands 76 = .ok (.iload 4, 2) := by decide +kernel
theorem dX12_laysErrands_78 : decode cX12_laysErrands 78 = .ok (.baload, 1) := by decide +kernel
theorem dX12_laysErrands_79 : decode cX12_laysErrands 79 = .ok (.ifCond .eq 53, 3) := by decide +kernel
theorem dX12_laysErrands_82 : decode cX12_laysErrands 82 = .ok (.aload_n 0, 1) := by decide +kernel
theorem dX12_laysErrands_83 : decode cX12_laysErrands 83 = .ok (.iload_n 1, 1) := by decide +kernel
theorem dX12_laysErrands_84 : decode cX12_laysErrands 84 = .ok (.iload 4, 2) := by decide +kernel
theorem dX12_laysErrands_86 : decode cX12_laysErrands 86 = .ok (.iload_n 3, 1) := by decide +kernel
theorem dX12_laysErrands_87 : decode cX12_laysErrands 87 = .ok (.iconst 4, 1) := by decide +kernel
theorem dX12_laysErrands_88 : decode cX12_laysErrands 88 = .ok (.irem, 1) := by decide +kernel
theorem dX12_laysErrands_89 : decode cX12_laysErrands 89 = .ok (.iload 5, 2) := by decide +kernel
theorem dX12_laysErrands_91 : decode cX12_laysErrands 91 = .ok (.invokevirtual 411, 3) := by decide +kernel
theorem dX12_laysErrands_94 : decode cX12_laysErrands 94 = .ok (.aload_n 0, 1) := by decide +kernel
theorem dX12_laysErrands_95 : decode cX12_laysErrands 95 = .ok (.getfield 48, 3) := by decide +kernel
theorem dX12_laysErrands_98 : decode cX12_laysErrands 98 = .ok (.iload_n 3, 1) := by decide +kernel
theorem dX12_laysErrands_99 : decode cX12_laysErrands 99 = .ok (.iaload, 1) := by decide +kernel
theorem dX12_laysErrands_100 : decode cX12_laysErrands 100 = .ok (.if_icmp .lt 6, 3) := by decide +kernel
theorem dX12_laysErrands_103 : decode cX12_laysErrands 103 = .ok (.goto 23, 3) := by decide +kernel
theorem dX12_laysErrands_106 : decode cX12_laysErrands 106 = .ok (.aload_n 0, 1) := by decide +kernel
theorem dX12_laysErrands_107 : decode cX12_laysErrands 107 = .ok (.getfield 48, 3) := by decide +kernel
theorem dX12_laysErrands_110 : decode cX12_laysErrands 110 = .ok (.iload_n 3, 1) := by decide +kernel
theorem dX12_laysErrands_111 : decode cX12_laysErrands 111 = .ok (.aload_n 0, 1) := by decide +kernel
theorem dX12_laysErrands_112 : decode cX12_laysErrands 112 = .ok (.iload_n 1, 1) := by decide +kernel
theorem dX12_laysErrands_113 : decode cX12_laysErrands 113 = .ok (.iload 4, 2) := by decide +kernel
theorem dX12_laysErrands_115 : decode cX12_laysErrands 115 = .ok (.iload_n 3, 1) := by decide +kernel
theorem dX12_laysErrands_116 : decode cX12_laysErrands 116 = .ok (.iconst 4, 1) := by decide +kernel
theorem dX12_laysErrands_117 : decode cX12_laysErrands 117 = .ok (.irem, 1) := by decide +kernel
theorem dX12_laysErrands_118 : decode cX12_laysErrands 118 = .ok (.iload 5, 2) := by decide +kernel
theorem dX12_laysErrands_120 : decode cX12_laysErrands 120 = .ok (.invokevirtual 411, 3) := by decide +kernel
theorem dX12_laysErrands_123 : decode cX12_laysErrands 123 = .ok (.iastore, 1) := by decide +kernel
theorem dX12_laysErrands_124 : decode cX12_laysErrands 124 = .ok (.iconst 1, 1) := by decide +kernel
theorem dX12_laysErrands_125 : decode cX12_laysErrands 125 = .ok (.istore_n 2, 1) := by decide +kernel
theorem dX12_laysErrands_126 : decode cX12_laysErrands 126 = .ok (.iinc 5 1, 3) := by decide +kernel
theorem dX12_laysErrands_129 : decode cX12_laysErrands 129 = .ok (.goto (-64), 3) := by decide +kernel
theorem dX12_laysErrands_132 : decode cX12_laysErrands 132 = .ok (.iinc 3 1, 3) := by decide +kernel
theorem dX12_laysErrands_135 : decode cX12_laysErrands 135 = .ok (.goto (-85), 3) := by decide +kernel
theorem dX12_laysErrands_138 : decode cX12_laysErrands 138 = .ok (.goto (-96), 3) := by decide +kernel
theorem dX12_laysErrands_141 : decode cX12_laysErrands 141 = .ok (.aload_n 0, 1) := by decide +kernel
theorem dX12_laysErrands_142 : decode cX12_laysErrands 142 = .ok (.getfield 48, 3) := by decide +kernel
theorem dX12_laysErrands_145 : decode cX12_laysErrands 145 = .ok (.iconst 4, 1) := by decide +kernel
theorem dX12_laysErrands_146 : decode cX12_laysErrands 146 = .ok (.aload_n 0, 1) := by decide +kernel
theorem dX12_laysErrands_147 : decode cX12_laysErrands 147 = .ok (.iload_n 1, 1) := by decide +kernel
theorem dX12_laysErrands_148 : decode cX12_laysErrands 148 = .ok (.invokevirtual 370, 3) := by decide +kernel
theorem dX12_laysErrands_151 : decode cX12_laysErrands 151 = .ok (.imul, 1) := by decide +kernel
theorem dX12_laysErrands_152 : decode cX12_laysErrands 152 = .ok (.aload_n 0, 1) := by decide +kernel
theorem dX12_laysErrands_153 : decode cX12_laysErrands 153 = .ok (.iload_n 1, 1) := by decide +kernel
theorem dX12_laysErrands_154 : decode cX12_laysErrands 154 = .ok (.aload_n 0, 1) := by decide +kernel
theorem dX12_laysErrands_155 : decode cX12_laysErrands 155 = .ok (.iload_n 1, 1) := by decide +kernel
theorem dX12_laysErrands_156 : decode cX12_laysErrands 156 = .ok (.invokevirtual 370, 3) := by decide +kernel
theorem dX12_laysErrands_159 : decode cX12_laysErrands 159 = .ok (.aload_n 0, 1) := by decide +kernel
theorem dX12_laysErrands_160 : decode cX12_laysErrands 160 = .ok (.getfield 13, 3) := by decide +kernel
theorem dX12_laysErrands_163 : decode cX12_laysErrands 163 = .ok (.bipush 100, 2) := by decide +kernel
theorem dX12_laysErrands_165 : decode cX12_laysErrands 165 = .ok (.iload_n 1, 1) := by decide +kernel
theorem dX12_laysErrands_166 : decode cX12_laysErrands 166 = .ok (.iadd, 1) := by decide +kernel
theorem dX12_laysErrands_167 : decode cX12_laysErrands 167 = .ok (.iaload, 1) := by decide +kernel
theorem dX12_laysErrands_168 : decode cX12_laysErrands 168 = .ok (.invokevirtual 408, 3) := by decide +kernel
theorem dX12_laysErrands_171 : decode cX12_laysErrands 171 = .ok (.iadd, 1) := by decide +kernel
theorem dX12_laysErrands_172 : decode cX12_laysErrands 172 = .ok (.iaload, 1) := by decide +kernel
theorem dX12_laysErrands_173 : decode cX12_laysErrands 173 = .ok (.ireturn, 1) := by decide +kernel
set_option maxRecDepth 20000 in
set_option maxHeartbeats 2000000 in
theorem w_X12_laysErrands_33 {X : CX} {d : Nat} (hd : 7 ≤ d) {g' : G} {rx : Int32} (k7 : Nat → Int32 → Int32 → G → Option (Int32 × G)) (hk7 : ∀ (l0 : Nat) (l1 : Int32) (l2 : Int32) (g : G), KD g l0 12 → k7 l0 l1 l2 g = some (rx, g') → SemF X m_X12_laysErrands d 7 [(0, .ref (ad X l0)), (1, .int l1), (2, .int l2)] [] g (some (.int rx)) g') (l0 : Nat) (l1 : Int32) (l2 : Int32) (s0 : Int32) (s1 : Int32) (s2 : Nat) (g : G) (k_l0 : KD g l0 12) (k_s2 : KD g s2 14) (h : f_X12_laysErrands_33 k7 l0 l1 l2 s0 s1 s2 g = some (rx, g')) : SemF X m_X12_laysErrands d 33 [(0, .ref (ad X l0)), (1, .int l1), (2, .int l2)] [.int s0, .int s1, .ref (ad X s2)] g (some (.int rx)) g' := by
  rw [f_X12_laysErrands_33] at h
  obtain ⟨i1, h⟩ := gdI_some h
  refine SF_iast 34 dX12_laysErrands_33 k_s2.1 i1 rfl ?_
  obtain ⟨g2, e3, h⟩ := lg_some h
  rw [← e3]
  have k_l0 := KD.eq e3 k_l0
  have k_s2 := KD.eq e3 k_s2
  have i1 := vp_eq e3 i1
  refine SF_iinc 2 (l2 + (1 : Int32)) [(2, .int (l2 + (1 : Int32))), (0, .ref (ad X l0)), (1, .int l1)] 37 dX12_laysErrands_34 rfl rfl (by decide) rfl rfl ?_
  refine SF_goto 7 dX12_laysErrands_37 rfl ?_
  refine SF_sub [1, 2, 0] rfl ?_
  exact hk7 l0 l1 (l2 + (1 : Int32)) g2 k_l0 h

set_option maxRecDepth 20000 in
set_option maxHeartbeats 2000000 in
theorem w_X12_laysErrands_126 {X : CX} {d : Nat} (hd : 7 ≤ d) {g' : G} {rx : Int32} (k42 : Nat → Int32 → Int32 → G → Option (Int32 × G)) (hk42 : ∀ (l0 : Nat) (l1 : Int32) (l2 : Int32) (g : G), KD g l0 12 → k42 l0 l1 l2 g = some (rx, g') → SemF X m_X12_laysErrands d 42 [(0, .ref (ad X l0)), (1, .int l1), (2, .int l2)] [] g (some (.int rx)) g') (k50 : Nat → Int32 → Int32 → Int32 → G → Option (Int32 × G)) (hk50 : ∀ (l0 : Nat) (l1 : Int32) (l2 : Int32) (l3 : Int32) (g : G), KD g l0 12 → k50 l0 l1 l2 l3 g = some (rx, g') → SemF X m_X12_laysErrands d 50 [(0, .ref (ad X l0)), (1, .int l1), (2, .int l2), (3, .int l3)] [] g (some (.int rx)) g') (k65 : Nat → Int32 → Int32 → Int32 → Int32 → Int32 → G → Option (Int32 × G)) (hk65 : ∀ (l0 : Nat) (l1 : Int32) (l2 : Int32) (l3 : Int32) (l4 : Int32) (l5 : Int32) (g : G), KD g l0 12 → k65 l0 l1 l2 l3 l4 l5 g = some (rx, g') → SemF X m_X12_laysErrands d 65 [(0, .ref (ad X l0)), (1, .int l1), (2, .int l2), (3, .int l3), (4, .int l4), (5, .int l5)] [] g (some (.int rx)) g') (l0 : Nat) (l1 : Int32) (l2 : Int32) (l3 : Int32) (l4 : Int32) (l5 : Int32) (g : G) (k_l0 : KD g l0 12) (h : f_X12_laysErrands_126 k42 k50 k65 l0 l1 l2 l3 l4 l5 g = some (rx, g')) : SemF X m_X12_laysErrands d 126 [(0, .ref (ad X l0)), (1, .int l1), (2, .int l2), (3, .int l3), (4, .int l4), (5, .int l5)] [] g (some (.int rx)) g' := by
  rw [f_X12_laysErrands_126] at h
  refine SF_iinc 5 (l5 + (1 : Int32)) [(5, .int (l5 + (1 : Int32))), (0, .ref (ad X l0)), (1, .int l1), (2, .int l2), (3, .int l3), (4, .int l4)] 129 dX12_laysErrands_126 rfl rfl (by decide) rfl rfl ?_
  refine SF_goto 65 dX12_laysErrands_129 rfl ?_
  refine SF_sub [1, 2, 3, 4, 5, 0] rfl ?_
  exact hk65 l0 l1 l2 l3 l4 (l5 + (1 : Int32)) g k_l0 h

set_option maxRecDepth 20000 in
set_option maxHeartbeats 2000000 in
theorem w_X12_laysErrands_132 {X : CX} {d : Nat} (hd : 7 ≤ d) {g' : G} {rx : Int32} (k42 : Nat → Int32 → Int32 → G → Option (Int32 × G)) (hk42 : ∀ (l0 : Nat) (l1 : Int32) (l2 : Int32) (g : G), KD g l0 12 → k42 l0 l1 l2 g = some (rx, g') → SemF X m_X12_laysErrands d 42 [(0, .ref (ad X l0)), (1, .int l1), (2, .int l2)] [] g (some (.int rx)) g') (k50 : Nat → Int32 → Int32 → Int32 → G → Option (Int32 × G)) (hk50 : ∀ (l0 : Nat) (l1 : Int32) (l2 : Int32) (l3 : Int32) (g : G), KD g l0 12 → k50 l0 l1 l2 l3 g = some (rx, g') → SemF X m_X12_laysErrands d 50 [(0, .ref (ad X l0)), (1, .int l1), (2, .int l2), (3, .int l3)] [] g (some (.int rx)) g') (l0 : Nat) (l1 : Int32) (l2 : Int32) (l3 : Int32) (g : G) (k_l0 : KD g l0 12) (h : f_X12_laysErrands_132 k42 k50 l0 l1 l2 l3 g = some (rx, g')) : SemF X m_X12_laysErrands d 132 [(0, .ref (ad X l0)), (1, .int l1), (2, .int l2), (3, .int l3)] [] g (some (.int rx)) g' := by
  rw [f_X12_laysErrands_132] at h
  refine SF_iinc 3 (l3 + (1 : Int32)) [(3, .int (l3 + (1 : Int32))), (0, .ref (ad X l0)), (1, .int l1), (2, .int l2)] 135 dX12_laysErrands_132 rfl rfl (by decide) rfl rfl ?_
  refine SF_goto 50 dX12_laysErrands_135 rfl ?_
  refine SF_sub [1, 2, 3, 0] rfl ?_
  exact hk50 l0 l1 l2 (l3 + (1 : Int32)) g k_l0 h

set_option maxRecDepth 20000 in
set_option maxHeartbeats 2000000 in
theorem w_X12_laysErrands_65 {X : CX} {d : Nat} (hd : 7 ≤ d) {g' : G} {rx : Int32} (k42 : Nat → Int32 → Int32 → G → Option (Int32 × G)) (hk42 : ∀ (l0 : Nat) (l1 : Int32) (l2 : Int32) (g : G), KD g l0 12 → k42 l0 l1 l2 g = some (rx, g') → SemF X m_X12_laysErrands d 42 [(0, .ref (ad X l0)), (1, .int l1), (2, .int l2)] [] g (some (.int rx)) g') (k50 : Nat → Int32 → Int32 → Int32 → G → Option (Int32 × G)) (hk50 : ∀ (l0 : Nat) (l1 : Int32) (l2 : Int32) (l3 : Int32) (g : G), KD g l0 12 → k50 l0 l1 l2 l3 g = some (rx, g') → SemF X m_X12_laysErrands d 50 [(0, .ref (ad X l0)), (1, .int l1), (2, .int l2), (3, .int l3)] [] g (some (.int rx)) g') : ∀ (n : Nat) (l0 : Nat) (l1 : Int32) (l2 : Int32) (l3 : Int32) (l4 : Int32) (l5 : Int32) (g : G), KD g l0 12 → f_X12_laysErrands_65 k42 k50 n l0 l1 l2 l3 l4 l5 g = some (rx, g') → SemF X m_X12_laysErrands d 65 [(0, .ref (ad X l0)), (1, .int l1), (2, .int l2), (3, .int l3), (4, .int l4), (5, .int l5)] [] g (some (.int rx)) g' := by
  intro n
  induction n with
  | zero =>
    intro l0 l1 l2 l3 l4 l5 g k_l0 h
    rw [f_X12_laysErrands_65] at h
    cases h
  | succ n ih =>
  intro l0 l1 l2 l3 l4 l5 g k_l0 h
  rw [f_X12_laysErrands_65] at h
  refine SF_iload 5 67 dX12_laysErrands_65 rfl rfl ?_
  refine SF_bipush (8 : Int32) 69 dX12_laysErrands_67 rfl rfl ?_
  refine SF_icge 132 72 dX12_laysErrands_69 rfl rfl (fun c1 => ?_) (fun c1 => ?_)
  · have h := ite_t c1 h
    refine SF_sub [0, 1, 2, 3] rfl ?_
    exact w_X12_laysErrands_132 hd k42 hk42 k50 hk50 l0 l1 l2 l3 g k_l0 h
  · have h := ite_f c1 h
    refine SF_aload_n 0 73 dX12_laysErrands_72 rfl rfl rfl ?_
    obtain ⟨b2, r3, h⟩ := dr_some h
    refine SF_getR 76 fl_X12_39 dX12_laysErrands_73 k_l0.1 r3 rfl ?_
    refine SF_iload 4 78 dX12_laysErrands_76 rfl rfl ?_
    obtain ⟨k4, h⟩ := gdK_some h
    obtain ⟨i5, h⟩ := gdI_some h
    refine SF_zald 79 dX12_laysErrands_78 k4.1 i5 rfl ?_
    refine SF_ifeq 132 82 dX12_laysErrands_79 rfl rfl (fun c6 => ?_) (fun c6 => ?_)
    · have h := ite_t c6 h
      refine SF_sub [0, 1, 2, 3] rfl ?_
      exact w_X12_laysErrands_132 hd k42 hk42 k50 hk50 l0 l1 l2 l3 g k_l0 h
    · have h := ite_f c6 h
      refine SF_aload_n 0 83 dX12_laysErrands_82 rfl rfl rfl ?_
      refine SF_iload_n 1 84 dX12_laysErrands_83 rfl rfl rfl ?_
      refine SF_iload 4 86 dX12_laysErrands_84 rfl rfl ?_
      refine SF_iload_n 3 87 dX12_laysErrands_86 rfl rfl rfl ?_
      refine SF_iconst (4 : Int32) 88 dX12_laysErrands_87 rfl rfl ?_
      refine SF_irem 89 dX12_laysErrands_88 (by decide) rfl ?_
      refine SF_iload 5 91 dX12_laysErrands_89 rfl rfl ?_
      obtain ⟨v7, g8, q9, h⟩ := bd_some h
      have s10 := w_X12_errandBy (X := X) (Nat.le_refl 2) l0 l1 l4 (l3 - l3 / (4 : Int32) * (4 : Int32)) l5 g g8 v7 k_l0 q9
      refine SF_callVi 94 mi_X12_errandBy ml_X12_411 dX12_laysErrands_91 (Nat.le_trans (by decide) hd) s10 k_l0.1 rfl rfl (Nat.le_of_ble_eq_true rfl) rfl ?_
      have k_l0 := k_l0.ext s10.1
      have k4 := k4.ext s10.1
      refine SF_aload_n 0 95 dX12_laysErrands_94 rfl rfl rfl ?_
      obtain ⟨b11, r12, h⟩ := dr_some h
      refine SF_getR 98 fl_X12_48 dX12_laysErrands_95 k_l0.1 r12 rfl ?_
      refine SF_iload_n 3 99 dX12_laysErrands_98 rfl rfl rfl ?_
      obtain ⟨k13, h⟩ := gdK_some h
      obtain ⟨i14, h⟩ := gdI_some h
      refine SF_iald 100 dX12_laysErrands_99 k13.1 i14 rfl ?_
      refine SF_iclt 106 103 dX12_laysErrands_100 rfl rfl (fun c15 => ?_) (fun c15 => ?_)
      · have h := ite_t c15 h
        refine SF_aload_n 0 107 dX12_laysErrands_106 rfl rfl rfl ?_
        refine SF_getR 110 fl_X12_48 dX12_laysErrands_107 k_l0.1 r12 rfl ?_
        refine SF_iload_n 3 111 dX12_laysErrands_110 rfl rfl rfl ?_
        refine SF_aload_n 0 112 dX12_laysErrands_111 rfl rfl rfl ?_
        refine SF_iload_n 1 113 dX12_laysErrands_112 rfl rfl rfl ?_
        refine SF_iload 4 115 dX12_laysErrands_113 rfl rfl ?_
        refine SF_iload_n 3 116 dX12_laysErrands_115 rfl rfl rfl ?_
        refine SF_iconst (4 : Int32) 117 dX12_laysErrands_116 rfl rfl ?_
        refine SF_irem 118 dX12_laysErrands_117 (by decide) rfl ?_
        refine SF_iload 5 120 dX12_laysErrands_118 rfl rfl ?_
        obtain ⟨v16, g17, q18, h⟩ := bd_some h
        have s19 := w_X12_errandBy (X := X) (Nat.le_refl 2) l0 l1 l4 (l3 - l3 / (4 : Int32) * (4 : Int32)) l5 g8 g17 v16 k_l0 q18
        refine SF_callVi 123 mi_X12_errandBy ml_X12_411 dX12_laysErrands_120 (Nat.le_trans (by decide) hd) s19 k_l0.1 rfl rfl (Nat.le_of_ble_eq_true rfl) rfl ?_
        have k_l0 := k_l0.ext s19.1
        have k4 := k4.ext s19.1
        have k13 := k13.ext s19.1
        obtain ⟨i20, h⟩ := gdI_some h
        refine SF_iast 124 dX12_laysErrands_123 k13.1 i20 rfl ?_
        obtain ⟨g21, e22, h⟩ := lg_some h
        rw [← e22]
        have k_l0 := KD.eq e22 k_l0
        have k4 := KD.eq e22 k4
        have k13 := KD.eq e22 k13
        have i20 := vp_eq e22 i20
        refine SF_iconst (1 : Int32) 125 dX12_laysErrands_124 rfl rfl ?_
        refine SF_istore_n [(2, .int (1 : Int32)), (0, .ref (ad X l0)), (1, .int l1), (3, .int l3), (4, .int l4), (5, .int l5)] 126 dX12_laysErrands_125 rfl (by decide) rfl rfl ?_
        refine SF_sub [1, 2, 0, 3, 4, 5] rfl ?_
        exact w_X12_laysErrands_126 hd k42 hk42 k50 hk50 (f_X12_laysErrands_65 k42 k50 n) ih l0 l1 (1 : Int32) l3 l4 l5 g21 k_l0 h
      · have h := ite_f c15 h
        refine SF_goto 126 dX12_laysErrands_103 rfl ?_
        exact w_X12_laysErrands_126 hd k42 hk42 k50 hk50 (f_X12_laysErrands_65 k42 k50 n) ih l0 l1 l2 l3 l4 l5 g8 k_l0 h

set_option maxRecDepth 20000 in
set_option maxHeartbeats 2000000 in
theorem w_X12_laysErrands_50 {X : CX} {d : Nat} (hd : 7 ≤ d) {g' : G} {rx : Int32} (k42 : Nat → Int32 → Int32 → G → Option (Int32 × G)) (hk42 : ∀ (l0 : Nat) (l1 : Int32) (l2 : Int32) (g : G), KD g l0 12 → k42 l0 l1 l2 g = some (rx, g') → SemF X m_X12_laysErrands d 42 [(0, .ref (ad X l0)), (1, .int l1), (2, .int l2)] [] g (some (.int rx)) g') : ∀ (n : Nat) (l0 : Nat) (l1 : Int32) (l2 : Int32) (l3 : Int32) (g : G), KD g l0 12 → f_X12_laysErrands_50 k42 n l0 l1 l2 l3 g = some (rx, g') → SemF X m_X12_laysErrands d 50 [(0, .ref (ad X l0)), (1, .int l1), (2, .int l2), (3, .int l3)] [] g (some (.int rx)) g' := by
  intro n
  induction n with
  | zero =>
    intro l0 l1 l2 l3 g k_l0 h
    rw [f_X12_laysErrands_50] at h
    cases h
  | succ n ih =>
  intro l0 l1 l2 l3 g k_l0 h
  rw [f_X12_laysErrands_50] at h
  refine SF_iload_n 3 51 dX12_laysErrands_50 rfl rfl rfl ?_
  refine SF_sipush (5184 : Int32) 54 dX12_laysErrands_51 rfl rfl ?_
  refine SF_icge 138 57 dX12_laysErrands_54 rfl rfl (fun c1 => ?_) (fun c1 => ?_)
  · have h := ite_t c1 h
    refine SF_goto 42 dX12_laysErrands_138 rfl ?_
    refine SF_sub [0, 1, 2] rfl ?_
    exact hk42 l0 l1 l2 g k_l0 h
  · have h := ite_f c1 h
    refine SF_iload_n 3 58 dX12_laysErrands_57 rfl rfl rfl ?_
    refine SF_iconst (4 : Int32) 59 dX12_laysErrands_58 rfl rfl ?_
    refine SF_idiv 60 dX12_laysErrands_59 (by decide) rfl ?_
    obtain ⟨y2, e3, h⟩ := li_some h
    refine SF_eqI e3 ?_
    refine SF_istore [(4, .int y2), (0, .ref (ad X l0)), (1, .int l1), (2, .int l2), (3, .int l3)] 62 dX12_laysErrands_60 (by decide) rfl rfl ?_
    refine SF_iconst (0 : Int32) 63 dX12_laysErrands_62 rfl rfl ?_
    refine SF_istore [(5, .int (0 : Int32)), (4, .int y2), (0, .ref (ad X l0)), (1, .int l1), (2, .int l2), (3, .int l3)] 65 dX12_laysErrands_63 (by decide) rfl rfl ?_
    refine SF_sub [2, 3, 4, 5, 1, 0] rfl ?_
    exact w_X12_laysErrands_65 hd k42 hk42 (f_X12_laysErrands_50 k42 n) ih FU l0 l1 l2 l3 y2 (0 : Int32) g k_l0 h

set_option maxRecDepth 20000 in
set_option maxHeartbeats 2000000 in
theorem w_X12_laysErrands_42 {X : CX} {d : Nat} (hd : 7 ≤ d) {g' : G} {rx : Int32} : ∀ (n : Nat) (l0 : Nat) (l1 : Int32) (l2 : Int32) (g : G), KD g l0 12 → f_X12_laysErrands_42 n l0 l1 l2 g = some (rx, g') → SemF X m_X12_laysErrands d 42 [(0, .ref (ad X l0)), (1, .int l1), (2, .int l2)] [] g (some (.int rx)) g' := by
  intro n
  induction n with
  | zero =>
    intro l0 l1 l2 g k_l0 h
    rw [f_X12_laysErrands_42] at h
    cases h
  | succ n ih =>
  intro l0 l1 l2 g k_l0 h
  rw [f_X12_laysErrands_42] at h
  refine SF_iload_n 2 43 dX12_laysErrands_42 rfl rfl rfl ?_
  refine SF_ifeq 141 46 dX12_laysErrands_43 rfl rfl (fun c1 => ?_) (fun c1 => ?_)
  · have h := ite_t c1 h
    refine SF_aload_n 0 142 dX12_laysErrands_141 rfl rfl rfl ?_
    obtain ⟨b2, r3, h⟩ := dr_some h
    refine SF_getR 145 fl_X12_48 dX12_laysErrands_142 k_l0.1 r3 rfl ?_
    refine SF_iconst (4 : Int32) 146 dX12_laysErrands_145 rfl rfl ?_
    refine SF_aload_n 0 147 dX12_laysErrands_146 rfl rfl rfl ?_
    refine SF_iload_n 1 148 dX12_laysErrands_147 rfl rfl rfl ?_
    obtain ⟨v4, g5, q6, h⟩ := bd_some h
    have s7 := w_X12_standNow (X := X) (Nat.le_refl 1) l0 l1 g g5 v4 k_l0 q6
    refine SF_callVi 151 mi_X12_standNow ml_X12_370 dX12_laysErrands_148 (Nat.le_trans (by decide) hd) s7 k_l0.1 rfl rfl (Nat.le_of_ble_eq_true rfl) rfl ?_
    have k_l0 := k_l0.ext s7.1
    refine SF_imul 152 dX12_laysErrands_151 rfl ?_
    refine SF_aload_n 0 153 dX12_laysErrands_152 rfl rfl rfl ?_
    refine SF_iload_n 1 154 dX12_laysErrands_153 rfl rfl rfl ?_
    refine SF_aload_n 0 155 dX12_laysErrands_154 rfl rfl rfl ?_
    refine SF_iload_n 1 156 dX12_laysErrands_155 rfl rfl rfl ?_
    obtain ⟨v8, g9, q10, h⟩ := bd_some h
    have s11 := w_X12_standNow (X := X) (Nat.le_refl 1) l0 l1 g5 g9 v8 k_l0 q10
    refine SF_callVi 159 mi_X12_standNow ml_X12_370 dX12_laysErrands_156 (Nat.le_trans (by decide) hd) s11 k_l0.1 rfl rfl (Nat.le_of_ble_eq_true rfl) rfl ?_
    have k_l0 := k_l0.ext s11.1
    refine SF_aload_n 0 160 dX12_laysErrands_159 rfl rfl rfl ?_
    obtain ⟨b12, r13, h⟩ := dr_some h
    refine SF_getR 163 fl_X12_13 dX12_laysErrands_160 k_l0.1 r13 rfl ?_
    refine SF_bipush (100 : Int32) 165 dX12_laysErrands_163 rfl rfl ?_
    refine SF_iload_n 1 166 dX12_laysErrands_165 rfl rfl rfl ?_
    refine SF_iadd 167 dX12_laysErrands_166 rfl ?_
    obtain ⟨k14, h⟩ := gdK_some h
    obtain ⟨i15, h⟩ := gdI_some h
    refine SF_iald 168 dX12_laysErrands_167 k14.1 i15 rfl ?_
    obtain ⟨v16, g17, q18, h⟩ := bd_some h
    have s19 := w_X12_doneIn (X := X) (Nat.le_refl 1) l0 l1 v8 (gI g9 b12 ((100 : Int32) + l1).toNatClampNeg) g9 g17 v16 k_l0 q18
    refine SF_callVi 171 mi_X12_doneIn ml_X12_408 dX12_laysErrands_168 (Nat.le_trans (by decide) hd) s19 k_l0.1 rfl rfl (Nat.le_of_ble_eq_true rfl) rfl ?_
    have k_l0 := k_l0.ext s19.1
    have k14 := k14.ext s19.1
    refine SF_iadd 172 dX12_laysErrands_171 rfl ?_
    obtain ⟨k20, h⟩ := gdK_some h
    obtain ⟨i21, h⟩ := gdI_some h
    refine SF_iald 173 dX12_laysErrands_172 k20.1 i21 rfl ?_
    exact RT_i rfl dX12_laysErrands_173 h
  · have h := ite_f c1 h
    refine SF_iconst (0 : Int32) 47 dX12_laysErrands_46 rfl rfl ?_
    refine SF_istore_n [(2, .int (0 : Int32)), (0, .ref (ad X l0)), (1, .int l1)] 48 dX12_laysErrands_47 rfl (by decide) rfl rfl ?_
    refine SF_iconst (0 : Int32) 49 dX12_laysErrands_48 rfl rfl ?_
    refine SF_istore_n [(3, .int (0 : Int32)), (2, .int (0 : Int32)), (0, .ref (ad X l0)), (1, .int l1)] 50 dX12_laysErrands_49 rfl (by decide) rfl rfl ?_
    refine SF_sub [2, 3, 1, 0] rfl ?_
    exact w_X12_laysErrands_50 hd (f_X12_laysErrands_42 n) ih FU l0 l1 (0 : Int32) (0 : Int32) g k_l0 h

set_option maxRecDepth 20000 in
set_option maxHeartbeats 2000000 in
theorem w_X12_laysErrands_7 {X : CX} {d : Nat} (hd : 7 ≤ d) {g' : G} {rx : Int32} : ∀ (n : Nat) (l0 : Nat) (l1 : Int32) (l2 : Int32) (g : G), KD g l0 12 → f_X12_laysErrands_7 n l0 l1 l2 g = some (rx, g') → SemF X m_X12_laysErrands d 7 [(0, .ref (ad X l0)), (1, .int l1), (2, .int l2)] [] g (some (.int rx)) g' := by
  intro n
  induction n with
  | zero =>
    intro l0 l1 l2 g k_l0 h
    rw [f_X12_laysErrands_7] at h
    cases h
  | succ n ih =>
  intro l0 l1 l2 g k_l0 h
  rw [f_X12_laysErrands_7] at h
  refine SF_iload_n 2 8 dX12_laysErrands_7 rfl rfl rfl ?_
  refine SF_sipush (5184 : Int32) 11 dX12_laysErrands_8 rfl rfl ?_
  refine SF_icge 40 14 dX12_laysErrands_11 rfl rfl (fun c1 => ?_) (fun c1 => ?_)
  · have h := ite_t c1 h
    refine SF_iconst (1 : Int32) 41 dX12_laysErrands_40 rfl rfl ?_
    refine SF_istore_n [(2, .int (1 : Int32)), (0, .ref (ad X l0)), (1, .int l1)] 42 dX12_laysErrands_41 rfl (by decide) rfl rfl ?_
    refine SF_sub [1, 2, 0] rfl ?_
    exact w_X12_laysErrands_42 hd FU l0 l1 (1 : Int32) g k_l0 h
  · have h := ite_f c1 h
    refine SF_aload_n 0 15 dX12_laysErrands_14 rfl rfl rfl ?_
    obtain ⟨b2, r3, h⟩ := dr_some h
    refine SF_getR 18 fl_X12_48 dX12_laysErrands_15 k_l0.1 r3 rfl ?_
    refine SF_iload_n 2 19 dX12_laysErrands_18 rfl rfl rfl ?_
    refine SF_iload_n 2 20 dX12_laysErrands_19 rfl rfl rfl ?_
    refine SF_iconst (4 : Int32) 21 dX12_laysErrands_20 rfl rfl ?_
    refine SF_irem 22 dX12_laysErrands_21 (by decide) rfl ?_
    refine SF_iconst (3 : Int32) 23 dX12_laysErrands_22 rfl rfl ?_
    refine SF_icne 30 26 dX12_laysErrands_23 rfl rfl (fun c4 => ?_) (fun c4 => ?_)
    · have h := ite_f c4 h
      refine SF_ldcw 33 dX12_laysErrands_30 ki_X12_354 rfl ?_
      obtain ⟨k5, h⟩ := gdK_some h
      exact w_X12_laysErrands_33 hd (f_X12_laysErrands_7 n) ih l0 l1 l2 (1073741824 : Int32) l2 b2 g k_l0 k5 h
    · have h := ite_t c4 h
      refine SF_iconst (0 : Int32) 27 dX12_laysErrands_26 rfl rfl ?_
      refine SF_goto 33 dX12_laysErrands_27 rfl ?_
      obtain ⟨k6, h⟩ := gdK_some h
      exact w_X12_laysErrands_33 hd (f_X12_laysErrands_7 n) ih l0 l1 l2 (0 : Int32) l2 b2 g k_l0 k6 h

set_option maxRecDepth 20000 in
set_option maxHeartbeats 2000000 in
theorem w_X12_laysErrands {X : CX} {d : Nat} (hd : 7 ≤ d) (l0 : Nat) (l1 : Int32) (g g' : G) (rx : Int32) (k_l0 : KD g l0 12) (h : f_X12_laysErrands l0 l1 g = some (rx, g')) : Sem X m_X12_laysErrands d [.ref (ad X l0), .int l1] g (some (.int rx)) g' := by
  refine Sem_of (lo := [(0, .ref (ad X l0)), (1, .int l1)]) (by decide +kernel) rfl (Nat.le_of_ble_eq_true rfl) ?_
  rw [f_X12_laysErrands] at h
  refine SF_aload_n 0 1 dX12_laysErrands_0 rfl rfl rfl ?_
  refine SF_iload_n 1 2 dX12_laysErrands_1 rfl rfl rfl ?_
  obtain ⟨v1, g2, q3, h⟩ := bd_some h
  have s4 := w_X12_laysStands (X := X) (Nat.le_refl 6) l0 l1 g g2 v1 k_l0 q3
  refine SF_callVv 5 mi_X12_laysStands ml_X12_376 dX12_laysErrands_2 (Nat.le_trans (by decide) hd) s4 k_l0.1 rfl rfl (Nat.le_of_ble_eq_true rfl) rfl ?_
  have k_l0 := k_l0.ext s4.1
  refine SF_iconst (0 : Int32) 6 dX12_laysErrands_5 rfl rfl ?_
  refine SF_istore_n [(2, .int (0 : Int32)), (0, .ref (ad X l0)), (1, .int l1)] 7 dX12_laysErrands_6 rfl (by decide) rfl rfl ?_
  refine SF_sub [1, 2, 0] rfl ?_
  exact w_X12_laysErrands_7 hd FU l0 l1 (0 : Int32) g2 k_l0 h

theorem dX12_errands_0 : decode cX12_errands 0 = .ok (.aload_n 0, 1) := by decide +kernel
theorem dX12_errands_1 : decode cX12_errands 1 = .ok (.iconst 0, 1) := by decide +kernel
theorem dX12_errands_2 : decode cX12_errands 2 = .ok (.putfield 1, 3) := by decide +kernel
theorem dX12_errands_5 : decode cX12_errands 5 = .ok (.aload_n 0, 1) := by decide +kernel
theorem dX12_errands_6 : decode cX12_errands 6 = .ok (.iload_n 1, 1) := by decide +kernel
theorem dX12_errands_7 : decode cX12_errands 7 = .ok (.i2l, 1) := by decide +kernel
theorem dX12_errands_8 : decode cX12_errands 8 = .ok (.invokevirtual 255, 3) := by decide +kernel
theorem dX12_errands_11 : decode cX12_errands 11 = .ok (.ifCond .eq 15, 3) := by decide +kernel
theorem dX12_errands_14 : decode cX12_errands 14 = .ok (.aload_n 0, 1) := by decide +kernel
theorem dX12_errands_15 : decode cX12_errands 15 = .ok (.iload_n 1, 1) := by decide +kernel
theorem dX12_errands_16 : decode cX12_errands 16 = .ok (.invokevirtual 414, 3) := by decide +kernel
theorem dX12_errands_19 : decode cX12_errands 19 = .ok (.iconst 0, 1) := by decide +kernel
theorem dX12_errands_20 : decode cX12_errands 20 = .ok (.invokestatic 383, 3) := by decide +kernel
theorem dX12_errands_23 : decode cX12_errands 23 = .ok (.goto 5, 3) := by decide +kernel
theorem dX12_errands_26 : decode cX12_errands 26 = .ok (.bipush (-2), 2) := by decide +kernel
theorem dX12_errands_28 : decode cX12_errands 28 = .ok (.ireturn, 1) := by decide +kernel
set_option maxRecDepth 20000 in
set_option maxHeartbeats 2000000 in
theorem w_X12_errands {X : CX} {d : Nat} (hd : 8 ≤ d) (l0 : Nat) (l1 : Int32) (g g' : G) (rx : Int32) (k_l0 : KD g l0 12) (h : f_X12_errands l0 l1 g = some (rx, g')) : Sem X m_X12_errands d [.ref (ad X l0), .int l1] g (some (.int rx)) g' := by
  refine Sem_of (lo := [(0, .ref (ad X l0)), (1, .int l1)]) (by decide +kernel) rfl (Nat.le_of_ble_eq_true rfl) ?_
  rw [f_X12_errands] at h
  refine SF_aload_n 0 1 dX12_errands_0 rfl rfl rfl ?_
  refine SF_iconst (0 : Int32) 2 dX12_errands_1 rfl rfl ?_
  refine SF_putI 5 fl_X12_1 dX12_errands_2 k_l0.1 (fn_int _) (Or.inl rfl) rfl ?_
  obtain ⟨g1, e2, h⟩ := lg_some h
  rw [← e2]
  have k_l0 := KD.eq e2 k_l0
  refine SF_aload_n 0 6 dX12_errands_5 rfl rfl rfl ?_
  refine SF_iload_n 1 7 dX12_errands_6 rfl rfl rfl ?_
  refine SF_i2l 8 dX12_errands_7 rfl ?_
  obtain ⟨v3, g4, q5, h⟩ := bd_some h
  have s6 := w_X12_isPair (X := X) (Nat.le_refl 1) l0 (l1.toInt64) g1 g4 v3 k_l0 q5
  refine SF_callVb 11 mi_X12_isPair ml_X12_255 dX12_errands_8 (Nat.le_trans (by decide) hd) s6 k_l0.1 rfl rfl (Nat.le_of_ble_eq_true rfl) rfl ?_
  have k_l0 := k_l0.ext s6.1
  refine SF_ifeq 26 14 dX12_errands_11 rfl rfl (fun c7 => ?_) (fun c7 => ?_)
  · have h := ite_t c7 h
    refine SF_bipush (-2 : Int32) 28 dX12_errands_26 rfl rfl ?_
    exact RT_i rfl dX12_errands_28 h
  · have h := ite_f c7 h
    refine SF_aload_n 0 15 dX12_errands_14 rfl rfl rfl ?_
    refine SF_iload_n 1 16 dX12_errands_15 rfl rfl rfl ?_
    obtain ⟨v8, g9, q10, h⟩ := bd_some h
    have s11 := w_X12_laysErrands (X := X) (Nat.le_refl 7) l0 l1 g4 g9 v8 k_l0 q10
    refine SF_callVi 19 mi_X12_laysErrands ml_X12_414 dX12_errands_16 (Nat.le_trans (by decide) hd) s11 k_l0.1 rfl rfl (Nat.le_of_ble_eq_true rfl) rfl ?_
    have k_l0 := k_l0.ext s11.1
    refine SF_iconst (0 : Int32) 20 dX12_errands_19 rfl rfl ?_
    obtain ⟨v12, g13, q14, h⟩ := bd_some h
    have s15 := w_X12_toldFar (X := X) (Nat.le_refl 0) v8 (0 : Int32) g9 g13 v12 q14
    refine SF_callSi 23 mi_X12_toldFar ml_X12_383 dX12_errands_20 (Nat.le_trans (by decide) hd) s15 rfl rfl (Nat.le_of_ble_eq_true rfl) rfl ?_
    have k_l0 := k_l0.ext s15.1
    refine SF_goto 28 dX12_errands_23 rfl ?_
    exact RT_i rfl dX12_errands_28 h

theorem dX2_leadAt_0 : decode cX2_leadAt 0 = .ok (.iload_n 1, 1) := by decide +kernel
theorem dX2_leadAt_1 : decode cX2_leadAt 1 = .ok (.ifCond .lt 11, 3) := by decide +kernel
theorem dX2_leadAt_4 : decode cX2_leadAt 4 = .ok (.iload_n 1, 1) := by decide +kernel
theorem dX2_leadAt_5 : decode cX2_leadAt 5 = .ok (.aload_n 0, 1) := by decide +kernel
theorem dX2_leadAt_6 : decode cX2_leadAt 6 = .ok (.invokevirtual 64, 3) := by decide +kernel
theorem dX2_leadAt_9 : decode cX2_leadAt 9 = .ok (.if_icmp .lt 5, 3) := by decide +kernel
theorem dX2_leadAt_12 : decode cX2_leadAt 12 = .ok (.iconst (-1), 1) := by decide +kernel
theorem dX2_leadAt_13 : decode cX2_leadAt 13 = .ok (.ireturn, 1) := by decide +kernel
theorem dX2_leadAt_14 : decode cX2_leadAt 14 = .ok (.aload_n 0, 1) := by decide +kernel
theorem dX2_leadAt_15 : decode cX2_leadAt 15 = .ok (.getfield 30, 3) := by decide +kernel
theorem dX2_leadAt_18 : decode cX2_leadAt 18 = .ok (.istore_n 2, 1) := by decide +kernel
theorem dX2_leadAt_19 : decode cX2_leadAt 19 = .ok (.iconst 0, 1) := by decide +kernel
theorem dX2_leadAt_20 : decode cX2_leadAt 20 = .ok (.istore_n 3, 1) := by decide +kernel
theorem dX2_leadAt_21 : decode cX2_leadAt 21 = .ok (.iload_n 3, 1) := by decide +kernel
theorem dX2_leadAt_22 : decode cX2_leadAt 22 = .ok (.sipush 1024, 3) := by decide +kernel
theorem dX2_leadAt_25 : decode cX2_leadAt 25 = .ok (.if_icmp .ge 28, 3) := by decide +kernel
theorem dX2_leadAt_28 : decode cX2_leadAt 28 = .ok (.aload_n 0, 1) := by decide +kernel
theorem dX2_leadAt_29 : decode cX2_leadAt 29 = .ok (.getfield 21, 3) := by decide +kernel
theorem dX2_leadAt_32 : decode cX2_leadAt 32 = .ok (.iload_n 2, 1) := by decide +kernel
theorem dX2_leadAt_33 : decode cX2_leadAt 33 = .ok (.iaload, 1) := by decide +kernel
theorem dX2_leadAt_34 : decode cX2_leadAt 34 = .ok (.iload_n 1, 1) := by decide +kernel
theorem dX2_leadAt_35 : decode cX2_leadAt 35 = .ok (.iconst 1, 1) := by decide +kernel
theorem dX2_leadAt_36 : decode cX2_leadAt 36 = .ok (.iadd, 1) := by decide +kernel
theorem dX2_leadAt_37 : decode cX2_leadAt 37 = .ok (.if_icmp .le 16, 3) := by decide +kernel
theorem dX2_leadAt_40 : decode cX2_leadAt 40 = .ok (.aload_n 0, 1) := by decide +kernel
theorem dX2_leadAt_41 : decode cX2_leadAt 41 = .ok (.getfield 15, 3) := by decide +kernel
theorem dX2_leadAt_44 : decode cX2_leadAt 44 = .ok (.iload_n 2, 1) := by decide +kernel
theorem dX2_leadAt_45 : decode cX2_leadAt 45 = .ok (.iaload, 1) := by decide +kernel
theorem dX2_leadAt_46 : decode cX2_leadAt 46 = .ok (.istore_n 2, 1) := by decide +kernel
theorem dX2_leadAt_47 : decode cX2_leadAt 47 = .ok (.iinc 3 1, 3) := by decide +kernel
theorem dX2_leadAt_50 : decode cX2_leadAt 50 = .ok (.goto (-29), 3) := by decide +kernel
theorem dX2_leadAt_53 : decode cX2_leadAt 53 = .ok (.aload_n 0, 1) := by decide +kernel
theorem dX2_leadAt_54 : decode cX2_leadAt 54 = .ok (.getfield 18, 3) := by decide +kernel
theorem dX2_leadAt_57 : decode cX2_leadAt 57 = .ok (.iload_n 2, 1) := by decide +kernel
theorem dX2_leadAt_58 : decode cX2_leadAt 58 = .ok (.iaload, 1) := by decide +kernel
theorem dX2_leadAt_59 : decode cX2_leadAt 59 = .ok (.ireturn, 1) := by decide +kernel
set_option maxRecDepth 20000 in
set_option maxHeartbeats 2000000 in
theorem w_X2_leadAt_53 {X : CX} {d : Nat} (hd : 1 ≤ d) {g' : G} {rx : Int32} (l0 : Nat) (l2 : Int32) (g : G) (k_l0 : KD g l0 2) (h : f_X2_leadAt_53 l0 l2 g = some (rx, g')) : SemF X m_X2_leadAt d 53 [(0, .ref (ad X l0)), (2, .int l2)] [] g (some (.int rx)) g' := by
  rw [f_X2_leadAt_53] at h
  refine SF_aload_n 0 54 dX2_leadAt_53 rfl rfl rfl ?_
  obtain ⟨b1, r2, h⟩ := dr_some h
  refine SF_getR 57 fl_X2_18 dX2_leadAt_54 k_l0.1 r2 rfl ?_
  refine SF_iload_n 1 58 dX2_leadAt_57 rfl rfl rfl ?_
  obtain ⟨k3, h⟩ := gdK_some h
  obtain ⟨i4, h⟩ := gdI_some h
  refine SF_iald 59 dX2_leadAt_58 k3.1 i4 rfl ?_
  exact RT_i rfl dX2_leadAt_59 h

set_option maxRecDepth 20000 in
set_option maxHeartbeats 2000000 in
theorem w_X2_leadAt_21 {X : CX} {d : Nat} (hd : 1 ≤ d) {g' : G} {rx : Int32} : ∀ (n : Nat) (l0 : Nat) (l1 : Int32) (l2 : Int32) (l3 : Int32) (g : G), KD g l0 2 → f_X2_leadAt_21 n l0 l1 l2 l3 g = some (rx, g') → SemF X m_X2_leadAt d 21 [(0, .ref (ad X l0)), (1, .int l1), (2, .int l2), (3, .int l3)] [] g (some (.int rx)) g' := by
  intro n
  induction n with
  | zero =>
    intro l0 l1 l2 l3 g k_l0 h
    rw [f_X2_leadAt_21] at h
    cases h
  | succ n ih =>
  intro l0 l1 l2 l3 g k_l0 h
  rw [f_X2_leadAt_21] at h
  refine SF_iload_n 3 22 dX2_leadAt_21 rfl rfl rfl ?_
  refine SF_sipush (1024 : Int32) 25 dX2_leadAt_22 rfl rfl ?_
  refine SF_icge 53 28 dX2_leadAt_25 rfl rfl (fun c1 => ?_) (fun c1 => ?_)
  · have h := ite_t c1 h
    refine SF_sub [0, 2] rfl ?_
    exact w_X2_leadAt_53 hd l0 l2 g k_l0 h
  · have h := ite_f c1 h
    refine SF_aload_n 0 29 dX2_leadAt_28 rfl rfl rfl ?_
    obtain ⟨b2, r3, h⟩ := dr_some h
    refine SF_getR 32 fl_X2_21 dX2_leadAt_29 k_l0.1 r3 rfl ?_
    refine SF_iload_n 2 33 dX2_leadAt_32 rfl rfl rfl ?_
    obtain ⟨k4, h⟩ := gdK_some h
    obtain ⟨i5, h⟩ := gdI_some h
    refine SF_iald 34 dX2_leadAt_33 k4.1 i5 rfl ?_
    refine SF_iload_n 1 35 dX2_leadAt_34 rfl rfl rfl ?_
    refine SF_iconst (1 : Int32) 36 dX2_leadAt_35 rfl rfl ?_
    refine SF_iadd 37 dX2_leadAt_36 rfl ?_
    refine SF_icle 53 40 dX2_leadAt_37 rfl rfl (fun c6 => ?_) (fun c6 => ?_)
    · have h := ite_t c6 h
      refine SF_sub [0, 2] rfl ?_
      exact w_X2_leadAt_53 hd l0 l2 g k_l0 h
    · have h := ite_f c6 h
      refine SF_aload_n 0 41 dX2_leadAt_40 rfl rfl rfl ?_
      obtain ⟨b7, r8, h⟩ := dr_some h
      refine SF_getR 44 fl_X2_15 dX2_leadAt_41 k_l0.1 r8 rfl ?_
      refine SF_iload_n 2 45 dX2_leadAt_44 rfl rfl rfl ?_
      obtain ⟨k9, h⟩ := gdK_some h
      obtain ⟨i10, h⟩ := gdI_some h
      refine SF_iald 46 dX2_leadAt_45 k9.1 i10 rfl ?_
      obtain ⟨y11, e12, h⟩ := li_some h
      refine SF_eqI e12 ?_
      refine SF_istore_n [(2, .int y11), (0, .ref (ad X l0)), (1, .int l1), (3, .int l3)] 47 dX2_leadAt_46 rfl (by decide) rfl rfl ?_
      refine SF_iinc 3 (l3 + (1 : Int32)) [(3, .int (l3 + (1 : Int32))), (2, .int y11), (0, .ref (ad X l0)), (1, .int l1)] 50 dX2_leadAt_47 rfl rfl (by decide) rfl rfl ?_
      refine SF_goto 21 dX2_leadAt_50 rfl ?_
      refine SF_sub [2, 3, 1, 0] rfl ?_
      exact ih l0 l1 y11 (l3 + (1 : Int32)) g k_l0 h

set_option maxRecDepth 20000 in
set_option maxHeartbeats 2000000 in
theorem w_X2_leadAt {X : CX} {d : Nat} (hd : 1 ≤ d) (l0 : Nat) (l1 : Int32) (g g' : G) (rx : Int32) (k_l0 : KD g l0 2) (h : f_X2_leadAt l0 l1 g = some (rx, g')) : Sem X m_X2_leadAt d [.ref (ad X l0), .int l1] g (some (.int rx)) g' := by
  refine Sem_of (lo := [(0, .ref (ad X l0)), (1, .int l1)]) (by decide +kernel) rfl (Nat.le_of_ble_eq_true rfl) ?_
  rw [f_X2_leadAt] at h
  refine SF_iload_n 1 1 dX2_leadAt_0 rfl rfl rfl ?_
  refine SF_iflt 12 4 dX2_leadAt_1 rfl rfl (fun c1 => ?_) (fun c1 => ?_)
  · have h := ite_t c1 h
    refine SF_iconst (-1 : Int32) 13 dX2_leadAt_12 rfl rfl ?_
    exact RT_i rfl dX2_leadAt_13 h
  · have h := ite_f c1 h
    refine SF_iload_n 1 5 dX2_leadAt_4 rfl rfl rfl ?_
    refine SF_aload_n 0 6 dX2_leadAt_5 rfl rfl rfl ?_
    obtain ⟨v2, g3, q4, h⟩ := bd_some h
    have s5 := w_X2_length (X := X) (Nat.le_refl 0) l0 g g3 v2 k_l0 q4
    refine SF_callVi 9 mi_X2_length ml_X2_64 dX2_leadAt_6 (Nat.le_trans (by decide) hd) s5 k_l0.1 rfl rfl (Nat.le_of_ble_eq_true rfl) rfl ?_
    have k_l0 := k_l0.ext s5.1
    refine SF_iclt 14 12 dX2_leadAt_9 rfl rfl (fun c6 => ?_) (fun c6 => ?_)
    · have h := ite_t c6 h
      refine SF_aload_n 0 15 dX2_leadAt_14 rfl rfl rfl ?_
      refine SF_getI 18 fl_X2_30 dX2_leadAt_15 k_l0.1 rfl ?_
      obtain ⟨y7, e8, h⟩ := li_some h
      refine SF_eqI e8 ?_
      refine SF_istore_n [(2, .int y7), (0, .ref (ad X l0)), (1, .int l1)] 19 dX2_leadAt_18 rfl (by decide) rfl rfl ?_
      refine SF_iconst (0 : Int32) 20 dX2_leadAt_19 rfl rfl ?_
      refine SF_istore_n [(3, .int (0 : Int32)), (2, .int y7), (0, .ref (ad X l0)), (1, .int l1)] 21 dX2_leadAt_20 rfl (by decide) rfl rfl ?_
      refine SF_sub [2, 3, 1, 0] rfl ?_
      exact w_X2_leadAt_21 hd FU l0 l1 y7 (0 : Int32) g3 k_l0 h
    · have h := ite_f c6 h
      refine SF_iconst (-1 : Int32) 13 dX2_leadAt_12 rfl rfl ?_
      exact RT_i rfl dX2_leadAt_13 h

theorem dX11_errandWay_0 : decode cX11_errandWay 0 = .ok (.aload_n 0, 1) := by decide +kernel
theorem dX11_errandWay_1 : decode cX11_errandWay 1 = .ok (.getfield 78, 3) := by decide +kernel
theorem dX11_errandWay_4 : decode cX11_errandWay 4 = .ok (.iload_n 1, 1) := by decide +kernel
theorem dX11_errandWay_5 : decode cX11_errandWay 5 = .ok (.invokevirtual 161, 3) := by decide +kernel
theorem dX11_errandWay_8 : decode cX11_errandWay 8 = .ok (.ifCond .ne 6, 3) := by decide +kernel
theorem dX11_errandWay_11 : decode cX11_errandWay 11 = .ok (.bipush (-2), 2) := by decide +kernel
theorem dX11_errandWay_13 : decode cX11_errandWay 13 = .ok (.ireturn, 1) := by decide +kernel
theorem dX11_errandWay_14 : decode cX11_errandWay 14 = .ok (.iload_n 2, 1) := by decide +kernel
theorem dX11_errandWay_15 : decode cX11_errandWay 15 = .ok (.ifCond .ge 6, 3) := by decide +kernel
theorem dX11_errandWay_18 : decode cX11_errandWay 18 = .ok (.bipush (-3), 2) := by decide +kernel
theorem dX11_errandWay_20 : decode cX11_errandWay 20 = .ok (.ireturn, 1) := by decide +kernel
theorem dX11_errandWay_21 : decode cX11_errandWay 21 = .ok (.aload_n 0, 1) := by decide +kernel
theorem dX11_errandWay_22 : decode cX11_errandWay 22 = .ok (.getfield 40, 3) := by decide +kernel
theorem dX11_errandWay_25 : decode cX11_errandWay 25 = .ok (.aload_n 0, 1) := by decide +kernel
theorem dX11_errandWay_26 : decode cX11_errandWay 26 = .ok (.iload_n 1, 1) := by decide +kernel
theorem dX11_errandWay_27 : decode cX11_errandWay 27 = .ok (.invokevirtual 259, 3) := by decide +kernel
theorem dX11_errandWay_30 : decode cX11_errandWay 30 = .ok (.aload_n 0, 1) := by decide +kernel
theorem dX11_errandWay_31 : decode cX11_errandWay 31 = .ok (.getfield 78, 3) := by decide +kernel
theorem dX11_errandWay_34 : decode cX11_errandWay 34 = .ok (.iload_n 1, 1) := by decide +kernel
theorem dX11_errandWay_35 : decode cX11_errandWay 35 = .ok (.invokevirtual 318, 3) := by decide +kernel
theorem dX11_errandWay_38 : decode cX11_errandWay 38 = .ok (.aload_n 0, 1) := by decide +kernel
theorem dX11_errandWay_39 : decode cX11_errandWay 39 = .ok (.getfield 40, 3) := by decide +kernel
theorem dX11_errandWay_42 : decode cX11_errandWay 42 = .ok (.iload_n 2, 1) := by decide +kernel
theorem dX11_errandWay_43 : decode cX11_errandWay 43 = .ok (.invokevirtual 325, 3) := by decide +kernel
theorem dX11_errandWay_46 : decode cX11_errandWay 46 = .ok (.invokestatic 272, 3) := by decide +kernel
theorem dX11_errandWay_49 : decode cX11_errandWay 49 = .ok (.ireturn, 1) := by decide +kernel
set_option maxRecDepth 20000 in
set_option maxHeartbeats 2000000 in
theorem w_X11_errandWay {X : CX} {d : Nat} (hd : 7 ≤ d) (l0 : Nat) (l1 : Int32) (l2 : Int32) (g g' : G) (rx : Int32) (k_l0 : KD g l0 11) (h : f_X11_errandWay l0 l1 l2 g = some (rx, g')) : Sem X m_X11_errandWay d [.ref (ad X l0), .int l1, .int l2] g (some (.int rx)) g' := by
  refine Sem_of (lo := [(0, .ref (ad X l0)), (1, .int l1), (2, .int l2)]) (by decide +kernel) rfl (Nat.le_of_ble_eq_true rfl) ?_
  rw [f_X11_errandWay] at h
  refine SF_aload_n 0 1 dX11_errandWay_0 rfl rfl rfl ?_
  obtain ⟨b1, r2, h⟩ := dr_some h
  refine SF_getR 4 fl_X11_78 dX11_errandWay_1 k_l0.1 r2 rfl ?_
  refine SF_iload_n 1 5 dX11_errandWay_4 rfl rfl rfl ?_
  obtain ⟨k3, h⟩ := gdK_some h
  obtain ⟨v4, g5, q6, h⟩ := bd_some h
  have s7 := w_X0_isPair (X := X) (Nat.le_refl 0) b1 l1 g g5 v4 k3 q6
  refine SF_callVb 8 mi_X0_isPair ml_X11_161 dX11_errandWay_5 (Nat.le_trans (by decide) hd) s7 k3.1 rfl rfl (Nat.le_of_ble_eq_true rfl) rfl ?_
  have k_l0 := k_l0.ext s7.1
  have k3 := k3.ext s7.1
  refine SF_ifne 14 11 dX11_errandWay_8 rfl rfl (fun c8 => ?_) (fun c8 => ?_)
  · have h := ite_f c8 h
    refine SF_iload_n 2 15 dX11_errandWay_14 rfl rfl rfl ?_
    refine SF_ifge 21 18 dX11_errandWay_15 rfl rfl (fun c9 => ?_) (fun c9 => ?_)
    · have h := ite_t c9 h
      refine SF_aload_n 0 22 dX11_errandWay_21 rfl rfl rfl ?_
      obtain ⟨b10, r11, h⟩ := dr_some h
      refine SF_getR 25 fl_X11_40 dX11_errandWay_22 k_l0.1 r11 rfl ?_
      refine SF_aload_n 0 26 dX11_errandWay_25 rfl rfl rfl ?_
      refine SF_iload_n 1 27 dX11_errandWay_26 rfl rfl rfl ?_
      obtain ⟨v12, g13, q14, h⟩ := bd_some h
      have s15 := w_X11_graphOf (X := X) (Nat.le_refl 6) l0 l1 g5 g13 v12 k_l0 q14
      refine SF_callVr 30 mi_X11_graphOf ml_X11_259 dX11_errandWay_27 (Nat.le_trans (by decide) hd) s15 k_l0.1 rfl rfl (Nat.le_of_ble_eq_true rfl) rfl ?_
      have k_l0 := k_l0.ext s15.1
      have k3 := k3.ext s15.1
      refine SF_aload_n 0 31 dX11_errandWay_30 rfl rfl rfl ?_
      obtain ⟨b16, r17, h⟩ := dr_some h
      refine SF_getR 34 fl_X11_78 dX11_errandWay_31 k_l0.1 r17 rfl ?_
      refine SF_iload_n 1 35 dX11_errandWay_34 rfl rfl rfl ?_
      obtain ⟨k18, h⟩ := gdK_some h
      obtain ⟨k19, h⟩ := gdK_some h
      obtain ⟨k20, h⟩ := gdK_some h
      obtain ⟨v21, g22, q23, h⟩ := bd_some h
      have s24 := w_X2_explore (X := X) (Nat.le_refl 2) b10 v12 b16 l1 g13 g22 v21 k18 k19 k20 q23
      refine SF_callVv 38 mi_X2_explore ml_X11_318 dX11_errandWay_35 (Nat.le_trans (by decide) hd) s24 k18.1 rfl rfl (Nat.le_of_ble_eq_true rfl) rfl ?_
      have k_l0 := k_l0.ext s24.1
      have k3 := k3.ext s24.1
      have k18 := k18.ext s24.1
      have k19 := k19.ext s24.1
      have k20 := k20.ext s24.1
      refine SF_aload_n 0 39 dX11_errandWay_38 rfl rfl rfl ?_
      obtain ⟨b25, r26, h⟩ := dr_some h
      refine SF_getR 42 fl_X11_40 dX11_errandWay_39 k_l0.1 r26 rfl ?_
      refine SF_iload_n 2 43 dX11_errandWay_42 rfl rfl rfl ?_
      obtain ⟨k27, h⟩ := gdK_some h
      obtain ⟨v28, g29, q30, h⟩ := bd_some h
      have s31 := w_X2_leadAt (X := X) (Nat.le_refl 1) b25 l2 g22 g29 v28 k27 q30
      refine SF_callVi 46 mi_X2_leadAt ml_X11_325 dX11_errandWay_43 (Nat.le_trans (by decide) hd) s31 k27.1 rfl rfl (Nat.le_of_ble_eq_true rfl) rfl ?_
      have k_l0 := k_l0.ext s31.1
      have k3 := k3.ext s31.1
      have k18 := k18.ext s31.1
      have k19 := k19.ext s31.1
      have k20 := k20.ext s31.1
      have k27 := k27.ext s31.1
      obtain ⟨v32, g33, q34, h⟩ := bd_some h
      have s35 := w_X11_told (X := X) (Nat.le_refl 0) v28 g29 g33 v32 q34
      refine SF_callSi 49 mi_X11_told ml_X11_272 dX11_errandWay_46 (Nat.le_trans (by decide) hd) s35 rfl rfl (Nat.le_of_ble_eq_true rfl) rfl ?_
      have k_l0 := k_l0.ext s35.1
      have k3 := k3.ext s35.1
      have k18 := k18.ext s35.1
      have k19 := k19.ext s35.1
      have k20 := k20.ext s35.1
      have k27 := k27.ext s35.1
      exact RT_i rfl dX11_errandWay_49 h
    · have h := ite_f c9 h
      refine SF_bipush (-3 : Int32) 20 dX11_errandWay_18 rfl rfl ?_
      exact RT_i rfl dX11_errandWay_20 h
  · have h := ite_t c8 h
    refine SF_bipush (-2 : Int32) 13 dX11_errandWay_11 rfl rfl ?_
    exact RT_i rfl dX11_errandWay_13 h

theorem dX12_errandWay_0 : decode cX12_errandWay 0 = .ok (.aload_n 0, 1) := by decide +kernel
theorem dX12_errandWay_1 : decode cX12_errandWay 1 = .ok (.iconst 0, 1) := by decide +kernel
theorem dX12_errandWay_2 : decode cX12_errandWay 2 = .ok (.putfield 1, 3) := by decide +kernel
theorem dX12_errandWay_5 : decode cX12_errandWay 5 = .ok (.aload_n 0, 1) := by decide +kernel
theorem dX12_errandWay_6 : decode cX12_errandWay 6 = .ok (.iload_n 1, 1) := by decide +kernel
theorem dX12_errandWay_7 : decode cX12_errandWay 7 = .ok (.i2l, 1) := by decide +kernel
theorem dX12_errandWay_8 : decode cX12_errandWay 8 = .ok (.invokevirtual 255, 3) := by decide +kernel
theorem dX12_errandWay_11 : decode cX12_errandWay 11 = .ok (.ifCond .ne 6, 3) := by decide +kernel
theorem dX12_errandWay_14 : decode cX12_errandWay 14 = .ok (.bipush (-2), 2) := by decide +kernel
theorem dX12_errandWay_16 : decode cX12_errandWay 16 = .ok (.ireturn, 1) := by decide +kernel
theorem dX12_errandWay_17 : decode cX12_errandWay 17 = .ok (.iload_n 2, 1) := by decide +kernel
theorem dX12_errandWay_18 : decode cX12_errandWay 18 = .ok (.ifCond .ge 6, 3) := by decide +kernel
theorem dX12_errandWay_21 : decode cX12_errandWay 21 = .ok (.bipush (-3), 2) := by decide +kernel
theorem dX12_errandWay_23 : decode cX12_errandWay 23 = .ok (.ireturn, 1) := by decide +kernel
theorem dX12_errandWay_24 : decode cX12_errandWay 24 = .ok (.aload_n 0, 1) := by decide +kernel
theorem dX12_errandWay_25 : decode cX12_errandWay 25 = .ok (.iload_n 1, 1) := by decide +kernel
theorem dX12_errandWay_26 : decode cX12_errandWay 26 = .ok (.invokevirtual 414, 3) := by decide +kernel
theorem dX12_errandWay_29 : decode cX12_errandWay 29 = .ok (.istore_n 3, 1) := by decide +kernel
theorem dX12_errandWay_30 : decode cX12_errandWay 30 = .ok (.iload_n 3, 1) := by decide +kernel
theorem dX12_errandWay_31 : decode cX12_errandWay 31 = .ok (.ldc_w 354, 3) := by decide +kernel
theorem dX12_errandWay_34 : decode cX12_errandWay 34 = .ok (.if_icmp .eq 8, 3) := by decide +kernel
theorem dX12_errandWay_37 : decode cX12_errandWay 37 = .ok (.iload_n 2, 1) := by decide +kernel
theorem dX12_errandWay_38 : decode cX12_errandWay 38 = .ok (.iload_n 3, 1) := by decide +kernel
theorem dX12_errandWay_39 : decode cX12_errandWay 39 = .ok (.if_icmp .lt 5, 3) := by decide +kernel
theorem dX12_errandWay_42 : decode cX12_errandWay 42 = .ok (.iconst (-1), 1) := by decide +kernel
theorem dX12_errandWay_43 : decode cX12_errandWay 43 = .ok (.ireturn, 1) := by decide +kernel
theorem dX12_errandWay_44 : decode cX12_errandWay 44 = .ok (.aload_n 0, 1) := by decide +kernel
theorem dX12_errandWay_45 : decode cX12_errandWay 45 = .ok (.iload_n 1, 1) := by decide +kernel
theorem dX12_errandWay_46 : decode cX12_errandWay 46 = .ok (.invokevirtual 370, 3) := by decide +kernel
theorem dX12_errandWay_49 : decode cX12_errandWay 49 = .ok (.istore 4, 2) := by decide +kernel
theorem dX12_errandWay_51 : decode cX12_errandWay 51 = .ok (.aload_n 0, 1) := by decide +kernel
theorem dX12_errandWay_52 : decode cX12_errandWay 52 = .ok (.iload_n 1, 1) := by decide +kernel
theorem dX12_errandWay_53 : decode cX12_errandWay 53 = .ok (.iload 4, 2) := by decide +kernel
theorem dX12_errandWay_55 : decode cX12_errandWay 55 = .ok (.aload_n 0, 1) := by decide +kernel
theorem dX12_errandWay_56 : decode cX12_errandWay 56 = .ok (.getfield 13, 3) := by decide +kernel
theorem dX12_errandWay_59 : decode cX12_errandWay 59 = .ok (.bipush 100, 2) := by decide +kernel
theorem dX12_errandWay_61 : decode cX12_errandWay 61 = .ok (.iload_n 1, 1) := by decide +kernel
theorem dX12_errandWay_62 : decode cX12_errandWay 62 = .ok (.iadd, 1) := by decide +kernel
theorem dX12_errandWay_63 : decode cX12_errandWay 63 = .ok (.iaload, 1) := by decide +kernel
theorem dX12_errandWay_64 : decode cX12_errandWay 64 = .ok (.invokevirtual 408, 3) := by decide +kernel
theorem dX12_errandWay_67 : decode cX12_errandWay 67 = .ok (.istore 5, 2) := by decide +kernel
theorem dX12_errandWay_69 : decode cX12_errandWay 69 = .ok (.iconst 0, 1) := by decide +kernel
theorem dX12_errandWay_70 : decode cX12_errandWay 70 = .ok (.istore 6, 2) := by decide +kernel
theorem dX12_errandWay_72 : decode cX12_errandWay 72 = .ok (.iconst 0, 1) := by decide +kernel
theorem dX12_errandWay_73 : decode cX12_errandWay 73 = .ok (.istore 7, 2) := by decide +kernel
theorem dX12_errandWay_75 : decode cX12_errandWay 75 = .ok (.aload_n 0, 1) := by decide +kernel
theorem dX12_errandWay_76 : decode cX12_errandWay 76 = .ok (.iload_n 1, 1) := by decide +kernel
theorem dX12_errandWay_77 : decode cX12_errandWay 77 = .ok (.iload 4, 2) := by decide +kernel
theorem dX12_errandWay_79 : decode cX12_errandWay 79 = .ok (.iload 5, 2) := by decide +kernel
theorem dX12_errandWay_81 : decode cX12_errandWay 81 = .ok (.iload 7, 2) := by decide +kernel
theorem dX12_errandWay_83 : decode cX12_errandWay 83 = .ok (.invokevirtual 411, 3) := by decide +kernel
theorem dX12_errandWay_86 : decode cX12_errandWay 86 = .ok (.aload_n 0, 1) := by decide +kernel
theorem dX12_errandWay_87 : decode cX12_errandWay 87 = .ok (.getfield 48, 3) := by decide +kernel
theorem dX12_errandWay_90 : decode cX12_errandWay 90 = .ok (.iconst 4, 1) := by decide +kernel
theorem dX12_errandWay_91 : decode cX12_errandWay 91 = .ok (.iload 4, 2) := by decide +kernel
theorem dX12_errandWay_93 : decode cX12_errandWay 93 = .ok (.imul, 1) := by decide +kernel
theorem dX12_errandWay_94 : decode cX12_errandWay 94 = .ok (.iload 5, 2) := by decide +kernel
theorem dX12_errandWay_96 : decode cX12_errandWay 96 = .ok (.iadd, 1) := by decide +kernel
theorem dX12_errandWay_97 : decode cX12_errandWay 97 = .ok (.iaload, 1) := by decide +kernel
theorem dX12_errandWay_98 : decode cX12_errandWay 98 = .ok (.if_icmp .eq 9, 3) := by decide +kernel
theorem dX12_errandWay_101 : decode cX12_errandWay 101 = .ok (.iinc 7 1, 3) := by decide +kernel
theorem dX12_errandWay_104 : decode cX12_errandWay 104 = .ok (.goto (-29), 3) := by decide +kernel
theorem dX12_errandWay_107 : decode cX12_errandWay 107 = .ok (.iload 6, 2) := by decide +kernel
theorem dX12_errandWay_109 : decode cX12_errandWay 109 = .ok (.iload_n 2, 1) := by decide +kernel
theorem dX12_errandWay_110 : decode cX12_errandWay 110 = .ok (.if_icmp .ne 16, 3) := by decide +kernel
theorem dX12_errandWay_113 : decode cX12_errandWay 113 = .ok (.bipush 10, 2) := by decide +kernel
theorem dX12_errandWay_115 : decode cX12_errandWay 115 = .ok (.iload 7, 2) := by decide +kernel
theorem dX12_errandWay_117 : decode cX12_errandWay 117 = .ok (.iconst 4, 1) := by decide +kernel
theorem dX12_errandWay_118 : decode cX12_errandWay 118 = .ok (.idiv, 1) := by decide +kernel
theorem dX12_errandWay_119 : decode cX12_errandWay 119 = .ok (.imul, 1) := by decide +kernel
theorem dX12_errandWay_120 : decode cX12_errandWay 120 = .ok (.iload 7, 2) := by decide +kernel
theorem dX12_errandWay_122 : decode cX12_errandWay 122 = .ok (.iconst 4, 1) := by decide +kernel
theorem dX12_errandWay_123 : decode cX12_errandWay 123 = .ok (.irem, 1) := by decide +kernel
theorem dX12_errandWay_124 : decode cX12_errandWay 124 = .ok (.iadd, 1) := by decide +kernel
theorem dX12_errandWay_125 : decode cX12_errandWay 125 = .ok (.ireturn, 1) := by decide +kernel
theorem dX12_errandWay_126 : decode cX12_errandWay 126 = .ok (.aload_n 0, 1) := by decide +kernel
theorem dX12_errandWay_127 : decode cX12_errandWay 127 = .ok (.getfield 42, 3) := by decide +kernel
theorem dX12_errandWay_130 : decode cX12_errandWay 130 = .ok (.bipush 8, 2) := by decide +kernel
theorem dX12_errandWay_132 : decode cX12_errandWay 132 = .ok (.iload 4, 2) := by decide +kernel
theorem dX12_errandWay_134 : decode cX12_errandWay 134 = .ok (.imul, 1) := by decide +kernel
theorem dX12_errandWay_135 : decode cX12_errandWay 135 = .ok (.iload 7, 2) := by decide +kernel
theorem dX12_errandWay_137 : decode cX12_errandWay 137 = .ok (.iadd, 1) := by decide +kernel
theorem dX12_errandWay_138 : decode cX12_errandWay 138 = .ok (.iaload, 1) := by decide +kernel
theorem dX12_errandWay_139 : decode cX12_errandWay 139 = .ok (.istore 4, 2) := by decide +kernel
theorem dX12_errandWay_141 : decode cX12_errandWay 141 = .ok (.aload_n 0, 1) := by decide +kernel
theorem dX12_errandWay_142 : decode cX12_errandWay 142 = .ok (.iload_n 1, 1) := by decide +kernel
theorem dX12_errandWay_143 : decode cX12_errandWay 143 = .ok (.iload 4, 2) := by decide +kernel
theorem dX12_errandWay_145 : decode cX12_errandWay 145 = .ok (.iload 5, 2) := by decide +kernel
theorem dX12_errandWay_147 : decode cX12_errandWay 147 = .ok (.invokevirtual 408, 3) := by decide +kernel
theorem dX12_errandWay_150 : decode cX12_errandWay 150 = .ok (.istore 5, 2) := by decide +kernel
theorem dX12_errandWay_152 : decode cX12_errandWay 152 = .ok (.iinc 6 1, 3) := by decide +kernel
theorem dX12_errandWay_155 : decode cX12_errandWay 155 = .ok (.goto (-83), 3) := by decide +kernel
set_option maxRecDepth 20000 in
set_option maxHeartbeats 2000000 in
theorem w_X12_errandWay_75 {X : CX} {d : Nat} (hd : 8 ≤ d) {g' : G} {rx : Int32} (k72 : Nat → Int32 → Int32 → Int32 → Int32 → Int32 → G → Option (Int32 × G)) (hk72 : ∀ (l0 : Nat) (l1 : Int32) (l2 : Int32) (l4 : Int32) (l5 : Int32) (l6 : Int32) (g : G), KD g l0 12 → k72 l0 l1 l2 l4 l5 l6 g = some (rx, g') → SemF X m_X12_errandWay d 72 [(0, .ref (ad X l0)), (1, .int l1), (2, .int l2), (4, .int l4), (5, .int l5), (6, .int l6)] [] g (some (.int rx)) g') : ∀ (n : Nat) (l0 : Nat) (l1 : Int32) (l2 : Int32) (l4 : Int32) (l5 : Int32) (l6 : Int32) (l7 : Int32) (g : G), KD g l0 12 → f_X12_errandWay_75 k72 n l0 l1 l2 l4 l5 l6 l7 g = some (rx, g') → SemF X m_X12_errandWay d 75 [(0, .ref (ad X l0)), (1, .int l1), (2, .int l2), (4, .int l4), (5, .int l5), (6, .int l6), (7, .int l7)] [] g (some (.int rx)) g' := by
  intro n
  induction n with
  | zero =>
    intro l0 l1 l2 l4 l5 l6 l7 g k_l0 h
    rw [f_X12_errandWay_75] at h
    cases h
  | succ n ih =>
  intro l0 l1 l2 l4 l5 l6 l7 g k_l0 h
  rw [f_X12_errandWay_75] at h
  refine SF_aload_n 0 76 dX12_errandWay_75 rfl rfl rfl ?_
  refine SF_iload_n 1 77 dX12_errandWay_76 rfl rfl rfl ?_
  refine SF_iload 3 79 dX12_errandWay_77 rfl rfl ?_
  refine SF_iload 4 81 dX12_errandWay_79 rfl rfl ?_
  refine SF_iload 6 83 dX12_errandWay_81 rfl rfl ?_
  obtain ⟨v1, g2, q3, h⟩ := bd_some h
  have s4 := w_X12_errandBy (X := X) (Nat.le_refl 2) l0 l1 l4 l5 l7 g g2 v1 k_l0 q3
  refine SF_callVi 86 mi_X12_errandBy ml_X12_411 dX12_errandWay_83 (Nat.le_trans (by decide) hd) s4 k_l0.1 rfl rfl (Nat.le_of_ble_eq_true rfl) rfl ?_
  have k_l0 := k_l0.ext s4.1
  refine SF_aload_n 0 87 dX12_errandWay_86 rfl rfl rfl ?_
  obtain ⟨b5, r6, h⟩ := dr_some h
  refine SF_getR 90 fl_X12_48 dX12_errandWay_87 k_l0.1 r6 rfl ?_
  refine SF_iconst (4 : Int32) 91 dX12_errandWay_90 rfl rfl ?_
  refine SF_iload 3 93 dX12_errandWay_91 rfl rfl ?_
  refine SF_imul 94 dX12_errandWay_93 rfl ?_
  refine SF_iload 4 96 dX12_errandWay_94 rfl rfl ?_
  refine SF_iadd 97 dX12_errandWay_96 rfl ?_
  obtain ⟨k7, h⟩ := gdK_some h
  obtain ⟨i8, h⟩ := gdI_some h
  refine SF_iald 98 dX12_errandWay_97 k7.1 i8 rfl ?_
  refine SF_iceq 107 101 dX12_errandWay_98 rfl rfl (fun c9 => ?_) (fun c9 => ?_)
  · have h := ite_t c9 h
    refine SF_iload 5 109 dX12_errandWay_107 rfl rfl ?_
    refine SF_iload_n 2 110 dX12_errandWay_109 rfl rfl rfl ?_
    refine SF_icne 126 113 dX12_errandWay_110 rfl rfl (fun c10 => ?_) (fun c10 => ?_)
    · have h := ite_f c10 h
      refine SF_aload_n 0 127 dX12_errandWay_126 rfl rfl rfl ?_
      obtain ⟨b11, r12, h⟩ := dr_some h
      refine SF_getR 130 fl_X12_42 dX12_errandWay_127 k_l0.1 r12 rfl ?_
      refine SF_bipush (8 : Int32) 132 dX12_errandWay_130 rfl rfl ?_
      refine SF_iload 3 134 dX12_errandWay_132 rfl rfl ?_
      refine SF_imul 135 dX12_errandWay_134 rfl ?_
      refine SF_iload 6 137 dX12_errandWay_135 rfl rfl ?_
      refine SF_iadd 138 dX12_errandWay_137 rfl ?_
      obtain ⟨k13, h⟩ := gdK_some h
      obtain ⟨i14, h⟩ := gdI_some h
      refine SF_iald 139 dX12_errandWay_138 k13.1 i14 rfl ?_
      obtain ⟨y15, e16, h⟩ := li_some h
      refine SF_eqI e16 ?_
      refine SF_istore [(4, .int y15), (0, .ref (ad X l0)), (1, .int l1), (2, .int l2), (5, .int l5), (6, .int l6), (7, .int l7)] 141 dX12_errandWay_139 (by decide) rfl rfl ?_
      refine SF_aload_n 1 142 dX12_errandWay_141 rfl rfl rfl ?_
      refine SF_iload_n 2 143 dX12_errandWay_142 rfl rfl rfl ?_
      refine SF_iload 0 145 dX12_errandWay_143 rfl rfl ?_
      refine SF_iload 4 147 dX12_errandWay_145 rfl rfl ?_
      obtain ⟨v17, g18, q19, h⟩ := bd_some h
      have s20 := w_X12_doneIn (X := X) (Nat.le_refl 1) l0 l1 y15 l5 g2 g18 v17 k_l0 q19
      refine SF_callVi 150 mi_X12_doneIn ml_X12_408 dX12_errandWay_147 (Nat.le_trans (by decide) hd) s20 k_l0.1 rfl rfl (Nat.le_of_ble_eq_true rfl) rfl ?_
      have k_l0 := k_l0.ext s20.1
      have k7 := k7.ext s20.1
      have k13 := k13.ext s20.1
      refine SF_istore [(5, .int v17), (4, .int y15), (0, .ref (ad X l0)), (1, .int l1), (2, .int l2), (6, .int l6), (7, .int l7)] 152 dX12_errandWay_150 (by decide) rfl rfl ?_
      refine SF_iinc 5 (l6 + (1 : Int32)) [(6, .int (l6 + (1 : Int32))), (5, .int v17), (4, .int y15), (0, .ref (ad X l0)), (1, .int l1), (2, .int l2), (7, .int l7)] 155 dX12_errandWay_152 rfl rfl (by decide) rfl rfl ?_
      refine SF_goto 72 dX12_errandWay_155 rfl ?_
      refine SF_sub [3, 4, 5, 2, 1, 0] rfl ?_
      exact hk72 l0 l1 l2 y15 v17 (l6 + (1 : Int32)) g18 k_l0 h
    · have h := ite_t c10 h
      refine SF_bipush (10 : Int32) 115 dX12_errandWay_113 rfl rfl ?_
      refine SF_iload 6 117 dX12_errandWay_115 rfl rfl ?_
      refine SF_iconst (4 : Int32) 118 dX12_errandWay_117 rfl rfl ?_
      refine SF_idiv 119 dX12_errandWay_118 (by decide) rfl ?_
      refine SF_imul 120 dX12_errandWay_119 rfl ?_
      refine SF_iload 6 122 dX12_errandWay_120 rfl rfl ?_
      refine SF_iconst (4 : Int32) 123 dX12_errandWay_122 rfl rfl ?_
      refine SF_irem 124 dX12_errandWay_123 (by decide) rfl ?_
      refine SF_iadd 125 dX12_errandWay_124 rfl ?_
      exact RT_i rfl dX12_errandWay_125 h
  · have h := ite_f c9 h
    refine SF_iinc 6 (l7 + (1 : Int32)) [(7, .int (l7 + (1 : Int32))), (0, .ref (ad X l0)), (1, .int l1), (2, .int l2), (4, .int l4), (5, .int l5), (6, .int l6)] 104 dX12_errandWay_101 rfl rfl (by decide) rfl rfl ?_
    refine SF_goto 75 dX12_errandWay_104 rfl ?_
    refine SF_sub [1, 2, 3, 4, 5, 6, 0] rfl ?_
    exact ih l0 l1 l2 l4 l5 l6 (l7 + (1 : Int32)) g2 k_l0 h

set_option maxRecDepth 20000 in
set_option maxHeartbeats 2000000 in
theorem w_X12_errandWay_72 {X : CX} {d : Nat} (hd : 8 ≤ d) {g' : G} {rx : Int32} : ∀ (n : Nat) (l0 : Nat) (l1 : Int32) (l2 : Int32) (l4 : Int32) (l5 : Int32) (l6 : Int32) (g : G), KD g l0 12 → f_X12_errandWay_72 n l0 l1 l2 l4 l5 l6 g = some (rx, g') → SemF X m_X12_errandWay d 72 [(0, .ref (ad X l0)), (1, .int l1), (2, .int l2), (4, .int l4), (5, .int l5), (6, .int l6)] [] g (some (.int rx)) g' := by
  intro n
  induction n with
  | zero =>
    intro l0 l1 l2 l4 l5 l6 g k_l0 h
    rw [f_X12_errandWay_72] at h
    cases h
  | succ n ih =>
  intro l0 l1 l2 l4 l5 l6 g k_l0 h
  rw [f_X12_errandWay_72] at h
  refine SF_iconst (0 : Int32) 73 dX12_errandWay_72 rfl rfl ?_
  refine SF_istore [(7, .int (0 : Int32)), (0, .ref (ad X l0)), (1, .int l1), (2, .int l2), (4, .int l4), (5, .int l5), (6, .int l6)] 75 dX12_errandWay_73 (by decide) rfl rfl ?_
  refine SF_sub [1, 2, 3, 4, 5, 6, 0] rfl ?_
  exact w_X12_errandWay_75 hd (f_X12_errandWay_72 n) ih FU l0 l1 l2 l4 l5 l6 (0 : Int32) g k_l0 h

set_option maxRecDepth 20000 in
set_option maxHeartbeats 2000000 in
theorem w_X12_errandWay {X : CX} {d : Nat} (hd : 8 ≤ d) (l0 : Nat) (l1 : Int32) (l2 : Int32) (g g' : G) (rx : Int32) (k_l0 : KD g l0 12) (h : f_X12_errandWay l0 l1 l2 g = some (rx, g')) : Sem X m_X12_errandWay d [.ref (ad X l0), .int l1, .int l2] g (some (.int rx)) g' := by
  refine Sem_of (lo := [(0, .ref (ad X l0)), (1, .int l1), (2, .int l2)]) (by decide +kernel) rfl (Nat.le_of_ble_eq_true rfl) ?_
  rw [f_X12_errandWay] at h
  refine SF_aload_n 0 1 dX12_errandWay_0 rfl rfl rfl ?_
  refine SF_iconst (0 : Int32) 2 dX12_errandWay_1 rfl rfl ?_
  refine SF_putI 5 fl_X12_1 dX12_errandWay_2 k_l0.1 (fn_int _) (Or.inl rfl) rfl ?_
  obtain ⟨g1, e2, h⟩ := lg_some h
  rw [← e2]
  have k_l0 := KD.eq e2 k_l0
  refine SF_aload_n 0 6 dX12_errandWay_5 rfl rfl rfl ?_
  refine SF_iload_n 1 7 dX12_errandWay_6 rfl rfl rfl ?_
  refine SF_i2l 8 dX12_errandWay_7 rfl ?_
  obtain ⟨v3, g4, q5, h⟩ := bd_some h
  have s6 := w_X12_isPair (X := X) (Nat.le_refl 1) l0 (l1.toInt64) g1 g4 v3 k_l0 q5
  refine SF_callVb 11 mi_X12_isPair ml_X12_255 dX12_errandWay_8 (Nat.le_trans (by decide) hd) s6 k_l0.1 rfl rfl (Nat.le_of_ble_eq_true rfl) rfl ?_
  have k_l0 := k_l0.ext s6.1
  refine SF_ifne 17 14 dX12_errandWay_11 rfl rfl (fun c7 => ?_) (fun c7 => ?_)
  · have h := ite_f c7 h
    refine SF_iload_n 2 18 dX12_errandWay_17 rfl rfl rfl ?_
    refine SF_ifge 24 21 dX12_errandWay_18 rfl rfl (fun c8 => ?_) (fun c8 => ?_)
    · have h := ite_t c8 h
      refine SF_aload_n 0 25 dX12_errandWay_24 rfl rfl rfl ?_
      refine SF_iload_n 1 26 dX12_errandWay_25 rfl rfl rfl ?_
      obtain ⟨v9, g10, q11, h⟩ := bd_some h
      have s12 := w_X12_laysErrands (X := X) (Nat.le_refl 7) l0 l1 g4 g10 v9 k_l0 q11
      refine SF_callVi 29 mi_X12_laysErrands ml_X12_414 dX12_errandWay_26 (Nat.le_trans (by decide) hd) s12 k_l0.1 rfl rfl (Nat.le_of_ble_eq_true rfl) rfl ?_
      have k_l0 := k_l0.ext s12.1
      refine SF_istore_n [(3, .int v9), (0, .ref (ad X l0)), (1, .int l1), (2, .int l2)] 30 dX12_errandWay_29 rfl (by decide) rfl rfl ?_
      refine SF_iload_n 0 31 dX12_errandWay_30 rfl rfl rfl ?_
      refine SF_ldcw 34 dX12_errandWay_31 ki_X12_354 rfl ?_
      refine SF_iceq 42 37 dX12_errandWay_34 rfl rfl (fun c13 => ?_) (fun c13 => ?_)
      · have h := ite_t c13 h
        refine SF_iconst (-1 : Int32) 43 dX12_errandWay_42 rfl rfl ?_
        exact RT_i rfl dX12_errandWay_43 h
      · have h := ite_f c13 h
        refine SF_iload_n 3 38 dX12_errandWay_37 rfl rfl rfl ?_
        refine SF_iload_n 0 39 dX12_errandWay_38 rfl rfl rfl ?_
        refine SF_iclt 44 42 dX12_errandWay_39 rfl rfl (fun c14 => ?_) (fun c14 => ?_)
        · have h := ite_t c14 h
          refine SF_aload_n 1 45 dX12_errandWay_44 rfl rfl rfl ?_
          refine SF_iload_n 2 46 dX12_errandWay_45 rfl rfl rfl ?_
          obtain ⟨v15, g16, q17, h⟩ := bd_some h
          have s18 := w_X12_standNow (X := X) (Nat.le_refl 1) l0 l1 g10 g16 v15 k_l0 q17
          refine SF_callVi 49 mi_X12_standNow ml_X12_370 dX12_errandWay_46 (Nat.le_trans (by decide) hd) s18 k_l0.1 rfl rfl (Nat.le_of_ble_eq_true rfl) rfl ?_
          have k_l0 := k_l0.ext s18.1
          refine SF_istore [(4, .int v15), (3, .int v9), (0, .ref (ad X l0)), (1, .int l1), (2, .int l2)] 51 dX12_errandWay_49 (by decide) rfl rfl ?_
          refine SF_aload_n 2 52 dX12_errandWay_51 rfl rfl rfl ?_
          refine SF_iload_n 3 53 dX12_errandWay_52 rfl rfl rfl ?_
          refine SF_iload 0 55 dX12_errandWay_53 rfl rfl ?_
          refine SF_aload_n 2 56 dX12_errandWay_55 rfl rfl rfl ?_
          obtain ⟨b19, r20, h⟩ := dr_some h
          refine SF_getR 59 fl_X12_13 dX12_errandWay_56 k_l0.1 r20 rfl ?_
          refine SF_bipush (100 : Int32) 61 dX12_errandWay_59 rfl rfl ?_
          refine SF_iload_n 3 62 dX12_errandWay_61 rfl rfl rfl ?_
          refine SF_iadd 63 dX12_errandWay_62 rfl ?_
          obtain ⟨k21, h⟩ := gdK_some h
          obtain ⟨i22, h⟩ := gdI_some h
          refine SF_iald 64 dX12_errandWay_63 k21.1 i22 rfl ?_
          obtain ⟨v23, g24, q25, h⟩ := bd_some h
          have s26 := w_X12_doneIn (X := X) (Nat.le_refl 1) l0 l1 v15 (gI g16 b19 ((100 : Int32) + l1).toNatClampNeg) g16 g24 v23 k_l0 q25
          refine SF_callVi 67 mi_X12_doneIn ml_X12_408 dX12_errandWay_64 (Nat.le_trans (by decide) hd) s26 k_l0.1 rfl rfl (Nat.le_of_ble_eq_true rfl) rfl ?_
          have k_l0 := k_l0.ext s26.1
          have k21 := k21.ext s26.1
          refine SF_istore [(5, .int v23), (4, .int v15), (3, .int v9), (0, .ref (ad X l0)), (1, .int l1), (2, .int l2)] 69 dX12_errandWay_67 (by decide) rfl rfl ?_
          refine SF_iconst (0 : Int32) 70 dX12_errandWay_69 rfl rfl ?_
          refine SF_istore [(6, .int (0 : Int32)), (5, .int v23), (4, .int v15), (3, .int v9), (0, .ref (ad X l0)), (1, .int l1), (2, .int l2)] 72 dX12_errandWay_70 (by decide) rfl rfl ?_
          refine SF_sub [4, 5, 6, 2, 1, 0] rfl ?_
          exact w_X12_errandWay_72 hd FU l0 l1 l2 v15 v23 (0 : Int32) g24 k_l0 h
        · have h := ite_f c14 h
          refine SF_iconst (-1 : Int32) 43 dX12_errandWay_42 rfl rfl ?_
          exact RT_i rfl dX12_errandWay_43 h
    · have h := ite_f c8 h
      refine SF_bipush (-3 : Int32) 23 dX12_errandWay_21 rfl rfl ?_
      exact RT_i rfl dX12_errandWay_23 h
  · have h := ite_t c7 h
    refine SF_bipush (-2 : Int32) 16 dX12_errandWay_14 rfl rfl ?_
    exact RT_i rfl dX12_errandWay_16 h

theorem dX11_isTwin_0 : decode cX11_isTwin 0 = .ok (.iload_n 0, 1) := by decide +kernel
theorem dX11_isTwin_1 : decode cX11_isTwin 1 = .ok (.ifCond .eq 8, 3) := by decide +kernel
theorem dX11_isTwin_4 : decode cX11_isTwin 4 = .ok (.iload_n 0, 1) := by decide +kernel
theorem dX11_isTwin_5 : decode cX11_isTwin 5 = .ok (.iconst 1, 1) := by decide +kernel
theorem dX11_isTwin_6 : decode cX11_isTwin 6 = .ok (.if_icmp .ne 7, 3) := by decide +kernel
theorem dX11_isTwin_9 : decode cX11_isTwin 9 = .ok (.iconst 1, 1) := by decide +kernel
theorem dX11_isTwin_10 : decode cX11_isTwin 10 = .ok (.goto 4, 3) := by decide +kernel
theorem dX11_isTwin_13 : decode cX11_isTwin 13 = .ok (.iconst 0, 1) := by decide +kernel
theorem dX11_isTwin_14 : decode cX11_isTwin 14 = .ok (.ireturn, 1) := by decide +kernel
set_option maxRecDepth 20000 in
set_option maxHeartbeats 2000000 in
theorem w_X11_isTwin_9 {X : CX} {d : Nat} (hd : 0 ≤ d) {g' : G} {rx : Bool} (g : G) (h : f_X11_isTwin_9 g = some (rx, g')) : SemF X m_X11_isTwin d 9 [] [] g (some (.int (b2i rx))) g' := by
  rw [f_X11_isTwin_9] at h
  refine SF_iconst (1 : Int32) 10 dX11_isTwin_9 rfl rfl ?_
  refine SF_goto 14 dX11_isTwin_10 rfl ?_
  exact RT_b rfl rfl dX11_isTwin_14 h

set_option maxRecDepth 20000 in
set_option maxHeartbeats 2000000 in
theorem w_X11_isTwin {X : CX} {d : Nat} (hd : 0 ≤ d) (l0 : Int32) (g g' : G) (rx : Bool) (h : f_X11_isTwin l0 g = some (rx, g')) : Sem X m_X11_isTwin d [.int l0] g (some (.int (b2i rx))) g' := by
  refine Sem_of (lo := [(0, .int l0)]) (by decide +kernel) rfl (Nat.le_of_ble_eq_true rfl) ?_
  rw [f_X11_isTwin] at h
  refine SF_iload_n 0 1 dX11_isTwin_0 rfl rfl rfl ?_
  refine SF_ifeq 9 4 dX11_isTwin_1 rfl rfl (fun c1 => ?_) (fun c1 => ?_)
  · have h := ite_t c1 h
    refine SF_sub [] rfl ?_
    exact w_X11_isTwin_9 hd g  h
  · have h := ite_f c1 h
    refine SF_iload_n 0 5 dX11_isTwin_4 rfl rfl rfl ?_
    refine SF_iconst (1 : Int32) 6 dX11_isTwin_5 rfl rfl ?_
    refine SF_icne 13 9 dX11_isTwin_6 rfl rfl (fun c2 => ?_) (fun c2 => ?_)
    · have h := ite_f c2 h
      refine SF_iconst (0 : Int32) 14 dX11_isTwin_13 rfl rfl ?_
      exact RT_b rfl rfl dX11_isTwin_14 h
    · have h := ite_t c2 h
      refine SF_sub [] rfl ?_
      exact w_X11_isTwin_9 hd g  h

theorem dX4_cellsOf_0 : decode cX4_cellsOf 0 = .ok (.lconst 0, 1) := by decide +kernel
theorem dX4_cellsOf_1 : decode cX4_cellsOf 1 = .ok (.lstore_n 2, 1) := by decide +kernel
theorem dX4_cellsOf_2 : decode cX4_cellsOf 2 = .ok (.iconst 0, 1) := by decide +kernel
theorem dX4_cellsOf_3 : decode cX4_cellsOf 3 = .ok (.istore 4, 2) := by decide +kernel
theorem dX4_cellsOf_5 : decode cX4_cellsOf 5 = .ok (.iload 4, 2) := by decide +kernel
theorem dX4_cellsOf_7 : decode cX4_cellsOf 7 = .ok (.aload_n 0, 1) := by decide +kernel
theorem dX4_cellsOf_8 : decode cX4_cellsOf 8 = .ok (.getfield 36, 3) := by decide +kernel
theorem dX4_cellsOf_11 : decode cX4_cellsOf 11 = .ok (.if_icmp .ge 21, 3) := by decide +kernel
theorem dX4_cellsOf_14 : decode cX4_cellsOf 14 = .ok (.lload_n 2, 1) := by decide +kernel
theorem dX4_cellsOf_15 : decode cX4_cellsOf 15 = .ok (.lconst 1, 1) := by decide +kernel
theorem dX4_cellsOf_16 : decode cX4_cellsOf 16 = .ok (.aload_n 0, 1) := by decide +kernel
theorem dX4_cellsOf_17 : decode cX4_cellsOf 17 = .ok (.iload 4, 2) := by decide +kernel
theorem dX4_cellsOf_19 : decode cX4_cellsOf 19 = .ok (.iload_n 1, 1) := by decide +kernel
theorem dX4_cellsOf_20 : decode cX4_cellsOf 20 = .ok (.invokevirtual 62, 3) := by decide +kernel
theorem dX4_cellsOf_23 : decode cX4_cellsOf 23 = .ok (.lshl, 1) := by decide +kernel
theorem dX4_cellsOf_24 : decode cX4_cellsOf 24 = .ok (.lor, 1) := by decide +kernel
theorem dX4_cellsOf_25 : decode cX4_cellsOf 25 = .ok (.lstore_n 2, 1) := by decide +kernel
theorem dX4_cellsOf_26 : decode cX4_cellsOf 26 = .ok (.iinc 4 1, 3) := by decide +kernel
theorem dX4_cellsOf_29 : decode cX4_cellsOf 29 = .ok (.goto (-24), 3) := by decide +kernel
theorem dX4_cellsOf_32 : decode cX4_cellsOf 32 = .ok (.lload_n 2, 1) := by decide +kernel
theorem dX4_cellsOf_33 : decode cX4_cellsOf 33 = .ok (.lreturn, 1) := by decide +kernel
set_option maxRecDepth 20000 in
set_option maxHeartbeats 2000000 in
theorem w_X4_cellsOf_5 {X : CX} {d : Nat} (hd : 2 ≤ d) {g' : G} {rx : Int64} : ∀ (n : Nat) (l0 : Nat) (l1 : Int32) (l2 : Int64) (l4 : Int32) (g : G), KD g l0 4 → f_X4_cellsOf_5 n l0 l1 l2 l4 g = some (rx, g') → SemF X m_X4_cellsOf d 5 [(0, .ref (ad X l0)), (1, .int l1), (2, .long l2), (4, .int l4)] [] g (some (.long rx)) g' := by
  intro n
  induction n with
  | zero =>
    intro l0 l1 l2 l4 g k_l0 h
    rw [f_X4_cellsOf_5] at h
    cases h
  | succ n ih =>
  intro l0 l1 l2 l4 g k_l0 h
  rw [f_X4_cellsOf_5] at h
  refine SF_iload 3 7 dX4_cellsOf_5 rfl rfl ?_
  refine SF_aload_n 0 8 dX4_cellsOf_7 rfl rfl rfl ?_
  refine SF_getI 11 fl_X4_36 dX4_cellsOf_8 k_l0.1 rfl ?_
  refine SF_icge 32 14 dX4_cellsOf_11 rfl rfl (fun c1 => ?_) (fun c1 => ?_)
  · have h := ite_t c1 h
    refine SF_lload_n 2 33 dX4_cellsOf_32 rfl rfl rfl ?_
    exact RT_l rfl dX4_cellsOf_33 h
  · have h := ite_f c1 h
    refine SF_lload_n 2 15 dX4_cellsOf_14 rfl rfl rfl ?_
    refine SF_lconst (1 : Int64) 16 dX4_cellsOf_15 rfl rfl ?_
    refine SF_aload_n 0 17 dX4_cellsOf_16 rfl rfl rfl ?_
    refine SF_iload 3 19 dX4_cellsOf_17 rfl rfl ?_
    refine SF_iload_n 1 20 dX4_cellsOf_19 rfl rfl rfl ?_
    obtain ⟨v2, g3, q4, h⟩ := bd_some h
    have s5 := w_X4_cellOf (X := X) (Nat.le_refl 1) l0 l4 l1 g g3 v2 k_l0 q4
    refine SF_callVi 23 mi_X4_cellOf ml_X4_62 dX4_cellsOf_20 (Nat.le_trans (by decide) hd) s5 k_l0.1 rfl rfl (Nat.le_of_ble_eq_true rfl) rfl ?_
    have k_l0 := k_l0.ext s5.1
    refine SF_lshl 24 dX4_cellsOf_23 rfl ?_
    refine SF_lor 25 dX4_cellsOf_24 rfl ?_
    obtain ⟨y6, e7, h⟩ := ll_some h
    refine SF_eqL e7 ?_
    refine SF_lstore_n [(2, .long y6), (0, .ref (ad X l0)), (1, .int l1), (4, .int l4)] 26 dX4_cellsOf_25 rfl (by decide) rfl rfl ?_
    refine SF_iinc 3 (l4 + (1 : Int32)) [(4, .int (l4 + (1 : Int32))), (2, .long y6), (0, .ref (ad X l0)), (1, .int l1)] 29 dX4_cellsOf_26 rfl rfl (by decide) rfl rfl ?_
    refine SF_goto 5 dX4_cellsOf_29 rfl ?_
    refine SF_sub [2, 3, 1, 0] rfl ?_
    exact ih l0 l1 y6 (l4 + (1 : Int32)) g3 k_l0 h

set_option maxRecDepth 20000 in
set_option maxHeartbeats 2000000 in
theorem w_X4_cellsOf {X : CX} {d : Nat} (hd : 2 ≤ d) (l0 : Nat) (l1 : Int32) (g g' : G) (rx : Int64) (k_l0 : KD g l0 4) (h : f_X4_cellsOf l0 l1 g = some (rx, g')) : Sem X m_X4_cellsOf d [.ref (ad X l0), .int l1] g (some (.long rx)) g' := by
  refine Sem_of (lo := [(0, .ref (ad X l0)), (1, .int l1)]) (by decide +kernel) rfl (Nat.le_of_ble_eq_true rfl) ?_
  rw [f_X4_cellsOf] at h
  refine SF_lconst (0 : Int64) 1 dX4_cellsOf_0 rfl rfl ?_
  refine SF_lstore_n [(2, .long (0 : Int64)), (0, .ref (ad X l0)), (1, .int l1)] 2 dX4_cellsOf_1 rfl (by decide) rfl rfl ?_
  refine SF_iconst (0 : Int32) 3 dX4_cellsOf_2 rfl rfl ?_
  refine SF_istore [(4, .int (0 : Int32)), (2, .long (0 : Int64)), (0, .ref (ad X l0)), (1, .int l1)] 5 dX4_cellsOf_3 (by decide) rfl rfl ?_
  refine SF_sub [2, 3, 1, 0] rfl ?_
  exact w_X4_cellsOf_5 hd FU l0 l1 (0 : Int64) (0 : Int32) g k_l0 h

theorem dX11_reach_0 : decode cX11_reach 0 = .ok (.aload_n 0, 1) := by decide +kernel
theorem dX11_reach_1 : decode cX11_reach 1 = .ok (.getfield 78, 3) := by decide +kernel
theorem dX11_reach_4 : decode cX11_reach 4 = .ok (.iload_n 1, 1) := by decide +kernel
theorem dX11_reach_5 : decode cX11_reach 5 = .ok (.invokevirtual 161, 3) := by decide +kernel
theorem dX11_reach_8 : decode cX11_reach 8 = .ok (.ifCond .eq 10, 3) := by decide +kernel
theorem dX11_reach_11 : decode cX11_reach 11 = .ok (.iload_n 2, 1) := by decide +kernel
theorem dX11_reach_12 : decode cX11_reach 12 = .ok (.invokestatic 333, 3) := by decide +kernel
theorem dX11_reach_15 : decode cX11_reach 15 = .ok (.ifCond .ne 7, 3) := by decide +kernel
theorem dX11_reach_18 : decode cX11_reach 18 = .ok (.ldc2_w 286, 3) := by decide +kernel
theorem dX11_reach_21 : decode cX11_reach 21 = .ok (.lreturn, 1) := by decide +kernel
theorem dX11_reach_22 : decode cX11_reach 22 = .ok (.aload_n 0, 1) := by decide +kernel
theorem dX11_reach_23 : decode cX11_reach 23 = .ok (.iload_n 1, 1) := by decide +kernel
theorem dX11_reach_24 : decode cX11_reach 24 = .ok (.invokevirtual 259, 3) := by decide +kernel
theorem dX11_reach_27 : decode cX11_reach 27 = .ok (.iload_n 2, 1) := by decide +kernel
theorem dX11_reach_28 : decode cX11_reach 28 = .ok (.invokevirtual 336, 3) := by decide +kernel
theorem dX11_reach_31 : decode cX11_reach 31 = .ok (.lreturn, 1) := by decide +kernel
set_option maxRecDepth 20000 in
set_option maxHeartbeats 2000000 in
theorem w_X11_reach_18 {X : CX} {d : Nat} (hd : 7 ≤ d) {g' : G} {rx : Int64} (g : G) (h : f_X11_reach_18 g = some (rx, g')) : SemF X m_X11_reach d 18 [] [] g (some (.long rx)) g' := by
  rw [f_X11_reach_18] at h
  refine SF_ldc2 21 dX11_reach_18 kl_X11_286 rfl ?_
  exact RT_l rfl dX11_reach_21 h

set_option maxRecDepth 20000 in
set_option maxHeartbeats 2000000 in
theorem w_X11_reach {X : CX} {d : Nat} (hd : 7 ≤ d) (l0 : Nat) (l1 : Int32) (l2 : Int32) (g g' : G) (rx : Int64) (k_l0 : KD g l0 11) (h : f_X11_reach l0 l1 l2 g = some (rx, g')) : Sem X m_X11_reach d [.ref (ad X l0), .int l1, .int l2] g (some (.long rx)) g' := by
  refine Sem_of (lo := [(0, .ref (ad X l0)), (1, .int l1), (2, .int l2)]) (by decide +kernel) rfl (Nat.le_of_ble_eq_true rfl) ?_
  rw [f_X11_reach] at h
  refine SF_aload_n 0 1 dX11_reach_0 rfl rfl rfl ?_
  obtain ⟨b1, r2, h⟩ := dr_some h
  refine SF_getR 4 fl_X11_78 dX11_reach_1 k_l0.1 r2 rfl ?_
  refine SF_iload_n 1 5 dX11_reach_4 rfl rfl rfl ?_
  obtain ⟨k3, h⟩ := gdK_some h
  obtain ⟨v4, g5, q6, h⟩ := bd_some h
  have s7 := w_X0_isPair (X := X) (Nat.le_refl 0) b1 l1 g g5 v4 k3 q6
  refine SF_callVb 8 mi_X0_isPair ml_X11_161 dX11_reach_5 (Nat.le_trans (by decide) hd) s7 k3.1 rfl rfl (Nat.le_of_ble_eq_true rfl) rfl ?_
  have k_l0 := k_l0.ext s7.1
  have k3 := k3.ext s7.1
  refine SF_ifeq 18 11 dX11_reach_8 rfl rfl (fun c8 => ?_) (fun c8 => ?_)
  · have h := ite_t c8 h
    refine SF_sub [] rfl ?_
    exact w_X11_reach_18 hd g5  h
  · have h := ite_f c8 h
    refine SF_iload_n 2 12 dX11_reach_11 rfl rfl rfl ?_
    obtain ⟨v9, g10, q11, h⟩ := bd_some h
    have s12 := w_X11_isTwin (X := X) (Nat.le_refl 0) l2 g5 g10 v9 q11
    refine SF_callSb 15 mi_X11_isTwin ml_X11_333 dX11_reach_12 (Nat.le_trans (by decide) hd) s12 rfl rfl (Nat.le_of_ble_eq_true rfl) rfl ?_
    have k_l0 := k_l0.ext s12.1
    have k3 := k3.ext s12.1
    refine SF_ifne 22 18 dX11_reach_15 rfl rfl (fun c13 => ?_) (fun c13 => ?_)
    · have h := ite_f c13 h
      refine SF_aload_n 0 23 dX11_reach_22 rfl rfl rfl ?_
      refine SF_iload_n 1 24 dX11_reach_23 rfl rfl rfl ?_
      obtain ⟨v14, g15, q16, h⟩ := bd_some h
      have s17 := w_X11_graphOf (X := X) (Nat.le_refl 6) l0 l1 g10 g15 v14 k_l0 q16
      refine SF_callVr 27 mi_X11_graphOf ml_X11_259 dX11_reach_24 (Nat.le_trans (by decide) hd) s17 k_l0.1 rfl rfl (Nat.le_of_ble_eq_true rfl) rfl ?_
      have k_l0 := k_l0.ext s17.1
      have k3 := k3.ext s17.1
      refine SF_iload_n 2 28 dX11_reach_27 rfl rfl rfl ?_
      obtain ⟨k18, h⟩ := gdK_some h
      obtain ⟨v19, g20, q21, h⟩ := bd_some h
      have s22 := w_X4_cellsOf (X := X) (Nat.le_refl 2) v14 l2 g15 g20 v19 k18 q21
      refine SF_callVl 31 mi_X4_cellsOf ml_X11_336 dX11_reach_28 (Nat.le_trans (by decide) hd) s22 k18.1 rfl rfl (Nat.le_of_ble_eq_true rfl) rfl ?_
      have k_l0 := k_l0.ext s22.1
      have k3 := k3.ext s22.1
      have k18 := k18.ext s22.1
      exact RT_l rfl dX11_reach_31 h
    · have h := ite_t c13 h
      refine SF_sub [] rfl ?_
      exact w_X11_reach_18 hd g10  h

theorem dX12_isTwin_0 : decode cX12_isTwin 0 = .ok (.iload_n 0, 1) := by decide +kernel
theorem dX12_isTwin_1 : decode cX12_isTwin 1 = .ok (.i2l, 1) := by decide +kernel
theorem dX12_isTwin_2 : decode cX12_isTwin 2 = .ok (.lconst 0, 1) := by decide +kernel
theorem dX12_isTwin_3 : decode cX12_isTwin 3 = .ok (.lconst 1, 1) := by decide +kernel
theorem dX12_isTwin_4 : decode cX12_isTwin 4 = .ok (.invokestatic 139, 3) := by decide +kernel
theorem dX12_isTwin_7 : decode cX12_isTwin 7 = .ok (.ireturn, 1) := by decide +kernel
set_option maxRecDepth 20000 in
set_option maxHeartbeats 2000000 in
theorem w_X12_isTwin {X : CX} {d : Nat} (hd : 1 ≤ d) (l0 : Int32) (g g' : G) (rx : Bool) (h : f_X12_isTwin l0 g = some (rx, g')) : Sem X m_X12_isTwin d [.int l0] g (some (.int (b2i rx))) g' := by
  refine Sem_of (lo := [(0, .int l0)]) (by decide +kernel) rfl (Nat.le_of_ble_eq_true rfl) ?_
  rw [f_X12_isTwin] at h
  refine SF_iload_n 0 1 dX12_isTwin_0 rfl rfl rfl ?_
  refine SF_i2l 2 dX12_isTwin_1 rfl ?_
  refine SF_lconst (0 : Int64) 3 dX12_isTwin_2 rfl rfl ?_
  refine SF_lconst (1 : Int64) 4 dX12_isTwin_3 rfl rfl ?_
  obtain ⟨v1, g2, q3, h⟩ := bd_some h
  have s4 := w_X12_within (X := X) (Nat.le_refl 0) (l0.toInt64) (0 : Int64) (1 : Int64) g g2 v1 q3
  refine SF_callSb 7 mi_X12_within ml_X12_139 dX12_isTwin_4 (Nat.le_trans (by decide) hd) s4 rfl rfl (Nat.le_of_ble_eq_true rfl) rfl ?_
  exact RT_b rfl rfl dX12_isTwin_7 h

theorem dX12_laysFirst_0 : decode cX12_laysFirst 0 = .ok (.aload_n 0, 1) := by decide +kernel
theorem dX12_laysFirst_1 : decode cX12_laysFirst 1 = .ok (.iload_n 1, 1) := by decide +kernel
theorem dX12_laysFirst_2 : decode cX12_laysFirst 2 = .ok (.invokevirtual 376, 3) := by decide +kernel
theorem dX12_laysFirst_5 : decode cX12_laysFirst 5 = .ok (.iconst 0, 1) := by decide +kernel
theorem dX12_laysFirst_6 : decode cX12_laysFirst 6 = .ok (.istore_n 2, 1) := by decide +kernel
theorem dX12_laysFirst_7 : decode cX12_laysFirst 7 = .ok (.iload_n 2, 1) := by decide +kernel
theorem dX12_laysFirst_8 : decode cX12_laysFirst 8 = .ok (.sipush 1296, 3) := by decide +kernel
theorem dX12_laysFirst_11 : decode cX12_laysFirst 11 = .ok (.if_icmp .ge 31, 3) := by decide +kernel
theorem dX12_laysFirst_14 : decode cX12_laysFirst 14 = .ok (.aload_n 0, 1) := by decide +kernel
theorem dX12_laysFirst_15 : decode cX12_laysFirst 15 = .ok (.getfield 51, 3) := by decide +kernel
theorem dX12_laysFirst_18 : decode cX12_laysFirst 18 = .ok (.iload_n 2, 1) := by decide +kernel
theorem dX12_laysFirst_19 : decode cX12_laysFirst 19 = .ok (.iload_n 2, 1) := by decide +kernel
theorem dX12_laysFirst_20 : decode cX12_laysFirst 20 = .ok (.aload_n 0, 1) := by decide +kernel
theorem dX12_laysFirst_21 : decode cX12_laysFirst 21 = .ok (.iload_n 1, 1) := by decide +kernel
theorem dX12_laysFirst_22 : decode cX12_laysFirst 22 = .ok (.invokevirtual 370, 3) := by decide +kernel
theorem dX12_laysFirst_25 : decode cX12_laysFirst 25 = .ok (.if_icmp .ne 7, 3) := by decide +kernel
theorem dX12_laysFirst_28 : decode cX12_laysFirst 28 = .ok (.iconst 0, 1) := by decide +kernel
theorem dX12_laysFirst_29 : decode cX12_laysFirst 29 = .ok (.goto 6, 3) := by decide +kernel
theorem dX12_laysFirst_32 : decode cX12_laysFirst 32 = .ok (.ldc_w 354, 3) := by decide +kernel
theorem dX12_laysFirst_35 : decode cX12_laysFirst 35 = .ok (.iastore, 1) := by decide +kernel
theorem dX12_laysFirst_36 : decode cX12_laysFirst 36 = .ok (.iinc 2 1, 3) := by decide +kernel
theorem dX12_laysFirst_39 : decode cX12_laysFirst 39 = .ok (.goto (-32), 3) := by decide +kernel
theorem dX12_laysFirst_42 : decode cX12_laysFirst 42 = .ok (.iconst 0, 1) := by decide +kernel
theorem dX12_laysFirst_43 : decode cX12_laysFirst 43 = .ok (.istore_n 2, 1) := by decide +kernel
theorem dX12_laysFirst_44 : decode cX12_laysFirst 44 = .ok (.iload_n 2, 1) := by decide +kernel
theorem dX12_laysFirst_45 : decode cX12_laysFirst 45 = .ok (.sipush 1296, 3) := by decide +kernel
theorem dX12_laysFirst_48 : decode cX12_laysFirst 48 = .ok (.if_icmp .ge 93, 3) := by decide +kernel
theorem dX12_laysFirst_51 : decode cX12_laysFirst 51 = .ok (.iconst 0, 1) := by decide +kernel
theorem dX12_laysFirst_52 : decode cX12_laysFirst 52 = .ok (.istore_n 3, 1) := by decide +kernel
theorem dX12_laysFirst_53 : decode cX12_laysFirst 53 = .ok (.iload_n 3, 1) := by decide +kernel
theorem dX12_laysFirst_54 : decode cX12_laysFirst 54 = .ok (.sipush 1296, 3) := by decide +kernel
theorem dX12_laysFirst_57 : decode cX12_laysFirst 57 = .ok (.if_icmp .ge 78, 3) := by decide +kernel
theorem dX12_laysFirst_60 : decode cX12_laysFirst 60 = .ok (.iconst 0, 1) := by decide +kernel
theorem dX12_laysFirst_61 : decode cX12_laysFirst 61 = .ok (.istore 4, 2) := by decide +kernel
theorem dX12_laysFirst_63 : decode cX12_laysFirst 63 = .ok (.iload 4, 2) := by decide +kernel
theorem dX12_laysFirst_65 : decode cX12_laysFirst 65 = .ok (.bipush 8, 2) := by decide +kernel
theorem dX12_laysFirst_67 : decode cX12_laysFirst 67 = .ok (.if_icmp .ge 62, 3) := by decide +kernel
theorem dX12_laysFirst_70 : decode cX12_laysFirst 70 = .ok (.aload_n 0, 1) := by decide +kernel
theorem dX12_laysFirst_71 : decode cX12_laysFirst 71 = .ok (.getfield 51, 3) := by decide +kernel
theorem dX12_laysFirst_74 : decode cX12_laysFirst 74 = .ok (.iload_n 3, 1) := by decide +kernel
theorem dX12_laysFirst_75 : decode cX12_laysFirst 75 = .ok (.iaload, 1) := by decide +kernel
theorem dX12_laysFirst_76 : decode cX12_laysFirst 76 = .ok (.iload_n 2, 1) := by decide +kernel
theorem dX12_laysFirst_77 : decode cX12_laysFirst 77 = .ok (.if_icmp .ne 52, 3) := by decide +kernel
theorem dX12_laysFirst_80 : decode cX12_laysFirst 80 = .ok (.aload_n 0, 1) := by decide +kernel
theorem dX12_laysFirst_81 : decode cX12_laysFirst 81 = .ok (.getfield 42, 3) := by decide +kernel
theorem dX12_laysFirst_84 : decode cX12_laysFirst 84 = .ok (.bipush 8, 2) := by decide +kernel
theorem dX12_laysFirst_86 : decode cX12_laysFirst 86 = .ok (.iload_n 3, 1) := by decide +kernel
theorem dX12_laysFirst_87 : decode cX12_laysFirst 87 = .ok (.imul, 1) := by decide +kernel
theorem dX12_laysFirst_88 : decode cX12_laysFirst 88 = .ok (.iload 4, 2) := by decide +kernel
theorem dX12_laysFirst_90 : decode cX12_laysFirst 90 = .ok (.iadd, 1) := by decide +kernel
theorem dX12_laysFirst_91 : decode cX12_laysFirst 91 = .ok (.iaload, 1) := by decide +kernel
theorem dX12_laysFirst_92 : decode cX12_laysFirst 92 = .ok (.istore 5, 2) := by decide +kernel
theorem dX12_laysFirst_94 : decode cX12_laysFirst 94 = .ok (.iload 5, 2) := by decide +kernel
theorem dX12_laysFirst_96 : decode cX12_laysFirst 96 = .ok (.iconst (-1), 1) := by decide +kernel
theorem dX12_laysFirst_97 : decode cX12_laysFirst 97 = .ok (.if_icmp .eq 26, 3) := by decide +kernel
theorem dX12_laysFirst_100 : decode cX12_laysFirst 100 = .ok (.aload_n 0, 1) := by decide +kernel
theorem dX12_laysFirst_101 : decode cX12_laysFirst 101 = .ok (.getfield 51, 3) := by decide +kernel
theorem dX12_laysFirst_104 : decode cX12_laysFirst 104 = .ok (.iload 5, 2) := by decide +kernel
theorem dX12_laysFirst_106 : decode cX12_laysFirst 106 = .ok (.iaload, 1) := by decide +kernel
theorem dX12_laysFirst_107 : decode cX12_laysFirst 107 = .ok (.ldc_w 354, 3) := by decide +kernel
theorem dX12_laysFirst_110 : decode cX12_laysFirst 110 = .ok (.if_icmp .ne 13, 3) := by decide +kernel
theorem dX12_laysFirst_113 : decode cX12_laysFirst 113 = .ok (.aload_n 0, 1) := by decide +kernel
theorem dX12_laysFirst_114 : decode cX12_laysFirst 114 = .ok (.getfield 51, 3) := by decide +kernel
theorem dX12_laysFirst_117 : decode cX12_laysFirst 117 = .ok (.iload 5, 2) := by decide +kernel
theorem dX12_laysFirst_119 : decode cX12_laysFirst 119 = .ok (.iload_n 2, 1) := by decide +kernel
theorem dX12_laysFirst_120 : decode cX12_laysFirst 120 = .ok (.iconst 1, 1) := by decide +kernel
theorem dX12_laysFirst_121 : decode cX12_laysFirst 121 = .ok (.iadd, 1) := by decide +kernel
theorem dX12_laysFirst_122 : decode cX12_laysFirst 122 = .ok (.iastore, 1) := by decide +kernel
theorem dX12_laysFirst_123 : decode cX12_laysFirst 123 = .ok (.iinc 4 1, 3) := by decide +kernel
theorem dX12_laysFirst_126 : decode cX12_laysFirst 126 = .ok (.goto (-63), 3) := by decide +kernel
theorem dX12_laysFirst_129 : decode cX12_laysFirst 129 = .ok (.iinc 3 1, 3) := by decide +kernel
theorem dX12_laysFirst_132 : decode cX12_laysFirst 132 = .ok (.goto (-79), 3) := by decide +kernel
theorem dX12_laysFirst_135 : decode cX12_laysFirst 135 = .ok (.iinc 2 1, 3) := by decide +kernel
theorem dX12_laysFirst_138 : decode cX12_laysFirst 138 = .ok (.goto (-94), 3) := by decide +kernel
theorem dX12_laysFirst_141 : decode cX12_laysFirst 141 = .ok (.return_, 1) := by decide +kernel
set_option maxRecDepth 20000 in
set_option maxHeartbeats 2000000 in
theorem w_X12_laysFirst_35 {X : CX} {d : Nat} (hd : 7 ≤ d) {g' : G} {rx : Unit} (k7 : Nat → Int32 → Int32 → G → Option (Unit × G)) (hk7 : ∀ (l0 : Nat) (l1 : Int32) (l2 : Int32) (g : G), KD g l0 12 → k7 l0 l1 l2 g = some (rx, g') → SemF X m_X12_laysFirst d 7 [(0, .ref (ad X l0)), (1, .int l1), (2, .int l2)] [] g none g') (l0 : Nat) (l1 : Int32) (l2 : Int32) (s0 : Int32) (s1 : Int32) (s2 : Nat) (g : G) (k_l0 : KD g l0 12) (k_s2 : KD g s2 14) (h : f_X12_laysFirst_35 k7 l0 l1 l2 s0 s1 s2 g = some (rx, g')) : SemF X m_X12_laysFirst d 35 [(0, .ref (ad X l0)), (1, .int l1), (2, .int l2)] [.int s0, .int s1, .ref (ad X s2)] g none g' := by
  rw [f_X12_laysFirst_35] at h
  obtain ⟨i1, h⟩ := gdI_some h
  refine SF_iast 36 dX12_laysFirst_35 k_s2.1 i1 rfl ?_
  obtain ⟨g2, e3, h⟩ := lg_some h
  rw [← e3]
  have k_l0 := KD.eq e3 k_l0
  have k_s2 := KD.eq e3 k_s2
  have i1 := vp_eq e3 i1
  refine SF_iinc 2 (l2 + (1 : Int32)) [(2, .int (l2 + (1 : Int32))), (0, .ref (ad X l0)), (1, .int l1)] 39 dX12_laysFirst_36 rfl rfl (by decide) rfl rfl ?_
  refine SF_goto 7 dX12_laysFirst_39 rfl ?_
  refine SF_sub [1, 2, 0] rfl ?_
  exact hk7 l0 l1 (l2 + (1 : Int32)) g2 k_l0 h

set_option maxRecDepth 20000 in
set_option maxHeartbeats 2000000 in
theorem w_X12_laysFirst_123 {X : CX} {d : Nat} (hd : 7 ≤ d) {g' : G} {rx : Unit} (k44 : Nat → Int32 → G → Option (Unit × G)) (hk44 : ∀ (l0 : Nat) (l2 : Int32) (g : G), KD g l0 12 → k44 l0 l2 g = some (rx, g') → SemF X m_X12_laysFirst d 44 [(0, .ref (ad X l0)), (2, .int l2)] [] g none g') (k53 : Nat → Int32 → Int32 → G → Option (Unit × G)) (hk53 : ∀ (l0 : Nat) (l2 : Int32) (l3 : Int32) (g : G), KD g l0 12 → k53 l0 l2 l3 g = some (rx, g') → SemF X m_X12_laysFirst d 53 [(0, .ref (ad X l0)), (2, .int l2), (3, .int l3)] [] g none g') (k63 : Nat → Int32 → Int32 → Int32 → G → Option (Unit × G)) (hk63 : ∀ (l0 : Nat) (l2 : Int32) (l3 : Int32) (l4 : Int32) (g : G), KD g l0 12 → k63 l0 l2 l3 l4 g = some (rx, g') → SemF X m_X12_laysFirst d 63 [(0, .ref (ad X l0)), (2, .int l2), (3, .int l3), (4, .int l4)] [] g none g') (l0 : Nat) (l2 : Int32) (l3 : Int32) (l4 : Int32) (g : G) (k_l0 : KD g l0 12) (h : f_X12_laysFirst_123 k44 k53 k63 l0 l2 l3 l4 g = some (rx, g')) : SemF X m_X12_laysFirst d 123 [(0, .ref (ad X l0)), (2, .int l2), (3, .int l3), (4, .int l4)] [] g none g' := by
  rw [f_X12_laysFirst_123] at h
  refine SF_iinc 3 (l4 + (1 : Int32)) [(4, .int (l4 + (1 : Int32))), (0, .ref (ad X l0)), (2, .int l2), (3, .int l3)] 126 dX12_laysFirst_123 rfl rfl (by decide) rfl rfl ?_
  refine SF_goto 63 dX12_laysFirst_126 rfl ?_
  refine SF_sub [1, 2, 3, 0] rfl ?_
  exact hk63 l0 l2 l3 (l4 + (1 : Int32)) g k_l0 h

set_option maxRecDepth 20000 in
set_option maxHeartbeats 2000000 in
theorem w_X12_laysFirst_129 {X : CX} {d : Nat} (hd : 7 ≤ d) {g' : G} {rx : Unit} (k44 : Nat → Int32 → G → Option (Unit × G)) (hk44 : ∀ (l0 : Nat) (l2 : Int32) (g : G), KD g l0 12 → k44 l0 l2 g = some (rx, g') → SemF X m_X12_laysFirst d 44 [(0, .ref (ad X l0)), (2, .int l2)] [] g none g') (k53 : Nat → Int32 → Int32 → G → Option (Unit × G)) (hk53 : ∀ (l0 : Nat) (l2 : Int32) (l3 : Int32) (g : G), KD g l0 12 → k53 l0 l2 l3 g = some (rx, g') → SemF X m_X12_laysFirst d 53 [(0, .ref (ad X l0)), (2, .int l2), (3, .int l3)] [] g none g') (l0 : Nat) (l2 : Int32) (l3 : Int32) (g : G) (k_l0 : KD g l0 12) (h : f_X12_laysFirst_129 k44 k53 l0 l2 l3 g = some (rx, g')) : SemF X m_X12_laysFirst d 129 [(0, .ref (ad X l0)), (2, .int l2), (3, .int l3)] [] g none g' := by
  rw [f_X12_laysFirst_129] at h
  refine SF_iinc 2 (l3 + (1 : Int32)) [(3, .int (l3 + (1 : Int32))), (0, .ref (ad X l0)), (2, .int l2)] 132 dX12_laysFirst_129 rfl rfl (by decide) rfl rfl ?_
  refine SF_goto 53 dX12_laysFirst_132 rfl ?_
  refine SF_sub [1, 2, 0] rfl ?_
  exact hk53 l0 l2 (l3 + (1 : Int32)) g k_l0 h

set_option maxRecDepth 20000 in
set_option maxHeartbeats 2000000 in
theorem w_X12_laysFirst_63 {X : CX} {d : Nat} (hd : 7 ≤ d) {g' : G} {rx : Unit} (k44 : Nat → Int32 → G → Option (Unit × G)) (hk44 : ∀ (l0 : Nat) (l2 : Int32) (g : G), KD g l0 12 → k44 l0 l2 g = some (rx, g') → SemF X m_X12_laysFirst d 44 [(0, .ref (ad X l0)), (2, .int l2)] [] g none g') (k53 : Nat → Int32 → Int32 → G → Option (Unit × G)) (hk53 : ∀ (l0 : Nat) (l2 : Int32) (l3 : Int32) (g : G), KD g l0 12 → k53 l0 l2 l3 g = some (rx, g') → SemF X m_X12_laysFirst d 53 [(0, .ref (ad X l0)), (2, .int l2), (3, .int l3)] [] g none g') : ∀ (n : Nat) (l0 : Nat) (l2 : Int32) (l3 : Int32) (l4 : Int32) (g : G), KD g l0 12 → f_X12_laysFirst_63 k44 k53 n l0 l2 l3 l4 g = some (rx, g') → SemF X m_X12_laysFirst d 63 [(0, .ref (ad X l0)), (2, .int l2), (3, .int l3), (4, .int l4)] [] g none g' := by
  intro n
  induction n with
  | zero =>
    intro l0 l2 l3 l4 g k_l0 h
    rw [f_X12_laysFirst_63] at h
    cases h
  | succ n ih =>
  intro l0 l2 l3 l4 g k_l0 h
  rw [f_X12_laysFirst_63] at h
  refine SF_iload 3 65 dX12_laysFirst_63 rfl rfl ?_
  refine SF_bipush (8 : Int32) 67 dX12_laysFirst_65 rfl rfl ?_
  refine SF_icge 129 70 dX12_laysFirst_67 rfl rfl (fun c1 => ?_) (fun c1 => ?_)
  · have h := ite_t c1 h
    refine SF_sub [0, 1, 2] rfl ?_
    exact w_X12_laysFirst_129 hd k44 hk44 k53 hk53 l0 l2 l3 g k_l0 h
  · have h := ite_f c1 h
    refine SF_aload_n 0 71 dX12_laysFirst_70 rfl rfl rfl ?_
    obtain ⟨b2, r3, h⟩ := dr_some h
    refine SF_getR 74 fl_X12_51 dX12_laysFirst_71 k_l0.1 r3 rfl ?_
    refine SF_iload_n 2 75 dX12_laysFirst_74 rfl rfl rfl ?_
    obtain ⟨k4, h⟩ := gdK_some h
    obtain ⟨i5, h⟩ := gdI_some h
    refine SF_iald 76 dX12_laysFirst_75 k4.1 i5 rfl ?_
    refine SF_iload_n 1 77 dX12_laysFirst_76 rfl rfl rfl ?_
    refine SF_icne 129 80 dX12_laysFirst_77 rfl rfl (fun c6 => ?_) (fun c6 => ?_)
    · have h := ite_f c6 h
      refine SF_sub [0, 1, 2] rfl ?_
      exact w_X12_laysFirst_129 hd k44 hk44 k53 hk53 l0 l2 l3 g k_l0 h
    · have h := ite_t c6 h
      refine SF_aload_n 0 81 dX12_laysFirst_80 rfl rfl rfl ?_
      obtain ⟨b7, r8, h⟩ := dr_some h
      refine SF_getR 84 fl_X12_42 dX12_laysFirst_81 k_l0.1 r8 rfl ?_
      refine SF_bipush (8 : Int32) 86 dX12_laysFirst_84 rfl rfl ?_
      refine SF_iload_n 2 87 dX12_laysFirst_86 rfl rfl rfl ?_
      refine SF_imul 88 dX12_laysFirst_87 rfl ?_
      refine SF_iload 3 90 dX12_laysFirst_88 rfl rfl ?_
      refine SF_iadd 91 dX12_laysFirst_90 rfl ?_
      obtain ⟨k9, h⟩ := gdK_some h
      obtain ⟨i10, h⟩ := gdI_some h
      refine SF_iald 92 dX12_laysFirst_91 k9.1 i10 rfl ?_
      obtain ⟨y11, e12, h⟩ := li_some h
      refine SF_eqI e12 ?_
      refine SF_istore [(5, .int y11), (0, .ref (ad X l0)), (2, .int l2), (3, .int l3), (4, .int l4)] 94 dX12_laysFirst_92 (by decide) rfl rfl ?_
      refine SF_iload 0 96 dX12_laysFirst_94 rfl rfl ?_
      refine SF_iconst (-1 : Int32) 97 dX12_laysFirst_96 rfl rfl ?_
      refine SF_iceq 123 100 dX12_laysFirst_97 rfl rfl (fun c13 => ?_) (fun c13 => ?_)
      · have h := ite_t c13 h
        refine SF_sub [1, 2, 3, 4] rfl ?_
        exact w_X12_laysFirst_123 hd k44 hk44 k53 hk53 (f_X12_laysFirst_63 k44 k53 n) ih l0 l2 l3 l4 g k_l0 h
      · have h := ite_f c13 h
        refine SF_aload_n 1 101 dX12_laysFirst_100 rfl rfl rfl ?_
        refine SF_getR 104 fl_X12_51 dX12_laysFirst_101 k_l0.1 r3 rfl ?_
        refine SF_iload 0 106 dX12_laysFirst_104 rfl rfl ?_
        obtain ⟨i14, h⟩ := gdI_some h
        refine SF_iald 107 dX12_laysFirst_106 k4.1 i14 rfl ?_
        refine SF_ldcw 110 dX12_laysFirst_107 ki_X12_354 rfl ?_
        refine SF_icne 123 113 dX12_laysFirst_110 rfl rfl (fun c15 => ?_) (fun c15 => ?_)
        · have h := ite_f c15 h
          refine SF_sub [1, 2, 3, 4] rfl ?_
          exact w_X12_laysFirst_123 hd k44 hk44 k53 hk53 (f_X12_laysFirst_63 k44 k53 n) ih l0 l2 l3 l4 g k_l0 h
        · have h := ite_t c15 h
          refine SF_aload_n 1 114 dX12_laysFirst_113 rfl rfl rfl ?_
          refine SF_getR 117 fl_X12_51 dX12_laysFirst_114 k_l0.1 r3 rfl ?_
          refine SF_iload 0 119 dX12_laysFirst_117 rfl rfl ?_
          refine SF_iload_n 2 120 dX12_laysFirst_119 rfl rfl rfl ?_
          refine SF_iconst (1 : Int32) 121 dX12_laysFirst_120 rfl rfl ?_
          refine SF_iadd 122 dX12_laysFirst_121 rfl ?_
          refine SF_iast 123 dX12_laysFirst_122 k4.1 i14 rfl ?_
          obtain ⟨g16, e17, h⟩ := lg_some h
          rw [← e17]
          have k_l0 := KD.eq e17 k_l0
          have k4 := KD.eq e17 k4
          have k9 := KD.eq e17 k9
          have r3 := gR_eq e17 r3
          have r8 := gR_eq e17 r8
          have i5 := vp_eq e17 i5
          have i10 := vp_eq e17 i10
          have i14 := vp_eq e17 i14
          refine SF_sub [1, 2, 3, 4] rfl ?_
          exact w_X12_laysFirst_123 hd k44 hk44 k53 hk53 (f_X12_laysFirst_63 k44 k53 n) ih l0 l2 l3 l4 g16 k_l0 h

set_option maxRecDepth 20000 in
set_option maxHeartbeats 2000000 in
theorem w_X12_laysFirst_53 {X : CX} {d : Nat} (hd : 7 ≤ d) {g' : G} {rx : Unit} (k44 : Nat → Int32 → G → Option (Unit × G)) (hk44 : ∀ (l0 : Nat) (l2 : Int32) (g : G), KD g l0 12 → k44 l0 l2 g = some (rx, g') → SemF X m_X12_laysFirst d 44 [(0, .ref (ad X l0)), (2, .int l2)] [] g none g') : ∀ (n : Nat) (l0 : Nat) (l2 : Int32) (l3 : Int32) (g : G), KD g l0 12 → f_X12_laysFirst_53 k44 n l0 l2 l3 g = some (rx, g') → SemF X m_X12_laysFirst d 53 [(0, .ref (ad X l0)), (2, .int l2), (3, .int l3)] [] g none g' := by
  intro n
  induction n with
  | zero =>
    intro l0 l2 l3 g k_l0 h
    rw [f_X12_laysFirst_53] at h
    cases h
  | succ n ih =>
  intro l0 l2 l3 g k_l0 h
  rw [f_X12_laysFirst_53] at h
  refine SF_iload_n 2 54 dX12_laysFirst_53 rfl rfl rfl ?_
  refine SF_sipush (1296 : Int32) 57 dX12_laysFirst_54 rfl rfl ?_
  refine SF_icge 135 60 dX12_laysFirst_57 rfl rfl (fun c1 => ?_) (fun c1 => ?_)
  · have h := ite_t c1 h
    refine SF_iinc 1 (l2 + (1 : Int32)) [(2, .int (l2 + (1 : Int32))), (0, .ref (ad X l0)), (3, .int l3)] 138 dX12_laysFirst_135 rfl rfl (by decide) rfl rfl ?_
    refine SF_goto 44 dX12_laysFirst_138 rfl ?_
    refine SF_sub [1, 0] rfl ?_
    exact hk44 l0 (l2 + (1 : Int32)) g k_l0 h
  · have h := ite_f c1 h
    refine SF_iconst (0 : Int32) 61 dX12_laysFirst_60 rfl rfl ?_
    refine SF_istore [(4, .int (0 : Int32)), (0, .ref (ad X l0)), (2, .int l2), (3, .int l3)] 63 dX12_laysFirst_61 (by decide) rfl rfl ?_
    refine SF_sub [1, 2, 3, 0] rfl ?_
    exact w_X12_laysFirst_63 hd k44 hk44 (f_X12_laysFirst_53 k44 n) ih FU l0 l2 l3 (0 : Int32) g k_l0 h

set_option maxRecDepth 20000 in
set_option maxHeartbeats 2000000 in
theorem w_X12_laysFirst_44 {X : CX} {d : Nat} (hd : 7 ≤ d) {g' : G} {rx : Unit} : ∀ (n : Nat) (l0 : Nat) (l2 : Int32) (g : G), KD g l0 12 → f_X12_laysFirst_44 n l0 l2 g = some (rx, g') → SemF X m_X12_laysFirst d 44 [(0, .ref (ad X l0)), (2, .int l2)] [] g none g' := by
  intro n
  induction n with
  | zero =>
    intro l0 l2 g k_l0 h
    rw [f_X12_laysFirst_44] at h
    cases h
  | succ n ih =>
  intro l0 l2 g k_l0 h
  rw [f_X12_laysFirst_44] at h
  refine SF_iload_n 1 45 dX12_laysFirst_44 rfl rfl rfl ?_
  refine SF_sipush (1296 : Int32) 48 dX12_laysFirst_45 rfl rfl ?_
  refine SF_icge 141 51 dX12_laysFirst_48 rfl rfl (fun c1 => ?_) (fun c1 => ?_)
  · have h := ite_t c1 h
    exact RT_v rfl dX12_laysFirst_141 h
  · have h := ite_f c1 h
    refine SF_iconst (0 : Int32) 52 dX12_laysFirst_51 rfl rfl ?_
    refine SF_istore_n [(3, .int (0 : Int32)), (0, .ref (ad X l0)), (2, .int l2)] 53 dX12_laysFirst_52 rfl (by decide) rfl rfl ?_
    refine SF_sub [1, 2, 0] rfl ?_
    exact w_X12_laysFirst_53 hd (f_X12_laysFirst_44 n) ih FU l0 l2 (0 : Int32) g k_l0 h

set_option maxRecDepth 20000 in
set_option maxHeartbeats 2000000 in
theorem w_X12_laysFirst_7 {X : CX} {d : Nat} (hd : 7 ≤ d) {g' : G} {rx : Unit} : ∀ (n : Nat) (l0 : Nat) (l1 : Int32) (l2 : Int32) (g : G), KD g l0 12 → f_X12_laysFirst_7 n l0 l1 l2 g = some (rx, g') → SemF X m_X12_laysFirst d 7 [(0, .ref (ad X l0)), (1, .int l1), (2, .int l2)] [] g none g' := by
  intro n
  induction n with
  | zero =>
    intro l0 l1 l2 g k_l0 h
    rw [f_X12_laysFirst_7] at h
    cases h
  | succ n ih =>
  intro l0 l1 l2 g k_l0 h
  rw [f_X12_laysFirst_7] at h
  refine SF_iload_n 2 8 dX12_laysFirst_7 rfl rfl rfl ?_
  refine SF_sipush (1296 : Int32) 11 dX12_laysFirst_8 rfl rfl ?_
  refine SF_icge 42 14 dX12_laysFirst_11 rfl rfl (fun c1 => ?_) (fun c1 => ?_)
  · have h := ite_t c1 h
    refine SF_iconst (0 : Int32) 43 dX12_laysFirst_42 rfl rfl ?_
    refine SF_istore_n [(2, .int (0 : Int32)), (0, .ref (ad X l0)), (1, .int l1)] 44 dX12_laysFirst_43 rfl (by decide) rfl rfl ?_
    refine SF_sub [1, 0] rfl ?_
    exact w_X12_laysFirst_44 hd FU l0 (0 : Int32) g k_l0 h
  · have h := ite_f c1 h
    refine SF_aload_n 0 15 dX12_laysFirst_14 rfl rfl rfl ?_
    obtain ⟨b2, r3, h⟩ := dr_some h
    refine SF_getR 18 fl_X12_51 dX12_laysFirst_15 k_l0.1 r3 rfl ?_
    refine SF_iload_n 2 19 dX12_laysFirst_18 rfl rfl rfl ?_
    refine SF_iload_n 2 20 dX12_laysFirst_19 rfl rfl rfl ?_
    refine SF_aload_n 0 21 dX12_laysFirst_20 rfl rfl rfl ?_
    refine SF_iload_n 1 22 dX12_laysFirst_21 rfl rfl rfl ?_
    obtain ⟨v4, g5, q6, h⟩ := bd_some h
    have s7 := w_X12_standNow (X := X) (Nat.le_refl 1) l0 l1 g g5 v4 k_l0 q6
    refine SF_callVi 25 mi_X12_standNow ml_X12_370 dX12_laysFirst_22 (Nat.le_trans (by decide) hd) s7 k_l0.1 rfl rfl (Nat.le_of_ble_eq_true rfl) rfl ?_
    have k_l0 := k_l0.ext s7.1
    refine SF_icne 32 28 dX12_laysFirst_25 rfl rfl (fun c8 => ?_) (fun c8 => ?_)
    · have h := ite_f c8 h
      refine SF_ldcw 35 dX12_laysFirst_32 ki_X12_354 rfl ?_
      obtain ⟨k9, h⟩ := gdK_some h
      exact w_X12_laysFirst_35 hd (f_X12_laysFirst_7 n) ih l0 l1 l2 (1073741824 : Int32) l2 b2 g5 k_l0 k9 h
    · have h := ite_t c8 h
      refine SF_iconst (0 : Int32) 29 dX12_laysFirst_28 rfl rfl ?_
      refine SF_goto 35 dX12_laysFirst_29 rfl ?_
      obtain ⟨k10, h⟩ := gdK_some h
      exact w_X12_laysFirst_35 hd (f_X12_laysFirst_7 n) ih l0 l1 l2 (0 : Int32) l2 b2 g5 k_l0 k10 h

set_option maxRecDepth 20000 in
set_option maxHeartbeats 2000000 in
theorem w_X12_laysFirst {X : CX} {d : Nat} (hd : 7 ≤ d) (l0 : Nat) (l1 : Int32) (g g' : G) (rx : Unit) (k_l0 : KD g l0 12) (h : f_X12_laysFirst l0 l1 g = some (rx, g')) : Sem X m_X12_laysFirst d [.ref (ad X l0), .int l1] g none g' := by
  refine Sem_of (lo := [(0, .ref (ad X l0)), (1, .int l1)]) (by decide +kernel) rfl (Nat.le_of_ble_eq_true rfl) ?_
  rw [f_X12_laysFirst] at h
  refine SF_aload_n 0 1 dX12_laysFirst_0 rfl rfl rfl ?_
  refine SF_iload_n 1 2 dX12_laysFirst_1 rfl rfl rfl ?_
  obtain ⟨v1, g2, q3, h⟩ := bd_some h
  have s4 := w_X12_laysStands (X := X) (Nat.le_refl 6) l0 l1 g g2 v1 k_l0 q3
  refine SF_callVv 5 mi_X12_laysStands ml_X12_376 dX12_laysFirst_2 (Nat.le_trans (by decide) hd) s4 k_l0.1 rfl rfl (Nat.le_of_ble_eq_true rfl) rfl ?_
  have k_l0 := k_l0.ext s4.1
  refine SF_iconst (0 : Int32) 6 dX12_laysFirst_5 rfl rfl ?_
  refine SF_istore_n [(2, .int (0 : Int32)), (0, .ref (ad X l0)), (1, .int l1)] 7 dX12_laysFirst_6 rfl (by decide) rfl rfl ?_
  refine SF_sub [1, 2, 0] rfl ?_
  exact w_X12_laysFirst_7 hd FU l0 l1 (0 : Int32) g2 k_l0 h

theorem dX12_reach_0 : decode cX12_reach 0 = .ok (.aload_n 0, 1) := by decide +kernel
theorem dX12_reach_1 : decode cX12_reach 1 = .ok (.iconst 0, 1) := by decide +kernel
theorem dX12_reach_2 : decode cX12_reach 2 = .ok (.putfield 1, 3) := by decide +kernel
theorem dX12_reach_5 : decode cX12_reach 5 = .ok (.aload_n 0, 1) := by decide +kernel
theorem dX12_reach_6 : decode cX12_reach 6 = .ok (.iload_n 1, 1) := by decide +kernel
theorem dX12_reach_7 : decode cX12_reach 7 = .ok (.i2l, 1) := by decide +kernel
theorem dX12_reach_8 : decode cX12_reach 8 = .ok (.invokevirtual 255, 3) := by decide +kernel
theorem dX12_reach_11 : decode cX12_reach 11 = .ok (.ifCond .eq 10, 3) := by decide +kernel
theorem dX12_reach_14 : decode cX12_reach 14 = .ok (.iload_n 2, 1) := by decide +kernel
theorem dX12_reach_15 : decode cX12_reach 15 = .ok (.invokestatic 417, 3) := by decide +kernel
theorem dX12_reach_18 : decode cX12_reach 18 = .ok (.ifCond .ne 7, 3) := by decide +kernel
theorem dX12_reach_21 : decode cX12_reach 21 = .ok (.ldc2_w 396, 3) := by decide +kernel
theorem dX12_reach_24 : decode cX12_reach 24 = .ok (.lreturn, 1) := by decide +kernel
theorem dX12_reach_25 : decode cX12_reach 25 = .ok (.aload_n 0, 1) := by decide +kernel
theorem dX12_reach_26 : decode cX12_reach 26 = .ok (.iload_n 1, 1) := by decide +kernel
theorem dX12_reach_27 : decode cX12_reach 27 = .ok (.invokevirtual 420, 3) := by decide +kernel
theorem dX12_reach_30 : decode cX12_reach 30 = .ok (.lconst 0, 1) := by decide +kernel
theorem dX12_reach_31 : decode cX12_reach 31 = .ok (.lstore_n 3, 1) := by decide +kernel
theorem dX12_reach_32 : decode cX12_reach 32 = .ok (.iconst 0, 1) := by decide +kernel
theorem dX12_reach_33 : decode cX12_reach 33 = .ok (.istore 5, 2) := by decide +kernel
theorem dX12_reach_35 : decode cX12_reach 35 = .ok (.iload 5, 2) := by decide +kernel
theorem dX12_reach_37 : decode cX12_reach 37 = .ok (.sipush 1296, 3) := by decide +kernel
theorem dX12_reach_40 : decode cX12_reach 40 = .ok (.if_icmp .ge 37, 3) := by decide +kernel
theorem dX12_reach_43 : decode cX12_reach 43 = .ok (.lload_n 3, 1) := by decide +kernel
theorem dX12_reach_44 : decode cX12_reach 44 = .ok (.aload_n 0, 1) := by decide +kernel
theorem dX12_reach_45 : decode cX12_reach 45 = .ok (.getfield 51, 3) := by decide +kernel
theorem dX12_reach_48 : decode cX12_reach 48 = .ok (.iload 5, 2) := by decide +kernel
theorem dX12_reach_50 : decode cX12_reach 50 = .ok (.iaload, 1) := by decide +kernel
theorem dX12_reach_51 : decode cX12_reach 51 = .ok (.ldc_w 354, 3) := by decide +kernel
theorem dX12_reach_54 : decode cX12_reach 54 = .ok (.if_icmp .ge 14, 3) := by decide +kernel
theorem dX12_reach_57 : decode cX12_reach 57 = .ok (.lconst 1, 1) := by decide +kernel
theorem dX12_reach_58 : decode cX12_reach 58 = .ok (.iload 5, 2) := by decide +kernel
theorem dX12_reach_60 : decode cX12_reach 60 = .ok (.iload_n 2, 1) := by decide +kernel
theorem dX12_reach_61 : decode cX12_reach 61 = .ok (.invokestatic 347, 3) := by decide +kernel
theorem dX12_reach_64 : decode cX12_reach 64 = .ok (.lshl, 1) := by decide +kernel
theorem dX12_reach_65 : decode cX12_reach 65 = .ok (.goto 4, 3) := by decide +kernel
theorem dX12_reach_68 : decode cX12_reach 68 = .ok (.lconst 0, 1) := by decide +kernel
theorem dX12_reach_69 : decode cX12_reach 69 = .ok (.lor, 1) := by decide +kernel
theorem dX12_reach_70 : decode cX12_reach 70 = .ok (.lstore_n 3, 1) := by decide +kernel
theorem dX12_reach_71 : decode cX12_reach 71 = .ok (.iinc 5 1, 3) := by decide +kernel
theorem dX12_reach_74 : decode cX12_reach 74 = .ok (.goto (-39), 3) := by decide +kernel
theorem dX12_reach_77 : decode cX12_reach 77 = .ok (.lload_n 3, 1) := by decide +kernel
theorem dX12_reach_78 : decode cX12_reach 78 = .ok (.lreturn, 1) := by decide +kernel
set_option maxRecDepth 20000 in
set_option maxHeartbeats 2000000 in
theorem w_X12_reach_21 {X : CX} {d : Nat} (hd : 8 ≤ d) {g' : G} {rx : Int64} (g : G) (h : f_X12_reach_21 g = some (rx, g')) : SemF X m_X12_reach d 21 [] [] g (some (.long rx)) g' := by
  rw [f_X12_reach_21] at h
  refine SF_ldc2 24 dX12_reach_21 kl_X12_396 rfl ?_
  exact RT_l rfl dX12_reach_24 h

set_option maxRecDepth 20000 in
set_option maxHeartbeats 2000000 in
theorem w_X12_reach_69 {X : CX} {d : Nat} (hd : 8 ≤ d) {g' : G} {rx : Int64} (k35 : Nat → Int32 → Int64 → Int32 → G → Option (Int64 × G)) (hk35 : ∀ (l0 : Nat) (l2 : Int32) (l3 : Int64) (l5 : Int32) (g : G), KD g l0 12 → k35 l0 l2 l3 l5 g = some (rx, g') → SemF X m_X12_reach d 35 [(0, .ref (ad X l0)), (2, .int l2), (3, .long l3), (5, .int l5)] [] g (some (.long rx)) g') (l0 : Nat) (l2 : Int32) (l5 : Int32) (s0 : Int64) (s1 : Int64) (g : G) (k_l0 : KD g l0 12) (h : f_X12_reach_69 k35 l0 l2 l5 s0 s1 g = some (rx, g')) : SemF X m_X12_reach d 69 [(0, .ref (ad X l0)), (2, .int l2), (5, .int l5)] [.long s0, .long s1] g (some (.long rx)) g' := by
  rw [f_X12_reach_69] at h
  refine SF_lor 70 dX12_reach_69 rfl ?_
  obtain ⟨y1, e2, h⟩ := ll_some h
  refine SF_eqL e2 ?_
  refine SF_lstore_n [(3, .long y1), (0, .ref (ad X l0)), (2, .int l2), (5, .int l5)] 71 dX12_reach_70 rfl (by decide) rfl rfl ?_
  refine SF_iinc 3 (l5 + (1 : Int32)) [(5, .int (l5 + (1 : Int32))), (3, .long y1), (0, .ref (ad X l0)), (2, .int l2)] 74 dX12_reach_71 rfl rfl (by decide) rfl rfl ?_
  refine SF_goto 35 dX12_reach_74 rfl ?_
  refine SF_sub [2, 3, 1, 0] rfl ?_
  exact hk35 l0 l2 y1 (l5 + (1 : Int32)) g k_l0 h

set_option maxRecDepth 20000 in
set_option maxHeartbeats 2000000 in
theorem w_X12_reach_35 {X : CX} {d : Nat} (hd : 8 ≤ d) {g' : G} {rx : Int64} : ∀ (n : Nat) (l0 : Nat) (l2 : Int32) (l3 : Int64) (l5 : Int32) (g : G), KD g l0 12 → f_X12_reach_35 n l0 l2 l3 l5 g = some (rx, g') → SemF X m_X12_reach d 35 [(0, .ref (ad X l0)), (2, .int l2), (3, .long l3), (5, .int l5)] [] g (some (.long rx)) g' := by
  intro n
  induction n with
  | zero =>
    intro l0 l2 l3 l5 g k_l0 h
    rw [f_X12_reach_35] at h
    cases h
  | succ n ih =>
  intro l0 l2 l3 l5 g k_l0 h
  rw [f_X12_reach_35] at h
  refine SF_iload 3 37 dX12_reach_35 rfl rfl ?_
  refine SF_sipush (1296 : Int32) 40 dX12_reach_37 rfl rfl ?_
  refine SF_icge 77 43 dX12_reach_40 rfl rfl (fun c1 => ?_) (fun c1 => ?_)
  · have h := ite_t c1 h
    refine SF_lload_n 2 78 dX12_reach_77 rfl rfl rfl ?_
    exact RT_l rfl dX12_reach_78 h
  · have h := ite_f c1 h
    refine SF_lload_n 2 44 dX12_reach_43 rfl rfl rfl ?_
    refine SF_aload_n 0 45 dX12_reach_44 rfl rfl rfl ?_
    obtain ⟨b2, r3, h⟩ := dr_some h
    refine SF_getR 48 fl_X12_51 dX12_reach_45 k_l0.1 r3 rfl ?_
    refine SF_iload 3 50 dX12_reach_48 rfl rfl ?_
    obtain ⟨k4, h⟩ := gdK_some h
    obtain ⟨i5, h⟩ := gdI_some h
    refine SF_iald 51 dX12_reach_50 k4.1 i5 rfl ?_
    refine SF_ldcw 54 dX12_reach_51 ki_X12_354 rfl ?_
    refine SF_icge 68 57 dX12_reach_54 rfl rfl (fun c6 => ?_) (fun c6 => ?_)
    · have h := ite_t c6 h
      refine SF_lconst (0 : Int64) 69 dX12_reach_68 rfl rfl ?_
      refine SF_sub [0, 1, 3] rfl ?_
      exact w_X12_reach_69 hd (f_X12_reach_35 n) ih l0 l2 l5 (0 : Int64) l3 g k_l0 h
    · have h := ite_f c6 h
      refine SF_lconst (1 : Int64) 58 dX12_reach_57 rfl rfl ?_
      refine SF_iload 3 60 dX12_reach_58 rfl rfl ?_
      refine SF_iload_n 1 61 dX12_reach_60 rfl rfl rfl ?_
      obtain ⟨v7, g8, q9, h⟩ := bd_some h
      have s10 := w_X12_inStand (X := X) (Nat.le_refl 0) l5 l2 g g8 v7 q9
      refine SF_callSi 64 mi_X12_inStand ml_X12_347 dX12_reach_61 (Nat.le_trans (by decide) hd) s10 rfl rfl (Nat.le_of_ble_eq_true rfl) rfl ?_
      have k_l0 := k_l0.ext s10.1
      have k4 := k4.ext s10.1
      refine SF_lshl 65 dX12_reach_64 rfl ?_
      refine SF_goto 69 dX12_reach_65 rfl ?_
      refine SF_sub [0, 1, 3] rfl ?_
      exact w_X12_reach_69 hd (f_X12_reach_35 n) ih l0 l2 l5 ((1 : Int64) <<< (v7.toInt64 &&& 63)) l3 g8 k_l0 h

set_option maxRecDepth 20000 in
set_option maxHeartbeats 2000000 in
theorem w_X12_reach {X : CX} {d : Nat} (hd : 8 ≤ d) (l0 : Nat) (l1 : Int32) (l2 : Int32) (g g' : G) (rx : Int64) (k_l0 : KD g l0 12) (h : f_X12_reach l0 l1 l2 g = some (rx, g')) : Sem X m_X12_reach d [.ref (ad X l0), .int l1, .int l2] g (some (.long rx)) g' := by
  refine Sem_of (lo := [(0, .ref (ad X l0)), (1, .int l1), (2, .int l2)]) (by decide +kernel) rfl (Nat.le_of_ble_eq_true rfl) ?_
  rw [f_X12_reach] at h
  refine SF_aload_n 0 1 dX12_reach_0 rfl rfl rfl ?_
  refine SF_iconst (0 : Int32) 2 dX12_reach_1 rfl rfl ?_
  refine SF_putI 5 fl_X12_1 dX12_reach_2 k_l0.1 (fn_int _) (Or.inl rfl) rfl ?_
  obtain ⟨g1, e2, h⟩ := lg_some h
  rw [← e2]
  have k_l0 := KD.eq e2 k_l0
  refine SF_aload_n 0 6 dX12_reach_5 rfl rfl rfl ?_
  refine SF_iload_n 1 7 dX12_reach_6 rfl rfl rfl ?_
  refine SF_i2l 8 dX12_reach_7 rfl ?_
  obtain ⟨v3, g4, q5, h⟩ := bd_some h
  have s6 := w_X12_isPair (X := X) (Nat.le_refl 1) l0 (l1.toInt64) g1 g4 v3 k_l0 q5
  refine SF_callVb 11 mi_X12_isPair ml_X12_255 dX12_reach_8 (Nat.le_trans (by decide) hd) s6 k_l0.1 rfl rfl (Nat.le_of_ble_eq_true rfl) rfl ?_
  have k_l0 := k_l0.ext s6.1
  refine SF_ifeq 21 14 dX12_reach_11 rfl rfl (fun c7 => ?_) (fun c7 => ?_)
  · have h := ite_t c7 h
    refine SF_sub [] rfl ?_
    exact w_X12_reach_21 hd g4  h
  · have h := ite_f c7 h
    refine SF_iload_n 2 15 dX12_reach_14 rfl rfl rfl ?_
    obtain ⟨v8, g9, q10, h⟩ := bd_some h
    have s11 := w_X12_isTwin (X := X) (Nat.le_refl 1) l2 g4 g9 v8 q10
    refine SF_callSb 18 mi_X12_isTwin ml_X12_417 dX12_reach_15 (Nat.le_trans (by decide) hd) s11 rfl rfl (Nat.le_of_ble_eq_true rfl) rfl ?_
    have k_l0 := k_l0.ext s11.1
    refine SF_ifne 25 21 dX12_reach_18 rfl rfl (fun c12 => ?_) (fun c12 => ?_)
    · have h := ite_f c12 h
      refine SF_aload_n 0 26 dX12_reach_25 rfl rfl rfl ?_
      refine SF_iload_n 1 27 dX12_reach_26 rfl rfl rfl ?_
      obtain ⟨v13, g14, q15, h⟩ := bd_some h
      have s16 := w_X12_laysFirst (X := X) (Nat.le_refl 7) l0 l1 g9 g14 v13 k_l0 q15
      refine SF_callVv 30 mi_X12_laysFirst ml_X12_420 dX12_reach_27 (Nat.le_trans (by decide) hd) s16 k_l0.1 rfl rfl (Nat.le_of_ble_eq_true rfl) rfl ?_
      have k_l0 := k_l0.ext s16.1
      refine SF_lconst (0 : Int64) 31 dX12_reach_30 rfl rfl ?_
      refine SF_lstore_n [(3, .long (0 : Int64)), (0, .ref (ad X l0)), (1, .int l1), (2, .int l2)] 32 dX12_reach_31 rfl (by decide) rfl rfl ?_
      refine SF_iconst (0 : Int32) 33 dX12_reach_32 rfl rfl ?_
      refine SF_istore [(5, .int (0 : Int32)), (3, .long (0 : Int64)), (0, .ref (ad X l0)), (1, .int l1), (2, .int l2)] 35 dX12_reach_33 (by decide) rfl rfl ?_
      refine SF_sub [2, 4, 1, 0] rfl ?_
      exact w_X12_reach_35 hd FU l0 l2 (0 : Int64) (0 : Int32) g14 k_l0 h
    · have h := ite_t c12 h
      refine SF_sub [] rfl ?_
      exact w_X12_reach_21 hd g9  h

theorem dX11_stands_0 : decode cX11_stands 0 = .ok (.aload_n 0, 1) := by decide +kernel
theorem dX11_stands_1 : decode cX11_stands 1 = .ok (.getfield 78, 3) := by decide +kernel
theorem dX11_stands_4 : decode cX11_stands 4 = .ok (.iload_n 1, 1) := by decide +kernel
theorem dX11_stands_5 : decode cX11_stands 5 = .ok (.invokevirtual 161, 3) := by decide +kernel
theorem dX11_stands_8 : decode cX11_stands 8 = .ok (.ifCond .ne 6, 3) := by decide +kernel
theorem dX11_stands_11 : decode cX11_stands 11 = .ok (.bipush (-2), 2) := by decide +kernel
theorem dX11_stands_13 : decode cX11_stands 13 = .ok (.ireturn, 1) := by decide +kernel
theorem dX11_stands_14 : decode cX11_stands 14 = .ok (.aload_n 0, 1) := by decide +kernel
theorem dX11_stands_15 : decode cX11_stands 15 = .ok (.iload_n 1, 1) := by decide +kernel
theorem dX11_stands_16 : decode cX11_stands 16 = .ok (.invokevirtual 259, 3) := by decide +kernel
theorem dX11_stands_19 : decode cX11_stands 19 = .ok (.getfield 339, 3) := by decide +kernel
theorem dX11_stands_22 : decode cX11_stands 22 = .ok (.ireturn, 1) := by decide +kernel
set_option maxRecDepth 20000 in
set_option maxHeartbeats 2000000 in
theorem w_X11_stands {X : CX} {d : Nat} (hd : 7 ≤ d) (l0 : Nat) (l1 : Int32) (g g' : G) (rx : Int32) (k_l0 : KD g l0 11) (h : f_X11_stands l0 l1 g = some (rx, g')) : Sem X m_X11_stands d [.ref (ad X l0), .int l1] g (some (.int rx)) g' := by
  refine Sem_of (lo := [(0, .ref (ad X l0)), (1, .int l1)]) (by decide +kernel) rfl (Nat.le_of_ble_eq_true rfl) ?_
  rw [f_X11_stands] at h
  refine SF_aload_n 0 1 dX11_stands_0 rfl rfl rfl ?_
  obtain ⟨b1, r2, h⟩ := dr_some h
  refine SF_getR 4 fl_X11_78 dX11_stands_1 k_l0.1 r2 rfl ?_
  refine SF_iload_n 1 5 dX11_stands_4 rfl rfl rfl ?_
  obtain ⟨k3, h⟩ := gdK_some h
  obtain ⟨v4, g5, q6, h⟩ := bd_some h
  have s7 := w_X0_isPair (X := X) (Nat.le_refl 0) b1 l1 g g5 v4 k3 q6
  refine SF_callVb 8 mi_X0_isPair ml_X11_161 dX11_stands_5 (Nat.le_trans (by decide) hd) s7 k3.1 rfl rfl (Nat.le_of_ble_eq_true rfl) rfl ?_
  have k_l0 := k_l0.ext s7.1
  have k3 := k3.ext s7.1
  refine SF_ifne 14 11 dX11_stands_8 rfl rfl (fun c8 => ?_) (fun c8 => ?_)
  · have h := ite_f c8 h
    refine SF_aload_n 0 15 dX11_stands_14 rfl rfl rfl ?_
    refine SF_iload_n 1 16 dX11_stands_15 rfl rfl rfl ?_
    obtain ⟨v9, g10, q11, h⟩ := bd_some h
    have s12 := w_X11_graphOf (X := X) (Nat.le_refl 6) l0 l1 g5 g10 v9 k_l0 q11
    refine SF_callVr 19 mi_X11_graphOf ml_X11_259 dX11_stands_16 (Nat.le_trans (by decide) hd) s12 k_l0.1 rfl rfl (Nat.le_of_ble_eq_true rfl) rfl ?_
    have k_l0 := k_l0.ext s12.1
    have k3 := k3.ext s12.1
    obtain ⟨k13, h⟩ := gdK_some h
    refine SF_getI 22 fl_X11_339 dX11_stands_19 k13.1 rfl ?_
    exact RT_i rfl dX11_stands_22 h
  · have h := ite_t c8 h
    refine SF_bipush (-2 : Int32) 13 dX11_stands_11 rfl rfl ?_
    exact RT_i rfl dX11_stands_13 h

theorem dX12_stands_0 : decode cX12_stands 0 = .ok (.aload_n 0, 1) := by decide +kernel
theorem dX12_stands_1 : decode cX12_stands 1 = .ok (.iconst 0, 1) := by decide +kernel
theorem dX12_stands_2 : decode cX12_stands 2 = .ok (.putfield 1, 3) := by decide +kernel
theorem dX12_stands_5 : decode cX12_stands 5 = .ok (.aload_n 0, 1) := by decide +kernel
theorem dX12_stands_6 : decode cX12_stands 6 = .ok (.iload_n 1, 1) := by decide +kernel
theorem dX12_stands_7 : decode cX12_stands 7 = .ok (.i2l, 1) := by decide +kernel
theorem dX12_stands_8 : decode cX12_stands 8 = .ok (.invokevirtual 255, 3) := by decide +kernel
theorem dX12_stands_11 : decode cX12_stands 11 = .ok (.ifCond .ne 6, 3) := by decide +kernel
theorem dX12_stands_14 : decode cX12_stands 14 = .ok (.bipush (-2), 2) := by decide +kernel
theorem dX12_stands_16 : decode cX12_stands 16 = .ok (.ireturn, 1) := by decide +kernel
theorem dX12_stands_17 : decode cX12_stands 17 = .ok (.aload_n 0, 1) := by decide +kernel
theorem dX12_stands_18 : decode cX12_stands 18 = .ok (.iload_n 1, 1) := by decide +kernel
theorem dX12_stands_19 : decode cX12_stands 19 = .ok (.invokevirtual 420, 3) := by decide +kernel
theorem dX12_stands_22 : decode cX12_stands 22 = .ok (.iconst 0, 1) := by decide +kernel
theorem dX12_stands_23 : decode cX12_stands 23 = .ok (.istore_n 2, 1) := by decide +kernel
theorem dX12_stands_24 : decode cX12_stands 24 = .ok (.iconst 0, 1) := by decide +kernel
theorem dX12_stands_25 : decode cX12_stands 25 = .ok (.istore_n 3, 1) := by decide +kernel
theorem dX12_stands_26 : decode cX12_stands 26 = .ok (.iload_n 3, 1) := by decide +kernel
theorem dX12_stands_27 : decode cX12_stands 27 = .ok (.sipush 1296, 3) := by decide +kernel
theorem dX12_stands_30 : decode cX12_stands 30 = .ok (.if_icmp .ge 29, 3) := by decide +kernel
theorem dX12_stands_33 : decode cX12_stands 33 = .ok (.iload_n 2, 1) := by decide +kernel
theorem dX12_stands_34 : decode cX12_stands 34 = .ok (.aload_n 0, 1) := by decide +kernel
theorem dX12_stands_35 : decode cX12_stands 35 = .ok (.getfield 51, 3) := by decide +kernel
theorem dX12_stands_38 : decode cX12_stands 38 = .ok (.iload_n 3, 1) := by decide +kernel
theorem dX12_stands_39 : decode cX12_stands 39 = .ok (.iaload, 1) := by decide +kernel
theorem dX12_stands_40 : decode cX12_stands 40 = .ok (.ldc_w 354, 3) := by decide +kernel
theorem dX12_stands_43 : decode cX12_stands 43 = .ok (.if_icmp .ge 7, 3) := by decide +kernel
theorem dX12_stands_46 : decode cX12_stands 46 = .ok (.iconst 1, 1) := by decide +kernel
theorem dX12_stands_47 : decode cX12_stands 47 = .ok (.goto 4, 3) := by decide +kernel
theorem dX12_stands_50 : decode cX12_stands 50 = .ok (.iconst 0, 1) := by decide +kernel
theorem dX12_stands_51 : decode cX12_stands 51 = .ok (.iadd, 1) := by decide +kernel
theorem dX12_stands_52 : decode cX12_stands 52 = .ok (.istore_n 2, 1) := by decide +kernel
theorem dX12_stands_53 : decode cX12_stands 53 = .ok (.iinc 3 1, 3) := by decide +kernel
theorem dX12_stands_56 : decode cX12_stands 56 = .ok (.goto (-30), 3) := by decide +kernel
theorem dX12_stands_59 : decode cX12_stands 59 = .ok (.iload_n 2, 1) := by decide +kernel
theorem dX12_stands_60 : decode cX12_stands 60 = .ok (.ireturn, 1) := by decide +kernel
set_option maxRecDepth 20000 in
set_option maxHeartbeats 2000000 in
theorem w_X12_stands_51 {X : CX} {d : Nat} (hd : 8 ≤ d) {g' : G} {rx : Int32} (k26 : Nat → Int32 → Int32 → G → Option (Int32 × G)) (hk26 : ∀ (l0 : Nat) (l2 : Int32) (l3 : Int32) (g : G), KD g l0 12 → k26 l0 l2 l3 g = some (rx, g') → SemF X m_X12_stands d 26 [(0, .ref (ad X l0)), (2, .int l2), (3, .int l3)] [] g (some (.int rx)) g') (l0 : Nat) (l3 : Int32) (s0 : Int32) (s1 : Int32) (g : G) (k_l0 : KD g l0 12) (h : f_X12_stands_51 k26 l0 l3 s0 s1 g = some (rx, g')) : SemF X m_X12_stands d 51 [(0, .ref (ad X l0)), (3, .int l3)] [.int s0, .int s1] g (some (.int rx)) g' := by
  rw [f_X12_stands_51] at h
  refine SF_iadd 52 dX12_stands_51 rfl ?_
  obtain ⟨y1, e2, h⟩ := li_some h
  refine SF_eqI e2 ?_
  refine SF_istore_n [(2, .int y1), (0, .ref (ad X l0)), (3, .int l3)] 53 dX12_stands_52 rfl (by decide) rfl rfl ?_
  refine SF_iinc 2 (l3 + (1 : Int32)) [(3, .int (l3 + (1 : Int32))), (2, .int y1), (0, .ref (ad X l0))] 56 dX12_stands_53 rfl rfl (by decide) rfl rfl ?_
  refine SF_goto 26 dX12_stands_56 rfl ?_
  refine SF_sub [2, 1, 0] rfl ?_
  exact hk26 l0 y1 (l3 + (1 : Int32)) g k_l0 h

set_option maxRecDepth 20000 in
set_option maxHeartbeats 2000000 in
theorem w_X12_stands_26 {X : CX} {d : Nat} (hd : 8 ≤ d) {g' : G} {rx : Int32} : ∀ (n : Nat) (l0 : Nat) (l2 : Int32) (l3 : Int32) (g : G), KD g l0 12 → f_X12_stands_26 n l0 l2 l3 g = some (rx, g') → SemF X m_X12_stands d 26 [(0, .ref (ad X l0)), (2, .int l2), (3, .int l3)] [] g (some (.int rx)) g' := by
  intro n
  induction n with
  | zero =>
    intro l0 l2 l3 g k_l0 h
    rw [f_X12_stands_26] at h
    cases h
  | succ n ih =>
  intro l0 l2 l3 g k_l0 h
  rw [f_X12_stands_26] at h
  refine SF_iload_n 2 27 dX12_stands_26 rfl rfl rfl ?_
  refine SF_sipush (1296 : Int32) 30 dX12_stands_27 rfl rfl ?_
  refine SF_icge 59 33 dX12_stands_30 rfl rfl (fun c1 => ?_) (fun c1 => ?_)
  · have h := ite_t c1 h
    refine SF_iload_n 1 60 dX12_stands_59 rfl rfl rfl ?_
    exact RT_i rfl dX12_stands_60 h
  · have h := ite_f c1 h
    refine SF_iload_n 1 34 dX12_stands_33 rfl rfl rfl ?_
    refine SF_aload_n 0 35 dX12_stands_34 rfl rfl rfl ?_
    obtain ⟨b2, r3, h⟩ := dr_some h
    refine SF_getR 38 fl_X12_51 dX12_stands_35 k_l0.1 r3 rfl ?_
    refine SF_iload_n 2 39 dX12_stands_38 rfl rfl rfl ?_
    obtain ⟨k4, h⟩ := gdK_some h
    obtain ⟨i5, h⟩ := gdI_some h
    refine SF_iald 40 dX12_stands_39 k4.1 i5 rfl ?_
    refine SF_ldcw 43 dX12_stands_40 ki_X12_354 rfl ?_
    refine SF_icge 50 46 dX12_stands_43 rfl rfl (fun c6 => ?_) (fun c6 => ?_)
    · have h := ite_t c6 h
      refine SF_iconst (0 : Int32) 51 dX12_stands_50 rfl rfl ?_
      refine SF_sub [0, 2] rfl ?_
      exact w_X12_stands_51 hd (f_X12_stands_26 n) ih l0 l3 (0 : Int32) l2 g k_l0 h
    · have h := ite_f c6 h
      refine SF_iconst (1 : Int32) 47 dX12_stands_46 rfl rfl ?_
      refine SF_goto 51 dX12_stands_47 rfl ?_
      refine SF_sub [0, 2] rfl ?_
      exact w_X12_stands_51 hd (f_X12_stands_26 n) ih l0 l3 (1 : Int32) l2 g k_l0 h

set_option maxRecDepth 20000 in
set_option maxHeartbeats 2000000 in
theorem w_X12_stands {X : CX} {d : Nat} (hd : 8 ≤ d) (l0 : Nat) (l1 : Int32) (g g' : G) (rx : Int32) (k_l0 : KD g l0 12) (h : f_X12_stands l0 l1 g = some (rx, g')) : Sem X m_X12_stands d [.ref (ad X l0), .int l1] g (some (.int rx)) g' := by
  refine Sem_of (lo := [(0, .ref (ad X l0)), (1, .int l1)]) (by decide +kernel) rfl (Nat.le_of_ble_eq_true rfl) ?_
  rw [f_X12_stands] at h
  refine SF_aload_n 0 1 dX12_stands_0 rfl rfl rfl ?_
  refine SF_iconst (0 : Int32) 2 dX12_stands_1 rfl rfl ?_
  refine SF_putI 5 fl_X12_1 dX12_stands_2 k_l0.1 (fn_int _) (Or.inl rfl) rfl ?_
  obtain ⟨g1, e2, h⟩ := lg_some h
  rw [← e2]
  have k_l0 := KD.eq e2 k_l0
  refine SF_aload_n 0 6 dX12_stands_5 rfl rfl rfl ?_
  refine SF_iload_n 1 7 dX12_stands_6 rfl rfl rfl ?_
  refine SF_i2l 8 dX12_stands_7 rfl ?_
  obtain ⟨v3, g4, q5, h⟩ := bd_some h
  have s6 := w_X12_isPair (X := X) (Nat.le_refl 1) l0 (l1.toInt64) g1 g4 v3 k_l0 q5
  refine SF_callVb 11 mi_X12_isPair ml_X12_255 dX12_stands_8 (Nat.le_trans (by decide) hd) s6 k_l0.1 rfl rfl (Nat.le_of_ble_eq_true rfl) rfl ?_
  have k_l0 := k_l0.ext s6.1
  refine SF_ifne 17 14 dX12_stands_11 rfl rfl (fun c7 => ?_) (fun c7 => ?_)
  · have h := ite_f c7 h
    refine SF_aload_n 0 18 dX12_stands_17 rfl rfl rfl ?_
    refine SF_iload_n 1 19 dX12_stands_18 rfl rfl rfl ?_
    obtain ⟨v8, g9, q10, h⟩ := bd_some h
    have s11 := w_X12_laysFirst (X := X) (Nat.le_refl 7) l0 l1 g4 g9 v8 k_l0 q10
    refine SF_callVv 22 mi_X12_laysFirst ml_X12_420 dX12_stands_19 (Nat.le_trans (by decide) hd) s11 k_l0.1 rfl rfl (Nat.le_of_ble_eq_true rfl) rfl ?_
    have k_l0 := k_l0.ext s11.1
    refine SF_iconst (0 : Int32) 23 dX12_stands_22 rfl rfl ?_
    refine SF_istore_n [(2, .int (0 : Int32)), (0, .ref (ad X l0)), (1, .int l1)] 24 dX12_stands_23 rfl (by decide) rfl rfl ?_
    refine SF_iconst (0 : Int32) 25 dX12_stands_24 rfl rfl ?_
    refine SF_istore_n [(3, .int (0 : Int32)), (2, .int (0 : Int32)), (0, .ref (ad X l0)), (1, .int l1)] 26 dX12_stands_25 rfl (by decide) rfl rfl ?_
    refine SF_sub [2, 1, 0] rfl ?_
    exact w_X12_stands_26 hd FU l0 (0 : Int32) (0 : Int32) g9 k_l0 h
  · have h := ite_t c7 h
    refine SF_bipush (-2 : Int32) 16 dX12_stands_14 rfl rfl ?_
    exact RT_i rfl dX12_stands_16 h

theorem dX4_lastCellOf_0 : decode cX4_lastCellOf 0 = .ok (.lconst 0, 1) := by decide +kernel
theorem dX4_lastCellOf_1 : decode cX4_lastCellOf 1 = .ok (.lstore_n 2, 1) := by decide +kernel
theorem dX4_lastCellOf_2 : decode cX4_lastCellOf 2 = .ok (.iconst (-1), 1) := by decide +kernel
theorem dX4_lastCellOf_3 : decode cX4_lastCellOf 3 = .ok (.istore 4, 2) := by decide +kernel
theorem dX4_lastCellOf_5 : decode cX4_lastCellOf 5 = .ok (.iconst (-1), 1) := by decide +kernel
theorem dX4_lastCellOf_6 : decode cX4_lastCellOf 6 = .ok (.istore 5, 2) := by decide +kernel
theorem dX4_lastCellOf_8 : decode cX4_lastCellOf 8 = .ok (.iconst 0, 1) := by decide +kernel
theorem dX4_lastCellOf_9 : decode cX4_lastCellOf 9 = .ok (.istore 6, 2) := by decide +kernel
theorem dX4_lastCellOf_11 : decode cX4_lastCellOf 11 = .ok (.iload 6, 2) := by decide +kernel
theorem dX4_lastCellOf_13 : decode cX4_lastCellOf 13 = .ok (.aload_n 0, 1) := by decide +kernel
theorem dX4_lastCellOf_14 : decode cX4_lastCellOf 14 = .ok (.getfield 36, 3) := by decide +kernel
theorem dX4_lastCellOf_17 : decode cX4_lastCellOf 17 = .ok (.if_icmp .ge 68, 3) := by decide +kernel
theorem dX4_lastCellOf_20 : decode cX4_lastCellOf 20 = .ok (.aload_n 0, 1) := by decide +kernel
theorem dX4_lastCellOf_21 : decode cX4_lastCellOf 21 = .ok (.iload 6, 2) := by decide +kernel
theorem dX4_lastCellOf_23 : decode cX4_lastCellOf 23 = .ok (.iload_n 1, 1) := by decide +kernel
theorem dX4_lastCellOf_24 : decode cX4_lastCellOf 24 = .ok (.invokevirtual 62, 3) := by decide +kernel
theorem dX4_lastCellOf_27 : decode cX4_lastCellOf 27 = .ok (.istore 7, 2) := by decide +kernel
theorem dX4_lastCellOf_29 : decode cX4_lastCellOf 29 = .ok (.lload_n 2, 1) := by decide +kernel
theorem dX4_lastCellOf_30 : decode cX4_lastCellOf 30 = .ok (.iload 7, 2) := by decide +kernel
theorem dX4_lastCellOf_32 : decode cX4_lastCellOf 32 = .ok (.lushr, 1) := by decide +kernel
theorem dX4_lastCellOf_33 : decode cX4_lastCellOf 33 = .ok (.lconst 1, 1) := by decide +kernel
theorem dX4_lastCellOf_34 : decode cX4_lastCellOf 34 = .ok (.land, 1) := by decide +kernel
theorem dX4_lastCellOf_35 : decode cX4_lastCellOf 35 = .ok (.lconst 0, 1) := by decide +kernel
theorem dX4_lastCellOf_36 : decode cX4_lastCellOf 36 = .ok (.lcmp, 1) := by decide +kernel
theorem dX4_lastCellOf_37 : decode cX4_lastCellOf 37 = .ok (.ifCond .ne 42, 3) := by decide +kernel
theorem dX4_lastCellOf_40 : decode cX4_lastCellOf 40 = .ok (.lload_n 2, 1) := by decide +kernel
theorem dX4_lastCellOf_41 : decode cX4_lastCellOf 41 = .ok (.lconst 1, 1) := by decide +kernel
theorem dX4_lastCellOf_42 : decode cX4_lastCellOf 42 = .ok (.iload 7, 2) := by decide +kernel
theorem dX4_lastCellOf_44 : decode cX4_lastCellOf 44 = .ok (.lshl, 1) := by decide +kernel
theorem dX4_lastCellOf_45 : decode cX4_lastCellOf 45 = .ok (.lor, 1) := by decide +kernel
theorem dX4_lastCellOf_46 : decode cX4_lastCellOf 46 = .ok (.lstore_n 2, 1) := by decide +kernel
theorem dX4_lastCellOf_47 : decode cX4_lastCellOf 47 = .ok (.aload_n 0, 1) := by decide +kernel
theorem dX4_lastCellOf_48 : decode cX4_lastCellOf 48 = .ok (.getfield 15, 3) := by decide +kernel
theorem dX4_lastCellOf_51 : decode cX4_lastCellOf 51 = .ok (.iload 6, 2) := by decide +kernel
theorem dX4_lastCellOf_53 : decode cX4_lastCellOf 53 = .ok (.iaload, 1) := by decide +kernel
theorem dX4_lastCellOf_54 : decode cX4_lastCellOf 54 = .ok (.iload 5, 2) := by decide +kernel
theorem dX4_lastCellOf_56 : decode cX4_lastCellOf 56 = .ok (.if_icmp .gt 10, 3) := by decide +kernel
theorem dX4_lastCellOf_59 : decode cX4_lastCellOf 59 = .ok (.iload 7, 2) := by decide +kernel
theorem dX4_lastCellOf_61 : decode cX4_lastCellOf 61 = .ok (.iload 4, 2) := by decide +kernel
theorem dX4_lastCellOf_63 : decode cX4_lastCellOf 63 = .ok (.if_icmp .ge 16, 3) := by decide +kernel
theorem dX4_lastCellOf_66 : decode cX4_lastCellOf 66 = .ok (.iload 7, 2) := by decide +kernel
theorem dX4_lastCellOf_68 : decode cX4_lastCellOf 68 = .ok (.istore 4, 2) := by decide +kernel
theorem dX4_lastCellOf_70 : decode cX4_lastCellOf 70 = .ok (.aload_n 0, 1) := by decide +kernel
theorem dX4_lastCellOf_71 : decode cX4_lastCellOf 71 = .ok (.getfield 15, 3) := by decide +kernel
theorem dX4_lastCellOf_74 : decode cX4_lastCellOf 74 = .ok (.iload 6, 2) := by decide +kernel
theorem dX4_lastCellOf_76 : decode cX4_lastCellOf 76 = .ok (.iaload, 1) := by decide +kernel
theorem dX4_lastCellOf_77 : decode cX4_lastCellOf 77 = .ok (.istore 5, 2) := by decide +kernel
theorem dX4_lastCellOf_79 : decode cX4_lastCellOf 79 = .ok (.iinc 6 1, 3) := by decide +kernel
theorem dX4_lastCellOf_82 : decode cX4_lastCellOf 82 = .ok (.goto (-71), 3) := by decide +kernel
theorem dX4_lastCellOf_85 : decode cX4_lastCellOf 85 = .ok (.iload 4, 2) := by decide +kernel
theorem dX4_lastCellOf_87 : decode cX4_lastCellOf 87 = .ok (.ireturn, 1) := by decide +kernel
set_option maxRecDepth 20000 in
set_option maxHeartbeats 2000000 in
theorem w_X4_lastCellOf_79 {X : CX} {d : Nat} (hd : 2 ≤ d) {g' : G} {rx : Int32} (k11 : Nat → Int32 → Int64 → Int32 → Int32 → Int32 → G → Option (Int32 × G)) (hk11 : ∀ (l0 : Nat) (l1 : Int32) (l2 : Int64) (l4 : Int32) (l5 : Int32) (l6 : Int32) (g : G), KD g l0 4 → k11 l0 l1 l2 l4 l5 l6 g = some (rx, g') → SemF X m_X4_lastCellOf d 11 [(0, .ref (ad X l0)), (1, .int l1), (2, .long l2), (4, .int l4), (5, .int l5), (6, .int l6)] [] g (some (.int rx)) g') (l0 : Nat) (l1 : Int32) (l2 : Int64) (l4 : Int32) (l5 : Int32) (l6 : Int32) (g : G) (k_l0 : KD g l0 4) (h : f_X4_lastCellOf_79 k11 l0 l1 l2 l4 l5 l6 g = some (rx, g')) : SemF X m_X4_lastCellOf d 79 [(0, .ref (ad X l0)), (1, .int l1), (2, .long l2), (4, .int l4), (5, .int l5), (6, .int l6)] [] g (some (.int rx)) g' := by
  rw [f_X4_lastCellOf_79] at h
  refine SF_iinc 5 (l6 + (1 : Int32)) [(6, .int (l6 + (1 : Int32))), (0, .ref (ad X l0)), (1, .int l1), (2, .long l2), (4, .int l4), (5, .int l5)] 82 dX4_lastCellOf_79 rfl rfl (by decide) rfl rfl ?_
  refine SF_goto 11 dX4_lastCellOf_82 rfl ?_
  refine SF_sub [1, 2, 3, 4, 5, 0] rfl ?_
  exact hk11 l0 l1 l2 l4 l5 (l6 + (1 : Int32)) g k_l0 h

set_option maxRecDepth 20000 in
set_option maxHeartbeats 2000000 in
theorem w_X4_lastCellOf_66 {X : CX} {d : Nat} (hd : 2 ≤ d) {g' : G} {rx : Int32} (k11 : Nat → Int32 → Int64 → Int32 → Int32 → Int32 → G → Option (Int32 × G)) (hk11 : ∀ (l0 : Nat) (l1 : Int32) (l2 : Int64) (l4 : Int32) (l5 : Int32) (l6 : Int32) (g : G), KD g l0 4 → k11 l0 l1 l2 l4 l5 l6 g = some (rx, g') → SemF X m_X4_lastCellOf d 11 [(0, .ref (ad X l0)), (1, .int l1), (2, .long l2), (4, .int l4), (5, .int l5), (6, .int l6)] [] g (some (.int rx)) g') (l0 : Nat) (l1 : Int32) (l2 : Int64) (l6 : Int32) (l7 : Int32) (g : G) (k_l0 : KD g l0 4) (h : f_X4_lastCellOf_66 k11 l0 l1 l2 l6 l7 g = some (rx, g')) : SemF X m_X4_lastCellOf d 66 [(0, .ref (ad X l0)), (1, .int l1), (2, .long l2), (6, .int l6), (7, .int l7)] [] g (some (.int rx)) g' := by
  rw [f_X4_lastCellOf_66] at h
  refine SF_iload 4 68 dX4_lastCellOf_66 rfl rfl ?_
  refine SF_istore [(4, .int l7), (0, .ref (ad X l0)), (1, .int l1), (2, .long l2), (6, .int l6), (7, .int l7)] 70 dX4_lastCellOf_68 (by decide) rfl rfl ?_
  refine SF_aload_n 1 71 dX4_lastCellOf_70 rfl rfl rfl ?_
  obtain ⟨b1, r2, h⟩ := dr_some h
  refine SF_getR 74 fl_X4_15 dX4_lastCellOf_71 k_l0.1 r2 rfl ?_
  refine SF_iload 4 76 dX4_lastCellOf_74 rfl rfl ?_
  obtain ⟨k3, h⟩ := gdK_some h
  obtain ⟨i4, h⟩ := gdI_some h
  refine SF_iald 77 dX4_lastCellOf_76 k3.1 i4 rfl ?_
  obtain ⟨y5, e6, h⟩ := li_some h
  refine SF_eqI e6 ?_
  refine SF_istore [(5, .int y5), (4, .int l7), (0, .ref (ad X l0)), (1, .int l1), (2, .long l2), (6, .int l6), (7, .int l7)] 79 dX4_lastCellOf_77 (by decide) rfl rfl ?_
  refine SF_sub [2, 3, 4, 1, 0, 5] rfl ?_
  exact w_X4_lastCellOf_79 hd k11 hk11 l0 l1 l2 l7 y5 l6 g k_l0 h

set_option maxRecDepth 20000 in
set_option maxHeartbeats 2000000 in
theorem w_X4_lastCellOf_11 {X : CX} {d : Nat} (hd : 2 ≤ d) {g' : G} {rx : Int32} : ∀ (n : Nat) (l0 : Nat) (l1 : Int32) (l2 : Int64) (l4 : Int32) (l5 : Int32) (l6 : Int32) (g : G), KD g l0 4 → f_X4_lastCellOf_11 n l0 l1 l2 l4 l5 l6 g = some (rx, g') → SemF X m_X4_lastCellOf d 11 [(0, .ref (ad X l0)), (1, .int l1), (2, .long l2), (4, .int l4), (5, .int l5), (6, .int l6)] [] g (some (.int rx)) g' := by
  intro n
  induction n with
  | zero =>
    intro l0 l1 l2 l4 l5 l6 g k_l0 h
    rw [f_X4_lastCellOf_11] at h
    cases h
  | succ n ih =>
  intro l0 l1 l2 l4 l5 l6 g k_l0 h
  rw [f_X4_lastCellOf_11] at h
  refine SF_iload 5 13 dX4_lastCellOf_11 rfl rfl ?_
  refine SF_aload_n 0 14 dX4_lastCellOf_13 rfl rfl rfl ?_
  refine SF_getI 17 fl_X4_36 dX4_lastCellOf_14 k_l0.1 rfl ?_
  refine SF_icge 85 20 dX4_lastCellOf_17 rfl rfl (fun c1 => ?_) (fun c1 => ?_)
  · have h := ite_t c1 h
    refine SF_iload 3 87 dX4_lastCellOf_85 rfl rfl ?_
    exact RT_i rfl dX4_lastCellOf_87 h
  · have h := ite_f c1 h
    refine SF_aload_n 0 21 dX4_lastCellOf_20 rfl rfl rfl ?_
    refine SF_iload 5 23 dX4_lastCellOf_21 rfl rfl ?_
    refine SF_iload_n 1 24 dX4_lastCellOf_23 rfl rfl rfl ?_
    obtain ⟨v2, g3, q4, h⟩ := bd_some h
    have s5 := w_X4_cellOf (X := X) (Nat.le_refl 1) l0 l6 l1 g g3 v2 k_l0 q4
    refine SF_callVi 27 mi_X4_cellOf ml_X4_62 dX4_lastCellOf_24 (Nat.le_trans (by decide) hd) s5 k_l0.1 rfl rfl (Nat.le_of_ble_eq_true rfl) rfl ?_
    have k_l0 := k_l0.ext s5.1
    refine SF_istore [(7, .int v2), (0, .ref (ad X l0)), (1, .int l1), (2, .long l2), (4, .int l4), (5, .int l5), (6, .int l6)] 29 dX4_lastCellOf_27 (by decide) rfl rfl ?_
    refine SF_lload_n 3 30 dX4_lastCellOf_29 rfl rfl rfl ?_
    refine SF_iload 0 32 dX4_lastCellOf_30 rfl rfl ?_
    refine SF_lushr 33 dX4_lastCellOf_32 rfl ?_
    refine SF_lconst (1 : Int64) 34 dX4_lastCellOf_33 rfl rfl ?_
    refine SF_land 35 dX4_lastCellOf_34 rfl ?_
    refine SF_lconst (0 : Int64) 36 dX4_lastCellOf_35 rfl rfl ?_
    refine SF_lcmp 37 dX4_lastCellOf_36 rfl ?_
    refine SF_ifne 79 40 dX4_lastCellOf_37 rfl rfl (fun c6 => ?_) (fun c6 => ?_)
    · have h := ite_f c6 h
      refine SF_sub [1, 2, 3, 4, 5, 6] rfl ?_
      exact w_X4_lastCellOf_79 hd (f_X4_lastCellOf_11 n) ih l0 l1 l2 l4 l5 l6 g3 k_l0 h
    · have h := ite_t c6 h
      refine SF_lload_n 3 41 dX4_lastCellOf_40 rfl rfl rfl ?_
      refine SF_lconst (1 : Int64) 42 dX4_lastCellOf_41 rfl rfl ?_
      refine SF_iload 0 44 dX4_lastCellOf_42 rfl rfl ?_
      refine SF_lshl 45 dX4_lastCellOf_44 rfl ?_
      refine SF_lor 46 dX4_lastCellOf_45 rfl ?_
      obtain ⟨y7, e8, h⟩ := ll_some h
      refine SF_eqL e8 ?_
      refine SF_lstore_n [(2, .long y7), (7, .int v2), (0, .ref (ad X l0)), (1, .int l1), (4, .int l4), (5, .int l5), (6, .int l6)] 47 dX4_lastCellOf_46 rfl (by decide) rfl rfl ?_
      refine SF_aload_n 2 48 dX4_lastCellOf_47 rfl rfl rfl ?_
      obtain ⟨b9, r10, h⟩ := dr_some h
      refine SF_getR 51 fl_X4_15 dX4_lastCellOf_48 k_l0.1 r10 rfl ?_
      refine SF_iload 6 53 dX4_lastCellOf_51 rfl rfl ?_
      obtain ⟨k11, h⟩ := gdK_some h
      obtain ⟨i12, h⟩ := gdI_some h
      refine SF_iald 54 dX4_lastCellOf_53 k11.1 i12 rfl ?_
      refine SF_iload 5 56 dX4_lastCellOf_54 rfl rfl ?_
      refine SF_icgt 66 59 dX4_lastCellOf_56 rfl rfl (fun c13 => ?_) (fun c13 => ?_)
      · have h := ite_t c13 h
        refine SF_sub [2, 3, 0, 6, 1] rfl ?_
        exact w_X4_lastCellOf_66 hd (f_X4_lastCellOf_11 n) ih l0 l1 y7 l6 v2 g3 k_l0 h
      · have h := ite_f c13 h
        refine SF_iload 1 61 dX4_lastCellOf_59 rfl rfl ?_
        refine SF_iload 4 63 dX4_lastCellOf_61 rfl rfl ?_
        refine SF_icge 79 66 dX4_lastCellOf_63 rfl rfl (fun c14 => ?_) (fun c14 => ?_)
        · have h := ite_t c14 h
          refine SF_sub [2, 3, 0, 4, 5, 6] rfl ?_
          exact w_X4_lastCellOf_79 hd (f_X4_lastCellOf_11 n) ih l0 l1 y7 l4 l5 l6 g3 k_l0 h
        · have h := ite_f c14 h
          refine SF_sub [2, 3, 0, 6, 1] rfl ?_
          exact w_X4_lastCellOf_66 hd (f_X4_lastCellOf_11 n) ih l0 l1 y7 l6 v2 g3 k_l0 h

set_option maxRecDepth 20000 in
set_option maxHeartbeats 2000000 in
theorem w_X4_lastCellOf {X : CX} {d : Nat} (hd : 2 ≤ d) (l0 : Nat) (l1 : Int32) (g g' : G) (rx : Int32) (k_l0 : KD g l0 4) (h : f_X4_lastCellOf l0 l1 g = some (rx, g')) : Sem X m_X4_lastCellOf d [.ref (ad X l0), .int l1] g (some (.int rx)) g' := by
  refine Sem_of (lo := [(0, .ref (ad X l0)), (1, .int l1)]) (by decide +kernel) rfl (Nat.le_of_ble_eq_true rfl) ?_
  rw [f_X4_lastCellOf] at h
  refine SF_lconst (0 : Int64) 1 dX4_lastCellOf_0 rfl rfl ?_
  refine SF_lstore_n [(2, .long (0 : Int64)), (0, .ref (ad X l0)), (1, .int l1)] 2 dX4_lastCellOf_1 rfl (by decide) rfl rfl ?_
  refine SF_iconst (-1 : Int32) 3 dX4_lastCellOf_2 rfl rfl ?_
  refine SF_istore [(4, .int (-1 : Int32)), (2, .long (0 : Int64)), (0, .ref (ad X l0)), (1, .int l1)] 5 dX4_lastCellOf_3 (by decide) rfl rfl ?_
  refine SF_iconst (-1 : Int32) 6 dX4_lastCellOf_5 rfl rfl ?_
  refine SF_istore [(5, .int (-1 : Int32)), (4, .int (-1 : Int32)), (2, .long (0 : Int64)), (0, .ref (ad X l0)), (1, .int l1)] 8 dX4_lastCellOf_6 (by decide) rfl rfl ?_
  refine SF_iconst (0 : Int32) 9 dX4_lastCellOf_8 rfl rfl ?_
  refine SF_istore [(6, .int (0 : Int32)), (5, .int (-1 : Int32)), (4, .int (-1 : Int32)), (2, .long (0 : Int64)), (0, .ref (ad X l0)), (1, .int l1)] 11 dX4_lastCellOf_9 (by decide) rfl rfl ?_
  refine SF_sub [4, 5, 3, 2, 1, 0] rfl ?_
  exact w_X4_lastCellOf_11 hd FU l0 l1 (0 : Int64) (-1 : Int32) (-1 : Int32) (0 : Int32) g k_l0 h

theorem dX11_farthest_0 : decode cX11_farthest 0 = .ok (.aload_n 0, 1) := by decide +kernel
theorem dX11_farthest_1 : decode cX11_farthest 1 = .ok (.getfield 78, 3) := by decide +kernel
theorem dX11_farthest_4 : decode cX11_farthest 4 = .ok (.iload_n 1, 1) := by decide +kernel
theorem dX11_farthest_5 : decode cX11_farthest 5 = .ok (.invokevirtual 161, 3) := by decide +kernel
theorem dX11_farthest_8 : decode cX11_farthest 8 = .ok (.ifCond .eq 10, 3) := by decide +kernel
theorem dX11_farthest_11 : decode cX11_farthest 11 = .ok (.iload_n 2, 1) := by decide +kernel
theorem dX11_farthest_12 : decode cX11_farthest 12 = .ok (.invokestatic 333, 3) := by decide +kernel
theorem dX11_farthest_15 : decode cX11_farthest 15 = .ok (.ifCond .ne 6, 3) := by decide +kernel
theorem dX11_farthest_18 : decode cX11_farthest 18 = .ok (.bipush (-2), 2) := by decide +kernel
theorem dX11_farthest_20 : decode cX11_farthest 20 = .ok (.ireturn, 1) := by decide +kernel
theorem dX11_farthest_21 : decode cX11_farthest 21 = .ok (.aload_n 0, 1) := by decide +kernel
theorem dX11_farthest_22 : decode cX11_farthest 22 = .ok (.iload_n 1, 1) := by decide +kernel
theorem dX11_farthest_23 : decode cX11_farthest 23 = .ok (.invokevirtual 259, 3) := by decide +kernel
theorem dX11_farthest_26 : decode cX11_farthest 26 = .ok (.iload_n 2, 1) := by decide +kernel
theorem dX11_farthest_27 : decode cX11_farthest 27 = .ok (.invokevirtual 340, 3) := by decide +kernel
theorem dX11_farthest_30 : decode cX11_farthest 30 = .ok (.ireturn, 1) := by decide +kernel
set_option maxRecDepth 20000 in
set_option maxHeartbeats 2000000 in
theorem w_X11_farthest {X : CX} {d : Nat} (hd : 7 ≤ d) (l0 : Nat) (l1 : Int32) (l2 : Int32) (g g' : G) (rx : Int32) (k_l0 : KD g l0 11) (h : f_X11_farthest l0 l1 l2 g = some (rx, g')) : Sem X m_X11_farthest d [.ref (ad X l0), .int l1, .int l2] g (some (.int rx)) g' := by
  refine Sem_of (lo := [(0, .ref (ad X l0)), (1, .int l1), (2, .int l2)]) (by decide +kernel) rfl (Nat.le_of_ble_eq_true rfl) ?_
  rw [f_X11_farthest] at h
  refine SF_aload_n 0 1 dX11_farthest_0 rfl rfl rfl ?_
  obtain ⟨b1, r2, h⟩ := dr_some h
  refine SF_getR 4 fl_X11_78 dX11_farthest_1 k_l0.1 r2 rfl ?_
  refine SF_iload_n 1 5 dX11_farthest_4 rfl rfl rfl ?_
  obtain ⟨k3, h⟩ := gdK_some h
  obtain ⟨v4, g5, q6, h⟩ := bd_some h
  have s7 := w_X0_isPair (X := X) (Nat.le_refl 0) b1 l1 g g5 v4 k3 q6
  refine SF_callVb 8 mi_X0_isPair ml_X11_161 dX11_farthest_5 (Nat.le_trans (by decide) hd) s7 k3.1 rfl rfl (Nat.le_of_ble_eq_true rfl) rfl ?_
  have k_l0 := k_l0.ext s7.1
  have k3 := k3.ext s7.1
  refine SF_ifeq 18 11 dX11_farthest_8 rfl rfl (fun c8 => ?_) (fun c8 => ?_)
  · have h := ite_t c8 h
    refine SF_bipush (-2 : Int32) 20 dX11_farthest_18 rfl rfl ?_
    exact RT_i rfl dX11_farthest_20 h
  · have h := ite_f c8 h
    refine SF_iload_n 2 12 dX11_farthest_11 rfl rfl rfl ?_
    obtain ⟨v9, g10, q11, h⟩ := bd_some h
    have s12 := w_X11_isTwin (X := X) (Nat.le_refl 0) l2 g5 g10 v9 q11
    refine SF_callSb 15 mi_X11_isTwin ml_X11_333 dX11_farthest_12 (Nat.le_trans (by decide) hd) s12 rfl rfl (Nat.le_of_ble_eq_true rfl) rfl ?_
    have k_l0 := k_l0.ext s12.1
    have k3 := k3.ext s12.1
    refine SF_ifne 21 18 dX11_farthest_15 rfl rfl (fun c13 => ?_) (fun c13 => ?_)
    · have h := ite_f c13 h
      refine SF_aload_n 0 22 dX11_farthest_21 rfl rfl rfl ?_
      refine SF_iload_n 1 23 dX11_farthest_22 rfl rfl rfl ?_
      obtain ⟨v14, g15, q16, h⟩ := bd_some h
      have s17 := w_X11_graphOf (X := X) (Nat.le_refl 6) l0 l1 g10 g15 v14 k_l0 q16
      refine SF_callVr 26 mi_X11_graphOf ml_X11_259 dX11_farthest_23 (Nat.le_trans (by decide) hd) s17 k_l0.1 rfl rfl (Nat.le_of_ble_eq_true rfl) rfl ?_
      have k_l0 := k_l0.ext s17.1
      have k3 := k3.ext s17.1
      refine SF_iload_n 2 27 dX11_farthest_26 rfl rfl rfl ?_
      obtain ⟨k18, h⟩ := gdK_some h
      obtain ⟨v19, g20, q21, h⟩ := bd_some h
      have s22 := w_X4_lastCellOf (X := X) (Nat.le_refl 2) v14 l2 g15 g20 v19 k18 q21
      refine SF_callVi 30 mi_X4_lastCellOf ml_X11_340 dX11_farthest_27 (Nat.le_trans (by decide) hd) s22 k18.1 rfl rfl (Nat.le_of_ble_eq_true rfl) rfl ?_
      have k_l0 := k_l0.ext s22.1
      have k3 := k3.ext s22.1
      have k18 := k18.ext s22.1
      exact RT_i rfl dX11_farthest_30 h
    · have h := ite_t c13 h
      refine SF_bipush (-2 : Int32) 20 dX11_farthest_18 rfl rfl ?_
      exact RT_i rfl dX11_farthest_20 h

theorem dX12_firstIn_0 : decode cX12_firstIn 0 = .ok (.ldc_w 354, 3) := by decide +kernel
theorem dX12_firstIn_3 : decode cX12_firstIn 3 = .ok (.istore_n 3, 1) := by decide +kernel
theorem dX12_firstIn_4 : decode cX12_firstIn 4 = .ok (.iconst 0, 1) := by decide +kernel
theorem dX12_firstIn_5 : decode cX12_firstIn 5 = .ok (.istore 4, 2) := by decide +kernel
theorem dX12_firstIn_7 : decode cX12_firstIn 7 = .ok (.iload 4, 2) := by decide +kernel
theorem dX12_firstIn_9 : decode cX12_firstIn 9 = .ok (.sipush 1296, 3) := by decide +kernel
theorem dX12_firstIn_12 : decode cX12_firstIn 12 = .ok (.if_icmp .ge 38, 3) := by decide +kernel
theorem dX12_firstIn_15 : decode cX12_firstIn 15 = .ok (.iload 4, 2) := by decide +kernel
theorem dX12_firstIn_17 : decode cX12_firstIn 17 = .ok (.iload_n 1, 1) := by decide +kernel
theorem dX12_firstIn_18 : decode cX12_firstIn 18 = .ok (.invokestatic 347, 3) := by decide +kernel
theorem dX12_firstIn_21 : decode cX12_firstIn 21 = .ok (.iload_n 2, 1) := by decide +kernel
theorem dX12_firstIn_22 : decode cX12_firstIn 22 = .ok (.if_icmp .ne 22, 3) := by decide +kernel
theorem dX12_firstIn_25 : decode cX12_firstIn 25 = .ok (.aload_n 0, 1) := by decide +kernel
theorem dX12_firstIn_26 : decode cX12_firstIn 26 = .ok (.getfield 51, 3) := by decide +kernel
theorem dX12_firstIn_29 : decode cX12_firstIn 29 = .ok (.iload 4, 2) := by decide +kernel
theorem dX12_firstIn_31 : decode cX12_firstIn 31 = .ok (.iaload, 1) := by decide +kernel
theorem dX12_firstIn_32 : decode cX12_firstIn 32 = .ok (.iload_n 3, 1) := by decide +kernel
theorem dX12_firstIn_33 : decode cX12_firstIn 33 = .ok (.if_icmp .ge 11, 3) := by decide +kernel
theorem dX12_firstIn_36 : decode cX12_firstIn 36 = .ok (.aload_n 0, 1) := by decide +kernel
theorem dX12_firstIn_37 : decode cX12_firstIn 37 = .ok (.getfield 51, 3) := by decide +kernel
theorem dX12_firstIn_40 : decode cX12_firstIn 40 = .ok (.iload 4, 2) := by decide +kernel
theorem dX12_firstIn_42 : decode cX12_firstIn 42 = .ok (.iaload, 1) := by decide +kernel
theorem dX12_firstIn_43 : decode cX12_firstIn 43 = .ok (.istore_n 3, 1) := by decide +kernel
theorem dX12_firstIn_44 : decode cX12_firstIn 44 = .ok (.iinc 4 1, 3) := by decide +kernel
theorem dX12_firstIn_47 : decode cX12_firstIn 47 = .ok (.goto (-40), 3) := by decide +kernel
theorem dX12_firstIn_50 : decode cX12_firstIn 50 = .ok (.iload_n 3, 1) := by decide +kernel
theorem dX12_firstIn_51 : decode cX12_firstIn 51 = .ok (.ireturn, 1) := by decide +kernel
set_option maxRecDepth 20000 in
set_option maxHeartbeats 2000000 in
theorem w_X12_firstIn_44 {X : CX} {d : Nat} (hd : 1 ≤ d) {g' : G} {rx : Int32} (k7 : Nat → Int32 → Int32 → Int32 → Int32 → G → Option (Int32 × G)) (hk7 : ∀ (l0 : Nat) (l1 : Int32) (l2 : Int32) (l3 : Int32) (l4 : Int32) (g : G), KD g l0 12 → k7 l0 l1 l2 l3 l4 g = some (rx, g') → SemF X m_X12_firstIn d 7 [(0, .ref (ad X l0)), (1, .int l1), (2, .int l2), (3, .int l3), (4, .int l4)] [] g (some (.int rx)) g') (l0 : Nat) (l1 : Int32) (l2 : Int32) (l3 : Int32) (l4 : Int32) (g : G) (k_l0 : KD g l0 12) (h : f_X12_firstIn_44 k7 l0 l1 l2 l3 l4 g = some (rx, g')) : SemF X m_X12_firstIn d 44 [(0, .ref (ad X l0)), (1, .int l1), (2, .int l2), (3, .int l3), (4, .int l4)] [] g (some (.int rx)) g' := by
  rw [f_X12_firstIn_44] at h
  refine SF_iinc 4 (l4 + (1 : Int32)) [(4, .int (l4 + (1 : Int32))), (0, .ref (ad X l0)), (1, .int l1), (2, .int l2), (3, .int l3)] 47 dX12_firstIn_44 rfl rfl (by decide) rfl rfl ?_
  refine SF_goto 7 dX12_firstIn_47 rfl ?_
  refine SF_sub [1, 2, 3, 4, 0] rfl ?_
  exact hk7 l0 l1 l2 l3 (l4 + (1 : Int32)) g k_l0 h

set_option maxRecDepth 20000 in
set_option maxHeartbeats 2000000 in
theorem w_X12_firstIn_7 {X : CX} {d : Nat} (hd : 1 ≤ d) {g' : G} {rx : Int32} : ∀ (n : Nat) (l0 : Nat) (l1 : Int32) (l2 : Int32) (l3 : Int32) (l4 : Int32) (g : G), KD g l0 12 → f_X12_firstIn_7 n l0 l1 l2 l3 l4 g = some (rx, g') → SemF X m_X12_firstIn d 7 [(0, .ref (ad X l0)), (1, .int l1), (2, .int l2), (3, .int l3), (4, .int l4)] [] g (some (.int rx)) g' := by
  intro n
  induction n with
  | zero =>
    intro l0 l1 l2 l3 l4 g k_l0 h
    rw [f_X12_firstIn_7] at h
    cases h
  | succ n ih =>
  intro l0 l1 l2 l3 l4 g k_l0 h
  rw [f_X12_firstIn_7] at h
  refine SF_iload 4 9 dX12_firstIn_7 rfl rfl ?_
  refine SF_sipush (1296 : Int32) 12 dX12_firstIn_9 rfl rfl ?_
  refine SF_icge 50 15 dX12_firstIn_12 rfl rfl (fun c1 => ?_) (fun c1 => ?_)
  · have h := ite_t c1 h
    refine SF_iload_n 3 51 dX12_firstIn_50 rfl rfl rfl ?_
    exact RT_i rfl dX12_firstIn_51 h
  · have h := ite_f c1 h
    refine SF_iload 4 17 dX12_firstIn_15 rfl rfl ?_
    refine SF_iload_n 1 18 dX12_firstIn_17 rfl rfl rfl ?_
    obtain ⟨v2, g3, q4, h⟩ := bd_some h
    have s5 := w_X12_inStand (X := X) (Nat.le_refl 0) l4 l1 g g3 v2 q4
    refine SF_callSi 21 mi_X12_inStand ml_X12_347 dX12_firstIn_18 (Nat.le_trans (by decide) hd) s5 rfl rfl (Nat.le_of_ble_eq_true rfl) rfl ?_
    have k_l0 := k_l0.ext s5.1
    refine SF_iload_n 2 22 dX12_firstIn_21 rfl rfl rfl ?_
    refine SF_icne 44 25 dX12_firstIn_22 rfl rfl (fun c6 => ?_) (fun c6 => ?_)
    · have h := ite_f c6 h
      exact w_X12_firstIn_44 hd (f_X12_firstIn_7 n) ih l0 l1 l2 l3 l4 g3 k_l0 h
    · have h := ite_t c6 h
      refine SF_aload_n 0 26 dX12_firstIn_25 rfl rfl rfl ?_
      obtain ⟨b7, r8, h⟩ := dr_some h
      refine SF_getR 29 fl_X12_51 dX12_firstIn_26 k_l0.1 r8 rfl ?_
      refine SF_iload 4 31 dX12_firstIn_29 rfl rfl ?_
      obtain ⟨k9, h⟩ := gdK_some h
      obtain ⟨i10, h⟩ := gdI_some h
      refine SF_iald 32 dX12_firstIn_31 k9.1 i10 rfl ?_
      refine SF_iload_n 3 33 dX12_firstIn_32 rfl rfl rfl ?_
      refine SF_icge 44 36 dX12_firstIn_33 rfl rfl (fun c11 => ?_) (fun c11 => ?_)
      · have h := ite_t c11 h
        exact w_X12_firstIn_44 hd (f_X12_firstIn_7 n) ih l0 l1 l2 l3 l4 g3 k_l0 h
      · have h := ite_f c11 h
        refine SF_aload_n 0 37 dX12_firstIn_36 rfl rfl rfl ?_
        refine SF_getR 40 fl_X12_51 dX12_firstIn_37 k_l0.1 r8 rfl ?_
        refine SF_iload 4 42 dX12_firstIn_40 rfl rfl ?_
        refine SF_iald 43 dX12_firstIn_42 k9.1 i10 rfl ?_
        obtain ⟨y12, e13, h⟩ := li_some h
        refine SF_eqI e13 ?_
        refine SF_istore_n [(3, .int y12), (0, .ref (ad X l0)), (1, .int l1), (2, .int l2), (4, .int l4)] 44 dX12_firstIn_43 rfl (by decide) rfl rfl ?_
        refine SF_sub [1, 2, 3, 0, 4] rfl ?_
        exact w_X12_firstIn_44 hd (f_X12_firstIn_7 n) ih l0 l1 l2 y12 l4 g3 k_l0 h

set_option maxRecDepth 20000 in
set_option maxHeartbeats 2000000 in
theorem w_X12_firstIn {X : CX} {d : Nat} (hd : 1 ≤ d) (l0 : Nat) (l1 : Int32) (l2 : Int32) (g g' : G) (rx : Int32) (k_l0 : KD g l0 12) (h : f_X12_firstIn l0 l1 l2 g = some (rx, g')) : Sem X m_X12_firstIn d [.ref (ad X l0), .int l1, .int l2] g (some (.int rx)) g' := by
  refine Sem_of (lo := [(0, .ref (ad X l0)), (1, .int l1), (2, .int l2)]) (by decide +kernel) rfl (Nat.le_of_ble_eq_true rfl) ?_
  rw [f_X12_firstIn] at h
  refine SF_ldcw 3 dX12_firstIn_0 ki_X12_354 rfl ?_
  refine SF_istore_n [(3, .int (1073741824 : Int32)), (0, .ref (ad X l0)), (1, .int l1), (2, .int l2)] 4 dX12_firstIn_3 rfl (by decide) rfl rfl ?_
  refine SF_iconst (0 : Int32) 5 dX12_firstIn_4 rfl rfl ?_
  refine SF_istore [(4, .int (0 : Int32)), (3, .int (1073741824 : Int32)), (0, .ref (ad X l0)), (1, .int l1), (2, .int l2)] 7 dX12_firstIn_5 (by decide) rfl rfl ?_
  refine SF_sub [2, 3, 4, 1, 0] rfl ?_
  exact w_X12_firstIn_7 hd FU l0 l1 l2 (1073741824 : Int32) (0 : Int32) g k_l0 h

theorem dX12_farthest_0 : decode cX12_farthest 0 = .ok (.aload_n 0, 1) := by decide +kernel
theorem dX12_farthest_1 : decode cX12_farthest 1 = .ok (.iconst 0, 1) := by decide +kernel
theorem dX12_farthest_2 : decode cX12_farthest 2 = .ok (.putfield 1, 3) := by decide +kernel
theorem dX12_farthest_5 : decode cX12_farthest 5 = .ok (.aload_n 0, 1) := by decide +kernel
theorem dX12_farthest_6 : decode cX12_farthest 6 = .ok (.iload_n 1, 1) := by decide +kernel
theorem dX12_farthest_7 : decode cX12_farthest 7 = .ok (.i2l, 1) := by decide +kernel
theorem dX12_farthest_8 : decode cX12_farthest 8 = .ok (.invokevirtual 255, 3) := by decide +kernel
theorem dX12_farthest_11 : decode cX12_farthest 11 = .ok (.ifCond .eq 10, 3) := by decide +kernel
theorem dX12_farthest_14 : decode cX12_farthest 14 = .ok (.iload_n 2, 1) := by decide +kernel
theorem dX12_farthest_15 : decode cX12_farthest 15 = .ok (.invokestatic 417, 3) := by decide +kernel
theorem dX12_farthest_18 : decode cX12_farthest 18 = .ok (.ifCond .ne 6, 3) := by decide +kernel
theorem dX12_farthest_21 : decode cX12_farthest 21 = .ok (.bipush (-2), 2) := by decide +kernel
theorem dX12_farthest_23 : decode cX12_farthest 23 = .ok (.ireturn, 1) := by decide +kernel
theorem dX12_farthest_24 : decode cX12_farthest 24 = .ok (.aload_n 0, 1) := by decide +kernel
theorem dX12_farthest_25 : decode cX12_farthest 25 = .ok (.iload_n 1, 1) := by decide +kernel
theorem dX12_farthest_26 : decode cX12_farthest 26 = .ok (.invokevirtual 420, 3) := by decide +kernel
theorem dX12_farthest_29 : decode cX12_farthest 29 = .ok (.iconst (-1), 1) := by decide +kernel
theorem dX12_farthest_30 : decode cX12_farthest 30 = .ok (.istore_n 3, 1) := by decide +kernel
theorem dX12_farthest_31 : decode cX12_farthest 31 = .ok (.iconst (-1), 1) := by decide +kernel
theorem dX12_farthest_32 : decode cX12_farthest 32 = .ok (.istore 4, 2) := by decide +kernel
theorem dX12_farthest_34 : decode cX12_farthest 34 = .ok (.iconst 0, 1) := by decide +kernel
theorem dX12_farthest_35 : decode cX12_farthest 35 = .ok (.istore 5, 2) := by decide +kernel
theorem dX12_farthest_37 : decode cX12_farthest 37 = .ok (.iload 5, 2) := by decide +kernel
theorem dX12_farthest_39 : decode cX12_farthest 39 = .ok (.aload_n 0, 1) := by decide +kernel
theorem dX12_farthest_40 : decode cX12_farthest 40 = .ok (.invokevirtual 214, 3) := by decide +kernel
theorem dX12_farthest_43 : decode cX12_farthest 43 = .ok (.if_icmp .ge 43, 3) := by decide +kernel
theorem dX12_farthest_46 : decode cX12_farthest 46 = .ok (.aload_n 0, 1) := by decide +kernel
theorem dX12_farthest_47 : decode cX12_farthest 47 = .ok (.iload_n 2, 1) := by decide +kernel
theorem dX12_farthest_48 : decode cX12_farthest 48 = .ok (.iload 5, 2) := by decide +kernel
theorem dX12_farthest_50 : decode cX12_farthest 50 = .ok (.invokevirtual 423, 3) := by decide +kernel
theorem dX12_farthest_53 : decode cX12_farthest 53 = .ok (.istore 6, 2) := by decide +kernel
theorem dX12_farthest_55 : decode cX12_farthest 55 = .ok (.iload 6, 2) := by decide +kernel
theorem dX12_farthest_57 : decode cX12_farthest 57 = .ok (.ldc_w 354, 3) := by decide +kernel
theorem dX12_farthest_60 : decode cX12_farthest 60 = .ok (.if_icmp .eq 20, 3) := by decide +kernel
theorem dX12_farthest_63 : decode cX12_farthest 63 = .ok (.iload 6, 2) := by decide +kernel
theorem dX12_farthest_65 : decode cX12_farthest 65 = .ok (.iload 4, 2) := by decide +kernel
theorem dX12_farthest_67 : decode cX12_farthest 67 = .ok (.if_icmp .gt 6, 3) := by decide +kernel
theorem dX12_farthest_70 : decode cX12_farthest 70 = .ok (.goto 10, 3) := by decide +kernel
theorem dX12_farthest_73 : decode cX12_farthest 73 = .ok (.iload 5, 2) := by decide +kernel
theorem dX12_farthest_75 : decode cX12_farthest 75 = .ok (.istore_n 3, 1) := by decide +kernel
theorem dX12_farthest_76 : decode cX12_farthest 76 = .ok (.iload 6, 2) := by decide +kernel
theorem dX12_farthest_78 : decode cX12_farthest 78 = .ok (.istore 4, 2) := by decide +kernel
theorem dX12_farthest_80 : decode cX12_farthest 80 = .ok (.iinc 5 1, 3) := by decide +kernel
theorem dX12_farthest_83 : decode cX12_farthest 83 = .ok (.goto (-46), 3) := by decide +kernel
theorem dX12_farthest_86 : decode cX12_farthest 86 = .ok (.iload_n 3, 1) := by decide +kernel
theorem dX12_farthest_87 : decode cX12_farthest 87 = .ok (.ireturn, 1) := by decide +kernel
set_option maxRecDepth 20000 in
set_option maxHeartbeats 2000000 in
theorem w_X12_farthest_80 {X : CX} {d : Nat} (hd : 8 ≤ d) {g' : G} {rx : Int32} (k37 : Nat → Int32 → Int32 → Int32 → Int32 → G → Option (Int32 × G)) (hk37 : ∀ (l0 : Nat) (l2 : Int32) (l3 : Int32) (l4 : Int32) (l5 : Int32) (g : G), KD g l0 12 → k37 l0 l2 l3 l4 l5 g = some (rx, g') → SemF X m_X12_farthest d 37 [(0, .ref (ad X l0)), (2, .int l2), (3, .int l3), (4, .int l4), (5, .int l5)] [] g (some (.int rx)) g') (l0 : Nat) (l2 : Int32) (l3 : Int32) (l4 : Int32) (l5 : Int32) (g : G) (k_l0 : KD g l0 12) (h : f_X12_farthest_80 k37 l0 l2 l3 l4 l5 g = some (rx, g')) : SemF X m_X12_farthest d 80 [(0, .ref (ad X l0)), (2, .int l2), (3, .int l3), (4, .int l4), (5, .int l5)] [] g (some (.int rx)) g' := by
  rw [f_X12_farthest_80] at h
  refine SF_iinc 4 (l5 + (1 : Int32)) [(5, .int (l5 + (1 : Int32))), (0, .ref (ad X l0)), (2, .int l2), (3, .int l3), (4, .int l4)] 83 dX12_farthest_80 rfl rfl (by decide) rfl rfl ?_
  refine SF_goto 37 dX12_farthest_83 rfl ?_
  refine SF_sub [1, 2, 3, 4, 0] rfl ?_
  exact hk37 l0 l2 l3 l4 (l5 + (1 : Int32)) g k_l0 h

set_option maxRecDepth 20000 in
set_option maxHeartbeats 2000000 in
theorem w_X12_farthest_37 {X : CX} {d : Nat} (hd : 8 ≤ d) {g' : G} {rx : Int32} : ∀ (n : Nat) (l0 : Nat) (l2 : Int32) (l3 : Int32) (l4 : Int32) (l5 : Int32) (g : G), KD g l0 12 → f_X12_farthest_37 n l0 l2 l3 l4 l5 g = some (rx, g') → SemF X m_X12_farthest d 37 [(0, .ref (ad X l0)), (2, .int l2), (3, .int l3), (4, .int l4), (5, .int l5)] [] g (some (.int rx)) g' := by
  intro n
  induction n with
  | zero =>
    intro l0 l2 l3 l4 l5 g k_l0 h
    rw [f_X12_farthest_37] at h
    cases h
  | succ n ih =>
  intro l0 l2 l3 l4 l5 g k_l0 h
  rw [f_X12_farthest_37] at h
  refine SF_iload 4 39 dX12_farthest_37 rfl rfl ?_
  refine SF_aload_n 0 40 dX12_farthest_39 rfl rfl rfl ?_
  obtain ⟨v1, g2, q3, h⟩ := bd_some h
  have s4 := w_X12_cells (X := X) (Nat.le_refl 0) l0 g g2 v1 k_l0 q3
  refine SF_callVi 43 mi_X12_cells ml_X12_214 dX12_farthest_40 (Nat.le_trans (by decide) hd) s4 k_l0.1 rfl rfl (Nat.le_of_ble_eq_true rfl) rfl ?_
  have k_l0 := k_l0.ext s4.1
  refine SF_icge 86 46 dX12_farthest_43 rfl rfl (fun c5 => ?_) (fun c5 => ?_)
  · have h := ite_t c5 h
    refine SF_iload_n 2 87 dX12_farthest_86 rfl rfl rfl ?_
    exact RT_i rfl dX12_farthest_87 h
  · have h := ite_f c5 h
    refine SF_aload_n 0 47 dX12_farthest_46 rfl rfl rfl ?_
    refine SF_iload_n 1 48 dX12_farthest_47 rfl rfl rfl ?_
    refine SF_iload 4 50 dX12_farthest_48 rfl rfl ?_
    obtain ⟨v6, g7, q8, h⟩ := bd_some h
    have s9 := w_X12_firstIn (X := X) (Nat.le_refl 1) l0 l2 l5 g2 g7 v6 k_l0 q8
    refine SF_callVi 53 mi_X12_firstIn ml_X12_423 dX12_farthest_50 (Nat.le_trans (by decide) hd) s9 k_l0.1 rfl rfl (Nat.le_of_ble_eq_true rfl) rfl ?_
    have k_l0 := k_l0.ext s9.1
    refine SF_istore [(6, .int v6), (0, .ref (ad X l0)), (2, .int l2), (3, .int l3), (4, .int l4), (5, .int l5)] 55 dX12_farthest_53 (by decide) rfl rfl ?_
    refine SF_iload 0 57 dX12_farthest_55 rfl rfl ?_
    refine SF_ldcw 60 dX12_farthest_57 ki_X12_354 rfl ?_
    refine SF_iceq 80 63 dX12_farthest_60 rfl rfl (fun c10 => ?_) (fun c10 => ?_)
    · have h := ite_t c10 h
      refine SF_sub [1, 2, 3, 4, 5] rfl ?_
      exact w_X12_farthest_80 hd (f_X12_farthest_37 n) ih l0 l2 l3 l4 l5 g7 k_l0 h
    · have h := ite_f c10 h
      refine SF_iload 0 65 dX12_farthest_63 rfl rfl ?_
      refine SF_iload 4 67 dX12_farthest_65 rfl rfl ?_
      refine SF_icgt 73 70 dX12_farthest_67 rfl rfl (fun c11 => ?_) (fun c11 => ?_)
      · have h := ite_t c11 h
        refine SF_iload 5 75 dX12_farthest_73 rfl rfl ?_
        refine SF_istore_n [(3, .int l5), (6, .int v6), (0, .ref (ad X l0)), (2, .int l2), (4, .int l4), (5, .int l5)] 76 dX12_farthest_75 rfl (by decide) rfl rfl ?_
        refine SF_iload 1 78 dX12_farthest_76 rfl rfl ?_
        refine SF_istore [(4, .int v6), (3, .int l5), (6, .int v6), (0, .ref (ad X l0)), (2, .int l2), (5, .int l5)] 80 dX12_farthest_78 (by decide) rfl rfl ?_
        refine SF_sub [3, 4, 1, 0, 5] rfl ?_
        exact w_X12_farthest_80 hd (f_X12_farthest_37 n) ih l0 l2 l5 v6 l5 g7 k_l0 h
      · have h := ite_f c11 h
        refine SF_goto 80 dX12_farthest_70 rfl ?_
        refine SF_sub [1, 2, 3, 4, 5] rfl ?_
        exact w_X12_farthest_80 hd (f_X12_farthest_37 n) ih l0 l2 l3 l4 l5 g7 k_l0 h

set_option maxRecDepth 20000 in
set_option maxHeartbeats 2000000 in
theorem w_X12_farthest {X : CX} {d : Nat} (hd : 8 ≤ d) (l0 : Nat) (l1 : Int32) (l2 : Int32) (g g' : G) (rx : Int32) (k_l0 : KD g l0 12) (h : f_X12_farthest l0 l1 l2 g = some (rx, g')) : Sem X m_X12_farthest d [.ref (ad X l0), .int l1, .int l2] g (some (.int rx)) g' := by
  refine Sem_of (lo := [(0, .ref (ad X l0)), (1, .int l1), (2, .int l2)]) (by decide +kernel) rfl (Nat.le_of_ble_eq_true rfl) ?_
  rw [f_X12_farthest] at h
  refine SF_aload_n 0 1 dX12_farthest_0 rfl rfl rfl ?_
  refine SF_iconst (0 : Int32) 2 dX12_farthest_1 rfl rfl ?_
  refine SF_putI 5 fl_X12_1 dX12_farthest_2 k_l0.1 (fn_int _) (Or.inl rfl) rfl ?_
  obtain ⟨g1, e2, h⟩ := lg_some h
  rw [← e2]
  have k_l0 := KD.eq e2 k_l0
  refine SF_aload_n 0 6 dX12_farthest_5 rfl rfl rfl ?_
  refine SF_iload_n 1 7 dX12_farthest_6 rfl rfl rfl ?_
  refine SF_i2l 8 dX12_farthest_7 rfl ?_
  obtain ⟨v3, g4, q5, h⟩ := bd_some h
  have s6 := w_X12_isPair (X := X) (Nat.le_refl 1) l0 (l1.toInt64) g1 g4 v3 k_l0 q5
  refine SF_callVb 11 mi_X12_isPair ml_X12_255 dX12_farthest_8 (Nat.le_trans (by decide) hd) s6 k_l0.1 rfl rfl (Nat.le_of_ble_eq_true rfl) rfl ?_
  have k_l0 := k_l0.ext s6.1
  refine SF_ifeq 21 14 dX12_farthest_11 rfl rfl (fun c7 => ?_) (fun c7 => ?_)
  · have h := ite_t c7 h
    refine SF_bipush (-2 : Int32) 23 dX12_farthest_21 rfl rfl ?_
    exact RT_i rfl dX12_farthest_23 h
  · have h := ite_f c7 h
    refine SF_iload_n 2 15 dX12_farthest_14 rfl rfl rfl ?_
    obtain ⟨v8, g9, q10, h⟩ := bd_some h
    have s11 := w_X12_isTwin (X := X) (Nat.le_refl 1) l2 g4 g9 v8 q10
    refine SF_callSb 18 mi_X12_isTwin ml_X12_417 dX12_farthest_15 (Nat.le_trans (by decide) hd) s11 rfl rfl (Nat.le_of_ble_eq_true rfl) rfl ?_
    have k_l0 := k_l0.ext s11.1
    refine SF_ifne 24 21 dX12_farthest_18 rfl rfl (fun c12 => ?_) (fun c12 => ?_)
    · have h := ite_f c12 h
      refine SF_aload_n 0 25 dX12_farthest_24 rfl rfl rfl ?_
      refine SF_iload_n 1 26 dX12_farthest_25 rfl rfl rfl ?_
      obtain ⟨v13, g14, q15, h⟩ := bd_some h
      have s16 := w_X12_laysFirst (X := X) (Nat.le_refl 7) l0 l1 g9 g14 v13 k_l0 q15
      refine SF_callVv 29 mi_X12_laysFirst ml_X12_420 dX12_farthest_26 (Nat.le_trans (by decide) hd) s16 k_l0.1 rfl rfl (Nat.le_of_ble_eq_true rfl) rfl ?_
      have k_l0 := k_l0.ext s16.1
      refine SF_iconst (-1 : Int32) 30 dX12_farthest_29 rfl rfl ?_
      refine SF_istore_n [(3, .int (-1 : Int32)), (0, .ref (ad X l0)), (1, .int l1), (2, .int l2)] 31 dX12_farthest_30 rfl (by decide) rfl rfl ?_
      refine SF_iconst (-1 : Int32) 32 dX12_farthest_31 rfl rfl ?_
      refine SF_istore [(4, .int (-1 : Int32)), (3, .int (-1 : Int32)), (0, .ref (ad X l0)), (1, .int l1), (2, .int l2)] 34 dX12_farthest_32 (by decide) rfl rfl ?_
      refine SF_iconst (0 : Int32) 35 dX12_farthest_34 rfl rfl ?_
      refine SF_istore [(5, .int (0 : Int32)), (4, .int (-1 : Int32)), (3, .int (-1 : Int32)), (0, .ref (ad X l0)), (1, .int l1), (2, .int l2)] 37 dX12_farthest_35 (by decide) rfl rfl ?_
      refine SF_sub [3, 5, 2, 1, 0] rfl ?_
      exact w_X12_farthest_37 hd FU l0 l2 (-1 : Int32) (-1 : Int32) (0 : Int32) g14 k_l0 h
    · have h := ite_t c12 h
      refine SF_bipush (-2 : Int32) 23 dX12_farthest_21 rfl rfl ?_
      exact RT_i rfl dX12_farthest_23 h

theorem dX11_round_0 : decode cX11_round 0 = .ok (.aload_n 0, 1) := by decide +kernel
theorem dX11_round_1 : decode cX11_round 1 = .ok (.getfield 78, 3) := by decide +kernel
theorem dX11_round_4 : decode cX11_round 4 = .ok (.iload_n 1, 1) := by decide +kernel
theorem dX11_round_5 : decode cX11_round 5 = .ok (.invokevirtual 161, 3) := by decide +kernel
theorem dX11_round_8 : decode cX11_round 8 = .ok (.ifCond .eq 17, 3) := by decide +kernel
theorem dX11_round_11 : decode cX11_round 11 = .ok (.aload_n 0, 1) := by decide +kernel
theorem dX11_round_12 : decode cX11_round 12 = .ok (.getfield 78, 3) := by decide +kernel
theorem dX11_round_15 : decode cX11_round 15 = .ok (.getfield 136, 3) := by decide +kernel
theorem dX11_round_18 : decode cX11_round 18 = .ok (.iload_n 2, 1) := by decide +kernel
theorem dX11_round_19 : decode cX11_round 19 = .ok (.invokevirtual 143, 3) := by decide +kernel
theorem dX11_round_22 : decode cX11_round 22 = .ok (.ifCond .ne 7, 3) := by decide +kernel
theorem dX11_round_25 : decode cX11_round 25 = .ok (.ldc2_w 286, 3) := by decide +kernel
theorem dX11_round_28 : decode cX11_round 28 = .ok (.lreturn, 1) := by decide +kernel
theorem dX11_round_29 : decode cX11_round 29 = .ok (.aload_n 0, 1) := by decide +kernel
theorem dX11_round_30 : decode cX11_round 30 = .ok (.getfield 95, 3) := by decide +kernel
theorem dX11_round_33 : decode cX11_round 33 = .ok (.aload_n 0, 1) := by decide +kernel
theorem dX11_round_34 : decode cX11_round 34 = .ok (.getfield 78, 3) := by decide +kernel
theorem dX11_round_37 : decode cX11_round 37 = .ok (.iload_n 1, 1) := by decide +kernel
theorem dX11_round_38 : decode cX11_round 38 = .ok (.invokevirtual 306, 3) := by decide +kernel
theorem dX11_round_41 : decode cX11_round 41 = .ok (.aload_n 0, 1) := by decide +kernel
theorem dX11_round_42 : decode cX11_round 42 = .ok (.getfield 95, 3) := by decide +kernel
theorem dX11_round_45 : decode cX11_round 45 = .ok (.getfield 310, 3) := by decide +kernel
theorem dX11_round_48 : decode cX11_round 48 = .ok (.aload_n 0, 1) := by decide +kernel
theorem dX11_round_49 : decode cX11_round 49 = .ok (.getfield 95, 3) := by decide +kernel
theorem dX11_round_52 : decode cX11_round 52 = .ok (.aload_n 0, 1) := by decide +kernel
theorem dX11_round_53 : decode cX11_round 53 = .ok (.getfield 78, 3) := by decide +kernel
theorem dX11_round_56 : decode cX11_round 56 = .ok (.getfield 167, 3) := by decide +kernel
theorem dX11_round_59 : decode cX11_round 59 = .ok (.iload_n 1, 1) := by decide +kernel
theorem dX11_round_60 : decode cX11_round 60 = .ok (.iaload, 1) := by decide +kernel
theorem dX11_round_61 : decode cX11_round 61 = .ok (.iload_n 2, 1) := by decide +kernel
theorem dX11_round_62 : decode cX11_round 62 = .ok (.invokevirtual 343, 3) := by decide +kernel
theorem dX11_round_65 : decode cX11_round 65 = .ok (.land, 1) := by decide +kernel
theorem dX11_round_66 : decode cX11_round 66 = .ok (.lreturn, 1) := by decide +kernel
set_option maxRecDepth 20000 in
set_option maxHeartbeats 2000000 in
theorem w_X11_round_25 {X : CX} {d : Nat} (hd : 4 ≤ d) {g' : G} {rx : Int64} (g : G) (h : f_X11_round_25 g = some (rx, g')) : SemF X m_X11_round d 25 [] [] g (some (.long rx)) g' := by
  rw [f_X11_round_25] at h
  refine SF_ldc2 28 dX11_round_25 kl_X11_286 rfl ?_
  exact RT_l rfl dX11_round_28 h

set_option maxRecDepth 20000 in
set_option maxHeartbeats 2000000 in
theorem w_X11_round {X : CX} {d : Nat} (hd : 4 ≤ d) (l0 : Nat) (l1 : Int32) (l2 : Int32) (g g' : G) (rx : Int64) (k_l0 : KD g l0 11) (h : f_X11_round l0 l1 l2 g = some (rx, g')) : Sem X m_X11_round d [.ref (ad X l0), .int l1, .int l2] g (some (.long rx)) g' := by
  refine Sem_of (lo := [(0, .ref (ad X l0)), (1, .int l1), (2, .int l2)]) (by decide +kernel) rfl (Nat.le_of_ble_eq_true rfl) ?_
  rw [f_X11_round] at h
  refine SF_aload_n 0 1 dX11_round_0 rfl rfl rfl ?_
  obtain ⟨b1, r2, h⟩ := dr_some h
  refine SF_getR 4 fl_X11_78 dX11_round_1 k_l0.1 r2 rfl ?_
  refine SF_iload_n 1 5 dX11_round_4 rfl rfl rfl ?_
  obtain ⟨k3, h⟩ := gdK_some h
  obtain ⟨v4, g5, q6, h⟩ := bd_some h
  have s7 := w_X0_isPair (X := X) (Nat.le_refl 0) b1 l1 g g5 v4 k3 q6
  refine SF_callVb 8 mi_X0_isPair ml_X11_161 dX11_round_5 (Nat.le_trans (by decide) hd) s7 k3.1 rfl rfl (Nat.le_of_ble_eq_true rfl) rfl ?_
  have k_l0 := k_l0.ext s7.1
  have k3 := k3.ext s7.1
  refine SF_ifeq 25 11 dX11_round_8 rfl rfl (fun c8 => ?_) (fun c8 => ?_)
  · have h := ite_t c8 h
    refine SF_sub [] rfl ?_
    exact w_X11_round_25 hd g5  h
  · have h := ite_f c8 h
    refine SF_aload_n 0 12 dX11_round_11 rfl rfl rfl ?_
    obtain ⟨b9, r10, h⟩ := dr_some h
    refine SF_getR 15 fl_X11_78 dX11_round_12 k_l0.1 r10 rfl ?_
    obtain ⟨k11, h⟩ := gdK_some h
    obtain ⟨b12, r13, h⟩ := dr_some h
    refine SF_getR 18 fl_X11_136 dX11_round_15 k11.1 r13 rfl ?_
    refine SF_iload_n 2 19 dX11_round_18 rfl rfl rfl ?_
    obtain ⟨k14, h⟩ := gdK_some h
    obtain ⟨v15, g16, q17, h⟩ := bd_some h
    have s18 := w_X7_isCell (X := X) (Nat.le_refl 0) b12 l2 g5 g16 v15 k14 q17
    refine SF_callVb 22 mi_X7_isCell ml_X11_143 dX11_round_19 (Nat.le_trans (by decide) hd) s18 k14.1 rfl rfl (Nat.le_of_ble_eq_true rfl) rfl ?_
    have k_l0 := k_l0.ext s18.1
    have k3 := k3.ext s18.1
    have k11 := k11.ext s18.1
    have k14 := k14.ext s18.1
    refine SF_ifne 29 25 dX11_round_22 rfl rfl (fun c19 => ?_) (fun c19 => ?_)
    · have h := ite_f c19 h
      refine SF_aload_n 0 30 dX11_round_29 rfl rfl rfl ?_
      obtain ⟨b20, r21, h⟩ := dr_some h
      refine SF_getR 33 fl_X11_95 dX11_round_30 k_l0.1 r21 rfl ?_
      refine SF_aload_n 0 34 dX11_round_33 rfl rfl rfl ?_
      obtain ⟨b22, r23, h⟩ := dr_some h
      refine SF_getR 37 fl_X11_78 dX11_round_34 k_l0.1 r23 rfl ?_
      refine SF_iload_n 1 38 dX11_round_37 rfl rfl rfl ?_
      obtain ⟨k24, h⟩ := gdK_some h
      obtain ⟨k25, h⟩ := gdK_some h
      obtain ⟨v26, g27, q28, h⟩ := bd_some h
      have s29 := w_X9_aim (X := X) (Nat.le_refl 3) b20 b22 l1 g16 g27 v26 k24 k25 q28
      refine SF_callVv 41 mi_X9_aim ml_X11_306 dX11_round_38 (Nat.le_trans (by decide) hd) s29 k24.1 rfl rfl (Nat.le_of_ble_eq_true rfl) rfl ?_
      have k_l0 := k_l0.ext s29.1
      have k3 := k3.ext s29.1
      have k11 := k11.ext s29.1
      have k14 := k14.ext s29.1
      have k24 := k24.ext s29.1
      have k25 := k25.ext s29.1
      refine SF_aload_n 0 42 dX11_round_41 rfl rfl rfl ?_
      obtain ⟨b30, r31, h⟩ := dr_some h
      refine SF_getR 45 fl_X11_95 dX11_round_42 k_l0.1 r31 rfl ?_
      obtain ⟨k32, h⟩ := gdK_some h
      refine SF_getL 48 fl_X11_310 dX11_round_45 k32.1 rfl ?_
      refine SF_aload_n 0 49 dX11_round_48 rfl rfl rfl ?_
      refine SF_getR 52 fl_X11_95 dX11_round_49 k_l0.1 r31 rfl ?_
      refine SF_aload_n 0 53 dX11_round_52 rfl rfl rfl ?_
      obtain ⟨b33, r34, h⟩ := dr_some h
      refine SF_getR 56 fl_X11_78 dX11_round_53 k_l0.1 r34 rfl ?_
      obtain ⟨k35, h⟩ := gdK_some h
      obtain ⟨b36, r37, h⟩ := dr_some h
      refine SF_getR 59 fl_X11_167 dX11_round_56 k35.1 r37 rfl ?_
      refine SF_iload_n 1 60 dX11_round_59 rfl rfl rfl ?_
      obtain ⟨k38, h⟩ := gdK_some h
      obtain ⟨i39, h⟩ := gdI_some h
      refine SF_iald 61 dX11_round_60 k38.1 i39 rfl ?_
      refine SF_iload_n 2 62 dX11_round_61 rfl rfl rfl ?_
      obtain ⟨v40, g41, q42, h⟩ := bd_some h
      have s43 := w_X9_ring (X := X) (Nat.le_refl 0) b30 (gI g27 b36 l1.toNatClampNeg) l2 g27 g41 v40 k32 q42
      refine SF_callVl 65 mi_X9_ring ml_X11_343 dX11_round_62 (Nat.le_trans (by decide) hd) s43 k32.1 rfl rfl (Nat.le_of_ble_eq_true rfl) rfl ?_
      have k_l0 := k_l0.ext s43.1
      have k3 := k3.ext s43.1
      have k11 := k11.ext s43.1
      have k14 := k14.ext s43.1
      have k24 := k24.ext s43.1
      have k25 := k25.ext s43.1
      have k32 := k32.ext s43.1
      have k35 := k35.ext s43.1
      have k38 := k38.ext s43.1
      refine SF_land 66 dX11_round_65 rfl ?_
      exact RT_l rfl dX11_round_66 h
    · have h := ite_t c19 h
      refine SF_sub [] rfl ?_
      exact w_X11_round_25 hd g16  h

theorem dX12_round_0 : decode cX12_round 0 = .ok (.aload_n 0, 1) := by decide +kernel
theorem dX12_round_1 : decode cX12_round 1 = .ok (.iconst 0, 1) := by decide +kernel
theorem dX12_round_2 : decode cX12_round 2 = .ok (.putfield 1, 3) := by decide +kernel
theorem dX12_round_5 : decode cX12_round 5 = .ok (.aload_n 0, 1) := by decide +kernel
theorem dX12_round_6 : decode cX12_round 6 = .ok (.iload_n 1, 1) := by decide +kernel
theorem dX12_round_7 : decode cX12_round 7 = .ok (.i2l, 1) := by decide +kernel
theorem dX12_round_8 : decode cX12_round 8 = .ok (.invokevirtual 255, 3) := by decide +kernel
theorem dX12_round_11 : decode cX12_round 11 = .ok (.ifCond .eq 12, 3) := by decide +kernel
theorem dX12_round_14 : decode cX12_round 14 = .ok (.aload_n 0, 1) := by decide +kernel
theorem dX12_round_15 : decode cX12_round 15 = .ok (.iload_n 2, 1) := by decide +kernel
theorem dX12_round_16 : decode cX12_round 16 = .ok (.i2l, 1) := by decide +kernel
theorem dX12_round_17 : decode cX12_round 17 = .ok (.invokevirtual 264, 3) := by decide +kernel
theorem dX12_round_20 : decode cX12_round 20 = .ok (.ifCond .ne 7, 3) := by decide +kernel
theorem dX12_round_23 : decode cX12_round 23 = .ok (.ldc2_w 396, 3) := by decide +kernel
theorem dX12_round_26 : decode cX12_round 26 = .ok (.lreturn, 1) := by decide +kernel
theorem dX12_round_27 : decode cX12_round 27 = .ok (.lconst 0, 1) := by decide +kernel
theorem dX12_round_28 : decode cX12_round 28 = .ok (.lstore_n 3, 1) := by decide +kernel
theorem dX12_round_29 : decode cX12_round 29 = .ok (.iconst 0, 1) := by decide +kernel
theorem dX12_round_30 : decode cX12_round 30 = .ok (.istore 5, 2) := by decide +kernel
theorem dX12_round_32 : decode cX12_round 32 = .ok (.iload 5, 2) := by decide +kernel
theorem dX12_round_34 : decode cX12_round 34 = .ok (.aload_n 0, 1) := by decide +kernel
theorem dX12_round_35 : decode cX12_round 35 = .ok (.invokevirtual 214, 3) := by decide +kernel
theorem dX12_round_38 : decode cX12_round 38 = .ok (.if_icmp .ge 49, 3) := by decide +kernel
theorem dX12_round_41 : decode cX12_round 41 = .ok (.lload_n 3, 1) := by decide +kernel
theorem dX12_round_42 : decode cX12_round 42 = .ok (.aload_n 0, 1) := by decide +kernel
theorem dX12_round_43 : decode cX12_round 43 = .ok (.iload_n 1, 1) := by decide +kernel
theorem dX12_round_44 : decode cX12_round 44 = .ok (.iload 5, 2) := by decide +kernel
theorem dX12_round_46 : decode cX12_round 46 = .ok (.invokevirtual 244, 3) := by decide +kernel
theorem dX12_round_49 : decode cX12_round 49 = .ok (.ifCond .eq 29, 3) := by decide +kernel
theorem dX12_round_52 : decode cX12_round 52 = .ok (.aload_n 0, 1) := by decide +kernel
theorem dX12_round_53 : decode cX12_round 53 = .ok (.iload_n 2, 1) := by decide +kernel
theorem dX12_round_54 : decode cX12_round 54 = .ok (.iload 5, 2) := by decide +kernel
theorem dX12_round_56 : decode cX12_round 56 = .ok (.invokevirtual 208, 3) := by decide +kernel
theorem dX12_round_59 : decode cX12_round 59 = .ok (.aload_n 0, 1) := by decide +kernel
theorem dX12_round_60 : decode cX12_round 60 = .ok (.getfield 13, 3) := by decide +kernel
theorem dX12_round_63 : decode cX12_round 63 = .ok (.bipush 94, 2) := by decide +kernel
theorem dX12_round_65 : decode cX12_round 65 = .ok (.iload_n 1, 1) := by decide +kernel
theorem dX12_round_66 : decode cX12_round 66 = .ok (.iadd, 1) := by decide +kernel
theorem dX12_round_67 : decode cX12_round 67 = .ok (.iaload, 1) := by decide +kernel
theorem dX12_round_68 : decode cX12_round 68 = .ok (.if_icmp .ne 10, 3) := by decide +kernel
theorem dX12_round_71 : decode cX12_round 71 = .ok (.lconst 1, 1) := by decide +kernel
theorem dX12_round_72 : decode cX12_round 72 = .ok (.iload 5, 2) := by decide +kernel
theorem dX12_round_74 : decode cX12_round 74 = .ok (.lshl, 1) := by decide +kernel
theorem dX12_round_75 : decode cX12_round 75 = .ok (.goto 4, 3) := by decide +kernel
theorem dX12_round_78 : decode cX12_round 78 = .ok (.lconst 0, 1) := by decide +kernel
theorem dX12_round_79 : decode cX12_round 79 = .ok (.lor, 1) := by decide +kernel
theorem dX12_round_80 : decode cX12_round 80 = .ok (.lstore_n 3, 1) := by decide +kernel
theorem dX12_round_81 : decode cX12_round 81 = .ok (.iinc 5 1, 3) := by decide +kernel
theorem dX12_round_84 : decode cX12_round 84 = .ok (.goto (-52), 3) := by decide +kernel
theorem dX12_round_87 : decode cX12_round 87 = .ok (.lload_n 3, 1) := by decide +kernel
theorem dX12_round_88 : decode cX12_round 88 = .ok (.lreturn, 1) := by decide +kernel
set_option maxRecDepth 20000 in
set_option maxHeartbeats 2000000 in
theorem w_X12_round_23 {X : CX} {d : Nat} (hd : 2 ≤ d) {g' : G} {rx : Int64} (g : G) (h : f_X12_round_23 g = some (rx, g')) : SemF X m_X12_round d 23 [] [] g (some (.long rx)) g' := by
  rw [f_X12_round_23] at h
  refine SF_ldc2 26 dX12_round_23 kl_X12_396 rfl ?_
  exact RT_l rfl dX12_round_26 h

set_option maxRecDepth 20000 in
set_option maxHeartbeats 2000000 in
theorem w_X12_round_79 {X : CX} {d : Nat} (hd : 2 ≤ d) {g' : G} {rx : Int64} (k32 : Nat → Int32 → Int32 → Int64 → Int32 → G → Option (Int64 × G)) (hk32 : ∀ (l0 : Nat) (l1 : Int32) (l2 : Int32) (l3 : Int64) (l5 : Int32) (g : G), KD g l0 12 → k32 l0 l1 l2 l3 l5 g = some (rx, g') → SemF X m_X12_round d 32 [(0, .ref (ad X l0)), (1, .int l1), (2, .int l2), (3, .long l3), (5, .int l5)] [] g (some (.long rx)) g') (l0 : Nat) (l1 : Int32) (l2 : Int32) (l5 : Int32) (s0 : Int64) (s1 : Int64) (g : G) (k_l0 : KD g l0 12) (h : f_X12_round_79 k32 l0 l1 l2 l5 s0 s1 g = some (rx, g')) : SemF X m_X12_round d 79 [(0, .ref (ad X l0)), (1, .int l1), (2, .int l2), (5, .int l5)] [.long s0, .long s1] g (some (.long rx)) g' := by
  rw [f_X12_round_79] at h
  refine SF_lor 80 dX12_round_79 rfl ?_
  obtain ⟨y1, e2, h⟩ := ll_some h
  refine SF_eqL e2 ?_
  refine SF_lstore_n [(3, .long y1), (0, .ref (ad X l0)), (1, .int l1), (2, .int l2), (5, .int l5)] 81 dX12_round_80 rfl (by decide) rfl rfl ?_
  refine SF_iinc 4 (l5 + (1 : Int32)) [(5, .int (l5 + (1 : Int32))), (3, .long y1), (0, .ref (ad X l0)), (1, .int l1), (2, .int l2)] 84 dX12_round_81 rfl rfl (by decide) rfl rfl ?_
  refine SF_goto 32 dX12_round_84 rfl ?_
  refine SF_sub [2, 3, 4, 1, 0] rfl ?_
  exact hk32 l0 l1 l2 y1 (l5 + (1 : Int32)) g k_l0 h

set_option maxRecDepth 20000 in
set_option maxHeartbeats 2000000 in
theorem w_X12_round_78 {X : CX} {d : Nat} (hd : 2 ≤ d) {g' : G} {rx : Int64} (k32 : Nat → Int32 → Int32 → Int64 → Int32 → G → Option (Int64 × G)) (hk32 : ∀ (l0 : Nat) (l1 : Int32) (l2 : Int32) (l3 : Int64) (l5 : Int32) (g : G), KD g l0 12 → k32 l0 l1 l2 l3 l5 g = some (rx, g') → SemF X m_X12_round d 32 [(0, .ref (ad X l0)), (1, .int l1), (2, .int l2), (3, .long l3), (5, .int l5)] [] g (some (.long rx)) g') (l0 : Nat) (l1 : Int32) (l2 : Int32) (l5 : Int32) (s0 : Int64) (g : G) (k_l0 : KD g l0 12) (h : f_X12_round_78 k32 l0 l1 l2 l5 s0 g = some (rx, g')) : SemF X m_X12_round d 78 [(0, .ref (ad X l0)), (1, .int l1), (2, .int l2), (5, .int l5)] [.long s0] g (some (.long rx)) g' := by
  rw [f_X12_round_78] at h
  refine SF_lconst (0 : Int64) 79 dX12_round_78 rfl rfl ?_
  exact w_X12_round_79 hd k32 hk32 l0 l1 l2 l5 (0 : Int64) s0 g k_l0 h

set_option maxRecDepth 20000 in
set_option maxHeartbeats 2000000 in
theorem w_X12_round_32 {X : CX} {d : Nat} (hd : 2 ≤ d) {g' : G} {rx : Int64} : ∀ (n : Nat) (l0 : Nat) (l1 : Int32) (l2 : Int32) (l3 : Int64) (l5 : Int32) (g : G), KD g l0 12 → f_X12_round_32 n l0 l1 l2 l3 l5 g = some (rx, g') → SemF X m_X12_round d 32 [(0, .ref (ad X l0)), (1, .int l1), (2, .int l2), (3, .long l3), (5, .int l5)] [] g (some (.long rx)) g' := by
  intro n
  induction n with
  | zero =>
    intro l0 l1 l2 l3 l5 g k_l0 h
    rw [f_X12_round_32] at h
    cases h
  | succ n ih =>
  intro l0 l1 l2 l3 l5 g k_l0 h
  rw [f_X12_round_32] at h
  refine SF_iload 4 34 dX12_round_32 rfl rfl ?_
  refine SF_aload_n 0 35 dX12_round_34 rfl rfl rfl ?_
  obtain ⟨v1, g2, q3, h⟩ := bd_some h
  have s4 := w_X12_cells (X := X) (Nat.le_refl 0) l0 g g2 v1 k_l0 q3
  refine SF_callVi 38 mi_X12_cells ml_X12_214 dX12_round_35 (Nat.le_trans (by decide) hd) s4 k_l0.1 rfl rfl (Nat.le_of_ble_eq_true rfl) rfl ?_
  have k_l0 := k_l0.ext s4.1
  refine SF_icge 87 41 dX12_round_38 rfl rfl (fun c5 => ?_) (fun c5 => ?_)
  · have h := ite_t c5 h
    refine SF_lload_n 3 88 dX12_round_87 rfl rfl rfl ?_
    exact RT_l rfl dX12_round_88 h
  · have h := ite_f c5 h
    refine SF_lload_n 3 42 dX12_round_41 rfl rfl rfl ?_
    refine SF_aload_n 0 43 dX12_round_42 rfl rfl rfl ?_
    refine SF_iload_n 1 44 dX12_round_43 rfl rfl rfl ?_
    refine SF_iload 4 46 dX12_round_44 rfl rfl ?_
    obtain ⟨v6, g7, q8, h⟩ := bd_some h
    have s9 := w_X12_isFree (X := X) (Nat.le_refl 1) l0 l1 l5 g2 g7 v6 k_l0 q8
    refine SF_callVb 49 mi_X12_isFree ml_X12_244 dX12_round_46 (Nat.le_trans (by decide) hd) s9 k_l0.1 rfl rfl (Nat.le_of_ble_eq_true rfl) rfl ?_
    have k_l0 := k_l0.ext s9.1
    refine SF_ifeq 78 52 dX12_round_49 rfl rfl (fun c10 => ?_) (fun c10 => ?_)
    · have h := ite_t c10 h
      refine SF_sub [0, 1, 2, 4] rfl ?_
      exact w_X12_round_78 hd (f_X12_round_32 n) ih l0 l1 l2 l5 l3 g7 k_l0 h
    · have h := ite_f c10 h
      refine SF_aload_n 0 53 dX12_round_52 rfl rfl rfl ?_
      refine SF_iload_n 2 54 dX12_round_53 rfl rfl rfl ?_
      refine SF_iload 4 56 dX12_round_54 rfl rfl ?_
      obtain ⟨v11, g12, q13, h⟩ := bd_some h
      have s14 := w_X12_apart (X := X) (Nat.le_refl 1) l0 l2 l5 g7 g12 v11 k_l0 q13
      refine SF_callVi 59 mi_X12_apart ml_X12_208 dX12_round_56 (Nat.le_trans (by decide) hd) s14 k_l0.1 rfl rfl (Nat.le_of_ble_eq_true rfl) rfl ?_
      have k_l0 := k_l0.ext s14.1
      refine SF_aload_n 0 60 dX12_round_59 rfl rfl rfl ?_
      obtain ⟨b15, r16, h⟩ := dr_some h
      refine SF_getR 63 fl_X12_13 dX12_round_60 k_l0.1 r16 rfl ?_
      refine SF_bipush (94 : Int32) 65 dX12_round_63 rfl rfl ?_
      refine SF_iload_n 1 66 dX12_round_65 rfl rfl rfl ?_
      refine SF_iadd 67 dX12_round_66 rfl ?_
      obtain ⟨k17, h⟩ := gdK_some h
      obtain ⟨i18, h⟩ := gdI_some h
      refine SF_iald 68 dX12_round_67 k17.1 i18 rfl ?_
      refine SF_icne 78 71 dX12_round_68 rfl rfl (fun c19 => ?_) (fun c19 => ?_)
      · have h := ite_f c19 h
        refine SF_sub [0, 1, 2, 4] rfl ?_
        exact w_X12_round_78 hd (f_X12_round_32 n) ih l0 l1 l2 l5 l3 g12 k_l0 h
      · have h := ite_t c19 h
        refine SF_lconst (1 : Int64) 72 dX12_round_71 rfl rfl ?_
        refine SF_iload 4 74 dX12_round_72 rfl rfl ?_
        refine SF_lshl 75 dX12_round_74 rfl ?_
        refine SF_goto 79 dX12_round_75 rfl ?_
        refine SF_sub [0, 1, 2, 4] rfl ?_
        exact w_X12_round_79 hd (f_X12_round_32 n) ih l0 l1 l2 l5 ((1 : Int64) <<< (l5.toInt64 &&& 63)) l3 g12 k_l0 h

set_option maxRecDepth 20000 in
set_option maxHeartbeats 2000000 in
theorem w_X12_round {X : CX} {d : Nat} (hd : 2 ≤ d) (l0 : Nat) (l1 : Int32) (l2 : Int32) (g g' : G) (rx : Int64) (k_l0 : KD g l0 12) (h : f_X12_round l0 l1 l2 g = some (rx, g')) : Sem X m_X12_round d [.ref (ad X l0), .int l1, .int l2] g (some (.long rx)) g' := by
  refine Sem_of (lo := [(0, .ref (ad X l0)), (1, .int l1), (2, .int l2)]) (by decide +kernel) rfl (Nat.le_of_ble_eq_true rfl) ?_
  rw [f_X12_round] at h
  refine SF_aload_n 0 1 dX12_round_0 rfl rfl rfl ?_
  refine SF_iconst (0 : Int32) 2 dX12_round_1 rfl rfl ?_
  refine SF_putI 5 fl_X12_1 dX12_round_2 k_l0.1 (fn_int _) (Or.inl rfl) rfl ?_
  obtain ⟨g1, e2, h⟩ := lg_some h
  rw [← e2]
  have k_l0 := KD.eq e2 k_l0
  refine SF_aload_n 0 6 dX12_round_5 rfl rfl rfl ?_
  refine SF_iload_n 1 7 dX12_round_6 rfl rfl rfl ?_
  refine SF_i2l 8 dX12_round_7 rfl ?_
  obtain ⟨v3, g4, q5, h⟩ := bd_some h
  have s6 := w_X12_isPair (X := X) (Nat.le_refl 1) l0 (l1.toInt64) g1 g4 v3 k_l0 q5
  refine SF_callVb 11 mi_X12_isPair ml_X12_255 dX12_round_8 (Nat.le_trans (by decide) hd) s6 k_l0.1 rfl rfl (Nat.le_of_ble_eq_true rfl) rfl ?_
  have k_l0 := k_l0.ext s6.1
  refine SF_ifeq 23 14 dX12_round_11 rfl rfl (fun c7 => ?_) (fun c7 => ?_)
  · have h := ite_t c7 h
    refine SF_sub [] rfl ?_
    exact w_X12_round_23 hd g4  h
  · have h := ite_f c7 h
    refine SF_aload_n 0 15 dX12_round_14 rfl rfl rfl ?_
    refine SF_iload_n 2 16 dX12_round_15 rfl rfl rfl ?_
    refine SF_i2l 17 dX12_round_16 rfl ?_
    obtain ⟨v8, g9, q10, h⟩ := bd_some h
    have s11 := w_X12_isCell (X := X) (Nat.le_refl 1) l0 (l2.toInt64) g4 g9 v8 k_l0 q10
    refine SF_callVb 20 mi_X12_isCell ml_X12_264 dX12_round_17 (Nat.le_trans (by decide) hd) s11 k_l0.1 rfl rfl (Nat.le_of_ble_eq_true rfl) rfl ?_
    have k_l0 := k_l0.ext s11.1
    refine SF_ifne 27 23 dX12_round_20 rfl rfl (fun c12 => ?_) (fun c12 => ?_)
    · have h := ite_f c12 h
      refine SF_lconst (0 : Int64) 28 dX12_round_27 rfl rfl ?_
      refine SF_lstore_n [(3, .long (0 : Int64)), (0, .ref (ad X l0)), (1, .int l1), (2, .int l2)] 29 dX12_round_28 rfl (by decide) rfl rfl ?_
      refine SF_iconst (0 : Int32) 30 dX12_round_29 rfl rfl ?_
      refine SF_istore [(5, .int (0 : Int32)), (3, .long (0 : Int64)), (0, .ref (ad X l0)), (1, .int l1), (2, .int l2)] 32 dX12_round_30 (by decide) rfl rfl ?_
      refine SF_sub [2, 3, 4, 1, 0] rfl ?_
      exact w_X12_round_32 hd FU l0 l1 l2 (0 : Int64) (0 : Int32) g9 k_l0 h
    · have h := ite_t c12 h
      refine SF_sub [] rfl ?_
      exact w_X12_round_23 hd g9  h

theorem dX11_spans_0 : decode cX11_spans 0 = .ok (.aload_n 0, 1) := by decide +kernel
theorem dX11_spans_1 : decode cX11_spans 1 = .ok (.getfield 78, 3) := by decide +kernel
theorem dX11_spans_4 : decode cX11_spans 4 = .ok (.iload_n 1, 1) := by decide +kernel
theorem dX11_spans_5 : decode cX11_spans 5 = .ok (.invokevirtual 161, 3) := by decide +kernel
theorem dX11_spans_8 : decode cX11_spans 8 = .ok (.ifCond .ne 6, 3) := by decide +kernel
theorem dX11_spans_11 : decode cX11_spans 11 = .ok (.bipush (-2), 2) := by decide +kernel
theorem dX11_spans_13 : decode cX11_spans 13 = .ok (.ireturn, 1) := by decide +kernel
theorem dX11_spans_14 : decode cX11_spans 14 = .ok (.iload_n 2, 1) := by decide +kernel
theorem dX11_spans_15 : decode cX11_spans 15 = .ok (.ifCond .lt 9, 3) := by decide +kernel
theorem dX11_spans_18 : decode cX11_spans 18 = .ok (.iload_n 2, 1) := by decide +kernel
theorem dX11_spans_19 : decode cX11_spans 19 = .ok (.bipush 10, 2) := by decide +kernel
theorem dX11_spans_21 : decode cX11_spans 21 = .ok (.if_icmp .le 6, 3) := by decide +kernel
theorem dX11_spans_24 : decode cX11_spans 24 = .ok (.bipush (-3), 2) := by decide +kernel
theorem dX11_spans_26 : decode cX11_spans 26 = .ok (.ireturn, 1) := by decide +kernel
theorem dX11_spans_27 : decode cX11_spans 27 = .ok (.aload_n 0, 1) := by decide +kernel
theorem dX11_spans_28 : decode cX11_spans 28 = .ok (.getfield 95, 3) := by decide +kernel
theorem dX11_spans_31 : decode cX11_spans 31 = .ok (.aload_n 0, 1) := by decide +kernel
theorem dX11_spans_32 : decode cX11_spans 32 = .ok (.getfield 78, 3) := by decide +kernel
theorem dX11_spans_35 : decode cX11_spans 35 = .ok (.iload_n 1, 1) := by decide +kernel
theorem dX11_spans_36 : decode cX11_spans 36 = .ok (.invokevirtual 306, 3) := by decide +kernel
theorem dX11_spans_39 : decode cX11_spans 39 = .ok (.iconst 0, 1) := by decide +kernel
theorem dX11_spans_40 : decode cX11_spans 40 = .ok (.istore_n 3, 1) := by decide +kernel
theorem dX11_spans_41 : decode cX11_spans 41 = .ok (.iconst 0, 1) := by decide +kernel
theorem dX11_spans_42 : decode cX11_spans 42 = .ok (.istore 4, 2) := by decide +kernel
theorem dX11_spans_44 : decode cX11_spans 44 = .ok (.iload 4, 2) := by decide +kernel
theorem dX11_spans_46 : decode cX11_spans 46 = .ok (.bipush 36, 2) := by decide +kernel
theorem dX11_spans_48 : decode cX11_spans 48 = .ok (.if_icmp .ge 50, 3) := by decide +kernel
theorem dX11_spans_51 : decode cX11_spans 51 = .ok (.aload_n 0, 1) := by decide +kernel
theorem dX11_spans_52 : decode cX11_spans 52 = .ok (.getfield 95, 3) := by decide +kernel
theorem dX11_spans_55 : decode cX11_spans 55 = .ok (.getfield 310, 3) := by decide +kernel
theorem dX11_spans_58 : decode cX11_spans 58 = .ok (.iload 4, 2) := by decide +kernel
theorem dX11_spans_60 : decode cX11_spans 60 = .ok (.lushr, 1) := by decide +kernel
theorem dX11_spans_61 : decode cX11_spans 61 = .ok (.lconst 1, 1) := by decide +kernel
theorem dX11_spans_62 : decode cX11_spans 62 = .ok (.land, 1) := by decide +kernel
theorem dX11_spans_63 : decode cX11_spans 63 = .ok (.lconst 0, 1) := by decide +kernel
theorem dX11_spans_64 : decode cX11_spans 64 = .ok (.lcmp, 1) := by decide +kernel
theorem dX11_spans_65 : decode cX11_spans 65 = .ok (.ifCond .eq 27, 3) := by decide +kernel
theorem dX11_spans_68 : decode cX11_spans 68 = .ok (.iload_n 3, 1) := by decide +kernel
theorem dX11_spans_69 : decode cX11_spans 69 = .ok (.aload_n 0, 1) := by decide +kernel
theorem dX11_spans_70 : decode cX11_spans 70 = .ok (.getfield 95, 3) := by decide +kernel
theorem dX11_spans_73 : decode cX11_spans 73 = .ok (.getfield 310, 3) := by decide +kernel
theorem dX11_spans_76 : decode cX11_spans 76 = .ok (.aload_n 0, 1) := by decide +kernel
theorem dX11_spans_77 : decode cX11_spans 77 = .ok (.getfield 95, 3) := by decide +kernel
theorem dX11_spans_80 : decode cX11_spans 80 = .ok (.iload_n 2, 1) := by decide +kernel
theorem dX11_spans_81 : decode cX11_spans 81 = .ok (.iload 4, 2) := by decide +kernel
theorem dX11_spans_83 : decode cX11_spans 83 = .ok (.invokevirtual 343, 3) := by decide +kernel
theorem dX11_spans_86 : decode cX11_spans 86 = .ok (.land, 1) := by decide +kernel
theorem dX11_spans_87 : decode cX11_spans 87 = .ok (.invokestatic 347, 3) := by decide +kernel
theorem dX11_spans_90 : decode cX11_spans 90 = .ok (.iadd, 1) := by decide +kernel
theorem dX11_spans_91 : decode cX11_spans 91 = .ok (.istore_n 3, 1) := by decide +kernel
theorem dX11_spans_92 : decode cX11_spans 92 = .ok (.iinc 4 1, 3) := by decide +kernel
theorem dX11_spans_95 : decode cX11_spans 95 = .ok (.goto (-51), 3) := by decide +kernel
theorem dX11_spans_98 : decode cX11_spans 98 = .ok (.iload_n 3, 1) := by decide +kernel
theorem dX11_spans_99 : decode cX11_spans 99 = .ok (.ireturn, 1) := by decide +kernel
set_option maxRecDepth 20000 in
set_option maxHeartbeats 2000000 in
theorem w_X11_spans_92 {X : CX} {d : Nat} (hd : 4 ≤ d) {g' : G} {rx : Int32} (k44 : Nat → Int32 → Int32 → Int32 → G → Option (Int32 × G)) (hk44 : ∀ (l0 : Nat) (l2 : Int32) (l3 : Int32) (l4 : Int32) (g : G), KD g l0 11 → k44 l0 l2 l3 l4 g = some (rx, g') → SemF X m_X11_spans d 44 [(0, .ref (ad X l0)), (2, .int l2), (3, .int l3), (4, .int l4)] [] g (some (.int rx)) g') (l0 : Nat) (l2 : Int32) (l3 : Int32) (l4 : Int32) (g : G) (k_l0 : KD g l0 11) (h : f_X11_spans_92 k44 l0 l2 l3 l4 g = some (rx, g')) : SemF X m_X11_spans d 92 [(0, .ref (ad X l0)), (2, .int l2), (3, .int l3), (4, .int l4)] [] g (some (.int rx)) g' := by
  rw [f_X11_spans_92] at h
  refine SF_iinc 3 (l4 + (1 : Int32)) [(4, .int (l4 + (1 : Int32))), (0, .ref (ad X l0)), (2, .int l2), (3, .int l3)] 95 dX11_spans_92 rfl rfl (by decide) rfl rfl ?_
  refine SF_goto 44 dX11_spans_95 rfl ?_
  refine SF_sub [1, 2, 3, 0] rfl ?_
  exact hk44 l0 l2 l3 (l4 + (1 : Int32)) g k_l0 h

set_option maxRecDepth 20000 in
set_option maxHeartbeats 2000000 in
theorem w_X11_spans_44 {X : CX} {d : Nat} (hd : 4 ≤ d) {g' : G} {rx : Int32} : ∀ (n : Nat) (l0 : Nat) (l2 : Int32) (l3 : Int32) (l4 : Int32) (g : G), KD g l0 11 → f_X11_spans_44 n l0 l2 l3 l4 g = some (rx, g') → SemF X m_X11_spans d 44 [(0, .ref (ad X l0)), (2, .int l2), (3, .int l3), (4, .int l4)] [] g (some (.int rx)) g' := by
  intro n
  induction n with
  | zero =>
    intro l0 l2 l3 l4 g k_l0 h
    rw [f_X11_spans_44] at h
    cases h
  | succ n ih =>
  intro l0 l2 l3 l4 g k_l0 h
  rw [f_X11_spans_44] at h
  refine SF_iload 3 46 dX11_spans_44 rfl rfl ?_
  refine SF_bipush (36 : Int32) 48 dX11_spans_46 rfl rfl ?_
  refine SF_icge 98 51 dX11_spans_48 rfl rfl (fun c1 => ?_) (fun c1 => ?_)
  · have h := ite_t c1 h
    refine SF_iload_n 2 99 dX11_spans_98 rfl rfl rfl ?_
    exact RT_i rfl dX11_spans_99 h
  · have h := ite_f c1 h
    refine SF_aload_n 0 52 dX11_spans_51 rfl rfl rfl ?_
    obtain ⟨b2, r3, h⟩ := dr_some h
    refine SF_getR 55 fl_X11_95 dX11_spans_52 k_l0.1 r3 rfl ?_
    obtain ⟨k4, h⟩ := gdK_some h
    refine SF_getL 58 fl_X11_310 dX11_spans_55 k4.1 rfl ?_
    refine SF_iload 3 60 dX11_spans_58 rfl rfl ?_
    refine SF_lushr 61 dX11_spans_60 rfl ?_
    refine SF_lconst (1 : Int64) 62 dX11_spans_61 rfl rfl ?_
    refine SF_land 63 dX11_spans_62 rfl ?_
    refine SF_lconst (0 : Int64) 64 dX11_spans_63 rfl rfl ?_
    refine SF_lcmp 65 dX11_spans_64 rfl ?_
    refine SF_ifeq 92 68 dX11_spans_65 rfl rfl (fun c5 => ?_) (fun c5 => ?_)
    · have h := ite_t c5 h
      exact w_X11_spans_92 hd (f_X11_spans_44 n) ih l0 l2 l3 l4 g k_l0 h
    · have h := ite_f c5 h
      refine SF_iload_n 2 69 dX11_spans_68 rfl rfl rfl ?_
      refine SF_aload_n 0 70 dX11_spans_69 rfl rfl rfl ?_
      refine SF_getR 73 fl_X11_95 dX11_spans_70 k_l0.1 r3 rfl ?_
      refine SF_getL 76 fl_X11_310 dX11_spans_73 k4.1 rfl ?_
      refine SF_aload_n 0 77 dX11_spans_76 rfl rfl rfl ?_
      refine SF_getR 80 fl_X11_95 dX11_spans_77 k_l0.1 r3 rfl ?_
      refine SF_iload_n 1 81 dX11_spans_80 rfl rfl rfl ?_
      refine SF_iload 3 83 dX11_spans_81 rfl rfl ?_
      obtain ⟨v6, g7, q8, h⟩ := bd_some h
      have s9 := w_X9_ring (X := X) (Nat.le_refl 0) b2 l2 l4 g g7 v6 k4 q8
      refine SF_callVl 86 mi_X9_ring ml_X11_343 dX11_spans_83 (Nat.le_trans (by decide) hd) s9 k4.1 rfl rfl (Nat.le_of_ble_eq_true rfl) rfl ?_
      have k_l0 := k_l0.ext s9.1
      have k4 := k4.ext s9.1
      refine SF_land 87 dX11_spans_86 rfl ?_
      obtain ⟨v10, g11, q12, h⟩ := bd_some h
      have s13 := w_J13_bitCount_95d88 (X := X) (Nat.le_refl 0) ((gL g b2 0) &&& v6) g7 g11 v10 q12
      refine SF_callSi 90 mi_J13_bitCount_95d88 ml_X11_347 dX11_spans_87 (Nat.le_trans (by decide) hd) s13 rfl rfl (Nat.le_of_ble_eq_true rfl) rfl ?_
      have k_l0 := k_l0.ext s13.1
      have k4 := k4.ext s13.1
      refine SF_iadd 91 dX11_spans_90 rfl ?_
      obtain ⟨y14, e15, h⟩ := li_some h
      refine SF_eqI e15 ?_
      refine SF_istore_n [(3, .int y14), (0, .ref (ad X l0)), (2, .int l2), (4, .int l4)] 92 dX11_spans_91 rfl (by decide) rfl rfl ?_
      refine SF_sub [1, 2, 0, 3] rfl ?_
      exact w_X11_spans_92 hd (f_X11_spans_44 n) ih l0 l2 y14 l4 g11 k_l0 h

set_option maxRecDepth 20000 in
set_option maxHeartbeats 2000000 in
theorem w_X11_spans {X : CX} {d : Nat} (hd : 4 ≤ d) (l0 : Nat) (l1 : Int32) (l2 : Int32) (g g' : G) (rx : Int32) (k_l0 : KD g l0 11) (h : f_X11_spans l0 l1 l2 g = some (rx, g')) : Sem X m_X11_spans d [.ref (ad X l0), .int l1, .int l2] g (some (.int rx)) g' := by
  refine Sem_of (lo := [(0, .ref (ad X l0)), (1, .int l1), (2, .int l2)]) (by decide +kernel) rfl (Nat.le_of_ble_eq_true rfl) ?_
  rw [f_X11_spans] at h
  refine SF_aload_n 0 1 dX11_spans_0 rfl rfl rfl ?_
  obtain ⟨b1, r2, h⟩ := dr_some h
  refine SF_getR 4 fl_X11_78 dX11_spans_1 k_l0.1 r2 rfl ?_
  refine SF_iload_n 1 5 dX11_spans_4 rfl rfl rfl ?_
  obtain ⟨k3, h⟩ := gdK_some h
  obtain ⟨v4, g5, q6, h⟩ := bd_some h
  have s7 := w_X0_isPair (X := X) (Nat.le_refl 0) b1 l1 g g5 v4 k3 q6
  refine SF_callVb 8 mi_X0_isPair ml_X11_161 dX11_spans_5 (Nat.le_trans (by decide) hd) s7 k3.1 rfl rfl (Nat.le_of_ble_eq_true rfl) rfl ?_
  have k_l0 := k_l0.ext s7.1
  have k3 := k3.ext s7.1
  refine SF_ifne 14 11 dX11_spans_8 rfl rfl (fun c8 => ?_) (fun c8 => ?_)
  · have h := ite_f c8 h
    refine SF_iload_n 2 15 dX11_spans_14 rfl rfl rfl ?_
    refine SF_iflt 24 18 dX11_spans_15 rfl rfl (fun c9 => ?_) (fun c9 => ?_)
    · have h := ite_t c9 h
      refine SF_bipush (-3 : Int32) 26 dX11_spans_24 rfl rfl ?_
      exact RT_i rfl dX11_spans_26 h
    · have h := ite_f c9 h
      refine SF_iload_n 2 19 dX11_spans_18 rfl rfl rfl ?_
      refine SF_bipush (10 : Int32) 21 dX11_spans_19 rfl rfl ?_
      refine SF_icle 27 24 dX11_spans_21 rfl rfl (fun c10 => ?_) (fun c10 => ?_)
      · have h := ite_t c10 h
        refine SF_aload_n 0 28 dX11_spans_27 rfl rfl rfl ?_
        obtain ⟨b11, r12, h⟩ := dr_some h
        refine SF_getR 31 fl_X11_95 dX11_spans_28 k_l0.1 r12 rfl ?_
        refine SF_aload_n 0 32 dX11_spans_31 rfl rfl rfl ?_
        obtain ⟨b13, r14, h⟩ := dr_some h
        refine SF_getR 35 fl_X11_78 dX11_spans_32 k_l0.1 r14 rfl ?_
        refine SF_iload_n 1 36 dX11_spans_35 rfl rfl rfl ?_
        obtain ⟨k15, h⟩ := gdK_some h
        obtain ⟨k16, h⟩ := gdK_some h
        obtain ⟨v17, g18, q19, h⟩ := bd_some h
        have s20 := w_X9_aim (X := X) (Nat.le_refl 3) b11 b13 l1 g5 g18 v17 k15 k16 q19
        refine SF_callVv 39 mi_X9_aim ml_X11_306 dX11_spans_36 (Nat.le_trans (by decide) hd) s20 k15.1 rfl rfl (Nat.le_of_ble_eq_true rfl) rfl ?_
        have k_l0 := k_l0.ext s20.1
        have k3 := k3.ext s20.1
        have k15 := k15.ext s20.1
        have k16 := k16.ext s20.1
        refine SF_iconst (0 : Int32) 40 dX11_spans_39 rfl rfl ?_
        refine SF_istore_n [(3, .int (0 : Int32)), (0, .ref (ad X l0)), (1, .int l1), (2, .int l2)] 41 dX11_spans_40 rfl (by decide) rfl rfl ?_
        refine SF_iconst (0 : Int32) 42 dX11_spans_41 rfl rfl ?_
        refine SF_istore [(4, .int (0 : Int32)), (3, .int (0 : Int32)), (0, .ref (ad X l0)), (1, .int l1), (2, .int l2)] 44 dX11_spans_42 (by decide) rfl rfl ?_
        refine SF_sub [2, 4, 1, 0] rfl ?_
        exact w_X11_spans_44 hd FU l0 l2 (0 : Int32) (0 : Int32) g18 k_l0 h
      · have h := ite_f c10 h
        refine SF_bipush (-3 : Int32) 26 dX11_spans_24 rfl rfl ?_
        exact RT_i rfl dX11_spans_26 h
  · have h := ite_t c8 h
    refine SF_bipush (-2 : Int32) 13 dX11_spans_11 rfl rfl ?_
    exact RT_i rfl dX11_spans_13 h

theorem dX12_spans_0 : decode cX12_spans 0 = .ok (.aload_n 0, 1) := by decide +kernel
theorem dX12_spans_1 : decode cX12_spans 1 = .ok (.iconst 0, 1) := by decide +kernel
theorem dX12_spans_2 : decode cX12_spans 2 = .ok (.putfield 1, 3) := by decide +kernel
theorem dX12_spans_5 : decode cX12_spans 5 = .ok (.aload_n 0, 1) := by decide +kernel
theorem dX12_spans_6 : decode cX12_spans 6 = .ok (.iload_n 1, 1) := by decide +kernel
theorem dX12_spans_7 : decode cX12_spans 7 = .ok (.i2l, 1) := by decide +kernel
theorem dX12_spans_8 : decode cX12_spans 8 = .ok (.invokevirtual 255, 3) := by decide +kernel
theorem dX12_spans_11 : decode cX12_spans 11 = .ok (.ifCond .ne 6, 3) := by decide +kernel
theorem dX12_spans_14 : decode cX12_spans 14 = .ok (.bipush (-2), 2) := by decide +kernel
theorem dX12_spans_16 : decode cX12_spans 16 = .ok (.ireturn, 1) := by decide +kernel
theorem dX12_spans_17 : decode cX12_spans 17 = .ok (.iload_n 2, 1) := by decide +kernel
theorem dX12_spans_18 : decode cX12_spans 18 = .ok (.i2l, 1) := by decide +kernel
theorem dX12_spans_19 : decode cX12_spans 19 = .ok (.lconst 0, 1) := by decide +kernel
theorem dX12_spans_20 : decode cX12_spans 20 = .ok (.ldc2_w 297, 3) := by decide +kernel
theorem dX12_spans_23 : decode cX12_spans 23 = .ok (.invokestatic 139, 3) := by decide +kernel
theorem dX12_spans_26 : decode cX12_spans 26 = .ok (.ifCond .ne 6, 3) := by decide +kernel
theorem dX12_spans_29 : decode cX12_spans 29 = .ok (.bipush (-3), 2) := by decide +kernel
theorem dX12_spans_31 : decode cX12_spans 31 = .ok (.ireturn, 1) := by decide +kernel
theorem dX12_spans_32 : decode cX12_spans 32 = .ok (.iconst 0, 1) := by decide +kernel
theorem dX12_spans_33 : decode cX12_spans 33 = .ok (.istore_n 3, 1) := by decide +kernel
theorem dX12_spans_34 : decode cX12_spans 34 = .ok (.iconst 0, 1) := by decide +kernel
theorem dX12_spans_35 : decode cX12_spans 35 = .ok (.istore 4, 2) := by decide +kernel
theorem dX12_spans_37 : decode cX12_spans 37 = .ok (.iload 4, 2) := by decide +kernel
theorem dX12_spans_39 : decode cX12_spans 39 = .ok (.aload_n 0, 1) := by decide +kernel
theorem dX12_spans_40 : decode cX12_spans 40 = .ok (.invokevirtual 214, 3) := by decide +kernel
theorem dX12_spans_43 : decode cX12_spans 43 = .ok (.if_icmp .ge 67, 3) := by decide +kernel
theorem dX12_spans_46 : decode cX12_spans 46 = .ok (.iconst 0, 1) := by decide +kernel
theorem dX12_spans_47 : decode cX12_spans 47 = .ok (.istore 5, 2) := by decide +kernel
theorem dX12_spans_49 : decode cX12_spans 49 = .ok (.iload 5, 2) := by decide +kernel
theorem dX12_spans_51 : decode cX12_spans 51 = .ok (.aload_n 0, 1) := by decide +kernel
theorem dX12_spans_52 : decode cX12_spans 52 = .ok (.invokevirtual 214, 3) := by decide +kernel
theorem dX12_spans_55 : decode cX12_spans 55 = .ok (.if_icmp .ge 49, 3) := by decide +kernel
theorem dX12_spans_58 : decode cX12_spans 58 = .ok (.iload_n 3, 1) := by decide +kernel
theorem dX12_spans_59 : decode cX12_spans 59 = .ok (.aload_n 0, 1) := by decide +kernel
theorem dX12_spans_60 : decode cX12_spans 60 = .ok (.iload_n 1, 1) := by decide +kernel
theorem dX12_spans_61 : decode cX12_spans 61 = .ok (.iload 4, 2) := by decide +kernel
theorem dX12_spans_63 : decode cX12_spans 63 = .ok (.invokevirtual 244, 3) := by decide +kernel
theorem dX12_spans_66 : decode cX12_spans 66 = .ok (.ifCond .eq 29, 3) := by decide +kernel
theorem dX12_spans_69 : decode cX12_spans 69 = .ok (.aload_n 0, 1) := by decide +kernel
theorem dX12_spans_70 : decode cX12_spans 70 = .ok (.iload_n 1, 1) := by decide +kernel
theorem dX12_spans_71 : decode cX12_spans 71 = .ok (.iload 5, 2) := by decide +kernel
theorem dX12_spans_73 : decode cX12_spans 73 = .ok (.invokevirtual 244, 3) := by decide +kernel
theorem dX12_spans_76 : decode cX12_spans 76 = .ok (.ifCond .eq 19, 3) := by decide +kernel
theorem dX12_spans_79 : decode cX12_spans 79 = .ok (.aload_n 0, 1) := by decide +kernel
theorem dX12_spans_80 : decode cX12_spans 80 = .ok (.iload 4, 2) := by decide +kernel
theorem dX12_spans_82 : decode cX12_spans 82 = .ok (.iload 5, 2) := by decide +kernel
theorem dX12_spans_84 : decode cX12_spans 84 = .ok (.invokevirtual 208, 3) := by decide +kernel
theorem dX12_spans_87 : decode cX12_spans 87 = .ok (.iload_n 2, 1) := by decide +kernel
theorem dX12_spans_88 : decode cX12_spans 88 = .ok (.if_icmp .ne 7, 3) := by decide +kernel
theorem dX12_spans_91 : decode cX12_spans 91 = .ok (.iconst 1, 1) := by decide +kernel
theorem dX12_spans_92 : decode cX12_spans 92 = .ok (.goto 4, 3) := by decide +kernel
theorem dX12_spans_95 : decode cX12_spans 95 = .ok (.iconst 0, 1) := by decide +kernel
theorem dX12_spans_96 : decode cX12_spans 96 = .ok (.iadd, 1) := by decide +kernel
theorem dX12_spans_97 : decode cX12_spans 97 = .ok (.istore_n 3, 1) := by decide +kernel
theorem dX12_spans_98 : decode cX12_spans 98 = .ok (.iinc 5 1, 3) := by decide +kernel
theorem dX12_spans_101 : decode cX12_spans 101 = .ok (.goto (-52), 3) := by decide +kernel
theorem dX12_spans_104 : decode cX12_spans 104 = .ok (.iinc 4 1, 3) := by decide +kernel
theorem dX12_spans_107 : decode cX12_spans 107 = .ok (.goto (-70), 3) := by decide +kernel
theorem dX12_spans_110 : decode cX12_spans 110 = .ok (.iload_n 3, 1) := by decide +kernel
theorem dX12_spans_111 : decode cX12_spans 111 = .ok (.ireturn, 1) := by decide +kernel
set_option maxRecDepth 20000 in
set_option maxHeartbeats 2000000 in
theorem w_X12_spans_96 {X : CX} {d : Nat} (hd : 2 ≤ d) {g' : G} {rx : Int32} (k37 : Nat → Int32 → Int32 → Int32 → Int32 → G → Option (Int32 × G)) (hk37 : ∀ (l0 : Nat) (l1 : Int32) (l2 : Int32) (l3 : Int32) (l4 : Int32) (g : G), KD g l0 12 → k37 l0 l1 l2 l3 l4 g = some (rx, g') → SemF X m_X12_spans d 37 [(0, .ref (ad X l0)), (1, .int l1), (2, .int l2), (3, .int l3), (4, .int l4)] [] g (some (.int rx)) g') (k49 : Nat → Int32 → Int32 → Int32 → Int32 → Int32 → G → Option (Int32 × G)) (hk49 : ∀ (l0 : Nat) (l1 : Int32) (l2 : Int32) (l3 : Int32) (l4 : Int32) (l5 : Int32) (g : G), KD g l0 12 → k49 l0 l1 l2 l3 l4 l5 g = some (rx, g') → SemF X m_X12_spans d 49 [(0, .ref (ad X l0)), (1, .int l1), (2, .int l2), (3, .int l3), (4, .int l4), (5, .int l5)] [] g (some (.int rx)) g') (l0 : Nat) (l1 : Int32) (l2 : Int32) (l4 : Int32) (l5 : Int32) (s0 : Int32) (s1 : Int32) (g : G) (k_l0 : KD g l0 12) (h : f_X12_spans_96 k37 k49 l0 l1 l2 l4 l5 s0 s1 g = some (rx, g')) : SemF X m_X12_spans d 96 [(0, .ref (ad X l0)), (1, .int l1), (2, .int l2), (4, .int l4), (5, .int l5)] [.int s0, .int s1] g (some (.int rx)) g' := by
  rw [f_X12_spans_96] at h
  refine SF_iadd 97 dX12_spans_96 rfl ?_
  obtain ⟨y1, e2, h⟩ := li_some h
  refine SF_eqI e2 ?_
  refine SF_istore_n [(3, .int y1), (0, .ref (ad X l0)), (1, .int l1), (2, .int l2), (4, .int l4), (5, .int l5)] 98 dX12_spans_97 rfl (by decide) rfl rfl ?_
  refine SF_iinc 5 (l5 + (1 : Int32)) [(5, .int (l5 + (1 : Int32))), (3, .int y1), (0, .ref (ad X l0)), (1, .int l1), (2, .int l2), (4, .int l4)] 101 dX12_spans_98 rfl rfl (by decide) rfl rfl ?_
  refine SF_goto 49 dX12_spans_101 rfl ?_
  refine SF_sub [2, 3, 4, 1, 5, 0] rfl ?_
  exact hk49 l0 l1 l2 y1 l4 (l5 + (1 : Int32)) g k_l0 h

set_option maxRecDepth 20000 in
set_option maxHeartbeats 2000000 in
theorem w_X12_spans_95 {X : CX} {d : Nat} (hd : 2 ≤ d) {g' : G} {rx : Int32} (k37 : Nat → Int32 → Int32 → Int32 → Int32 → G → Option (Int32 × G)) (hk37 : ∀ (l0 : Nat) (l1 : Int32) (l2 : Int32) (l3 : Int32) (l4 : Int32) (g : G), KD g l0 12 → k37 l0 l1 l2 l3 l4 g = some (rx, g') → SemF X m_X12_spans d 37 [(0, .ref (ad X l0)), (1, .int l1), (2, .int l2), (3, .int l3), (4, .int l4)] [] g (some (.int rx)) g') (k49 : Nat → Int32 → Int32 → Int32 → Int32 → Int32 → G → Option (Int32 × G)) (hk49 : ∀ (l0 : Nat) (l1 : Int32) (l2 : Int32) (l3 : Int32) (l4 : Int32) (l5 : Int32) (g : G), KD g l0 12 → k49 l0 l1 l2 l3 l4 l5 g = some (rx, g') → SemF X m_X12_spans d 49 [(0, .ref (ad X l0)), (1, .int l1), (2, .int l2), (3, .int l3), (4, .int l4), (5, .int l5)] [] g (some (.int rx)) g') (l0 : Nat) (l1 : Int32) (l2 : Int32) (l4 : Int32) (l5 : Int32) (s0 : Int32) (g : G) (k_l0 : KD g l0 12) (h : f_X12_spans_95 k37 k49 l0 l1 l2 l4 l5 s0 g = some (rx, g')) : SemF X m_X12_spans d 95 [(0, .ref (ad X l0)), (1, .int l1), (2, .int l2), (4, .int l4), (5, .int l5)] [.int s0] g (some (.int rx)) g' := by
  rw [f_X12_spans_95] at h
  refine SF_iconst (0 : Int32) 96 dX12_spans_95 rfl rfl ?_
  exact w_X12_spans_96 hd k37 hk37 k49 hk49 l0 l1 l2 l4 l5 (0 : Int32) s0 g k_l0 h

set_option maxRecDepth 20000 in
set_option maxHeartbeats 2000000 in
theorem w_X12_spans_49 {X : CX} {d : Nat} (hd : 2 ≤ d) {g' : G} {rx : Int32} (k37 : Nat → Int32 → Int32 → Int32 → Int32 → G → Option (Int32 × G)) (hk37 : ∀ (l0 : Nat) (l1 : Int32) (l2 : Int32) (l3 : Int32) (l4 : Int32) (g : G), KD g l0 12 → k37 l0 l1 l2 l3 l4 g = some (rx, g') → SemF X m_X12_spans d 37 [(0, .ref (ad X l0)), (1, .int l1), (2, .int l2), (3, .int l3), (4, .int l4)] [] g (some (.int rx)) g') : ∀ (n : Nat) (l0 : Nat) (l1 : Int32) (l2 : Int32) (l3 : Int32) (l4 : Int32) (l5 : Int32) (g : G), KD g l0 12 → f_X12_spans_49 k37 n l0 l1 l2 l3 l4 l5 g = some (rx, g') → SemF X m_X12_spans d 49 [(0, .ref (ad X l0)), (1, .int l1), (2, .int l2), (3, .int l3), (4, .int l4), (5, .int l5)] [] g (some (.int rx)) g' := by
  intro n
  induction n with
  | zero =>
    intro l0 l1 l2 l3 l4 l5 g k_l0 h
    rw [f_X12_spans_49] at h
    cases h
  | succ n ih =>
  intro l0 l1 l2 l3 l4 l5 g k_l0 h
  rw [f_X12_spans_49] at h
  refine SF_iload 5 51 dX12_spans_49 rfl rfl ?_
  refine SF_aload_n 0 52 dX12_spans_51 rfl rfl rfl ?_
  obtain ⟨v1, g2, q3, h⟩ := bd_some h
  have s4 := w_X12_cells (X := X) (Nat.le_refl 0) l0 g g2 v1 k_l0 q3
  refine SF_callVi 55 mi_X12_cells ml_X12_214 dX12_spans_52 (Nat.le_trans (by decide) hd) s4 k_l0.1 rfl rfl (Nat.le_of_ble_eq_true rfl) rfl ?_
  have k_l0 := k_l0.ext s4.1
  refine SF_icge 104 58 dX12_spans_55 rfl rfl (fun c5 => ?_) (fun c5 => ?_)
  · have h := ite_t c5 h
    refine SF_iinc 4 (l4 + (1 : Int32)) [(4, .int (l4 + (1 : Int32))), (0, .ref (ad X l0)), (1, .int l1), (2, .int l2), (3, .int l3), (5, .int l5)] 107 dX12_spans_104 rfl rfl (by decide) rfl rfl ?_
    refine SF_goto 37 dX12_spans_107 rfl ?_
    refine SF_sub [1, 2, 3, 4, 0] rfl ?_
    exact hk37 l0 l1 l2 l3 (l4 + (1 : Int32)) g2 k_l0 h
  · have h := ite_f c5 h
    refine SF_iload_n 3 59 dX12_spans_58 rfl rfl rfl ?_
    refine SF_aload_n 0 60 dX12_spans_59 rfl rfl rfl ?_
    refine SF_iload_n 1 61 dX12_spans_60 rfl rfl rfl ?_
    refine SF_iload 4 63 dX12_spans_61 rfl rfl ?_
    obtain ⟨v6, g7, q8, h⟩ := bd_some h
    have s9 := w_X12_isFree (X := X) (Nat.le_refl 1) l0 l1 l4 g2 g7 v6 k_l0 q8
    refine SF_callVb 66 mi_X12_isFree ml_X12_244 dX12_spans_63 (Nat.le_trans (by decide) hd) s9 k_l0.1 rfl rfl (Nat.le_of_ble_eq_true rfl) rfl ?_
    have k_l0 := k_l0.ext s9.1
    refine SF_ifeq 95 69 dX12_spans_66 rfl rfl (fun c10 => ?_) (fun c10 => ?_)
    · have h := ite_t c10 h
      refine SF_sub [0, 1, 2, 4, 5] rfl ?_
      exact w_X12_spans_95 hd k37 hk37 (f_X12_spans_49 k37 n) ih l0 l1 l2 l4 l5 l3 g7 k_l0 h
    · have h := ite_f c10 h
      refine SF_aload_n 0 70 dX12_spans_69 rfl rfl rfl ?_
      refine SF_iload_n 1 71 dX12_spans_70 rfl rfl rfl ?_
      refine SF_iload 5 73 dX12_spans_71 rfl rfl ?_
      obtain ⟨v11, g12, q13, h⟩ := bd_some h
      have s14 := w_X12_isFree (X := X) (Nat.le_refl 1) l0 l1 l5 g7 g12 v11 k_l0 q13
      refine SF_callVb 76 mi_X12_isFree ml_X12_244 dX12_spans_73 (Nat.le_trans (by decide) hd) s14 k_l0.1 rfl rfl (Nat.le_of_ble_eq_true rfl) rfl ?_
      have k_l0 := k_l0.ext s14.1
      refine SF_ifeq 95 79 dX12_spans_76 rfl rfl (fun c15 => ?_) (fun c15 => ?_)
      · have h := ite_t c15 h
        refine SF_sub [0, 1, 2, 4, 5] rfl ?_
        exact w_X12_spans_95 hd k37 hk37 (f_X12_spans_49 k37 n) ih l0 l1 l2 l4 l5 l3 g12 k_l0 h
      · have h := ite_f c15 h
        refine SF_aload_n 0 80 dX12_spans_79 rfl rfl rfl ?_
        refine SF_iload 4 82 dX12_spans_80 rfl rfl ?_
        refine SF_iload 5 84 dX12_spans_82 rfl rfl ?_
        obtain ⟨v16, g17, q18, h⟩ := bd_some h
        have s19 := w_X12_apart (X := X) (Nat.le_refl 1) l0 l4 l5 g12 g17 v16 k_l0 q18
        refine SF_callVi 87 mi_X12_apart ml_X12_208 dX12_spans_84 (Nat.le_trans (by decide) hd) s19 k_l0.1 rfl rfl (Nat.le_of_ble_eq_true rfl) rfl ?_
        have k_l0 := k_l0.ext s19.1
        refine SF_iload_n 2 88 dX12_spans_87 rfl rfl rfl ?_
        refine SF_icne 95 91 dX12_spans_88 rfl rfl (fun c20 => ?_) (fun c20 => ?_)
        · have h := ite_f c20 h
          refine SF_sub [0, 1, 2, 4, 5] rfl ?_
          exact w_X12_spans_95 hd k37 hk37 (f_X12_spans_49 k37 n) ih l0 l1 l2 l4 l5 l3 g17 k_l0 h
        · have h := ite_t c20 h
          refine SF_iconst (1 : Int32) 92 dX12_spans_91 rfl rfl ?_
          refine SF_goto 96 dX12_spans_92 rfl ?_
          refine SF_sub [0, 1, 2, 4, 5] rfl ?_
          exact w_X12_spans_96 hd k37 hk37 (f_X12_spans_49 k37 n) ih l0 l1 l2 l4 l5 (1 : Int32) l3 g17 k_l0 h

set_option maxRecDepth 20000 in
set_option maxHeartbeats 2000000 in
theorem w_X12_spans_37 {X : CX} {d : Nat} (hd : 2 ≤ d) {g' : G} {rx : Int32} : ∀ (n : Nat) (l0 : Nat) (l1 : Int32) (l2 : Int32) (l3 : Int32) (l4 : Int32) (g : G), KD g l0 12 → f_X12_spans_37 n l0 l1 l2 l3 l4 g = some (rx, g') → SemF X m_X12_spans d 37 [(0, .ref (ad X l0)), (1, .int l1), (2, .int l2), (3, .int l3), (4, .int l4)] [] g (some (.int rx)) g' := by
  intro n
  induction n with
  | zero =>
    intro l0 l1 l2 l3 l4 g k_l0 h
    rw [f_X12_spans_37] at h
    cases h
  | succ n ih =>
  intro l0 l1 l2 l3 l4 g k_l0 h
  rw [f_X12_spans_37] at h
  refine SF_iload 4 39 dX12_spans_37 rfl rfl ?_
  refine SF_aload_n 0 40 dX12_spans_39 rfl rfl rfl ?_
  obtain ⟨v1, g2, q3, h⟩ := bd_some h
  have s4 := w_X12_cells (X := X) (Nat.le_refl 0) l0 g g2 v1 k_l0 q3
  refine SF_callVi 43 mi_X12_cells ml_X12_214 dX12_spans_40 (Nat.le_trans (by decide) hd) s4 k_l0.1 rfl rfl (Nat.le_of_ble_eq_true rfl) rfl ?_
  have k_l0 := k_l0.ext s4.1
  refine SF_icge 110 46 dX12_spans_43 rfl rfl (fun c5 => ?_) (fun c5 => ?_)
  · have h := ite_t c5 h
    refine SF_iload_n 3 111 dX12_spans_110 rfl rfl rfl ?_
    exact RT_i rfl dX12_spans_111 h
  · have h := ite_f c5 h
    refine SF_iconst (0 : Int32) 47 dX12_spans_46 rfl rfl ?_
    refine SF_istore [(5, .int (0 : Int32)), (0, .ref (ad X l0)), (1, .int l1), (2, .int l2), (3, .int l3), (4, .int l4)] 49 dX12_spans_47 (by decide) rfl rfl ?_
    refine SF_sub [1, 2, 3, 4, 5, 0] rfl ?_
    exact w_X12_spans_49 hd (f_X12_spans_37 n) ih FU l0 l1 l2 l3 l4 (0 : Int32) g2 k_l0 h

set_option maxRecDepth 20000 in
set_option maxHeartbeats 2000000 in
theorem w_X12_spans {X : CX} {d : Nat} (hd : 2 ≤ d) (l0 : Nat) (l1 : Int32) (l2 : Int32) (g g' : G) (rx : Int32) (k_l0 : KD g l0 12) (h : f_X12_spans l0 l1 l2 g = some (rx, g')) : Sem X m_X12_spans d [.ref (ad X l0), .int l1, .int l2] g (some (.int rx)) g' := by
  refine Sem_of (lo := [(0, .ref (ad X l0)), (1, .int l1), (2, .int l2)]) (by decide +kernel) rfl (Nat.le_of_ble_eq_true rfl) ?_
  rw [f_X12_spans] at h
  refine SF_aload_n 0 1 dX12_spans_0 rfl rfl rfl ?_
  refine SF_iconst (0 : Int32) 2 dX12_spans_1 rfl rfl ?_
  refine SF_putI 5 fl_X12_1 dX12_spans_2 k_l0.1 (fn_int _) (Or.inl rfl) rfl ?_
  obtain ⟨g1, e2, h⟩ := lg_some h
  rw [← e2]
  have k_l0 := KD.eq e2 k_l0
  refine SF_aload_n 0 6 dX12_spans_5 rfl rfl rfl ?_
  refine SF_iload_n 1 7 dX12_spans_6 rfl rfl rfl ?_
  refine SF_i2l 8 dX12_spans_7 rfl ?_
  obtain ⟨v3, g4, q5, h⟩ := bd_some h
  have s6 := w_X12_isPair (X := X) (Nat.le_refl 1) l0 (l1.toInt64) g1 g4 v3 k_l0 q5
  refine SF_callVb 11 mi_X12_isPair ml_X12_255 dX12_spans_8 (Nat.le_trans (by decide) hd) s6 k_l0.1 rfl rfl (Nat.le_of_ble_eq_true rfl) rfl ?_
  have k_l0 := k_l0.ext s6.1
  refine SF_ifne 17 14 dX12_spans_11 rfl rfl (fun c7 => ?_) (fun c7 => ?_)
  · have h := ite_f c7 h
    refine SF_iload_n 2 18 dX12_spans_17 rfl rfl rfl ?_
    refine SF_i2l 19 dX12_spans_18 rfl ?_
    refine SF_lconst (0 : Int64) 20 dX12_spans_19 rfl rfl ?_
    refine SF_ldc2 23 dX12_spans_20 kl_X12_297 rfl ?_
    obtain ⟨v8, g9, q10, h⟩ := bd_some h
    have s11 := w_X12_within (X := X) (Nat.le_refl 0) (l2.toInt64) (0 : Int64) (10 : Int64) g4 g9 v8 q10
    refine SF_callSb 26 mi_X12_within ml_X12_139 dX12_spans_23 (Nat.le_trans (by decide) hd) s11 rfl rfl (Nat.le_of_ble_eq_true rfl) rfl ?_
    have k_l0 := k_l0.ext s11.1
    refine SF_ifne 32 29 dX12_spans_26 rfl rfl (fun c12 => ?_) (fun c12 => ?_)
    · have h := ite_f c12 h
      refine SF_iconst (0 : Int32) 33 dX12_spans_32 rfl rfl ?_
      refine SF_istore_n [(3, .int (0 : Int32)), (0, .ref (ad X l0)), (1, .int l1), (2, .int l2)] 34 dX12_spans_33 rfl (by decide) rfl rfl ?_
      refine SF_iconst (0 : Int32) 35 dX12_spans_34 rfl rfl ?_
      refine SF_istore [(4, .int (0 : Int32)), (3, .int (0 : Int32)), (0, .ref (ad X l0)), (1, .int l1), (2, .int l2)] 37 dX12_spans_35 (by decide) rfl rfl ?_
      refine SF_sub [2, 3, 4, 1, 0] rfl ?_
      exact w_X12_spans_37 hd FU l0 l1 l2 (0 : Int32) (0 : Int32) g9 k_l0 h
    · have h := ite_t c12 h
      refine SF_bipush (-3 : Int32) 31 dX12_spans_29 rfl rfl ?_
      exact RT_i rfl dX12_spans_31 h
  · have h := ite_t c7 h
    refine SF_bipush (-2 : Int32) 16 dX12_spans_14 rfl rfl ?_
    exact RT_i rfl dX12_spans_16 h

theorem dX3_link_0 : decode cX3_link 0 = .ok (.aload_n 0, 1) := by decide +kernel
theorem dX3_link_1 : decode cX3_link 1 = .ok (.getfield 43, 3) := by decide +kernel
theorem dX3_link_4 : decode cX3_link 4 = .ok (.aload_n 0, 1) := by decide +kernel
theorem dX3_link_5 : decode cX3_link 5 = .ok (.getfield 15, 3) := by decide +kernel
theorem dX3_link_8 : decode cX3_link 8 = .ok (.arraylength, 1) := by decide +kernel
theorem dX3_link_9 : decode cX3_link 9 = .ok (.if_icmp .ge 58, 3) := by decide +kernel
theorem dX3_link_12 : decode cX3_link 12 = .ok (.aload_n 0, 1) := by decide +kernel
theorem dX3_link_13 : decode cX3_link 13 = .ok (.getfield 18, 3) := by decide +kernel
theorem dX3_link_16 : decode cX3_link 16 = .ok (.aload_n 0, 1) := by decide +kernel
theorem dX3_link_17 : decode cX3_link 17 = .ok (.getfield 43, 3) := by decide +kernel
theorem dX3_link_20 : decode cX3_link 20 = .ok (.iload_n 1, 1) := by decide +kernel
theorem dX3_link_21 : decode cX3_link 21 = .ok (.iastore, 1) := by decide +kernel
theorem dX3_link_22 : decode cX3_link 22 = .ok (.aload_n 0, 1) := by decide +kernel
theorem dX3_link_23 : decode cX3_link 23 = .ok (.getfield 15, 3) := by decide +kernel
theorem dX3_link_26 : decode cX3_link 26 = .ok (.aload_n 0, 1) := by decide +kernel
theorem dX3_link_27 : decode cX3_link 27 = .ok (.getfield 43, 3) := by decide +kernel
theorem dX3_link_30 : decode cX3_link 30 = .ok (.aload_n 0, 1) := by decide +kernel
theorem dX3_link_31 : decode cX3_link 31 = .ok (.getfield 9, 3) := by decide +kernel
theorem dX3_link_34 : decode cX3_link 34 = .ok (.iload_n 2, 1) := by decide +kernel
theorem dX3_link_35 : decode cX3_link 35 = .ok (.iaload, 1) := by decide +kernel
theorem dX3_link_36 : decode cX3_link 36 = .ok (.iastore, 1) := by decide +kernel
theorem dX3_link_37 : decode cX3_link 37 = .ok (.aload_n 0, 1) := by decide +kernel
theorem dX3_link_38 : decode cX3_link 38 = .ok (.getfield 9, 3) := by decide +kernel
theorem dX3_link_41 : decode cX3_link 41 = .ok (.iload_n 2, 1) := by decide +kernel
theorem dX3_link_42 : decode cX3_link 42 = .ok (.aload_n 0, 1) := by decide +kernel
theorem dX3_link_43 : decode cX3_link 43 = .ok (.getfield 43, 3) := by decide +kernel
theorem dX3_link_46 : decode cX3_link 46 = .ok (.iastore, 1) := by decide +kernel
theorem dX3_link_47 : decode cX3_link 47 = .ok (.aload_n 0, 1) := by decide +kernel
theorem dX3_link_48 : decode cX3_link 48 = .ok (.getfield 21, 3) := by decide +kernel
theorem dX3_link_51 : decode cX3_link 51 = .ok (.iload_n 1, 1) := by decide +kernel
theorem dX3_link_52 : decode cX3_link 52 = .ok (.dup2, 1) := by decide +kernel
theorem dX3_link_53 : decode cX3_link 53 = .ok (.iaload, 1) := by decide +kernel
theorem dX3_link_54 : decode cX3_link 54 = .ok (.iconst 1, 1) := by decide +kernel
theorem dX3_link_55 : decode cX3_link 55 = .ok (.iadd, 1) := by decide +kernel
theorem dX3_link_56 : decode cX3_link 56 = .ok (.iastore, 1) := by decide +kernel
theorem dX3_link_57 : decode cX3_link 57 = .ok (.aload_n 0, 1) := by decide +kernel
theorem dX3_link_58 : decode cX3_link 58 = .ok (.dup, 1) := by decide +kernel
theorem dX3_link_59 : decode cX3_link 59 = .ok (.getfield 43, 3) := by decide +kernel
theorem dX3_link_62 : decode cX3_link 62 = .ok (.iconst 1, 1) := by decide +kernel
theorem dX3_link_63 : decode cX3_link 63 = .ok (.iadd, 1) := by decide +kernel
theorem dX3_link_64 : decode cX3_link 64 = .ok (.putfield 43, 3) := by decide +kernel
theorem dX3_link_67 : decode cX3_link 67 = .ok (.return_, 1) := by decide +kernel
set_option maxRecDepth 20000 in
set_option maxHeartbeats 2000000 in
theorem w_X3_link {X : CX} {d : Nat} (hd : 0 ≤ d) (l0 : Nat) (l1 : Int32) (l2 : Int32) (g g' : G) (rx : Unit) (k_l0 : KD g l0 3) (h : f_X3_link l0 l1 l2 g = some (rx, g')) : Sem X m_X3_link d [.ref (ad X l0), .int l1, .int l2] g none g' := by
  refine Sem_of (lo := [(0, .ref (ad X l0)), (1, .int l1), (2, .int l2)]) (by decide +kernel) rfl (Nat.le_of_ble_eq_true rfl) ?_
  rw [f_X3_link] at h
  refine SF_aload_n 0 1 dX3_link_0 rfl rfl rfl ?_
  refine SF_getI 4 fl_X3_43 dX3_link_1 k_l0.1 rfl ?_
  refine SF_aload_n 0 5 dX3_link_4 rfl rfl rfl ?_
  obtain ⟨b1, r2, h⟩ := dr_some h
  refine SF_getR 8 fl_X3_15 dX3_link_5 k_l0.1 r2 rfl ?_
  obtain ⟨k3, h⟩ := gdK_some h
  refine SF_alen 9 dX3_link_8 k3.1 (by decide) (by decide) rfl ?_
  refine SF_icge 67 12 dX3_link_9 rfl rfl (fun c4 => ?_) (fun c4 => ?_)
  · have h := ite_t c4 h
    exact RT_v rfl dX3_link_67 h
  · have h := ite_f c4 h
    refine SF_aload_n 0 13 dX3_link_12 rfl rfl rfl ?_
    obtain ⟨b5, r6, h⟩ := dr_some h
    refine SF_getR 16 fl_X3_18 dX3_link_13 k_l0.1 r6 rfl ?_
    refine SF_aload_n 0 17 dX3_link_16 rfl rfl rfl ?_
    refine SF_getI 20 fl_X3_43 dX3_link_17 k_l0.1 rfl ?_
    refine SF_iload_n 1 21 dX3_link_20 rfl rfl rfl ?_
    obtain ⟨k7, h⟩ := gdK_some h
    obtain ⟨i8, h⟩ := gdI_some h
    refine SF_iast 22 dX3_link_21 k7.1 i8 rfl ?_
    obtain ⟨g9, e10, h⟩ := lg_some h
    rw [← e10]
    have k_l0 := KD.eq e10 k_l0
    have k3 := KD.eq e10 k3
    have k7 := KD.eq e10 k7
    have r2 := gR_eq e10 r2
    have r6 := gR_eq e10 r6
    have i8 := vp_eq e10 i8
    refine SF_aload_n 0 23 dX3_link_22 rfl rfl rfl ?_
    refine SF_getR 26 fl_X3_15 dX3_link_23 k_l0.1 r2 rfl ?_
    refine SF_aload_n 0 27 dX3_link_26 rfl rfl rfl ?_
    refine SF_getI 30 fl_X3_43 dX3_link_27 k_l0.1 rfl ?_
    refine SF_aload_n 0 31 dX3_link_30 rfl rfl rfl ?_
    obtain ⟨b11, r12, h⟩ := dr_some h
    refine SF_getR 34 fl_X3_9 dX3_link_31 k_l0.1 r12 rfl ?_
    refine SF_iload_n 2 35 dX3_link_34 rfl rfl rfl ?_
    obtain ⟨k13, h⟩ := gdK_some h
    obtain ⟨i14, h⟩ := gdI_some h
    refine SF_iald 36 dX3_link_35 k13.1 i14 rfl ?_
    obtain ⟨i15, h⟩ := gdI_some h
    refine SF_iast 37 dX3_link_36 k3.1 i15 rfl ?_
    obtain ⟨g16, e17, h⟩ := lg_some h
    rw [← e17]
    have k_l0 := KD.eq e17 k_l0
    have k3 := KD.eq e17 k3
    have k7 := KD.eq e17 k7
    have k13 := KD.eq e17 k13
    have r2 := gR_eq e17 r2
    have r6 := gR_eq e17 r6
    have r12 := gR_eq e17 r12
    have i8 := vp_eq e17 i8
    have i14 := vp_eq e17 i14
    have i15 := vp_eq e17 i15
    refine SF_aload_n 0 38 dX3_link_37 rfl rfl rfl ?_
    refine SF_getR 41 fl_X3_9 dX3_link_38 k_l0.1 r12 rfl ?_
    refine SF_iload_n 2 42 dX3_link_41 rfl rfl rfl ?_
    refine SF_aload_n 0 43 dX3_link_42 rfl rfl rfl ?_
    refine SF_getI 46 fl_X3_43 dX3_link_43 k_l0.1 rfl ?_
    refine SF_iast 47 dX3_link_46 k13.1 i14 rfl ?_
    obtain ⟨g18, e19, h⟩ := lg_some h
    rw [← e19]
    have k_l0 := KD.eq e19 k_l0
    have k3 := KD.eq e19 k3
    have k7 := KD.eq e19 k7
    have k13 := KD.eq e19 k13
    have r2 := gR_eq e19 r2
    have r6 := gR_eq e19 r6
    have r12 := gR_eq e19 r12
    have i8 := vp_eq e19 i8
    have i14 := vp_eq e19 i14
    have i15 := vp_eq e19 i15
    refine SF_aload_n 0 48 dX3_link_47 rfl rfl rfl ?_
    obtain ⟨b20, r21, h⟩ := dr_some h
    refine SF_getR 51 fl_X3_21 dX3_link_48 k_l0.1 r21 rfl ?_
    refine SF_iload_n 1 52 dX3_link_51 rfl rfl rfl ?_
    refine SF_dup2_11 53 dX3_link_52 rfl rfl rfl ?_
    obtain ⟨k22, h⟩ := gdK_some h
    obtain ⟨i23, h⟩ := gdI_some h
    refine SF_iald 54 dX3_link_53 k22.1 i23 rfl ?_
    refine SF_iconst (1 : Int32) 55 dX3_link_54 rfl rfl ?_
    refine SF_iadd 56 dX3_link_55 rfl ?_
    refine SF_iast 57 dX3_link_56 k22.1 i23 rfl ?_
    obtain ⟨g24, e25, h⟩ := lg_some h
    rw [← e25]
    have k_l0 := KD.eq e25 k_l0
    have k3 := KD.eq e25 k3
    have k7 := KD.eq e25 k7
    have k13 := KD.eq e25 k13
    have k22 := KD.eq e25 k22
    have r2 := gR_eq e25 r2
    have r6 := gR_eq e25 r6
    have r12 := gR_eq e25 r12
    have r21 := gR_eq e25 r21
    have i8 := vp_eq e25 i8
    have i14 := vp_eq e25 i14
    have i15 := vp_eq e25 i15
    have i23 := vp_eq e25 i23
    refine SF_aload_n 0 58 dX3_link_57 rfl rfl rfl ?_
    refine SF_dup 59 dX3_link_58 rfl rfl ?_
    refine SF_getI 62 fl_X3_43 dX3_link_59 k_l0.1 rfl ?_
    refine SF_iconst (1 : Int32) 63 dX3_link_62 rfl rfl ?_
    refine SF_iadd 64 dX3_link_63 rfl ?_
    refine SF_putI 67 fl_X3_43 dX3_link_64 k_l0.1 (fn_int _) (Or.inl rfl) rfl ?_
    obtain ⟨g26, e27, h⟩ := lg_some h
    rw [← e27]
    have k_l0 := KD.eq e27 k_l0
    have k3 := KD.eq e27 k3
    have k7 := KD.eq e27 k7
    have k13 := KD.eq e27 k13
    have k22 := KD.eq e27 k22
    have r2 := gR_eq e27 r2
    have r6 := gR_eq e27 r6
    have r12 := gR_eq e27 r12
    have r21 := gR_eq e27 r21
    have i8 := vp_eq e27 i8
    have i14 := vp_eq e27 i14
    have i15 := vp_eq e27 i15
    have i23 := vp_eq e27 i23
    exact RT_v rfl dX3_link_67 h

theorem dX3_linkAll_0 : decode cX3_linkAll 0 = .ok (.aload_n 0, 1) := by decide +kernel
theorem dX3_linkAll_1 : decode cX3_linkAll 1 = .ok (.iconst 1, 1) := by decide +kernel
theorem dX3_linkAll_2 : decode cX3_linkAll 2 = .ok (.putfield 33, 3) := by decide +kernel
theorem dX3_linkAll_5 : decode cX3_linkAll 5 = .ok (.aload_n 0, 1) := by decide +kernel
theorem dX3_linkAll_6 : decode cX3_linkAll 6 = .ok (.getfield 9, 3) := by decide +kernel
theorem dX3_linkAll_9 : decode cX3_linkAll 9 = .ok (.iconst (-1), 1) := by decide +kernel
theorem dX3_linkAll_10 : decode cX3_linkAll 10 = .ok (.invokestatic 37, 3) := by decide +kernel
theorem dX3_linkAll_13 : decode cX3_linkAll 13 = .ok (.aload_n 0, 1) := by decide +kernel
theorem dX3_linkAll_14 : decode cX3_linkAll 14 = .ok (.getfield 21, 3) := by decide +kernel
theorem dX3_linkAll_17 : decode cX3_linkAll 17 = .ok (.iconst 0, 1) := by decide +kernel
theorem dX3_linkAll_18 : decode cX3_linkAll 18 = .ok (.invokestatic 37, 3) := by decide +kernel
theorem dX3_linkAll_21 : decode cX3_linkAll 21 = .ok (.aload_n 0, 1) := by decide +kernel
theorem dX3_linkAll_22 : decode cX3_linkAll 22 = .ok (.iconst 0, 1) := by decide +kernel
theorem dX3_linkAll_23 : decode cX3_linkAll 23 = .ok (.putfield 43, 3) := by decide +kernel
theorem dX3_linkAll_26 : decode cX3_linkAll 26 = .ok (.iconst 0, 1) := by decide +kernel
theorem dX3_linkAll_27 : decode cX3_linkAll 27 = .ok (.istore_n 2, 1) := by decide +kernel
theorem dX3_linkAll_28 : decode cX3_linkAll 28 = .ok (.iload_n 2, 1) := by decide +kernel
theorem dX3_linkAll_29 : decode cX3_linkAll 29 = .ok (.aload_n 1, 1) := by decide +kernel
theorem dX3_linkAll_30 : decode cX3_linkAll 30 = .ok (.getfield 47, 3) := by decide +kernel
theorem dX3_linkAll_33 : decode cX3_linkAll 33 = .ok (.if_icmp .ge 113, 3) := by decide +kernel
theorem dX3_linkAll_36 : decode cX3_linkAll 36 = .ok (.iload_n 2, 1) := by decide +kernel
theorem dX3_linkAll_37 : decode cX3_linkAll 37 = .ok (.sipush 256, 3) := by decide +kernel
theorem dX3_linkAll_40 : decode cX3_linkAll 40 = .ok (.if_icmp .ge 106, 3) := by decide +kernel
theorem dX3_linkAll_43 : decode cX3_linkAll 43 = .ok (.iconst 0, 1) := by decide +kernel
theorem dX3_linkAll_44 : decode cX3_linkAll 44 = .ok (.istore_n 3, 1) := by decide +kernel
theorem dX3_linkAll_45 : decode cX3_linkAll 45 = .ok (.iload_n 3, 1) := by decide +kernel
theorem dX3_linkAll_46 : decode cX3_linkAll 46 = .ok (.bipush 8, 2) := by decide +kernel
theorem dX3_linkAll_48 : decode cX3_linkAll 48 = .ok (.if_icmp .ge 50, 3) := by decide +kernel
theorem dX3_linkAll_51 : decode cX3_linkAll 51 = .ok (.iload_n 3, 1) := by decide +kernel
theorem dX3_linkAll_52 : decode cX3_linkAll 52 = .ok (.iconst 4, 1) := by decide +kernel
theorem dX3_linkAll_53 : decode cX3_linkAll 53 = .ok (.idiv, 1) := by decide +kernel
theorem dX3_linkAll_54 : decode cX3_linkAll 54 = .ok (.istore 4, 2) := by decide +kernel
theorem dX3_linkAll_56 : decode cX3_linkAll 56 = .ok (.aload_n 1, 1) := by decide +kernel
theorem dX3_linkAll_57 : decode cX3_linkAll 57 = .ok (.iload_n 2, 1) := by decide +kernel
theorem dX3_linkAll_58 : decode cX3_linkAll 58 = .ok (.iload_n 3, 1) := by decide +kernel
theorem dX3_linkAll_59 : decode cX3_linkAll 59 = .ok (.invokevirtual 52, 3) := by decide +kernel
theorem dX3_linkAll_62 : decode cX3_linkAll 62 = .ok (.istore 5, 2) := by decide +kernel
theorem dX3_linkAll_64 : decode cX3_linkAll 64 = .ok (.aload_n 1, 1) := by decide +kernel
theorem dX3_linkAll_65 : decode cX3_linkAll 65 = .ok (.iload 5, 2) := by decide +kernel
theorem dX3_linkAll_67 : decode cX3_linkAll 67 = .ok (.invokevirtual 56, 3) := by decide +kernel
theorem dX3_linkAll_70 : decode cX3_linkAll 70 = .ok (.ifCond .eq 22, 3) := by decide +kernel
theorem dX3_linkAll_73 : decode cX3_linkAll 73 = .ok (.aload_n 0, 1) := by decide +kernel
theorem dX3_linkAll_74 : decode cX3_linkAll 74 = .ok (.iconst 2, 1) := by decide +kernel
theorem dX3_linkAll_75 : decode cX3_linkAll 75 = .ok (.iload_n 2, 1) := by decide +kernel
theorem dX3_linkAll_76 : decode cX3_linkAll 76 = .ok (.imul, 1) := by decide +kernel
theorem dX3_linkAll_77 : decode cX3_linkAll 77 = .ok (.iload 4, 2) := by decide +kernel
theorem dX3_linkAll_79 : decode cX3_linkAll 79 = .ok (.iadd, 1) := by decide +kernel
theorem dX3_linkAll_80 : decode cX3_linkAll 80 = .ok (.iconst 2, 1) := by decide +kernel
theorem dX3_linkAll_81 : decode cX3_linkAll 81 = .ok (.iload 5, 2) := by decide +kernel
theorem dX3_linkAll_83 : decode cX3_linkAll 83 = .ok (.imul, 1) := by decide +kernel
theorem dX3_linkAll_84 : decode cX3_linkAll 84 = .ok (.iconst 1, 1) := by decide +kernel
theorem dX3_linkAll_85 : decode cX3_linkAll 85 = .ok (.iadd, 1) := by decide +kernel
theorem dX3_linkAll_86 : decode cX3_linkAll 86 = .ok (.iload 4, 2) := by decide +kernel
theorem dX3_linkAll_88 : decode cX3_linkAll 88 = .ok (.isub, 1) := by decide +kernel
theorem dX3_linkAll_89 : decode cX3_linkAll 89 = .ok (.invokevirtual 60, 3) := by decide +kernel
theorem dX3_linkAll_92 : decode cX3_linkAll 92 = .ok (.iinc 3 1, 3) := by decide +kernel
theorem dX3_linkAll_95 : decode cX3_linkAll 95 = .ok (.goto (-50), 3) := by decide +kernel
theorem dX3_linkAll_98 : decode cX3_linkAll 98 = .ok (.iconst 0, 1) := by decide +kernel
theorem dX3_linkAll_99 : decode cX3_linkAll 99 = .ok (.istore_n 3, 1) := by decide +kernel
theorem dX3_linkAll_100 : decode cX3_linkAll 100 = .ok (.iload_n 3, 1) := by decide +kernel
theorem dX3_linkAll_101 : decode cX3_linkAll 101 = .ok (.iconst 2, 1) := by decide +kernel
theorem dX3_linkAll_102 : decode cX3_linkAll 102 = .ok (.if_icmp .ge 38, 3) := by decide +kernel
theorem dX3_linkAll_105 : decode cX3_linkAll 105 = .ok (.aload_n 0, 1) := by decide +kernel
theorem dX3_linkAll_106 : decode cX3_linkAll 106 = .ok (.getfield 21, 3) := by decide +kernel
theorem dX3_linkAll_109 : decode cX3_linkAll 109 = .ok (.iconst 2, 1) := by decide +kernel
theorem dX3_linkAll_110 : decode cX3_linkAll 110 = .ok (.iload_n 2, 1) := by decide +kernel
theorem dX3_linkAll_111 : decode cX3_linkAll 111 = .ok (.imul, 1) := by decide +kernel
theorem dX3_linkAll_112 : decode cX3_linkAll 112 = .ok (.iload_n 3, 1) := by decide +kernel
theorem dX3_linkAll_113 : decode cX3_linkAll 113 = .ok (.iadd, 1) := by decide +kernel
theorem dX3_linkAll_114 : decode cX3_linkAll 114 = .ok (.iaload, 1) := by decide +kernel
theorem dX3_linkAll_115 : decode cX3_linkAll 115 = .ok (.ifCond .ne 19, 3) := by decide +kernel
theorem dX3_linkAll_118 : decode cX3_linkAll 118 = .ok (.aload_n 0, 1) := by decide +kernel
theorem dX3_linkAll_119 : decode cX3_linkAll 119 = .ok (.iconst 2, 1) := by decide +kernel
theorem dX3_linkAll_120 : decode cX3_linkAll 120 = .ok (.iload_n 2, 1) := by decide +kernel
theorem dX3_linkAll_121 : decode cX3_linkAll 121 = .ok (.imul, 1) := by decide +kernel
theorem dX3_linkAll_122 : decode cX3_linkAll 122 = .ok (.iload_n 3, 1) := by decide +kernel
theorem dX3_linkAll_123 : decode cX3_linkAll 123 = .ok (.iadd, 1) := by decide +kernel
theorem dX3_linkAll_124 : decode cX3_linkAll 124 = .ok (.iconst 2, 1) := by decide +kernel
theorem dX3_linkAll_125 : decode cX3_linkAll 125 = .ok (.iload_n 2, 1) := by decide +kernel
theorem dX3_linkAll_126 : decode cX3_linkAll 126 = .ok (.imul, 1) := by decide +kernel
theorem dX3_linkAll_127 : decode cX3_linkAll 127 = .ok (.iconst 1, 1) := by decide +kernel
theorem dX3_linkAll_128 : decode cX3_linkAll 128 = .ok (.iadd, 1) := by decide +kernel
theorem dX3_linkAll_129 : decode cX3_linkAll 129 = .ok (.iload_n 3, 1) := by decide +kernel
theorem dX3_linkAll_130 : decode cX3_linkAll 130 = .ok (.isub, 1) := by decide +kernel
theorem dX3_linkAll_131 : decode cX3_linkAll 131 = .ok (.invokevirtual 60, 3) := by decide +kernel
theorem dX3_linkAll_134 : decode cX3_linkAll 134 = .ok (.iinc 3 1, 3) := by decide +kernel
theorem dX3_linkAll_137 : decode cX3_linkAll 137 = .ok (.goto (-37), 3) := by decide +kernel
theorem dX3_linkAll_140 : decode cX3_linkAll 140 = .ok (.iinc 2 1, 3) := by decide +kernel
theorem dX3_linkAll_143 : decode cX3_linkAll 143 = .ok (.goto (-115), 3) := by decide +kernel
theorem dX3_linkAll_146 : decode cX3_linkAll 146 = .ok (.return_, 1) := by decide +kernel
set_option maxRecDepth 20000 in
set_option maxHeartbeats 2000000 in
theorem w_X3_linkAll_92 {X : CX} {d : Nat} (hd : 2 ≤ d) {g' : G} {rx : Unit} (k28 : Nat → Nat → Int32 → G → Option (Unit × G)) (hk28 : ∀ (l0 : Nat) (l1 : Nat) (l2 : Int32) (g : G), KD g l0 3 → KD g l1 4 → k28 l0 l1 l2 g = some (rx, g') → SemF X m_X3_linkAll d 28 [(0, .ref (ad X l0)), (1, .ref (ad X l1)), (2, .int l2)] [] g none g') (k45 : Nat → Nat → Int32 → Int32 → G → Option (Unit × G)) (hk45 : ∀ (l0 : Nat) (l1 : Nat) (l2 : Int32) (l3 : Int32) (g : G), KD g l0 3 → KD g l1 4 → k45 l0 l1 l2 l3 g = some (rx, g') → SemF X m_X3_linkAll d 45 [(0, .ref (ad X l0)), (1, .ref (ad X l1)), (2, .int l2), (3, .int l3)] [] g none g') (l0 : Nat) (l1 : Nat) (l2 : Int32) (l3 : Int32) (g : G) (k_l0 : KD g l0 3) (k_l1 : KD g l1 4) (h : f_X3_linkAll_92 k28 k45 l0 l1 l2 l3 g = some (rx, g')) : SemF X m_X3_linkAll d 92 [(0, .ref (ad X l0)), (1, .ref (ad X l1)), (2, .int l2), (3, .int l3)] [] g none g' := by
  rw [f_X3_linkAll_92] at h
  refine SF_iinc 3 (l3 + (1 : Int32)) [(3, .int (l3 + (1 : Int32))), (0, .ref (ad X l0)), (1, .ref (ad X l1)), (2, .int l2)] 95 dX3_linkAll_92 rfl rfl (by decide) rfl rfl ?_
  refine SF_goto 45 dX3_linkAll_95 rfl ?_
  refine SF_sub [1, 2, 3, 0] rfl ?_
  exact hk45 l0 l1 l2 (l3 + (1 : Int32)) g k_l0 k_l1 h

set_option maxRecDepth 20000 in
set_option maxHeartbeats 2000000 in
theorem w_X3_linkAll_134 {X : CX} {d : Nat} (hd : 2 ≤ d) {g' : G} {rx : Unit} (k28 : Nat → Nat → Int32 → G → Option (Unit × G)) (hk28 : ∀ (l0 : Nat) (l1 : Nat) (l2 : Int32) (g : G), KD g l0 3 → KD g l1 4 → k28 l0 l1 l2 g = some (rx, g') → SemF X m_X3_linkAll d 28 [(0, .ref (ad X l0)), (1, .ref (ad X l1)), (2, .int l2)] [] g none g') (k100 : Nat → Nat → Int32 → Int32 → G → Option (Unit × G)) (hk100 : ∀ (l0 : Nat) (l1 : Nat) (l2 : Int32) (l3 : Int32) (g : G), KD g l0 3 → KD g l1 4 → k100 l0 l1 l2 l3 g = some (rx, g') → SemF X m_X3_linkAll d 100 [(0, .ref (ad X l0)), (1, .ref (ad X l1)), (2, .int l2), (3, .int l3)] [] g none g') (l0 : Nat) (l1 : Nat) (l2 : Int32) (l3 : Int32) (g : G) (k_l0 : KD g l0 3) (k_l1 : KD g l1 4) (h : f_X3_linkAll_134 k28 k100 l0 l1 l2 l3 g = some (rx, g')) : SemF X m_X3_linkAll d 134 [(0, .ref (ad X l0)), (1, .ref (ad X l1)), (2, .int l2), (3, .int l3)] [] g none g' := by
  rw [f_X3_linkAll_134] at h
  refine SF_iinc 3 (l3 + (1 : Int32)) [(3, .int (l3 + (1 : Int32))), (0, .ref (ad X l0)), (1, .ref (ad X l1)), (2, .int l2)] 137 dX3_linkAll_134 rfl rfl (by decide) rfl rfl ?_
  refine SF_goto 100 dX3_linkAll_137 rfl ?_
  refine SF_sub [1, 2, 3, 0] rfl ?_
  exact hk100 l0 l1 l2 (l3 + (1 : Int32)) g k_l0 k_l1 h

set_option maxRecDepth 20000 in
set_option maxHeartbeats 2000000 in
theorem w_X3_linkAll_100 {X : CX} {d : Nat} (hd : 2 ≤ d) {g' : G} {rx : Unit} (k28 : Nat → Nat → Int32 → G → Option (Unit × G)) (hk28 : ∀ (l0 : Nat) (l1 : Nat) (l2 : Int32) (g : G), KD g l0 3 → KD g l1 4 → k28 l0 l1 l2 g = some (rx, g') → SemF X m_X3_linkAll d 28 [(0, .ref (ad X l0)), (1, .ref (ad X l1)), (2, .int l2)] [] g none g') : ∀ (n : Nat) (l0 : Nat) (l1 : Nat) (l2 : Int32) (l3 : Int32) (g : G), KD g l0 3 → KD g l1 4 → f_X3_linkAll_100 k28 n l0 l1 l2 l3 g = some (rx, g') → SemF X m_X3_linkAll d 100 [(0, .ref (ad X l0)), (1, .ref (ad X l1)), (2, .int l2), (3, .int l3)] [] g none g' := by
  intro n
  induction n with
  | zero =>
    intro l0 l1 l2 l3 g k_l0 k_l1 h
    rw [f_X3_linkAll_100] at h
    cases h
  | succ n ih =>
  intro l0 l1 l2 l3 g k_l0 k_l1 h
  rw [f_X3_linkAll_100] at h
  refine SF_iload_n 3 101 dX3_linkAll_100 rfl rfl rfl ?_
  refine SF_iconst (2 : Int32) 102 dX3_linkAll_101 rfl rfl ?_
  refine SF_icge 140 105 dX3_linkAll_102 rfl rfl (fun c1 => ?_) (fun c1 => ?_)
  · have h := ite_t c1 h
    refine SF_iinc 2 (l2 + (1 : Int32)) [(2, .int (l2 + (1 : Int32))), (0, .ref (ad X l0)), (1, .ref (ad X l1)), (3, .int l3)] 143 dX3_linkAll_140 rfl rfl (by decide) rfl rfl ?_
    refine SF_goto 28 dX3_linkAll_143 rfl ?_
    refine SF_sub [1, 2, 0] rfl ?_
    exact hk28 l0 l1 (l2 + (1 : Int32)) g k_l0 k_l1 h
  · have h := ite_f c1 h
    refine SF_aload_n 0 106 dX3_linkAll_105 rfl rfl rfl ?_
    obtain ⟨b2, r3, h⟩ := dr_some h
    refine SF_getR 109 fl_X3_21 dX3_linkAll_106 k_l0.1 r3 rfl ?_
    refine SF_iconst (2 : Int32) 110 dX3_linkAll_109 rfl rfl ?_
    refine SF_iload_n 2 111 dX3_linkAll_110 rfl rfl rfl ?_
    refine SF_imul 112 dX3_linkAll_111 rfl ?_
    refine SF_iload_n 3 113 dX3_linkAll_112 rfl rfl rfl ?_
    refine SF_iadd 114 dX3_linkAll_113 rfl ?_
    obtain ⟨k4, h⟩ := gdK_some h
    obtain ⟨i5, h⟩ := gdI_some h
    refine SF_iald 115 dX3_linkAll_114 k4.1 i5 rfl ?_
    refine SF_ifne 134 118 dX3_linkAll_115 rfl rfl (fun c6 => ?_) (fun c6 => ?_)
    · have h := ite_f c6 h
      exact w_X3_linkAll_134 hd k28 hk28 (f_X3_linkAll_100 k28 n) ih l0 l1 l2 l3 g k_l0 k_l1 h
    · have h := ite_t c6 h
      refine SF_aload_n 0 119 dX3_linkAll_118 rfl rfl rfl ?_
      refine SF_iconst (2 : Int32) 120 dX3_linkAll_119 rfl rfl ?_
      refine SF_iload_n 2 121 dX3_linkAll_120 rfl rfl rfl ?_
      refine SF_imul 122 dX3_linkAll_121 rfl ?_
      refine SF_iload_n 3 123 dX3_linkAll_122 rfl rfl rfl ?_
      refine SF_iadd 124 dX3_linkAll_123 rfl ?_
      refine SF_iconst (2 : Int32) 125 dX3_linkAll_124 rfl rfl ?_
      refine SF_iload_n 2 126 dX3_linkAll_125 rfl rfl rfl ?_
      refine SF_imul 127 dX3_linkAll_126 rfl ?_
      refine SF_iconst (1 : Int32) 128 dX3_linkAll_127 rfl rfl ?_
      refine SF_iadd 129 dX3_linkAll_128 rfl ?_
      refine SF_iload_n 3 130 dX3_linkAll_129 rfl rfl rfl ?_
      refine SF_isub 131 dX3_linkAll_130 rfl ?_
      obtain ⟨v7, g8, q9, h⟩ := bd_some h
      have s10 := w_X3_link (X := X) (Nat.le_refl 0) l0 (((2 : Int32) * l2) + l3) ((((2 : Int32) * l2) + (1 : Int32)) - l3) g g8 v7 k_l0 q9
      refine SF_callVv 134 mi_X3_link ml_X3_60 dX3_linkAll_131 (Nat.le_trans (by decide) hd) s10 k_l0.1 rfl rfl (Nat.le_of_ble_eq_true rfl) rfl ?_
      have k_l0 := k_l0.ext s10.1
      have k_l1 := k_l1.ext s10.1
      have k4 := k4.ext s10.1
      exact w_X3_linkAll_134 hd k28 hk28 (f_X3_linkAll_100 k28 n) ih l0 l1 l2 l3 g8 k_l0 k_l1 h

set_option maxRecDepth 20000 in
set_option maxHeartbeats 2000000 in
theorem w_X3_linkAll_45 {X : CX} {d : Nat} (hd : 2 ≤ d) {g' : G} {rx : Unit} (k28 : Nat → Nat → Int32 → G → Option (Unit × G)) (hk28 : ∀ (l0 : Nat) (l1 : Nat) (l2 : Int32) (g : G), KD g l0 3 → KD g l1 4 → k28 l0 l1 l2 g = some (rx, g') → SemF X m_X3_linkAll d 28 [(0, .ref (ad X l0)), (1, .ref (ad X l1)), (2, .int l2)] [] g none g') : ∀ (n : Nat) (l0 : Nat) (l1 : Nat) (l2 : Int32) (l3 : Int32) (g : G), KD g l0 3 → KD g l1 4 → f_X3_linkAll_45 k28 n l0 l1 l2 l3 g = some (rx, g') → SemF X m_X3_linkAll d 45 [(0, .ref (ad X l0)), (1, .ref (ad X l1)), (2, .int l2), (3, .int l3)] [] g none g' := by
  intro n
  induction n with
  | zero =>
    intro l0 l1 l2 l3 g k_l0 k_l1 h
    rw [f_X3_linkAll_45] at h
    cases h
  | succ n ih =>
  intro l0 l1 l2 l3 g k_l0 k_l1 h
  rw [f_X3_linkAll_45] at h
  refine SF_iload_n 3 46 dX3_linkAll_45 rfl rfl rfl ?_
  refine SF_bipush (8 : Int32) 48 dX3_linkAll_46 rfl rfl ?_
  refine SF_icge 98 51 dX3_linkAll_48 rfl rfl (fun c1 => ?_) (fun c1 => ?_)
  · have h := ite_t c1 h
    refine SF_iconst (0 : Int32) 99 dX3_linkAll_98 rfl rfl ?_
    refine SF_istore_n [(3, .int (0 : Int32)), (0, .ref (ad X l0)), (1, .ref (ad X l1)), (2, .int l2)] 100 dX3_linkAll_99 rfl (by decide) rfl rfl ?_
    refine SF_sub [1, 2, 3, 0] rfl ?_
    exact w_X3_linkAll_100 hd k28 hk28 FU l0 l1 l2 (0 : Int32) g k_l0 k_l1 h
  · have h := ite_f c1 h
    refine SF_iload_n 3 52 dX3_linkAll_51 rfl rfl rfl ?_
    refine SF_iconst (4 : Int32) 53 dX3_linkAll_52 rfl rfl ?_
    refine SF_idiv 54 dX3_linkAll_53 (by decide) rfl ?_
    obtain ⟨y2, e3, h⟩ := li_some h
    refine SF_eqI e3 ?_
    refine SF_istore [(4, .int y2), (0, .ref (ad X l0)), (1, .ref (ad X l1)), (2, .int l2), (3, .int l3)] 56 dX3_linkAll_54 (by decide) rfl rfl ?_
    refine SF_aload_n 2 57 dX3_linkAll_56 rfl rfl rfl ?_
    refine SF_iload_n 3 58 dX3_linkAll_57 rfl rfl rfl ?_
    refine SF_iload_n 4 59 dX3_linkAll_58 rfl rfl rfl ?_
    obtain ⟨v4, g5, q6, h⟩ := bd_some h
    have s7 := w_X4_nextOf (X := X) (Nat.le_refl 1) l1 l2 l3 g g5 v4 k_l1 q6
    refine SF_callVi 62 mi_X4_nextOf ml_X3_52 dX3_linkAll_59 (Nat.le_trans (by decide) hd) s7 k_l1.1 rfl rfl (Nat.le_of_ble_eq_true rfl) rfl ?_
    have k_l0 := k_l0.ext s7.1
    have k_l1 := k_l1.ext s7.1
    refine SF_istore [(5, .int v4), (4, .int y2), (0, .ref (ad X l0)), (1, .ref (ad X l1)), (2, .int l2), (3, .int l3)] 64 dX3_linkAll_62 (by decide) rfl rfl ?_
    refine SF_aload_n 3 65 dX3_linkAll_64 rfl rfl rfl ?_
    refine SF_iload 0 67 dX3_linkAll_65 rfl rfl ?_
    obtain ⟨v8, g9, q10, h⟩ := bd_some h
    have s11 := w_X4_has (X := X) (Nat.le_refl 0) l1 v4 g5 g9 v8 k_l1 q10
    refine SF_callVb 70 mi_X4_has ml_X3_56 dX3_linkAll_67 (Nat.le_trans (by decide) hd) s11 k_l1.1 rfl rfl (Nat.le_of_ble_eq_true rfl) rfl ?_
    have k_l0 := k_l0.ext s11.1
    have k_l1 := k_l1.ext s11.1
    refine SF_ifeq 92 73 dX3_linkAll_70 rfl rfl (fun c12 => ?_) (fun c12 => ?_)
    · have h := ite_t c12 h
      refine SF_sub [2, 3, 4, 5] rfl ?_
      exact w_X3_linkAll_92 hd k28 hk28 (f_X3_linkAll_45 k28 n) ih l0 l1 l2 l3 g9 k_l0 k_l1 h
    · have h := ite_f c12 h
      refine SF_aload_n 2 74 dX3_linkAll_73 rfl rfl rfl ?_
      refine SF_iconst (2 : Int32) 75 dX3_linkAll_74 rfl rfl ?_
      refine SF_iload_n 4 76 dX3_linkAll_75 rfl rfl rfl ?_
      refine SF_imul 77 dX3_linkAll_76 rfl ?_
      refine SF_iload 1 79 dX3_linkAll_77 rfl rfl ?_
      refine SF_iadd 80 dX3_linkAll_79 rfl ?_
      refine SF_iconst (2 : Int32) 81 dX3_linkAll_80 rfl rfl ?_
      refine SF_iload 0 83 dX3_linkAll_81 rfl rfl ?_
      refine SF_imul 84 dX3_linkAll_83 rfl ?_
      refine SF_iconst (1 : Int32) 85 dX3_linkAll_84 rfl rfl ?_
      refine SF_iadd 86 dX3_linkAll_85 rfl ?_
      refine SF_iload 1 88 dX3_linkAll_86 rfl rfl ?_
      refine SF_isub 89 dX3_linkAll_88 rfl ?_
      obtain ⟨v13, g14, q15, h⟩ := bd_some h
      have s16 := w_X3_link (X := X) (Nat.le_refl 0) l0 (((2 : Int32) * l2) + y2) ((((2 : Int32) * v4) + (1 : Int32)) - y2) g9 g14 v13 k_l0 q15
      refine SF_callVv 92 mi_X3_link ml_X3_60 dX3_linkAll_89 (Nat.le_trans (by decide) hd) s16 k_l0.1 rfl rfl (Nat.le_of_ble_eq_true rfl) rfl ?_
      have k_l0 := k_l0.ext s16.1
      have k_l1 := k_l1.ext s16.1
      refine SF_sub [2, 3, 4, 5] rfl ?_
      exact w_X3_linkAll_92 hd k28 hk28 (f_X3_linkAll_45 k28 n) ih l0 l1 l2 l3 g14 k_l0 k_l1 h

set_option maxRecDepth 20000 in
set_option maxHeartbeats 2000000 in
theorem w_X3_linkAll_28 {X : CX} {d : Nat} (hd : 2 ≤ d) {g' : G} {rx : Unit} : ∀ (n : Nat) (l0 : Nat) (l1 : Nat) (l2 : Int32) (g : G), KD g l0 3 → KD g l1 4 → f_X3_linkAll_28 n l0 l1 l2 g = some (rx, g') → SemF X m_X3_linkAll d 28 [(0, .ref (ad X l0)), (1, .ref (ad X l1)), (2, .int l2)] [] g none g' := by
  intro n
  induction n with
  | zero =>
    intro l0 l1 l2 g k_l0 k_l1 h
    rw [f_X3_linkAll_28] at h
    cases h
  | succ n ih =>
  intro l0 l1 l2 g k_l0 k_l1 h
  rw [f_X3_linkAll_28] at h
  refine SF_iload_n 2 29 dX3_linkAll_28 rfl rfl rfl ?_
  refine SF_aload_n 1 30 dX3_linkAll_29 rfl rfl rfl ?_
  refine SF_getI 33 fl_X3_47 dX3_linkAll_30 k_l1.1 rfl ?_
  refine SF_icge 146 36 dX3_linkAll_33 rfl rfl (fun c1 => ?_) (fun c1 => ?_)
  · have h := ite_t c1 h
    exact RT_v rfl dX3_linkAll_146 h
  · have h := ite_f c1 h
    refine SF_iload_n 2 37 dX3_linkAll_36 rfl rfl rfl ?_
    refine SF_sipush (256 : Int32) 40 dX3_linkAll_37 rfl rfl ?_
    refine SF_icge 146 43 dX3_linkAll_40 rfl rfl (fun c2 => ?_) (fun c2 => ?_)
    · have h := ite_t c2 h
      exact RT_v rfl dX3_linkAll_146 h
    · have h := ite_f c2 h
      refine SF_iconst (0 : Int32) 44 dX3_linkAll_43 rfl rfl ?_
      refine SF_istore_n [(3, .int (0 : Int32)), (0, .ref (ad X l0)), (1, .ref (ad X l1)), (2, .int l2)] 45 dX3_linkAll_44 rfl (by decide) rfl rfl ?_
      refine SF_sub [1, 2, 3, 0] rfl ?_
      exact w_X3_linkAll_45 hd (f_X3_linkAll_28 n) ih FU l0 l1 l2 (0 : Int32) g k_l0 k_l1 h

set_option maxRecDepth 20000 in
set_option maxHeartbeats 2000000 in
theorem w_X3_linkAll {X : CX} {d : Nat} (hd : 2 ≤ d) (l0 : Nat) (l1 : Nat) (g g' : G) (rx : Unit) (k_l0 : KD g l0 3) (k_l1 : KD g l1 4) (h : f_X3_linkAll l0 l1 g = some (rx, g')) : Sem X m_X3_linkAll d [.ref (ad X l0), .ref (ad X l1)] g none g' := by
  refine Sem_of (lo := [(0, .ref (ad X l0)), (1, .ref (ad X l1))]) (by decide +kernel) rfl (Nat.le_of_ble_eq_true rfl) ?_
  rw [f_X3_linkAll] at h
  refine SF_aload_n 0 1 dX3_linkAll_0 rfl rfl rfl ?_
  refine SF_iconst (1 : Int32) 2 dX3_linkAll_1 rfl rfl ?_
  refine SF_putI 5 fl_X3_33 dX3_linkAll_2 k_l0.1 ⟨rfl, rfl⟩ (Or.inl rfl) rfl ?_
  obtain ⟨g1, e2, h⟩ := lg_some h
  rw [← e2]
  have k_l0 := KD.eq e2 k_l0
  have k_l1 := KD.eq e2 k_l1
  refine SF_aload_n 0 6 dX3_linkAll_5 rfl rfl rfl ?_
  obtain ⟨b3, r4, h⟩ := dr_some h
  refine SF_getR 9 fl_X3_9 dX3_linkAll_6 k_l0.1 r4 rfl ?_
  refine SF_iconst (-1 : Int32) 10 dX3_linkAll_9 rfl rfl ?_
  obtain ⟨k5, h⟩ := gdK_some h
  obtain ⟨v6, g7, q8, h⟩ := bd_some h
  have s9 := w_J7_fill_53178 (X := X) (Nat.le_refl 0) b3 (-1 : Int32) g1 g7 v6 k5 q8
  refine SF_callSv 13 mi_J7_fill_53178 ml_X3_37 dX3_linkAll_10 (Nat.le_trans (by decide) hd) s9 rfl rfl (Nat.le_of_ble_eq_true rfl) rfl ?_
  have k_l0 := k_l0.ext s9.1
  have k_l1 := k_l1.ext s9.1
  have k5 := k5.ext s9.1
  refine SF_aload_n 0 14 dX3_linkAll_13 rfl rfl rfl ?_
  obtain ⟨b10, r11, h⟩ := dr_some h
  refine SF_getR 17 fl_X3_21 dX3_linkAll_14 k_l0.1 r11 rfl ?_
  refine SF_iconst (0 : Int32) 18 dX3_linkAll_17 rfl rfl ?_
  obtain ⟨k12, h⟩ := gdK_some h
  obtain ⟨v13, g14, q15, h⟩ := bd_some h
  have s16 := w_J7_fill_53178 (X := X) (Nat.le_refl 0) b10 (0 : Int32) g7 g14 v13 k12 q15
  refine SF_callSv 21 mi_J7_fill_53178 ml_X3_37 dX3_linkAll_18 (Nat.le_trans (by decide) hd) s16 rfl rfl (Nat.le_of_ble_eq_true rfl) rfl ?_
  have k_l0 := k_l0.ext s16.1
  have k_l1 := k_l1.ext s16.1
  have k5 := k5.ext s16.1
  have k12 := k12.ext s16.1
  refine SF_aload_n 0 22 dX3_linkAll_21 rfl rfl rfl ?_
  refine SF_iconst (0 : Int32) 23 dX3_linkAll_22 rfl rfl ?_
  refine SF_putI 26 fl_X3_43 dX3_linkAll_23 k_l0.1 (fn_int _) (Or.inl rfl) rfl ?_
  obtain ⟨g17, e18, h⟩ := lg_some h
  rw [← e18]
  have k_l0 := KD.eq e18 k_l0
  have k_l1 := KD.eq e18 k_l1
  have k5 := KD.eq e18 k5
  have k12 := KD.eq e18 k12
  refine SF_iconst (0 : Int32) 27 dX3_linkAll_26 rfl rfl ?_
  refine SF_istore_n [(2, .int (0 : Int32)), (0, .ref (ad X l0)), (1, .ref (ad X l1))] 28 dX3_linkAll_27 rfl (by decide) rfl rfl ?_
  refine SF_sub [1, 2, 0] rfl ?_
  exact w_X3_linkAll_28 hd FU l0 l1 (0 : Int32) g17 k_l0 k_l1 h

