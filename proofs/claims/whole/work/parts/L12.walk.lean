theorem dX12_triedSet_0 : decode cX12_triedSet 0 = .ok (.lconst 0, 1) := by decide +kernel
theorem dX12_triedSet_1 : decode cX12_triedSet 1 = .ok (.lstore_n 3, 1) := by decide +kernel
theorem dX12_triedSet_2 : decode cX12_triedSet 2 = .ok (.iconst 0, 1) := by decide +kernel
theorem dX12_triedSet_3 : decode cX12_triedSet 3 = .ok (.istore 5, 2) := by decide +kernel
theorem dX12_triedSet_5 : decode cX12_triedSet 5 = .ok (.iload 5, 2) := by decide +kernel
theorem dX12_triedSet_7 : decode cX12_triedSet 7 = .ok (.aload_n 0, 1) := by decide +kernel
theorem dX12_triedSet_8 : decode cX12_triedSet 8 = .ok (.invokevirtual 214, 3) := by decide +kernel
theorem dX12_triedSet_11 : decode cX12_triedSet 11 = .ok (.if_icmp .ge 41, 3) := by decide +kernel
theorem dX12_triedSet_14 : decode cX12_triedSet 14 = .ok (.lload_n 3, 1) := by decide +kernel
theorem dX12_triedSet_15 : decode cX12_triedSet 15 = .ok (.aload_n 0, 1) := by decide +kernel
theorem dX12_triedSet_16 : decode cX12_triedSet 16 = .ok (.iload_n 2, 1) := by decide +kernel
theorem dX12_triedSet_17 : decode cX12_triedSet 17 = .ok (.iload 5, 2) := by decide +kernel
theorem dX12_triedSet_19 : decode cX12_triedSet 19 = .ok (.invokevirtual 446, 3) := by decide +kernel
theorem dX12_triedSet_22 : decode cX12_triedSet 22 = .ok (.ifCond .eq 21, 3) := by decide +kernel
theorem dX12_triedSet_25 : decode cX12_triedSet 25 = .ok (.aload_n 0, 1) := by decide +kernel
theorem dX12_triedSet_26 : decode cX12_triedSet 26 = .ok (.iload_n 1, 1) := by decide +kernel
theorem dX12_triedSet_27 : decode cX12_triedSet 27 = .ok (.iload_n 2, 1) := by decide +kernel
theorem dX12_triedSet_28 : decode cX12_triedSet 28 = .ok (.iload 5, 2) := by decide +kernel
theorem dX12_triedSet_30 : decode cX12_triedSet 30 = .ok (.invokevirtual 449, 3) := by decide +kernel
theorem dX12_triedSet_33 : decode cX12_triedSet 33 = .ok (.ifCond .eq 10, 3) := by decide +kernel
theorem dX12_triedSet_36 : decode cX12_triedSet 36 = .ok (.lconst 1, 1) := by decide +kernel
theorem dX12_triedSet_37 : decode cX12_triedSet 37 = .ok (.iload 5, 2) := by decide +kernel
theorem dX12_triedSet_39 : decode cX12_triedSet 39 = .ok (.lshl, 1) := by decide +kernel
theorem dX12_triedSet_40 : decode cX12_triedSet 40 = .ok (.goto 4, 3) := by decide +kernel
theorem dX12_triedSet_43 : decode cX12_triedSet 43 = .ok (.lconst 0, 1) := by decide +kernel
theorem dX12_triedSet_44 : decode cX12_triedSet 44 = .ok (.lor, 1) := by decide +kernel
theorem dX12_triedSet_45 : decode cX12_triedSet 45 = .ok (.lstore_n 3, 1) := by decide +kernel
theorem dX12_triedSet_46 : decode cX12_triedSet 46 = .ok (.iinc 5 1, 3) := by decide +kernel
theorem dX12_triedSet_49 : decode cX12_triedSet 49 = .ok (.goto (-44), 3) := by decide +kernel
theorem dX12_triedSet_52 : decode cX12_triedSet 52 = .ok (.lload_n 3, 1) := by decide +kernel
theorem dX12_triedSet_53 : decode cX12_triedSet 53 = .ok (.lreturn, 1) := by decide +kernel
set_option maxRecDepth 20000 in
set_option maxHeartbeats 2000000 in
theorem w_X12_triedSet_44 {X : CX} {d : Nat} (hd : 6 ≤ d) {g' : G} {rx : Int64} (k5 : Nat → Int32 → Int32 → Int64 → Int32 → G → Option (Int64 × G)) (hk5 : ∀ (l0 : Nat) (l1 : Int32) (l2 : Int32) (l3 : Int64) (l5 : Int32) (g : G), KD g l0 12 → k5 l0 l1 l2 l3 l5 g = some (rx, g') → SemF X m_X12_triedSet d 5 [(0, .ref (ad X l0)), (1, .int l1), (2, .int l2), (3, .long l3), (5, .int l5)] [] g (some (.long rx)) g') (l0 : Nat) (l1 : Int32) (l2 : Int32) (l5 : Int32) (s0 : Int64) (s1 : Int64) (g : G) (k_l0 : KD g l0 12) (h : f_X12_triedSet_44 k5 l0 l1 l2 l5 s0 s1 g = some (rx, g')) : SemF X m_X12_triedSet d 44 [(0, .ref (ad X l0)), (1, .int l1), (2, .int l2), (5, .int l5)] [.long s0, .long s1] g (some (.long rx)) g' := by
  rw [f_X12_triedSet_44] at h
  refine SF_lor 45 dX12_triedSet_44 rfl ?_
  obtain ⟨y1, e2, h⟩ := ll_some h
  refine SF_eqL e2 ?_
  refine SF_lstore_n [(3, .long y1), (0, .ref (ad X l0)), (1, .int l1), (2, .int l2), (5, .int l5)] 46 dX12_triedSet_45 rfl (by decide) rfl rfl ?_
  refine SF_iinc 4 (l5 + (1 : Int32)) [(5, .int (l5 + (1 : Int32))), (3, .long y1), (0, .ref (ad X l0)), (1, .int l1), (2, .int l2)] 49 dX12_triedSet_46 rfl rfl (by decide) rfl rfl ?_
  refine SF_goto 5 dX12_triedSet_49 rfl ?_
  refine SF_sub [2, 3, 4, 1, 0] rfl ?_
  exact hk5 l0 l1 l2 y1 (l5 + (1 : Int32)) g k_l0 h

set_option maxRecDepth 20000 in
set_option maxHeartbeats 2000000 in
theorem w_X12_triedSet_43 {X : CX} {d : Nat} (hd : 6 ≤ d) {g' : G} {rx : Int64} (k5 : Nat → Int32 → Int32 → Int64 → Int32 → G → Option (Int64 × G)) (hk5 : ∀ (l0 : Nat) (l1 : Int32) (l2 : Int32) (l3 : Int64) (l5 : Int32) (g : G), KD g l0 12 → k5 l0 l1 l2 l3 l5 g = some (rx, g') → SemF X m_X12_triedSet d 5 [(0, .ref (ad X l0)), (1, .int l1), (2, .int l2), (3, .long l3), (5, .int l5)] [] g (some (.long rx)) g') (l0 : Nat) (l1 : Int32) (l2 : Int32) (l5 : Int32) (s0 : Int64) (g : G) (k_l0 : KD g l0 12) (h : f_X12_triedSet_43 k5 l0 l1 l2 l5 s0 g = some (rx, g')) : SemF X m_X12_triedSet d 43 [(0, .ref (ad X l0)), (1, .int l1), (2, .int l2), (5, .int l5)] [.long s0] g (some (.long rx)) g' := by
  rw [f_X12_triedSet_43] at h
  refine SF_lconst (0 : Int64) 44 dX12_triedSet_43 rfl rfl ?_
  exact w_X12_triedSet_44 hd k5 hk5 l0 l1 l2 l5 (0 : Int64) s0 g k_l0 h

set_option maxRecDepth 20000 in
set_option maxHeartbeats 2000000 in
theorem w_X12_triedSet_5 {X : CX} {d : Nat} (hd : 6 ≤ d) {g' : G} {rx : Int64} : ∀ (n : Nat) (l0 : Nat) (l1 : Int32) (l2 : Int32) (l3 : Int64) (l5 : Int32) (g : G), KD g l0 12 → f_X12_triedSet_5 n l0 l1 l2 l3 l5 g = some (rx, g') → SemF X m_X12_triedSet d 5 [(0, .ref (ad X l0)), (1, .int l1), (2, .int l2), (3, .long l3), (5, .int l5)] [] g (some (.long rx)) g' := by
  intro n
  induction n with
  | zero =>
    intro l0 l1 l2 l3 l5 g k_l0 h
    rw [f_X12_triedSet_5] at h
    cases h
  | succ n ih =>
  intro l0 l1 l2 l3 l5 g k_l0 h
  rw [f_X12_triedSet_5] at h
  refine SF_iload 4 7 dX12_triedSet_5 rfl rfl ?_
  refine SF_aload_n 0 8 dX12_triedSet_7 rfl rfl rfl ?_
  obtain ⟨v1, g2, q3, h⟩ := bd_some h
  have s4 := w_X12_cells (X := X) (Nat.le_refl 0) l0 g g2 v1 k_l0 q3
  refine SF_callVi 11 mi_X12_cells ml_X12_214 dX12_triedSet_8 (Nat.le_trans (by decide) hd) s4 k_l0.1 rfl rfl (Nat.le_of_ble_eq_true rfl) rfl ?_
  have k_l0 := k_l0.ext s4.1
  refine SF_icge 52 14 dX12_triedSet_11 rfl rfl (fun c5 => ?_) (fun c5 => ?_)
  · have h := ite_t c5 h
    refine SF_lload_n 3 53 dX12_triedSet_52 rfl rfl rfl ?_
    exact RT_l rfl dX12_triedSet_53 h
  · have h := ite_f c5 h
    refine SF_lload_n 3 15 dX12_triedSet_14 rfl rfl rfl ?_
    refine SF_aload_n 0 16 dX12_triedSet_15 rfl rfl rfl ?_
    refine SF_iload_n 2 17 dX12_triedSet_16 rfl rfl rfl ?_
    refine SF_iload 4 19 dX12_triedSet_17 rfl rfl ?_
    obtain ⟨v6, g7, q8, h⟩ := bd_some h
    have s9 := w_X12_isFirst (X := X) (Nat.le_refl 2) l0 l2 l5 g2 g7 v6 k_l0 q8
    refine SF_callVb 22 mi_X12_isFirst ml_X12_446 dX12_triedSet_19 (Nat.le_trans (by decide) hd) s9 k_l0.1 rfl rfl (Nat.le_of_ble_eq_true rfl) rfl ?_
    have k_l0 := k_l0.ext s9.1
    refine SF_ifeq 43 25 dX12_triedSet_22 rfl rfl (fun c10 => ?_) (fun c10 => ?_)
    · have h := ite_t c10 h
      refine SF_sub [0, 1, 2, 4] rfl ?_
      exact w_X12_triedSet_43 hd (f_X12_triedSet_5 n) ih l0 l1 l2 l5 l3 g7 k_l0 h
    · have h := ite_f c10 h
      refine SF_aload_n 0 26 dX12_triedSet_25 rfl rfl rfl ?_
      refine SF_iload_n 1 27 dX12_triedSet_26 rfl rfl rfl ?_
      refine SF_iload_n 2 28 dX12_triedSet_27 rfl rfl rfl ?_
      refine SF_iload 4 30 dX12_triedSet_28 rfl rfl ?_
      obtain ⟨v11, g12, q13, h⟩ := bd_some h
      have s14 := w_X12_isTried (X := X) (Nat.le_refl 5) l0 l1 l2 l5 g7 g12 v11 k_l0 q13
      refine SF_callVb 33 mi_X12_isTried ml_X12_449 dX12_triedSet_30 (Nat.le_trans (by decide) hd) s14 k_l0.1 rfl rfl (Nat.le_of_ble_eq_true rfl) rfl ?_
      have k_l0 := k_l0.ext s14.1
      refine SF_ifeq 43 36 dX12_triedSet_33 rfl rfl (fun c15 => ?_) (fun c15 => ?_)
      · have h := ite_t c15 h
        refine SF_sub [0, 1, 2, 4] rfl ?_
        exact w_X12_triedSet_43 hd (f_X12_triedSet_5 n) ih l0 l1 l2 l5 l3 g12 k_l0 h
      · have h := ite_f c15 h
        refine SF_lconst (1 : Int64) 37 dX12_triedSet_36 rfl rfl ?_
        refine SF_iload 4 39 dX12_triedSet_37 rfl rfl ?_
        refine SF_lshl 40 dX12_triedSet_39 rfl ?_
        refine SF_goto 44 dX12_triedSet_40 rfl ?_
        refine SF_sub [0, 1, 2, 4] rfl ?_
        exact w_X12_triedSet_44 hd (f_X12_triedSet_5 n) ih l0 l1 l2 l5 ((1 : Int64) <<< (l5.toInt64 &&& 63)) l3 g12 k_l0 h

set_option maxRecDepth 20000 in
set_option maxHeartbeats 2000000 in
theorem w_X12_triedSet {X : CX} {d : Nat} (hd : 6 ≤ d) (l0 : Nat) (l1 : Int32) (l2 : Int32) (g g' : G) (rx : Int64) (k_l0 : KD g l0 12) (h : f_X12_triedSet l0 l1 l2 g = some (rx, g')) : Sem X m_X12_triedSet d [.ref (ad X l0), .int l1, .int l2] g (some (.long rx)) g' := by
  refine Sem_of (lo := [(0, .ref (ad X l0)), (1, .int l1), (2, .int l2)]) (by decide +kernel) rfl (Nat.le_of_ble_eq_true rfl) ?_
  rw [f_X12_triedSet] at h
  refine SF_lconst (0 : Int64) 1 dX12_triedSet_0 rfl rfl ?_
  refine SF_lstore_n [(3, .long (0 : Int64)), (0, .ref (ad X l0)), (1, .int l1), (2, .int l2)] 2 dX12_triedSet_1 rfl (by decide) rfl rfl ?_
  refine SF_iconst (0 : Int32) 3 dX12_triedSet_2 rfl rfl ?_
  refine SF_istore [(5, .int (0 : Int32)), (3, .long (0 : Int64)), (0, .ref (ad X l0)), (1, .int l1), (2, .int l2)] 5 dX12_triedSet_3 (by decide) rfl rfl ?_
  refine SF_sub [2, 3, 4, 1, 0] rfl ?_
  exact w_X12_triedSet_5 hd FU l0 l1 l2 (0 : Int64) (0 : Int32) g k_l0 h

theorem dX12_tried_0 : decode cX12_tried 0 = .ok (.aload_n 0, 1) := by decide +kernel
theorem dX12_tried_1 : decode cX12_tried 1 = .ok (.iconst 0, 1) := by decide +kernel
theorem dX12_tried_2 : decode cX12_tried 2 = .ok (.putfield 1, 3) := by decide +kernel
theorem dX12_tried_5 : decode cX12_tried 5 = .ok (.aload_n 0, 1) := by decide +kernel
theorem dX12_tried_6 : decode cX12_tried 6 = .ok (.iload_n 1, 1) := by decide +kernel
theorem dX12_tried_7 : decode cX12_tried 7 = .ok (.iload_n 2, 1) := by decide +kernel
theorem dX12_tried_8 : decode cX12_tried 8 = .ok (.invokevirtual 456, 3) := by decide +kernel
theorem dX12_tried_11 : decode cX12_tried 11 = .ok (.istore_n 3, 1) := by decide +kernel
theorem dX12_tried_12 : decode cX12_tried 12 = .ok (.iload_n 3, 1) := by decide +kernel
theorem dX12_tried_13 : decode cX12_tried 13 = .ok (.ifCond .eq 8, 3) := by decide +kernel
theorem dX12_tried_16 : decode cX12_tried 16 = .ok (.iload_n 3, 1) := by decide +kernel
theorem dX12_tried_17 : decode cX12_tried 17 = .ok (.i2l, 1) := by decide +kernel
theorem dX12_tried_18 : decode cX12_tried 18 = .ok (.goto 9, 3) := by decide +kernel
theorem dX12_tried_21 : decode cX12_tried 21 = .ok (.aload_n 0, 1) := by decide +kernel
theorem dX12_tried_22 : decode cX12_tried 22 = .ok (.iload_n 1, 1) := by decide +kernel
theorem dX12_tried_23 : decode cX12_tried 23 = .ok (.iload_n 2, 1) := by decide +kernel
theorem dX12_tried_24 : decode cX12_tried 24 = .ok (.invokevirtual 459, 3) := by decide +kernel
theorem dX12_tried_27 : decode cX12_tried 27 = .ok (.lreturn, 1) := by decide +kernel
set_option maxRecDepth 20000 in
set_option maxHeartbeats 2000000 in
theorem w_X12_tried {X : CX} {d : Nat} (hd : 7 ≤ d) (l0 : Nat) (l1 : Int32) (l2 : Int32) (g g' : G) (rx : Int64) (k_l0 : KD g l0 12) (h : f_X12_tried l0 l1 l2 g = some (rx, g')) : Sem X m_X12_tried d [.ref (ad X l0), .int l1, .int l2] g (some (.long rx)) g' := by
  refine Sem_of (lo := [(0, .ref (ad X l0)), (1, .int l1), (2, .int l2)]) (by decide +kernel) rfl (Nat.le_of_ble_eq_true rfl) ?_
  rw [f_X12_tried] at h
  refine SF_aload_n 0 1 dX12_tried_0 rfl rfl rfl ?_
  refine SF_iconst (0 : Int32) 2 dX12_tried_1 rfl rfl ?_
  refine SF_putI 5 fl_X12_1 dX12_tried_2 k_l0.1 (fn_int _) (Or.inl rfl) rfl ?_
  obtain ⟨g1, e2, h⟩ := lg_some h
  rw [← e2]
  have k_l0 := KD.eq e2 k_l0
  refine SF_aload_n 0 6 dX12_tried_5 rfl rfl rfl ?_
  refine SF_iload_n 1 7 dX12_tried_6 rfl rfl rfl ?_
  refine SF_iload_n 2 8 dX12_tried_7 rfl rfl rfl ?_
  obtain ⟨v3, g4, q5, h⟩ := bd_some h
  have s6 := w_X12_noTried (X := X) (Nat.le_refl 2) l0 l1 l2 g1 g4 v3 k_l0 q5
  refine SF_callVi 11 mi_X12_noTried ml_X12_456 dX12_tried_8 (Nat.le_trans (by decide) hd) s6 k_l0.1 rfl rfl (Nat.le_of_ble_eq_true rfl) rfl ?_
  have k_l0 := k_l0.ext s6.1
  refine SF_istore_n [(3, .int v3), (0, .ref (ad X l0)), (1, .int l1), (2, .int l2)] 12 dX12_tried_11 rfl (by decide) rfl rfl ?_
  refine SF_iload_n 0 13 dX12_tried_12 rfl rfl rfl ?_
  refine SF_ifeq 21 16 dX12_tried_13 rfl rfl (fun c7 => ?_) (fun c7 => ?_)
  · have h := ite_t c7 h
    refine SF_aload_n 1 22 dX12_tried_21 rfl rfl rfl ?_
    refine SF_iload_n 2 23 dX12_tried_22 rfl rfl rfl ?_
    refine SF_iload_n 3 24 dX12_tried_23 rfl rfl rfl ?_
    obtain ⟨v8, g9, q10, h⟩ := bd_some h
    have s11 := w_X12_triedSet (X := X) (Nat.le_refl 6) l0 l1 l2 g4 g9 v8 k_l0 q10
    refine SF_callVl 27 mi_X12_triedSet ml_X12_459 dX12_tried_24 (Nat.le_trans (by decide) hd) s11 k_l0.1 rfl rfl (Nat.le_of_ble_eq_true rfl) rfl ?_
    have k_l0 := k_l0.ext s11.1
    exact RT_l rfl dX12_tried_27 h
  · have h := ite_f c7 h
    refine SF_iload_n 0 17 dX12_tried_16 rfl rfl rfl ?_
    refine SF_i2l 18 dX12_tried_17 rfl ?_
    refine SF_goto 27 dX12_tried_18 rfl ?_
    exact RT_l rfl dX12_tried_27 h

theorem dX11_many_0 : decode cX11_many 0 = .ok (.aload_n 0, 1) := by decide +kernel
theorem dX11_many_1 : decode cX11_many 1 = .ok (.iload_n 1, 1) := by decide +kernel
theorem dX11_many_2 : decode cX11_many 2 = .ok (.iload_n 2, 1) := by decide +kernel
theorem dX11_many_3 : decode cX11_many 3 = .ok (.invokevirtual 364, 3) := by decide +kernel
theorem dX11_many_6 : decode cX11_many 6 = .ok (.istore_n 3, 1) := by decide +kernel
theorem dX11_many_7 : decode cX11_many 7 = .ok (.iload_n 3, 1) := by decide +kernel
theorem dX11_many_8 : decode cX11_many 8 = .ok (.ifCond .eq 7, 3) := by decide +kernel
theorem dX11_many_11 : decode cX11_many 11 = .ok (.iload_n 3, 1) := by decide +kernel
theorem dX11_many_12 : decode cX11_many 12 = .ok (.goto 12, 3) := by decide +kernel
theorem dX11_many_15 : decode cX11_many 15 = .ok (.aload_n 0, 1) := by decide +kernel
theorem dX11_many_16 : decode cX11_many 16 = .ok (.iload_n 1, 1) := by decide +kernel
theorem dX11_many_17 : decode cX11_many 17 = .ok (.iload_n 2, 1) := by decide +kernel
theorem dX11_many_18 : decode cX11_many 18 = .ok (.invokevirtual 367, 3) := by decide +kernel
theorem dX11_many_21 : decode cX11_many 21 = .ok (.invokestatic 347, 3) := by decide +kernel
theorem dX11_many_24 : decode cX11_many 24 = .ok (.ireturn, 1) := by decide +kernel
set_option maxRecDepth 20000 in
set_option maxHeartbeats 2000000 in
theorem w_X11_many {X : CX} {d : Nat} (hd : 7 ≤ d) (l0 : Nat) (l1 : Int32) (l2 : Int32) (g g' : G) (rx : Int32) (k_l0 : KD g l0 11) (h : f_X11_many l0 l1 l2 g = some (rx, g')) : Sem X m_X11_many d [.ref (ad X l0), .int l1, .int l2] g (some (.int rx)) g' := by
  refine Sem_of (lo := [(0, .ref (ad X l0)), (1, .int l1), (2, .int l2)]) (by decide +kernel) rfl (Nat.le_of_ble_eq_true rfl) ?_
  rw [f_X11_many] at h
  refine SF_aload_n 0 1 dX11_many_0 rfl rfl rfl ?_
  refine SF_iload_n 1 2 dX11_many_1 rfl rfl rfl ?_
  refine SF_iload_n 2 3 dX11_many_2 rfl rfl rfl ?_
  obtain ⟨v1, g2, q3, h⟩ := bd_some h
  have s4 := w_X11_triesRefused (X := X) (Nat.le_refl 1) l0 l1 l2 g g2 v1 k_l0 q3
  refine SF_callVi 6 mi_X11_triesRefused ml_X11_364 dX11_many_3 (Nat.le_trans (by decide) hd) s4 k_l0.1 rfl rfl (Nat.le_of_ble_eq_true rfl) rfl ?_
  have k_l0 := k_l0.ext s4.1
  refine SF_istore_n [(3, .int v1), (0, .ref (ad X l0)), (1, .int l1), (2, .int l2)] 7 dX11_many_6 rfl (by decide) rfl rfl ?_
  refine SF_iload_n 0 8 dX11_many_7 rfl rfl rfl ?_
  refine SF_ifeq 15 11 dX11_many_8 rfl rfl (fun c5 => ?_) (fun c5 => ?_)
  · have h := ite_t c5 h
    refine SF_aload_n 1 16 dX11_many_15 rfl rfl rfl ?_
    refine SF_iload_n 2 17 dX11_many_16 rfl rfl rfl ?_
    refine SF_iload_n 3 18 dX11_many_17 rfl rfl rfl ?_
    obtain ⟨v6, g7, q8, h⟩ := bd_some h
    have s9 := w_X11_cellsTried (X := X) (Nat.le_refl 6) l0 l1 l2 g2 g7 v6 k_l0 q8
    refine SF_callVl 21 mi_X11_cellsTried ml_X11_367 dX11_many_18 (Nat.le_trans (by decide) hd) s9 k_l0.1 rfl rfl (Nat.le_of_ble_eq_true rfl) rfl ?_
    have k_l0 := k_l0.ext s9.1
    obtain ⟨v10, g11, q12, h⟩ := bd_some h
    have s13 := w_J13_bitCount_95d88 (X := X) (Nat.le_refl 0) v6 g7 g11 v10 q12
    refine SF_callSi 24 mi_J13_bitCount_95d88 ml_X11_347 dX11_many_21 (Nat.le_trans (by decide) hd) s13 rfl rfl (Nat.le_of_ble_eq_true rfl) rfl ?_
    have k_l0 := k_l0.ext s13.1
    exact RT_i rfl dX11_many_24 h
  · have h := ite_f c5 h
    refine SF_iload_n 0 12 dX11_many_11 rfl rfl rfl ?_
    refine SF_goto 24 dX11_many_12 rfl ?_
    exact RT_i rfl dX11_many_24 h

theorem dX12_isIn_0 : decode cX12_isIn 0 = .ok (.lload_n 0, 1) := by decide +kernel
theorem dX12_isIn_1 : decode cX12_isIn 1 = .ok (.iload_n 2, 1) := by decide +kernel
theorem dX12_isIn_2 : decode cX12_isIn 2 = .ok (.lshr, 1) := by decide +kernel
theorem dX12_isIn_3 : decode cX12_isIn 3 = .ok (.lconst 1, 1) := by decide +kernel
theorem dX12_isIn_4 : decode cX12_isIn 4 = .ok (.land, 1) := by decide +kernel
theorem dX12_isIn_5 : decode cX12_isIn 5 = .ok (.lconst 1, 1) := by decide +kernel
theorem dX12_isIn_6 : decode cX12_isIn 6 = .ok (.lcmp, 1) := by decide +kernel
theorem dX12_isIn_7 : decode cX12_isIn 7 = .ok (.ifCond .ne 7, 3) := by decide +kernel
theorem dX12_isIn_10 : decode cX12_isIn 10 = .ok (.iconst 1, 1) := by decide +kernel
theorem dX12_isIn_11 : decode cX12_isIn 11 = .ok (.goto 4, 3) := by decide +kernel
theorem dX12_isIn_14 : decode cX12_isIn 14 = .ok (.iconst 0, 1) := by decide +kernel
theorem dX12_isIn_15 : decode cX12_isIn 15 = .ok (.ireturn, 1) := by decide +kernel
set_option maxRecDepth 20000 in
set_option maxHeartbeats 2000000 in
theorem w_X12_isIn {X : CX} {d : Nat} (hd : 0 ≤ d) (l0 : Int64) (l2 : Int32) (g g' : G) (rx : Bool) (h : f_X12_isIn l0 l2 g = some (rx, g')) : Sem X m_X12_isIn d [.long l0, .int l2] g (some (.int (b2i rx))) g' := by
  refine Sem_of (lo := [(0, .long l0), (2, .int l2)]) (by decide +kernel) rfl (Nat.le_of_ble_eq_true rfl) ?_
  rw [f_X12_isIn] at h
  refine SF_lload_n 0 1 dX12_isIn_0 rfl rfl rfl ?_
  refine SF_iload_n 1 2 dX12_isIn_1 rfl rfl rfl ?_
  refine SF_lshr 3 dX12_isIn_2 rfl ?_
  refine SF_lconst (1 : Int64) 4 dX12_isIn_3 rfl rfl ?_
  refine SF_land 5 dX12_isIn_4 rfl ?_
  refine SF_lconst (1 : Int64) 6 dX12_isIn_5 rfl rfl ?_
  refine SF_lcmp 7 dX12_isIn_6 rfl ?_
  refine SF_ifne 14 10 dX12_isIn_7 rfl rfl (fun c1 => ?_) (fun c1 => ?_)
  · have h := ite_f c1 h
    refine SF_iconst (0 : Int32) 15 dX12_isIn_14 rfl rfl ?_
    exact RT_b rfl rfl dX12_isIn_15 h
  · have h := ite_t c1 h
    refine SF_iconst (1 : Int32) 11 dX12_isIn_10 rfl rfl ?_
    refine SF_goto 15 dX12_isIn_11 rfl ?_
    exact RT_b rfl rfl dX12_isIn_15 h

theorem dX12_bitsOf_0 : decode cX12_bitsOf 0 = .ok (.iconst 0, 1) := by decide +kernel
theorem dX12_bitsOf_1 : decode cX12_bitsOf 1 = .ok (.istore_n 2, 1) := by decide +kernel
theorem dX12_bitsOf_2 : decode cX12_bitsOf 2 = .ok (.iconst 0, 1) := by decide +kernel
theorem dX12_bitsOf_3 : decode cX12_bitsOf 3 = .ok (.istore_n 3, 1) := by decide +kernel
theorem dX12_bitsOf_4 : decode cX12_bitsOf 4 = .ok (.iload_n 3, 1) := by decide +kernel
theorem dX12_bitsOf_5 : decode cX12_bitsOf 5 = .ok (.bipush 36, 2) := by decide +kernel
theorem dX12_bitsOf_7 : decode cX12_bitsOf 7 = .ok (.if_icmp .ge 25, 3) := by decide +kernel
theorem dX12_bitsOf_10 : decode cX12_bitsOf 10 = .ok (.iload_n 2, 1) := by decide +kernel
theorem dX12_bitsOf_11 : decode cX12_bitsOf 11 = .ok (.lload_n 0, 1) := by decide +kernel
theorem dX12_bitsOf_12 : decode cX12_bitsOf 12 = .ok (.iload_n 3, 1) := by decide +kernel
theorem dX12_bitsOf_13 : decode cX12_bitsOf 13 = .ok (.invokestatic 452, 3) := by decide +kernel
theorem dX12_bitsOf_16 : decode cX12_bitsOf 16 = .ok (.ifCond .eq 7, 3) := by decide +kernel
theorem dX12_bitsOf_19 : decode cX12_bitsOf 19 = .ok (.iconst 1, 1) := by decide +kernel
theorem dX12_bitsOf_20 : decode cX12_bitsOf 20 = .ok (.goto 4, 3) := by decide +kernel
theorem dX12_bitsOf_23 : decode cX12_bitsOf 23 = .ok (.iconst 0, 1) := by decide +kernel
theorem dX12_bitsOf_24 : decode cX12_bitsOf 24 = .ok (.iadd, 1) := by decide +kernel
theorem dX12_bitsOf_25 : decode cX12_bitsOf 25 = .ok (.istore_n 2, 1) := by decide +kernel
theorem dX12_bitsOf_26 : decode cX12_bitsOf 26 = .ok (.iinc 3 1, 3) := by decide +kernel
theorem dX12_bitsOf_29 : decode cX12_bitsOf 29 = .ok (.goto (-25), 3) := by decide +kernel
theorem dX12_bitsOf_32 : decode cX12_bitsOf 32 = .ok (.iload_n 2, 1) := by decide +kernel
theorem dX12_bitsOf_33 : decode cX12_bitsOf 33 = .ok (.ireturn, 1) := by decide +kernel
set_option maxRecDepth 20000 in
set_option maxHeartbeats 2000000 in
theorem w_X12_bitsOf_24 {X : CX} {d : Nat} (hd : 1 ≤ d) {g' : G} {rx : Int32} (k4 : Int64 → Int32 → Int32 → G → Option (Int32 × G)) (hk4 : ∀ (l0 : Int64) (l2 : Int32) (l3 : Int32) (g : G), k4 l0 l2 l3 g = some (rx, g') → SemF X m_X12_bitsOf d 4 [(0, .long l0), (2, .int l2), (3, .int l3)] [] g (some (.int rx)) g') (l0 : Int64) (l3 : Int32) (s0 : Int32) (s1 : Int32) (g : G) (h : f_X12_bitsOf_24 k4 l0 l3 s0 s1 g = some (rx, g')) : SemF X m_X12_bitsOf d 24 [(0, .long l0), (3, .int l3)] [.int s0, .int s1] g (some (.int rx)) g' := by
  rw [f_X12_bitsOf_24] at h
  refine SF_iadd 25 dX12_bitsOf_24 rfl ?_
  obtain ⟨y1, e2, h⟩ := li_some h
  refine SF_eqI e2 ?_
  refine SF_istore_n [(2, .int y1), (0, .long l0), (3, .int l3)] 26 dX12_bitsOf_25 rfl (by decide) rfl rfl ?_
  refine SF_iinc 2 (l3 + (1 : Int32)) [(3, .int (l3 + (1 : Int32))), (2, .int y1), (0, .long l0)] 29 dX12_bitsOf_26 rfl rfl (by decide) rfl rfl ?_
  refine SF_goto 4 dX12_bitsOf_29 rfl ?_
  refine SF_sub [2, 1, 0] rfl ?_
  exact hk4 l0 y1 (l3 + (1 : Int32)) g  h

set_option maxRecDepth 20000 in
set_option maxHeartbeats 2000000 in
theorem w_X12_bitsOf_4 {X : CX} {d : Nat} (hd : 1 ≤ d) {g' : G} {rx : Int32} : ∀ (n : Nat) (l0 : Int64) (l2 : Int32) (l3 : Int32) (g : G), f_X12_bitsOf_4 n l0 l2 l3 g = some (rx, g') → SemF X m_X12_bitsOf d 4 [(0, .long l0), (2, .int l2), (3, .int l3)] [] g (some (.int rx)) g' := by
  intro n
  induction n with
  | zero =>
    intro l0 l2 l3 g h
    rw [f_X12_bitsOf_4] at h
    cases h
  | succ n ih =>
  intro l0 l2 l3 g h
  rw [f_X12_bitsOf_4] at h
  refine SF_iload_n 2 5 dX12_bitsOf_4 rfl rfl rfl ?_
  refine SF_bipush (36 : Int32) 7 dX12_bitsOf_5 rfl rfl ?_
  refine SF_icge 32 10 dX12_bitsOf_7 rfl rfl (fun c1 => ?_) (fun c1 => ?_)
  · have h := ite_t c1 h
    refine SF_iload_n 1 33 dX12_bitsOf_32 rfl rfl rfl ?_
    exact RT_i rfl dX12_bitsOf_33 h
  · have h := ite_f c1 h
    refine SF_iload_n 1 11 dX12_bitsOf_10 rfl rfl rfl ?_
    refine SF_lload_n 0 12 dX12_bitsOf_11 rfl rfl rfl ?_
    refine SF_iload_n 2 13 dX12_bitsOf_12 rfl rfl rfl ?_
    obtain ⟨v2, g3, q4, h⟩ := bd_some h
    have s5 := w_X12_isIn (X := X) (Nat.le_refl 0) l0 l3 g g3 v2 q4
    refine SF_callSb 16 mi_X12_isIn ml_X12_452 dX12_bitsOf_13 (Nat.le_trans (by decide) hd) s5 rfl rfl (Nat.le_of_ble_eq_true rfl) rfl ?_
    refine SF_ifeq 23 19 dX12_bitsOf_16 rfl rfl (fun c6 => ?_) (fun c6 => ?_)
    · have h := ite_t c6 h
      refine SF_iconst (0 : Int32) 24 dX12_bitsOf_23 rfl rfl ?_
      refine SF_sub [0, 2] rfl ?_
      exact w_X12_bitsOf_24 hd (f_X12_bitsOf_4 n) ih l0 l3 (0 : Int32) l2 g3  h
    · have h := ite_f c6 h
      refine SF_iconst (1 : Int32) 20 dX12_bitsOf_19 rfl rfl ?_
      refine SF_goto 24 dX12_bitsOf_20 rfl ?_
      refine SF_sub [0, 2] rfl ?_
      exact w_X12_bitsOf_24 hd (f_X12_bitsOf_4 n) ih l0 l3 (1 : Int32) l2 g3  h

set_option maxRecDepth 20000 in
set_option maxHeartbeats 2000000 in
theorem w_X12_bitsOf {X : CX} {d : Nat} (hd : 1 ≤ d) (l0 : Int64) (g g' : G) (rx : Int32) (h : f_X12_bitsOf l0 g = some (rx, g')) : Sem X m_X12_bitsOf d [.long l0] g (some (.int rx)) g' := by
  refine Sem_of (lo := [(0, .long l0)]) (by decide +kernel) rfl (Nat.le_of_ble_eq_true rfl) ?_
  rw [f_X12_bitsOf] at h
  refine SF_iconst (0 : Int32) 1 dX12_bitsOf_0 rfl rfl ?_
  refine SF_istore_n [(2, .int (0 : Int32)), (0, .long l0)] 2 dX12_bitsOf_1 rfl (by decide) rfl rfl ?_
  refine SF_iconst (0 : Int32) 3 dX12_bitsOf_2 rfl rfl ?_
  refine SF_istore_n [(3, .int (0 : Int32)), (2, .int (0 : Int32)), (0, .long l0)] 4 dX12_bitsOf_3 rfl (by decide) rfl rfl ?_
  refine SF_sub [2, 1, 0] rfl ?_
  exact w_X12_bitsOf_4 hd FU l0 (0 : Int32) (0 : Int32) g  h

theorem dX12_many_0 : decode cX12_many 0 = .ok (.aload_n 0, 1) := by decide +kernel
theorem dX12_many_1 : decode cX12_many 1 = .ok (.iconst 0, 1) := by decide +kernel
theorem dX12_many_2 : decode cX12_many 2 = .ok (.putfield 1, 3) := by decide +kernel
theorem dX12_many_5 : decode cX12_many 5 = .ok (.aload_n 0, 1) := by decide +kernel
theorem dX12_many_6 : decode cX12_many 6 = .ok (.iload_n 1, 1) := by decide +kernel
theorem dX12_many_7 : decode cX12_many 7 = .ok (.iload_n 2, 1) := by decide +kernel
theorem dX12_many_8 : decode cX12_many 8 = .ok (.invokevirtual 456, 3) := by decide +kernel
theorem dX12_many_11 : decode cX12_many 11 = .ok (.istore_n 3, 1) := by decide +kernel
theorem dX12_many_12 : decode cX12_many 12 = .ok (.iload_n 3, 1) := by decide +kernel
theorem dX12_many_13 : decode cX12_many 13 = .ok (.ifCond .eq 7, 3) := by decide +kernel
theorem dX12_many_16 : decode cX12_many 16 = .ok (.iload_n 3, 1) := by decide +kernel
theorem dX12_many_17 : decode cX12_many 17 = .ok (.goto 12, 3) := by decide +kernel
theorem dX12_many_20 : decode cX12_many 20 = .ok (.aload_n 0, 1) := by decide +kernel
theorem dX12_many_21 : decode cX12_many 21 = .ok (.iload_n 1, 1) := by decide +kernel
theorem dX12_many_22 : decode cX12_many 22 = .ok (.iload_n 2, 1) := by decide +kernel
theorem dX12_many_23 : decode cX12_many 23 = .ok (.invokevirtual 459, 3) := by decide +kernel
theorem dX12_many_26 : decode cX12_many 26 = .ok (.invokestatic 463, 3) := by decide +kernel
theorem dX12_many_29 : decode cX12_many 29 = .ok (.ireturn, 1) := by decide +kernel
set_option maxRecDepth 20000 in
set_option maxHeartbeats 2000000 in
theorem w_X12_many {X : CX} {d : Nat} (hd : 7 ≤ d) (l0 : Nat) (l1 : Int32) (l2 : Int32) (g g' : G) (rx : Int32) (k_l0 : KD g l0 12) (h : f_X12_many l0 l1 l2 g = some (rx, g')) : Sem X m_X12_many d [.ref (ad X l0), .int l1, .int l2] g (some (.int rx)) g' := by
  refine Sem_of (lo := [(0, .ref (ad X l0)), (1, .int l1), (2, .int l2)]) (by decide +kernel) rfl (Nat.le_of_ble_eq_true rfl) ?_
  rw [f_X12_many] at h
  refine SF_aload_n 0 1 dX12_many_0 rfl rfl rfl ?_
  refine SF_iconst (0 : Int32) 2 dX12_many_1 rfl rfl ?_
  refine SF_putI 5 fl_X12_1 dX12_many_2 k_l0.1 (fn_int _) (Or.inl rfl) rfl ?_
  obtain ⟨g1, e2, h⟩ := lg_some h
  rw [← e2]
  have k_l0 := KD.eq e2 k_l0
  refine SF_aload_n 0 6 dX12_many_5 rfl rfl rfl ?_
  refine SF_iload_n 1 7 dX12_many_6 rfl rfl rfl ?_
  refine SF_iload_n 2 8 dX12_many_7 rfl rfl rfl ?_
  obtain ⟨v3, g4, q5, h⟩ := bd_some h
  have s6 := w_X12_noTried (X := X) (Nat.le_refl 2) l0 l1 l2 g1 g4 v3 k_l0 q5
  refine SF_callVi 11 mi_X12_noTried ml_X12_456 dX12_many_8 (Nat.le_trans (by decide) hd) s6 k_l0.1 rfl rfl (Nat.le_of_ble_eq_true rfl) rfl ?_
  have k_l0 := k_l0.ext s6.1
  refine SF_istore_n [(3, .int v3), (0, .ref (ad X l0)), (1, .int l1), (2, .int l2)] 12 dX12_many_11 rfl (by decide) rfl rfl ?_
  refine SF_iload_n 0 13 dX12_many_12 rfl rfl rfl ?_
  refine SF_ifeq 20 16 dX12_many_13 rfl rfl (fun c7 => ?_) (fun c7 => ?_)
  · have h := ite_t c7 h
    refine SF_aload_n 1 21 dX12_many_20 rfl rfl rfl ?_
    refine SF_iload_n 2 22 dX12_many_21 rfl rfl rfl ?_
    refine SF_iload_n 3 23 dX12_many_22 rfl rfl rfl ?_
    obtain ⟨v8, g9, q10, h⟩ := bd_some h
    have s11 := w_X12_triedSet (X := X) (Nat.le_refl 6) l0 l1 l2 g4 g9 v8 k_l0 q10
    refine SF_callVl 26 mi_X12_triedSet ml_X12_459 dX12_many_23 (Nat.le_trans (by decide) hd) s11 k_l0.1 rfl rfl (Nat.le_of_ble_eq_true rfl) rfl ?_
    have k_l0 := k_l0.ext s11.1
    obtain ⟨v12, g13, q14, h⟩ := bd_some h
    have s15 := w_X12_bitsOf (X := X) (Nat.le_refl 1) v8 g9 g13 v12 q14
    refine SF_callSi 29 mi_X12_bitsOf ml_X12_463 dX12_many_26 (Nat.le_trans (by decide) hd) s15 rfl rfl (Nat.le_of_ble_eq_true rfl) rfl ?_
    have k_l0 := k_l0.ext s15.1
    exact RT_i rfl dX12_many_29 h
  · have h := ite_f c7 h
    refine SF_iload_n 0 17 dX12_many_16 rfl rfl rfl ?_
    refine SF_goto 29 dX12_many_17 rfl ?_
    exact RT_i rfl dX12_many_29 h

theorem dX11_attempt_0 : decode cX11_attempt 0 = .ok (.aload_n 0, 1) := by decide +kernel
theorem dX11_attempt_1 : decode cX11_attempt 1 = .ok (.iload_n 1, 1) := by decide +kernel
theorem dX11_attempt_2 : decode cX11_attempt 2 = .ok (.iload_n 2, 1) := by decide +kernel
theorem dX11_attempt_3 : decode cX11_attempt 3 = .ok (.invokevirtual 364, 3) := by decide +kernel
theorem dX11_attempt_6 : decode cX11_attempt 6 = .ok (.istore_n 3, 1) := by decide +kernel
theorem dX11_attempt_7 : decode cX11_attempt 7 = .ok (.iload_n 3, 1) := by decide +kernel
theorem dX11_attempt_8 : decode cX11_attempt 8 = .ok (.ifCond .eq 5, 3) := by decide +kernel
theorem dX11_attempt_11 : decode cX11_attempt 11 = .ok (.iload_n 3, 1) := by decide +kernel
theorem dX11_attempt_12 : decode cX11_attempt 12 = .ok (.ireturn, 1) := by decide +kernel
theorem dX11_attempt_13 : decode cX11_attempt 13 = .ok (.aload_n 0, 1) := by decide +kernel
theorem dX11_attempt_14 : decode cX11_attempt 14 = .ok (.iload_n 1, 1) := by decide +kernel
theorem dX11_attempt_15 : decode cX11_attempt 15 = .ok (.iload_n 2, 1) := by decide +kernel
theorem dX11_attempt_16 : decode cX11_attempt 16 = .ok (.invokevirtual 367, 3) := by decide +kernel
theorem dX11_attempt_19 : decode cX11_attempt 19 = .ok (.lstore 4, 2) := by decide +kernel
theorem dX11_attempt_21 : decode cX11_attempt 21 = .ok (.aload_n 0, 1) := by decide +kernel
theorem dX11_attempt_22 : decode cX11_attempt 22 = .ok (.getfield 78, 3) := by decide +kernel
theorem dX11_attempt_25 : decode cX11_attempt 25 = .ok (.iload_n 2, 1) := by decide +kernel
theorem dX11_attempt_26 : decode cX11_attempt 26 = .ok (.invokevirtual 183, 3) := by decide +kernel
theorem dX11_attempt_29 : decode cX11_attempt 29 = .ok (.istore 6, 2) := by decide +kernel
theorem dX11_attempt_31 : decode cX11_attempt 31 = .ok (.lload 4, 2) := by decide +kernel
theorem dX11_attempt_33 : decode cX11_attempt 33 = .ok (.invokestatic 347, 3) := by decide +kernel
theorem dX11_attempt_36 : decode cX11_attempt 36 = .ok (.istore 7, 2) := by decide +kernel
theorem dX11_attempt_38 : decode cX11_attempt 38 = .ok (.iconst (-1), 1) := by decide +kernel
theorem dX11_attempt_39 : decode cX11_attempt 39 = .ok (.istore 8, 2) := by decide +kernel
theorem dX11_attempt_41 : decode cX11_attempt 41 = .ok (.iconst (-1), 1) := by decide +kernel
theorem dX11_attempt_42 : decode cX11_attempt 42 = .ok (.istore 9, 2) := by decide +kernel
theorem dX11_attempt_44 : decode cX11_attempt 44 = .ok (.iconst 0, 1) := by decide +kernel
theorem dX11_attempt_45 : decode cX11_attempt 45 = .ok (.istore 10, 2) := by decide +kernel
theorem dX11_attempt_47 : decode cX11_attempt 47 = .ok (.iload 10, 2) := by decide +kernel
theorem dX11_attempt_49 : decode cX11_attempt 49 = .ok (.iconst 4, 1) := by decide +kernel
theorem dX11_attempt_50 : decode cX11_attempt 50 = .ok (.if_icmp .ge 124, 3) := by decide +kernel
theorem dX11_attempt_53 : decode cX11_attempt 53 = .ok (.iload 7, 2) := by decide +kernel
theorem dX11_attempt_55 : decode cX11_attempt 55 = .ok (.ifCond .le 119, 3) := by decide +kernel
theorem dX11_attempt_58 : decode cX11_attempt 58 = .ok (.iconst 0, 1) := by decide +kernel
theorem dX11_attempt_59 : decode cX11_attempt 59 = .ok (.istore 11, 2) := by decide +kernel
theorem dX11_attempt_61 : decode cX11_attempt 61 = .ok (.iconst 0, 1) := by decide +kernel
theorem dX11_attempt_62 : decode cX11_attempt 62 = .ok (.istore 12, 2) := by decide +kernel
theorem dX11_attempt_64 : decode cX11_attempt 64 = .ok (.iload 12, 2) := by decide +kernel
theorem dX11_attempt_66 : decode cX11_attempt 66 = .ok (.bipush 36, 2) := by decide +kernel
theorem dX11_attempt_68 : decode cX11_attempt 68 = .ok (.if_icmp .ge 73, 3) := by decide +kernel
theorem dX11_attempt_71 : decode cX11_attempt 71 = .ok (.lload 4, 2) := by decide +kernel
theorem dX11_attempt_73 : decode cX11_attempt 73 = .ok (.iload 12, 2) := by decide +kernel
theorem dX11_attempt_75 : decode cX11_attempt 75 = .ok (.lushr, 1) := by decide +kernel
theorem dX11_attempt_76 : decode cX11_attempt 76 = .ok (.lconst 1, 1) := by decide +kernel
theorem dX11_attempt_77 : decode cX11_attempt 77 = .ok (.land, 1) := by decide +kernel
theorem dX11_attempt_78 : decode cX11_attempt 78 = .ok (.lconst 0, 1) := by decide +kernel
theorem dX11_attempt_79 : decode cX11_attempt 79 = .ok (.lcmp, 1) := by decide +kernel
theorem dX11_attempt_80 : decode cX11_attempt 80 = .ok (.ifCond .eq 55, 3) := by decide +kernel
theorem dX11_attempt_83 : decode cX11_attempt 83 = .ok (.aload_n 0, 1) := by decide +kernel
theorem dX11_attempt_84 : decode cX11_attempt 84 = .ok (.getfield 95, 3) := by decide +kernel
theorem dX11_attempt_87 : decode cX11_attempt 87 = .ok (.aload_n 0, 1) := by decide +kernel
theorem dX11_attempt_88 : decode cX11_attempt 88 = .ok (.getfield 60, 3) := by decide +kernel
theorem dX11_attempt_91 : decode cX11_attempt 91 = .ok (.iload_n 1, 1) := by decide +kernel
theorem dX11_attempt_92 : decode cX11_attempt 92 = .ok (.aaload, 1) := by decide +kernel
theorem dX11_attempt_93 : decode cX11_attempt 93 = .ok (.iload 6, 2) := by decide +kernel
theorem dX11_attempt_95 : decode cX11_attempt 95 = .ok (.bipush 64, 2) := by decide +kernel
theorem dX11_attempt_97 : decode cX11_attempt 97 = .ok (.idiv, 1) := by decide +kernel
theorem dX11_attempt_98 : decode cX11_attempt 98 = .ok (.iload 12, 2) := by decide +kernel
theorem dX11_attempt_100 : decode cX11_attempt 100 = .ok (.invokevirtual 370, 3) := by decide +kernel
theorem dX11_attempt_103 : decode cX11_attempt 103 = .ok (.istore 13, 2) := by decide +kernel
theorem dX11_attempt_105 : decode cX11_attempt 105 = .ok (.iload 11, 2) := by decide +kernel
theorem dX11_attempt_107 : decode cX11_attempt 107 = .ok (.iload 13, 2) := by decide +kernel
theorem dX11_attempt_109 : decode cX11_attempt 109 = .ok (.ifCond .lt 22, 3) := by decide +kernel
theorem dX11_attempt_112 : decode cX11_attempt 112 = .ok (.aload_n 0, 1) := by decide +kernel
theorem dX11_attempt_113 : decode cX11_attempt 113 = .ok (.getfield 95, 3) := by decide +kernel
theorem dX11_attempt_116 : decode cX11_attempt 116 = .ok (.iload 13, 2) := by decide +kernel
theorem dX11_attempt_118 : decode cX11_attempt 118 = .ok (.iconst 0, 1) := by decide +kernel
theorem dX11_attempt_119 : decode cX11_attempt 119 = .ok (.iload 10, 2) := by decide +kernel
theorem dX11_attempt_121 : decode cX11_attempt 121 = .ok (.invokevirtual 374, 3) := by decide +kernel
theorem dX11_attempt_124 : decode cX11_attempt 124 = .ok (.ifCond .lt 7, 3) := by decide +kernel
theorem dX11_attempt_127 : decode cX11_attempt 127 = .ok (.iconst 1, 1) := by decide +kernel
theorem dX11_attempt_128 : decode cX11_attempt 128 = .ok (.goto 4, 3) := by decide +kernel
theorem dX11_attempt_131 : decode cX11_attempt 131 = .ok (.iconst 0, 1) := by decide +kernel
theorem dX11_attempt_132 : decode cX11_attempt 132 = .ok (.iadd, 1) := by decide +kernel
theorem dX11_attempt_133 : decode cX11_attempt 133 = .ok (.istore 11, 2) := by decide +kernel
theorem dX11_attempt_135 : decode cX11_attempt 135 = .ok (.iinc 12 1, 3) := by decide +kernel
theorem dX11_attempt_138 : decode cX11_attempt 138 = .ok (.goto (-74), 3) := by decide +kernel
theorem dX11_attempt_141 : decode cX11_attempt 141 = .ok (.iload 11, 2) := by decide +kernel
theorem dX11_attempt_143 : decode cX11_attempt 143 = .ok (.iload 7, 2) := by decide +kernel
theorem dX11_attempt_145 : decode cX11_attempt 145 = .ok (.iload 11, 2) := by decide +kernel
theorem dX11_attempt_147 : decode cX11_attempt 147 = .ok (.isub, 1) := by decide +kernel
theorem dX11_attempt_148 : decode cX11_attempt 148 = .ok (.invokestatic 377, 3) := by decide +kernel
theorem dX11_attempt_151 : decode cX11_attempt 151 = .ok (.istore 12, 2) := by decide +kernel
theorem dX11_attempt_153 : decode cX11_attempt 153 = .ok (.iload 12, 2) := by decide +kernel
theorem dX11_attempt_155 : decode cX11_attempt 155 = .ok (.iload 9, 2) := by decide +kernel
theorem dX11_attempt_157 : decode cX11_attempt 157 = .ok (.if_icmp .le 11, 3) := by decide +kernel
theorem dX11_attempt_160 : decode cX11_attempt 160 = .ok (.iload 12, 2) := by decide +kernel
theorem dX11_attempt_162 : decode cX11_attempt 162 = .ok (.istore 9, 2) := by decide +kernel
theorem dX11_attempt_164 : decode cX11_attempt 164 = .ok (.iload 10, 2) := by decide +kernel
theorem dX11_attempt_166 : decode cX11_attempt 166 = .ok (.istore 8, 2) := by decide +kernel
theorem dX11_attempt_168 : decode cX11_attempt 168 = .ok (.iinc 10 1, 3) := by decide +kernel
theorem dX11_attempt_171 : decode cX11_attempt 171 = .ok (.goto (-124), 3) := by decide +kernel
theorem dX11_attempt_174 : decode cX11_attempt 174 = .ok (.iload 8, 2) := by decide +kernel
theorem dX11_attempt_176 : decode cX11_attempt 176 = .ok (.ireturn, 1) := by decide +kernel
set_option maxRecDepth 20000 in
set_option maxHeartbeats 2000000 in
theorem w_X11_attempt_135 {X : CX} {d : Nat} (hd : 7 ≤ d) {g' : G} {rx : Int32} (k47 : Nat → Int32 → Int64 → Int32 → Int32 → Int32 → Int32 → Int32 → G → Option (Int32 × G)) (hk47 : ∀ (l0 : Nat) (l1 : Int32) (l4 : Int64) (l6 : Int32) (l7 : Int32) (l8 : Int32) (l9 : Int32) (l10 : Int32) (g : G), KD g l0 11 → k47 l0 l1 l4 l6 l7 l8 l9 l10 g = some (rx, g') → SemF X m_X11_attempt d 47 [(0, .ref (ad X l0)), (1, .int l1), (4, .long l4), (6, .int l6), (7, .int l7), (8, .int l8), (9, .int l9), (10, .int l10)] [] g (some (.int rx)) g') (k64 : Nat → Int32 → Int64 → Int32 → Int32 → Int32 → Int32 → Int32 → Int32 → Int32 → G → Option (Int32 × G)) (hk64 : ∀ (l0 : Nat) (l1 : Int32) (l4 : Int64) (l6 : Int32) (l7 : Int32) (l8 : Int32) (l9 : Int32) (l10 : Int32) (l11 : Int32) (l12 : Int32) (g : G), KD g l0 11 → k64 l0 l1 l4 l6 l7 l8 l9 l10 l11 l12 g = some (rx, g') → SemF X m_X11_attempt d 64 [(0, .ref (ad X l0)), (1, .int l1), (4, .long l4), (6, .int l6), (7, .int l7), (8, .int l8), (9, .int l9), (10, .int l10), (11, .int l11), (12, .int l12)] [] g (some (.int rx)) g') (l0 : Nat) (l1 : Int32) (l4 : Int64) (l6 : Int32) (l7 : Int32) (l8 : Int32) (l9 : Int32) (l10 : Int32) (l11 : Int32) (l12 : Int32) (g : G) (k_l0 : KD g l0 11) (h : f_X11_attempt_135 k47 k64 l0 l1 l4 l6 l7 l8 l9 l10 l11 l12 g = some (rx, g')) : SemF X m_X11_attempt d 135 [(0, .ref (ad X l0)), (1, .int l1), (4, .long l4), (6, .int l6), (7, .int l7), (8, .int l8), (9, .int l9), (10, .int l10), (11, .int l11), (12, .int l12)] [] g (some (.int rx)) g' := by
  rw [f_X11_attempt_135] at h
  refine SF_iinc 9 (l12 + (1 : Int32)) [(12, .int (l12 + (1 : Int32))), (0, .ref (ad X l0)), (1, .int l1), (4, .long l4), (6, .int l6), (7, .int l7), (8, .int l8), (9, .int l9), (10, .int l10), (11, .int l11)] 138 dX11_attempt_135 rfl rfl (by decide) rfl rfl ?_
  refine SF_goto 64 dX11_attempt_138 rfl ?_
  refine SF_sub [1, 2, 3, 4, 5, 6, 7, 8, 9, 0] rfl ?_
  exact hk64 l0 l1 l4 l6 l7 l8 l9 l10 l11 (l12 + (1 : Int32)) g k_l0 h

set_option maxRecDepth 20000 in
set_option maxHeartbeats 2000000 in
theorem w_X11_attempt_132 {X : CX} {d : Nat} (hd : 7 ≤ d) {g' : G} {rx : Int32} (k47 : Nat → Int32 → Int64 → Int32 → Int32 → Int32 → Int32 → Int32 → G → Option (Int32 × G)) (hk47 : ∀ (l0 : Nat) (l1 : Int32) (l4 : Int64) (l6 : Int32) (l7 : Int32) (l8 : Int32) (l9 : Int32) (l10 : Int32) (g : G), KD g l0 11 → k47 l0 l1 l4 l6 l7 l8 l9 l10 g = some (rx, g') → SemF X m_X11_attempt d 47 [(0, .ref (ad X l0)), (1, .int l1), (4, .long l4), (6, .int l6), (7, .int l7), (8, .int l8), (9, .int l9), (10, .int l10)] [] g (some (.int rx)) g') (k64 : Nat → Int32 → Int64 → Int32 → Int32 → Int32 → Int32 → Int32 → Int32 → Int32 → G → Option (Int32 × G)) (hk64 : ∀ (l0 : Nat) (l1 : Int32) (l4 : Int64) (l6 : Int32) (l7 : Int32) (l8 : Int32) (l9 : Int32) (l10 : Int32) (l11 : Int32) (l12 : Int32) (g : G), KD g l0 11 → k64 l0 l1 l4 l6 l7 l8 l9 l10 l11 l12 g = some (rx, g') → SemF X m_X11_attempt d 64 [(0, .ref (ad X l0)), (1, .int l1), (4, .long l4), (6, .int l6), (7, .int l7), (8, .int l8), (9, .int l9), (10, .int l10), (11, .int l11), (12, .int l12)] [] g (some (.int rx)) g') (l0 : Nat) (l1 : Int32) (l4 : Int64) (l6 : Int32) (l7 : Int32) (l8 : Int32) (l9 : Int32) (l10 : Int32) (l12 : Int32) (s0 : Int32) (s1 : Int32) (g : G) (k_l0 : KD g l0 11) (h : f_X11_attempt_132 k47 k64 l0 l1 l4 l6 l7 l8 l9 l10 l12 s0 s1 g = some (rx, g')) : SemF X m_X11_attempt d 132 [(0, .ref (ad X l0)), (1, .int l1), (4, .long l4), (6, .int l6), (7, .int l7), (8, .int l8), (9, .int l9), (10, .int l10), (12, .int l12)] [.int s0, .int s1] g (some (.int rx)) g' := by
  rw [f_X11_attempt_132] at h
  refine SF_iadd 133 dX11_attempt_132 rfl ?_
  obtain ⟨y1, e2, h⟩ := li_some h
  refine SF_eqI e2 ?_
  refine SF_istore [(11, .int y1), (0, .ref (ad X l0)), (1, .int l1), (4, .long l4), (6, .int l6), (7, .int l7), (8, .int l8), (9, .int l9), (10, .int l10), (12, .int l12)] 135 dX11_attempt_133 (by decide) rfl rfl ?_
  refine SF_sub [1, 2, 3, 4, 5, 6, 7, 8, 0, 9] rfl ?_
  exact w_X11_attempt_135 hd k47 hk47 k64 hk64 l0 l1 l4 l6 l7 l8 l9 l10 y1 l12 g k_l0 h

set_option maxRecDepth 20000 in
set_option maxHeartbeats 2000000 in
theorem w_X11_attempt_131 {X : CX} {d : Nat} (hd : 7 ≤ d) {g' : G} {rx : Int32} (k47 : Nat → Int32 → Int64 → Int32 → Int32 → Int32 → Int32 → Int32 → G → Option (Int32 × G)) (hk47 : ∀ (l0 : Nat) (l1 : Int32) (l4 : Int64) (l6 : Int32) (l7 : Int32) (l8 : Int32) (l9 : Int32) (l10 : Int32) (g : G), KD g l0 11 → k47 l0 l1 l4 l6 l7 l8 l9 l10 g = some (rx, g') → SemF X m_X11_attempt d 47 [(0, .ref (ad X l0)), (1, .int l1), (4, .long l4), (6, .int l6), (7, .int l7), (8, .int l8), (9, .int l9), (10, .int l10)] [] g (some (.int rx)) g') (k64 : Nat → Int32 → Int64 → Int32 → Int32 → Int32 → Int32 → Int32 → Int32 → Int32 → G → Option (Int32 × G)) (hk64 : ∀ (l0 : Nat) (l1 : Int32) (l4 : Int64) (l6 : Int32) (l7 : Int32) (l8 : Int32) (l9 : Int32) (l10 : Int32) (l11 : Int32) (l12 : Int32) (g : G), KD g l0 11 → k64 l0 l1 l4 l6 l7 l8 l9 l10 l11 l12 g = some (rx, g') → SemF X m_X11_attempt d 64 [(0, .ref (ad X l0)), (1, .int l1), (4, .long l4), (6, .int l6), (7, .int l7), (8, .int l8), (9, .int l9), (10, .int l10), (11, .int l11), (12, .int l12)] [] g (some (.int rx)) g') (l0 : Nat) (l1 : Int32) (l4 : Int64) (l6 : Int32) (l7 : Int32) (l8 : Int32) (l9 : Int32) (l10 : Int32) (l12 : Int32) (s0 : Int32) (g : G) (k_l0 : KD g l0 11) (h : f_X11_attempt_131 k47 k64 l0 l1 l4 l6 l7 l8 l9 l10 l12 s0 g = some (rx, g')) : SemF X m_X11_attempt d 131 [(0, .ref (ad X l0)), (1, .int l1), (4, .long l4), (6, .int l6), (7, .int l7), (8, .int l8), (9, .int l9), (10, .int l10), (12, .int l12)] [.int s0] g (some (.int rx)) g' := by
  rw [f_X11_attempt_131] at h
  refine SF_iconst (0 : Int32) 132 dX11_attempt_131 rfl rfl ?_
  exact w_X11_attempt_132 hd k47 hk47 k64 hk64 l0 l1 l4 l6 l7 l8 l9 l10 l12 (0 : Int32) s0 g k_l0 h

set_option maxRecDepth 20000 in
set_option maxHeartbeats 2000000 in
theorem w_X11_attempt_168 {X : CX} {d : Nat} (hd : 7 ≤ d) {g' : G} {rx : Int32} (k47 : Nat → Int32 → Int64 → Int32 → Int32 → Int32 → Int32 → Int32 → G → Option (Int32 × G)) (hk47 : ∀ (l0 : Nat) (l1 : Int32) (l4 : Int64) (l6 : Int32) (l7 : Int32) (l8 : Int32) (l9 : Int32) (l10 : Int32) (g : G), KD g l0 11 → k47 l0 l1 l4 l6 l7 l8 l9 l10 g = some (rx, g') → SemF X m_X11_attempt d 47 [(0, .ref (ad X l0)), (1, .int l1), (4, .long l4), (6, .int l6), (7, .int l7), (8, .int l8), (9, .int l9), (10, .int l10)] [] g (some (.int rx)) g') (l0 : Nat) (l1 : Int32) (l4 : Int64) (l6 : Int32) (l7 : Int32) (l8 : Int32) (l9 : Int32) (l10 : Int32) (g : G) (k_l0 : KD g l0 11) (h : f_X11_attempt_168 k47 l0 l1 l4 l6 l7 l8 l9 l10 g = some (rx, g')) : SemF X m_X11_attempt d 168 [(0, .ref (ad X l0)), (1, .int l1), (4, .long l4), (6, .int l6), (7, .int l7), (8, .int l8), (9, .int l9), (10, .int l10)] [] g (some (.int rx)) g' := by
  rw [f_X11_attempt_168] at h
  refine SF_iinc 7 (l10 + (1 : Int32)) [(10, .int (l10 + (1 : Int32))), (0, .ref (ad X l0)), (1, .int l1), (4, .long l4), (6, .int l6), (7, .int l7), (8, .int l8), (9, .int l9)] 171 dX11_attempt_168 rfl rfl (by decide) rfl rfl ?_
  refine SF_goto 47 dX11_attempt_171 rfl ?_
  refine SF_sub [1, 2, 3, 4, 5, 6, 7, 0] rfl ?_
  exact hk47 l0 l1 l4 l6 l7 l8 l9 (l10 + (1 : Int32)) g k_l0 h

set_option maxRecDepth 20000 in
set_option maxHeartbeats 2000000 in
theorem w_X11_attempt_64 {X : CX} {d : Nat} (hd : 7 ≤ d) {g' : G} {rx : Int32} (k47 : Nat → Int32 → Int64 → Int32 → Int32 → Int32 → Int32 → Int32 → G → Option (Int32 × G)) (hk47 : ∀ (l0 : Nat) (l1 : Int32) (l4 : Int64) (l6 : Int32) (l7 : Int32) (l8 : Int32) (l9 : Int32) (l10 : Int32) (g : G), KD g l0 11 → k47 l0 l1 l4 l6 l7 l8 l9 l10 g = some (rx, g') → SemF X m_X11_attempt d 47 [(0, .ref (ad X l0)), (1, .int l1), (4, .long l4), (6, .int l6), (7, .int l7), (8, .int l8), (9, .int l9), (10, .int l10)] [] g (some (.int rx)) g') : ∀ (n : Nat) (l0 : Nat) (l1 : Int32) (l4 : Int64) (l6 : Int32) (l7 : Int32) (l8 : Int32) (l9 : Int32) (l10 : Int32) (l11 : Int32) (l12 : Int32) (g : G), KD g l0 11 → f_X11_attempt_64 k47 n l0 l1 l4 l6 l7 l8 l9 l10 l11 l12 g = some (rx, g') → SemF X m_X11_attempt d 64 [(0, .ref (ad X l0)), (1, .int l1), (4, .long l4), (6, .int l6), (7, .int l7), (8, .int l8), (9, .int l9), (10, .int l10), (11, .int l11), (12, .int l12)] [] g (some (.int rx)) g' := by
  intro n
  induction n with
  | zero =>
    intro l0 l1 l4 l6 l7 l8 l9 l10 l11 l12 g k_l0 h
    rw [f_X11_attempt_64] at h
    cases h
  | succ n ih =>
  intro l0 l1 l4 l6 l7 l8 l9 l10 l11 l12 g k_l0 h
  rw [f_X11_attempt_64] at h
  refine SF_iload 9 66 dX11_attempt_64 rfl rfl ?_
  refine SF_bipush (36 : Int32) 68 dX11_attempt_66 rfl rfl ?_
  refine SF_icge 141 71 dX11_attempt_68 rfl rfl (fun c1 => ?_) (fun c1 => ?_)
  · have h := ite_t c1 h
    refine SF_iload 8 143 dX11_attempt_141 rfl rfl ?_
    refine SF_iload 4 145 dX11_attempt_143 rfl rfl ?_
    refine SF_iload 8 147 dX11_attempt_145 rfl rfl ?_
    refine SF_isub 148 dX11_attempt_147 rfl ?_
    obtain ⟨v2, g3, q4, h⟩ := bd_some h
    have s5 := w_J9_min_7cf53 (X := X) (Nat.le_refl 0) l11 (l7 - l11) g g3 v2 q4
    refine SF_callSi 151 mi_J9_min_7cf53 ml_X11_377 dX11_attempt_148 (Nat.le_trans (by decide) hd) s5 rfl rfl (Nat.le_of_ble_eq_true rfl) rfl ?_
    have k_l0 := k_l0.ext s5.1
    refine SF_istore [(12, .int v2), (0, .ref (ad X l0)), (1, .int l1), (4, .long l4), (6, .int l6), (7, .int l7), (8, .int l8), (9, .int l9), (10, .int l10), (11, .int l11)] 153 dX11_attempt_151 (by decide) rfl rfl ?_
    refine SF_iload 0 155 dX11_attempt_153 rfl rfl ?_
    refine SF_iload 7 157 dX11_attempt_155 rfl rfl ?_
    refine SF_icle 168 160 dX11_attempt_157 rfl rfl (fun c6 => ?_) (fun c6 => ?_)
    · have h := ite_t c6 h
      refine SF_sub [1, 2, 3, 4, 5, 6, 7, 8] rfl ?_
      exact w_X11_attempt_168 hd k47 hk47 l0 l1 l4 l6 l7 l8 l9 l10 g3 k_l0 h
    · have h := ite_f c6 h
      refine SF_iload 0 162 dX11_attempt_160 rfl rfl ?_
      refine SF_istore [(9, .int v2), (12, .int v2), (0, .ref (ad X l0)), (1, .int l1), (4, .long l4), (6, .int l6), (7, .int l7), (8, .int l8), (10, .int l10), (11, .int l11)] 164 dX11_attempt_162 (by decide) rfl rfl ?_
      refine SF_iload 8 166 dX11_attempt_164 rfl rfl ?_
      refine SF_istore [(8, .int l10), (9, .int v2), (12, .int v2), (0, .ref (ad X l0)), (1, .int l1), (4, .long l4), (6, .int l6), (7, .int l7), (10, .int l10), (11, .int l11)] 168 dX11_attempt_166 (by decide) rfl rfl ?_
      refine SF_sub [3, 4, 5, 6, 7, 0, 1, 8] rfl ?_
      exact w_X11_attempt_168 hd k47 hk47 l0 l1 l4 l6 l7 l10 v2 l10 g3 k_l0 h
  · have h := ite_f c1 h
    refine SF_lload 2 73 dX11_attempt_71 rfl rfl ?_
    refine SF_iload 9 75 dX11_attempt_73 rfl rfl ?_
    refine SF_lushr 76 dX11_attempt_75 rfl ?_
    refine SF_lconst (1 : Int64) 77 dX11_attempt_76 rfl rfl ?_
    refine SF_land 78 dX11_attempt_77 rfl ?_
    refine SF_lconst (0 : Int64) 79 dX11_attempt_78 rfl rfl ?_
    refine SF_lcmp 80 dX11_attempt_79 rfl ?_
    refine SF_ifeq 135 83 dX11_attempt_80 rfl rfl (fun c7 => ?_) (fun c7 => ?_)
    · have h := ite_t c7 h
      exact w_X11_attempt_135 hd k47 hk47 (f_X11_attempt_64 k47 n) ih l0 l1 l4 l6 l7 l8 l9 l10 l11 l12 g k_l0 h
    · have h := ite_f c7 h
      refine SF_aload_n 0 84 dX11_attempt_83 rfl rfl rfl ?_
      obtain ⟨b8, r9, h⟩ := dr_some h
      refine SF_getR 87 fl_X11_95 dX11_attempt_84 k_l0.1 r9 rfl ?_
      refine SF_aload_n 0 88 dX11_attempt_87 rfl rfl rfl ?_
      obtain ⟨b10, r11, h⟩ := dr_some h
      refine SF_getR 91 fl_X11_60 dX11_attempt_88 k_l0.1 r11 rfl ?_
      refine SF_iload_n 1 92 dX11_attempt_91 rfl rfl rfl ?_
      obtain ⟨k12, h⟩ := gdK_some h
      obtain ⟨i13, h⟩ := gdI_some h
      obtain ⟨b14, r15, h⟩ := dr_some h
      refine SF_aald 93 dX11_attempt_92 k12.1 (Or.inr (Or.inl rfl)) i13 r15 rfl ?_
      refine SF_iload 3 95 dX11_attempt_93 rfl rfl ?_
      refine SF_bipush (64 : Int32) 97 dX11_attempt_95 rfl rfl ?_
      refine SF_idiv 98 dX11_attempt_97 (by decide) rfl ?_
      refine SF_iload 9 100 dX11_attempt_98 rfl rfl ?_
      obtain ⟨k16, h⟩ := gdK_some h
      obtain ⟨k17, h⟩ := gdK_some h
      obtain ⟨v18, g19, q20, h⟩ := bd_some h
      have s21 := w_X9_behind (X := X) (Nat.le_refl 5) b8 b14 (l6 / (64 : Int32)) l12 g g19 v18 k16 k17 q20
      refine SF_callVi 103 mi_X9_behind ml_X11_370 dX11_attempt_100 (Nat.le_trans (by decide) hd) s21 k16.1 rfl rfl (Nat.le_of_ble_eq_true rfl) rfl ?_
      have k_l0 := k_l0.ext s21.1
      have k12 := k12.ext s21.1
      have k16 := k16.ext s21.1
      have k17 := k17.ext s21.1
      refine SF_istore [(13, .int v18), (0, .ref (ad X l0)), (1, .int l1), (4, .long l4), (6, .int l6), (7, .int l7), (8, .int l8), (9, .int l9), (10, .int l10), (11, .int l11), (12, .int l12)] 105 dX11_attempt_103 (by decide) rfl rfl ?_
      refine SF_iload 9 107 dX11_attempt_105 rfl rfl ?_
      refine SF_iload 0 109 dX11_attempt_107 rfl rfl ?_
      refine SF_iflt 131 112 dX11_attempt_109 rfl rfl (fun c22 => ?_) (fun c22 => ?_)
      · have h := ite_t c22 h
        refine SF_sub [1, 2, 3, 4, 5, 6, 7, 8, 10] rfl ?_
        exact w_X11_attempt_131 hd k47 hk47 (f_X11_attempt_64 k47 n) ih l0 l1 l4 l6 l7 l8 l9 l10 l12 l11 g19 k_l0 h
      · have h := ite_f c22 h
        refine SF_aload_n 1 113 dX11_attempt_112 rfl rfl rfl ?_
        obtain ⟨b23, r24, h⟩ := dr_some h
        refine SF_getR 116 fl_X11_95 dX11_attempt_113 k_l0.1 r24 rfl ?_
        refine SF_iload 0 118 dX11_attempt_116 rfl rfl ?_
        refine SF_iconst (0 : Int32) 119 dX11_attempt_118 rfl rfl ?_
        refine SF_iload 8 121 dX11_attempt_119 rfl rfl ?_
        obtain ⟨k25, h⟩ := gdK_some h
        obtain ⟨v26, g27, q28, h⟩ := bd_some h
        have s29 := w_X9_step (X := X) (Nat.le_refl 4) b23 v18 (0 : Int32) l10 g19 g27 v26 k25 q28
        refine SF_callVi 124 mi_X9_step ml_X11_374 dX11_attempt_121 (Nat.le_trans (by decide) hd) s29 k25.1 rfl rfl (Nat.le_of_ble_eq_true rfl) rfl ?_
        have k_l0 := k_l0.ext s29.1
        have k12 := k12.ext s29.1
        have k16 := k16.ext s29.1
        have k17 := k17.ext s29.1
        have k25 := k25.ext s29.1
        refine SF_iflt 131 127 dX11_attempt_124 rfl rfl (fun c30 => ?_) (fun c30 => ?_)
        · have h := ite_t c30 h
          refine SF_sub [1, 2, 3, 4, 5, 6, 7, 8, 10] rfl ?_
          exact w_X11_attempt_131 hd k47 hk47 (f_X11_attempt_64 k47 n) ih l0 l1 l4 l6 l7 l8 l9 l10 l12 l11 g27 k_l0 h
        · have h := ite_f c30 h
          refine SF_iconst (1 : Int32) 128 dX11_attempt_127 rfl rfl ?_
          refine SF_goto 132 dX11_attempt_128 rfl ?_
          refine SF_sub [1, 2, 3, 4, 5, 6, 7, 8, 10] rfl ?_
          exact w_X11_attempt_132 hd k47 hk47 (f_X11_attempt_64 k47 n) ih l0 l1 l4 l6 l7 l8 l9 l10 l12 (1 : Int32) l11 g27 k_l0 h

set_option maxRecDepth 20000 in
set_option maxHeartbeats 2000000 in
theorem w_X11_attempt_47 {X : CX} {d : Nat} (hd : 7 ≤ d) {g' : G} {rx : Int32} : ∀ (n : Nat) (l0 : Nat) (l1 : Int32) (l4 : Int64) (l6 : Int32) (l7 : Int32) (l8 : Int32) (l9 : Int32) (l10 : Int32) (g : G), KD g l0 11 → f_X11_attempt_47 n l0 l1 l4 l6 l7 l8 l9 l10 g = some (rx, g') → SemF X m_X11_attempt d 47 [(0, .ref (ad X l0)), (1, .int l1), (4, .long l4), (6, .int l6), (7, .int l7), (8, .int l8), (9, .int l9), (10, .int l10)] [] g (some (.int rx)) g' := by
  intro n
  induction n with
  | zero =>
    intro l0 l1 l4 l6 l7 l8 l9 l10 g k_l0 h
    rw [f_X11_attempt_47] at h
    cases h
  | succ n ih =>
  intro l0 l1 l4 l6 l7 l8 l9 l10 g k_l0 h
  rw [f_X11_attempt_47] at h
  refine SF_iload 7 49 dX11_attempt_47 rfl rfl ?_
  refine SF_iconst (4 : Int32) 50 dX11_attempt_49 rfl rfl ?_
  refine SF_icge 174 53 dX11_attempt_50 rfl rfl (fun c1 => ?_) (fun c1 => ?_)
  · have h := ite_t c1 h
    refine SF_iload 5 176 dX11_attempt_174 rfl rfl ?_
    exact RT_i rfl dX11_attempt_176 h
  · have h := ite_f c1 h
    refine SF_iload 4 55 dX11_attempt_53 rfl rfl ?_
    refine SF_ifle 174 58 dX11_attempt_55 rfl rfl (fun c2 => ?_) (fun c2 => ?_)
    · have h := ite_t c2 h
      refine SF_iload 5 176 dX11_attempt_174 rfl rfl ?_
      exact RT_i rfl dX11_attempt_176 h
    · have h := ite_f c2 h
      refine SF_iconst (0 : Int32) 59 dX11_attempt_58 rfl rfl ?_
      refine SF_istore [(11, .int (0 : Int32)), (0, .ref (ad X l0)), (1, .int l1), (4, .long l4), (6, .int l6), (7, .int l7), (8, .int l8), (9, .int l9), (10, .int l10)] 61 dX11_attempt_59 (by decide) rfl rfl ?_
      refine SF_iconst (0 : Int32) 62 dX11_attempt_61 rfl rfl ?_
      refine SF_istore [(12, .int (0 : Int32)), (11, .int (0 : Int32)), (0, .ref (ad X l0)), (1, .int l1), (4, .long l4), (6, .int l6), (7, .int l7), (8, .int l8), (9, .int l9), (10, .int l10)] 64 dX11_attempt_62 (by decide) rfl rfl ?_
      refine SF_sub [2, 3, 4, 5, 6, 7, 8, 9, 1, 0] rfl ?_
      exact w_X11_attempt_64 hd (f_X11_attempt_47 n) ih FU l0 l1 l4 l6 l7 l8 l9 l10 (0 : Int32) (0 : Int32) g k_l0 h

set_option maxRecDepth 20000 in
set_option maxHeartbeats 2000000 in
theorem w_X11_attempt {X : CX} {d : Nat} (hd : 7 ≤ d) (l0 : Nat) (l1 : Int32) (l2 : Int32) (g g' : G) (rx : Int32) (k_l0 : KD g l0 11) (h : f_X11_attempt l0 l1 l2 g = some (rx, g')) : Sem X m_X11_attempt d [.ref (ad X l0), .int l1, .int l2] g (some (.int rx)) g' := by
  refine Sem_of (lo := [(0, .ref (ad X l0)), (1, .int l1), (2, .int l2)]) (by decide +kernel) rfl (Nat.le_of_ble_eq_true rfl) ?_
  rw [f_X11_attempt] at h
  refine SF_aload_n 0 1 dX11_attempt_0 rfl rfl rfl ?_
  refine SF_iload_n 1 2 dX11_attempt_1 rfl rfl rfl ?_
  refine SF_iload_n 2 3 dX11_attempt_2 rfl rfl rfl ?_
  obtain ⟨v1, g2, q3, h⟩ := bd_some h
  have s4 := w_X11_triesRefused (X := X) (Nat.le_refl 1) l0 l1 l2 g g2 v1 k_l0 q3
  refine SF_callVi 6 mi_X11_triesRefused ml_X11_364 dX11_attempt_3 (Nat.le_trans (by decide) hd) s4 k_l0.1 rfl rfl (Nat.le_of_ble_eq_true rfl) rfl ?_
  have k_l0 := k_l0.ext s4.1
  refine SF_istore_n [(3, .int v1), (0, .ref (ad X l0)), (1, .int l1), (2, .int l2)] 7 dX11_attempt_6 rfl (by decide) rfl rfl ?_
  refine SF_iload_n 0 8 dX11_attempt_7 rfl rfl rfl ?_
  refine SF_ifeq 13 11 dX11_attempt_8 rfl rfl (fun c5 => ?_) (fun c5 => ?_)
  · have h := ite_t c5 h
    refine SF_aload_n 1 14 dX11_attempt_13 rfl rfl rfl ?_
    refine SF_iload_n 2 15 dX11_attempt_14 rfl rfl rfl ?_
    refine SF_iload_n 3 16 dX11_attempt_15 rfl rfl rfl ?_
    obtain ⟨v6, g7, q8, h⟩ := bd_some h
    have s9 := w_X11_cellsTried (X := X) (Nat.le_refl 6) l0 l1 l2 g2 g7 v6 k_l0 q8
    refine SF_callVl 19 mi_X11_cellsTried ml_X11_367 dX11_attempt_16 (Nat.le_trans (by decide) hd) s9 k_l0.1 rfl rfl (Nat.le_of_ble_eq_true rfl) rfl ?_
    have k_l0 := k_l0.ext s9.1
    refine SF_lstore [(4, .long v6), (3, .int v1), (0, .ref (ad X l0)), (1, .int l1), (2, .int l2)] 21 dX11_attempt_19 (by decide) rfl rfl ?_
    refine SF_aload_n 2 22 dX11_attempt_21 rfl rfl rfl ?_
    obtain ⟨b10, r11, h⟩ := dr_some h
    refine SF_getR 25 fl_X11_78 dX11_attempt_22 k_l0.1 r11 rfl ?_
    refine SF_iload_n 4 26 dX11_attempt_25 rfl rfl rfl ?_
    obtain ⟨k12, h⟩ := gdK_some h
    obtain ⟨v13, g14, q15, h⟩ := bd_some h
    have s16 := w_X0_standOf (X := X) (Nat.le_refl 1) b10 l2 g7 g14 v13 k12 q15
    refine SF_callVi 29 mi_X0_standOf ml_X11_183 dX11_attempt_26 (Nat.le_trans (by decide) hd) s16 k12.1 rfl rfl (Nat.le_of_ble_eq_true rfl) rfl ?_
    have k_l0 := k_l0.ext s16.1
    have k12 := k12.ext s16.1
    refine SF_istore [(6, .int v13), (4, .long v6), (3, .int v1), (0, .ref (ad X l0)), (1, .int l1), (2, .int l2)] 31 dX11_attempt_29 (by decide) rfl rfl ?_
    refine SF_lload 1 33 dX11_attempt_31 rfl rfl ?_
    obtain ⟨v17, g18, q19, h⟩ := bd_some h
    have s20 := w_J13_bitCount_95d88 (X := X) (Nat.le_refl 0) v6 g14 g18 v17 q19
    refine SF_callSi 36 mi_J13_bitCount_95d88 ml_X11_347 dX11_attempt_33 (Nat.le_trans (by decide) hd) s20 rfl rfl (Nat.le_of_ble_eq_true rfl) rfl ?_
    have k_l0 := k_l0.ext s20.1
    have k12 := k12.ext s20.1
    refine SF_istore [(7, .int v17), (6, .int v13), (4, .long v6), (3, .int v1), (0, .ref (ad X l0)), (1, .int l1), (2, .int l2)] 38 dX11_attempt_36 (by decide) rfl rfl ?_
    refine SF_iconst (-1 : Int32) 39 dX11_attempt_38 rfl rfl ?_
    refine SF_istore [(8, .int (-1 : Int32)), (7, .int v17), (6, .int v13), (4, .long v6), (3, .int v1), (0, .ref (ad X l0)), (1, .int l1), (2, .int l2)] 41 dX11_attempt_39 (by decide) rfl rfl ?_
    refine SF_iconst (-1 : Int32) 42 dX11_attempt_41 rfl rfl ?_
    refine SF_istore [(9, .int (-1 : Int32)), (8, .int (-1 : Int32)), (7, .int v17), (6, .int v13), (4, .long v6), (3, .int v1), (0, .ref (ad X l0)), (1, .int l1), (2, .int l2)] 44 dX11_attempt_42 (by decide) rfl rfl ?_
    refine SF_iconst (0 : Int32) 45 dX11_attempt_44 rfl rfl ?_
    refine SF_istore [(10, .int (0 : Int32)), (9, .int (-1 : Int32)), (8, .int (-1 : Int32)), (7, .int v17), (6, .int v13), (4, .long v6), (3, .int v1), (0, .ref (ad X l0)), (1, .int l1), (2, .int l2)] 47 dX11_attempt_45 (by decide) rfl rfl ?_
    refine SF_sub [7, 8, 5, 4, 3, 2, 1, 0] rfl ?_
    exact w_X11_attempt_47 hd FU l0 l1 v6 v13 v17 (-1 : Int32) (-1 : Int32) (0 : Int32) g18 k_l0 h
  · have h := ite_f c5 h
    refine SF_iload_n 0 12 dX11_attempt_11 rfl rfl rfl ?_
    exact RT_i rfl dX11_attempt_12 h

theorem dX12_attempt_0 : decode cX12_attempt 0 = .ok (.aload_n 0, 1) := by decide +kernel
theorem dX12_attempt_1 : decode cX12_attempt 1 = .ok (.iconst 0, 1) := by decide +kernel
theorem dX12_attempt_2 : decode cX12_attempt 2 = .ok (.putfield 1, 3) := by decide +kernel
theorem dX12_attempt_5 : decode cX12_attempt 5 = .ok (.aload_n 0, 1) := by decide +kernel
theorem dX12_attempt_6 : decode cX12_attempt 6 = .ok (.iload_n 1, 1) := by decide +kernel
theorem dX12_attempt_7 : decode cX12_attempt 7 = .ok (.iload_n 2, 1) := by decide +kernel
theorem dX12_attempt_8 : decode cX12_attempt 8 = .ok (.invokevirtual 456, 3) := by decide +kernel
theorem dX12_attempt_11 : decode cX12_attempt 11 = .ok (.istore_n 3, 1) := by decide +kernel
theorem dX12_attempt_12 : decode cX12_attempt 12 = .ok (.iload_n 3, 1) := by decide +kernel
theorem dX12_attempt_13 : decode cX12_attempt 13 = .ok (.ifCond .eq 5, 3) := by decide +kernel
theorem dX12_attempt_16 : decode cX12_attempt 16 = .ok (.iload_n 3, 1) := by decide +kernel
theorem dX12_attempt_17 : decode cX12_attempt 17 = .ok (.ireturn, 1) := by decide +kernel
theorem dX12_attempt_18 : decode cX12_attempt 18 = .ok (.aload_n 0, 1) := by decide +kernel
theorem dX12_attempt_19 : decode cX12_attempt 19 = .ok (.iload_n 1, 1) := by decide +kernel
theorem dX12_attempt_20 : decode cX12_attempt 20 = .ok (.iload_n 2, 1) := by decide +kernel
theorem dX12_attempt_21 : decode cX12_attempt 21 = .ok (.invokevirtual 459, 3) := by decide +kernel
theorem dX12_attempt_24 : decode cX12_attempt 24 = .ok (.invokestatic 463, 3) := by decide +kernel
theorem dX12_attempt_27 : decode cX12_attempt 27 = .ok (.istore 4, 2) := by decide +kernel
theorem dX12_attempt_29 : decode cX12_attempt 29 = .ok (.iconst (-1), 1) := by decide +kernel
theorem dX12_attempt_30 : decode cX12_attempt 30 = .ok (.istore 5, 2) := by decide +kernel
theorem dX12_attempt_32 : decode cX12_attempt 32 = .ok (.iconst (-1), 1) := by decide +kernel
theorem dX12_attempt_33 : decode cX12_attempt 33 = .ok (.istore 6, 2) := by decide +kernel
theorem dX12_attempt_35 : decode cX12_attempt 35 = .ok (.iconst 0, 1) := by decide +kernel
theorem dX12_attempt_36 : decode cX12_attempt 36 = .ok (.istore 7, 2) := by decide +kernel
theorem dX12_attempt_38 : decode cX12_attempt 38 = .ok (.iload 7, 2) := by decide +kernel
theorem dX12_attempt_40 : decode cX12_attempt 40 = .ok (.iconst 4, 1) := by decide +kernel
theorem dX12_attempt_41 : decode cX12_attempt 41 = .ok (.if_icmp .ge 125, 3) := by decide +kernel
theorem dX12_attempt_44 : decode cX12_attempt 44 = .ok (.iload 4, 2) := by decide +kernel
theorem dX12_attempt_46 : decode cX12_attempt 46 = .ok (.ifCond .le 120, 3) := by decide +kernel
theorem dX12_attempt_49 : decode cX12_attempt 49 = .ok (.iconst 0, 1) := by decide +kernel
theorem dX12_attempt_50 : decode cX12_attempt 50 = .ok (.istore 8, 2) := by decide +kernel
theorem dX12_attempt_52 : decode cX12_attempt 52 = .ok (.iconst 0, 1) := by decide +kernel
theorem dX12_attempt_53 : decode cX12_attempt 53 = .ok (.istore 9, 2) := by decide +kernel
theorem dX12_attempt_55 : decode cX12_attempt 55 = .ok (.iload 9, 2) := by decide +kernel
theorem dX12_attempt_57 : decode cX12_attempt 57 = .ok (.aload_n 0, 1) := by decide +kernel
theorem dX12_attempt_58 : decode cX12_attempt 58 = .ok (.invokevirtual 214, 3) := by decide +kernel
theorem dX12_attempt_61 : decode cX12_attempt 61 = .ok (.if_icmp .ge 59, 3) := by decide +kernel
theorem dX12_attempt_64 : decode cX12_attempt 64 = .ok (.iload 8, 2) := by decide +kernel
theorem dX12_attempt_66 : decode cX12_attempt 66 = .ok (.aload_n 0, 1) := by decide +kernel
theorem dX12_attempt_67 : decode cX12_attempt 67 = .ok (.iload_n 2, 1) := by decide +kernel
theorem dX12_attempt_68 : decode cX12_attempt 68 = .ok (.iload 9, 2) := by decide +kernel
theorem dX12_attempt_70 : decode cX12_attempt 70 = .ok (.invokevirtual 446, 3) := by decide +kernel
theorem dX12_attempt_73 : decode cX12_attempt 73 = .ok (.ifCond .eq 37, 3) := by decide +kernel
theorem dX12_attempt_76 : decode cX12_attempt 76 = .ok (.aload_n 0, 1) := by decide +kernel
theorem dX12_attempt_77 : decode cX12_attempt 77 = .ok (.iload_n 1, 1) := by decide +kernel
theorem dX12_attempt_78 : decode cX12_attempt 78 = .ok (.iload_n 2, 1) := by decide +kernel
theorem dX12_attempt_79 : decode cX12_attempt 79 = .ok (.iload 9, 2) := by decide +kernel
theorem dX12_attempt_81 : decode cX12_attempt 81 = .ok (.invokevirtual 449, 3) := by decide +kernel
theorem dX12_attempt_84 : decode cX12_attempt 84 = .ok (.ifCond .eq 26, 3) := by decide +kernel
theorem dX12_attempt_87 : decode cX12_attempt 87 = .ok (.aload_n 0, 1) := by decide +kernel
theorem dX12_attempt_88 : decode cX12_attempt 88 = .ok (.iload_n 2, 1) := by decide +kernel
theorem dX12_attempt_89 : decode cX12_attempt 89 = .ok (.iconst 0, 1) := by decide +kernel
theorem dX12_attempt_90 : decode cX12_attempt 90 = .ok (.aload_n 0, 1) := by decide +kernel
theorem dX12_attempt_91 : decode cX12_attempt 91 = .ok (.getfield 440, 3) := by decide +kernel
theorem dX12_attempt_94 : decode cX12_attempt 94 = .ok (.aload_n 0, 1) := by decide +kernel
theorem dX12_attempt_95 : decode cX12_attempt 95 = .ok (.getfield 443, 3) := by decide +kernel
theorem dX12_attempt_98 : decode cX12_attempt 98 = .ok (.iload 7, 2) := by decide +kernel
theorem dX12_attempt_100 : decode cX12_attempt 100 = .ok (.invokevirtual 261, 3) := by decide +kernel
theorem dX12_attempt_103 : decode cX12_attempt 103 = .ok (.ifCond .ne 7, 3) := by decide +kernel
theorem dX12_attempt_106 : decode cX12_attempt 106 = .ok (.iconst 1, 1) := by decide +kernel
theorem dX12_attempt_107 : decode cX12_attempt 107 = .ok (.goto 4, 3) := by decide +kernel
theorem dX12_attempt_110 : decode cX12_attempt 110 = .ok (.iconst 0, 1) := by decide +kernel
theorem dX12_attempt_111 : decode cX12_attempt 111 = .ok (.iadd, 1) := by decide +kernel
theorem dX12_attempt_112 : decode cX12_attempt 112 = .ok (.istore 8, 2) := by decide +kernel
theorem dX12_attempt_114 : decode cX12_attempt 114 = .ok (.iinc 9 1, 3) := by decide +kernel
theorem dX12_attempt_117 : decode cX12_attempt 117 = .ok (.goto (-62), 3) := by decide +kernel
theorem dX12_attempt_120 : decode cX12_attempt 120 = .ok (.iload 8, 2) := by decide +kernel
theorem dX12_attempt_122 : decode cX12_attempt 122 = .ok (.iload 4, 2) := by decide +kernel
theorem dX12_attempt_124 : decode cX12_attempt 124 = .ok (.iload 8, 2) := by decide +kernel
theorem dX12_attempt_126 : decode cX12_attempt 126 = .ok (.isub, 1) := by decide +kernel
theorem dX12_attempt_127 : decode cX12_attempt 127 = .ok (.if_icmp .ge 8, 3) := by decide +kernel
theorem dX12_attempt_130 : decode cX12_attempt 130 = .ok (.iload 8, 2) := by decide +kernel
theorem dX12_attempt_132 : decode cX12_attempt 132 = .ok (.goto 8, 3) := by decide +kernel
theorem dX12_attempt_135 : decode cX12_attempt 135 = .ok (.iload 4, 2) := by decide +kernel
theorem dX12_attempt_137 : decode cX12_attempt 137 = .ok (.iload 8, 2) := by decide +kernel
theorem dX12_attempt_139 : decode cX12_attempt 139 = .ok (.isub, 1) := by decide +kernel
theorem dX12_attempt_140 : decode cX12_attempt 140 = .ok (.istore 9, 2) := by decide +kernel
theorem dX12_attempt_142 : decode cX12_attempt 142 = .ok (.iload 9, 2) := by decide +kernel
theorem dX12_attempt_144 : decode cX12_attempt 144 = .ok (.iload 6, 2) := by decide +kernel
theorem dX12_attempt_146 : decode cX12_attempt 146 = .ok (.if_icmp .gt 6, 3) := by decide +kernel
theorem dX12_attempt_149 : decode cX12_attempt 149 = .ok (.goto 11, 3) := by decide +kernel
theorem dX12_attempt_152 : decode cX12_attempt 152 = .ok (.iload 7, 2) := by decide +kernel
theorem dX12_attempt_154 : decode cX12_attempt 154 = .ok (.istore 5, 2) := by decide +kernel
theorem dX12_attempt_156 : decode cX12_attempt 156 = .ok (.iload 9, 2) := by decide +kernel
theorem dX12_attempt_158 : decode cX12_attempt 158 = .ok (.istore 6, 2) := by decide +kernel
theorem dX12_attempt_160 : decode cX12_attempt 160 = .ok (.iinc 7 1, 3) := by decide +kernel
theorem dX12_attempt_163 : decode cX12_attempt 163 = .ok (.goto (-125), 3) := by decide +kernel
theorem dX12_attempt_166 : decode cX12_attempt 166 = .ok (.iload 5, 2) := by decide +kernel
theorem dX12_attempt_168 : decode cX12_attempt 168 = .ok (.ireturn, 1) := by decide +kernel
set_option maxRecDepth 20000 in
set_option maxHeartbeats 2000000 in
theorem w_X12_attempt_111 {X : CX} {d : Nat} (hd : 7 ≤ d) {g' : G} {rx : Int32} (k38 : Nat → Int32 → Int32 → Int32 → Int32 → Int32 → Int32 → G → Option (Int32 × G)) (hk38 : ∀ (l0 : Nat) (l1 : Int32) (l2 : Int32) (l4 : Int32) (l5 : Int32) (l6 : Int32) (l7 : Int32) (g : G), KD g l0 12 → k38 l0 l1 l2 l4 l5 l6 l7 g = some (rx, g') → SemF X m_X12_attempt d 38 [(0, .ref (ad X l0)), (1, .int l1), (2, .int l2), (4, .int l4), (5, .int l5), (6, .int l6), (7, .int l7)] [] g (some (.int rx)) g') (k55 : Nat → Int32 → Int32 → Int32 → Int32 → Int32 → Int32 → Int32 → Int32 → G → Option (Int32 × G)) (hk55 : ∀ (l0 : Nat) (l1 : Int32) (l2 : Int32) (l4 : Int32) (l5 : Int32) (l6 : Int32) (l7 : Int32) (l8 : Int32) (l9 : Int32) (g : G), KD g l0 12 → k55 l0 l1 l2 l4 l5 l6 l7 l8 l9 g = some (rx, g') → SemF X m_X12_attempt d 55 [(0, .ref (ad X l0)), (1, .int l1), (2, .int l2), (4, .int l4), (5, .int l5), (6, .int l6), (7, .int l7), (8, .int l8), (9, .int l9)] [] g (some (.int rx)) g') (l0 : Nat) (l1 : Int32) (l2 : Int32) (l4 : Int32) (l5 : Int32) (l6 : Int32) (l7 : Int32) (l9 : Int32) (s0 : Int32) (s1 : Int32) (g : G) (k_l0 : KD g l0 12) (h : f_X12_attempt_111 k38 k55 l0 l1 l2 l4 l5 l6 l7 l9 s0 s1 g = some (rx, g')) : SemF X m_X12_attempt d 111 [(0, .ref (ad X l0)), (1, .int l1), (2, .int l2), (4, .int l4), (5, .int l5), (6, .int l6), (7, .int l7), (9, .int l9)] [.int s0, .int s1] g (some (.int rx)) g' := by
  rw [f_X12_attempt_111] at h
  refine SF_iadd 112 dX12_attempt_111 rfl ?_
  obtain ⟨y1, e2, h⟩ := li_some h
  refine SF_eqI e2 ?_
  refine SF_istore [(8, .int y1), (0, .ref (ad X l0)), (1, .int l1), (2, .int l2), (4, .int l4), (5, .int l5), (6, .int l6), (7, .int l7), (9, .int l9)] 114 dX12_attempt_112 (by decide) rfl rfl ?_
  refine SF_iinc 8 (l9 + (1 : Int32)) [(9, .int (l9 + (1 : Int32))), (8, .int y1), (0, .ref (ad X l0)), (1, .int l1), (2, .int l2), (4, .int l4), (5, .int l5), (6, .int l6), (7, .int l7)] 117 dX12_attempt_114 rfl rfl (by decide) rfl rfl ?_
  refine SF_goto 55 dX12_attempt_117 rfl ?_
  refine SF_sub [2, 3, 4, 5, 6, 7, 8, 1, 0] rfl ?_
  exact hk55 l0 l1 l2 l4 l5 l6 l7 y1 (l9 + (1 : Int32)) g k_l0 h

set_option maxRecDepth 20000 in
set_option maxHeartbeats 2000000 in
theorem w_X12_attempt_110 {X : CX} {d : Nat} (hd : 7 ≤ d) {g' : G} {rx : Int32} (k38 : Nat → Int32 → Int32 → Int32 → Int32 → Int32 → Int32 → G → Option (Int32 × G)) (hk38 : ∀ (l0 : Nat) (l1 : Int32) (l2 : Int32) (l4 : Int32) (l5 : Int32) (l6 : Int32) (l7 : Int32) (g : G), KD g l0 12 → k38 l0 l1 l2 l4 l5 l6 l7 g = some (rx, g') → SemF X m_X12_attempt d 38 [(0, .ref (ad X l0)), (1, .int l1), (2, .int l2), (4, .int l4), (5, .int l5), (6, .int l6), (7, .int l7)] [] g (some (.int rx)) g') (k55 : Nat → Int32 → Int32 → Int32 → Int32 → Int32 → Int32 → Int32 → Int32 → G → Option (Int32 × G)) (hk55 : ∀ (l0 : Nat) (l1 : Int32) (l2 : Int32) (l4 : Int32) (l5 : Int32) (l6 : Int32) (l7 : Int32) (l8 : Int32) (l9 : Int32) (g : G), KD g l0 12 → k55 l0 l1 l2 l4 l5 l6 l7 l8 l9 g = some (rx, g') → SemF X m_X12_attempt d 55 [(0, .ref (ad X l0)), (1, .int l1), (2, .int l2), (4, .int l4), (5, .int l5), (6, .int l6), (7, .int l7), (8, .int l8), (9, .int l9)] [] g (some (.int rx)) g') (l0 : Nat) (l1 : Int32) (l2 : Int32) (l4 : Int32) (l5 : Int32) (l6 : Int32) (l7 : Int32) (l9 : Int32) (s0 : Int32) (g : G) (k_l0 : KD g l0 12) (h : f_X12_attempt_110 k38 k55 l0 l1 l2 l4 l5 l6 l7 l9 s0 g = some (rx, g')) : SemF X m_X12_attempt d 110 [(0, .ref (ad X l0)), (1, .int l1), (2, .int l2), (4, .int l4), (5, .int l5), (6, .int l6), (7, .int l7), (9, .int l9)] [.int s0] g (some (.int rx)) g' := by
  rw [f_X12_attempt_110] at h
  refine SF_iconst (0 : Int32) 111 dX12_attempt_110 rfl rfl ?_
  exact w_X12_attempt_111 hd k38 hk38 k55 hk55 l0 l1 l2 l4 l5 l6 l7 l9 (0 : Int32) s0 g k_l0 h

set_option maxRecDepth 20000 in
set_option maxHeartbeats 2000000 in
theorem w_X12_attempt_160 {X : CX} {d : Nat} (hd : 7 ≤ d) {g' : G} {rx : Int32} (k38 : Nat → Int32 → Int32 → Int32 → Int32 → Int32 → Int32 → G → Option (Int32 × G)) (hk38 : ∀ (l0 : Nat) (l1 : Int32) (l2 : Int32) (l4 : Int32) (l5 : Int32) (l6 : Int32) (l7 : Int32) (g : G), KD g l0 12 → k38 l0 l1 l2 l4 l5 l6 l7 g = some (rx, g') → SemF X m_X12_attempt d 38 [(0, .ref (ad X l0)), (1, .int l1), (2, .int l2), (4, .int l4), (5, .int l5), (6, .int l6), (7, .int l7)] [] g (some (.int rx)) g') (l0 : Nat) (l1 : Int32) (l2 : Int32) (l4 : Int32) (l5 : Int32) (l6 : Int32) (l7 : Int32) (g : G) (k_l0 : KD g l0 12) (h : f_X12_attempt_160 k38 l0 l1 l2 l4 l5 l6 l7 g = some (rx, g')) : SemF X m_X12_attempt d 160 [(0, .ref (ad X l0)), (1, .int l1), (2, .int l2), (4, .int l4), (5, .int l5), (6, .int l6), (7, .int l7)] [] g (some (.int rx)) g' := by
  rw [f_X12_attempt_160] at h
  refine SF_iinc 6 (l7 + (1 : Int32)) [(7, .int (l7 + (1 : Int32))), (0, .ref (ad X l0)), (1, .int l1), (2, .int l2), (4, .int l4), (5, .int l5), (6, .int l6)] 163 dX12_attempt_160 rfl rfl (by decide) rfl rfl ?_
  refine SF_goto 38 dX12_attempt_163 rfl ?_
  refine SF_sub [1, 2, 3, 4, 5, 6, 0] rfl ?_
  exact hk38 l0 l1 l2 l4 l5 l6 (l7 + (1 : Int32)) g k_l0 h

set_option maxRecDepth 20000 in
set_option maxHeartbeats 2000000 in
theorem w_X12_attempt_140 {X : CX} {d : Nat} (hd : 7 ≤ d) {g' : G} {rx : Int32} (k38 : Nat → Int32 → Int32 → Int32 → Int32 → Int32 → Int32 → G → Option (Int32 × G)) (hk38 : ∀ (l0 : Nat) (l1 : Int32) (l2 : Int32) (l4 : Int32) (l5 : Int32) (l6 : Int32) (l7 : Int32) (g : G), KD g l0 12 → k38 l0 l1 l2 l4 l5 l6 l7 g = some (rx, g') → SemF X m_X12_attempt d 38 [(0, .ref (ad X l0)), (1, .int l1), (2, .int l2), (4, .int l4), (5, .int l5), (6, .int l6), (7, .int l7)] [] g (some (.int rx)) g') (l0 : Nat) (l1 : Int32) (l2 : Int32) (l4 : Int32) (l5 : Int32) (l6 : Int32) (l7 : Int32) (s0 : Int32) (g : G) (k_l0 : KD g l0 12) (h : f_X12_attempt_140 k38 l0 l1 l2 l4 l5 l6 l7 s0 g = some (rx, g')) : SemF X m_X12_attempt d 140 [(0, .ref (ad X l0)), (1, .int l1), (2, .int l2), (4, .int l4), (5, .int l5), (6, .int l6), (7, .int l7)] [.int s0] g (some (.int rx)) g' := by
  rw [f_X12_attempt_140] at h
  refine SF_istore [(9, .int s0), (0, .ref (ad X l0)), (1, .int l1), (2, .int l2), (4, .int l4), (5, .int l5), (6, .int l6), (7, .int l7)] 142 dX12_attempt_140 (by decide) rfl rfl ?_
  refine SF_iload 0 144 dX12_attempt_142 rfl rfl ?_
  refine SF_iload 6 146 dX12_attempt_144 rfl rfl ?_
  refine SF_icgt 152 149 dX12_attempt_146 rfl rfl (fun c1 => ?_) (fun c1 => ?_)
  · have h := ite_t c1 h
    refine SF_iload 7 154 dX12_attempt_152 rfl rfl ?_
    refine SF_istore [(5, .int l7), (9, .int s0), (0, .ref (ad X l0)), (1, .int l1), (2, .int l2), (4, .int l4), (6, .int l6), (7, .int l7)] 156 dX12_attempt_154 (by decide) rfl rfl ?_
    refine SF_iload 1 158 dX12_attempt_156 rfl rfl ?_
    refine SF_istore [(6, .int s0), (5, .int l7), (9, .int s0), (0, .ref (ad X l0)), (1, .int l1), (2, .int l2), (4, .int l4), (7, .int l7)] 160 dX12_attempt_158 (by decide) rfl rfl ?_
    refine SF_sub [3, 4, 5, 6, 1, 0, 7] rfl ?_
    exact w_X12_attempt_160 hd k38 hk38 l0 l1 l2 l4 l7 s0 l7 g k_l0 h
  · have h := ite_f c1 h
    refine SF_goto 160 dX12_attempt_149 rfl ?_
    refine SF_sub [1, 2, 3, 4, 5, 6, 7] rfl ?_
    exact w_X12_attempt_160 hd k38 hk38 l0 l1 l2 l4 l5 l6 l7 g k_l0 h

set_option maxRecDepth 20000 in
set_option maxHeartbeats 2000000 in
theorem w_X12_attempt_55 {X : CX} {d : Nat} (hd : 7 ≤ d) {g' : G} {rx : Int32} (k38 : Nat → Int32 → Int32 → Int32 → Int32 → Int32 → Int32 → G → Option (Int32 × G)) (hk38 : ∀ (l0 : Nat) (l1 : Int32) (l2 : Int32) (l4 : Int32) (l5 : Int32) (l6 : Int32) (l7 : Int32) (g : G), KD g l0 12 → k38 l0 l1 l2 l4 l5 l6 l7 g = some (rx, g') → SemF X m_X12_attempt d 38 [(0, .ref (ad X l0)), (1, .int l1), (2, .int l2), (4, .int l4), (5, .int l5), (6, .int l6), (7, .int l7)] [] g (some (.int rx)) g') : ∀ (n : Nat) (l0 : Nat) (l1 : Int32) (l2 : Int32) (l4 : Int32) (l5 : Int32) (l6 : Int32) (l7 : Int32) (l8 : Int32) (l9 : Int32) (g : G), KD g l0 12 → f_X12_attempt_55 k38 n l0 l1 l2 l4 l5 l6 l7 l8 l9 g = some (rx, g') → SemF X m_X12_attempt d 55 [(0, .ref (ad X l0)), (1, .int l1), (2, .int l2), (4, .int l4), (5, .int l5), (6, .int l6), (7, .int l7), (8, .int l8), (9, .int l9)] [] g (some (.int rx)) g' := by
  intro n
  induction n with
  | zero =>
    intro l0 l1 l2 l4 l5 l6 l7 l8 l9 g k_l0 h
    rw [f_X12_attempt_55] at h
    cases h
  | succ n ih =>
  intro l0 l1 l2 l4 l5 l6 l7 l8 l9 g k_l0 h
  rw [f_X12_attempt_55] at h
  refine SF_iload 8 57 dX12_attempt_55 rfl rfl ?_
  refine SF_aload_n 0 58 dX12_attempt_57 rfl rfl rfl ?_
  obtain ⟨v1, g2, q3, h⟩ := bd_some h
  have s4 := w_X12_cells (X := X) (Nat.le_refl 0) l0 g g2 v1 k_l0 q3
  refine SF_callVi 61 mi_X12_cells ml_X12_214 dX12_attempt_58 (Nat.le_trans (by decide) hd) s4 k_l0.1 rfl rfl (Nat.le_of_ble_eq_true rfl) rfl ?_
  have k_l0 := k_l0.ext s4.1
  refine SF_icge 120 64 dX12_attempt_61 rfl rfl (fun c5 => ?_) (fun c5 => ?_)
  · have h := ite_t c5 h
    refine SF_iload 7 122 dX12_attempt_120 rfl rfl ?_
    refine SF_iload 3 124 dX12_attempt_122 rfl rfl ?_
    refine SF_iload 7 126 dX12_attempt_124 rfl rfl ?_
    refine SF_isub 127 dX12_attempt_126 rfl ?_
    refine SF_icge 135 130 dX12_attempt_127 rfl rfl (fun c6 => ?_) (fun c6 => ?_)
    · have h := ite_t c6 h
      refine SF_iload 3 137 dX12_attempt_135 rfl rfl ?_
      refine SF_iload 7 139 dX12_attempt_137 rfl rfl ?_
      refine SF_isub 140 dX12_attempt_139 rfl ?_
      refine SF_sub [0, 1, 2, 3, 4, 5, 6] rfl ?_
      exact w_X12_attempt_140 hd k38 hk38 l0 l1 l2 l4 l5 l6 l7 (l4 - l8) g2 k_l0 h
    · have h := ite_f c6 h
      refine SF_iload 7 132 dX12_attempt_130 rfl rfl ?_
      refine SF_goto 140 dX12_attempt_132 rfl ?_
      refine SF_sub [0, 1, 2, 3, 4, 5, 6] rfl ?_
      exact w_X12_attempt_140 hd k38 hk38 l0 l1 l2 l4 l5 l6 l7 l8 g2 k_l0 h
  · have h := ite_f c5 h
    refine SF_iload 7 66 dX12_attempt_64 rfl rfl ?_
    refine SF_aload_n 0 67 dX12_attempt_66 rfl rfl rfl ?_
    refine SF_iload_n 2 68 dX12_attempt_67 rfl rfl rfl ?_
    refine SF_iload 8 70 dX12_attempt_68 rfl rfl ?_
    obtain ⟨v7, g8, q9, h⟩ := bd_some h
    have s10 := w_X12_isFirst (X := X) (Nat.le_refl 2) l0 l2 l9 g2 g8 v7 k_l0 q9
    refine SF_callVb 73 mi_X12_isFirst ml_X12_446 dX12_attempt_70 (Nat.le_trans (by decide) hd) s10 k_l0.1 rfl rfl (Nat.le_of_ble_eq_true rfl) rfl ?_
    have k_l0 := k_l0.ext s10.1
    refine SF_ifeq 110 76 dX12_attempt_73 rfl rfl (fun c11 => ?_) (fun c11 => ?_)
    · have h := ite_t c11 h
      refine SF_sub [0, 1, 2, 3, 4, 5, 6, 8] rfl ?_
      exact w_X12_attempt_110 hd k38 hk38 (f_X12_attempt_55 k38 n) ih l0 l1 l2 l4 l5 l6 l7 l9 l8 g8 k_l0 h
    · have h := ite_f c11 h
      refine SF_aload_n 0 77 dX12_attempt_76 rfl rfl rfl ?_
      refine SF_iload_n 1 78 dX12_attempt_77 rfl rfl rfl ?_
      refine SF_iload_n 2 79 dX12_attempt_78 rfl rfl rfl ?_
      refine SF_iload 8 81 dX12_attempt_79 rfl rfl ?_
      obtain ⟨v12, g13, q14, h⟩ := bd_some h
      have s15 := w_X12_isTried (X := X) (Nat.le_refl 5) l0 l1 l2 l9 g8 g13 v12 k_l0 q14
      refine SF_callVb 84 mi_X12_isTried ml_X12_449 dX12_attempt_81 (Nat.le_trans (by decide) hd) s15 k_l0.1 rfl rfl (Nat.le_of_ble_eq_true rfl) rfl ?_
      have k_l0 := k_l0.ext s15.1
      refine SF_ifeq 110 87 dX12_attempt_84 rfl rfl (fun c16 => ?_) (fun c16 => ?_)
      · have h := ite_t c16 h
        refine SF_sub [0, 1, 2, 3, 4, 5, 6, 8] rfl ?_
        exact w_X12_attempt_110 hd k38 hk38 (f_X12_attempt_55 k38 n) ih l0 l1 l2 l4 l5 l6 l7 l9 l8 g13 k_l0 h
      · have h := ite_f c16 h
        refine SF_aload_n 0 88 dX12_attempt_87 rfl rfl rfl ?_
        refine SF_iload_n 2 89 dX12_attempt_88 rfl rfl rfl ?_
        refine SF_iconst (0 : Int32) 90 dX12_attempt_89 rfl rfl ?_
        refine SF_aload_n 0 91 dX12_attempt_90 rfl rfl rfl ?_
        refine SF_getI 94 fl_X12_440 dX12_attempt_91 k_l0.1 rfl ?_
        refine SF_aload_n 0 95 dX12_attempt_94 rfl rfl rfl ?_
        refine SF_getI 98 fl_X12_443 dX12_attempt_95 k_l0.1 rfl ?_
        refine SF_iload 6 100 dX12_attempt_98 rfl rfl ?_
        obtain ⟨v17, g18, q19, h⟩ := bd_some h
        have s20 := w_X12_whyBy (X := X) (Nat.le_refl 4) l0 l2 (0 : Int32) (gI g13 l0 31) (gI g13 l0 32) l7 g13 g18 v17 k_l0 q19
        refine SF_callVi 103 mi_X12_whyBy ml_X12_261 dX12_attempt_100 (Nat.le_trans (by decide) hd) s20 k_l0.1 rfl rfl (Nat.le_of_ble_eq_true rfl) rfl ?_
        have k_l0 := k_l0.ext s20.1
        refine SF_ifne 110 106 dX12_attempt_103 rfl rfl (fun c21 => ?_) (fun c21 => ?_)
        · have h := ite_f c21 h
          refine SF_sub [0, 1, 2, 3, 4, 5, 6, 8] rfl ?_
          exact w_X12_attempt_110 hd k38 hk38 (f_X12_attempt_55 k38 n) ih l0 l1 l2 l4 l5 l6 l7 l9 l8 g18 k_l0 h
        · have h := ite_t c21 h
          refine SF_iconst (1 : Int32) 107 dX12_attempt_106 rfl rfl ?_
          refine SF_goto 111 dX12_attempt_107 rfl ?_
          refine SF_sub [0, 1, 2, 3, 4, 5, 6, 8] rfl ?_
          exact w_X12_attempt_111 hd k38 hk38 (f_X12_attempt_55 k38 n) ih l0 l1 l2 l4 l5 l6 l7 l9 (1 : Int32) l8 g18 k_l0 h

set_option maxRecDepth 20000 in
set_option maxHeartbeats 2000000 in
theorem w_X12_attempt_38 {X : CX} {d : Nat} (hd : 7 ≤ d) {g' : G} {rx : Int32} : ∀ (n : Nat) (l0 : Nat) (l1 : Int32) (l2 : Int32) (l4 : Int32) (l5 : Int32) (l6 : Int32) (l7 : Int32) (g : G), KD g l0 12 → f_X12_attempt_38 n l0 l1 l2 l4 l5 l6 l7 g = some (rx, g') → SemF X m_X12_attempt d 38 [(0, .ref (ad X l0)), (1, .int l1), (2, .int l2), (4, .int l4), (5, .int l5), (6, .int l6), (7, .int l7)] [] g (some (.int rx)) g' := by
  intro n
  induction n with
  | zero =>
    intro l0 l1 l2 l4 l5 l6 l7 g k_l0 h
    rw [f_X12_attempt_38] at h
    cases h
  | succ n ih =>
  intro l0 l1 l2 l4 l5 l6 l7 g k_l0 h
  rw [f_X12_attempt_38] at h
  refine SF_iload 6 40 dX12_attempt_38 rfl rfl ?_
  refine SF_iconst (4 : Int32) 41 dX12_attempt_40 rfl rfl ?_
  refine SF_icge 166 44 dX12_attempt_41 rfl rfl (fun c1 => ?_) (fun c1 => ?_)
  · have h := ite_t c1 h
    refine SF_iload 4 168 dX12_attempt_166 rfl rfl ?_
    exact RT_i rfl dX12_attempt_168 h
  · have h := ite_f c1 h
    refine SF_iload 3 46 dX12_attempt_44 rfl rfl ?_
    refine SF_ifle 166 49 dX12_attempt_46 rfl rfl (fun c2 => ?_) (fun c2 => ?_)
    · have h := ite_t c2 h
      refine SF_iload 4 168 dX12_attempt_166 rfl rfl ?_
      exact RT_i rfl dX12_attempt_168 h
    · have h := ite_f c2 h
      refine SF_iconst (0 : Int32) 50 dX12_attempt_49 rfl rfl ?_
      refine SF_istore [(8, .int (0 : Int32)), (0, .ref (ad X l0)), (1, .int l1), (2, .int l2), (4, .int l4), (5, .int l5), (6, .int l6), (7, .int l7)] 52 dX12_attempt_50 (by decide) rfl rfl ?_
      refine SF_iconst (0 : Int32) 53 dX12_attempt_52 rfl rfl ?_
      refine SF_istore [(9, .int (0 : Int32)), (8, .int (0 : Int32)), (0, .ref (ad X l0)), (1, .int l1), (2, .int l2), (4, .int l4), (5, .int l5), (6, .int l6), (7, .int l7)] 55 dX12_attempt_53 (by decide) rfl rfl ?_
      refine SF_sub [2, 3, 4, 5, 6, 7, 8, 1, 0] rfl ?_
      exact w_X12_attempt_55 hd (f_X12_attempt_38 n) ih FU l0 l1 l2 l4 l5 l6 l7 (0 : Int32) (0 : Int32) g k_l0 h

set_option maxRecDepth 20000 in
set_option maxHeartbeats 2000000 in
theorem w_X12_attempt {X : CX} {d : Nat} (hd : 7 ≤ d) (l0 : Nat) (l1 : Int32) (l2 : Int32) (g g' : G) (rx : Int32) (k_l0 : KD g l0 12) (h : f_X12_attempt l0 l1 l2 g = some (rx, g')) : Sem X m_X12_attempt d [.ref (ad X l0), .int l1, .int l2] g (some (.int rx)) g' := by
  refine Sem_of (lo := [(0, .ref (ad X l0)), (1, .int l1), (2, .int l2)]) (by decide +kernel) rfl (Nat.le_of_ble_eq_true rfl) ?_
  rw [f_X12_attempt] at h
  refine SF_aload_n 0 1 dX12_attempt_0 rfl rfl rfl ?_
  refine SF_iconst (0 : Int32) 2 dX12_attempt_1 rfl rfl ?_
  refine SF_putI 5 fl_X12_1 dX12_attempt_2 k_l0.1 (fn_int _) (Or.inl rfl) rfl ?_
  obtain ⟨g1, e2, h⟩ := lg_some h
  rw [← e2]
  have k_l0 := KD.eq e2 k_l0
  refine SF_aload_n 0 6 dX12_attempt_5 rfl rfl rfl ?_
  refine SF_iload_n 1 7 dX12_attempt_6 rfl rfl rfl ?_
  refine SF_iload_n 2 8 dX12_attempt_7 rfl rfl rfl ?_
  obtain ⟨v3, g4, q5, h⟩ := bd_some h
  have s6 := w_X12_noTried (X := X) (Nat.le_refl 2) l0 l1 l2 g1 g4 v3 k_l0 q5
  refine SF_callVi 11 mi_X12_noTried ml_X12_456 dX12_attempt_8 (Nat.le_trans (by decide) hd) s6 k_l0.1 rfl rfl (Nat.le_of_ble_eq_true rfl) rfl ?_
  have k_l0 := k_l0.ext s6.1
  refine SF_istore_n [(3, .int v3), (0, .ref (ad X l0)), (1, .int l1), (2, .int l2)] 12 dX12_attempt_11 rfl (by decide) rfl rfl ?_
  refine SF_iload_n 0 13 dX12_attempt_12 rfl rfl rfl ?_
  refine SF_ifeq 18 16 dX12_attempt_13 rfl rfl (fun c7 => ?_) (fun c7 => ?_)
  · have h := ite_t c7 h
    refine SF_aload_n 1 19 dX12_attempt_18 rfl rfl rfl ?_
    refine SF_iload_n 2 20 dX12_attempt_19 rfl rfl rfl ?_
    refine SF_iload_n 3 21 dX12_attempt_20 rfl rfl rfl ?_
    obtain ⟨v8, g9, q10, h⟩ := bd_some h
    have s11 := w_X12_triedSet (X := X) (Nat.le_refl 6) l0 l1 l2 g4 g9 v8 k_l0 q10
    refine SF_callVl 24 mi_X12_triedSet ml_X12_459 dX12_attempt_21 (Nat.le_trans (by decide) hd) s11 k_l0.1 rfl rfl (Nat.le_of_ble_eq_true rfl) rfl ?_
    have k_l0 := k_l0.ext s11.1
    obtain ⟨v12, g13, q14, h⟩ := bd_some h
    have s15 := w_X12_bitsOf (X := X) (Nat.le_refl 1) v8 g9 g13 v12 q14
    refine SF_callSi 27 mi_X12_bitsOf ml_X12_463 dX12_attempt_24 (Nat.le_trans (by decide) hd) s15 rfl rfl (Nat.le_of_ble_eq_true rfl) rfl ?_
    have k_l0 := k_l0.ext s15.1
    refine SF_istore [(4, .int v12), (3, .int v3), (0, .ref (ad X l0)), (1, .int l1), (2, .int l2)] 29 dX12_attempt_27 (by decide) rfl rfl ?_
    refine SF_iconst (-1 : Int32) 30 dX12_attempt_29 rfl rfl ?_
    refine SF_istore [(5, .int (-1 : Int32)), (4, .int v12), (3, .int v3), (0, .ref (ad X l0)), (1, .int l1), (2, .int l2)] 32 dX12_attempt_30 (by decide) rfl rfl ?_
    refine SF_iconst (-1 : Int32) 33 dX12_attempt_32 rfl rfl ?_
    refine SF_istore [(6, .int (-1 : Int32)), (5, .int (-1 : Int32)), (4, .int v12), (3, .int v3), (0, .ref (ad X l0)), (1, .int l1), (2, .int l2)] 35 dX12_attempt_33 (by decide) rfl rfl ?_
    refine SF_iconst (0 : Int32) 36 dX12_attempt_35 rfl rfl ?_
    refine SF_istore [(7, .int (0 : Int32)), (6, .int (-1 : Int32)), (5, .int (-1 : Int32)), (4, .int v12), (3, .int v3), (0, .ref (ad X l0)), (1, .int l1), (2, .int l2)] 38 dX12_attempt_36 (by decide) rfl rfl ?_
    refine SF_sub [5, 6, 7, 3, 2, 1, 0] rfl ?_
    exact w_X12_attempt_38 hd FU l0 l1 l2 v12 (-1 : Int32) (-1 : Int32) (0 : Int32) g13 k_l0 h
  · have h := ite_f c7 h
    refine SF_iload_n 0 17 dX12_attempt_16 rfl rfl rfl ?_
    exact RT_i rfl dX12_attempt_17 h

theorem dX11_moods_0 : decode cX11_moods 0 = .ok (.aload_n 0, 1) := by decide +kernel
theorem dX11_moods_1 : decode cX11_moods 1 = .ok (.iload_n 1, 1) := by decide +kernel
theorem dX11_moods_2 : decode cX11_moods 2 = .ok (.iload_n 2, 1) := by decide +kernel
theorem dX11_moods_3 : decode cX11_moods 3 = .ok (.invokevirtual 364, 3) := by decide +kernel
theorem dX11_moods_6 : decode cX11_moods 6 = .ok (.istore_n 3, 1) := by decide +kernel
theorem dX11_moods_7 : decode cX11_moods 7 = .ok (.iload_n 3, 1) := by decide +kernel
theorem dX11_moods_8 : decode cX11_moods 8 = .ok (.ifCond .eq 5, 3) := by decide +kernel
theorem dX11_moods_11 : decode cX11_moods 11 = .ok (.iload_n 3, 1) := by decide +kernel
theorem dX11_moods_12 : decode cX11_moods 12 = .ok (.ireturn, 1) := by decide +kernel
theorem dX11_moods_13 : decode cX11_moods 13 = .ok (.aload_n 0, 1) := by decide +kernel
theorem dX11_moods_14 : decode cX11_moods 14 = .ok (.getfield 78, 3) := by decide +kernel
theorem dX11_moods_17 : decode cX11_moods 17 = .ok (.iload_n 2, 1) := by decide +kernel
theorem dX11_moods_18 : decode cX11_moods 18 = .ok (.invokevirtual 183, 3) := by decide +kernel
theorem dX11_moods_21 : decode cX11_moods 21 = .ok (.istore 4, 2) := by decide +kernel
theorem dX11_moods_23 : decode cX11_moods 23 = .ok (.aload_n 0, 1) := by decide +kernel
theorem dX11_moods_24 : decode cX11_moods 24 = .ok (.getfield 95, 3) := by decide +kernel
theorem dX11_moods_27 : decode cX11_moods 27 = .ok (.aload_n 0, 1) := by decide +kernel
theorem dX11_moods_28 : decode cX11_moods 28 = .ok (.getfield 78, 3) := by decide +kernel
theorem dX11_moods_31 : decode cX11_moods 31 = .ok (.iload_n 2, 1) := by decide +kernel
theorem dX11_moods_32 : decode cX11_moods 32 = .ok (.invokevirtual 306, 3) := by decide +kernel
theorem dX11_moods_35 : decode cX11_moods 35 = .ok (.iconst 0, 1) := by decide +kernel
theorem dX11_moods_36 : decode cX11_moods 36 = .ok (.istore 5, 2) := by decide +kernel
theorem dX11_moods_38 : decode cX11_moods 38 = .ok (.iconst 0, 1) := by decide +kernel
theorem dX11_moods_39 : decode cX11_moods 39 = .ok (.istore 6, 2) := by decide +kernel
theorem dX11_moods_41 : decode cX11_moods 41 = .ok (.iload 6, 2) := by decide +kernel
theorem dX11_moods_43 : decode cX11_moods 43 = .ok (.bipush 10, 2) := by decide +kernel
theorem dX11_moods_45 : decode cX11_moods 45 = .ok (.if_icmp .ge 53, 3) := by decide +kernel
theorem dX11_moods_48 : decode cX11_moods 48 = .ok (.aload_n 0, 1) := by decide +kernel
theorem dX11_moods_49 : decode cX11_moods 49 = .ok (.getfield 95, 3) := by decide +kernel
theorem dX11_moods_52 : decode cX11_moods 52 = .ok (.iload 6, 2) := by decide +kernel
theorem dX11_moods_54 : decode cX11_moods 54 = .ok (.invokevirtual 382, 3) := by decide +kernel
theorem dX11_moods_57 : decode cX11_moods 57 = .ok (.aload_n 0, 1) := by decide +kernel
theorem dX11_moods_58 : decode cX11_moods 58 = .ok (.getfield 95, 3) := by decide +kernel
theorem dX11_moods_61 : decode cX11_moods 61 = .ok (.aload_n 0, 1) := by decide +kernel
theorem dX11_moods_62 : decode cX11_moods 62 = .ok (.getfield 60, 3) := by decide +kernel
theorem dX11_moods_65 : decode cX11_moods 65 = .ok (.iload_n 1, 1) := by decide +kernel
theorem dX11_moods_66 : decode cX11_moods 66 = .ok (.aaload, 1) := by decide +kernel
theorem dX11_moods_67 : decode cX11_moods 67 = .ok (.iload 4, 2) := by decide +kernel
theorem dX11_moods_69 : decode cX11_moods 69 = .ok (.bipush 64, 2) := by decide +kernel
theorem dX11_moods_71 : decode cX11_moods 71 = .ok (.idiv, 1) := by decide +kernel
theorem dX11_moods_72 : decode cX11_moods 72 = .ok (.iload 4, 2) := by decide +kernel
theorem dX11_moods_74 : decode cX11_moods 74 = .ok (.bipush 64, 2) := by decide +kernel
theorem dX11_moods_76 : decode cX11_moods 76 = .ok (.irem, 1) := by decide +kernel
theorem dX11_moods_77 : decode cX11_moods 77 = .ok (.invokevirtual 370, 3) := by decide +kernel
theorem dX11_moods_80 : decode cX11_moods 80 = .ok (.ifCond .lt 12, 3) := by decide +kernel
theorem dX11_moods_83 : decode cX11_moods 83 = .ok (.iload 5, 2) := by decide +kernel
theorem dX11_moods_85 : decode cX11_moods 85 = .ok (.iconst 1, 1) := by decide +kernel
theorem dX11_moods_86 : decode cX11_moods 86 = .ok (.iload 6, 2) := by decide +kernel
theorem dX11_moods_88 : decode cX11_moods 88 = .ok (.ishl, 1) := by decide +kernel
theorem dX11_moods_89 : decode cX11_moods 89 = .ok (.ior, 1) := by decide +kernel
theorem dX11_moods_90 : decode cX11_moods 90 = .ok (.istore 5, 2) := by decide +kernel
theorem dX11_moods_92 : decode cX11_moods 92 = .ok (.iinc 6 1, 3) := by decide +kernel
theorem dX11_moods_95 : decode cX11_moods 95 = .ok (.goto (-54), 3) := by decide +kernel
theorem dX11_moods_98 : decode cX11_moods 98 = .ok (.iload 5, 2) := by decide +kernel
theorem dX11_moods_100 : decode cX11_moods 100 = .ok (.ireturn, 1) := by decide +kernel
set_option maxRecDepth 20000 in
set_option maxHeartbeats 2000000 in
theorem w_X11_moods_92 {X : CX} {d : Nat} (hd : 6 ≤ d) {g' : G} {rx : Int32} (k41 : Nat → Int32 → Int32 → Int32 → Int32 → G → Option (Int32 × G)) (hk41 : ∀ (l0 : Nat) (l1 : Int32) (l4 : Int32) (l5 : Int32) (l6 : Int32) (g : G), KD g l0 11 → k41 l0 l1 l4 l5 l6 g = some (rx, g') → SemF X m_X11_moods d 41 [(0, .ref (ad X l0)), (1, .int l1), (4, .int l4), (5, .int l5), (6, .int l6)] [] g (some (.int rx)) g') (l0 : Nat) (l1 : Int32) (l4 : Int32) (l5 : Int32) (l6 : Int32) (g : G) (k_l0 : KD g l0 11) (h : f_X11_moods_92 k41 l0 l1 l4 l5 l6 g = some (rx, g')) : SemF X m_X11_moods d 92 [(0, .ref (ad X l0)), (1, .int l1), (4, .int l4), (5, .int l5), (6, .int l6)] [] g (some (.int rx)) g' := by
  rw [f_X11_moods_92] at h
  refine SF_iinc 4 (l6 + (1 : Int32)) [(6, .int (l6 + (1 : Int32))), (0, .ref (ad X l0)), (1, .int l1), (4, .int l4), (5, .int l5)] 95 dX11_moods_92 rfl rfl (by decide) rfl rfl ?_
  refine SF_goto 41 dX11_moods_95 rfl ?_
  refine SF_sub [1, 2, 3, 4, 0] rfl ?_
  exact hk41 l0 l1 l4 l5 (l6 + (1 : Int32)) g k_l0 h

set_option maxRecDepth 20000 in
set_option maxHeartbeats 2000000 in
theorem w_X11_moods_41 {X : CX} {d : Nat} (hd : 6 ≤ d) {g' : G} {rx : Int32} : ∀ (n : Nat) (l0 : Nat) (l1 : Int32) (l4 : Int32) (l5 : Int32) (l6 : Int32) (g : G), KD g l0 11 → f_X11_moods_41 n l0 l1 l4 l5 l6 g = some (rx, g') → SemF X m_X11_moods d 41 [(0, .ref (ad X l0)), (1, .int l1), (4, .int l4), (5, .int l5), (6, .int l6)] [] g (some (.int rx)) g' := by
  intro n
  induction n with
  | zero =>
    intro l0 l1 l4 l5 l6 g k_l0 h
    rw [f_X11_moods_41] at h
    cases h
  | succ n ih =>
  intro l0 l1 l4 l5 l6 g k_l0 h
  rw [f_X11_moods_41] at h
  refine SF_iload 4 43 dX11_moods_41 rfl rfl ?_
  refine SF_bipush (10 : Int32) 45 dX11_moods_43 rfl rfl ?_
  refine SF_icge 98 48 dX11_moods_45 rfl rfl (fun c1 => ?_) (fun c1 => ?_)
  · have h := ite_t c1 h
    refine SF_iload 3 100 dX11_moods_98 rfl rfl ?_
    exact RT_i rfl dX11_moods_100 h
  · have h := ite_f c1 h
    refine SF_aload_n 0 49 dX11_moods_48 rfl rfl rfl ?_
    obtain ⟨b2, r3, h⟩ := dr_some h
    refine SF_getR 52 fl_X11_95 dX11_moods_49 k_l0.1 r3 rfl ?_
    refine SF_iload 4 54 dX11_moods_52 rfl rfl ?_
    obtain ⟨k4, h⟩ := gdK_some h
    obtain ⟨v5, g6, q7, h⟩ := bd_some h
    have s8 := w_X9_assume (X := X) (Nat.le_refl 0) b2 l6 g g6 v5 k4 q7
    refine SF_callVv 57 mi_X9_assume ml_X11_382 dX11_moods_54 (Nat.le_trans (by decide) hd) s8 k4.1 rfl rfl (Nat.le_of_ble_eq_true rfl) rfl ?_
    have k_l0 := k_l0.ext s8.1
    have k4 := k4.ext s8.1
    refine SF_aload_n 0 58 dX11_moods_57 rfl rfl rfl ?_
    obtain ⟨b9, r10, h⟩ := dr_some h
    refine SF_getR 61 fl_X11_95 dX11_moods_58 k_l0.1 r10 rfl ?_
    refine SF_aload_n 0 62 dX11_moods_61 rfl rfl rfl ?_
    obtain ⟨b11, r12, h⟩ := dr_some h
    refine SF_getR 65 fl_X11_60 dX11_moods_62 k_l0.1 r12 rfl ?_
    refine SF_iload_n 1 66 dX11_moods_65 rfl rfl rfl ?_
    obtain ⟨k13, h⟩ := gdK_some h
    obtain ⟨i14, h⟩ := gdI_some h
    obtain ⟨b15, r16, h⟩ := dr_some h
    refine SF_aald 67 dX11_moods_66 k13.1 (Or.inr (Or.inl rfl)) i14 r16 rfl ?_
    refine SF_iload 2 69 dX11_moods_67 rfl rfl ?_
    refine SF_bipush (64 : Int32) 71 dX11_moods_69 rfl rfl ?_
    refine SF_idiv 72 dX11_moods_71 (by decide) rfl ?_
    refine SF_iload 2 74 dX11_moods_72 rfl rfl ?_
    refine SF_bipush (64 : Int32) 76 dX11_moods_74 rfl rfl ?_
    refine SF_irem 77 dX11_moods_76 (by decide) rfl ?_
    obtain ⟨k17, h⟩ := gdK_some h
    obtain ⟨k18, h⟩ := gdK_some h
    obtain ⟨v19, g20, q21, h⟩ := bd_some h
    have s22 := w_X9_behind (X := X) (Nat.le_refl 5) b9 b15 (l4 / (64 : Int32)) (l4 - l4 / (64 : Int32) * (64 : Int32)) g6 g20 v19 k17 k18 q21
    refine SF_callVi 80 mi_X9_behind ml_X11_370 dX11_moods_77 (Nat.le_trans (by decide) hd) s22 k17.1 rfl rfl (Nat.le_of_ble_eq_true rfl) rfl ?_
    have k_l0 := k_l0.ext s22.1
    have k4 := k4.ext s22.1
    have k13 := k13.ext s22.1
    have k17 := k17.ext s22.1
    have k18 := k18.ext s22.1
    refine SF_iflt 92 83 dX11_moods_80 rfl rfl (fun c23 => ?_) (fun c23 => ?_)
    · have h := ite_t c23 h
      exact w_X11_moods_92 hd (f_X11_moods_41 n) ih l0 l1 l4 l5 l6 g20 k_l0 h
    · have h := ite_f c23 h
      refine SF_iload 3 85 dX11_moods_83 rfl rfl ?_
      refine SF_iconst (1 : Int32) 86 dX11_moods_85 rfl rfl ?_
      refine SF_iload 4 88 dX11_moods_86 rfl rfl ?_
      refine SF_ishl 89 dX11_moods_88 rfl ?_
      refine SF_ior 90 dX11_moods_89 rfl ?_
      obtain ⟨y24, e25, h⟩ := li_some h
      refine SF_eqI e25 ?_
      refine SF_istore [(5, .int y24), (0, .ref (ad X l0)), (1, .int l1), (4, .int l4), (6, .int l6)] 92 dX11_moods_90 (by decide) rfl rfl ?_
      refine SF_sub [1, 2, 3, 0, 4] rfl ?_
      exact w_X11_moods_92 hd (f_X11_moods_41 n) ih l0 l1 l4 y24 l6 g20 k_l0 h

set_option maxRecDepth 20000 in
set_option maxHeartbeats 2000000 in
theorem w_X11_moods {X : CX} {d : Nat} (hd : 6 ≤ d) (l0 : Nat) (l1 : Int32) (l2 : Int32) (g g' : G) (rx : Int32) (k_l0 : KD g l0 11) (h : f_X11_moods l0 l1 l2 g = some (rx, g')) : Sem X m_X11_moods d [.ref (ad X l0), .int l1, .int l2] g (some (.int rx)) g' := by
  refine Sem_of (lo := [(0, .ref (ad X l0)), (1, .int l1), (2, .int l2)]) (by decide +kernel) rfl (Nat.le_of_ble_eq_true rfl) ?_
  rw [f_X11_moods] at h
  refine SF_aload_n 0 1 dX11_moods_0 rfl rfl rfl ?_
  refine SF_iload_n 1 2 dX11_moods_1 rfl rfl rfl ?_
  refine SF_iload_n 2 3 dX11_moods_2 rfl rfl rfl ?_
  obtain ⟨v1, g2, q3, h⟩ := bd_some h
  have s4 := w_X11_triesRefused (X := X) (Nat.le_refl 1) l0 l1 l2 g g2 v1 k_l0 q3
  refine SF_callVi 6 mi_X11_triesRefused ml_X11_364 dX11_moods_3 (Nat.le_trans (by decide) hd) s4 k_l0.1 rfl rfl (Nat.le_of_ble_eq_true rfl) rfl ?_
  have k_l0 := k_l0.ext s4.1
  refine SF_istore_n [(3, .int v1), (0, .ref (ad X l0)), (1, .int l1), (2, .int l2)] 7 dX11_moods_6 rfl (by decide) rfl rfl ?_
  refine SF_iload_n 0 8 dX11_moods_7 rfl rfl rfl ?_
  refine SF_ifeq 13 11 dX11_moods_8 rfl rfl (fun c5 => ?_) (fun c5 => ?_)
  · have h := ite_t c5 h
    refine SF_aload_n 1 14 dX11_moods_13 rfl rfl rfl ?_
    obtain ⟨b6, r7, h⟩ := dr_some h
    refine SF_getR 17 fl_X11_78 dX11_moods_14 k_l0.1 r7 rfl ?_
    refine SF_iload_n 3 18 dX11_moods_17 rfl rfl rfl ?_
    obtain ⟨k8, h⟩ := gdK_some h
    obtain ⟨v9, g10, q11, h⟩ := bd_some h
    have s12 := w_X0_standOf (X := X) (Nat.le_refl 1) b6 l2 g2 g10 v9 k8 q11
    refine SF_callVi 21 mi_X0_standOf ml_X11_183 dX11_moods_18 (Nat.le_trans (by decide) hd) s12 k8.1 rfl rfl (Nat.le_of_ble_eq_true rfl) rfl ?_
    have k_l0 := k_l0.ext s12.1
    have k8 := k8.ext s12.1
    refine SF_istore [(4, .int v9), (3, .int v1), (0, .ref (ad X l0)), (1, .int l1), (2, .int l2)] 23 dX11_moods_21 (by decide) rfl rfl ?_
    refine SF_aload_n 2 24 dX11_moods_23 rfl rfl rfl ?_
    obtain ⟨b13, r14, h⟩ := dr_some h
    refine SF_getR 27 fl_X11_95 dX11_moods_24 k_l0.1 r14 rfl ?_
    refine SF_aload_n 2 28 dX11_moods_27 rfl rfl rfl ?_
    obtain ⟨b15, r16, h⟩ := dr_some h
    refine SF_getR 31 fl_X11_78 dX11_moods_28 k_l0.1 r16 rfl ?_
    refine SF_iload_n 4 32 dX11_moods_31 rfl rfl rfl ?_
    obtain ⟨k17, h⟩ := gdK_some h
    obtain ⟨k18, h⟩ := gdK_some h
    obtain ⟨v19, g20, q21, h⟩ := bd_some h
    have s22 := w_X9_aim (X := X) (Nat.le_refl 3) b13 b15 l2 g10 g20 v19 k17 k18 q21
    refine SF_callVv 35 mi_X9_aim ml_X11_306 dX11_moods_32 (Nat.le_trans (by decide) hd) s22 k17.1 rfl rfl (Nat.le_of_ble_eq_true rfl) rfl ?_
    have k_l0 := k_l0.ext s22.1
    have k8 := k8.ext s22.1
    have k17 := k17.ext s22.1
    have k18 := k18.ext s22.1
    refine SF_iconst (0 : Int32) 36 dX11_moods_35 rfl rfl ?_
    refine SF_istore [(5, .int (0 : Int32)), (4, .int v9), (3, .int v1), (0, .ref (ad X l0)), (1, .int l1), (2, .int l2)] 38 dX11_moods_36 (by decide) rfl rfl ?_
    refine SF_iconst (0 : Int32) 39 dX11_moods_38 rfl rfl ?_
    refine SF_istore [(6, .int (0 : Int32)), (5, .int (0 : Int32)), (4, .int v9), (3, .int v1), (0, .ref (ad X l0)), (1, .int l1), (2, .int l2)] 41 dX11_moods_39 (by decide) rfl rfl ?_
    refine SF_sub [4, 5, 2, 1, 0] rfl ?_
    exact w_X11_moods_41 hd FU l0 l1 v9 (0 : Int32) (0 : Int32) g20 k_l0 h
  · have h := ite_f c5 h
    refine SF_iload_n 0 12 dX11_moods_11 rfl rfl rfl ?_
    exact RT_i rfl dX11_moods_12 h

theorem dX12_moods_0 : decode cX12_moods 0 = .ok (.aload_n 0, 1) := by decide +kernel
theorem dX12_moods_1 : decode cX12_moods 1 = .ok (.iconst 0, 1) := by decide +kernel
theorem dX12_moods_2 : decode cX12_moods 2 = .ok (.putfield 1, 3) := by decide +kernel
theorem dX12_moods_5 : decode cX12_moods 5 = .ok (.aload_n 0, 1) := by decide +kernel
theorem dX12_moods_6 : decode cX12_moods 6 = .ok (.iload_n 1, 1) := by decide +kernel
theorem dX12_moods_7 : decode cX12_moods 7 = .ok (.iload_n 2, 1) := by decide +kernel
theorem dX12_moods_8 : decode cX12_moods 8 = .ok (.invokevirtual 456, 3) := by decide +kernel
theorem dX12_moods_11 : decode cX12_moods 11 = .ok (.istore_n 3, 1) := by decide +kernel
theorem dX12_moods_12 : decode cX12_moods 12 = .ok (.iload_n 3, 1) := by decide +kernel
theorem dX12_moods_13 : decode cX12_moods 13 = .ok (.ifCond .eq 5, 3) := by decide +kernel
theorem dX12_moods_16 : decode cX12_moods 16 = .ok (.iload_n 3, 1) := by decide +kernel
theorem dX12_moods_17 : decode cX12_moods 17 = .ok (.ireturn, 1) := by decide +kernel
theorem dX12_moods_18 : decode cX12_moods 18 = .ok (.aload_n 0, 1) := by decide +kernel
theorem dX12_moods_19 : decode cX12_moods 19 = .ok (.getfield 13, 3) := by decide +kernel
theorem dX12_moods_22 : decode cX12_moods 22 = .ok (.bipush 97, 2) := by decide +kernel
theorem dX12_moods_24 : decode cX12_moods 24 = .ok (.iload_n 2, 1) := by decide +kernel
theorem dX12_moods_25 : decode cX12_moods 25 = .ok (.iadd, 1) := by decide +kernel
theorem dX12_moods_26 : decode cX12_moods 26 = .ok (.iaload, 1) := by decide +kernel
theorem dX12_moods_27 : decode cX12_moods 27 = .ok (.istore 4, 2) := by decide +kernel
theorem dX12_moods_29 : decode cX12_moods 29 = .ok (.iconst 0, 1) := by decide +kernel
theorem dX12_moods_30 : decode cX12_moods 30 = .ok (.istore 5, 2) := by decide +kernel
theorem dX12_moods_32 : decode cX12_moods 32 = .ok (.iconst 0, 1) := by decide +kernel
theorem dX12_moods_33 : decode cX12_moods 33 = .ok (.istore 6, 2) := by decide +kernel
theorem dX12_moods_35 : decode cX12_moods 35 = .ok (.iload 6, 2) := by decide +kernel
theorem dX12_moods_37 : decode cX12_moods 37 = .ok (.bipush 10, 2) := by decide +kernel
theorem dX12_moods_39 : decode cX12_moods 39 = .ok (.if_icmp .ge 48, 3) := by decide +kernel
theorem dX12_moods_42 : decode cX12_moods 42 = .ok (.aload_n 0, 1) := by decide +kernel
theorem dX12_moods_43 : decode cX12_moods 43 = .ok (.getfield 13, 3) := by decide +kernel
theorem dX12_moods_46 : decode cX12_moods 46 = .ok (.bipush 97, 2) := by decide +kernel
theorem dX12_moods_48 : decode cX12_moods 48 = .ok (.iload_n 2, 1) := by decide +kernel
theorem dX12_moods_49 : decode cX12_moods 49 = .ok (.iadd, 1) := by decide +kernel
theorem dX12_moods_50 : decode cX12_moods 50 = .ok (.iload 6, 2) := by decide +kernel
theorem dX12_moods_52 : decode cX12_moods 52 = .ok (.iastore, 1) := by decide +kernel
theorem dX12_moods_53 : decode cX12_moods 53 = .ok (.iload 5, 2) := by decide +kernel
theorem dX12_moods_55 : decode cX12_moods 55 = .ok (.aload_n 0, 1) := by decide +kernel
theorem dX12_moods_56 : decode cX12_moods 56 = .ok (.iload_n 1, 1) := by decide +kernel
theorem dX12_moods_57 : decode cX12_moods 57 = .ok (.iload_n 2, 1) := by decide +kernel
theorem dX12_moods_58 : decode cX12_moods 58 = .ok (.aload_n 0, 1) := by decide +kernel
theorem dX12_moods_59 : decode cX12_moods 59 = .ok (.iload_n 2, 1) := by decide +kernel
theorem dX12_moods_60 : decode cX12_moods 60 = .ok (.iconst 1, 1) := by decide +kernel
theorem dX12_moods_61 : decode cX12_moods 61 = .ok (.invokevirtual 205, 3) := by decide +kernel
theorem dX12_moods_64 : decode cX12_moods 64 = .ok (.invokevirtual 449, 3) := by decide +kernel
theorem dX12_moods_67 : decode cX12_moods 67 = .ok (.ifCond .eq 10, 3) := by decide +kernel
theorem dX12_moods_70 : decode cX12_moods 70 = .ok (.iconst 1, 1) := by decide +kernel
theorem dX12_moods_71 : decode cX12_moods 71 = .ok (.iload 6, 2) := by decide +kernel
theorem dX12_moods_73 : decode cX12_moods 73 = .ok (.ishl, 1) := by decide +kernel
theorem dX12_moods_74 : decode cX12_moods 74 = .ok (.goto 4, 3) := by decide +kernel
theorem dX12_moods_77 : decode cX12_moods 77 = .ok (.iconst 0, 1) := by decide +kernel
theorem dX12_moods_78 : decode cX12_moods 78 = .ok (.ior, 1) := by decide +kernel
theorem dX12_moods_79 : decode cX12_moods 79 = .ok (.istore 5, 2) := by decide +kernel
theorem dX12_moods_81 : decode cX12_moods 81 = .ok (.iinc 6 1, 3) := by decide +kernel
theorem dX12_moods_84 : decode cX12_moods 84 = .ok (.goto (-49), 3) := by decide +kernel
theorem dX12_moods_87 : decode cX12_moods 87 = .ok (.aload_n 0, 1) := by decide +kernel
theorem dX12_moods_88 : decode cX12_moods 88 = .ok (.getfield 13, 3) := by decide +kernel
theorem dX12_moods_91 : decode cX12_moods 91 = .ok (.bipush 97, 2) := by decide +kernel
theorem dX12_moods_93 : decode cX12_moods 93 = .ok (.iload_n 2, 1) := by decide +kernel
theorem dX12_moods_94 : decode cX12_moods 94 = .ok (.iadd, 1) := by decide +kernel
theorem dX12_moods_95 : decode cX12_moods 95 = .ok (.iload 4, 2) := by decide +kernel
theorem dX12_moods_97 : decode cX12_moods 97 = .ok (.iastore, 1) := by decide +kernel
theorem dX12_moods_98 : decode cX12_moods 98 = .ok (.iload 5, 2) := by decide +kernel
theorem dX12_moods_100 : decode cX12_moods 100 = .ok (.ireturn, 1) := by decide +kernel
set_option maxRecDepth 20000 in
set_option maxHeartbeats 2000000 in
theorem w_X12_moods_78 {X : CX} {d : Nat} (hd : 6 ≤ d) {g' : G} {rx : Int32} (k35 : Nat → Int32 → Int32 → Int32 → Int32 → Int32 → G → Option (Int32 × G)) (hk35 : ∀ (l0 : Nat) (l1 : Int32) (l2 : Int32) (l4 : Int32) (l5 : Int32) (l6 : Int32) (g : G), KD g l0 12 → k35 l0 l1 l2 l4 l5 l6 g = some (rx, g') → SemF X m_X12_moods d 35 [(0, .ref (ad X l0)), (1, .int l1), (2, .int l2), (4, .int l4), (5, .int l5), (6, .int l6)] [] g (some (.int rx)) g') (l0 : Nat) (l1 : Int32) (l2 : Int32) (l4 : Int32) (l6 : Int32) (s0 : Int32) (s1 : Int32) (g : G) (k_l0 : KD g l0 12) (h : f_X12_moods_78 k35 l0 l1 l2 l4 l6 s0 s1 g = some (rx, g')) : SemF X m_X12_moods d 78 [(0, .ref (ad X l0)), (1, .int l1), (2, .int l2), (4, .int l4), (6, .int l6)] [.int s0, .int s1] g (some (.int rx)) g' := by
  rw [f_X12_moods_78] at h
  refine SF_ior 79 dX12_moods_78 rfl ?_
  obtain ⟨y1, e2, h⟩ := li_some h
  refine SF_eqI e2 ?_
  refine SF_istore [(5, .int y1), (0, .ref (ad X l0)), (1, .int l1), (2, .int l2), (4, .int l4), (6, .int l6)] 81 dX12_moods_79 (by decide) rfl rfl ?_
  refine SF_iinc 5 (l6 + (1 : Int32)) [(6, .int (l6 + (1 : Int32))), (5, .int y1), (0, .ref (ad X l0)), (1, .int l1), (2, .int l2), (4, .int l4)] 84 dX12_moods_81 rfl rfl (by decide) rfl rfl ?_
  refine SF_goto 35 dX12_moods_84 rfl ?_
  refine SF_sub [2, 3, 4, 5, 1, 0] rfl ?_
  exact hk35 l0 l1 l2 l4 y1 (l6 + (1 : Int32)) g k_l0 h

set_option maxRecDepth 20000 in
set_option maxHeartbeats 2000000 in
theorem w_X12_moods_35 {X : CX} {d : Nat} (hd : 6 ≤ d) {g' : G} {rx : Int32} : ∀ (n : Nat) (l0 : Nat) (l1 : Int32) (l2 : Int32) (l4 : Int32) (l5 : Int32) (l6 : Int32) (g : G), KD g l0 12 → f_X12_moods_35 n l0 l1 l2 l4 l5 l6 g = some (rx, g') → SemF X m_X12_moods d 35 [(0, .ref (ad X l0)), (1, .int l1), (2, .int l2), (4, .int l4), (5, .int l5), (6, .int l6)] [] g (some (.int rx)) g' := by
  intro n
  induction n with
  | zero =>
    intro l0 l1 l2 l4 l5 l6 g k_l0 h
    rw [f_X12_moods_35] at h
    cases h
  | succ n ih =>
  intro l0 l1 l2 l4 l5 l6 g k_l0 h
  rw [f_X12_moods_35] at h
  refine SF_iload 5 37 dX12_moods_35 rfl rfl ?_
  refine SF_bipush (10 : Int32) 39 dX12_moods_37 rfl rfl ?_
  refine SF_icge 87 42 dX12_moods_39 rfl rfl (fun c1 => ?_) (fun c1 => ?_)
  · have h := ite_t c1 h
    refine SF_aload_n 0 88 dX12_moods_87 rfl rfl rfl ?_
    obtain ⟨b2, r3, h⟩ := dr_some h
    refine SF_getR 91 fl_X12_13 dX12_moods_88 k_l0.1 r3 rfl ?_
    refine SF_bipush (97 : Int32) 93 dX12_moods_91 rfl rfl ?_
    refine SF_iload_n 2 94 dX12_moods_93 rfl rfl rfl ?_
    refine SF_iadd 95 dX12_moods_94 rfl ?_
    refine SF_iload 3 97 dX12_moods_95 rfl rfl ?_
    obtain ⟨k4, h⟩ := gdK_some h
    obtain ⟨i5, h⟩ := gdI_some h
    refine SF_iast 98 dX12_moods_97 k4.1 i5 rfl ?_
    obtain ⟨g6, e7, h⟩ := lg_some h
    rw [← e7]
    have k_l0 := KD.eq e7 k_l0
    have k4 := KD.eq e7 k4
    have r3 := gR_eq e7 r3
    have i5 := vp_eq e7 i5
    refine SF_iload 4 100 dX12_moods_98 rfl rfl ?_
    exact RT_i rfl dX12_moods_100 h
  · have h := ite_f c1 h
    refine SF_aload_n 0 43 dX12_moods_42 rfl rfl rfl ?_
    obtain ⟨b8, r9, h⟩ := dr_some h
    refine SF_getR 46 fl_X12_13 dX12_moods_43 k_l0.1 r9 rfl ?_
    refine SF_bipush (97 : Int32) 48 dX12_moods_46 rfl rfl ?_
    refine SF_iload_n 2 49 dX12_moods_48 rfl rfl rfl ?_
    refine SF_iadd 50 dX12_moods_49 rfl ?_
    refine SF_iload 5 52 dX12_moods_50 rfl rfl ?_
    obtain ⟨k10, h⟩ := gdK_some h
    obtain ⟨i11, h⟩ := gdI_some h
    refine SF_iast 53 dX12_moods_52 k10.1 i11 rfl ?_
    obtain ⟨g12, e13, h⟩ := lg_some h
    rw [← e13]
    have k_l0 := KD.eq e13 k_l0
    have k10 := KD.eq e13 k10
    have r9 := gR_eq e13 r9
    have i11 := vp_eq e13 i11
    refine SF_iload 4 55 dX12_moods_53 rfl rfl ?_
    refine SF_aload_n 0 56 dX12_moods_55 rfl rfl rfl ?_
    refine SF_iload_n 1 57 dX12_moods_56 rfl rfl rfl ?_
    refine SF_iload_n 2 58 dX12_moods_57 rfl rfl rfl ?_
    refine SF_aload_n 0 59 dX12_moods_58 rfl rfl rfl ?_
    refine SF_iload_n 2 60 dX12_moods_59 rfl rfl rfl ?_
    refine SF_iconst (1 : Int32) 61 dX12_moods_60 rfl rfl ?_
    obtain ⟨v14, g15, q16, h⟩ := bd_some h
    have s17 := w_X12_twinOf (X := X) (Nat.le_refl 0) l0 l2 (1 : Int32) g12 g15 v14 k_l0 q16
    refine SF_callVi 64 mi_X12_twinOf ml_X12_205 dX12_moods_61 (Nat.le_trans (by decide) hd) s17 k_l0.1 rfl rfl (Nat.le_of_ble_eq_true rfl) rfl ?_
    have k_l0 := k_l0.ext s17.1
    have k10 := k10.ext s17.1
    obtain ⟨v18, g19, q20, h⟩ := bd_some h
    have s21 := w_X12_isTried (X := X) (Nat.le_refl 5) l0 l1 l2 v14 g15 g19 v18 k_l0 q20
    refine SF_callVb 67 mi_X12_isTried ml_X12_449 dX12_moods_64 (Nat.le_trans (by decide) hd) s21 k_l0.1 rfl rfl (Nat.le_of_ble_eq_true rfl) rfl ?_
    have k_l0 := k_l0.ext s21.1
    have k10 := k10.ext s21.1
    refine SF_ifeq 77 70 dX12_moods_67 rfl rfl (fun c22 => ?_) (fun c22 => ?_)
    · have h := ite_t c22 h
      refine SF_iconst (0 : Int32) 78 dX12_moods_77 rfl rfl ?_
      refine SF_sub [0, 1, 2, 3, 5] rfl ?_
      exact w_X12_moods_78 hd (f_X12_moods_35 n) ih l0 l1 l2 l4 l6 (0 : Int32) l5 g19 k_l0 h
    · have h := ite_f c22 h
      refine SF_iconst (1 : Int32) 71 dX12_moods_70 rfl rfl ?_
      refine SF_iload 5 73 dX12_moods_71 rfl rfl ?_
      refine SF_ishl 74 dX12_moods_73 rfl ?_
      refine SF_goto 78 dX12_moods_74 rfl ?_
      refine SF_sub [0, 1, 2, 3, 5] rfl ?_
      exact w_X12_moods_78 hd (f_X12_moods_35 n) ih l0 l1 l2 l4 l6 ((1 : Int32) <<< (l6 &&& 31)) l5 g19 k_l0 h

set_option maxRecDepth 20000 in
set_option maxHeartbeats 2000000 in
theorem w_X12_moods {X : CX} {d : Nat} (hd : 6 ≤ d) (l0 : Nat) (l1 : Int32) (l2 : Int32) (g g' : G) (rx : Int32) (k_l0 : KD g l0 12) (h : f_X12_moods l0 l1 l2 g = some (rx, g')) : Sem X m_X12_moods d [.ref (ad X l0), .int l1, .int l2] g (some (.int rx)) g' := by
  refine Sem_of (lo := [(0, .ref (ad X l0)), (1, .int l1), (2, .int l2)]) (by decide +kernel) rfl (Nat.le_of_ble_eq_true rfl) ?_
  rw [f_X12_moods] at h
  refine SF_aload_n 0 1 dX12_moods_0 rfl rfl rfl ?_
  refine SF_iconst (0 : Int32) 2 dX12_moods_1 rfl rfl ?_
  refine SF_putI 5 fl_X12_1 dX12_moods_2 k_l0.1 (fn_int _) (Or.inl rfl) rfl ?_
  obtain ⟨g1, e2, h⟩ := lg_some h
  rw [← e2]
  have k_l0 := KD.eq e2 k_l0
  refine SF_aload_n 0 6 dX12_moods_5 rfl rfl rfl ?_
  refine SF_iload_n 1 7 dX12_moods_6 rfl rfl rfl ?_
  refine SF_iload_n 2 8 dX12_moods_7 rfl rfl rfl ?_
  obtain ⟨v3, g4, q5, h⟩ := bd_some h
  have s6 := w_X12_noTried (X := X) (Nat.le_refl 2) l0 l1 l2 g1 g4 v3 k_l0 q5
  refine SF_callVi 11 mi_X12_noTried ml_X12_456 dX12_moods_8 (Nat.le_trans (by decide) hd) s6 k_l0.1 rfl rfl (Nat.le_of_ble_eq_true rfl) rfl ?_
  have k_l0 := k_l0.ext s6.1
  refine SF_istore_n [(3, .int v3), (0, .ref (ad X l0)), (1, .int l1), (2, .int l2)] 12 dX12_moods_11 rfl (by decide) rfl rfl ?_
  refine SF_iload_n 0 13 dX12_moods_12 rfl rfl rfl ?_
  refine SF_ifeq 18 16 dX12_moods_13 rfl rfl (fun c7 => ?_) (fun c7 => ?_)
  · have h := ite_t c7 h
    refine SF_aload_n 1 19 dX12_moods_18 rfl rfl rfl ?_
    obtain ⟨b8, r9, h⟩ := dr_some h
    refine SF_getR 22 fl_X12_13 dX12_moods_19 k_l0.1 r9 rfl ?_
    refine SF_bipush (97 : Int32) 24 dX12_moods_22 rfl rfl ?_
    refine SF_iload_n 3 25 dX12_moods_24 rfl rfl rfl ?_
    refine SF_iadd 26 dX12_moods_25 rfl ?_
    obtain ⟨k10, h⟩ := gdK_some h
    obtain ⟨i11, h⟩ := gdI_some h
    refine SF_iald 27 dX12_moods_26 k10.1 i11 rfl ?_
    obtain ⟨y12, e13, h⟩ := li_some h
    refine SF_eqI e13 ?_
    refine SF_istore [(4, .int y12), (3, .int v3), (0, .ref (ad X l0)), (1, .int l1), (2, .int l2)] 29 dX12_moods_27 (by decide) rfl rfl ?_
    refine SF_iconst (0 : Int32) 30 dX12_moods_29 rfl rfl ?_
    refine SF_istore [(5, .int (0 : Int32)), (4, .int y12), (3, .int v3), (0, .ref (ad X l0)), (1, .int l1), (2, .int l2)] 32 dX12_moods_30 (by decide) rfl rfl ?_
    refine SF_iconst (0 : Int32) 33 dX12_moods_32 rfl rfl ?_
    refine SF_istore [(6, .int (0 : Int32)), (5, .int (0 : Int32)), (4, .int y12), (3, .int v3), (0, .ref (ad X l0)), (1, .int l1), (2, .int l2)] 35 dX12_moods_33 (by decide) rfl rfl ?_
    refine SF_sub [4, 5, 6, 2, 1, 0] rfl ?_
    exact w_X12_moods_35 hd FU l0 l1 l2 y12 (0 : Int32) (0 : Int32) g4 k_l0 h
  · have h := ite_f c7 h
    refine SF_iload_n 0 17 dX12_moods_16 rfl rfl rfl ?_
    exact RT_i rfl dX12_moods_17 h

theorem dX11_chances_0 : decode cX11_chances 0 = .ok (.lconst 1, 1) := by decide +kernel
theorem dX11_chances_1 : decode cX11_chances 1 = .ok (.lstore_n 3, 1) := by decide +kernel
theorem dX11_chances_2 : decode cX11_chances 2 = .ok (.aload_n 0, 1) := by decide +kernel
theorem dX11_chances_3 : decode cX11_chances 3 = .ok (.getfield 54, 3) := by decide +kernel
theorem dX11_chances_6 : decode cX11_chances 6 = .ok (.invokevirtual 290, 3) := by decide +kernel
theorem dX11_chances_9 : decode cX11_chances 9 = .ok (.iconst 0, 1) := by decide +kernel
theorem dX11_chances_10 : decode cX11_chances 10 = .ok (.istore 5, 2) := by decide +kernel
theorem dX11_chances_12 : decode cX11_chances 12 = .ok (.iload 5, 2) := by decide +kernel
theorem dX11_chances_14 : decode cX11_chances 14 = .ok (.iload_n 2, 1) := by decide +kernel
theorem dX11_chances_15 : decode cX11_chances 15 = .ok (.if_icmp .ge 24, 3) := by decide +kernel
theorem dX11_chances_18 : decode cX11_chances 18 = .ok (.aload_n 0, 1) := by decide +kernel
theorem dX11_chances_19 : decode cX11_chances 19 = .ok (.getfield 54, 3) := by decide +kernel
theorem dX11_chances_22 : decode cX11_chances 22 = .ok (.aload_n 1, 1) := by decide +kernel
theorem dX11_chances_23 : decode cX11_chances 23 = .ok (.iconst 1, 1) := by decide +kernel
theorem dX11_chances_24 : decode cX11_chances 24 = .ok (.invokevirtual 293, 3) := by decide +kernel
theorem dX11_chances_27 : decode cX11_chances 27 = .ok (.lload_n 3, 1) := by decide +kernel
theorem dX11_chances_28 : decode cX11_chances 28 = .ok (.ldc2_w 401, 3) := by decide +kernel
theorem dX11_chances_31 : decode cX11_chances 31 = .ok (.lmul, 1) := by decide +kernel
theorem dX11_chances_32 : decode cX11_chances 32 = .ok (.lstore_n 3, 1) := by decide +kernel
theorem dX11_chances_33 : decode cX11_chances 33 = .ok (.iinc 5 1, 3) := by decide +kernel
theorem dX11_chances_36 : decode cX11_chances 36 = .ok (.goto (-24), 3) := by decide +kernel
theorem dX11_chances_39 : decode cX11_chances 39 = .ok (.lload_n 3, 1) := by decide +kernel
theorem dX11_chances_40 : decode cX11_chances 40 = .ok (.lreturn, 1) := by decide +kernel
set_option maxRecDepth 20000 in
set_option maxHeartbeats 2000000 in
theorem w_X11_chances_12 {X : CX} {d : Nat} (hd : 4 ≤ d) {g' : G} {rx : Int64} : ∀ (n : Nat) (l0 : Nat) (l1 : Nat) (l2 : Int32) (l3 : Int64) (l5 : Int32) (g : G), KD g l0 11 → KD g l1 4 → f_X11_chances_12 n l0 l1 l2 l3 l5 g = some (rx, g') → SemF X m_X11_chances d 12 [(0, .ref (ad X l0)), (1, .ref (ad X l1)), (2, .int l2), (3, .long l3), (5, .int l5)] [] g (some (.long rx)) g' := by
  intro n
  induction n with
  | zero =>
    intro l0 l1 l2 l3 l5 g k_l0 k_l1 h
    rw [f_X11_chances_12] at h
    cases h
  | succ n ih =>
  intro l0 l1 l2 l3 l5 g k_l0 k_l1 h
  rw [f_X11_chances_12] at h
  refine SF_iload 4 14 dX11_chances_12 rfl rfl ?_
  refine SF_iload_n 2 15 dX11_chances_14 rfl rfl rfl ?_
  refine SF_icge 39 18 dX11_chances_15 rfl rfl (fun c1 => ?_) (fun c1 => ?_)
  · have h := ite_t c1 h
    refine SF_lload_n 3 40 dX11_chances_39 rfl rfl rfl ?_
    exact RT_l rfl dX11_chances_40 h
  · have h := ite_f c1 h
    refine SF_aload_n 0 19 dX11_chances_18 rfl rfl rfl ?_
    obtain ⟨b2, r3, h⟩ := dr_some h
    refine SF_getR 22 fl_X11_54 dX11_chances_19 k_l0.1 r3 rfl ?_
    refine SF_aload_n 1 23 dX11_chances_22 rfl rfl rfl ?_
    refine SF_iconst (1 : Int32) 24 dX11_chances_23 rfl rfl ?_
    obtain ⟨k4, h⟩ := gdK_some h
    obtain ⟨v5, g6, q7, h⟩ := bd_some h
    have s8 := w_X6_goOn (X := X) (Nat.le_refl 3) b2 l1 (1 : Int32) g g6 v5 k4 k_l1 q7
    refine SF_callVv 27 mi_X6_goOn ml_X11_293 dX11_chances_24 (Nat.le_trans (by decide) hd) s8 k4.1 rfl rfl (Nat.le_of_ble_eq_true rfl) rfl ?_
    have k_l0 := k_l0.ext s8.1
    have k_l1 := k_l1.ext s8.1
    have k4 := k4.ext s8.1
    refine SF_lload_n 3 28 dX11_chances_27 rfl rfl rfl ?_
    refine SF_ldc2 31 dX11_chances_28 kl_X11_401 rfl ?_
    refine SF_lmul 32 dX11_chances_31 rfl ?_
    obtain ⟨y9, e10, h⟩ := ll_some h
    refine SF_eqL e10 ?_
    refine SF_lstore_n [(3, .long y9), (0, .ref (ad X l0)), (1, .ref (ad X l1)), (2, .int l2), (5, .int l5)] 33 dX11_chances_32 rfl (by decide) rfl rfl ?_
    refine SF_iinc 4 (l5 + (1 : Int32)) [(5, .int (l5 + (1 : Int32))), (3, .long y9), (0, .ref (ad X l0)), (1, .ref (ad X l1)), (2, .int l2)] 36 dX11_chances_33 rfl rfl (by decide) rfl rfl ?_
    refine SF_goto 12 dX11_chances_36 rfl ?_
    refine SF_sub [2, 3, 4, 1, 0] rfl ?_
    exact ih l0 l1 l2 y9 (l5 + (1 : Int32)) g6 k_l0 k_l1 h

set_option maxRecDepth 20000 in
set_option maxHeartbeats 2000000 in
theorem w_X11_chances {X : CX} {d : Nat} (hd : 4 ≤ d) (l0 : Nat) (l1 : Nat) (l2 : Int32) (g g' : G) (rx : Int64) (k_l0 : KD g l0 11) (k_l1 : KD g l1 4) (h : f_X11_chances l0 l1 l2 g = some (rx, g')) : Sem X m_X11_chances d [.ref (ad X l0), .ref (ad X l1), .int l2] g (some (.long rx)) g' := by
  refine Sem_of (lo := [(0, .ref (ad X l0)), (1, .ref (ad X l1)), (2, .int l2)]) (by decide +kernel) rfl (Nat.le_of_ble_eq_true rfl) ?_
  rw [f_X11_chances] at h
  refine SF_lconst (1 : Int64) 1 dX11_chances_0 rfl rfl ?_
  refine SF_lstore_n [(3, .long (1 : Int64)), (0, .ref (ad X l0)), (1, .ref (ad X l1)), (2, .int l2)] 2 dX11_chances_1 rfl (by decide) rfl rfl ?_
  refine SF_aload_n 1 3 dX11_chances_2 rfl rfl rfl ?_
  obtain ⟨b1, r2, h⟩ := dr_some h
  refine SF_getR 6 fl_X11_54 dX11_chances_3 k_l0.1 r2 rfl ?_
  obtain ⟨k3, h⟩ := gdK_some h
  obtain ⟨v4, g5, q6, h⟩ := bd_some h
  have s7 := w_X6_start (X := X) (Nat.le_refl 1) b1 g g5 v4 k3 q6
  refine SF_callVv 9 mi_X6_start ml_X11_290 dX11_chances_6 (Nat.le_trans (by decide) hd) s7 k3.1 rfl rfl (Nat.le_of_ble_eq_true rfl) rfl ?_
  have k_l0 := k_l0.ext s7.1
  have k_l1 := k_l1.ext s7.1
  have k3 := k3.ext s7.1
  refine SF_iconst (0 : Int32) 10 dX11_chances_9 rfl rfl ?_
  refine SF_istore [(5, .int (0 : Int32)), (3, .long (1 : Int64)), (0, .ref (ad X l0)), (1, .ref (ad X l1)), (2, .int l2)] 12 dX11_chances_10 (by decide) rfl rfl ?_
  refine SF_sub [2, 3, 4, 1, 0] rfl ?_
  exact w_X11_chances_12 hd FU l0 l1 l2 (1 : Int64) (0 : Int32) g5 k_l0 k_l1 h

theorem dX11_commonDivisor_0 : decode cX11_commonDivisor 0 = .ok (.lload_n 0, 1) := by decide +kernel
theorem dX11_commonDivisor_1 : decode cX11_commonDivisor 1 = .ok (.lstore 4, 2) := by decide +kernel
theorem dX11_commonDivisor_3 : decode cX11_commonDivisor 3 = .ok (.lload_n 2, 1) := by decide +kernel
theorem dX11_commonDivisor_4 : decode cX11_commonDivisor 4 = .ok (.lstore 6, 2) := by decide +kernel
theorem dX11_commonDivisor_6 : decode cX11_commonDivisor 6 = .ok (.iconst 0, 1) := by decide +kernel
theorem dX11_commonDivisor_7 : decode cX11_commonDivisor 7 = .ok (.istore 8, 2) := by decide +kernel
theorem dX11_commonDivisor_9 : decode cX11_commonDivisor 9 = .ok (.iload 8, 2) := by decide +kernel
theorem dX11_commonDivisor_11 : decode cX11_commonDivisor 11 = .ok (.bipush 100, 2) := by decide +kernel
theorem dX11_commonDivisor_13 : decode cX11_commonDivisor 13 = .ok (.if_icmp .ge 31, 3) := by decide +kernel
theorem dX11_commonDivisor_16 : decode cX11_commonDivisor 16 = .ok (.lload 6, 2) := by decide +kernel
theorem dX11_commonDivisor_18 : decode cX11_commonDivisor 18 = .ok (.lconst 0, 1) := by decide +kernel
theorem dX11_commonDivisor_19 : decode cX11_commonDivisor 19 = .ok (.lcmp, 1) := by decide +kernel
theorem dX11_commonDivisor_20 : decode cX11_commonDivisor 20 = .ok (.ifCond .le 24, 3) := by decide +kernel
theorem dX11_commonDivisor_23 : decode cX11_commonDivisor 23 = .ok (.lload 4, 2) := by decide +kernel
theorem dX11_commonDivisor_25 : decode cX11_commonDivisor 25 = .ok (.lload 6, 2) := by decide +kernel
theorem dX11_commonDivisor_27 : decode cX11_commonDivisor 27 = .ok (.lrem, 1) := by decide +kernel
theorem dX11_commonDivisor_28 : decode cX11_commonDivisor 28 = .ok (.lstore 9, 2) := by decide +kernel
theorem dX11_commonDivisor_30 : decode cX11_commonDivisor 30 = .ok (.lload 6, 2) := by decide +kernel
theorem dX11_commonDivisor_32 : decode cX11_commonDivisor 32 = .ok (.lstore 4, 2) := by decide +kernel
theorem dX11_commonDivisor_34 : decode cX11_commonDivisor 34 = .ok (.lload 9, 2) := by decide +kernel
theorem dX11_commonDivisor_36 : decode cX11_commonDivisor 36 = .ok (.lstore 6, 2) := by decide +kernel
theorem dX11_commonDivisor_38 : decode cX11_commonDivisor 38 = .ok (.iinc 8 1, 3) := by decide +kernel
theorem dX11_commonDivisor_41 : decode cX11_commonDivisor 41 = .ok (.goto (-32), 3) := by decide +kernel
theorem dX11_commonDivisor_44 : decode cX11_commonDivisor 44 = .ok (.lload 4, 2) := by decide +kernel
theorem dX11_commonDivisor_46 : decode cX11_commonDivisor 46 = .ok (.lreturn, 1) := by decide +kernel
set_option maxRecDepth 20000 in
set_option maxHeartbeats 2000000 in
theorem w_X11_commonDivisor_44 {X : CX} {d : Nat} (hd : 0 ≤ d) {g' : G} {rx : Int64} (l4 : Int64) (g : G) (h : f_X11_commonDivisor_44 l4 g = some (rx, g')) : SemF X m_X11_commonDivisor d 44 [(4, .long l4)] [] g (some (.long rx)) g' := by
  rw [f_X11_commonDivisor_44] at h
  refine SF_lload 0 46 dX11_commonDivisor_44 rfl rfl ?_
  exact RT_l rfl dX11_commonDivisor_46 h

set_option maxRecDepth 20000 in
set_option maxHeartbeats 2000000 in
theorem w_X11_commonDivisor_9 {X : CX} {d : Nat} (hd : 0 ≤ d) {g' : G} {rx : Int64} : ∀ (n : Nat) (l4 : Int64) (l6 : Int64) (l8 : Int32) (g : G), f_X11_commonDivisor_9 n l4 l6 l8 g = some (rx, g') → SemF X m_X11_commonDivisor d 9 [(4, .long l4), (6, .long l6), (8, .int l8)] [] g (some (.long rx)) g' := by
  intro n
  induction n with
  | zero =>
    intro l4 l6 l8 g h
    rw [f_X11_commonDivisor_9] at h
    cases h
  | succ n ih =>
  intro l4 l6 l8 g h
  rw [f_X11_commonDivisor_9] at h
  refine SF_iload 2 11 dX11_commonDivisor_9 rfl rfl ?_
  refine SF_bipush (100 : Int32) 13 dX11_commonDivisor_11 rfl rfl ?_
  refine SF_icge 44 16 dX11_commonDivisor_13 rfl rfl (fun c1 => ?_) (fun c1 => ?_)
  · have h := ite_t c1 h
    refine SF_sub [0] rfl ?_
    exact w_X11_commonDivisor_44 hd l4 g  h
  · have h := ite_f c1 h
    refine SF_lload 1 18 dX11_commonDivisor_16 rfl rfl ?_
    refine SF_lconst (0 : Int64) 19 dX11_commonDivisor_18 rfl rfl ?_
    refine SF_lcmp 20 dX11_commonDivisor_19 rfl ?_
    refine SF_ifle 44 23 dX11_commonDivisor_20 rfl rfl (fun c2 => ?_) (fun c2 => ?_)
    · have h := ite_t c2 h
      refine SF_sub [0] rfl ?_
      exact w_X11_commonDivisor_44 hd l4 g  h
    · have h := ite_f c2 h
      refine SF_lload 0 25 dX11_commonDivisor_23 rfl rfl ?_
      refine SF_lload 1 27 dX11_commonDivisor_25 rfl rfl ?_
      obtain ⟨z3, h⟩ := gdZl_some h
      refine SF_lrem 28 dX11_commonDivisor_27 z3 rfl ?_
      obtain ⟨y4, e5, h⟩ := ll_some h
      refine SF_eqL e5 ?_
      refine SF_lstore [(9, .long y4), (4, .long l4), (6, .long l6), (8, .int l8)] 30 dX11_commonDivisor_28 (by decide) rfl rfl ?_
      refine SF_lload 2 32 dX11_commonDivisor_30 rfl rfl ?_
      refine SF_lstore [(4, .long l6), (9, .long y4), (6, .long l6), (8, .int l8)] 34 dX11_commonDivisor_32 (by decide) rfl rfl ?_
      refine SF_lload 1 36 dX11_commonDivisor_34 rfl rfl ?_
      refine SF_lstore [(6, .long y4), (4, .long l6), (9, .long y4), (8, .int l8)] 38 dX11_commonDivisor_36 (by decide) rfl rfl ?_
      refine SF_iinc 3 (l8 + (1 : Int32)) [(8, .int (l8 + (1 : Int32))), (6, .long y4), (4, .long l6), (9, .long y4)] 41 dX11_commonDivisor_38 rfl rfl (by decide) rfl rfl ?_
      refine SF_goto 9 dX11_commonDivisor_41 rfl ?_
      refine SF_sub [2, 1, 0] rfl ?_
      exact ih l6 y4 (l8 + (1 : Int32)) g  h

set_option maxRecDepth 20000 in
set_option maxHeartbeats 2000000 in
theorem w_X11_commonDivisor {X : CX} {d : Nat} (hd : 0 ≤ d) (l0 : Int64) (l2 : Int64) (g g' : G) (rx : Int64) (h : f_X11_commonDivisor l0 l2 g = some (rx, g')) : Sem X m_X11_commonDivisor d [.long l0, .long l2] g (some (.long rx)) g' := by
  refine Sem_of (lo := [(0, .long l0), (2, .long l2)]) (by decide +kernel) rfl (Nat.le_of_ble_eq_true rfl) ?_
  rw [f_X11_commonDivisor] at h
  refine SF_lload_n 0 1 dX11_commonDivisor_0 rfl rfl rfl ?_
  refine SF_lstore [(4, .long l0), (0, .long l0), (2, .long l2)] 3 dX11_commonDivisor_1 (by decide) rfl rfl ?_
  refine SF_lload_n 2 4 dX11_commonDivisor_3 rfl rfl rfl ?_
  refine SF_lstore [(6, .long l2), (4, .long l0), (0, .long l0), (2, .long l2)] 6 dX11_commonDivisor_4 (by decide) rfl rfl ?_
  refine SF_iconst (0 : Int32) 7 dX11_commonDivisor_6 rfl rfl ?_
  refine SF_istore [(8, .int (0 : Int32)), (6, .long l2), (4, .long l0), (0, .long l0), (2, .long l2)] 9 dX11_commonDivisor_7 (by decide) rfl rfl ?_
  refine SF_sub [2, 1, 0] rfl ?_
  exact w_X11_commonDivisor_9 hd FU l0 l2 (0 : Int32) g  h

theorem dX11_chance_0 : decode cX11_chance 0 = .ok (.aload_n 0, 1) := by decide +kernel
theorem dX11_chance_1 : decode cX11_chance 1 = .ok (.getfield 78, 3) := by decide +kernel
theorem dX11_chance_4 : decode cX11_chance 4 = .ok (.iload_n 1, 1) := by decide +kernel
theorem dX11_chance_5 : decode cX11_chance 5 = .ok (.invokevirtual 161, 3) := by decide +kernel
theorem dX11_chance_8 : decode cX11_chance 8 = .ok (.ifCond .eq 28, 3) := by decide +kernel
theorem dX11_chance_11 : decode cX11_chance 11 = .ok (.iload_n 2, 1) := by decide +kernel
theorem dX11_chance_12 : decode cX11_chance 12 = .ok (.invokestatic 333, 3) := by decide +kernel
theorem dX11_chance_15 : decode cX11_chance 15 = .ok (.ifCond .eq 21, 3) := by decide +kernel
theorem dX11_chance_18 : decode cX11_chance 18 = .ok (.aload_n 0, 1) := by decide +kernel
theorem dX11_chance_19 : decode cX11_chance 19 = .ok (.getfield 78, 3) := by decide +kernel
theorem dX11_chance_22 : decode cX11_chance 22 = .ok (.getfield 136, 3) := by decide +kernel
theorem dX11_chance_25 : decode cX11_chance 25 = .ok (.iload_n 3, 1) := by decide +kernel
theorem dX11_chance_26 : decode cX11_chance 26 = .ok (.invokevirtual 143, 3) := by decide +kernel
theorem dX11_chance_29 : decode cX11_chance 29 = .ok (.ifCond .eq 7, 3) := by decide +kernel
theorem dX11_chance_32 : decode cX11_chance 32 = .ok (.iconst 1, 1) := by decide +kernel
theorem dX11_chance_33 : decode cX11_chance 33 = .ok (.goto 4, 3) := by decide +kernel
theorem dX11_chance_36 : decode cX11_chance 36 = .ok (.iconst 0, 1) := by decide +kernel
theorem dX11_chance_37 : decode cX11_chance 37 = .ok (.istore 6, 2) := by decide +kernel
theorem dX11_chance_39 : decode cX11_chance 39 = .ok (.iload 6, 2) := by decide +kernel
theorem dX11_chance_41 : decode cX11_chance 41 = .ok (.ifCond .eq 14, 3) := by decide +kernel
theorem dX11_chance_44 : decode cX11_chance 44 = .ok (.iload 5, 2) := by decide +kernel
theorem dX11_chance_46 : decode cX11_chance 46 = .ok (.ifCond .lt 9, 3) := by decide +kernel
theorem dX11_chance_49 : decode cX11_chance 49 = .ok (.iload 5, 2) := by decide +kernel
theorem dX11_chance_51 : decode cX11_chance 51 = .ok (.iconst 1, 1) := by decide +kernel
theorem dX11_chance_52 : decode cX11_chance 52 = .ok (.if_icmp .le 7, 3) := by decide +kernel
theorem dX11_chance_55 : decode cX11_chance 55 = .ok (.ldc2_w 286, 3) := by decide +kernel
theorem dX11_chance_58 : decode cX11_chance 58 = .ok (.lreturn, 1) := by decide +kernel
theorem dX11_chance_59 : decode cX11_chance 59 = .ok (.iload 4, 2) := by decide +kernel
theorem dX11_chance_61 : decode cX11_chance 61 = .ok (.ifCond .lt 9, 3) := by decide +kernel
theorem dX11_chance_64 : decode cX11_chance 64 = .ok (.iload 4, 2) := by decide +kernel
theorem dX11_chance_66 : decode cX11_chance 66 = .ok (.iconst 5, 1) := by decide +kernel
theorem dX11_chance_67 : decode cX11_chance 67 = .ok (.if_icmp .le 7, 3) := by decide +kernel
theorem dX11_chance_70 : decode cX11_chance 70 = .ok (.ldc2_w 288, 3) := by decide +kernel
theorem dX11_chance_73 : decode cX11_chance 73 = .ok (.lreturn, 1) := by decide +kernel
theorem dX11_chance_74 : decode cX11_chance 74 = .ok (.aload_n 0, 1) := by decide +kernel
theorem dX11_chance_75 : decode cX11_chance 75 = .ok (.iload_n 1, 1) := by decide +kernel
theorem dX11_chance_76 : decode cX11_chance 76 = .ok (.invokevirtual 259, 3) := by decide +kernel
theorem dX11_chance_79 : decode cX11_chance 79 = .ok (.astore 7, 2) := by decide +kernel
theorem dX11_chance_81 : decode cX11_chance 81 = .ok (.aload_n 0, 1) := by decide +kernel
theorem dX11_chance_82 : decode cX11_chance 82 = .ok (.aload 7, 2) := by decide +kernel
theorem dX11_chance_84 : decode cX11_chance 84 = .ok (.iload 4, 2) := by decide +kernel
theorem dX11_chance_86 : decode cX11_chance 86 = .ok (.invokevirtual 389, 3) := by decide +kernel
theorem dX11_chance_89 : decode cX11_chance 89 = .ok (.lstore 8, 2) := by decide +kernel
theorem dX11_chance_91 : decode cX11_chance 91 = .ok (.aload_n 0, 1) := by decide +kernel
theorem dX11_chance_92 : decode cX11_chance 92 = .ok (.getfield 54, 3) := by decide +kernel
theorem dX11_chance_95 : decode cX11_chance 95 = .ok (.aload 7, 2) := by decide +kernel
theorem dX11_chance_97 : decode cX11_chance 97 = .ok (.iload_n 2, 1) := by decide +kernel
theorem dX11_chance_98 : decode cX11_chance 98 = .ok (.ifCond .ne 7, 3) := by decide +kernel
theorem dX11_chance_101 : decode cX11_chance 101 = .ok (.iload_n 3, 1) := by decide +kernel
theorem dX11_chance_102 : decode cX11_chance 102 = .ok (.goto 4, 3) := by decide +kernel
theorem dX11_chance_105 : decode cX11_chance 105 = .ok (.iconst (-1), 1) := by decide +kernel
theorem dX11_chance_106 : decode cX11_chance 106 = .ok (.iload_n 2, 1) := by decide +kernel
theorem dX11_chance_107 : decode cX11_chance 107 = .ok (.iconst 1, 1) := by decide +kernel
theorem dX11_chance_108 : decode cX11_chance 108 = .ok (.if_icmp .ne 7, 3) := by decide +kernel
theorem dX11_chance_111 : decode cX11_chance 111 = .ok (.iload_n 3, 1) := by decide +kernel
theorem dX11_chance_112 : decode cX11_chance 112 = .ok (.goto 4, 3) := by decide +kernel
theorem dX11_chance_115 : decode cX11_chance 115 = .ok (.iconst (-1), 1) := by decide +kernel
theorem dX11_chance_116 : decode cX11_chance 116 = .ok (.invokevirtual 297, 3) := by decide +kernel
theorem dX11_chance_119 : decode cX11_chance 119 = .ok (.lstore 10, 2) := by decide +kernel
theorem dX11_chance_121 : decode cX11_chance 121 = .ok (.lload 8, 2) := by decide +kernel
theorem dX11_chance_123 : decode cX11_chance 123 = .ok (.lload 10, 2) := by decide +kernel
theorem dX11_chance_125 : decode cX11_chance 125 = .ok (.invokestatic 393, 3) := by decide +kernel
theorem dX11_chance_128 : decode cX11_chance 128 = .ok (.lstore 12, 2) := by decide +kernel
theorem dX11_chance_130 : decode cX11_chance 130 = .ok (.lload 12, 2) := by decide +kernel
theorem dX11_chance_132 : decode cX11_chance 132 = .ok (.lconst 1, 1) := by decide +kernel
theorem dX11_chance_133 : decode cX11_chance 133 = .ok (.lcmp, 1) := by decide +kernel
theorem dX11_chance_134 : decode cX11_chance 134 = .ok (.ifCond .ge 5, 3) := by decide +kernel
theorem dX11_chance_137 : decode cX11_chance 137 = .ok (.lconst 0, 1) := by decide +kernel
theorem dX11_chance_138 : decode cX11_chance 138 = .ok (.lreturn, 1) := by decide +kernel
theorem dX11_chance_139 : decode cX11_chance 139 = .ok (.iload 5, 2) := by decide +kernel
theorem dX11_chance_141 : decode cX11_chance 141 = .ok (.ifCond .ne 8, 3) := by decide +kernel
theorem dX11_chance_144 : decode cX11_chance 144 = .ok (.lload 10, 2) := by decide +kernel
theorem dX11_chance_146 : decode cX11_chance 146 = .ok (.goto 5, 3) := by decide +kernel
theorem dX11_chance_149 : decode cX11_chance 149 = .ok (.lload 8, 2) := by decide +kernel
theorem dX11_chance_151 : decode cX11_chance 151 = .ok (.lload 12, 2) := by decide +kernel
theorem dX11_chance_153 : decode cX11_chance 153 = .ok (.ldiv, 1) := by decide +kernel
theorem dX11_chance_154 : decode cX11_chance 154 = .ok (.lreturn, 1) := by decide +kernel
set_option maxRecDepth 20000 in
set_option maxHeartbeats 2000000 in
theorem w_X11_chance_55 {X : CX} {d : Nat} (hd : 7 ≤ d) {g' : G} {rx : Int64} (g : G) (h : f_X11_chance_55 g = some (rx, g')) : SemF X m_X11_chance d 55 [] [] g (some (.long rx)) g' := by
  rw [f_X11_chance_55] at h
  refine SF_ldc2 58 dX11_chance_55 kl_X11_286 rfl ?_
  exact RT_l rfl dX11_chance_58 h

set_option maxRecDepth 20000 in
set_option maxHeartbeats 2000000 in
theorem w_X11_chance_70 {X : CX} {d : Nat} (hd : 7 ≤ d) {g' : G} {rx : Int64} (g : G) (h : f_X11_chance_70 g = some (rx, g')) : SemF X m_X11_chance d 70 [] [] g (some (.long rx)) g' := by
  rw [f_X11_chance_70] at h
  refine SF_ldc2 73 dX11_chance_70 kl_X11_288 rfl ?_
  exact RT_l rfl dX11_chance_73 h

set_option maxRecDepth 20000 in
set_option maxHeartbeats 2000000 in
theorem w_X11_chance_151 {X : CX} {d : Nat} (hd : 7 ≤ d) {g' : G} {rx : Int64} (l12 : Int64) (s0 : Int64) (g : G) (h : f_X11_chance_151 l12 s0 g = some (rx, g')) : SemF X m_X11_chance d 151 [(12, .long l12)] [.long s0] g (some (.long rx)) g' := by
  rw [f_X11_chance_151] at h
  refine SF_lload 0 153 dX11_chance_151 rfl rfl ?_
  obtain ⟨z1, h⟩ := gdZl_some h
  refine SF_ldiv 154 dX11_chance_153 z1 rfl ?_
  exact RT_l rfl dX11_chance_154 h

set_option maxRecDepth 20000 in
set_option maxHeartbeats 2000000 in
theorem w_X11_chance_116 {X : CX} {d : Nat} (hd : 7 ≤ d) {g' : G} {rx : Int64} (l5 : Int32) (l8 : Int64) (s0 : Int32) (s1 : Int32) (s2 : Nat) (s3 : Nat) (g : G) (k_s2 : KD g s2 4) (k_s3 : KD g s3 6) (h : f_X11_chance_116 l5 l8 s0 s1 s2 s3 g = some (rx, g')) : SemF X m_X11_chance d 116 [(5, .int l5), (8, .long l8)] [.int s0, .int s1, .ref (ad X s2), .ref (ad X s3)] g (some (.long rx)) g' := by
  rw [f_X11_chance_116] at h
  obtain ⟨v1, g2, q3, h⟩ := bd_some h
  have s4 := w_X6_sumAt (X := X) (Nat.le_refl 2) s3 s2 s1 s0 g g2 v1 k_s3 k_s2 q3
  refine SF_callVl 119 mi_X6_sumAt ml_X11_297 dX11_chance_116 (Nat.le_trans (by decide) hd) s4 k_s3.1 rfl rfl (Nat.le_of_ble_eq_true rfl) rfl ?_
  have k_s2 := k_s2.ext s4.1
  have k_s3 := k_s3.ext s4.1
  refine SF_lstore [(10, .long v1), (5, .int l5), (8, .long l8)] 121 dX11_chance_119 (by decide) rfl rfl ?_
  refine SF_lload 2 123 dX11_chance_121 rfl rfl ?_
  refine SF_lload 0 125 dX11_chance_123 rfl rfl ?_
  obtain ⟨v5, g6, q7, h⟩ := bd_some h
  have s8 := w_X11_commonDivisor (X := X) (Nat.le_refl 0) l8 v1 g2 g6 v5 q7
  refine SF_callSl 128 mi_X11_commonDivisor ml_X11_393 dX11_chance_125 (Nat.le_trans (by decide) hd) s8 rfl rfl (Nat.le_of_ble_eq_true rfl) rfl ?_
  have k_s2 := k_s2.ext s8.1
  have k_s3 := k_s3.ext s8.1
  refine SF_lstore [(12, .long v5), (10, .long v1), (5, .int l5), (8, .long l8)] 130 dX11_chance_128 (by decide) rfl rfl ?_
  refine SF_lload 0 132 dX11_chance_130 rfl rfl ?_
  refine SF_lconst (1 : Int64) 133 dX11_chance_132 rfl rfl ?_
  refine SF_lcmp 134 dX11_chance_133 rfl ?_
  refine SF_ifge 139 137 dX11_chance_134 rfl rfl (fun c9 => ?_) (fun c9 => ?_)
  · have h := ite_t c9 h
    refine SF_iload 2 141 dX11_chance_139 rfl rfl ?_
    refine SF_ifne 149 144 dX11_chance_141 rfl rfl (fun c10 => ?_) (fun c10 => ?_)
    · have h := ite_f c10 h
      refine SF_lload 3 151 dX11_chance_149 rfl rfl ?_
      refine SF_sub [0] rfl ?_
      exact w_X11_chance_151 hd v5 l8 g6  h
    · have h := ite_t c10 h
      refine SF_lload 1 146 dX11_chance_144 rfl rfl ?_
      refine SF_goto 151 dX11_chance_146 rfl ?_
      refine SF_sub [0] rfl ?_
      exact w_X11_chance_151 hd v5 v1 g6  h
  · have h := ite_f c9 h
    refine SF_lconst (0 : Int64) 138 dX11_chance_137 rfl rfl ?_
    exact RT_l rfl dX11_chance_138 h

set_option maxRecDepth 20000 in
set_option maxHeartbeats 2000000 in
theorem w_X11_chance_106 {X : CX} {d : Nat} (hd : 7 ≤ d) {g' : G} {rx : Int64} (l2 : Int32) (l3 : Int32) (l5 : Int32) (l8 : Int64) (s0 : Int32) (s1 : Nat) (s2 : Nat) (g : G) (k_s1 : KD g s1 4) (k_s2 : KD g s2 6) (h : f_X11_chance_106 l2 l3 l5 l8 s0 s1 s2 g = some (rx, g')) : SemF X m_X11_chance d 106 [(2, .int l2), (3, .int l3), (5, .int l5), (8, .long l8)] [.int s0, .ref (ad X s1), .ref (ad X s2)] g (some (.long rx)) g' := by
  rw [f_X11_chance_106] at h
  refine SF_iload_n 0 107 dX11_chance_106 rfl rfl rfl ?_
  refine SF_iconst (1 : Int32) 108 dX11_chance_107 rfl rfl ?_
  refine SF_icne 115 111 dX11_chance_108 rfl rfl (fun c1 => ?_) (fun c1 => ?_)
  · have h := ite_f c1 h
    refine SF_iconst (-1 : Int32) 116 dX11_chance_115 rfl rfl ?_
    refine SF_sub [2, 3] rfl ?_
    exact w_X11_chance_116 hd l5 l8 (-1 : Int32) s0 s1 s2 g k_s1 k_s2 h
  · have h := ite_t c1 h
    refine SF_iload_n 1 112 dX11_chance_111 rfl rfl rfl ?_
    refine SF_goto 116 dX11_chance_112 rfl ?_
    refine SF_sub [2, 3] rfl ?_
    exact w_X11_chance_116 hd l5 l8 l3 s0 s1 s2 g k_s1 k_s2 h

set_option maxRecDepth 20000 in
set_option maxHeartbeats 2000000 in
theorem w_X11_chance_37 {X : CX} {d : Nat} (hd : 7 ≤ d) {g' : G} {rx : Int64} (l0 : Nat) (l1 : Int32) (l2 : Int32) (l3 : Int32) (l4 : Int32) (l5 : Int32) (s0 : Int32) (g : G) (k_l0 : KD g l0 11) (h : f_X11_chance_37 l0 l1 l2 l3 l4 l5 s0 g = some (rx, g')) : SemF X m_X11_chance d 37 [(0, .ref (ad X l0)), (1, .int l1), (2, .int l2), (3, .int l3), (4, .int l4), (5, .int l5)] [.int s0] g (some (.long rx)) g' := by
  rw [f_X11_chance_37] at h
  refine SF_istore [(6, .int s0), (0, .ref (ad X l0)), (1, .int l1), (2, .int l2), (3, .int l3), (4, .int l4), (5, .int l5)] 39 dX11_chance_37 (by decide) rfl rfl ?_
  refine SF_iload 0 41 dX11_chance_39 rfl rfl ?_
  refine SF_ifeq 55 44 dX11_chance_41 rfl rfl (fun c1 => ?_) (fun c1 => ?_)
  · have h := ite_t c1 h
    refine SF_sub [] rfl ?_
    exact w_X11_chance_55 hd g  h
  · have h := ite_f c1 h
    refine SF_iload 6 46 dX11_chance_44 rfl rfl ?_
    refine SF_iflt 55 49 dX11_chance_46 rfl rfl (fun c2 => ?_) (fun c2 => ?_)
    · have h := ite_t c2 h
      refine SF_sub [] rfl ?_
      exact w_X11_chance_55 hd g  h
    · have h := ite_f c2 h
      refine SF_iload 6 51 dX11_chance_49 rfl rfl ?_
      refine SF_iconst (1 : Int32) 52 dX11_chance_51 rfl rfl ?_
      refine SF_icle 59 55 dX11_chance_52 rfl rfl (fun c3 => ?_) (fun c3 => ?_)
      · have h := ite_t c3 h
        refine SF_iload 5 61 dX11_chance_59 rfl rfl ?_
        refine SF_iflt 70 64 dX11_chance_61 rfl rfl (fun c4 => ?_) (fun c4 => ?_)
        · have h := ite_t c4 h
          refine SF_sub [] rfl ?_
          exact w_X11_chance_70 hd g  h
        · have h := ite_f c4 h
          refine SF_iload 5 66 dX11_chance_64 rfl rfl ?_
          refine SF_iconst (5 : Int32) 67 dX11_chance_66 rfl rfl ?_
          refine SF_icle 74 70 dX11_chance_67 rfl rfl (fun c5 => ?_) (fun c5 => ?_)
          · have h := ite_t c5 h
            refine SF_aload_n 1 75 dX11_chance_74 rfl rfl rfl ?_
            refine SF_iload_n 2 76 dX11_chance_75 rfl rfl rfl ?_
            obtain ⟨v6, g7, q8, h⟩ := bd_some h
            have s9 := w_X11_graphOf (X := X) (Nat.le_refl 6) l0 l1 g g7 v6 k_l0 q8
            refine SF_callVr 79 mi_X11_graphOf ml_X11_259 dX11_chance_76 (Nat.le_trans (by decide) hd) s9 k_l0.1 rfl rfl (Nat.le_of_ble_eq_true rfl) rfl ?_
            have k_l0 := k_l0.ext s9.1
            refine SF_astore [(7, .ref (ad X v6)), (6, .int s0), (0, .ref (ad X l0)), (1, .int l1), (2, .int l2), (3, .int l3), (4, .int l4), (5, .int l5)] 81 dX11_chance_79 (by decide) rfl rfl ?_
            refine SF_aload_n 2 82 dX11_chance_81 rfl rfl rfl ?_
            refine SF_aload 0 84 dX11_chance_82 rfl rfl ?_
            refine SF_iload 6 86 dX11_chance_84 rfl rfl ?_
            obtain ⟨k10, h⟩ := gdK_some h
            obtain ⟨v11, g12, q13, h⟩ := bd_some h
            have s14 := w_X11_chances (X := X) (Nat.le_refl 4) l0 v6 l4 g7 g12 v11 k_l0 k10 q13
            refine SF_callVl 89 mi_X11_chances ml_X11_389 dX11_chance_86 (Nat.le_trans (by decide) hd) s14 k_l0.1 rfl rfl (Nat.le_of_ble_eq_true rfl) rfl ?_
            have k_l0 := k_l0.ext s14.1
            have k10 := k10.ext s14.1
            refine SF_lstore [(8, .long v11), (7, .ref (ad X v6)), (6, .int s0), (0, .ref (ad X l0)), (1, .int l1), (2, .int l2), (3, .int l3), (4, .int l4), (5, .int l5)] 91 dX11_chance_89 (by decide) rfl rfl ?_
            refine SF_aload_n 3 92 dX11_chance_91 rfl rfl rfl ?_
            obtain ⟨b15, r16, h⟩ := dr_some h
            refine SF_getR 95 fl_X11_54 dX11_chance_92 k_l0.1 r16 rfl ?_
            refine SF_aload 1 97 dX11_chance_95 rfl rfl ?_
            refine SF_iload_n 5 98 dX11_chance_97 rfl rfl rfl ?_
            refine SF_ifne 105 101 dX11_chance_98 rfl rfl (fun c17 => ?_) (fun c17 => ?_)
            · have h := ite_f c17 h
              refine SF_iconst (-1 : Int32) 106 dX11_chance_105 rfl rfl ?_
              obtain ⟨k18, h⟩ := gdK_some h
              refine SF_sub [5, 6, 8, 0] rfl ?_
              exact w_X11_chance_106 hd l2 l3 l5 v11 (-1 : Int32) v6 b15 g12 k10 k18 h
            · have h := ite_t c17 h
              refine SF_iload_n 6 102 dX11_chance_101 rfl rfl rfl ?_
              refine SF_goto 106 dX11_chance_102 rfl ?_
              obtain ⟨k19, h⟩ := gdK_some h
              refine SF_sub [5, 6, 8, 0] rfl ?_
              exact w_X11_chance_106 hd l2 l3 l5 v11 l3 v6 b15 g12 k10 k19 h
          · have h := ite_f c5 h
            refine SF_sub [] rfl ?_
            exact w_X11_chance_70 hd g  h
      · have h := ite_f c3 h
        refine SF_sub [] rfl ?_
        exact w_X11_chance_55 hd g  h

set_option maxRecDepth 20000 in
set_option maxHeartbeats 2000000 in
theorem w_X11_chance_36 {X : CX} {d : Nat} (hd : 7 ≤ d) {g' : G} {rx : Int64} (l0 : Nat) (l1 : Int32) (l2 : Int32) (l3 : Int32) (l4 : Int32) (l5 : Int32) (g : G) (k_l0 : KD g l0 11) (h : f_X11_chance_36 l0 l1 l2 l3 l4 l5 g = some (rx, g')) : SemF X m_X11_chance d 36 [(0, .ref (ad X l0)), (1, .int l1), (2, .int l2), (3, .int l3), (4, .int l4), (5, .int l5)] [] g (some (.long rx)) g' := by
  rw [f_X11_chance_36] at h
  refine SF_iconst (0 : Int32) 37 dX11_chance_36 rfl rfl ?_
  exact w_X11_chance_37 hd l0 l1 l2 l3 l4 l5 (0 : Int32) g k_l0 h

set_option maxRecDepth 20000 in
set_option maxHeartbeats 2000000 in
theorem w_X11_chance {X : CX} {d : Nat} (hd : 7 ≤ d) (l0 : Nat) (l1 : Int32) (l2 : Int32) (l3 : Int32) (l4 : Int32) (l5 : Int32) (g g' : G) (rx : Int64) (k_l0 : KD g l0 11) (h : f_X11_chance l0 l1 l2 l3 l4 l5 g = some (rx, g')) : Sem X m_X11_chance d [.ref (ad X l0), .int l1, .int l2, .int l3, .int l4, .int l5] g (some (.long rx)) g' := by
  refine Sem_of (lo := [(0, .ref (ad X l0)), (1, .int l1), (2, .int l2), (3, .int l3), (4, .int l4), (5, .int l5)]) (by decide +kernel) rfl (Nat.le_of_ble_eq_true rfl) ?_
  rw [f_X11_chance] at h
  refine SF_aload_n 0 1 dX11_chance_0 rfl rfl rfl ?_
  obtain ⟨b1, r2, h⟩ := dr_some h
  refine SF_getR 4 fl_X11_78 dX11_chance_1 k_l0.1 r2 rfl ?_
  refine SF_iload_n 1 5 dX11_chance_4 rfl rfl rfl ?_
  obtain ⟨k3, h⟩ := gdK_some h
  obtain ⟨v4, g5, q6, h⟩ := bd_some h
  have s7 := w_X0_isPair (X := X) (Nat.le_refl 0) b1 l1 g g5 v4 k3 q6
  refine SF_callVb 8 mi_X0_isPair ml_X11_161 dX11_chance_5 (Nat.le_trans (by decide) hd) s7 k3.1 rfl rfl (Nat.le_of_ble_eq_true rfl) rfl ?_
  have k_l0 := k_l0.ext s7.1
  have k3 := k3.ext s7.1
  refine SF_ifeq 36 11 dX11_chance_8 rfl rfl (fun c8 => ?_) (fun c8 => ?_)
  · have h := ite_t c8 h
    exact w_X11_chance_36 hd l0 l1 l2 l3 l4 l5 g5 k_l0 h
  · have h := ite_f c8 h
    refine SF_iload_n 2 12 dX11_chance_11 rfl rfl rfl ?_
    obtain ⟨v9, g10, q11, h⟩ := bd_some h
    have s12 := w_X11_isTwin (X := X) (Nat.le_refl 0) l2 g5 g10 v9 q11
    refine SF_callSb 15 mi_X11_isTwin ml_X11_333 dX11_chance_12 (Nat.le_trans (by decide) hd) s12 rfl rfl (Nat.le_of_ble_eq_true rfl) rfl ?_
    have k_l0 := k_l0.ext s12.1
    have k3 := k3.ext s12.1
    refine SF_ifeq 36 18 dX11_chance_15 rfl rfl (fun c13 => ?_) (fun c13 => ?_)
    · have h := ite_t c13 h
      exact w_X11_chance_36 hd l0 l1 l2 l3 l4 l5 g10 k_l0 h
    · have h := ite_f c13 h
      refine SF_aload_n 0 19 dX11_chance_18 rfl rfl rfl ?_
      obtain ⟨b14, r15, h⟩ := dr_some h
      refine SF_getR 22 fl_X11_78 dX11_chance_19 k_l0.1 r15 rfl ?_
      obtain ⟨k16, h⟩ := gdK_some h
      obtain ⟨b17, r18, h⟩ := dr_some h
      refine SF_getR 25 fl_X11_136 dX11_chance_22 k16.1 r18 rfl ?_
      refine SF_iload_n 3 26 dX11_chance_25 rfl rfl rfl ?_
      obtain ⟨k19, h⟩ := gdK_some h
      obtain ⟨v20, g21, q22, h⟩ := bd_some h
      have s23 := w_X7_isCell (X := X) (Nat.le_refl 0) b17 l3 g10 g21 v20 k19 q22
      refine SF_callVb 29 mi_X7_isCell ml_X11_143 dX11_chance_26 (Nat.le_trans (by decide) hd) s23 k19.1 rfl rfl (Nat.le_of_ble_eq_true rfl) rfl ?_
      have k_l0 := k_l0.ext s23.1
      have k3 := k3.ext s23.1
      have k16 := k16.ext s23.1
      have k19 := k19.ext s23.1
      refine SF_ifeq 36 32 dX11_chance_29 rfl rfl (fun c24 => ?_) (fun c24 => ?_)
      · have h := ite_t c24 h
        exact w_X11_chance_36 hd l0 l1 l2 l3 l4 l5 g21 k_l0 h
      · have h := ite_f c24 h
        refine SF_iconst (1 : Int32) 33 dX11_chance_32 rfl rfl ?_
        refine SF_goto 37 dX11_chance_33 rfl ?_
        exact w_X11_chance_37 hd l0 l1 l2 l3 l4 l5 (1 : Int32) g21 k_l0 h

theorem dX12_canFrom_0 : decode cX12_canFrom 0 = .ok (.iconst 0, 1) := by decide +kernel
theorem dX12_canFrom_1 : decode cX12_canFrom 1 = .ok (.istore_n 2, 1) := by decide +kernel
theorem dX12_canFrom_2 : decode cX12_canFrom 2 = .ok (.iconst 0, 1) := by decide +kernel
theorem dX12_canFrom_3 : decode cX12_canFrom 3 = .ok (.istore_n 3, 1) := by decide +kernel
theorem dX12_canFrom_4 : decode cX12_canFrom 4 = .ok (.iload_n 3, 1) := by decide +kernel
theorem dX12_canFrom_5 : decode cX12_canFrom 5 = .ok (.bipush 8, 2) := by decide +kernel
theorem dX12_canFrom_7 : decode cX12_canFrom 7 = .ok (.if_icmp .ge 32, 3) := by decide +kernel
theorem dX12_canFrom_10 : decode cX12_canFrom 10 = .ok (.iload_n 2, 1) := by decide +kernel
theorem dX12_canFrom_11 : decode cX12_canFrom 11 = .ok (.aload_n 0, 1) := by decide +kernel
theorem dX12_canFrom_12 : decode cX12_canFrom 12 = .ok (.getfield 42, 3) := by decide +kernel
theorem dX12_canFrom_15 : decode cX12_canFrom 15 = .ok (.bipush 8, 2) := by decide +kernel
theorem dX12_canFrom_17 : decode cX12_canFrom 17 = .ok (.iload_n 1, 1) := by decide +kernel
theorem dX12_canFrom_18 : decode cX12_canFrom 18 = .ok (.imul, 1) := by decide +kernel
theorem dX12_canFrom_19 : decode cX12_canFrom 19 = .ok (.iload_n 3, 1) := by decide +kernel
theorem dX12_canFrom_20 : decode cX12_canFrom 20 = .ok (.iadd, 1) := by decide +kernel
theorem dX12_canFrom_21 : decode cX12_canFrom 21 = .ok (.iaload, 1) := by decide +kernel
theorem dX12_canFrom_22 : decode cX12_canFrom 22 = .ok (.iconst (-1), 1) := by decide +kernel
theorem dX12_canFrom_23 : decode cX12_canFrom 23 = .ok (.if_icmp .ne 7, 3) := by decide +kernel
theorem dX12_canFrom_26 : decode cX12_canFrom 26 = .ok (.iconst 0, 1) := by decide +kernel
theorem dX12_canFrom_27 : decode cX12_canFrom 27 = .ok (.goto 4, 3) := by decide +kernel
theorem dX12_canFrom_30 : decode cX12_canFrom 30 = .ok (.iconst 1, 1) := by decide +kernel
theorem dX12_canFrom_31 : decode cX12_canFrom 31 = .ok (.iadd, 1) := by decide +kernel
theorem dX12_canFrom_32 : decode cX12_canFrom 32 = .ok (.istore_n 2, 1) := by decide +kernel
theorem dX12_canFrom_33 : decode cX12_canFrom 33 = .ok (.iinc 3 1, 3) := by decide +kernel
theorem dX12_canFrom_36 : decode cX12_canFrom 36 = .ok (.goto (-32), 3) := by decide +kernel
theorem dX12_canFrom_39 : decode cX12_canFrom 39 = .ok (.iload_n 2, 1) := by decide +kernel
theorem dX12_canFrom_40 : decode cX12_canFrom 40 = .ok (.ireturn, 1) := by decide +kernel
set_option maxRecDepth 20000 in
set_option maxHeartbeats 2000000 in
theorem w_X12_canFrom_31 {X : CX} {d : Nat} (hd : 0 ≤ d) {g' : G} {rx : Int32} (k4 : Nat → Int32 → Int32 → Int32 → G → Option (Int32 × G)) (hk4 : ∀ (l0 : Nat) (l1 : Int32) (l2 : Int32) (l3 : Int32) (g : G), KD g l0 12 → k4 l0 l1 l2 l3 g = some (rx, g') → SemF X m_X12_canFrom d 4 [(0, .ref (ad X l0)), (1, .int l1), (2, .int l2), (3, .int l3)] [] g (some (.int rx)) g') (l0 : Nat) (l1 : Int32) (l3 : Int32) (s0 : Int32) (s1 : Int32) (g : G) (k_l0 : KD g l0 12) (h : f_X12_canFrom_31 k4 l0 l1 l3 s0 s1 g = some (rx, g')) : SemF X m_X12_canFrom d 31 [(0, .ref (ad X l0)), (1, .int l1), (3, .int l3)] [.int s0, .int s1] g (some (.int rx)) g' := by
  rw [f_X12_canFrom_31] at h
  refine SF_iadd 32 dX12_canFrom_31 rfl ?_
  obtain ⟨y1, e2, h⟩ := li_some h
  refine SF_eqI e2 ?_
  refine SF_istore_n [(2, .int y1), (0, .ref (ad X l0)), (1, .int l1), (3, .int l3)] 33 dX12_canFrom_32 rfl (by decide) rfl rfl ?_
  refine SF_iinc 3 (l3 + (1 : Int32)) [(3, .int (l3 + (1 : Int32))), (2, .int y1), (0, .ref (ad X l0)), (1, .int l1)] 36 dX12_canFrom_33 rfl rfl (by decide) rfl rfl ?_
  refine SF_goto 4 dX12_canFrom_36 rfl ?_
  refine SF_sub [2, 3, 1, 0] rfl ?_
  exact hk4 l0 l1 y1 (l3 + (1 : Int32)) g k_l0 h

set_option maxRecDepth 20000 in
set_option maxHeartbeats 2000000 in
theorem w_X12_canFrom_4 {X : CX} {d : Nat} (hd : 0 ≤ d) {g' : G} {rx : Int32} : ∀ (n : Nat) (l0 : Nat) (l1 : Int32) (l2 : Int32) (l3 : Int32) (g : G), KD g l0 12 → f_X12_canFrom_4 n l0 l1 l2 l3 g = some (rx, g') → SemF X m_X12_canFrom d 4 [(0, .ref (ad X l0)), (1, .int l1), (2, .int l2), (3, .int l3)] [] g (some (.int rx)) g' := by
  intro n
  induction n with
  | zero =>
    intro l0 l1 l2 l3 g k_l0 h
    rw [f_X12_canFrom_4] at h
    cases h
  | succ n ih =>
  intro l0 l1 l2 l3 g k_l0 h
  rw [f_X12_canFrom_4] at h
  refine SF_iload_n 3 5 dX12_canFrom_4 rfl rfl rfl ?_
  refine SF_bipush (8 : Int32) 7 dX12_canFrom_5 rfl rfl ?_
  refine SF_icge 39 10 dX12_canFrom_7 rfl rfl (fun c1 => ?_) (fun c1 => ?_)
  · have h := ite_t c1 h
    refine SF_iload_n 2 40 dX12_canFrom_39 rfl rfl rfl ?_
    exact RT_i rfl dX12_canFrom_40 h
  · have h := ite_f c1 h
    refine SF_iload_n 2 11 dX12_canFrom_10 rfl rfl rfl ?_
    refine SF_aload_n 0 12 dX12_canFrom_11 rfl rfl rfl ?_
    obtain ⟨b2, r3, h⟩ := dr_some h
    refine SF_getR 15 fl_X12_42 dX12_canFrom_12 k_l0.1 r3 rfl ?_
    refine SF_bipush (8 : Int32) 17 dX12_canFrom_15 rfl rfl ?_
    refine SF_iload_n 1 18 dX12_canFrom_17 rfl rfl rfl ?_
    refine SF_imul 19 dX12_canFrom_18 rfl ?_
    refine SF_iload_n 3 20 dX12_canFrom_19 rfl rfl rfl ?_
    refine SF_iadd 21 dX12_canFrom_20 rfl ?_
    obtain ⟨k4, h⟩ := gdK_some h
    obtain ⟨i5, h⟩ := gdI_some h
    refine SF_iald 22 dX12_canFrom_21 k4.1 i5 rfl ?_
    refine SF_iconst (-1 : Int32) 23 dX12_canFrom_22 rfl rfl ?_
    refine SF_icne 30 26 dX12_canFrom_23 rfl rfl (fun c6 => ?_) (fun c6 => ?_)
    · have h := ite_f c6 h
      refine SF_iconst (1 : Int32) 31 dX12_canFrom_30 rfl rfl ?_
      refine SF_sub [0, 1, 3] rfl ?_
      exact w_X12_canFrom_31 hd (f_X12_canFrom_4 n) ih l0 l1 l3 (1 : Int32) l2 g k_l0 h
    · have h := ite_t c6 h
      refine SF_iconst (0 : Int32) 27 dX12_canFrom_26 rfl rfl ?_
      refine SF_goto 31 dX12_canFrom_27 rfl ?_
      refine SF_sub [0, 1, 3] rfl ?_
      exact w_X12_canFrom_31 hd (f_X12_canFrom_4 n) ih l0 l1 l3 (0 : Int32) l2 g k_l0 h

set_option maxRecDepth 20000 in
set_option maxHeartbeats 2000000 in
theorem w_X12_canFrom {X : CX} {d : Nat} (hd : 0 ≤ d) (l0 : Nat) (l1 : Int32) (g g' : G) (rx : Int32) (k_l0 : KD g l0 12) (h : f_X12_canFrom l0 l1 g = some (rx, g')) : Sem X m_X12_canFrom d [.ref (ad X l0), .int l1] g (some (.int rx)) g' := by
  refine Sem_of (lo := [(0, .ref (ad X l0)), (1, .int l1)]) (by decide +kernel) rfl (Nat.le_of_ble_eq_true rfl) ?_
  rw [f_X12_canFrom] at h
  refine SF_iconst (0 : Int32) 1 dX12_canFrom_0 rfl rfl ?_
  refine SF_istore_n [(2, .int (0 : Int32)), (0, .ref (ad X l0)), (1, .int l1)] 2 dX12_canFrom_1 rfl (by decide) rfl rfl ?_
  refine SF_iconst (0 : Int32) 3 dX12_canFrom_2 rfl rfl ?_
  refine SF_istore_n [(3, .int (0 : Int32)), (2, .int (0 : Int32)), (0, .ref (ad X l0)), (1, .int l1)] 4 dX12_canFrom_3 rfl (by decide) rfl rfl ?_
  refine SF_sub [2, 3, 1, 0] rfl ?_
  exact w_X12_canFrom_4 hd FU l0 l1 (0 : Int32) (0 : Int32) g k_l0 h

theorem dX12_laysLikely_0 : decode cX12_laysLikely 0 = .ok (.aload_n 0, 1) := by decide +kernel
theorem dX12_laysLikely_1 : decode cX12_laysLikely 1 = .ok (.iload_n 1, 1) := by decide +kernel
theorem dX12_laysLikely_2 : decode cX12_laysLikely 2 = .ok (.invokevirtual 376, 3) := by decide +kernel
theorem dX12_laysLikely_5 : decode cX12_laysLikely 5 = .ok (.aload_n 0, 1) := by decide +kernel
theorem dX12_laysLikely_6 : decode cX12_laysLikely 6 = .ok (.iload_n 1, 1) := by decide +kernel
theorem dX12_laysLikely_7 : decode cX12_laysLikely 7 = .ok (.invokevirtual 402, 3) := by decide +kernel
theorem dX12_laysLikely_10 : decode cX12_laysLikely 10 = .ok (.iconst 0, 1) := by decide +kernel
theorem dX12_laysLikely_11 : decode cX12_laysLikely 11 = .ok (.istore_n 3, 1) := by decide +kernel
theorem dX12_laysLikely_12 : decode cX12_laysLikely 12 = .ok (.iload_n 3, 1) := by decide +kernel
theorem dX12_laysLikely_13 : decode cX12_laysLikely 13 = .ok (.sipush 1296, 3) := by decide +kernel
theorem dX12_laysLikely_16 : decode cX12_laysLikely 16 = .ok (.if_icmp .ge 16, 3) := by decide +kernel
theorem dX12_laysLikely_19 : decode cX12_laysLikely 19 = .ok (.aload_n 0, 1) := by decide +kernel
theorem dX12_laysLikely_20 : decode cX12_laysLikely 20 = .ok (.getfield 58, 3) := by decide +kernel
theorem dX12_laysLikely_23 : decode cX12_laysLikely 23 = .ok (.iload_n 3, 1) := by decide +kernel
theorem dX12_laysLikely_24 : decode cX12_laysLikely 24 = .ok (.lconst 0, 1) := by decide +kernel
theorem dX12_laysLikely_25 : decode cX12_laysLikely 25 = .ok (.lastore, 1) := by decide +kernel
theorem dX12_laysLikely_26 : decode cX12_laysLikely 26 = .ok (.iinc 3 1, 3) := by decide +kernel
theorem dX12_laysLikely_29 : decode cX12_laysLikely 29 = .ok (.goto (-17), 3) := by decide +kernel
theorem dX12_laysLikely_32 : decode cX12_laysLikely 32 = .ok (.iconst 0, 1) := by decide +kernel
theorem dX12_laysLikely_33 : decode cX12_laysLikely 33 = .ok (.istore_n 3, 1) := by decide +kernel
theorem dX12_laysLikely_34 : decode cX12_laysLikely 34 = .ok (.iload_n 3, 1) := by decide +kernel
theorem dX12_laysLikely_35 : decode cX12_laysLikely 35 = .ok (.iload_n 2, 1) := by decide +kernel
theorem dX12_laysLikely_36 : decode cX12_laysLikely 36 = .ok (.if_icmp .ge 153, 3) := by decide +kernel
theorem dX12_laysLikely_39 : decode cX12_laysLikely 39 = .ok (.iconst 0, 1) := by decide +kernel
theorem dX12_laysLikely_40 : decode cX12_laysLikely 40 = .ok (.istore 4, 2) := by decide +kernel
theorem dX12_laysLikely_42 : decode cX12_laysLikely 42 = .ok (.iload 4, 2) := by decide +kernel
theorem dX12_laysLikely_44 : decode cX12_laysLikely 44 = .ok (.sipush 1296, 3) := by decide +kernel
theorem dX12_laysLikely_47 : decode cX12_laysLikely 47 = .ok (.if_icmp .ge 132, 3) := by decide +kernel
theorem dX12_laysLikely_50 : decode cX12_laysLikely 50 = .ok (.aload_n 0, 1) := by decide +kernel
theorem dX12_laysLikely_51 : decode cX12_laysLikely 51 = .ok (.getfield 54, 3) := by decide +kernel
theorem dX12_laysLikely_54 : decode cX12_laysLikely 54 = .ok (.iload 4, 2) := by decide +kernel
theorem dX12_laysLikely_56 : decode cX12_laysLikely 56 = .ok (.laload, 1) := by decide +kernel
theorem dX12_laysLikely_57 : decode cX12_laysLikely 57 = .ok (.lconst 0, 1) := by decide +kernel
theorem dX12_laysLikely_58 : decode cX12_laysLikely 58 = .ok (.lcmp, 1) := by decide +kernel
theorem dX12_laysLikely_59 : decode cX12_laysLikely 59 = .ok (.ifCond .ne 6, 3) := by decide +kernel
theorem dX12_laysLikely_62 : decode cX12_laysLikely 62 = .ok (.goto 111, 3) := by decide +kernel
theorem dX12_laysLikely_65 : decode cX12_laysLikely 65 = .ok (.aload_n 0, 1) := by decide +kernel
theorem dX12_laysLikely_66 : decode cX12_laysLikely 66 = .ok (.iload 4, 2) := by decide +kernel
theorem dX12_laysLikely_68 : decode cX12_laysLikely 68 = .ok (.invokevirtual 466, 3) := by decide +kernel
theorem dX12_laysLikely_71 : decode cX12_laysLikely 71 = .ok (.istore 5, 2) := by decide +kernel
theorem dX12_laysLikely_73 : decode cX12_laysLikely 73 = .ok (.iload 5, 2) := by decide +kernel
theorem dX12_laysLikely_75 : decode cX12_laysLikely 75 = .ok (.ifCond .ne 24, 3) := by decide +kernel
theorem dX12_laysLikely_78 : decode cX12_laysLikely 78 = .ok (.aload_n 0, 1) := by decide +kernel
theorem dX12_laysLikely_79 : decode cX12_laysLikely 79 = .ok (.getfield 58, 3) := by decide +kernel
theorem dX12_laysLikely_82 : decode cX12_laysLikely 82 = .ok (.iload 4, 2) := by decide +kernel
theorem dX12_laysLikely_84 : decode cX12_laysLikely 84 = .ok (.dup2, 1) := by decide +kernel
theorem dX12_laysLikely_85 : decode cX12_laysLikely 85 = .ok (.laload, 1) := by decide +kernel
theorem dX12_laysLikely_86 : decode cX12_laysLikely 86 = .ok (.aload_n 0, 1) := by decide +kernel
theorem dX12_laysLikely_87 : decode cX12_laysLikely 87 = .ok (.getfield 54, 3) := by decide +kernel
theorem dX12_laysLikely_90 : decode cX12_laysLikely 90 = .ok (.iload 4, 2) := by decide +kernel
theorem dX12_laysLikely_92 : decode cX12_laysLikely 92 = .ok (.laload, 1) := by decide +kernel
theorem dX12_laysLikely_93 : decode cX12_laysLikely 93 = .ok (.ldc2_w 469, 3) := by decide +kernel
theorem dX12_laysLikely_96 : decode cX12_laysLikely 96 = .ok (.lmul, 1) := by decide +kernel
theorem dX12_laysLikely_97 : decode cX12_laysLikely 97 = .ok (.ladd, 1) := by decide +kernel
theorem dX12_laysLikely_98 : decode cX12_laysLikely 98 = .ok (.lastore, 1) := by decide +kernel
theorem dX12_laysLikely_99 : decode cX12_laysLikely 99 = .ok (.iconst 0, 1) := by decide +kernel
theorem dX12_laysLikely_100 : decode cX12_laysLikely 100 = .ok (.istore 6, 2) := by decide +kernel
theorem dX12_laysLikely_102 : decode cX12_laysLikely 102 = .ok (.iload 6, 2) := by decide +kernel
theorem dX12_laysLikely_104 : decode cX12_laysLikely 104 = .ok (.bipush 8, 2) := by decide +kernel
theorem dX12_laysLikely_106 : decode cX12_laysLikely 106 = .ok (.if_icmp .ge 67, 3) := by decide +kernel
theorem dX12_laysLikely_109 : decode cX12_laysLikely 109 = .ok (.iload 5, 2) := by decide +kernel
theorem dX12_laysLikely_111 : decode cX12_laysLikely 111 = .ok (.ifCond .le 62, 3) := by decide +kernel
theorem dX12_laysLikely_114 : decode cX12_laysLikely 114 = .ok (.aload_n 0, 1) := by decide +kernel
theorem dX12_laysLikely_115 : decode cX12_laysLikely 115 = .ok (.getfield 42, 3) := by decide +kernel
theorem dX12_laysLikely_118 : decode cX12_laysLikely 118 = .ok (.bipush 8, 2) := by decide +kernel
theorem dX12_laysLikely_120 : decode cX12_laysLikely 120 = .ok (.iload 4, 2) := by decide +kernel
theorem dX12_laysLikely_122 : decode cX12_laysLikely 122 = .ok (.imul, 1) := by decide +kernel
theorem dX12_laysLikely_123 : decode cX12_laysLikely 123 = .ok (.iload 6, 2) := by decide +kernel
theorem dX12_laysLikely_125 : decode cX12_laysLikely 125 = .ok (.iadd, 1) := by decide +kernel
theorem dX12_laysLikely_126 : decode cX12_laysLikely 126 = .ok (.iaload, 1) := by decide +kernel
theorem dX12_laysLikely_127 : decode cX12_laysLikely 127 = .ok (.iconst (-1), 1) := by decide +kernel
theorem dX12_laysLikely_128 : decode cX12_laysLikely 128 = .ok (.if_icmp .eq 39, 3) := by decide +kernel
theorem dX12_laysLikely_131 : decode cX12_laysLikely 131 = .ok (.aload_n 0, 1) := by decide +kernel
theorem dX12_laysLikely_132 : decode cX12_laysLikely 132 = .ok (.getfield 58, 3) := by decide +kernel
theorem dX12_laysLikely_135 : decode cX12_laysLikely 135 = .ok (.aload_n 0, 1) := by decide +kernel
theorem dX12_laysLikely_136 : decode cX12_laysLikely 136 = .ok (.getfield 42, 3) := by decide +kernel
theorem dX12_laysLikely_139 : decode cX12_laysLikely 139 = .ok (.bipush 8, 2) := by decide +kernel
theorem dX12_laysLikely_141 : decode cX12_laysLikely 141 = .ok (.iload 4, 2) := by decide +kernel
theorem dX12_laysLikely_143 : decode cX12_laysLikely 143 = .ok (.imul, 1) := by decide +kernel
theorem dX12_laysLikely_144 : decode cX12_laysLikely 144 = .ok (.iload 6, 2) := by decide +kernel
theorem dX12_laysLikely_146 : decode cX12_laysLikely 146 = .ok (.iadd, 1) := by decide +kernel
theorem dX12_laysLikely_147 : decode cX12_laysLikely 147 = .ok (.iaload, 1) := by decide +kernel
theorem dX12_laysLikely_148 : decode cX12_laysLikely 148 = .ok (.dup2, 1) := by decide +kernel
theorem dX12_laysLikely_149 : decode cX12_laysLikely 149 = .ok (.laload, 1) := by decide +kernel
theorem dX12_laysLikely_150 : decode cX12_laysLikely 150 = .ok (.aload_n 0, 1) := by decide +kernel
theorem dX12_laysLikely_151 : decode cX12_laysLikely 151 = .ok (.getfield 54, 3) := by decide +kernel
theorem dX12_laysLikely_154 : decode cX12_laysLikely 154 = .ok (.iload 4, 2) := by decide +kernel
theorem dX12_laysLikely_156 : decode cX12_laysLikely 156 = .ok (.laload, 1) := by decide +kernel
theorem dX12_laysLikely_157 : decode cX12_laysLikely 157 = .ok (.ldc2_w 469, 3) := by decide +kernel
theorem dX12_laysLikely_160 : decode cX12_laysLikely 160 = .ok (.iload 5, 2) := by decide +kernel
theorem dX12_laysLikely_162 : decode cX12_laysLikely 162 = .ok (.i2l, 1) := by decide +kernel
theorem dX12_laysLikely_163 : decode cX12_laysLikely 163 = .ok (.ldiv, 1) := by decide +kernel
theorem dX12_laysLikely_164 : decode cX12_laysLikely 164 = .ok (.lmul, 1) := by decide +kernel
theorem dX12_laysLikely_165 : decode cX12_laysLikely 165 = .ok (.ladd, 1) := by decide +kernel
theorem dX12_laysLikely_166 : decode cX12_laysLikely 166 = .ok (.lastore, 1) := by decide +kernel
theorem dX12_laysLikely_167 : decode cX12_laysLikely 167 = .ok (.iinc 6 1, 3) := by decide +kernel
theorem dX12_laysLikely_170 : decode cX12_laysLikely 170 = .ok (.goto (-68), 3) := by decide +kernel
theorem dX12_laysLikely_173 : decode cX12_laysLikely 173 = .ok (.iinc 4 1, 3) := by decide +kernel
theorem dX12_laysLikely_176 : decode cX12_laysLikely 176 = .ok (.goto (-134), 3) := by decide +kernel
theorem dX12_laysLikely_179 : decode cX12_laysLikely 179 = .ok (.aload_n 0, 1) := by decide +kernel
theorem dX12_laysLikely_180 : decode cX12_laysLikely 180 = .ok (.invokevirtual 405, 3) := by decide +kernel
theorem dX12_laysLikely_183 : decode cX12_laysLikely 183 = .ok (.iinc 3 1, 3) := by decide +kernel
theorem dX12_laysLikely_186 : decode cX12_laysLikely 186 = .ok (.goto (-152), 3) := by decide +kernel
theorem dX12_laysLikely_189 : decode cX12_laysLikely 189 = .ok (.return_, 1) := by decide +kernel
set_option maxRecDepth 20000 in
set_option maxHeartbeats 2000000 in
theorem w_X12_laysLikely_173 {X : CX} {d : Nat} (hd : 7 ≤ d) {g' : G} {rx : Unit} (k34 : Nat → Int32 → Int32 → G → Option (Unit × G)) (hk34 : ∀ (l0 : Nat) (l2 : Int32) (l3 : Int32) (g : G), KD g l0 12 → k34 l0 l2 l3 g = some (rx, g') → SemF X m_X12_laysLikely d 34 [(0, .ref (ad X l0)), (2, .int l2), (3, .int l3)] [] g none g') (k42 : Nat → Int32 → Int32 → Int32 → G → Option (Unit × G)) (hk42 : ∀ (l0 : Nat) (l2 : Int32) (l3 : Int32) (l4 : Int32) (g : G), KD g l0 12 → k42 l0 l2 l3 l4 g = some (rx, g') → SemF X m_X12_laysLikely d 42 [(0, .ref (ad X l0)), (2, .int l2), (3, .int l3), (4, .int l4)] [] g none g') (l0 : Nat) (l2 : Int32) (l3 : Int32) (l4 : Int32) (g : G) (k_l0 : KD g l0 12) (h : f_X12_laysLikely_173 k34 k42 l0 l2 l3 l4 g = some (rx, g')) : SemF X m_X12_laysLikely d 173 [(0, .ref (ad X l0)), (2, .int l2), (3, .int l3), (4, .int l4)] [] g none g' := by
  rw [f_X12_laysLikely_173] at h
  refine SF_iinc 3 (l4 + (1 : Int32)) [(4, .int (l4 + (1 : Int32))), (0, .ref (ad X l0)), (2, .int l2), (3, .int l3)] 176 dX12_laysLikely_173 rfl rfl (by decide) rfl rfl ?_
  refine SF_goto 42 dX12_laysLikely_176 rfl ?_
  refine SF_sub [1, 2, 3, 0] rfl ?_
  exact hk42 l0 l2 l3 (l4 + (1 : Int32)) g k_l0 h

set_option maxRecDepth 20000 in
set_option maxHeartbeats 2000000 in
theorem w_X12_laysLikely_167 {X : CX} {d : Nat} (hd : 7 ≤ d) {g' : G} {rx : Unit} (k34 : Nat → Int32 → Int32 → G → Option (Unit × G)) (hk34 : ∀ (l0 : Nat) (l2 : Int32) (l3 : Int32) (g : G), KD g l0 12 → k34 l0 l2 l3 g = some (rx, g') → SemF X m_X12_laysLikely d 34 [(0, .ref (ad X l0)), (2, .int l2), (3, .int l3)] [] g none g') (k42 : Nat → Int32 → Int32 → Int32 → G → Option (Unit × G)) (hk42 : ∀ (l0 : Nat) (l2 : Int32) (l3 : Int32) (l4 : Int32) (g : G), KD g l0 12 → k42 l0 l2 l3 l4 g = some (rx, g') → SemF X m_X12_laysLikely d 42 [(0, .ref (ad X l0)), (2, .int l2), (3, .int l3), (4, .int l4)] [] g none g') (k102 : Nat → Int32 → Int32 → Int32 → Int32 → Int32 → G → Option (Unit × G)) (hk102 : ∀ (l0 : Nat) (l2 : Int32) (l3 : Int32) (l4 : Int32) (l5 : Int32) (l6 : Int32) (g : G), KD g l0 12 → k102 l0 l2 l3 l4 l5 l6 g = some (rx, g') → SemF X m_X12_laysLikely d 102 [(0, .ref (ad X l0)), (2, .int l2), (3, .int l3), (4, .int l4), (5, .int l5), (6, .int l6)] [] g none g') (l0 : Nat) (l2 : Int32) (l3 : Int32) (l4 : Int32) (l5 : Int32) (l6 : Int32) (g : G) (k_l0 : KD g l0 12) (h : f_X12_laysLikely_167 k34 k42 k102 l0 l2 l3 l4 l5 l6 g = some (rx, g')) : SemF X m_X12_laysLikely d 167 [(0, .ref (ad X l0)), (2, .int l2), (3, .int l3), (4, .int l4), (5, .int l5), (6, .int l6)] [] g none g' := by
  rw [f_X12_laysLikely_167] at h
  refine SF_iinc 5 (l6 + (1 : Int32)) [(6, .int (l6 + (1 : Int32))), (0, .ref (ad X l0)), (2, .int l2), (3, .int l3), (4, .int l4), (5, .int l5)] 170 dX12_laysLikely_167 rfl rfl (by decide) rfl rfl ?_
  refine SF_goto 102 dX12_laysLikely_170 rfl ?_
  refine SF_sub [1, 2, 3, 4, 5, 0] rfl ?_
  exact hk102 l0 l2 l3 l4 l5 (l6 + (1 : Int32)) g k_l0 h

set_option maxRecDepth 20000 in
set_option maxHeartbeats 2000000 in
theorem w_X12_laysLikely_102 {X : CX} {d : Nat} (hd : 7 ≤ d) {g' : G} {rx : Unit} (k34 : Nat → Int32 → Int32 → G → Option (Unit × G)) (hk34 : ∀ (l0 : Nat) (l2 : Int32) (l3 : Int32) (g : G), KD g l0 12 → k34 l0 l2 l3 g = some (rx, g') → SemF X m_X12_laysLikely d 34 [(0, .ref (ad X l0)), (2, .int l2), (3, .int l3)] [] g none g') (k42 : Nat → Int32 → Int32 → Int32 → G → Option (Unit × G)) (hk42 : ∀ (l0 : Nat) (l2 : Int32) (l3 : Int32) (l4 : Int32) (g : G), KD g l0 12 → k42 l0 l2 l3 l4 g = some (rx, g') → SemF X m_X12_laysLikely d 42 [(0, .ref (ad X l0)), (2, .int l2), (3, .int l3), (4, .int l4)] [] g none g') : ∀ (n : Nat) (l0 : Nat) (l2 : Int32) (l3 : Int32) (l4 : Int32) (l5 : Int32) (l6 : Int32) (g : G), KD g l0 12 → f_X12_laysLikely_102 k34 k42 n l0 l2 l3 l4 l5 l6 g = some (rx, g') → SemF X m_X12_laysLikely d 102 [(0, .ref (ad X l0)), (2, .int l2), (3, .int l3), (4, .int l4), (5, .int l5), (6, .int l6)] [] g none g' := by
  intro n
  induction n with
  | zero =>
    intro l0 l2 l3 l4 l5 l6 g k_l0 h
    rw [f_X12_laysLikely_102] at h
    cases h
  | succ n ih =>
  intro l0 l2 l3 l4 l5 l6 g k_l0 h
  rw [f_X12_laysLikely_102] at h
  refine SF_iload 5 104 dX12_laysLikely_102 rfl rfl ?_
  refine SF_bipush (8 : Int32) 106 dX12_laysLikely_104 rfl rfl ?_
  refine SF_icge 173 109 dX12_laysLikely_106 rfl rfl (fun c1 => ?_) (fun c1 => ?_)
  · have h := ite_t c1 h
    refine SF_sub [0, 1, 2, 3] rfl ?_
    exact w_X12_laysLikely_173 hd k34 hk34 k42 hk42 l0 l2 l3 l4 g k_l0 h
  · have h := ite_f c1 h
    refine SF_iload 4 111 dX12_laysLikely_109 rfl rfl ?_
    refine SF_ifle 173 114 dX12_laysLikely_111 rfl rfl (fun c2 => ?_) (fun c2 => ?_)
    · have h := ite_t c2 h
      refine SF_sub [0, 1, 2, 3] rfl ?_
      exact w_X12_laysLikely_173 hd k34 hk34 k42 hk42 l0 l2 l3 l4 g k_l0 h
    · have h := ite_f c2 h
      refine SF_aload_n 0 115 dX12_laysLikely_114 rfl rfl rfl ?_
      obtain ⟨b3, r4, h⟩ := dr_some h
      refine SF_getR 118 fl_X12_42 dX12_laysLikely_115 k_l0.1 r4 rfl ?_
      refine SF_bipush (8 : Int32) 120 dX12_laysLikely_118 rfl rfl ?_
      refine SF_iload 3 122 dX12_laysLikely_120 rfl rfl ?_
      refine SF_imul 123 dX12_laysLikely_122 rfl ?_
      refine SF_iload 5 125 dX12_laysLikely_123 rfl rfl ?_
      refine SF_iadd 126 dX12_laysLikely_125 rfl ?_
      obtain ⟨k5, h⟩ := gdK_some h
      obtain ⟨i6, h⟩ := gdI_some h
      refine SF_iald 127 dX12_laysLikely_126 k5.1 i6 rfl ?_
      refine SF_iconst (-1 : Int32) 128 dX12_laysLikely_127 rfl rfl ?_
      refine SF_iceq 167 131 dX12_laysLikely_128 rfl rfl (fun c7 => ?_) (fun c7 => ?_)
      · have h := ite_t c7 h
        exact w_X12_laysLikely_167 hd k34 hk34 k42 hk42 (f_X12_laysLikely_102 k34 k42 n) ih l0 l2 l3 l4 l5 l6 g k_l0 h
      · have h := ite_f c7 h
        refine SF_aload_n 0 132 dX12_laysLikely_131 rfl rfl rfl ?_
        obtain ⟨b8, r9, h⟩ := dr_some h
        refine SF_getR 135 fl_X12_58 dX12_laysLikely_132 k_l0.1 r9 rfl ?_
        refine SF_aload_n 0 136 dX12_laysLikely_135 rfl rfl rfl ?_
        refine SF_getR 139 fl_X12_42 dX12_laysLikely_136 k_l0.1 r4 rfl ?_
        refine SF_bipush (8 : Int32) 141 dX12_laysLikely_139 rfl rfl ?_
        refine SF_iload 3 143 dX12_laysLikely_141 rfl rfl ?_
        refine SF_imul 144 dX12_laysLikely_143 rfl ?_
        refine SF_iload 5 146 dX12_laysLikely_144 rfl rfl ?_
        refine SF_iadd 147 dX12_laysLikely_146 rfl ?_
        refine SF_iald 148 dX12_laysLikely_147 k5.1 i6 rfl ?_
        refine SF_dup2_11 149 dX12_laysLikely_148 rfl rfl rfl ?_
        obtain ⟨k10, h⟩ := gdK_some h
        obtain ⟨i11, h⟩ := gdI_some h
        refine SF_lald 150 dX12_laysLikely_149 k10.1 i11 rfl ?_
        refine SF_aload_n 0 151 dX12_laysLikely_150 rfl rfl rfl ?_
        obtain ⟨b12, r13, h⟩ := dr_some h
        refine SF_getR 154 fl_X12_54 dX12_laysLikely_151 k_l0.1 r13 rfl ?_
        refine SF_iload 3 156 dX12_laysLikely_154 rfl rfl ?_
        obtain ⟨k14, h⟩ := gdK_some h
        obtain ⟨i15, h⟩ := gdI_some h
        refine SF_lald 157 dX12_laysLikely_156 k14.1 i15 rfl ?_
        refine SF_ldc2 160 dX12_laysLikely_157 kl_X12_469 rfl ?_
        refine SF_iload 4 162 dX12_laysLikely_160 rfl rfl ?_
        refine SF_i2l 163 dX12_laysLikely_162 rfl ?_
        obtain ⟨z16, h⟩ := gdZl_some h
        refine SF_ldiv 164 dX12_laysLikely_163 z16 rfl ?_
        refine SF_lmul 165 dX12_laysLikely_164 rfl ?_
        refine SF_ladd 166 dX12_laysLikely_165 rfl ?_
        refine SF_last 167 dX12_laysLikely_166 k10.1 i11 rfl ?_
        obtain ⟨g17, e18, h⟩ := lg_some h
        rw [← e18]
        have k_l0 := KD.eq e18 k_l0
        have k5 := KD.eq e18 k5
        have k10 := KD.eq e18 k10
        have k14 := KD.eq e18 k14
        have r4 := gR_eq e18 r4
        have r9 := gR_eq e18 r9
        have r13 := gR_eq e18 r13
        have i6 := vp_eq e18 i6
        have i11 := vp_eq e18 i11
        have i15 := vp_eq e18 i15
        exact w_X12_laysLikely_167 hd k34 hk34 k42 hk42 (f_X12_laysLikely_102 k34 k42 n) ih l0 l2 l3 l4 l5 l6 g17 k_l0 h

set_option maxRecDepth 20000 in
set_option maxHeartbeats 2000000 in
theorem w_X12_laysLikely_99 {X : CX} {d : Nat} (hd : 7 ≤ d) {g' : G} {rx : Unit} (k34 : Nat → Int32 → Int32 → G → Option (Unit × G)) (hk34 : ∀ (l0 : Nat) (l2 : Int32) (l3 : Int32) (g : G), KD g l0 12 → k34 l0 l2 l3 g = some (rx, g') → SemF X m_X12_laysLikely d 34 [(0, .ref (ad X l0)), (2, .int l2), (3, .int l3)] [] g none g') (k42 : Nat → Int32 → Int32 → Int32 → G → Option (Unit × G)) (hk42 : ∀ (l0 : Nat) (l2 : Int32) (l3 : Int32) (l4 : Int32) (g : G), KD g l0 12 → k42 l0 l2 l3 l4 g = some (rx, g') → SemF X m_X12_laysLikely d 42 [(0, .ref (ad X l0)), (2, .int l2), (3, .int l3), (4, .int l4)] [] g none g') (l0 : Nat) (l2 : Int32) (l3 : Int32) (l4 : Int32) (l5 : Int32) (g : G) (k_l0 : KD g l0 12) (h : f_X12_laysLikely_99 k34 k42 l0 l2 l3 l4 l5 g = some (rx, g')) : SemF X m_X12_laysLikely d 99 [(0, .ref (ad X l0)), (2, .int l2), (3, .int l3), (4, .int l4), (5, .int l5)] [] g none g' := by
  rw [f_X12_laysLikely_99] at h
  refine SF_iconst (0 : Int32) 100 dX12_laysLikely_99 rfl rfl ?_
  refine SF_istore [(6, .int (0 : Int32)), (0, .ref (ad X l0)), (2, .int l2), (3, .int l3), (4, .int l4), (5, .int l5)] 102 dX12_laysLikely_100 (by decide) rfl rfl ?_
  refine SF_sub [1, 2, 3, 4, 5, 0] rfl ?_
  exact w_X12_laysLikely_102 hd k34 hk34 k42 hk42 FU l0 l2 l3 l4 l5 (0 : Int32) g k_l0 h

set_option maxRecDepth 20000 in
set_option maxHeartbeats 2000000 in
theorem w_X12_laysLikely_42 {X : CX} {d : Nat} (hd : 7 ≤ d) {g' : G} {rx : Unit} (k34 : Nat → Int32 → Int32 → G → Option (Unit × G)) (hk34 : ∀ (l0 : Nat) (l2 : Int32) (l3 : Int32) (g : G), KD g l0 12 → k34 l0 l2 l3 g = some (rx, g') → SemF X m_X12_laysLikely d 34 [(0, .ref (ad X l0)), (2, .int l2), (3, .int l3)] [] g none g') : ∀ (n : Nat) (l0 : Nat) (l2 : Int32) (l3 : Int32) (l4 : Int32) (g : G), KD g l0 12 → f_X12_laysLikely_42 k34 n l0 l2 l3 l4 g = some (rx, g') → SemF X m_X12_laysLikely d 42 [(0, .ref (ad X l0)), (2, .int l2), (3, .int l3), (4, .int l4)] [] g none g' := by
  intro n
  induction n with
  | zero =>
    intro l0 l2 l3 l4 g k_l0 h
    rw [f_X12_laysLikely_42] at h
    cases h
  | succ n ih =>
  intro l0 l2 l3 l4 g k_l0 h
  rw [f_X12_laysLikely_42] at h
  refine SF_iload 3 44 dX12_laysLikely_42 rfl rfl ?_
  refine SF_sipush (1296 : Int32) 47 dX12_laysLikely_44 rfl rfl ?_
  refine SF_icge 179 50 dX12_laysLikely_47 rfl rfl (fun c1 => ?_) (fun c1 => ?_)
  · have h := ite_t c1 h
    refine SF_aload_n 0 180 dX12_laysLikely_179 rfl rfl rfl ?_
    obtain ⟨v2, g3, q4, h⟩ := bd_some h
    have s5 := w_X12_isThen (X := X) (Nat.le_refl 0) l0 g g3 v2 k_l0 q4
    refine SF_callVv 183 mi_X12_isThen ml_X12_405 dX12_laysLikely_180 (Nat.le_trans (by decide) hd) s5 k_l0.1 rfl rfl (Nat.le_of_ble_eq_true rfl) rfl ?_
    have k_l0 := k_l0.ext s5.1
    refine SF_iinc 2 (l3 + (1 : Int32)) [(3, .int (l3 + (1 : Int32))), (0, .ref (ad X l0)), (2, .int l2), (4, .int l4)] 186 dX12_laysLikely_183 rfl rfl (by decide) rfl rfl ?_
    refine SF_goto 34 dX12_laysLikely_186 rfl ?_
    refine SF_sub [1, 2, 0] rfl ?_
    exact hk34 l0 l2 (l3 + (1 : Int32)) g3 k_l0 h
  · have h := ite_f c1 h
    refine SF_aload_n 0 51 dX12_laysLikely_50 rfl rfl rfl ?_
    obtain ⟨b6, r7, h⟩ := dr_some h
    refine SF_getR 54 fl_X12_54 dX12_laysLikely_51 k_l0.1 r7 rfl ?_
    refine SF_iload 3 56 dX12_laysLikely_54 rfl rfl ?_
    obtain ⟨k8, h⟩ := gdK_some h
    obtain ⟨i9, h⟩ := gdI_some h
    refine SF_lald 57 dX12_laysLikely_56 k8.1 i9 rfl ?_
    refine SF_lconst (0 : Int64) 58 dX12_laysLikely_57 rfl rfl ?_
    refine SF_lcmp 59 dX12_laysLikely_58 rfl ?_
    refine SF_ifne 65 62 dX12_laysLikely_59 rfl rfl (fun c10 => ?_) (fun c10 => ?_)
    · have h := ite_f c10 h
      refine SF_aload_n 0 66 dX12_laysLikely_65 rfl rfl rfl ?_
      refine SF_iload 3 68 dX12_laysLikely_66 rfl rfl ?_
      obtain ⟨v11, g12, q13, h⟩ := bd_some h
      have s14 := w_X12_canFrom (X := X) (Nat.le_refl 0) l0 l4 g g12 v11 k_l0 q13
      refine SF_callVi 71 mi_X12_canFrom ml_X12_466 dX12_laysLikely_68 (Nat.le_trans (by decide) hd) s14 k_l0.1 rfl rfl (Nat.le_of_ble_eq_true rfl) rfl ?_
      have k_l0 := k_l0.ext s14.1
      have k8 := k8.ext s14.1
      refine SF_istore [(5, .int v11), (0, .ref (ad X l0)), (2, .int l2), (3, .int l3), (4, .int l4)] 73 dX12_laysLikely_71 (by decide) rfl rfl ?_
      refine SF_iload 0 75 dX12_laysLikely_73 rfl rfl ?_
      refine SF_ifne 99 78 dX12_laysLikely_75 rfl rfl (fun c15 => ?_) (fun c15 => ?_)
      · have h := ite_f c15 h
        refine SF_sub [1, 2, 3, 4, 0] rfl ?_
        exact w_X12_laysLikely_99 hd k34 hk34 (f_X12_laysLikely_42 k34 n) ih l0 l2 l3 l4 v11 g12 k_l0 h
      · have h := ite_t c15 h
        refine SF_aload_n 1 79 dX12_laysLikely_78 rfl rfl rfl ?_
        obtain ⟨b16, r17, h⟩ := dr_some h
        refine SF_getR 82 fl_X12_58 dX12_laysLikely_79 k_l0.1 r17 rfl ?_
        refine SF_iload 4 84 dX12_laysLikely_82 rfl rfl ?_
        refine SF_dup2_11 85 dX12_laysLikely_84 rfl rfl rfl ?_
        obtain ⟨k18, h⟩ := gdK_some h
        obtain ⟨i19, h⟩ := gdI_some h
        refine SF_lald 86 dX12_laysLikely_85 k18.1 i19 rfl ?_
        refine SF_aload_n 1 87 dX12_laysLikely_86 rfl rfl rfl ?_
        obtain ⟨b20, r21, h⟩ := dr_some h
        refine SF_getR 90 fl_X12_54 dX12_laysLikely_87 k_l0.1 r21 rfl ?_
        refine SF_iload 4 92 dX12_laysLikely_90 rfl rfl ?_
        obtain ⟨k22, h⟩ := gdK_some h
        obtain ⟨i23, h⟩ := gdI_some h
        refine SF_lald 93 dX12_laysLikely_92 k22.1 i23 rfl ?_
        refine SF_ldc2 96 dX12_laysLikely_93 kl_X12_469 rfl ?_
        refine SF_lmul 97 dX12_laysLikely_96 rfl ?_
        refine SF_ladd 98 dX12_laysLikely_97 rfl ?_
        refine SF_last 99 dX12_laysLikely_98 k18.1 i19 rfl ?_
        obtain ⟨g24, e25, h⟩ := lg_some h
        rw [← e25]
        have k_l0 := KD.eq e25 k_l0
        have k8 := KD.eq e25 k8
        have k18 := KD.eq e25 k18
        have k22 := KD.eq e25 k22
        have r17 := gR_eq e25 r17
        have r21 := gR_eq e25 r21
        have i19 := vp_eq e25 i19
        have i23 := vp_eq e25 i23
        refine SF_sub [1, 2, 3, 4, 0] rfl ?_
        exact w_X12_laysLikely_99 hd k34 hk34 (f_X12_laysLikely_42 k34 n) ih l0 l2 l3 l4 v11 g24 k_l0 h
    · have h := ite_t c10 h
      refine SF_goto 173 dX12_laysLikely_62 rfl ?_
      exact w_X12_laysLikely_173 hd k34 hk34 (f_X12_laysLikely_42 k34 n) ih l0 l2 l3 l4 g k_l0 h

set_option maxRecDepth 20000 in
set_option maxHeartbeats 2000000 in
theorem w_X12_laysLikely_34 {X : CX} {d : Nat} (hd : 7 ≤ d) {g' : G} {rx : Unit} : ∀ (n : Nat) (l0 : Nat) (l2 : Int32) (l3 : Int32) (g : G), KD g l0 12 → f_X12_laysLikely_34 n l0 l2 l3 g = some (rx, g') → SemF X m_X12_laysLikely d 34 [(0, .ref (ad X l0)), (2, .int l2), (3, .int l3)] [] g none g' := by
  intro n
  induction n with
  | zero =>
    intro l0 l2 l3 g k_l0 h
    rw [f_X12_laysLikely_34] at h
    cases h
  | succ n ih =>
  intro l0 l2 l3 g k_l0 h
  rw [f_X12_laysLikely_34] at h
  refine SF_iload_n 2 35 dX12_laysLikely_34 rfl rfl rfl ?_
  refine SF_iload_n 1 36 dX12_laysLikely_35 rfl rfl rfl ?_
  refine SF_icge 189 39 dX12_laysLikely_36 rfl rfl (fun c1 => ?_) (fun c1 => ?_)
  · have h := ite_t c1 h
    exact RT_v rfl dX12_laysLikely_189 h
  · have h := ite_f c1 h
    refine SF_iconst (0 : Int32) 40 dX12_laysLikely_39 rfl rfl ?_
    refine SF_istore [(4, .int (0 : Int32)), (0, .ref (ad X l0)), (2, .int l2), (3, .int l3)] 42 dX12_laysLikely_40 (by decide) rfl rfl ?_
    refine SF_sub [1, 2, 3, 0] rfl ?_
    exact w_X12_laysLikely_42 hd (f_X12_laysLikely_34 n) ih FU l0 l2 l3 (0 : Int32) g k_l0 h

set_option maxRecDepth 20000 in
set_option maxHeartbeats 2000000 in
theorem w_X12_laysLikely_12 {X : CX} {d : Nat} (hd : 7 ≤ d) {g' : G} {rx : Unit} : ∀ (n : Nat) (l0 : Nat) (l2 : Int32) (l3 : Int32) (g : G), KD g l0 12 → f_X12_laysLikely_12 n l0 l2 l3 g = some (rx, g') → SemF X m_X12_laysLikely d 12 [(0, .ref (ad X l0)), (2, .int l2), (3, .int l3)] [] g none g' := by
  intro n
  induction n with
  | zero =>
    intro l0 l2 l3 g k_l0 h
    rw [f_X12_laysLikely_12] at h
    cases h
  | succ n ih =>
  intro l0 l2 l3 g k_l0 h
  rw [f_X12_laysLikely_12] at h
  refine SF_iload_n 2 13 dX12_laysLikely_12 rfl rfl rfl ?_
  refine SF_sipush (1296 : Int32) 16 dX12_laysLikely_13 rfl rfl ?_
  refine SF_icge 32 19 dX12_laysLikely_16 rfl rfl (fun c1 => ?_) (fun c1 => ?_)
  · have h := ite_t c1 h
    refine SF_iconst (0 : Int32) 33 dX12_laysLikely_32 rfl rfl ?_
    refine SF_istore_n [(3, .int (0 : Int32)), (0, .ref (ad X l0)), (2, .int l2)] 34 dX12_laysLikely_33 rfl (by decide) rfl rfl ?_
    refine SF_sub [1, 2, 0] rfl ?_
    exact w_X12_laysLikely_34 hd FU l0 l2 (0 : Int32) g k_l0 h
  · have h := ite_f c1 h
    refine SF_aload_n 0 20 dX12_laysLikely_19 rfl rfl rfl ?_
    obtain ⟨b2, r3, h⟩ := dr_some h
    refine SF_getR 23 fl_X12_58 dX12_laysLikely_20 k_l0.1 r3 rfl ?_
    refine SF_iload_n 2 24 dX12_laysLikely_23 rfl rfl rfl ?_
    refine SF_lconst (0 : Int64) 25 dX12_laysLikely_24 rfl rfl ?_
    obtain ⟨k4, h⟩ := gdK_some h
    obtain ⟨i5, h⟩ := gdI_some h
    refine SF_last 26 dX12_laysLikely_25 k4.1 i5 rfl ?_
    obtain ⟨g6, e7, h⟩ := lg_some h
    rw [← e7]
    have k_l0 := KD.eq e7 k_l0
    have k4 := KD.eq e7 k4
    have r3 := gR_eq e7 r3
    have i5 := vp_eq e7 i5
    refine SF_iinc 2 (l3 + (1 : Int32)) [(3, .int (l3 + (1 : Int32))), (0, .ref (ad X l0)), (2, .int l2)] 29 dX12_laysLikely_26 rfl rfl (by decide) rfl rfl ?_
    refine SF_goto 12 dX12_laysLikely_29 rfl ?_
    refine SF_sub [1, 2, 0] rfl ?_
    exact ih l0 l2 (l3 + (1 : Int32)) g6 k_l0 h

set_option maxRecDepth 20000 in
set_option maxHeartbeats 2000000 in
theorem w_X12_laysLikely {X : CX} {d : Nat} (hd : 7 ≤ d) (l0 : Nat) (l1 : Int32) (l2 : Int32) (g g' : G) (rx : Unit) (k_l0 : KD g l0 12) (h : f_X12_laysLikely l0 l1 l2 g = some (rx, g')) : Sem X m_X12_laysLikely d [.ref (ad X l0), .int l1, .int l2] g none g' := by
  refine Sem_of (lo := [(0, .ref (ad X l0)), (1, .int l1), (2, .int l2)]) (by decide +kernel) rfl (Nat.le_of_ble_eq_true rfl) ?_
  rw [f_X12_laysLikely] at h
  refine SF_aload_n 0 1 dX12_laysLikely_0 rfl rfl rfl ?_
  refine SF_iload_n 1 2 dX12_laysLikely_1 rfl rfl rfl ?_
  obtain ⟨v1, g2, q3, h⟩ := bd_some h
  have s4 := w_X12_laysStands (X := X) (Nat.le_refl 6) l0 l1 g g2 v1 k_l0 q3
  refine SF_callVv 5 mi_X12_laysStands ml_X12_376 dX12_laysLikely_2 (Nat.le_trans (by decide) hd) s4 k_l0.1 rfl rfl (Nat.le_of_ble_eq_true rfl) rfl ?_
  have k_l0 := k_l0.ext s4.1
  refine SF_aload_n 0 6 dX12_laysLikely_5 rfl rfl rfl ?_
  refine SF_iload_n 1 7 dX12_laysLikely_6 rfl rfl rfl ?_
  obtain ⟨v5, g6, q7, h⟩ := bd_some h
  have s8 := w_X12_beginsMany (X := X) (Nat.le_refl 2) l0 l1 g2 g6 v5 k_l0 q7
  refine SF_callVv 10 mi_X12_beginsMany ml_X12_402 dX12_laysLikely_7 (Nat.le_trans (by decide) hd) s8 k_l0.1 rfl rfl (Nat.le_of_ble_eq_true rfl) rfl ?_
  have k_l0 := k_l0.ext s8.1
  refine SF_iconst (0 : Int32) 11 dX12_laysLikely_10 rfl rfl ?_
  refine SF_istore_n [(3, .int (0 : Int32)), (0, .ref (ad X l0)), (1, .int l1), (2, .int l2)] 12 dX12_laysLikely_11 rfl (by decide) rfl rfl ?_
  refine SF_sub [1, 3, 0] rfl ?_
  exact w_X12_laysLikely_12 hd FU l0 l2 (0 : Int32) g6 k_l0 h

theorem dX12_likelyIn_0 : decode cX12_likelyIn 0 = .ok (.lconst 0, 1) := by decide +kernel
theorem dX12_likelyIn_1 : decode cX12_likelyIn 1 = .ok (.lstore_n 3, 1) := by decide +kernel
theorem dX12_likelyIn_2 : decode cX12_likelyIn 2 = .ok (.iconst 0, 1) := by decide +kernel
theorem dX12_likelyIn_3 : decode cX12_likelyIn 3 = .ok (.istore 5, 2) := by decide +kernel
theorem dX12_likelyIn_5 : decode cX12_likelyIn 5 = .ok (.iload 5, 2) := by decide +kernel
theorem dX12_likelyIn_7 : decode cX12_likelyIn 7 = .ok (.sipush 1296, 3) := by decide +kernel
theorem dX12_likelyIn_10 : decode cX12_likelyIn 10 = .ok (.if_icmp .ge 33, 3) := by decide +kernel
theorem dX12_likelyIn_13 : decode cX12_likelyIn 13 = .ok (.lload_n 3, 1) := by decide +kernel
theorem dX12_likelyIn_14 : decode cX12_likelyIn 14 = .ok (.iload 5, 2) := by decide +kernel
theorem dX12_likelyIn_16 : decode cX12_likelyIn 16 = .ok (.iload_n 1, 1) := by decide +kernel
theorem dX12_likelyIn_17 : decode cX12_likelyIn 17 = .ok (.invokestatic 347, 3) := by decide +kernel
theorem dX12_likelyIn_20 : decode cX12_likelyIn 20 = .ok (.iload_n 2, 1) := by decide +kernel
theorem dX12_likelyIn_21 : decode cX12_likelyIn 21 = .ok (.if_icmp .ne 13, 3) := by decide +kernel
theorem dX12_likelyIn_24 : decode cX12_likelyIn 24 = .ok (.aload_n 0, 1) := by decide +kernel
theorem dX12_likelyIn_25 : decode cX12_likelyIn 25 = .ok (.getfield 54, 3) := by decide +kernel
theorem dX12_likelyIn_28 : decode cX12_likelyIn 28 = .ok (.iload 5, 2) := by decide +kernel
theorem dX12_likelyIn_30 : decode cX12_likelyIn 30 = .ok (.laload, 1) := by decide +kernel
theorem dX12_likelyIn_31 : decode cX12_likelyIn 31 = .ok (.goto 4, 3) := by decide +kernel
theorem dX12_likelyIn_34 : decode cX12_likelyIn 34 = .ok (.lconst 0, 1) := by decide +kernel
theorem dX12_likelyIn_35 : decode cX12_likelyIn 35 = .ok (.ladd, 1) := by decide +kernel
theorem dX12_likelyIn_36 : decode cX12_likelyIn 36 = .ok (.lstore_n 3, 1) := by decide +kernel
theorem dX12_likelyIn_37 : decode cX12_likelyIn 37 = .ok (.iinc 5 1, 3) := by decide +kernel
theorem dX12_likelyIn_40 : decode cX12_likelyIn 40 = .ok (.goto (-35), 3) := by decide +kernel
theorem dX12_likelyIn_43 : decode cX12_likelyIn 43 = .ok (.lload_n 3, 1) := by decide +kernel
theorem dX12_likelyIn_44 : decode cX12_likelyIn 44 = .ok (.lreturn, 1) := by decide +kernel
set_option maxRecDepth 20000 in
set_option maxHeartbeats 2000000 in
theorem w_X12_likelyIn_35 {X : CX} {d : Nat} (hd : 1 ≤ d) {g' : G} {rx : Int64} (k5 : Nat → Int32 → Int32 → Int64 → Int32 → G → Option (Int64 × G)) (hk5 : ∀ (l0 : Nat) (l1 : Int32) (l2 : Int32) (l3 : Int64) (l5 : Int32) (g : G), KD g l0 12 → k5 l0 l1 l2 l3 l5 g = some (rx, g') → SemF X m_X12_likelyIn d 5 [(0, .ref (ad X l0)), (1, .int l1), (2, .int l2), (3, .long l3), (5, .int l5)] [] g (some (.long rx)) g') (l0 : Nat) (l1 : Int32) (l2 : Int32) (l5 : Int32) (s0 : Int64) (s1 : Int64) (g : G) (k_l0 : KD g l0 12) (h : f_X12_likelyIn_35 k5 l0 l1 l2 l5 s0 s1 g = some (rx, g')) : SemF X m_X12_likelyIn d 35 [(0, .ref (ad X l0)), (1, .int l1), (2, .int l2), (5, .int l5)] [.long s0, .long s1] g (some (.long rx)) g' := by
  rw [f_X12_likelyIn_35] at h
  refine SF_ladd 36 dX12_likelyIn_35 rfl ?_
  obtain ⟨y1, e2, h⟩ := ll_some h
  refine SF_eqL e2 ?_
  refine SF_lstore_n [(3, .long y1), (0, .ref (ad X l0)), (1, .int l1), (2, .int l2), (5, .int l5)] 37 dX12_likelyIn_36 rfl (by decide) rfl rfl ?_
  refine SF_iinc 4 (l5 + (1 : Int32)) [(5, .int (l5 + (1 : Int32))), (3, .long y1), (0, .ref (ad X l0)), (1, .int l1), (2, .int l2)] 40 dX12_likelyIn_37 rfl rfl (by decide) rfl rfl ?_
  refine SF_goto 5 dX12_likelyIn_40 rfl ?_
  refine SF_sub [2, 3, 4, 1, 0] rfl ?_
  exact hk5 l0 l1 l2 y1 (l5 + (1 : Int32)) g k_l0 h

set_option maxRecDepth 20000 in
set_option maxHeartbeats 2000000 in
theorem w_X12_likelyIn_5 {X : CX} {d : Nat} (hd : 1 ≤ d) {g' : G} {rx : Int64} : ∀ (n : Nat) (l0 : Nat) (l1 : Int32) (l2 : Int32) (l3 : Int64) (l5 : Int32) (g : G), KD g l0 12 → f_X12_likelyIn_5 n l0 l1 l2 l3 l5 g = some (rx, g') → SemF X m_X12_likelyIn d 5 [(0, .ref (ad X l0)), (1, .int l1), (2, .int l2), (3, .long l3), (5, .int l5)] [] g (some (.long rx)) g' := by
  intro n
  induction n with
  | zero =>
    intro l0 l1 l2 l3 l5 g k_l0 h
    rw [f_X12_likelyIn_5] at h
    cases h
  | succ n ih =>
  intro l0 l1 l2 l3 l5 g k_l0 h
  rw [f_X12_likelyIn_5] at h
  refine SF_iload 4 7 dX12_likelyIn_5 rfl rfl ?_
  refine SF_sipush (1296 : Int32) 10 dX12_likelyIn_7 rfl rfl ?_
  refine SF_icge 43 13 dX12_likelyIn_10 rfl rfl (fun c1 => ?_) (fun c1 => ?_)
  · have h := ite_t c1 h
    refine SF_lload_n 3 44 dX12_likelyIn_43 rfl rfl rfl ?_
    exact RT_l rfl dX12_likelyIn_44 h
  · have h := ite_f c1 h
    refine SF_lload_n 3 14 dX12_likelyIn_13 rfl rfl rfl ?_
    refine SF_iload 4 16 dX12_likelyIn_14 rfl rfl ?_
    refine SF_iload_n 1 17 dX12_likelyIn_16 rfl rfl rfl ?_
    obtain ⟨v2, g3, q4, h⟩ := bd_some h
    have s5 := w_X12_inStand (X := X) (Nat.le_refl 0) l5 l1 g g3 v2 q4
    refine SF_callSi 20 mi_X12_inStand ml_X12_347 dX12_likelyIn_17 (Nat.le_trans (by decide) hd) s5 rfl rfl (Nat.le_of_ble_eq_true rfl) rfl ?_
    have k_l0 := k_l0.ext s5.1
    refine SF_iload_n 2 21 dX12_likelyIn_20 rfl rfl rfl ?_
    refine SF_icne 34 24 dX12_likelyIn_21 rfl rfl (fun c6 => ?_) (fun c6 => ?_)
    · have h := ite_f c6 h
      refine SF_lconst (0 : Int64) 35 dX12_likelyIn_34 rfl rfl ?_
      refine SF_sub [0, 1, 2, 4] rfl ?_
      exact w_X12_likelyIn_35 hd (f_X12_likelyIn_5 n) ih l0 l1 l2 l5 (0 : Int64) l3 g3 k_l0 h
    · have h := ite_t c6 h
      refine SF_aload_n 0 25 dX12_likelyIn_24 rfl rfl rfl ?_
      obtain ⟨b7, r8, h⟩ := dr_some h
      refine SF_getR 28 fl_X12_54 dX12_likelyIn_25 k_l0.1 r8 rfl ?_
      refine SF_iload 4 30 dX12_likelyIn_28 rfl rfl ?_
      obtain ⟨k9, h⟩ := gdK_some h
      obtain ⟨i10, h⟩ := gdI_some h
      refine SF_lald 31 dX12_likelyIn_30 k9.1 i10 rfl ?_
      refine SF_goto 35 dX12_likelyIn_31 rfl ?_
      refine SF_sub [0, 1, 2, 4] rfl ?_
      exact w_X12_likelyIn_35 hd (f_X12_likelyIn_5 n) ih l0 l1 l2 l5 (gL g3 b7 l5.toNatClampNeg) l3 g3 k_l0 h

set_option maxRecDepth 20000 in
set_option maxHeartbeats 2000000 in
theorem w_X12_likelyIn {X : CX} {d : Nat} (hd : 1 ≤ d) (l0 : Nat) (l1 : Int32) (l2 : Int32) (g g' : G) (rx : Int64) (k_l0 : KD g l0 12) (h : f_X12_likelyIn l0 l1 l2 g = some (rx, g')) : Sem X m_X12_likelyIn d [.ref (ad X l0), .int l1, .int l2] g (some (.long rx)) g' := by
  refine Sem_of (lo := [(0, .ref (ad X l0)), (1, .int l1), (2, .int l2)]) (by decide +kernel) rfl (Nat.le_of_ble_eq_true rfl) ?_
  rw [f_X12_likelyIn] at h
  refine SF_lconst (0 : Int64) 1 dX12_likelyIn_0 rfl rfl ?_
  refine SF_lstore_n [(3, .long (0 : Int64)), (0, .ref (ad X l0)), (1, .int l1), (2, .int l2)] 2 dX12_likelyIn_1 rfl (by decide) rfl rfl ?_
  refine SF_iconst (0 : Int32) 3 dX12_likelyIn_2 rfl rfl ?_
  refine SF_istore [(5, .int (0 : Int32)), (3, .long (0 : Int64)), (0, .ref (ad X l0)), (1, .int l1), (2, .int l2)] 5 dX12_likelyIn_3 (by decide) rfl rfl ?_
  refine SF_sub [2, 3, 4, 1, 0] rfl ?_
  exact w_X12_likelyIn_5 hd FU l0 l1 l2 (0 : Int64) (0 : Int32) g k_l0 h

theorem dX12_chance_0 : decode cX12_chance 0 = .ok (.aload_n 0, 1) := by decide +kernel
theorem dX12_chance_1 : decode cX12_chance 1 = .ok (.iconst 0, 1) := by decide +kernel
theorem dX12_chance_2 : decode cX12_chance 2 = .ok (.putfield 1, 3) := by decide +kernel
theorem dX12_chance_5 : decode cX12_chance 5 = .ok (.aload_n 0, 1) := by decide +kernel
theorem dX12_chance_6 : decode cX12_chance 6 = .ok (.iload_n 1, 1) := by decide +kernel
theorem dX12_chance_7 : decode cX12_chance 7 = .ok (.i2l, 1) := by decide +kernel
theorem dX12_chance_8 : decode cX12_chance 8 = .ok (.invokevirtual 255, 3) := by decide +kernel
theorem dX12_chance_11 : decode cX12_chance 11 = .ok (.ifCond .eq 30, 3) := by decide +kernel
theorem dX12_chance_14 : decode cX12_chance 14 = .ok (.iload_n 2, 1) := by decide +kernel
theorem dX12_chance_15 : decode cX12_chance 15 = .ok (.invokestatic 417, 3) := by decide +kernel
theorem dX12_chance_18 : decode cX12_chance 18 = .ok (.ifCond .eq 23, 3) := by decide +kernel
theorem dX12_chance_21 : decode cX12_chance 21 = .ok (.aload_n 0, 1) := by decide +kernel
theorem dX12_chance_22 : decode cX12_chance 22 = .ok (.iload_n 3, 1) := by decide +kernel
theorem dX12_chance_23 : decode cX12_chance 23 = .ok (.i2l, 1) := by decide +kernel
theorem dX12_chance_24 : decode cX12_chance 24 = .ok (.invokevirtual 264, 3) := by decide +kernel
theorem dX12_chance_27 : decode cX12_chance 27 = .ok (.ifCond .eq 14, 3) := by decide +kernel
theorem dX12_chance_30 : decode cX12_chance 30 = .ok (.iload 5, 2) := by decide +kernel
theorem dX12_chance_32 : decode cX12_chance 32 = .ok (.i2l, 1) := by decide +kernel
theorem dX12_chance_33 : decode cX12_chance 33 = .ok (.lconst 0, 1) := by decide +kernel
theorem dX12_chance_34 : decode cX12_chance 34 = .ok (.lconst 1, 1) := by decide +kernel
theorem dX12_chance_35 : decode cX12_chance 35 = .ok (.invokestatic 139, 3) := by decide +kernel
theorem dX12_chance_38 : decode cX12_chance 38 = .ok (.ifCond .ne 7, 3) := by decide +kernel
theorem dX12_chance_41 : decode cX12_chance 41 = .ok (.ldc2_w 396, 3) := by decide +kernel
theorem dX12_chance_44 : decode cX12_chance 44 = .ok (.lreturn, 1) := by decide +kernel
theorem dX12_chance_45 : decode cX12_chance 45 = .ok (.iload 4, 2) := by decide +kernel
theorem dX12_chance_47 : decode cX12_chance 47 = .ok (.i2l, 1) := by decide +kernel
theorem dX12_chance_48 : decode cX12_chance 48 = .ok (.lconst 0, 1) := by decide +kernel
theorem dX12_chance_49 : decode cX12_chance 49 = .ok (.ldc2_w 475, 3) := by decide +kernel
theorem dX12_chance_52 : decode cX12_chance 52 = .ok (.invokestatic 139, 3) := by decide +kernel
theorem dX12_chance_55 : decode cX12_chance 55 = .ok (.ifCond .ne 7, 3) := by decide +kernel
theorem dX12_chance_58 : decode cX12_chance 58 = .ok (.ldc2_w 400, 3) := by decide +kernel
theorem dX12_chance_61 : decode cX12_chance 61 = .ok (.lreturn, 1) := by decide +kernel
theorem dX12_chance_62 : decode cX12_chance 62 = .ok (.aload_n 0, 1) := by decide +kernel
theorem dX12_chance_63 : decode cX12_chance 63 = .ok (.iload_n 1, 1) := by decide +kernel
theorem dX12_chance_64 : decode cX12_chance 64 = .ok (.iload 4, 2) := by decide +kernel
theorem dX12_chance_66 : decode cX12_chance 66 = .ok (.invokevirtual 477, 3) := by decide +kernel
theorem dX12_chance_69 : decode cX12_chance 69 = .ok (.lconst 1, 1) := by decide +kernel
theorem dX12_chance_70 : decode cX12_chance 70 = .ok (.lstore 6, 2) := by decide +kernel
theorem dX12_chance_72 : decode cX12_chance 72 = .ok (.iconst 0, 1) := by decide +kernel
theorem dX12_chance_73 : decode cX12_chance 73 = .ok (.istore 8, 2) := by decide +kernel
theorem dX12_chance_75 : decode cX12_chance 75 = .ok (.iload 8, 2) := by decide +kernel
theorem dX12_chance_77 : decode cX12_chance 77 = .ok (.iload 4, 2) := by decide +kernel
theorem dX12_chance_79 : decode cX12_chance 79 = .ok (.if_icmp .ge 17, 3) := by decide +kernel
theorem dX12_chance_82 : decode cX12_chance 82 = .ok (.lload 6, 2) := by decide +kernel
theorem dX12_chance_84 : decode cX12_chance 84 = .ok (.ldc2_w 469, 3) := by decide +kernel
theorem dX12_chance_87 : decode cX12_chance 87 = .ok (.lmul, 1) := by decide +kernel
theorem dX12_chance_88 : decode cX12_chance 88 = .ok (.lstore 6, 2) := by decide +kernel
theorem dX12_chance_90 : decode cX12_chance 90 = .ok (.iinc 8 1, 3) := by decide +kernel
theorem dX12_chance_93 : decode cX12_chance 93 = .ok (.goto (-18), 3) := by decide +kernel
theorem dX12_chance_96 : decode cX12_chance 96 = .ok (.aload_n 0, 1) := by decide +kernel
theorem dX12_chance_97 : decode cX12_chance 97 = .ok (.iload_n 2, 1) := by decide +kernel
theorem dX12_chance_98 : decode cX12_chance 98 = .ok (.iload_n 3, 1) := by decide +kernel
theorem dX12_chance_99 : decode cX12_chance 99 = .ok (.invokevirtual 480, 3) := by decide +kernel
theorem dX12_chance_102 : decode cX12_chance 102 = .ok (.lstore 8, 2) := by decide +kernel
theorem dX12_chance_104 : decode cX12_chance 104 = .ok (.iload 5, 2) := by decide +kernel
theorem dX12_chance_106 : decode cX12_chance 106 = .ok (.ifCond .ne 8, 3) := by decide +kernel
theorem dX12_chance_109 : decode cX12_chance 109 = .ok (.lload 8, 2) := by decide +kernel
theorem dX12_chance_111 : decode cX12_chance 111 = .ok (.goto 5, 3) := by decide +kernel
theorem dX12_chance_114 : decode cX12_chance 114 = .ok (.lload 6, 2) := by decide +kernel
theorem dX12_chance_116 : decode cX12_chance 116 = .ok (.lload 8, 2) := by decide +kernel
theorem dX12_chance_118 : decode cX12_chance 118 = .ok (.lload 6, 2) := by decide +kernel
theorem dX12_chance_120 : decode cX12_chance 120 = .ok (.invokestatic 471, 3) := by decide +kernel
theorem dX12_chance_123 : decode cX12_chance 123 = .ok (.ldiv, 1) := by decide +kernel
theorem dX12_chance_124 : decode cX12_chance 124 = .ok (.lreturn, 1) := by decide +kernel
set_option maxRecDepth 20000 in
set_option maxHeartbeats 2000000 in
theorem w_X12_chance_41 {X : CX} {d : Nat} (hd : 102 ≤ d) {g' : G} {rx : Int64} (g : G) (h : f_X12_chance_41 g = some (rx, g')) : SemF X m_X12_chance d 41 [] [] g (some (.long rx)) g' := by
  rw [f_X12_chance_41] at h
  refine SF_ldc2 44 dX12_chance_41 kl_X12_396 rfl ?_
  exact RT_l rfl dX12_chance_44 h

set_option maxRecDepth 20000 in
set_option maxHeartbeats 2000000 in
theorem w_X12_chance_116 {X : CX} {d : Nat} (hd : 102 ≤ d) {g' : G} {rx : Int64} (l6 : Int64) (l8 : Int64) (s0 : Int64) (g : G) (h : f_X12_chance_116 l6 l8 s0 g = some (rx, g')) : SemF X m_X12_chance d 116 [(6, .long l6), (8, .long l8)] [.long s0] g (some (.long rx)) g' := by
  rw [f_X12_chance_116] at h
  refine SF_lload 1 118 dX12_chance_116 rfl rfl ?_
  refine SF_lload 0 120 dX12_chance_118 rfl rfl ?_
  obtain ⟨v1, g2, q3, h⟩ := bd_some h
  have s4 := w_X12_common_T (X := X) (Nat.le_refl 101) l8 l6 g g2 v1 q3
  refine SF_callSl 123 mi_X12_common ml_X12_471 dX12_chance_120 (Nat.le_trans (by decide) hd) s4 rfl rfl (Nat.le_of_ble_eq_true rfl) rfl ?_
  obtain ⟨z5, h⟩ := gdZl_some h
  refine SF_ldiv 124 dX12_chance_123 z5 rfl ?_
  exact RT_l rfl dX12_chance_124 h

set_option maxRecDepth 20000 in
set_option maxHeartbeats 2000000 in
theorem w_X12_chance_75 {X : CX} {d : Nat} (hd : 102 ≤ d) {g' : G} {rx : Int64} : ∀ (n : Nat) (l0 : Nat) (l2 : Int32) (l3 : Int32) (l4 : Int32) (l5 : Int32) (l6 : Int64) (l8 : Int32) (g : G), KD g l0 12 → f_X12_chance_75 n l0 l2 l3 l4 l5 l6 l8 g = some (rx, g') → SemF X m_X12_chance d 75 [(0, .ref (ad X l0)), (2, .int l2), (3, .int l3), (4, .int l4), (5, .int l5), (6, .long l6), (8, .int l8)] [] g (some (.long rx)) g' := by
  intro n
  induction n with
  | zero =>
    intro l0 l2 l3 l4 l5 l6 l8 g k_l0 h
    rw [f_X12_chance_75] at h
    cases h
  | succ n ih =>
  intro l0 l2 l3 l4 l5 l6 l8 g k_l0 h
  rw [f_X12_chance_75] at h
  refine SF_iload 6 77 dX12_chance_75 rfl rfl ?_
  refine SF_iload 3 79 dX12_chance_77 rfl rfl ?_
  refine SF_icge 96 82 dX12_chance_79 rfl rfl (fun c1 => ?_) (fun c1 => ?_)
  · have h := ite_t c1 h
    refine SF_aload_n 0 97 dX12_chance_96 rfl rfl rfl ?_
    refine SF_iload_n 1 98 dX12_chance_97 rfl rfl rfl ?_
    refine SF_iload_n 2 99 dX12_chance_98 rfl rfl rfl ?_
    obtain ⟨v2, g3, q4, h⟩ := bd_some h
    have s5 := w_X12_likelyIn (X := X) (Nat.le_refl 1) l0 l2 l3 g g3 v2 k_l0 q4
    refine SF_callVl 102 mi_X12_likelyIn ml_X12_480 dX12_chance_99 (Nat.le_trans (by decide) hd) s5 k_l0.1 rfl rfl (Nat.le_of_ble_eq_true rfl) rfl ?_
    have k_l0 := k_l0.ext s5.1
    refine SF_lstore [(8, .long v2), (0, .ref (ad X l0)), (2, .int l2), (3, .int l3), (4, .int l4), (5, .int l5), (6, .long l6)] 104 dX12_chance_102 (by decide) rfl rfl ?_
    refine SF_iload 5 106 dX12_chance_104 rfl rfl ?_
    refine SF_ifne 114 109 dX12_chance_106 rfl rfl (fun c6 => ?_) (fun c6 => ?_)
    · have h := ite_f c6 h
      refine SF_lload 6 116 dX12_chance_114 rfl rfl ?_
      refine SF_sub [6, 0] rfl ?_
      exact w_X12_chance_116 hd l6 v2 l6 g3  h
    · have h := ite_t c6 h
      refine SF_lload 0 111 dX12_chance_109 rfl rfl ?_
      refine SF_goto 116 dX12_chance_111 rfl ?_
      refine SF_sub [6, 0] rfl ?_
      exact w_X12_chance_116 hd l6 v2 v2 g3  h
  · have h := ite_f c1 h
    refine SF_lload 5 84 dX12_chance_82 rfl rfl ?_
    refine SF_ldc2 87 dX12_chance_84 kl_X12_469 rfl ?_
    refine SF_lmul 88 dX12_chance_87 rfl ?_
    obtain ⟨y7, e8, h⟩ := ll_some h
    refine SF_eqL e8 ?_
    refine SF_lstore [(6, .long y7), (0, .ref (ad X l0)), (2, .int l2), (3, .int l3), (4, .int l4), (5, .int l5), (8, .int l8)] 90 dX12_chance_88 (by decide) rfl rfl ?_
    refine SF_iinc 6 (l8 + (1 : Int32)) [(8, .int (l8 + (1 : Int32))), (6, .long y7), (0, .ref (ad X l0)), (2, .int l2), (3, .int l3), (4, .int l4), (5, .int l5)] 93 dX12_chance_90 rfl rfl (by decide) rfl rfl ?_
    refine SF_goto 75 dX12_chance_93 rfl ?_
    refine SF_sub [2, 3, 4, 5, 6, 1, 0] rfl ?_
    exact ih l0 l2 l3 l4 l5 y7 (l8 + (1 : Int32)) g k_l0 h

set_option maxRecDepth 20000 in
set_option maxHeartbeats 2000000 in
theorem w_X12_chance {X : CX} {d : Nat} (hd : 102 ≤ d) (l0 : Nat) (l1 : Int32) (l2 : Int32) (l3 : Int32) (l4 : Int32) (l5 : Int32) (g g' : G) (rx : Int64) (k_l0 : KD g l0 12) (h : f_X12_chance l0 l1 l2 l3 l4 l5 g = some (rx, g')) : Sem X m_X12_chance d [.ref (ad X l0), .int l1, .int l2, .int l3, .int l4, .int l5] g (some (.long rx)) g' := by
  refine Sem_of (lo := [(0, .ref (ad X l0)), (1, .int l1), (2, .int l2), (3, .int l3), (4, .int l4), (5, .int l5)]) (by decide +kernel) rfl (Nat.le_of_ble_eq_true rfl) ?_
  rw [f_X12_chance] at h
  refine SF_aload_n 0 1 dX12_chance_0 rfl rfl rfl ?_
  refine SF_iconst (0 : Int32) 2 dX12_chance_1 rfl rfl ?_
  refine SF_putI 5 fl_X12_1 dX12_chance_2 k_l0.1 (fn_int _) (Or.inl rfl) rfl ?_
  obtain ⟨g1, e2, h⟩ := lg_some h
  rw [← e2]
  have k_l0 := KD.eq e2 k_l0
  refine SF_aload_n 0 6 dX12_chance_5 rfl rfl rfl ?_
  refine SF_iload_n 1 7 dX12_chance_6 rfl rfl rfl ?_
  refine SF_i2l 8 dX12_chance_7 rfl ?_
  obtain ⟨v3, g4, q5, h⟩ := bd_some h
  have s6 := w_X12_isPair (X := X) (Nat.le_refl 1) l0 (l1.toInt64) g1 g4 v3 k_l0 q5
  refine SF_callVb 11 mi_X12_isPair ml_X12_255 dX12_chance_8 (Nat.le_trans (by decide) hd) s6 k_l0.1 rfl rfl (Nat.le_of_ble_eq_true rfl) rfl ?_
  have k_l0 := k_l0.ext s6.1
  refine SF_ifeq 41 14 dX12_chance_11 rfl rfl (fun c7 => ?_) (fun c7 => ?_)
  · have h := ite_t c7 h
    refine SF_sub [] rfl ?_
    exact w_X12_chance_41 hd g4  h
  · have h := ite_f c7 h
    refine SF_iload_n 2 15 dX12_chance_14 rfl rfl rfl ?_
    obtain ⟨v8, g9, q10, h⟩ := bd_some h
    have s11 := w_X12_isTwin (X := X) (Nat.le_refl 1) l2 g4 g9 v8 q10
    refine SF_callSb 18 mi_X12_isTwin ml_X12_417 dX12_chance_15 (Nat.le_trans (by decide) hd) s11 rfl rfl (Nat.le_of_ble_eq_true rfl) rfl ?_
    have k_l0 := k_l0.ext s11.1
    refine SF_ifeq 41 21 dX12_chance_18 rfl rfl (fun c12 => ?_) (fun c12 => ?_)
    · have h := ite_t c12 h
      refine SF_sub [] rfl ?_
      exact w_X12_chance_41 hd g9  h
    · have h := ite_f c12 h
      refine SF_aload_n 0 22 dX12_chance_21 rfl rfl rfl ?_
      refine SF_iload_n 3 23 dX12_chance_22 rfl rfl rfl ?_
      refine SF_i2l 24 dX12_chance_23 rfl ?_
      obtain ⟨v13, g14, q15, h⟩ := bd_some h
      have s16 := w_X12_isCell (X := X) (Nat.le_refl 1) l0 (l3.toInt64) g9 g14 v13 k_l0 q15
      refine SF_callVb 27 mi_X12_isCell ml_X12_264 dX12_chance_24 (Nat.le_trans (by decide) hd) s16 k_l0.1 rfl rfl (Nat.le_of_ble_eq_true rfl) rfl ?_
      have k_l0 := k_l0.ext s16.1
      refine SF_ifeq 41 30 dX12_chance_27 rfl rfl (fun c17 => ?_) (fun c17 => ?_)
      · have h := ite_t c17 h
        refine SF_sub [] rfl ?_
        exact w_X12_chance_41 hd g14  h
      · have h := ite_f c17 h
        refine SF_iload 5 32 dX12_chance_30 rfl rfl ?_
        refine SF_i2l 33 dX12_chance_32 rfl ?_
        refine SF_lconst (0 : Int64) 34 dX12_chance_33 rfl rfl ?_
        refine SF_lconst (1 : Int64) 35 dX12_chance_34 rfl rfl ?_
        obtain ⟨v18, g19, q20, h⟩ := bd_some h
        have s21 := w_X12_within (X := X) (Nat.le_refl 0) (l5.toInt64) (0 : Int64) (1 : Int64) g14 g19 v18 q20
        refine SF_callSb 38 mi_X12_within ml_X12_139 dX12_chance_35 (Nat.le_trans (by decide) hd) s21 rfl rfl (Nat.le_of_ble_eq_true rfl) rfl ?_
        have k_l0 := k_l0.ext s21.1
        refine SF_ifne 45 41 dX12_chance_38 rfl rfl (fun c22 => ?_) (fun c22 => ?_)
        · have h := ite_f c22 h
          refine SF_iload 4 47 dX12_chance_45 rfl rfl ?_
          refine SF_i2l 48 dX12_chance_47 rfl ?_
          refine SF_lconst (0 : Int64) 49 dX12_chance_48 rfl rfl ?_
          refine SF_ldc2 52 dX12_chance_49 kl_X12_475 rfl ?_
          obtain ⟨v23, g24, q25, h⟩ := bd_some h
          have s26 := w_X12_within (X := X) (Nat.le_refl 0) (l4.toInt64) (0 : Int64) (5 : Int64) g19 g24 v23 q25
          refine SF_callSb 55 mi_X12_within ml_X12_139 dX12_chance_52 (Nat.le_trans (by decide) hd) s26 rfl rfl (Nat.le_of_ble_eq_true rfl) rfl ?_
          have k_l0 := k_l0.ext s26.1
          refine SF_ifne 62 58 dX12_chance_55 rfl rfl (fun c27 => ?_) (fun c27 => ?_)
          · have h := ite_f c27 h
            refine SF_aload_n 0 63 dX12_chance_62 rfl rfl rfl ?_
            refine SF_iload_n 1 64 dX12_chance_63 rfl rfl rfl ?_
            refine SF_iload 4 66 dX12_chance_64 rfl rfl ?_
            obtain ⟨v28, g29, q30, h⟩ := bd_some h
            have s31 := w_X12_laysLikely (X := X) (Nat.le_refl 7) l0 l1 l4 g24 g29 v28 k_l0 q30
            refine SF_callVv 69 mi_X12_laysLikely ml_X12_477 dX12_chance_66 (Nat.le_trans (by decide) hd) s31 k_l0.1 rfl rfl (Nat.le_of_ble_eq_true rfl) rfl ?_
            have k_l0 := k_l0.ext s31.1
            refine SF_lconst (1 : Int64) 70 dX12_chance_69 rfl rfl ?_
            refine SF_lstore [(6, .long (1 : Int64)), (0, .ref (ad X l0)), (1, .int l1), (2, .int l2), (3, .int l3), (4, .int l4), (5, .int l5)] 72 dX12_chance_70 (by decide) rfl rfl ?_
            refine SF_iconst (0 : Int32) 73 dX12_chance_72 rfl rfl ?_
            refine SF_istore [(8, .int (0 : Int32)), (6, .long (1 : Int64)), (0, .ref (ad X l0)), (1, .int l1), (2, .int l2), (3, .int l3), (4, .int l4), (5, .int l5)] 75 dX12_chance_73 (by decide) rfl rfl ?_
            refine SF_sub [2, 4, 5, 6, 7, 1, 0] rfl ?_
            exact w_X12_chance_75 hd FU l0 l2 l3 l4 l5 (1 : Int64) (0 : Int32) g29 k_l0 h
          · have h := ite_t c27 h
            refine SF_ldc2 61 dX12_chance_58 kl_X12_400 rfl ?_
            exact RT_l rfl dX12_chance_61 h
        · have h := ite_t c22 h
          refine SF_sub [] rfl ?_
          exact w_X12_chance_41 hd g19  h

theorem dX6_greatestOf_0 : decode cX6_greatestOf 0 = .ok (.aload_n 0, 1) := by decide +kernel
theorem dX6_greatestOf_1 : decode cX6_greatestOf 1 = .ok (.getfield 16, 3) := by decide +kernel
theorem dX6_greatestOf_4 : decode cX6_greatestOf 4 = .ok (.lconst 0, 1) := by decide +kernel
theorem dX6_greatestOf_5 : decode cX6_greatestOf 5 = .ok (.invokestatic 24, 3) := by decide +kernel
theorem dX6_greatestOf_8 : decode cX6_greatestOf 8 = .ok (.iconst 0, 1) := by decide +kernel
theorem dX6_greatestOf_9 : decode cX6_greatestOf 9 = .ok (.istore_n 3, 1) := by decide +kernel
theorem dX6_greatestOf_10 : decode cX6_greatestOf 10 = .ok (.iload_n 3, 1) := by decide +kernel
theorem dX6_greatestOf_11 : decode cX6_greatestOf 11 = .ok (.aload_n 1, 1) := by decide +kernel
theorem dX6_greatestOf_12 : decode cX6_greatestOf 12 = .ok (.getfield 30, 3) := by decide +kernel
theorem dX6_greatestOf_15 : decode cX6_greatestOf 15 = .ok (.if_icmp .ge 57, 3) := by decide +kernel
theorem dX6_greatestOf_18 : decode cX6_greatestOf 18 = .ok (.iload_n 3, 1) := by decide +kernel
theorem dX6_greatestOf_19 : decode cX6_greatestOf 19 = .ok (.sipush 256, 3) := by decide +kernel
theorem dX6_greatestOf_22 : decode cX6_greatestOf 22 = .ok (.if_icmp .ge 50, 3) := by decide +kernel
theorem dX6_greatestOf_25 : decode cX6_greatestOf 25 = .ok (.aload_n 1, 1) := by decide +kernel
theorem dX6_greatestOf_26 : decode cX6_greatestOf 26 = .ok (.iload_n 3, 1) := by decide +kernel
theorem dX6_greatestOf_27 : decode cX6_greatestOf 27 = .ok (.iload_n 2, 1) := by decide +kernel
theorem dX6_greatestOf_28 : decode cX6_greatestOf 28 = .ok (.invokevirtual 53, 3) := by decide +kernel
theorem dX6_greatestOf_31 : decode cX6_greatestOf 31 = .ok (.istore 4, 2) := by decide +kernel
theorem dX6_greatestOf_33 : decode cX6_greatestOf 33 = .ok (.iload 4, 2) := by decide +kernel
theorem dX6_greatestOf_35 : decode cX6_greatestOf 35 = .ok (.ifCond .lt 31, 3) := by decide +kernel
theorem dX6_greatestOf_38 : decode cX6_greatestOf 38 = .ok (.iload 4, 2) := by decide +kernel
theorem dX6_greatestOf_40 : decode cX6_greatestOf 40 = .ok (.bipush 36, 2) := by decide +kernel
theorem dX6_greatestOf_42 : decode cX6_greatestOf 42 = .ok (.if_icmp .ge 24, 3) := by decide +kernel
theorem dX6_greatestOf_45 : decode cX6_greatestOf 45 = .ok (.aload_n 0, 1) := by decide +kernel
theorem dX6_greatestOf_46 : decode cX6_greatestOf 46 = .ok (.getfield 16, 3) := by decide +kernel
theorem dX6_greatestOf_49 : decode cX6_greatestOf 49 = .ok (.iload 4, 2) := by decide +kernel
theorem dX6_greatestOf_51 : decode cX6_greatestOf 51 = .ok (.dup2, 1) := by decide +kernel
theorem dX6_greatestOf_52 : decode cX6_greatestOf 52 = .ok (.laload, 1) := by decide +kernel
theorem dX6_greatestOf_53 : decode cX6_greatestOf 53 = .ok (.aload_n 0, 1) := by decide +kernel
theorem dX6_greatestOf_54 : decode cX6_greatestOf 54 = .ok (.getfield 11, 3) := by decide +kernel
theorem dX6_greatestOf_57 : decode cX6_greatestOf 57 = .ok (.aload_n 0, 1) := by decide +kernel
theorem dX6_greatestOf_58 : decode cX6_greatestOf 58 = .ok (.getfield 20, 3) := by decide +kernel
theorem dX6_greatestOf_61 : decode cX6_greatestOf 61 = .ok (.aaload, 1) := by decide +kernel
theorem dX6_greatestOf_62 : decode cX6_greatestOf 62 = .ok (.iload_n 3, 1) := by decide +kernel
theorem dX6_greatestOf_63 : decode cX6_greatestOf 63 = .ok (.laload, 1) := by decide +kernel
theorem dX6_greatestOf_64 : decode cX6_greatestOf 64 = .ok (.ladd, 1) := by decide +kernel
theorem dX6_greatestOf_65 : decode cX6_greatestOf 65 = .ok (.lastore, 1) := by decide +kernel
theorem dX6_greatestOf_66 : decode cX6_greatestOf 66 = .ok (.iinc 3 1, 3) := by decide +kernel
theorem dX6_greatestOf_69 : decode cX6_greatestOf 69 = .ok (.goto (-59), 3) := by decide +kernel
theorem dX6_greatestOf_72 : decode cX6_greatestOf 72 = .ok (.iconst 0, 1) := by decide +kernel
theorem dX6_greatestOf_73 : decode cX6_greatestOf 73 = .ok (.istore_n 3, 1) := by decide +kernel
theorem dX6_greatestOf_74 : decode cX6_greatestOf 74 = .ok (.iconst 1, 1) := by decide +kernel
theorem dX6_greatestOf_75 : decode cX6_greatestOf 75 = .ok (.istore 4, 2) := by decide +kernel
theorem dX6_greatestOf_77 : decode cX6_greatestOf 77 = .ok (.iload 4, 2) := by decide +kernel
theorem dX6_greatestOf_79 : decode cX6_greatestOf 79 = .ok (.bipush 36, 2) := by decide +kernel
theorem dX6_greatestOf_81 : decode cX6_greatestOf 81 = .ok (.if_icmp .ge 33, 3) := by decide +kernel
theorem dX6_greatestOf_84 : decode cX6_greatestOf 84 = .ok (.aload_n 0, 1) := by decide +kernel
theorem dX6_greatestOf_85 : decode cX6_greatestOf 85 = .ok (.getfield 16, 3) := by decide +kernel
theorem dX6_greatestOf_88 : decode cX6_greatestOf 88 = .ok (.iload 4, 2) := by decide +kernel
theorem dX6_greatestOf_90 : decode cX6_greatestOf 90 = .ok (.laload, 1) := by decide +kernel
theorem dX6_greatestOf_91 : decode cX6_greatestOf 91 = .ok (.aload_n 0, 1) := by decide +kernel
theorem dX6_greatestOf_92 : decode cX6_greatestOf 92 = .ok (.getfield 16, 3) := by decide +kernel
theorem dX6_greatestOf_95 : decode cX6_greatestOf 95 = .ok (.iload_n 3, 1) := by decide +kernel
theorem dX6_greatestOf_96 : decode cX6_greatestOf 96 = .ok (.laload, 1) := by decide +kernel
theorem dX6_greatestOf_97 : decode cX6_greatestOf 97 = .ok (.lcmp, 1) := by decide +kernel
theorem dX6_greatestOf_98 : decode cX6_greatestOf 98 = .ok (.ifCond .le 8, 3) := by decide +kernel
theorem dX6_greatestOf_101 : decode cX6_greatestOf 101 = .ok (.iload 4, 2) := by decide +kernel
theorem dX6_greatestOf_103 : decode cX6_greatestOf 103 = .ok (.goto 4, 3) := by decide +kernel
theorem dX6_greatestOf_106 : decode cX6_greatestOf 106 = .ok (.iload_n 3, 1) := by decide +kernel
theorem dX6_greatestOf_107 : decode cX6_greatestOf 107 = .ok (.istore_n 3, 1) := by decide +kernel
theorem dX6_greatestOf_108 : decode cX6_greatestOf 108 = .ok (.iinc 4 1, 3) := by decide +kernel
theorem dX6_greatestOf_111 : decode cX6_greatestOf 111 = .ok (.goto (-34), 3) := by decide +kernel
theorem dX6_greatestOf_114 : decode cX6_greatestOf 114 = .ok (.iload_n 3, 1) := by decide +kernel
theorem dX6_greatestOf_115 : decode cX6_greatestOf 115 = .ok (.ireturn, 1) := by decide +kernel
set_option maxRecDepth 20000 in
set_option maxHeartbeats 2000000 in
theorem w_X6_greatestOf_66 {X : CX} {d : Nat} (hd : 2 ≤ d) {g' : G} {rx : Int32} (k10 : Nat → Nat → Int32 → Int32 → G → Option (Int32 × G)) (hk10 : ∀ (l0 : Nat) (l1 : Nat) (l2 : Int32) (l3 : Int32) (g : G), KD g l0 6 → KD g l1 4 → k10 l0 l1 l2 l3 g = some (rx, g') → SemF X m_X6_greatestOf d 10 [(0, .ref (ad X l0)), (1, .ref (ad X l1)), (2, .int l2), (3, .int l3)] [] g (some (.int rx)) g') (l0 : Nat) (l1 : Nat) (l2 : Int32) (l3 : Int32) (g : G) (k_l0 : KD g l0 6) (k_l1 : KD g l1 4) (h : f_X6_greatestOf_66 k10 l0 l1 l2 l3 g = some (rx, g')) : SemF X m_X6_greatestOf d 66 [(0, .ref (ad X l0)), (1, .ref (ad X l1)), (2, .int l2), (3, .int l3)] [] g (some (.int rx)) g' := by
  rw [f_X6_greatestOf_66] at h
  refine SF_iinc 3 (l3 + (1 : Int32)) [(3, .int (l3 + (1 : Int32))), (0, .ref (ad X l0)), (1, .ref (ad X l1)), (2, .int l2)] 69 dX6_greatestOf_66 rfl rfl (by decide) rfl rfl ?_
  refine SF_goto 10 dX6_greatestOf_69 rfl ?_
  refine SF_sub [1, 2, 3, 0] rfl ?_
  exact hk10 l0 l1 l2 (l3 + (1 : Int32)) g k_l0 k_l1 h

set_option maxRecDepth 20000 in
set_option maxHeartbeats 2000000 in
theorem w_X6_greatestOf_107 {X : CX} {d : Nat} (hd : 2 ≤ d) {g' : G} {rx : Int32} (k77 : Nat → Int32 → Int32 → G → Option (Int32 × G)) (hk77 : ∀ (l0 : Nat) (l3 : Int32) (l4 : Int32) (g : G), KD g l0 6 → k77 l0 l3 l4 g = some (rx, g') → SemF X m_X6_greatestOf d 77 [(0, .ref (ad X l0)), (3, .int l3), (4, .int l4)] [] g (some (.int rx)) g') (l0 : Nat) (l4 : Int32) (s0 : Int32) (g : G) (k_l0 : KD g l0 6) (h : f_X6_greatestOf_107 k77 l0 l4 s0 g = some (rx, g')) : SemF X m_X6_greatestOf d 107 [(0, .ref (ad X l0)), (4, .int l4)] [.int s0] g (some (.int rx)) g' := by
  rw [f_X6_greatestOf_107] at h
  refine SF_istore_n [(3, .int s0), (0, .ref (ad X l0)), (4, .int l4)] 108 dX6_greatestOf_107 rfl (by decide) rfl rfl ?_
  refine SF_iinc 2 (l4 + (1 : Int32)) [(4, .int (l4 + (1 : Int32))), (3, .int s0), (0, .ref (ad X l0))] 111 dX6_greatestOf_108 rfl rfl (by decide) rfl rfl ?_
  refine SF_goto 77 dX6_greatestOf_111 rfl ?_
  refine SF_sub [2, 1, 0] rfl ?_
  exact hk77 l0 s0 (l4 + (1 : Int32)) g k_l0 h

set_option maxRecDepth 20000 in
set_option maxHeartbeats 2000000 in
theorem w_X6_greatestOf_77 {X : CX} {d : Nat} (hd : 2 ≤ d) {g' : G} {rx : Int32} : ∀ (n : Nat) (l0 : Nat) (l3 : Int32) (l4 : Int32) (g : G), KD g l0 6 → f_X6_greatestOf_77 n l0 l3 l4 g = some (rx, g') → SemF X m_X6_greatestOf d 77 [(0, .ref (ad X l0)), (3, .int l3), (4, .int l4)] [] g (some (.int rx)) g' := by
  intro n
  induction n with
  | zero =>
    intro l0 l3 l4 g k_l0 h
    rw [f_X6_greatestOf_77] at h
    cases h
  | succ n ih =>
  intro l0 l3 l4 g k_l0 h
  rw [f_X6_greatestOf_77] at h
  refine SF_iload 2 79 dX6_greatestOf_77 rfl rfl ?_
  refine SF_bipush (36 : Int32) 81 dX6_greatestOf_79 rfl rfl ?_
  refine SF_icge 114 84 dX6_greatestOf_81 rfl rfl (fun c1 => ?_) (fun c1 => ?_)
  · have h := ite_t c1 h
    refine SF_iload_n 1 115 dX6_greatestOf_114 rfl rfl rfl ?_
    exact RT_i rfl dX6_greatestOf_115 h
  · have h := ite_f c1 h
    refine SF_aload_n 0 85 dX6_greatestOf_84 rfl rfl rfl ?_
    obtain ⟨b2, r3, h⟩ := dr_some h
    refine SF_getR 88 fl_X6_16 dX6_greatestOf_85 k_l0.1 r3 rfl ?_
    refine SF_iload 2 90 dX6_greatestOf_88 rfl rfl ?_
    obtain ⟨k4, h⟩ := gdK_some h
    obtain ⟨i5, h⟩ := gdI_some h
    refine SF_lald 91 dX6_greatestOf_90 k4.1 i5 rfl ?_
    refine SF_aload_n 0 92 dX6_greatestOf_91 rfl rfl rfl ?_
    refine SF_getR 95 fl_X6_16 dX6_greatestOf_92 k_l0.1 r3 rfl ?_
    refine SF_iload_n 1 96 dX6_greatestOf_95 rfl rfl rfl ?_
    obtain ⟨i6, h⟩ := gdI_some h
    refine SF_lald 97 dX6_greatestOf_96 k4.1 i6 rfl ?_
    refine SF_lcmp 98 dX6_greatestOf_97 rfl ?_
    refine SF_ifle 106 101 dX6_greatestOf_98 rfl rfl (fun c7 => ?_) (fun c7 => ?_)
    · have h := ite_t c7 h
      refine SF_iload_n 1 107 dX6_greatestOf_106 rfl rfl rfl ?_
      refine SF_sub [0, 2] rfl ?_
      exact w_X6_greatestOf_107 hd (f_X6_greatestOf_77 n) ih l0 l4 l3 g k_l0 h
    · have h := ite_f c7 h
      refine SF_iload 2 103 dX6_greatestOf_101 rfl rfl ?_
      refine SF_goto 107 dX6_greatestOf_103 rfl ?_
      refine SF_sub [0, 2] rfl ?_
      exact w_X6_greatestOf_107 hd (f_X6_greatestOf_77 n) ih l0 l4 l4 g k_l0 h

set_option maxRecDepth 20000 in
set_option maxHeartbeats 2000000 in
theorem w_X6_greatestOf_72 {X : CX} {d : Nat} (hd : 2 ≤ d) {g' : G} {rx : Int32} (l0 : Nat) (g : G) (k_l0 : KD g l0 6) (h : f_X6_greatestOf_72 l0 g = some (rx, g')) : SemF X m_X6_greatestOf d 72 [(0, .ref (ad X l0))] [] g (some (.int rx)) g' := by
  rw [f_X6_greatestOf_72] at h
  refine SF_iconst (0 : Int32) 73 dX6_greatestOf_72 rfl rfl ?_
  refine SF_istore_n [(3, .int (0 : Int32)), (0, .ref (ad X l0))] 74 dX6_greatestOf_73 rfl (by decide) rfl rfl ?_
  refine SF_iconst (1 : Int32) 75 dX6_greatestOf_74 rfl rfl ?_
  refine SF_istore [(4, .int (1 : Int32)), (3, .int (0 : Int32)), (0, .ref (ad X l0))] 77 dX6_greatestOf_75 (by decide) rfl rfl ?_
  refine SF_sub [2, 1, 0] rfl ?_
  exact w_X6_greatestOf_77 hd FU l0 (0 : Int32) (1 : Int32) g k_l0 h

set_option maxRecDepth 20000 in
set_option maxHeartbeats 2000000 in
theorem w_X6_greatestOf_10 {X : CX} {d : Nat} (hd : 2 ≤ d) {g' : G} {rx : Int32} : ∀ (n : Nat) (l0 : Nat) (l1 : Nat) (l2 : Int32) (l3 : Int32) (g : G), KD g l0 6 → KD g l1 4 → f_X6_greatestOf_10 n l0 l1 l2 l3 g = some (rx, g') → SemF X m_X6_greatestOf d 10 [(0, .ref (ad X l0)), (1, .ref (ad X l1)), (2, .int l2), (3, .int l3)] [] g (some (.int rx)) g' := by
  intro n
  induction n with
  | zero =>
    intro l0 l1 l2 l3 g k_l0 k_l1 h
    rw [f_X6_greatestOf_10] at h
    cases h
  | succ n ih =>
  intro l0 l1 l2 l3 g k_l0 k_l1 h
  rw [f_X6_greatestOf_10] at h
  refine SF_iload_n 3 11 dX6_greatestOf_10 rfl rfl rfl ?_
  refine SF_aload_n 1 12 dX6_greatestOf_11 rfl rfl rfl ?_
  refine SF_getI 15 fl_X6_30 dX6_greatestOf_12 k_l1.1 rfl ?_
  refine SF_icge 72 18 dX6_greatestOf_15 rfl rfl (fun c1 => ?_) (fun c1 => ?_)
  · have h := ite_t c1 h
    refine SF_sub [0] rfl ?_
    exact w_X6_greatestOf_72 hd l0 g k_l0 h
  · have h := ite_f c1 h
    refine SF_iload_n 3 19 dX6_greatestOf_18 rfl rfl rfl ?_
    refine SF_sipush (256 : Int32) 22 dX6_greatestOf_19 rfl rfl ?_
    refine SF_icge 72 25 dX6_greatestOf_22 rfl rfl (fun c2 => ?_) (fun c2 => ?_)
    · have h := ite_t c2 h
      refine SF_sub [0] rfl ?_
      exact w_X6_greatestOf_72 hd l0 g k_l0 h
    · have h := ite_f c2 h
      refine SF_aload_n 1 26 dX6_greatestOf_25 rfl rfl rfl ?_
      refine SF_iload_n 3 27 dX6_greatestOf_26 rfl rfl rfl ?_
      refine SF_iload_n 2 28 dX6_greatestOf_27 rfl rfl rfl ?_
      obtain ⟨v3, g4, q5, h⟩ := bd_some h
      have s6 := w_X4_cellOf (X := X) (Nat.le_refl 1) l1 l3 l2 g g4 v3 k_l1 q5
      refine SF_callVi 31 mi_X4_cellOf ml_X6_53 dX6_greatestOf_28 (Nat.le_trans (by decide) hd) s6 k_l1.1 rfl rfl (Nat.le_of_ble_eq_true rfl) rfl ?_
      have k_l0 := k_l0.ext s6.1
      have k_l1 := k_l1.ext s6.1
      refine SF_istore [(4, .int v3), (0, .ref (ad X l0)), (1, .ref (ad X l1)), (2, .int l2), (3, .int l3)] 33 dX6_greatestOf_31 (by decide) rfl rfl ?_
      refine SF_iload 0 35 dX6_greatestOf_33 rfl rfl ?_
      refine SF_iflt 66 38 dX6_greatestOf_35 rfl rfl (fun c7 => ?_) (fun c7 => ?_)
      · have h := ite_t c7 h
        refine SF_sub [1, 2, 3, 4] rfl ?_
        exact w_X6_greatestOf_66 hd (f_X6_greatestOf_10 n) ih l0 l1 l2 l3 g4 k_l0 k_l1 h
      · have h := ite_f c7 h
        refine SF_iload 0 40 dX6_greatestOf_38 rfl rfl ?_
        refine SF_bipush (36 : Int32) 42 dX6_greatestOf_40 rfl rfl ?_
        refine SF_icge 66 45 dX6_greatestOf_42 rfl rfl (fun c8 => ?_) (fun c8 => ?_)
        · have h := ite_t c8 h
          refine SF_sub [1, 2, 3, 4] rfl ?_
          exact w_X6_greatestOf_66 hd (f_X6_greatestOf_10 n) ih l0 l1 l2 l3 g4 k_l0 k_l1 h
        · have h := ite_f c8 h
          refine SF_aload_n 1 46 dX6_greatestOf_45 rfl rfl rfl ?_
          obtain ⟨b9, r10, h⟩ := dr_some h
          refine SF_getR 49 fl_X6_16 dX6_greatestOf_46 k_l0.1 r10 rfl ?_
          refine SF_iload 0 51 dX6_greatestOf_49 rfl rfl ?_
          refine SF_dup2_11 52 dX6_greatestOf_51 rfl rfl rfl ?_
          obtain ⟨k11, h⟩ := gdK_some h
          obtain ⟨i12, h⟩ := gdI_some h
          refine SF_lald 53 dX6_greatestOf_52 k11.1 i12 rfl ?_
          refine SF_aload_n 1 54 dX6_greatestOf_53 rfl rfl rfl ?_
          obtain ⟨b13, r14, h⟩ := dr_some h
          refine SF_getR 57 fl_X6_11 dX6_greatestOf_54 k_l0.1 r14 rfl ?_
          refine SF_aload_n 1 58 dX6_greatestOf_57 rfl rfl rfl ?_
          refine SF_getI 61 fl_X6_20 dX6_greatestOf_58 k_l0.1 rfl ?_
          obtain ⟨k15, h⟩ := gdK_some h
          obtain ⟨i16, h⟩ := gdI_some h
          obtain ⟨b17, r18, h⟩ := dr_some h
          refine SF_aald 62 dX6_greatestOf_61 k15.1 (Or.inr (Or.inr rfl)) i16 r18 rfl ?_
          refine SF_iload_n 4 63 dX6_greatestOf_62 rfl rfl rfl ?_
          obtain ⟨k19, h⟩ := gdK_some h
          obtain ⟨i20, h⟩ := gdI_some h
          refine SF_lald 64 dX6_greatestOf_63 k19.1 i20 rfl ?_
          refine SF_ladd 65 dX6_greatestOf_64 rfl ?_
          refine SF_last 66 dX6_greatestOf_65 k11.1 i12 rfl ?_
          obtain ⟨g21, e22, h⟩ := lg_some h
          rw [← e22]
          have k_l0 := KD.eq e22 k_l0
          have k_l1 := KD.eq e22 k_l1
          have k11 := KD.eq e22 k11
          have k15 := KD.eq e22 k15
          have k19 := KD.eq e22 k19
          have r10 := gR_eq e22 r10
          have r14 := gR_eq e22 r14
          have i12 := vp_eq e22 i12
          have i16 := vp_eq e22 i16
          have i20 := vp_eq e22 i20
          refine SF_sub [1, 2, 3, 4] rfl ?_
          exact w_X6_greatestOf_66 hd (f_X6_greatestOf_10 n) ih l0 l1 l2 l3 g21 k_l0 k_l1 h

set_option maxRecDepth 20000 in
set_option maxHeartbeats 2000000 in
theorem w_X6_greatestOf {X : CX} {d : Nat} (hd : 2 ≤ d) (l0 : Nat) (l1 : Nat) (l2 : Int32) (g g' : G) (rx : Int32) (k_l0 : KD g l0 6) (k_l1 : KD g l1 4) (h : f_X6_greatestOf l0 l1 l2 g = some (rx, g')) : Sem X m_X6_greatestOf d [.ref (ad X l0), .ref (ad X l1), .int l2] g (some (.int rx)) g' := by
  refine Sem_of (lo := [(0, .ref (ad X l0)), (1, .ref (ad X l1)), (2, .int l2)]) (by decide +kernel) rfl (Nat.le_of_ble_eq_true rfl) ?_
  rw [f_X6_greatestOf] at h
  refine SF_aload_n 0 1 dX6_greatestOf_0 rfl rfl rfl ?_
  obtain ⟨b1, r2, h⟩ := dr_some h
  refine SF_getR 4 fl_X6_16 dX6_greatestOf_1 k_l0.1 r2 rfl ?_
  refine SF_lconst (0 : Int64) 5 dX6_greatestOf_4 rfl rfl ?_
  obtain ⟨k3, h⟩ := gdK_some h
  obtain ⟨v4, g5, q6, h⟩ := bd_some h
  have s7 := w_J7_fill_d0a16 (X := X) (Nat.le_refl 0) b1 (0 : Int64) g g5 v4 k3 q6
  refine SF_callSv 8 mi_J7_fill_d0a16 ml_X6_24 dX6_greatestOf_5 (Nat.le_trans (by decide) hd) s7 rfl rfl (Nat.le_of_ble_eq_true rfl) rfl ?_
  have k_l0 := k_l0.ext s7.1
  have k_l1 := k_l1.ext s7.1
  have k3 := k3.ext s7.1
  refine SF_iconst (0 : Int32) 9 dX6_greatestOf_8 rfl rfl ?_
  refine SF_istore_n [(3, .int (0 : Int32)), (0, .ref (ad X l0)), (1, .ref (ad X l1)), (2, .int l2)] 10 dX6_greatestOf_9 rfl (by decide) rfl rfl ?_
  refine SF_sub [1, 2, 3, 0] rfl ?_
  exact w_X6_greatestOf_10 hd FU l0 l1 l2 (0 : Int32) g5 k_l0 k_l1 h

theorem dX11_likeliest_0 : decode cX11_likeliest 0 = .ok (.aload_n 0, 1) := by decide +kernel
theorem dX11_likeliest_1 : decode cX11_likeliest 1 = .ok (.getfield 78, 3) := by decide +kernel
theorem dX11_likeliest_4 : decode cX11_likeliest 4 = .ok (.iload_n 1, 1) := by decide +kernel
theorem dX11_likeliest_5 : decode cX11_likeliest 5 = .ok (.invokevirtual 161, 3) := by decide +kernel
theorem dX11_likeliest_8 : decode cX11_likeliest 8 = .ok (.ifCond .eq 10, 3) := by decide +kernel
theorem dX11_likeliest_11 : decode cX11_likeliest 11 = .ok (.iload_n 2, 1) := by decide +kernel
theorem dX11_likeliest_12 : decode cX11_likeliest 12 = .ok (.invokestatic 333, 3) := by decide +kernel
theorem dX11_likeliest_15 : decode cX11_likeliest 15 = .ok (.ifCond .ne 6, 3) := by decide +kernel
theorem dX11_likeliest_18 : decode cX11_likeliest 18 = .ok (.bipush (-2), 2) := by decide +kernel
theorem dX11_likeliest_20 : decode cX11_likeliest 20 = .ok (.ireturn, 1) := by decide +kernel
theorem dX11_likeliest_21 : decode cX11_likeliest 21 = .ok (.iload_n 3, 1) := by decide +kernel
theorem dX11_likeliest_22 : decode cX11_likeliest 22 = .ok (.ifCond .lt 8, 3) := by decide +kernel
theorem dX11_likeliest_25 : decode cX11_likeliest 25 = .ok (.iload_n 3, 1) := by decide +kernel
theorem dX11_likeliest_26 : decode cX11_likeliest 26 = .ok (.iconst 5, 1) := by decide +kernel
theorem dX11_likeliest_27 : decode cX11_likeliest 27 = .ok (.if_icmp .le 6, 3) := by decide +kernel
theorem dX11_likeliest_30 : decode cX11_likeliest 30 = .ok (.bipush (-3), 2) := by decide +kernel
theorem dX11_likeliest_32 : decode cX11_likeliest 32 = .ok (.ireturn, 1) := by decide +kernel
theorem dX11_likeliest_33 : decode cX11_likeliest 33 = .ok (.aload_n 0, 1) := by decide +kernel
theorem dX11_likeliest_34 : decode cX11_likeliest 34 = .ok (.iload_n 1, 1) := by decide +kernel
theorem dX11_likeliest_35 : decode cX11_likeliest 35 = .ok (.invokevirtual 259, 3) := by decide +kernel
theorem dX11_likeliest_38 : decode cX11_likeliest 38 = .ok (.astore 4, 2) := by decide +kernel
theorem dX11_likeliest_40 : decode cX11_likeliest 40 = .ok (.aload_n 0, 1) := by decide +kernel
theorem dX11_likeliest_41 : decode cX11_likeliest 41 = .ok (.aload 4, 2) := by decide +kernel
theorem dX11_likeliest_43 : decode cX11_likeliest 43 = .ok (.iload_n 3, 1) := by decide +kernel
theorem dX11_likeliest_44 : decode cX11_likeliest 44 = .ok (.invokevirtual 389, 3) := by decide +kernel
theorem dX11_likeliest_47 : decode cX11_likeliest 47 = .ok (.pop2, 1) := by decide +kernel
theorem dX11_likeliest_48 : decode cX11_likeliest 48 = .ok (.aload_n 0, 1) := by decide +kernel
theorem dX11_likeliest_49 : decode cX11_likeliest 49 = .ok (.getfield 54, 3) := by decide +kernel
theorem dX11_likeliest_52 : decode cX11_likeliest 52 = .ok (.aload 4, 2) := by decide +kernel
theorem dX11_likeliest_54 : decode cX11_likeliest 54 = .ok (.iload_n 2, 1) := by decide +kernel
theorem dX11_likeliest_55 : decode cX11_likeliest 55 = .ok (.invokevirtual 397, 3) := by decide +kernel
theorem dX11_likeliest_58 : decode cX11_likeliest 58 = .ok (.ireturn, 1) := by decide +kernel
set_option maxRecDepth 20000 in
set_option maxHeartbeats 2000000 in
theorem w_X11_likeliest {X : CX} {d : Nat} (hd : 7 ≤ d) (l0 : Nat) (l1 : Int32) (l2 : Int32) (l3 : Int32) (g g' : G) (rx : Int32) (k_l0 : KD g l0 11) (h : f_X11_likeliest l0 l1 l2 l3 g = some (rx, g')) : Sem X m_X11_likeliest d [.ref (ad X l0), .int l1, .int l2, .int l3] g (some (.int rx)) g' := by
  refine Sem_of (lo := [(0, .ref (ad X l0)), (1, .int l1), (2, .int l2), (3, .int l3)]) (by decide +kernel) rfl (Nat.le_of_ble_eq_true rfl) ?_
  rw [f_X11_likeliest] at h
  refine SF_aload_n 0 1 dX11_likeliest_0 rfl rfl rfl ?_
  obtain ⟨b1, r2, h⟩ := dr_some h
  refine SF_getR 4 fl_X11_78 dX11_likeliest_1 k_l0.1 r2 rfl ?_
  refine SF_iload_n 1 5 dX11_likeliest_4 rfl rfl rfl ?_
  obtain ⟨k3, h⟩ := gdK_some h
  obtain ⟨v4, g5, q6, h⟩ := bd_some h
  have s7 := w_X0_isPair (X := X) (Nat.le_refl 0) b1 l1 g g5 v4 k3 q6
  refine SF_callVb 8 mi_X0_isPair ml_X11_161 dX11_likeliest_5 (Nat.le_trans (by decide) hd) s7 k3.1 rfl rfl (Nat.le_of_ble_eq_true rfl) rfl ?_
  have k_l0 := k_l0.ext s7.1
  have k3 := k3.ext s7.1
  refine SF_ifeq 18 11 dX11_likeliest_8 rfl rfl (fun c8 => ?_) (fun c8 => ?_)
  · have h := ite_t c8 h
    refine SF_bipush (-2 : Int32) 20 dX11_likeliest_18 rfl rfl ?_
    exact RT_i rfl dX11_likeliest_20 h
  · have h := ite_f c8 h
    refine SF_iload_n 2 12 dX11_likeliest_11 rfl rfl rfl ?_
    obtain ⟨v9, g10, q11, h⟩ := bd_some h
    have s12 := w_X11_isTwin (X := X) (Nat.le_refl 0) l2 g5 g10 v9 q11
    refine SF_callSb 15 mi_X11_isTwin ml_X11_333 dX11_likeliest_12 (Nat.le_trans (by decide) hd) s12 rfl rfl (Nat.le_of_ble_eq_true rfl) rfl ?_
    have k_l0 := k_l0.ext s12.1
    have k3 := k3.ext s12.1
    refine SF_ifne 21 18 dX11_likeliest_15 rfl rfl (fun c13 => ?_) (fun c13 => ?_)
    · have h := ite_f c13 h
      refine SF_iload_n 3 22 dX11_likeliest_21 rfl rfl rfl ?_
      refine SF_iflt 30 25 dX11_likeliest_22 rfl rfl (fun c14 => ?_) (fun c14 => ?_)
      · have h := ite_t c14 h
        refine SF_bipush (-3 : Int32) 32 dX11_likeliest_30 rfl rfl ?_
        exact RT_i rfl dX11_likeliest_32 h
      · have h := ite_f c14 h
        refine SF_iload_n 3 26 dX11_likeliest_25 rfl rfl rfl ?_
        refine SF_iconst (5 : Int32) 27 dX11_likeliest_26 rfl rfl ?_
        refine SF_icle 33 30 dX11_likeliest_27 rfl rfl (fun c15 => ?_) (fun c15 => ?_)
        · have h := ite_t c15 h
          refine SF_aload_n 0 34 dX11_likeliest_33 rfl rfl rfl ?_
          refine SF_iload_n 1 35 dX11_likeliest_34 rfl rfl rfl ?_
          obtain ⟨v16, g17, q18, h⟩ := bd_some h
          have s19 := w_X11_graphOf (X := X) (Nat.le_refl 6) l0 l1 g10 g17 v16 k_l0 q18
          refine SF_callVr 38 mi_X11_graphOf ml_X11_259 dX11_likeliest_35 (Nat.le_trans (by decide) hd) s19 k_l0.1 rfl rfl (Nat.le_of_ble_eq_true rfl) rfl ?_
          have k_l0 := k_l0.ext s19.1
          have k3 := k3.ext s19.1
          refine SF_astore [(4, .ref (ad X v16)), (0, .ref (ad X l0)), (1, .int l1), (2, .int l2), (3, .int l3)] 40 dX11_likeliest_38 (by decide) rfl rfl ?_
          refine SF_aload_n 1 41 dX11_likeliest_40 rfl rfl rfl ?_
          refine SF_aload 0 43 dX11_likeliest_41 rfl rfl ?_
          refine SF_iload_n 4 44 dX11_likeliest_43 rfl rfl rfl ?_
          obtain ⟨k20, h⟩ := gdK_some h
          obtain ⟨v21, g22, q23, h⟩ := bd_some h
          have s24 := w_X11_chances (X := X) (Nat.le_refl 4) l0 v16 l3 g17 g22 v21 k_l0 k20 q23
          refine SF_callVl 47 mi_X11_chances ml_X11_389 dX11_likeliest_44 (Nat.le_trans (by decide) hd) s24 k_l0.1 rfl rfl (Nat.le_of_ble_eq_true rfl) rfl ?_
          have k_l0 := k_l0.ext s24.1
          have k3 := k3.ext s24.1
          have k20 := k20.ext s24.1
          refine SF_pop2_2 48 dX11_likeliest_47 rfl rfl ?_
          refine SF_aload_n 1 49 dX11_likeliest_48 rfl rfl rfl ?_
          obtain ⟨b25, r26, h⟩ := dr_some h
          refine SF_getR 52 fl_X11_54 dX11_likeliest_49 k_l0.1 r26 rfl ?_
          refine SF_aload 0 54 dX11_likeliest_52 rfl rfl ?_
          refine SF_iload_n 3 55 dX11_likeliest_54 rfl rfl rfl ?_
          obtain ⟨k27, h⟩ := gdK_some h
          obtain ⟨v28, g29, q30, h⟩ := bd_some h
          have s31 := w_X6_greatestOf (X := X) (Nat.le_refl 2) b25 v16 l2 g22 g29 v28 k27 k20 q30
          refine SF_callVi 58 mi_X6_greatestOf ml_X11_397 dX11_likeliest_55 (Nat.le_trans (by decide) hd) s31 k27.1 rfl rfl (Nat.le_of_ble_eq_true rfl) rfl ?_
          have k_l0 := k_l0.ext s31.1
          have k3 := k3.ext s31.1
          have k20 := k20.ext s31.1
          have k27 := k27.ext s31.1
          exact RT_i rfl dX11_likeliest_58 h
        · have h := ite_f c15 h
          refine SF_bipush (-3 : Int32) 32 dX11_likeliest_30 rfl rfl ?_
          exact RT_i rfl dX11_likeliest_32 h
    · have h := ite_t c13 h
      refine SF_bipush (-2 : Int32) 20 dX11_likeliest_18 rfl rfl ?_
      exact RT_i rfl dX11_likeliest_20 h

theorem dX12_likeliest_0 : decode cX12_likeliest 0 = .ok (.aload_n 0, 1) := by decide +kernel
theorem dX12_likeliest_1 : decode cX12_likeliest 1 = .ok (.iconst 0, 1) := by decide +kernel
theorem dX12_likeliest_2 : decode cX12_likeliest 2 = .ok (.putfield 1, 3) := by decide +kernel
theorem dX12_likeliest_5 : decode cX12_likeliest 5 = .ok (.aload_n 0, 1) := by decide +kernel
theorem dX12_likeliest_6 : decode cX12_likeliest 6 = .ok (.iload_n 1, 1) := by decide +kernel
theorem dX12_likeliest_7 : decode cX12_likeliest 7 = .ok (.i2l, 1) := by decide +kernel
theorem dX12_likeliest_8 : decode cX12_likeliest 8 = .ok (.invokevirtual 255, 3) := by decide +kernel
theorem dX12_likeliest_11 : decode cX12_likeliest 11 = .ok (.ifCond .eq 10, 3) := by decide +kernel
theorem dX12_likeliest_14 : decode cX12_likeliest 14 = .ok (.iload_n 2, 1) := by decide +kernel
theorem dX12_likeliest_15 : decode cX12_likeliest 15 = .ok (.invokestatic 417, 3) := by decide +kernel
theorem dX12_likeliest_18 : decode cX12_likeliest 18 = .ok (.ifCond .ne 6, 3) := by decide +kernel
theorem dX12_likeliest_21 : decode cX12_likeliest 21 = .ok (.bipush (-2), 2) := by decide +kernel
theorem dX12_likeliest_23 : decode cX12_likeliest 23 = .ok (.ireturn, 1) := by decide +kernel
theorem dX12_likeliest_24 : decode cX12_likeliest 24 = .ok (.iload_n 3, 1) := by decide +kernel
theorem dX12_likeliest_25 : decode cX12_likeliest 25 = .ok (.i2l, 1) := by decide +kernel
theorem dX12_likeliest_26 : decode cX12_likeliest 26 = .ok (.lconst 0, 1) := by decide +kernel
theorem dX12_likeliest_27 : decode cX12_likeliest 27 = .ok (.ldc2_w 475, 3) := by decide +kernel
theorem dX12_likeliest_30 : decode cX12_likeliest 30 = .ok (.invokestatic 139, 3) := by decide +kernel
theorem dX12_likeliest_33 : decode cX12_likeliest 33 = .ok (.ifCond .ne 6, 3) := by decide +kernel
theorem dX12_likeliest_36 : decode cX12_likeliest 36 = .ok (.bipush (-3), 2) := by decide +kernel
theorem dX12_likeliest_38 : decode cX12_likeliest 38 = .ok (.ireturn, 1) := by decide +kernel
theorem dX12_likeliest_39 : decode cX12_likeliest 39 = .ok (.aload_n 0, 1) := by decide +kernel
theorem dX12_likeliest_40 : decode cX12_likeliest 40 = .ok (.iload_n 1, 1) := by decide +kernel
theorem dX12_likeliest_41 : decode cX12_likeliest 41 = .ok (.iload_n 3, 1) := by decide +kernel
theorem dX12_likeliest_42 : decode cX12_likeliest 42 = .ok (.invokevirtual 477, 3) := by decide +kernel
theorem dX12_likeliest_45 : decode cX12_likeliest 45 = .ok (.iconst 0, 1) := by decide +kernel
theorem dX12_likeliest_46 : decode cX12_likeliest 46 = .ok (.istore 4, 2) := by decide +kernel
theorem dX12_likeliest_48 : decode cX12_likeliest 48 = .ok (.iconst 1, 1) := by decide +kernel
theorem dX12_likeliest_49 : decode cX12_likeliest 49 = .ok (.istore 5, 2) := by decide +kernel
theorem dX12_likeliest_51 : decode cX12_likeliest 51 = .ok (.iload 5, 2) := by decide +kernel
theorem dX12_likeliest_53 : decode cX12_likeliest 53 = .ok (.aload_n 0, 1) := by decide +kernel
theorem dX12_likeliest_54 : decode cX12_likeliest 54 = .ok (.invokevirtual 214, 3) := by decide +kernel
theorem dX12_likeliest_57 : decode cX12_likeliest 57 = .ok (.if_icmp .ge 31, 3) := by decide +kernel
theorem dX12_likeliest_60 : decode cX12_likeliest 60 = .ok (.aload_n 0, 1) := by decide +kernel
theorem dX12_likeliest_61 : decode cX12_likeliest 61 = .ok (.iload_n 2, 1) := by decide +kernel
theorem dX12_likeliest_62 : decode cX12_likeliest 62 = .ok (.iload 5, 2) := by decide +kernel
theorem dX12_likeliest_64 : decode cX12_likeliest 64 = .ok (.invokevirtual 480, 3) := by decide +kernel
theorem dX12_likeliest_67 : decode cX12_likeliest 67 = .ok (.aload_n 0, 1) := by decide +kernel
theorem dX12_likeliest_68 : decode cX12_likeliest 68 = .ok (.iload_n 2, 1) := by decide +kernel
theorem dX12_likeliest_69 : decode cX12_likeliest 69 = .ok (.iload 4, 2) := by decide +kernel
theorem dX12_likeliest_71 : decode cX12_likeliest 71 = .ok (.invokevirtual 480, 3) := by decide +kernel
theorem dX12_likeliest_74 : decode cX12_likeliest 74 = .ok (.lcmp, 1) := by decide +kernel
theorem dX12_likeliest_75 : decode cX12_likeliest 75 = .ok (.ifCond .le 7, 3) := by decide +kernel
theorem dX12_likeliest_78 : decode cX12_likeliest 78 = .ok (.iload 5, 2) := by decide +kernel
theorem dX12_likeliest_80 : decode cX12_likeliest 80 = .ok (.istore 4, 2) := by decide +kernel
theorem dX12_likeliest_82 : decode cX12_likeliest 82 = .ok (.iinc 5 1, 3) := by decide +kernel
theorem dX12_likeliest_85 : decode cX12_likeliest 85 = .ok (.goto (-34), 3) := by decide +kernel
theorem dX12_likeliest_88 : decode cX12_likeliest 88 = .ok (.iload 4, 2) := by decide +kernel
theorem dX12_likeliest_90 : decode cX12_likeliest 90 = .ok (.ireturn, 1) := by decide +kernel
set_option maxRecDepth 20000 in
set_option maxHeartbeats 2000000 in
theorem w_X12_likeliest_82 {X : CX} {d : Nat} (hd : 8 ≤ d) {g' : G} {rx : Int32} (k51 : Nat → Int32 → Int32 → Int32 → G → Option (Int32 × G)) (hk51 : ∀ (l0 : Nat) (l2 : Int32) (l4 : Int32) (l5 : Int32) (g : G), KD g l0 12 → k51 l0 l2 l4 l5 g = some (rx, g') → SemF X m_X12_likeliest d 51 [(0, .ref (ad X l0)), (2, .int l2), (4, .int l4), (5, .int l5)] [] g (some (.int rx)) g') (l0 : Nat) (l2 : Int32) (l4 : Int32) (l5 : Int32) (g : G) (k_l0 : KD g l0 12) (h : f_X12_likeliest_82 k51 l0 l2 l4 l5 g = some (rx, g')) : SemF X m_X12_likeliest d 82 [(0, .ref (ad X l0)), (2, .int l2), (4, .int l4), (5, .int l5)] [] g (some (.int rx)) g' := by
  rw [f_X12_likeliest_82] at h
  refine SF_iinc 3 (l5 + (1 : Int32)) [(5, .int (l5 + (1 : Int32))), (0, .ref (ad X l0)), (2, .int l2), (4, .int l4)] 85 dX12_likeliest_82 rfl rfl (by decide) rfl rfl ?_
  refine SF_goto 51 dX12_likeliest_85 rfl ?_
  refine SF_sub [1, 2, 3, 0] rfl ?_
  exact hk51 l0 l2 l4 (l5 + (1 : Int32)) g k_l0 h

set_option maxRecDepth 20000 in
set_option maxHeartbeats 2000000 in
theorem w_X12_likeliest_51 {X : CX} {d : Nat} (hd : 8 ≤ d) {g' : G} {rx : Int32} : ∀ (n : Nat) (l0 : Nat) (l2 : Int32) (l4 : Int32) (l5 : Int32) (g : G), KD g l0 12 → f_X12_likeliest_51 n l0 l2 l4 l5 g = some (rx, g') → SemF X m_X12_likeliest d 51 [(0, .ref (ad X l0)), (2, .int l2), (4, .int l4), (5, .int l5)] [] g (some (.int rx)) g' := by
  intro n
  induction n with
  | zero =>
    intro l0 l2 l4 l5 g k_l0 h
    rw [f_X12_likeliest_51] at h
    cases h
  | succ n ih =>
  intro l0 l2 l4 l5 g k_l0 h
  rw [f_X12_likeliest_51] at h
  refine SF_iload 3 53 dX12_likeliest_51 rfl rfl ?_
  refine SF_aload_n 0 54 dX12_likeliest_53 rfl rfl rfl ?_
  obtain ⟨v1, g2, q3, h⟩ := bd_some h
  have s4 := w_X12_cells (X := X) (Nat.le_refl 0) l0 g g2 v1 k_l0 q3
  refine SF_callVi 57 mi_X12_cells ml_X12_214 dX12_likeliest_54 (Nat.le_trans (by decide) hd) s4 k_l0.1 rfl rfl (Nat.le_of_ble_eq_true rfl) rfl ?_
  have k_l0 := k_l0.ext s4.1
  refine SF_icge 88 60 dX12_likeliest_57 rfl rfl (fun c5 => ?_) (fun c5 => ?_)
  · have h := ite_t c5 h
    refine SF_iload 2 90 dX12_likeliest_88 rfl rfl ?_
    exact RT_i rfl dX12_likeliest_90 h
  · have h := ite_f c5 h
    refine SF_aload_n 0 61 dX12_likeliest_60 rfl rfl rfl ?_
    refine SF_iload_n 1 62 dX12_likeliest_61 rfl rfl rfl ?_
    refine SF_iload 3 64 dX12_likeliest_62 rfl rfl ?_
    obtain ⟨v6, g7, q8, h⟩ := bd_some h
    have s9 := w_X12_likelyIn (X := X) (Nat.le_refl 1) l0 l2 l5 g2 g7 v6 k_l0 q8
    refine SF_callVl 67 mi_X12_likelyIn ml_X12_480 dX12_likeliest_64 (Nat.le_trans (by decide) hd) s9 k_l0.1 rfl rfl (Nat.le_of_ble_eq_true rfl) rfl ?_
    have k_l0 := k_l0.ext s9.1
    refine SF_aload_n 0 68 dX12_likeliest_67 rfl rfl rfl ?_
    refine SF_iload_n 1 69 dX12_likeliest_68 rfl rfl rfl ?_
    refine SF_iload 2 71 dX12_likeliest_69 rfl rfl ?_
    obtain ⟨v10, g11, q12, h⟩ := bd_some h
    have s13 := w_X12_likelyIn (X := X) (Nat.le_refl 1) l0 l2 l4 g7 g11 v10 k_l0 q12
    refine SF_callVl 74 mi_X12_likelyIn ml_X12_480 dX12_likeliest_71 (Nat.le_trans (by decide) hd) s13 k_l0.1 rfl rfl (Nat.le_of_ble_eq_true rfl) rfl ?_
    have k_l0 := k_l0.ext s13.1
    refine SF_lcmp 75 dX12_likeliest_74 rfl ?_
    refine SF_ifle 82 78 dX12_likeliest_75 rfl rfl (fun c14 => ?_) (fun c14 => ?_)
    · have h := ite_t c14 h
      exact w_X12_likeliest_82 hd (f_X12_likeliest_51 n) ih l0 l2 l4 l5 g11 k_l0 h
    · have h := ite_f c14 h
      refine SF_iload 3 80 dX12_likeliest_78 rfl rfl ?_
      refine SF_istore [(4, .int l5), (0, .ref (ad X l0)), (2, .int l2), (5, .int l5)] 82 dX12_likeliest_80 (by decide) rfl rfl ?_
      refine SF_sub [1, 2, 0, 3] rfl ?_
      exact w_X12_likeliest_82 hd (f_X12_likeliest_51 n) ih l0 l2 l5 l5 g11 k_l0 h

set_option maxRecDepth 20000 in
set_option maxHeartbeats 2000000 in
theorem w_X12_likeliest {X : CX} {d : Nat} (hd : 8 ≤ d) (l0 : Nat) (l1 : Int32) (l2 : Int32) (l3 : Int32) (g g' : G) (rx : Int32) (k_l0 : KD g l0 12) (h : f_X12_likeliest l0 l1 l2 l3 g = some (rx, g')) : Sem X m_X12_likeliest d [.ref (ad X l0), .int l1, .int l2, .int l3] g (some (.int rx)) g' := by
  refine Sem_of (lo := [(0, .ref (ad X l0)), (1, .int l1), (2, .int l2), (3, .int l3)]) (by decide +kernel) rfl (Nat.le_of_ble_eq_true rfl) ?_
  rw [f_X12_likeliest] at h
  refine SF_aload_n 0 1 dX12_likeliest_0 rfl rfl rfl ?_
  refine SF_iconst (0 : Int32) 2 dX12_likeliest_1 rfl rfl ?_
  refine SF_putI 5 fl_X12_1 dX12_likeliest_2 k_l0.1 (fn_int _) (Or.inl rfl) rfl ?_
  obtain ⟨g1, e2, h⟩ := lg_some h
  rw [← e2]
  have k_l0 := KD.eq e2 k_l0
  refine SF_aload_n 0 6 dX12_likeliest_5 rfl rfl rfl ?_
  refine SF_iload_n 1 7 dX12_likeliest_6 rfl rfl rfl ?_
  refine SF_i2l 8 dX12_likeliest_7 rfl ?_
  obtain ⟨v3, g4, q5, h⟩ := bd_some h
  have s6 := w_X12_isPair (X := X) (Nat.le_refl 1) l0 (l1.toInt64) g1 g4 v3 k_l0 q5
  refine SF_callVb 11 mi_X12_isPair ml_X12_255 dX12_likeliest_8 (Nat.le_trans (by decide) hd) s6 k_l0.1 rfl rfl (Nat.le_of_ble_eq_true rfl) rfl ?_
  have k_l0 := k_l0.ext s6.1
  refine SF_ifeq 21 14 dX12_likeliest_11 rfl rfl (fun c7 => ?_) (fun c7 => ?_)
  · have h := ite_t c7 h
    refine SF_bipush (-2 : Int32) 23 dX12_likeliest_21 rfl rfl ?_
    exact RT_i rfl dX12_likeliest_23 h
  · have h := ite_f c7 h
    refine SF_iload_n 2 15 dX12_likeliest_14 rfl rfl rfl ?_
    obtain ⟨v8, g9, q10, h⟩ := bd_some h
    have s11 := w_X12_isTwin (X := X) (Nat.le_refl 1) l2 g4 g9 v8 q10
    refine SF_callSb 18 mi_X12_isTwin ml_X12_417 dX12_likeliest_15 (Nat.le_trans (by decide) hd) s11 rfl rfl (Nat.le_of_ble_eq_true rfl) rfl ?_
    have k_l0 := k_l0.ext s11.1
    refine SF_ifne 24 21 dX12_likeliest_18 rfl rfl (fun c12 => ?_) (fun c12 => ?_)
    · have h := ite_f c12 h
      refine SF_iload_n 3 25 dX12_likeliest_24 rfl rfl rfl ?_
      refine SF_i2l 26 dX12_likeliest_25 rfl ?_
      refine SF_lconst (0 : Int64) 27 dX12_likeliest_26 rfl rfl ?_
      refine SF_ldc2 30 dX12_likeliest_27 kl_X12_475 rfl ?_
      obtain ⟨v13, g14, q15, h⟩ := bd_some h
      have s16 := w_X12_within (X := X) (Nat.le_refl 0) (l3.toInt64) (0 : Int64) (5 : Int64) g9 g14 v13 q15
      refine SF_callSb 33 mi_X12_within ml_X12_139 dX12_likeliest_30 (Nat.le_trans (by decide) hd) s16 rfl rfl (Nat.le_of_ble_eq_true rfl) rfl ?_
      have k_l0 := k_l0.ext s16.1
      refine SF_ifne 39 36 dX12_likeliest_33 rfl rfl (fun c17 => ?_) (fun c17 => ?_)
      · have h := ite_f c17 h
        refine SF_aload_n 0 40 dX12_likeliest_39 rfl rfl rfl ?_
        refine SF_iload_n 1 41 dX12_likeliest_40 rfl rfl rfl ?_
        refine SF_iload_n 3 42 dX12_likeliest_41 rfl rfl rfl ?_
        obtain ⟨v18, g19, q20, h⟩ := bd_some h
        have s21 := w_X12_laysLikely (X := X) (Nat.le_refl 7) l0 l1 l3 g14 g19 v18 k_l0 q20
        refine SF_callVv 45 mi_X12_laysLikely ml_X12_477 dX12_likeliest_42 (Nat.le_trans (by decide) hd) s21 k_l0.1 rfl rfl (Nat.le_of_ble_eq_true rfl) rfl ?_
        have k_l0 := k_l0.ext s21.1
        refine SF_iconst (0 : Int32) 46 dX12_likeliest_45 rfl rfl ?_
        refine SF_istore [(4, .int (0 : Int32)), (0, .ref (ad X l0)), (1, .int l1), (2, .int l2), (3, .int l3)] 48 dX12_likeliest_46 (by decide) rfl rfl ?_
        refine SF_iconst (1 : Int32) 49 dX12_likeliest_48 rfl rfl ?_
        refine SF_istore [(5, .int (1 : Int32)), (4, .int (0 : Int32)), (0, .ref (ad X l0)), (1, .int l1), (2, .int l2), (3, .int l3)] 51 dX12_likeliest_49 (by decide) rfl rfl ?_
        refine SF_sub [2, 4, 1, 0] rfl ?_
        exact w_X12_likeliest_51 hd FU l0 l2 (0 : Int32) (1 : Int32) g19 k_l0 h
      · have h := ite_t c17 h
        refine SF_bipush (-3 : Int32) 38 dX12_likeliest_36 rfl rfl ?_
        exact RT_i rfl dX12_likeliest_38 h
    · have h := ite_t c12 h
      refine SF_bipush (-2 : Int32) 23 dX12_likeliest_21 rfl rfl ?_
      exact RT_i rfl dX12_likeliest_23 h

theorem dX10_become_0 : decode cX10_become 0 = .ok (.aload_n 0, 1) := by decide +kernel
theorem dX10_become_1 : decode cX10_become 1 = .ok (.iload_n 1, 1) := by decide +kernel
theorem dX10_become_2 : decode cX10_become 2 = .ok (.putfield 9, 3) := by decide +kernel
theorem dX10_become_5 : decode cX10_become 5 = .ok (.aload_n 0, 1) := by decide +kernel
theorem dX10_become_6 : decode cX10_become 6 = .ok (.iconst 0, 1) := by decide +kernel
theorem dX10_become_7 : decode cX10_become 7 = .ok (.bipush 40, 2) := by decide +kernel
theorem dX10_become_9 : decode cX10_become 9 = .ok (.iload_n 2, 1) := by decide +kernel
theorem dX10_become_10 : decode cX10_become 10 = .ok (.invokestatic 19, 3) := by decide +kernel
theorem dX10_become_13 : decode cX10_become 13 = .ok (.invokestatic 25, 3) := by decide +kernel
theorem dX10_become_16 : decode cX10_become 16 = .ok (.putfield 28, 3) := by decide +kernel
theorem dX10_become_19 : decode cX10_become 19 = .ok (.aload_n 0, 1) := by decide +kernel
theorem dX10_become_20 : decode cX10_become 20 = .ok (.getfield 15, 3) := by decide +kernel
theorem dX10_become_23 : decode cX10_become 23 = .ok (.lconst 0, 1) := by decide +kernel
theorem dX10_become_24 : decode cX10_become 24 = .ok (.invokestatic 31, 3) := by decide +kernel
theorem dX10_become_27 : decode cX10_become 27 = .ok (.return_, 1) := by decide +kernel
set_option maxRecDepth 20000 in
set_option maxHeartbeats 2000000 in
theorem w_X10_become {X : CX} {d : Nat} (hd : 1 ≤ d) (l0 : Nat) (l1 : Int32) (l2 : Int32) (g g' : G) (rx : Unit) (k_l0 : KD g l0 10) (h : f_X10_become l0 l1 l2 g = some (rx, g')) : Sem X m_X10_become d [.ref (ad X l0), .int l1, .int l2] g none g' := by
  refine Sem_of (lo := [(0, .ref (ad X l0)), (1, .int l1), (2, .int l2)]) (by decide +kernel) rfl (Nat.le_of_ble_eq_true rfl) ?_
  rw [f_X10_become] at h
  refine SF_aload_n 0 1 dX10_become_0 rfl rfl rfl ?_
  refine SF_iload_n 1 2 dX10_become_1 rfl rfl rfl ?_
  refine SF_putI 5 fl_X10_9 dX10_become_2 k_l0.1 (fn_int _) (Or.inl rfl) rfl ?_
  obtain ⟨g1, e2, h⟩ := lg_some h
  rw [← e2]
  have k_l0 := KD.eq e2 k_l0
  refine SF_aload_n 0 6 dX10_become_5 rfl rfl rfl ?_
  refine SF_iconst (0 : Int32) 7 dX10_become_6 rfl rfl ?_
  refine SF_bipush (40 : Int32) 9 dX10_become_7 rfl rfl ?_
  refine SF_iload_n 2 10 dX10_become_9 rfl rfl rfl ?_
  obtain ⟨v3, g4, q5, h⟩ := bd_some h
  have s6 := w_J9_min_7cf53 (X := X) (Nat.le_refl 0) (40 : Int32) l2 g1 g4 v3 q5
  refine SF_callSi 13 mi_J9_min_7cf53 ml_X10_19 dX10_become_10 (Nat.le_trans (by decide) hd) s6 rfl rfl (Nat.le_of_ble_eq_true rfl) rfl ?_
  have k_l0 := k_l0.ext s6.1
  obtain ⟨v7, g8, q9, h⟩ := bd_some h
  have s10 := w_J9_max_7cf53 (X := X) (Nat.le_refl 0) (0 : Int32) v3 g4 g8 v7 q9
  refine SF_callSi 16 mi_J9_max_7cf53 ml_X10_25 dX10_become_13 (Nat.le_trans (by decide) hd) s10 rfl rfl (Nat.le_of_ble_eq_true rfl) rfl ?_
  have k_l0 := k_l0.ext s10.1
  refine SF_putI 19 fl_X10_28 dX10_become_16 k_l0.1 (fn_int _) (Or.inl rfl) rfl ?_
  obtain ⟨g11, e12, h⟩ := lg_some h
  rw [← e12]
  have k_l0 := KD.eq e12 k_l0
  refine SF_aload_n 0 20 dX10_become_19 rfl rfl rfl ?_
  obtain ⟨b13, r14, h⟩ := dr_some h
  refine SF_getR 23 fl_X10_15 dX10_become_20 k_l0.1 r14 rfl ?_
  refine SF_lconst (0 : Int64) 24 dX10_become_23 rfl rfl ?_
  obtain ⟨k15, h⟩ := gdK_some h
  obtain ⟨v16, g17, q18, h⟩ := bd_some h
  have s19 := w_J7_fill_d0a16 (X := X) (Nat.le_refl 0) b13 (0 : Int64) g11 g17 v16 k15 q18
  refine SF_callSv 27 mi_J7_fill_d0a16 ml_X10_31 dX10_become_24 (Nat.le_trans (by decide) hd) s19 rfl rfl (Nat.le_of_ble_eq_true rfl) rfl ?_
  have k_l0 := k_l0.ext s19.1
  have k15 := k15.ext s19.1
  exact RT_v rfl dX10_become_27 h

theorem dX11_numbers_0 : decode cX11_numbers 0 = .ok (.iload_n 1, 1) := by decide +kernel
theorem dX11_numbers_1 : decode cX11_numbers 1 = .ok (.invokestatic 219, 3) := by decide +kernel
theorem dX11_numbers_4 : decode cX11_numbers 4 = .ok (.ifCond .eq 12, 3) := by decide +kernel
theorem dX11_numbers_7 : decode cX11_numbers 7 = .ok (.iload_n 2, 1) := by decide +kernel
theorem dX11_numbers_8 : decode cX11_numbers 8 = .ok (.ifCond .lt 8, 3) := by decide +kernel
theorem dX11_numbers_11 : decode cX11_numbers 11 = .ok (.iload_n 2, 1) := by decide +kernel
theorem dX11_numbers_12 : decode cX11_numbers 12 = .ok (.iconst 3, 1) := by decide +kernel
theorem dX11_numbers_13 : decode cX11_numbers 13 = .ok (.if_icmp .le 6, 3) := by decide +kernel
theorem dX11_numbers_16 : decode cX11_numbers 16 = .ok (.bipush (-2), 2) := by decide +kernel
theorem dX11_numbers_18 : decode cX11_numbers 18 = .ok (.ireturn, 1) := by decide +kernel
theorem dX11_numbers_19 : decode cX11_numbers 19 = .ok (.iload_n 3, 1) := by decide +kernel
theorem dX11_numbers_20 : decode cX11_numbers 20 = .ok (.ifCond .lt 9, 3) := by decide +kernel
theorem dX11_numbers_23 : decode cX11_numbers 23 = .ok (.iload_n 3, 1) := by decide +kernel
theorem dX11_numbers_24 : decode cX11_numbers 24 = .ok (.bipush 40, 2) := by decide +kernel
theorem dX11_numbers_26 : decode cX11_numbers 26 = .ok (.if_icmp .le 6, 3) := by decide +kernel
theorem dX11_numbers_29 : decode cX11_numbers 29 = .ok (.bipush (-3), 2) := by decide +kernel
theorem dX11_numbers_31 : decode cX11_numbers 31 = .ok (.ireturn, 1) := by decide +kernel
theorem dX11_numbers_32 : decode cX11_numbers 32 = .ok (.aload_n 0, 1) := by decide +kernel
theorem dX11_numbers_33 : decode cX11_numbers 33 = .ok (.getfield 60, 3) := by decide +kernel
theorem dX11_numbers_36 : decode cX11_numbers 36 = .ok (.iload_n 1, 1) := by decide +kernel
theorem dX11_numbers_37 : decode cX11_numbers 37 = .ok (.aaload, 1) := by decide +kernel
theorem dX11_numbers_38 : decode cX11_numbers 38 = .ok (.iload_n 2, 1) := by decide +kernel
theorem dX11_numbers_39 : decode cX11_numbers 39 = .ok (.iload_n 3, 1) := by decide +kernel
theorem dX11_numbers_40 : decode cX11_numbers 40 = .ok (.invokevirtual 403, 3) := by decide +kernel
theorem dX11_numbers_43 : decode cX11_numbers 43 = .ok (.iconst 0, 1) := by decide +kernel
theorem dX11_numbers_44 : decode cX11_numbers 44 = .ok (.ireturn, 1) := by decide +kernel
set_option maxRecDepth 20000 in
set_option maxHeartbeats 2000000 in
theorem w_X11_numbers {X : CX} {d : Nat} (hd : 2 ≤ d) (l0 : Nat) (l1 : Int32) (l2 : Int32) (l3 : Int32) (g g' : G) (rx : Int32) (k_l0 : KD g l0 11) (h : f_X11_numbers l0 l1 l2 l3 g = some (rx, g')) : Sem X m_X11_numbers d [.ref (ad X l0), .int l1, .int l2, .int l3] g (some (.int rx)) g' := by
  refine Sem_of (lo := [(0, .ref (ad X l0)), (1, .int l1), (2, .int l2), (3, .int l3)]) (by decide +kernel) rfl (Nat.le_of_ble_eq_true rfl) ?_
  rw [f_X11_numbers] at h
  refine SF_iload_n 1 1 dX11_numbers_0 rfl rfl rfl ?_
  obtain ⟨v1, g2, q3, h⟩ := bd_some h
  have s4 := w_X11_isTray (X := X) (Nat.le_refl 0) l1 g g2 v1 q3
  refine SF_callSb 4 mi_X11_isTray ml_X11_219 dX11_numbers_1 (Nat.le_trans (by decide) hd) s4 rfl rfl (Nat.le_of_ble_eq_true rfl) rfl ?_
  have k_l0 := k_l0.ext s4.1
  refine SF_ifeq 16 7 dX11_numbers_4 rfl rfl (fun c5 => ?_) (fun c5 => ?_)
  · have h := ite_t c5 h
    refine SF_bipush (-2 : Int32) 18 dX11_numbers_16 rfl rfl ?_
    exact RT_i rfl dX11_numbers_18 h
  · have h := ite_f c5 h
    refine SF_iload_n 2 8 dX11_numbers_7 rfl rfl rfl ?_
    refine SF_iflt 16 11 dX11_numbers_8 rfl rfl (fun c6 => ?_) (fun c6 => ?_)
    · have h := ite_t c6 h
      refine SF_bipush (-2 : Int32) 18 dX11_numbers_16 rfl rfl ?_
      exact RT_i rfl dX11_numbers_18 h
    · have h := ite_f c6 h
      refine SF_iload_n 2 12 dX11_numbers_11 rfl rfl rfl ?_
      refine SF_iconst (3 : Int32) 13 dX11_numbers_12 rfl rfl ?_
      refine SF_icle 19 16 dX11_numbers_13 rfl rfl (fun c7 => ?_) (fun c7 => ?_)
      · have h := ite_t c7 h
        refine SF_iload_n 3 20 dX11_numbers_19 rfl rfl rfl ?_
        refine SF_iflt 29 23 dX11_numbers_20 rfl rfl (fun c8 => ?_) (fun c8 => ?_)
        · have h := ite_t c8 h
          refine SF_bipush (-3 : Int32) 31 dX11_numbers_29 rfl rfl ?_
          exact RT_i rfl dX11_numbers_31 h
        · have h := ite_f c8 h
          refine SF_iload_n 3 24 dX11_numbers_23 rfl rfl rfl ?_
          refine SF_bipush (40 : Int32) 26 dX11_numbers_24 rfl rfl ?_
          refine SF_icle 32 29 dX11_numbers_26 rfl rfl (fun c9 => ?_) (fun c9 => ?_)
          · have h := ite_t c9 h
            refine SF_aload_n 0 33 dX11_numbers_32 rfl rfl rfl ?_
            obtain ⟨b10, r11, h⟩ := dr_some h
            refine SF_getR 36 fl_X11_60 dX11_numbers_33 k_l0.1 r11 rfl ?_
            refine SF_iload_n 1 37 dX11_numbers_36 rfl rfl rfl ?_
            obtain ⟨k12, h⟩ := gdK_some h
            obtain ⟨i13, h⟩ := gdI_some h
            obtain ⟨b14, r15, h⟩ := dr_some h
            refine SF_aald 38 dX11_numbers_37 k12.1 (Or.inr (Or.inl rfl)) i13 r15 rfl ?_
            refine SF_iload_n 2 39 dX11_numbers_38 rfl rfl rfl ?_
            refine SF_iload_n 3 40 dX11_numbers_39 rfl rfl rfl ?_
            obtain ⟨k16, h⟩ := gdK_some h
            obtain ⟨v17, g18, q19, h⟩ := bd_some h
            have s20 := w_X10_become (X := X) (Nat.le_refl 1) b14 l2 l3 g2 g18 v17 k16 q19
            refine SF_callVv 43 mi_X10_become ml_X11_403 dX11_numbers_40 (Nat.le_trans (by decide) hd) s20 k16.1 rfl rfl (Nat.le_of_ble_eq_true rfl) rfl ?_
            have k_l0 := k_l0.ext s20.1
            have k12 := k12.ext s20.1
            have k16 := k16.ext s20.1
            refine SF_iconst (0 : Int32) 44 dX11_numbers_43 rfl rfl ?_
            exact RT_i rfl dX11_numbers_44 h
          · have h := ite_f c9 h
            refine SF_bipush (-3 : Int32) 31 dX11_numbers_29 rfl rfl ?_
            exact RT_i rfl dX11_numbers_31 h
      · have h := ite_f c7 h
        refine SF_bipush (-2 : Int32) 18 dX11_numbers_16 rfl rfl ?_
        exact RT_i rfl dX11_numbers_18 h

theorem dX12_numbers_0 : decode cX12_numbers 0 = .ok (.aload_n 0, 1) := by decide +kernel
theorem dX12_numbers_1 : decode cX12_numbers 1 = .ok (.iconst 0, 1) := by decide +kernel
theorem dX12_numbers_2 : decode cX12_numbers 2 = .ok (.putfield 1, 3) := by decide +kernel
theorem dX12_numbers_5 : decode cX12_numbers 5 = .ok (.iload_n 1, 1) := by decide +kernel
theorem dX12_numbers_6 : decode cX12_numbers 6 = .ok (.i2l, 1) := by decide +kernel
theorem dX12_numbers_7 : decode cX12_numbers 7 = .ok (.lconst 0, 1) := by decide +kernel
theorem dX12_numbers_8 : decode cX12_numbers 8 = .ok (.ldc2_w 259, 3) := by decide +kernel
theorem dX12_numbers_11 : decode cX12_numbers 11 = .ok (.invokestatic 139, 3) := by decide +kernel
theorem dX12_numbers_14 : decode cX12_numbers 14 = .ok (.ifCond .eq 15, 3) := by decide +kernel
theorem dX12_numbers_17 : decode cX12_numbers 17 = .ok (.iload_n 2, 1) := by decide +kernel
theorem dX12_numbers_18 : decode cX12_numbers 18 = .ok (.i2l, 1) := by decide +kernel
theorem dX12_numbers_19 : decode cX12_numbers 19 = .ok (.lconst 0, 1) := by decide +kernel
theorem dX12_numbers_20 : decode cX12_numbers 20 = .ok (.ldc2_w 259, 3) := by decide +kernel
theorem dX12_numbers_23 : decode cX12_numbers 23 = .ok (.invokestatic 139, 3) := by decide +kernel
theorem dX12_numbers_26 : decode cX12_numbers 26 = .ok (.ifCond .ne 6, 3) := by decide +kernel
theorem dX12_numbers_29 : decode cX12_numbers 29 = .ok (.bipush (-2), 2) := by decide +kernel
theorem dX12_numbers_31 : decode cX12_numbers 31 = .ok (.ireturn, 1) := by decide +kernel
theorem dX12_numbers_32 : decode cX12_numbers 32 = .ok (.iload_n 3, 1) := by decide +kernel
theorem dX12_numbers_33 : decode cX12_numbers 33 = .ok (.i2l, 1) := by decide +kernel
theorem dX12_numbers_34 : decode cX12_numbers 34 = .ok (.lconst 0, 1) := by decide +kernel
theorem dX12_numbers_35 : decode cX12_numbers 35 = .ok (.ldc2_w 339, 3) := by decide +kernel
theorem dX12_numbers_38 : decode cX12_numbers 38 = .ok (.invokestatic 139, 3) := by decide +kernel
theorem dX12_numbers_41 : decode cX12_numbers 41 = .ok (.ifCond .ne 6, 3) := by decide +kernel
theorem dX12_numbers_44 : decode cX12_numbers 44 = .ok (.bipush (-3), 2) := by decide +kernel
theorem dX12_numbers_46 : decode cX12_numbers 46 = .ok (.ireturn, 1) := by decide +kernel
theorem dX12_numbers_47 : decode cX12_numbers 47 = .ok (.aload_n 0, 1) := by decide +kernel
theorem dX12_numbers_48 : decode cX12_numbers 48 = .ok (.getfield 64, 3) := by decide +kernel
theorem dX12_numbers_51 : decode cX12_numbers 51 = .ok (.iload_n 1, 1) := by decide +kernel
theorem dX12_numbers_52 : decode cX12_numbers 52 = .ok (.iload_n 2, 1) := by decide +kernel
theorem dX12_numbers_53 : decode cX12_numbers 53 = .ok (.iastore, 1) := by decide +kernel
theorem dX12_numbers_54 : decode cX12_numbers 54 = .ok (.aload_n 0, 1) := by decide +kernel
theorem dX12_numbers_55 : decode cX12_numbers 55 = .ok (.getfield 67, 3) := by decide +kernel
theorem dX12_numbers_58 : decode cX12_numbers 58 = .ok (.iload_n 1, 1) := by decide +kernel
theorem dX12_numbers_59 : decode cX12_numbers 59 = .ok (.iload_n 3, 1) := by decide +kernel
theorem dX12_numbers_60 : decode cX12_numbers 60 = .ok (.iastore, 1) := by decide +kernel
theorem dX12_numbers_61 : decode cX12_numbers 61 = .ok (.iconst 0, 1) := by decide +kernel
theorem dX12_numbers_62 : decode cX12_numbers 62 = .ok (.istore 4, 2) := by decide +kernel
theorem dX12_numbers_64 : decode cX12_numbers 64 = .ok (.iload 4, 2) := by decide +kernel
theorem dX12_numbers_66 : decode cX12_numbers 66 = .ok (.iload_n 3, 1) := by decide +kernel
theorem dX12_numbers_67 : decode cX12_numbers 67 = .ok (.if_icmp .ge 22, 3) := by decide +kernel
theorem dX12_numbers_70 : decode cX12_numbers 70 = .ok (.aload_n 0, 1) := by decide +kernel
theorem dX12_numbers_71 : decode cX12_numbers 71 = .ok (.getfield 70, 3) := by decide +kernel
theorem dX12_numbers_74 : decode cX12_numbers 74 = .ok (.bipush 40, 2) := by decide +kernel
theorem dX12_numbers_76 : decode cX12_numbers 76 = .ok (.iload_n 1, 1) := by decide +kernel
theorem dX12_numbers_77 : decode cX12_numbers 77 = .ok (.imul, 1) := by decide +kernel
theorem dX12_numbers_78 : decode cX12_numbers 78 = .ok (.iload 4, 2) := by decide +kernel
theorem dX12_numbers_80 : decode cX12_numbers 80 = .ok (.iadd, 1) := by decide +kernel
theorem dX12_numbers_81 : decode cX12_numbers 81 = .ok (.lconst 0, 1) := by decide +kernel
theorem dX12_numbers_82 : decode cX12_numbers 82 = .ok (.lastore, 1) := by decide +kernel
theorem dX12_numbers_83 : decode cX12_numbers 83 = .ok (.iinc 4 1, 3) := by decide +kernel
theorem dX12_numbers_86 : decode cX12_numbers 86 = .ok (.goto (-22), 3) := by decide +kernel
theorem dX12_numbers_89 : decode cX12_numbers 89 = .ok (.iconst 0, 1) := by decide +kernel
theorem dX12_numbers_90 : decode cX12_numbers 90 = .ok (.ireturn, 1) := by decide +kernel
set_option maxRecDepth 20000 in
set_option maxHeartbeats 2000000 in
theorem w_X12_numbers_64 {X : CX} {d : Nat} (hd : 1 ≤ d) {g' : G} {rx : Int32} : ∀ (n : Nat) (l0 : Nat) (l1 : Int32) (l3 : Int32) (l4 : Int32) (g : G), KD g l0 12 → f_X12_numbers_64 n l0 l1 l3 l4 g = some (rx, g') → SemF X m_X12_numbers d 64 [(0, .ref (ad X l0)), (1, .int l1), (3, .int l3), (4, .int l4)] [] g (some (.int rx)) g' := by
  intro n
  induction n with
  | zero =>
    intro l0 l1 l3 l4 g k_l0 h
    rw [f_X12_numbers_64] at h
    cases h
  | succ n ih =>
  intro l0 l1 l3 l4 g k_l0 h
  rw [f_X12_numbers_64] at h
  refine SF_iload 3 66 dX12_numbers_64 rfl rfl ?_
  refine SF_iload_n 2 67 dX12_numbers_66 rfl rfl rfl ?_
  refine SF_icge 89 70 dX12_numbers_67 rfl rfl (fun c1 => ?_) (fun c1 => ?_)
  · have h := ite_t c1 h
    refine SF_iconst (0 : Int32) 90 dX12_numbers_89 rfl rfl ?_
    exact RT_i rfl dX12_numbers_90 h
  · have h := ite_f c1 h
    refine SF_aload_n 0 71 dX12_numbers_70 rfl rfl rfl ?_
    obtain ⟨b2, r3, h⟩ := dr_some h
    refine SF_getR 74 fl_X12_70 dX12_numbers_71 k_l0.1 r3 rfl ?_
    refine SF_bipush (40 : Int32) 76 dX12_numbers_74 rfl rfl ?_
    refine SF_iload_n 1 77 dX12_numbers_76 rfl rfl rfl ?_
    refine SF_imul 78 dX12_numbers_77 rfl ?_
    refine SF_iload 3 80 dX12_numbers_78 rfl rfl ?_
    refine SF_iadd 81 dX12_numbers_80 rfl ?_
    refine SF_lconst (0 : Int64) 82 dX12_numbers_81 rfl rfl ?_
    obtain ⟨k4, h⟩ := gdK_some h
    obtain ⟨i5, h⟩ := gdI_some h
    refine SF_last 83 dX12_numbers_82 k4.1 i5 rfl ?_
    obtain ⟨g6, e7, h⟩ := lg_some h
    rw [← e7]
    have k_l0 := KD.eq e7 k_l0
    have k4 := KD.eq e7 k4
    have r3 := gR_eq e7 r3
    have i5 := vp_eq e7 i5
    refine SF_iinc 3 (l4 + (1 : Int32)) [(4, .int (l4 + (1 : Int32))), (0, .ref (ad X l0)), (1, .int l1), (3, .int l3)] 86 dX12_numbers_83 rfl rfl (by decide) rfl rfl ?_
    refine SF_goto 64 dX12_numbers_86 rfl ?_
    refine SF_sub [1, 2, 3, 0] rfl ?_
    exact ih l0 l1 l3 (l4 + (1 : Int32)) g6 k_l0 h

set_option maxRecDepth 20000 in
set_option maxHeartbeats 2000000 in
theorem w_X12_numbers {X : CX} {d : Nat} (hd : 1 ≤ d) (l0 : Nat) (l1 : Int32) (l2 : Int32) (l3 : Int32) (g g' : G) (rx : Int32) (k_l0 : KD g l0 12) (h : f_X12_numbers l0 l1 l2 l3 g = some (rx, g')) : Sem X m_X12_numbers d [.ref (ad X l0), .int l1, .int l2, .int l3] g (some (.int rx)) g' := by
  refine Sem_of (lo := [(0, .ref (ad X l0)), (1, .int l1), (2, .int l2), (3, .int l3)]) (by decide +kernel) rfl (Nat.le_of_ble_eq_true rfl) ?_
  rw [f_X12_numbers] at h
  refine SF_aload_n 0 1 dX12_numbers_0 rfl rfl rfl ?_
  refine SF_iconst (0 : Int32) 2 dX12_numbers_1 rfl rfl ?_
  refine SF_putI 5 fl_X12_1 dX12_numbers_2 k_l0.1 (fn_int _) (Or.inl rfl) rfl ?_
  obtain ⟨g1, e2, h⟩ := lg_some h
  rw [← e2]
  have k_l0 := KD.eq e2 k_l0
  refine SF_iload_n 1 6 dX12_numbers_5 rfl rfl rfl ?_
  refine SF_i2l 7 dX12_numbers_6 rfl ?_
  refine SF_lconst (0 : Int64) 8 dX12_numbers_7 rfl rfl ?_
  refine SF_ldc2 11 dX12_numbers_8 kl_X12_259 rfl ?_
  obtain ⟨v3, g4, q5, h⟩ := bd_some h
  have s6 := w_X12_within (X := X) (Nat.le_refl 0) (l1.toInt64) (0 : Int64) (3 : Int64) g1 g4 v3 q5
  refine SF_callSb 14 mi_X12_within ml_X12_139 dX12_numbers_11 (Nat.le_trans (by decide) hd) s6 rfl rfl (Nat.le_of_ble_eq_true rfl) rfl ?_
  have k_l0 := k_l0.ext s6.1
  refine SF_ifeq 29 17 dX12_numbers_14 rfl rfl (fun c7 => ?_) (fun c7 => ?_)
  · have h := ite_t c7 h
    refine SF_bipush (-2 : Int32) 31 dX12_numbers_29 rfl rfl ?_
    exact RT_i rfl dX12_numbers_31 h
  · have h := ite_f c7 h
    refine SF_iload_n 2 18 dX12_numbers_17 rfl rfl rfl ?_
    refine SF_i2l 19 dX12_numbers_18 rfl ?_
    refine SF_lconst (0 : Int64) 20 dX12_numbers_19 rfl rfl ?_
    refine SF_ldc2 23 dX12_numbers_20 kl_X12_259 rfl ?_
    obtain ⟨v8, g9, q10, h⟩ := bd_some h
    have s11 := w_X12_within (X := X) (Nat.le_refl 0) (l2.toInt64) (0 : Int64) (3 : Int64) g4 g9 v8 q10
    refine SF_callSb 26 mi_X12_within ml_X12_139 dX12_numbers_23 (Nat.le_trans (by decide) hd) s11 rfl rfl (Nat.le_of_ble_eq_true rfl) rfl ?_
    have k_l0 := k_l0.ext s11.1
    refine SF_ifne 32 29 dX12_numbers_26 rfl rfl (fun c12 => ?_) (fun c12 => ?_)
    · have h := ite_f c12 h
      refine SF_iload_n 3 33 dX12_numbers_32 rfl rfl rfl ?_
      refine SF_i2l 34 dX12_numbers_33 rfl ?_
      refine SF_lconst (0 : Int64) 35 dX12_numbers_34 rfl rfl ?_
      refine SF_ldc2 38 dX12_numbers_35 kl_X12_339 rfl ?_
      obtain ⟨v13, g14, q15, h⟩ := bd_some h
      have s16 := w_X12_within (X := X) (Nat.le_refl 0) (l3.toInt64) (0 : Int64) (40 : Int64) g9 g14 v13 q15
      refine SF_callSb 41 mi_X12_within ml_X12_139 dX12_numbers_38 (Nat.le_trans (by decide) hd) s16 rfl rfl (Nat.le_of_ble_eq_true rfl) rfl ?_
      have k_l0 := k_l0.ext s16.1
      refine SF_ifne 47 44 dX12_numbers_41 rfl rfl (fun c17 => ?_) (fun c17 => ?_)
      · have h := ite_f c17 h
        refine SF_aload_n 0 48 dX12_numbers_47 rfl rfl rfl ?_
        obtain ⟨b18, r19, h⟩ := dr_some h
        refine SF_getR 51 fl_X12_64 dX12_numbers_48 k_l0.1 r19 rfl ?_
        refine SF_iload_n 1 52 dX12_numbers_51 rfl rfl rfl ?_
        refine SF_iload_n 2 53 dX12_numbers_52 rfl rfl rfl ?_
        obtain ⟨k20, h⟩ := gdK_some h
        obtain ⟨i21, h⟩ := gdI_some h
        refine SF_iast 54 dX12_numbers_53 k20.1 i21 rfl ?_
        obtain ⟨g22, e23, h⟩ := lg_some h
        rw [← e23]
        have k_l0 := KD.eq e23 k_l0
        have k20 := KD.eq e23 k20
        have r19 := gR_eq e23 r19
        have i21 := vp_eq e23 i21
        refine SF_aload_n 0 55 dX12_numbers_54 rfl rfl rfl ?_
        obtain ⟨b24, r25, h⟩ := dr_some h
        refine SF_getR 58 fl_X12_67 dX12_numbers_55 k_l0.1 r25 rfl ?_
        refine SF_iload_n 1 59 dX12_numbers_58 rfl rfl rfl ?_
        refine SF_iload_n 3 60 dX12_numbers_59 rfl rfl rfl ?_
        obtain ⟨k26, h⟩ := gdK_some h
        obtain ⟨i27, h⟩ := gdI_some h
        refine SF_iast 61 dX12_numbers_60 k26.1 i27 rfl ?_
        obtain ⟨g28, e29, h⟩ := lg_some h
        rw [← e29]
        have k_l0 := KD.eq e29 k_l0
        have k20 := KD.eq e29 k20
        have k26 := KD.eq e29 k26
        have r19 := gR_eq e29 r19
        have r25 := gR_eq e29 r25
        have i21 := vp_eq e29 i21
        have i27 := vp_eq e29 i27
        refine SF_iconst (0 : Int32) 62 dX12_numbers_61 rfl rfl ?_
        refine SF_istore [(4, .int (0 : Int32)), (0, .ref (ad X l0)), (1, .int l1), (2, .int l2), (3, .int l3)] 64 dX12_numbers_62 (by decide) rfl rfl ?_
        refine SF_sub [1, 2, 4, 0] rfl ?_
        exact w_X12_numbers_64 hd FU l0 l1 l3 (0 : Int32) g28 k_l0 h
      · have h := ite_t c17 h
        refine SF_bipush (-3 : Int32) 46 dX12_numbers_44 rfl rfl ?_
        exact RT_i rfl dX12_numbers_46 h
    · have h := ite_t c12 h
      refine SF_bipush (-2 : Int32) 31 dX12_numbers_29 rfl rfl ?_
      exact RT_i rfl dX12_numbers_31 h

theorem dX10_cut_0 : decode cX10_cut 0 = .ok (.aload_n 0, 1) := by decide +kernel
theorem dX10_cut_1 : decode cX10_cut 1 = .ok (.getfield 9, 3) := by decide +kernel
theorem dX10_cut_4 : decode cX10_cut 4 = .ok (.ifCond .ne 8, 3) := by decide +kernel
theorem dX10_cut_7 : decode cX10_cut 7 = .ok (.lload_n 1, 1) := by decide +kernel
theorem dX10_cut_8 : decode cX10_cut 8 = .ok (.l2i, 1) := by decide +kernel
theorem dX10_cut_9 : decode cX10_cut 9 = .ok (.i2b, 1) := by decide +kernel
theorem dX10_cut_10 : decode cX10_cut 10 = .ok (.i2l, 1) := by decide +kernel
theorem dX10_cut_11 : decode cX10_cut 11 = .ok (.lreturn, 1) := by decide +kernel
theorem dX10_cut_12 : decode cX10_cut 12 = .ok (.aload_n 0, 1) := by decide +kernel
theorem dX10_cut_13 : decode cX10_cut 13 = .ok (.getfield 9, 3) := by decide +kernel
theorem dX10_cut_16 : decode cX10_cut 16 = .ok (.iconst 1, 1) := by decide +kernel
theorem dX10_cut_17 : decode cX10_cut 17 = .ok (.if_icmp .ne 8, 3) := by decide +kernel
theorem dX10_cut_20 : decode cX10_cut 20 = .ok (.lload_n 1, 1) := by decide +kernel
theorem dX10_cut_21 : decode cX10_cut 21 = .ok (.l2i, 1) := by decide +kernel
theorem dX10_cut_22 : decode cX10_cut 22 = .ok (.i2s, 1) := by decide +kernel
theorem dX10_cut_23 : decode cX10_cut 23 = .ok (.i2l, 1) := by decide +kernel
theorem dX10_cut_24 : decode cX10_cut 24 = .ok (.lreturn, 1) := by decide +kernel
theorem dX10_cut_25 : decode cX10_cut 25 = .ok (.aload_n 0, 1) := by decide +kernel
theorem dX10_cut_26 : decode cX10_cut 26 = .ok (.getfield 9, 3) := by decide +kernel
theorem dX10_cut_29 : decode cX10_cut 29 = .ok (.iconst 2, 1) := by decide +kernel
theorem dX10_cut_30 : decode cX10_cut 30 = .ok (.if_icmp .ne 9, 3) := by decide +kernel
theorem dX10_cut_33 : decode cX10_cut 33 = .ok (.lload_n 1, 1) := by decide +kernel
theorem dX10_cut_34 : decode cX10_cut 34 = .ok (.l2i, 1) := by decide +kernel
theorem dX10_cut_35 : decode cX10_cut 35 = .ok (.i2l, 1) := by decide +kernel
theorem dX10_cut_36 : decode cX10_cut 36 = .ok (.goto 4, 3) := by decide +kernel
theorem dX10_cut_39 : decode cX10_cut 39 = .ok (.lload_n 1, 1) := by decide +kernel
theorem dX10_cut_40 : decode cX10_cut 40 = .ok (.lreturn, 1) := by decide +kernel
set_option maxRecDepth 20000 in
set_option maxHeartbeats 2000000 in
theorem w_X10_cut {X : CX} {d : Nat} (hd : 0 ≤ d) (l0 : Nat) (l1 : Int64) (g g' : G) (rx : Int64) (k_l0 : KD g l0 10) (h : f_X10_cut l0 l1 g = some (rx, g')) : Sem X m_X10_cut d [.ref (ad X l0), .long l1] g (some (.long rx)) g' := by
  refine Sem_of (lo := [(0, .ref (ad X l0)), (1, .long l1)]) (by decide +kernel) rfl (Nat.le_of_ble_eq_true rfl) ?_
  rw [f_X10_cut] at h
  refine SF_aload_n 0 1 dX10_cut_0 rfl rfl rfl ?_
  refine SF_getI 4 fl_X10_9 dX10_cut_1 k_l0.1 rfl ?_
  refine SF_ifne 12 7 dX10_cut_4 rfl rfl (fun c1 => ?_) (fun c1 => ?_)
  · have h := ite_f c1 h
    refine SF_aload_n 0 13 dX10_cut_12 rfl rfl rfl ?_
    refine SF_getI 16 fl_X10_9 dX10_cut_13 k_l0.1 rfl ?_
    refine SF_iconst (1 : Int32) 17 dX10_cut_16 rfl rfl ?_
    refine SF_icne 25 20 dX10_cut_17 rfl rfl (fun c2 => ?_) (fun c2 => ?_)
    · have h := ite_f c2 h
      refine SF_aload_n 0 26 dX10_cut_25 rfl rfl rfl ?_
      refine SF_getI 29 fl_X10_9 dX10_cut_26 k_l0.1 rfl ?_
      refine SF_iconst (2 : Int32) 30 dX10_cut_29 rfl rfl ?_
      refine SF_icne 39 33 dX10_cut_30 rfl rfl (fun c3 => ?_) (fun c3 => ?_)
      · have h := ite_f c3 h
        refine SF_lload_n 1 40 dX10_cut_39 rfl rfl rfl ?_
        exact RT_l rfl dX10_cut_40 h
      · have h := ite_t c3 h
        refine SF_lload_n 1 34 dX10_cut_33 rfl rfl rfl ?_
        refine SF_l2i 35 dX10_cut_34 rfl ?_
        refine SF_i2l 36 dX10_cut_35 rfl ?_
        refine SF_goto 40 dX10_cut_36 rfl ?_
        exact RT_l rfl dX10_cut_40 h
    · have h := ite_t c2 h
      refine SF_lload_n 1 21 dX10_cut_20 rfl rfl rfl ?_
      refine SF_l2i 22 dX10_cut_21 rfl ?_
      refine SF_i2s 23 dX10_cut_22 rfl ?_
      refine SF_i2l 24 dX10_cut_23 rfl ?_
      exact RT_l rfl dX10_cut_24 h
  · have h := ite_t c1 h
    refine SF_lload_n 1 8 dX10_cut_7 rfl rfl rfl ?_
    refine SF_l2i 9 dX10_cut_8 rfl ?_
    refine SF_i2b 10 dX10_cut_9 rfl ?_
    refine SF_i2l 11 dX10_cut_10 rfl ?_
    exact RT_l rfl dX10_cut_11 h

