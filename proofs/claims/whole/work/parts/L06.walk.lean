theorem dX12_mayGo_0 : decode cX12_mayGo 0 = .ok (.aload_n 0, 1) := by decide +kernel
theorem dX12_mayGo_1 : decode cX12_mayGo 1 = .ok (.getfield 13, 3) := by decide +kernel
theorem dX12_mayGo_4 : decode cX12_mayGo 4 = .ok (.iconst 4, 1) := by decide +kernel
theorem dX12_mayGo_5 : decode cX12_mayGo 5 = .ok (.iaload, 1) := by decide +kernel
theorem dX12_mayGo_6 : decode cX12_mayGo 6 = .ok (.ifCond .eq 17, 3) := by decide +kernel
theorem dX12_mayGo_9 : decode cX12_mayGo 9 = .ok (.aload_n 0, 1) := by decide +kernel
theorem dX12_mayGo_10 : decode cX12_mayGo 10 = .ok (.iconst 0, 1) := by decide +kernel
theorem dX12_mayGo_11 : decode cX12_mayGo 11 = .ok (.iload_n 1, 1) := by decide +kernel
theorem dX12_mayGo_12 : decode cX12_mayGo 12 = .ok (.iload_n 2, 1) := by decide +kernel
theorem dX12_mayGo_13 : decode cX12_mayGo 13 = .ok (.iload_n 3, 1) := by decide +kernel
theorem dX12_mayGo_14 : decode cX12_mayGo 14 = .ok (.iload 4, 2) := by decide +kernel
theorem dX12_mayGo_16 : decode cX12_mayGo 16 = .ok (.invokevirtual 234, 3) := by decide +kernel
theorem dX12_mayGo_19 : decode cX12_mayGo 19 = .ok (.iconst 1, 1) := by decide +kernel
theorem dX12_mayGo_20 : decode cX12_mayGo 20 = .ok (.if_icmp .ne 7, 3) := by decide +kernel
theorem dX12_mayGo_23 : decode cX12_mayGo 23 = .ok (.iconst 1, 1) := by decide +kernel
theorem dX12_mayGo_24 : decode cX12_mayGo 24 = .ok (.goto 4, 3) := by decide +kernel
theorem dX12_mayGo_27 : decode cX12_mayGo 27 = .ok (.iconst 0, 1) := by decide +kernel
theorem dX12_mayGo_28 : decode cX12_mayGo 28 = .ok (.ireturn, 1) := by decide +kernel
set_option maxRecDepth 20000 in
set_option maxHeartbeats 2000000 in
theorem w_X12_mayGo_23 {X : CX} {d : Nat} (hd : 3 ≤ d) {g' : G} {rx : Bool} (g : G) (h : f_X12_mayGo_23 g = some (rx, g')) : SemF X m_X12_mayGo d 23 [] [] g (some (.int (b2i rx))) g' := by
  rw [f_X12_mayGo_23] at h
  refine SF_iconst (1 : Int32) 24 dX12_mayGo_23 rfl rfl ?_
  refine SF_goto 28 dX12_mayGo_24 rfl ?_
  exact RT_b rfl rfl dX12_mayGo_28 h

set_option maxRecDepth 20000 in
set_option maxHeartbeats 2000000 in
theorem w_X12_mayGo {X : CX} {d : Nat} (hd : 3 ≤ d) (l0 : Nat) (l1 : Int32) (l2 : Int32) (l3 : Int32) (l4 : Int32) (g g' : G) (rx : Bool) (k_l0 : KD g l0 12) (h : f_X12_mayGo l0 l1 l2 l3 l4 g = some (rx, g')) : Sem X m_X12_mayGo d [.ref (ad X l0), .int l1, .int l2, .int l3, .int l4] g (some (.int (b2i rx))) g' := by
  refine Sem_of (lo := [(0, .ref (ad X l0)), (1, .int l1), (2, .int l2), (3, .int l3), (4, .int l4)]) (by decide +kernel) rfl (Nat.le_of_ble_eq_true rfl) ?_
  rw [f_X12_mayGo] at h
  refine SF_aload_n 0 1 dX12_mayGo_0 rfl rfl rfl ?_
  obtain ⟨b1, r2, h⟩ := dr_some h
  refine SF_getR 4 fl_X12_13 dX12_mayGo_1 k_l0.1 r2 rfl ?_
  refine SF_iconst (4 : Int32) 5 dX12_mayGo_4 rfl rfl ?_
  obtain ⟨k3, h⟩ := gdK_some h
  obtain ⟨i4, h⟩ := gdI_some h
  refine SF_iald 6 dX12_mayGo_5 k3.1 i4 rfl ?_
  refine SF_ifeq 23 9 dX12_mayGo_6 rfl rfl (fun c5 => ?_) (fun c5 => ?_)
  · have h := ite_t c5 h
    refine SF_sub [] rfl ?_
    exact w_X12_mayGo_23 hd g  h
  · have h := ite_f c5 h
    refine SF_aload_n 0 10 dX12_mayGo_9 rfl rfl rfl ?_
    refine SF_iconst (0 : Int32) 11 dX12_mayGo_10 rfl rfl ?_
    refine SF_iload_n 1 12 dX12_mayGo_11 rfl rfl rfl ?_
    refine SF_iload_n 2 13 dX12_mayGo_12 rfl rfl rfl ?_
    refine SF_iload_n 3 14 dX12_mayGo_13 rfl rfl rfl ?_
    refine SF_iload 4 16 dX12_mayGo_14 rfl rfl ?_
    obtain ⟨v6, g7, q8, h⟩ := bd_some h
    have s9 := w_X12_reckons (X := X) (Nat.le_refl 2) l0 (0 : Int32) l1 l2 l3 l4 g g7 v6 k_l0 q8
    refine SF_callVi 19 mi_X12_reckons ml_X12_234 dX12_mayGo_16 (Nat.le_trans (by decide) hd) s9 k_l0.1 rfl rfl (Nat.le_of_ble_eq_true rfl) rfl ?_
    have k_l0 := k_l0.ext s9.1
    have k3 := k3.ext s9.1
    refine SF_iconst (1 : Int32) 20 dX12_mayGo_19 rfl rfl ?_
    refine SF_icne 27 23 dX12_mayGo_20 rfl rfl (fun c10 => ?_) (fun c10 => ?_)
    · have h := ite_f c10 h
      refine SF_iconst (0 : Int32) 28 dX12_mayGo_27 rfl rfl ?_
      exact RT_b rfl rfl dX12_mayGo_28 h
    · have h := ite_t c10 h
      refine SF_sub [] rfl ?_
      exact w_X12_mayGo_23 hd g7  h

theorem dX12_whyBy_0 : decode cX12_whyBy 0 = .ok (.aload_n 0, 1) := by decide +kernel
theorem dX12_whyBy_1 : decode cX12_whyBy 1 = .ok (.aload_n 0, 1) := by decide +kernel
theorem dX12_whyBy_2 : decode cX12_whyBy 2 = .ok (.iload_n 3, 1) := by decide +kernel
theorem dX12_whyBy_3 : decode cX12_whyBy 3 = .ok (.iload 5, 2) := by decide +kernel
theorem dX12_whyBy_5 : decode cX12_whyBy 5 = .ok (.invokevirtual 238, 3) := by decide +kernel
theorem dX12_whyBy_8 : decode cX12_whyBy 8 = .ok (.putfield 241, 3) := by decide +kernel
theorem dX12_whyBy_11 : decode cX12_whyBy 11 = .ok (.aload_n 0, 1) := by decide +kernel
theorem dX12_whyBy_12 : decode cX12_whyBy 12 = .ok (.getfield 241, 3) := by decide +kernel
theorem dX12_whyBy_15 : decode cX12_whyBy 15 = .ok (.iconst (-1), 1) := by decide +kernel
theorem dX12_whyBy_16 : decode cX12_whyBy 16 = .ok (.if_icmp .eq 15, 3) := by decide +kernel
theorem dX12_whyBy_19 : decode cX12_whyBy 19 = .ok (.aload_n 0, 1) := by decide +kernel
theorem dX12_whyBy_20 : decode cX12_whyBy 20 = .ok (.iload_n 1, 1) := by decide +kernel
theorem dX12_whyBy_21 : decode cX12_whyBy 21 = .ok (.aload_n 0, 1) := by decide +kernel
theorem dX12_whyBy_22 : decode cX12_whyBy 22 = .ok (.getfield 241, 3) := by decide +kernel
theorem dX12_whyBy_25 : decode cX12_whyBy 25 = .ok (.invokevirtual 244, 3) := by decide +kernel
theorem dX12_whyBy_28 : decode cX12_whyBy 28 = .ok (.ifCond .ne 5, 3) := by decide +kernel
theorem dX12_whyBy_31 : decode cX12_whyBy 31 = .ok (.iconst 2, 1) := by decide +kernel
theorem dX12_whyBy_32 : decode cX12_whyBy 32 = .ok (.ireturn, 1) := by decide +kernel
theorem dX12_whyBy_33 : decode cX12_whyBy 33 = .ok (.aload_n 0, 1) := by decide +kernel
theorem dX12_whyBy_34 : decode cX12_whyBy 34 = .ok (.iload_n 1, 1) := by decide +kernel
theorem dX12_whyBy_35 : decode cX12_whyBy 35 = .ok (.iload_n 2, 1) := by decide +kernel
theorem dX12_whyBy_36 : decode cX12_whyBy 36 = .ok (.iload_n 3, 1) := by decide +kernel
theorem dX12_whyBy_37 : decode cX12_whyBy 37 = .ok (.aload_n 0, 1) := by decide +kernel
theorem dX12_whyBy_38 : decode cX12_whyBy 38 = .ok (.getfield 241, 3) := by decide +kernel
theorem dX12_whyBy_41 : decode cX12_whyBy 41 = .ok (.invokevirtual 248, 3) := by decide +kernel
theorem dX12_whyBy_44 : decode cX12_whyBy 44 = .ok (.ifCond .ne 5, 3) := by decide +kernel
theorem dX12_whyBy_47 : decode cX12_whyBy 47 = .ok (.iconst 3, 1) := by decide +kernel
theorem dX12_whyBy_48 : decode cX12_whyBy 48 = .ok (.ireturn, 1) := by decide +kernel
theorem dX12_whyBy_49 : decode cX12_whyBy 49 = .ok (.aload_n 0, 1) := by decide +kernel
theorem dX12_whyBy_50 : decode cX12_whyBy 50 = .ok (.iload 4, 2) := by decide +kernel
theorem dX12_whyBy_52 : decode cX12_whyBy 52 = .ok (.putfield 252, 3) := by decide +kernel
theorem dX12_whyBy_55 : decode cX12_whyBy 55 = .ok (.aload_n 0, 1) := by decide +kernel
theorem dX12_whyBy_56 : decode cX12_whyBy 56 = .ok (.iload_n 1, 1) := by decide +kernel
theorem dX12_whyBy_57 : decode cX12_whyBy 57 = .ok (.iload 4, 2) := by decide +kernel
theorem dX12_whyBy_59 : decode cX12_whyBy 59 = .ok (.invokevirtual 244, 3) := by decide +kernel
theorem dX12_whyBy_62 : decode cX12_whyBy 62 = .ok (.ifCond .eq 27, 3) := by decide +kernel
theorem dX12_whyBy_65 : decode cX12_whyBy 65 = .ok (.aload_n 0, 1) := by decide +kernel
theorem dX12_whyBy_66 : decode cX12_whyBy 66 = .ok (.aload_n 0, 1) := by decide +kernel
theorem dX12_whyBy_67 : decode cX12_whyBy 67 = .ok (.getfield 241, 3) := by decide +kernel
theorem dX12_whyBy_70 : decode cX12_whyBy 70 = .ok (.iload 4, 2) := by decide +kernel
theorem dX12_whyBy_72 : decode cX12_whyBy 72 = .ok (.invokevirtual 208, 3) := by decide +kernel
theorem dX12_whyBy_75 : decode cX12_whyBy 75 = .ok (.aload_n 0, 1) := by decide +kernel
theorem dX12_whyBy_76 : decode cX12_whyBy 76 = .ok (.getfield 13, 3) := by decide +kernel
theorem dX12_whyBy_79 : decode cX12_whyBy 79 = .ok (.bipush 94, 2) := by decide +kernel
theorem dX12_whyBy_81 : decode cX12_whyBy 81 = .ok (.iload_n 1, 1) := by decide +kernel
theorem dX12_whyBy_82 : decode cX12_whyBy 82 = .ok (.iadd, 1) := by decide +kernel
theorem dX12_whyBy_83 : decode cX12_whyBy 83 = .ok (.iaload, 1) := by decide +kernel
theorem dX12_whyBy_84 : decode cX12_whyBy 84 = .ok (.if_icmp .ne 5, 3) := by decide +kernel
theorem dX12_whyBy_87 : decode cX12_whyBy 87 = .ok (.iconst 0, 1) := by decide +kernel
theorem dX12_whyBy_88 : decode cX12_whyBy 88 = .ok (.ireturn, 1) := by decide +kernel
theorem dX12_whyBy_89 : decode cX12_whyBy 89 = .ok (.aload_n 0, 1) := by decide +kernel
theorem dX12_whyBy_90 : decode cX12_whyBy 90 = .ok (.iconst (-1), 1) := by decide +kernel
theorem dX12_whyBy_91 : decode cX12_whyBy 91 = .ok (.putfield 252, 3) := by decide +kernel
theorem dX12_whyBy_94 : decode cX12_whyBy 94 = .ok (.iconst 0, 1) := by decide +kernel
theorem dX12_whyBy_95 : decode cX12_whyBy 95 = .ok (.istore 6, 2) := by decide +kernel
theorem dX12_whyBy_97 : decode cX12_whyBy 97 = .ok (.iload 6, 2) := by decide +kernel
theorem dX12_whyBy_99 : decode cX12_whyBy 99 = .ok (.aload_n 0, 1) := by decide +kernel
theorem dX12_whyBy_100 : decode cX12_whyBy 100 = .ok (.invokevirtual 214, 3) := by decide +kernel
theorem dX12_whyBy_103 : decode cX12_whyBy 103 = .ok (.if_icmp .ge 94, 3) := by decide +kernel
theorem dX12_whyBy_106 : decode cX12_whyBy 106 = .ok (.aload_n 0, 1) := by decide +kernel
theorem dX12_whyBy_107 : decode cX12_whyBy 107 = .ok (.aload_n 0, 1) := by decide +kernel
theorem dX12_whyBy_108 : decode cX12_whyBy 108 = .ok (.getfield 241, 3) := by decide +kernel
theorem dX12_whyBy_111 : decode cX12_whyBy 111 = .ok (.iload 6, 2) := by decide +kernel
theorem dX12_whyBy_113 : decode cX12_whyBy 113 = .ok (.invokevirtual 208, 3) := by decide +kernel
theorem dX12_whyBy_116 : decode cX12_whyBy 116 = .ok (.aload_n 0, 1) := by decide +kernel
theorem dX12_whyBy_117 : decode cX12_whyBy 117 = .ok (.getfield 13, 3) := by decide +kernel
theorem dX12_whyBy_120 : decode cX12_whyBy 120 = .ok (.bipush 94, 2) := by decide +kernel
theorem dX12_whyBy_122 : decode cX12_whyBy 122 = .ok (.iload_n 1, 1) := by decide +kernel
theorem dX12_whyBy_123 : decode cX12_whyBy 123 = .ok (.iadd, 1) := by decide +kernel
theorem dX12_whyBy_124 : decode cX12_whyBy 124 = .ok (.iaload, 1) := by decide +kernel
theorem dX12_whyBy_125 : decode cX12_whyBy 125 = .ok (.if_icmp .ne 66, 3) := by decide +kernel
theorem dX12_whyBy_128 : decode cX12_whyBy 128 = .ok (.aload_n 0, 1) := by decide +kernel
theorem dX12_whyBy_129 : decode cX12_whyBy 129 = .ok (.iload_n 1, 1) := by decide +kernel
theorem dX12_whyBy_130 : decode cX12_whyBy 130 = .ok (.iload 6, 2) := by decide +kernel
theorem dX12_whyBy_132 : decode cX12_whyBy 132 = .ok (.invokevirtual 244, 3) := by decide +kernel
theorem dX12_whyBy_135 : decode cX12_whyBy 135 = .ok (.ifCond .eq 56, 3) := by decide +kernel
theorem dX12_whyBy_138 : decode cX12_whyBy 138 = .ok (.aload_n 0, 1) := by decide +kernel
theorem dX12_whyBy_139 : decode cX12_whyBy 139 = .ok (.iload_n 1, 1) := by decide +kernel
theorem dX12_whyBy_140 : decode cX12_whyBy 140 = .ok (.iconst 1, 1) := by decide +kernel
theorem dX12_whyBy_141 : decode cX12_whyBy 141 = .ok (.iload_n 2, 1) := by decide +kernel
theorem dX12_whyBy_142 : decode cX12_whyBy 142 = .ok (.isub, 1) := by decide +kernel
theorem dX12_whyBy_143 : decode cX12_whyBy 143 = .ok (.iload 4, 2) := by decide +kernel
theorem dX12_whyBy_145 : decode cX12_whyBy 145 = .ok (.iload 6, 2) := by decide +kernel
theorem dX12_whyBy_147 : decode cX12_whyBy 147 = .ok (.invokevirtual 248, 3) := by decide +kernel
theorem dX12_whyBy_150 : decode cX12_whyBy 150 = .ok (.ifCond .ne 6, 3) := by decide +kernel
theorem dX12_whyBy_153 : decode cX12_whyBy 153 = .ok (.goto 38, 3) := by decide +kernel
theorem dX12_whyBy_156 : decode cX12_whyBy 156 = .ok (.aload_n 0, 1) := by decide +kernel
theorem dX12_whyBy_157 : decode cX12_whyBy 157 = .ok (.getfield 252, 3) := by decide +kernel
theorem dX12_whyBy_160 : decode cX12_whyBy 160 = .ok (.iconst (-1), 1) := by decide +kernel
theorem dX12_whyBy_161 : decode cX12_whyBy 161 = .ok (.if_icmp .eq 24, 3) := by decide +kernel
theorem dX12_whyBy_164 : decode cX12_whyBy 164 = .ok (.aload_n 0, 1) := by decide +kernel
theorem dX12_whyBy_165 : decode cX12_whyBy 165 = .ok (.iload 4, 2) := by decide +kernel
theorem dX12_whyBy_167 : decode cX12_whyBy 167 = .ok (.iload 6, 2) := by decide +kernel
theorem dX12_whyBy_169 : decode cX12_whyBy 169 = .ok (.invokevirtual 208, 3) := by decide +kernel
theorem dX12_whyBy_172 : decode cX12_whyBy 172 = .ok (.aload_n 0, 1) := by decide +kernel
theorem dX12_whyBy_173 : decode cX12_whyBy 173 = .ok (.iload 4, 2) := by decide +kernel
theorem dX12_whyBy_175 : decode cX12_whyBy 175 = .ok (.aload_n 0, 1) := by decide +kernel
theorem dX12_whyBy_176 : decode cX12_whyBy 176 = .ok (.getfield 252, 3) := by decide +kernel
theorem dX12_whyBy_179 : decode cX12_whyBy 179 = .ok (.invokevirtual 208, 3) := by decide +kernel
theorem dX12_whyBy_182 : decode cX12_whyBy 182 = .ok (.if_icmp .ge 9, 3) := by decide +kernel
theorem dX12_whyBy_185 : decode cX12_whyBy 185 = .ok (.aload_n 0, 1) := by decide +kernel
theorem dX12_whyBy_186 : decode cX12_whyBy 186 = .ok (.iload 6, 2) := by decide +kernel
theorem dX12_whyBy_188 : decode cX12_whyBy 188 = .ok (.putfield 252, 3) := by decide +kernel
theorem dX12_whyBy_191 : decode cX12_whyBy 191 = .ok (.iinc 6 1, 3) := by decide +kernel
theorem dX12_whyBy_194 : decode cX12_whyBy 194 = .ok (.goto (-97), 3) := by decide +kernel
theorem dX12_whyBy_197 : decode cX12_whyBy 197 = .ok (.aload_n 0, 1) := by decide +kernel
theorem dX12_whyBy_198 : decode cX12_whyBy 198 = .ok (.getfield 252, 3) := by decide +kernel
theorem dX12_whyBy_201 : decode cX12_whyBy 201 = .ok (.iconst (-1), 1) := by decide +kernel
theorem dX12_whyBy_202 : decode cX12_whyBy 202 = .ok (.if_icmp .ne 7, 3) := by decide +kernel
theorem dX12_whyBy_205 : decode cX12_whyBy 205 = .ok (.iconst 4, 1) := by decide +kernel
theorem dX12_whyBy_206 : decode cX12_whyBy 206 = .ok (.goto 4, 3) := by decide +kernel
theorem dX12_whyBy_209 : decode cX12_whyBy 209 = .ok (.iconst 0, 1) := by decide +kernel
theorem dX12_whyBy_210 : decode cX12_whyBy 210 = .ok (.ireturn, 1) := by decide +kernel
set_option maxRecDepth 20000 in
set_option maxHeartbeats 2000000 in
theorem w_X12_whyBy_191 {X : CX} {d : Nat} (hd : 4 ≤ d) {g' : G} {rx : Int32} (k97 : Nat → Int32 → Int32 → Int32 → Int32 → G → Option (Int32 × G)) (hk97 : ∀ (l0 : Nat) (l1 : Int32) (l2 : Int32) (l4 : Int32) (l6 : Int32) (g : G), KD g l0 12 → k97 l0 l1 l2 l4 l6 g = some (rx, g') → SemF X m_X12_whyBy d 97 [(0, .ref (ad X l0)), (1, .int l1), (2, .int l2), (4, .int l4), (6, .int l6)] [] g (some (.int rx)) g') (l0 : Nat) (l1 : Int32) (l2 : Int32) (l4 : Int32) (l6 : Int32) (g : G) (k_l0 : KD g l0 12) (h : f_X12_whyBy_191 k97 l0 l1 l2 l4 l6 g = some (rx, g')) : SemF X m_X12_whyBy d 191 [(0, .ref (ad X l0)), (1, .int l1), (2, .int l2), (4, .int l4), (6, .int l6)] [] g (some (.int rx)) g' := by
  rw [f_X12_whyBy_191] at h
  refine SF_iinc 4 (l6 + (1 : Int32)) [(6, .int (l6 + (1 : Int32))), (0, .ref (ad X l0)), (1, .int l1), (2, .int l2), (4, .int l4)] 194 dX12_whyBy_191 rfl rfl (by decide) rfl rfl ?_
  refine SF_goto 97 dX12_whyBy_194 rfl ?_
  refine SF_sub [1, 2, 3, 4, 0] rfl ?_
  exact hk97 l0 l1 l2 l4 (l6 + (1 : Int32)) g k_l0 h

set_option maxRecDepth 20000 in
set_option maxHeartbeats 2000000 in
theorem w_X12_whyBy_185 {X : CX} {d : Nat} (hd : 4 ≤ d) {g' : G} {rx : Int32} (k97 : Nat → Int32 → Int32 → Int32 → Int32 → G → Option (Int32 × G)) (hk97 : ∀ (l0 : Nat) (l1 : Int32) (l2 : Int32) (l4 : Int32) (l6 : Int32) (g : G), KD g l0 12 → k97 l0 l1 l2 l4 l6 g = some (rx, g') → SemF X m_X12_whyBy d 97 [(0, .ref (ad X l0)), (1, .int l1), (2, .int l2), (4, .int l4), (6, .int l6)] [] g (some (.int rx)) g') (l0 : Nat) (l1 : Int32) (l2 : Int32) (l4 : Int32) (l6 : Int32) (g : G) (k_l0 : KD g l0 12) (h : f_X12_whyBy_185 k97 l0 l1 l2 l4 l6 g = some (rx, g')) : SemF X m_X12_whyBy d 185 [(0, .ref (ad X l0)), (1, .int l1), (2, .int l2), (4, .int l4), (6, .int l6)] [] g (some (.int rx)) g' := by
  rw [f_X12_whyBy_185] at h
  refine SF_aload_n 0 186 dX12_whyBy_185 rfl rfl rfl ?_
  refine SF_iload 4 188 dX12_whyBy_186 rfl rfl ?_
  refine SF_putI 191 fl_X12_252 dX12_whyBy_188 k_l0.1 (fn_int _) (Or.inl rfl) rfl ?_
  obtain ⟨g1, e2, h⟩ := lg_some h
  rw [← e2]
  have k_l0 := KD.eq e2 k_l0
  exact w_X12_whyBy_191 hd k97 hk97 l0 l1 l2 l4 l6 g1 k_l0 h

set_option maxRecDepth 20000 in
set_option maxHeartbeats 2000000 in
theorem w_X12_whyBy_97 {X : CX} {d : Nat} (hd : 4 ≤ d) {g' : G} {rx : Int32} : ∀ (n : Nat) (l0 : Nat) (l1 : Int32) (l2 : Int32) (l4 : Int32) (l6 : Int32) (g : G), KD g l0 12 → f_X12_whyBy_97 n l0 l1 l2 l4 l6 g = some (rx, g') → SemF X m_X12_whyBy d 97 [(0, .ref (ad X l0)), (1, .int l1), (2, .int l2), (4, .int l4), (6, .int l6)] [] g (some (.int rx)) g' := by
  intro n
  induction n with
  | zero =>
    intro l0 l1 l2 l4 l6 g k_l0 h
    rw [f_X12_whyBy_97] at h
    cases h
  | succ n ih =>
  intro l0 l1 l2 l4 l6 g k_l0 h
  rw [f_X12_whyBy_97] at h
  refine SF_iload 4 99 dX12_whyBy_97 rfl rfl ?_
  refine SF_aload_n 0 100 dX12_whyBy_99 rfl rfl rfl ?_
  obtain ⟨v1, g2, q3, h⟩ := bd_some h
  have s4 := w_X12_cells (X := X) (Nat.le_refl 0) l0 g g2 v1 k_l0 q3
  refine SF_callVi 103 mi_X12_cells ml_X12_214 dX12_whyBy_100 (Nat.le_trans (by decide) hd) s4 k_l0.1 rfl rfl (Nat.le_of_ble_eq_true rfl) rfl ?_
  have k_l0 := k_l0.ext s4.1
  refine SF_icge 197 106 dX12_whyBy_103 rfl rfl (fun c5 => ?_) (fun c5 => ?_)
  · have h := ite_t c5 h
    refine SF_aload_n 0 198 dX12_whyBy_197 rfl rfl rfl ?_
    refine SF_getI 201 fl_X12_252 dX12_whyBy_198 k_l0.1 rfl ?_
    refine SF_iconst (-1 : Int32) 202 dX12_whyBy_201 rfl rfl ?_
    refine SF_icne 209 205 dX12_whyBy_202 rfl rfl (fun c6 => ?_) (fun c6 => ?_)
    · have h := ite_f c6 h
      refine SF_iconst (0 : Int32) 210 dX12_whyBy_209 rfl rfl ?_
      exact RT_i rfl dX12_whyBy_210 h
    · have h := ite_t c6 h
      refine SF_iconst (4 : Int32) 206 dX12_whyBy_205 rfl rfl ?_
      refine SF_goto 210 dX12_whyBy_206 rfl ?_
      exact RT_i rfl dX12_whyBy_210 h
  · have h := ite_f c5 h
    refine SF_aload_n 0 107 dX12_whyBy_106 rfl rfl rfl ?_
    refine SF_aload_n 0 108 dX12_whyBy_107 rfl rfl rfl ?_
    refine SF_getI 111 fl_X12_241 dX12_whyBy_108 k_l0.1 rfl ?_
    refine SF_iload 4 113 dX12_whyBy_111 rfl rfl ?_
    obtain ⟨v7, g8, q9, h⟩ := bd_some h
    have s10 := w_X12_apart (X := X) (Nat.le_refl 1) l0 (gI g2 l0 17) l6 g2 g8 v7 k_l0 q9
    refine SF_callVi 116 mi_X12_apart ml_X12_208 dX12_whyBy_113 (Nat.le_trans (by decide) hd) s10 k_l0.1 rfl rfl (Nat.le_of_ble_eq_true rfl) rfl ?_
    have k_l0 := k_l0.ext s10.1
    refine SF_aload_n 0 117 dX12_whyBy_116 rfl rfl rfl ?_
    obtain ⟨b11, r12, h⟩ := dr_some h
    refine SF_getR 120 fl_X12_13 dX12_whyBy_117 k_l0.1 r12 rfl ?_
    refine SF_bipush (94 : Int32) 122 dX12_whyBy_120 rfl rfl ?_
    refine SF_iload_n 1 123 dX12_whyBy_122 rfl rfl rfl ?_
    refine SF_iadd 124 dX12_whyBy_123 rfl ?_
    obtain ⟨k13, h⟩ := gdK_some h
    obtain ⟨i14, h⟩ := gdI_some h
    refine SF_iald 125 dX12_whyBy_124 k13.1 i14 rfl ?_
    refine SF_icne 191 128 dX12_whyBy_125 rfl rfl (fun c15 => ?_) (fun c15 => ?_)
    · have h := ite_f c15 h
      exact w_X12_whyBy_191 hd (f_X12_whyBy_97 n) ih l0 l1 l2 l4 l6 g8 k_l0 h
    · have h := ite_t c15 h
      refine SF_aload_n 0 129 dX12_whyBy_128 rfl rfl rfl ?_
      refine SF_iload_n 1 130 dX12_whyBy_129 rfl rfl rfl ?_
      refine SF_iload 4 132 dX12_whyBy_130 rfl rfl ?_
      obtain ⟨v16, g17, q18, h⟩ := bd_some h
      have s19 := w_X12_isFree (X := X) (Nat.le_refl 1) l0 l1 l6 g8 g17 v16 k_l0 q18
      refine SF_callVb 135 mi_X12_isFree ml_X12_244 dX12_whyBy_132 (Nat.le_trans (by decide) hd) s19 k_l0.1 rfl rfl (Nat.le_of_ble_eq_true rfl) rfl ?_
      have k_l0 := k_l0.ext s19.1
      have k13 := k13.ext s19.1
      refine SF_ifeq 191 138 dX12_whyBy_135 rfl rfl (fun c20 => ?_) (fun c20 => ?_)
      · have h := ite_t c20 h
        exact w_X12_whyBy_191 hd (f_X12_whyBy_97 n) ih l0 l1 l2 l4 l6 g17 k_l0 h
      · have h := ite_f c20 h
        refine SF_aload_n 0 139 dX12_whyBy_138 rfl rfl rfl ?_
        refine SF_iload_n 1 140 dX12_whyBy_139 rfl rfl rfl ?_
        refine SF_iconst (1 : Int32) 141 dX12_whyBy_140 rfl rfl ?_
        refine SF_iload_n 2 142 dX12_whyBy_141 rfl rfl rfl ?_
        refine SF_isub 143 dX12_whyBy_142 rfl ?_
        refine SF_iload 3 145 dX12_whyBy_143 rfl rfl ?_
        refine SF_iload 4 147 dX12_whyBy_145 rfl rfl ?_
        obtain ⟨v21, g22, q23, h⟩ := bd_some h
        have s24 := w_X12_mayGo (X := X) (Nat.le_refl 3) l0 l1 ((1 : Int32) - l2) l4 l6 g17 g22 v21 k_l0 q23
        refine SF_callVb 150 mi_X12_mayGo ml_X12_248 dX12_whyBy_147 (Nat.le_trans (by decide) hd) s24 k_l0.1 rfl rfl (Nat.le_of_ble_eq_true rfl) rfl ?_
        have k_l0 := k_l0.ext s24.1
        have k13 := k13.ext s24.1
        refine SF_ifne 156 153 dX12_whyBy_150 rfl rfl (fun c25 => ?_) (fun c25 => ?_)
        · have h := ite_f c25 h
          refine SF_aload_n 0 157 dX12_whyBy_156 rfl rfl rfl ?_
          refine SF_getI 160 fl_X12_252 dX12_whyBy_157 k_l0.1 rfl ?_
          refine SF_iconst (-1 : Int32) 161 dX12_whyBy_160 rfl rfl ?_
          refine SF_iceq 185 164 dX12_whyBy_161 rfl rfl (fun c26 => ?_) (fun c26 => ?_)
          · have h := ite_t c26 h
            exact w_X12_whyBy_185 hd (f_X12_whyBy_97 n) ih l0 l1 l2 l4 l6 g22 k_l0 h
          · have h := ite_f c26 h
            refine SF_aload_n 0 165 dX12_whyBy_164 rfl rfl rfl ?_
            refine SF_iload 3 167 dX12_whyBy_165 rfl rfl ?_
            refine SF_iload 4 169 dX12_whyBy_167 rfl rfl ?_
            obtain ⟨v27, g28, q29, h⟩ := bd_some h
            have s30 := w_X12_apart (X := X) (Nat.le_refl 1) l0 l4 l6 g22 g28 v27 k_l0 q29
            refine SF_callVi 172 mi_X12_apart ml_X12_208 dX12_whyBy_169 (Nat.le_trans (by decide) hd) s30 k_l0.1 rfl rfl (Nat.le_of_ble_eq_true rfl) rfl ?_
            have k_l0 := k_l0.ext s30.1
            have k13 := k13.ext s30.1
            refine SF_aload_n 0 173 dX12_whyBy_172 rfl rfl rfl ?_
            refine SF_iload 3 175 dX12_whyBy_173 rfl rfl ?_
            refine SF_aload_n 0 176 dX12_whyBy_175 rfl rfl rfl ?_
            refine SF_getI 179 fl_X12_252 dX12_whyBy_176 k_l0.1 rfl ?_
            obtain ⟨v31, g32, q33, h⟩ := bd_some h
            have s34 := w_X12_apart (X := X) (Nat.le_refl 1) l0 l4 (gI g28 l0 18) g28 g32 v31 k_l0 q33
            refine SF_callVi 182 mi_X12_apart ml_X12_208 dX12_whyBy_179 (Nat.le_trans (by decide) hd) s34 k_l0.1 rfl rfl (Nat.le_of_ble_eq_true rfl) rfl ?_
            have k_l0 := k_l0.ext s34.1
            have k13 := k13.ext s34.1
            refine SF_icge 191 185 dX12_whyBy_182 rfl rfl (fun c35 => ?_) (fun c35 => ?_)
            · have h := ite_t c35 h
              exact w_X12_whyBy_191 hd (f_X12_whyBy_97 n) ih l0 l1 l2 l4 l6 g32 k_l0 h
            · have h := ite_f c35 h
              exact w_X12_whyBy_185 hd (f_X12_whyBy_97 n) ih l0 l1 l2 l4 l6 g32 k_l0 h
        · have h := ite_t c25 h
          refine SF_goto 191 dX12_whyBy_153 rfl ?_
          exact w_X12_whyBy_191 hd (f_X12_whyBy_97 n) ih l0 l1 l2 l4 l6 g22 k_l0 h

set_option maxRecDepth 20000 in
set_option maxHeartbeats 2000000 in
theorem w_X12_whyBy_89 {X : CX} {d : Nat} (hd : 4 ≤ d) {g' : G} {rx : Int32} (l0 : Nat) (l1 : Int32) (l2 : Int32) (l4 : Int32) (g : G) (k_l0 : KD g l0 12) (h : f_X12_whyBy_89 l0 l1 l2 l4 g = some (rx, g')) : SemF X m_X12_whyBy d 89 [(0, .ref (ad X l0)), (1, .int l1), (2, .int l2), (4, .int l4)] [] g (some (.int rx)) g' := by
  rw [f_X12_whyBy_89] at h
  refine SF_aload_n 0 90 dX12_whyBy_89 rfl rfl rfl ?_
  refine SF_iconst (-1 : Int32) 91 dX12_whyBy_90 rfl rfl ?_
  refine SF_putI 94 fl_X12_252 dX12_whyBy_91 k_l0.1 (fn_int _) (Or.inl rfl) rfl ?_
  obtain ⟨g1, e2, h⟩ := lg_some h
  rw [← e2]
  have k_l0 := KD.eq e2 k_l0
  refine SF_iconst (0 : Int32) 95 dX12_whyBy_94 rfl rfl ?_
  refine SF_istore [(6, .int (0 : Int32)), (0, .ref (ad X l0)), (1, .int l1), (2, .int l2), (4, .int l4)] 97 dX12_whyBy_95 (by decide) rfl rfl ?_
  refine SF_sub [1, 2, 3, 4, 0] rfl ?_
  exact w_X12_whyBy_97 hd FU l0 l1 l2 l4 (0 : Int32) g1 k_l0 h

set_option maxRecDepth 20000 in
set_option maxHeartbeats 2000000 in
theorem w_X12_whyBy {X : CX} {d : Nat} (hd : 4 ≤ d) (l0 : Nat) (l1 : Int32) (l2 : Int32) (l3 : Int32) (l4 : Int32) (l5 : Int32) (g g' : G) (rx : Int32) (k_l0 : KD g l0 12) (h : f_X12_whyBy l0 l1 l2 l3 l4 l5 g = some (rx, g')) : Sem X m_X12_whyBy d [.ref (ad X l0), .int l1, .int l2, .int l3, .int l4, .int l5] g (some (.int rx)) g' := by
  refine Sem_of (lo := [(0, .ref (ad X l0)), (1, .int l1), (2, .int l2), (3, .int l3), (4, .int l4), (5, .int l5)]) (by decide +kernel) rfl (Nat.le_of_ble_eq_true rfl) ?_
  rw [f_X12_whyBy] at h
  refine SF_aload_n 0 1 dX12_whyBy_0 rfl rfl rfl ?_
  refine SF_aload_n 0 2 dX12_whyBy_1 rfl rfl rfl ?_
  refine SF_iload_n 3 3 dX12_whyBy_2 rfl rfl rfl ?_
  refine SF_iload 5 5 dX12_whyBy_3 rfl rfl ?_
  obtain ⟨v1, g2, q3, h⟩ := bd_some h
  have s4 := w_X12_beside (X := X) (Nat.le_refl 1) l0 l3 l5 g g2 v1 k_l0 q3
  refine SF_callVi 8 mi_X12_beside ml_X12_238 dX12_whyBy_5 (Nat.le_trans (by decide) hd) s4 k_l0.1 rfl rfl (Nat.le_of_ble_eq_true rfl) rfl ?_
  have k_l0 := k_l0.ext s4.1
  refine SF_putI 11 fl_X12_241 dX12_whyBy_8 k_l0.1 (fn_int _) (Or.inl rfl) rfl ?_
  obtain ⟨g5, e6, h⟩ := lg_some h
  rw [← e6]
  have k_l0 := KD.eq e6 k_l0
  refine SF_aload_n 0 12 dX12_whyBy_11 rfl rfl rfl ?_
  refine SF_getI 15 fl_X12_241 dX12_whyBy_12 k_l0.1 rfl ?_
  refine SF_iconst (-1 : Int32) 16 dX12_whyBy_15 rfl rfl ?_
  refine SF_iceq 31 19 dX12_whyBy_16 rfl rfl (fun c7 => ?_) (fun c7 => ?_)
  · have h := ite_t c7 h
    refine SF_iconst (2 : Int32) 32 dX12_whyBy_31 rfl rfl ?_
    exact RT_i rfl dX12_whyBy_32 h
  · have h := ite_f c7 h
    refine SF_aload_n 0 20 dX12_whyBy_19 rfl rfl rfl ?_
    refine SF_iload_n 1 21 dX12_whyBy_20 rfl rfl rfl ?_
    refine SF_aload_n 0 22 dX12_whyBy_21 rfl rfl rfl ?_
    refine SF_getI 25 fl_X12_241 dX12_whyBy_22 k_l0.1 rfl ?_
    obtain ⟨v8, g9, q10, h⟩ := bd_some h
    have s11 := w_X12_isFree (X := X) (Nat.le_refl 1) l0 l1 (gI g5 l0 17) g5 g9 v8 k_l0 q10
    refine SF_callVb 28 mi_X12_isFree ml_X12_244 dX12_whyBy_25 (Nat.le_trans (by decide) hd) s11 k_l0.1 rfl rfl (Nat.le_of_ble_eq_true rfl) rfl ?_
    have k_l0 := k_l0.ext s11.1
    refine SF_ifne 33 31 dX12_whyBy_28 rfl rfl (fun c12 => ?_) (fun c12 => ?_)
    · have h := ite_f c12 h
      refine SF_aload_n 0 34 dX12_whyBy_33 rfl rfl rfl ?_
      refine SF_iload_n 1 35 dX12_whyBy_34 rfl rfl rfl ?_
      refine SF_iload_n 2 36 dX12_whyBy_35 rfl rfl rfl ?_
      refine SF_iload_n 3 37 dX12_whyBy_36 rfl rfl rfl ?_
      refine SF_aload_n 0 38 dX12_whyBy_37 rfl rfl rfl ?_
      refine SF_getI 41 fl_X12_241 dX12_whyBy_38 k_l0.1 rfl ?_
      obtain ⟨v13, g14, q15, h⟩ := bd_some h
      have s16 := w_X12_mayGo (X := X) (Nat.le_refl 3) l0 l1 l2 l3 (gI g9 l0 17) g9 g14 v13 k_l0 q15
      refine SF_callVb 44 mi_X12_mayGo ml_X12_248 dX12_whyBy_41 (Nat.le_trans (by decide) hd) s16 k_l0.1 rfl rfl (Nat.le_of_ble_eq_true rfl) rfl ?_
      have k_l0 := k_l0.ext s16.1
      refine SF_ifne 49 47 dX12_whyBy_44 rfl rfl (fun c17 => ?_) (fun c17 => ?_)
      · have h := ite_f c17 h
        refine SF_aload_n 0 50 dX12_whyBy_49 rfl rfl rfl ?_
        refine SF_iload 4 52 dX12_whyBy_50 rfl rfl ?_
        refine SF_putI 55 fl_X12_252 dX12_whyBy_52 k_l0.1 (fn_int _) (Or.inl rfl) rfl ?_
        obtain ⟨g18, e19, h⟩ := lg_some h
        rw [← e19]
        have k_l0 := KD.eq e19 k_l0
        refine SF_aload_n 0 56 dX12_whyBy_55 rfl rfl rfl ?_
        refine SF_iload_n 1 57 dX12_whyBy_56 rfl rfl rfl ?_
        refine SF_iload 4 59 dX12_whyBy_57 rfl rfl ?_
        obtain ⟨v20, g21, q22, h⟩ := bd_some h
        have s23 := w_X12_isFree (X := X) (Nat.le_refl 1) l0 l1 l4 g18 g21 v20 k_l0 q22
        refine SF_callVb 62 mi_X12_isFree ml_X12_244 dX12_whyBy_59 (Nat.le_trans (by decide) hd) s23 k_l0.1 rfl rfl (Nat.le_of_ble_eq_true rfl) rfl ?_
        have k_l0 := k_l0.ext s23.1
        refine SF_ifeq 89 65 dX12_whyBy_62 rfl rfl (fun c24 => ?_) (fun c24 => ?_)
        · have h := ite_t c24 h
          refine SF_sub [0, 1, 2, 4] rfl ?_
          exact w_X12_whyBy_89 hd l0 l1 l2 l4 g21 k_l0 h
        · have h := ite_f c24 h
          refine SF_aload_n 0 66 dX12_whyBy_65 rfl rfl rfl ?_
          refine SF_aload_n 0 67 dX12_whyBy_66 rfl rfl rfl ?_
          refine SF_getI 70 fl_X12_241 dX12_whyBy_67 k_l0.1 rfl ?_
          refine SF_iload 4 72 dX12_whyBy_70 rfl rfl ?_
          obtain ⟨v25, g26, q27, h⟩ := bd_some h
          have s28 := w_X12_apart (X := X) (Nat.le_refl 1) l0 (gI g21 l0 17) l4 g21 g26 v25 k_l0 q27
          refine SF_callVi 75 mi_X12_apart ml_X12_208 dX12_whyBy_72 (Nat.le_trans (by decide) hd) s28 k_l0.1 rfl rfl (Nat.le_of_ble_eq_true rfl) rfl ?_
          have k_l0 := k_l0.ext s28.1
          refine SF_aload_n 0 76 dX12_whyBy_75 rfl rfl rfl ?_
          obtain ⟨b29, r30, h⟩ := dr_some h
          refine SF_getR 79 fl_X12_13 dX12_whyBy_76 k_l0.1 r30 rfl ?_
          refine SF_bipush (94 : Int32) 81 dX12_whyBy_79 rfl rfl ?_
          refine SF_iload_n 1 82 dX12_whyBy_81 rfl rfl rfl ?_
          refine SF_iadd 83 dX12_whyBy_82 rfl ?_
          obtain ⟨k31, h⟩ := gdK_some h
          obtain ⟨i32, h⟩ := gdI_some h
          refine SF_iald 84 dX12_whyBy_83 k31.1 i32 rfl ?_
          refine SF_icne 89 87 dX12_whyBy_84 rfl rfl (fun c33 => ?_) (fun c33 => ?_)
          · have h := ite_f c33 h
            refine SF_sub [0, 1, 2, 4] rfl ?_
            exact w_X12_whyBy_89 hd l0 l1 l2 l4 g26 k_l0 h
          · have h := ite_t c33 h
            refine SF_iconst (0 : Int32) 88 dX12_whyBy_87 rfl rfl ?_
            exact RT_i rfl dX12_whyBy_88 h
      · have h := ite_t c17 h
        refine SF_iconst (3 : Int32) 48 dX12_whyBy_47 rfl rfl ?_
        exact RT_i rfl dX12_whyBy_48 h
    · have h := ite_t c12 h
      refine SF_iconst (2 : Int32) 32 dX12_whyBy_31 rfl rfl ?_
      exact RT_i rfl dX12_whyBy_32 h

theorem dX12_whyLead_0 : decode cX12_whyLead 0 = .ok (.aload_n 0, 1) := by decide +kernel
theorem dX12_whyLead_1 : decode cX12_whyLead 1 = .ok (.lload_n 1, 1) := by decide +kernel
theorem dX12_whyLead_2 : decode cX12_whyLead 2 = .ok (.invokevirtual 255, 3) := by decide +kernel
theorem dX12_whyLead_5 : decode cX12_whyLead 5 = .ok (.ifCond .eq 24, 3) := by decide +kernel
theorem dX12_whyLead_8 : decode cX12_whyLead 8 = .ok (.lload_n 3, 1) := by decide +kernel
theorem dX12_whyLead_9 : decode cX12_whyLead 9 = .ok (.lconst 0, 1) := by decide +kernel
theorem dX12_whyLead_10 : decode cX12_whyLead 10 = .ok (.lconst 1, 1) := by decide +kernel
theorem dX12_whyLead_11 : decode cX12_whyLead 11 = .ok (.invokestatic 139, 3) := by decide +kernel
theorem dX12_whyLead_14 : decode cX12_whyLead 14 = .ok (.ifCond .eq 15, 3) := by decide +kernel
theorem dX12_whyLead_17 : decode cX12_whyLead 17 = .ok (.lload 5, 2) := by decide +kernel
theorem dX12_whyLead_19 : decode cX12_whyLead 19 = .ok (.lconst 0, 1) := by decide +kernel
theorem dX12_whyLead_20 : decode cX12_whyLead 20 = .ok (.ldc2_w 259, 3) := by decide +kernel
theorem dX12_whyLead_23 : decode cX12_whyLead 23 = .ok (.invokestatic 139, 3) := by decide +kernel
theorem dX12_whyLead_26 : decode cX12_whyLead 26 = .ok (.ifCond .ne 5, 3) := by decide +kernel
theorem dX12_whyLead_29 : decode cX12_whyLead 29 = .ok (.iconst 1, 1) := by decide +kernel
theorem dX12_whyLead_30 : decode cX12_whyLead 30 = .ok (.ireturn, 1) := by decide +kernel
theorem dX12_whyLead_31 : decode cX12_whyLead 31 = .ok (.lload_n 1, 1) := by decide +kernel
theorem dX12_whyLead_32 : decode cX12_whyLead 32 = .ok (.l2i, 1) := by decide +kernel
theorem dX12_whyLead_33 : decode cX12_whyLead 33 = .ok (.istore 7, 2) := by decide +kernel
theorem dX12_whyLead_35 : decode cX12_whyLead 35 = .ok (.lload_n 3, 1) := by decide +kernel
theorem dX12_whyLead_36 : decode cX12_whyLead 36 = .ok (.l2i, 1) := by decide +kernel
theorem dX12_whyLead_37 : decode cX12_whyLead 37 = .ok (.istore 8, 2) := by decide +kernel
theorem dX12_whyLead_39 : decode cX12_whyLead 39 = .ok (.aload_n 0, 1) := by decide +kernel
theorem dX12_whyLead_40 : decode cX12_whyLead 40 = .ok (.iload 7, 2) := by decide +kernel
theorem dX12_whyLead_42 : decode cX12_whyLead 42 = .ok (.iload 8, 2) := by decide +kernel
theorem dX12_whyLead_44 : decode cX12_whyLead 44 = .ok (.aload_n 0, 1) := by decide +kernel
theorem dX12_whyLead_45 : decode cX12_whyLead 45 = .ok (.iload 7, 2) := by decide +kernel
theorem dX12_whyLead_47 : decode cX12_whyLead 47 = .ok (.iload 8, 2) := by decide +kernel
theorem dX12_whyLead_49 : decode cX12_whyLead 49 = .ok (.invokevirtual 205, 3) := by decide +kernel
theorem dX12_whyLead_52 : decode cX12_whyLead 52 = .ok (.aload_n 0, 1) := by decide +kernel
theorem dX12_whyLead_53 : decode cX12_whyLead 53 = .ok (.iload 7, 2) := by decide +kernel
theorem dX12_whyLead_55 : decode cX12_whyLead 55 = .ok (.iconst 1, 1) := by decide +kernel
theorem dX12_whyLead_56 : decode cX12_whyLead 56 = .ok (.iload 8, 2) := by decide +kernel
theorem dX12_whyLead_58 : decode cX12_whyLead 58 = .ok (.isub, 1) := by decide +kernel
theorem dX12_whyLead_59 : decode cX12_whyLead 59 = .ok (.invokevirtual 205, 3) := by decide +kernel
theorem dX12_whyLead_62 : decode cX12_whyLead 62 = .ok (.lload 5, 2) := by decide +kernel
theorem dX12_whyLead_64 : decode cX12_whyLead 64 = .ok (.l2i, 1) := by decide +kernel
theorem dX12_whyLead_65 : decode cX12_whyLead 65 = .ok (.invokevirtual 261, 3) := by decide +kernel
theorem dX12_whyLead_68 : decode cX12_whyLead 68 = .ok (.ireturn, 1) := by decide +kernel
set_option maxRecDepth 20000 in
set_option maxHeartbeats 2000000 in
theorem w_X12_whyLead {X : CX} {d : Nat} (hd : 5 ≤ d) (l0 : Nat) (l1 : Int64) (l3 : Int64) (l5 : Int64) (g g' : G) (rx : Int32) (k_l0 : KD g l0 12) (h : f_X12_whyLead l0 l1 l3 l5 g = some (rx, g')) : Sem X m_X12_whyLead d [.ref (ad X l0), .long l1, .long l3, .long l5] g (some (.int rx)) g' := by
  refine Sem_of (lo := [(0, .ref (ad X l0)), (1, .long l1), (3, .long l3), (5, .long l5)]) (by decide +kernel) rfl (Nat.le_of_ble_eq_true rfl) ?_
  rw [f_X12_whyLead] at h
  refine SF_aload_n 0 1 dX12_whyLead_0 rfl rfl rfl ?_
  refine SF_lload_n 1 2 dX12_whyLead_1 rfl rfl rfl ?_
  obtain ⟨v1, g2, q3, h⟩ := bd_some h
  have s4 := w_X12_isPair (X := X) (Nat.le_refl 1) l0 l1 g g2 v1 k_l0 q3
  refine SF_callVb 5 mi_X12_isPair ml_X12_255 dX12_whyLead_2 (Nat.le_trans (by decide) hd) s4 k_l0.1 rfl rfl (Nat.le_of_ble_eq_true rfl) rfl ?_
  have k_l0 := k_l0.ext s4.1
  refine SF_ifeq 29 8 dX12_whyLead_5 rfl rfl (fun c5 => ?_) (fun c5 => ?_)
  · have h := ite_t c5 h
    refine SF_iconst (1 : Int32) 30 dX12_whyLead_29 rfl rfl ?_
    exact RT_i rfl dX12_whyLead_30 h
  · have h := ite_f c5 h
    refine SF_lload_n 2 9 dX12_whyLead_8 rfl rfl rfl ?_
    refine SF_lconst (0 : Int64) 10 dX12_whyLead_9 rfl rfl ?_
    refine SF_lconst (1 : Int64) 11 dX12_whyLead_10 rfl rfl ?_
    obtain ⟨v6, g7, q8, h⟩ := bd_some h
    have s9 := w_X12_within (X := X) (Nat.le_refl 0) l3 (0 : Int64) (1 : Int64) g2 g7 v6 q8
    refine SF_callSb 14 mi_X12_within ml_X12_139 dX12_whyLead_11 (Nat.le_trans (by decide) hd) s9 rfl rfl (Nat.le_of_ble_eq_true rfl) rfl ?_
    have k_l0 := k_l0.ext s9.1
    refine SF_ifeq 29 17 dX12_whyLead_14 rfl rfl (fun c10 => ?_) (fun c10 => ?_)
    · have h := ite_t c10 h
      refine SF_iconst (1 : Int32) 30 dX12_whyLead_29 rfl rfl ?_
      exact RT_i rfl dX12_whyLead_30 h
    · have h := ite_f c10 h
      refine SF_lload 3 19 dX12_whyLead_17 rfl rfl ?_
      refine SF_lconst (0 : Int64) 20 dX12_whyLead_19 rfl rfl ?_
      refine SF_ldc2 23 dX12_whyLead_20 kl_X12_259 rfl ?_
      obtain ⟨v11, g12, q13, h⟩ := bd_some h
      have s14 := w_X12_within (X := X) (Nat.le_refl 0) l5 (0 : Int64) (3 : Int64) g7 g12 v11 q13
      refine SF_callSb 26 mi_X12_within ml_X12_139 dX12_whyLead_23 (Nat.le_trans (by decide) hd) s14 rfl rfl (Nat.le_of_ble_eq_true rfl) rfl ?_
      have k_l0 := k_l0.ext s14.1
      refine SF_ifne 31 29 dX12_whyLead_26 rfl rfl (fun c15 => ?_) (fun c15 => ?_)
      · have h := ite_f c15 h
        refine SF_lload_n 1 32 dX12_whyLead_31 rfl rfl rfl ?_
        refine SF_l2i 33 dX12_whyLead_32 rfl ?_
        obtain ⟨y16, e17, h⟩ := li_some h
        refine SF_eqI e17 ?_
        refine SF_istore [(7, .int y16), (0, .ref (ad X l0)), (1, .long l1), (3, .long l3), (5, .long l5)] 35 dX12_whyLead_33 (by decide) rfl rfl ?_
        refine SF_lload_n 3 36 dX12_whyLead_35 rfl rfl rfl ?_
        refine SF_l2i 37 dX12_whyLead_36 rfl ?_
        obtain ⟨y18, e19, h⟩ := li_some h
        refine SF_eqI e19 ?_
        refine SF_istore [(8, .int y18), (7, .int y16), (0, .ref (ad X l0)), (1, .long l1), (3, .long l3), (5, .long l5)] 39 dX12_whyLead_37 (by decide) rfl rfl ?_
        refine SF_aload_n 2 40 dX12_whyLead_39 rfl rfl rfl ?_
        refine SF_iload 1 42 dX12_whyLead_40 rfl rfl ?_
        refine SF_iload 0 44 dX12_whyLead_42 rfl rfl ?_
        refine SF_aload_n 2 45 dX12_whyLead_44 rfl rfl rfl ?_
        refine SF_iload 1 47 dX12_whyLead_45 rfl rfl ?_
        refine SF_iload 0 49 dX12_whyLead_47 rfl rfl ?_
        obtain ⟨v20, g21, q22, h⟩ := bd_some h
        have s23 := w_X12_twinOf (X := X) (Nat.le_refl 0) l0 y16 y18 g12 g21 v20 k_l0 q22
        refine SF_callVi 52 mi_X12_twinOf ml_X12_205 dX12_whyLead_49 (Nat.le_trans (by decide) hd) s23 k_l0.1 rfl rfl (Nat.le_of_ble_eq_true rfl) rfl ?_
        have k_l0 := k_l0.ext s23.1
        refine SF_aload_n 2 53 dX12_whyLead_52 rfl rfl rfl ?_
        refine SF_iload 1 55 dX12_whyLead_53 rfl rfl ?_
        refine SF_iconst (1 : Int32) 56 dX12_whyLead_55 rfl rfl ?_
        refine SF_iload 0 58 dX12_whyLead_56 rfl rfl ?_
        refine SF_isub 59 dX12_whyLead_58 rfl ?_
        obtain ⟨v24, g25, q26, h⟩ := bd_some h
        have s27 := w_X12_twinOf (X := X) (Nat.le_refl 0) l0 y16 ((1 : Int32) - y18) g21 g25 v24 k_l0 q26
        refine SF_callVi 62 mi_X12_twinOf ml_X12_205 dX12_whyLead_59 (Nat.le_trans (by decide) hd) s27 k_l0.1 rfl rfl (Nat.le_of_ble_eq_true rfl) rfl ?_
        have k_l0 := k_l0.ext s27.1
        refine SF_lload 5 64 dX12_whyLead_62 rfl rfl ?_
        refine SF_l2i 65 dX12_whyLead_64 rfl ?_
        obtain ⟨v28, g29, q30, h⟩ := bd_some h
        have s31 := w_X12_whyBy (X := X) (Nat.le_refl 4) l0 y16 y18 v20 v24 (l5.toInt32) g25 g29 v28 k_l0 q30
        refine SF_callVi 68 mi_X12_whyBy ml_X12_261 dX12_whyLead_65 (Nat.le_trans (by decide) hd) s31 k_l0.1 rfl rfl (Nat.le_of_ble_eq_true rfl) rfl ?_
        have k_l0 := k_l0.ext s31.1
        exact RT_i rfl dX12_whyLead_68 h
      · have h := ite_t c15 h
        refine SF_iconst (1 : Int32) 30 dX12_whyLead_29 rfl rfl ?_
        exact RT_i rfl dX12_whyLead_30 h

theorem dX12_why_0 : decode cX12_why 0 = .ok (.aload_n 0, 1) := by decide +kernel
theorem dX12_why_1 : decode cX12_why 1 = .ok (.iconst 0, 1) := by decide +kernel
theorem dX12_why_2 : decode cX12_why 2 = .ok (.putfield 1, 3) := by decide +kernel
theorem dX12_why_5 : decode cX12_why 5 = .ok (.aload_n 0, 1) := by decide +kernel
theorem dX12_why_6 : decode cX12_why 6 = .ok (.iload_n 1, 1) := by decide +kernel
theorem dX12_why_7 : decode cX12_why 7 = .ok (.i2l, 1) := by decide +kernel
theorem dX12_why_8 : decode cX12_why 8 = .ok (.iload_n 2, 1) := by decide +kernel
theorem dX12_why_9 : decode cX12_why 9 = .ok (.i2l, 1) := by decide +kernel
theorem dX12_why_10 : decode cX12_why 10 = .ok (.iload_n 3, 1) := by decide +kernel
theorem dX12_why_11 : decode cX12_why 11 = .ok (.i2l, 1) := by decide +kernel
theorem dX12_why_12 : decode cX12_why 12 = .ok (.invokevirtual 267, 3) := by decide +kernel
theorem dX12_why_15 : decode cX12_why 15 = .ok (.ireturn, 1) := by decide +kernel
set_option maxRecDepth 20000 in
set_option maxHeartbeats 2000000 in
theorem w_X12_why {X : CX} {d : Nat} (hd : 6 ≤ d) (l0 : Nat) (l1 : Int32) (l2 : Int32) (l3 : Int32) (g g' : G) (rx : Int32) (k_l0 : KD g l0 12) (h : f_X12_why l0 l1 l2 l3 g = some (rx, g')) : Sem X m_X12_why d [.ref (ad X l0), .int l1, .int l2, .int l3] g (some (.int rx)) g' := by
  refine Sem_of (lo := [(0, .ref (ad X l0)), (1, .int l1), (2, .int l2), (3, .int l3)]) (by decide +kernel) rfl (Nat.le_of_ble_eq_true rfl) ?_
  rw [f_X12_why] at h
  refine SF_aload_n 0 1 dX12_why_0 rfl rfl rfl ?_
  refine SF_iconst (0 : Int32) 2 dX12_why_1 rfl rfl ?_
  refine SF_putI 5 fl_X12_1 dX12_why_2 k_l0.1 (fn_int _) (Or.inl rfl) rfl ?_
  obtain ⟨g1, e2, h⟩ := lg_some h
  rw [← e2]
  have k_l0 := KD.eq e2 k_l0
  refine SF_aload_n 0 6 dX12_why_5 rfl rfl rfl ?_
  refine SF_iload_n 1 7 dX12_why_6 rfl rfl rfl ?_
  refine SF_i2l 8 dX12_why_7 rfl ?_
  refine SF_iload_n 2 9 dX12_why_8 rfl rfl rfl ?_
  refine SF_i2l 10 dX12_why_9 rfl ?_
  refine SF_iload_n 3 11 dX12_why_10 rfl rfl rfl ?_
  refine SF_i2l 12 dX12_why_11 rfl ?_
  obtain ⟨v3, g4, q5, h⟩ := bd_some h
  have s6 := w_X12_whyLead (X := X) (Nat.le_refl 5) l0 (l1.toInt64) (l2.toInt64) (l3.toInt64) g1 g4 v3 k_l0 q5
  refine SF_callVi 15 mi_X12_whyLead ml_X12_267 dX12_why_12 (Nat.le_trans (by decide) hd) s6 k_l0.1 rfl rfl (Nat.le_of_ble_eq_true rfl) rfl ?_
  have k_l0 := k_l0.ext s6.1
  exact RT_i rfl dX12_why_15 h

theorem dJ9_min_f86c9_0 : decode cJ9_min_f86c9 0 = .ok (.lload_n 0, 1) := by decide +kernel
theorem dJ9_min_f86c9_1 : decode cJ9_min_f86c9 1 = .ok (.lload_n 2, 1) := by decide +kernel
theorem dJ9_min_f86c9_2 : decode cJ9_min_f86c9 2 = .ok (.lcmp, 1) := by decide +kernel
theorem dJ9_min_f86c9_3 : decode cJ9_min_f86c9 3 = .ok (.ifCond .gt 7, 3) := by decide +kernel
theorem dJ9_min_f86c9_6 : decode cJ9_min_f86c9 6 = .ok (.lload_n 0, 1) := by decide +kernel
theorem dJ9_min_f86c9_7 : decode cJ9_min_f86c9 7 = .ok (.goto 4, 3) := by decide +kernel
theorem dJ9_min_f86c9_10 : decode cJ9_min_f86c9 10 = .ok (.lload_n 2, 1) := by decide +kernel
theorem dJ9_min_f86c9_11 : decode cJ9_min_f86c9 11 = .ok (.lreturn, 1) := by decide +kernel
set_option maxRecDepth 20000 in
set_option maxHeartbeats 2000000 in
theorem w_J9_min_f86c9 {X : CX} {d : Nat} (hd : 0 ≤ d) (l0 : Int64) (l2 : Int64) (g g' : G) (rx : Int64) (h : f_J9_min_f86c9 l0 l2 g = some (rx, g')) : Sem X m_J9_min_f86c9 d [.long l0, .long l2] g (some (.long rx)) g' := by
  refine Sem_ofF (lo := [(0, .long l0), (2, .long l2)]) (by decide +kernel) rfl (Nat.le_of_ble_eq_true rfl) ?_
  rw [f_J9_min_f86c9] at h
  refine SF_lload_n 0 1 dJ9_min_f86c9_0 rfl rfl rfl ?_
  refine SF_lload_n 1 2 dJ9_min_f86c9_1 rfl rfl rfl ?_
  refine SF_lcmp 3 dJ9_min_f86c9_2 rfl ?_
  refine SF_ifgt 10 6 dJ9_min_f86c9_3 rfl rfl (fun c1 => ?_) (fun c1 => ?_)
  · have h := ite_t c1 h
    refine SF_lload_n 1 11 dJ9_min_f86c9_10 rfl rfl rfl ?_
    exact RT_l rfl dJ9_min_f86c9_11 h
  · have h := ite_f c1 h
    refine SF_lload_n 0 7 dJ9_min_f86c9_6 rfl rfl rfl ?_
    refine SF_goto 11 dJ9_min_f86c9_7 rfl ?_
    exact RT_l rfl dJ9_min_f86c9_11 h

theorem dJ9_max_f86c9_0 : decode cJ9_max_f86c9 0 = .ok (.lload_n 0, 1) := by decide +kernel
theorem dJ9_max_f86c9_1 : decode cJ9_max_f86c9 1 = .ok (.lload_n 2, 1) := by decide +kernel
theorem dJ9_max_f86c9_2 : decode cJ9_max_f86c9 2 = .ok (.lcmp, 1) := by decide +kernel
theorem dJ9_max_f86c9_3 : decode cJ9_max_f86c9 3 = .ok (.ifCond .lt 7, 3) := by decide +kernel
theorem dJ9_max_f86c9_6 : decode cJ9_max_f86c9 6 = .ok (.lload_n 0, 1) := by decide +kernel
theorem dJ9_max_f86c9_7 : decode cJ9_max_f86c9 7 = .ok (.goto 4, 3) := by decide +kernel
theorem dJ9_max_f86c9_10 : decode cJ9_max_f86c9 10 = .ok (.lload_n 2, 1) := by decide +kernel
theorem dJ9_max_f86c9_11 : decode cJ9_max_f86c9 11 = .ok (.lreturn, 1) := by decide +kernel
set_option maxRecDepth 20000 in
set_option maxHeartbeats 2000000 in
theorem w_J9_max_f86c9 {X : CX} {d : Nat} (hd : 0 ≤ d) (l0 : Int64) (l2 : Int64) (g g' : G) (rx : Int64) (h : f_J9_max_f86c9 l0 l2 g = some (rx, g')) : Sem X m_J9_max_f86c9 d [.long l0, .long l2] g (some (.long rx)) g' := by
  refine Sem_ofF (lo := [(0, .long l0), (2, .long l2)]) (by decide +kernel) rfl (Nat.le_of_ble_eq_true rfl) ?_
  rw [f_J9_max_f86c9] at h
  refine SF_lload_n 0 1 dJ9_max_f86c9_0 rfl rfl rfl ?_
  refine SF_lload_n 1 2 dJ9_max_f86c9_1 rfl rfl rfl ?_
  refine SF_lcmp 3 dJ9_max_f86c9_2 rfl ?_
  refine SF_iflt 10 6 dJ9_max_f86c9_3 rfl rfl (fun c1 => ?_) (fun c1 => ?_)
  · have h := ite_t c1 h
    refine SF_lload_n 1 11 dJ9_max_f86c9_10 rfl rfl rfl ?_
    exact RT_l rfl dJ9_max_f86c9_11 h
  · have h := ite_f c1 h
    refine SF_lload_n 0 7 dJ9_max_f86c9_6 rfl rfl rfl ?_
    refine SF_goto 11 dJ9_max_f86c9_7 rfl ?_
    exact RT_l rfl dJ9_max_f86c9_11 h

theorem dX9_costGo_0 : decode cX9_costGo 0 = .ok (.aload_n 0, 1) := by decide +kernel
theorem dX9_costGo_1 : decode cX9_costGo 1 = .ok (.getfield 34, 3) := by decide +kernel
theorem dX9_costGo_4 : decode cX9_costGo 4 = .ok (.getfield 136, 3) := by decide +kernel
theorem dX9_costGo_7 : decode cX9_costGo 7 = .ok (.astore 4, 2) := by decide +kernel
theorem dX9_costGo_9 : decode cX9_costGo 9 = .ok (.aload_n 0, 1) := by decide +kernel
theorem dX9_costGo_10 : decode cX9_costGo 10 = .ok (.iload_n 1, 1) := by decide +kernel
theorem dX9_costGo_11 : decode cX9_costGo 11 = .ok (.iload_n 2, 1) := by decide +kernel
theorem dX9_costGo_12 : decode cX9_costGo 12 = .ok (.iload_n 3, 1) := by decide +kernel
theorem dX9_costGo_13 : decode cX9_costGo 13 = .ok (.invokevirtual 129, 3) := by decide +kernel
theorem dX9_costGo_16 : decode cX9_costGo 16 = .ok (.istore 5, 2) := by decide +kernel
theorem dX9_costGo_18 : decode cX9_costGo 18 = .ok (.aload 4, 2) := by decide +kernel
theorem dX9_costGo_20 : decode cX9_costGo 20 = .ok (.ifnull 8, 3) := by decide +kernel
theorem dX9_costGo_23 : decode cX9_costGo 23 = .ok (.iload 5, 2) := by decide +kernel
theorem dX9_costGo_25 : decode cX9_costGo 25 = .ok (.ifCond .ge 13, 3) := by decide +kernel
theorem dX9_costGo_28 : decode cX9_costGo 28 = .ok (.aload_n 0, 1) := by decide +kernel
theorem dX9_costGo_29 : decode cX9_costGo 29 = .ok (.getfield 34, 3) := by decide +kernel
theorem dX9_costGo_32 : decode cX9_costGo 32 = .ok (.iload_n 2, 1) := by decide +kernel
theorem dX9_costGo_33 : decode cX9_costGo 33 = .ok (.iload_n 3, 1) := by decide +kernel
theorem dX9_costGo_34 : decode cX9_costGo 34 = .ok (.invokevirtual 96, 3) := by decide +kernel
theorem dX9_costGo_37 : decode cX9_costGo 37 = .ok (.ireturn, 1) := by decide +kernel
theorem dX9_costGo_38 : decode cX9_costGo 38 = .ok (.aload_n 0, 1) := by decide +kernel
theorem dX9_costGo_39 : decode cX9_costGo 39 = .ok (.getfield 25, 3) := by decide +kernel
theorem dX9_costGo_42 : decode cX9_costGo 42 = .ok (.iload 5, 2) := by decide +kernel
theorem dX9_costGo_44 : decode cX9_costGo 44 = .ok (.iaload, 1) := by decide +kernel
theorem dX9_costGo_45 : decode cX9_costGo 45 = .ok (.aload_n 0, 1) := by decide +kernel
theorem dX9_costGo_46 : decode cX9_costGo 46 = .ok (.getfield 84, 3) := by decide +kernel
theorem dX9_costGo_49 : decode cX9_costGo 49 = .ok (.if_icmp .eq 45, 3) := by decide +kernel
theorem dX9_costGo_52 : decode cX9_costGo 52 = .ok (.aload_n 0, 1) := by decide +kernel
theorem dX9_costGo_53 : decode cX9_costGo 53 = .ok (.getfield 25, 3) := by decide +kernel
theorem dX9_costGo_56 : decode cX9_costGo 56 = .ok (.iload 5, 2) := by decide +kernel
theorem dX9_costGo_58 : decode cX9_costGo 58 = .ok (.aload_n 0, 1) := by decide +kernel
theorem dX9_costGo_59 : decode cX9_costGo 59 = .ok (.getfield 84, 3) := by decide +kernel
theorem dX9_costGo_62 : decode cX9_costGo 62 = .ok (.iastore, 1) := by decide +kernel
theorem dX9_costGo_63 : decode cX9_costGo 63 = .ok (.aload_n 0, 1) := by decide +kernel
theorem dX9_costGo_64 : decode cX9_costGo 64 = .ok (.aload 4, 2) := by decide +kernel
theorem dX9_costGo_66 : decode cX9_costGo 66 = .ok (.iload_n 1, 1) := by decide +kernel
theorem dX9_costGo_67 : decode cX9_costGo 67 = .ok (.iload_n 2, 1) := by decide +kernel
theorem dX9_costGo_68 : decode cX9_costGo 68 = .ok (.iload_n 3, 1) := by decide +kernel
theorem dX9_costGo_69 : decode cX9_costGo 69 = .ok (.invokevirtual 132, 3) := by decide +kernel
theorem dX9_costGo_72 : decode cX9_costGo 72 = .ok (.lstore 6, 2) := by decide +kernel
theorem dX9_costGo_74 : decode cX9_costGo 74 = .ok (.aload_n 0, 1) := by decide +kernel
theorem dX9_costGo_75 : decode cX9_costGo 75 = .ok (.getfield 28, 3) := by decide +kernel
theorem dX9_costGo_78 : decode cX9_costGo 78 = .ok (.iload 5, 2) := by decide +kernel
theorem dX9_costGo_80 : decode cX9_costGo 80 = .ok (.lconst 0, 1) := by decide +kernel
theorem dX9_costGo_81 : decode cX9_costGo 81 = .ok (.ldc2_w 139, 3) := by decide +kernel
theorem dX9_costGo_84 : decode cX9_costGo 84 = .ok (.lload 6, 2) := by decide +kernel
theorem dX9_costGo_86 : decode cX9_costGo 86 = .ok (.invokestatic 141, 3) := by decide +kernel
theorem dX9_costGo_89 : decode cX9_costGo 89 = .ok (.invokestatic 147, 3) := by decide +kernel
theorem dX9_costGo_92 : decode cX9_costGo 92 = .ok (.l2i, 1) := by decide +kernel
theorem dX9_costGo_93 : decode cX9_costGo 93 = .ok (.iastore, 1) := by decide +kernel
theorem dX9_costGo_94 : decode cX9_costGo 94 = .ok (.aload_n 0, 1) := by decide +kernel
theorem dX9_costGo_95 : decode cX9_costGo 95 = .ok (.getfield 28, 3) := by decide +kernel
theorem dX9_costGo_98 : decode cX9_costGo 98 = .ok (.iload 5, 2) := by decide +kernel
theorem dX9_costGo_100 : decode cX9_costGo 100 = .ok (.iaload, 1) := by decide +kernel
theorem dX9_costGo_101 : decode cX9_costGo 101 = .ok (.ireturn, 1) := by decide +kernel
set_option maxRecDepth 20000 in
set_option maxHeartbeats 2000000 in
theorem w_X9_costGo_28 {X : CX} {d : Nat} (hd : 2 ≤ d) {g' : G} {rx : Int32} (l0 : Nat) (l2 : Int32) (l3 : Int32) (g : G) (k_l0 : KD g l0 9) (h : f_X9_costGo_28 l0 l2 l3 g = some (rx, g')) : SemF X m_X9_costGo d 28 [(0, .ref (ad X l0)), (2, .int l2), (3, .int l3)] [] g (some (.int rx)) g' := by
  rw [f_X9_costGo_28] at h
  refine SF_aload_n 0 29 dX9_costGo_28 rfl rfl rfl ?_
  obtain ⟨b1, r2, h⟩ := dr_some h
  refine SF_getR 32 fl_X9_34 dX9_costGo_29 k_l0.1 r2 rfl ?_
  refine SF_iload_n 1 33 dX9_costGo_32 rfl rfl rfl ?_
  refine SF_iload_n 2 34 dX9_costGo_33 rfl rfl rfl ?_
  obtain ⟨k3, h⟩ := gdK_some h
  obtain ⟨v4, g5, q6, h⟩ := bd_some h
  have s7 := w_X7_apart (X := X) (Nat.le_refl 1) b1 l2 l3 g g5 v4 k3 q6
  refine SF_callVi 37 mi_X7_apart ml_X9_96 dX9_costGo_34 (Nat.le_trans (by decide) hd) s7 k3.1 rfl rfl (Nat.le_of_ble_eq_true rfl) rfl ?_
  have k_l0 := k_l0.ext s7.1
  have k3 := k3.ext s7.1
  exact RT_i rfl dX9_costGo_37 h

set_option maxRecDepth 20000 in
set_option maxHeartbeats 2000000 in
theorem w_X9_costGo_94 {X : CX} {d : Nat} (hd : 2 ≤ d) {g' : G} {rx : Int32} (l0 : Nat) (l5 : Int32) (g : G) (k_l0 : KD g l0 9) (h : f_X9_costGo_94 l0 l5 g = some (rx, g')) : SemF X m_X9_costGo d 94 [(0, .ref (ad X l0)), (5, .int l5)] [] g (some (.int rx)) g' := by
  rw [f_X9_costGo_94] at h
  refine SF_aload_n 0 95 dX9_costGo_94 rfl rfl rfl ?_
  obtain ⟨b1, r2, h⟩ := dr_some h
  refine SF_getR 98 fl_X9_28 dX9_costGo_95 k_l0.1 r2 rfl ?_
  refine SF_iload 1 100 dX9_costGo_98 rfl rfl ?_
  obtain ⟨k3, h⟩ := gdK_some h
  obtain ⟨i4, h⟩ := gdI_some h
  refine SF_iald 101 dX9_costGo_100 k3.1 i4 rfl ?_
  exact RT_i rfl dX9_costGo_101 h

set_option maxRecDepth 20000 in
set_option maxHeartbeats 2000000 in
theorem w_X9_costGo {X : CX} {d : Nat} (hd : 2 ≤ d) (l0 : Nat) (l1 : Int32) (l2 : Int32) (l3 : Int32) (g g' : G) (rx : Int32) (k_l0 : KD g l0 9) (h : f_X9_costGo l0 l1 l2 l3 g = some (rx, g')) : Sem X m_X9_costGo d [.ref (ad X l0), .int l1, .int l2, .int l3] g (some (.int rx)) g' := by
  refine Sem_of (lo := [(0, .ref (ad X l0)), (1, .int l1), (2, .int l2), (3, .int l3)]) (by decide +kernel) rfl (Nat.le_of_ble_eq_true rfl) ?_
  rw [f_X9_costGo] at h
  refine SF_aload_n 0 1 dX9_costGo_0 rfl rfl rfl ?_
  obtain ⟨b1, r2, h⟩ := dr_some h
  refine SF_getR 4 fl_X9_34 dX9_costGo_1 k_l0.1 r2 rfl ?_
  obtain ⟨k3, h⟩ := gdK_some h
  refine SF_getQ 7 fl_X9_136 dX9_costGo_4 k3.1 rfl ?_
  refine SF_qstore [(4, rv X (gR g b1 11)), (0, .ref (ad X l0)), (1, .int l1), (2, .int l2), (3, .int l3)] 9 dX9_costGo_7 (by decide) rfl rfl ?_
  refine SF_aload_n 1 10 dX9_costGo_9 rfl rfl rfl ?_
  refine SF_iload_n 2 11 dX9_costGo_10 rfl rfl rfl ?_
  refine SF_iload_n 3 12 dX9_costGo_11 rfl rfl rfl ?_
  refine SF_iload_n 4 13 dX9_costGo_12 rfl rfl rfl ?_
  obtain ⟨v4, g5, q6, h⟩ := bd_some h
  have s7 := w_X9_memoPlace (X := X) (Nat.le_refl 1) l0 l1 l2 l3 g g5 v4 k_l0 q6
  refine SF_callVi 16 mi_X9_memoPlace ml_X9_129 dX9_costGo_13 (Nat.le_trans (by decide) hd) s7 k_l0.1 rfl rfl (Nat.le_of_ble_eq_true rfl) rfl ?_
  have k_l0 := k_l0.ext s7.1
  have k3 := k3.ext s7.1
  refine SF_istore [(5, .int v4), (4, rv X (gR g b1 11)), (0, .ref (ad X l0)), (1, .int l1), (2, .int l2), (3, .int l3)] 18 dX9_costGo_16 (by decide) (by simp [rv_cat]) rfl ?_
  refine SF_qload 1 20 dX9_costGo_18 rfl rfl ?_
  refine SF_ifnull 28 23 dX9_costGo_20 rfl rfl (fun c8 => ?_) (fun c8 => ?_)
  · have h := ite_t c8 h
    refine SF_sub [2, 4, 5] rfl ?_
    exact w_X9_costGo_28 hd l0 l2 l3 g5 k_l0 h
  · have h := ite_f c8 h
    refine SF_iload 0 25 dX9_costGo_23 rfl rfl ?_
    refine SF_ifge 38 28 dX9_costGo_25 rfl rfl (fun c9 => ?_) (fun c9 => ?_)
    · have h := ite_t c9 h
      refine SF_aload_n 2 39 dX9_costGo_38 rfl rfl rfl ?_
      obtain ⟨b10, r11, h⟩ := dr_some h
      refine SF_getR 42 fl_X9_25 dX9_costGo_39 k_l0.1 r11 rfl ?_
      refine SF_iload 0 44 dX9_costGo_42 rfl rfl ?_
      obtain ⟨k12, h⟩ := gdK_some h
      obtain ⟨i13, h⟩ := gdI_some h
      refine SF_iald 45 dX9_costGo_44 k12.1 i13 rfl ?_
      refine SF_aload_n 2 46 dX9_costGo_45 rfl rfl rfl ?_
      refine SF_getI 49 fl_X9_84 dX9_costGo_46 k_l0.1 rfl ?_
      refine SF_iceq 94 52 dX9_costGo_49 rfl rfl (fun c14 => ?_) (fun c14 => ?_)
      · have h := ite_t c14 h
        refine SF_sub [2, 0] rfl ?_
        exact w_X9_costGo_94 hd l0 v4 g5 k_l0 h
      · have h := ite_f c14 h
        refine SF_aload_n 2 53 dX9_costGo_52 rfl rfl rfl ?_
        refine SF_getR 56 fl_X9_25 dX9_costGo_53 k_l0.1 r11 rfl ?_
        refine SF_iload 0 58 dX9_costGo_56 rfl rfl ?_
        refine SF_aload_n 2 59 dX9_costGo_58 rfl rfl rfl ?_
        refine SF_getI 62 fl_X9_84 dX9_costGo_59 k_l0.1 rfl ?_
        refine SF_iast 63 dX9_costGo_62 k12.1 i13 rfl ?_
        obtain ⟨g15, e16, h⟩ := lg_some h
        rw [← e16]
        have k_l0 := KD.eq e16 k_l0
        have k3 := KD.eq e16 k3
        have k12 := KD.eq e16 k12
        have r11 := gR_eq e16 r11
        have i13 := vp_eq e16 i13
        refine SF_aload_n 2 64 dX9_costGo_63 rfl rfl rfl ?_
        refine SF_qload 1 66 dX9_costGo_64 rfl rfl ?_
        refine SF_iload_n 3 67 dX9_costGo_66 rfl rfl rfl ?_
        refine SF_iload_n 4 68 dX9_costGo_67 rfl rfl rfl ?_
        refine SF_iload_n 5 69 dX9_costGo_68 rfl rfl rfl ?_
        obtain ⟨b17, r18, h⟩ := dr_some h
        rw [r18]
        obtain ⟨k19, h⟩ := gdK_some h
        obtain ⟨v20, g21, q22, h⟩ := bd_some h
        have s23 := w_X9_lawTells (X := X) (Nat.le_refl 1) l0 b17 l1 l2 l3 g15 g21 v20 k_l0 k19 q22
        refine SF_callVl 72 mi_X9_lawTells ml_X9_132 dX9_costGo_69 (Nat.le_trans (by decide) hd) s23 k_l0.1 rfl rfl (Nat.le_of_ble_eq_true rfl) rfl ?_
        have k_l0 := k_l0.ext s23.1
        have k3 := k3.ext s23.1
        have k12 := k12.ext s23.1
        have k19 := k19.ext s23.1
        refine SF_lstore [(6, .long v20), (5, .int v4), (4, .ref (ad X b17)), (0, .ref (ad X l0)), (1, .int l1), (2, .int l2), (3, .int l3)] 74 dX9_costGo_72 (by decide) rfl rfl ?_
        refine SF_aload_n 3 75 dX9_costGo_74 rfl rfl rfl ?_
        obtain ⟨b24, r25, h⟩ := dr_some h
        refine SF_getR 78 fl_X9_28 dX9_costGo_75 k_l0.1 r25 rfl ?_
        refine SF_iload 1 80 dX9_costGo_78 rfl rfl ?_
        refine SF_lconst (0 : Int64) 81 dX9_costGo_80 rfl rfl ?_
        refine SF_ldc2 84 dX9_costGo_81 kl_X9_139 rfl ?_
        refine SF_lload 0 86 dX9_costGo_84 rfl rfl ?_
        obtain ⟨v26, g27, q28, h⟩ := bd_some h
        have s29 := w_J9_min_f86c9 (X := X) (Nat.le_refl 0) (99 : Int64) v20 g21 g27 v26 q28
        refine SF_callSl 89 mi_J9_min_f86c9 ml_X9_141 dX9_costGo_86 (Nat.le_trans (by decide) hd) s29 rfl rfl (Nat.le_of_ble_eq_true rfl) rfl ?_
        have k_l0 := k_l0.ext s29.1
        have k3 := k3.ext s29.1
        have k12 := k12.ext s29.1
        have k19 := k19.ext s29.1
        obtain ⟨v30, g31, q32, h⟩ := bd_some h
        have s33 := w_J9_max_f86c9 (X := X) (Nat.le_refl 0) (0 : Int64) v26 g27 g31 v30 q32
        refine SF_callSl 92 mi_J9_max_f86c9 ml_X9_147 dX9_costGo_89 (Nat.le_trans (by decide) hd) s33 rfl rfl (Nat.le_of_ble_eq_true rfl) rfl ?_
        have k_l0 := k_l0.ext s33.1
        have k3 := k3.ext s33.1
        have k12 := k12.ext s33.1
        have k19 := k19.ext s33.1
        refine SF_l2i 93 dX9_costGo_92 rfl ?_
        obtain ⟨k34, h⟩ := gdK_some h
        obtain ⟨i35, h⟩ := gdI_some h
        refine SF_iast 94 dX9_costGo_93 k34.1 i35 rfl ?_
        obtain ⟨g36, e37, h⟩ := lg_some h
        rw [← e37]
        have k_l0 := KD.eq e37 k_l0
        have k3 := KD.eq e37 k3
        have k12 := KD.eq e37 k12
        have k19 := KD.eq e37 k19
        have k34 := KD.eq e37 k34
        have i35 := vp_eq e37 i35
        refine SF_sub [3, 1] rfl ?_
        exact w_X9_costGo_94 hd l0 v4 g36 k_l0 h
    · have h := ite_f c9 h
      refine SF_sub [2, 4, 5] rfl ?_
      exact w_X9_costGo_28 hd l0 l2 l3 g5 k_l0 h

theorem dX9_costOf_0 : decode cX9_costOf 0 = .ok (.iconst 0, 1) := by decide +kernel
theorem dX9_costOf_1 : decode cX9_costOf 1 = .ok (.istore_n 3, 1) := by decide +kernel
theorem dX9_costOf_2 : decode cX9_costOf 2 = .ok (.iload_n 1, 1) := by decide +kernel
theorem dX9_costOf_3 : decode cX9_costOf 3 = .ok (.bipush 64, 2) := by decide +kernel
theorem dX9_costOf_5 : decode cX9_costOf 5 = .ok (.idiv, 1) := by decide +kernel
theorem dX9_costOf_6 : decode cX9_costOf 6 = .ok (.iload_n 2, 1) := by decide +kernel
theorem dX9_costOf_7 : decode cX9_costOf 7 = .ok (.bipush 64, 2) := by decide +kernel
theorem dX9_costOf_9 : decode cX9_costOf 9 = .ok (.idiv, 1) := by decide +kernel
theorem dX9_costOf_10 : decode cX9_costOf 10 = .ok (.if_icmp .eq 19, 3) := by decide +kernel
theorem dX9_costOf_13 : decode cX9_costOf 13 = .ok (.iload_n 3, 1) := by decide +kernel
theorem dX9_costOf_14 : decode cX9_costOf 14 = .ok (.aload_n 0, 1) := by decide +kernel
theorem dX9_costOf_15 : decode cX9_costOf 15 = .ok (.iconst 0, 1) := by decide +kernel
theorem dX9_costOf_16 : decode cX9_costOf 16 = .ok (.iload_n 1, 1) := by decide +kernel
theorem dX9_costOf_17 : decode cX9_costOf 17 = .ok (.bipush 64, 2) := by decide +kernel
theorem dX9_costOf_19 : decode cX9_costOf 19 = .ok (.idiv, 1) := by decide +kernel
theorem dX9_costOf_20 : decode cX9_costOf 20 = .ok (.iload_n 2, 1) := by decide +kernel
theorem dX9_costOf_21 : decode cX9_costOf 21 = .ok (.bipush 64, 2) := by decide +kernel
theorem dX9_costOf_23 : decode cX9_costOf 23 = .ok (.idiv, 1) := by decide +kernel
theorem dX9_costOf_24 : decode cX9_costOf 24 = .ok (.invokevirtual 150, 3) := by decide +kernel
theorem dX9_costOf_27 : decode cX9_costOf 27 = .ok (.iadd, 1) := by decide +kernel
theorem dX9_costOf_28 : decode cX9_costOf 28 = .ok (.istore_n 3, 1) := by decide +kernel
theorem dX9_costOf_29 : decode cX9_costOf 29 = .ok (.iload_n 1, 1) := by decide +kernel
theorem dX9_costOf_30 : decode cX9_costOf 30 = .ok (.bipush 64, 2) := by decide +kernel
theorem dX9_costOf_32 : decode cX9_costOf 32 = .ok (.irem, 1) := by decide +kernel
theorem dX9_costOf_33 : decode cX9_costOf 33 = .ok (.iload_n 2, 1) := by decide +kernel
theorem dX9_costOf_34 : decode cX9_costOf 34 = .ok (.bipush 64, 2) := by decide +kernel
theorem dX9_costOf_36 : decode cX9_costOf 36 = .ok (.irem, 1) := by decide +kernel
theorem dX9_costOf_37 : decode cX9_costOf 37 = .ok (.if_icmp .eq 19, 3) := by decide +kernel
theorem dX9_costOf_40 : decode cX9_costOf 40 = .ok (.iload_n 3, 1) := by decide +kernel
theorem dX9_costOf_41 : decode cX9_costOf 41 = .ok (.aload_n 0, 1) := by decide +kernel
theorem dX9_costOf_42 : decode cX9_costOf 42 = .ok (.iconst 1, 1) := by decide +kernel
theorem dX9_costOf_43 : decode cX9_costOf 43 = .ok (.iload_n 1, 1) := by decide +kernel
theorem dX9_costOf_44 : decode cX9_costOf 44 = .ok (.bipush 64, 2) := by decide +kernel
theorem dX9_costOf_46 : decode cX9_costOf 46 = .ok (.irem, 1) := by decide +kernel
theorem dX9_costOf_47 : decode cX9_costOf 47 = .ok (.iload_n 2, 1) := by decide +kernel
theorem dX9_costOf_48 : decode cX9_costOf 48 = .ok (.bipush 64, 2) := by decide +kernel
theorem dX9_costOf_50 : decode cX9_costOf 50 = .ok (.irem, 1) := by decide +kernel
theorem dX9_costOf_51 : decode cX9_costOf 51 = .ok (.invokevirtual 150, 3) := by decide +kernel
theorem dX9_costOf_54 : decode cX9_costOf 54 = .ok (.iadd, 1) := by decide +kernel
theorem dX9_costOf_55 : decode cX9_costOf 55 = .ok (.istore_n 3, 1) := by decide +kernel
theorem dX9_costOf_56 : decode cX9_costOf 56 = .ok (.iload_n 3, 1) := by decide +kernel
theorem dX9_costOf_57 : decode cX9_costOf 57 = .ok (.ireturn, 1) := by decide +kernel
set_option maxRecDepth 20000 in
set_option maxHeartbeats 2000000 in
theorem w_X9_costOf_29 {X : CX} {d : Nat} (hd : 3 ≤ d) {g' : G} {rx : Int32} (l0 : Nat) (l1 : Int32) (l2 : Int32) (l3 : Int32) (g : G) (k_l0 : KD g l0 9) (h : f_X9_costOf_29 l0 l1 l2 l3 g = some (rx, g')) : SemF X m_X9_costOf d 29 [(0, .ref (ad X l0)), (1, .int l1), (2, .int l2), (3, .int l3)] [] g (some (.int rx)) g' := by
  rw [f_X9_costOf_29] at h
  refine SF_iload_n 1 30 dX9_costOf_29 rfl rfl rfl ?_
  refine SF_bipush (64 : Int32) 32 dX9_costOf_30 rfl rfl ?_
  refine SF_irem 33 dX9_costOf_32 (by decide) rfl ?_
  refine SF_iload_n 2 34 dX9_costOf_33 rfl rfl rfl ?_
  refine SF_bipush (64 : Int32) 36 dX9_costOf_34 rfl rfl ?_
  refine SF_irem 37 dX9_costOf_36 (by decide) rfl ?_
  refine SF_iceq 56 40 dX9_costOf_37 rfl rfl (fun c1 => ?_) (fun c1 => ?_)
  · have h := ite_t c1 h
    refine SF_iload_n 3 57 dX9_costOf_56 rfl rfl rfl ?_
    exact RT_i rfl dX9_costOf_57 h
  · have h := ite_f c1 h
    refine SF_iload_n 3 41 dX9_costOf_40 rfl rfl rfl ?_
    refine SF_aload_n 0 42 dX9_costOf_41 rfl rfl rfl ?_
    refine SF_iconst (1 : Int32) 43 dX9_costOf_42 rfl rfl ?_
    refine SF_iload_n 1 44 dX9_costOf_43 rfl rfl rfl ?_
    refine SF_bipush (64 : Int32) 46 dX9_costOf_44 rfl rfl ?_
    refine SF_irem 47 dX9_costOf_46 (by decide) rfl ?_
    refine SF_iload_n 2 48 dX9_costOf_47 rfl rfl rfl ?_
    refine SF_bipush (64 : Int32) 50 dX9_costOf_48 rfl rfl ?_
    refine SF_irem 51 dX9_costOf_50 (by decide) rfl ?_
    obtain ⟨v2, g3, q4, h⟩ := bd_some h
    have s5 := w_X9_costGo (X := X) (Nat.le_refl 2) l0 (1 : Int32) (l1 - l1 / (64 : Int32) * (64 : Int32)) (l2 - l2 / (64 : Int32) * (64 : Int32)) g g3 v2 k_l0 q4
    refine SF_callVi 54 mi_X9_costGo ml_X9_150 dX9_costOf_51 (Nat.le_trans (by decide) hd) s5 k_l0.1 rfl rfl (Nat.le_of_ble_eq_true rfl) rfl ?_
    have k_l0 := k_l0.ext s5.1
    refine SF_iadd 55 dX9_costOf_54 rfl ?_
    obtain ⟨y6, e7, h⟩ := li_some h
    refine SF_eqI e7 ?_
    refine SF_istore_n [(3, .int y6), (0, .ref (ad X l0)), (1, .int l1), (2, .int l2)] 56 dX9_costOf_55 rfl (by decide) rfl rfl ?_
    refine SF_iload_n 0 57 dX9_costOf_56 rfl rfl rfl ?_
    exact RT_i rfl dX9_costOf_57 h

set_option maxRecDepth 20000 in
set_option maxHeartbeats 2000000 in
theorem w_X9_costOf {X : CX} {d : Nat} (hd : 3 ≤ d) (l0 : Nat) (l1 : Int32) (l2 : Int32) (g g' : G) (rx : Int32) (k_l0 : KD g l0 9) (h : f_X9_costOf l0 l1 l2 g = some (rx, g')) : Sem X m_X9_costOf d [.ref (ad X l0), .int l1, .int l2] g (some (.int rx)) g' := by
  refine Sem_of (lo := [(0, .ref (ad X l0)), (1, .int l1), (2, .int l2)]) (by decide +kernel) rfl (Nat.le_of_ble_eq_true rfl) ?_
  rw [f_X9_costOf] at h
  refine SF_iconst (0 : Int32) 1 dX9_costOf_0 rfl rfl ?_
  refine SF_istore_n [(3, .int (0 : Int32)), (0, .ref (ad X l0)), (1, .int l1), (2, .int l2)] 2 dX9_costOf_1 rfl (by decide) rfl rfl ?_
  refine SF_iload_n 2 3 dX9_costOf_2 rfl rfl rfl ?_
  refine SF_bipush (64 : Int32) 5 dX9_costOf_3 rfl rfl ?_
  refine SF_idiv 6 dX9_costOf_5 (by decide) rfl ?_
  refine SF_iload_n 3 7 dX9_costOf_6 rfl rfl rfl ?_
  refine SF_bipush (64 : Int32) 9 dX9_costOf_7 rfl rfl ?_
  refine SF_idiv 10 dX9_costOf_9 (by decide) rfl ?_
  refine SF_iceq 29 13 dX9_costOf_10 rfl rfl (fun c1 => ?_) (fun c1 => ?_)
  · have h := ite_t c1 h
    refine SF_sub [1, 2, 3, 0] rfl ?_
    exact w_X9_costOf_29 hd l0 l1 l2 (0 : Int32) g k_l0 h
  · have h := ite_f c1 h
    refine SF_iload_n 0 14 dX9_costOf_13 rfl rfl rfl ?_
    refine SF_aload_n 1 15 dX9_costOf_14 rfl rfl rfl ?_
    refine SF_iconst (0 : Int32) 16 dX9_costOf_15 rfl rfl ?_
    refine SF_iload_n 2 17 dX9_costOf_16 rfl rfl rfl ?_
    refine SF_bipush (64 : Int32) 19 dX9_costOf_17 rfl rfl ?_
    refine SF_idiv 20 dX9_costOf_19 (by decide) rfl ?_
    refine SF_iload_n 3 21 dX9_costOf_20 rfl rfl rfl ?_
    refine SF_bipush (64 : Int32) 23 dX9_costOf_21 rfl rfl ?_
    refine SF_idiv 24 dX9_costOf_23 (by decide) rfl ?_
    obtain ⟨v2, g3, q4, h⟩ := bd_some h
    have s5 := w_X9_costGo (X := X) (Nat.le_refl 2) l0 (0 : Int32) (l1 / (64 : Int32)) (l2 / (64 : Int32)) g g3 v2 k_l0 q4
    refine SF_callVi 27 mi_X9_costGo ml_X9_150 dX9_costOf_24 (Nat.le_trans (by decide) hd) s5 k_l0.1 rfl rfl (Nat.le_of_ble_eq_true rfl) rfl ?_
    have k_l0 := k_l0.ext s5.1
    refine SF_iadd 28 dX9_costOf_27 rfl ?_
    obtain ⟨y6, e7, h⟩ := li_some h
    refine SF_eqI e7 ?_
    refine SF_istore_n [(3, .int y6), (0, .ref (ad X l0)), (1, .int l1), (2, .int l2)] 29 dX9_costOf_28 rfl (by decide) rfl rfl ?_
    refine SF_sub [1, 2, 3, 0] rfl ?_
    exact w_X9_costOf_29 hd l0 l1 l2 y6 g3 k_l0 h

theorem dX11_by_0 : decode cX11_by 0 = .ok (.iload 4, 2) := by decide +kernel
theorem dX11_by_2 : decode cX11_by 2 = .ok (.ifCond .lt 9, 3) := by decide +kernel
theorem dX11_by_5 : decode cX11_by 5 = .ok (.iload 4, 2) := by decide +kernel
theorem dX11_by_7 : decode cX11_by 7 = .ok (.iconst 3, 1) := by decide +kernel
theorem dX11_by_8 : decode cX11_by 8 = .ok (.if_icmp .le 6, 3) := by decide +kernel
theorem dX11_by_11 : decode cX11_by 11 = .ok (.bipush (-2), 2) := by decide +kernel
theorem dX11_by_13 : decode cX11_by 13 = .ok (.ireturn, 1) := by decide +kernel
theorem dX11_by_14 : decode cX11_by 14 = .ok (.aload_n 0, 1) := by decide +kernel
theorem dX11_by_15 : decode cX11_by 15 = .ok (.getfield 78, 3) := by decide +kernel
theorem dX11_by_18 : decode cX11_by 18 = .ok (.aload_n 0, 1) := by decide +kernel
theorem dX11_by_19 : decode cX11_by 19 = .ok (.getfield 95, 3) := by decide +kernel
theorem dX11_by_22 : decode cX11_by 22 = .ok (.iload_n 1, 1) := by decide +kernel
theorem dX11_by_23 : decode cX11_by 23 = .ok (.iload_n 2, 1) := by decide +kernel
theorem dX11_by_24 : decode cX11_by 24 = .ok (.iload_n 3, 1) := by decide +kernel
theorem dX11_by_25 : decode cX11_by 25 = .ok (.invokevirtual 179, 3) := by decide +kernel
theorem dX11_by_28 : decode cX11_by 28 = .ok (.istore 5, 2) := by decide +kernel
theorem dX11_by_30 : decode cX11_by 30 = .ok (.iload 5, 2) := by decide +kernel
theorem dX11_by_32 : decode cX11_by 32 = .ok (.ifCond .ge 6, 3) := by decide +kernel
theorem dX11_by_35 : decode cX11_by 35 = .ok (.bipush (-5), 2) := by decide +kernel
theorem dX11_by_37 : decode cX11_by 37 = .ok (.ireturn, 1) := by decide +kernel
theorem dX11_by_38 : decode cX11_by 38 = .ok (.iload 4, 2) := by decide +kernel
theorem dX11_by_40 : decode cX11_by 40 = .ok (.ifCond .ne 9, 3) := by decide +kernel
theorem dX11_by_43 : decode cX11_by 43 = .ok (.iload 5, 2) := by decide +kernel
theorem dX11_by_45 : decode cX11_by 45 = .ok (.bipush 64, 2) := by decide +kernel
theorem dX11_by_47 : decode cX11_by 47 = .ok (.idiv, 1) := by decide +kernel
theorem dX11_by_48 : decode cX11_by 48 = .ok (.ireturn, 1) := by decide +kernel
theorem dX11_by_49 : decode cX11_by 49 = .ok (.iload 4, 2) := by decide +kernel
theorem dX11_by_51 : decode cX11_by 51 = .ok (.iconst 1, 1) := by decide +kernel
theorem dX11_by_52 : decode cX11_by 52 = .ok (.if_icmp .ne 9, 3) := by decide +kernel
theorem dX11_by_55 : decode cX11_by 55 = .ok (.iload 5, 2) := by decide +kernel
theorem dX11_by_57 : decode cX11_by 57 = .ok (.bipush 64, 2) := by decide +kernel
theorem dX11_by_59 : decode cX11_by 59 = .ok (.irem, 1) := by decide +kernel
theorem dX11_by_60 : decode cX11_by 60 = .ok (.ireturn, 1) := by decide +kernel
theorem dX11_by_61 : decode cX11_by 61 = .ok (.aload_n 0, 1) := by decide +kernel
theorem dX11_by_62 : decode cX11_by 62 = .ok (.getfield 78, 3) := by decide +kernel
theorem dX11_by_65 : decode cX11_by 65 = .ok (.iload_n 1, 1) := by decide +kernel
theorem dX11_by_66 : decode cX11_by 66 = .ok (.invokevirtual 183, 3) := by decide +kernel
theorem dX11_by_69 : decode cX11_by 69 = .ok (.istore 6, 2) := by decide +kernel
theorem dX11_by_71 : decode cX11_by 71 = .ok (.iload 4, 2) := by decide +kernel
theorem dX11_by_73 : decode cX11_by 73 = .ok (.iconst 2, 1) := by decide +kernel
theorem dX11_by_74 : decode cX11_by 74 = .ok (.if_icmp .ne 51, 3) := by decide +kernel
theorem dX11_by_77 : decode cX11_by 77 = .ok (.iload_n 2, 1) := by decide +kernel
theorem dX11_by_78 : decode cX11_by 78 = .ok (.ifCond .ne 26, 3) := by decide +kernel
theorem dX11_by_81 : decode cX11_by 81 = .ok (.aload_n 0, 1) := by decide +kernel
theorem dX11_by_82 : decode cX11_by 82 = .ok (.getfield 78, 3) := by decide +kernel
theorem dX11_by_85 : decode cX11_by 85 = .ok (.getfield 136, 3) := by decide +kernel
theorem dX11_by_88 : decode cX11_by 88 = .ok (.iload 6, 2) := by decide +kernel
theorem dX11_by_90 : decode cX11_by 90 = .ok (.bipush 64, 2) := by decide +kernel
theorem dX11_by_92 : decode cX11_by 92 = .ok (.irem, 1) := by decide +kernel
theorem dX11_by_93 : decode cX11_by 93 = .ok (.iload 5, 2) := by decide +kernel
theorem dX11_by_95 : decode cX11_by 95 = .ok (.bipush 64, 2) := by decide +kernel
theorem dX11_by_97 : decode cX11_by 97 = .ok (.irem, 1) := by decide +kernel
theorem dX11_by_98 : decode cX11_by 98 = .ok (.invokevirtual 186, 3) := by decide +kernel
theorem dX11_by_101 : decode cX11_by 101 = .ok (.goto 23, 3) := by decide +kernel
theorem dX11_by_104 : decode cX11_by 104 = .ok (.aload_n 0, 1) := by decide +kernel
theorem dX11_by_105 : decode cX11_by 105 = .ok (.getfield 78, 3) := by decide +kernel
theorem dX11_by_108 : decode cX11_by 108 = .ok (.getfield 136, 3) := by decide +kernel
theorem dX11_by_111 : decode cX11_by 111 = .ok (.iload 6, 2) := by decide +kernel
theorem dX11_by_113 : decode cX11_by 113 = .ok (.bipush 64, 2) := by decide +kernel
theorem dX11_by_115 : decode cX11_by 115 = .ok (.idiv, 1) := by decide +kernel
theorem dX11_by_116 : decode cX11_by 116 = .ok (.iload 5, 2) := by decide +kernel
theorem dX11_by_118 : decode cX11_by 118 = .ok (.bipush 64, 2) := by decide +kernel
theorem dX11_by_120 : decode cX11_by 120 = .ok (.idiv, 1) := by decide +kernel
theorem dX11_by_121 : decode cX11_by 121 = .ok (.invokevirtual 186, 3) := by decide +kernel
theorem dX11_by_124 : decode cX11_by 124 = .ok (.ireturn, 1) := by decide +kernel
theorem dX11_by_125 : decode cX11_by 125 = .ok (.aload_n 0, 1) := by decide +kernel
theorem dX11_by_126 : decode cX11_by 126 = .ok (.getfield 95, 3) := by decide +kernel
theorem dX11_by_129 : decode cX11_by 129 = .ok (.iload 6, 2) := by decide +kernel
theorem dX11_by_131 : decode cX11_by 131 = .ok (.iload 5, 2) := by decide +kernel
theorem dX11_by_133 : decode cX11_by 133 = .ok (.invokevirtual 190, 3) := by decide +kernel
theorem dX11_by_136 : decode cX11_by 136 = .ok (.ireturn, 1) := by decide +kernel
set_option maxRecDepth 20000 in
set_option maxHeartbeats 2000000 in
theorem w_X11_by {X : CX} {d : Nat} (hd : 6 ≤ d) (l0 : Nat) (l1 : Int32) (l2 : Int32) (l3 : Int32) (l4 : Int32) (g g' : G) (rx : Int32) (k_l0 : KD g l0 11) (h : f_X11_by l0 l1 l2 l3 l4 g = some (rx, g')) : Sem X m_X11_by d [.ref (ad X l0), .int l1, .int l2, .int l3, .int l4] g (some (.int rx)) g' := by
  refine Sem_of (lo := [(0, .ref (ad X l0)), (1, .int l1), (2, .int l2), (3, .int l3), (4, .int l4)]) (by decide +kernel) rfl (Nat.le_of_ble_eq_true rfl) ?_
  rw [f_X11_by] at h
  refine SF_iload 4 2 dX11_by_0 rfl rfl ?_
  refine SF_iflt 11 5 dX11_by_2 rfl rfl (fun c1 => ?_) (fun c1 => ?_)
  · have h := ite_t c1 h
    refine SF_bipush (-2 : Int32) 13 dX11_by_11 rfl rfl ?_
    exact RT_i rfl dX11_by_13 h
  · have h := ite_f c1 h
    refine SF_iload 4 7 dX11_by_5 rfl rfl ?_
    refine SF_iconst (3 : Int32) 8 dX11_by_7 rfl rfl ?_
    refine SF_icle 14 11 dX11_by_8 rfl rfl (fun c2 => ?_) (fun c2 => ?_)
    · have h := ite_t c2 h
      refine SF_aload_n 0 15 dX11_by_14 rfl rfl rfl ?_
      obtain ⟨b3, r4, h⟩ := dr_some h
      refine SF_getR 18 fl_X11_78 dX11_by_15 k_l0.1 r4 rfl ?_
      refine SF_aload_n 0 19 dX11_by_18 rfl rfl rfl ?_
      obtain ⟨b5, r6, h⟩ := dr_some h
      refine SF_getR 22 fl_X11_95 dX11_by_19 k_l0.1 r6 rfl ?_
      refine SF_iload_n 1 23 dX11_by_22 rfl rfl rfl ?_
      refine SF_iload_n 2 24 dX11_by_23 rfl rfl rfl ?_
      refine SF_iload_n 3 25 dX11_by_24 rfl rfl rfl ?_
      obtain ⟨k7, h⟩ := gdK_some h
      obtain ⟨k8, h⟩ := gdK_some h
      obtain ⟨v9, g10, q11, h⟩ := bd_some h
      have s12 := w_X0_wouldBe (X := X) (Nat.le_refl 5) b3 b5 l1 l2 l3 g g10 v9 k7 k8 q11
      refine SF_callVi 28 mi_X0_wouldBe ml_X11_179 dX11_by_25 (Nat.le_trans (by decide) hd) s12 k7.1 rfl rfl (Nat.le_of_ble_eq_true rfl) rfl ?_
      have k_l0 := k_l0.ext s12.1
      have k7 := k7.ext s12.1
      have k8 := k8.ext s12.1
      refine SF_istore [(5, .int v9), (0, .ref (ad X l0)), (1, .int l1), (2, .int l2), (3, .int l3), (4, .int l4)] 30 dX11_by_28 (by decide) rfl rfl ?_
      refine SF_iload 0 32 dX11_by_30 rfl rfl ?_
      refine SF_ifge 38 35 dX11_by_32 rfl rfl (fun c13 => ?_) (fun c13 => ?_)
      · have h := ite_t c13 h
        refine SF_iload 5 40 dX11_by_38 rfl rfl ?_
        refine SF_ifne 49 43 dX11_by_40 rfl rfl (fun c14 => ?_) (fun c14 => ?_)
        · have h := ite_f c14 h
          refine SF_iload 5 51 dX11_by_49 rfl rfl ?_
          refine SF_iconst (1 : Int32) 52 dX11_by_51 rfl rfl ?_
          refine SF_icne 61 55 dX11_by_52 rfl rfl (fun c15 => ?_) (fun c15 => ?_)
          · have h := ite_f c15 h
            refine SF_aload_n 1 62 dX11_by_61 rfl rfl rfl ?_
            obtain ⟨b16, r17, h⟩ := dr_some h
            refine SF_getR 65 fl_X11_78 dX11_by_62 k_l0.1 r17 rfl ?_
            refine SF_iload_n 2 66 dX11_by_65 rfl rfl rfl ?_
            obtain ⟨k18, h⟩ := gdK_some h
            obtain ⟨v19, g20, q21, h⟩ := bd_some h
            have s22 := w_X0_standOf (X := X) (Nat.le_refl 1) b16 l1 g10 g20 v19 k18 q21
            refine SF_callVi 69 mi_X0_standOf ml_X11_183 dX11_by_66 (Nat.le_trans (by decide) hd) s22 k18.1 rfl rfl (Nat.le_of_ble_eq_true rfl) rfl ?_
            have k_l0 := k_l0.ext s22.1
            have k7 := k7.ext s22.1
            have k8 := k8.ext s22.1
            have k18 := k18.ext s22.1
            refine SF_istore [(6, .int v19), (5, .int v9), (0, .ref (ad X l0)), (1, .int l1), (2, .int l2), (3, .int l3), (4, .int l4)] 71 dX11_by_69 (by decide) rfl rfl ?_
            refine SF_iload 6 73 dX11_by_71 rfl rfl ?_
            refine SF_iconst (2 : Int32) 74 dX11_by_73 rfl rfl ?_
            refine SF_icne 125 77 dX11_by_74 rfl rfl (fun c23 => ?_) (fun c23 => ?_)
            · have h := ite_f c23 h
              refine SF_aload_n 2 126 dX11_by_125 rfl rfl rfl ?_
              obtain ⟨b24, r25, h⟩ := dr_some h
              refine SF_getR 129 fl_X11_95 dX11_by_126 k_l0.1 r25 rfl ?_
              refine SF_iload 0 131 dX11_by_129 rfl rfl ?_
              refine SF_iload 1 133 dX11_by_131 rfl rfl ?_
              obtain ⟨k26, h⟩ := gdK_some h
              obtain ⟨v27, g28, q29, h⟩ := bd_some h
              have s30 := w_X9_costOf (X := X) (Nat.le_refl 3) b24 v19 v9 g20 g28 v27 k26 q29
              refine SF_callVi 136 mi_X9_costOf ml_X11_190 dX11_by_133 (Nat.le_trans (by decide) hd) s30 k26.1 rfl rfl (Nat.le_of_ble_eq_true rfl) rfl ?_
              have k_l0 := k_l0.ext s30.1
              have k7 := k7.ext s30.1
              have k8 := k8.ext s30.1
              have k18 := k18.ext s30.1
              have k26 := k26.ext s30.1
              exact RT_i rfl dX11_by_136 h
            · have h := ite_t c23 h
              refine SF_iload_n 4 78 dX11_by_77 rfl rfl rfl ?_
              refine SF_ifne 104 81 dX11_by_78 rfl rfl (fun c31 => ?_) (fun c31 => ?_)
              · have h := ite_f c31 h
                refine SF_aload_n 2 105 dX11_by_104 rfl rfl rfl ?_
                obtain ⟨b32, r33, h⟩ := dr_some h
                refine SF_getR 108 fl_X11_78 dX11_by_105 k_l0.1 r33 rfl ?_
                obtain ⟨k34, h⟩ := gdK_some h
                obtain ⟨b35, r36, h⟩ := dr_some h
                refine SF_getR 111 fl_X11_136 dX11_by_108 k34.1 r36 rfl ?_
                refine SF_iload 0 113 dX11_by_111 rfl rfl ?_
                refine SF_bipush (64 : Int32) 115 dX11_by_113 rfl rfl ?_
                refine SF_idiv 116 dX11_by_115 (by decide) rfl ?_
                refine SF_iload 1 118 dX11_by_116 rfl rfl ?_
                refine SF_bipush (64 : Int32) 120 dX11_by_118 rfl rfl ?_
                refine SF_idiv 121 dX11_by_120 (by decide) rfl ?_
                obtain ⟨k37, h⟩ := gdK_some h
                obtain ⟨v38, g39, q40, h⟩ := bd_some h
                have s41 := w_X7_apart (X := X) (Nat.le_refl 1) b35 (v19 / (64 : Int32)) (v9 / (64 : Int32)) g20 g39 v38 k37 q40
                refine SF_callVi 124 mi_X7_apart ml_X11_186 dX11_by_121 (Nat.le_trans (by decide) hd) s41 k37.1 rfl rfl (Nat.le_of_ble_eq_true rfl) rfl ?_
                have k_l0 := k_l0.ext s41.1
                have k7 := k7.ext s41.1
                have k8 := k8.ext s41.1
                have k18 := k18.ext s41.1
                have k34 := k34.ext s41.1
                have k37 := k37.ext s41.1
                exact RT_i rfl dX11_by_124 h
              · have h := ite_t c31 h
                refine SF_aload_n 2 82 dX11_by_81 rfl rfl rfl ?_
                obtain ⟨b42, r43, h⟩ := dr_some h
                refine SF_getR 85 fl_X11_78 dX11_by_82 k_l0.1 r43 rfl ?_
                obtain ⟨k44, h⟩ := gdK_some h
                obtain ⟨b45, r46, h⟩ := dr_some h
                refine SF_getR 88 fl_X11_136 dX11_by_85 k44.1 r46 rfl ?_
                refine SF_iload 0 90 dX11_by_88 rfl rfl ?_
                refine SF_bipush (64 : Int32) 92 dX11_by_90 rfl rfl ?_
                refine SF_irem 93 dX11_by_92 (by decide) rfl ?_
                refine SF_iload 1 95 dX11_by_93 rfl rfl ?_
                refine SF_bipush (64 : Int32) 97 dX11_by_95 rfl rfl ?_
                refine SF_irem 98 dX11_by_97 (by decide) rfl ?_
                obtain ⟨k47, h⟩ := gdK_some h
                obtain ⟨v48, g49, q50, h⟩ := bd_some h
                have s51 := w_X7_apart (X := X) (Nat.le_refl 1) b45 (v19 - v19 / (64 : Int32) * (64 : Int32)) (v9 - v9 / (64 : Int32) * (64 : Int32)) g20 g49 v48 k47 q50
                refine SF_callVi 101 mi_X7_apart ml_X11_186 dX11_by_98 (Nat.le_trans (by decide) hd) s51 k47.1 rfl rfl (Nat.le_of_ble_eq_true rfl) rfl ?_
                have k_l0 := k_l0.ext s51.1
                have k7 := k7.ext s51.1
                have k8 := k8.ext s51.1
                have k18 := k18.ext s51.1
                have k44 := k44.ext s51.1
                have k47 := k47.ext s51.1
                refine SF_goto 124 dX11_by_101 rfl ?_
                exact RT_i rfl dX11_by_124 h
          · have h := ite_t c15 h
            refine SF_iload 0 57 dX11_by_55 rfl rfl ?_
            refine SF_bipush (64 : Int32) 59 dX11_by_57 rfl rfl ?_
            refine SF_irem 60 dX11_by_59 (by decide) rfl ?_
            exact RT_i rfl dX11_by_60 h
        · have h := ite_t c14 h
          refine SF_iload 0 45 dX11_by_43 rfl rfl ?_
          refine SF_bipush (64 : Int32) 47 dX11_by_45 rfl rfl ?_
          refine SF_idiv 48 dX11_by_47 (by decide) rfl ?_
          exact RT_i rfl dX11_by_48 h
      · have h := ite_f c13 h
        refine SF_bipush (-5 : Int32) 37 dX11_by_35 rfl rfl ?_
        exact RT_i rfl dX11_by_37 h
    · have h := ite_f c2 h
      refine SF_bipush (-2 : Int32) 13 dX11_by_11 rfl rfl ?_
      exact RT_i rfl dX11_by_13 h

theorem dX12_costOf_0 : decode cX12_costOf 0 = .ok (.iload_n 3, 1) := by decide +kernel
theorem dX12_costOf_1 : decode cX12_costOf 1 = .ok (.iload 4, 2) := by decide +kernel
theorem dX12_costOf_3 : decode cX12_costOf 3 = .ok (.if_icmp .ne 5, 3) := by decide +kernel
theorem dX12_costOf_6 : decode cX12_costOf 6 = .ok (.iconst 0, 1) := by decide +kernel
theorem dX12_costOf_7 : decode cX12_costOf 7 = .ok (.ireturn, 1) := by decide +kernel
theorem dX12_costOf_8 : decode cX12_costOf 8 = .ok (.aload_n 0, 1) := by decide +kernel
theorem dX12_costOf_9 : decode cX12_costOf 9 = .ok (.getfield 13, 3) := by decide +kernel
theorem dX12_costOf_12 : decode cX12_costOf 12 = .ok (.iconst 5, 1) := by decide +kernel
theorem dX12_costOf_13 : decode cX12_costOf 13 = .ok (.iaload, 1) := by decide +kernel
theorem dX12_costOf_14 : decode cX12_costOf 14 = .ok (.ifCond .ne 13, 3) := by decide +kernel
theorem dX12_costOf_17 : decode cX12_costOf 17 = .ok (.aload_n 0, 1) := by decide +kernel
theorem dX12_costOf_18 : decode cX12_costOf 18 = .ok (.iload_n 3, 1) := by decide +kernel
theorem dX12_costOf_19 : decode cX12_costOf 19 = .ok (.iload 4, 2) := by decide +kernel
theorem dX12_costOf_21 : decode cX12_costOf 21 = .ok (.invokevirtual 208, 3) := by decide +kernel
theorem dX12_costOf_24 : decode cX12_costOf 24 = .ok (.goto 13, 3) := by decide +kernel
theorem dX12_costOf_27 : decode cX12_costOf 27 = .ok (.aload_n 0, 1) := by decide +kernel
theorem dX12_costOf_28 : decode cX12_costOf 28 = .ok (.iconst 1, 1) := by decide +kernel
theorem dX12_costOf_29 : decode cX12_costOf 29 = .ok (.iload_n 1, 1) := by decide +kernel
theorem dX12_costOf_30 : decode cX12_costOf 30 = .ok (.iload_n 2, 1) := by decide +kernel
theorem dX12_costOf_31 : decode cX12_costOf 31 = .ok (.iload_n 3, 1) := by decide +kernel
theorem dX12_costOf_32 : decode cX12_costOf 32 = .ok (.iload 4, 2) := by decide +kernel
theorem dX12_costOf_34 : decode cX12_costOf 34 = .ok (.invokevirtual 234, 3) := by decide +kernel
theorem dX12_costOf_37 : decode cX12_costOf 37 = .ok (.istore 5, 2) := by decide +kernel
theorem dX12_costOf_39 : decode cX12_costOf 39 = .ok (.iload 5, 2) := by decide +kernel
theorem dX12_costOf_41 : decode cX12_costOf 41 = .ok (.ifCond .ge 7, 3) := by decide +kernel
theorem dX12_costOf_44 : decode cX12_costOf 44 = .ok (.iconst 0, 1) := by decide +kernel
theorem dX12_costOf_45 : decode cX12_costOf 45 = .ok (.goto 17, 3) := by decide +kernel
theorem dX12_costOf_48 : decode cX12_costOf 48 = .ok (.iload 5, 2) := by decide +kernel
theorem dX12_costOf_50 : decode cX12_costOf 50 = .ok (.bipush 99, 2) := by decide +kernel
theorem dX12_costOf_52 : decode cX12_costOf 52 = .ok (.if_icmp .le 8, 3) := by decide +kernel
theorem dX12_costOf_55 : decode cX12_costOf 55 = .ok (.bipush 99, 2) := by decide +kernel
theorem dX12_costOf_57 : decode cX12_costOf 57 = .ok (.goto 5, 3) := by decide +kernel
theorem dX12_costOf_60 : decode cX12_costOf 60 = .ok (.iload 5, 2) := by decide +kernel
theorem dX12_costOf_62 : decode cX12_costOf 62 = .ok (.ireturn, 1) := by decide +kernel
set_option maxRecDepth 20000 in
set_option maxHeartbeats 2000000 in
theorem w_X12_costOf_37 {X : CX} {d : Nat} (hd : 3 ≤ d) {g' : G} {rx : Int32} (s0 : Int32) (g : G) (h : f_X12_costOf_37 s0 g = some (rx, g')) : SemF X m_X12_costOf d 37 [] [.int s0] g (some (.int rx)) g' := by
  rw [f_X12_costOf_37] at h
  refine SF_istore [(5, .int s0)] 39 dX12_costOf_37 (by decide) rfl rfl ?_
  refine SF_iload 0 41 dX12_costOf_39 rfl rfl ?_
  refine SF_ifge 48 44 dX12_costOf_41 rfl rfl (fun c1 => ?_) (fun c1 => ?_)
  · have h := ite_t c1 h
    refine SF_iload 0 50 dX12_costOf_48 rfl rfl ?_
    refine SF_bipush (99 : Int32) 52 dX12_costOf_50 rfl rfl ?_
    refine SF_icle 60 55 dX12_costOf_52 rfl rfl (fun c2 => ?_) (fun c2 => ?_)
    · have h := ite_t c2 h
      refine SF_iload 0 62 dX12_costOf_60 rfl rfl ?_
      exact RT_i rfl dX12_costOf_62 h
    · have h := ite_f c2 h
      refine SF_bipush (99 : Int32) 57 dX12_costOf_55 rfl rfl ?_
      refine SF_goto 62 dX12_costOf_57 rfl ?_
      exact RT_i rfl dX12_costOf_62 h
  · have h := ite_f c1 h
    refine SF_iconst (0 : Int32) 45 dX12_costOf_44 rfl rfl ?_
    refine SF_goto 62 dX12_costOf_45 rfl ?_
    exact RT_i rfl dX12_costOf_62 h

set_option maxRecDepth 20000 in
set_option maxHeartbeats 2000000 in
theorem w_X12_costOf {X : CX} {d : Nat} (hd : 3 ≤ d) (l0 : Nat) (l1 : Int32) (l2 : Int32) (l3 : Int32) (l4 : Int32) (g g' : G) (rx : Int32) (k_l0 : KD g l0 12) (h : f_X12_costOf l0 l1 l2 l3 l4 g = some (rx, g')) : Sem X m_X12_costOf d [.ref (ad X l0), .int l1, .int l2, .int l3, .int l4] g (some (.int rx)) g' := by
  refine Sem_of (lo := [(0, .ref (ad X l0)), (1, .int l1), (2, .int l2), (3, .int l3), (4, .int l4)]) (by decide +kernel) rfl (Nat.le_of_ble_eq_true rfl) ?_
  rw [f_X12_costOf] at h
  refine SF_iload_n 3 1 dX12_costOf_0 rfl rfl rfl ?_
  refine SF_iload 4 3 dX12_costOf_1 rfl rfl ?_
  refine SF_icne 8 6 dX12_costOf_3 rfl rfl (fun c1 => ?_) (fun c1 => ?_)
  · have h := ite_f c1 h
    refine SF_aload_n 0 9 dX12_costOf_8 rfl rfl rfl ?_
    obtain ⟨b2, r3, h⟩ := dr_some h
    refine SF_getR 12 fl_X12_13 dX12_costOf_9 k_l0.1 r3 rfl ?_
    refine SF_iconst (5 : Int32) 13 dX12_costOf_12 rfl rfl ?_
    obtain ⟨k4, h⟩ := gdK_some h
    obtain ⟨i5, h⟩ := gdI_some h
    refine SF_iald 14 dX12_costOf_13 k4.1 i5 rfl ?_
    refine SF_ifne 27 17 dX12_costOf_14 rfl rfl (fun c6 => ?_) (fun c6 => ?_)
    · have h := ite_f c6 h
      refine SF_aload_n 0 28 dX12_costOf_27 rfl rfl rfl ?_
      refine SF_iconst (1 : Int32) 29 dX12_costOf_28 rfl rfl ?_
      refine SF_iload_n 1 30 dX12_costOf_29 rfl rfl rfl ?_
      refine SF_iload_n 2 31 dX12_costOf_30 rfl rfl rfl ?_
      refine SF_iload_n 3 32 dX12_costOf_31 rfl rfl rfl ?_
      refine SF_iload 4 34 dX12_costOf_32 rfl rfl ?_
      obtain ⟨v7, g8, q9, h⟩ := bd_some h
      have s10 := w_X12_reckons (X := X) (Nat.le_refl 2) l0 (1 : Int32) l1 l2 l3 l4 g g8 v7 k_l0 q9
      refine SF_callVi 37 mi_X12_reckons ml_X12_234 dX12_costOf_34 (Nat.le_trans (by decide) hd) s10 k_l0.1 rfl rfl (Nat.le_of_ble_eq_true rfl) rfl ?_
      have k_l0 := k_l0.ext s10.1
      have k4 := k4.ext s10.1
      refine SF_sub [] rfl ?_
      exact w_X12_costOf_37 hd v7 g8  h
    · have h := ite_t c6 h
      refine SF_aload_n 0 18 dX12_costOf_17 rfl rfl rfl ?_
      refine SF_iload_n 3 19 dX12_costOf_18 rfl rfl rfl ?_
      refine SF_iload 4 21 dX12_costOf_19 rfl rfl ?_
      obtain ⟨v11, g12, q13, h⟩ := bd_some h
      have s14 := w_X12_apart (X := X) (Nat.le_refl 1) l0 l3 l4 g g12 v11 k_l0 q13
      refine SF_callVi 24 mi_X12_apart ml_X12_208 dX12_costOf_21 (Nat.le_trans (by decide) hd) s14 k_l0.1 rfl rfl (Nat.le_of_ble_eq_true rfl) rfl ?_
      have k_l0 := k_l0.ext s14.1
      have k4 := k4.ext s14.1
      refine SF_goto 37 dX12_costOf_24 rfl ?_
      refine SF_sub [] rfl ?_
      exact w_X12_costOf_37 hd v11 g12  h
  · have h := ite_t c1 h
    refine SF_iconst (0 : Int32) 7 dX12_costOf_6 rfl rfl ?_
    exact RT_i rfl dX12_costOf_7 h

theorem dX12_costNow_0 : decode cX12_costNow 0 = .ok (.aload_n 0, 1) := by decide +kernel
theorem dX12_costNow_1 : decode cX12_costNow 1 = .ok (.iload_n 1, 1) := by decide +kernel
theorem dX12_costNow_2 : decode cX12_costNow 2 = .ok (.iload_n 2, 1) := by decide +kernel
theorem dX12_costNow_3 : decode cX12_costNow 3 = .ok (.aload_n 0, 1) := by decide +kernel
theorem dX12_costNow_4 : decode cX12_costNow 4 = .ok (.iload_n 1, 1) := by decide +kernel
theorem dX12_costNow_5 : decode cX12_costNow 5 = .ok (.iload_n 2, 1) := by decide +kernel
theorem dX12_costNow_6 : decode cX12_costNow 6 = .ok (.invokevirtual 205, 3) := by decide +kernel
theorem dX12_costNow_9 : decode cX12_costNow 9 = .ok (.aload_n 0, 1) := by decide +kernel
theorem dX12_costNow_10 : decode cX12_costNow 10 = .ok (.getfield 241, 3) := by decide +kernel
theorem dX12_costNow_13 : decode cX12_costNow 13 = .ok (.invokevirtual 274, 3) := by decide +kernel
theorem dX12_costNow_16 : decode cX12_costNow 16 = .ok (.aload_n 0, 1) := by decide +kernel
theorem dX12_costNow_17 : decode cX12_costNow 17 = .ok (.iload_n 1, 1) := by decide +kernel
theorem dX12_costNow_18 : decode cX12_costNow 18 = .ok (.iconst 1, 1) := by decide +kernel
theorem dX12_costNow_19 : decode cX12_costNow 19 = .ok (.iload_n 2, 1) := by decide +kernel
theorem dX12_costNow_20 : decode cX12_costNow 20 = .ok (.isub, 1) := by decide +kernel
theorem dX12_costNow_21 : decode cX12_costNow 21 = .ok (.aload_n 0, 1) := by decide +kernel
theorem dX12_costNow_22 : decode cX12_costNow 22 = .ok (.iload_n 1, 1) := by decide +kernel
theorem dX12_costNow_23 : decode cX12_costNow 23 = .ok (.iconst 1, 1) := by decide +kernel
theorem dX12_costNow_24 : decode cX12_costNow 24 = .ok (.iload_n 2, 1) := by decide +kernel
theorem dX12_costNow_25 : decode cX12_costNow 25 = .ok (.isub, 1) := by decide +kernel
theorem dX12_costNow_26 : decode cX12_costNow 26 = .ok (.invokevirtual 205, 3) := by decide +kernel
theorem dX12_costNow_29 : decode cX12_costNow 29 = .ok (.aload_n 0, 1) := by decide +kernel
theorem dX12_costNow_30 : decode cX12_costNow 30 = .ok (.getfield 252, 3) := by decide +kernel
theorem dX12_costNow_33 : decode cX12_costNow 33 = .ok (.invokevirtual 274, 3) := by decide +kernel
theorem dX12_costNow_36 : decode cX12_costNow 36 = .ok (.iadd, 1) := by decide +kernel
theorem dX12_costNow_37 : decode cX12_costNow 37 = .ok (.ireturn, 1) := by decide +kernel
set_option maxRecDepth 20000 in
set_option maxHeartbeats 2000000 in
theorem w_X12_costNow {X : CX} {d : Nat} (hd : 4 ≤ d) (l0 : Nat) (l1 : Int32) (l2 : Int32) (g g' : G) (rx : Int32) (k_l0 : KD g l0 12) (h : f_X12_costNow l0 l1 l2 g = some (rx, g')) : Sem X m_X12_costNow d [.ref (ad X l0), .int l1, .int l2] g (some (.int rx)) g' := by
  refine Sem_of (lo := [(0, .ref (ad X l0)), (1, .int l1), (2, .int l2)]) (by decide +kernel) rfl (Nat.le_of_ble_eq_true rfl) ?_
  rw [f_X12_costNow] at h
  refine SF_aload_n 0 1 dX12_costNow_0 rfl rfl rfl ?_
  refine SF_iload_n 1 2 dX12_costNow_1 rfl rfl rfl ?_
  refine SF_iload_n 2 3 dX12_costNow_2 rfl rfl rfl ?_
  refine SF_aload_n 0 4 dX12_costNow_3 rfl rfl rfl ?_
  refine SF_iload_n 1 5 dX12_costNow_4 rfl rfl rfl ?_
  refine SF_iload_n 2 6 dX12_costNow_5 rfl rfl rfl ?_
  obtain ⟨v1, g2, q3, h⟩ := bd_some h
  have s4 := w_X12_twinOf (X := X) (Nat.le_refl 0) l0 l1 l2 g g2 v1 k_l0 q3
  refine SF_callVi 9 mi_X12_twinOf ml_X12_205 dX12_costNow_6 (Nat.le_trans (by decide) hd) s4 k_l0.1 rfl rfl (Nat.le_of_ble_eq_true rfl) rfl ?_
  have k_l0 := k_l0.ext s4.1
  refine SF_aload_n 0 10 dX12_costNow_9 rfl rfl rfl ?_
  refine SF_getI 13 fl_X12_241 dX12_costNow_10 k_l0.1 rfl ?_
  obtain ⟨v5, g6, q7, h⟩ := bd_some h
  have s8 := w_X12_costOf (X := X) (Nat.le_refl 3) l0 l1 l2 v1 (gI g2 l0 17) g2 g6 v5 k_l0 q7
  refine SF_callVi 16 mi_X12_costOf ml_X12_274 dX12_costNow_13 (Nat.le_trans (by decide) hd) s8 k_l0.1 rfl rfl (Nat.le_of_ble_eq_true rfl) rfl ?_
  have k_l0 := k_l0.ext s8.1
  refine SF_aload_n 0 17 dX12_costNow_16 rfl rfl rfl ?_
  refine SF_iload_n 1 18 dX12_costNow_17 rfl rfl rfl ?_
  refine SF_iconst (1 : Int32) 19 dX12_costNow_18 rfl rfl ?_
  refine SF_iload_n 2 20 dX12_costNow_19 rfl rfl rfl ?_
  refine SF_isub 21 dX12_costNow_20 rfl ?_
  refine SF_aload_n 0 22 dX12_costNow_21 rfl rfl rfl ?_
  refine SF_iload_n 1 23 dX12_costNow_22 rfl rfl rfl ?_
  refine SF_iconst (1 : Int32) 24 dX12_costNow_23 rfl rfl ?_
  refine SF_iload_n 2 25 dX12_costNow_24 rfl rfl rfl ?_
  refine SF_isub 26 dX12_costNow_25 rfl ?_
  obtain ⟨v9, g10, q11, h⟩ := bd_some h
  have s12 := w_X12_twinOf (X := X) (Nat.le_refl 0) l0 l1 ((1 : Int32) - l2) g6 g10 v9 k_l0 q11
  refine SF_callVi 29 mi_X12_twinOf ml_X12_205 dX12_costNow_26 (Nat.le_trans (by decide) hd) s12 k_l0.1 rfl rfl (Nat.le_of_ble_eq_true rfl) rfl ?_
  have k_l0 := k_l0.ext s12.1
  refine SF_aload_n 0 30 dX12_costNow_29 rfl rfl rfl ?_
  refine SF_getI 33 fl_X12_252 dX12_costNow_30 k_l0.1 rfl ?_
  obtain ⟨v13, g14, q15, h⟩ := bd_some h
  have s16 := w_X12_costOf (X := X) (Nat.le_refl 3) l0 l1 ((1 : Int32) - l2) v9 (gI g10 l0 18) g10 g14 v13 k_l0 q15
  refine SF_callVi 36 mi_X12_costOf ml_X12_274 dX12_costNow_33 (Nat.le_trans (by decide) hd) s16 k_l0.1 rfl rfl (Nat.le_of_ble_eq_true rfl) rfl ?_
  have k_l0 := k_l0.ext s16.1
  refine SF_iadd 37 dX12_costNow_36 rfl ?_
  exact RT_i rfl dX12_costNow_37 h

theorem dX12_by_0 : decode cX12_by 0 = .ok (.aload_n 0, 1) := by decide +kernel
theorem dX12_by_1 : decode cX12_by 1 = .ok (.iconst 0, 1) := by decide +kernel
theorem dX12_by_2 : decode cX12_by 2 = .ok (.putfield 1, 3) := by decide +kernel
theorem dX12_by_5 : decode cX12_by 5 = .ok (.iload 4, 2) := by decide +kernel
theorem dX12_by_7 : decode cX12_by 7 = .ok (.i2l, 1) := by decide +kernel
theorem dX12_by_8 : decode cX12_by 8 = .ok (.lconst 0, 1) := by decide +kernel
theorem dX12_by_9 : decode cX12_by 9 = .ok (.ldc2_w 259, 3) := by decide +kernel
theorem dX12_by_12 : decode cX12_by 12 = .ok (.invokestatic 139, 3) := by decide +kernel
theorem dX12_by_15 : decode cX12_by 15 = .ok (.ifCond .ne 6, 3) := by decide +kernel
theorem dX12_by_18 : decode cX12_by 18 = .ok (.bipush (-2), 2) := by decide +kernel
theorem dX12_by_20 : decode cX12_by 20 = .ok (.ireturn, 1) := by decide +kernel
theorem dX12_by_21 : decode cX12_by 21 = .ok (.aload_n 0, 1) := by decide +kernel
theorem dX12_by_22 : decode cX12_by 22 = .ok (.iload_n 1, 1) := by decide +kernel
theorem dX12_by_23 : decode cX12_by 23 = .ok (.i2l, 1) := by decide +kernel
theorem dX12_by_24 : decode cX12_by 24 = .ok (.iload_n 2, 1) := by decide +kernel
theorem dX12_by_25 : decode cX12_by 25 = .ok (.i2l, 1) := by decide +kernel
theorem dX12_by_26 : decode cX12_by 26 = .ok (.iload_n 3, 1) := by decide +kernel
theorem dX12_by_27 : decode cX12_by 27 = .ok (.i2l, 1) := by decide +kernel
theorem dX12_by_28 : decode cX12_by 28 = .ok (.invokevirtual 267, 3) := by decide +kernel
theorem dX12_by_31 : decode cX12_by 31 = .ok (.ifCond .eq 6, 3) := by decide +kernel
theorem dX12_by_34 : decode cX12_by 34 = .ok (.bipush (-5), 2) := by decide +kernel
theorem dX12_by_36 : decode cX12_by 36 = .ok (.ireturn, 1) := by decide +kernel
theorem dX12_by_37 : decode cX12_by 37 = .ok (.iload 4, 2) := by decide +kernel
theorem dX12_by_39 : decode cX12_by 39 = .ok (.iconst 2, 1) := by decide +kernel
theorem dX12_by_40 : decode cX12_by 40 = .ok (.if_icmp .ge 21, 3) := by decide +kernel
theorem dX12_by_43 : decode cX12_by 43 = .ok (.iload 4, 2) := by decide +kernel
theorem dX12_by_45 : decode cX12_by 45 = .ok (.iload_n 2, 1) := by decide +kernel
theorem dX12_by_46 : decode cX12_by 46 = .ok (.if_icmp .ne 10, 3) := by decide +kernel
theorem dX12_by_49 : decode cX12_by 49 = .ok (.aload_n 0, 1) := by decide +kernel
theorem dX12_by_50 : decode cX12_by 50 = .ok (.getfield 241, 3) := by decide +kernel
theorem dX12_by_53 : decode cX12_by 53 = .ok (.goto 7, 3) := by decide +kernel
theorem dX12_by_56 : decode cX12_by 56 = .ok (.aload_n 0, 1) := by decide +kernel
theorem dX12_by_57 : decode cX12_by 57 = .ok (.getfield 252, 3) := by decide +kernel
theorem dX12_by_60 : decode cX12_by 60 = .ok (.ireturn, 1) := by decide +kernel
theorem dX12_by_61 : decode cX12_by 61 = .ok (.iload 4, 2) := by decide +kernel
theorem dX12_by_63 : decode cX12_by 63 = .ok (.iconst 2, 1) := by decide +kernel
theorem dX12_by_64 : decode cX12_by 64 = .ok (.if_icmp .ne 22, 3) := by decide +kernel
theorem dX12_by_67 : decode cX12_by 67 = .ok (.aload_n 0, 1) := by decide +kernel
theorem dX12_by_68 : decode cX12_by 68 = .ok (.aload_n 0, 1) := by decide +kernel
theorem dX12_by_69 : decode cX12_by 69 = .ok (.iload_n 1, 1) := by decide +kernel
theorem dX12_by_70 : decode cX12_by 70 = .ok (.iconst 1, 1) := by decide +kernel
theorem dX12_by_71 : decode cX12_by 71 = .ok (.iload_n 2, 1) := by decide +kernel
theorem dX12_by_72 : decode cX12_by 72 = .ok (.isub, 1) := by decide +kernel
theorem dX12_by_73 : decode cX12_by 73 = .ok (.invokevirtual 205, 3) := by decide +kernel
theorem dX12_by_76 : decode cX12_by 76 = .ok (.aload_n 0, 1) := by decide +kernel
theorem dX12_by_77 : decode cX12_by 77 = .ok (.getfield 252, 3) := by decide +kernel
theorem dX12_by_80 : decode cX12_by 80 = .ok (.invokevirtual 208, 3) := by decide +kernel
theorem dX12_by_83 : decode cX12_by 83 = .ok (.goto 9, 3) := by decide +kernel
theorem dX12_by_86 : decode cX12_by 86 = .ok (.aload_n 0, 1) := by decide +kernel
theorem dX12_by_87 : decode cX12_by 87 = .ok (.iload_n 1, 1) := by decide +kernel
theorem dX12_by_88 : decode cX12_by 88 = .ok (.iload_n 2, 1) := by decide +kernel
theorem dX12_by_89 : decode cX12_by 89 = .ok (.invokevirtual 271, 3) := by decide +kernel
theorem dX12_by_92 : decode cX12_by 92 = .ok (.ireturn, 1) := by decide +kernel
set_option maxRecDepth 20000 in
set_option maxHeartbeats 2000000 in
theorem w_X12_by {X : CX} {d : Nat} (hd : 6 ≤ d) (l0 : Nat) (l1 : Int32) (l2 : Int32) (l3 : Int32) (l4 : Int32) (g g' : G) (rx : Int32) (k_l0 : KD g l0 12) (h : f_X12_by l0 l1 l2 l3 l4 g = some (rx, g')) : Sem X m_X12_by d [.ref (ad X l0), .int l1, .int l2, .int l3, .int l4] g (some (.int rx)) g' := by
  refine Sem_of (lo := [(0, .ref (ad X l0)), (1, .int l1), (2, .int l2), (3, .int l3), (4, .int l4)]) (by decide +kernel) rfl (Nat.le_of_ble_eq_true rfl) ?_
  rw [f_X12_by] at h
  refine SF_aload_n 0 1 dX12_by_0 rfl rfl rfl ?_
  refine SF_iconst (0 : Int32) 2 dX12_by_1 rfl rfl ?_
  refine SF_putI 5 fl_X12_1 dX12_by_2 k_l0.1 (fn_int _) (Or.inl rfl) rfl ?_
  obtain ⟨g1, e2, h⟩ := lg_some h
  rw [← e2]
  have k_l0 := KD.eq e2 k_l0
  refine SF_iload 4 7 dX12_by_5 rfl rfl ?_
  refine SF_i2l 8 dX12_by_7 rfl ?_
  refine SF_lconst (0 : Int64) 9 dX12_by_8 rfl rfl ?_
  refine SF_ldc2 12 dX12_by_9 kl_X12_259 rfl ?_
  obtain ⟨v3, g4, q5, h⟩ := bd_some h
  have s6 := w_X12_within (X := X) (Nat.le_refl 0) (l4.toInt64) (0 : Int64) (3 : Int64) g1 g4 v3 q5
  refine SF_callSb 15 mi_X12_within ml_X12_139 dX12_by_12 (Nat.le_trans (by decide) hd) s6 rfl rfl (Nat.le_of_ble_eq_true rfl) rfl ?_
  have k_l0 := k_l0.ext s6.1
  refine SF_ifne 21 18 dX12_by_15 rfl rfl (fun c7 => ?_) (fun c7 => ?_)
  · have h := ite_f c7 h
    refine SF_aload_n 0 22 dX12_by_21 rfl rfl rfl ?_
    refine SF_iload_n 1 23 dX12_by_22 rfl rfl rfl ?_
    refine SF_i2l 24 dX12_by_23 rfl ?_
    refine SF_iload_n 2 25 dX12_by_24 rfl rfl rfl ?_
    refine SF_i2l 26 dX12_by_25 rfl ?_
    refine SF_iload_n 3 27 dX12_by_26 rfl rfl rfl ?_
    refine SF_i2l 28 dX12_by_27 rfl ?_
    obtain ⟨v8, g9, q10, h⟩ := bd_some h
    have s11 := w_X12_whyLead (X := X) (Nat.le_refl 5) l0 (l1.toInt64) (l2.toInt64) (l3.toInt64) g4 g9 v8 k_l0 q10
    refine SF_callVi 31 mi_X12_whyLead ml_X12_267 dX12_by_28 (Nat.le_trans (by decide) hd) s11 k_l0.1 rfl rfl (Nat.le_of_ble_eq_true rfl) rfl ?_
    have k_l0 := k_l0.ext s11.1
    refine SF_ifeq 37 34 dX12_by_31 rfl rfl (fun c12 => ?_) (fun c12 => ?_)
    · have h := ite_t c12 h
      refine SF_iload 4 39 dX12_by_37 rfl rfl ?_
      refine SF_iconst (2 : Int32) 40 dX12_by_39 rfl rfl ?_
      refine SF_icge 61 43 dX12_by_40 rfl rfl (fun c13 => ?_) (fun c13 => ?_)
      · have h := ite_t c13 h
        refine SF_iload 4 63 dX12_by_61 rfl rfl ?_
        refine SF_iconst (2 : Int32) 64 dX12_by_63 rfl rfl ?_
        refine SF_icne 86 67 dX12_by_64 rfl rfl (fun c14 => ?_) (fun c14 => ?_)
        · have h := ite_f c14 h
          refine SF_aload_n 0 87 dX12_by_86 rfl rfl rfl ?_
          refine SF_iload_n 1 88 dX12_by_87 rfl rfl rfl ?_
          refine SF_iload_n 2 89 dX12_by_88 rfl rfl rfl ?_
          obtain ⟨v15, g16, q17, h⟩ := bd_some h
          have s18 := w_X12_costNow (X := X) (Nat.le_refl 4) l0 l1 l2 g9 g16 v15 k_l0 q17
          refine SF_callVi 92 mi_X12_costNow ml_X12_271 dX12_by_89 (Nat.le_trans (by decide) hd) s18 k_l0.1 rfl rfl (Nat.le_of_ble_eq_true rfl) rfl ?_
          have k_l0 := k_l0.ext s18.1
          exact RT_i rfl dX12_by_92 h
        · have h := ite_t c14 h
          refine SF_aload_n 0 68 dX12_by_67 rfl rfl rfl ?_
          refine SF_aload_n 0 69 dX12_by_68 rfl rfl rfl ?_
          refine SF_iload_n 1 70 dX12_by_69 rfl rfl rfl ?_
          refine SF_iconst (1 : Int32) 71 dX12_by_70 rfl rfl ?_
          refine SF_iload_n 2 72 dX12_by_71 rfl rfl rfl ?_
          refine SF_isub 73 dX12_by_72 rfl ?_
          obtain ⟨v19, g20, q21, h⟩ := bd_some h
          have s22 := w_X12_twinOf (X := X) (Nat.le_refl 0) l0 l1 ((1 : Int32) - l2) g9 g20 v19 k_l0 q21
          refine SF_callVi 76 mi_X12_twinOf ml_X12_205 dX12_by_73 (Nat.le_trans (by decide) hd) s22 k_l0.1 rfl rfl (Nat.le_of_ble_eq_true rfl) rfl ?_
          have k_l0 := k_l0.ext s22.1
          refine SF_aload_n 0 77 dX12_by_76 rfl rfl rfl ?_
          refine SF_getI 80 fl_X12_252 dX12_by_77 k_l0.1 rfl ?_
          obtain ⟨v23, g24, q25, h⟩ := bd_some h
          have s26 := w_X12_apart (X := X) (Nat.le_refl 1) l0 v19 (gI g20 l0 18) g20 g24 v23 k_l0 q25
          refine SF_callVi 83 mi_X12_apart ml_X12_208 dX12_by_80 (Nat.le_trans (by decide) hd) s26 k_l0.1 rfl rfl (Nat.le_of_ble_eq_true rfl) rfl ?_
          have k_l0 := k_l0.ext s26.1
          refine SF_goto 92 dX12_by_83 rfl ?_
          exact RT_i rfl dX12_by_92 h
      · have h := ite_f c13 h
        refine SF_iload 4 45 dX12_by_43 rfl rfl ?_
        refine SF_iload_n 2 46 dX12_by_45 rfl rfl rfl ?_
        refine SF_icne 56 49 dX12_by_46 rfl rfl (fun c27 => ?_) (fun c27 => ?_)
        · have h := ite_f c27 h
          refine SF_aload_n 0 57 dX12_by_56 rfl rfl rfl ?_
          refine SF_getI 60 fl_X12_252 dX12_by_57 k_l0.1 rfl ?_
          exact RT_i rfl dX12_by_60 h
        · have h := ite_t c27 h
          refine SF_aload_n 0 50 dX12_by_49 rfl rfl rfl ?_
          refine SF_getI 53 fl_X12_241 dX12_by_50 k_l0.1 rfl ?_
          refine SF_goto 60 dX12_by_53 rfl ?_
          exact RT_i rfl dX12_by_60 h
    · have h := ite_f c12 h
      refine SF_bipush (-5 : Int32) 36 dX12_by_34 rfl rfl ?_
      exact RT_i rfl dX12_by_36 h
  · have h := ite_t c7 h
    refine SF_bipush (-2 : Int32) 20 dX12_by_18 rfl rfl ?_
    exact RT_i rfl dX12_by_20 h

theorem dX5_keep_0 : decode cX5_keep 0 = .ok (.aload_n 0, 1) := by decide +kernel
theorem dX5_keep_1 : decode cX5_keep 1 = .ok (.getfield 11, 3) := by decide +kernel
theorem dX5_keep_4 : decode cX5_keep 4 = .ok (.aload_n 0, 1) := by decide +kernel
theorem dX5_keep_5 : decode cX5_keep 5 = .ok (.getfield 24, 3) := by decide +kernel
theorem dX5_keep_8 : decode cX5_keep 8 = .ok (.aload_n 0, 1) := by decide +kernel
theorem dX5_keep_9 : decode cX5_keep 9 = .ok (.getfield 20, 3) := by decide +kernel
theorem dX5_keep_12 : decode cX5_keep 12 = .ok (.iadd, 1) := by decide +kernel
theorem dX5_keep_13 : decode cX5_keep 13 = .ok (.bipush 10, 2) := by decide +kernel
theorem dX5_keep_15 : decode cX5_keep 15 = .ok (.irem, 1) := by decide +kernel
theorem dX5_keep_16 : decode cX5_keep 16 = .ok (.aaload, 1) := by decide +kernel
theorem dX5_keep_17 : decode cX5_keep 17 = .ok (.aload_n 1, 1) := by decide +kernel
theorem dX5_keep_18 : decode cX5_keep 18 = .ok (.invokevirtual 27, 3) := by decide +kernel
theorem dX5_keep_21 : decode cX5_keep 21 = .ok (.aload_n 0, 1) := by decide +kernel
theorem dX5_keep_22 : decode cX5_keep 22 = .ok (.getfield 20, 3) := by decide +kernel
theorem dX5_keep_25 : decode cX5_keep 25 = .ok (.bipush 10, 2) := by decide +kernel
theorem dX5_keep_27 : decode cX5_keep 27 = .ok (.if_icmp .ge 16, 3) := by decide +kernel
theorem dX5_keep_30 : decode cX5_keep 30 = .ok (.aload_n 0, 1) := by decide +kernel
theorem dX5_keep_31 : decode cX5_keep 31 = .ok (.dup, 1) := by decide +kernel
theorem dX5_keep_32 : decode cX5_keep 32 = .ok (.getfield 20, 3) := by decide +kernel
theorem dX5_keep_35 : decode cX5_keep 35 = .ok (.iconst 1, 1) := by decide +kernel
theorem dX5_keep_36 : decode cX5_keep 36 = .ok (.iadd, 1) := by decide +kernel
theorem dX5_keep_37 : decode cX5_keep 37 = .ok (.putfield 20, 3) := by decide +kernel
theorem dX5_keep_40 : decode cX5_keep 40 = .ok (.goto 16, 3) := by decide +kernel
theorem dX5_keep_43 : decode cX5_keep 43 = .ok (.aload_n 0, 1) := by decide +kernel
theorem dX5_keep_44 : decode cX5_keep 44 = .ok (.aload_n 0, 1) := by decide +kernel
theorem dX5_keep_45 : decode cX5_keep 45 = .ok (.getfield 24, 3) := by decide +kernel
theorem dX5_keep_48 : decode cX5_keep 48 = .ok (.iconst 1, 1) := by decide +kernel
theorem dX5_keep_49 : decode cX5_keep 49 = .ok (.iadd, 1) := by decide +kernel
theorem dX5_keep_50 : decode cX5_keep 50 = .ok (.bipush 10, 2) := by decide +kernel
theorem dX5_keep_52 : decode cX5_keep 52 = .ok (.irem, 1) := by decide +kernel
theorem dX5_keep_53 : decode cX5_keep 53 = .ok (.putfield 24, 3) := by decide +kernel
theorem dX5_keep_56 : decode cX5_keep 56 = .ok (.return_, 1) := by decide +kernel
set_option maxRecDepth 20000 in
set_option maxHeartbeats 2000000 in
theorem w_X5_keep {X : CX} {d : Nat} (hd : 2 ≤ d) (l0 : Nat) (l1 : Nat) (g g' : G) (rx : Unit) (k_l0 : KD g l0 5) (k_l1 : KD g l1 0) (h : f_X5_keep l0 l1 g = some (rx, g')) : Sem X m_X5_keep d [.ref (ad X l0), .ref (ad X l1)] g none g' := by
  refine Sem_of (lo := [(0, .ref (ad X l0)), (1, .ref (ad X l1))]) (by decide +kernel) rfl (Nat.le_of_ble_eq_true rfl) ?_
  rw [f_X5_keep] at h
  refine SF_aload_n 0 1 dX5_keep_0 rfl rfl rfl ?_
  obtain ⟨b1, r2, h⟩ := dr_some h
  refine SF_getR 4 fl_X5_11 dX5_keep_1 k_l0.1 r2 rfl ?_
  refine SF_aload_n 0 5 dX5_keep_4 rfl rfl rfl ?_
  refine SF_getI 8 fl_X5_24 dX5_keep_5 k_l0.1 rfl ?_
  refine SF_aload_n 0 9 dX5_keep_8 rfl rfl rfl ?_
  refine SF_getI 12 fl_X5_20 dX5_keep_9 k_l0.1 rfl ?_
  refine SF_iadd 13 dX5_keep_12 rfl ?_
  refine SF_bipush (10 : Int32) 15 dX5_keep_13 rfl rfl ?_
  refine SF_irem 16 dX5_keep_15 (by decide) rfl ?_
  obtain ⟨k3, h⟩ := gdK_some h
  obtain ⟨i4, h⟩ := gdI_some h
  obtain ⟨b5, r6, h⟩ := dr_some h
  refine SF_aald 17 dX5_keep_16 k3.1 (Or.inl rfl) i4 r6 rfl ?_
  refine SF_aload_n 1 18 dX5_keep_17 rfl rfl rfl ?_
  obtain ⟨k7, h⟩ := gdK_some h
  obtain ⟨v8, g9, q10, h⟩ := bd_some h
  have s11 := w_X0_copyFrom (X := X) (Nat.le_refl 1) b5 l1 g g9 v8 k7 k_l1 q10
  refine SF_callVv 21 mi_X0_copyFrom ml_X5_27 dX5_keep_18 (Nat.le_trans (by decide) hd) s11 k7.1 rfl rfl (Nat.le_of_ble_eq_true rfl) rfl ?_
  have k_l0 := k_l0.ext s11.1
  have k_l1 := k_l1.ext s11.1
  have k3 := k3.ext s11.1
  have k7 := k7.ext s11.1
  refine SF_aload_n 0 22 dX5_keep_21 rfl rfl rfl ?_
  refine SF_getI 25 fl_X5_20 dX5_keep_22 k_l0.1 rfl ?_
  refine SF_bipush (10 : Int32) 27 dX5_keep_25 rfl rfl ?_
  refine SF_icge 43 30 dX5_keep_27 rfl rfl (fun c12 => ?_) (fun c12 => ?_)
  · have h := ite_t c12 h
    refine SF_aload_n 0 44 dX5_keep_43 rfl rfl rfl ?_
    refine SF_aload_n 0 45 dX5_keep_44 rfl rfl rfl ?_
    refine SF_getI 48 fl_X5_24 dX5_keep_45 k_l0.1 rfl ?_
    refine SF_iconst (1 : Int32) 49 dX5_keep_48 rfl rfl ?_
    refine SF_iadd 50 dX5_keep_49 rfl ?_
    refine SF_bipush (10 : Int32) 52 dX5_keep_50 rfl rfl ?_
    refine SF_irem 53 dX5_keep_52 (by decide) rfl ?_
    refine SF_putI 56 fl_X5_24 dX5_keep_53 k_l0.1 (fn_int _) (Or.inl rfl) rfl ?_
    obtain ⟨g13, e14, h⟩ := lg_some h
    rw [← e14]
    have k_l0 := KD.eq e14 k_l0
    have k_l1 := KD.eq e14 k_l1
    have k3 := KD.eq e14 k3
    have k7 := KD.eq e14 k7
    exact RT_v rfl dX5_keep_56 h
  · have h := ite_f c12 h
    refine SF_aload_n 0 31 dX5_keep_30 rfl rfl rfl ?_
    refine SF_dup 32 dX5_keep_31 rfl rfl ?_
    refine SF_getI 35 fl_X5_20 dX5_keep_32 k_l0.1 rfl ?_
    refine SF_iconst (1 : Int32) 36 dX5_keep_35 rfl rfl ?_
    refine SF_iadd 37 dX5_keep_36 rfl ?_
    refine SF_putI 40 fl_X5_20 dX5_keep_37 k_l0.1 (fn_int _) (Or.inl rfl) rfl ?_
    obtain ⟨g15, e16, h⟩ := lg_some h
    rw [← e16]
    have k_l0 := KD.eq e16 k_l0
    have k_l1 := KD.eq e16 k_l1
    have k3 := KD.eq e16 k3
    have k7 := KD.eq e16 k7
    refine SF_goto 56 dX5_keep_40 rfl ?_
    exact RT_v rfl dX5_keep_56 h

theorem dX11_keepSpare_0 : decode cX11_keepSpare 0 = .ok (.aload_n 0, 1) := by decide +kernel
theorem dX11_keepSpare_1 : decode cX11_keepSpare 1 = .ok (.getfield 102, 3) := by decide +kernel
theorem dX11_keepSpare_4 : decode cX11_keepSpare 4 = .ok (.aload_n 0, 1) := by decide +kernel
theorem dX11_keepSpare_5 : decode cX11_keepSpare 5 = .ok (.getfield 82, 3) := by decide +kernel
theorem dX11_keepSpare_8 : decode cX11_keepSpare 8 = .ok (.invokevirtual 247, 3) := by decide +kernel
theorem dX11_keepSpare_11 : decode cX11_keepSpare 11 = .ok (.aload_n 0, 1) := by decide +kernel
theorem dX11_keepSpare_12 : decode cX11_keepSpare 12 = .ok (.invokevirtual 133, 3) := by decide +kernel
theorem dX11_keepSpare_15 : decode cX11_keepSpare 15 = .ok (.return_, 1) := by decide +kernel
set_option maxRecDepth 20000 in
set_option maxHeartbeats 2000000 in
theorem w_X11_keepSpare {X : CX} {d : Nat} (hd : 3 ≤ d) (l0 : Nat) (g g' : G) (rx : Unit) (k_l0 : KD g l0 11) (h : f_X11_keepSpare l0 g = some (rx, g')) : Sem X m_X11_keepSpare d [.ref (ad X l0)] g none g' := by
  refine Sem_of (lo := [(0, .ref (ad X l0))]) (by decide +kernel) rfl (Nat.le_of_ble_eq_true rfl) ?_
  rw [f_X11_keepSpare] at h
  refine SF_aload_n 0 1 dX11_keepSpare_0 rfl rfl rfl ?_
  obtain ⟨b1, r2, h⟩ := dr_some h
  refine SF_getR 4 fl_X11_102 dX11_keepSpare_1 k_l0.1 r2 rfl ?_
  refine SF_aload_n 0 5 dX11_keepSpare_4 rfl rfl rfl ?_
  obtain ⟨b3, r4, h⟩ := dr_some h
  refine SF_getR 8 fl_X11_82 dX11_keepSpare_5 k_l0.1 r4 rfl ?_
  obtain ⟨k5, h⟩ := gdK_some h
  obtain ⟨k6, h⟩ := gdK_some h
  obtain ⟨v7, g8, q9, h⟩ := bd_some h
  have s10 := w_X5_keep (X := X) (Nat.le_refl 2) b1 b3 g g8 v7 k5 k6 q9
  refine SF_callVv 11 mi_X5_keep ml_X11_247 dX11_keepSpare_8 (Nat.le_trans (by decide) hd) s10 k5.1 rfl rfl (Nat.le_of_ble_eq_true rfl) rfl ?_
  have k_l0 := k_l0.ext s10.1
  have k5 := k5.ext s10.1
  have k6 := k6.ext s10.1
  refine SF_aload_n 0 12 dX11_keepSpare_11 rfl rfl rfl ?_
  obtain ⟨v11, g12, q13, h⟩ := bd_some h
  have s14 := w_X11_forgetWays (X := X) (Nat.le_refl 0) l0 g8 g12 v11 k_l0 q13
  refine SF_callVv 15 mi_X11_forgetWays ml_X11_133 dX11_keepSpare_12 (Nat.le_trans (by decide) hd) s14 k_l0.1 rfl rfl (Nat.le_of_ble_eq_true rfl) rfl ?_
  have k_l0 := k_l0.ext s14.1
  have k5 := k5.ext s14.1
  have k6 := k6.ext s14.1
  exact RT_v rfl dX11_keepSpare_15 h

theorem dX11_lead_0 : decode cX11_lead 0 = .ok (.aload_n 0, 1) := by decide +kernel
theorem dX11_lead_1 : decode cX11_lead 1 = .ok (.getfield 78, 3) := by decide +kernel
theorem dX11_lead_4 : decode cX11_lead 4 = .ok (.aload_n 0, 1) := by decide +kernel
theorem dX11_lead_5 : decode cX11_lead 5 = .ok (.getfield 95, 3) := by decide +kernel
theorem dX11_lead_8 : decode cX11_lead 8 = .ok (.iload_n 1, 1) := by decide +kernel
theorem dX11_lead_9 : decode cX11_lead 9 = .ok (.iload_n 2, 1) := by decide +kernel
theorem dX11_lead_10 : decode cX11_lead 10 = .ok (.iload_n 3, 1) := by decide +kernel
theorem dX11_lead_11 : decode cX11_lead 11 = .ok (.invokevirtual 179, 3) := by decide +kernel
theorem dX11_lead_14 : decode cX11_lead 14 = .ok (.istore 4, 2) := by decide +kernel
theorem dX11_lead_16 : decode cX11_lead 16 = .ok (.iload 4, 2) := by decide +kernel
theorem dX11_lead_18 : decode cX11_lead 18 = .ok (.ifCond .ge 9, 3) := by decide +kernel
theorem dX11_lead_21 : decode cX11_lead 21 = .ok (.bipush (-10), 2) := by decide +kernel
theorem dX11_lead_23 : decode cX11_lead 23 = .ok (.iload 4, 2) := by decide +kernel
theorem dX11_lead_25 : decode cX11_lead 25 = .ok (.iadd, 1) := by decide +kernel
theorem dX11_lead_26 : decode cX11_lead 26 = .ok (.ireturn, 1) := by decide +kernel
theorem dX11_lead_27 : decode cX11_lead 27 = .ok (.aload_n 0, 1) := by decide +kernel
theorem dX11_lead_28 : decode cX11_lead 28 = .ok (.getfield 95, 3) := by decide +kernel
theorem dX11_lead_31 : decode cX11_lead 31 = .ok (.aload_n 0, 1) := by decide +kernel
theorem dX11_lead_32 : decode cX11_lead 32 = .ok (.getfield 78, 3) := by decide +kernel
theorem dX11_lead_35 : decode cX11_lead 35 = .ok (.iload_n 1, 1) := by decide +kernel
theorem dX11_lead_36 : decode cX11_lead 36 = .ok (.invokevirtual 183, 3) := by decide +kernel
theorem dX11_lead_39 : decode cX11_lead 39 = .ok (.iload 4, 2) := by decide +kernel
theorem dX11_lead_41 : decode cX11_lead 41 = .ok (.invokevirtual 190, 3) := by decide +kernel
theorem dX11_lead_44 : decode cX11_lead 44 = .ok (.istore 5, 2) := by decide +kernel
theorem dX11_lead_46 : decode cX11_lead 46 = .ok (.aload_n 0, 1) := by decide +kernel
theorem dX11_lead_47 : decode cX11_lead 47 = .ok (.getfield 82, 3) := by decide +kernel
theorem dX11_lead_50 : decode cX11_lead 50 = .ok (.aload_n 0, 1) := by decide +kernel
theorem dX11_lead_51 : decode cX11_lead 51 = .ok (.getfield 78, 3) := by decide +kernel
theorem dX11_lead_54 : decode cX11_lead 54 = .ok (.invokevirtual 126, 3) := by decide +kernel
theorem dX11_lead_57 : decode cX11_lead 57 = .ok (.aload_n 0, 1) := by decide +kernel
theorem dX11_lead_58 : decode cX11_lead 58 = .ok (.getfield 78, 3) := by decide +kernel
theorem dX11_lead_61 : decode cX11_lead 61 = .ok (.iload_n 1, 1) := by decide +kernel
theorem dX11_lead_62 : decode cX11_lead 62 = .ok (.iload 4, 2) := by decide +kernel
theorem dX11_lead_64 : decode cX11_lead 64 = .ok (.invokevirtual 193, 3) := by decide +kernel
theorem dX11_lead_67 : decode cX11_lead 67 = .ok (.aload_n 0, 1) := by decide +kernel
theorem dX11_lead_68 : decode cX11_lead 68 = .ok (.invokevirtual 196, 3) := by decide +kernel
theorem dX11_lead_71 : decode cX11_lead 71 = .ok (.iload 5, 2) := by decide +kernel
theorem dX11_lead_73 : decode cX11_lead 73 = .ok (.ireturn, 1) := by decide +kernel
set_option maxRecDepth 20000 in
set_option maxHeartbeats 2000000 in
theorem w_X11_lead {X : CX} {d : Nat} (hd : 6 ≤ d) (l0 : Nat) (l1 : Int32) (l2 : Int32) (l3 : Int32) (g g' : G) (rx : Int32) (k_l0 : KD g l0 11) (h : f_X11_lead l0 l1 l2 l3 g = some (rx, g')) : Sem X m_X11_lead d [.ref (ad X l0), .int l1, .int l2, .int l3] g (some (.int rx)) g' := by
  refine Sem_of (lo := [(0, .ref (ad X l0)), (1, .int l1), (2, .int l2), (3, .int l3)]) (by decide +kernel) rfl (Nat.le_of_ble_eq_true rfl) ?_
  rw [f_X11_lead] at h
  refine SF_aload_n 0 1 dX11_lead_0 rfl rfl rfl ?_
  obtain ⟨b1, r2, h⟩ := dr_some h
  refine SF_getR 4 fl_X11_78 dX11_lead_1 k_l0.1 r2 rfl ?_
  refine SF_aload_n 0 5 dX11_lead_4 rfl rfl rfl ?_
  obtain ⟨b3, r4, h⟩ := dr_some h
  refine SF_getR 8 fl_X11_95 dX11_lead_5 k_l0.1 r4 rfl ?_
  refine SF_iload_n 1 9 dX11_lead_8 rfl rfl rfl ?_
  refine SF_iload_n 2 10 dX11_lead_9 rfl rfl rfl ?_
  refine SF_iload_n 3 11 dX11_lead_10 rfl rfl rfl ?_
  obtain ⟨k5, h⟩ := gdK_some h
  obtain ⟨k6, h⟩ := gdK_some h
  obtain ⟨v7, g8, q9, h⟩ := bd_some h
  have s10 := w_X0_wouldBe (X := X) (Nat.le_refl 5) b1 b3 l1 l2 l3 g g8 v7 k5 k6 q9
  refine SF_callVi 14 mi_X0_wouldBe ml_X11_179 dX11_lead_11 (Nat.le_trans (by decide) hd) s10 k5.1 rfl rfl (Nat.le_of_ble_eq_true rfl) rfl ?_
  have k_l0 := k_l0.ext s10.1
  have k5 := k5.ext s10.1
  have k6 := k6.ext s10.1
  refine SF_istore [(4, .int v7), (0, .ref (ad X l0)), (1, .int l1), (2, .int l2), (3, .int l3)] 16 dX11_lead_14 (by decide) rfl rfl ?_
  refine SF_iload 0 18 dX11_lead_16 rfl rfl ?_
  refine SF_ifge 27 21 dX11_lead_18 rfl rfl (fun c11 => ?_) (fun c11 => ?_)
  · have h := ite_t c11 h
    refine SF_aload_n 1 28 dX11_lead_27 rfl rfl rfl ?_
    obtain ⟨b12, r13, h⟩ := dr_some h
    refine SF_getR 31 fl_X11_95 dX11_lead_28 k_l0.1 r13 rfl ?_
    refine SF_aload_n 1 32 dX11_lead_31 rfl rfl rfl ?_
    obtain ⟨b14, r15, h⟩ := dr_some h
    refine SF_getR 35 fl_X11_78 dX11_lead_32 k_l0.1 r15 rfl ?_
    refine SF_iload_n 2 36 dX11_lead_35 rfl rfl rfl ?_
    obtain ⟨k16, h⟩ := gdK_some h
    obtain ⟨v17, g18, q19, h⟩ := bd_some h
    have s20 := w_X0_standOf (X := X) (Nat.le_refl 1) b14 l1 g8 g18 v17 k16 q19
    refine SF_callVi 39 mi_X0_standOf ml_X11_183 dX11_lead_36 (Nat.le_trans (by decide) hd) s20 k16.1 rfl rfl (Nat.le_of_ble_eq_true rfl) rfl ?_
    have k_l0 := k_l0.ext s20.1
    have k5 := k5.ext s20.1
    have k6 := k6.ext s20.1
    have k16 := k16.ext s20.1
    refine SF_iload 0 41 dX11_lead_39 rfl rfl ?_
    obtain ⟨k21, h⟩ := gdK_some h
    obtain ⟨v22, g23, q24, h⟩ := bd_some h
    have s25 := w_X9_costOf (X := X) (Nat.le_refl 3) b12 v17 v7 g18 g23 v22 k21 q24
    refine SF_callVi 44 mi_X9_costOf ml_X11_190 dX11_lead_41 (Nat.le_trans (by decide) hd) s25 k21.1 rfl rfl (Nat.le_of_ble_eq_true rfl) rfl ?_
    have k_l0 := k_l0.ext s25.1
    have k5 := k5.ext s25.1
    have k6 := k6.ext s25.1
    have k16 := k16.ext s25.1
    have k21 := k21.ext s25.1
    refine SF_istore [(5, .int v22), (4, .int v7), (0, .ref (ad X l0)), (1, .int l1), (2, .int l2), (3, .int l3)] 46 dX11_lead_44 (by decide) rfl rfl ?_
    refine SF_aload_n 2 47 dX11_lead_46 rfl rfl rfl ?_
    obtain ⟨b26, r27, h⟩ := dr_some h
    refine SF_getR 50 fl_X11_82 dX11_lead_47 k_l0.1 r27 rfl ?_
    refine SF_aload_n 2 51 dX11_lead_50 rfl rfl rfl ?_
    obtain ⟨b28, r29, h⟩ := dr_some h
    refine SF_getR 54 fl_X11_78 dX11_lead_51 k_l0.1 r29 rfl ?_
    obtain ⟨k30, h⟩ := gdK_some h
    obtain ⟨k31, h⟩ := gdK_some h
    obtain ⟨v32, g33, q34, h⟩ := bd_some h
    have s35 := w_X0_copyFrom (X := X) (Nat.le_refl 1) b26 b28 g23 g33 v32 k30 k31 q34
    refine SF_callVv 57 mi_X0_copyFrom ml_X11_126 dX11_lead_54 (Nat.le_trans (by decide) hd) s35 k30.1 rfl rfl (Nat.le_of_ble_eq_true rfl) rfl ?_
    have k_l0 := k_l0.ext s35.1
    have k5 := k5.ext s35.1
    have k6 := k6.ext s35.1
    have k16 := k16.ext s35.1
    have k21 := k21.ext s35.1
    have k30 := k30.ext s35.1
    have k31 := k31.ext s35.1
    refine SF_aload_n 2 58 dX11_lead_57 rfl rfl rfl ?_
    obtain ⟨b36, r37, h⟩ := dr_some h
    refine SF_getR 61 fl_X11_78 dX11_lead_58 k_l0.1 r37 rfl ?_
    refine SF_iload_n 3 62 dX11_lead_61 rfl rfl rfl ?_
    refine SF_iload 1 64 dX11_lead_62 rfl rfl ?_
    obtain ⟨k38, h⟩ := gdK_some h
    obtain ⟨v39, g40, q41, h⟩ := bd_some h
    have s42 := w_X0_go (X := X) (Nat.le_refl 2) b36 l1 v7 g33 g40 v39 k38 q41
    refine SF_callVv 67 mi_X0_go ml_X11_193 dX11_lead_64 (Nat.le_trans (by decide) hd) s42 k38.1 rfl rfl (Nat.le_of_ble_eq_true rfl) rfl ?_
    have k_l0 := k_l0.ext s42.1
    have k5 := k5.ext s42.1
    have k6 := k6.ext s42.1
    have k16 := k16.ext s42.1
    have k21 := k21.ext s42.1
    have k30 := k30.ext s42.1
    have k31 := k31.ext s42.1
    have k38 := k38.ext s42.1
    refine SF_aload_n 2 68 dX11_lead_67 rfl rfl rfl ?_
    obtain ⟨v43, g44, q45, h⟩ := bd_some h
    have s46 := w_X11_keepSpare (X := X) (Nat.le_refl 3) l0 g40 g44 v43 k_l0 q45
    refine SF_callVv 71 mi_X11_keepSpare ml_X11_196 dX11_lead_68 (Nat.le_trans (by decide) hd) s46 k_l0.1 rfl rfl (Nat.le_of_ble_eq_true rfl) rfl ?_
    have k_l0 := k_l0.ext s46.1
    have k5 := k5.ext s46.1
    have k6 := k6.ext s46.1
    have k16 := k16.ext s46.1
    have k21 := k21.ext s46.1
    have k30 := k30.ext s46.1
    have k31 := k31.ext s46.1
    have k38 := k38.ext s46.1
    refine SF_iload 0 73 dX11_lead_71 rfl rfl ?_
    exact RT_i rfl dX11_lead_73 h
  · have h := ite_f c11 h
    refine SF_bipush (-10 : Int32) 23 dX11_lead_21 rfl rfl ?_
    refine SF_iload 0 25 dX11_lead_23 rfl rfl ?_
    refine SF_iadd 26 dX11_lead_25 rfl ?_
    exact RT_i rfl dX11_lead_26 h

theorem dX12_keeps_0 : decode cX12_keeps 0 = .ok (.iconst 0, 1) := by decide +kernel
theorem dX12_keeps_1 : decode cX12_keeps 1 = .ok (.istore_n 1, 1) := by decide +kernel
theorem dX12_keeps_2 : decode cX12_keeps 2 = .ok (.iload_n 1, 1) := by decide +kernel
theorem dX12_keeps_3 : decode cX12_keeps 3 = .ok (.bipush 51, 2) := by decide +kernel
theorem dX12_keeps_5 : decode cX12_keeps 5 = .ok (.if_icmp .ge 24, 3) := by decide +kernel
theorem dX12_keeps_8 : decode cX12_keeps 8 = .ok (.aload_n 0, 1) := by decide +kernel
theorem dX12_keeps_9 : decode cX12_keeps 9 = .ok (.getfield 36, 3) := by decide +kernel
theorem dX12_keeps_12 : decode cX12_keeps 12 = .ok (.iload_n 1, 1) := by decide +kernel
theorem dX12_keeps_13 : decode cX12_keeps 13 = .ok (.aload_n 0, 1) := by decide +kernel
theorem dX12_keeps_14 : decode cX12_keeps 14 = .ok (.getfield 13, 3) := by decide +kernel
theorem dX12_keeps_17 : decode cX12_keeps 17 = .ok (.bipush 52, 2) := by decide +kernel
theorem dX12_keeps_19 : decode cX12_keeps 19 = .ok (.iload_n 1, 1) := by decide +kernel
theorem dX12_keeps_20 : decode cX12_keeps 20 = .ok (.iadd, 1) := by decide +kernel
theorem dX12_keeps_21 : decode cX12_keeps 21 = .ok (.iaload, 1) := by decide +kernel
theorem dX12_keeps_22 : decode cX12_keeps 22 = .ok (.iastore, 1) := by decide +kernel
theorem dX12_keeps_23 : decode cX12_keeps 23 = .ok (.iinc 1 1, 3) := by decide +kernel
theorem dX12_keeps_26 : decode cX12_keeps 26 = .ok (.goto (-24), 3) := by decide +kernel
theorem dX12_keeps_29 : decode cX12_keeps 29 = .ok (.return_, 1) := by decide +kernel
set_option maxRecDepth 20000 in
set_option maxHeartbeats 2000000 in
theorem w_X12_keeps_2 {X : CX} {d : Nat} (hd : 0 ≤ d) {g' : G} {rx : Unit} : ∀ (n : Nat) (l0 : Nat) (l1 : Int32) (g : G), KD g l0 12 → f_X12_keeps_2 n l0 l1 g = some (rx, g') → SemF X m_X12_keeps d 2 [(0, .ref (ad X l0)), (1, .int l1)] [] g none g' := by
  intro n
  induction n with
  | zero =>
    intro l0 l1 g k_l0 h
    rw [f_X12_keeps_2] at h
    cases h
  | succ n ih =>
  intro l0 l1 g k_l0 h
  rw [f_X12_keeps_2] at h
  refine SF_iload_n 1 3 dX12_keeps_2 rfl rfl rfl ?_
  refine SF_bipush (51 : Int32) 5 dX12_keeps_3 rfl rfl ?_
  refine SF_icge 29 8 dX12_keeps_5 rfl rfl (fun c1 => ?_) (fun c1 => ?_)
  · have h := ite_t c1 h
    exact RT_v rfl dX12_keeps_29 h
  · have h := ite_f c1 h
    refine SF_aload_n 0 9 dX12_keeps_8 rfl rfl rfl ?_
    obtain ⟨b2, r3, h⟩ := dr_some h
    refine SF_getR 12 fl_X12_36 dX12_keeps_9 k_l0.1 r3 rfl ?_
    refine SF_iload_n 1 13 dX12_keeps_12 rfl rfl rfl ?_
    refine SF_aload_n 0 14 dX12_keeps_13 rfl rfl rfl ?_
    obtain ⟨b4, r5, h⟩ := dr_some h
    refine SF_getR 17 fl_X12_13 dX12_keeps_14 k_l0.1 r5 rfl ?_
    refine SF_bipush (52 : Int32) 19 dX12_keeps_17 rfl rfl ?_
    refine SF_iload_n 1 20 dX12_keeps_19 rfl rfl rfl ?_
    refine SF_iadd 21 dX12_keeps_20 rfl ?_
    obtain ⟨k6, h⟩ := gdK_some h
    obtain ⟨i7, h⟩ := gdI_some h
    refine SF_iald 22 dX12_keeps_21 k6.1 i7 rfl ?_
    obtain ⟨k8, h⟩ := gdK_some h
    obtain ⟨i9, h⟩ := gdI_some h
    refine SF_iast 23 dX12_keeps_22 k8.1 i9 rfl ?_
    obtain ⟨g10, e11, h⟩ := lg_some h
    rw [← e11]
    have k_l0 := KD.eq e11 k_l0
    have k6 := KD.eq e11 k6
    have k8 := KD.eq e11 k8
    have r3 := gR_eq e11 r3
    have r5 := gR_eq e11 r5
    have i7 := vp_eq e11 i7
    have i9 := vp_eq e11 i9
    refine SF_iinc 1 (l1 + (1 : Int32)) [(1, .int (l1 + (1 : Int32))), (0, .ref (ad X l0))] 26 dX12_keeps_23 rfl rfl (by decide) rfl rfl ?_
    refine SF_goto 2 dX12_keeps_26 rfl ?_
    refine SF_sub [1, 0] rfl ?_
    exact ih l0 (l1 + (1 : Int32)) g10 k_l0 h

set_option maxRecDepth 20000 in
set_option maxHeartbeats 2000000 in
theorem w_X12_keeps {X : CX} {d : Nat} (hd : 0 ≤ d) (l0 : Nat) (g g' : G) (rx : Unit) (k_l0 : KD g l0 12) (h : f_X12_keeps l0 g = some (rx, g')) : Sem X m_X12_keeps d [.ref (ad X l0)] g none g' := by
  refine Sem_of (lo := [(0, .ref (ad X l0))]) (by decide +kernel) rfl (Nat.le_of_ble_eq_true rfl) ?_
  rw [f_X12_keeps] at h
  refine SF_iconst (0 : Int32) 1 dX12_keeps_0 rfl rfl ?_
  refine SF_istore_n [(1, .int (0 : Int32)), (0, .ref (ad X l0))] 2 dX12_keeps_1 rfl (by decide) rfl rfl ?_
  refine SF_sub [1, 0] rfl ?_
  exact w_X12_keeps_2 hd FU l0 (0 : Int32) g k_l0 h

theorem dX12_leads_0 : decode cX12_leads 0 = .ok (.aload_n 0, 1) := by decide +kernel
theorem dX12_leads_1 : decode cX12_leads 1 = .ok (.dup, 1) := by decide +kernel
theorem dX12_leads_2 : decode cX12_leads 2 = .ok (.getfield 278, 3) := by decide +kernel
theorem dX12_leads_5 : decode cX12_leads 5 = .ok (.iconst 1, 1) := by decide +kernel
theorem dX12_leads_6 : decode cX12_leads 6 = .ok (.aload_n 0, 1) := by decide +kernel
theorem dX12_leads_7 : decode cX12_leads 7 = .ok (.aload_n 0, 1) := by decide +kernel
theorem dX12_leads_8 : decode cX12_leads 8 = .ok (.iload_n 1, 1) := by decide +kernel
theorem dX12_leads_9 : decode cX12_leads 9 = .ok (.iconst 1, 1) := by decide +kernel
theorem dX12_leads_10 : decode cX12_leads 10 = .ok (.iload_n 2, 1) := by decide +kernel
theorem dX12_leads_11 : decode cX12_leads 11 = .ok (.isub, 1) := by decide +kernel
theorem dX12_leads_12 : decode cX12_leads 12 = .ok (.invokevirtual 205, 3) := by decide +kernel
theorem dX12_leads_15 : decode cX12_leads 15 = .ok (.aload_n 0, 1) := by decide +kernel
theorem dX12_leads_16 : decode cX12_leads 16 = .ok (.getfield 252, 3) := by decide +kernel
theorem dX12_leads_19 : decode cX12_leads 19 = .ok (.invokevirtual 208, 3) := by decide +kernel
theorem dX12_leads_22 : decode cX12_leads 22 = .ok (.iadd, 1) := by decide +kernel
theorem dX12_leads_23 : decode cX12_leads 23 = .ok (.iadd, 1) := by decide +kernel
theorem dX12_leads_24 : decode cX12_leads 24 = .ok (.putfield 278, 3) := by decide +kernel
theorem dX12_leads_27 : decode cX12_leads 27 = .ok (.aload_n 0, 1) := by decide +kernel
theorem dX12_leads_28 : decode cX12_leads 28 = .ok (.getfield 13, 3) := by decide +kernel
theorem dX12_leads_31 : decode cX12_leads 31 = .ok (.bipush 88, 2) := by decide +kernel
theorem dX12_leads_33 : decode cX12_leads 33 = .ok (.iconst 2, 1) := by decide +kernel
theorem dX12_leads_34 : decode cX12_leads 34 = .ok (.iload_n 1, 1) := by decide +kernel
theorem dX12_leads_35 : decode cX12_leads 35 = .ok (.imul, 1) := by decide +kernel
theorem dX12_leads_36 : decode cX12_leads 36 = .ok (.iadd, 1) := by decide +kernel
theorem dX12_leads_37 : decode cX12_leads 37 = .ok (.iload_n 2, 1) := by decide +kernel
theorem dX12_leads_38 : decode cX12_leads 38 = .ok (.iadd, 1) := by decide +kernel
theorem dX12_leads_39 : decode cX12_leads 39 = .ok (.aload_n 0, 1) := by decide +kernel
theorem dX12_leads_40 : decode cX12_leads 40 = .ok (.getfield 241, 3) := by decide +kernel
theorem dX12_leads_43 : decode cX12_leads 43 = .ok (.iastore, 1) := by decide +kernel
theorem dX12_leads_44 : decode cX12_leads 44 = .ok (.aload_n 0, 1) := by decide +kernel
theorem dX12_leads_45 : decode cX12_leads 45 = .ok (.getfield 13, 3) := by decide +kernel
theorem dX12_leads_48 : decode cX12_leads 48 = .ok (.bipush 88, 2) := by decide +kernel
theorem dX12_leads_50 : decode cX12_leads 50 = .ok (.iconst 2, 1) := by decide +kernel
theorem dX12_leads_51 : decode cX12_leads 51 = .ok (.iload_n 1, 1) := by decide +kernel
theorem dX12_leads_52 : decode cX12_leads 52 = .ok (.imul, 1) := by decide +kernel
theorem dX12_leads_53 : decode cX12_leads 53 = .ok (.iadd, 1) := by decide +kernel
theorem dX12_leads_54 : decode cX12_leads 54 = .ok (.iconst 1, 1) := by decide +kernel
theorem dX12_leads_55 : decode cX12_leads 55 = .ok (.iadd, 1) := by decide +kernel
theorem dX12_leads_56 : decode cX12_leads 56 = .ok (.iload_n 2, 1) := by decide +kernel
theorem dX12_leads_57 : decode cX12_leads 57 = .ok (.isub, 1) := by decide +kernel
theorem dX12_leads_58 : decode cX12_leads 58 = .ok (.aload_n 0, 1) := by decide +kernel
theorem dX12_leads_59 : decode cX12_leads 59 = .ok (.getfield 252, 3) := by decide +kernel
theorem dX12_leads_62 : decode cX12_leads 62 = .ok (.iastore, 1) := by decide +kernel
theorem dX12_leads_63 : decode cX12_leads 63 = .ok (.aload_n 0, 1) := by decide +kernel
theorem dX12_leads_64 : decode cX12_leads 64 = .ok (.iload_n 1, 1) := by decide +kernel
theorem dX12_leads_65 : decode cX12_leads 65 = .ok (.invokevirtual 211, 3) := by decide +kernel
theorem dX12_leads_68 : decode cX12_leads 68 = .ok (.return_, 1) := by decide +kernel
set_option maxRecDepth 20000 in
set_option maxHeartbeats 2000000 in
theorem w_X12_leads {X : CX} {d : Nat} (hd : 2 ≤ d) (l0 : Nat) (l1 : Int32) (l2 : Int32) (g g' : G) (rx : Unit) (k_l0 : KD g l0 12) (h : f_X12_leads l0 l1 l2 g = some (rx, g')) : Sem X m_X12_leads d [.ref (ad X l0), .int l1, .int l2] g none g' := by
  refine Sem_of (lo := [(0, .ref (ad X l0)), (1, .int l1), (2, .int l2)]) (by decide +kernel) rfl (Nat.le_of_ble_eq_true rfl) ?_
  rw [f_X12_leads] at h
  refine SF_aload_n 0 1 dX12_leads_0 rfl rfl rfl ?_
  refine SF_dup 2 dX12_leads_1 rfl rfl ?_
  refine SF_getI 5 fl_X12_278 dX12_leads_2 k_l0.1 rfl ?_
  refine SF_iconst (1 : Int32) 6 dX12_leads_5 rfl rfl ?_
  refine SF_aload_n 0 7 dX12_leads_6 rfl rfl rfl ?_
  refine SF_aload_n 0 8 dX12_leads_7 rfl rfl rfl ?_
  refine SF_iload_n 1 9 dX12_leads_8 rfl rfl rfl ?_
  refine SF_iconst (1 : Int32) 10 dX12_leads_9 rfl rfl ?_
  refine SF_iload_n 2 11 dX12_leads_10 rfl rfl rfl ?_
  refine SF_isub 12 dX12_leads_11 rfl ?_
  obtain ⟨v1, g2, q3, h⟩ := bd_some h
  have s4 := w_X12_twinOf (X := X) (Nat.le_refl 0) l0 l1 ((1 : Int32) - l2) g g2 v1 k_l0 q3
  refine SF_callVi 15 mi_X12_twinOf ml_X12_205 dX12_leads_12 (Nat.le_trans (by decide) hd) s4 k_l0.1 rfl rfl (Nat.le_of_ble_eq_true rfl) rfl ?_
  have k_l0 := k_l0.ext s4.1
  refine SF_aload_n 0 16 dX12_leads_15 rfl rfl rfl ?_
  refine SF_getI 19 fl_X12_252 dX12_leads_16 k_l0.1 rfl ?_
  obtain ⟨v5, g6, q7, h⟩ := bd_some h
  have s8 := w_X12_apart (X := X) (Nat.le_refl 1) l0 v1 (gI g2 l0 18) g2 g6 v5 k_l0 q7
  refine SF_callVi 22 mi_X12_apart ml_X12_208 dX12_leads_19 (Nat.le_trans (by decide) hd) s8 k_l0.1 rfl rfl (Nat.le_of_ble_eq_true rfl) rfl ?_
  have k_l0 := k_l0.ext s8.1
  refine SF_iadd 23 dX12_leads_22 rfl ?_
  refine SF_iadd 24 dX12_leads_23 rfl ?_
  refine SF_putI 27 fl_X12_278 dX12_leads_24 k_l0.1 (fn_int _) (Or.inl rfl) rfl ?_
  obtain ⟨g9, e10, h⟩ := lg_some h
  rw [← e10]
  have k_l0 := KD.eq e10 k_l0
  refine SF_aload_n 0 28 dX12_leads_27 rfl rfl rfl ?_
  obtain ⟨b11, r12, h⟩ := dr_some h
  refine SF_getR 31 fl_X12_13 dX12_leads_28 k_l0.1 r12 rfl ?_
  refine SF_bipush (88 : Int32) 33 dX12_leads_31 rfl rfl ?_
  refine SF_iconst (2 : Int32) 34 dX12_leads_33 rfl rfl ?_
  refine SF_iload_n 1 35 dX12_leads_34 rfl rfl rfl ?_
  refine SF_imul 36 dX12_leads_35 rfl ?_
  refine SF_iadd 37 dX12_leads_36 rfl ?_
  refine SF_iload_n 2 38 dX12_leads_37 rfl rfl rfl ?_
  refine SF_iadd 39 dX12_leads_38 rfl ?_
  refine SF_aload_n 0 40 dX12_leads_39 rfl rfl rfl ?_
  refine SF_getI 43 fl_X12_241 dX12_leads_40 k_l0.1 rfl ?_
  obtain ⟨k13, h⟩ := gdK_some h
  obtain ⟨i14, h⟩ := gdI_some h
  refine SF_iast 44 dX12_leads_43 k13.1 i14 rfl ?_
  obtain ⟨g15, e16, h⟩ := lg_some h
  rw [← e16]
  have k_l0 := KD.eq e16 k_l0
  have k13 := KD.eq e16 k13
  have r12 := gR_eq e16 r12
  have i14 := vp_eq e16 i14
  refine SF_aload_n 0 45 dX12_leads_44 rfl rfl rfl ?_
  refine SF_getR 48 fl_X12_13 dX12_leads_45 k_l0.1 r12 rfl ?_
  refine SF_bipush (88 : Int32) 50 dX12_leads_48 rfl rfl ?_
  refine SF_iconst (2 : Int32) 51 dX12_leads_50 rfl rfl ?_
  refine SF_iload_n 1 52 dX12_leads_51 rfl rfl rfl ?_
  refine SF_imul 53 dX12_leads_52 rfl ?_
  refine SF_iadd 54 dX12_leads_53 rfl ?_
  refine SF_iconst (1 : Int32) 55 dX12_leads_54 rfl rfl ?_
  refine SF_iadd 56 dX12_leads_55 rfl ?_
  refine SF_iload_n 2 57 dX12_leads_56 rfl rfl rfl ?_
  refine SF_isub 58 dX12_leads_57 rfl ?_
  refine SF_aload_n 0 59 dX12_leads_58 rfl rfl rfl ?_
  refine SF_getI 62 fl_X12_252 dX12_leads_59 k_l0.1 rfl ?_
  obtain ⟨i17, h⟩ := gdI_some h
  refine SF_iast 63 dX12_leads_62 k13.1 i17 rfl ?_
  obtain ⟨g18, e19, h⟩ := lg_some h
  rw [← e19]
  have k_l0 := KD.eq e19 k_l0
  have k13 := KD.eq e19 k13
  have r12 := gR_eq e19 r12
  have i14 := vp_eq e19 i14
  have i17 := vp_eq e19 i17
  refine SF_aload_n 0 64 dX12_leads_63 rfl rfl rfl ?_
  refine SF_iload_n 1 65 dX12_leads_64 rfl rfl rfl ?_
  obtain ⟨v20, g21, q22, h⟩ := bd_some h
  have s23 := w_X12_isDone (X := X) (Nat.le_refl 1) l0 l1 g18 g21 v20 k_l0 q22
  refine SF_callVv 68 mi_X12_isDone ml_X12_211 dX12_leads_65 (Nat.le_trans (by decide) hd) s23 k_l0.1 rfl rfl (Nat.le_of_ble_eq_true rfl) rfl ?_
  have k_l0 := k_l0.ext s23.1
  have k13 := k13.ext s23.1
  exact RT_v rfl dX12_leads_68 h

theorem dX12_notes_0 : decode cX12_notes 0 = .ok (.aload_n 0, 1) := by decide +kernel
theorem dX12_notes_1 : decode cX12_notes 1 = .ok (.getfield 13, 3) := by decide +kernel
theorem dX12_notes_4 : decode cX12_notes 4 = .ok (.bipush 103, 2) := by decide +kernel
theorem dX12_notes_6 : decode cX12_notes 6 = .ok (.iaload, 1) := by decide +kernel
theorem dX12_notes_7 : decode cX12_notes 7 = .ok (.bipush 10, 2) := by decide +kernel
theorem dX12_notes_9 : decode cX12_notes 9 = .ok (.if_icmp .ne 48, 3) := by decide +kernel
theorem dX12_notes_12 : decode cX12_notes 12 = .ok (.iconst 0, 1) := by decide +kernel
theorem dX12_notes_13 : decode cX12_notes 13 = .ok (.istore_n 1, 1) := by decide +kernel
theorem dX12_notes_14 : decode cX12_notes 14 = .ok (.iload_n 1, 1) := by decide +kernel
theorem dX12_notes_15 : decode cX12_notes 15 = .ok (.sipush 459, 3) := by decide +kernel
theorem dX12_notes_18 : decode cX12_notes 18 = .ok (.if_icmp .ge 28, 3) := by decide +kernel
theorem dX12_notes_21 : decode cX12_notes 21 = .ok (.aload_n 0, 1) := by decide +kernel
theorem dX12_notes_22 : decode cX12_notes 22 = .ok (.getfield 13, 3) := by decide +kernel
theorem dX12_notes_25 : decode cX12_notes 25 = .ok (.bipush 104, 2) := by decide +kernel
theorem dX12_notes_27 : decode cX12_notes 27 = .ok (.iload_n 1, 1) := by decide +kernel
theorem dX12_notes_28 : decode cX12_notes 28 = .ok (.iadd, 1) := by decide +kernel
theorem dX12_notes_29 : decode cX12_notes 29 = .ok (.aload_n 0, 1) := by decide +kernel
theorem dX12_notes_30 : decode cX12_notes 30 = .ok (.getfield 13, 3) := by decide +kernel
theorem dX12_notes_33 : decode cX12_notes 33 = .ok (.sipush 155, 3) := by decide +kernel
theorem dX12_notes_36 : decode cX12_notes 36 = .ok (.iload_n 1, 1) := by decide +kernel
theorem dX12_notes_37 : decode cX12_notes 37 = .ok (.iadd, 1) := by decide +kernel
theorem dX12_notes_38 : decode cX12_notes 38 = .ok (.iaload, 1) := by decide +kernel
theorem dX12_notes_39 : decode cX12_notes 39 = .ok (.iastore, 1) := by decide +kernel
theorem dX12_notes_40 : decode cX12_notes 40 = .ok (.iinc 1 1, 3) := by decide +kernel
theorem dX12_notes_43 : decode cX12_notes 43 = .ok (.goto (-29), 3) := by decide +kernel
theorem dX12_notes_46 : decode cX12_notes 46 = .ok (.aload_n 0, 1) := by decide +kernel
theorem dX12_notes_47 : decode cX12_notes 47 = .ok (.getfield 13, 3) := by decide +kernel
theorem dX12_notes_50 : decode cX12_notes 50 = .ok (.bipush 103, 2) := by decide +kernel
theorem dX12_notes_52 : decode cX12_notes 52 = .ok (.dup2, 1) := by decide +kernel
theorem dX12_notes_53 : decode cX12_notes 53 = .ok (.iaload, 1) := by decide +kernel
theorem dX12_notes_54 : decode cX12_notes 54 = .ok (.iconst 1, 1) := by decide +kernel
theorem dX12_notes_55 : decode cX12_notes 55 = .ok (.isub, 1) := by decide +kernel
theorem dX12_notes_56 : decode cX12_notes 56 = .ok (.iastore, 1) := by decide +kernel
theorem dX12_notes_57 : decode cX12_notes 57 = .ok (.iconst 0, 1) := by decide +kernel
theorem dX12_notes_58 : decode cX12_notes 58 = .ok (.istore_n 1, 1) := by decide +kernel
theorem dX12_notes_59 : decode cX12_notes 59 = .ok (.iload_n 1, 1) := by decide +kernel
theorem dX12_notes_60 : decode cX12_notes 60 = .ok (.bipush 51, 2) := by decide +kernel
theorem dX12_notes_62 : decode cX12_notes 62 = .ok (.if_icmp .ge 35, 3) := by decide +kernel
theorem dX12_notes_65 : decode cX12_notes 65 = .ok (.aload_n 0, 1) := by decide +kernel
theorem dX12_notes_66 : decode cX12_notes 66 = .ok (.getfield 13, 3) := by decide +kernel
theorem dX12_notes_69 : decode cX12_notes 69 = .ok (.bipush 104, 2) := by decide +kernel
theorem dX12_notes_71 : decode cX12_notes 71 = .ok (.bipush 51, 2) := by decide +kernel
theorem dX12_notes_73 : decode cX12_notes 73 = .ok (.aload_n 0, 1) := by decide +kernel
theorem dX12_notes_74 : decode cX12_notes 74 = .ok (.getfield 13, 3) := by decide +kernel
theorem dX12_notes_77 : decode cX12_notes 77 = .ok (.bipush 103, 2) := by decide +kernel
theorem dX12_notes_79 : decode cX12_notes 79 = .ok (.iaload, 1) := by decide +kernel
theorem dX12_notes_80 : decode cX12_notes 80 = .ok (.imul, 1) := by decide +kernel
theorem dX12_notes_81 : decode cX12_notes 81 = .ok (.iadd, 1) := by decide +kernel
theorem dX12_notes_82 : decode cX12_notes 82 = .ok (.iload_n 1, 1) := by decide +kernel
theorem dX12_notes_83 : decode cX12_notes 83 = .ok (.iadd, 1) := by decide +kernel
theorem dX12_notes_84 : decode cX12_notes 84 = .ok (.aload_n 0, 1) := by decide +kernel
theorem dX12_notes_85 : decode cX12_notes 85 = .ok (.getfield 36, 3) := by decide +kernel
theorem dX12_notes_88 : decode cX12_notes 88 = .ok (.iload_n 1, 1) := by decide +kernel
theorem dX12_notes_89 : decode cX12_notes 89 = .ok (.iaload, 1) := by decide +kernel
theorem dX12_notes_90 : decode cX12_notes 90 = .ok (.iastore, 1) := by decide +kernel
theorem dX12_notes_91 : decode cX12_notes 91 = .ok (.iinc 1 1, 3) := by decide +kernel
theorem dX12_notes_94 : decode cX12_notes 94 = .ok (.goto (-35), 3) := by decide +kernel
theorem dX12_notes_97 : decode cX12_notes 97 = .ok (.aload_n 0, 1) := by decide +kernel
theorem dX12_notes_98 : decode cX12_notes 98 = .ok (.getfield 13, 3) := by decide +kernel
theorem dX12_notes_101 : decode cX12_notes 101 = .ok (.bipush 103, 2) := by decide +kernel
theorem dX12_notes_103 : decode cX12_notes 103 = .ok (.dup2, 1) := by decide +kernel
theorem dX12_notes_104 : decode cX12_notes 104 = .ok (.iaload, 1) := by decide +kernel
theorem dX12_notes_105 : decode cX12_notes 105 = .ok (.iconst 1, 1) := by decide +kernel
theorem dX12_notes_106 : decode cX12_notes 106 = .ok (.iadd, 1) := by decide +kernel
theorem dX12_notes_107 : decode cX12_notes 107 = .ok (.iastore, 1) := by decide +kernel
theorem dX12_notes_108 : decode cX12_notes 108 = .ok (.return_, 1) := by decide +kernel
set_option maxRecDepth 20000 in
set_option maxHeartbeats 2000000 in
theorem w_X12_notes_59 {X : CX} {d : Nat} (hd : 0 ≤ d) {g' : G} {rx : Unit} : ∀ (n : Nat) (l0 : Nat) (l1 : Int32) (g : G), KD g l0 12 → f_X12_notes_59 n l0 l1 g = some (rx, g') → SemF X m_X12_notes d 59 [(0, .ref (ad X l0)), (1, .int l1)] [] g none g' := by
  intro n
  induction n with
  | zero =>
    intro l0 l1 g k_l0 h
    rw [f_X12_notes_59] at h
    cases h
  | succ n ih =>
  intro l0 l1 g k_l0 h
  rw [f_X12_notes_59] at h
  refine SF_iload_n 1 60 dX12_notes_59 rfl rfl rfl ?_
  refine SF_bipush (51 : Int32) 62 dX12_notes_60 rfl rfl ?_
  refine SF_icge 97 65 dX12_notes_62 rfl rfl (fun c1 => ?_) (fun c1 => ?_)
  · have h := ite_t c1 h
    refine SF_aload_n 0 98 dX12_notes_97 rfl rfl rfl ?_
    obtain ⟨b2, r3, h⟩ := dr_some h
    refine SF_getR 101 fl_X12_13 dX12_notes_98 k_l0.1 r3 rfl ?_
    refine SF_bipush (103 : Int32) 103 dX12_notes_101 rfl rfl ?_
    refine SF_dup2_11 104 dX12_notes_103 rfl rfl rfl ?_
    obtain ⟨k4, h⟩ := gdK_some h
    obtain ⟨i5, h⟩ := gdI_some h
    refine SF_iald 105 dX12_notes_104 k4.1 i5 rfl ?_
    refine SF_iconst (1 : Int32) 106 dX12_notes_105 rfl rfl ?_
    refine SF_iadd 107 dX12_notes_106 rfl ?_
    refine SF_iast 108 dX12_notes_107 k4.1 i5 rfl ?_
    obtain ⟨g6, e7, h⟩ := lg_some h
    rw [← e7]
    have k_l0 := KD.eq e7 k_l0
    have k4 := KD.eq e7 k4
    have r3 := gR_eq e7 r3
    have i5 := vp_eq e7 i5
    exact RT_v rfl dX12_notes_108 h
  · have h := ite_f c1 h
    refine SF_aload_n 0 66 dX12_notes_65 rfl rfl rfl ?_
    obtain ⟨b8, r9, h⟩ := dr_some h
    refine SF_getR 69 fl_X12_13 dX12_notes_66 k_l0.1 r9 rfl ?_
    refine SF_bipush (104 : Int32) 71 dX12_notes_69 rfl rfl ?_
    refine SF_bipush (51 : Int32) 73 dX12_notes_71 rfl rfl ?_
    refine SF_aload_n 0 74 dX12_notes_73 rfl rfl rfl ?_
    refine SF_getR 77 fl_X12_13 dX12_notes_74 k_l0.1 r9 rfl ?_
    refine SF_bipush (103 : Int32) 79 dX12_notes_77 rfl rfl ?_
    obtain ⟨k10, h⟩ := gdK_some h
    obtain ⟨i11, h⟩ := gdI_some h
    refine SF_iald 80 dX12_notes_79 k10.1 i11 rfl ?_
    refine SF_imul 81 dX12_notes_80 rfl ?_
    refine SF_iadd 82 dX12_notes_81 rfl ?_
    refine SF_iload_n 1 83 dX12_notes_82 rfl rfl rfl ?_
    refine SF_iadd 84 dX12_notes_83 rfl ?_
    refine SF_aload_n 0 85 dX12_notes_84 rfl rfl rfl ?_
    obtain ⟨b12, r13, h⟩ := dr_some h
    refine SF_getR 88 fl_X12_36 dX12_notes_85 k_l0.1 r13 rfl ?_
    refine SF_iload_n 1 89 dX12_notes_88 rfl rfl rfl ?_
    obtain ⟨k14, h⟩ := gdK_some h
    obtain ⟨i15, h⟩ := gdI_some h
    refine SF_iald 90 dX12_notes_89 k14.1 i15 rfl ?_
    obtain ⟨i16, h⟩ := gdI_some h
    refine SF_iast 91 dX12_notes_90 k10.1 i16 rfl ?_
    obtain ⟨g17, e18, h⟩ := lg_some h
    rw [← e18]
    have k_l0 := KD.eq e18 k_l0
    have k10 := KD.eq e18 k10
    have k14 := KD.eq e18 k14
    have r9 := gR_eq e18 r9
    have r13 := gR_eq e18 r13
    have i11 := vp_eq e18 i11
    have i15 := vp_eq e18 i15
    have i16 := vp_eq e18 i16
    refine SF_iinc 1 (l1 + (1 : Int32)) [(1, .int (l1 + (1 : Int32))), (0, .ref (ad X l0))] 94 dX12_notes_91 rfl rfl (by decide) rfl rfl ?_
    refine SF_goto 59 dX12_notes_94 rfl ?_
    refine SF_sub [1, 0] rfl ?_
    exact ih l0 (l1 + (1 : Int32)) g17 k_l0 h

set_option maxRecDepth 20000 in
set_option maxHeartbeats 2000000 in
theorem w_X12_notes_57 {X : CX} {d : Nat} (hd : 0 ≤ d) {g' : G} {rx : Unit} (l0 : Nat) (g : G) (k_l0 : KD g l0 12) (h : f_X12_notes_57 l0 g = some (rx, g')) : SemF X m_X12_notes d 57 [(0, .ref (ad X l0))] [] g none g' := by
  rw [f_X12_notes_57] at h
  refine SF_iconst (0 : Int32) 58 dX12_notes_57 rfl rfl ?_
  refine SF_istore_n [(1, .int (0 : Int32)), (0, .ref (ad X l0))] 59 dX12_notes_58 rfl (by decide) rfl rfl ?_
  refine SF_sub [1, 0] rfl ?_
  exact w_X12_notes_59 hd FU l0 (0 : Int32) g k_l0 h

set_option maxRecDepth 20000 in
set_option maxHeartbeats 2000000 in
theorem w_X12_notes_14 {X : CX} {d : Nat} (hd : 0 ≤ d) {g' : G} {rx : Unit} : ∀ (n : Nat) (l0 : Nat) (l1 : Int32) (g : G), KD g l0 12 → f_X12_notes_14 n l0 l1 g = some (rx, g') → SemF X m_X12_notes d 14 [(0, .ref (ad X l0)), (1, .int l1)] [] g none g' := by
  intro n
  induction n with
  | zero =>
    intro l0 l1 g k_l0 h
    rw [f_X12_notes_14] at h
    cases h
  | succ n ih =>
  intro l0 l1 g k_l0 h
  rw [f_X12_notes_14] at h
  refine SF_iload_n 1 15 dX12_notes_14 rfl rfl rfl ?_
  refine SF_sipush (459 : Int32) 18 dX12_notes_15 rfl rfl ?_
  refine SF_icge 46 21 dX12_notes_18 rfl rfl (fun c1 => ?_) (fun c1 => ?_)
  · have h := ite_t c1 h
    refine SF_aload_n 0 47 dX12_notes_46 rfl rfl rfl ?_
    obtain ⟨b2, r3, h⟩ := dr_some h
    refine SF_getR 50 fl_X12_13 dX12_notes_47 k_l0.1 r3 rfl ?_
    refine SF_bipush (103 : Int32) 52 dX12_notes_50 rfl rfl ?_
    refine SF_dup2_11 53 dX12_notes_52 rfl rfl rfl ?_
    obtain ⟨k4, h⟩ := gdK_some h
    obtain ⟨i5, h⟩ := gdI_some h
    refine SF_iald 54 dX12_notes_53 k4.1 i5 rfl ?_
    refine SF_iconst (1 : Int32) 55 dX12_notes_54 rfl rfl ?_
    refine SF_isub 56 dX12_notes_55 rfl ?_
    refine SF_iast 57 dX12_notes_56 k4.1 i5 rfl ?_
    obtain ⟨g6, e7, h⟩ := lg_some h
    rw [← e7]
    have k_l0 := KD.eq e7 k_l0
    have k4 := KD.eq e7 k4
    have r3 := gR_eq e7 r3
    have i5 := vp_eq e7 i5
    refine SF_sub [0] rfl ?_
    exact w_X12_notes_57 hd l0 g6 k_l0 h
  · have h := ite_f c1 h
    refine SF_aload_n 0 22 dX12_notes_21 rfl rfl rfl ?_
    obtain ⟨b8, r9, h⟩ := dr_some h
    refine SF_getR 25 fl_X12_13 dX12_notes_22 k_l0.1 r9 rfl ?_
    refine SF_bipush (104 : Int32) 27 dX12_notes_25 rfl rfl ?_
    refine SF_iload_n 1 28 dX12_notes_27 rfl rfl rfl ?_
    refine SF_iadd 29 dX12_notes_28 rfl ?_
    refine SF_aload_n 0 30 dX12_notes_29 rfl rfl rfl ?_
    refine SF_getR 33 fl_X12_13 dX12_notes_30 k_l0.1 r9 rfl ?_
    refine SF_sipush (155 : Int32) 36 dX12_notes_33 rfl rfl ?_
    refine SF_iload_n 1 37 dX12_notes_36 rfl rfl rfl ?_
    refine SF_iadd 38 dX12_notes_37 rfl ?_
    obtain ⟨k10, h⟩ := gdK_some h
    obtain ⟨i11, h⟩ := gdI_some h
    refine SF_iald 39 dX12_notes_38 k10.1 i11 rfl ?_
    obtain ⟨i12, h⟩ := gdI_some h
    refine SF_iast 40 dX12_notes_39 k10.1 i12 rfl ?_
    obtain ⟨g13, e14, h⟩ := lg_some h
    rw [← e14]
    have k_l0 := KD.eq e14 k_l0
    have k10 := KD.eq e14 k10
    have r9 := gR_eq e14 r9
    have i11 := vp_eq e14 i11
    have i12 := vp_eq e14 i12
    refine SF_iinc 1 (l1 + (1 : Int32)) [(1, .int (l1 + (1 : Int32))), (0, .ref (ad X l0))] 43 dX12_notes_40 rfl rfl (by decide) rfl rfl ?_
    refine SF_goto 14 dX12_notes_43 rfl ?_
    refine SF_sub [1, 0] rfl ?_
    exact ih l0 (l1 + (1 : Int32)) g13 k_l0 h

set_option maxRecDepth 20000 in
set_option maxHeartbeats 2000000 in
theorem w_X12_notes {X : CX} {d : Nat} (hd : 0 ≤ d) (l0 : Nat) (g g' : G) (rx : Unit) (k_l0 : KD g l0 12) (h : f_X12_notes l0 g = some (rx, g')) : Sem X m_X12_notes d [.ref (ad X l0)] g none g' := by
  refine Sem_of (lo := [(0, .ref (ad X l0))]) (by decide +kernel) rfl (Nat.le_of_ble_eq_true rfl) ?_
  rw [f_X12_notes] at h
  refine SF_aload_n 0 1 dX12_notes_0 rfl rfl rfl ?_
  obtain ⟨b1, r2, h⟩ := dr_some h
  refine SF_getR 4 fl_X12_13 dX12_notes_1 k_l0.1 r2 rfl ?_
  refine SF_bipush (103 : Int32) 6 dX12_notes_4 rfl rfl ?_
  obtain ⟨k3, h⟩ := gdK_some h
  obtain ⟨i4, h⟩ := gdI_some h
  refine SF_iald 7 dX12_notes_6 k3.1 i4 rfl ?_
  refine SF_bipush (10 : Int32) 9 dX12_notes_7 rfl rfl ?_
  refine SF_icne 57 12 dX12_notes_9 rfl rfl (fun c5 => ?_) (fun c5 => ?_)
  · have h := ite_f c5 h
    exact w_X12_notes_57 hd l0 g k_l0 h
  · have h := ite_t c5 h
    refine SF_iconst (0 : Int32) 13 dX12_notes_12 rfl rfl ?_
    refine SF_istore_n [(1, .int (0 : Int32)), (0, .ref (ad X l0))] 14 dX12_notes_13 rfl (by decide) rfl rfl ?_
    refine SF_sub [1, 0] rfl ?_
    exact w_X12_notes_14 hd FU l0 (0 : Int32) g k_l0 h

theorem dX12_lead_0 : decode cX12_lead 0 = .ok (.aload_n 0, 1) := by decide +kernel
theorem dX12_lead_1 : decode cX12_lead 1 = .ok (.iconst 0, 1) := by decide +kernel
theorem dX12_lead_2 : decode cX12_lead 2 = .ok (.putfield 1, 3) := by decide +kernel
theorem dX12_lead_5 : decode cX12_lead 5 = .ok (.aload_n 0, 1) := by decide +kernel
theorem dX12_lead_6 : decode cX12_lead 6 = .ok (.iload_n 1, 1) := by decide +kernel
theorem dX12_lead_7 : decode cX12_lead 7 = .ok (.i2l, 1) := by decide +kernel
theorem dX12_lead_8 : decode cX12_lead 8 = .ok (.iload_n 2, 1) := by decide +kernel
theorem dX12_lead_9 : decode cX12_lead 9 = .ok (.i2l, 1) := by decide +kernel
theorem dX12_lead_10 : decode cX12_lead 10 = .ok (.iload_n 3, 1) := by decide +kernel
theorem dX12_lead_11 : decode cX12_lead 11 = .ok (.i2l, 1) := by decide +kernel
theorem dX12_lead_12 : decode cX12_lead 12 = .ok (.invokevirtual 267, 3) := by decide +kernel
theorem dX12_lead_15 : decode cX12_lead 15 = .ok (.istore 4, 2) := by decide +kernel
theorem dX12_lead_17 : decode cX12_lead 17 = .ok (.iload 4, 2) := by decide +kernel
theorem dX12_lead_19 : decode cX12_lead 19 = .ok (.ifCond .eq 9, 3) := by decide +kernel
theorem dX12_lead_22 : decode cX12_lead 22 = .ok (.bipush (-10), 2) := by decide +kernel
theorem dX12_lead_24 : decode cX12_lead 24 = .ok (.iload 4, 2) := by decide +kernel
theorem dX12_lead_26 : decode cX12_lead 26 = .ok (.isub, 1) := by decide +kernel
theorem dX12_lead_27 : decode cX12_lead 27 = .ok (.ireturn, 1) := by decide +kernel
theorem dX12_lead_28 : decode cX12_lead 28 = .ok (.aload_n 0, 1) := by decide +kernel
theorem dX12_lead_29 : decode cX12_lead 29 = .ok (.invokevirtual 281, 3) := by decide +kernel
theorem dX12_lead_32 : decode cX12_lead 32 = .ok (.aload_n 0, 1) := by decide +kernel
theorem dX12_lead_33 : decode cX12_lead 33 = .ok (.iload_n 1, 1) := by decide +kernel
theorem dX12_lead_34 : decode cX12_lead 34 = .ok (.iload_n 2, 1) := by decide +kernel
theorem dX12_lead_35 : decode cX12_lead 35 = .ok (.invokevirtual 271, 3) := by decide +kernel
theorem dX12_lead_38 : decode cX12_lead 38 = .ok (.istore 5, 2) := by decide +kernel
theorem dX12_lead_40 : decode cX12_lead 40 = .ok (.aload_n 0, 1) := by decide +kernel
theorem dX12_lead_41 : decode cX12_lead 41 = .ok (.iload_n 1, 1) := by decide +kernel
theorem dX12_lead_42 : decode cX12_lead 42 = .ok (.iload_n 2, 1) := by decide +kernel
theorem dX12_lead_43 : decode cX12_lead 43 = .ok (.invokevirtual 284, 3) := by decide +kernel
theorem dX12_lead_46 : decode cX12_lead 46 = .ok (.aload_n 0, 1) := by decide +kernel
theorem dX12_lead_47 : decode cX12_lead 47 = .ok (.invokevirtual 288, 3) := by decide +kernel
theorem dX12_lead_50 : decode cX12_lead 50 = .ok (.iload 5, 2) := by decide +kernel
theorem dX12_lead_52 : decode cX12_lead 52 = .ok (.ireturn, 1) := by decide +kernel
set_option maxRecDepth 20000 in
set_option maxHeartbeats 2000000 in
theorem w_X12_lead {X : CX} {d : Nat} (hd : 6 ≤ d) (l0 : Nat) (l1 : Int32) (l2 : Int32) (l3 : Int32) (g g' : G) (rx : Int32) (k_l0 : KD g l0 12) (h : f_X12_lead l0 l1 l2 l3 g = some (rx, g')) : Sem X m_X12_lead d [.ref (ad X l0), .int l1, .int l2, .int l3] g (some (.int rx)) g' := by
  refine Sem_of (lo := [(0, .ref (ad X l0)), (1, .int l1), (2, .int l2), (3, .int l3)]) (by decide +kernel) rfl (Nat.le_of_ble_eq_true rfl) ?_
  rw [f_X12_lead] at h
  refine SF_aload_n 0 1 dX12_lead_0 rfl rfl rfl ?_
  refine SF_iconst (0 : Int32) 2 dX12_lead_1 rfl rfl ?_
  refine SF_putI 5 fl_X12_1 dX12_lead_2 k_l0.1 (fn_int _) (Or.inl rfl) rfl ?_
  obtain ⟨g1, e2, h⟩ := lg_some h
  rw [← e2]
  have k_l0 := KD.eq e2 k_l0
  refine SF_aload_n 0 6 dX12_lead_5 rfl rfl rfl ?_
  refine SF_iload_n 1 7 dX12_lead_6 rfl rfl rfl ?_
  refine SF_i2l 8 dX12_lead_7 rfl ?_
  refine SF_iload_n 2 9 dX12_lead_8 rfl rfl rfl ?_
  refine SF_i2l 10 dX12_lead_9 rfl ?_
  refine SF_iload_n 3 11 dX12_lead_10 rfl rfl rfl ?_
  refine SF_i2l 12 dX12_lead_11 rfl ?_
  obtain ⟨v3, g4, q5, h⟩ := bd_some h
  have s6 := w_X12_whyLead (X := X) (Nat.le_refl 5) l0 (l1.toInt64) (l2.toInt64) (l3.toInt64) g1 g4 v3 k_l0 q5
  refine SF_callVi 15 mi_X12_whyLead ml_X12_267 dX12_lead_12 (Nat.le_trans (by decide) hd) s6 k_l0.1 rfl rfl (Nat.le_of_ble_eq_true rfl) rfl ?_
  have k_l0 := k_l0.ext s6.1
  refine SF_istore [(4, .int v3), (0, .ref (ad X l0)), (1, .int l1), (2, .int l2), (3, .int l3)] 17 dX12_lead_15 (by decide) rfl rfl ?_
  refine SF_iload 0 19 dX12_lead_17 rfl rfl ?_
  refine SF_ifeq 28 22 dX12_lead_19 rfl rfl (fun c7 => ?_) (fun c7 => ?_)
  · have h := ite_t c7 h
    refine SF_aload_n 1 29 dX12_lead_28 rfl rfl rfl ?_
    obtain ⟨v8, g9, q10, h⟩ := bd_some h
    have s11 := w_X12_keeps (X := X) (Nat.le_refl 0) l0 g4 g9 v8 k_l0 q10
    refine SF_callVv 32 mi_X12_keeps ml_X12_281 dX12_lead_29 (Nat.le_trans (by decide) hd) s11 k_l0.1 rfl rfl (Nat.le_of_ble_eq_true rfl) rfl ?_
    have k_l0 := k_l0.ext s11.1
    refine SF_aload_n 1 33 dX12_lead_32 rfl rfl rfl ?_
    refine SF_iload_n 2 34 dX12_lead_33 rfl rfl rfl ?_
    refine SF_iload_n 3 35 dX12_lead_34 rfl rfl rfl ?_
    obtain ⟨v12, g13, q14, h⟩ := bd_some h
    have s15 := w_X12_costNow (X := X) (Nat.le_refl 4) l0 l1 l2 g9 g13 v12 k_l0 q14
    refine SF_callVi 38 mi_X12_costNow ml_X12_271 dX12_lead_35 (Nat.le_trans (by decide) hd) s15 k_l0.1 rfl rfl (Nat.le_of_ble_eq_true rfl) rfl ?_
    have k_l0 := k_l0.ext s15.1
    refine SF_istore [(5, .int v12), (4, .int v3), (0, .ref (ad X l0)), (1, .int l1), (2, .int l2), (3, .int l3)] 40 dX12_lead_38 (by decide) rfl rfl ?_
    refine SF_aload_n 2 41 dX12_lead_40 rfl rfl rfl ?_
    refine SF_iload_n 3 42 dX12_lead_41 rfl rfl rfl ?_
    refine SF_iload_n 4 43 dX12_lead_42 rfl rfl rfl ?_
    obtain ⟨v16, g17, q18, h⟩ := bd_some h
    have s19 := w_X12_leads (X := X) (Nat.le_refl 2) l0 l1 l2 g13 g17 v16 k_l0 q18
    refine SF_callVv 46 mi_X12_leads ml_X12_284 dX12_lead_43 (Nat.le_trans (by decide) hd) s19 k_l0.1 rfl rfl (Nat.le_of_ble_eq_true rfl) rfl ?_
    have k_l0 := k_l0.ext s19.1
    refine SF_aload_n 2 47 dX12_lead_46 rfl rfl rfl ?_
    obtain ⟨v20, g21, q22, h⟩ := bd_some h
    have s23 := w_X12_notes (X := X) (Nat.le_refl 0) l0 g17 g21 v20 k_l0 q22
    refine SF_callVv 50 mi_X12_notes ml_X12_288 dX12_lead_47 (Nat.le_trans (by decide) hd) s23 k_l0.1 rfl rfl (Nat.le_of_ble_eq_true rfl) rfl ?_
    have k_l0 := k_l0.ext s23.1
    refine SF_iload 0 52 dX12_lead_50 rfl rfl ?_
    exact RT_i rfl dX12_lead_52 h
  · have h := ite_f c7 h
    refine SF_bipush (-10 : Int32) 24 dX12_lead_22 rfl rfl ?_
    refine SF_iload 0 26 dX12_lead_24 rfl rfl ?_
    refine SF_isub 27 dX12_lead_26 rfl ?_
    exact RT_i rfl dX12_lead_27 h

theorem dX0_turnWall_0 : decode cX0_turnWall 0 = .ok (.aload_n 0, 1) := by decide +kernel
theorem dX0_turnWall_1 : decode cX0_turnWall 1 = .ok (.getfield 24, 3) := by decide +kernel
theorem dX0_turnWall_4 : decode cX0_turnWall 4 = .ok (.iload_n 1, 1) := by decide +kernel
theorem dX0_turnWall_5 : decode cX0_turnWall 5 = .ok (.invokevirtual 50, 3) := by decide +kernel
theorem dX0_turnWall_8 : decode cX0_turnWall 8 = .ok (.ifCond .ne 5, 3) := by decide +kernel
theorem dX0_turnWall_11 : decode cX0_turnWall 11 = .ok (.iconst (-1), 1) := by decide +kernel
theorem dX0_turnWall_12 : decode cX0_turnWall 12 = .ok (.ireturn, 1) := by decide +kernel
theorem dX0_turnWall_13 : decode cX0_turnWall 13 = .ok (.aload_n 0, 1) := by decide +kernel
theorem dX0_turnWall_14 : decode cX0_turnWall 14 = .ok (.iload_n 1, 1) := by decide +kernel
theorem dX0_turnWall_15 : decode cX0_turnWall 15 = .ok (.invokevirtual 92, 3) := by decide +kernel
theorem dX0_turnWall_18 : decode cX0_turnWall 18 = .ok (.iconst (-1), 1) := by decide +kernel
theorem dX0_turnWall_19 : decode cX0_turnWall 19 = .ok (.if_icmp .eq 6, 3) := by decide +kernel
theorem dX0_turnWall_22 : decode cX0_turnWall 22 = .ok (.bipush (-2), 2) := by decide +kernel
theorem dX0_turnWall_24 : decode cX0_turnWall 24 = .ok (.ireturn, 1) := by decide +kernel
theorem dX0_turnWall_25 : decode cX0_turnWall 25 = .ok (.aload_n 0, 1) := by decide +kernel
theorem dX0_turnWall_26 : decode cX0_turnWall 26 = .ok (.dup, 1) := by decide +kernel
theorem dX0_turnWall_27 : decode cX0_turnWall 27 = .ok (.getfield 28, 3) := by decide +kernel
theorem dX0_turnWall_30 : decode cX0_turnWall 30 = .ok (.lconst 1, 1) := by decide +kernel
theorem dX0_turnWall_31 : decode cX0_turnWall 31 = .ok (.iload_n 1, 1) := by decide +kernel
theorem dX0_turnWall_32 : decode cX0_turnWall 32 = .ok (.lshl, 1) := by decide +kernel
theorem dX0_turnWall_33 : decode cX0_turnWall 33 = .ok (.lxor, 1) := by decide +kernel
theorem dX0_turnWall_34 : decode cX0_turnWall 34 = .ok (.putfield 28, 3) := by decide +kernel
theorem dX0_turnWall_37 : decode cX0_turnWall 37 = .ok (.aload_n 0, 1) := by decide +kernel
theorem dX0_turnWall_38 : decode cX0_turnWall 38 = .ok (.iload_n 1, 1) := by decide +kernel
theorem dX0_turnWall_39 : decode cX0_turnWall 39 = .ok (.invokevirtual 95, 3) := by decide +kernel
theorem dX0_turnWall_42 : decode cX0_turnWall 42 = .ok (.ifCond .eq 7, 3) := by decide +kernel
theorem dX0_turnWall_45 : decode cX0_turnWall 45 = .ok (.iconst 1, 1) := by decide +kernel
theorem dX0_turnWall_46 : decode cX0_turnWall 46 = .ok (.goto 4, 3) := by decide +kernel
theorem dX0_turnWall_49 : decode cX0_turnWall 49 = .ok (.iconst 0, 1) := by decide +kernel
theorem dX0_turnWall_50 : decode cX0_turnWall 50 = .ok (.ireturn, 1) := by decide +kernel
set_option maxRecDepth 20000 in
set_option maxHeartbeats 2000000 in
theorem w_X0_turnWall {X : CX} {d : Nat} (hd : 2 ≤ d) (l0 : Nat) (l1 : Int32) (g g' : G) (rx : Int32) (k_l0 : KD g l0 0) (h : f_X0_turnWall l0 l1 g = some (rx, g')) : Sem X m_X0_turnWall d [.ref (ad X l0), .int l1] g (some (.int rx)) g' := by
  refine Sem_of (lo := [(0, .ref (ad X l0)), (1, .int l1)]) (by decide +kernel) rfl (Nat.le_of_ble_eq_true rfl) ?_
  rw [f_X0_turnWall] at h
  refine SF_aload_n 0 1 dX0_turnWall_0 rfl rfl rfl ?_
  obtain ⟨b1, r2, h⟩ := dr_some h
  refine SF_getR 4 fl_X0_24 dX0_turnWall_1 k_l0.1 r2 rfl ?_
  refine SF_iload_n 1 5 dX0_turnWall_4 rfl rfl rfl ?_
  obtain ⟨k3, h⟩ := gdK_some h
  obtain ⟨v4, g5, q6, h⟩ := bd_some h
  have s7 := w_X7_isCell (X := X) (Nat.le_refl 0) b1 l1 g g5 v4 k3 q6
  refine SF_callVb 8 mi_X7_isCell ml_X0_50 dX0_turnWall_5 (Nat.le_trans (by decide) hd) s7 k3.1 rfl rfl (Nat.le_of_ble_eq_true rfl) rfl ?_
  have k_l0 := k_l0.ext s7.1
  have k3 := k3.ext s7.1
  refine SF_ifne 13 11 dX0_turnWall_8 rfl rfl (fun c8 => ?_) (fun c8 => ?_)
  · have h := ite_f c8 h
    refine SF_aload_n 0 14 dX0_turnWall_13 rfl rfl rfl ?_
    refine SF_iload_n 1 15 dX0_turnWall_14 rfl rfl rfl ?_
    obtain ⟨v9, g10, q11, h⟩ := bd_some h
    have s12 := w_X0_firstPairAt (X := X) (Nat.le_refl 1) l0 l1 g5 g10 v9 k_l0 q11
    refine SF_callVi 18 mi_X0_firstPairAt ml_X0_92 dX0_turnWall_15 (Nat.le_trans (by decide) hd) s12 k_l0.1 rfl rfl (Nat.le_of_ble_eq_true rfl) rfl ?_
    have k_l0 := k_l0.ext s12.1
    have k3 := k3.ext s12.1
    refine SF_iconst (-1 : Int32) 19 dX0_turnWall_18 rfl rfl ?_
    refine SF_iceq 25 22 dX0_turnWall_19 rfl rfl (fun c13 => ?_) (fun c13 => ?_)
    · have h := ite_t c13 h
      refine SF_aload_n 0 26 dX0_turnWall_25 rfl rfl rfl ?_
      refine SF_dup 27 dX0_turnWall_26 rfl rfl ?_
      refine SF_getL 30 fl_X0_28 dX0_turnWall_27 k_l0.1 rfl ?_
      refine SF_lconst (1 : Int64) 31 dX0_turnWall_30 rfl rfl ?_
      refine SF_iload_n 1 32 dX0_turnWall_31 rfl rfl rfl ?_
      refine SF_lshl 33 dX0_turnWall_32 rfl ?_
      refine SF_lxor 34 dX0_turnWall_33 rfl ?_
      refine SF_putL 37 fl_X0_28 dX0_turnWall_34 k_l0.1 (fn_long _) (Or.inl rfl) rfl ?_
      obtain ⟨g14, e15, h⟩ := lg_some h
      rw [← e15]
      have k_l0 := KD.eq e15 k_l0
      have k3 := KD.eq e15 k3
      refine SF_aload_n 0 38 dX0_turnWall_37 rfl rfl rfl ?_
      refine SF_iload_n 1 39 dX0_turnWall_38 rfl rfl rfl ?_
      obtain ⟨v16, g17, q18, h⟩ := bd_some h
      have s19 := w_X0_isWall (X := X) (Nat.le_refl 1) l0 l1 g14 g17 v16 k_l0 q18
      refine SF_callVb 42 mi_X0_isWall ml_X0_95 dX0_turnWall_39 (Nat.le_trans (by decide) hd) s19 k_l0.1 rfl rfl (Nat.le_of_ble_eq_true rfl) rfl ?_
      have k_l0 := k_l0.ext s19.1
      have k3 := k3.ext s19.1
      refine SF_ifeq 49 45 dX0_turnWall_42 rfl rfl (fun c20 => ?_) (fun c20 => ?_)
      · have h := ite_t c20 h
        refine SF_iconst (0 : Int32) 50 dX0_turnWall_49 rfl rfl ?_
        exact RT_i rfl dX0_turnWall_50 h
      · have h := ite_f c20 h
        refine SF_iconst (1 : Int32) 46 dX0_turnWall_45 rfl rfl ?_
        refine SF_goto 50 dX0_turnWall_46 rfl ?_
        exact RT_i rfl dX0_turnWall_50 h
    · have h := ite_f c13 h
      refine SF_bipush (-2 : Int32) 24 dX0_turnWall_22 rfl rfl ?_
      exact RT_i rfl dX0_turnWall_24 h
  · have h := ite_t c8 h
    refine SF_iconst (-1 : Int32) 12 dX0_turnWall_11 rfl rfl ?_
    exact RT_i rfl dX0_turnWall_12 h

theorem dX11_deedAnswer_0 : decode cX11_deedAnswer 0 = .ok (.iload_n 1, 1) := by decide +kernel
theorem dX11_deedAnswer_1 : decode cX11_deedAnswer 1 = .ok (.ifCond .ge 8, 3) := by decide +kernel
theorem dX11_deedAnswer_4 : decode cX11_deedAnswer 4 = .ok (.bipush (-10), 2) := by decide +kernel
theorem dX11_deedAnswer_6 : decode cX11_deedAnswer 6 = .ok (.iload_n 1, 1) := by decide +kernel
theorem dX11_deedAnswer_7 : decode cX11_deedAnswer 7 = .ok (.iadd, 1) := by decide +kernel
theorem dX11_deedAnswer_8 : decode cX11_deedAnswer 8 = .ok (.ireturn, 1) := by decide +kernel
theorem dX11_deedAnswer_9 : decode cX11_deedAnswer 9 = .ok (.aload_n 0, 1) := by decide +kernel
theorem dX11_deedAnswer_10 : decode cX11_deedAnswer 10 = .ok (.invokevirtual 196, 3) := by decide +kernel
theorem dX11_deedAnswer_13 : decode cX11_deedAnswer 13 = .ok (.iload_n 1, 1) := by decide +kernel
theorem dX11_deedAnswer_14 : decode cX11_deedAnswer 14 = .ok (.ireturn, 1) := by decide +kernel
set_option maxRecDepth 20000 in
set_option maxHeartbeats 2000000 in
theorem w_X11_deedAnswer {X : CX} {d : Nat} (hd : 4 ≤ d) (l0 : Nat) (l1 : Int32) (g g' : G) (rx : Int32) (k_l0 : KD g l0 11) (h : f_X11_deedAnswer l0 l1 g = some (rx, g')) : Sem X m_X11_deedAnswer d [.ref (ad X l0), .int l1] g (some (.int rx)) g' := by
  refine Sem_of (lo := [(0, .ref (ad X l0)), (1, .int l1)]) (by decide +kernel) rfl (Nat.le_of_ble_eq_true rfl) ?_
  rw [f_X11_deedAnswer] at h
  refine SF_iload_n 1 1 dX11_deedAnswer_0 rfl rfl rfl ?_
  refine SF_ifge 9 4 dX11_deedAnswer_1 rfl rfl (fun c1 => ?_) (fun c1 => ?_)
  · have h := ite_t c1 h
    refine SF_aload_n 0 10 dX11_deedAnswer_9 rfl rfl rfl ?_
    obtain ⟨v2, g3, q4, h⟩ := bd_some h
    have s5 := w_X11_keepSpare (X := X) (Nat.le_refl 3) l0 g g3 v2 k_l0 q4
    refine SF_callVv 13 mi_X11_keepSpare ml_X11_196 dX11_deedAnswer_10 (Nat.le_trans (by decide) hd) s5 k_l0.1 rfl rfl (Nat.le_of_ble_eq_true rfl) rfl ?_
    have k_l0 := k_l0.ext s5.1
    refine SF_iload_n 1 14 dX11_deedAnswer_13 rfl rfl rfl ?_
    exact RT_i rfl dX11_deedAnswer_14 h
  · have h := ite_f c1 h
    refine SF_bipush (-10 : Int32) 6 dX11_deedAnswer_4 rfl rfl ?_
    refine SF_iload_n 1 7 dX11_deedAnswer_6 rfl rfl rfl ?_
    refine SF_iadd 8 dX11_deedAnswer_7 rfl ?_
    exact RT_i rfl dX11_deedAnswer_8 h

theorem dX11_wall_0 : decode cX11_wall 0 = .ok (.aload_n 0, 1) := by decide +kernel
theorem dX11_wall_1 : decode cX11_wall 1 = .ok (.getfield 82, 3) := by decide +kernel
theorem dX11_wall_4 : decode cX11_wall 4 = .ok (.aload_n 0, 1) := by decide +kernel
theorem dX11_wall_5 : decode cX11_wall 5 = .ok (.getfield 78, 3) := by decide +kernel
theorem dX11_wall_8 : decode cX11_wall 8 = .ok (.invokevirtual 126, 3) := by decide +kernel
theorem dX11_wall_11 : decode cX11_wall 11 = .ok (.aload_n 0, 1) := by decide +kernel
theorem dX11_wall_12 : decode cX11_wall 12 = .ok (.aload_n 0, 1) := by decide +kernel
theorem dX11_wall_13 : decode cX11_wall 13 = .ok (.getfield 78, 3) := by decide +kernel
theorem dX11_wall_16 : decode cX11_wall 16 = .ok (.iload_n 1, 1) := by decide +kernel
theorem dX11_wall_17 : decode cX11_wall 17 = .ok (.invokevirtual 199, 3) := by decide +kernel
theorem dX11_wall_20 : decode cX11_wall 20 = .ok (.invokevirtual 202, 3) := by decide +kernel
theorem dX11_wall_23 : decode cX11_wall 23 = .ok (.ireturn, 1) := by decide +kernel
set_option maxRecDepth 20000 in
set_option maxHeartbeats 2000000 in
theorem w_X11_wall {X : CX} {d : Nat} (hd : 5 ≤ d) (l0 : Nat) (l1 : Int32) (g g' : G) (rx : Int32) (k_l0 : KD g l0 11) (h : f_X11_wall l0 l1 g = some (rx, g')) : Sem X m_X11_wall d [.ref (ad X l0), .int l1] g (some (.int rx)) g' := by
  refine Sem_of (lo := [(0, .ref (ad X l0)), (1, .int l1)]) (by decide +kernel) rfl (Nat.le_of_ble_eq_true rfl) ?_
  rw [f_X11_wall] at h
  refine SF_aload_n 0 1 dX11_wall_0 rfl rfl rfl ?_
  obtain ⟨b1, r2, h⟩ := dr_some h
  refine SF_getR 4 fl_X11_82 dX11_wall_1 k_l0.1 r2 rfl ?_
  refine SF_aload_n 0 5 dX11_wall_4 rfl rfl rfl ?_
  obtain ⟨b3, r4, h⟩ := dr_some h
  refine SF_getR 8 fl_X11_78 dX11_wall_5 k_l0.1 r4 rfl ?_
  obtain ⟨k5, h⟩ := gdK_some h
  obtain ⟨k6, h⟩ := gdK_some h
  obtain ⟨v7, g8, q9, h⟩ := bd_some h
  have s10 := w_X0_copyFrom (X := X) (Nat.le_refl 1) b1 b3 g g8 v7 k5 k6 q9
  refine SF_callVv 11 mi_X0_copyFrom ml_X11_126 dX11_wall_8 (Nat.le_trans (by decide) hd) s10 k5.1 rfl rfl (Nat.le_of_ble_eq_true rfl) rfl ?_
  have k_l0 := k_l0.ext s10.1
  have k5 := k5.ext s10.1
  have k6 := k6.ext s10.1
  refine SF_aload_n 0 12 dX11_wall_11 rfl rfl rfl ?_
  refine SF_aload_n 0 13 dX11_wall_12 rfl rfl rfl ?_
  obtain ⟨b11, r12, h⟩ := dr_some h
  refine SF_getR 16 fl_X11_78 dX11_wall_13 k_l0.1 r12 rfl ?_
  refine SF_iload_n 1 17 dX11_wall_16 rfl rfl rfl ?_
  obtain ⟨k13, h⟩ := gdK_some h
  obtain ⟨v14, g15, q16, h⟩ := bd_some h
  have s17 := w_X0_turnWall (X := X) (Nat.le_refl 2) b11 l1 g8 g15 v14 k13 q16
  refine SF_callVi 20 mi_X0_turnWall ml_X11_199 dX11_wall_17 (Nat.le_trans (by decide) hd) s17 k13.1 rfl rfl (Nat.le_of_ble_eq_true rfl) rfl ?_
  have k_l0 := k_l0.ext s17.1
  have k5 := k5.ext s17.1
  have k6 := k6.ext s17.1
  have k13 := k13.ext s17.1
  obtain ⟨v18, g19, q20, h⟩ := bd_some h
  have s21 := w_X11_deedAnswer (X := X) (Nat.le_refl 4) l0 v14 g15 g19 v18 k_l0 q20
  refine SF_callVi 23 mi_X11_deedAnswer ml_X11_202 dX11_wall_20 (Nat.le_trans (by decide) hd) s21 k_l0.1 rfl rfl (Nat.le_of_ble_eq_true rfl) rfl ?_
  have k_l0 := k_l0.ext s21.1
  have k5 := k5.ext s21.1
  have k6 := k6.ext s21.1
  have k13 := k13.ext s21.1
  exact RT_i rfl dX11_wall_23 h

theorem dX12_whyWall_0 : decode cX12_whyWall 0 = .ok (.aload_n 0, 1) := by decide +kernel
theorem dX12_whyWall_1 : decode cX12_whyWall 1 = .ok (.lload_n 1, 1) := by decide +kernel
theorem dX12_whyWall_2 : decode cX12_whyWall 2 = .ok (.invokevirtual 264, 3) := by decide +kernel
theorem dX12_whyWall_5 : decode cX12_whyWall 5 = .ok (.ifCond .ne 7, 3) := by decide +kernel
theorem dX12_whyWall_8 : decode cX12_whyWall 8 = .ok (.iconst 1, 1) := by decide +kernel
theorem dX12_whyWall_9 : decode cX12_whyWall 9 = .ok (.goto 18, 3) := by decide +kernel
theorem dX12_whyWall_12 : decode cX12_whyWall 12 = .ok (.aload_n 0, 1) := by decide +kernel
theorem dX12_whyWall_13 : decode cX12_whyWall 13 = .ok (.lload_n 1, 1) := by decide +kernel
theorem dX12_whyWall_14 : decode cX12_whyWall 14 = .ok (.l2i, 1) := by decide +kernel
theorem dX12_whyWall_15 : decode cX12_whyWall 15 = .ok (.iconst (-1), 1) := by decide +kernel
theorem dX12_whyWall_16 : decode cX12_whyWall 16 = .ok (.invokevirtual 220, 3) := by decide +kernel
theorem dX12_whyWall_19 : decode cX12_whyWall 19 = .ok (.ifCond .le 7, 3) := by decide +kernel
theorem dX12_whyWall_22 : decode cX12_whyWall 22 = .ok (.iconst 2, 1) := by decide +kernel
theorem dX12_whyWall_23 : decode cX12_whyWall 23 = .ok (.goto 4, 3) := by decide +kernel
theorem dX12_whyWall_26 : decode cX12_whyWall 26 = .ok (.iconst 0, 1) := by decide +kernel
theorem dX12_whyWall_27 : decode cX12_whyWall 27 = .ok (.ireturn, 1) := by decide +kernel
set_option maxRecDepth 20000 in
set_option maxHeartbeats 2000000 in
theorem w_X12_whyWall {X : CX} {d : Nat} (hd : 2 ≤ d) (l0 : Nat) (l1 : Int64) (g g' : G) (rx : Int32) (k_l0 : KD g l0 12) (h : f_X12_whyWall l0 l1 g = some (rx, g')) : Sem X m_X12_whyWall d [.ref (ad X l0), .long l1] g (some (.int rx)) g' := by
  refine Sem_of (lo := [(0, .ref (ad X l0)), (1, .long l1)]) (by decide +kernel) rfl (Nat.le_of_ble_eq_true rfl) ?_
  rw [f_X12_whyWall] at h
  refine SF_aload_n 0 1 dX12_whyWall_0 rfl rfl rfl ?_
  refine SF_lload_n 1 2 dX12_whyWall_1 rfl rfl rfl ?_
  obtain ⟨v1, g2, q3, h⟩ := bd_some h
  have s4 := w_X12_isCell (X := X) (Nat.le_refl 1) l0 l1 g g2 v1 k_l0 q3
  refine SF_callVb 5 mi_X12_isCell ml_X12_264 dX12_whyWall_2 (Nat.le_trans (by decide) hd) s4 k_l0.1 rfl rfl (Nat.le_of_ble_eq_true rfl) rfl ?_
  have k_l0 := k_l0.ext s4.1
  refine SF_ifne 12 8 dX12_whyWall_5 rfl rfl (fun c5 => ?_) (fun c5 => ?_)
  · have h := ite_f c5 h
    refine SF_aload_n 0 13 dX12_whyWall_12 rfl rfl rfl ?_
    refine SF_lload_n 1 14 dX12_whyWall_13 rfl rfl rfl ?_
    refine SF_l2i 15 dX12_whyWall_14 rfl ?_
    refine SF_iconst (-1 : Int32) 16 dX12_whyWall_15 rfl rfl ?_
    obtain ⟨v6, g7, q8, h⟩ := bd_some h
    have s9 := w_X12_twinsIn (X := X) (Nat.le_refl 0) l0 (l1.toInt32) (-1 : Int32) g2 g7 v6 k_l0 q8
    refine SF_callVi 19 mi_X12_twinsIn ml_X12_220 dX12_whyWall_16 (Nat.le_trans (by decide) hd) s9 k_l0.1 rfl rfl (Nat.le_of_ble_eq_true rfl) rfl ?_
    have k_l0 := k_l0.ext s9.1
    refine SF_ifle 26 22 dX12_whyWall_19 rfl rfl (fun c10 => ?_) (fun c10 => ?_)
    · have h := ite_t c10 h
      refine SF_iconst (0 : Int32) 27 dX12_whyWall_26 rfl rfl ?_
      exact RT_i rfl dX12_whyWall_27 h
    · have h := ite_f c10 h
      refine SF_iconst (2 : Int32) 23 dX12_whyWall_22 rfl rfl ?_
      refine SF_goto 27 dX12_whyWall_23 rfl ?_
      exact RT_i rfl dX12_whyWall_27 h
  · have h := ite_t c5 h
    refine SF_iconst (1 : Int32) 9 dX12_whyWall_8 rfl rfl ?_
    refine SF_goto 27 dX12_whyWall_9 rfl ?_
    exact RT_i rfl dX12_whyWall_27 h

theorem dX12_wall_0 : decode cX12_wall 0 = .ok (.aload_n 0, 1) := by decide +kernel
theorem dX12_wall_1 : decode cX12_wall 1 = .ok (.iconst 0, 1) := by decide +kernel
theorem dX12_wall_2 : decode cX12_wall 2 = .ok (.putfield 1, 3) := by decide +kernel
theorem dX12_wall_5 : decode cX12_wall 5 = .ok (.aload_n 0, 1) := by decide +kernel
theorem dX12_wall_6 : decode cX12_wall 6 = .ok (.iload_n 1, 1) := by decide +kernel
theorem dX12_wall_7 : decode cX12_wall 7 = .ok (.i2l, 1) := by decide +kernel
theorem dX12_wall_8 : decode cX12_wall 8 = .ok (.invokevirtual 291, 3) := by decide +kernel
theorem dX12_wall_11 : decode cX12_wall 11 = .ok (.istore_n 2, 1) := by decide +kernel
theorem dX12_wall_12 : decode cX12_wall 12 = .ok (.iload_n 2, 1) := by decide +kernel
theorem dX12_wall_13 : decode cX12_wall 13 = .ok (.ifCond .eq 8, 3) := by decide +kernel
theorem dX12_wall_16 : decode cX12_wall 16 = .ok (.bipush (-10), 2) := by decide +kernel
theorem dX12_wall_18 : decode cX12_wall 18 = .ok (.iload_n 2, 1) := by decide +kernel
theorem dX12_wall_19 : decode cX12_wall 19 = .ok (.isub, 1) := by decide +kernel
theorem dX12_wall_20 : decode cX12_wall 20 = .ok (.ireturn, 1) := by decide +kernel
theorem dX12_wall_21 : decode cX12_wall 21 = .ok (.aload_n 0, 1) := by decide +kernel
theorem dX12_wall_22 : decode cX12_wall 22 = .ok (.invokevirtual 281, 3) := by decide +kernel
theorem dX12_wall_25 : decode cX12_wall 25 = .ok (.aload_n 0, 1) := by decide +kernel
theorem dX12_wall_26 : decode cX12_wall 26 = .ok (.getfield 13, 3) := by decide +kernel
theorem dX12_wall_29 : decode cX12_wall 29 = .ok (.bipush 52, 2) := by decide +kernel
theorem dX12_wall_31 : decode cX12_wall 31 = .ok (.iload_n 1, 1) := by decide +kernel
theorem dX12_wall_32 : decode cX12_wall 32 = .ok (.iadd, 1) := by decide +kernel
theorem dX12_wall_33 : decode cX12_wall 33 = .ok (.dup2, 1) := by decide +kernel
theorem dX12_wall_34 : decode cX12_wall 34 = .ok (.iaload, 1) := by decide +kernel
theorem dX12_wall_35 : decode cX12_wall 35 = .ok (.iconst 1, 1) := by decide +kernel
theorem dX12_wall_36 : decode cX12_wall 36 = .ok (.ixor, 1) := by decide +kernel
theorem dX12_wall_37 : decode cX12_wall 37 = .ok (.iastore, 1) := by decide +kernel
theorem dX12_wall_38 : decode cX12_wall 38 = .ok (.aload_n 0, 1) := by decide +kernel
theorem dX12_wall_39 : decode cX12_wall 39 = .ok (.invokevirtual 288, 3) := by decide +kernel
theorem dX12_wall_42 : decode cX12_wall 42 = .ok (.aload_n 0, 1) := by decide +kernel
theorem dX12_wall_43 : decode cX12_wall 43 = .ok (.getfield 13, 3) := by decide +kernel
theorem dX12_wall_46 : decode cX12_wall 46 = .ok (.bipush 52, 2) := by decide +kernel
theorem dX12_wall_48 : decode cX12_wall 48 = .ok (.iload_n 1, 1) := by decide +kernel
theorem dX12_wall_49 : decode cX12_wall 49 = .ok (.iadd, 1) := by decide +kernel
theorem dX12_wall_50 : decode cX12_wall 50 = .ok (.iaload, 1) := by decide +kernel
theorem dX12_wall_51 : decode cX12_wall 51 = .ok (.ireturn, 1) := by decide +kernel
set_option maxRecDepth 20000 in
set_option maxHeartbeats 2000000 in
theorem w_X12_wall {X : CX} {d : Nat} (hd : 3 ≤ d) (l0 : Nat) (l1 : Int32) (g g' : G) (rx : Int32) (k_l0 : KD g l0 12) (h : f_X12_wall l0 l1 g = some (rx, g')) : Sem X m_X12_wall d [.ref (ad X l0), .int l1] g (some (.int rx)) g' := by
  refine Sem_of (lo := [(0, .ref (ad X l0)), (1, .int l1)]) (by decide +kernel) rfl (Nat.le_of_ble_eq_true rfl) ?_
  rw [f_X12_wall] at h
  refine SF_aload_n 0 1 dX12_wall_0 rfl rfl rfl ?_
  refine SF_iconst (0 : Int32) 2 dX12_wall_1 rfl rfl ?_
  refine SF_putI 5 fl_X12_1 dX12_wall_2 k_l0.1 (fn_int _) (Or.inl rfl) rfl ?_
  obtain ⟨g1, e2, h⟩ := lg_some h
  rw [← e2]
  have k_l0 := KD.eq e2 k_l0
  refine SF_aload_n 0 6 dX12_wall_5 rfl rfl rfl ?_
  refine SF_iload_n 1 7 dX12_wall_6 rfl rfl rfl ?_
  refine SF_i2l 8 dX12_wall_7 rfl ?_
  obtain ⟨v3, g4, q5, h⟩ := bd_some h
  have s6 := w_X12_whyWall (X := X) (Nat.le_refl 2) l0 (l1.toInt64) g1 g4 v3 k_l0 q5
  refine SF_callVi 11 mi_X12_whyWall ml_X12_291 dX12_wall_8 (Nat.le_trans (by decide) hd) s6 k_l0.1 rfl rfl (Nat.le_of_ble_eq_true rfl) rfl ?_
  have k_l0 := k_l0.ext s6.1
  refine SF_istore_n [(2, .int v3), (0, .ref (ad X l0)), (1, .int l1)] 12 dX12_wall_11 rfl (by decide) rfl rfl ?_
  refine SF_iload_n 0 13 dX12_wall_12 rfl rfl rfl ?_
  refine SF_ifeq 21 16 dX12_wall_13 rfl rfl (fun c7 => ?_) (fun c7 => ?_)
  · have h := ite_t c7 h
    refine SF_aload_n 1 22 dX12_wall_21 rfl rfl rfl ?_
    obtain ⟨v8, g9, q10, h⟩ := bd_some h
    have s11 := w_X12_keeps (X := X) (Nat.le_refl 0) l0 g4 g9 v8 k_l0 q10
    refine SF_callVv 25 mi_X12_keeps ml_X12_281 dX12_wall_22 (Nat.le_trans (by decide) hd) s11 k_l0.1 rfl rfl (Nat.le_of_ble_eq_true rfl) rfl ?_
    have k_l0 := k_l0.ext s11.1
    refine SF_aload_n 1 26 dX12_wall_25 rfl rfl rfl ?_
    obtain ⟨b12, r13, h⟩ := dr_some h
    refine SF_getR 29 fl_X12_13 dX12_wall_26 k_l0.1 r13 rfl ?_
    refine SF_bipush (52 : Int32) 31 dX12_wall_29 rfl rfl ?_
    refine SF_iload_n 2 32 dX12_wall_31 rfl rfl rfl ?_
    refine SF_iadd 33 dX12_wall_32 rfl ?_
    refine SF_dup2_11 34 dX12_wall_33 rfl rfl rfl ?_
    obtain ⟨k14, h⟩ := gdK_some h
    obtain ⟨i15, h⟩ := gdI_some h
    refine SF_iald 35 dX12_wall_34 k14.1 i15 rfl ?_
    refine SF_iconst (1 : Int32) 36 dX12_wall_35 rfl rfl ?_
    refine SF_ixor 37 dX12_wall_36 rfl ?_
    refine SF_iast 38 dX12_wall_37 k14.1 i15 rfl ?_
    obtain ⟨g16, e17, h⟩ := lg_some h
    rw [← e17]
    have k_l0 := KD.eq e17 k_l0
    have k14 := KD.eq e17 k14
    have r13 := gR_eq e17 r13
    have i15 := vp_eq e17 i15
    refine SF_aload_n 1 39 dX12_wall_38 rfl rfl rfl ?_
    obtain ⟨v18, g19, q20, h⟩ := bd_some h
    have s21 := w_X12_notes (X := X) (Nat.le_refl 0) l0 g16 g19 v18 k_l0 q20
    refine SF_callVv 42 mi_X12_notes ml_X12_288 dX12_wall_39 (Nat.le_trans (by decide) hd) s21 k_l0.1 rfl rfl (Nat.le_of_ble_eq_true rfl) rfl ?_
    have k_l0 := k_l0.ext s21.1
    have k14 := k14.ext s21.1
    refine SF_aload_n 1 43 dX12_wall_42 rfl rfl rfl ?_
    obtain ⟨b22, r23, h⟩ := dr_some h
    refine SF_getR 46 fl_X12_13 dX12_wall_43 k_l0.1 r23 rfl ?_
    refine SF_bipush (52 : Int32) 48 dX12_wall_46 rfl rfl ?_
    refine SF_iload_n 2 49 dX12_wall_48 rfl rfl rfl ?_
    refine SF_iadd 50 dX12_wall_49 rfl ?_
    obtain ⟨k24, h⟩ := gdK_some h
    obtain ⟨i25, h⟩ := gdI_some h
    refine SF_iald 51 dX12_wall_50 k24.1 i25 rfl ?_
    exact RT_i rfl dX12_wall_51 h
  · have h := ite_f c7 h
    refine SF_bipush (-10 : Int32) 18 dX12_wall_16 rfl rfl ?_
    refine SF_iload_n 0 19 dX12_wall_18 rfl rfl rfl ?_
    refine SF_isub 20 dX12_wall_19 rfl ?_
    exact RT_i rfl dX12_wall_20 h

theorem dX11_put_0 : decode cX11_put 0 = .ok (.aload_n 0, 1) := by decide +kernel
theorem dX11_put_1 : decode cX11_put 1 = .ok (.getfield 82, 3) := by decide +kernel
theorem dX11_put_4 : decode cX11_put 4 = .ok (.aload_n 0, 1) := by decide +kernel
theorem dX11_put_5 : decode cX11_put 5 = .ok (.getfield 78, 3) := by decide +kernel
theorem dX11_put_8 : decode cX11_put 8 = .ok (.invokevirtual 126, 3) := by decide +kernel
theorem dX11_put_11 : decode cX11_put 11 = .ok (.aload_n 0, 1) := by decide +kernel
theorem dX11_put_12 : decode cX11_put 12 = .ok (.aload_n 0, 1) := by decide +kernel
theorem dX11_put_13 : decode cX11_put 13 = .ok (.getfield 78, 3) := by decide +kernel
theorem dX11_put_16 : decode cX11_put 16 = .ok (.iload_n 1, 1) := by decide +kernel
theorem dX11_put_17 : decode cX11_put 17 = .ok (.iload_n 2, 1) := by decide +kernel
theorem dX11_put_18 : decode cX11_put 18 = .ok (.iload_n 3, 1) := by decide +kernel
theorem dX11_put_19 : decode cX11_put 19 = .ok (.invokevirtual 205, 3) := by decide +kernel
theorem dX11_put_22 : decode cX11_put 22 = .ok (.invokevirtual 202, 3) := by decide +kernel
theorem dX11_put_25 : decode cX11_put 25 = .ok (.ireturn, 1) := by decide +kernel
set_option maxRecDepth 20000 in
set_option maxHeartbeats 2000000 in
theorem w_X11_put {X : CX} {d : Nat} (hd : 5 ≤ d) (l0 : Nat) (l1 : Int32) (l2 : Int32) (l3 : Int32) (g g' : G) (rx : Int32) (k_l0 : KD g l0 11) (h : f_X11_put l0 l1 l2 l3 g = some (rx, g')) : Sem X m_X11_put d [.ref (ad X l0), .int l1, .int l2, .int l3] g (some (.int rx)) g' := by
  refine Sem_of (lo := [(0, .ref (ad X l0)), (1, .int l1), (2, .int l2), (3, .int l3)]) (by decide +kernel) rfl (Nat.le_of_ble_eq_true rfl) ?_
  rw [f_X11_put] at h
  refine SF_aload_n 0 1 dX11_put_0 rfl rfl rfl ?_
  obtain ⟨b1, r2, h⟩ := dr_some h
  refine SF_getR 4 fl_X11_82 dX11_put_1 k_l0.1 r2 rfl ?_
  refine SF_aload_n 0 5 dX11_put_4 rfl rfl rfl ?_
  obtain ⟨b3, r4, h⟩ := dr_some h
  refine SF_getR 8 fl_X11_78 dX11_put_5 k_l0.1 r4 rfl ?_
  obtain ⟨k5, h⟩ := gdK_some h
  obtain ⟨k6, h⟩ := gdK_some h
  obtain ⟨v7, g8, q9, h⟩ := bd_some h
  have s10 := w_X0_copyFrom (X := X) (Nat.le_refl 1) b1 b3 g g8 v7 k5 k6 q9
  refine SF_callVv 11 mi_X0_copyFrom ml_X11_126 dX11_put_8 (Nat.le_trans (by decide) hd) s10 k5.1 rfl rfl (Nat.le_of_ble_eq_true rfl) rfl ?_
  have k_l0 := k_l0.ext s10.1
  have k5 := k5.ext s10.1
  have k6 := k6.ext s10.1
  refine SF_aload_n 0 12 dX11_put_11 rfl rfl rfl ?_
  refine SF_aload_n 0 13 dX11_put_12 rfl rfl rfl ?_
  obtain ⟨b11, r12, h⟩ := dr_some h
  refine SF_getR 16 fl_X11_78 dX11_put_13 k_l0.1 r12 rfl ?_
  refine SF_iload_n 1 17 dX11_put_16 rfl rfl rfl ?_
  refine SF_iload_n 2 18 dX11_put_17 rfl rfl rfl ?_
  refine SF_iload_n 3 19 dX11_put_18 rfl rfl rfl ?_
  obtain ⟨k13, h⟩ := gdK_some h
  obtain ⟨v14, g15, q16, h⟩ := bd_some h
  have s17 := w_X0_place (X := X) (Nat.le_refl 3) b11 l1 l2 l3 g8 g15 v14 k13 q16
  refine SF_callVi 22 mi_X0_place ml_X11_205 dX11_put_19 (Nat.le_trans (by decide) hd) s17 k13.1 rfl rfl (Nat.le_of_ble_eq_true rfl) rfl ?_
  have k_l0 := k_l0.ext s17.1
  have k5 := k5.ext s17.1
  have k6 := k6.ext s17.1
  have k13 := k13.ext s17.1
  obtain ⟨v18, g19, q20, h⟩ := bd_some h
  have s21 := w_X11_deedAnswer (X := X) (Nat.le_refl 4) l0 v14 g15 g19 v18 k_l0 q20
  refine SF_callVi 25 mi_X11_deedAnswer ml_X11_202 dX11_put_22 (Nat.le_trans (by decide) hd) s21 k_l0.1 rfl rfl (Nat.le_of_ble_eq_true rfl) rfl ?_
  have k_l0 := k_l0.ext s21.1
  have k5 := k5.ext s21.1
  have k6 := k6.ext s21.1
  have k13 := k13.ext s21.1
  exact RT_i rfl dX11_put_25 h

theorem dX12_put_0 : decode cX12_put 0 = .ok (.aload_n 0, 1) := by decide +kernel
theorem dX12_put_1 : decode cX12_put 1 = .ok (.iconst 0, 1) := by decide +kernel
theorem dX12_put_2 : decode cX12_put 2 = .ok (.putfield 1, 3) := by decide +kernel
theorem dX12_put_5 : decode cX12_put 5 = .ok (.aload_n 0, 1) := by decide +kernel
theorem dX12_put_6 : decode cX12_put 6 = .ok (.iload_n 1, 1) := by decide +kernel
theorem dX12_put_7 : decode cX12_put 7 = .ok (.i2l, 1) := by decide +kernel
theorem dX12_put_8 : decode cX12_put 8 = .ok (.invokevirtual 255, 3) := by decide +kernel
theorem dX12_put_11 : decode cX12_put 11 = .ok (.ifCond .eq 21, 3) := by decide +kernel
theorem dX12_put_14 : decode cX12_put 14 = .ok (.aload_n 0, 1) := by decide +kernel
theorem dX12_put_15 : decode cX12_put 15 = .ok (.iload_n 2, 1) := by decide +kernel
theorem dX12_put_16 : decode cX12_put 16 = .ok (.i2l, 1) := by decide +kernel
theorem dX12_put_17 : decode cX12_put 17 = .ok (.invokevirtual 264, 3) := by decide +kernel
theorem dX12_put_20 : decode cX12_put 20 = .ok (.ifCond .eq 12, 3) := by decide +kernel
theorem dX12_put_23 : decode cX12_put 23 = .ok (.aload_n 0, 1) := by decide +kernel
theorem dX12_put_24 : decode cX12_put 24 = .ok (.iload_n 3, 1) := by decide +kernel
theorem dX12_put_25 : decode cX12_put 25 = .ok (.i2l, 1) := by decide +kernel
theorem dX12_put_26 : decode cX12_put 26 = .ok (.invokevirtual 264, 3) := by decide +kernel
theorem dX12_put_29 : decode cX12_put 29 = .ok (.ifCond .ne 6, 3) := by decide +kernel
theorem dX12_put_32 : decode cX12_put 32 = .ok (.bipush (-11), 2) := by decide +kernel
theorem dX12_put_34 : decode cX12_put 34 = .ok (.ireturn, 1) := by decide +kernel
theorem dX12_put_35 : decode cX12_put 35 = .ok (.aload_n 0, 1) := by decide +kernel
theorem dX12_put_36 : decode cX12_put 36 = .ok (.iload_n 1, 1) := by decide +kernel
theorem dX12_put_37 : decode cX12_put 37 = .ok (.iload_n 2, 1) := by decide +kernel
theorem dX12_put_38 : decode cX12_put 38 = .ok (.invokevirtual 244, 3) := by decide +kernel
theorem dX12_put_41 : decode cX12_put 41 = .ok (.ifCond .eq 12, 3) := by decide +kernel
theorem dX12_put_44 : decode cX12_put 44 = .ok (.aload_n 0, 1) := by decide +kernel
theorem dX12_put_45 : decode cX12_put 45 = .ok (.iload_n 1, 1) := by decide +kernel
theorem dX12_put_46 : decode cX12_put 46 = .ok (.iload_n 3, 1) := by decide +kernel
theorem dX12_put_47 : decode cX12_put 47 = .ok (.invokevirtual 244, 3) := by decide +kernel
theorem dX12_put_50 : decode cX12_put 50 = .ok (.ifCond .ne 6, 3) := by decide +kernel
theorem dX12_put_53 : decode cX12_put 53 = .ok (.bipush (-12), 2) := by decide +kernel
theorem dX12_put_55 : decode cX12_put 55 = .ok (.ireturn, 1) := by decide +kernel
theorem dX12_put_56 : decode cX12_put 56 = .ok (.aload_n 0, 1) := by decide +kernel
theorem dX12_put_57 : decode cX12_put 57 = .ok (.invokevirtual 281, 3) := by decide +kernel
theorem dX12_put_60 : decode cX12_put 60 = .ok (.aload_n 0, 1) := by decide +kernel
theorem dX12_put_61 : decode cX12_put 61 = .ok (.getfield 13, 3) := by decide +kernel
theorem dX12_put_64 : decode cX12_put 64 = .ok (.bipush 88, 2) := by decide +kernel
theorem dX12_put_66 : decode cX12_put 66 = .ok (.iconst 2, 1) := by decide +kernel
theorem dX12_put_67 : decode cX12_put 67 = .ok (.iload_n 1, 1) := by decide +kernel
theorem dX12_put_68 : decode cX12_put 68 = .ok (.imul, 1) := by decide +kernel
theorem dX12_put_69 : decode cX12_put 69 = .ok (.iadd, 1) := by decide +kernel
theorem dX12_put_70 : decode cX12_put 70 = .ok (.iload_n 2, 1) := by decide +kernel
theorem dX12_put_71 : decode cX12_put 71 = .ok (.iastore, 1) := by decide +kernel
theorem dX12_put_72 : decode cX12_put 72 = .ok (.aload_n 0, 1) := by decide +kernel
theorem dX12_put_73 : decode cX12_put 73 = .ok (.getfield 13, 3) := by decide +kernel
theorem dX12_put_76 : decode cX12_put 76 = .ok (.bipush 88, 2) := by decide +kernel
theorem dX12_put_78 : decode cX12_put 78 = .ok (.iconst 2, 1) := by decide +kernel
theorem dX12_put_79 : decode cX12_put 79 = .ok (.iload_n 1, 1) := by decide +kernel
theorem dX12_put_80 : decode cX12_put 80 = .ok (.imul, 1) := by decide +kernel
theorem dX12_put_81 : decode cX12_put 81 = .ok (.iadd, 1) := by decide +kernel
theorem dX12_put_82 : decode cX12_put 82 = .ok (.iconst 1, 1) := by decide +kernel
theorem dX12_put_83 : decode cX12_put 83 = .ok (.iadd, 1) := by decide +kernel
theorem dX12_put_84 : decode cX12_put 84 = .ok (.iload_n 3, 1) := by decide +kernel
theorem dX12_put_85 : decode cX12_put 85 = .ok (.iastore, 1) := by decide +kernel
theorem dX12_put_86 : decode cX12_put 86 = .ok (.aload_n 0, 1) := by decide +kernel
theorem dX12_put_87 : decode cX12_put 87 = .ok (.getfield 13, 3) := by decide +kernel
theorem dX12_put_90 : decode cX12_put 90 = .ok (.bipush 94, 2) := by decide +kernel
theorem dX12_put_92 : decode cX12_put 92 = .ok (.iload_n 1, 1) := by decide +kernel
theorem dX12_put_93 : decode cX12_put 93 = .ok (.iadd, 1) := by decide +kernel
theorem dX12_put_94 : decode cX12_put 94 = .ok (.aload_n 0, 1) := by decide +kernel
theorem dX12_put_95 : decode cX12_put 95 = .ok (.iload_n 2, 1) := by decide +kernel
theorem dX12_put_96 : decode cX12_put 96 = .ok (.iload_n 3, 1) := by decide +kernel
theorem dX12_put_97 : decode cX12_put 97 = .ok (.invokevirtual 208, 3) := by decide +kernel
theorem dX12_put_100 : decode cX12_put 100 = .ok (.iastore, 1) := by decide +kernel
theorem dX12_put_101 : decode cX12_put 101 = .ok (.aload_n 0, 1) := by decide +kernel
theorem dX12_put_102 : decode cX12_put 102 = .ok (.getfield 13, 3) := by decide +kernel
theorem dX12_put_105 : decode cX12_put 105 = .ok (.bipush 100, 2) := by decide +kernel
theorem dX12_put_107 : decode cX12_put 107 = .ok (.iload_n 1, 1) := by decide +kernel
theorem dX12_put_108 : decode cX12_put 108 = .ok (.iadd, 1) := by decide +kernel
theorem dX12_put_109 : decode cX12_put 109 = .ok (.iconst 0, 1) := by decide +kernel
theorem dX12_put_110 : decode cX12_put 110 = .ok (.iastore, 1) := by decide +kernel
theorem dX12_put_111 : decode cX12_put 111 = .ok (.aload_n 0, 1) := by decide +kernel
theorem dX12_put_112 : decode cX12_put 112 = .ok (.iload_n 1, 1) := by decide +kernel
theorem dX12_put_113 : decode cX12_put 113 = .ok (.invokevirtual 211, 3) := by decide +kernel
theorem dX12_put_116 : decode cX12_put 116 = .ok (.aload_n 0, 1) := by decide +kernel
theorem dX12_put_117 : decode cX12_put 117 = .ok (.invokevirtual 288, 3) := by decide +kernel
theorem dX12_put_120 : decode cX12_put 120 = .ok (.aload_n 0, 1) := by decide +kernel
theorem dX12_put_121 : decode cX12_put 121 = .ok (.getfield 13, 3) := by decide +kernel
theorem dX12_put_124 : decode cX12_put 124 = .ok (.bipush 94, 2) := by decide +kernel
theorem dX12_put_126 : decode cX12_put 126 = .ok (.iload_n 1, 1) := by decide +kernel
theorem dX12_put_127 : decode cX12_put 127 = .ok (.iadd, 1) := by decide +kernel
theorem dX12_put_128 : decode cX12_put 128 = .ok (.iaload, 1) := by decide +kernel
theorem dX12_put_129 : decode cX12_put 129 = .ok (.ireturn, 1) := by decide +kernel
set_option maxRecDepth 20000 in
set_option maxHeartbeats 2000000 in
theorem w_X12_put {X : CX} {d : Nat} (hd : 2 ≤ d) (l0 : Nat) (l1 : Int32) (l2 : Int32) (l3 : Int32) (g g' : G) (rx : Int32) (k_l0 : KD g l0 12) (h : f_X12_put l0 l1 l2 l3 g = some (rx, g')) : Sem X m_X12_put d [.ref (ad X l0), .int l1, .int l2, .int l3] g (some (.int rx)) g' := by
  refine Sem_of (lo := [(0, .ref (ad X l0)), (1, .int l1), (2, .int l2), (3, .int l3)]) (by decide +kernel) rfl (Nat.le_of_ble_eq_true rfl) ?_
  rw [f_X12_put] at h
  refine SF_aload_n 0 1 dX12_put_0 rfl rfl rfl ?_
  refine SF_iconst (0 : Int32) 2 dX12_put_1 rfl rfl ?_
  refine SF_putI 5 fl_X12_1 dX12_put_2 k_l0.1 (fn_int _) (Or.inl rfl) rfl ?_
  obtain ⟨g1, e2, h⟩ := lg_some h
  rw [← e2]
  have k_l0 := KD.eq e2 k_l0
  refine SF_aload_n 0 6 dX12_put_5 rfl rfl rfl ?_
  refine SF_iload_n 1 7 dX12_put_6 rfl rfl rfl ?_
  refine SF_i2l 8 dX12_put_7 rfl ?_
  obtain ⟨v3, g4, q5, h⟩ := bd_some h
  have s6 := w_X12_isPair (X := X) (Nat.le_refl 1) l0 (l1.toInt64) g1 g4 v3 k_l0 q5
  refine SF_callVb 11 mi_X12_isPair ml_X12_255 dX12_put_8 (Nat.le_trans (by decide) hd) s6 k_l0.1 rfl rfl (Nat.le_of_ble_eq_true rfl) rfl ?_
  have k_l0 := k_l0.ext s6.1
  refine SF_ifeq 32 14 dX12_put_11 rfl rfl (fun c7 => ?_) (fun c7 => ?_)
  · have h := ite_t c7 h
    refine SF_bipush (-11 : Int32) 34 dX12_put_32 rfl rfl ?_
    exact RT_i rfl dX12_put_34 h
  · have h := ite_f c7 h
    refine SF_aload_n 0 15 dX12_put_14 rfl rfl rfl ?_
    refine SF_iload_n 2 16 dX12_put_15 rfl rfl rfl ?_
    refine SF_i2l 17 dX12_put_16 rfl ?_
    obtain ⟨v8, g9, q10, h⟩ := bd_some h
    have s11 := w_X12_isCell (X := X) (Nat.le_refl 1) l0 (l2.toInt64) g4 g9 v8 k_l0 q10
    refine SF_callVb 20 mi_X12_isCell ml_X12_264 dX12_put_17 (Nat.le_trans (by decide) hd) s11 k_l0.1 rfl rfl (Nat.le_of_ble_eq_true rfl) rfl ?_
    have k_l0 := k_l0.ext s11.1
    refine SF_ifeq 32 23 dX12_put_20 rfl rfl (fun c12 => ?_) (fun c12 => ?_)
    · have h := ite_t c12 h
      refine SF_bipush (-11 : Int32) 34 dX12_put_32 rfl rfl ?_
      exact RT_i rfl dX12_put_34 h
    · have h := ite_f c12 h
      refine SF_aload_n 0 24 dX12_put_23 rfl rfl rfl ?_
      refine SF_iload_n 3 25 dX12_put_24 rfl rfl rfl ?_
      refine SF_i2l 26 dX12_put_25 rfl ?_
      obtain ⟨v13, g14, q15, h⟩ := bd_some h
      have s16 := w_X12_isCell (X := X) (Nat.le_refl 1) l0 (l3.toInt64) g9 g14 v13 k_l0 q15
      refine SF_callVb 29 mi_X12_isCell ml_X12_264 dX12_put_26 (Nat.le_trans (by decide) hd) s16 k_l0.1 rfl rfl (Nat.le_of_ble_eq_true rfl) rfl ?_
      have k_l0 := k_l0.ext s16.1
      refine SF_ifne 35 32 dX12_put_29 rfl rfl (fun c17 => ?_) (fun c17 => ?_)
      · have h := ite_f c17 h
        refine SF_aload_n 0 36 dX12_put_35 rfl rfl rfl ?_
        refine SF_iload_n 1 37 dX12_put_36 rfl rfl rfl ?_
        refine SF_iload_n 2 38 dX12_put_37 rfl rfl rfl ?_
        obtain ⟨v18, g19, q20, h⟩ := bd_some h
        have s21 := w_X12_isFree (X := X) (Nat.le_refl 1) l0 l1 l2 g14 g19 v18 k_l0 q20
        refine SF_callVb 41 mi_X12_isFree ml_X12_244 dX12_put_38 (Nat.le_trans (by decide) hd) s21 k_l0.1 rfl rfl (Nat.le_of_ble_eq_true rfl) rfl ?_
        have k_l0 := k_l0.ext s21.1
        refine SF_ifeq 53 44 dX12_put_41 rfl rfl (fun c22 => ?_) (fun c22 => ?_)
        · have h := ite_t c22 h
          refine SF_bipush (-12 : Int32) 55 dX12_put_53 rfl rfl ?_
          exact RT_i rfl dX12_put_55 h
        · have h := ite_f c22 h
          refine SF_aload_n 0 45 dX12_put_44 rfl rfl rfl ?_
          refine SF_iload_n 1 46 dX12_put_45 rfl rfl rfl ?_
          refine SF_iload_n 3 47 dX12_put_46 rfl rfl rfl ?_
          obtain ⟨v23, g24, q25, h⟩ := bd_some h
          have s26 := w_X12_isFree (X := X) (Nat.le_refl 1) l0 l1 l3 g19 g24 v23 k_l0 q25
          refine SF_callVb 50 mi_X12_isFree ml_X12_244 dX12_put_47 (Nat.le_trans (by decide) hd) s26 k_l0.1 rfl rfl (Nat.le_of_ble_eq_true rfl) rfl ?_
          have k_l0 := k_l0.ext s26.1
          refine SF_ifne 56 53 dX12_put_50 rfl rfl (fun c27 => ?_) (fun c27 => ?_)
          · have h := ite_f c27 h
            refine SF_aload_n 0 57 dX12_put_56 rfl rfl rfl ?_
            obtain ⟨v28, g29, q30, h⟩ := bd_some h
            have s31 := w_X12_keeps (X := X) (Nat.le_refl 0) l0 g24 g29 v28 k_l0 q30
            refine SF_callVv 60 mi_X12_keeps ml_X12_281 dX12_put_57 (Nat.le_trans (by decide) hd) s31 k_l0.1 rfl rfl (Nat.le_of_ble_eq_true rfl) rfl ?_
            have k_l0 := k_l0.ext s31.1
            refine SF_aload_n 0 61 dX12_put_60 rfl rfl rfl ?_
            obtain ⟨b32, r33, h⟩ := dr_some h
            refine SF_getR 64 fl_X12_13 dX12_put_61 k_l0.1 r33 rfl ?_
            refine SF_bipush (88 : Int32) 66 dX12_put_64 rfl rfl ?_
            refine SF_iconst (2 : Int32) 67 dX12_put_66 rfl rfl ?_
            refine SF_iload_n 1 68 dX12_put_67 rfl rfl rfl ?_
            refine SF_imul 69 dX12_put_68 rfl ?_
            refine SF_iadd 70 dX12_put_69 rfl ?_
            refine SF_iload_n 2 71 dX12_put_70 rfl rfl rfl ?_
            obtain ⟨k34, h⟩ := gdK_some h
            obtain ⟨i35, h⟩ := gdI_some h
            refine SF_iast 72 dX12_put_71 k34.1 i35 rfl ?_
            obtain ⟨g36, e37, h⟩ := lg_some h
            rw [← e37]
            have k_l0 := KD.eq e37 k_l0
            have k34 := KD.eq e37 k34
            have r33 := gR_eq e37 r33
            have i35 := vp_eq e37 i35
            refine SF_aload_n 0 73 dX12_put_72 rfl rfl rfl ?_
            refine SF_getR 76 fl_X12_13 dX12_put_73 k_l0.1 r33 rfl ?_
            refine SF_bipush (88 : Int32) 78 dX12_put_76 rfl rfl ?_
            refine SF_iconst (2 : Int32) 79 dX12_put_78 rfl rfl ?_
            refine SF_iload_n 1 80 dX12_put_79 rfl rfl rfl ?_
            refine SF_imul 81 dX12_put_80 rfl ?_
            refine SF_iadd 82 dX12_put_81 rfl ?_
            refine SF_iconst (1 : Int32) 83 dX12_put_82 rfl rfl ?_
            refine SF_iadd 84 dX12_put_83 rfl ?_
            refine SF_iload_n 3 85 dX12_put_84 rfl rfl rfl ?_
            obtain ⟨i38, h⟩ := gdI_some h
            refine SF_iast 86 dX12_put_85 k34.1 i38 rfl ?_
            obtain ⟨g39, e40, h⟩ := lg_some h
            rw [← e40]
            have k_l0 := KD.eq e40 k_l0
            have k34 := KD.eq e40 k34
            have r33 := gR_eq e40 r33
            have i35 := vp_eq e40 i35
            have i38 := vp_eq e40 i38
            refine SF_aload_n 0 87 dX12_put_86 rfl rfl rfl ?_
            refine SF_getR 90 fl_X12_13 dX12_put_87 k_l0.1 r33 rfl ?_
            refine SF_bipush (94 : Int32) 92 dX12_put_90 rfl rfl ?_
            refine SF_iload_n 1 93 dX12_put_92 rfl rfl rfl ?_
            refine SF_iadd 94 dX12_put_93 rfl ?_
            refine SF_aload_n 0 95 dX12_put_94 rfl rfl rfl ?_
            refine SF_iload_n 2 96 dX12_put_95 rfl rfl rfl ?_
            refine SF_iload_n 3 97 dX12_put_96 rfl rfl rfl ?_
            obtain ⟨v41, g42, q43, h⟩ := bd_some h
            have s44 := w_X12_apart (X := X) (Nat.le_refl 1) l0 l2 l3 g39 g42 v41 k_l0 q43
            refine SF_callVi 100 mi_X12_apart ml_X12_208 dX12_put_97 (Nat.le_trans (by decide) hd) s44 k_l0.1 rfl rfl (Nat.le_of_ble_eq_true rfl) rfl ?_
            have k_l0 := k_l0.ext s44.1
            have k34 := k34.ext s44.1
            obtain ⟨i45, h⟩ := gdI_some h
            refine SF_iast 101 dX12_put_100 k34.1 i45 rfl ?_
            obtain ⟨g46, e47, h⟩ := lg_some h
            rw [← e47]
            have k_l0 := KD.eq e47 k_l0
            have k34 := KD.eq e47 k34
            have i45 := vp_eq e47 i45
            refine SF_aload_n 0 102 dX12_put_101 rfl rfl rfl ?_
            obtain ⟨b48, r49, h⟩ := dr_some h
            refine SF_getR 105 fl_X12_13 dX12_put_102 k_l0.1 r49 rfl ?_
            refine SF_bipush (100 : Int32) 107 dX12_put_105 rfl rfl ?_
            refine SF_iload_n 1 108 dX12_put_107 rfl rfl rfl ?_
            refine SF_iadd 109 dX12_put_108 rfl ?_
            refine SF_iconst (0 : Int32) 110 dX12_put_109 rfl rfl ?_
            obtain ⟨k50, h⟩ := gdK_some h
            obtain ⟨i51, h⟩ := gdI_some h
            refine SF_iast 111 dX12_put_110 k50.1 i51 rfl ?_
            obtain ⟨g52, e53, h⟩ := lg_some h
            rw [← e53]
            have k_l0 := KD.eq e53 k_l0
            have k34 := KD.eq e53 k34
            have k50 := KD.eq e53 k50
            have r49 := gR_eq e53 r49
            have i45 := vp_eq e53 i45
            have i51 := vp_eq e53 i51
            refine SF_aload_n 0 112 dX12_put_111 rfl rfl rfl ?_
            refine SF_iload_n 1 113 dX12_put_112 rfl rfl rfl ?_
            obtain ⟨v54, g55, q56, h⟩ := bd_some h
            have s57 := w_X12_isDone (X := X) (Nat.le_refl 1) l0 l1 g52 g55 v54 k_l0 q56
            refine SF_callVv 116 mi_X12_isDone ml_X12_211 dX12_put_113 (Nat.le_trans (by decide) hd) s57 k_l0.1 rfl rfl (Nat.le_of_ble_eq_true rfl) rfl ?_
            have k_l0 := k_l0.ext s57.1
            have k34 := k34.ext s57.1
            have k50 := k50.ext s57.1
            refine SF_aload_n 0 117 dX12_put_116 rfl rfl rfl ?_
            obtain ⟨v58, g59, q60, h⟩ := bd_some h
            have s61 := w_X12_notes (X := X) (Nat.le_refl 0) l0 g55 g59 v58 k_l0 q60
            refine SF_callVv 120 mi_X12_notes ml_X12_288 dX12_put_117 (Nat.le_trans (by decide) hd) s61 k_l0.1 rfl rfl (Nat.le_of_ble_eq_true rfl) rfl ?_
            have k_l0 := k_l0.ext s61.1
            have k34 := k34.ext s61.1
            have k50 := k50.ext s61.1
            refine SF_aload_n 0 121 dX12_put_120 rfl rfl rfl ?_
            obtain ⟨b62, r63, h⟩ := dr_some h
            refine SF_getR 124 fl_X12_13 dX12_put_121 k_l0.1 r63 rfl ?_
            refine SF_bipush (94 : Int32) 126 dX12_put_124 rfl rfl ?_
            refine SF_iload_n 1 127 dX12_put_126 rfl rfl rfl ?_
            refine SF_iadd 128 dX12_put_127 rfl ?_
            obtain ⟨k64, h⟩ := gdK_some h
            obtain ⟨i65, h⟩ := gdI_some h
            refine SF_iald 129 dX12_put_128 k64.1 i65 rfl ?_
            exact RT_i rfl dX12_put_129 h
          · have h := ite_t c27 h
            refine SF_bipush (-12 : Int32) 55 dX12_put_53 rfl rfl ?_
            exact RT_i rfl dX12_put_55 h
      · have h := ite_t c17 h
        refine SF_bipush (-11 : Int32) 34 dX12_put_32 rfl rfl ?_
        exact RT_i rfl dX12_put_34 h

theorem dX0_feel_0 : decode cX0_feel 0 = .ok (.aload_n 0, 1) := by decide +kernel
theorem dX0_feel_1 : decode cX0_feel 1 = .ok (.iload_n 1, 1) := by decide +kernel
theorem dX0_feel_2 : decode cX0_feel 2 = .ok (.invokevirtual 54, 3) := by decide +kernel
theorem dX0_feel_5 : decode cX0_feel 5 = .ok (.ifCond .eq 13, 3) := by decide +kernel
theorem dX0_feel_8 : decode cX0_feel 8 = .ok (.iload_n 2, 1) := by decide +kernel
theorem dX0_feel_9 : decode cX0_feel 9 = .ok (.ifCond .lt 9, 3) := by decide +kernel
theorem dX0_feel_12 : decode cX0_feel 12 = .ok (.iload_n 2, 1) := by decide +kernel
theorem dX0_feel_13 : decode cX0_feel 13 = .ok (.bipush 10, 2) := by decide +kernel
theorem dX0_feel_15 : decode cX0_feel 15 = .ok (.if_icmp .lt 5, 3) := by decide +kernel
theorem dX0_feel_18 : decode cX0_feel 18 = .ok (.iconst (-1), 1) := by decide +kernel
theorem dX0_feel_19 : decode cX0_feel 19 = .ok (.ireturn, 1) := by decide +kernel
theorem dX0_feel_20 : decode cX0_feel 20 = .ok (.aload_n 0, 1) := by decide +kernel
theorem dX0_feel_21 : decode cX0_feel 21 = .ok (.getfield 18, 3) := by decide +kernel
theorem dX0_feel_24 : decode cX0_feel 24 = .ok (.iload_n 1, 1) := by decide +kernel
theorem dX0_feel_25 : decode cX0_feel 25 = .ok (.iaload, 1) := by decide +kernel
theorem dX0_feel_26 : decode cX0_feel 26 = .ok (.istore_n 3, 1) := by decide +kernel
theorem dX0_feel_27 : decode cX0_feel 27 = .ok (.aload_n 0, 1) := by decide +kernel
theorem dX0_feel_28 : decode cX0_feel 28 = .ok (.getfield 18, 3) := by decide +kernel
theorem dX0_feel_31 : decode cX0_feel 31 = .ok (.iload_n 1, 1) := by decide +kernel
theorem dX0_feel_32 : decode cX0_feel 32 = .ok (.iload_n 2, 1) := by decide +kernel
theorem dX0_feel_33 : decode cX0_feel 33 = .ok (.iastore, 1) := by decide +kernel
theorem dX0_feel_34 : decode cX0_feel 34 = .ok (.iload_n 3, 1) := by decide +kernel
theorem dX0_feel_35 : decode cX0_feel 35 = .ok (.ireturn, 1) := by decide +kernel
set_option maxRecDepth 20000 in
set_option maxHeartbeats 2000000 in
theorem w_X0_feel {X : CX} {d : Nat} (hd : 1 ≤ d) (l0 : Nat) (l1 : Int32) (l2 : Int32) (g g' : G) (rx : Int32) (k_l0 : KD g l0 0) (h : f_X0_feel l0 l1 l2 g = some (rx, g')) : Sem X m_X0_feel d [.ref (ad X l0), .int l1, .int l2] g (some (.int rx)) g' := by
  refine Sem_of (lo := [(0, .ref (ad X l0)), (1, .int l1), (2, .int l2)]) (by decide +kernel) rfl (Nat.le_of_ble_eq_true rfl) ?_
  rw [f_X0_feel] at h
  refine SF_aload_n 0 1 dX0_feel_0 rfl rfl rfl ?_
  refine SF_iload_n 1 2 dX0_feel_1 rfl rfl rfl ?_
  obtain ⟨v1, g2, q3, h⟩ := bd_some h
  have s4 := w_X0_isPair (X := X) (Nat.le_refl 0) l0 l1 g g2 v1 k_l0 q3
  refine SF_callVb 5 mi_X0_isPair ml_X0_54 dX0_feel_2 (Nat.le_trans (by decide) hd) s4 k_l0.1 rfl rfl (Nat.le_of_ble_eq_true rfl) rfl ?_
  have k_l0 := k_l0.ext s4.1
  refine SF_ifeq 18 8 dX0_feel_5 rfl rfl (fun c5 => ?_) (fun c5 => ?_)
  · have h := ite_t c5 h
    refine SF_iconst (-1 : Int32) 19 dX0_feel_18 rfl rfl ?_
    exact RT_i rfl dX0_feel_19 h
  · have h := ite_f c5 h
    refine SF_iload_n 2 9 dX0_feel_8 rfl rfl rfl ?_
    refine SF_iflt 18 12 dX0_feel_9 rfl rfl (fun c6 => ?_) (fun c6 => ?_)
    · have h := ite_t c6 h
      refine SF_iconst (-1 : Int32) 19 dX0_feel_18 rfl rfl ?_
      exact RT_i rfl dX0_feel_19 h
    · have h := ite_f c6 h
      refine SF_iload_n 2 13 dX0_feel_12 rfl rfl rfl ?_
      refine SF_bipush (10 : Int32) 15 dX0_feel_13 rfl rfl ?_
      refine SF_iclt 20 18 dX0_feel_15 rfl rfl (fun c7 => ?_) (fun c7 => ?_)
      · have h := ite_t c7 h
        refine SF_aload_n 0 21 dX0_feel_20 rfl rfl rfl ?_
        obtain ⟨b8, r9, h⟩ := dr_some h
        refine SF_getR 24 fl_X0_18 dX0_feel_21 k_l0.1 r9 rfl ?_
        refine SF_iload_n 1 25 dX0_feel_24 rfl rfl rfl ?_
        obtain ⟨k10, h⟩ := gdK_some h
        obtain ⟨i11, h⟩ := gdI_some h
        refine SF_iald 26 dX0_feel_25 k10.1 i11 rfl ?_
        obtain ⟨y12, e13, h⟩ := li_some h
        refine SF_eqI e13 ?_
        refine SF_istore_n [(3, .int y12), (0, .ref (ad X l0)), (1, .int l1), (2, .int l2)] 27 dX0_feel_26 rfl (by decide) rfl rfl ?_
        refine SF_aload_n 1 28 dX0_feel_27 rfl rfl rfl ?_
        refine SF_getR 31 fl_X0_18 dX0_feel_28 k_l0.1 r9 rfl ?_
        refine SF_iload_n 2 32 dX0_feel_31 rfl rfl rfl ?_
        refine SF_iload_n 3 33 dX0_feel_32 rfl rfl rfl ?_
        refine SF_iast 34 dX0_feel_33 k10.1 i11 rfl ?_
        obtain ⟨g14, e15, h⟩ := lg_some h
        rw [← e15]
        have k_l0 := KD.eq e15 k_l0
        have k10 := KD.eq e15 k10
        have r9 := gR_eq e15 r9
        have i11 := vp_eq e15 i11
        refine SF_iload_n 0 35 dX0_feel_34 rfl rfl rfl ?_
        exact RT_i rfl dX0_feel_35 h
      · have h := ite_f c7 h
        refine SF_iconst (-1 : Int32) 19 dX0_feel_18 rfl rfl ?_
        exact RT_i rfl dX0_feel_19 h

theorem dX11_mood_0 : decode cX11_mood 0 = .ok (.aload_n 0, 1) := by decide +kernel
theorem dX11_mood_1 : decode cX11_mood 1 = .ok (.getfield 82, 3) := by decide +kernel
theorem dX11_mood_4 : decode cX11_mood 4 = .ok (.aload_n 0, 1) := by decide +kernel
theorem dX11_mood_5 : decode cX11_mood 5 = .ok (.getfield 78, 3) := by decide +kernel
theorem dX11_mood_8 : decode cX11_mood 8 = .ok (.invokevirtual 126, 3) := by decide +kernel
theorem dX11_mood_11 : decode cX11_mood 11 = .ok (.aload_n 0, 1) := by decide +kernel
theorem dX11_mood_12 : decode cX11_mood 12 = .ok (.aload_n 0, 1) := by decide +kernel
theorem dX11_mood_13 : decode cX11_mood 13 = .ok (.getfield 78, 3) := by decide +kernel
theorem dX11_mood_16 : decode cX11_mood 16 = .ok (.iload_n 1, 1) := by decide +kernel
theorem dX11_mood_17 : decode cX11_mood 17 = .ok (.iload_n 2, 1) := by decide +kernel
theorem dX11_mood_18 : decode cX11_mood 18 = .ok (.invokevirtual 209, 3) := by decide +kernel
theorem dX11_mood_21 : decode cX11_mood 21 = .ok (.invokevirtual 202, 3) := by decide +kernel
theorem dX11_mood_24 : decode cX11_mood 24 = .ok (.ireturn, 1) := by decide +kernel
set_option maxRecDepth 20000 in
set_option maxHeartbeats 2000000 in
theorem w_X11_mood {X : CX} {d : Nat} (hd : 5 ≤ d) (l0 : Nat) (l1 : Int32) (l2 : Int32) (g g' : G) (rx : Int32) (k_l0 : KD g l0 11) (h : f_X11_mood l0 l1 l2 g = some (rx, g')) : Sem X m_X11_mood d [.ref (ad X l0), .int l1, .int l2] g (some (.int rx)) g' := by
  refine Sem_of (lo := [(0, .ref (ad X l0)), (1, .int l1), (2, .int l2)]) (by decide +kernel) rfl (Nat.le_of_ble_eq_true rfl) ?_
  rw [f_X11_mood] at h
  refine SF_aload_n 0 1 dX11_mood_0 rfl rfl rfl ?_
  obtain ⟨b1, r2, h⟩ := dr_some h
  refine SF_getR 4 fl_X11_82 dX11_mood_1 k_l0.1 r2 rfl ?_
  refine SF_aload_n 0 5 dX11_mood_4 rfl rfl rfl ?_
  obtain ⟨b3, r4, h⟩ := dr_some h
  refine SF_getR 8 fl_X11_78 dX11_mood_5 k_l0.1 r4 rfl ?_
  obtain ⟨k5, h⟩ := gdK_some h
  obtain ⟨k6, h⟩ := gdK_some h
  obtain ⟨v7, g8, q9, h⟩ := bd_some h
  have s10 := w_X0_copyFrom (X := X) (Nat.le_refl 1) b1 b3 g g8 v7 k5 k6 q9
  refine SF_callVv 11 mi_X0_copyFrom ml_X11_126 dX11_mood_8 (Nat.le_trans (by decide) hd) s10 k5.1 rfl rfl (Nat.le_of_ble_eq_true rfl) rfl ?_
  have k_l0 := k_l0.ext s10.1
  have k5 := k5.ext s10.1
  have k6 := k6.ext s10.1
  refine SF_aload_n 0 12 dX11_mood_11 rfl rfl rfl ?_
  refine SF_aload_n 0 13 dX11_mood_12 rfl rfl rfl ?_
  obtain ⟨b11, r12, h⟩ := dr_some h
  refine SF_getR 16 fl_X11_78 dX11_mood_13 k_l0.1 r12 rfl ?_
  refine SF_iload_n 1 17 dX11_mood_16 rfl rfl rfl ?_
  refine SF_iload_n 2 18 dX11_mood_17 rfl rfl rfl ?_
  obtain ⟨k13, h⟩ := gdK_some h
  obtain ⟨v14, g15, q16, h⟩ := bd_some h
  have s17 := w_X0_feel (X := X) (Nat.le_refl 1) b11 l1 l2 g8 g15 v14 k13 q16
  refine SF_callVi 21 mi_X0_feel ml_X11_209 dX11_mood_18 (Nat.le_trans (by decide) hd) s17 k13.1 rfl rfl (Nat.le_of_ble_eq_true rfl) rfl ?_
  have k_l0 := k_l0.ext s17.1
  have k5 := k5.ext s17.1
  have k6 := k6.ext s17.1
  have k13 := k13.ext s17.1
  obtain ⟨v18, g19, q20, h⟩ := bd_some h
  have s21 := w_X11_deedAnswer (X := X) (Nat.le_refl 4) l0 v14 g15 g19 v18 k_l0 q20
  refine SF_callVi 24 mi_X11_deedAnswer ml_X11_202 dX11_mood_21 (Nat.le_trans (by decide) hd) s21 k_l0.1 rfl rfl (Nat.le_of_ble_eq_true rfl) rfl ?_
  have k_l0 := k_l0.ext s21.1
  have k5 := k5.ext s21.1
  have k6 := k6.ext s21.1
  have k13 := k13.ext s21.1
  exact RT_i rfl dX11_mood_24 h

theorem dX12_mood_0 : decode cX12_mood 0 = .ok (.aload_n 0, 1) := by decide +kernel
theorem dX12_mood_1 : decode cX12_mood 1 = .ok (.iconst 0, 1) := by decide +kernel
theorem dX12_mood_2 : decode cX12_mood 2 = .ok (.putfield 1, 3) := by decide +kernel
theorem dX12_mood_5 : decode cX12_mood 5 = .ok (.aload_n 0, 1) := by decide +kernel
theorem dX12_mood_6 : decode cX12_mood 6 = .ok (.iload_n 1, 1) := by decide +kernel
theorem dX12_mood_7 : decode cX12_mood 7 = .ok (.i2l, 1) := by decide +kernel
theorem dX12_mood_8 : decode cX12_mood 8 = .ok (.invokevirtual 255, 3) := by decide +kernel
theorem dX12_mood_11 : decode cX12_mood 11 = .ok (.ifCond .eq 15, 3) := by decide +kernel
theorem dX12_mood_14 : decode cX12_mood 14 = .ok (.iload_n 2, 1) := by decide +kernel
theorem dX12_mood_15 : decode cX12_mood 15 = .ok (.i2l, 1) := by decide +kernel
theorem dX12_mood_16 : decode cX12_mood 16 = .ok (.lconst 0, 1) := by decide +kernel
theorem dX12_mood_17 : decode cX12_mood 17 = .ok (.ldc2_w 295, 3) := by decide +kernel
theorem dX12_mood_20 : decode cX12_mood 20 = .ok (.invokestatic 139, 3) := by decide +kernel
theorem dX12_mood_23 : decode cX12_mood 23 = .ok (.ifCond .ne 6, 3) := by decide +kernel
theorem dX12_mood_26 : decode cX12_mood 26 = .ok (.bipush (-11), 2) := by decide +kernel
theorem dX12_mood_28 : decode cX12_mood 28 = .ok (.ireturn, 1) := by decide +kernel
theorem dX12_mood_29 : decode cX12_mood 29 = .ok (.aload_n 0, 1) := by decide +kernel
theorem dX12_mood_30 : decode cX12_mood 30 = .ok (.invokevirtual 281, 3) := by decide +kernel
theorem dX12_mood_33 : decode cX12_mood 33 = .ok (.aload_n 0, 1) := by decide +kernel
theorem dX12_mood_34 : decode cX12_mood 34 = .ok (.getfield 13, 3) := by decide +kernel
theorem dX12_mood_37 : decode cX12_mood 37 = .ok (.bipush 97, 2) := by decide +kernel
theorem dX12_mood_39 : decode cX12_mood 39 = .ok (.iload_n 1, 1) := by decide +kernel
theorem dX12_mood_40 : decode cX12_mood 40 = .ok (.iadd, 1) := by decide +kernel
theorem dX12_mood_41 : decode cX12_mood 41 = .ok (.iload_n 2, 1) := by decide +kernel
theorem dX12_mood_42 : decode cX12_mood 42 = .ok (.iastore, 1) := by decide +kernel
theorem dX12_mood_43 : decode cX12_mood 43 = .ok (.aload_n 0, 1) := by decide +kernel
theorem dX12_mood_44 : decode cX12_mood 44 = .ok (.invokevirtual 288, 3) := by decide +kernel
theorem dX12_mood_47 : decode cX12_mood 47 = .ok (.aload_n 0, 1) := by decide +kernel
theorem dX12_mood_48 : decode cX12_mood 48 = .ok (.getfield 36, 3) := by decide +kernel
theorem dX12_mood_51 : decode cX12_mood 51 = .ok (.bipush 45, 2) := by decide +kernel
theorem dX12_mood_53 : decode cX12_mood 53 = .ok (.iload_n 1, 1) := by decide +kernel
theorem dX12_mood_54 : decode cX12_mood 54 = .ok (.iadd, 1) := by decide +kernel
theorem dX12_mood_55 : decode cX12_mood 55 = .ok (.iaload, 1) := by decide +kernel
theorem dX12_mood_56 : decode cX12_mood 56 = .ok (.ireturn, 1) := by decide +kernel
set_option maxRecDepth 20000 in
set_option maxHeartbeats 2000000 in
theorem w_X12_mood {X : CX} {d : Nat} (hd : 2 ≤ d) (l0 : Nat) (l1 : Int32) (l2 : Int32) (g g' : G) (rx : Int32) (k_l0 : KD g l0 12) (h : f_X12_mood l0 l1 l2 g = some (rx, g')) : Sem X m_X12_mood d [.ref (ad X l0), .int l1, .int l2] g (some (.int rx)) g' := by
  refine Sem_of (lo := [(0, .ref (ad X l0)), (1, .int l1), (2, .int l2)]) (by decide +kernel) rfl (Nat.le_of_ble_eq_true rfl) ?_
  rw [f_X12_mood] at h
  refine SF_aload_n 0 1 dX12_mood_0 rfl rfl rfl ?_
  refine SF_iconst (0 : Int32) 2 dX12_mood_1 rfl rfl ?_
  refine SF_putI 5 fl_X12_1 dX12_mood_2 k_l0.1 (fn_int _) (Or.inl rfl) rfl ?_
  obtain ⟨g1, e2, h⟩ := lg_some h
  rw [← e2]
  have k_l0 := KD.eq e2 k_l0
  refine SF_aload_n 0 6 dX12_mood_5 rfl rfl rfl ?_
  refine SF_iload_n 1 7 dX12_mood_6 rfl rfl rfl ?_
  refine SF_i2l 8 dX12_mood_7 rfl ?_
  obtain ⟨v3, g4, q5, h⟩ := bd_some h
  have s6 := w_X12_isPair (X := X) (Nat.le_refl 1) l0 (l1.toInt64) g1 g4 v3 k_l0 q5
  refine SF_callVb 11 mi_X12_isPair ml_X12_255 dX12_mood_8 (Nat.le_trans (by decide) hd) s6 k_l0.1 rfl rfl (Nat.le_of_ble_eq_true rfl) rfl ?_
  have k_l0 := k_l0.ext s6.1
  refine SF_ifeq 26 14 dX12_mood_11 rfl rfl (fun c7 => ?_) (fun c7 => ?_)
  · have h := ite_t c7 h
    refine SF_bipush (-11 : Int32) 28 dX12_mood_26 rfl rfl ?_
    exact RT_i rfl dX12_mood_28 h
  · have h := ite_f c7 h
    refine SF_iload_n 2 15 dX12_mood_14 rfl rfl rfl ?_
    refine SF_i2l 16 dX12_mood_15 rfl ?_
    refine SF_lconst (0 : Int64) 17 dX12_mood_16 rfl rfl ?_
    refine SF_ldc2 20 dX12_mood_17 kl_X12_295 rfl ?_
    obtain ⟨v8, g9, q10, h⟩ := bd_some h
    have s11 := w_X12_within (X := X) (Nat.le_refl 0) (l2.toInt64) (0 : Int64) (9 : Int64) g4 g9 v8 q10
    refine SF_callSb 23 mi_X12_within ml_X12_139 dX12_mood_20 (Nat.le_trans (by decide) hd) s11 rfl rfl (Nat.le_of_ble_eq_true rfl) rfl ?_
    have k_l0 := k_l0.ext s11.1
    refine SF_ifne 29 26 dX12_mood_23 rfl rfl (fun c12 => ?_) (fun c12 => ?_)
    · have h := ite_f c12 h
      refine SF_aload_n 0 30 dX12_mood_29 rfl rfl rfl ?_
      obtain ⟨v13, g14, q15, h⟩ := bd_some h
      have s16 := w_X12_keeps (X := X) (Nat.le_refl 0) l0 g9 g14 v13 k_l0 q15
      refine SF_callVv 33 mi_X12_keeps ml_X12_281 dX12_mood_30 (Nat.le_trans (by decide) hd) s16 k_l0.1 rfl rfl (Nat.le_of_ble_eq_true rfl) rfl ?_
      have k_l0 := k_l0.ext s16.1
      refine SF_aload_n 0 34 dX12_mood_33 rfl rfl rfl ?_
      obtain ⟨b17, r18, h⟩ := dr_some h
      refine SF_getR 37 fl_X12_13 dX12_mood_34 k_l0.1 r18 rfl ?_
      refine SF_bipush (97 : Int32) 39 dX12_mood_37 rfl rfl ?_
      refine SF_iload_n 1 40 dX12_mood_39 rfl rfl rfl ?_
      refine SF_iadd 41 dX12_mood_40 rfl ?_
      refine SF_iload_n 2 42 dX12_mood_41 rfl rfl rfl ?_
      obtain ⟨k19, h⟩ := gdK_some h
      obtain ⟨i20, h⟩ := gdI_some h
      refine SF_iast 43 dX12_mood_42 k19.1 i20 rfl ?_
      obtain ⟨g21, e22, h⟩ := lg_some h
      rw [← e22]
      have k_l0 := KD.eq e22 k_l0
      have k19 := KD.eq e22 k19
      have r18 := gR_eq e22 r18
      have i20 := vp_eq e22 i20
      refine SF_aload_n 0 44 dX12_mood_43 rfl rfl rfl ?_
      obtain ⟨v23, g24, q25, h⟩ := bd_some h
      have s26 := w_X12_notes (X := X) (Nat.le_refl 0) l0 g21 g24 v23 k_l0 q25
      refine SF_callVv 47 mi_X12_notes ml_X12_288 dX12_mood_44 (Nat.le_trans (by decide) hd) s26 k_l0.1 rfl rfl (Nat.le_of_ble_eq_true rfl) rfl ?_
      have k_l0 := k_l0.ext s26.1
      have k19 := k19.ext s26.1
      refine SF_aload_n 0 48 dX12_mood_47 rfl rfl rfl ?_
      obtain ⟨b27, r28, h⟩ := dr_some h
      refine SF_getR 51 fl_X12_36 dX12_mood_48 k_l0.1 r28 rfl ?_
      refine SF_bipush (45 : Int32) 53 dX12_mood_51 rfl rfl ?_
      refine SF_iload_n 1 54 dX12_mood_53 rfl rfl rfl ?_
      refine SF_iadd 55 dX12_mood_54 rfl ?_
      obtain ⟨k29, h⟩ := gdK_some h
      obtain ⟨i30, h⟩ := gdI_some h
      refine SF_iald 56 dX12_mood_55 k29.1 i30 rfl ?_
      exact RT_i rfl dX12_mood_56 h
    · have h := ite_t c12 h
      refine SF_bipush (-11 : Int32) 28 dX12_mood_26 rfl rfl ?_
      exact RT_i rfl dX12_mood_28 h

theorem dX5_goBack_0 : decode cX5_goBack 0 = .ok (.iload_n 1, 1) := by decide +kernel
theorem dX5_goBack_1 : decode cX5_goBack 1 = .ok (.iconst 1, 1) := by decide +kernel
theorem dX5_goBack_2 : decode cX5_goBack 2 = .ok (.if_icmp .lt 42, 3) := by decide +kernel
theorem dX5_goBack_5 : decode cX5_goBack 5 = .ok (.iload_n 1, 1) := by decide +kernel
theorem dX5_goBack_6 : decode cX5_goBack 6 = .ok (.aload_n 0, 1) := by decide +kernel
theorem dX5_goBack_7 : decode cX5_goBack 7 = .ok (.getfield 20, 3) := by decide +kernel
theorem dX5_goBack_10 : decode cX5_goBack 10 = .ok (.if_icmp .gt 34, 3) := by decide +kernel
theorem dX5_goBack_13 : decode cX5_goBack 13 = .ok (.aload_n 0, 1) := by decide +kernel
theorem dX5_goBack_14 : decode cX5_goBack 14 = .ok (.dup, 1) := by decide +kernel
theorem dX5_goBack_15 : decode cX5_goBack 15 = .ok (.getfield 20, 3) := by decide +kernel
theorem dX5_goBack_18 : decode cX5_goBack 18 = .ok (.iload_n 1, 1) := by decide +kernel
theorem dX5_goBack_19 : decode cX5_goBack 19 = .ok (.isub, 1) := by decide +kernel
theorem dX5_goBack_20 : decode cX5_goBack 20 = .ok (.putfield 20, 3) := by decide +kernel
theorem dX5_goBack_23 : decode cX5_goBack 23 = .ok (.aload_n 2, 1) := by decide +kernel
theorem dX5_goBack_24 : decode cX5_goBack 24 = .ok (.aload_n 0, 1) := by decide +kernel
theorem dX5_goBack_25 : decode cX5_goBack 25 = .ok (.getfield 11, 3) := by decide +kernel
theorem dX5_goBack_28 : decode cX5_goBack 28 = .ok (.aload_n 0, 1) := by decide +kernel
theorem dX5_goBack_29 : decode cX5_goBack 29 = .ok (.getfield 24, 3) := by decide +kernel
theorem dX5_goBack_32 : decode cX5_goBack 32 = .ok (.aload_n 0, 1) := by decide +kernel
theorem dX5_goBack_33 : decode cX5_goBack 33 = .ok (.getfield 20, 3) := by decide +kernel
theorem dX5_goBack_36 : decode cX5_goBack 36 = .ok (.iadd, 1) := by decide +kernel
theorem dX5_goBack_37 : decode cX5_goBack 37 = .ok (.bipush 10, 2) := by decide +kernel
theorem dX5_goBack_39 : decode cX5_goBack 39 = .ok (.irem, 1) := by decide +kernel
theorem dX5_goBack_40 : decode cX5_goBack 40 = .ok (.aaload, 1) := by decide +kernel
theorem dX5_goBack_41 : decode cX5_goBack 41 = .ok (.invokevirtual 27, 3) := by decide +kernel
theorem dX5_goBack_44 : decode cX5_goBack 44 = .ok (.return_, 1) := by decide +kernel
set_option maxRecDepth 20000 in
set_option maxHeartbeats 2000000 in
theorem w_X5_goBack {X : CX} {d : Nat} (hd : 2 ≤ d) (l0 : Nat) (l1 : Int32) (l2 : Nat) (g g' : G) (rx : Unit) (k_l0 : KD g l0 5) (k_l2 : KD g l2 0) (h : f_X5_goBack l0 l1 l2 g = some (rx, g')) : Sem X m_X5_goBack d [.ref (ad X l0), .int l1, .ref (ad X l2)] g none g' := by
  refine Sem_of (lo := [(0, .ref (ad X l0)), (1, .int l1), (2, .ref (ad X l2))]) (by decide +kernel) rfl (Nat.le_of_ble_eq_true rfl) ?_
  rw [f_X5_goBack] at h
  refine SF_iload_n 1 1 dX5_goBack_0 rfl rfl rfl ?_
  refine SF_iconst (1 : Int32) 2 dX5_goBack_1 rfl rfl ?_
  refine SF_iclt 44 5 dX5_goBack_2 rfl rfl (fun c1 => ?_) (fun c1 => ?_)
  · have h := ite_t c1 h
    exact RT_v rfl dX5_goBack_44 h
  · have h := ite_f c1 h
    refine SF_iload_n 1 6 dX5_goBack_5 rfl rfl rfl ?_
    refine SF_aload_n 0 7 dX5_goBack_6 rfl rfl rfl ?_
    refine SF_getI 10 fl_X5_20 dX5_goBack_7 k_l0.1 rfl ?_
    refine SF_icgt 44 13 dX5_goBack_10 rfl rfl (fun c2 => ?_) (fun c2 => ?_)
    · have h := ite_t c2 h
      exact RT_v rfl dX5_goBack_44 h
    · have h := ite_f c2 h
      refine SF_aload_n 0 14 dX5_goBack_13 rfl rfl rfl ?_
      refine SF_dup 15 dX5_goBack_14 rfl rfl ?_
      refine SF_getI 18 fl_X5_20 dX5_goBack_15 k_l0.1 rfl ?_
      refine SF_iload_n 1 19 dX5_goBack_18 rfl rfl rfl ?_
      refine SF_isub 20 dX5_goBack_19 rfl ?_
      refine SF_putI 23 fl_X5_20 dX5_goBack_20 k_l0.1 (fn_int _) (Or.inl rfl) rfl ?_
      obtain ⟨g3, e4, h⟩ := lg_some h
      rw [← e4]
      have k_l0 := KD.eq e4 k_l0
      have k_l2 := KD.eq e4 k_l2
      refine SF_aload_n 2 24 dX5_goBack_23 rfl rfl rfl ?_
      refine SF_aload_n 0 25 dX5_goBack_24 rfl rfl rfl ?_
      obtain ⟨b5, r6, h⟩ := dr_some h
      refine SF_getR 28 fl_X5_11 dX5_goBack_25 k_l0.1 r6 rfl ?_
      refine SF_aload_n 0 29 dX5_goBack_28 rfl rfl rfl ?_
      refine SF_getI 32 fl_X5_24 dX5_goBack_29 k_l0.1 rfl ?_
      refine SF_aload_n 0 33 dX5_goBack_32 rfl rfl rfl ?_
      refine SF_getI 36 fl_X5_20 dX5_goBack_33 k_l0.1 rfl ?_
      refine SF_iadd 37 dX5_goBack_36 rfl ?_
      refine SF_bipush (10 : Int32) 39 dX5_goBack_37 rfl rfl ?_
      refine SF_irem 40 dX5_goBack_39 (by decide) rfl ?_
      obtain ⟨k7, h⟩ := gdK_some h
      obtain ⟨i8, h⟩ := gdI_some h
      obtain ⟨b9, r10, h⟩ := dr_some h
      refine SF_aald 41 dX5_goBack_40 k7.1 (Or.inl rfl) i8 r10 rfl ?_
      obtain ⟨k11, h⟩ := gdK_some h
      obtain ⟨v12, g13, q14, h⟩ := bd_some h
      have s15 := w_X0_copyFrom (X := X) (Nat.le_refl 1) l2 b9 g3 g13 v12 k_l2 k11 q14
      refine SF_callVv 44 mi_X0_copyFrom ml_X5_27 dX5_goBack_41 (Nat.le_trans (by decide) hd) s15 k_l2.1 rfl rfl (Nat.le_of_ble_eq_true rfl) rfl ?_
      have k_l0 := k_l0.ext s15.1
      have k_l2 := k_l2.ext s15.1
      have k7 := k7.ext s15.1
      have k11 := k11.ext s15.1
      exact RT_v rfl dX5_goBack_44 h

