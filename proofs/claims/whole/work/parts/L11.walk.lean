theorem dX3_play_0 : decode cX3_play 0 = .ok (.aload_n 0, 1) := by decide +kernel
theorem dX3_play_1 : decode cX3_play 1 = .ok (.getfield 33, 3) := by decide +kernel
theorem dX3_play_4 : decode cX3_play 4 = .ok (.ifCond .ne 8, 3) := by decide +kernel
theorem dX3_play_7 : decode cX3_play 7 = .ok (.aload_n 0, 1) := by decide +kernel
theorem dX3_play_8 : decode cX3_play 8 = .ok (.aload_n 1, 1) := by decide +kernel
theorem dX3_play_9 : decode cX3_play 9 = .ok (.invokevirtual 64, 3) := by decide +kernel
theorem dX3_play_12 : decode cX3_play 12 = .ok (.aload_n 0, 1) := by decide +kernel
theorem dX3_play_13 : decode cX3_play 13 = .ok (.getfield 27, 3) := by decide +kernel
theorem dX3_play_16 : decode cX3_play 16 = .ok (.iconst (-1), 1) := by decide +kernel
theorem dX3_play_17 : decode cX3_play 17 = .ok (.invokestatic 37, 3) := by decide +kernel
theorem dX3_play_20 : decode cX3_play 20 = .ok (.aload_n 0, 1) := by decide +kernel
theorem dX3_play_21 : decode cX3_play 21 = .ok (.getfield 21, 3) := by decide +kernel
theorem dX3_play_24 : decode cX3_play 24 = .ok (.iconst 0, 1) := by decide +kernel
theorem dX3_play_25 : decode cX3_play 25 = .ok (.aload_n 0, 1) := by decide +kernel
theorem dX3_play_26 : decode cX3_play 26 = .ok (.getfield 24, 3) := by decide +kernel
theorem dX3_play_29 : decode cX3_play 29 = .ok (.iconst 0, 1) := by decide +kernel
theorem dX3_play_30 : decode cX3_play 30 = .ok (.sipush 512, 3) := by decide +kernel
theorem dX3_play_33 : decode cX3_play 33 = .ok (.invokestatic 68, 3) := by decide +kernel
theorem dX3_play_36 : decode cX3_play 36 = .ok (.iconst 0, 1) := by decide +kernel
theorem dX3_play_37 : decode cX3_play 37 = .ok (.istore_n 3, 1) := by decide +kernel
theorem dX3_play_38 : decode cX3_play 38 = .ok (.iconst 0, 1) := by decide +kernel
theorem dX3_play_39 : decode cX3_play 39 = .ok (.istore 4, 2) := by decide +kernel
theorem dX3_play_41 : decode cX3_play 41 = .ok (.iload 4, 2) := by decide +kernel
theorem dX3_play_43 : decode cX3_play 43 = .ok (.iconst 2, 1) := by decide +kernel
theorem dX3_play_44 : decode cX3_play 44 = .ok (.aload_n 1, 1) := by decide +kernel
theorem dX3_play_45 : decode cX3_play 45 = .ok (.getfield 47, 3) := by decide +kernel
theorem dX3_play_48 : decode cX3_play 48 = .ok (.imul, 1) := by decide +kernel
theorem dX3_play_49 : decode cX3_play 49 = .ok (.if_icmp .ge 49, 3) := by decide +kernel
theorem dX3_play_52 : decode cX3_play 52 = .ok (.iload 4, 2) := by decide +kernel
theorem dX3_play_54 : decode cX3_play 54 = .ok (.sipush 512, 3) := by decide +kernel
theorem dX3_play_57 : decode cX3_play 57 = .ok (.if_icmp .ge 41, 3) := by decide +kernel
theorem dX3_play_60 : decode cX3_play 60 = .ok (.aload_n 1, 1) := by decide +kernel
theorem dX3_play_61 : decode cX3_play 61 = .ok (.iload 4, 2) := by decide +kernel
theorem dX3_play_63 : decode cX3_play 63 = .ok (.iconst 2, 1) := by decide +kernel
theorem dX3_play_64 : decode cX3_play 64 = .ok (.idiv, 1) := by decide +kernel
theorem dX3_play_65 : decode cX3_play 65 = .ok (.iconst 0, 1) := by decide +kernel
theorem dX3_play_66 : decode cX3_play 66 = .ok (.invokevirtual 74, 3) := by decide +kernel
theorem dX3_play_69 : decode cX3_play 69 = .ok (.iload_n 2, 1) := by decide +kernel
theorem dX3_play_70 : decode cX3_play 70 = .ok (.if_icmp .ne 22, 3) := by decide +kernel
theorem dX3_play_73 : decode cX3_play 73 = .ok (.aload_n 0, 1) := by decide +kernel
theorem dX3_play_74 : decode cX3_play 74 = .ok (.getfield 27, 3) := by decide +kernel
theorem dX3_play_77 : decode cX3_play 77 = .ok (.iload 4, 2) := by decide +kernel
theorem dX3_play_79 : decode cX3_play 79 = .ok (.iconst 0, 1) := by decide +kernel
theorem dX3_play_80 : decode cX3_play 80 = .ok (.iastore, 1) := by decide +kernel
theorem dX3_play_81 : decode cX3_play 81 = .ok (.aload_n 0, 1) := by decide +kernel
theorem dX3_play_82 : decode cX3_play 82 = .ok (.getfield 30, 3) := by decide +kernel
theorem dX3_play_85 : decode cX3_play 85 = .ok (.iload_n 3, 1) := by decide +kernel
theorem dX3_play_86 : decode cX3_play 86 = .ok (.iload 4, 2) := by decide +kernel
theorem dX3_play_88 : decode cX3_play 88 = .ok (.iastore, 1) := by decide +kernel
theorem dX3_play_89 : decode cX3_play 89 = .ok (.iinc 3 1, 3) := by decide +kernel
theorem dX3_play_92 : decode cX3_play 92 = .ok (.iinc 4 1, 3) := by decide +kernel
theorem dX3_play_95 : decode cX3_play 95 = .ok (.goto (-54), 3) := by decide +kernel
theorem dX3_play_98 : decode cX3_play 98 = .ok (.iconst 0, 1) := by decide +kernel
theorem dX3_play_99 : decode cX3_play 99 = .ok (.istore 4, 2) := by decide +kernel
theorem dX3_play_101 : decode cX3_play 101 = .ok (.iload 4, 2) := by decide +kernel
theorem dX3_play_103 : decode cX3_play 103 = .ok (.iload_n 3, 1) := by decide +kernel
theorem dX3_play_104 : decode cX3_play 104 = .ok (.if_icmp .ge 166, 3) := by decide +kernel
theorem dX3_play_107 : decode cX3_play 107 = .ok (.iload 4, 2) := by decide +kernel
theorem dX3_play_109 : decode cX3_play 109 = .ok (.sipush 512, 3) := by decide +kernel
theorem dX3_play_112 : decode cX3_play 112 = .ok (.if_icmp .ge 158, 3) := by decide +kernel
theorem dX3_play_115 : decode cX3_play 115 = .ok (.aload_n 0, 1) := by decide +kernel
theorem dX3_play_116 : decode cX3_play 116 = .ok (.getfield 9, 3) := by decide +kernel
theorem dX3_play_119 : decode cX3_play 119 = .ok (.aload_n 0, 1) := by decide +kernel
theorem dX3_play_120 : decode cX3_play 120 = .ok (.getfield 30, 3) := by decide +kernel
theorem dX3_play_123 : decode cX3_play 123 = .ok (.iload 4, 2) := by decide +kernel
theorem dX3_play_125 : decode cX3_play 125 = .ok (.iaload, 1) := by decide +kernel
theorem dX3_play_126 : decode cX3_play 126 = .ok (.iaload, 1) := by decide +kernel
theorem dX3_play_127 : decode cX3_play 127 = .ok (.istore 5, 2) := by decide +kernel
theorem dX3_play_129 : decode cX3_play 129 = .ok (.iconst 0, 1) := by decide +kernel
theorem dX3_play_130 : decode cX3_play 130 = .ok (.istore 6, 2) := by decide +kernel
theorem dX3_play_132 : decode cX3_play 132 = .ok (.iload 6, 2) := by decide +kernel
theorem dX3_play_134 : decode cX3_play 134 = .ok (.aload_n 0, 1) := by decide +kernel
theorem dX3_play_135 : decode cX3_play 135 = .ok (.getfield 18, 3) := by decide +kernel
theorem dX3_play_138 : decode cX3_play 138 = .ok (.arraylength, 1) := by decide +kernel
theorem dX3_play_139 : decode cX3_play 139 = .ok (.if_icmp .ge 125, 3) := by decide +kernel
theorem dX3_play_142 : decode cX3_play 142 = .ok (.iload 5, 2) := by decide +kernel
theorem dX3_play_144 : decode cX3_play 144 = .ok (.iconst (-1), 1) := by decide +kernel
theorem dX3_play_145 : decode cX3_play 145 = .ok (.if_icmp .eq 119, 3) := by decide +kernel
theorem dX3_play_148 : decode cX3_play 148 = .ok (.aload_n 0, 1) := by decide +kernel
theorem dX3_play_149 : decode cX3_play 149 = .ok (.getfield 18, 3) := by decide +kernel
theorem dX3_play_152 : decode cX3_play 152 = .ok (.iload 5, 2) := by decide +kernel
theorem dX3_play_154 : decode cX3_play 154 = .ok (.iaload, 1) := by decide +kernel
theorem dX3_play_155 : decode cX3_play 155 = .ok (.istore 7, 2) := by decide +kernel
theorem dX3_play_157 : decode cX3_play 157 = .ok (.aload_n 0, 1) := by decide +kernel
theorem dX3_play_158 : decode cX3_play 158 = .ok (.getfield 24, 3) := by decide +kernel
theorem dX3_play_161 : decode cX3_play 161 = .ok (.iload 7, 2) := by decide +kernel
theorem dX3_play_163 : decode cX3_play 163 = .ok (.dup2, 1) := by decide +kernel
theorem dX3_play_164 : decode cX3_play 164 = .ok (.iaload, 1) := by decide +kernel
theorem dX3_play_165 : decode cX3_play 165 = .ok (.iconst 1, 1) := by decide +kernel
theorem dX3_play_166 : decode cX3_play 166 = .ok (.isub, 1) := by decide +kernel
theorem dX3_play_167 : decode cX3_play 167 = .ok (.iastore, 1) := by decide +kernel
theorem dX3_play_168 : decode cX3_play 168 = .ok (.aload_n 0, 1) := by decide +kernel
theorem dX3_play_169 : decode cX3_play 169 = .ok (.getfield 27, 3) := by decide +kernel
theorem dX3_play_172 : decode cX3_play 172 = .ok (.iload 7, 2) := by decide +kernel
theorem dX3_play_174 : decode cX3_play 174 = .ok (.iaload, 1) := by decide +kernel
theorem dX3_play_175 : decode cX3_play 175 = .ok (.iconst (-1), 1) := by decide +kernel
theorem dX3_play_176 : decode cX3_play 176 = .ok (.if_icmp .ne 24, 3) := by decide +kernel
theorem dX3_play_179 : decode cX3_play 179 = .ok (.iload 7, 2) := by decide +kernel
theorem dX3_play_181 : decode cX3_play 181 = .ok (.iconst 2, 1) := by decide +kernel
theorem dX3_play_182 : decode cX3_play 182 = .ok (.irem, 1) := by decide +kernel
theorem dX3_play_183 : decode cX3_play 183 = .ok (.ifCond .eq 13, 3) := by decide +kernel
theorem dX3_play_186 : decode cX3_play 186 = .ok (.aload_n 0, 1) := by decide +kernel
theorem dX3_play_187 : decode cX3_play 187 = .ok (.getfield 24, 3) := by decide +kernel
theorem dX3_play_190 : decode cX3_play 190 = .ok (.iload 7, 2) := by decide +kernel
theorem dX3_play_192 : decode cX3_play 192 = .ok (.iaload, 1) := by decide +kernel
theorem dX3_play_193 : decode cX3_play 193 = .ok (.ifCond .ne 7, 3) := by decide +kernel
theorem dX3_play_196 : decode cX3_play 196 = .ok (.iconst 1, 1) := by decide +kernel
theorem dX3_play_197 : decode cX3_play 197 = .ok (.goto 4, 3) := by decide +kernel
theorem dX3_play_200 : decode cX3_play 200 = .ok (.iconst 0, 1) := by decide +kernel
theorem dX3_play_201 : decode cX3_play 201 = .ok (.istore 8, 2) := by decide +kernel
theorem dX3_play_203 : decode cX3_play 203 = .ok (.iload 8, 2) := by decide +kernel
theorem dX3_play_205 : decode cX3_play 205 = .ok (.ifCond .eq 44, 3) := by decide +kernel
theorem dX3_play_208 : decode cX3_play 208 = .ok (.iload_n 3, 1) := by decide +kernel
theorem dX3_play_209 : decode cX3_play 209 = .ok (.aload_n 0, 1) := by decide +kernel
theorem dX3_play_210 : decode cX3_play 210 = .ok (.getfield 30, 3) := by decide +kernel
theorem dX3_play_213 : decode cX3_play 213 = .ok (.arraylength, 1) := by decide +kernel
theorem dX3_play_214 : decode cX3_play 214 = .ok (.if_icmp .ge 35, 3) := by decide +kernel
theorem dX3_play_217 : decode cX3_play 217 = .ok (.aload_n 0, 1) := by decide +kernel
theorem dX3_play_218 : decode cX3_play 218 = .ok (.getfield 27, 3) := by decide +kernel
theorem dX3_play_221 : decode cX3_play 221 = .ok (.iload 7, 2) := by decide +kernel
theorem dX3_play_223 : decode cX3_play 223 = .ok (.aload_n 0, 1) := by decide +kernel
theorem dX3_play_224 : decode cX3_play 224 = .ok (.getfield 27, 3) := by decide +kernel
theorem dX3_play_227 : decode cX3_play 227 = .ok (.aload_n 0, 1) := by decide +kernel
theorem dX3_play_228 : decode cX3_play 228 = .ok (.getfield 30, 3) := by decide +kernel
theorem dX3_play_231 : decode cX3_play 231 = .ok (.iload 4, 2) := by decide +kernel
theorem dX3_play_233 : decode cX3_play 233 = .ok (.iaload, 1) := by decide +kernel
theorem dX3_play_234 : decode cX3_play 234 = .ok (.iaload, 1) := by decide +kernel
theorem dX3_play_235 : decode cX3_play 235 = .ok (.iconst 1, 1) := by decide +kernel
theorem dX3_play_236 : decode cX3_play 236 = .ok (.iadd, 1) := by decide +kernel
theorem dX3_play_237 : decode cX3_play 237 = .ok (.iastore, 1) := by decide +kernel
theorem dX3_play_238 : decode cX3_play 238 = .ok (.aload_n 0, 1) := by decide +kernel
theorem dX3_play_239 : decode cX3_play 239 = .ok (.getfield 30, 3) := by decide +kernel
theorem dX3_play_242 : decode cX3_play 242 = .ok (.iload_n 3, 1) := by decide +kernel
theorem dX3_play_243 : decode cX3_play 243 = .ok (.iload 7, 2) := by decide +kernel
theorem dX3_play_245 : decode cX3_play 245 = .ok (.iastore, 1) := by decide +kernel
theorem dX3_play_246 : decode cX3_play 246 = .ok (.iinc 3 1, 3) := by decide +kernel
theorem dX3_play_249 : decode cX3_play 249 = .ok (.aload_n 0, 1) := by decide +kernel
theorem dX3_play_250 : decode cX3_play 250 = .ok (.getfield 15, 3) := by decide +kernel
theorem dX3_play_253 : decode cX3_play 253 = .ok (.iload 5, 2) := by decide +kernel
theorem dX3_play_255 : decode cX3_play 255 = .ok (.iaload, 1) := by decide +kernel
theorem dX3_play_256 : decode cX3_play 256 = .ok (.istore 5, 2) := by decide +kernel
theorem dX3_play_258 : decode cX3_play 258 = .ok (.iinc 6 1, 3) := by decide +kernel
theorem dX3_play_261 : decode cX3_play 261 = .ok (.goto (-129), 3) := by decide +kernel
theorem dX3_play_264 : decode cX3_play 264 = .ok (.iinc 4 1, 3) := by decide +kernel
theorem dX3_play_267 : decode cX3_play 267 = .ok (.goto (-166), 3) := by decide +kernel
theorem dX3_play_270 : decode cX3_play 270 = .ok (.return_, 1) := by decide +kernel
set_option maxRecDepth 20000 in
set_option maxHeartbeats 2000000 in
theorem w_X3_play_92 {X : CX} {d : Nat} (hd : 3 ≤ d) {g' : G} {rx : Unit} (k41 : Nat → Nat → Int32 → Int32 → Int32 → G → Option (Unit × G)) (hk41 : ∀ (l0 : Nat) (l1 : Nat) (l2 : Int32) (l3 : Int32) (l4 : Int32) (g : G), KD g l0 3 → KD g l1 4 → k41 l0 l1 l2 l3 l4 g = some (rx, g') → SemF X m_X3_play d 41 [(0, .ref (ad X l0)), (1, .ref (ad X l1)), (2, .int l2), (3, .int l3), (4, .int l4)] [] g none g') (l0 : Nat) (l1 : Nat) (l2 : Int32) (l3 : Int32) (l4 : Int32) (g : G) (k_l0 : KD g l0 3) (k_l1 : KD g l1 4) (h : f_X3_play_92 k41 l0 l1 l2 l3 l4 g = some (rx, g')) : SemF X m_X3_play d 92 [(0, .ref (ad X l0)), (1, .ref (ad X l1)), (2, .int l2), (3, .int l3), (4, .int l4)] [] g none g' := by
  rw [f_X3_play_92] at h
  refine SF_iinc 4 (l4 + (1 : Int32)) [(4, .int (l4 + (1 : Int32))), (0, .ref (ad X l0)), (1, .ref (ad X l1)), (2, .int l2), (3, .int l3)] 95 dX3_play_92 rfl rfl (by decide) rfl rfl ?_
  refine SF_goto 41 dX3_play_95 rfl ?_
  refine SF_sub [1, 2, 3, 4, 0] rfl ?_
  exact hk41 l0 l1 l2 l3 (l4 + (1 : Int32)) g k_l0 k_l1 h

set_option maxRecDepth 20000 in
set_option maxHeartbeats 2000000 in
theorem w_X3_play_249 {X : CX} {d : Nat} (hd : 3 ≤ d) {g' : G} {rx : Unit} (k101 : Nat → Int32 → Int32 → G → Option (Unit × G)) (hk101 : ∀ (l0 : Nat) (l3 : Int32) (l4 : Int32) (g : G), KD g l0 3 → k101 l0 l3 l4 g = some (rx, g') → SemF X m_X3_play d 101 [(0, .ref (ad X l0)), (3, .int l3), (4, .int l4)] [] g none g') (k132 : Nat → Int32 → Int32 → Int32 → Int32 → G → Option (Unit × G)) (hk132 : ∀ (l0 : Nat) (l3 : Int32) (l4 : Int32) (l5 : Int32) (l6 : Int32) (g : G), KD g l0 3 → k132 l0 l3 l4 l5 l6 g = some (rx, g') → SemF X m_X3_play d 132 [(0, .ref (ad X l0)), (3, .int l3), (4, .int l4), (5, .int l5), (6, .int l6)] [] g none g') (l0 : Nat) (l3 : Int32) (l4 : Int32) (l5 : Int32) (l6 : Int32) (g : G) (k_l0 : KD g l0 3) (h : f_X3_play_249 k101 k132 l0 l3 l4 l5 l6 g = some (rx, g')) : SemF X m_X3_play d 249 [(0, .ref (ad X l0)), (3, .int l3), (4, .int l4), (5, .int l5), (6, .int l6)] [] g none g' := by
  rw [f_X3_play_249] at h
  refine SF_aload_n 0 250 dX3_play_249 rfl rfl rfl ?_
  obtain ⟨b1, r2, h⟩ := dr_some h
  refine SF_getR 253 fl_X3_15 dX3_play_250 k_l0.1 r2 rfl ?_
  refine SF_iload 3 255 dX3_play_253 rfl rfl ?_
  obtain ⟨k3, h⟩ := gdK_some h
  obtain ⟨i4, h⟩ := gdI_some h
  refine SF_iald 256 dX3_play_255 k3.1 i4 rfl ?_
  obtain ⟨y5, e6, h⟩ := li_some h
  refine SF_eqI e6 ?_
  refine SF_istore [(5, .int y5), (0, .ref (ad X l0)), (3, .int l3), (4, .int l4), (6, .int l6)] 258 dX3_play_256 (by decide) rfl rfl ?_
  refine SF_iinc 4 (l6 + (1 : Int32)) [(6, .int (l6 + (1 : Int32))), (5, .int y5), (0, .ref (ad X l0)), (3, .int l3), (4, .int l4)] 261 dX3_play_258 rfl rfl (by decide) rfl rfl ?_
  refine SF_goto 132 dX3_play_261 rfl ?_
  refine SF_sub [2, 3, 4, 1, 0] rfl ?_
  exact hk132 l0 l3 l4 y5 (l6 + (1 : Int32)) g k_l0 h

set_option maxRecDepth 20000 in
set_option maxHeartbeats 2000000 in
theorem w_X3_play_201 {X : CX} {d : Nat} (hd : 3 ≤ d) {g' : G} {rx : Unit} (k101 : Nat → Int32 → Int32 → G → Option (Unit × G)) (hk101 : ∀ (l0 : Nat) (l3 : Int32) (l4 : Int32) (g : G), KD g l0 3 → k101 l0 l3 l4 g = some (rx, g') → SemF X m_X3_play d 101 [(0, .ref (ad X l0)), (3, .int l3), (4, .int l4)] [] g none g') (k132 : Nat → Int32 → Int32 → Int32 → Int32 → G → Option (Unit × G)) (hk132 : ∀ (l0 : Nat) (l3 : Int32) (l4 : Int32) (l5 : Int32) (l6 : Int32) (g : G), KD g l0 3 → k132 l0 l3 l4 l5 l6 g = some (rx, g') → SemF X m_X3_play d 132 [(0, .ref (ad X l0)), (3, .int l3), (4, .int l4), (5, .int l5), (6, .int l6)] [] g none g') (l0 : Nat) (l3 : Int32) (l4 : Int32) (l5 : Int32) (l6 : Int32) (l7 : Int32) (s0 : Int32) (g : G) (k_l0 : KD g l0 3) (h : f_X3_play_201 k101 k132 l0 l3 l4 l5 l6 l7 s0 g = some (rx, g')) : SemF X m_X3_play d 201 [(0, .ref (ad X l0)), (3, .int l3), (4, .int l4), (5, .int l5), (6, .int l6), (7, .int l7)] [.int s0] g none g' := by
  rw [f_X3_play_201] at h
  refine SF_istore [(8, .int s0), (0, .ref (ad X l0)), (3, .int l3), (4, .int l4), (5, .int l5), (6, .int l6), (7, .int l7)] 203 dX3_play_201 (by decide) rfl rfl ?_
  refine SF_iload 0 205 dX3_play_203 rfl rfl ?_
  refine SF_ifeq 249 208 dX3_play_205 rfl rfl (fun c1 => ?_) (fun c1 => ?_)
  · have h := ite_t c1 h
    refine SF_sub [1, 2, 3, 4, 5] rfl ?_
    exact w_X3_play_249 hd k101 hk101 k132 hk132 l0 l3 l4 l5 l6 g k_l0 h
  · have h := ite_f c1 h
    refine SF_iload_n 2 209 dX3_play_208 rfl rfl rfl ?_
    refine SF_aload_n 1 210 dX3_play_209 rfl rfl rfl ?_
    obtain ⟨b2, r3, h⟩ := dr_some h
    refine SF_getR 213 fl_X3_30 dX3_play_210 k_l0.1 r3 rfl ?_
    obtain ⟨k4, h⟩ := gdK_some h
    refine SF_alen 214 dX3_play_213 k4.1 (by decide) (by decide) rfl ?_
    refine SF_icge 249 217 dX3_play_214 rfl rfl (fun c5 => ?_) (fun c5 => ?_)
    · have h := ite_t c5 h
      refine SF_sub [1, 2, 3, 4, 5] rfl ?_
      exact w_X3_play_249 hd k101 hk101 k132 hk132 l0 l3 l4 l5 l6 g k_l0 h
    · have h := ite_f c5 h
      refine SF_aload_n 1 218 dX3_play_217 rfl rfl rfl ?_
      obtain ⟨b6, r7, h⟩ := dr_some h
      refine SF_getR 221 fl_X3_27 dX3_play_218 k_l0.1 r7 rfl ?_
      refine SF_iload 6 223 dX3_play_221 rfl rfl ?_
      refine SF_aload_n 1 224 dX3_play_223 rfl rfl rfl ?_
      refine SF_getR 227 fl_X3_27 dX3_play_224 k_l0.1 r7 rfl ?_
      refine SF_aload_n 1 228 dX3_play_227 rfl rfl rfl ?_
      refine SF_getR 231 fl_X3_30 dX3_play_228 k_l0.1 r3 rfl ?_
      refine SF_iload 3 233 dX3_play_231 rfl rfl ?_
      obtain ⟨i8, h⟩ := gdI_some h
      refine SF_iald 234 dX3_play_233 k4.1 i8 rfl ?_
      obtain ⟨k9, h⟩ := gdK_some h
      obtain ⟨i10, h⟩ := gdI_some h
      refine SF_iald 235 dX3_play_234 k9.1 i10 rfl ?_
      refine SF_iconst (1 : Int32) 236 dX3_play_235 rfl rfl ?_
      refine SF_iadd 237 dX3_play_236 rfl ?_
      obtain ⟨i11, h⟩ := gdI_some h
      refine SF_iast 238 dX3_play_237 k9.1 i11 rfl ?_
      obtain ⟨g12, e13, h⟩ := lg_some h
      rw [← e13]
      have k_l0 := KD.eq e13 k_l0
      have k4 := KD.eq e13 k4
      have k9 := KD.eq e13 k9
      have r3 := gR_eq e13 r3
      have r7 := gR_eq e13 r7
      have i8 := vp_eq e13 i8
      have i10 := vp_eq e13 i10
      have i11 := vp_eq e13 i11
      refine SF_aload_n 1 239 dX3_play_238 rfl rfl rfl ?_
      refine SF_getR 242 fl_X3_30 dX3_play_239 k_l0.1 r3 rfl ?_
      refine SF_iload_n 2 243 dX3_play_242 rfl rfl rfl ?_
      refine SF_iload 6 245 dX3_play_243 rfl rfl ?_
      obtain ⟨i14, h⟩ := gdI_some h
      refine SF_iast 246 dX3_play_245 k4.1 i14 rfl ?_
      obtain ⟨g15, e16, h⟩ := lg_some h
      rw [← e16]
      have k_l0 := KD.eq e16 k_l0
      have k4 := KD.eq e16 k4
      have k9 := KD.eq e16 k9
      have r3 := gR_eq e16 r3
      have r7 := gR_eq e16 r7
      have i8 := vp_eq e16 i8
      have i10 := vp_eq e16 i10
      have i11 := vp_eq e16 i11
      have i14 := vp_eq e16 i14
      refine SF_iinc 2 (l3 + (1 : Int32)) [(3, .int (l3 + (1 : Int32))), (8, .int s0), (0, .ref (ad X l0)), (4, .int l4), (5, .int l5), (6, .int l6), (7, .int l7)] 249 dX3_play_246 rfl rfl (by decide) rfl rfl ?_
      refine SF_sub [2, 0, 3, 4, 5] rfl ?_
      exact w_X3_play_249 hd k101 hk101 k132 hk132 l0 (l3 + (1 : Int32)) l4 l5 l6 g15 k_l0 h

set_option maxRecDepth 20000 in
set_option maxHeartbeats 2000000 in
theorem w_X3_play_196 {X : CX} {d : Nat} (hd : 3 ≤ d) {g' : G} {rx : Unit} (k101 : Nat → Int32 → Int32 → G → Option (Unit × G)) (hk101 : ∀ (l0 : Nat) (l3 : Int32) (l4 : Int32) (g : G), KD g l0 3 → k101 l0 l3 l4 g = some (rx, g') → SemF X m_X3_play d 101 [(0, .ref (ad X l0)), (3, .int l3), (4, .int l4)] [] g none g') (k132 : Nat → Int32 → Int32 → Int32 → Int32 → G → Option (Unit × G)) (hk132 : ∀ (l0 : Nat) (l3 : Int32) (l4 : Int32) (l5 : Int32) (l6 : Int32) (g : G), KD g l0 3 → k132 l0 l3 l4 l5 l6 g = some (rx, g') → SemF X m_X3_play d 132 [(0, .ref (ad X l0)), (3, .int l3), (4, .int l4), (5, .int l5), (6, .int l6)] [] g none g') (l0 : Nat) (l3 : Int32) (l4 : Int32) (l5 : Int32) (l6 : Int32) (l7 : Int32) (g : G) (k_l0 : KD g l0 3) (h : f_X3_play_196 k101 k132 l0 l3 l4 l5 l6 l7 g = some (rx, g')) : SemF X m_X3_play d 196 [(0, .ref (ad X l0)), (3, .int l3), (4, .int l4), (5, .int l5), (6, .int l6), (7, .int l7)] [] g none g' := by
  rw [f_X3_play_196] at h
  refine SF_iconst (1 : Int32) 197 dX3_play_196 rfl rfl ?_
  refine SF_goto 201 dX3_play_197 rfl ?_
  exact w_X3_play_201 hd k101 hk101 k132 hk132 l0 l3 l4 l5 l6 l7 (1 : Int32) g k_l0 h

set_option maxRecDepth 20000 in
set_option maxHeartbeats 2000000 in
theorem w_X3_play_200 {X : CX} {d : Nat} (hd : 3 ≤ d) {g' : G} {rx : Unit} (k101 : Nat → Int32 → Int32 → G → Option (Unit × G)) (hk101 : ∀ (l0 : Nat) (l3 : Int32) (l4 : Int32) (g : G), KD g l0 3 → k101 l0 l3 l4 g = some (rx, g') → SemF X m_X3_play d 101 [(0, .ref (ad X l0)), (3, .int l3), (4, .int l4)] [] g none g') (k132 : Nat → Int32 → Int32 → Int32 → Int32 → G → Option (Unit × G)) (hk132 : ∀ (l0 : Nat) (l3 : Int32) (l4 : Int32) (l5 : Int32) (l6 : Int32) (g : G), KD g l0 3 → k132 l0 l3 l4 l5 l6 g = some (rx, g') → SemF X m_X3_play d 132 [(0, .ref (ad X l0)), (3, .int l3), (4, .int l4), (5, .int l5), (6, .int l6)] [] g none g') (l0 : Nat) (l3 : Int32) (l4 : Int32) (l5 : Int32) (l6 : Int32) (l7 : Int32) (g : G) (k_l0 : KD g l0 3) (h : f_X3_play_200 k101 k132 l0 l3 l4 l5 l6 l7 g = some (rx, g')) : SemF X m_X3_play d 200 [(0, .ref (ad X l0)), (3, .int l3), (4, .int l4), (5, .int l5), (6, .int l6), (7, .int l7)] [] g none g' := by
  rw [f_X3_play_200] at h
  refine SF_iconst (0 : Int32) 201 dX3_play_200 rfl rfl ?_
  exact w_X3_play_201 hd k101 hk101 k132 hk132 l0 l3 l4 l5 l6 l7 (0 : Int32) g k_l0 h

set_option maxRecDepth 20000 in
set_option maxHeartbeats 2000000 in
theorem w_X3_play_264 {X : CX} {d : Nat} (hd : 3 ≤ d) {g' : G} {rx : Unit} (k101 : Nat → Int32 → Int32 → G → Option (Unit × G)) (hk101 : ∀ (l0 : Nat) (l3 : Int32) (l4 : Int32) (g : G), KD g l0 3 → k101 l0 l3 l4 g = some (rx, g') → SemF X m_X3_play d 101 [(0, .ref (ad X l0)), (3, .int l3), (4, .int l4)] [] g none g') (l0 : Nat) (l3 : Int32) (l4 : Int32) (g : G) (k_l0 : KD g l0 3) (h : f_X3_play_264 k101 l0 l3 l4 g = some (rx, g')) : SemF X m_X3_play d 264 [(0, .ref (ad X l0)), (3, .int l3), (4, .int l4)] [] g none g' := by
  rw [f_X3_play_264] at h
  refine SF_iinc 2 (l4 + (1 : Int32)) [(4, .int (l4 + (1 : Int32))), (0, .ref (ad X l0)), (3, .int l3)] 267 dX3_play_264 rfl rfl (by decide) rfl rfl ?_
  refine SF_goto 101 dX3_play_267 rfl ?_
  refine SF_sub [1, 2, 0] rfl ?_
  exact hk101 l0 l3 (l4 + (1 : Int32)) g k_l0 h

set_option maxRecDepth 20000 in
set_option maxHeartbeats 2000000 in
theorem w_X3_play_132 {X : CX} {d : Nat} (hd : 3 ≤ d) {g' : G} {rx : Unit} (k101 : Nat → Int32 → Int32 → G → Option (Unit × G)) (hk101 : ∀ (l0 : Nat) (l3 : Int32) (l4 : Int32) (g : G), KD g l0 3 → k101 l0 l3 l4 g = some (rx, g') → SemF X m_X3_play d 101 [(0, .ref (ad X l0)), (3, .int l3), (4, .int l4)] [] g none g') : ∀ (n : Nat) (l0 : Nat) (l3 : Int32) (l4 : Int32) (l5 : Int32) (l6 : Int32) (g : G), KD g l0 3 → f_X3_play_132 k101 n l0 l3 l4 l5 l6 g = some (rx, g') → SemF X m_X3_play d 132 [(0, .ref (ad X l0)), (3, .int l3), (4, .int l4), (5, .int l5), (6, .int l6)] [] g none g' := by
  intro n
  induction n with
  | zero =>
    intro l0 l3 l4 l5 l6 g k_l0 h
    rw [f_X3_play_132] at h
    cases h
  | succ n ih =>
  intro l0 l3 l4 l5 l6 g k_l0 h
  rw [f_X3_play_132] at h
  refine SF_iload 4 134 dX3_play_132 rfl rfl ?_
  refine SF_aload_n 0 135 dX3_play_134 rfl rfl rfl ?_
  obtain ⟨b1, r2, h⟩ := dr_some h
  refine SF_getR 138 fl_X3_18 dX3_play_135 k_l0.1 r2 rfl ?_
  obtain ⟨k3, h⟩ := gdK_some h
  refine SF_alen 139 dX3_play_138 k3.1 (by decide) (by decide) rfl ?_
  refine SF_icge 264 142 dX3_play_139 rfl rfl (fun c4 => ?_) (fun c4 => ?_)
  · have h := ite_t c4 h
    refine SF_sub [0, 1, 2] rfl ?_
    exact w_X3_play_264 hd k101 hk101 l0 l3 l4 g k_l0 h
  · have h := ite_f c4 h
    refine SF_iload 3 144 dX3_play_142 rfl rfl ?_
    refine SF_iconst (-1 : Int32) 145 dX3_play_144 rfl rfl ?_
    refine SF_iceq 264 148 dX3_play_145 rfl rfl (fun c5 => ?_) (fun c5 => ?_)
    · have h := ite_t c5 h
      refine SF_sub [0, 1, 2] rfl ?_
      exact w_X3_play_264 hd k101 hk101 l0 l3 l4 g k_l0 h
    · have h := ite_f c5 h
      refine SF_aload_n 0 149 dX3_play_148 rfl rfl rfl ?_
      refine SF_getR 152 fl_X3_18 dX3_play_149 k_l0.1 r2 rfl ?_
      refine SF_iload 3 154 dX3_play_152 rfl rfl ?_
      obtain ⟨i6, h⟩ := gdI_some h
      refine SF_iald 155 dX3_play_154 k3.1 i6 rfl ?_
      obtain ⟨y7, e8, h⟩ := li_some h
      refine SF_eqI e8 ?_
      refine SF_istore [(7, .int y7), (0, .ref (ad X l0)), (3, .int l3), (4, .int l4), (5, .int l5), (6, .int l6)] 157 dX3_play_155 (by decide) rfl rfl ?_
      refine SF_aload_n 1 158 dX3_play_157 rfl rfl rfl ?_
      obtain ⟨b9, r10, h⟩ := dr_some h
      refine SF_getR 161 fl_X3_24 dX3_play_158 k_l0.1 r10 rfl ?_
      refine SF_iload 0 163 dX3_play_161 rfl rfl ?_
      refine SF_dup2_11 164 dX3_play_163 rfl rfl rfl ?_
      obtain ⟨k11, h⟩ := gdK_some h
      obtain ⟨i12, h⟩ := gdI_some h
      refine SF_iald 165 dX3_play_164 k11.1 i12 rfl ?_
      refine SF_iconst (1 : Int32) 166 dX3_play_165 rfl rfl ?_
      refine SF_isub 167 dX3_play_166 rfl ?_
      refine SF_iast 168 dX3_play_167 k11.1 i12 rfl ?_
      obtain ⟨g13, e14, h⟩ := lg_some h
      rw [← e14]
      have k_l0 := KD.eq e14 k_l0
      have k3 := KD.eq e14 k3
      have k11 := KD.eq e14 k11
      have r2 := gR_eq e14 r2
      have r10 := gR_eq e14 r10
      have i6 := vp_eq e14 i6
      have i12 := vp_eq e14 i12
      refine SF_aload_n 1 169 dX3_play_168 rfl rfl rfl ?_
      obtain ⟨b15, r16, h⟩ := dr_some h
      refine SF_getR 172 fl_X3_27 dX3_play_169 k_l0.1 r16 rfl ?_
      refine SF_iload 0 174 dX3_play_172 rfl rfl ?_
      obtain ⟨k17, h⟩ := gdK_some h
      obtain ⟨i18, h⟩ := gdI_some h
      refine SF_iald 175 dX3_play_174 k17.1 i18 rfl ?_
      refine SF_iconst (-1 : Int32) 176 dX3_play_175 rfl rfl ?_
      refine SF_icne 200 179 dX3_play_176 rfl rfl (fun c19 => ?_) (fun c19 => ?_)
      · have h := ite_f c19 h
        refine SF_sub [1, 2, 3, 4, 5, 0] rfl ?_
        exact w_X3_play_200 hd k101 hk101 (f_X3_play_132 k101 n) ih l0 l3 l4 l5 l6 y7 g13 k_l0 h
      · have h := ite_t c19 h
        refine SF_iload 0 181 dX3_play_179 rfl rfl ?_
        refine SF_iconst (2 : Int32) 182 dX3_play_181 rfl rfl ?_
        refine SF_irem 183 dX3_play_182 (by decide) rfl ?_
        refine SF_ifeq 196 186 dX3_play_183 rfl rfl (fun c20 => ?_) (fun c20 => ?_)
        · have h := ite_t c20 h
          refine SF_sub [1, 2, 3, 4, 5, 0] rfl ?_
          exact w_X3_play_196 hd k101 hk101 (f_X3_play_132 k101 n) ih l0 l3 l4 l5 l6 y7 g13 k_l0 h
        · have h := ite_f c20 h
          refine SF_aload_n 1 187 dX3_play_186 rfl rfl rfl ?_
          refine SF_getR 190 fl_X3_24 dX3_play_187 k_l0.1 r10 rfl ?_
          refine SF_iload 0 192 dX3_play_190 rfl rfl ?_
          refine SF_iald 193 dX3_play_192 k11.1 i12 rfl ?_
          refine SF_ifne 200 196 dX3_play_193 rfl rfl (fun c21 => ?_) (fun c21 => ?_)
          · have h := ite_f c21 h
            refine SF_sub [1, 2, 3, 4, 5, 0] rfl ?_
            exact w_X3_play_200 hd k101 hk101 (f_X3_play_132 k101 n) ih l0 l3 l4 l5 l6 y7 g13 k_l0 h
          · have h := ite_t c21 h
            refine SF_sub [1, 2, 3, 4, 5, 0] rfl ?_
            exact w_X3_play_196 hd k101 hk101 (f_X3_play_132 k101 n) ih l0 l3 l4 l5 l6 y7 g13 k_l0 h

set_option maxRecDepth 20000 in
set_option maxHeartbeats 2000000 in
theorem w_X3_play_101 {X : CX} {d : Nat} (hd : 3 ≤ d) {g' : G} {rx : Unit} : ∀ (n : Nat) (l0 : Nat) (l3 : Int32) (l4 : Int32) (g : G), KD g l0 3 → f_X3_play_101 n l0 l3 l4 g = some (rx, g') → SemF X m_X3_play d 101 [(0, .ref (ad X l0)), (3, .int l3), (4, .int l4)] [] g none g' := by
  intro n
  induction n with
  | zero =>
    intro l0 l3 l4 g k_l0 h
    rw [f_X3_play_101] at h
    cases h
  | succ n ih =>
  intro l0 l3 l4 g k_l0 h
  rw [f_X3_play_101] at h
  refine SF_iload 2 103 dX3_play_101 rfl rfl ?_
  refine SF_iload_n 1 104 dX3_play_103 rfl rfl rfl ?_
  refine SF_icge 270 107 dX3_play_104 rfl rfl (fun c1 => ?_) (fun c1 => ?_)
  · have h := ite_t c1 h
    exact RT_v rfl dX3_play_270 h
  · have h := ite_f c1 h
    refine SF_iload 2 109 dX3_play_107 rfl rfl ?_
    refine SF_sipush (512 : Int32) 112 dX3_play_109 rfl rfl ?_
    refine SF_icge 270 115 dX3_play_112 rfl rfl (fun c2 => ?_) (fun c2 => ?_)
    · have h := ite_t c2 h
      exact RT_v rfl dX3_play_270 h
    · have h := ite_f c2 h
      refine SF_aload_n 0 116 dX3_play_115 rfl rfl rfl ?_
      obtain ⟨b3, r4, h⟩ := dr_some h
      refine SF_getR 119 fl_X3_9 dX3_play_116 k_l0.1 r4 rfl ?_
      refine SF_aload_n 0 120 dX3_play_119 rfl rfl rfl ?_
      obtain ⟨b5, r6, h⟩ := dr_some h
      refine SF_getR 123 fl_X3_30 dX3_play_120 k_l0.1 r6 rfl ?_
      refine SF_iload 2 125 dX3_play_123 rfl rfl ?_
      obtain ⟨k7, h⟩ := gdK_some h
      obtain ⟨i8, h⟩ := gdI_some h
      refine SF_iald 126 dX3_play_125 k7.1 i8 rfl ?_
      obtain ⟨k9, h⟩ := gdK_some h
      obtain ⟨i10, h⟩ := gdI_some h
      refine SF_iald 127 dX3_play_126 k9.1 i10 rfl ?_
      obtain ⟨y11, e12, h⟩ := li_some h
      refine SF_eqI e12 ?_
      refine SF_istore [(5, .int y11), (0, .ref (ad X l0)), (3, .int l3), (4, .int l4)] 129 dX3_play_127 (by decide) rfl rfl ?_
      refine SF_iconst (0 : Int32) 130 dX3_play_129 rfl rfl ?_
      refine SF_istore [(6, .int (0 : Int32)), (5, .int y11), (0, .ref (ad X l0)), (3, .int l3), (4, .int l4)] 132 dX3_play_130 (by decide) rfl rfl ?_
      refine SF_sub [2, 3, 4, 1, 0] rfl ?_
      exact w_X3_play_132 hd (f_X3_play_101 n) ih FU l0 l3 l4 y11 (0 : Int32) g k_l0 h

set_option maxRecDepth 20000 in
set_option maxHeartbeats 2000000 in
theorem w_X3_play_98 {X : CX} {d : Nat} (hd : 3 ≤ d) {g' : G} {rx : Unit} (l0 : Nat) (l3 : Int32) (g : G) (k_l0 : KD g l0 3) (h : f_X3_play_98 l0 l3 g = some (rx, g')) : SemF X m_X3_play d 98 [(0, .ref (ad X l0)), (3, .int l3)] [] g none g' := by
  rw [f_X3_play_98] at h
  refine SF_iconst (0 : Int32) 99 dX3_play_98 rfl rfl ?_
  refine SF_istore [(4, .int (0 : Int32)), (0, .ref (ad X l0)), (3, .int l3)] 101 dX3_play_99 (by decide) rfl rfl ?_
  refine SF_sub [1, 2, 0] rfl ?_
  exact w_X3_play_101 hd FU l0 l3 (0 : Int32) g k_l0 h

set_option maxRecDepth 20000 in
set_option maxHeartbeats 2000000 in
theorem w_X3_play_41 {X : CX} {d : Nat} (hd : 3 ≤ d) {g' : G} {rx : Unit} : ∀ (n : Nat) (l0 : Nat) (l1 : Nat) (l2 : Int32) (l3 : Int32) (l4 : Int32) (g : G), KD g l0 3 → KD g l1 4 → f_X3_play_41 n l0 l1 l2 l3 l4 g = some (rx, g') → SemF X m_X3_play d 41 [(0, .ref (ad X l0)), (1, .ref (ad X l1)), (2, .int l2), (3, .int l3), (4, .int l4)] [] g none g' := by
  intro n
  induction n with
  | zero =>
    intro l0 l1 l2 l3 l4 g k_l0 k_l1 h
    rw [f_X3_play_41] at h
    cases h
  | succ n ih =>
  intro l0 l1 l2 l3 l4 g k_l0 k_l1 h
  rw [f_X3_play_41] at h
  refine SF_iload 4 43 dX3_play_41 rfl rfl ?_
  refine SF_iconst (2 : Int32) 44 dX3_play_43 rfl rfl ?_
  refine SF_aload_n 1 45 dX3_play_44 rfl rfl rfl ?_
  refine SF_getI 48 fl_X3_47 dX3_play_45 k_l1.1 rfl ?_
  refine SF_imul 49 dX3_play_48 rfl ?_
  refine SF_icge 98 52 dX3_play_49 rfl rfl (fun c1 => ?_) (fun c1 => ?_)
  · have h := ite_t c1 h
    refine SF_sub [0, 3] rfl ?_
    exact w_X3_play_98 hd l0 l3 g k_l0 h
  · have h := ite_f c1 h
    refine SF_iload 4 54 dX3_play_52 rfl rfl ?_
    refine SF_sipush (512 : Int32) 57 dX3_play_54 rfl rfl ?_
    refine SF_icge 98 60 dX3_play_57 rfl rfl (fun c2 => ?_) (fun c2 => ?_)
    · have h := ite_t c2 h
      refine SF_sub [0, 3] rfl ?_
      exact w_X3_play_98 hd l0 l3 g k_l0 h
    · have h := ite_f c2 h
      refine SF_aload_n 1 61 dX3_play_60 rfl rfl rfl ?_
      refine SF_iload 4 63 dX3_play_61 rfl rfl ?_
      refine SF_iconst (2 : Int32) 64 dX3_play_63 rfl rfl ?_
      refine SF_idiv 65 dX3_play_64 (by decide) rfl ?_
      refine SF_iconst (0 : Int32) 66 dX3_play_65 rfl rfl ?_
      obtain ⟨v3, g4, q5, h⟩ := bd_some h
      have s6 := w_X4_cellOf (X := X) (Nat.le_refl 1) l1 (l4 / (2 : Int32)) (0 : Int32) g g4 v3 k_l1 q5
      refine SF_callVi 69 mi_X4_cellOf ml_X3_74 dX3_play_66 (Nat.le_trans (by decide) hd) s6 k_l1.1 rfl rfl (Nat.le_of_ble_eq_true rfl) rfl ?_
      have k_l0 := k_l0.ext s6.1
      have k_l1 := k_l1.ext s6.1
      refine SF_iload_n 2 70 dX3_play_69 rfl rfl rfl ?_
      refine SF_icne 92 73 dX3_play_70 rfl rfl (fun c7 => ?_) (fun c7 => ?_)
      · have h := ite_f c7 h
        exact w_X3_play_92 hd (f_X3_play_41 n) ih l0 l1 l2 l3 l4 g4 k_l0 k_l1 h
      · have h := ite_t c7 h
        refine SF_aload_n 0 74 dX3_play_73 rfl rfl rfl ?_
        obtain ⟨b8, r9, h⟩ := dr_some h
        refine SF_getR 77 fl_X3_27 dX3_play_74 k_l0.1 r9 rfl ?_
        refine SF_iload 4 79 dX3_play_77 rfl rfl ?_
        refine SF_iconst (0 : Int32) 80 dX3_play_79 rfl rfl ?_
        obtain ⟨k10, h⟩ := gdK_some h
        obtain ⟨i11, h⟩ := gdI_some h
        refine SF_iast 81 dX3_play_80 k10.1 i11 rfl ?_
        obtain ⟨g12, e13, h⟩ := lg_some h
        rw [← e13]
        have k_l0 := KD.eq e13 k_l0
        have k_l1 := KD.eq e13 k_l1
        have k10 := KD.eq e13 k10
        have r9 := gR_eq e13 r9
        have i11 := vp_eq e13 i11
        refine SF_aload_n 0 82 dX3_play_81 rfl rfl rfl ?_
        obtain ⟨b14, r15, h⟩ := dr_some h
        refine SF_getR 85 fl_X3_30 dX3_play_82 k_l0.1 r15 rfl ?_
        refine SF_iload_n 3 86 dX3_play_85 rfl rfl rfl ?_
        refine SF_iload 4 88 dX3_play_86 rfl rfl ?_
        obtain ⟨k16, h⟩ := gdK_some h
        obtain ⟨i17, h⟩ := gdI_some h
        refine SF_iast 89 dX3_play_88 k16.1 i17 rfl ?_
        obtain ⟨g18, e19, h⟩ := lg_some h
        rw [← e19]
        have k_l0 := KD.eq e19 k_l0
        have k_l1 := KD.eq e19 k_l1
        have k10 := KD.eq e19 k10
        have k16 := KD.eq e19 k16
        have r9 := gR_eq e19 r9
        have r15 := gR_eq e19 r15
        have i11 := vp_eq e19 i11
        have i17 := vp_eq e19 i17
        refine SF_iinc 3 (l3 + (1 : Int32)) [(3, .int (l3 + (1 : Int32))), (0, .ref (ad X l0)), (1, .ref (ad X l1)), (2, .int l2), (4, .int l4)] 92 dX3_play_89 rfl rfl (by decide) rfl rfl ?_
        refine SF_sub [1, 2, 3, 0, 4] rfl ?_
        exact w_X3_play_92 hd (f_X3_play_41 n) ih l0 l1 l2 (l3 + (1 : Int32)) l4 g18 k_l0 k_l1 h

set_option maxRecDepth 20000 in
set_option maxHeartbeats 2000000 in
theorem w_X3_play_12 {X : CX} {d : Nat} (hd : 3 ≤ d) {g' : G} {rx : Unit} (l0 : Nat) (l1 : Nat) (l2 : Int32) (g : G) (k_l0 : KD g l0 3) (k_l1 : KD g l1 4) (h : f_X3_play_12 l0 l1 l2 g = some (rx, g')) : SemF X m_X3_play d 12 [(0, .ref (ad X l0)), (1, .ref (ad X l1)), (2, .int l2)] [] g none g' := by
  rw [f_X3_play_12] at h
  refine SF_aload_n 0 13 dX3_play_12 rfl rfl rfl ?_
  obtain ⟨b1, r2, h⟩ := dr_some h
  refine SF_getR 16 fl_X3_27 dX3_play_13 k_l0.1 r2 rfl ?_
  refine SF_iconst (-1 : Int32) 17 dX3_play_16 rfl rfl ?_
  obtain ⟨k3, h⟩ := gdK_some h
  obtain ⟨v4, g5, q6, h⟩ := bd_some h
  have s7 := w_J7_fill_53178 (X := X) (Nat.le_refl 0) b1 (-1 : Int32) g g5 v4 k3 q6
  refine SF_callSv 20 mi_J7_fill_53178 ml_X3_37 dX3_play_17 (Nat.le_trans (by decide) hd) s7 rfl rfl (Nat.le_of_ble_eq_true rfl) rfl ?_
  have k_l0 := k_l0.ext s7.1
  have k_l1 := k_l1.ext s7.1
  have k3 := k3.ext s7.1
  refine SF_aload_n 0 21 dX3_play_20 rfl rfl rfl ?_
  obtain ⟨b8, r9, h⟩ := dr_some h
  refine SF_getR 24 fl_X3_21 dX3_play_21 k_l0.1 r9 rfl ?_
  refine SF_iconst (0 : Int32) 25 dX3_play_24 rfl rfl ?_
  refine SF_aload_n 0 26 dX3_play_25 rfl rfl rfl ?_
  obtain ⟨b10, r11, h⟩ := dr_some h
  refine SF_getR 29 fl_X3_24 dX3_play_26 k_l0.1 r11 rfl ?_
  refine SF_iconst (0 : Int32) 30 dX3_play_29 rfl rfl ?_
  refine SF_sipush (512 : Int32) 33 dX3_play_30 rfl rfl ?_
  obtain ⟨k12, h⟩ := gdK_some h
  obtain ⟨k13, h⟩ := gdK_some h
  obtain ⟨z14, h⟩ := gdC_some h
  refine SF_cpyI 36 ml_X3_68 wa_1 wa_2 wa_3 dX3_play_33 (Nat.le_trans (by decide) hd) k12.1 k13.1 z14 (Nat.le_of_ble_eq_true rfl) rfl ?_
  obtain ⟨g15, e16, h⟩ := lg_some h
  rw [← e16]
  have k_l0 := KD.eq e16 k_l0
  have k_l1 := KD.eq e16 k_l1
  have k3 := KD.eq e16 k3
  have k12 := KD.eq e16 k12
  have k13 := KD.eq e16 k13
  have r9 := gR_eq e16 r9
  have r11 := gR_eq e16 r11
  refine SF_iconst (0 : Int32) 37 dX3_play_36 rfl rfl ?_
  refine SF_istore_n [(3, .int (0 : Int32)), (0, .ref (ad X l0)), (1, .ref (ad X l1)), (2, .int l2)] 38 dX3_play_37 rfl (by decide) rfl rfl ?_
  refine SF_iconst (0 : Int32) 39 dX3_play_38 rfl rfl ?_
  refine SF_istore [(4, .int (0 : Int32)), (3, .int (0 : Int32)), (0, .ref (ad X l0)), (1, .ref (ad X l1)), (2, .int l2)] 41 dX3_play_39 (by decide) rfl rfl ?_
  refine SF_sub [2, 3, 4, 1, 0] rfl ?_
  exact w_X3_play_41 hd FU l0 l1 l2 (0 : Int32) (0 : Int32) g15 k_l0 k_l1 h

set_option maxRecDepth 20000 in
set_option maxHeartbeats 2000000 in
theorem w_X3_play {X : CX} {d : Nat} (hd : 3 ≤ d) (l0 : Nat) (l1 : Nat) (l2 : Int32) (g g' : G) (rx : Unit) (k_l0 : KD g l0 3) (k_l1 : KD g l1 4) (h : f_X3_play l0 l1 l2 g = some (rx, g')) : Sem X m_X3_play d [.ref (ad X l0), .ref (ad X l1), .int l2] g none g' := by
  refine Sem_of (lo := [(0, .ref (ad X l0)), (1, .ref (ad X l1)), (2, .int l2)]) (by decide +kernel) rfl (Nat.le_of_ble_eq_true rfl) ?_
  rw [f_X3_play] at h
  refine SF_aload_n 0 1 dX3_play_0 rfl rfl rfl ?_
  refine SF_getI 4 fl_X3_33 dX3_play_1 k_l0.1 rfl ?_
  refine SF_ifne 12 7 dX3_play_4 rfl rfl (fun c1 => ?_) (fun c1 => ?_)
  · have h := ite_f c1 h
    exact w_X3_play_12 hd l0 l1 l2 g k_l0 k_l1 h
  · have h := ite_t c1 h
    refine SF_aload_n 0 8 dX3_play_7 rfl rfl rfl ?_
    refine SF_aload_n 1 9 dX3_play_8 rfl rfl rfl ?_
    obtain ⟨v2, g3, q4, h⟩ := bd_some h
    have s5 := w_X3_linkAll (X := X) (Nat.le_refl 2) l0 l1 g g3 v2 k_l0 k_l1 q4
    refine SF_callVv 12 mi_X3_linkAll ml_X3_64 dX3_play_9 (Nat.le_trans (by decide) hd) s5 k_l0.1 rfl rfl (Nat.le_of_ble_eq_true rfl) rfl ?_
    have k_l0 := k_l0.ext s5.1
    have k_l1 := k_l1.ext s5.1
    exact w_X3_play_12 hd l0 l1 l2 g3 k_l0 k_l1 h

theorem dX3_levelNow_0 : decode cX3_levelNow 0 = .ok (.aload_n 0, 1) := by decide +kernel
theorem dX3_levelNow_1 : decode cX3_levelNow 1 = .ok (.getfield 27, 3) := by decide +kernel
theorem dX3_levelNow_4 : decode cX3_levelNow 4 = .ok (.iconst 0, 1) := by decide +kernel
theorem dX3_levelNow_5 : decode cX3_levelNow 5 = .ok (.iaload, 1) := by decide +kernel
theorem dX3_levelNow_6 : decode cX3_levelNow 6 = .ok (.ireturn, 1) := by decide +kernel
set_option maxRecDepth 20000 in
set_option maxHeartbeats 2000000 in
theorem w_X3_levelNow {X : CX} {d : Nat} (hd : 0 ≤ d) (l0 : Nat) (g g' : G) (rx : Int32) (k_l0 : KD g l0 3) (h : f_X3_levelNow l0 g = some (rx, g')) : Sem X m_X3_levelNow d [.ref (ad X l0)] g (some (.int rx)) g' := by
  refine Sem_of (lo := [(0, .ref (ad X l0))]) (by decide +kernel) rfl (Nat.le_of_ble_eq_true rfl) ?_
  rw [f_X3_levelNow] at h
  refine SF_aload_n 0 1 dX3_levelNow_0 rfl rfl rfl ?_
  obtain ⟨b1, r2, h⟩ := dr_some h
  refine SF_getR 4 fl_X3_27 dX3_levelNow_1 k_l0.1 r2 rfl ?_
  refine SF_iconst (0 : Int32) 5 dX3_levelNow_4 rfl rfl ?_
  obtain ⟨k3, h⟩ := gdK_some h
  obtain ⟨i4, h⟩ := gdI_some h
  refine SF_iald 6 dX3_levelNow_5 k3.1 i4 rfl ?_
  exact RT_i rfl dX3_levelNow_6 h

theorem dX11_forces_0 : decode cX11_forces 0 = .ok (.aload_n 0, 1) := by decide +kernel
theorem dX11_forces_1 : decode cX11_forces 1 = .ok (.getfield 78, 3) := by decide +kernel
theorem dX11_forces_4 : decode cX11_forces 4 = .ok (.iload_n 1, 1) := by decide +kernel
theorem dX11_forces_5 : decode cX11_forces 5 = .ok (.invokevirtual 161, 3) := by decide +kernel
theorem dX11_forces_8 : decode cX11_forces 8 = .ok (.ifCond .eq 17, 3) := by decide +kernel
theorem dX11_forces_11 : decode cX11_forces 11 = .ok (.aload_n 0, 1) := by decide +kernel
theorem dX11_forces_12 : decode cX11_forces 12 = .ok (.getfield 78, 3) := by decide +kernel
theorem dX11_forces_15 : decode cX11_forces 15 = .ok (.getfield 136, 3) := by decide +kernel
theorem dX11_forces_18 : decode cX11_forces 18 = .ok (.iload_n 2, 1) := by decide +kernel
theorem dX11_forces_19 : decode cX11_forces 19 = .ok (.invokevirtual 143, 3) := by decide +kernel
theorem dX11_forces_22 : decode cX11_forces 22 = .ok (.ifCond .ne 6, 3) := by decide +kernel
theorem dX11_forces_25 : decode cX11_forces 25 = .ok (.bipush (-2), 2) := by decide +kernel
theorem dX11_forces_27 : decode cX11_forces 27 = .ok (.ireturn, 1) := by decide +kernel
theorem dX11_forces_28 : decode cX11_forces 28 = .ok (.aload_n 0, 1) := by decide +kernel
theorem dX11_forces_29 : decode cX11_forces 29 = .ok (.getfield 47, 3) := by decide +kernel
theorem dX11_forces_32 : decode cX11_forces 32 = .ok (.aload_n 0, 1) := by decide +kernel
theorem dX11_forces_33 : decode cX11_forces 33 = .ok (.iload_n 1, 1) := by decide +kernel
theorem dX11_forces_34 : decode cX11_forces 34 = .ok (.invokevirtual 259, 3) := by decide +kernel
theorem dX11_forces_37 : decode cX11_forces 37 = .ok (.iload_n 2, 1) := by decide +kernel
theorem dX11_forces_38 : decode cX11_forces 38 = .ok (.invokevirtual 353, 3) := by decide +kernel
theorem dX11_forces_41 : decode cX11_forces 41 = .ok (.aload_n 0, 1) := by decide +kernel
theorem dX11_forces_42 : decode cX11_forces 42 = .ok (.getfield 47, 3) := by decide +kernel
theorem dX11_forces_45 : decode cX11_forces 45 = .ok (.invokevirtual 357, 3) := by decide +kernel
theorem dX11_forces_48 : decode cX11_forces 48 = .ok (.ireturn, 1) := by decide +kernel
set_option maxRecDepth 20000 in
set_option maxHeartbeats 2000000 in
theorem w_X11_forces {X : CX} {d : Nat} (hd : 7 ≤ d) (l0 : Nat) (l1 : Int32) (l2 : Int32) (g g' : G) (rx : Int32) (k_l0 : KD g l0 11) (h : f_X11_forces l0 l1 l2 g = some (rx, g')) : Sem X m_X11_forces d [.ref (ad X l0), .int l1, .int l2] g (some (.int rx)) g' := by
  refine Sem_of (lo := [(0, .ref (ad X l0)), (1, .int l1), (2, .int l2)]) (by decide +kernel) rfl (Nat.le_of_ble_eq_true rfl) ?_
  rw [f_X11_forces] at h
  refine SF_aload_n 0 1 dX11_forces_0 rfl rfl rfl ?_
  obtain ⟨b1, r2, h⟩ := dr_some h
  refine SF_getR 4 fl_X11_78 dX11_forces_1 k_l0.1 r2 rfl ?_
  refine SF_iload_n 1 5 dX11_forces_4 rfl rfl rfl ?_
  obtain ⟨k3, h⟩ := gdK_some h
  obtain ⟨v4, g5, q6, h⟩ := bd_some h
  have s7 := w_X0_isPair (X := X) (Nat.le_refl 0) b1 l1 g g5 v4 k3 q6
  refine SF_callVb 8 mi_X0_isPair ml_X11_161 dX11_forces_5 (Nat.le_trans (by decide) hd) s7 k3.1 rfl rfl (Nat.le_of_ble_eq_true rfl) rfl ?_
  have k_l0 := k_l0.ext s7.1
  have k3 := k3.ext s7.1
  refine SF_ifeq 25 11 dX11_forces_8 rfl rfl (fun c8 => ?_) (fun c8 => ?_)
  · have h := ite_t c8 h
    refine SF_bipush (-2 : Int32) 27 dX11_forces_25 rfl rfl ?_
    exact RT_i rfl dX11_forces_27 h
  · have h := ite_f c8 h
    refine SF_aload_n 0 12 dX11_forces_11 rfl rfl rfl ?_
    obtain ⟨b9, r10, h⟩ := dr_some h
    refine SF_getR 15 fl_X11_78 dX11_forces_12 k_l0.1 r10 rfl ?_
    obtain ⟨k11, h⟩ := gdK_some h
    obtain ⟨b12, r13, h⟩ := dr_some h
    refine SF_getR 18 fl_X11_136 dX11_forces_15 k11.1 r13 rfl ?_
    refine SF_iload_n 2 19 dX11_forces_18 rfl rfl rfl ?_
    obtain ⟨k14, h⟩ := gdK_some h
    obtain ⟨v15, g16, q17, h⟩ := bd_some h
    have s18 := w_X7_isCell (X := X) (Nat.le_refl 0) b12 l2 g5 g16 v15 k14 q17
    refine SF_callVb 22 mi_X7_isCell ml_X11_143 dX11_forces_19 (Nat.le_trans (by decide) hd) s18 k14.1 rfl rfl (Nat.le_of_ble_eq_true rfl) rfl ?_
    have k_l0 := k_l0.ext s18.1
    have k3 := k3.ext s18.1
    have k11 := k11.ext s18.1
    have k14 := k14.ext s18.1
    refine SF_ifne 28 25 dX11_forces_22 rfl rfl (fun c19 => ?_) (fun c19 => ?_)
    · have h := ite_f c19 h
      refine SF_aload_n 0 29 dX11_forces_28 rfl rfl rfl ?_
      obtain ⟨b20, r21, h⟩ := dr_some h
      refine SF_getR 32 fl_X11_47 dX11_forces_29 k_l0.1 r21 rfl ?_
      refine SF_aload_n 0 33 dX11_forces_32 rfl rfl rfl ?_
      refine SF_iload_n 1 34 dX11_forces_33 rfl rfl rfl ?_
      obtain ⟨v22, g23, q24, h⟩ := bd_some h
      have s25 := w_X11_graphOf (X := X) (Nat.le_refl 6) l0 l1 g16 g23 v22 k_l0 q24
      refine SF_callVr 37 mi_X11_graphOf ml_X11_259 dX11_forces_34 (Nat.le_trans (by decide) hd) s25 k_l0.1 rfl rfl (Nat.le_of_ble_eq_true rfl) rfl ?_
      have k_l0 := k_l0.ext s25.1
      have k3 := k3.ext s25.1
      have k11 := k11.ext s25.1
      have k14 := k14.ext s25.1
      refine SF_iload_n 2 38 dX11_forces_37 rfl rfl rfl ?_
      obtain ⟨k26, h⟩ := gdK_some h
      obtain ⟨k27, h⟩ := gdK_some h
      obtain ⟨v28, g29, q30, h⟩ := bd_some h
      have s31 := w_X3_play (X := X) (Nat.le_refl 3) b20 v22 l2 g23 g29 v28 k26 k27 q30
      refine SF_callVv 41 mi_X3_play ml_X11_353 dX11_forces_38 (Nat.le_trans (by decide) hd) s31 k26.1 rfl rfl (Nat.le_of_ble_eq_true rfl) rfl ?_
      have k_l0 := k_l0.ext s31.1
      have k3 := k3.ext s31.1
      have k11 := k11.ext s31.1
      have k14 := k14.ext s31.1
      have k26 := k26.ext s31.1
      have k27 := k27.ext s31.1
      refine SF_aload_n 0 42 dX11_forces_41 rfl rfl rfl ?_
      obtain ⟨b32, r33, h⟩ := dr_some h
      refine SF_getR 45 fl_X11_47 dX11_forces_42 k_l0.1 r33 rfl ?_
      obtain ⟨k34, h⟩ := gdK_some h
      obtain ⟨v35, g36, q37, h⟩ := bd_some h
      have s38 := w_X3_levelNow (X := X) (Nat.le_refl 0) b32 g29 g36 v35 k34 q37
      refine SF_callVi 48 mi_X3_levelNow ml_X11_357 dX11_forces_45 (Nat.le_trans (by decide) hd) s38 k34.1 rfl rfl (Nat.le_of_ble_eq_true rfl) rfl ?_
      have k_l0 := k_l0.ext s38.1
      have k3 := k3.ext s38.1
      have k11 := k11.ext s38.1
      have k14 := k14.ext s38.1
      have k26 := k26.ext s38.1
      have k27 := k27.ext s38.1
      have k34 := k34.ext s38.1
      exact RT_i rfl dX11_forces_48 h
    · have h := ite_t c19 h
      refine SF_bipush (-2 : Int32) 27 dX11_forces_25 rfl rfl ?_
      exact RT_i rfl dX11_forces_27 h

theorem dX12_forcedBy_0 : decode cX12_forcedBy 0 = .ok (.aload_n 0, 1) := by decide +kernel
theorem dX12_forcedBy_1 : decode cX12_forcedBy 1 = .ok (.getfield 42, 3) := by decide +kernel
theorem dX12_forcedBy_4 : decode cX12_forcedBy 4 = .ok (.bipush 8, 2) := by decide +kernel
theorem dX12_forcedBy_6 : decode cX12_forcedBy 6 = .ok (.iload_n 1, 1) := by decide +kernel
theorem dX12_forcedBy_7 : decode cX12_forcedBy 7 = .ok (.imul, 1) := by decide +kernel
theorem dX12_forcedBy_8 : decode cX12_forcedBy 8 = .ok (.iload_n 2, 1) := by decide +kernel
theorem dX12_forcedBy_9 : decode cX12_forcedBy 9 = .ok (.iadd, 1) := by decide +kernel
theorem dX12_forcedBy_10 : decode cX12_forcedBy 10 = .ok (.iaload, 1) := by decide +kernel
theorem dX12_forcedBy_11 : decode cX12_forcedBy 11 = .ok (.istore_n 3, 1) := by decide +kernel
theorem dX12_forcedBy_12 : decode cX12_forcedBy 12 = .ok (.iload_n 3, 1) := by decide +kernel
theorem dX12_forcedBy_13 : decode cX12_forcedBy 13 = .ok (.iconst (-1), 1) := by decide +kernel
theorem dX12_forcedBy_14 : decode cX12_forcedBy 14 = .ok (.if_icmp .ne 7, 3) := by decide +kernel
theorem dX12_forcedBy_17 : decode cX12_forcedBy 17 = .ok (.iconst (-1), 1) := by decide +kernel
theorem dX12_forcedBy_18 : decode cX12_forcedBy 18 = .ok (.goto 9, 3) := by decide +kernel
theorem dX12_forcedBy_21 : decode cX12_forcedBy 21 = .ok (.aload_n 0, 1) := by decide +kernel
theorem dX12_forcedBy_22 : decode cX12_forcedBy 22 = .ok (.getfield 61, 3) := by decide +kernel
theorem dX12_forcedBy_25 : decode cX12_forcedBy 25 = .ok (.iload_n 3, 1) := by decide +kernel
theorem dX12_forcedBy_26 : decode cX12_forcedBy 26 = .ok (.iaload, 1) := by decide +kernel
theorem dX12_forcedBy_27 : decode cX12_forcedBy 27 = .ok (.ireturn, 1) := by decide +kernel
set_option maxRecDepth 20000 in
set_option maxHeartbeats 2000000 in
theorem w_X12_forcedBy {X : CX} {d : Nat} (hd : 0 ≤ d) (l0 : Nat) (l1 : Int32) (l2 : Int32) (g g' : G) (rx : Int32) (k_l0 : KD g l0 12) (h : f_X12_forcedBy l0 l1 l2 g = some (rx, g')) : Sem X m_X12_forcedBy d [.ref (ad X l0), .int l1, .int l2] g (some (.int rx)) g' := by
  refine Sem_of (lo := [(0, .ref (ad X l0)), (1, .int l1), (2, .int l2)]) (by decide +kernel) rfl (Nat.le_of_ble_eq_true rfl) ?_
  rw [f_X12_forcedBy] at h
  refine SF_aload_n 0 1 dX12_forcedBy_0 rfl rfl rfl ?_
  obtain ⟨b1, r2, h⟩ := dr_some h
  refine SF_getR 4 fl_X12_42 dX12_forcedBy_1 k_l0.1 r2 rfl ?_
  refine SF_bipush (8 : Int32) 6 dX12_forcedBy_4 rfl rfl ?_
  refine SF_iload_n 1 7 dX12_forcedBy_6 rfl rfl rfl ?_
  refine SF_imul 8 dX12_forcedBy_7 rfl ?_
  refine SF_iload_n 2 9 dX12_forcedBy_8 rfl rfl rfl ?_
  refine SF_iadd 10 dX12_forcedBy_9 rfl ?_
  obtain ⟨k3, h⟩ := gdK_some h
  obtain ⟨i4, h⟩ := gdI_some h
  refine SF_iald 11 dX12_forcedBy_10 k3.1 i4 rfl ?_
  obtain ⟨y5, e6, h⟩ := li_some h
  refine SF_eqI e6 ?_
  refine SF_istore_n [(3, .int y5), (0, .ref (ad X l0)), (1, .int l1), (2, .int l2)] 12 dX12_forcedBy_11 rfl (by decide) rfl rfl ?_
  refine SF_iload_n 0 13 dX12_forcedBy_12 rfl rfl rfl ?_
  refine SF_iconst (-1 : Int32) 14 dX12_forcedBy_13 rfl rfl ?_
  refine SF_icne 21 17 dX12_forcedBy_14 rfl rfl (fun c7 => ?_) (fun c7 => ?_)
  · have h := ite_f c7 h
    refine SF_aload_n 1 22 dX12_forcedBy_21 rfl rfl rfl ?_
    obtain ⟨b8, r9, h⟩ := dr_some h
    refine SF_getR 25 fl_X12_61 dX12_forcedBy_22 k_l0.1 r9 rfl ?_
    refine SF_iload_n 0 26 dX12_forcedBy_25 rfl rfl rfl ?_
    obtain ⟨k10, h⟩ := gdK_some h
    obtain ⟨i11, h⟩ := gdI_some h
    refine SF_iald 27 dX12_forcedBy_26 k10.1 i11 rfl ?_
    exact RT_i rfl dX12_forcedBy_27 h
  · have h := ite_t c7 h
    refine SF_iconst (-1 : Int32) 18 dX12_forcedBy_17 rfl rfl ?_
    refine SF_goto 27 dX12_forcedBy_18 rfl ?_
    exact RT_i rfl dX12_forcedBy_27 h

theorem dX12_forcedOne_0 : decode cX12_forcedOne 0 = .ok (.iconst (-1), 1) := by decide +kernel
theorem dX12_forcedOne_1 : decode cX12_forcedOne 1 = .ok (.istore_n 2, 1) := by decide +kernel
theorem dX12_forcedOne_2 : decode cX12_forcedOne 2 = .ok (.iconst 0, 1) := by decide +kernel
theorem dX12_forcedOne_3 : decode cX12_forcedOne 3 = .ok (.istore_n 3, 1) := by decide +kernel
theorem dX12_forcedOne_4 : decode cX12_forcedOne 4 = .ok (.iload_n 3, 1) := by decide +kernel
theorem dX12_forcedOne_5 : decode cX12_forcedOne 5 = .ok (.iconst 4, 1) := by decide +kernel
theorem dX12_forcedOne_6 : decode cX12_forcedOne 6 = .ok (.if_icmp .ge 41, 3) := by decide +kernel
theorem dX12_forcedOne_9 : decode cX12_forcedOne 9 = .ok (.aload_n 0, 1) := by decide +kernel
theorem dX12_forcedOne_10 : decode cX12_forcedOne 10 = .ok (.iload_n 1, 1) := by decide +kernel
theorem dX12_forcedOne_11 : decode cX12_forcedOne 11 = .ok (.iload_n 3, 1) := by decide +kernel
theorem dX12_forcedOne_12 : decode cX12_forcedOne 12 = .ok (.invokevirtual 426, 3) := by decide +kernel
theorem dX12_forcedOne_15 : decode cX12_forcedOne 15 = .ok (.iconst (-1), 1) := by decide +kernel
theorem dX12_forcedOne_16 : decode cX12_forcedOne 16 = .ok (.if_icmp .eq 25, 3) := by decide +kernel
theorem dX12_forcedOne_19 : decode cX12_forcedOne 19 = .ok (.iload_n 2, 1) := by decide +kernel
theorem dX12_forcedOne_20 : decode cX12_forcedOne 20 = .ok (.iconst (-1), 1) := by decide +kernel
theorem dX12_forcedOne_21 : decode cX12_forcedOne 21 = .ok (.if_icmp .eq 13, 3) := by decide +kernel
theorem dX12_forcedOne_24 : decode cX12_forcedOne 24 = .ok (.aload_n 0, 1) := by decide +kernel
theorem dX12_forcedOne_25 : decode cX12_forcedOne 25 = .ok (.iload_n 1, 1) := by decide +kernel
theorem dX12_forcedOne_26 : decode cX12_forcedOne 26 = .ok (.iload_n 3, 1) := by decide +kernel
theorem dX12_forcedOne_27 : decode cX12_forcedOne 27 = .ok (.invokevirtual 426, 3) := by decide +kernel
theorem dX12_forcedOne_30 : decode cX12_forcedOne 30 = .ok (.iload_n 2, 1) := by decide +kernel
theorem dX12_forcedOne_31 : decode cX12_forcedOne 31 = .ok (.if_icmp .ge 10, 3) := by decide +kernel
theorem dX12_forcedOne_34 : decode cX12_forcedOne 34 = .ok (.aload_n 0, 1) := by decide +kernel
theorem dX12_forcedOne_35 : decode cX12_forcedOne 35 = .ok (.iload_n 1, 1) := by decide +kernel
theorem dX12_forcedOne_36 : decode cX12_forcedOne 36 = .ok (.iload_n 3, 1) := by decide +kernel
theorem dX12_forcedOne_37 : decode cX12_forcedOne 37 = .ok (.invokevirtual 426, 3) := by decide +kernel
theorem dX12_forcedOne_40 : decode cX12_forcedOne 40 = .ok (.istore_n 2, 1) := by decide +kernel
theorem dX12_forcedOne_41 : decode cX12_forcedOne 41 = .ok (.iinc 3 1, 3) := by decide +kernel
theorem dX12_forcedOne_44 : decode cX12_forcedOne 44 = .ok (.goto (-40), 3) := by decide +kernel
theorem dX12_forcedOne_47 : decode cX12_forcedOne 47 = .ok (.iload_n 2, 1) := by decide +kernel
theorem dX12_forcedOne_48 : decode cX12_forcedOne 48 = .ok (.iconst (-1), 1) := by decide +kernel
theorem dX12_forcedOne_49 : decode cX12_forcedOne 49 = .ok (.if_icmp .ne 12, 3) := by decide +kernel
theorem dX12_forcedOne_52 : decode cX12_forcedOne 52 = .ok (.aload_n 0, 1) := by decide +kernel
theorem dX12_forcedOne_53 : decode cX12_forcedOne 53 = .ok (.getfield 61, 3) := by decide +kernel
theorem dX12_forcedOne_56 : decode cX12_forcedOne 56 = .ok (.iload_n 1, 1) := by decide +kernel
theorem dX12_forcedOne_57 : decode cX12_forcedOne 57 = .ok (.iaload, 1) := by decide +kernel
theorem dX12_forcedOne_58 : decode cX12_forcedOne 58 = .ok (.goto 4, 3) := by decide +kernel
theorem dX12_forcedOne_61 : decode cX12_forcedOne 61 = .ok (.iload_n 2, 1) := by decide +kernel
theorem dX12_forcedOne_62 : decode cX12_forcedOne 62 = .ok (.istore_n 3, 1) := by decide +kernel
theorem dX12_forcedOne_63 : decode cX12_forcedOne 63 = .ok (.iload_n 3, 1) := by decide +kernel
theorem dX12_forcedOne_64 : decode cX12_forcedOne 64 = .ok (.ldc_w 354, 3) := by decide +kernel
theorem dX12_forcedOne_67 : decode cX12_forcedOne 67 = .ok (.if_icmp .ne 9, 3) := by decide +kernel
theorem dX12_forcedOne_70 : decode cX12_forcedOne 70 = .ok (.ldc_w 354, 3) := by decide +kernel
theorem dX12_forcedOne_73 : decode cX12_forcedOne 73 = .ok (.goto 6, 3) := by decide +kernel
theorem dX12_forcedOne_76 : decode cX12_forcedOne 76 = .ok (.iload_n 3, 1) := by decide +kernel
theorem dX12_forcedOne_77 : decode cX12_forcedOne 77 = .ok (.iconst 1, 1) := by decide +kernel
theorem dX12_forcedOne_78 : decode cX12_forcedOne 78 = .ok (.iadd, 1) := by decide +kernel
theorem dX12_forcedOne_79 : decode cX12_forcedOne 79 = .ok (.ireturn, 1) := by decide +kernel
set_option maxRecDepth 20000 in
set_option maxHeartbeats 2000000 in
theorem w_X12_forcedOne_41 {X : CX} {d : Nat} (hd : 1 ≤ d) {g' : G} {rx : Int32} (k4 : Nat → Int32 → Int32 → Int32 → G → Option (Int32 × G)) (hk4 : ∀ (l0 : Nat) (l1 : Int32) (l2 : Int32) (l3 : Int32) (g : G), KD g l0 12 → k4 l0 l1 l2 l3 g = some (rx, g') → SemF X m_X12_forcedOne d 4 [(0, .ref (ad X l0)), (1, .int l1), (2, .int l2), (3, .int l3)] [] g (some (.int rx)) g') (l0 : Nat) (l1 : Int32) (l2 : Int32) (l3 : Int32) (g : G) (k_l0 : KD g l0 12) (h : f_X12_forcedOne_41 k4 l0 l1 l2 l3 g = some (rx, g')) : SemF X m_X12_forcedOne d 41 [(0, .ref (ad X l0)), (1, .int l1), (2, .int l2), (3, .int l3)] [] g (some (.int rx)) g' := by
  rw [f_X12_forcedOne_41] at h
  refine SF_iinc 3 (l3 + (1 : Int32)) [(3, .int (l3 + (1 : Int32))), (0, .ref (ad X l0)), (1, .int l1), (2, .int l2)] 44 dX12_forcedOne_41 rfl rfl (by decide) rfl rfl ?_
  refine SF_goto 4 dX12_forcedOne_44 rfl ?_
  refine SF_sub [1, 2, 3, 0] rfl ?_
  exact hk4 l0 l1 l2 (l3 + (1 : Int32)) g k_l0 h

set_option maxRecDepth 20000 in
set_option maxHeartbeats 2000000 in
theorem w_X12_forcedOne_34 {X : CX} {d : Nat} (hd : 1 ≤ d) {g' : G} {rx : Int32} (k4 : Nat → Int32 → Int32 → Int32 → G → Option (Int32 × G)) (hk4 : ∀ (l0 : Nat) (l1 : Int32) (l2 : Int32) (l3 : Int32) (g : G), KD g l0 12 → k4 l0 l1 l2 l3 g = some (rx, g') → SemF X m_X12_forcedOne d 4 [(0, .ref (ad X l0)), (1, .int l1), (2, .int l2), (3, .int l3)] [] g (some (.int rx)) g') (l0 : Nat) (l1 : Int32) (l3 : Int32) (g : G) (k_l0 : KD g l0 12) (h : f_X12_forcedOne_34 k4 l0 l1 l3 g = some (rx, g')) : SemF X m_X12_forcedOne d 34 [(0, .ref (ad X l0)), (1, .int l1), (3, .int l3)] [] g (some (.int rx)) g' := by
  rw [f_X12_forcedOne_34] at h
  refine SF_aload_n 0 35 dX12_forcedOne_34 rfl rfl rfl ?_
  refine SF_iload_n 1 36 dX12_forcedOne_35 rfl rfl rfl ?_
  refine SF_iload_n 2 37 dX12_forcedOne_36 rfl rfl rfl ?_
  obtain ⟨v1, g2, q3, h⟩ := bd_some h
  have s4 := w_X12_forcedBy (X := X) (Nat.le_refl 0) l0 l1 l3 g g2 v1 k_l0 q3
  refine SF_callVi 40 mi_X12_forcedBy ml_X12_426 dX12_forcedOne_37 (Nat.le_trans (by decide) hd) s4 k_l0.1 rfl rfl (Nat.le_of_ble_eq_true rfl) rfl ?_
  have k_l0 := k_l0.ext s4.1
  refine SF_istore_n [(2, .int v1), (0, .ref (ad X l0)), (1, .int l1), (3, .int l3)] 41 dX12_forcedOne_40 rfl (by decide) rfl rfl ?_
  refine SF_sub [1, 2, 0, 3] rfl ?_
  exact w_X12_forcedOne_41 hd k4 hk4 l0 l1 v1 l3 g2 k_l0 h

set_option maxRecDepth 20000 in
set_option maxHeartbeats 2000000 in
theorem w_X12_forcedOne_62 {X : CX} {d : Nat} (hd : 1 ≤ d) {g' : G} {rx : Int32} (s0 : Int32) (g : G) (h : f_X12_forcedOne_62 s0 g = some (rx, g')) : SemF X m_X12_forcedOne d 62 [] [.int s0] g (some (.int rx)) g' := by
  rw [f_X12_forcedOne_62] at h
  refine SF_istore_n [(3, .int s0)] 63 dX12_forcedOne_62 rfl (by decide) rfl rfl ?_
  refine SF_iload_n 0 64 dX12_forcedOne_63 rfl rfl rfl ?_
  refine SF_ldcw 67 dX12_forcedOne_64 ki_X12_354 rfl ?_
  refine SF_icne 76 70 dX12_forcedOne_67 rfl rfl (fun c1 => ?_) (fun c1 => ?_)
  · have h := ite_f c1 h
    refine SF_iload_n 0 77 dX12_forcedOne_76 rfl rfl rfl ?_
    refine SF_iconst (1 : Int32) 78 dX12_forcedOne_77 rfl rfl ?_
    refine SF_iadd 79 dX12_forcedOne_78 rfl ?_
    exact RT_i rfl dX12_forcedOne_79 h
  · have h := ite_t c1 h
    refine SF_ldcw 73 dX12_forcedOne_70 ki_X12_354 rfl ?_
    refine SF_goto 79 dX12_forcedOne_73 rfl ?_
    exact RT_i rfl dX12_forcedOne_79 h

set_option maxRecDepth 20000 in
set_option maxHeartbeats 2000000 in
theorem w_X12_forcedOne_4 {X : CX} {d : Nat} (hd : 1 ≤ d) {g' : G} {rx : Int32} : ∀ (n : Nat) (l0 : Nat) (l1 : Int32) (l2 : Int32) (l3 : Int32) (g : G), KD g l0 12 → f_X12_forcedOne_4 n l0 l1 l2 l3 g = some (rx, g') → SemF X m_X12_forcedOne d 4 [(0, .ref (ad X l0)), (1, .int l1), (2, .int l2), (3, .int l3)] [] g (some (.int rx)) g' := by
  intro n
  induction n with
  | zero =>
    intro l0 l1 l2 l3 g k_l0 h
    rw [f_X12_forcedOne_4] at h
    cases h
  | succ n ih =>
  intro l0 l1 l2 l3 g k_l0 h
  rw [f_X12_forcedOne_4] at h
  refine SF_iload_n 3 5 dX12_forcedOne_4 rfl rfl rfl ?_
  refine SF_iconst (4 : Int32) 6 dX12_forcedOne_5 rfl rfl ?_
  refine SF_icge 47 9 dX12_forcedOne_6 rfl rfl (fun c1 => ?_) (fun c1 => ?_)
  · have h := ite_t c1 h
    refine SF_iload_n 2 48 dX12_forcedOne_47 rfl rfl rfl ?_
    refine SF_iconst (-1 : Int32) 49 dX12_forcedOne_48 rfl rfl ?_
    refine SF_icne 61 52 dX12_forcedOne_49 rfl rfl (fun c2 => ?_) (fun c2 => ?_)
    · have h := ite_f c2 h
      refine SF_iload_n 2 62 dX12_forcedOne_61 rfl rfl rfl ?_
      refine SF_sub [] rfl ?_
      exact w_X12_forcedOne_62 hd l2 g  h
    · have h := ite_t c2 h
      refine SF_aload_n 0 53 dX12_forcedOne_52 rfl rfl rfl ?_
      obtain ⟨b3, r4, h⟩ := dr_some h
      refine SF_getR 56 fl_X12_61 dX12_forcedOne_53 k_l0.1 r4 rfl ?_
      refine SF_iload_n 1 57 dX12_forcedOne_56 rfl rfl rfl ?_
      obtain ⟨k5, h⟩ := gdK_some h
      obtain ⟨i6, h⟩ := gdI_some h
      refine SF_iald 58 dX12_forcedOne_57 k5.1 i6 rfl ?_
      refine SF_goto 62 dX12_forcedOne_58 rfl ?_
      refine SF_sub [] rfl ?_
      exact w_X12_forcedOne_62 hd (gI g b3 l1.toNatClampNeg) g  h
  · have h := ite_f c1 h
    refine SF_aload_n 0 10 dX12_forcedOne_9 rfl rfl rfl ?_
    refine SF_iload_n 1 11 dX12_forcedOne_10 rfl rfl rfl ?_
    refine SF_iload_n 3 12 dX12_forcedOne_11 rfl rfl rfl ?_
    obtain ⟨v7, g8, q9, h⟩ := bd_some h
    have s10 := w_X12_forcedBy (X := X) (Nat.le_refl 0) l0 l1 l3 g g8 v7 k_l0 q9
    refine SF_callVi 15 mi_X12_forcedBy ml_X12_426 dX12_forcedOne_12 (Nat.le_trans (by decide) hd) s10 k_l0.1 rfl rfl (Nat.le_of_ble_eq_true rfl) rfl ?_
    have k_l0 := k_l0.ext s10.1
    refine SF_iconst (-1 : Int32) 16 dX12_forcedOne_15 rfl rfl ?_
    refine SF_iceq 41 19 dX12_forcedOne_16 rfl rfl (fun c11 => ?_) (fun c11 => ?_)
    · have h := ite_t c11 h
      exact w_X12_forcedOne_41 hd (f_X12_forcedOne_4 n) ih l0 l1 l2 l3 g8 k_l0 h
    · have h := ite_f c11 h
      refine SF_iload_n 2 20 dX12_forcedOne_19 rfl rfl rfl ?_
      refine SF_iconst (-1 : Int32) 21 dX12_forcedOne_20 rfl rfl ?_
      refine SF_iceq 34 24 dX12_forcedOne_21 rfl rfl (fun c12 => ?_) (fun c12 => ?_)
      · have h := ite_t c12 h
        refine SF_sub [0, 1, 3] rfl ?_
        exact w_X12_forcedOne_34 hd (f_X12_forcedOne_4 n) ih l0 l1 l3 g8 k_l0 h
      · have h := ite_f c12 h
        refine SF_aload_n 0 25 dX12_forcedOne_24 rfl rfl rfl ?_
        refine SF_iload_n 1 26 dX12_forcedOne_25 rfl rfl rfl ?_
        refine SF_iload_n 3 27 dX12_forcedOne_26 rfl rfl rfl ?_
        obtain ⟨v13, g14, q15, h⟩ := bd_some h
        have s16 := w_X12_forcedBy (X := X) (Nat.le_refl 0) l0 l1 l3 g8 g14 v13 k_l0 q15
        refine SF_callVi 30 mi_X12_forcedBy ml_X12_426 dX12_forcedOne_27 (Nat.le_trans (by decide) hd) s16 k_l0.1 rfl rfl (Nat.le_of_ble_eq_true rfl) rfl ?_
        have k_l0 := k_l0.ext s16.1
        refine SF_iload_n 2 31 dX12_forcedOne_30 rfl rfl rfl ?_
        refine SF_icge 41 34 dX12_forcedOne_31 rfl rfl (fun c17 => ?_) (fun c17 => ?_)
        · have h := ite_t c17 h
          exact w_X12_forcedOne_41 hd (f_X12_forcedOne_4 n) ih l0 l1 l2 l3 g14 k_l0 h
        · have h := ite_f c17 h
          refine SF_sub [0, 1, 3] rfl ?_
          exact w_X12_forcedOne_34 hd (f_X12_forcedOne_4 n) ih l0 l1 l3 g14 k_l0 h

set_option maxRecDepth 20000 in
set_option maxHeartbeats 2000000 in
theorem w_X12_forcedOne {X : CX} {d : Nat} (hd : 1 ≤ d) (l0 : Nat) (l1 : Int32) (g g' : G) (rx : Int32) (k_l0 : KD g l0 12) (h : f_X12_forcedOne l0 l1 g = some (rx, g')) : Sem X m_X12_forcedOne d [.ref (ad X l0), .int l1] g (some (.int rx)) g' := by
  refine Sem_of (lo := [(0, .ref (ad X l0)), (1, .int l1)]) (by decide +kernel) rfl (Nat.le_of_ble_eq_true rfl) ?_
  rw [f_X12_forcedOne] at h
  refine SF_iconst (-1 : Int32) 1 dX12_forcedOne_0 rfl rfl ?_
  refine SF_istore_n [(2, .int (-1 : Int32)), (0, .ref (ad X l0)), (1, .int l1)] 2 dX12_forcedOne_1 rfl (by decide) rfl rfl ?_
  refine SF_iconst (0 : Int32) 3 dX12_forcedOne_2 rfl rfl ?_
  refine SF_istore_n [(3, .int (0 : Int32)), (2, .int (-1 : Int32)), (0, .ref (ad X l0)), (1, .int l1)] 4 dX12_forcedOne_3 rfl (by decide) rfl rfl ?_
  refine SF_sub [2, 3, 1, 0] rfl ?_
  exact w_X12_forcedOne_4 hd FU l0 l1 (-1 : Int32) (0 : Int32) g k_l0 h

theorem dX12_forcedOther_0 : decode cX12_forcedOther 0 = .ok (.iconst (-1), 1) := by decide +kernel
theorem dX12_forcedOther_1 : decode cX12_forcedOther 1 = .ok (.istore_n 2, 1) := by decide +kernel
theorem dX12_forcedOther_2 : decode cX12_forcedOther 2 = .ok (.iconst 4, 1) := by decide +kernel
theorem dX12_forcedOther_3 : decode cX12_forcedOther 3 = .ok (.istore_n 3, 1) := by decide +kernel
theorem dX12_forcedOther_4 : decode cX12_forcedOther 4 = .ok (.iload_n 3, 1) := by decide +kernel
theorem dX12_forcedOther_5 : decode cX12_forcedOther 5 = .ok (.bipush 8, 2) := by decide +kernel
theorem dX12_forcedOther_7 : decode cX12_forcedOther 7 = .ok (.if_icmp .ge 47, 3) := by decide +kernel
theorem dX12_forcedOther_10 : decode cX12_forcedOther 10 = .ok (.aload_n 0, 1) := by decide +kernel
theorem dX12_forcedOther_11 : decode cX12_forcedOther 11 = .ok (.getfield 42, 3) := by decide +kernel
theorem dX12_forcedOther_14 : decode cX12_forcedOther 14 = .ok (.bipush 8, 2) := by decide +kernel
theorem dX12_forcedOther_16 : decode cX12_forcedOther 16 = .ok (.iload_n 1, 1) := by decide +kernel
theorem dX12_forcedOther_17 : decode cX12_forcedOther 17 = .ok (.imul, 1) := by decide +kernel
theorem dX12_forcedOther_18 : decode cX12_forcedOther 18 = .ok (.iload_n 3, 1) := by decide +kernel
theorem dX12_forcedOther_19 : decode cX12_forcedOther 19 = .ok (.iadd, 1) := by decide +kernel
theorem dX12_forcedOther_20 : decode cX12_forcedOther 20 = .ok (.iaload, 1) := by decide +kernel
theorem dX12_forcedOther_21 : decode cX12_forcedOther 21 = .ok (.istore 4, 2) := by decide +kernel
theorem dX12_forcedOther_23 : decode cX12_forcedOther 23 = .ok (.iload 4, 2) := by decide +kernel
theorem dX12_forcedOther_25 : decode cX12_forcedOther 25 = .ok (.iconst (-1), 1) := by decide +kernel
theorem dX12_forcedOther_26 : decode cX12_forcedOther 26 = .ok (.if_icmp .eq 22, 3) := by decide +kernel
theorem dX12_forcedOther_29 : decode cX12_forcedOther 29 = .ok (.aload_n 0, 1) := by decide +kernel
theorem dX12_forcedOther_30 : decode cX12_forcedOther 30 = .ok (.getfield 48, 3) := by decide +kernel
theorem dX12_forcedOther_33 : decode cX12_forcedOther 33 = .ok (.iload 4, 2) := by decide +kernel
theorem dX12_forcedOther_35 : decode cX12_forcedOther 35 = .ok (.iaload, 1) := by decide +kernel
theorem dX12_forcedOther_36 : decode cX12_forcedOther 36 = .ok (.iload_n 2, 1) := by decide +kernel
theorem dX12_forcedOther_37 : decode cX12_forcedOther 37 = .ok (.if_icmp .le 11, 3) := by decide +kernel
theorem dX12_forcedOther_40 : decode cX12_forcedOther 40 = .ok (.aload_n 0, 1) := by decide +kernel
theorem dX12_forcedOther_41 : decode cX12_forcedOther 41 = .ok (.getfield 48, 3) := by decide +kernel
theorem dX12_forcedOther_44 : decode cX12_forcedOther 44 = .ok (.iload 4, 2) := by decide +kernel
theorem dX12_forcedOther_46 : decode cX12_forcedOther 46 = .ok (.iaload, 1) := by decide +kernel
theorem dX12_forcedOther_47 : decode cX12_forcedOther 47 = .ok (.istore_n 2, 1) := by decide +kernel
theorem dX12_forcedOther_48 : decode cX12_forcedOther 48 = .ok (.iinc 3 1, 3) := by decide +kernel
theorem dX12_forcedOther_51 : decode cX12_forcedOther 51 = .ok (.goto (-47), 3) := by decide +kernel
theorem dX12_forcedOther_54 : decode cX12_forcedOther 54 = .ok (.iload_n 2, 1) := by decide +kernel
theorem dX12_forcedOther_55 : decode cX12_forcedOther 55 = .ok (.iconst (-1), 1) := by decide +kernel
theorem dX12_forcedOther_56 : decode cX12_forcedOther 56 = .ok (.if_icmp .ne 12, 3) := by decide +kernel
theorem dX12_forcedOther_59 : decode cX12_forcedOther 59 = .ok (.aload_n 0, 1) := by decide +kernel
theorem dX12_forcedOther_60 : decode cX12_forcedOther 60 = .ok (.getfield 48, 3) := by decide +kernel
theorem dX12_forcedOther_63 : decode cX12_forcedOther 63 = .ok (.iload_n 1, 1) := by decide +kernel
theorem dX12_forcedOther_64 : decode cX12_forcedOther 64 = .ok (.iaload, 1) := by decide +kernel
theorem dX12_forcedOther_65 : decode cX12_forcedOther 65 = .ok (.goto 4, 3) := by decide +kernel
theorem dX12_forcedOther_68 : decode cX12_forcedOther 68 = .ok (.iload_n 2, 1) := by decide +kernel
theorem dX12_forcedOther_69 : decode cX12_forcedOther 69 = .ok (.istore_n 3, 1) := by decide +kernel
theorem dX12_forcedOther_70 : decode cX12_forcedOther 70 = .ok (.iload_n 3, 1) := by decide +kernel
theorem dX12_forcedOther_71 : decode cX12_forcedOther 71 = .ok (.ldc_w 354, 3) := by decide +kernel
theorem dX12_forcedOther_74 : decode cX12_forcedOther 74 = .ok (.if_icmp .ne 9, 3) := by decide +kernel
theorem dX12_forcedOther_77 : decode cX12_forcedOther 77 = .ok (.ldc_w 354, 3) := by decide +kernel
theorem dX12_forcedOther_80 : decode cX12_forcedOther 80 = .ok (.goto 6, 3) := by decide +kernel
theorem dX12_forcedOther_83 : decode cX12_forcedOther 83 = .ok (.iload_n 3, 1) := by decide +kernel
theorem dX12_forcedOther_84 : decode cX12_forcedOther 84 = .ok (.iconst 1, 1) := by decide +kernel
theorem dX12_forcedOther_85 : decode cX12_forcedOther 85 = .ok (.iadd, 1) := by decide +kernel
theorem dX12_forcedOther_86 : decode cX12_forcedOther 86 = .ok (.ireturn, 1) := by decide +kernel
set_option maxRecDepth 20000 in
set_option maxHeartbeats 2000000 in
theorem w_X12_forcedOther_48 {X : CX} {d : Nat} (hd : 0 ≤ d) {g' : G} {rx : Int32} (k4 : Nat → Int32 → Int32 → Int32 → G → Option (Int32 × G)) (hk4 : ∀ (l0 : Nat) (l1 : Int32) (l2 : Int32) (l3 : Int32) (g : G), KD g l0 12 → k4 l0 l1 l2 l3 g = some (rx, g') → SemF X m_X12_forcedOther d 4 [(0, .ref (ad X l0)), (1, .int l1), (2, .int l2), (3, .int l3)] [] g (some (.int rx)) g') (l0 : Nat) (l1 : Int32) (l2 : Int32) (l3 : Int32) (g : G) (k_l0 : KD g l0 12) (h : f_X12_forcedOther_48 k4 l0 l1 l2 l3 g = some (rx, g')) : SemF X m_X12_forcedOther d 48 [(0, .ref (ad X l0)), (1, .int l1), (2, .int l2), (3, .int l3)] [] g (some (.int rx)) g' := by
  rw [f_X12_forcedOther_48] at h
  refine SF_iinc 3 (l3 + (1 : Int32)) [(3, .int (l3 + (1 : Int32))), (0, .ref (ad X l0)), (1, .int l1), (2, .int l2)] 51 dX12_forcedOther_48 rfl rfl (by decide) rfl rfl ?_
  refine SF_goto 4 dX12_forcedOther_51 rfl ?_
  refine SF_sub [1, 2, 3, 0] rfl ?_
  exact hk4 l0 l1 l2 (l3 + (1 : Int32)) g k_l0 h

set_option maxRecDepth 20000 in
set_option maxHeartbeats 2000000 in
theorem w_X12_forcedOther_69 {X : CX} {d : Nat} (hd : 0 ≤ d) {g' : G} {rx : Int32} (s0 : Int32) (g : G) (h : f_X12_forcedOther_69 s0 g = some (rx, g')) : SemF X m_X12_forcedOther d 69 [] [.int s0] g (some (.int rx)) g' := by
  rw [f_X12_forcedOther_69] at h
  refine SF_istore_n [(3, .int s0)] 70 dX12_forcedOther_69 rfl (by decide) rfl rfl ?_
  refine SF_iload_n 0 71 dX12_forcedOther_70 rfl rfl rfl ?_
  refine SF_ldcw 74 dX12_forcedOther_71 ki_X12_354 rfl ?_
  refine SF_icne 83 77 dX12_forcedOther_74 rfl rfl (fun c1 => ?_) (fun c1 => ?_)
  · have h := ite_f c1 h
    refine SF_iload_n 0 84 dX12_forcedOther_83 rfl rfl rfl ?_
    refine SF_iconst (1 : Int32) 85 dX12_forcedOther_84 rfl rfl ?_
    refine SF_iadd 86 dX12_forcedOther_85 rfl ?_
    exact RT_i rfl dX12_forcedOther_86 h
  · have h := ite_t c1 h
    refine SF_ldcw 80 dX12_forcedOther_77 ki_X12_354 rfl ?_
    refine SF_goto 86 dX12_forcedOther_80 rfl ?_
    exact RT_i rfl dX12_forcedOther_86 h

set_option maxRecDepth 20000 in
set_option maxHeartbeats 2000000 in
theorem w_X12_forcedOther_4 {X : CX} {d : Nat} (hd : 0 ≤ d) {g' : G} {rx : Int32} : ∀ (n : Nat) (l0 : Nat) (l1 : Int32) (l2 : Int32) (l3 : Int32) (g : G), KD g l0 12 → f_X12_forcedOther_4 n l0 l1 l2 l3 g = some (rx, g') → SemF X m_X12_forcedOther d 4 [(0, .ref (ad X l0)), (1, .int l1), (2, .int l2), (3, .int l3)] [] g (some (.int rx)) g' := by
  intro n
  induction n with
  | zero =>
    intro l0 l1 l2 l3 g k_l0 h
    rw [f_X12_forcedOther_4] at h
    cases h
  | succ n ih =>
  intro l0 l1 l2 l3 g k_l0 h
  rw [f_X12_forcedOther_4] at h
  refine SF_iload_n 3 5 dX12_forcedOther_4 rfl rfl rfl ?_
  refine SF_bipush (8 : Int32) 7 dX12_forcedOther_5 rfl rfl ?_
  refine SF_icge 54 10 dX12_forcedOther_7 rfl rfl (fun c1 => ?_) (fun c1 => ?_)
  · have h := ite_t c1 h
    refine SF_iload_n 2 55 dX12_forcedOther_54 rfl rfl rfl ?_
    refine SF_iconst (-1 : Int32) 56 dX12_forcedOther_55 rfl rfl ?_
    refine SF_icne 68 59 dX12_forcedOther_56 rfl rfl (fun c2 => ?_) (fun c2 => ?_)
    · have h := ite_f c2 h
      refine SF_iload_n 2 69 dX12_forcedOther_68 rfl rfl rfl ?_
      refine SF_sub [] rfl ?_
      exact w_X12_forcedOther_69 hd l2 g  h
    · have h := ite_t c2 h
      refine SF_aload_n 0 60 dX12_forcedOther_59 rfl rfl rfl ?_
      obtain ⟨b3, r4, h⟩ := dr_some h
      refine SF_getR 63 fl_X12_48 dX12_forcedOther_60 k_l0.1 r4 rfl ?_
      refine SF_iload_n 1 64 dX12_forcedOther_63 rfl rfl rfl ?_
      obtain ⟨k5, h⟩ := gdK_some h
      obtain ⟨i6, h⟩ := gdI_some h
      refine SF_iald 65 dX12_forcedOther_64 k5.1 i6 rfl ?_
      refine SF_goto 69 dX12_forcedOther_65 rfl ?_
      refine SF_sub [] rfl ?_
      exact w_X12_forcedOther_69 hd (gI g b3 l1.toNatClampNeg) g  h
  · have h := ite_f c1 h
    refine SF_aload_n 0 11 dX12_forcedOther_10 rfl rfl rfl ?_
    obtain ⟨b7, r8, h⟩ := dr_some h
    refine SF_getR 14 fl_X12_42 dX12_forcedOther_11 k_l0.1 r8 rfl ?_
    refine SF_bipush (8 : Int32) 16 dX12_forcedOther_14 rfl rfl ?_
    refine SF_iload_n 1 17 dX12_forcedOther_16 rfl rfl rfl ?_
    refine SF_imul 18 dX12_forcedOther_17 rfl ?_
    refine SF_iload_n 3 19 dX12_forcedOther_18 rfl rfl rfl ?_
    refine SF_iadd 20 dX12_forcedOther_19 rfl ?_
    obtain ⟨k9, h⟩ := gdK_some h
    obtain ⟨i10, h⟩ := gdI_some h
    refine SF_iald 21 dX12_forcedOther_20 k9.1 i10 rfl ?_
    obtain ⟨y11, e12, h⟩ := li_some h
    refine SF_eqI e12 ?_
    refine SF_istore [(4, .int y11), (0, .ref (ad X l0)), (1, .int l1), (2, .int l2), (3, .int l3)] 23 dX12_forcedOther_21 (by decide) rfl rfl ?_
    refine SF_iload 0 25 dX12_forcedOther_23 rfl rfl ?_
    refine SF_iconst (-1 : Int32) 26 dX12_forcedOther_25 rfl rfl ?_
    refine SF_iceq 48 29 dX12_forcedOther_26 rfl rfl (fun c13 => ?_) (fun c13 => ?_)
    · have h := ite_t c13 h
      refine SF_sub [1, 2, 3, 4] rfl ?_
      exact w_X12_forcedOther_48 hd (f_X12_forcedOther_4 n) ih l0 l1 l2 l3 g k_l0 h
    · have h := ite_f c13 h
      refine SF_aload_n 1 30 dX12_forcedOther_29 rfl rfl rfl ?_
      obtain ⟨b14, r15, h⟩ := dr_some h
      refine SF_getR 33 fl_X12_48 dX12_forcedOther_30 k_l0.1 r15 rfl ?_
      refine SF_iload 0 35 dX12_forcedOther_33 rfl rfl ?_
      obtain ⟨k16, h⟩ := gdK_some h
      obtain ⟨i17, h⟩ := gdI_some h
      refine SF_iald 36 dX12_forcedOther_35 k16.1 i17 rfl ?_
      refine SF_iload_n 3 37 dX12_forcedOther_36 rfl rfl rfl ?_
      refine SF_icle 48 40 dX12_forcedOther_37 rfl rfl (fun c18 => ?_) (fun c18 => ?_)
      · have h := ite_t c18 h
        refine SF_sub [1, 2, 3, 4] rfl ?_
        exact w_X12_forcedOther_48 hd (f_X12_forcedOther_4 n) ih l0 l1 l2 l3 g k_l0 h
      · have h := ite_f c18 h
        refine SF_aload_n 1 41 dX12_forcedOther_40 rfl rfl rfl ?_
        refine SF_getR 44 fl_X12_48 dX12_forcedOther_41 k_l0.1 r15 rfl ?_
        refine SF_iload 0 46 dX12_forcedOther_44 rfl rfl ?_
        refine SF_iald 47 dX12_forcedOther_46 k16.1 i17 rfl ?_
        obtain ⟨y19, e20, h⟩ := li_some h
        refine SF_eqI e20 ?_
        refine SF_istore_n [(2, .int y19), (4, .int y11), (0, .ref (ad X l0)), (1, .int l1), (3, .int l3)] 48 dX12_forcedOther_47 rfl (by decide) rfl rfl ?_
        refine SF_sub [2, 3, 0, 4] rfl ?_
        exact w_X12_forcedOther_48 hd (f_X12_forcedOther_4 n) ih l0 l1 y19 l3 g k_l0 h

set_option maxRecDepth 20000 in
set_option maxHeartbeats 2000000 in
theorem w_X12_forcedOther {X : CX} {d : Nat} (hd : 0 ≤ d) (l0 : Nat) (l1 : Int32) (g g' : G) (rx : Int32) (k_l0 : KD g l0 12) (h : f_X12_forcedOther l0 l1 g = some (rx, g')) : Sem X m_X12_forcedOther d [.ref (ad X l0), .int l1] g (some (.int rx)) g' := by
  refine Sem_of (lo := [(0, .ref (ad X l0)), (1, .int l1)]) (by decide +kernel) rfl (Nat.le_of_ble_eq_true rfl) ?_
  rw [f_X12_forcedOther] at h
  refine SF_iconst (-1 : Int32) 1 dX12_forcedOther_0 rfl rfl ?_
  refine SF_istore_n [(2, .int (-1 : Int32)), (0, .ref (ad X l0)), (1, .int l1)] 2 dX12_forcedOther_1 rfl (by decide) rfl rfl ?_
  refine SF_iconst (4 : Int32) 3 dX12_forcedOther_2 rfl rfl ?_
  refine SF_istore_n [(3, .int (4 : Int32)), (2, .int (-1 : Int32)), (0, .ref (ad X l0)), (1, .int l1)] 4 dX12_forcedOther_3 rfl (by decide) rfl rfl ?_
  refine SF_sub [2, 3, 1, 0] rfl ?_
  exact w_X12_forcedOther_4 hd FU l0 l1 (-1 : Int32) (4 : Int32) g k_l0 h

theorem dX12_laysForced_0 : decode cX12_laysForced 0 = .ok (.iconst 0, 1) := by decide +kernel
theorem dX12_laysForced_1 : decode cX12_laysForced 1 = .ok (.istore_n 3, 1) := by decide +kernel
theorem dX12_laysForced_2 : decode cX12_laysForced 2 = .ok (.iload_n 3, 1) := by decide +kernel
theorem dX12_laysForced_3 : decode cX12_laysForced 3 = .ok (.sipush 1296, 3) := by decide +kernel
theorem dX12_laysForced_6 : decode cX12_laysForced 6 = .ok (.if_icmp .ge 52, 3) := by decide +kernel
theorem dX12_laysForced_9 : decode cX12_laysForced 9 = .ok (.aload_n 0, 1) := by decide +kernel
theorem dX12_laysForced_10 : decode cX12_laysForced 10 = .ok (.getfield 48, 3) := by decide +kernel
theorem dX12_laysForced_13 : decode cX12_laysForced 13 = .ok (.iload_n 3, 1) := by decide +kernel
theorem dX12_laysForced_14 : decode cX12_laysForced 14 = .ok (.aload_n 0, 1) := by decide +kernel
theorem dX12_laysForced_15 : decode cX12_laysForced 15 = .ok (.getfield 39, 3) := by decide +kernel
theorem dX12_laysForced_18 : decode cX12_laysForced 18 = .ok (.iload_n 3, 1) := by decide +kernel
theorem dX12_laysForced_19 : decode cX12_laysForced 19 = .ok (.baload, 1) := by decide +kernel
theorem dX12_laysForced_20 : decode cX12_laysForced 20 = .ok (.ifCond .eq 16, 3) := by decide +kernel
theorem dX12_laysForced_23 : decode cX12_laysForced 23 = .ok (.iload_n 3, 1) := by decide +kernel
theorem dX12_laysForced_24 : decode cX12_laysForced 24 = .ok (.iconst 0, 1) := by decide +kernel
theorem dX12_laysForced_25 : decode cX12_laysForced 25 = .ok (.invokestatic 347, 3) := by decide +kernel
theorem dX12_laysForced_28 : decode cX12_laysForced 28 = .ok (.iload_n 2, 1) := by decide +kernel
theorem dX12_laysForced_29 : decode cX12_laysForced 29 = .ok (.if_icmp .ne 7, 3) := by decide +kernel
theorem dX12_laysForced_32 : decode cX12_laysForced 32 = .ok (.iconst 0, 1) := by decide +kernel
theorem dX12_laysForced_33 : decode cX12_laysForced 33 = .ok (.goto 6, 3) := by decide +kernel
theorem dX12_laysForced_36 : decode cX12_laysForced 36 = .ok (.ldc_w 354, 3) := by decide +kernel
theorem dX12_laysForced_39 : decode cX12_laysForced 39 = .ok (.iastore, 1) := by decide +kernel
theorem dX12_laysForced_40 : decode cX12_laysForced 40 = .ok (.aload_n 0, 1) := by decide +kernel
theorem dX12_laysForced_41 : decode cX12_laysForced 41 = .ok (.getfield 61, 3) := by decide +kernel
theorem dX12_laysForced_44 : decode cX12_laysForced 44 = .ok (.iload_n 3, 1) := by decide +kernel
theorem dX12_laysForced_45 : decode cX12_laysForced 45 = .ok (.aload_n 0, 1) := by decide +kernel
theorem dX12_laysForced_46 : decode cX12_laysForced 46 = .ok (.getfield 48, 3) := by decide +kernel
theorem dX12_laysForced_49 : decode cX12_laysForced 49 = .ok (.iload_n 3, 1) := by decide +kernel
theorem dX12_laysForced_50 : decode cX12_laysForced 50 = .ok (.iaload, 1) := by decide +kernel
theorem dX12_laysForced_51 : decode cX12_laysForced 51 = .ok (.iastore, 1) := by decide +kernel
theorem dX12_laysForced_52 : decode cX12_laysForced 52 = .ok (.iinc 3 1, 3) := by decide +kernel
theorem dX12_laysForced_55 : decode cX12_laysForced 55 = .ok (.goto (-53), 3) := by decide +kernel
theorem dX12_laysForced_58 : decode cX12_laysForced 58 = .ok (.iconst 1, 1) := by decide +kernel
theorem dX12_laysForced_59 : decode cX12_laysForced 59 = .ok (.istore_n 3, 1) := by decide +kernel
theorem dX12_laysForced_60 : decode cX12_laysForced 60 = .ok (.iload_n 3, 1) := by decide +kernel
theorem dX12_laysForced_61 : decode cX12_laysForced 61 = .ok (.ifCond .eq 158, 3) := by decide +kernel
theorem dX12_laysForced_64 : decode cX12_laysForced 64 = .ok (.iconst 0, 1) := by decide +kernel
theorem dX12_laysForced_65 : decode cX12_laysForced 65 = .ok (.istore_n 3, 1) := by decide +kernel
theorem dX12_laysForced_66 : decode cX12_laysForced 66 = .ok (.iconst 0, 1) := by decide +kernel
theorem dX12_laysForced_67 : decode cX12_laysForced 67 = .ok (.istore 4, 2) := by decide +kernel
theorem dX12_laysForced_69 : decode cX12_laysForced 69 = .ok (.iload 4, 2) := by decide +kernel
theorem dX12_laysForced_71 : decode cX12_laysForced 71 = .ok (.sipush 1296, 3) := by decide +kernel
theorem dX12_laysForced_74 : decode cX12_laysForced 74 = .ok (.if_icmp .ge 142, 3) := by decide +kernel
theorem dX12_laysForced_77 : decode cX12_laysForced 77 = .ok (.aload_n 0, 1) := by decide +kernel
theorem dX12_laysForced_78 : decode cX12_laysForced 78 = .ok (.getfield 39, 3) := by decide +kernel
theorem dX12_laysForced_81 : decode cX12_laysForced 81 = .ok (.iload 4, 2) := by decide +kernel
theorem dX12_laysForced_83 : decode cX12_laysForced 83 = .ok (.baload, 1) := by decide +kernel
theorem dX12_laysForced_84 : decode cX12_laysForced 84 = .ok (.ifCond .eq 126, 3) := by decide +kernel
theorem dX12_laysForced_87 : decode cX12_laysForced 87 = .ok (.iload 4, 2) := by decide +kernel
theorem dX12_laysForced_89 : decode cX12_laysForced 89 = .ok (.iconst 0, 1) := by decide +kernel
theorem dX12_laysForced_90 : decode cX12_laysForced 90 = .ok (.invokestatic 347, 3) := by decide +kernel
theorem dX12_laysForced_93 : decode cX12_laysForced 93 = .ok (.iload_n 2, 1) := by decide +kernel
theorem dX12_laysForced_94 : decode cX12_laysForced 94 = .ok (.if_icmp .ne 6, 3) := by decide +kernel
theorem dX12_laysForced_97 : decode cX12_laysForced 97 = .ok (.goto 113, 3) := by decide +kernel
theorem dX12_laysForced_100 : decode cX12_laysForced 100 = .ok (.aload_n 0, 1) := by decide +kernel
theorem dX12_laysForced_101 : decode cX12_laysForced 101 = .ok (.iload 4, 2) := by decide +kernel
theorem dX12_laysForced_103 : decode cX12_laysForced 103 = .ok (.invokevirtual 429, 3) := by decide +kernel
theorem dX12_laysForced_106 : decode cX12_laysForced 106 = .ok (.istore 5, 2) := by decide +kernel
theorem dX12_laysForced_108 : decode cX12_laysForced 108 = .ok (.aload_n 0, 1) := by decide +kernel
theorem dX12_laysForced_109 : decode cX12_laysForced 109 = .ok (.iload 4, 2) := by decide +kernel
theorem dX12_laysForced_111 : decode cX12_laysForced 111 = .ok (.invokevirtual 432, 3) := by decide +kernel
theorem dX12_laysForced_114 : decode cX12_laysForced 114 = .ok (.istore 6, 2) := by decide +kernel
theorem dX12_laysForced_116 : decode cX12_laysForced 116 = .ok (.iload_n 3, 1) := by decide +kernel
theorem dX12_laysForced_117 : decode cX12_laysForced 117 = .ok (.iload 5, 2) := by decide +kernel
theorem dX12_laysForced_119 : decode cX12_laysForced 119 = .ok (.aload_n 0, 1) := by decide +kernel
theorem dX12_laysForced_120 : decode cX12_laysForced 120 = .ok (.getfield 48, 3) := by decide +kernel
theorem dX12_laysForced_123 : decode cX12_laysForced 123 = .ok (.iload 4, 2) := by decide +kernel
theorem dX12_laysForced_125 : decode cX12_laysForced 125 = .ok (.iaload, 1) := by decide +kernel
theorem dX12_laysForced_126 : decode cX12_laysForced 126 = .ok (.if_icmp .lt 15, 3) := by decide +kernel
theorem dX12_laysForced_129 : decode cX12_laysForced 129 = .ok (.iload 6, 2) := by decide +kernel
theorem dX12_laysForced_131 : decode cX12_laysForced 131 = .ok (.aload_n 0, 1) := by decide +kernel
theorem dX12_laysForced_132 : decode cX12_laysForced 132 = .ok (.getfield 61, 3) := by decide +kernel
theorem dX12_laysForced_135 : decode cX12_laysForced 135 = .ok (.iload 4, 2) := by decide +kernel
theorem dX12_laysForced_137 : decode cX12_laysForced 137 = .ok (.iaload, 1) := by decide +kernel
theorem dX12_laysForced_138 : decode cX12_laysForced 138 = .ok (.if_icmp .ge 7, 3) := by decide +kernel
theorem dX12_laysForced_141 : decode cX12_laysForced 141 = .ok (.iconst 1, 1) := by decide +kernel
theorem dX12_laysForced_142 : decode cX12_laysForced 142 = .ok (.goto 4, 3) := by decide +kernel
theorem dX12_laysForced_145 : decode cX12_laysForced 145 = .ok (.iconst 0, 1) := by decide +kernel
theorem dX12_laysForced_146 : decode cX12_laysForced 146 = .ok (.ior, 1) := by decide +kernel
theorem dX12_laysForced_147 : decode cX12_laysForced 147 = .ok (.istore_n 3, 1) := by decide +kernel
theorem dX12_laysForced_148 : decode cX12_laysForced 148 = .ok (.aload_n 0, 1) := by decide +kernel
theorem dX12_laysForced_149 : decode cX12_laysForced 149 = .ok (.getfield 48, 3) := by decide +kernel
theorem dX12_laysForced_152 : decode cX12_laysForced 152 = .ok (.iload 4, 2) := by decide +kernel
theorem dX12_laysForced_154 : decode cX12_laysForced 154 = .ok (.iload 5, 2) := by decide +kernel
theorem dX12_laysForced_156 : decode cX12_laysForced 156 = .ok (.aload_n 0, 1) := by decide +kernel
theorem dX12_laysForced_157 : decode cX12_laysForced 157 = .ok (.getfield 48, 3) := by decide +kernel
theorem dX12_laysForced_160 : decode cX12_laysForced 160 = .ok (.iload 4, 2) := by decide +kernel
theorem dX12_laysForced_162 : decode cX12_laysForced 162 = .ok (.iaload, 1) := by decide +kernel
theorem dX12_laysForced_163 : decode cX12_laysForced 163 = .ok (.if_icmp .ge 8, 3) := by decide +kernel
theorem dX12_laysForced_166 : decode cX12_laysForced 166 = .ok (.iload 5, 2) := by decide +kernel
theorem dX12_laysForced_168 : decode cX12_laysForced 168 = .ok (.goto 10, 3) := by decide +kernel
theorem dX12_laysForced_171 : decode cX12_laysForced 171 = .ok (.aload_n 0, 1) := by decide +kernel
theorem dX12_laysForced_172 : decode cX12_laysForced 172 = .ok (.getfield 48, 3) := by decide +kernel
theorem dX12_laysForced_175 : decode cX12_laysForced 175 = .ok (.iload 4, 2) := by decide +kernel
theorem dX12_laysForced_177 : decode cX12_laysForced 177 = .ok (.iaload, 1) := by decide +kernel
theorem dX12_laysForced_178 : decode cX12_laysForced 178 = .ok (.iastore, 1) := by decide +kernel
theorem dX12_laysForced_179 : decode cX12_laysForced 179 = .ok (.aload_n 0, 1) := by decide +kernel
theorem dX12_laysForced_180 : decode cX12_laysForced 180 = .ok (.getfield 61, 3) := by decide +kernel
theorem dX12_laysForced_183 : decode cX12_laysForced 183 = .ok (.iload 4, 2) := by decide +kernel
theorem dX12_laysForced_185 : decode cX12_laysForced 185 = .ok (.iload 6, 2) := by decide +kernel
theorem dX12_laysForced_187 : decode cX12_laysForced 187 = .ok (.aload_n 0, 1) := by decide +kernel
theorem dX12_laysForced_188 : decode cX12_laysForced 188 = .ok (.getfield 61, 3) := by decide +kernel
theorem dX12_laysForced_191 : decode cX12_laysForced 191 = .ok (.iload 4, 2) := by decide +kernel
theorem dX12_laysForced_193 : decode cX12_laysForced 193 = .ok (.iaload, 1) := by decide +kernel
theorem dX12_laysForced_194 : decode cX12_laysForced 194 = .ok (.if_icmp .ge 8, 3) := by decide +kernel
theorem dX12_laysForced_197 : decode cX12_laysForced 197 = .ok (.iload 6, 2) := by decide +kernel
theorem dX12_laysForced_199 : decode cX12_laysForced 199 = .ok (.goto 10, 3) := by decide +kernel
theorem dX12_laysForced_202 : decode cX12_laysForced 202 = .ok (.aload_n 0, 1) := by decide +kernel
theorem dX12_laysForced_203 : decode cX12_laysForced 203 = .ok (.getfield 61, 3) := by decide +kernel
theorem dX12_laysForced_206 : decode cX12_laysForced 206 = .ok (.iload 4, 2) := by decide +kernel
theorem dX12_laysForced_208 : decode cX12_laysForced 208 = .ok (.iaload, 1) := by decide +kernel
theorem dX12_laysForced_209 : decode cX12_laysForced 209 = .ok (.iastore, 1) := by decide +kernel
theorem dX12_laysForced_210 : decode cX12_laysForced 210 = .ok (.iinc 4 1, 3) := by decide +kernel
theorem dX12_laysForced_213 : decode cX12_laysForced 213 = .ok (.goto (-144), 3) := by decide +kernel
theorem dX12_laysForced_216 : decode cX12_laysForced 216 = .ok (.goto (-156), 3) := by decide +kernel
theorem dX12_laysForced_219 : decode cX12_laysForced 219 = .ok (.aload_n 0, 1) := by decide +kernel
theorem dX12_laysForced_220 : decode cX12_laysForced 220 = .ok (.getfield 48, 3) := by decide +kernel
theorem dX12_laysForced_223 : decode cX12_laysForced 223 = .ok (.aload_n 0, 1) := by decide +kernel
theorem dX12_laysForced_224 : decode cX12_laysForced 224 = .ok (.iload_n 1, 1) := by decide +kernel
theorem dX12_laysForced_225 : decode cX12_laysForced 225 = .ok (.invokevirtual 370, 3) := by decide +kernel
theorem dX12_laysForced_228 : decode cX12_laysForced 228 = .ok (.iaload, 1) := by decide +kernel
theorem dX12_laysForced_229 : decode cX12_laysForced 229 = .ok (.ireturn, 1) := by decide +kernel
set_option maxRecDepth 20000 in
set_option maxHeartbeats 2000000 in
theorem w_X12_laysForced_39 {X : CX} {d : Nat} (hd : 2 ≤ d) {g' : G} {rx : Int32} (k2 : Nat → Int32 → Int32 → Int32 → G → Option (Int32 × G)) (hk2 : ∀ (l0 : Nat) (l1 : Int32) (l2 : Int32) (l3 : Int32) (g : G), KD g l0 12 → k2 l0 l1 l2 l3 g = some (rx, g') → SemF X m_X12_laysForced d 2 [(0, .ref (ad X l0)), (1, .int l1), (2, .int l2), (3, .int l3)] [] g (some (.int rx)) g') (l0 : Nat) (l1 : Int32) (l2 : Int32) (l3 : Int32) (s0 : Int32) (s1 : Int32) (s2 : Nat) (g : G) (k_l0 : KD g l0 12) (k_s2 : KD g s2 14) (h : f_X12_laysForced_39 k2 l0 l1 l2 l3 s0 s1 s2 g = some (rx, g')) : SemF X m_X12_laysForced d 39 [(0, .ref (ad X l0)), (1, .int l1), (2, .int l2), (3, .int l3)] [.int s0, .int s1, .ref (ad X s2)] g (some (.int rx)) g' := by
  rw [f_X12_laysForced_39] at h
  obtain ⟨i1, h⟩ := gdI_some h
  refine SF_iast 40 dX12_laysForced_39 k_s2.1 i1 rfl ?_
  obtain ⟨g2, e3, h⟩ := lg_some h
  rw [← e3]
  have k_l0 := KD.eq e3 k_l0
  have k_s2 := KD.eq e3 k_s2
  have i1 := vp_eq e3 i1
  refine SF_aload_n 0 41 dX12_laysForced_40 rfl rfl rfl ?_
  obtain ⟨b4, r5, h⟩ := dr_some h
  refine SF_getR 44 fl_X12_61 dX12_laysForced_41 k_l0.1 r5 rfl ?_
  refine SF_iload_n 3 45 dX12_laysForced_44 rfl rfl rfl ?_
  refine SF_aload_n 0 46 dX12_laysForced_45 rfl rfl rfl ?_
  obtain ⟨b6, r7, h⟩ := dr_some h
  refine SF_getR 49 fl_X12_48 dX12_laysForced_46 k_l0.1 r7 rfl ?_
  refine SF_iload_n 3 50 dX12_laysForced_49 rfl rfl rfl ?_
  obtain ⟨k8, h⟩ := gdK_some h
  obtain ⟨i9, h⟩ := gdI_some h
  refine SF_iald 51 dX12_laysForced_50 k8.1 i9 rfl ?_
  obtain ⟨k10, h⟩ := gdK_some h
  obtain ⟨i11, h⟩ := gdI_some h
  refine SF_iast 52 dX12_laysForced_51 k10.1 i11 rfl ?_
  obtain ⟨g12, e13, h⟩ := lg_some h
  rw [← e13]
  have k_l0 := KD.eq e13 k_l0
  have k_s2 := KD.eq e13 k_s2
  have k8 := KD.eq e13 k8
  have k10 := KD.eq e13 k10
  have r5 := gR_eq e13 r5
  have r7 := gR_eq e13 r7
  have i1 := vp_eq e13 i1
  have i9 := vp_eq e13 i9
  have i11 := vp_eq e13 i11
  refine SF_iinc 3 (l3 + (1 : Int32)) [(3, .int (l3 + (1 : Int32))), (0, .ref (ad X l0)), (1, .int l1), (2, .int l2)] 55 dX12_laysForced_52 rfl rfl (by decide) rfl rfl ?_
  refine SF_goto 2 dX12_laysForced_55 rfl ?_
  refine SF_sub [1, 2, 3, 0] rfl ?_
  exact hk2 l0 l1 l2 (l3 + (1 : Int32)) g12 k_l0 h

set_option maxRecDepth 20000 in
set_option maxHeartbeats 2000000 in
theorem w_X12_laysForced_36 {X : CX} {d : Nat} (hd : 2 ≤ d) {g' : G} {rx : Int32} (k2 : Nat → Int32 → Int32 → Int32 → G → Option (Int32 × G)) (hk2 : ∀ (l0 : Nat) (l1 : Int32) (l2 : Int32) (l3 : Int32) (g : G), KD g l0 12 → k2 l0 l1 l2 l3 g = some (rx, g') → SemF X m_X12_laysForced d 2 [(0, .ref (ad X l0)), (1, .int l1), (2, .int l2), (3, .int l3)] [] g (some (.int rx)) g') (l0 : Nat) (l1 : Int32) (l2 : Int32) (l3 : Int32) (s0 : Int32) (s1 : Nat) (g : G) (k_l0 : KD g l0 12) (k_s1 : KD g s1 14) (h : f_X12_laysForced_36 k2 l0 l1 l2 l3 s0 s1 g = some (rx, g')) : SemF X m_X12_laysForced d 36 [(0, .ref (ad X l0)), (1, .int l1), (2, .int l2), (3, .int l3)] [.int s0, .ref (ad X s1)] g (some (.int rx)) g' := by
  rw [f_X12_laysForced_36] at h
  refine SF_ldcw 39 dX12_laysForced_36 ki_X12_354 rfl ?_
  exact w_X12_laysForced_39 hd k2 hk2 l0 l1 l2 l3 (1073741824 : Int32) s0 s1 g k_l0 k_s1 h

set_option maxRecDepth 20000 in
set_option maxHeartbeats 2000000 in
theorem w_X12_laysForced_210 {X : CX} {d : Nat} (hd : 2 ≤ d) {g' : G} {rx : Int32} (k60 : Nat → Int32 → Int32 → Int32 → G → Option (Int32 × G)) (hk60 : ∀ (l0 : Nat) (l1 : Int32) (l2 : Int32) (l3 : Int32) (g : G), KD g l0 12 → k60 l0 l1 l2 l3 g = some (rx, g') → SemF X m_X12_laysForced d 60 [(0, .ref (ad X l0)), (1, .int l1), (2, .int l2), (3, .int l3)] [] g (some (.int rx)) g') (k69 : Nat → Int32 → Int32 → Int32 → Int32 → G → Option (Int32 × G)) (hk69 : ∀ (l0 : Nat) (l1 : Int32) (l2 : Int32) (l3 : Int32) (l4 : Int32) (g : G), KD g l0 12 → k69 l0 l1 l2 l3 l4 g = some (rx, g') → SemF X m_X12_laysForced d 69 [(0, .ref (ad X l0)), (1, .int l1), (2, .int l2), (3, .int l3), (4, .int l4)] [] g (some (.int rx)) g') (l0 : Nat) (l1 : Int32) (l2 : Int32) (l3 : Int32) (l4 : Int32) (g : G) (k_l0 : KD g l0 12) (h : f_X12_laysForced_210 k60 k69 l0 l1 l2 l3 l4 g = some (rx, g')) : SemF X m_X12_laysForced d 210 [(0, .ref (ad X l0)), (1, .int l1), (2, .int l2), (3, .int l3), (4, .int l4)] [] g (some (.int rx)) g' := by
  rw [f_X12_laysForced_210] at h
  refine SF_iinc 4 (l4 + (1 : Int32)) [(4, .int (l4 + (1 : Int32))), (0, .ref (ad X l0)), (1, .int l1), (2, .int l2), (3, .int l3)] 213 dX12_laysForced_210 rfl rfl (by decide) rfl rfl ?_
  refine SF_goto 69 dX12_laysForced_213 rfl ?_
  refine SF_sub [1, 2, 3, 4, 0] rfl ?_
  exact hk69 l0 l1 l2 l3 (l4 + (1 : Int32)) g k_l0 h

set_option maxRecDepth 20000 in
set_option maxHeartbeats 2000000 in
theorem w_X12_laysForced_209 {X : CX} {d : Nat} (hd : 2 ≤ d) {g' : G} {rx : Int32} (k60 : Nat → Int32 → Int32 → Int32 → G → Option (Int32 × G)) (hk60 : ∀ (l0 : Nat) (l1 : Int32) (l2 : Int32) (l3 : Int32) (g : G), KD g l0 12 → k60 l0 l1 l2 l3 g = some (rx, g') → SemF X m_X12_laysForced d 60 [(0, .ref (ad X l0)), (1, .int l1), (2, .int l2), (3, .int l3)] [] g (some (.int rx)) g') (k69 : Nat → Int32 → Int32 → Int32 → Int32 → G → Option (Int32 × G)) (hk69 : ∀ (l0 : Nat) (l1 : Int32) (l2 : Int32) (l3 : Int32) (l4 : Int32) (g : G), KD g l0 12 → k69 l0 l1 l2 l3 l4 g = some (rx, g') → SemF X m_X12_laysForced d 69 [(0, .ref (ad X l0)), (1, .int l1), (2, .int l2), (3, .int l3), (4, .int l4)] [] g (some (.int rx)) g') (l0 : Nat) (l1 : Int32) (l2 : Int32) (l3 : Int32) (l4 : Int32) (s0 : Int32) (s1 : Int32) (s2 : Nat) (g : G) (k_l0 : KD g l0 12) (k_s2 : KD g s2 14) (h : f_X12_laysForced_209 k60 k69 l0 l1 l2 l3 l4 s0 s1 s2 g = some (rx, g')) : SemF X m_X12_laysForced d 209 [(0, .ref (ad X l0)), (1, .int l1), (2, .int l2), (3, .int l3), (4, .int l4)] [.int s0, .int s1, .ref (ad X s2)] g (some (.int rx)) g' := by
  rw [f_X12_laysForced_209] at h
  obtain ⟨i1, h⟩ := gdI_some h
  refine SF_iast 210 dX12_laysForced_209 k_s2.1 i1 rfl ?_
  obtain ⟨g2, e3, h⟩ := lg_some h
  rw [← e3]
  have k_l0 := KD.eq e3 k_l0
  have k_s2 := KD.eq e3 k_s2
  have i1 := vp_eq e3 i1
  exact w_X12_laysForced_210 hd k60 hk60 k69 hk69 l0 l1 l2 l3 l4 g2 k_l0 h

set_option maxRecDepth 20000 in
set_option maxHeartbeats 2000000 in
theorem w_X12_laysForced_178 {X : CX} {d : Nat} (hd : 2 ≤ d) {g' : G} {rx : Int32} (k60 : Nat → Int32 → Int32 → Int32 → G → Option (Int32 × G)) (hk60 : ∀ (l0 : Nat) (l1 : Int32) (l2 : Int32) (l3 : Int32) (g : G), KD g l0 12 → k60 l0 l1 l2 l3 g = some (rx, g') → SemF X m_X12_laysForced d 60 [(0, .ref (ad X l0)), (1, .int l1), (2, .int l2), (3, .int l3)] [] g (some (.int rx)) g') (k69 : Nat → Int32 → Int32 → Int32 → Int32 → G → Option (Int32 × G)) (hk69 : ∀ (l0 : Nat) (l1 : Int32) (l2 : Int32) (l3 : Int32) (l4 : Int32) (g : G), KD g l0 12 → k69 l0 l1 l2 l3 l4 g = some (rx, g') → SemF X m_X12_laysForced d 69 [(0, .ref (ad X l0)), (1, .int l1), (2, .int l2), (3, .int l3), (4, .int l4)] [] g (some (.int rx)) g') (l0 : Nat) (l1 : Int32) (l2 : Int32) (l3 : Int32) (l4 : Int32) (l6 : Int32) (s0 : Int32) (s1 : Int32) (s2 : Nat) (g : G) (k_l0 : KD g l0 12) (k_s2 : KD g s2 14) (h : f_X12_laysForced_178 k60 k69 l0 l1 l2 l3 l4 l6 s0 s1 s2 g = some (rx, g')) : SemF X m_X12_laysForced d 178 [(0, .ref (ad X l0)), (1, .int l1), (2, .int l2), (3, .int l3), (4, .int l4), (6, .int l6)] [.int s0, .int s1, .ref (ad X s2)] g (some (.int rx)) g' := by
  rw [f_X12_laysForced_178] at h
  obtain ⟨i1, h⟩ := gdI_some h
  refine SF_iast 179 dX12_laysForced_178 k_s2.1 i1 rfl ?_
  obtain ⟨g2, e3, h⟩ := lg_some h
  rw [← e3]
  have k_l0 := KD.eq e3 k_l0
  have k_s2 := KD.eq e3 k_s2
  have i1 := vp_eq e3 i1
  refine SF_aload_n 0 180 dX12_laysForced_179 rfl rfl rfl ?_
  obtain ⟨b4, r5, h⟩ := dr_some h
  refine SF_getR 183 fl_X12_61 dX12_laysForced_180 k_l0.1 r5 rfl ?_
  refine SF_iload 4 185 dX12_laysForced_183 rfl rfl ?_
  refine SF_iload 5 187 dX12_laysForced_185 rfl rfl ?_
  refine SF_aload_n 0 188 dX12_laysForced_187 rfl rfl rfl ?_
  refine SF_getR 191 fl_X12_61 dX12_laysForced_188 k_l0.1 r5 rfl ?_
  refine SF_iload 4 193 dX12_laysForced_191 rfl rfl ?_
  obtain ⟨k6, h⟩ := gdK_some h
  obtain ⟨i7, h⟩ := gdI_some h
  refine SF_iald 194 dX12_laysForced_193 k6.1 i7 rfl ?_
  refine SF_icge 202 197 dX12_laysForced_194 rfl rfl (fun c8 => ?_) (fun c8 => ?_)
  · have h := ite_t c8 h
    refine SF_aload_n 0 203 dX12_laysForced_202 rfl rfl rfl ?_
    refine SF_getR 206 fl_X12_61 dX12_laysForced_203 k_l0.1 r5 rfl ?_
    refine SF_iload 4 208 dX12_laysForced_206 rfl rfl ?_
    refine SF_iald 209 dX12_laysForced_208 k6.1 i7 rfl ?_
    refine SF_sub [0, 1, 2, 3, 4] rfl ?_
    exact w_X12_laysForced_209 hd k60 hk60 k69 hk69 l0 l1 l2 l3 l4 (gI g2 b4 l4.toNatClampNeg) l4 b4 g2 k_l0 k6 h
  · have h := ite_f c8 h
    refine SF_iload 5 199 dX12_laysForced_197 rfl rfl ?_
    refine SF_goto 209 dX12_laysForced_199 rfl ?_
    refine SF_sub [0, 1, 2, 3, 4] rfl ?_
    exact w_X12_laysForced_209 hd k60 hk60 k69 hk69 l0 l1 l2 l3 l4 l6 l4 b4 g2 k_l0 k6 h

set_option maxRecDepth 20000 in
set_option maxHeartbeats 2000000 in
theorem w_X12_laysForced_146 {X : CX} {d : Nat} (hd : 2 ≤ d) {g' : G} {rx : Int32} (k60 : Nat → Int32 → Int32 → Int32 → G → Option (Int32 × G)) (hk60 : ∀ (l0 : Nat) (l1 : Int32) (l2 : Int32) (l3 : Int32) (g : G), KD g l0 12 → k60 l0 l1 l2 l3 g = some (rx, g') → SemF X m_X12_laysForced d 60 [(0, .ref (ad X l0)), (1, .int l1), (2, .int l2), (3, .int l3)] [] g (some (.int rx)) g') (k69 : Nat → Int32 → Int32 → Int32 → Int32 → G → Option (Int32 × G)) (hk69 : ∀ (l0 : Nat) (l1 : Int32) (l2 : Int32) (l3 : Int32) (l4 : Int32) (g : G), KD g l0 12 → k69 l0 l1 l2 l3 l4 g = some (rx, g') → SemF X m_X12_laysForced d 69 [(0, .ref (ad X l0)), (1, .int l1), (2, .int l2), (3, .int l3), (4, .int l4)] [] g (some (.int rx)) g') (l0 : Nat) (l1 : Int32) (l2 : Int32) (l4 : Int32) (l5 : Int32) (l6 : Int32) (s0 : Int32) (s1 : Int32) (g : G) (k_l0 : KD g l0 12) (h : f_X12_laysForced_146 k60 k69 l0 l1 l2 l4 l5 l6 s0 s1 g = some (rx, g')) : SemF X m_X12_laysForced d 146 [(0, .ref (ad X l0)), (1, .int l1), (2, .int l2), (4, .int l4), (5, .int l5), (6, .int l6)] [.int s0, .int s1] g (some (.int rx)) g' := by
  rw [f_X12_laysForced_146] at h
  refine SF_ior 147 dX12_laysForced_146 rfl ?_
  obtain ⟨y1, e2, h⟩ := li_some h
  refine SF_eqI e2 ?_
  refine SF_istore_n [(3, .int y1), (0, .ref (ad X l0)), (1, .int l1), (2, .int l2), (4, .int l4), (5, .int l5), (6, .int l6)] 148 dX12_laysForced_147 rfl (by decide) rfl rfl ?_
  refine SF_aload_n 1 149 dX12_laysForced_148 rfl rfl rfl ?_
  obtain ⟨b3, r4, h⟩ := dr_some h
  refine SF_getR 152 fl_X12_48 dX12_laysForced_149 k_l0.1 r4 rfl ?_
  refine SF_iload 4 154 dX12_laysForced_152 rfl rfl ?_
  refine SF_iload 5 156 dX12_laysForced_154 rfl rfl ?_
  refine SF_aload_n 1 157 dX12_laysForced_156 rfl rfl rfl ?_
  refine SF_getR 160 fl_X12_48 dX12_laysForced_157 k_l0.1 r4 rfl ?_
  refine SF_iload 4 162 dX12_laysForced_160 rfl rfl ?_
  obtain ⟨k5, h⟩ := gdK_some h
  obtain ⟨i6, h⟩ := gdI_some h
  refine SF_iald 163 dX12_laysForced_162 k5.1 i6 rfl ?_
  refine SF_icge 171 166 dX12_laysForced_163 rfl rfl (fun c7 => ?_) (fun c7 => ?_)
  · have h := ite_t c7 h
    refine SF_aload_n 1 172 dX12_laysForced_171 rfl rfl rfl ?_
    refine SF_getR 175 fl_X12_48 dX12_laysForced_172 k_l0.1 r4 rfl ?_
    refine SF_iload 4 177 dX12_laysForced_175 rfl rfl ?_
    refine SF_iald 178 dX12_laysForced_177 k5.1 i6 rfl ?_
    refine SF_sub [1, 2, 3, 0, 4, 6] rfl ?_
    exact w_X12_laysForced_178 hd k60 hk60 k69 hk69 l0 l1 l2 y1 l4 l6 (gI g b3 l4.toNatClampNeg) l4 b3 g k_l0 k5 h
  · have h := ite_f c7 h
    refine SF_iload 5 168 dX12_laysForced_166 rfl rfl ?_
    refine SF_goto 178 dX12_laysForced_168 rfl ?_
    refine SF_sub [1, 2, 3, 0, 4, 6] rfl ?_
    exact w_X12_laysForced_178 hd k60 hk60 k69 hk69 l0 l1 l2 y1 l4 l6 l5 l4 b3 g k_l0 k5 h

set_option maxRecDepth 20000 in
set_option maxHeartbeats 2000000 in
theorem w_X12_laysForced_141 {X : CX} {d : Nat} (hd : 2 ≤ d) {g' : G} {rx : Int32} (k60 : Nat → Int32 → Int32 → Int32 → G → Option (Int32 × G)) (hk60 : ∀ (l0 : Nat) (l1 : Int32) (l2 : Int32) (l3 : Int32) (g : G), KD g l0 12 → k60 l0 l1 l2 l3 g = some (rx, g') → SemF X m_X12_laysForced d 60 [(0, .ref (ad X l0)), (1, .int l1), (2, .int l2), (3, .int l3)] [] g (some (.int rx)) g') (k69 : Nat → Int32 → Int32 → Int32 → Int32 → G → Option (Int32 × G)) (hk69 : ∀ (l0 : Nat) (l1 : Int32) (l2 : Int32) (l3 : Int32) (l4 : Int32) (g : G), KD g l0 12 → k69 l0 l1 l2 l3 l4 g = some (rx, g') → SemF X m_X12_laysForced d 69 [(0, .ref (ad X l0)), (1, .int l1), (2, .int l2), (3, .int l3), (4, .int l4)] [] g (some (.int rx)) g') (l0 : Nat) (l1 : Int32) (l2 : Int32) (l4 : Int32) (l5 : Int32) (l6 : Int32) (s0 : Int32) (g : G) (k_l0 : KD g l0 12) (h : f_X12_laysForced_141 k60 k69 l0 l1 l2 l4 l5 l6 s0 g = some (rx, g')) : SemF X m_X12_laysForced d 141 [(0, .ref (ad X l0)), (1, .int l1), (2, .int l2), (4, .int l4), (5, .int l5), (6, .int l6)] [.int s0] g (some (.int rx)) g' := by
  rw [f_X12_laysForced_141] at h
  refine SF_iconst (1 : Int32) 142 dX12_laysForced_141 rfl rfl ?_
  refine SF_goto 146 dX12_laysForced_142 rfl ?_
  exact w_X12_laysForced_146 hd k60 hk60 k69 hk69 l0 l1 l2 l4 l5 l6 (1 : Int32) s0 g k_l0 h

set_option maxRecDepth 20000 in
set_option maxHeartbeats 2000000 in
theorem w_X12_laysForced_69 {X : CX} {d : Nat} (hd : 2 ≤ d) {g' : G} {rx : Int32} (k60 : Nat → Int32 → Int32 → Int32 → G → Option (Int32 × G)) (hk60 : ∀ (l0 : Nat) (l1 : Int32) (l2 : Int32) (l3 : Int32) (g : G), KD g l0 12 → k60 l0 l1 l2 l3 g = some (rx, g') → SemF X m_X12_laysForced d 60 [(0, .ref (ad X l0)), (1, .int l1), (2, .int l2), (3, .int l3)] [] g (some (.int rx)) g') : ∀ (n : Nat) (l0 : Nat) (l1 : Int32) (l2 : Int32) (l3 : Int32) (l4 : Int32) (g : G), KD g l0 12 → f_X12_laysForced_69 k60 n l0 l1 l2 l3 l4 g = some (rx, g') → SemF X m_X12_laysForced d 69 [(0, .ref (ad X l0)), (1, .int l1), (2, .int l2), (3, .int l3), (4, .int l4)] [] g (some (.int rx)) g' := by
  intro n
  induction n with
  | zero =>
    intro l0 l1 l2 l3 l4 g k_l0 h
    rw [f_X12_laysForced_69] at h
    cases h
  | succ n ih =>
  intro l0 l1 l2 l3 l4 g k_l0 h
  rw [f_X12_laysForced_69] at h
  refine SF_iload 4 71 dX12_laysForced_69 rfl rfl ?_
  refine SF_sipush (1296 : Int32) 74 dX12_laysForced_71 rfl rfl ?_
  refine SF_icge 216 77 dX12_laysForced_74 rfl rfl (fun c1 => ?_) (fun c1 => ?_)
  · have h := ite_t c1 h
    refine SF_goto 60 dX12_laysForced_216 rfl ?_
    refine SF_sub [0, 1, 2, 3] rfl ?_
    exact hk60 l0 l1 l2 l3 g k_l0 h
  · have h := ite_f c1 h
    refine SF_aload_n 0 78 dX12_laysForced_77 rfl rfl rfl ?_
    obtain ⟨b2, r3, h⟩ := dr_some h
    refine SF_getR 81 fl_X12_39 dX12_laysForced_78 k_l0.1 r3 rfl ?_
    refine SF_iload 4 83 dX12_laysForced_81 rfl rfl ?_
    obtain ⟨k4, h⟩ := gdK_some h
    obtain ⟨i5, h⟩ := gdI_some h
    refine SF_zald 84 dX12_laysForced_83 k4.1 i5 rfl ?_
    refine SF_ifeq 210 87 dX12_laysForced_84 rfl rfl (fun c6 => ?_) (fun c6 => ?_)
    · have h := ite_t c6 h
      exact w_X12_laysForced_210 hd k60 hk60 (f_X12_laysForced_69 k60 n) ih l0 l1 l2 l3 l4 g k_l0 h
    · have h := ite_f c6 h
      refine SF_iload 4 89 dX12_laysForced_87 rfl rfl ?_
      refine SF_iconst (0 : Int32) 90 dX12_laysForced_89 rfl rfl ?_
      obtain ⟨v7, g8, q9, h⟩ := bd_some h
      have s10 := w_X12_inStand (X := X) (Nat.le_refl 0) l4 (0 : Int32) g g8 v7 q9
      refine SF_callSi 93 mi_X12_inStand ml_X12_347 dX12_laysForced_90 (Nat.le_trans (by decide) hd) s10 rfl rfl (Nat.le_of_ble_eq_true rfl) rfl ?_
      have k_l0 := k_l0.ext s10.1
      have k4 := k4.ext s10.1
      refine SF_iload_n 2 94 dX12_laysForced_93 rfl rfl rfl ?_
      refine SF_icne 100 97 dX12_laysForced_94 rfl rfl (fun c11 => ?_) (fun c11 => ?_)
      · have h := ite_f c11 h
        refine SF_aload_n 0 101 dX12_laysForced_100 rfl rfl rfl ?_
        refine SF_iload 4 103 dX12_laysForced_101 rfl rfl ?_
        obtain ⟨v12, g13, q14, h⟩ := bd_some h
        have s15 := w_X12_forcedOne (X := X) (Nat.le_refl 1) l0 l4 g8 g13 v12 k_l0 q14
        refine SF_callVi 106 mi_X12_forcedOne ml_X12_429 dX12_laysForced_103 (Nat.le_trans (by decide) hd) s15 k_l0.1 rfl rfl (Nat.le_of_ble_eq_true rfl) rfl ?_
        have k_l0 := k_l0.ext s15.1
        have k4 := k4.ext s15.1
        refine SF_istore [(5, .int v12), (0, .ref (ad X l0)), (1, .int l1), (2, .int l2), (3, .int l3), (4, .int l4)] 108 dX12_laysForced_106 (by decide) rfl rfl ?_
        refine SF_aload_n 1 109 dX12_laysForced_108 rfl rfl rfl ?_
        refine SF_iload 5 111 dX12_laysForced_109 rfl rfl ?_
        obtain ⟨v16, g17, q18, h⟩ := bd_some h
        have s19 := w_X12_forcedOther (X := X) (Nat.le_refl 0) l0 l4 g13 g17 v16 k_l0 q18
        refine SF_callVi 114 mi_X12_forcedOther ml_X12_432 dX12_laysForced_111 (Nat.le_trans (by decide) hd) s19 k_l0.1 rfl rfl (Nat.le_of_ble_eq_true rfl) rfl ?_
        have k_l0 := k_l0.ext s19.1
        have k4 := k4.ext s19.1
        refine SF_istore [(6, .int v16), (5, .int v12), (0, .ref (ad X l0)), (1, .int l1), (2, .int l2), (3, .int l3), (4, .int l4)] 116 dX12_laysForced_114 (by decide) rfl rfl ?_
        refine SF_iload_n 5 117 dX12_laysForced_116 rfl rfl rfl ?_
        refine SF_iload 1 119 dX12_laysForced_117 rfl rfl ?_
        refine SF_aload_n 2 120 dX12_laysForced_119 rfl rfl rfl ?_
        obtain ⟨b20, r21, h⟩ := dr_some h
        refine SF_getR 123 fl_X12_48 dX12_laysForced_120 k_l0.1 r21 rfl ?_
        refine SF_iload 6 125 dX12_laysForced_123 rfl rfl ?_
        obtain ⟨k22, h⟩ := gdK_some h
        obtain ⟨i23, h⟩ := gdI_some h
        refine SF_iald 126 dX12_laysForced_125 k22.1 i23 rfl ?_
        refine SF_iclt 141 129 dX12_laysForced_126 rfl rfl (fun c24 => ?_) (fun c24 => ?_)
        · have h := ite_t c24 h
          refine SF_sub [2, 3, 4, 6, 1, 0] rfl ?_
          exact w_X12_laysForced_141 hd k60 hk60 (f_X12_laysForced_69 k60 n) ih l0 l1 l2 l4 v12 v16 l3 g17 k_l0 h
        · have h := ite_f c24 h
          refine SF_iload 0 131 dX12_laysForced_129 rfl rfl ?_
          refine SF_aload_n 2 132 dX12_laysForced_131 rfl rfl rfl ?_
          obtain ⟨b25, r26, h⟩ := dr_some h
          refine SF_getR 135 fl_X12_61 dX12_laysForced_132 k_l0.1 r26 rfl ?_
          refine SF_iload 6 137 dX12_laysForced_135 rfl rfl ?_
          obtain ⟨k27, h⟩ := gdK_some h
          obtain ⟨i28, h⟩ := gdI_some h
          refine SF_iald 138 dX12_laysForced_137 k27.1 i28 rfl ?_
          refine SF_icge 145 141 dX12_laysForced_138 rfl rfl (fun c29 => ?_) (fun c29 => ?_)
          · have h := ite_t c29 h
            refine SF_iconst (0 : Int32) 146 dX12_laysForced_145 rfl rfl ?_
            refine SF_sub [2, 3, 4, 6, 1, 0] rfl ?_
            exact w_X12_laysForced_146 hd k60 hk60 (f_X12_laysForced_69 k60 n) ih l0 l1 l2 l4 v12 v16 (0 : Int32) l3 g17 k_l0 h
          · have h := ite_f c29 h
            refine SF_sub [2, 3, 4, 6, 1, 0] rfl ?_
            exact w_X12_laysForced_141 hd k60 hk60 (f_X12_laysForced_69 k60 n) ih l0 l1 l2 l4 v12 v16 l3 g17 k_l0 h
      · have h := ite_t c11 h
        refine SF_goto 210 dX12_laysForced_97 rfl ?_
        exact w_X12_laysForced_210 hd k60 hk60 (f_X12_laysForced_69 k60 n) ih l0 l1 l2 l3 l4 g8 k_l0 h

set_option maxRecDepth 20000 in
set_option maxHeartbeats 2000000 in
theorem w_X12_laysForced_60 {X : CX} {d : Nat} (hd : 2 ≤ d) {g' : G} {rx : Int32} : ∀ (n : Nat) (l0 : Nat) (l1 : Int32) (l2 : Int32) (l3 : Int32) (g : G), KD g l0 12 → f_X12_laysForced_60 n l0 l1 l2 l3 g = some (rx, g') → SemF X m_X12_laysForced d 60 [(0, .ref (ad X l0)), (1, .int l1), (2, .int l2), (3, .int l3)] [] g (some (.int rx)) g' := by
  intro n
  induction n with
  | zero =>
    intro l0 l1 l2 l3 g k_l0 h
    rw [f_X12_laysForced_60] at h
    cases h
  | succ n ih =>
  intro l0 l1 l2 l3 g k_l0 h
  rw [f_X12_laysForced_60] at h
  refine SF_iload_n 3 61 dX12_laysForced_60 rfl rfl rfl ?_
  refine SF_ifeq 219 64 dX12_laysForced_61 rfl rfl (fun c1 => ?_) (fun c1 => ?_)
  · have h := ite_t c1 h
    refine SF_aload_n 0 220 dX12_laysForced_219 rfl rfl rfl ?_
    obtain ⟨b2, r3, h⟩ := dr_some h
    refine SF_getR 223 fl_X12_48 dX12_laysForced_220 k_l0.1 r3 rfl ?_
    refine SF_aload_n 0 224 dX12_laysForced_223 rfl rfl rfl ?_
    refine SF_iload_n 1 225 dX12_laysForced_224 rfl rfl rfl ?_
    obtain ⟨v4, g5, q6, h⟩ := bd_some h
    have s7 := w_X12_standNow (X := X) (Nat.le_refl 1) l0 l1 g g5 v4 k_l0 q6
    refine SF_callVi 228 mi_X12_standNow ml_X12_370 dX12_laysForced_225 (Nat.le_trans (by decide) hd) s7 k_l0.1 rfl rfl (Nat.le_of_ble_eq_true rfl) rfl ?_
    have k_l0 := k_l0.ext s7.1
    obtain ⟨k8, h⟩ := gdK_some h
    obtain ⟨i9, h⟩ := gdI_some h
    refine SF_iald 229 dX12_laysForced_228 k8.1 i9 rfl ?_
    exact RT_i rfl dX12_laysForced_229 h
  · have h := ite_f c1 h
    refine SF_iconst (0 : Int32) 65 dX12_laysForced_64 rfl rfl ?_
    refine SF_istore_n [(3, .int (0 : Int32)), (0, .ref (ad X l0)), (1, .int l1), (2, .int l2)] 66 dX12_laysForced_65 rfl (by decide) rfl rfl ?_
    refine SF_iconst (0 : Int32) 67 dX12_laysForced_66 rfl rfl ?_
    refine SF_istore [(4, .int (0 : Int32)), (3, .int (0 : Int32)), (0, .ref (ad X l0)), (1, .int l1), (2, .int l2)] 69 dX12_laysForced_67 (by decide) rfl rfl ?_
    refine SF_sub [2, 3, 4, 1, 0] rfl ?_
    exact w_X12_laysForced_69 hd (f_X12_laysForced_60 n) ih FU l0 l1 l2 (0 : Int32) (0 : Int32) g k_l0 h

set_option maxRecDepth 20000 in
set_option maxHeartbeats 2000000 in
theorem w_X12_laysForced_2 {X : CX} {d : Nat} (hd : 2 ≤ d) {g' : G} {rx : Int32} : ∀ (n : Nat) (l0 : Nat) (l1 : Int32) (l2 : Int32) (l3 : Int32) (g : G), KD g l0 12 → f_X12_laysForced_2 n l0 l1 l2 l3 g = some (rx, g') → SemF X m_X12_laysForced d 2 [(0, .ref (ad X l0)), (1, .int l1), (2, .int l2), (3, .int l3)] [] g (some (.int rx)) g' := by
  intro n
  induction n with
  | zero =>
    intro l0 l1 l2 l3 g k_l0 h
    rw [f_X12_laysForced_2] at h
    cases h
  | succ n ih =>
  intro l0 l1 l2 l3 g k_l0 h
  rw [f_X12_laysForced_2] at h
  refine SF_iload_n 3 3 dX12_laysForced_2 rfl rfl rfl ?_
  refine SF_sipush (1296 : Int32) 6 dX12_laysForced_3 rfl rfl ?_
  refine SF_icge 58 9 dX12_laysForced_6 rfl rfl (fun c1 => ?_) (fun c1 => ?_)
  · have h := ite_t c1 h
    refine SF_iconst (1 : Int32) 59 dX12_laysForced_58 rfl rfl ?_
    refine SF_istore_n [(3, .int (1 : Int32)), (0, .ref (ad X l0)), (1, .int l1), (2, .int l2)] 60 dX12_laysForced_59 rfl (by decide) rfl rfl ?_
    refine SF_sub [1, 2, 3, 0] rfl ?_
    exact w_X12_laysForced_60 hd FU l0 l1 l2 (1 : Int32) g k_l0 h
  · have h := ite_f c1 h
    refine SF_aload_n 0 10 dX12_laysForced_9 rfl rfl rfl ?_
    obtain ⟨b2, r3, h⟩ := dr_some h
    refine SF_getR 13 fl_X12_48 dX12_laysForced_10 k_l0.1 r3 rfl ?_
    refine SF_iload_n 3 14 dX12_laysForced_13 rfl rfl rfl ?_
    refine SF_aload_n 0 15 dX12_laysForced_14 rfl rfl rfl ?_
    obtain ⟨b4, r5, h⟩ := dr_some h
    refine SF_getR 18 fl_X12_39 dX12_laysForced_15 k_l0.1 r5 rfl ?_
    refine SF_iload_n 3 19 dX12_laysForced_18 rfl rfl rfl ?_
    obtain ⟨k6, h⟩ := gdK_some h
    obtain ⟨i7, h⟩ := gdI_some h
    refine SF_zald 20 dX12_laysForced_19 k6.1 i7 rfl ?_
    refine SF_ifeq 36 23 dX12_laysForced_20 rfl rfl (fun c8 => ?_) (fun c8 => ?_)
    · have h := ite_t c8 h
      obtain ⟨k9, h⟩ := gdK_some h
      exact w_X12_laysForced_36 hd (f_X12_laysForced_2 n) ih l0 l1 l2 l3 l3 b2 g k_l0 k9 h
    · have h := ite_f c8 h
      refine SF_iload_n 3 24 dX12_laysForced_23 rfl rfl rfl ?_
      refine SF_iconst (0 : Int32) 25 dX12_laysForced_24 rfl rfl ?_
      obtain ⟨v10, g11, q12, h⟩ := bd_some h
      have s13 := w_X12_inStand (X := X) (Nat.le_refl 0) l3 (0 : Int32) g g11 v10 q12
      refine SF_callSi 28 mi_X12_inStand ml_X12_347 dX12_laysForced_25 (Nat.le_trans (by decide) hd) s13 rfl rfl (Nat.le_of_ble_eq_true rfl) rfl ?_
      have k_l0 := k_l0.ext s13.1
      have k6 := k6.ext s13.1
      refine SF_iload_n 2 29 dX12_laysForced_28 rfl rfl rfl ?_
      refine SF_icne 36 32 dX12_laysForced_29 rfl rfl (fun c14 => ?_) (fun c14 => ?_)
      · have h := ite_f c14 h
        obtain ⟨k15, h⟩ := gdK_some h
        exact w_X12_laysForced_36 hd (f_X12_laysForced_2 n) ih l0 l1 l2 l3 l3 b2 g11 k_l0 k15 h
      · have h := ite_t c14 h
        refine SF_iconst (0 : Int32) 33 dX12_laysForced_32 rfl rfl ?_
        refine SF_goto 39 dX12_laysForced_33 rfl ?_
        obtain ⟨k16, h⟩ := gdK_some h
        exact w_X12_laysForced_39 hd (f_X12_laysForced_2 n) ih l0 l1 l2 l3 (0 : Int32) l3 b2 g11 k_l0 k16 h

set_option maxRecDepth 20000 in
set_option maxHeartbeats 2000000 in
theorem w_X12_laysForced {X : CX} {d : Nat} (hd : 2 ≤ d) (l0 : Nat) (l1 : Int32) (l2 : Int32) (g g' : G) (rx : Int32) (k_l0 : KD g l0 12) (h : f_X12_laysForced l0 l1 l2 g = some (rx, g')) : Sem X m_X12_laysForced d [.ref (ad X l0), .int l1, .int l2] g (some (.int rx)) g' := by
  refine Sem_of (lo := [(0, .ref (ad X l0)), (1, .int l1), (2, .int l2)]) (by decide +kernel) rfl (Nat.le_of_ble_eq_true rfl) ?_
  rw [f_X12_laysForced] at h
  refine SF_iconst (0 : Int32) 1 dX12_laysForced_0 rfl rfl ?_
  refine SF_istore_n [(3, .int (0 : Int32)), (0, .ref (ad X l0)), (1, .int l1), (2, .int l2)] 2 dX12_laysForced_1 rfl (by decide) rfl rfl ?_
  refine SF_sub [1, 2, 3, 0] rfl ?_
  exact w_X12_laysForced_2 hd FU l0 l1 l2 (0 : Int32) g k_l0 h

theorem dX12_forces_0 : decode cX12_forces 0 = .ok (.aload_n 0, 1) := by decide +kernel
theorem dX12_forces_1 : decode cX12_forces 1 = .ok (.iconst 0, 1) := by decide +kernel
theorem dX12_forces_2 : decode cX12_forces 2 = .ok (.putfield 1, 3) := by decide +kernel
theorem dX12_forces_5 : decode cX12_forces 5 = .ok (.aload_n 0, 1) := by decide +kernel
theorem dX12_forces_6 : decode cX12_forces 6 = .ok (.iload_n 1, 1) := by decide +kernel
theorem dX12_forces_7 : decode cX12_forces 7 = .ok (.i2l, 1) := by decide +kernel
theorem dX12_forces_8 : decode cX12_forces 8 = .ok (.invokevirtual 255, 3) := by decide +kernel
theorem dX12_forces_11 : decode cX12_forces 11 = .ok (.ifCond .eq 12, 3) := by decide +kernel
theorem dX12_forces_14 : decode cX12_forces 14 = .ok (.aload_n 0, 1) := by decide +kernel
theorem dX12_forces_15 : decode cX12_forces 15 = .ok (.iload_n 2, 1) := by decide +kernel
theorem dX12_forces_16 : decode cX12_forces 16 = .ok (.i2l, 1) := by decide +kernel
theorem dX12_forces_17 : decode cX12_forces 17 = .ok (.invokevirtual 264, 3) := by decide +kernel
theorem dX12_forces_20 : decode cX12_forces 20 = .ok (.ifCond .ne 6, 3) := by decide +kernel
theorem dX12_forces_23 : decode cX12_forces 23 = .ok (.bipush (-2), 2) := by decide +kernel
theorem dX12_forces_25 : decode cX12_forces 25 = .ok (.ireturn, 1) := by decide +kernel
theorem dX12_forces_26 : decode cX12_forces 26 = .ok (.aload_n 0, 1) := by decide +kernel
theorem dX12_forces_27 : decode cX12_forces 27 = .ok (.iload_n 1, 1) := by decide +kernel
theorem dX12_forces_28 : decode cX12_forces 28 = .ok (.invokevirtual 376, 3) := by decide +kernel
theorem dX12_forces_31 : decode cX12_forces 31 = .ok (.aload_n 0, 1) := by decide +kernel
theorem dX12_forces_32 : decode cX12_forces 32 = .ok (.iload_n 1, 1) := by decide +kernel
theorem dX12_forces_33 : decode cX12_forces 33 = .ok (.iload_n 2, 1) := by decide +kernel
theorem dX12_forces_34 : decode cX12_forces 34 = .ok (.invokevirtual 435, 3) := by decide +kernel
theorem dX12_forces_37 : decode cX12_forces 37 = .ok (.iconst 0, 1) := by decide +kernel
theorem dX12_forces_38 : decode cX12_forces 38 = .ok (.invokestatic 383, 3) := by decide +kernel
theorem dX12_forces_41 : decode cX12_forces 41 = .ok (.ireturn, 1) := by decide +kernel
set_option maxRecDepth 20000 in
set_option maxHeartbeats 2000000 in
theorem w_X12_forces {X : CX} {d : Nat} (hd : 7 ≤ d) (l0 : Nat) (l1 : Int32) (l2 : Int32) (g g' : G) (rx : Int32) (k_l0 : KD g l0 12) (h : f_X12_forces l0 l1 l2 g = some (rx, g')) : Sem X m_X12_forces d [.ref (ad X l0), .int l1, .int l2] g (some (.int rx)) g' := by
  refine Sem_of (lo := [(0, .ref (ad X l0)), (1, .int l1), (2, .int l2)]) (by decide +kernel) rfl (Nat.le_of_ble_eq_true rfl) ?_
  rw [f_X12_forces] at h
  refine SF_aload_n 0 1 dX12_forces_0 rfl rfl rfl ?_
  refine SF_iconst (0 : Int32) 2 dX12_forces_1 rfl rfl ?_
  refine SF_putI 5 fl_X12_1 dX12_forces_2 k_l0.1 (fn_int _) (Or.inl rfl) rfl ?_
  obtain ⟨g1, e2, h⟩ := lg_some h
  rw [← e2]
  have k_l0 := KD.eq e2 k_l0
  refine SF_aload_n 0 6 dX12_forces_5 rfl rfl rfl ?_
  refine SF_iload_n 1 7 dX12_forces_6 rfl rfl rfl ?_
  refine SF_i2l 8 dX12_forces_7 rfl ?_
  obtain ⟨v3, g4, q5, h⟩ := bd_some h
  have s6 := w_X12_isPair (X := X) (Nat.le_refl 1) l0 (l1.toInt64) g1 g4 v3 k_l0 q5
  refine SF_callVb 11 mi_X12_isPair ml_X12_255 dX12_forces_8 (Nat.le_trans (by decide) hd) s6 k_l0.1 rfl rfl (Nat.le_of_ble_eq_true rfl) rfl ?_
  have k_l0 := k_l0.ext s6.1
  refine SF_ifeq 23 14 dX12_forces_11 rfl rfl (fun c7 => ?_) (fun c7 => ?_)
  · have h := ite_t c7 h
    refine SF_bipush (-2 : Int32) 25 dX12_forces_23 rfl rfl ?_
    exact RT_i rfl dX12_forces_25 h
  · have h := ite_f c7 h
    refine SF_aload_n 0 15 dX12_forces_14 rfl rfl rfl ?_
    refine SF_iload_n 2 16 dX12_forces_15 rfl rfl rfl ?_
    refine SF_i2l 17 dX12_forces_16 rfl ?_
    obtain ⟨v8, g9, q10, h⟩ := bd_some h
    have s11 := w_X12_isCell (X := X) (Nat.le_refl 1) l0 (l2.toInt64) g4 g9 v8 k_l0 q10
    refine SF_callVb 20 mi_X12_isCell ml_X12_264 dX12_forces_17 (Nat.le_trans (by decide) hd) s11 k_l0.1 rfl rfl (Nat.le_of_ble_eq_true rfl) rfl ?_
    have k_l0 := k_l0.ext s11.1
    refine SF_ifne 26 23 dX12_forces_20 rfl rfl (fun c12 => ?_) (fun c12 => ?_)
    · have h := ite_f c12 h
      refine SF_aload_n 0 27 dX12_forces_26 rfl rfl rfl ?_
      refine SF_iload_n 1 28 dX12_forces_27 rfl rfl rfl ?_
      obtain ⟨v13, g14, q15, h⟩ := bd_some h
      have s16 := w_X12_laysStands (X := X) (Nat.le_refl 6) l0 l1 g9 g14 v13 k_l0 q15
      refine SF_callVv 31 mi_X12_laysStands ml_X12_376 dX12_forces_28 (Nat.le_trans (by decide) hd) s16 k_l0.1 rfl rfl (Nat.le_of_ble_eq_true rfl) rfl ?_
      have k_l0 := k_l0.ext s16.1
      refine SF_aload_n 0 32 dX12_forces_31 rfl rfl rfl ?_
      refine SF_iload_n 1 33 dX12_forces_32 rfl rfl rfl ?_
      refine SF_iload_n 2 34 dX12_forces_33 rfl rfl rfl ?_
      obtain ⟨v17, g18, q19, h⟩ := bd_some h
      have s20 := w_X12_laysForced (X := X) (Nat.le_refl 2) l0 l1 l2 g14 g18 v17 k_l0 q19
      refine SF_callVi 37 mi_X12_laysForced ml_X12_435 dX12_forces_34 (Nat.le_trans (by decide) hd) s20 k_l0.1 rfl rfl (Nat.le_of_ble_eq_true rfl) rfl ?_
      have k_l0 := k_l0.ext s20.1
      refine SF_iconst (0 : Int32) 38 dX12_forces_37 rfl rfl ?_
      obtain ⟨v21, g22, q23, h⟩ := bd_some h
      have s24 := w_X12_toldFar (X := X) (Nat.le_refl 0) v17 (0 : Int32) g18 g22 v21 q23
      refine SF_callSi 41 mi_X12_toldFar ml_X12_383 dX12_forces_38 (Nat.le_trans (by decide) hd) s24 rfl rfl (Nat.le_of_ble_eq_true rfl) rfl ?_
      have k_l0 := k_l0.ext s24.1
      exact RT_i rfl dX12_forces_41 h
    · have h := ite_t c12 h
      refine SF_bipush (-2 : Int32) 25 dX12_forces_23 rfl rfl ?_
      exact RT_i rfl dX12_forces_25 h

theorem dX3_firstBest_0 : decode cX3_firstBest 0 = .ok (.iconst 0, 1) := by decide +kernel
theorem dX3_firstBest_1 : decode cX3_firstBest 1 = .ok (.istore_n 2, 1) := by decide +kernel
theorem dX3_firstBest_2 : decode cX3_firstBest 2 = .ok (.iload_n 2, 1) := by decide +kernel
theorem dX3_firstBest_3 : decode cX3_firstBest 3 = .ok (.iconst 4, 1) := by decide +kernel
theorem dX3_firstBest_4 : decode cX3_firstBest 4 = .ok (.if_icmp .ge 56, 3) := by decide +kernel
theorem dX3_firstBest_7 : decode cX3_firstBest 7 = .ok (.aload_n 0, 1) := by decide +kernel
theorem dX3_firstBest_8 : decode cX3_firstBest 8 = .ok (.getfield 27, 3) := by decide +kernel
theorem dX3_firstBest_11 : decode cX3_firstBest 11 = .ok (.iconst 0, 1) := by decide +kernel
theorem dX3_firstBest_12 : decode cX3_firstBest 12 = .ok (.iaload, 1) := by decide +kernel
theorem dX3_firstBest_13 : decode cX3_firstBest 13 = .ok (.ifCond .le 47, 3) := by decide +kernel
theorem dX3_firstBest_16 : decode cX3_firstBest 16 = .ok (.aload_n 1, 1) := by decide +kernel
theorem dX3_firstBest_17 : decode cX3_firstBest 17 = .ok (.iconst 0, 1) := by decide +kernel
theorem dX3_firstBest_18 : decode cX3_firstBest 18 = .ok (.iload_n 2, 1) := by decide +kernel
theorem dX3_firstBest_19 : decode cX3_firstBest 19 = .ok (.invokevirtual 52, 3) := by decide +kernel
theorem dX3_firstBest_22 : decode cX3_firstBest 22 = .ok (.istore_n 3, 1) := by decide +kernel
theorem dX3_firstBest_23 : decode cX3_firstBest 23 = .ok (.aload_n 1, 1) := by decide +kernel
theorem dX3_firstBest_24 : decode cX3_firstBest 24 = .ok (.iload_n 3, 1) := by decide +kernel
theorem dX3_firstBest_25 : decode cX3_firstBest 25 = .ok (.invokevirtual 56, 3) := by decide +kernel
theorem dX3_firstBest_28 : decode cX3_firstBest 28 = .ok (.ifCond .eq 26, 3) := by decide +kernel
theorem dX3_firstBest_31 : decode cX3_firstBest 31 = .ok (.aload_n 0, 1) := by decide +kernel
theorem dX3_firstBest_32 : decode cX3_firstBest 32 = .ok (.getfield 27, 3) := by decide +kernel
theorem dX3_firstBest_35 : decode cX3_firstBest 35 = .ok (.iconst 2, 1) := by decide +kernel
theorem dX3_firstBest_36 : decode cX3_firstBest 36 = .ok (.iload_n 3, 1) := by decide +kernel
theorem dX3_firstBest_37 : decode cX3_firstBest 37 = .ok (.imul, 1) := by decide +kernel
theorem dX3_firstBest_38 : decode cX3_firstBest 38 = .ok (.iconst 1, 1) := by decide +kernel
theorem dX3_firstBest_39 : decode cX3_firstBest 39 = .ok (.iadd, 1) := by decide +kernel
theorem dX3_firstBest_40 : decode cX3_firstBest 40 = .ok (.iaload, 1) := by decide +kernel
theorem dX3_firstBest_41 : decode cX3_firstBest 41 = .ok (.aload_n 0, 1) := by decide +kernel
theorem dX3_firstBest_42 : decode cX3_firstBest 42 = .ok (.getfield 27, 3) := by decide +kernel
theorem dX3_firstBest_45 : decode cX3_firstBest 45 = .ok (.iconst 0, 1) := by decide +kernel
theorem dX3_firstBest_46 : decode cX3_firstBest 46 = .ok (.iaload, 1) := by decide +kernel
theorem dX3_firstBest_47 : decode cX3_firstBest 47 = .ok (.iconst 1, 1) := by decide +kernel
theorem dX3_firstBest_48 : decode cX3_firstBest 48 = .ok (.isub, 1) := by decide +kernel
theorem dX3_firstBest_49 : decode cX3_firstBest 49 = .ok (.if_icmp .ne 5, 3) := by decide +kernel
theorem dX3_firstBest_52 : decode cX3_firstBest 52 = .ok (.iload_n 2, 1) := by decide +kernel
theorem dX3_firstBest_53 : decode cX3_firstBest 53 = .ok (.ireturn, 1) := by decide +kernel
theorem dX3_firstBest_54 : decode cX3_firstBest 54 = .ok (.iinc 2 1, 3) := by decide +kernel
theorem dX3_firstBest_57 : decode cX3_firstBest 57 = .ok (.goto (-55), 3) := by decide +kernel
theorem dX3_firstBest_60 : decode cX3_firstBest 60 = .ok (.iconst (-1), 1) := by decide +kernel
theorem dX3_firstBest_61 : decode cX3_firstBest 61 = .ok (.ireturn, 1) := by decide +kernel
set_option maxRecDepth 20000 in
set_option maxHeartbeats 2000000 in
theorem w_X3_firstBest_54 {X : CX} {d : Nat} (hd : 2 ≤ d) {g' : G} {rx : Int32} (k2 : Nat → Nat → Int32 → G → Option (Int32 × G)) (hk2 : ∀ (l0 : Nat) (l1 : Nat) (l2 : Int32) (g : G), KD g l0 3 → KD g l1 4 → k2 l0 l1 l2 g = some (rx, g') → SemF X m_X3_firstBest d 2 [(0, .ref (ad X l0)), (1, .ref (ad X l1)), (2, .int l2)] [] g (some (.int rx)) g') (l0 : Nat) (l1 : Nat) (l2 : Int32) (g : G) (k_l0 : KD g l0 3) (k_l1 : KD g l1 4) (h : f_X3_firstBest_54 k2 l0 l1 l2 g = some (rx, g')) : SemF X m_X3_firstBest d 54 [(0, .ref (ad X l0)), (1, .ref (ad X l1)), (2, .int l2)] [] g (some (.int rx)) g' := by
  rw [f_X3_firstBest_54] at h
  refine SF_iinc 2 (l2 + (1 : Int32)) [(2, .int (l2 + (1 : Int32))), (0, .ref (ad X l0)), (1, .ref (ad X l1))] 57 dX3_firstBest_54 rfl rfl (by decide) rfl rfl ?_
  refine SF_goto 2 dX3_firstBest_57 rfl ?_
  refine SF_sub [1, 2, 0] rfl ?_
  exact hk2 l0 l1 (l2 + (1 : Int32)) g k_l0 k_l1 h

set_option maxRecDepth 20000 in
set_option maxHeartbeats 2000000 in
theorem w_X3_firstBest_2 {X : CX} {d : Nat} (hd : 2 ≤ d) {g' : G} {rx : Int32} : ∀ (n : Nat) (l0 : Nat) (l1 : Nat) (l2 : Int32) (g : G), KD g l0 3 → KD g l1 4 → f_X3_firstBest_2 n l0 l1 l2 g = some (rx, g') → SemF X m_X3_firstBest d 2 [(0, .ref (ad X l0)), (1, .ref (ad X l1)), (2, .int l2)] [] g (some (.int rx)) g' := by
  intro n
  induction n with
  | zero =>
    intro l0 l1 l2 g k_l0 k_l1 h
    rw [f_X3_firstBest_2] at h
    cases h
  | succ n ih =>
  intro l0 l1 l2 g k_l0 k_l1 h
  rw [f_X3_firstBest_2] at h
  refine SF_iload_n 2 3 dX3_firstBest_2 rfl rfl rfl ?_
  refine SF_iconst (4 : Int32) 4 dX3_firstBest_3 rfl rfl ?_
  refine SF_icge 60 7 dX3_firstBest_4 rfl rfl (fun c1 => ?_) (fun c1 => ?_)
  · have h := ite_t c1 h
    refine SF_iconst (-1 : Int32) 61 dX3_firstBest_60 rfl rfl ?_
    exact RT_i rfl dX3_firstBest_61 h
  · have h := ite_f c1 h
    refine SF_aload_n 0 8 dX3_firstBest_7 rfl rfl rfl ?_
    obtain ⟨b2, r3, h⟩ := dr_some h
    refine SF_getR 11 fl_X3_27 dX3_firstBest_8 k_l0.1 r3 rfl ?_
    refine SF_iconst (0 : Int32) 12 dX3_firstBest_11 rfl rfl ?_
    obtain ⟨k4, h⟩ := gdK_some h
    obtain ⟨i5, h⟩ := gdI_some h
    refine SF_iald 13 dX3_firstBest_12 k4.1 i5 rfl ?_
    refine SF_ifle 60 16 dX3_firstBest_13 rfl rfl (fun c6 => ?_) (fun c6 => ?_)
    · have h := ite_t c6 h
      refine SF_iconst (-1 : Int32) 61 dX3_firstBest_60 rfl rfl ?_
      exact RT_i rfl dX3_firstBest_61 h
    · have h := ite_f c6 h
      refine SF_aload_n 1 17 dX3_firstBest_16 rfl rfl rfl ?_
      refine SF_iconst (0 : Int32) 18 dX3_firstBest_17 rfl rfl ?_
      refine SF_iload_n 2 19 dX3_firstBest_18 rfl rfl rfl ?_
      obtain ⟨v7, g8, q9, h⟩ := bd_some h
      have s10 := w_X4_nextOf (X := X) (Nat.le_refl 1) l1 (0 : Int32) l2 g g8 v7 k_l1 q9
      refine SF_callVi 22 mi_X4_nextOf ml_X3_52 dX3_firstBest_19 (Nat.le_trans (by decide) hd) s10 k_l1.1 rfl rfl (Nat.le_of_ble_eq_true rfl) rfl ?_
      have k_l0 := k_l0.ext s10.1
      have k_l1 := k_l1.ext s10.1
      have k4 := k4.ext s10.1
      refine SF_istore_n [(3, .int v7), (0, .ref (ad X l0)), (1, .ref (ad X l1)), (2, .int l2)] 23 dX3_firstBest_22 rfl (by decide) rfl rfl ?_
      refine SF_aload_n 2 24 dX3_firstBest_23 rfl rfl rfl ?_
      refine SF_iload_n 0 25 dX3_firstBest_24 rfl rfl rfl ?_
      obtain ⟨v11, g12, q13, h⟩ := bd_some h
      have s14 := w_X4_has (X := X) (Nat.le_refl 0) l1 v7 g8 g12 v11 k_l1 q13
      refine SF_callVb 28 mi_X4_has ml_X3_56 dX3_firstBest_25 (Nat.le_trans (by decide) hd) s14 k_l1.1 rfl rfl (Nat.le_of_ble_eq_true rfl) rfl ?_
      have k_l0 := k_l0.ext s14.1
      have k_l1 := k_l1.ext s14.1
      have k4 := k4.ext s14.1
      refine SF_ifeq 54 31 dX3_firstBest_28 rfl rfl (fun c15 => ?_) (fun c15 => ?_)
      · have h := ite_t c15 h
        refine SF_sub [1, 2, 3] rfl ?_
        exact w_X3_firstBest_54 hd (f_X3_firstBest_2 n) ih l0 l1 l2 g12 k_l0 k_l1 h
      · have h := ite_f c15 h
        refine SF_aload_n 1 32 dX3_firstBest_31 rfl rfl rfl ?_
        obtain ⟨b16, r17, h⟩ := dr_some h
        refine SF_getR 35 fl_X3_27 dX3_firstBest_32 k_l0.1 r17 rfl ?_
        refine SF_iconst (2 : Int32) 36 dX3_firstBest_35 rfl rfl ?_
        refine SF_iload_n 0 37 dX3_firstBest_36 rfl rfl rfl ?_
        refine SF_imul 38 dX3_firstBest_37 rfl ?_
        refine SF_iconst (1 : Int32) 39 dX3_firstBest_38 rfl rfl ?_
        refine SF_iadd 40 dX3_firstBest_39 rfl ?_
        obtain ⟨k18, h⟩ := gdK_some h
        obtain ⟨i19, h⟩ := gdI_some h
        refine SF_iald 41 dX3_firstBest_40 k18.1 i19 rfl ?_
        refine SF_aload_n 1 42 dX3_firstBest_41 rfl rfl rfl ?_
        refine SF_getR 45 fl_X3_27 dX3_firstBest_42 k_l0.1 r17 rfl ?_
        refine SF_iconst (0 : Int32) 46 dX3_firstBest_45 rfl rfl ?_
        obtain ⟨i20, h⟩ := gdI_some h
        refine SF_iald 47 dX3_firstBest_46 k18.1 i20 rfl ?_
        refine SF_iconst (1 : Int32) 48 dX3_firstBest_47 rfl rfl ?_
        refine SF_isub 49 dX3_firstBest_48 rfl ?_
        refine SF_icne 54 52 dX3_firstBest_49 rfl rfl (fun c21 => ?_) (fun c21 => ?_)
        · have h := ite_f c21 h
          refine SF_sub [1, 2, 3] rfl ?_
          exact w_X3_firstBest_54 hd (f_X3_firstBest_2 n) ih l0 l1 l2 g12 k_l0 k_l1 h
        · have h := ite_t c21 h
          refine SF_iload_n 3 53 dX3_firstBest_52 rfl rfl rfl ?_
          exact RT_i rfl dX3_firstBest_53 h

set_option maxRecDepth 20000 in
set_option maxHeartbeats 2000000 in
theorem w_X3_firstBest {X : CX} {d : Nat} (hd : 2 ≤ d) (l0 : Nat) (l1 : Nat) (g g' : G) (rx : Int32) (k_l0 : KD g l0 3) (k_l1 : KD g l1 4) (h : f_X3_firstBest l0 l1 g = some (rx, g')) : Sem X m_X3_firstBest d [.ref (ad X l0), .ref (ad X l1)] g (some (.int rx)) g' := by
  refine Sem_of (lo := [(0, .ref (ad X l0)), (1, .ref (ad X l1))]) (by decide +kernel) rfl (Nat.le_of_ble_eq_true rfl) ?_
  rw [f_X3_firstBest] at h
  refine SF_iconst (0 : Int32) 1 dX3_firstBest_0 rfl rfl ?_
  refine SF_istore_n [(2, .int (0 : Int32)), (0, .ref (ad X l0)), (1, .ref (ad X l1))] 2 dX3_firstBest_1 rfl (by decide) rfl rfl ?_
  refine SF_sub [1, 2, 0] rfl ?_
  exact w_X3_firstBest_2 hd FU l0 l1 (0 : Int32) g k_l0 k_l1 h

theorem dX11_best_0 : decode cX11_best 0 = .ok (.aload_n 0, 1) := by decide +kernel
theorem dX11_best_1 : decode cX11_best 1 = .ok (.getfield 78, 3) := by decide +kernel
theorem dX11_best_4 : decode cX11_best 4 = .ok (.iload_n 1, 1) := by decide +kernel
theorem dX11_best_5 : decode cX11_best 5 = .ok (.invokevirtual 161, 3) := by decide +kernel
theorem dX11_best_8 : decode cX11_best 8 = .ok (.ifCond .eq 17, 3) := by decide +kernel
theorem dX11_best_11 : decode cX11_best 11 = .ok (.aload_n 0, 1) := by decide +kernel
theorem dX11_best_12 : decode cX11_best 12 = .ok (.getfield 78, 3) := by decide +kernel
theorem dX11_best_15 : decode cX11_best 15 = .ok (.getfield 136, 3) := by decide +kernel
theorem dX11_best_18 : decode cX11_best 18 = .ok (.iload_n 2, 1) := by decide +kernel
theorem dX11_best_19 : decode cX11_best 19 = .ok (.invokevirtual 143, 3) := by decide +kernel
theorem dX11_best_22 : decode cX11_best 22 = .ok (.ifCond .ne 6, 3) := by decide +kernel
theorem dX11_best_25 : decode cX11_best 25 = .ok (.bipush (-2), 2) := by decide +kernel
theorem dX11_best_27 : decode cX11_best 27 = .ok (.ireturn, 1) := by decide +kernel
theorem dX11_best_28 : decode cX11_best 28 = .ok (.aload_n 0, 1) := by decide +kernel
theorem dX11_best_29 : decode cX11_best 29 = .ok (.iload_n 1, 1) := by decide +kernel
theorem dX11_best_30 : decode cX11_best 30 = .ok (.invokevirtual 259, 3) := by decide +kernel
theorem dX11_best_33 : decode cX11_best 33 = .ok (.astore_n 3, 1) := by decide +kernel
theorem dX11_best_34 : decode cX11_best 34 = .ok (.aload_n 0, 1) := by decide +kernel
theorem dX11_best_35 : decode cX11_best 35 = .ok (.getfield 47, 3) := by decide +kernel
theorem dX11_best_38 : decode cX11_best 38 = .ok (.aload_n 3, 1) := by decide +kernel
theorem dX11_best_39 : decode cX11_best 39 = .ok (.iload_n 2, 1) := by decide +kernel
theorem dX11_best_40 : decode cX11_best 40 = .ok (.invokevirtual 353, 3) := by decide +kernel
theorem dX11_best_43 : decode cX11_best 43 = .ok (.aload_n 0, 1) := by decide +kernel
theorem dX11_best_44 : decode cX11_best 44 = .ok (.getfield 47, 3) := by decide +kernel
theorem dX11_best_47 : decode cX11_best 47 = .ok (.aload_n 3, 1) := by decide +kernel
theorem dX11_best_48 : decode cX11_best 48 = .ok (.invokevirtual 360, 3) := by decide +kernel
theorem dX11_best_51 : decode cX11_best 51 = .ok (.ireturn, 1) := by decide +kernel
set_option maxRecDepth 20000 in
set_option maxHeartbeats 2000000 in
theorem w_X11_best {X : CX} {d : Nat} (hd : 7 ≤ d) (l0 : Nat) (l1 : Int32) (l2 : Int32) (g g' : G) (rx : Int32) (k_l0 : KD g l0 11) (h : f_X11_best l0 l1 l2 g = some (rx, g')) : Sem X m_X11_best d [.ref (ad X l0), .int l1, .int l2] g (some (.int rx)) g' := by
  refine Sem_of (lo := [(0, .ref (ad X l0)), (1, .int l1), (2, .int l2)]) (by decide +kernel) rfl (Nat.le_of_ble_eq_true rfl) ?_
  rw [f_X11_best] at h
  refine SF_aload_n 0 1 dX11_best_0 rfl rfl rfl ?_
  obtain ⟨b1, r2, h⟩ := dr_some h
  refine SF_getR 4 fl_X11_78 dX11_best_1 k_l0.1 r2 rfl ?_
  refine SF_iload_n 1 5 dX11_best_4 rfl rfl rfl ?_
  obtain ⟨k3, h⟩ := gdK_some h
  obtain ⟨v4, g5, q6, h⟩ := bd_some h
  have s7 := w_X0_isPair (X := X) (Nat.le_refl 0) b1 l1 g g5 v4 k3 q6
  refine SF_callVb 8 mi_X0_isPair ml_X11_161 dX11_best_5 (Nat.le_trans (by decide) hd) s7 k3.1 rfl rfl (Nat.le_of_ble_eq_true rfl) rfl ?_
  have k_l0 := k_l0.ext s7.1
  have k3 := k3.ext s7.1
  refine SF_ifeq 25 11 dX11_best_8 rfl rfl (fun c8 => ?_) (fun c8 => ?_)
  · have h := ite_t c8 h
    refine SF_bipush (-2 : Int32) 27 dX11_best_25 rfl rfl ?_
    exact RT_i rfl dX11_best_27 h
  · have h := ite_f c8 h
    refine SF_aload_n 0 12 dX11_best_11 rfl rfl rfl ?_
    obtain ⟨b9, r10, h⟩ := dr_some h
    refine SF_getR 15 fl_X11_78 dX11_best_12 k_l0.1 r10 rfl ?_
    obtain ⟨k11, h⟩ := gdK_some h
    obtain ⟨b12, r13, h⟩ := dr_some h
    refine SF_getR 18 fl_X11_136 dX11_best_15 k11.1 r13 rfl ?_
    refine SF_iload_n 2 19 dX11_best_18 rfl rfl rfl ?_
    obtain ⟨k14, h⟩ := gdK_some h
    obtain ⟨v15, g16, q17, h⟩ := bd_some h
    have s18 := w_X7_isCell (X := X) (Nat.le_refl 0) b12 l2 g5 g16 v15 k14 q17
    refine SF_callVb 22 mi_X7_isCell ml_X11_143 dX11_best_19 (Nat.le_trans (by decide) hd) s18 k14.1 rfl rfl (Nat.le_of_ble_eq_true rfl) rfl ?_
    have k_l0 := k_l0.ext s18.1
    have k3 := k3.ext s18.1
    have k11 := k11.ext s18.1
    have k14 := k14.ext s18.1
    refine SF_ifne 28 25 dX11_best_22 rfl rfl (fun c19 => ?_) (fun c19 => ?_)
    · have h := ite_f c19 h
      refine SF_aload_n 0 29 dX11_best_28 rfl rfl rfl ?_
      refine SF_iload_n 1 30 dX11_best_29 rfl rfl rfl ?_
      obtain ⟨v20, g21, q22, h⟩ := bd_some h
      have s23 := w_X11_graphOf (X := X) (Nat.le_refl 6) l0 l1 g16 g21 v20 k_l0 q22
      refine SF_callVr 33 mi_X11_graphOf ml_X11_259 dX11_best_30 (Nat.le_trans (by decide) hd) s23 k_l0.1 rfl rfl (Nat.le_of_ble_eq_true rfl) rfl ?_
      have k_l0 := k_l0.ext s23.1
      have k3 := k3.ext s23.1
      have k11 := k11.ext s23.1
      have k14 := k14.ext s23.1
      refine SF_astore_n [(3, .ref (ad X v20)), (0, .ref (ad X l0)), (1, .int l1), (2, .int l2)] 34 dX11_best_33 rfl (by decide) rfl rfl ?_
      refine SF_aload_n 1 35 dX11_best_34 rfl rfl rfl ?_
      obtain ⟨b24, r25, h⟩ := dr_some h
      refine SF_getR 38 fl_X11_47 dX11_best_35 k_l0.1 r25 rfl ?_
      refine SF_aload_n 0 39 dX11_best_38 rfl rfl rfl ?_
      refine SF_iload_n 3 40 dX11_best_39 rfl rfl rfl ?_
      obtain ⟨k26, h⟩ := gdK_some h
      obtain ⟨k27, h⟩ := gdK_some h
      obtain ⟨v28, g29, q30, h⟩ := bd_some h
      have s31 := w_X3_play (X := X) (Nat.le_refl 3) b24 v20 l2 g21 g29 v28 k26 k27 q30
      refine SF_callVv 43 mi_X3_play ml_X11_353 dX11_best_40 (Nat.le_trans (by decide) hd) s31 k26.1 rfl rfl (Nat.le_of_ble_eq_true rfl) rfl ?_
      have k_l0 := k_l0.ext s31.1
      have k3 := k3.ext s31.1
      have k11 := k11.ext s31.1
      have k14 := k14.ext s31.1
      have k26 := k26.ext s31.1
      have k27 := k27.ext s31.1
      refine SF_aload_n 1 44 dX11_best_43 rfl rfl rfl ?_
      obtain ⟨b32, r33, h⟩ := dr_some h
      refine SF_getR 47 fl_X11_47 dX11_best_44 k_l0.1 r33 rfl ?_
      refine SF_aload_n 0 48 dX11_best_47 rfl rfl rfl ?_
      obtain ⟨k34, h⟩ := gdK_some h
      obtain ⟨v35, g36, q37, h⟩ := bd_some h
      have s38 := w_X3_firstBest (X := X) (Nat.le_refl 2) b32 v20 g29 g36 v35 k34 k27 q37
      refine SF_callVi 51 mi_X3_firstBest ml_X11_360 dX11_best_48 (Nat.le_trans (by decide) hd) s38 k34.1 rfl rfl (Nat.le_of_ble_eq_true rfl) rfl ?_
      have k_l0 := k_l0.ext s38.1
      have k3 := k3.ext s38.1
      have k11 := k11.ext s38.1
      have k14 := k14.ext s38.1
      have k26 := k26.ext s38.1
      have k27 := k27.ext s38.1
      have k34 := k34.ext s38.1
      exact RT_i rfl dX11_best_51 h
    · have h := ite_t c19 h
      refine SF_bipush (-2 : Int32) 27 dX11_best_25 rfl rfl ?_
      exact RT_i rfl dX11_best_27 h

theorem dX12_best_0 : decode cX12_best 0 = .ok (.aload_n 0, 1) := by decide +kernel
theorem dX12_best_1 : decode cX12_best 1 = .ok (.iconst 0, 1) := by decide +kernel
theorem dX12_best_2 : decode cX12_best 2 = .ok (.putfield 1, 3) := by decide +kernel
theorem dX12_best_5 : decode cX12_best 5 = .ok (.aload_n 0, 1) := by decide +kernel
theorem dX12_best_6 : decode cX12_best 6 = .ok (.iload_n 1, 1) := by decide +kernel
theorem dX12_best_7 : decode cX12_best 7 = .ok (.i2l, 1) := by decide +kernel
theorem dX12_best_8 : decode cX12_best 8 = .ok (.invokevirtual 255, 3) := by decide +kernel
theorem dX12_best_11 : decode cX12_best 11 = .ok (.ifCond .eq 12, 3) := by decide +kernel
theorem dX12_best_14 : decode cX12_best 14 = .ok (.aload_n 0, 1) := by decide +kernel
theorem dX12_best_15 : decode cX12_best 15 = .ok (.iload_n 2, 1) := by decide +kernel
theorem dX12_best_16 : decode cX12_best 16 = .ok (.i2l, 1) := by decide +kernel
theorem dX12_best_17 : decode cX12_best 17 = .ok (.invokevirtual 264, 3) := by decide +kernel
theorem dX12_best_20 : decode cX12_best 20 = .ok (.ifCond .ne 6, 3) := by decide +kernel
theorem dX12_best_23 : decode cX12_best 23 = .ok (.bipush (-2), 2) := by decide +kernel
theorem dX12_best_25 : decode cX12_best 25 = .ok (.ireturn, 1) := by decide +kernel
theorem dX12_best_26 : decode cX12_best 26 = .ok (.aload_n 0, 1) := by decide +kernel
theorem dX12_best_27 : decode cX12_best 27 = .ok (.iload_n 1, 1) := by decide +kernel
theorem dX12_best_28 : decode cX12_best 28 = .ok (.invokevirtual 376, 3) := by decide +kernel
theorem dX12_best_31 : decode cX12_best 31 = .ok (.aload_n 0, 1) := by decide +kernel
theorem dX12_best_32 : decode cX12_best 32 = .ok (.iload_n 1, 1) := by decide +kernel
theorem dX12_best_33 : decode cX12_best 33 = .ok (.iload_n 2, 1) := by decide +kernel
theorem dX12_best_34 : decode cX12_best 34 = .ok (.invokevirtual 435, 3) := by decide +kernel
theorem dX12_best_37 : decode cX12_best 37 = .ok (.istore_n 3, 1) := by decide +kernel
theorem dX12_best_38 : decode cX12_best 38 = .ok (.iload_n 3, 1) := by decide +kernel
theorem dX12_best_39 : decode cX12_best 39 = .ok (.ldc_w 354, 3) := by decide +kernel
theorem dX12_best_42 : decode cX12_best 42 = .ok (.if_icmp .eq 7, 3) := by decide +kernel
theorem dX12_best_45 : decode cX12_best 45 = .ok (.iload_n 3, 1) := by decide +kernel
theorem dX12_best_46 : decode cX12_best 46 = .ok (.ifCond .ne 5, 3) := by decide +kernel
theorem dX12_best_49 : decode cX12_best 49 = .ok (.iconst (-1), 1) := by decide +kernel
theorem dX12_best_50 : decode cX12_best 50 = .ok (.ireturn, 1) := by decide +kernel
theorem dX12_best_51 : decode cX12_best 51 = .ok (.iconst 0, 1) := by decide +kernel
theorem dX12_best_52 : decode cX12_best 52 = .ok (.istore 4, 2) := by decide +kernel
theorem dX12_best_54 : decode cX12_best 54 = .ok (.iload 4, 2) := by decide +kernel
theorem dX12_best_56 : decode cX12_best 56 = .ok (.iconst 4, 1) := by decide +kernel
theorem dX12_best_57 : decode cX12_best 57 = .ok (.if_icmp .ge 29, 3) := by decide +kernel
theorem dX12_best_60 : decode cX12_best 60 = .ok (.aload_n 0, 1) := by decide +kernel
theorem dX12_best_61 : decode cX12_best 61 = .ok (.aload_n 0, 1) := by decide +kernel
theorem dX12_best_62 : decode cX12_best 62 = .ok (.iload_n 1, 1) := by decide +kernel
theorem dX12_best_63 : decode cX12_best 63 = .ok (.invokevirtual 370, 3) := by decide +kernel
theorem dX12_best_66 : decode cX12_best 66 = .ok (.iload 4, 2) := by decide +kernel
theorem dX12_best_68 : decode cX12_best 68 = .ok (.invokevirtual 426, 3) := by decide +kernel
theorem dX12_best_71 : decode cX12_best 71 = .ok (.iload_n 3, 1) := by decide +kernel
theorem dX12_best_72 : decode cX12_best 72 = .ok (.iconst 1, 1) := by decide +kernel
theorem dX12_best_73 : decode cX12_best 73 = .ok (.isub, 1) := by decide +kernel
theorem dX12_best_74 : decode cX12_best 74 = .ok (.if_icmp .ne 6, 3) := by decide +kernel
theorem dX12_best_77 : decode cX12_best 77 = .ok (.iload 4, 2) := by decide +kernel
theorem dX12_best_79 : decode cX12_best 79 = .ok (.ireturn, 1) := by decide +kernel
theorem dX12_best_80 : decode cX12_best 80 = .ok (.iinc 4 1, 3) := by decide +kernel
theorem dX12_best_83 : decode cX12_best 83 = .ok (.goto (-29), 3) := by decide +kernel
theorem dX12_best_86 : decode cX12_best 86 = .ok (.iconst (-1), 1) := by decide +kernel
theorem dX12_best_87 : decode cX12_best 87 = .ok (.ireturn, 1) := by decide +kernel
set_option maxRecDepth 20000 in
set_option maxHeartbeats 2000000 in
theorem w_X12_best_54 {X : CX} {d : Nat} (hd : 7 ≤ d) {g' : G} {rx : Int32} : ∀ (n : Nat) (l0 : Nat) (l1 : Int32) (l3 : Int32) (l4 : Int32) (g : G), KD g l0 12 → f_X12_best_54 n l0 l1 l3 l4 g = some (rx, g') → SemF X m_X12_best d 54 [(0, .ref (ad X l0)), (1, .int l1), (3, .int l3), (4, .int l4)] [] g (some (.int rx)) g' := by
  intro n
  induction n with
  | zero =>
    intro l0 l1 l3 l4 g k_l0 h
    rw [f_X12_best_54] at h
    cases h
  | succ n ih =>
  intro l0 l1 l3 l4 g k_l0 h
  rw [f_X12_best_54] at h
  refine SF_iload 3 56 dX12_best_54 rfl rfl ?_
  refine SF_iconst (4 : Int32) 57 dX12_best_56 rfl rfl ?_
  refine SF_icge 86 60 dX12_best_57 rfl rfl (fun c1 => ?_) (fun c1 => ?_)
  · have h := ite_t c1 h
    refine SF_iconst (-1 : Int32) 87 dX12_best_86 rfl rfl ?_
    exact RT_i rfl dX12_best_87 h
  · have h := ite_f c1 h
    refine SF_aload_n 0 61 dX12_best_60 rfl rfl rfl ?_
    refine SF_aload_n 0 62 dX12_best_61 rfl rfl rfl ?_
    refine SF_iload_n 1 63 dX12_best_62 rfl rfl rfl ?_
    obtain ⟨v2, g3, q4, h⟩ := bd_some h
    have s5 := w_X12_standNow (X := X) (Nat.le_refl 1) l0 l1 g g3 v2 k_l0 q4
    refine SF_callVi 66 mi_X12_standNow ml_X12_370 dX12_best_63 (Nat.le_trans (by decide) hd) s5 k_l0.1 rfl rfl (Nat.le_of_ble_eq_true rfl) rfl ?_
    have k_l0 := k_l0.ext s5.1
    refine SF_iload 3 68 dX12_best_66 rfl rfl ?_
    obtain ⟨v6, g7, q8, h⟩ := bd_some h
    have s9 := w_X12_forcedBy (X := X) (Nat.le_refl 0) l0 v2 l4 g3 g7 v6 k_l0 q8
    refine SF_callVi 71 mi_X12_forcedBy ml_X12_426 dX12_best_68 (Nat.le_trans (by decide) hd) s9 k_l0.1 rfl rfl (Nat.le_of_ble_eq_true rfl) rfl ?_
    have k_l0 := k_l0.ext s9.1
    refine SF_iload_n 2 72 dX12_best_71 rfl rfl rfl ?_
    refine SF_iconst (1 : Int32) 73 dX12_best_72 rfl rfl ?_
    refine SF_isub 74 dX12_best_73 rfl ?_
    refine SF_icne 80 77 dX12_best_74 rfl rfl (fun c10 => ?_) (fun c10 => ?_)
    · have h := ite_f c10 h
      refine SF_iinc 3 (l4 + (1 : Int32)) [(4, .int (l4 + (1 : Int32))), (0, .ref (ad X l0)), (1, .int l1), (3, .int l3)] 83 dX12_best_80 rfl rfl (by decide) rfl rfl ?_
      refine SF_goto 54 dX12_best_83 rfl ?_
      refine SF_sub [1, 2, 3, 0] rfl ?_
      exact ih l0 l1 l3 (l4 + (1 : Int32)) g7 k_l0 h
    · have h := ite_t c10 h
      refine SF_iload 3 79 dX12_best_77 rfl rfl ?_
      exact RT_i rfl dX12_best_79 h

set_option maxRecDepth 20000 in
set_option maxHeartbeats 2000000 in
theorem w_X12_best {X : CX} {d : Nat} (hd : 7 ≤ d) (l0 : Nat) (l1 : Int32) (l2 : Int32) (g g' : G) (rx : Int32) (k_l0 : KD g l0 12) (h : f_X12_best l0 l1 l2 g = some (rx, g')) : Sem X m_X12_best d [.ref (ad X l0), .int l1, .int l2] g (some (.int rx)) g' := by
  refine Sem_of (lo := [(0, .ref (ad X l0)), (1, .int l1), (2, .int l2)]) (by decide +kernel) rfl (Nat.le_of_ble_eq_true rfl) ?_
  rw [f_X12_best] at h
  refine SF_aload_n 0 1 dX12_best_0 rfl rfl rfl ?_
  refine SF_iconst (0 : Int32) 2 dX12_best_1 rfl rfl ?_
  refine SF_putI 5 fl_X12_1 dX12_best_2 k_l0.1 (fn_int _) (Or.inl rfl) rfl ?_
  obtain ⟨g1, e2, h⟩ := lg_some h
  rw [← e2]
  have k_l0 := KD.eq e2 k_l0
  refine SF_aload_n 0 6 dX12_best_5 rfl rfl rfl ?_
  refine SF_iload_n 1 7 dX12_best_6 rfl rfl rfl ?_
  refine SF_i2l 8 dX12_best_7 rfl ?_
  obtain ⟨v3, g4, q5, h⟩ := bd_some h
  have s6 := w_X12_isPair (X := X) (Nat.le_refl 1) l0 (l1.toInt64) g1 g4 v3 k_l0 q5
  refine SF_callVb 11 mi_X12_isPair ml_X12_255 dX12_best_8 (Nat.le_trans (by decide) hd) s6 k_l0.1 rfl rfl (Nat.le_of_ble_eq_true rfl) rfl ?_
  have k_l0 := k_l0.ext s6.1
  refine SF_ifeq 23 14 dX12_best_11 rfl rfl (fun c7 => ?_) (fun c7 => ?_)
  · have h := ite_t c7 h
    refine SF_bipush (-2 : Int32) 25 dX12_best_23 rfl rfl ?_
    exact RT_i rfl dX12_best_25 h
  · have h := ite_f c7 h
    refine SF_aload_n 0 15 dX12_best_14 rfl rfl rfl ?_
    refine SF_iload_n 2 16 dX12_best_15 rfl rfl rfl ?_
    refine SF_i2l 17 dX12_best_16 rfl ?_
    obtain ⟨v8, g9, q10, h⟩ := bd_some h
    have s11 := w_X12_isCell (X := X) (Nat.le_refl 1) l0 (l2.toInt64) g4 g9 v8 k_l0 q10
    refine SF_callVb 20 mi_X12_isCell ml_X12_264 dX12_best_17 (Nat.le_trans (by decide) hd) s11 k_l0.1 rfl rfl (Nat.le_of_ble_eq_true rfl) rfl ?_
    have k_l0 := k_l0.ext s11.1
    refine SF_ifne 26 23 dX12_best_20 rfl rfl (fun c12 => ?_) (fun c12 => ?_)
    · have h := ite_f c12 h
      refine SF_aload_n 0 27 dX12_best_26 rfl rfl rfl ?_
      refine SF_iload_n 1 28 dX12_best_27 rfl rfl rfl ?_
      obtain ⟨v13, g14, q15, h⟩ := bd_some h
      have s16 := w_X12_laysStands (X := X) (Nat.le_refl 6) l0 l1 g9 g14 v13 k_l0 q15
      refine SF_callVv 31 mi_X12_laysStands ml_X12_376 dX12_best_28 (Nat.le_trans (by decide) hd) s16 k_l0.1 rfl rfl (Nat.le_of_ble_eq_true rfl) rfl ?_
      have k_l0 := k_l0.ext s16.1
      refine SF_aload_n 0 32 dX12_best_31 rfl rfl rfl ?_
      refine SF_iload_n 1 33 dX12_best_32 rfl rfl rfl ?_
      refine SF_iload_n 2 34 dX12_best_33 rfl rfl rfl ?_
      obtain ⟨v17, g18, q19, h⟩ := bd_some h
      have s20 := w_X12_laysForced (X := X) (Nat.le_refl 2) l0 l1 l2 g14 g18 v17 k_l0 q19
      refine SF_callVi 37 mi_X12_laysForced ml_X12_435 dX12_best_34 (Nat.le_trans (by decide) hd) s20 k_l0.1 rfl rfl (Nat.le_of_ble_eq_true rfl) rfl ?_
      have k_l0 := k_l0.ext s20.1
      refine SF_istore_n [(3, .int v17), (0, .ref (ad X l0)), (1, .int l1), (2, .int l2)] 38 dX12_best_37 rfl (by decide) rfl rfl ?_
      refine SF_iload_n 0 39 dX12_best_38 rfl rfl rfl ?_
      refine SF_ldcw 42 dX12_best_39 ki_X12_354 rfl ?_
      refine SF_iceq 49 45 dX12_best_42 rfl rfl (fun c21 => ?_) (fun c21 => ?_)
      · have h := ite_t c21 h
        refine SF_iconst (-1 : Int32) 50 dX12_best_49 rfl rfl ?_
        exact RT_i rfl dX12_best_50 h
      · have h := ite_f c21 h
        refine SF_iload_n 0 46 dX12_best_45 rfl rfl rfl ?_
        refine SF_ifne 51 49 dX12_best_46 rfl rfl (fun c22 => ?_) (fun c22 => ?_)
        · have h := ite_f c22 h
          refine SF_iconst (0 : Int32) 52 dX12_best_51 rfl rfl ?_
          refine SF_istore [(4, .int (0 : Int32)), (3, .int v17), (0, .ref (ad X l0)), (1, .int l1), (2, .int l2)] 54 dX12_best_52 (by decide) rfl rfl ?_
          refine SF_sub [2, 3, 1, 0] rfl ?_
          exact w_X12_best_54 hd FU l0 l1 v17 (0 : Int32) g18 k_l0 h
        · have h := ite_t c22 h
          refine SF_iconst (-1 : Int32) 50 dX12_best_49 rfl rfl ?_
          exact RT_i rfl dX12_best_50 h
    · have h := ite_t c12 h
      refine SF_bipush (-2 : Int32) 25 dX12_best_23 rfl rfl ?_
      exact RT_i rfl dX12_best_25 h

theorem dX11_power_0 : decode cX11_power 0 = .ok (.aload_n 0, 1) := by decide +kernel
theorem dX11_power_1 : decode cX11_power 1 = .ok (.getfield 78, 3) := by decide +kernel
theorem dX11_power_4 : decode cX11_power 4 = .ok (.iload_n 1, 1) := by decide +kernel
theorem dX11_power_5 : decode cX11_power 5 = .ok (.invokevirtual 161, 3) := by decide +kernel
theorem dX11_power_8 : decode cX11_power 8 = .ok (.ifCond .ne 7, 3) := by decide +kernel
theorem dX11_power_11 : decode cX11_power 11 = .ok (.ldc2_w 286, 3) := by decide +kernel
theorem dX11_power_14 : decode cX11_power 14 = .ok (.lreturn, 1) := by decide +kernel
theorem dX11_power_15 : decode cX11_power 15 = .ok (.aload_n 0, 1) := by decide +kernel
theorem dX11_power_16 : decode cX11_power 16 = .ok (.iload_n 1, 1) := by decide +kernel
theorem dX11_power_17 : decode cX11_power 17 = .ok (.invokevirtual 259, 3) := by decide +kernel
theorem dX11_power_20 : decode cX11_power 20 = .ok (.astore_n 2, 1) := by decide +kernel
theorem dX11_power_21 : decode cX11_power 21 = .ok (.aload_n 2, 1) := by decide +kernel
theorem dX11_power_22 : decode cX11_power 22 = .ok (.iconst 0, 1) := by decide +kernel
theorem dX11_power_23 : decode cX11_power 23 = .ok (.invokevirtual 336, 3) := by decide +kernel
theorem dX11_power_26 : decode cX11_power 26 = .ok (.lstore_n 3, 1) := by decide +kernel
theorem dX11_power_27 : decode cX11_power 27 = .ok (.lconst 0, 1) := by decide +kernel
theorem dX11_power_28 : decode cX11_power 28 = .ok (.lstore 5, 2) := by decide +kernel
theorem dX11_power_30 : decode cX11_power 30 = .ok (.iconst 0, 1) := by decide +kernel
theorem dX11_power_31 : decode cX11_power 31 = .ok (.istore 7, 2) := by decide +kernel
theorem dX11_power_33 : decode cX11_power 33 = .ok (.iload 7, 2) := by decide +kernel
theorem dX11_power_35 : decode cX11_power 35 = .ok (.bipush 36, 2) := by decide +kernel
theorem dX11_power_37 : decode cX11_power 37 = .ok (.if_icmp .ge 50, 3) := by decide +kernel
theorem dX11_power_40 : decode cX11_power 40 = .ok (.lload_n 3, 1) := by decide +kernel
theorem dX11_power_41 : decode cX11_power 41 = .ok (.iload 7, 2) := by decide +kernel
theorem dX11_power_43 : decode cX11_power 43 = .ok (.lushr, 1) := by decide +kernel
theorem dX11_power_44 : decode cX11_power 44 = .ok (.lconst 1, 1) := by decide +kernel
theorem dX11_power_45 : decode cX11_power 45 = .ok (.land, 1) := by decide +kernel
theorem dX11_power_46 : decode cX11_power 46 = .ok (.lconst 0, 1) := by decide +kernel
theorem dX11_power_47 : decode cX11_power 47 = .ok (.lcmp, 1) := by decide +kernel
theorem dX11_power_48 : decode cX11_power 48 = .ok (.ifCond .eq 33, 3) := by decide +kernel
theorem dX11_power_51 : decode cX11_power 51 = .ok (.aload_n 0, 1) := by decide +kernel
theorem dX11_power_52 : decode cX11_power 52 = .ok (.getfield 47, 3) := by decide +kernel
theorem dX11_power_55 : decode cX11_power 55 = .ok (.aload_n 2, 1) := by decide +kernel
theorem dX11_power_56 : decode cX11_power 56 = .ok (.iload 7, 2) := by decide +kernel
theorem dX11_power_58 : decode cX11_power 58 = .ok (.invokevirtual 353, 3) := by decide +kernel
theorem dX11_power_61 : decode cX11_power 61 = .ok (.aload_n 0, 1) := by decide +kernel
theorem dX11_power_62 : decode cX11_power 62 = .ok (.getfield 47, 3) := by decide +kernel
theorem dX11_power_65 : decode cX11_power 65 = .ok (.invokevirtual 357, 3) := by decide +kernel
theorem dX11_power_68 : decode cX11_power 68 = .ok (.iconst (-1), 1) := by decide +kernel
theorem dX11_power_69 : decode cX11_power 69 = .ok (.if_icmp .eq 12, 3) := by decide +kernel
theorem dX11_power_72 : decode cX11_power 72 = .ok (.lload 5, 2) := by decide +kernel
theorem dX11_power_74 : decode cX11_power 74 = .ok (.lconst 1, 1) := by decide +kernel
theorem dX11_power_75 : decode cX11_power 75 = .ok (.iload 7, 2) := by decide +kernel
theorem dX11_power_77 : decode cX11_power 77 = .ok (.lshl, 1) := by decide +kernel
theorem dX11_power_78 : decode cX11_power 78 = .ok (.lor, 1) := by decide +kernel
theorem dX11_power_79 : decode cX11_power 79 = .ok (.lstore 5, 2) := by decide +kernel
theorem dX11_power_81 : decode cX11_power 81 = .ok (.iinc 7 1, 3) := by decide +kernel
theorem dX11_power_84 : decode cX11_power 84 = .ok (.goto (-51), 3) := by decide +kernel
theorem dX11_power_87 : decode cX11_power 87 = .ok (.lload 5, 2) := by decide +kernel
theorem dX11_power_89 : decode cX11_power 89 = .ok (.lreturn, 1) := by decide +kernel
set_option maxRecDepth 20000 in
set_option maxHeartbeats 2000000 in
theorem w_X11_power_81 {X : CX} {d : Nat} (hd : 7 ≤ d) {g' : G} {rx : Int64} (k33 : Nat → Nat → Int64 → Int64 → Int32 → G → Option (Int64 × G)) (hk33 : ∀ (l0 : Nat) (l2 : Nat) (l3 : Int64) (l5 : Int64) (l7 : Int32) (g : G), KD g l0 11 → KD g l2 4 → k33 l0 l2 l3 l5 l7 g = some (rx, g') → SemF X m_X11_power d 33 [(0, .ref (ad X l0)), (2, .ref (ad X l2)), (3, .long l3), (5, .long l5), (7, .int l7)] [] g (some (.long rx)) g') (l0 : Nat) (l2 : Nat) (l3 : Int64) (l5 : Int64) (l7 : Int32) (g : G) (k_l0 : KD g l0 11) (k_l2 : KD g l2 4) (h : f_X11_power_81 k33 l0 l2 l3 l5 l7 g = some (rx, g')) : SemF X m_X11_power d 81 [(0, .ref (ad X l0)), (2, .ref (ad X l2)), (3, .long l3), (5, .long l5), (7, .int l7)] [] g (some (.long rx)) g' := by
  rw [f_X11_power_81] at h
  refine SF_iinc 4 (l7 + (1 : Int32)) [(7, .int (l7 + (1 : Int32))), (0, .ref (ad X l0)), (2, .ref (ad X l2)), (3, .long l3), (5, .long l5)] 84 dX11_power_81 rfl rfl (by decide) rfl rfl ?_
  refine SF_goto 33 dX11_power_84 rfl ?_
  refine SF_sub [1, 2, 3, 4, 0] rfl ?_
  exact hk33 l0 l2 l3 l5 (l7 + (1 : Int32)) g k_l0 k_l2 h

set_option maxRecDepth 20000 in
set_option maxHeartbeats 2000000 in
theorem w_X11_power_33 {X : CX} {d : Nat} (hd : 7 ≤ d) {g' : G} {rx : Int64} : ∀ (n : Nat) (l0 : Nat) (l2 : Nat) (l3 : Int64) (l5 : Int64) (l7 : Int32) (g : G), KD g l0 11 → KD g l2 4 → f_X11_power_33 n l0 l2 l3 l5 l7 g = some (rx, g') → SemF X m_X11_power d 33 [(0, .ref (ad X l0)), (2, .ref (ad X l2)), (3, .long l3), (5, .long l5), (7, .int l7)] [] g (some (.long rx)) g' := by
  intro n
  induction n with
  | zero =>
    intro l0 l2 l3 l5 l7 g k_l0 k_l2 h
    rw [f_X11_power_33] at h
    cases h
  | succ n ih =>
  intro l0 l2 l3 l5 l7 g k_l0 k_l2 h
  rw [f_X11_power_33] at h
  refine SF_iload 4 35 dX11_power_33 rfl rfl ?_
  refine SF_bipush (36 : Int32) 37 dX11_power_35 rfl rfl ?_
  refine SF_icge 87 40 dX11_power_37 rfl rfl (fun c1 => ?_) (fun c1 => ?_)
  · have h := ite_t c1 h
    refine SF_lload 3 89 dX11_power_87 rfl rfl ?_
    exact RT_l rfl dX11_power_89 h
  · have h := ite_f c1 h
    refine SF_lload_n 2 41 dX11_power_40 rfl rfl rfl ?_
    refine SF_iload 4 43 dX11_power_41 rfl rfl ?_
    refine SF_lushr 44 dX11_power_43 rfl ?_
    refine SF_lconst (1 : Int64) 45 dX11_power_44 rfl rfl ?_
    refine SF_land 46 dX11_power_45 rfl ?_
    refine SF_lconst (0 : Int64) 47 dX11_power_46 rfl rfl ?_
    refine SF_lcmp 48 dX11_power_47 rfl ?_
    refine SF_ifeq 81 51 dX11_power_48 rfl rfl (fun c2 => ?_) (fun c2 => ?_)
    · have h := ite_t c2 h
      exact w_X11_power_81 hd (f_X11_power_33 n) ih l0 l2 l3 l5 l7 g k_l0 k_l2 h
    · have h := ite_f c2 h
      refine SF_aload_n 0 52 dX11_power_51 rfl rfl rfl ?_
      obtain ⟨b3, r4, h⟩ := dr_some h
      refine SF_getR 55 fl_X11_47 dX11_power_52 k_l0.1 r4 rfl ?_
      refine SF_aload_n 1 56 dX11_power_55 rfl rfl rfl ?_
      refine SF_iload 4 58 dX11_power_56 rfl rfl ?_
      obtain ⟨k5, h⟩ := gdK_some h
      obtain ⟨v6, g7, q8, h⟩ := bd_some h
      have s9 := w_X3_play (X := X) (Nat.le_refl 3) b3 l2 l7 g g7 v6 k5 k_l2 q8
      refine SF_callVv 61 mi_X3_play ml_X11_353 dX11_power_58 (Nat.le_trans (by decide) hd) s9 k5.1 rfl rfl (Nat.le_of_ble_eq_true rfl) rfl ?_
      have k_l0 := k_l0.ext s9.1
      have k_l2 := k_l2.ext s9.1
      have k5 := k5.ext s9.1
      refine SF_aload_n 0 62 dX11_power_61 rfl rfl rfl ?_
      obtain ⟨b10, r11, h⟩ := dr_some h
      refine SF_getR 65 fl_X11_47 dX11_power_62 k_l0.1 r11 rfl ?_
      obtain ⟨k12, h⟩ := gdK_some h
      obtain ⟨v13, g14, q15, h⟩ := bd_some h
      have s16 := w_X3_levelNow (X := X) (Nat.le_refl 0) b10 g7 g14 v13 k12 q15
      refine SF_callVi 68 mi_X3_levelNow ml_X11_357 dX11_power_65 (Nat.le_trans (by decide) hd) s16 k12.1 rfl rfl (Nat.le_of_ble_eq_true rfl) rfl ?_
      have k_l0 := k_l0.ext s16.1
      have k_l2 := k_l2.ext s16.1
      have k5 := k5.ext s16.1
      have k12 := k12.ext s16.1
      refine SF_iconst (-1 : Int32) 69 dX11_power_68 rfl rfl ?_
      refine SF_iceq 81 72 dX11_power_69 rfl rfl (fun c17 => ?_) (fun c17 => ?_)
      · have h := ite_t c17 h
        exact w_X11_power_81 hd (f_X11_power_33 n) ih l0 l2 l3 l5 l7 g14 k_l0 k_l2 h
      · have h := ite_f c17 h
        refine SF_lload 3 74 dX11_power_72 rfl rfl ?_
        refine SF_lconst (1 : Int64) 75 dX11_power_74 rfl rfl ?_
        refine SF_iload 4 77 dX11_power_75 rfl rfl ?_
        refine SF_lshl 78 dX11_power_77 rfl ?_
        refine SF_lor 79 dX11_power_78 rfl ?_
        obtain ⟨y18, e19, h⟩ := ll_some h
        refine SF_eqL e19 ?_
        refine SF_lstore [(5, .long y18), (0, .ref (ad X l0)), (2, .ref (ad X l2)), (3, .long l3), (7, .int l7)] 81 dX11_power_79 (by decide) rfl rfl ?_
        refine SF_sub [1, 2, 3, 0, 4] rfl ?_
        exact w_X11_power_81 hd (f_X11_power_33 n) ih l0 l2 l3 y18 l7 g14 k_l0 k_l2 h

set_option maxRecDepth 20000 in
set_option maxHeartbeats 2000000 in
theorem w_X11_power {X : CX} {d : Nat} (hd : 7 ≤ d) (l0 : Nat) (l1 : Int32) (g g' : G) (rx : Int64) (k_l0 : KD g l0 11) (h : f_X11_power l0 l1 g = some (rx, g')) : Sem X m_X11_power d [.ref (ad X l0), .int l1] g (some (.long rx)) g' := by
  refine Sem_of (lo := [(0, .ref (ad X l0)), (1, .int l1)]) (by decide +kernel) rfl (Nat.le_of_ble_eq_true rfl) ?_
  rw [f_X11_power] at h
  refine SF_aload_n 0 1 dX11_power_0 rfl rfl rfl ?_
  obtain ⟨b1, r2, h⟩ := dr_some h
  refine SF_getR 4 fl_X11_78 dX11_power_1 k_l0.1 r2 rfl ?_
  refine SF_iload_n 1 5 dX11_power_4 rfl rfl rfl ?_
  obtain ⟨k3, h⟩ := gdK_some h
  obtain ⟨v4, g5, q6, h⟩ := bd_some h
  have s7 := w_X0_isPair (X := X) (Nat.le_refl 0) b1 l1 g g5 v4 k3 q6
  refine SF_callVb 8 mi_X0_isPair ml_X11_161 dX11_power_5 (Nat.le_trans (by decide) hd) s7 k3.1 rfl rfl (Nat.le_of_ble_eq_true rfl) rfl ?_
  have k_l0 := k_l0.ext s7.1
  have k3 := k3.ext s7.1
  refine SF_ifne 15 11 dX11_power_8 rfl rfl (fun c8 => ?_) (fun c8 => ?_)
  · have h := ite_f c8 h
    refine SF_aload_n 0 16 dX11_power_15 rfl rfl rfl ?_
    refine SF_iload_n 1 17 dX11_power_16 rfl rfl rfl ?_
    obtain ⟨v9, g10, q11, h⟩ := bd_some h
    have s12 := w_X11_graphOf (X := X) (Nat.le_refl 6) l0 l1 g5 g10 v9 k_l0 q11
    refine SF_callVr 20 mi_X11_graphOf ml_X11_259 dX11_power_17 (Nat.le_trans (by decide) hd) s12 k_l0.1 rfl rfl (Nat.le_of_ble_eq_true rfl) rfl ?_
    have k_l0 := k_l0.ext s12.1
    have k3 := k3.ext s12.1
    refine SF_astore_n [(2, .ref (ad X v9)), (0, .ref (ad X l0)), (1, .int l1)] 21 dX11_power_20 rfl (by decide) rfl rfl ?_
    refine SF_aload_n 0 22 dX11_power_21 rfl rfl rfl ?_
    refine SF_iconst (0 : Int32) 23 dX11_power_22 rfl rfl ?_
    obtain ⟨k13, h⟩ := gdK_some h
    obtain ⟨v14, g15, q16, h⟩ := bd_some h
    have s17 := w_X4_cellsOf (X := X) (Nat.le_refl 2) v9 (0 : Int32) g10 g15 v14 k13 q16
    refine SF_callVl 26 mi_X4_cellsOf ml_X11_336 dX11_power_23 (Nat.le_trans (by decide) hd) s17 k13.1 rfl rfl (Nat.le_of_ble_eq_true rfl) rfl ?_
    have k_l0 := k_l0.ext s17.1
    have k3 := k3.ext s17.1
    have k13 := k13.ext s17.1
    refine SF_lstore_n [(3, .long v14), (2, .ref (ad X v9)), (0, .ref (ad X l0)), (1, .int l1)] 27 dX11_power_26 rfl (by decide) rfl rfl ?_
    refine SF_lconst (0 : Int64) 28 dX11_power_27 rfl rfl ?_
    refine SF_lstore [(5, .long (0 : Int64)), (3, .long v14), (2, .ref (ad X v9)), (0, .ref (ad X l0)), (1, .int l1)] 30 dX11_power_28 (by decide) rfl rfl ?_
    refine SF_iconst (0 : Int32) 31 dX11_power_30 rfl rfl ?_
    refine SF_istore [(7, .int (0 : Int32)), (5, .long (0 : Int64)), (3, .long v14), (2, .ref (ad X v9)), (0, .ref (ad X l0)), (1, .int l1)] 33 dX11_power_31 (by decide) rfl rfl ?_
    refine SF_sub [4, 3, 2, 1, 0] rfl ?_
    exact w_X11_power_33 hd FU l0 v9 v14 (0 : Int64) (0 : Int32) g15 k_l0 k13 h
  · have h := ite_t c8 h
    refine SF_ldc2 14 dX11_power_11 kl_X11_286 rfl ?_
    exact RT_l rfl dX11_power_14 h

theorem dX12_power_0 : decode cX12_power 0 = .ok (.aload_n 0, 1) := by decide +kernel
theorem dX12_power_1 : decode cX12_power 1 = .ok (.iconst 0, 1) := by decide +kernel
theorem dX12_power_2 : decode cX12_power 2 = .ok (.putfield 1, 3) := by decide +kernel
theorem dX12_power_5 : decode cX12_power 5 = .ok (.aload_n 0, 1) := by decide +kernel
theorem dX12_power_6 : decode cX12_power 6 = .ok (.iload_n 1, 1) := by decide +kernel
theorem dX12_power_7 : decode cX12_power 7 = .ok (.i2l, 1) := by decide +kernel
theorem dX12_power_8 : decode cX12_power 8 = .ok (.invokevirtual 255, 3) := by decide +kernel
theorem dX12_power_11 : decode cX12_power 11 = .ok (.ifCond .ne 7, 3) := by decide +kernel
theorem dX12_power_14 : decode cX12_power 14 = .ok (.ldc2_w 396, 3) := by decide +kernel
theorem dX12_power_17 : decode cX12_power 17 = .ok (.lreturn, 1) := by decide +kernel
theorem dX12_power_18 : decode cX12_power 18 = .ok (.aload_n 0, 1) := by decide +kernel
theorem dX12_power_19 : decode cX12_power 19 = .ok (.iload_n 1, 1) := by decide +kernel
theorem dX12_power_20 : decode cX12_power 20 = .ok (.invokevirtual 376, 3) := by decide +kernel
theorem dX12_power_23 : decode cX12_power 23 = .ok (.lconst 0, 1) := by decide +kernel
theorem dX12_power_24 : decode cX12_power 24 = .ok (.lstore_n 2, 1) := by decide +kernel
theorem dX12_power_25 : decode cX12_power 25 = .ok (.iconst 0, 1) := by decide +kernel
theorem dX12_power_26 : decode cX12_power 26 = .ok (.istore 4, 2) := by decide +kernel
theorem dX12_power_28 : decode cX12_power 28 = .ok (.iload 4, 2) := by decide +kernel
theorem dX12_power_30 : decode cX12_power 30 = .ok (.aload_n 0, 1) := by decide +kernel
theorem dX12_power_31 : decode cX12_power 31 = .ok (.invokevirtual 214, 3) := by decide +kernel
theorem dX12_power_34 : decode cX12_power 34 = .ok (.if_icmp .ge 33, 3) := by decide +kernel
theorem dX12_power_37 : decode cX12_power 37 = .ok (.lload_n 2, 1) := by decide +kernel
theorem dX12_power_38 : decode cX12_power 38 = .ok (.aload_n 0, 1) := by decide +kernel
theorem dX12_power_39 : decode cX12_power 39 = .ok (.iload_n 1, 1) := by decide +kernel
theorem dX12_power_40 : decode cX12_power 40 = .ok (.iload 4, 2) := by decide +kernel
theorem dX12_power_42 : decode cX12_power 42 = .ok (.invokevirtual 435, 3) := by decide +kernel
theorem dX12_power_45 : decode cX12_power 45 = .ok (.ldc_w 354, 3) := by decide +kernel
theorem dX12_power_48 : decode cX12_power 48 = .ok (.if_icmp .ge 10, 3) := by decide +kernel
theorem dX12_power_51 : decode cX12_power 51 = .ok (.lconst 1, 1) := by decide +kernel
theorem dX12_power_52 : decode cX12_power 52 = .ok (.iload 4, 2) := by decide +kernel
theorem dX12_power_54 : decode cX12_power 54 = .ok (.lshl, 1) := by decide +kernel
theorem dX12_power_55 : decode cX12_power 55 = .ok (.goto 4, 3) := by decide +kernel
theorem dX12_power_58 : decode cX12_power 58 = .ok (.lconst 0, 1) := by decide +kernel
theorem dX12_power_59 : decode cX12_power 59 = .ok (.lor, 1) := by decide +kernel
theorem dX12_power_60 : decode cX12_power 60 = .ok (.lstore_n 2, 1) := by decide +kernel
theorem dX12_power_61 : decode cX12_power 61 = .ok (.iinc 4 1, 3) := by decide +kernel
theorem dX12_power_64 : decode cX12_power 64 = .ok (.goto (-36), 3) := by decide +kernel
theorem dX12_power_67 : decode cX12_power 67 = .ok (.lload_n 2, 1) := by decide +kernel
theorem dX12_power_68 : decode cX12_power 68 = .ok (.lreturn, 1) := by decide +kernel
set_option maxRecDepth 20000 in
set_option maxHeartbeats 2000000 in
theorem w_X12_power_59 {X : CX} {d : Nat} (hd : 7 ≤ d) {g' : G} {rx : Int64} (k28 : Nat → Int32 → Int64 → Int32 → G → Option (Int64 × G)) (hk28 : ∀ (l0 : Nat) (l1 : Int32) (l2 : Int64) (l4 : Int32) (g : G), KD g l0 12 → k28 l0 l1 l2 l4 g = some (rx, g') → SemF X m_X12_power d 28 [(0, .ref (ad X l0)), (1, .int l1), (2, .long l2), (4, .int l4)] [] g (some (.long rx)) g') (l0 : Nat) (l1 : Int32) (l4 : Int32) (s0 : Int64) (s1 : Int64) (g : G) (k_l0 : KD g l0 12) (h : f_X12_power_59 k28 l0 l1 l4 s0 s1 g = some (rx, g')) : SemF X m_X12_power d 59 [(0, .ref (ad X l0)), (1, .int l1), (4, .int l4)] [.long s0, .long s1] g (some (.long rx)) g' := by
  rw [f_X12_power_59] at h
  refine SF_lor 60 dX12_power_59 rfl ?_
  obtain ⟨y1, e2, h⟩ := ll_some h
  refine SF_eqL e2 ?_
  refine SF_lstore_n [(2, .long y1), (0, .ref (ad X l0)), (1, .int l1), (4, .int l4)] 61 dX12_power_60 rfl (by decide) rfl rfl ?_
  refine SF_iinc 3 (l4 + (1 : Int32)) [(4, .int (l4 + (1 : Int32))), (2, .long y1), (0, .ref (ad X l0)), (1, .int l1)] 64 dX12_power_61 rfl rfl (by decide) rfl rfl ?_
  refine SF_goto 28 dX12_power_64 rfl ?_
  refine SF_sub [2, 3, 1, 0] rfl ?_
  exact hk28 l0 l1 y1 (l4 + (1 : Int32)) g k_l0 h

set_option maxRecDepth 20000 in
set_option maxHeartbeats 2000000 in
theorem w_X12_power_28 {X : CX} {d : Nat} (hd : 7 ≤ d) {g' : G} {rx : Int64} : ∀ (n : Nat) (l0 : Nat) (l1 : Int32) (l2 : Int64) (l4 : Int32) (g : G), KD g l0 12 → f_X12_power_28 n l0 l1 l2 l4 g = some (rx, g') → SemF X m_X12_power d 28 [(0, .ref (ad X l0)), (1, .int l1), (2, .long l2), (4, .int l4)] [] g (some (.long rx)) g' := by
  intro n
  induction n with
  | zero =>
    intro l0 l1 l2 l4 g k_l0 h
    rw [f_X12_power_28] at h
    cases h
  | succ n ih =>
  intro l0 l1 l2 l4 g k_l0 h
  rw [f_X12_power_28] at h
  refine SF_iload 3 30 dX12_power_28 rfl rfl ?_
  refine SF_aload_n 0 31 dX12_power_30 rfl rfl rfl ?_
  obtain ⟨v1, g2, q3, h⟩ := bd_some h
  have s4 := w_X12_cells (X := X) (Nat.le_refl 0) l0 g g2 v1 k_l0 q3
  refine SF_callVi 34 mi_X12_cells ml_X12_214 dX12_power_31 (Nat.le_trans (by decide) hd) s4 k_l0.1 rfl rfl (Nat.le_of_ble_eq_true rfl) rfl ?_
  have k_l0 := k_l0.ext s4.1
  refine SF_icge 67 37 dX12_power_34 rfl rfl (fun c5 => ?_) (fun c5 => ?_)
  · have h := ite_t c5 h
    refine SF_lload_n 2 68 dX12_power_67 rfl rfl rfl ?_
    exact RT_l rfl dX12_power_68 h
  · have h := ite_f c5 h
    refine SF_lload_n 2 38 dX12_power_37 rfl rfl rfl ?_
    refine SF_aload_n 0 39 dX12_power_38 rfl rfl rfl ?_
    refine SF_iload_n 1 40 dX12_power_39 rfl rfl rfl ?_
    refine SF_iload 3 42 dX12_power_40 rfl rfl ?_
    obtain ⟨v6, g7, q8, h⟩ := bd_some h
    have s9 := w_X12_laysForced (X := X) (Nat.le_refl 2) l0 l1 l4 g2 g7 v6 k_l0 q8
    refine SF_callVi 45 mi_X12_laysForced ml_X12_435 dX12_power_42 (Nat.le_trans (by decide) hd) s9 k_l0.1 rfl rfl (Nat.le_of_ble_eq_true rfl) rfl ?_
    have k_l0 := k_l0.ext s9.1
    refine SF_ldcw 48 dX12_power_45 ki_X12_354 rfl ?_
    refine SF_icge 58 51 dX12_power_48 rfl rfl (fun c10 => ?_) (fun c10 => ?_)
    · have h := ite_t c10 h
      refine SF_lconst (0 : Int64) 59 dX12_power_58 rfl rfl ?_
      refine SF_sub [0, 1, 3] rfl ?_
      exact w_X12_power_59 hd (f_X12_power_28 n) ih l0 l1 l4 (0 : Int64) l2 g7 k_l0 h
    · have h := ite_f c10 h
      refine SF_lconst (1 : Int64) 52 dX12_power_51 rfl rfl ?_
      refine SF_iload 3 54 dX12_power_52 rfl rfl ?_
      refine SF_lshl 55 dX12_power_54 rfl ?_
      refine SF_goto 59 dX12_power_55 rfl ?_
      refine SF_sub [0, 1, 3] rfl ?_
      exact w_X12_power_59 hd (f_X12_power_28 n) ih l0 l1 l4 ((1 : Int64) <<< (l4.toInt64 &&& 63)) l2 g7 k_l0 h

set_option maxRecDepth 20000 in
set_option maxHeartbeats 2000000 in
theorem w_X12_power {X : CX} {d : Nat} (hd : 7 ≤ d) (l0 : Nat) (l1 : Int32) (g g' : G) (rx : Int64) (k_l0 : KD g l0 12) (h : f_X12_power l0 l1 g = some (rx, g')) : Sem X m_X12_power d [.ref (ad X l0), .int l1] g (some (.long rx)) g' := by
  refine Sem_of (lo := [(0, .ref (ad X l0)), (1, .int l1)]) (by decide +kernel) rfl (Nat.le_of_ble_eq_true rfl) ?_
  rw [f_X12_power] at h
  refine SF_aload_n 0 1 dX12_power_0 rfl rfl rfl ?_
  refine SF_iconst (0 : Int32) 2 dX12_power_1 rfl rfl ?_
  refine SF_putI 5 fl_X12_1 dX12_power_2 k_l0.1 (fn_int _) (Or.inl rfl) rfl ?_
  obtain ⟨g1, e2, h⟩ := lg_some h
  rw [← e2]
  have k_l0 := KD.eq e2 k_l0
  refine SF_aload_n 0 6 dX12_power_5 rfl rfl rfl ?_
  refine SF_iload_n 1 7 dX12_power_6 rfl rfl rfl ?_
  refine SF_i2l 8 dX12_power_7 rfl ?_
  obtain ⟨v3, g4, q5, h⟩ := bd_some h
  have s6 := w_X12_isPair (X := X) (Nat.le_refl 1) l0 (l1.toInt64) g1 g4 v3 k_l0 q5
  refine SF_callVb 11 mi_X12_isPair ml_X12_255 dX12_power_8 (Nat.le_trans (by decide) hd) s6 k_l0.1 rfl rfl (Nat.le_of_ble_eq_true rfl) rfl ?_
  have k_l0 := k_l0.ext s6.1
  refine SF_ifne 18 14 dX12_power_11 rfl rfl (fun c7 => ?_) (fun c7 => ?_)
  · have h := ite_f c7 h
    refine SF_aload_n 0 19 dX12_power_18 rfl rfl rfl ?_
    refine SF_iload_n 1 20 dX12_power_19 rfl rfl rfl ?_
    obtain ⟨v8, g9, q10, h⟩ := bd_some h
    have s11 := w_X12_laysStands (X := X) (Nat.le_refl 6) l0 l1 g4 g9 v8 k_l0 q10
    refine SF_callVv 23 mi_X12_laysStands ml_X12_376 dX12_power_20 (Nat.le_trans (by decide) hd) s11 k_l0.1 rfl rfl (Nat.le_of_ble_eq_true rfl) rfl ?_
    have k_l0 := k_l0.ext s11.1
    refine SF_lconst (0 : Int64) 24 dX12_power_23 rfl rfl ?_
    refine SF_lstore_n [(2, .long (0 : Int64)), (0, .ref (ad X l0)), (1, .int l1)] 25 dX12_power_24 rfl (by decide) rfl rfl ?_
    refine SF_iconst (0 : Int32) 26 dX12_power_25 rfl rfl ?_
    refine SF_istore [(4, .int (0 : Int32)), (2, .long (0 : Int64)), (0, .ref (ad X l0)), (1, .int l1)] 28 dX12_power_26 (by decide) rfl rfl ?_
    refine SF_sub [2, 3, 1, 0] rfl ?_
    exact w_X12_power_28 hd FU l0 l1 (0 : Int64) (0 : Int32) g9 k_l0 h
  · have h := ite_t c7 h
    refine SF_ldc2 17 dX12_power_14 kl_X12_396 rfl ?_
    exact RT_l rfl dX12_power_17 h

theorem dX11_triesRefused_0 : decode cX11_triesRefused 0 = .ok (.iload_n 1, 1) := by decide +kernel
theorem dX11_triesRefused_1 : decode cX11_triesRefused 1 = .ok (.invokestatic 219, 3) := by decide +kernel
theorem dX11_triesRefused_4 : decode cX11_triesRefused 4 = .ok (.ifCond .eq 14, 3) := by decide +kernel
theorem dX11_triesRefused_7 : decode cX11_triesRefused 7 = .ok (.aload_n 0, 1) := by decide +kernel
theorem dX11_triesRefused_8 : decode cX11_triesRefused 8 = .ok (.getfield 78, 3) := by decide +kernel
theorem dX11_triesRefused_11 : decode cX11_triesRefused 11 = .ok (.iload_n 2, 1) := by decide +kernel
theorem dX11_triesRefused_12 : decode cX11_triesRefused 12 = .ok (.invokevirtual 161, 3) := by decide +kernel
theorem dX11_triesRefused_15 : decode cX11_triesRefused 15 = .ok (.ifCond .ne 6, 3) := by decide +kernel
theorem dX11_triesRefused_18 : decode cX11_triesRefused 18 = .ok (.bipush (-2), 2) := by decide +kernel
theorem dX11_triesRefused_20 : decode cX11_triesRefused 20 = .ok (.ireturn, 1) := by decide +kernel
theorem dX11_triesRefused_21 : decode cX11_triesRefused 21 = .ok (.aload_n 0, 1) := by decide +kernel
theorem dX11_triesRefused_22 : decode cX11_triesRefused 22 = .ok (.getfield 60, 3) := by decide +kernel
theorem dX11_triesRefused_25 : decode cX11_triesRefused 25 = .ok (.iload_n 1, 1) := by decide +kernel
theorem dX11_triesRefused_26 : decode cX11_triesRefused 26 = .ok (.aaload, 1) := by decide +kernel
theorem dX11_triesRefused_27 : decode cX11_triesRefused 27 = .ok (.astore_n 3, 1) := by decide +kernel
theorem dX11_triesRefused_28 : decode cX11_triesRefused 28 = .ok (.aload_n 3, 1) := by decide +kernel
theorem dX11_triesRefused_29 : decode cX11_triesRefused 29 = .ok (.invokevirtual 222, 3) := by decide +kernel
theorem dX11_triesRefused_32 : decode cX11_triesRefused 32 = .ok (.ifCond .eq 6, 3) := by decide +kernel
theorem dX11_triesRefused_35 : decode cX11_triesRefused 35 = .ok (.bipush (-6), 2) := by decide +kernel
theorem dX11_triesRefused_37 : decode cX11_triesRefused 37 = .ok (.ireturn, 1) := by decide +kernel
theorem dX11_triesRefused_38 : decode cX11_triesRefused 38 = .ok (.aload_n 3, 1) := by decide +kernel
theorem dX11_triesRefused_39 : decode cX11_triesRefused 39 = .ok (.getfield 226, 3) := by decide +kernel
theorem dX11_triesRefused_42 : decode cX11_triesRefused 42 = .ok (.iconst 1, 1) := by decide +kernel
theorem dX11_triesRefused_43 : decode cX11_triesRefused 43 = .ok (.if_icmp .lt 12, 3) := by decide +kernel
theorem dX11_triesRefused_46 : decode cX11_triesRefused 46 = .ok (.aload_n 3, 1) := by decide +kernel
theorem dX11_triesRefused_47 : decode cX11_triesRefused 47 = .ok (.getfield 226, 3) := by decide +kernel
theorem dX11_triesRefused_50 : decode cX11_triesRefused 50 = .ok (.bipush 12, 2) := by decide +kernel
theorem dX11_triesRefused_52 : decode cX11_triesRefused 52 = .ok (.if_icmp .le 6, 3) := by decide +kernel
theorem dX11_triesRefused_55 : decode cX11_triesRefused 55 = .ok (.bipush (-4), 2) := by decide +kernel
theorem dX11_triesRefused_57 : decode cX11_triesRefused 57 = .ok (.ireturn, 1) := by decide +kernel
theorem dX11_triesRefused_58 : decode cX11_triesRefused 58 = .ok (.iconst 0, 1) := by decide +kernel
theorem dX11_triesRefused_59 : decode cX11_triesRefused 59 = .ok (.istore 4, 2) := by decide +kernel
theorem dX11_triesRefused_61 : decode cX11_triesRefused 61 = .ok (.iload 4, 2) := by decide +kernel
theorem dX11_triesRefused_63 : decode cX11_triesRefused 63 = .ok (.aload_n 3, 1) := by decide +kernel
theorem dX11_triesRefused_64 : decode cX11_triesRefused 64 = .ok (.getfield 226, 3) := by decide +kernel
theorem dX11_triesRefused_67 : decode cX11_triesRefused 67 = .ok (.if_icmp .ge 51, 3) := by decide +kernel
theorem dX11_triesRefused_70 : decode cX11_triesRefused 70 = .ok (.aload_n 3, 1) := by decide +kernel
theorem dX11_triesRefused_71 : decode cX11_triesRefused 71 = .ok (.iload 4, 2) := by decide +kernel
theorem dX11_triesRefused_73 : decode cX11_triesRefused 73 = .ok (.invokevirtual 227, 3) := by decide +kernel
theorem dX11_triesRefused_76 : decode cX11_triesRefused 76 = .ok (.lstore 5, 2) := by decide +kernel
theorem dX11_triesRefused_78 : decode cX11_triesRefused 78 = .ok (.lload 5, 2) := by decide +kernel
theorem dX11_triesRefused_80 : decode cX11_triesRefused 80 = .ok (.lconst 0, 1) := by decide +kernel
theorem dX11_triesRefused_81 : decode cX11_triesRefused 81 = .ok (.lcmp, 1) := by decide +kernel
theorem dX11_triesRefused_82 : decode cX11_triesRefused 82 = .ok (.ifCond .lt 27, 3) := by decide +kernel
theorem dX11_triesRefused_85 : decode cX11_triesRefused 85 = .ok (.lload 5, 2) := by decide +kernel
theorem dX11_triesRefused_87 : decode cX11_triesRefused 87 = .ok (.ldc2_w 385, 3) := by decide +kernel
theorem dX11_triesRefused_90 : decode cX11_triesRefused 90 = .ok (.ldiv, 1) := by decide +kernel
theorem dX11_triesRefused_91 : decode cX11_triesRefused 91 = .ok (.ldc2_w 387, 3) := by decide +kernel
theorem dX11_triesRefused_94 : decode cX11_triesRefused 94 = .ok (.lcmp, 1) := by decide +kernel
theorem dX11_triesRefused_95 : decode cX11_triesRefused 95 = .ok (.ifCond .ge 14, 3) := by decide +kernel
theorem dX11_triesRefused_98 : decode cX11_triesRefused 98 = .ok (.lload 5, 2) := by decide +kernel
theorem dX11_triesRefused_100 : decode cX11_triesRefused 100 = .ok (.ldc2_w 385, 3) := by decide +kernel
theorem dX11_triesRefused_103 : decode cX11_triesRefused 103 = .ok (.lrem, 1) := by decide +kernel
theorem dX11_triesRefused_104 : decode cX11_triesRefused 104 = .ok (.lconst 1, 1) := by decide +kernel
theorem dX11_triesRefused_105 : decode cX11_triesRefused 105 = .ok (.lcmp, 1) := by decide +kernel
theorem dX11_triesRefused_106 : decode cX11_triesRefused 106 = .ok (.ifCond .le 6, 3) := by decide +kernel
theorem dX11_triesRefused_109 : decode cX11_triesRefused 109 = .ok (.bipush (-3), 2) := by decide +kernel
theorem dX11_triesRefused_111 : decode cX11_triesRefused 111 = .ok (.ireturn, 1) := by decide +kernel
theorem dX11_triesRefused_112 : decode cX11_triesRefused 112 = .ok (.iinc 4 1, 3) := by decide +kernel
theorem dX11_triesRefused_115 : decode cX11_triesRefused 115 = .ok (.goto (-54), 3) := by decide +kernel
theorem dX11_triesRefused_118 : decode cX11_triesRefused 118 = .ok (.iconst 0, 1) := by decide +kernel
theorem dX11_triesRefused_119 : decode cX11_triesRefused 119 = .ok (.ireturn, 1) := by decide +kernel
set_option maxRecDepth 20000 in
set_option maxHeartbeats 2000000 in
theorem w_X11_triesRefused_61 {X : CX} {d : Nat} (hd : 1 ≤ d) {g' : G} {rx : Int32} : ∀ (n : Nat) (l3 : Nat) (l4 : Int32) (g : G), KD g l3 10 → f_X11_triesRefused_61 n l3 l4 g = some (rx, g') → SemF X m_X11_triesRefused d 61 [(3, .ref (ad X l3)), (4, .int l4)] [] g (some (.int rx)) g' := by
  intro n
  induction n with
  | zero =>
    intro l3 l4 g k_l3 h
    rw [f_X11_triesRefused_61] at h
    cases h
  | succ n ih =>
  intro l3 l4 g k_l3 h
  rw [f_X11_triesRefused_61] at h
  refine SF_iload 1 63 dX11_triesRefused_61 rfl rfl ?_
  refine SF_aload_n 0 64 dX11_triesRefused_63 rfl rfl rfl ?_
  refine SF_getI 67 fl_X11_226 dX11_triesRefused_64 k_l3.1 rfl ?_
  refine SF_icge 118 70 dX11_triesRefused_67 rfl rfl (fun c1 => ?_) (fun c1 => ?_)
  · have h := ite_t c1 h
    refine SF_iconst (0 : Int32) 119 dX11_triesRefused_118 rfl rfl ?_
    exact RT_i rfl dX11_triesRefused_119 h
  · have h := ite_f c1 h
    refine SF_aload_n 0 71 dX11_triesRefused_70 rfl rfl rfl ?_
    refine SF_iload 1 73 dX11_triesRefused_71 rfl rfl ?_
    obtain ⟨v2, g3, q4, h⟩ := bd_some h
    have s5 := w_X10_at (X := X) (Nat.le_refl 0) l3 l4 g g3 v2 k_l3 q4
    refine SF_callVl 76 mi_X10_at ml_X11_227 dX11_triesRefused_73 (Nat.le_trans (by decide) hd) s5 k_l3.1 rfl rfl (Nat.le_of_ble_eq_true rfl) rfl ?_
    have k_l3 := k_l3.ext s5.1
    refine SF_lstore [(5, .long v2), (3, .ref (ad X l3)), (4, .int l4)] 78 dX11_triesRefused_76 (by decide) rfl rfl ?_
    refine SF_lload 0 80 dX11_triesRefused_78 rfl rfl ?_
    refine SF_lconst (0 : Int64) 81 dX11_triesRefused_80 rfl rfl ?_
    refine SF_lcmp 82 dX11_triesRefused_81 rfl ?_
    refine SF_iflt 109 85 dX11_triesRefused_82 rfl rfl (fun c6 => ?_) (fun c6 => ?_)
    · have h := ite_t c6 h
      refine SF_bipush (-3 : Int32) 111 dX11_triesRefused_109 rfl rfl ?_
      exact RT_i rfl dX11_triesRefused_111 h
    · have h := ite_f c6 h
      refine SF_lload 0 87 dX11_triesRefused_85 rfl rfl ?_
      refine SF_ldc2 90 dX11_triesRefused_87 kl_X11_385 rfl ?_
      refine SF_ldiv 91 dX11_triesRefused_90 (by decide) rfl ?_
      refine SF_ldc2 94 dX11_triesRefused_91 kl_X11_387 rfl ?_
      refine SF_lcmp 95 dX11_triesRefused_94 rfl ?_
      refine SF_ifge 109 98 dX11_triesRefused_95 rfl rfl (fun c7 => ?_) (fun c7 => ?_)
      · have h := ite_t c7 h
        refine SF_bipush (-3 : Int32) 111 dX11_triesRefused_109 rfl rfl ?_
        exact RT_i rfl dX11_triesRefused_111 h
      · have h := ite_f c7 h
        refine SF_lload 0 100 dX11_triesRefused_98 rfl rfl ?_
        refine SF_ldc2 103 dX11_triesRefused_100 kl_X11_385 rfl ?_
        refine SF_lrem 104 dX11_triesRefused_103 (by decide) rfl ?_
        refine SF_lconst (1 : Int64) 105 dX11_triesRefused_104 rfl rfl ?_
        refine SF_lcmp 106 dX11_triesRefused_105 rfl ?_
        refine SF_ifle 112 109 dX11_triesRefused_106 rfl rfl (fun c8 => ?_) (fun c8 => ?_)
        · have h := ite_t c8 h
          refine SF_iinc 2 (l4 + (1 : Int32)) [(4, .int (l4 + (1 : Int32))), (5, .long v2), (3, .ref (ad X l3))] 115 dX11_triesRefused_112 rfl rfl (by decide) rfl rfl ?_
          refine SF_goto 61 dX11_triesRefused_115 rfl ?_
          refine SF_sub [2, 0] rfl ?_
          exact ih l3 (l4 + (1 : Int32)) g3 k_l3 h
        · have h := ite_f c8 h
          refine SF_bipush (-3 : Int32) 111 dX11_triesRefused_109 rfl rfl ?_
          exact RT_i rfl dX11_triesRefused_111 h

set_option maxRecDepth 20000 in
set_option maxHeartbeats 2000000 in
theorem w_X11_triesRefused {X : CX} {d : Nat} (hd : 1 ≤ d) (l0 : Nat) (l1 : Int32) (l2 : Int32) (g g' : G) (rx : Int32) (k_l0 : KD g l0 11) (h : f_X11_triesRefused l0 l1 l2 g = some (rx, g')) : Sem X m_X11_triesRefused d [.ref (ad X l0), .int l1, .int l2] g (some (.int rx)) g' := by
  refine Sem_of (lo := [(0, .ref (ad X l0)), (1, .int l1), (2, .int l2)]) (by decide +kernel) rfl (Nat.le_of_ble_eq_true rfl) ?_
  rw [f_X11_triesRefused] at h
  refine SF_iload_n 1 1 dX11_triesRefused_0 rfl rfl rfl ?_
  obtain ⟨v1, g2, q3, h⟩ := bd_some h
  have s4 := w_X11_isTray (X := X) (Nat.le_refl 0) l1 g g2 v1 q3
  refine SF_callSb 4 mi_X11_isTray ml_X11_219 dX11_triesRefused_1 (Nat.le_trans (by decide) hd) s4 rfl rfl (Nat.le_of_ble_eq_true rfl) rfl ?_
  have k_l0 := k_l0.ext s4.1
  refine SF_ifeq 18 7 dX11_triesRefused_4 rfl rfl (fun c5 => ?_) (fun c5 => ?_)
  · have h := ite_t c5 h
    refine SF_bipush (-2 : Int32) 20 dX11_triesRefused_18 rfl rfl ?_
    exact RT_i rfl dX11_triesRefused_20 h
  · have h := ite_f c5 h
    refine SF_aload_n 0 8 dX11_triesRefused_7 rfl rfl rfl ?_
    obtain ⟨b6, r7, h⟩ := dr_some h
    refine SF_getR 11 fl_X11_78 dX11_triesRefused_8 k_l0.1 r7 rfl ?_
    refine SF_iload_n 2 12 dX11_triesRefused_11 rfl rfl rfl ?_
    obtain ⟨k8, h⟩ := gdK_some h
    obtain ⟨v9, g10, q11, h⟩ := bd_some h
    have s12 := w_X0_isPair (X := X) (Nat.le_refl 0) b6 l2 g2 g10 v9 k8 q11
    refine SF_callVb 15 mi_X0_isPair ml_X11_161 dX11_triesRefused_12 (Nat.le_trans (by decide) hd) s12 k8.1 rfl rfl (Nat.le_of_ble_eq_true rfl) rfl ?_
    have k_l0 := k_l0.ext s12.1
    have k8 := k8.ext s12.1
    refine SF_ifne 21 18 dX11_triesRefused_15 rfl rfl (fun c13 => ?_) (fun c13 => ?_)
    · have h := ite_f c13 h
      refine SF_aload_n 0 22 dX11_triesRefused_21 rfl rfl rfl ?_
      obtain ⟨b14, r15, h⟩ := dr_some h
      refine SF_getR 25 fl_X11_60 dX11_triesRefused_22 k_l0.1 r15 rfl ?_
      refine SF_iload_n 1 26 dX11_triesRefused_25 rfl rfl rfl ?_
      obtain ⟨k16, h⟩ := gdK_some h
      obtain ⟨i17, h⟩ := gdI_some h
      obtain ⟨b18, r19, h⟩ := dr_some h
      refine SF_aald 27 dX11_triesRefused_26 k16.1 (Or.inr (Or.inl rfl)) i17 r19 rfl ?_
      refine SF_astore_n [(3, .ref (ad X b18)), (0, .ref (ad X l0)), (1, .int l1), (2, .int l2)] 28 dX11_triesRefused_27 rfl (by decide) rfl rfl ?_
      refine SF_aload_n 0 29 dX11_triesRefused_28 rfl rfl rfl ?_
      obtain ⟨k20, h⟩ := gdK_some h
      obtain ⟨v21, g22, q23, h⟩ := bd_some h
      have s24 := w_X10_isMissing (X := X) (Nat.le_refl 0) b18 g10 g22 v21 k20 q23
      refine SF_callVb 32 mi_X10_isMissing ml_X11_222 dX11_triesRefused_29 (Nat.le_trans (by decide) hd) s24 k20.1 rfl rfl (Nat.le_of_ble_eq_true rfl) rfl ?_
      have k_l0 := k_l0.ext s24.1
      have k8 := k8.ext s24.1
      have k16 := k16.ext s24.1
      have k20 := k20.ext s24.1
      refine SF_ifeq 38 35 dX11_triesRefused_32 rfl rfl (fun c25 => ?_) (fun c25 => ?_)
      · have h := ite_t c25 h
        refine SF_aload_n 0 39 dX11_triesRefused_38 rfl rfl rfl ?_
        refine SF_getI 42 fl_X11_226 dX11_triesRefused_39 k20.1 rfl ?_
        refine SF_iconst (1 : Int32) 43 dX11_triesRefused_42 rfl rfl ?_
        refine SF_iclt 55 46 dX11_triesRefused_43 rfl rfl (fun c26 => ?_) (fun c26 => ?_)
        · have h := ite_t c26 h
          refine SF_bipush (-4 : Int32) 57 dX11_triesRefused_55 rfl rfl ?_
          exact RT_i rfl dX11_triesRefused_57 h
        · have h := ite_f c26 h
          refine SF_aload_n 0 47 dX11_triesRefused_46 rfl rfl rfl ?_
          refine SF_getI 50 fl_X11_226 dX11_triesRefused_47 k20.1 rfl ?_
          refine SF_bipush (12 : Int32) 52 dX11_triesRefused_50 rfl rfl ?_
          refine SF_icle 58 55 dX11_triesRefused_52 rfl rfl (fun c27 => ?_) (fun c27 => ?_)
          · have h := ite_t c27 h
            refine SF_iconst (0 : Int32) 59 dX11_triesRefused_58 rfl rfl ?_
            refine SF_istore [(4, .int (0 : Int32)), (3, .ref (ad X b18)), (0, .ref (ad X l0)), (1, .int l1), (2, .int l2)] 61 dX11_triesRefused_59 (by decide) rfl rfl ?_
            refine SF_sub [1, 0] rfl ?_
            exact w_X11_triesRefused_61 hd FU b18 (0 : Int32) g22 k20 h
          · have h := ite_f c27 h
            refine SF_bipush (-4 : Int32) 57 dX11_triesRefused_55 rfl rfl ?_
            exact RT_i rfl dX11_triesRefused_57 h
      · have h := ite_f c25 h
        refine SF_bipush (-6 : Int32) 37 dX11_triesRefused_35 rfl rfl ?_
        exact RT_i rfl dX11_triesRefused_37 h
    · have h := ite_t c13 h
      refine SF_bipush (-2 : Int32) 20 dX11_triesRefused_18 rfl rfl ?_
      exact RT_i rfl dX11_triesRefused_20 h

theorem dX9_behind_0 : decode cX9_behind 0 = .ok (.iload_n 2, 1) := by decide +kernel
theorem dX9_behind_1 : decode cX9_behind 1 = .ok (.bipush 64, 2) := by decide +kernel
theorem dX9_behind_3 : decode cX9_behind 3 = .ok (.imul, 1) := by decide +kernel
theorem dX9_behind_4 : decode cX9_behind 4 = .ok (.iload_n 3, 1) := by decide +kernel
theorem dX9_behind_5 : decode cX9_behind 5 = .ok (.iadd, 1) := by decide +kernel
theorem dX9_behind_6 : decode cX9_behind 6 = .ok (.istore 4, 2) := by decide +kernel
theorem dX9_behind_8 : decode cX9_behind 8 = .ok (.iconst 0, 1) := by decide +kernel
theorem dX9_behind_9 : decode cX9_behind 9 = .ok (.istore 5, 2) := by decide +kernel
theorem dX9_behind_11 : decode cX9_behind 11 = .ok (.iload 5, 2) := by decide +kernel
theorem dX9_behind_13 : decode cX9_behind 13 = .ok (.aload_n 1, 1) := by decide +kernel
theorem dX9_behind_14 : decode cX9_behind 14 = .ok (.getfield 176, 3) := by decide +kernel
theorem dX9_behind_17 : decode cX9_behind 17 = .ok (.if_icmp .ge 79, 3) := by decide +kernel
theorem dX9_behind_20 : decode cX9_behind 20 = .ok (.aload_n 1, 1) := by decide +kernel
theorem dX9_behind_21 : decode cX9_behind 21 = .ok (.iload 5, 2) := by decide +kernel
theorem dX9_behind_23 : decode cX9_behind 23 = .ok (.invokevirtual 181, 3) := by decide +kernel
theorem dX9_behind_26 : decode cX9_behind 26 = .ok (.l2i, 1) := by decide +kernel
theorem dX9_behind_27 : decode cX9_behind 27 = .ok (.istore 6, 2) := by decide +kernel
theorem dX9_behind_29 : decode cX9_behind 29 = .ok (.aload_n 0, 1) := by decide +kernel
theorem dX9_behind_30 : decode cX9_behind 30 = .ok (.iload 4, 2) := by decide +kernel
theorem dX9_behind_32 : decode cX9_behind 32 = .ok (.iconst 0, 1) := by decide +kernel
theorem dX9_behind_33 : decode cX9_behind 33 = .ok (.iload 6, 2) := by decide +kernel
theorem dX9_behind_35 : decode cX9_behind 35 = .ok (.bipush 10, 2) := by decide +kernel
theorem dX9_behind_37 : decode cX9_behind 37 = .ok (.idiv, 1) := by decide +kernel
theorem dX9_behind_38 : decode cX9_behind 38 = .ok (.invokevirtual 184, 3) := by decide +kernel
theorem dX9_behind_41 : decode cX9_behind 41 = .ok (.istore 7, 2) := by decide +kernel
theorem dX9_behind_43 : decode cX9_behind 43 = .ok (.iload 7, 2) := by decide +kernel
theorem dX9_behind_45 : decode cX9_behind 45 = .ok (.ifCond .lt 7, 3) := by decide +kernel
theorem dX9_behind_48 : decode cX9_behind 48 = .ok (.iconst 1, 1) := by decide +kernel
theorem dX9_behind_49 : decode cX9_behind 49 = .ok (.goto 4, 3) := by decide +kernel
theorem dX9_behind_52 : decode cX9_behind 52 = .ok (.iconst 0, 1) := by decide +kernel
theorem dX9_behind_53 : decode cX9_behind 53 = .ok (.istore 8, 2) := by decide +kernel
theorem dX9_behind_55 : decode cX9_behind 55 = .ok (.iload 8, 2) := by decide +kernel
theorem dX9_behind_57 : decode cX9_behind 57 = .ok (.iload 6, 2) := by decide +kernel
theorem dX9_behind_59 : decode cX9_behind 59 = .ok (.bipush 10, 2) := by decide +kernel
theorem dX9_behind_61 : decode cX9_behind 61 = .ok (.irem, 1) := by decide +kernel
theorem dX9_behind_62 : decode cX9_behind 62 = .ok (.iconst 1, 1) := by decide +kernel
theorem dX9_behind_63 : decode cX9_behind 63 = .ok (.if_icmp .ne 7, 3) := by decide +kernel
theorem dX9_behind_66 : decode cX9_behind 66 = .ok (.iconst 1, 1) := by decide +kernel
theorem dX9_behind_67 : decode cX9_behind 67 = .ok (.goto 4, 3) := by decide +kernel
theorem dX9_behind_70 : decode cX9_behind 70 = .ok (.iconst 0, 1) := by decide +kernel
theorem dX9_behind_71 : decode cX9_behind 71 = .ok (.if_icmp .eq 5, 3) := by decide +kernel
theorem dX9_behind_74 : decode cX9_behind 74 = .ok (.iconst (-1), 1) := by decide +kernel
theorem dX9_behind_75 : decode cX9_behind 75 = .ok (.ireturn, 1) := by decide +kernel
theorem dX9_behind_76 : decode cX9_behind 76 = .ok (.iload 8, 2) := by decide +kernel
theorem dX9_behind_78 : decode cX9_behind 78 = .ok (.ifCond .eq 8, 3) := by decide +kernel
theorem dX9_behind_81 : decode cX9_behind 81 = .ok (.iload 7, 2) := by decide +kernel
theorem dX9_behind_83 : decode cX9_behind 83 = .ok (.goto 5, 3) := by decide +kernel
theorem dX9_behind_86 : decode cX9_behind 86 = .ok (.iload 4, 2) := by decide +kernel
theorem dX9_behind_88 : decode cX9_behind 88 = .ok (.istore 4, 2) := by decide +kernel
theorem dX9_behind_90 : decode cX9_behind 90 = .ok (.iinc 5 1, 3) := by decide +kernel
theorem dX9_behind_93 : decode cX9_behind 93 = .ok (.goto (-82), 3) := by decide +kernel
theorem dX9_behind_96 : decode cX9_behind 96 = .ok (.iload 4, 2) := by decide +kernel
theorem dX9_behind_98 : decode cX9_behind 98 = .ok (.ireturn, 1) := by decide +kernel
set_option maxRecDepth 20000 in
set_option maxHeartbeats 2000000 in
theorem w_X9_behind_88 {X : CX} {d : Nat} (hd : 5 ≤ d) {g' : G} {rx : Int32} (k11 : Nat → Nat → Int32 → Int32 → G → Option (Int32 × G)) (hk11 : ∀ (l0 : Nat) (l1 : Nat) (l4 : Int32) (l5 : Int32) (g : G), KD g l0 9 → KD g l1 10 → k11 l0 l1 l4 l5 g = some (rx, g') → SemF X m_X9_behind d 11 [(0, .ref (ad X l0)), (1, .ref (ad X l1)), (4, .int l4), (5, .int l5)] [] g (some (.int rx)) g') (l0 : Nat) (l1 : Nat) (l5 : Int32) (s0 : Int32) (g : G) (k_l0 : KD g l0 9) (k_l1 : KD g l1 10) (h : f_X9_behind_88 k11 l0 l1 l5 s0 g = some (rx, g')) : SemF X m_X9_behind d 88 [(0, .ref (ad X l0)), (1, .ref (ad X l1)), (5, .int l5)] [.int s0] g (some (.int rx)) g' := by
  rw [f_X9_behind_88] at h
  refine SF_istore [(4, .int s0), (0, .ref (ad X l0)), (1, .ref (ad X l1)), (5, .int l5)] 90 dX9_behind_88 (by decide) rfl rfl ?_
  refine SF_iinc 3 (l5 + (1 : Int32)) [(5, .int (l5 + (1 : Int32))), (4, .int s0), (0, .ref (ad X l0)), (1, .ref (ad X l1))] 93 dX9_behind_90 rfl rfl (by decide) rfl rfl ?_
  refine SF_goto 11 dX9_behind_93 rfl ?_
  refine SF_sub [2, 3, 1, 0] rfl ?_
  exact hk11 l0 l1 s0 (l5 + (1 : Int32)) g k_l0 k_l1 h

set_option maxRecDepth 20000 in
set_option maxHeartbeats 2000000 in
theorem w_X9_behind_71 {X : CX} {d : Nat} (hd : 5 ≤ d) {g' : G} {rx : Int32} (k11 : Nat → Nat → Int32 → Int32 → G → Option (Int32 × G)) (hk11 : ∀ (l0 : Nat) (l1 : Nat) (l4 : Int32) (l5 : Int32) (g : G), KD g l0 9 → KD g l1 10 → k11 l0 l1 l4 l5 g = some (rx, g') → SemF X m_X9_behind d 11 [(0, .ref (ad X l0)), (1, .ref (ad X l1)), (4, .int l4), (5, .int l5)] [] g (some (.int rx)) g') (l0 : Nat) (l1 : Nat) (l4 : Int32) (l5 : Int32) (l7 : Int32) (l8 : Int32) (s0 : Int32) (s1 : Int32) (g : G) (k_l0 : KD g l0 9) (k_l1 : KD g l1 10) (h : f_X9_behind_71 k11 l0 l1 l4 l5 l7 l8 s0 s1 g = some (rx, g')) : SemF X m_X9_behind d 71 [(0, .ref (ad X l0)), (1, .ref (ad X l1)), (4, .int l4), (5, .int l5), (7, .int l7), (8, .int l8)] [.int s0, .int s1] g (some (.int rx)) g' := by
  rw [f_X9_behind_71] at h
  refine SF_iceq 76 74 dX9_behind_71 rfl rfl (fun c1 => ?_) (fun c1 => ?_)
  · have h := ite_t c1 h
    refine SF_iload 5 78 dX9_behind_76 rfl rfl ?_
    refine SF_ifeq 86 81 dX9_behind_78 rfl rfl (fun c2 => ?_) (fun c2 => ?_)
    · have h := ite_t c2 h
      refine SF_iload 2 88 dX9_behind_86 rfl rfl ?_
      refine SF_sub [0, 1, 3] rfl ?_
      exact w_X9_behind_88 hd k11 hk11 l0 l1 l5 l4 g k_l0 k_l1 h
    · have h := ite_f c2 h
      refine SF_iload 4 83 dX9_behind_81 rfl rfl ?_
      refine SF_goto 88 dX9_behind_83 rfl ?_
      refine SF_sub [0, 1, 3] rfl ?_
      exact w_X9_behind_88 hd k11 hk11 l0 l1 l5 l7 g k_l0 k_l1 h
  · have h := ite_f c1 h
    refine SF_iconst (-1 : Int32) 75 dX9_behind_74 rfl rfl ?_
    exact RT_i rfl dX9_behind_75 h

set_option maxRecDepth 20000 in
set_option maxHeartbeats 2000000 in
theorem w_X9_behind_53 {X : CX} {d : Nat} (hd : 5 ≤ d) {g' : G} {rx : Int32} (k11 : Nat → Nat → Int32 → Int32 → G → Option (Int32 × G)) (hk11 : ∀ (l0 : Nat) (l1 : Nat) (l4 : Int32) (l5 : Int32) (g : G), KD g l0 9 → KD g l1 10 → k11 l0 l1 l4 l5 g = some (rx, g') → SemF X m_X9_behind d 11 [(0, .ref (ad X l0)), (1, .ref (ad X l1)), (4, .int l4), (5, .int l5)] [] g (some (.int rx)) g') (l0 : Nat) (l1 : Nat) (l4 : Int32) (l5 : Int32) (l6 : Int32) (l7 : Int32) (s0 : Int32) (g : G) (k_l0 : KD g l0 9) (k_l1 : KD g l1 10) (h : f_X9_behind_53 k11 l0 l1 l4 l5 l6 l7 s0 g = some (rx, g')) : SemF X m_X9_behind d 53 [(0, .ref (ad X l0)), (1, .ref (ad X l1)), (4, .int l4), (5, .int l5), (6, .int l6), (7, .int l7)] [.int s0] g (some (.int rx)) g' := by
  rw [f_X9_behind_53] at h
  refine SF_istore [(8, .int s0), (0, .ref (ad X l0)), (1, .ref (ad X l1)), (4, .int l4), (5, .int l5), (6, .int l6), (7, .int l7)] 55 dX9_behind_53 (by decide) rfl rfl ?_
  refine SF_iload 0 57 dX9_behind_55 rfl rfl ?_
  refine SF_iload 5 59 dX9_behind_57 rfl rfl ?_
  refine SF_bipush (10 : Int32) 61 dX9_behind_59 rfl rfl ?_
  refine SF_irem 62 dX9_behind_61 (by decide) rfl ?_
  refine SF_iconst (1 : Int32) 63 dX9_behind_62 rfl rfl ?_
  refine SF_icne 70 66 dX9_behind_63 rfl rfl (fun c1 => ?_) (fun c1 => ?_)
  · have h := ite_f c1 h
    refine SF_iconst (0 : Int32) 71 dX9_behind_70 rfl rfl ?_
    refine SF_sub [1, 2, 3, 4, 6, 0] rfl ?_
    exact w_X9_behind_71 hd k11 hk11 l0 l1 l4 l5 l7 s0 (0 : Int32) s0 g k_l0 k_l1 h
  · have h := ite_t c1 h
    refine SF_iconst (1 : Int32) 67 dX9_behind_66 rfl rfl ?_
    refine SF_goto 71 dX9_behind_67 rfl ?_
    refine SF_sub [1, 2, 3, 4, 6, 0] rfl ?_
    exact w_X9_behind_71 hd k11 hk11 l0 l1 l4 l5 l7 s0 (1 : Int32) s0 g k_l0 k_l1 h

set_option maxRecDepth 20000 in
set_option maxHeartbeats 2000000 in
theorem w_X9_behind_11 {X : CX} {d : Nat} (hd : 5 ≤ d) {g' : G} {rx : Int32} : ∀ (n : Nat) (l0 : Nat) (l1 : Nat) (l4 : Int32) (l5 : Int32) (g : G), KD g l0 9 → KD g l1 10 → f_X9_behind_11 n l0 l1 l4 l5 g = some (rx, g') → SemF X m_X9_behind d 11 [(0, .ref (ad X l0)), (1, .ref (ad X l1)), (4, .int l4), (5, .int l5)] [] g (some (.int rx)) g' := by
  intro n
  induction n with
  | zero =>
    intro l0 l1 l4 l5 g k_l0 k_l1 h
    rw [f_X9_behind_11] at h
    cases h
  | succ n ih =>
  intro l0 l1 l4 l5 g k_l0 k_l1 h
  rw [f_X9_behind_11] at h
  refine SF_iload 3 13 dX9_behind_11 rfl rfl ?_
  refine SF_aload_n 1 14 dX9_behind_13 rfl rfl rfl ?_
  refine SF_getI 17 fl_X9_176 dX9_behind_14 k_l1.1 rfl ?_
  refine SF_icge 96 20 dX9_behind_17 rfl rfl (fun c1 => ?_) (fun c1 => ?_)
  · have h := ite_t c1 h
    refine SF_iload 2 98 dX9_behind_96 rfl rfl ?_
    exact RT_i rfl dX9_behind_98 h
  · have h := ite_f c1 h
    refine SF_aload_n 1 21 dX9_behind_20 rfl rfl rfl ?_
    refine SF_iload 3 23 dX9_behind_21 rfl rfl ?_
    obtain ⟨v2, g3, q4, h⟩ := bd_some h
    have s5 := w_X10_at (X := X) (Nat.le_refl 0) l1 l5 g g3 v2 k_l1 q4
    refine SF_callVl 26 mi_X10_at ml_X9_181 dX9_behind_23 (Nat.le_trans (by decide) hd) s5 k_l1.1 rfl rfl (Nat.le_of_ble_eq_true rfl) rfl ?_
    have k_l0 := k_l0.ext s5.1
    have k_l1 := k_l1.ext s5.1
    refine SF_l2i 27 dX9_behind_26 rfl ?_
    obtain ⟨y6, e7, h⟩ := li_some h
    refine SF_eqI e7 ?_
    refine SF_istore [(6, .int y6), (0, .ref (ad X l0)), (1, .ref (ad X l1)), (4, .int l4), (5, .int l5)] 29 dX9_behind_27 (by decide) rfl rfl ?_
    refine SF_aload_n 1 30 dX9_behind_29 rfl rfl rfl ?_
    refine SF_iload 3 32 dX9_behind_30 rfl rfl ?_
    refine SF_iconst (0 : Int32) 33 dX9_behind_32 rfl rfl ?_
    refine SF_iload 0 35 dX9_behind_33 rfl rfl ?_
    refine SF_bipush (10 : Int32) 37 dX9_behind_35 rfl rfl ?_
    refine SF_idiv 38 dX9_behind_37 (by decide) rfl ?_
    obtain ⟨v8, g9, q10, h⟩ := bd_some h
    have s11 := w_X9_step (X := X) (Nat.le_refl 4) l0 l4 (0 : Int32) (y6 / (10 : Int32)) g3 g9 v8 k_l0 q10
    refine SF_callVi 41 mi_X9_step ml_X9_184 dX9_behind_38 (Nat.le_trans (by decide) hd) s11 k_l0.1 rfl rfl (Nat.le_of_ble_eq_true rfl) rfl ?_
    have k_l0 := k_l0.ext s11.1
    have k_l1 := k_l1.ext s11.1
    refine SF_istore [(7, .int v8), (6, .int y6), (0, .ref (ad X l0)), (1, .ref (ad X l1)), (4, .int l4), (5, .int l5)] 43 dX9_behind_41 (by decide) rfl rfl ?_
    refine SF_iload 0 45 dX9_behind_43 rfl rfl ?_
    refine SF_iflt 52 48 dX9_behind_45 rfl rfl (fun c12 => ?_) (fun c12 => ?_)
    · have h := ite_t c12 h
      refine SF_iconst (0 : Int32) 53 dX9_behind_52 rfl rfl ?_
      refine SF_sub [2, 3, 4, 5, 1, 0] rfl ?_
      exact w_X9_behind_53 hd (f_X9_behind_11 n) ih l0 l1 l4 l5 y6 v8 (0 : Int32) g9 k_l0 k_l1 h
    · have h := ite_f c12 h
      refine SF_iconst (1 : Int32) 49 dX9_behind_48 rfl rfl ?_
      refine SF_goto 53 dX9_behind_49 rfl ?_
      refine SF_sub [2, 3, 4, 5, 1, 0] rfl ?_
      exact w_X9_behind_53 hd (f_X9_behind_11 n) ih l0 l1 l4 l5 y6 v8 (1 : Int32) g9 k_l0 k_l1 h

set_option maxRecDepth 20000 in
set_option maxHeartbeats 2000000 in
theorem w_X9_behind {X : CX} {d : Nat} (hd : 5 ≤ d) (l0 : Nat) (l1 : Nat) (l2 : Int32) (l3 : Int32) (g g' : G) (rx : Int32) (k_l0 : KD g l0 9) (k_l1 : KD g l1 10) (h : f_X9_behind l0 l1 l2 l3 g = some (rx, g')) : Sem X m_X9_behind d [.ref (ad X l0), .ref (ad X l1), .int l2, .int l3] g (some (.int rx)) g' := by
  refine Sem_of (lo := [(0, .ref (ad X l0)), (1, .ref (ad X l1)), (2, .int l2), (3, .int l3)]) (by decide +kernel) rfl (Nat.le_of_ble_eq_true rfl) ?_
  rw [f_X9_behind] at h
  refine SF_iload_n 2 1 dX9_behind_0 rfl rfl rfl ?_
  refine SF_bipush (64 : Int32) 3 dX9_behind_1 rfl rfl ?_
  refine SF_imul 4 dX9_behind_3 rfl ?_
  refine SF_iload_n 3 5 dX9_behind_4 rfl rfl rfl ?_
  refine SF_iadd 6 dX9_behind_5 rfl ?_
  obtain ⟨y1, e2, h⟩ := li_some h
  refine SF_eqI e2 ?_
  refine SF_istore [(4, .int y1), (0, .ref (ad X l0)), (1, .ref (ad X l1)), (2, .int l2), (3, .int l3)] 8 dX9_behind_6 (by decide) rfl rfl ?_
  refine SF_iconst (0 : Int32) 9 dX9_behind_8 rfl rfl ?_
  refine SF_istore [(5, .int (0 : Int32)), (4, .int y1), (0, .ref (ad X l0)), (1, .ref (ad X l1)), (2, .int l2), (3, .int l3)] 11 dX9_behind_9 (by decide) rfl rfl ?_
  refine SF_sub [2, 3, 1, 0] rfl ?_
  exact w_X9_behind_11 hd FU l0 l1 y1 (0 : Int32) g k_l0 k_l1 h

theorem dX11_cellsTried_0 : decode cX11_cellsTried 0 = .ok (.aload_n 0, 1) := by decide +kernel
theorem dX11_cellsTried_1 : decode cX11_cellsTried 1 = .ok (.getfield 78, 3) := by decide +kernel
theorem dX11_cellsTried_4 : decode cX11_cellsTried 4 = .ok (.iload_n 2, 1) := by decide +kernel
theorem dX11_cellsTried_5 : decode cX11_cellsTried 5 = .ok (.invokevirtual 183, 3) := by decide +kernel
theorem dX11_cellsTried_8 : decode cX11_cellsTried 8 = .ok (.istore_n 3, 1) := by decide +kernel
theorem dX11_cellsTried_9 : decode cX11_cellsTried 9 = .ok (.aload_n 0, 1) := by decide +kernel
theorem dX11_cellsTried_10 : decode cX11_cellsTried 10 = .ok (.getfield 95, 3) := by decide +kernel
theorem dX11_cellsTried_13 : decode cX11_cellsTried 13 = .ok (.aload_n 0, 1) := by decide +kernel
theorem dX11_cellsTried_14 : decode cX11_cellsTried 14 = .ok (.getfield 78, 3) := by decide +kernel
theorem dX11_cellsTried_17 : decode cX11_cellsTried 17 = .ok (.iload_n 2, 1) := by decide +kernel
theorem dX11_cellsTried_18 : decode cX11_cellsTried 18 = .ok (.invokevirtual 306, 3) := by decide +kernel
theorem dX11_cellsTried_21 : decode cX11_cellsTried 21 = .ok (.aload_n 0, 1) := by decide +kernel
theorem dX11_cellsTried_22 : decode cX11_cellsTried 22 = .ok (.getfield 95, 3) := by decide +kernel
theorem dX11_cellsTried_25 : decode cX11_cellsTried 25 = .ok (.getfield 310, 3) := by decide +kernel
theorem dX11_cellsTried_28 : decode cX11_cellsTried 28 = .ok (.aload_n 0, 1) := by decide +kernel
theorem dX11_cellsTried_29 : decode cX11_cellsTried 29 = .ok (.getfield 95, 3) := by decide +kernel
theorem dX11_cellsTried_32 : decode cX11_cellsTried 32 = .ok (.aload_n 0, 1) := by decide +kernel
theorem dX11_cellsTried_33 : decode cX11_cellsTried 33 = .ok (.getfield 78, 3) := by decide +kernel
theorem dX11_cellsTried_36 : decode cX11_cellsTried 36 = .ok (.getfield 167, 3) := by decide +kernel
theorem dX11_cellsTried_39 : decode cX11_cellsTried 39 = .ok (.iload_n 2, 1) := by decide +kernel
theorem dX11_cellsTried_40 : decode cX11_cellsTried 40 = .ok (.iaload, 1) := by decide +kernel
theorem dX11_cellsTried_41 : decode cX11_cellsTried 41 = .ok (.iload_n 3, 1) := by decide +kernel
theorem dX11_cellsTried_42 : decode cX11_cellsTried 42 = .ok (.bipush 64, 2) := by decide +kernel
theorem dX11_cellsTried_44 : decode cX11_cellsTried 44 = .ok (.idiv, 1) := by decide +kernel
theorem dX11_cellsTried_45 : decode cX11_cellsTried 45 = .ok (.invokevirtual 343, 3) := by decide +kernel
theorem dX11_cellsTried_48 : decode cX11_cellsTried 48 = .ok (.land, 1) := by decide +kernel
theorem dX11_cellsTried_49 : decode cX11_cellsTried 49 = .ok (.lstore 4, 2) := by decide +kernel
theorem dX11_cellsTried_51 : decode cX11_cellsTried 51 = .ok (.lconst 0, 1) := by decide +kernel
theorem dX11_cellsTried_52 : decode cX11_cellsTried 52 = .ok (.lstore 6, 2) := by decide +kernel
theorem dX11_cellsTried_54 : decode cX11_cellsTried 54 = .ok (.iconst 0, 1) := by decide +kernel
theorem dX11_cellsTried_55 : decode cX11_cellsTried 55 = .ok (.istore 8, 2) := by decide +kernel
theorem dX11_cellsTried_57 : decode cX11_cellsTried 57 = .ok (.iload 8, 2) := by decide +kernel
theorem dX11_cellsTried_59 : decode cX11_cellsTried 59 = .ok (.bipush 36, 2) := by decide +kernel
theorem dX11_cellsTried_61 : decode cX11_cellsTried 61 = .ok (.if_icmp .ge 52, 3) := by decide +kernel
theorem dX11_cellsTried_64 : decode cX11_cellsTried 64 = .ok (.lload 4, 2) := by decide +kernel
theorem dX11_cellsTried_66 : decode cX11_cellsTried 66 = .ok (.iload 8, 2) := by decide +kernel
theorem dX11_cellsTried_68 : decode cX11_cellsTried 68 = .ok (.lushr, 1) := by decide +kernel
theorem dX11_cellsTried_69 : decode cX11_cellsTried 69 = .ok (.lconst 1, 1) := by decide +kernel
theorem dX11_cellsTried_70 : decode cX11_cellsTried 70 = .ok (.land, 1) := by decide +kernel
theorem dX11_cellsTried_71 : decode cX11_cellsTried 71 = .ok (.lconst 0, 1) := by decide +kernel
theorem dX11_cellsTried_72 : decode cX11_cellsTried 72 = .ok (.lcmp, 1) := by decide +kernel
theorem dX11_cellsTried_73 : decode cX11_cellsTried 73 = .ok (.ifCond .eq 34, 3) := by decide +kernel
theorem dX11_cellsTried_76 : decode cX11_cellsTried 76 = .ok (.aload_n 0, 1) := by decide +kernel
theorem dX11_cellsTried_77 : decode cX11_cellsTried 77 = .ok (.getfield 95, 3) := by decide +kernel
theorem dX11_cellsTried_80 : decode cX11_cellsTried 80 = .ok (.aload_n 0, 1) := by decide +kernel
theorem dX11_cellsTried_81 : decode cX11_cellsTried 81 = .ok (.getfield 60, 3) := by decide +kernel
theorem dX11_cellsTried_84 : decode cX11_cellsTried 84 = .ok (.iload_n 1, 1) := by decide +kernel
theorem dX11_cellsTried_85 : decode cX11_cellsTried 85 = .ok (.aaload, 1) := by decide +kernel
theorem dX11_cellsTried_86 : decode cX11_cellsTried 86 = .ok (.iload_n 3, 1) := by decide +kernel
theorem dX11_cellsTried_87 : decode cX11_cellsTried 87 = .ok (.bipush 64, 2) := by decide +kernel
theorem dX11_cellsTried_89 : decode cX11_cellsTried 89 = .ok (.idiv, 1) := by decide +kernel
theorem dX11_cellsTried_90 : decode cX11_cellsTried 90 = .ok (.iload 8, 2) := by decide +kernel
theorem dX11_cellsTried_92 : decode cX11_cellsTried 92 = .ok (.invokevirtual 370, 3) := by decide +kernel
theorem dX11_cellsTried_95 : decode cX11_cellsTried 95 = .ok (.ifCond .lt 12, 3) := by decide +kernel
theorem dX11_cellsTried_98 : decode cX11_cellsTried 98 = .ok (.lload 6, 2) := by decide +kernel
theorem dX11_cellsTried_100 : decode cX11_cellsTried 100 = .ok (.lconst 1, 1) := by decide +kernel
theorem dX11_cellsTried_101 : decode cX11_cellsTried 101 = .ok (.iload 8, 2) := by decide +kernel
theorem dX11_cellsTried_103 : decode cX11_cellsTried 103 = .ok (.lshl, 1) := by decide +kernel
theorem dX11_cellsTried_104 : decode cX11_cellsTried 104 = .ok (.lor, 1) := by decide +kernel
theorem dX11_cellsTried_105 : decode cX11_cellsTried 105 = .ok (.lstore 6, 2) := by decide +kernel
theorem dX11_cellsTried_107 : decode cX11_cellsTried 107 = .ok (.iinc 8 1, 3) := by decide +kernel
theorem dX11_cellsTried_110 : decode cX11_cellsTried 110 = .ok (.goto (-53), 3) := by decide +kernel
theorem dX11_cellsTried_113 : decode cX11_cellsTried 113 = .ok (.lload 6, 2) := by decide +kernel
theorem dX11_cellsTried_115 : decode cX11_cellsTried 115 = .ok (.lreturn, 1) := by decide +kernel
set_option maxRecDepth 20000 in
set_option maxHeartbeats 2000000 in
theorem w_X11_cellsTried_107 {X : CX} {d : Nat} (hd : 6 ≤ d) {g' : G} {rx : Int64} (k57 : Nat → Int32 → Int32 → Int64 → Int64 → Int32 → G → Option (Int64 × G)) (hk57 : ∀ (l0 : Nat) (l1 : Int32) (l3 : Int32) (l4 : Int64) (l6 : Int64) (l8 : Int32) (g : G), KD g l0 11 → k57 l0 l1 l3 l4 l6 l8 g = some (rx, g') → SemF X m_X11_cellsTried d 57 [(0, .ref (ad X l0)), (1, .int l1), (3, .int l3), (4, .long l4), (6, .long l6), (8, .int l8)] [] g (some (.long rx)) g') (l0 : Nat) (l1 : Int32) (l3 : Int32) (l4 : Int64) (l6 : Int64) (l8 : Int32) (g : G) (k_l0 : KD g l0 11) (h : f_X11_cellsTried_107 k57 l0 l1 l3 l4 l6 l8 g = some (rx, g')) : SemF X m_X11_cellsTried d 107 [(0, .ref (ad X l0)), (1, .int l1), (3, .int l3), (4, .long l4), (6, .long l6), (8, .int l8)] [] g (some (.long rx)) g' := by
  rw [f_X11_cellsTried_107] at h
  refine SF_iinc 5 (l8 + (1 : Int32)) [(8, .int (l8 + (1 : Int32))), (0, .ref (ad X l0)), (1, .int l1), (3, .int l3), (4, .long l4), (6, .long l6)] 110 dX11_cellsTried_107 rfl rfl (by decide) rfl rfl ?_
  refine SF_goto 57 dX11_cellsTried_110 rfl ?_
  refine SF_sub [1, 2, 3, 4, 5, 0] rfl ?_
  exact hk57 l0 l1 l3 l4 l6 (l8 + (1 : Int32)) g k_l0 h

set_option maxRecDepth 20000 in
set_option maxHeartbeats 2000000 in
theorem w_X11_cellsTried_57 {X : CX} {d : Nat} (hd : 6 ≤ d) {g' : G} {rx : Int64} : ∀ (n : Nat) (l0 : Nat) (l1 : Int32) (l3 : Int32) (l4 : Int64) (l6 : Int64) (l8 : Int32) (g : G), KD g l0 11 → f_X11_cellsTried_57 n l0 l1 l3 l4 l6 l8 g = some (rx, g') → SemF X m_X11_cellsTried d 57 [(0, .ref (ad X l0)), (1, .int l1), (3, .int l3), (4, .long l4), (6, .long l6), (8, .int l8)] [] g (some (.long rx)) g' := by
  intro n
  induction n with
  | zero =>
    intro l0 l1 l3 l4 l6 l8 g k_l0 h
    rw [f_X11_cellsTried_57] at h
    cases h
  | succ n ih =>
  intro l0 l1 l3 l4 l6 l8 g k_l0 h
  rw [f_X11_cellsTried_57] at h
  refine SF_iload 5 59 dX11_cellsTried_57 rfl rfl ?_
  refine SF_bipush (36 : Int32) 61 dX11_cellsTried_59 rfl rfl ?_
  refine SF_icge 113 64 dX11_cellsTried_61 rfl rfl (fun c1 => ?_) (fun c1 => ?_)
  · have h := ite_t c1 h
    refine SF_lload 4 115 dX11_cellsTried_113 rfl rfl ?_
    exact RT_l rfl dX11_cellsTried_115 h
  · have h := ite_f c1 h
    refine SF_lload 3 66 dX11_cellsTried_64 rfl rfl ?_
    refine SF_iload 5 68 dX11_cellsTried_66 rfl rfl ?_
    refine SF_lushr 69 dX11_cellsTried_68 rfl ?_
    refine SF_lconst (1 : Int64) 70 dX11_cellsTried_69 rfl rfl ?_
    refine SF_land 71 dX11_cellsTried_70 rfl ?_
    refine SF_lconst (0 : Int64) 72 dX11_cellsTried_71 rfl rfl ?_
    refine SF_lcmp 73 dX11_cellsTried_72 rfl ?_
    refine SF_ifeq 107 76 dX11_cellsTried_73 rfl rfl (fun c2 => ?_) (fun c2 => ?_)
    · have h := ite_t c2 h
      exact w_X11_cellsTried_107 hd (f_X11_cellsTried_57 n) ih l0 l1 l3 l4 l6 l8 g k_l0 h
    · have h := ite_f c2 h
      refine SF_aload_n 0 77 dX11_cellsTried_76 rfl rfl rfl ?_
      obtain ⟨b3, r4, h⟩ := dr_some h
      refine SF_getR 80 fl_X11_95 dX11_cellsTried_77 k_l0.1 r4 rfl ?_
      refine SF_aload_n 0 81 dX11_cellsTried_80 rfl rfl rfl ?_
      obtain ⟨b5, r6, h⟩ := dr_some h
      refine SF_getR 84 fl_X11_60 dX11_cellsTried_81 k_l0.1 r6 rfl ?_
      refine SF_iload_n 1 85 dX11_cellsTried_84 rfl rfl rfl ?_
      obtain ⟨k7, h⟩ := gdK_some h
      obtain ⟨i8, h⟩ := gdI_some h
      obtain ⟨b9, r10, h⟩ := dr_some h
      refine SF_aald 86 dX11_cellsTried_85 k7.1 (Or.inr (Or.inl rfl)) i8 r10 rfl ?_
      refine SF_iload_n 2 87 dX11_cellsTried_86 rfl rfl rfl ?_
      refine SF_bipush (64 : Int32) 89 dX11_cellsTried_87 rfl rfl ?_
      refine SF_idiv 90 dX11_cellsTried_89 (by decide) rfl ?_
      refine SF_iload 5 92 dX11_cellsTried_90 rfl rfl ?_
      obtain ⟨k11, h⟩ := gdK_some h
      obtain ⟨k12, h⟩ := gdK_some h
      obtain ⟨v13, g14, q15, h⟩ := bd_some h
      have s16 := w_X9_behind (X := X) (Nat.le_refl 5) b3 b9 (l3 / (64 : Int32)) l8 g g14 v13 k11 k12 q15
      refine SF_callVi 95 mi_X9_behind ml_X11_370 dX11_cellsTried_92 (Nat.le_trans (by decide) hd) s16 k11.1 rfl rfl (Nat.le_of_ble_eq_true rfl) rfl ?_
      have k_l0 := k_l0.ext s16.1
      have k7 := k7.ext s16.1
      have k11 := k11.ext s16.1
      have k12 := k12.ext s16.1
      refine SF_iflt 107 98 dX11_cellsTried_95 rfl rfl (fun c17 => ?_) (fun c17 => ?_)
      · have h := ite_t c17 h
        exact w_X11_cellsTried_107 hd (f_X11_cellsTried_57 n) ih l0 l1 l3 l4 l6 l8 g14 k_l0 h
      · have h := ite_f c17 h
        refine SF_lload 4 100 dX11_cellsTried_98 rfl rfl ?_
        refine SF_lconst (1 : Int64) 101 dX11_cellsTried_100 rfl rfl ?_
        refine SF_iload 5 103 dX11_cellsTried_101 rfl rfl ?_
        refine SF_lshl 104 dX11_cellsTried_103 rfl ?_
        refine SF_lor 105 dX11_cellsTried_104 rfl ?_
        obtain ⟨y18, e19, h⟩ := ll_some h
        refine SF_eqL e19 ?_
        refine SF_lstore [(6, .long y18), (0, .ref (ad X l0)), (1, .int l1), (3, .int l3), (4, .long l4), (8, .int l8)] 107 dX11_cellsTried_105 (by decide) rfl rfl ?_
        refine SF_sub [1, 2, 3, 4, 0, 5] rfl ?_
        exact w_X11_cellsTried_107 hd (f_X11_cellsTried_57 n) ih l0 l1 l3 l4 y18 l8 g14 k_l0 h

set_option maxRecDepth 20000 in
set_option maxHeartbeats 2000000 in
theorem w_X11_cellsTried {X : CX} {d : Nat} (hd : 6 ≤ d) (l0 : Nat) (l1 : Int32) (l2 : Int32) (g g' : G) (rx : Int64) (k_l0 : KD g l0 11) (h : f_X11_cellsTried l0 l1 l2 g = some (rx, g')) : Sem X m_X11_cellsTried d [.ref (ad X l0), .int l1, .int l2] g (some (.long rx)) g' := by
  refine Sem_of (lo := [(0, .ref (ad X l0)), (1, .int l1), (2, .int l2)]) (by decide +kernel) rfl (Nat.le_of_ble_eq_true rfl) ?_
  rw [f_X11_cellsTried] at h
  refine SF_aload_n 0 1 dX11_cellsTried_0 rfl rfl rfl ?_
  obtain ⟨b1, r2, h⟩ := dr_some h
  refine SF_getR 4 fl_X11_78 dX11_cellsTried_1 k_l0.1 r2 rfl ?_
  refine SF_iload_n 2 5 dX11_cellsTried_4 rfl rfl rfl ?_
  obtain ⟨k3, h⟩ := gdK_some h
  obtain ⟨v4, g5, q6, h⟩ := bd_some h
  have s7 := w_X0_standOf (X := X) (Nat.le_refl 1) b1 l2 g g5 v4 k3 q6
  refine SF_callVi 8 mi_X0_standOf ml_X11_183 dX11_cellsTried_5 (Nat.le_trans (by decide) hd) s7 k3.1 rfl rfl (Nat.le_of_ble_eq_true rfl) rfl ?_
  have k_l0 := k_l0.ext s7.1
  have k3 := k3.ext s7.1
  refine SF_istore_n [(3, .int v4), (0, .ref (ad X l0)), (1, .int l1), (2, .int l2)] 9 dX11_cellsTried_8 rfl (by decide) rfl rfl ?_
  refine SF_aload_n 1 10 dX11_cellsTried_9 rfl rfl rfl ?_
  obtain ⟨b8, r9, h⟩ := dr_some h
  refine SF_getR 13 fl_X11_95 dX11_cellsTried_10 k_l0.1 r9 rfl ?_
  refine SF_aload_n 1 14 dX11_cellsTried_13 rfl rfl rfl ?_
  obtain ⟨b10, r11, h⟩ := dr_some h
  refine SF_getR 17 fl_X11_78 dX11_cellsTried_14 k_l0.1 r11 rfl ?_
  refine SF_iload_n 3 18 dX11_cellsTried_17 rfl rfl rfl ?_
  obtain ⟨k12, h⟩ := gdK_some h
  obtain ⟨k13, h⟩ := gdK_some h
  obtain ⟨v14, g15, q16, h⟩ := bd_some h
  have s17 := w_X9_aim (X := X) (Nat.le_refl 3) b8 b10 l2 g5 g15 v14 k12 k13 q16
  refine SF_callVv 21 mi_X9_aim ml_X11_306 dX11_cellsTried_18 (Nat.le_trans (by decide) hd) s17 k12.1 rfl rfl (Nat.le_of_ble_eq_true rfl) rfl ?_
  have k_l0 := k_l0.ext s17.1
  have k3 := k3.ext s17.1
  have k12 := k12.ext s17.1
  have k13 := k13.ext s17.1
  refine SF_aload_n 1 22 dX11_cellsTried_21 rfl rfl rfl ?_
  obtain ⟨b18, r19, h⟩ := dr_some h
  refine SF_getR 25 fl_X11_95 dX11_cellsTried_22 k_l0.1 r19 rfl ?_
  obtain ⟨k20, h⟩ := gdK_some h
  refine SF_getL 28 fl_X11_310 dX11_cellsTried_25 k20.1 rfl ?_
  refine SF_aload_n 1 29 dX11_cellsTried_28 rfl rfl rfl ?_
  refine SF_getR 32 fl_X11_95 dX11_cellsTried_29 k_l0.1 r19 rfl ?_
  refine SF_aload_n 1 33 dX11_cellsTried_32 rfl rfl rfl ?_
  obtain ⟨b21, r22, h⟩ := dr_some h
  refine SF_getR 36 fl_X11_78 dX11_cellsTried_33 k_l0.1 r22 rfl ?_
  obtain ⟨k23, h⟩ := gdK_some h
  obtain ⟨b24, r25, h⟩ := dr_some h
  refine SF_getR 39 fl_X11_167 dX11_cellsTried_36 k23.1 r25 rfl ?_
  refine SF_iload_n 3 40 dX11_cellsTried_39 rfl rfl rfl ?_
  obtain ⟨k26, h⟩ := gdK_some h
  obtain ⟨i27, h⟩ := gdI_some h
  refine SF_iald 41 dX11_cellsTried_40 k26.1 i27 rfl ?_
  refine SF_iload_n 0 42 dX11_cellsTried_41 rfl rfl rfl ?_
  refine SF_bipush (64 : Int32) 44 dX11_cellsTried_42 rfl rfl ?_
  refine SF_idiv 45 dX11_cellsTried_44 (by decide) rfl ?_
  obtain ⟨v28, g29, q30, h⟩ := bd_some h
  have s31 := w_X9_ring (X := X) (Nat.le_refl 0) b18 (gI g15 b24 l2.toNatClampNeg) (v4 / (64 : Int32)) g15 g29 v28 k20 q30
  refine SF_callVl 48 mi_X9_ring ml_X11_343 dX11_cellsTried_45 (Nat.le_trans (by decide) hd) s31 k20.1 rfl rfl (Nat.le_of_ble_eq_true rfl) rfl ?_
  have k_l0 := k_l0.ext s31.1
  have k3 := k3.ext s31.1
  have k12 := k12.ext s31.1
  have k13 := k13.ext s31.1
  have k20 := k20.ext s31.1
  have k23 := k23.ext s31.1
  have k26 := k26.ext s31.1
  refine SF_land 49 dX11_cellsTried_48 rfl ?_
  obtain ⟨y32, e33, h⟩ := ll_some h
  refine SF_eqL e33 ?_
  refine SF_lstore [(4, .long y32), (3, .int v4), (0, .ref (ad X l0)), (1, .int l1), (2, .int l2)] 51 dX11_cellsTried_49 (by decide) rfl rfl ?_
  refine SF_lconst (0 : Int64) 52 dX11_cellsTried_51 rfl rfl ?_
  refine SF_lstore [(6, .long (0 : Int64)), (4, .long y32), (3, .int v4), (0, .ref (ad X l0)), (1, .int l1), (2, .int l2)] 54 dX11_cellsTried_52 (by decide) rfl rfl ?_
  refine SF_iconst (0 : Int32) 55 dX11_cellsTried_54 rfl rfl ?_
  refine SF_istore [(8, .int (0 : Int32)), (6, .long (0 : Int64)), (4, .long y32), (3, .int v4), (0, .ref (ad X l0)), (1, .int l1), (2, .int l2)] 57 dX11_cellsTried_55 (by decide) rfl rfl ?_
  refine SF_sub [4, 5, 3, 2, 1, 0] rfl ?_
  exact w_X11_cellsTried_57 hd FU l0 l1 v4 y32 (0 : Int64) (0 : Int32) g29 k_l0 h

theorem dX11_tried_0 : decode cX11_tried 0 = .ok (.aload_n 0, 1) := by decide +kernel
theorem dX11_tried_1 : decode cX11_tried 1 = .ok (.iload_n 1, 1) := by decide +kernel
theorem dX11_tried_2 : decode cX11_tried 2 = .ok (.iload_n 2, 1) := by decide +kernel
theorem dX11_tried_3 : decode cX11_tried 3 = .ok (.invokevirtual 364, 3) := by decide +kernel
theorem dX11_tried_6 : decode cX11_tried 6 = .ok (.istore_n 3, 1) := by decide +kernel
theorem dX11_tried_7 : decode cX11_tried 7 = .ok (.iload_n 3, 1) := by decide +kernel
theorem dX11_tried_8 : decode cX11_tried 8 = .ok (.ifCond .eq 8, 3) := by decide +kernel
theorem dX11_tried_11 : decode cX11_tried 11 = .ok (.iload_n 3, 1) := by decide +kernel
theorem dX11_tried_12 : decode cX11_tried 12 = .ok (.i2l, 1) := by decide +kernel
theorem dX11_tried_13 : decode cX11_tried 13 = .ok (.goto 9, 3) := by decide +kernel
theorem dX11_tried_16 : decode cX11_tried 16 = .ok (.aload_n 0, 1) := by decide +kernel
theorem dX11_tried_17 : decode cX11_tried 17 = .ok (.iload_n 1, 1) := by decide +kernel
theorem dX11_tried_18 : decode cX11_tried 18 = .ok (.iload_n 2, 1) := by decide +kernel
theorem dX11_tried_19 : decode cX11_tried 19 = .ok (.invokevirtual 367, 3) := by decide +kernel
theorem dX11_tried_22 : decode cX11_tried 22 = .ok (.lreturn, 1) := by decide +kernel
set_option maxRecDepth 20000 in
set_option maxHeartbeats 2000000 in
theorem w_X11_tried {X : CX} {d : Nat} (hd : 7 ≤ d) (l0 : Nat) (l1 : Int32) (l2 : Int32) (g g' : G) (rx : Int64) (k_l0 : KD g l0 11) (h : f_X11_tried l0 l1 l2 g = some (rx, g')) : Sem X m_X11_tried d [.ref (ad X l0), .int l1, .int l2] g (some (.long rx)) g' := by
  refine Sem_of (lo := [(0, .ref (ad X l0)), (1, .int l1), (2, .int l2)]) (by decide +kernel) rfl (Nat.le_of_ble_eq_true rfl) ?_
  rw [f_X11_tried] at h
  refine SF_aload_n 0 1 dX11_tried_0 rfl rfl rfl ?_
  refine SF_iload_n 1 2 dX11_tried_1 rfl rfl rfl ?_
  refine SF_iload_n 2 3 dX11_tried_2 rfl rfl rfl ?_
  obtain ⟨v1, g2, q3, h⟩ := bd_some h
  have s4 := w_X11_triesRefused (X := X) (Nat.le_refl 1) l0 l1 l2 g g2 v1 k_l0 q3
  refine SF_callVi 6 mi_X11_triesRefused ml_X11_364 dX11_tried_3 (Nat.le_trans (by decide) hd) s4 k_l0.1 rfl rfl (Nat.le_of_ble_eq_true rfl) rfl ?_
  have k_l0 := k_l0.ext s4.1
  refine SF_istore_n [(3, .int v1), (0, .ref (ad X l0)), (1, .int l1), (2, .int l2)] 7 dX11_tried_6 rfl (by decide) rfl rfl ?_
  refine SF_iload_n 0 8 dX11_tried_7 rfl rfl rfl ?_
  refine SF_ifeq 16 11 dX11_tried_8 rfl rfl (fun c5 => ?_) (fun c5 => ?_)
  · have h := ite_t c5 h
    refine SF_aload_n 1 17 dX11_tried_16 rfl rfl rfl ?_
    refine SF_iload_n 2 18 dX11_tried_17 rfl rfl rfl ?_
    refine SF_iload_n 3 19 dX11_tried_18 rfl rfl rfl ?_
    obtain ⟨v6, g7, q8, h⟩ := bd_some h
    have s9 := w_X11_cellsTried (X := X) (Nat.le_refl 6) l0 l1 l2 g2 g7 v6 k_l0 q8
    refine SF_callVl 22 mi_X11_cellsTried ml_X11_367 dX11_tried_19 (Nat.le_trans (by decide) hd) s9 k_l0.1 rfl rfl (Nat.le_of_ble_eq_true rfl) rfl ?_
    have k_l0 := k_l0.ext s9.1
    exact RT_l rfl dX11_tried_22 h
  · have h := ite_f c5 h
    refine SF_iload_n 0 12 dX11_tried_11 rfl rfl rfl ?_
    refine SF_i2l 13 dX11_tried_12 rfl ?_
    refine SF_goto 22 dX11_tried_13 rfl ?_
    exact RT_l rfl dX11_tried_22 h

theorem dX12_noTried_0 : decode cX12_noTried 0 = .ok (.iload_n 1, 1) := by decide +kernel
theorem dX12_noTried_1 : decode cX12_noTried 1 = .ok (.i2l, 1) := by decide +kernel
theorem dX12_noTried_2 : decode cX12_noTried 2 = .ok (.lconst 0, 1) := by decide +kernel
theorem dX12_noTried_3 : decode cX12_noTried 3 = .ok (.ldc2_w 259, 3) := by decide +kernel
theorem dX12_noTried_6 : decode cX12_noTried 6 = .ok (.invokestatic 139, 3) := by decide +kernel
theorem dX12_noTried_9 : decode cX12_noTried 9 = .ok (.ifCond .eq 12, 3) := by decide +kernel
theorem dX12_noTried_12 : decode cX12_noTried 12 = .ok (.aload_n 0, 1) := by decide +kernel
theorem dX12_noTried_13 : decode cX12_noTried 13 = .ok (.iload_n 2, 1) := by decide +kernel
theorem dX12_noTried_14 : decode cX12_noTried 14 = .ok (.i2l, 1) := by decide +kernel
theorem dX12_noTried_15 : decode cX12_noTried 15 = .ok (.invokevirtual 255, 3) := by decide +kernel
theorem dX12_noTried_18 : decode cX12_noTried 18 = .ok (.ifCond .ne 6, 3) := by decide +kernel
theorem dX12_noTried_21 : decode cX12_noTried 21 = .ok (.bipush (-2), 2) := by decide +kernel
theorem dX12_noTried_23 : decode cX12_noTried 23 = .ok (.ireturn, 1) := by decide +kernel
theorem dX12_noTried_24 : decode cX12_noTried 24 = .ok (.aload_n 0, 1) := by decide +kernel
theorem dX12_noTried_25 : decode cX12_noTried 25 = .ok (.iload_n 1, 1) := by decide +kernel
theorem dX12_noTried_26 : decode cX12_noTried 26 = .ok (.invokevirtual 320, 3) := by decide +kernel
theorem dX12_noTried_29 : decode cX12_noTried 29 = .ok (.istore_n 3, 1) := by decide +kernel
theorem dX12_noTried_30 : decode cX12_noTried 30 = .ok (.iload_n 3, 1) := by decide +kernel
theorem dX12_noTried_31 : decode cX12_noTried 31 = .ok (.ifCond .eq 5, 3) := by decide +kernel
theorem dX12_noTried_34 : decode cX12_noTried 34 = .ok (.iload_n 3, 1) := by decide +kernel
theorem dX12_noTried_35 : decode cX12_noTried 35 = .ok (.ireturn, 1) := by decide +kernel
theorem dX12_noTried_36 : decode cX12_noTried 36 = .ok (.aload_n 0, 1) := by decide +kernel
theorem dX12_noTried_37 : decode cX12_noTried 37 = .ok (.getfield 67, 3) := by decide +kernel
theorem dX12_noTried_40 : decode cX12_noTried 40 = .ok (.iload_n 1, 1) := by decide +kernel
theorem dX12_noTried_41 : decode cX12_noTried 41 = .ok (.iaload, 1) := by decide +kernel
theorem dX12_noTried_42 : decode cX12_noTried 42 = .ok (.i2l, 1) := by decide +kernel
theorem dX12_noTried_43 : decode cX12_noTried 43 = .ok (.lconst 1, 1) := by decide +kernel
theorem dX12_noTried_44 : decode cX12_noTried 44 = .ok (.ldc2_w 438, 3) := by decide +kernel
theorem dX12_noTried_47 : decode cX12_noTried 47 = .ok (.invokestatic 139, 3) := by decide +kernel
theorem dX12_noTried_50 : decode cX12_noTried 50 = .ok (.ifCond .ne 6, 3) := by decide +kernel
theorem dX12_noTried_53 : decode cX12_noTried 53 = .ok (.bipush (-4), 2) := by decide +kernel
theorem dX12_noTried_55 : decode cX12_noTried 55 = .ok (.ireturn, 1) := by decide +kernel
theorem dX12_noTried_56 : decode cX12_noTried 56 = .ok (.iconst 0, 1) := by decide +kernel
theorem dX12_noTried_57 : decode cX12_noTried 57 = .ok (.istore 4, 2) := by decide +kernel
theorem dX12_noTried_59 : decode cX12_noTried 59 = .ok (.iload 4, 2) := by decide +kernel
theorem dX12_noTried_61 : decode cX12_noTried 61 = .ok (.aload_n 0, 1) := by decide +kernel
theorem dX12_noTried_62 : decode cX12_noTried 62 = .ok (.getfield 67, 3) := by decide +kernel
theorem dX12_noTried_65 : decode cX12_noTried 65 = .ok (.iload_n 1, 1) := by decide +kernel
theorem dX12_noTried_66 : decode cX12_noTried 66 = .ok (.iaload, 1) := by decide +kernel
theorem dX12_noTried_67 : decode cX12_noTried 67 = .ok (.if_icmp .ge 63, 3) := by decide +kernel
theorem dX12_noTried_70 : decode cX12_noTried 70 = .ok (.aload_n 0, 1) := by decide +kernel
theorem dX12_noTried_71 : decode cX12_noTried 71 = .ok (.getfield 70, 3) := by decide +kernel
theorem dX12_noTried_74 : decode cX12_noTried 74 = .ok (.bipush 40, 2) := by decide +kernel
theorem dX12_noTried_76 : decode cX12_noTried 76 = .ok (.iload_n 1, 1) := by decide +kernel
theorem dX12_noTried_77 : decode cX12_noTried 77 = .ok (.imul, 1) := by decide +kernel
theorem dX12_noTried_78 : decode cX12_noTried 78 = .ok (.iload 4, 2) := by decide +kernel
theorem dX12_noTried_80 : decode cX12_noTried 80 = .ok (.iadd, 1) := by decide +kernel
theorem dX12_noTried_81 : decode cX12_noTried 81 = .ok (.laload, 1) := by decide +kernel
theorem dX12_noTried_82 : decode cX12_noTried 82 = .ok (.lstore 5, 2) := by decide +kernel
theorem dX12_noTried_84 : decode cX12_noTried 84 = .ok (.lload 5, 2) := by decide +kernel
theorem dX12_noTried_86 : decode cX12_noTried 86 = .ok (.lconst 0, 1) := by decide +kernel
theorem dX12_noTried_87 : decode cX12_noTried 87 = .ok (.lcmp, 1) := by decide +kernel
theorem dX12_noTried_88 : decode cX12_noTried 88 = .ok (.ifCond .lt 33, 3) := by decide +kernel
theorem dX12_noTried_91 : decode cX12_noTried 91 = .ok (.lload 5, 2) := by decide +kernel
theorem dX12_noTried_93 : decode cX12_noTried 93 = .ok (.ldc2_w 297, 3) := by decide +kernel
theorem dX12_noTried_96 : decode cX12_noTried 96 = .ok (.ldiv, 1) := by decide +kernel
theorem dX12_noTried_97 : decode cX12_noTried 97 = .ok (.lconst 0, 1) := by decide +kernel
theorem dX12_noTried_98 : decode cX12_noTried 98 = .ok (.ldc2_w 259, 3) := by decide +kernel
theorem dX12_noTried_101 : decode cX12_noTried 101 = .ok (.invokestatic 139, 3) := by decide +kernel
theorem dX12_noTried_104 : decode cX12_noTried 104 = .ok (.ifCond .eq 17, 3) := by decide +kernel
theorem dX12_noTried_107 : decode cX12_noTried 107 = .ok (.lload 5, 2) := by decide +kernel
theorem dX12_noTried_109 : decode cX12_noTried 109 = .ok (.ldc2_w 297, 3) := by decide +kernel
theorem dX12_noTried_112 : decode cX12_noTried 112 = .ok (.lrem, 1) := by decide +kernel
theorem dX12_noTried_113 : decode cX12_noTried 113 = .ok (.lconst 0, 1) := by decide +kernel
theorem dX12_noTried_114 : decode cX12_noTried 114 = .ok (.lconst 1, 1) := by decide +kernel
theorem dX12_noTried_115 : decode cX12_noTried 115 = .ok (.invokestatic 139, 3) := by decide +kernel
theorem dX12_noTried_118 : decode cX12_noTried 118 = .ok (.ifCond .ne 6, 3) := by decide +kernel
theorem dX12_noTried_121 : decode cX12_noTried 121 = .ok (.bipush (-3), 2) := by decide +kernel
theorem dX12_noTried_123 : decode cX12_noTried 123 = .ok (.ireturn, 1) := by decide +kernel
theorem dX12_noTried_124 : decode cX12_noTried 124 = .ok (.iinc 4 1, 3) := by decide +kernel
theorem dX12_noTried_127 : decode cX12_noTried 127 = .ok (.goto (-68), 3) := by decide +kernel
theorem dX12_noTried_130 : decode cX12_noTried 130 = .ok (.iconst 0, 1) := by decide +kernel
theorem dX12_noTried_131 : decode cX12_noTried 131 = .ok (.ireturn, 1) := by decide +kernel
set_option maxRecDepth 20000 in
set_option maxHeartbeats 2000000 in
theorem w_X12_noTried_59 {X : CX} {d : Nat} (hd : 2 ≤ d) {g' : G} {rx : Int32} : ∀ (n : Nat) (l0 : Nat) (l1 : Int32) (l4 : Int32) (g : G), KD g l0 12 → f_X12_noTried_59 n l0 l1 l4 g = some (rx, g') → SemF X m_X12_noTried d 59 [(0, .ref (ad X l0)), (1, .int l1), (4, .int l4)] [] g (some (.int rx)) g' := by
  intro n
  induction n with
  | zero =>
    intro l0 l1 l4 g k_l0 h
    rw [f_X12_noTried_59] at h
    cases h
  | succ n ih =>
  intro l0 l1 l4 g k_l0 h
  rw [f_X12_noTried_59] at h
  refine SF_iload 2 61 dX12_noTried_59 rfl rfl ?_
  refine SF_aload_n 0 62 dX12_noTried_61 rfl rfl rfl ?_
  obtain ⟨b1, r2, h⟩ := dr_some h
  refine SF_getR 65 fl_X12_67 dX12_noTried_62 k_l0.1 r2 rfl ?_
  refine SF_iload_n 1 66 dX12_noTried_65 rfl rfl rfl ?_
  obtain ⟨k3, h⟩ := gdK_some h
  obtain ⟨i4, h⟩ := gdI_some h
  refine SF_iald 67 dX12_noTried_66 k3.1 i4 rfl ?_
  refine SF_icge 130 70 dX12_noTried_67 rfl rfl (fun c5 => ?_) (fun c5 => ?_)
  · have h := ite_t c5 h
    refine SF_iconst (0 : Int32) 131 dX12_noTried_130 rfl rfl ?_
    exact RT_i rfl dX12_noTried_131 h
  · have h := ite_f c5 h
    refine SF_aload_n 0 71 dX12_noTried_70 rfl rfl rfl ?_
    obtain ⟨b6, r7, h⟩ := dr_some h
    refine SF_getR 74 fl_X12_70 dX12_noTried_71 k_l0.1 r7 rfl ?_
    refine SF_bipush (40 : Int32) 76 dX12_noTried_74 rfl rfl ?_
    refine SF_iload_n 1 77 dX12_noTried_76 rfl rfl rfl ?_
    refine SF_imul 78 dX12_noTried_77 rfl ?_
    refine SF_iload 2 80 dX12_noTried_78 rfl rfl ?_
    refine SF_iadd 81 dX12_noTried_80 rfl ?_
    obtain ⟨k8, h⟩ := gdK_some h
    obtain ⟨i9, h⟩ := gdI_some h
    refine SF_lald 82 dX12_noTried_81 k8.1 i9 rfl ?_
    obtain ⟨y10, e11, h⟩ := ll_some h
    refine SF_eqL e11 ?_
    refine SF_lstore [(5, .long y10), (0, .ref (ad X l0)), (1, .int l1), (4, .int l4)] 84 dX12_noTried_82 (by decide) rfl rfl ?_
    refine SF_lload 0 86 dX12_noTried_84 rfl rfl ?_
    refine SF_lconst (0 : Int64) 87 dX12_noTried_86 rfl rfl ?_
    refine SF_lcmp 88 dX12_noTried_87 rfl ?_
    refine SF_iflt 121 91 dX12_noTried_88 rfl rfl (fun c12 => ?_) (fun c12 => ?_)
    · have h := ite_t c12 h
      refine SF_bipush (-3 : Int32) 123 dX12_noTried_121 rfl rfl ?_
      exact RT_i rfl dX12_noTried_123 h
    · have h := ite_f c12 h
      refine SF_lload 0 93 dX12_noTried_91 rfl rfl ?_
      refine SF_ldc2 96 dX12_noTried_93 kl_X12_297 rfl ?_
      refine SF_ldiv 97 dX12_noTried_96 (by decide) rfl ?_
      refine SF_lconst (0 : Int64) 98 dX12_noTried_97 rfl rfl ?_
      refine SF_ldc2 101 dX12_noTried_98 kl_X12_259 rfl ?_
      obtain ⟨v13, g14, q15, h⟩ := bd_some h
      have s16 := w_X12_within (X := X) (Nat.le_refl 0) (y10 / (10 : Int64)) (0 : Int64) (3 : Int64) g g14 v13 q15
      refine SF_callSb 104 mi_X12_within ml_X12_139 dX12_noTried_101 (Nat.le_trans (by decide) hd) s16 rfl rfl (Nat.le_of_ble_eq_true rfl) rfl ?_
      have k_l0 := k_l0.ext s16.1
      have k3 := k3.ext s16.1
      have k8 := k8.ext s16.1
      refine SF_ifeq 121 107 dX12_noTried_104 rfl rfl (fun c17 => ?_) (fun c17 => ?_)
      · have h := ite_t c17 h
        refine SF_bipush (-3 : Int32) 123 dX12_noTried_121 rfl rfl ?_
        exact RT_i rfl dX12_noTried_123 h
      · have h := ite_f c17 h
        refine SF_lload 0 109 dX12_noTried_107 rfl rfl ?_
        refine SF_ldc2 112 dX12_noTried_109 kl_X12_297 rfl ?_
        refine SF_lrem 113 dX12_noTried_112 (by decide) rfl ?_
        refine SF_lconst (0 : Int64) 114 dX12_noTried_113 rfl rfl ?_
        refine SF_lconst (1 : Int64) 115 dX12_noTried_114 rfl rfl ?_
        obtain ⟨v18, g19, q20, h⟩ := bd_some h
        have s21 := w_X12_within (X := X) (Nat.le_refl 0) (y10 - y10 / (10 : Int64) * (10 : Int64)) (0 : Int64) (1 : Int64) g14 g19 v18 q20
        refine SF_callSb 118 mi_X12_within ml_X12_139 dX12_noTried_115 (Nat.le_trans (by decide) hd) s21 rfl rfl (Nat.le_of_ble_eq_true rfl) rfl ?_
        have k_l0 := k_l0.ext s21.1
        have k3 := k3.ext s21.1
        have k8 := k8.ext s21.1
        refine SF_ifne 124 121 dX12_noTried_118 rfl rfl (fun c22 => ?_) (fun c22 => ?_)
        · have h := ite_f c22 h
          refine SF_iinc 3 (l4 + (1 : Int32)) [(4, .int (l4 + (1 : Int32))), (5, .long y10), (0, .ref (ad X l0)), (1, .int l1)] 127 dX12_noTried_124 rfl rfl (by decide) rfl rfl ?_
          refine SF_goto 59 dX12_noTried_127 rfl ?_
          refine SF_sub [2, 3, 0] rfl ?_
          exact ih l0 l1 (l4 + (1 : Int32)) g19 k_l0 h
        · have h := ite_t c22 h
          refine SF_bipush (-3 : Int32) 123 dX12_noTried_121 rfl rfl ?_
          exact RT_i rfl dX12_noTried_123 h

set_option maxRecDepth 20000 in
set_option maxHeartbeats 2000000 in
theorem w_X12_noTried {X : CX} {d : Nat} (hd : 2 ≤ d) (l0 : Nat) (l1 : Int32) (l2 : Int32) (g g' : G) (rx : Int32) (k_l0 : KD g l0 12) (h : f_X12_noTried l0 l1 l2 g = some (rx, g')) : Sem X m_X12_noTried d [.ref (ad X l0), .int l1, .int l2] g (some (.int rx)) g' := by
  refine Sem_of (lo := [(0, .ref (ad X l0)), (1, .int l1), (2, .int l2)]) (by decide +kernel) rfl (Nat.le_of_ble_eq_true rfl) ?_
  rw [f_X12_noTried] at h
  refine SF_iload_n 1 1 dX12_noTried_0 rfl rfl rfl ?_
  refine SF_i2l 2 dX12_noTried_1 rfl ?_
  refine SF_lconst (0 : Int64) 3 dX12_noTried_2 rfl rfl ?_
  refine SF_ldc2 6 dX12_noTried_3 kl_X12_259 rfl ?_
  obtain ⟨v1, g2, q3, h⟩ := bd_some h
  have s4 := w_X12_within (X := X) (Nat.le_refl 0) (l1.toInt64) (0 : Int64) (3 : Int64) g g2 v1 q3
  refine SF_callSb 9 mi_X12_within ml_X12_139 dX12_noTried_6 (Nat.le_trans (by decide) hd) s4 rfl rfl (Nat.le_of_ble_eq_true rfl) rfl ?_
  have k_l0 := k_l0.ext s4.1
  refine SF_ifeq 21 12 dX12_noTried_9 rfl rfl (fun c5 => ?_) (fun c5 => ?_)
  · have h := ite_t c5 h
    refine SF_bipush (-2 : Int32) 23 dX12_noTried_21 rfl rfl ?_
    exact RT_i rfl dX12_noTried_23 h
  · have h := ite_f c5 h
    refine SF_aload_n 0 13 dX12_noTried_12 rfl rfl rfl ?_
    refine SF_iload_n 2 14 dX12_noTried_13 rfl rfl rfl ?_
    refine SF_i2l 15 dX12_noTried_14 rfl ?_
    obtain ⟨v6, g7, q8, h⟩ := bd_some h
    have s9 := w_X12_isPair (X := X) (Nat.le_refl 1) l0 (l2.toInt64) g2 g7 v6 k_l0 q8
    refine SF_callVb 18 mi_X12_isPair ml_X12_255 dX12_noTried_15 (Nat.le_trans (by decide) hd) s9 k_l0.1 rfl rfl (Nat.le_of_ble_eq_true rfl) rfl ?_
    have k_l0 := k_l0.ext s9.1
    refine SF_ifne 24 21 dX12_noTried_18 rfl rfl (fun c10 => ?_) (fun c10 => ?_)
    · have h := ite_f c10 h
      refine SF_aload_n 0 25 dX12_noTried_24 rfl rfl rfl ?_
      refine SF_iload_n 1 26 dX12_noTried_25 rfl rfl rfl ?_
      obtain ⟨v11, g12, q13, h⟩ := bd_some h
      have s14 := w_X12_noTray (X := X) (Nat.le_refl 1) l0 l1 g7 g12 v11 k_l0 q13
      refine SF_callVi 29 mi_X12_noTray ml_X12_320 dX12_noTried_26 (Nat.le_trans (by decide) hd) s14 k_l0.1 rfl rfl (Nat.le_of_ble_eq_true rfl) rfl ?_
      have k_l0 := k_l0.ext s14.1
      refine SF_istore_n [(3, .int v11), (0, .ref (ad X l0)), (1, .int l1), (2, .int l2)] 30 dX12_noTried_29 rfl (by decide) rfl rfl ?_
      refine SF_iload_n 0 31 dX12_noTried_30 rfl rfl rfl ?_
      refine SF_ifeq 36 34 dX12_noTried_31 rfl rfl (fun c15 => ?_) (fun c15 => ?_)
      · have h := ite_t c15 h
        refine SF_aload_n 1 37 dX12_noTried_36 rfl rfl rfl ?_
        obtain ⟨b16, r17, h⟩ := dr_some h
        refine SF_getR 40 fl_X12_67 dX12_noTried_37 k_l0.1 r17 rfl ?_
        refine SF_iload_n 2 41 dX12_noTried_40 rfl rfl rfl ?_
        obtain ⟨k18, h⟩ := gdK_some h
        obtain ⟨i19, h⟩ := gdI_some h
        refine SF_iald 42 dX12_noTried_41 k18.1 i19 rfl ?_
        refine SF_i2l 43 dX12_noTried_42 rfl ?_
        refine SF_lconst (1 : Int64) 44 dX12_noTried_43 rfl rfl ?_
        refine SF_ldc2 47 dX12_noTried_44 kl_X12_438 rfl ?_
        obtain ⟨v20, g21, q22, h⟩ := bd_some h
        have s23 := w_X12_within (X := X) (Nat.le_refl 0) ((gI g12 b16 l1.toNatClampNeg).toInt64) (1 : Int64) (12 : Int64) g12 g21 v20 q22
        refine SF_callSb 50 mi_X12_within ml_X12_139 dX12_noTried_47 (Nat.le_trans (by decide) hd) s23 rfl rfl (Nat.le_of_ble_eq_true rfl) rfl ?_
        have k_l0 := k_l0.ext s23.1
        have k18 := k18.ext s23.1
        refine SF_ifne 56 53 dX12_noTried_50 rfl rfl (fun c24 => ?_) (fun c24 => ?_)
        · have h := ite_f c24 h
          refine SF_iconst (0 : Int32) 57 dX12_noTried_56 rfl rfl ?_
          refine SF_istore [(4, .int (0 : Int32)), (3, .int v11), (0, .ref (ad X l0)), (1, .int l1), (2, .int l2)] 59 dX12_noTried_57 (by decide) rfl rfl ?_
          refine SF_sub [2, 3, 0] rfl ?_
          exact w_X12_noTried_59 hd FU l0 l1 (0 : Int32) g21 k_l0 h
        · have h := ite_t c24 h
          refine SF_bipush (-4 : Int32) 55 dX12_noTried_53 rfl rfl ?_
          exact RT_i rfl dX12_noTried_55 h
      · have h := ite_f c15 h
        refine SF_iload_n 0 35 dX12_noTried_34 rfl rfl rfl ?_
        exact RT_i rfl dX12_noTried_35 h
    · have h := ite_t c10 h
      refine SF_bipush (-2 : Int32) 23 dX12_noTried_21 rfl rfl ?_
      exact RT_i rfl dX12_noTried_23 h

theorem dX12_isFirst_0 : decode cX12_isFirst 0 = .ok (.aload_n 0, 1) := by decide +kernel
theorem dX12_isFirst_1 : decode cX12_isFirst 1 = .ok (.iload_n 1, 1) := by decide +kernel
theorem dX12_isFirst_2 : decode cX12_isFirst 2 = .ok (.iload_n 2, 1) := by decide +kernel
theorem dX12_isFirst_3 : decode cX12_isFirst 3 = .ok (.invokevirtual 244, 3) := by decide +kernel
theorem dX12_isFirst_6 : decode cX12_isFirst 6 = .ok (.ifCond .eq 30, 3) := by decide +kernel
theorem dX12_isFirst_9 : decode cX12_isFirst 9 = .ok (.aload_n 0, 1) := by decide +kernel
theorem dX12_isFirst_10 : decode cX12_isFirst 10 = .ok (.aload_n 0, 1) := by decide +kernel
theorem dX12_isFirst_11 : decode cX12_isFirst 11 = .ok (.iload_n 1, 1) := by decide +kernel
theorem dX12_isFirst_12 : decode cX12_isFirst 12 = .ok (.iconst 0, 1) := by decide +kernel
theorem dX12_isFirst_13 : decode cX12_isFirst 13 = .ok (.invokevirtual 205, 3) := by decide +kernel
theorem dX12_isFirst_16 : decode cX12_isFirst 16 = .ok (.iload_n 2, 1) := by decide +kernel
theorem dX12_isFirst_17 : decode cX12_isFirst 17 = .ok (.invokevirtual 208, 3) := by decide +kernel
theorem dX12_isFirst_20 : decode cX12_isFirst 20 = .ok (.aload_n 0, 1) := by decide +kernel
theorem dX12_isFirst_21 : decode cX12_isFirst 21 = .ok (.getfield 13, 3) := by decide +kernel
theorem dX12_isFirst_24 : decode cX12_isFirst 24 = .ok (.bipush 94, 2) := by decide +kernel
theorem dX12_isFirst_26 : decode cX12_isFirst 26 = .ok (.iload_n 1, 1) := by decide +kernel
theorem dX12_isFirst_27 : decode cX12_isFirst 27 = .ok (.iadd, 1) := by decide +kernel
theorem dX12_isFirst_28 : decode cX12_isFirst 28 = .ok (.iaload, 1) := by decide +kernel
theorem dX12_isFirst_29 : decode cX12_isFirst 29 = .ok (.if_icmp .ne 7, 3) := by decide +kernel
theorem dX12_isFirst_32 : decode cX12_isFirst 32 = .ok (.iconst 1, 1) := by decide +kernel
theorem dX12_isFirst_33 : decode cX12_isFirst 33 = .ok (.goto 4, 3) := by decide +kernel
theorem dX12_isFirst_36 : decode cX12_isFirst 36 = .ok (.iconst 0, 1) := by decide +kernel
theorem dX12_isFirst_37 : decode cX12_isFirst 37 = .ok (.ireturn, 1) := by decide +kernel
set_option maxRecDepth 20000 in
set_option maxHeartbeats 2000000 in
theorem w_X12_isFirst {X : CX} {d : Nat} (hd : 2 ≤ d) (l0 : Nat) (l1 : Int32) (l2 : Int32) (g g' : G) (rx : Bool) (k_l0 : KD g l0 12) (h : f_X12_isFirst l0 l1 l2 g = some (rx, g')) : Sem X m_X12_isFirst d [.ref (ad X l0), .int l1, .int l2] g (some (.int (b2i rx))) g' := by
  refine Sem_of (lo := [(0, .ref (ad X l0)), (1, .int l1), (2, .int l2)]) (by decide +kernel) rfl (Nat.le_of_ble_eq_true rfl) ?_
  rw [f_X12_isFirst] at h
  refine SF_aload_n 0 1 dX12_isFirst_0 rfl rfl rfl ?_
  refine SF_iload_n 1 2 dX12_isFirst_1 rfl rfl rfl ?_
  refine SF_iload_n 2 3 dX12_isFirst_2 rfl rfl rfl ?_
  obtain ⟨v1, g2, q3, h⟩ := bd_some h
  have s4 := w_X12_isFree (X := X) (Nat.le_refl 1) l0 l1 l2 g g2 v1 k_l0 q3
  refine SF_callVb 6 mi_X12_isFree ml_X12_244 dX12_isFirst_3 (Nat.le_trans (by decide) hd) s4 k_l0.1 rfl rfl (Nat.le_of_ble_eq_true rfl) rfl ?_
  have k_l0 := k_l0.ext s4.1
  refine SF_ifeq 36 9 dX12_isFirst_6 rfl rfl (fun c5 => ?_) (fun c5 => ?_)
  · have h := ite_t c5 h
    refine SF_iconst (0 : Int32) 37 dX12_isFirst_36 rfl rfl ?_
    exact RT_b rfl rfl dX12_isFirst_37 h
  · have h := ite_f c5 h
    refine SF_aload_n 0 10 dX12_isFirst_9 rfl rfl rfl ?_
    refine SF_aload_n 0 11 dX12_isFirst_10 rfl rfl rfl ?_
    refine SF_iload_n 1 12 dX12_isFirst_11 rfl rfl rfl ?_
    refine SF_iconst (0 : Int32) 13 dX12_isFirst_12 rfl rfl ?_
    obtain ⟨v6, g7, q8, h⟩ := bd_some h
    have s9 := w_X12_twinOf (X := X) (Nat.le_refl 0) l0 l1 (0 : Int32) g2 g7 v6 k_l0 q8
    refine SF_callVi 16 mi_X12_twinOf ml_X12_205 dX12_isFirst_13 (Nat.le_trans (by decide) hd) s9 k_l0.1 rfl rfl (Nat.le_of_ble_eq_true rfl) rfl ?_
    have k_l0 := k_l0.ext s9.1
    refine SF_iload_n 2 17 dX12_isFirst_16 rfl rfl rfl ?_
    obtain ⟨v10, g11, q12, h⟩ := bd_some h
    have s13 := w_X12_apart (X := X) (Nat.le_refl 1) l0 v6 l2 g7 g11 v10 k_l0 q12
    refine SF_callVi 20 mi_X12_apart ml_X12_208 dX12_isFirst_17 (Nat.le_trans (by decide) hd) s13 k_l0.1 rfl rfl (Nat.le_of_ble_eq_true rfl) rfl ?_
    have k_l0 := k_l0.ext s13.1
    refine SF_aload_n 0 21 dX12_isFirst_20 rfl rfl rfl ?_
    obtain ⟨b14, r15, h⟩ := dr_some h
    refine SF_getR 24 fl_X12_13 dX12_isFirst_21 k_l0.1 r15 rfl ?_
    refine SF_bipush (94 : Int32) 26 dX12_isFirst_24 rfl rfl ?_
    refine SF_iload_n 1 27 dX12_isFirst_26 rfl rfl rfl ?_
    refine SF_iadd 28 dX12_isFirst_27 rfl ?_
    obtain ⟨k16, h⟩ := gdK_some h
    obtain ⟨i17, h⟩ := gdI_some h
    refine SF_iald 29 dX12_isFirst_28 k16.1 i17 rfl ?_
    refine SF_icne 36 32 dX12_isFirst_29 rfl rfl (fun c18 => ?_) (fun c18 => ?_)
    · have h := ite_f c18 h
      refine SF_iconst (0 : Int32) 37 dX12_isFirst_36 rfl rfl ?_
      exact RT_b rfl rfl dX12_isFirst_37 h
    · have h := ite_t c18 h
      refine SF_iconst (1 : Int32) 33 dX12_isFirst_32 rfl rfl ?_
      refine SF_goto 37 dX12_isFirst_33 rfl ?_
      exact RT_b rfl rfl dX12_isFirst_37 h

theorem dX12_isTried_0 : decode cX12_isTried 0 = .ok (.aload_n 0, 1) := by decide +kernel
theorem dX12_isTried_1 : decode cX12_isTried 1 = .ok (.aload_n 0, 1) := by decide +kernel
theorem dX12_isTried_2 : decode cX12_isTried 2 = .ok (.iload_n 2, 1) := by decide +kernel
theorem dX12_isTried_3 : decode cX12_isTried 3 = .ok (.iconst 0, 1) := by decide +kernel
theorem dX12_isTried_4 : decode cX12_isTried 4 = .ok (.invokevirtual 205, 3) := by decide +kernel
theorem dX12_isTried_7 : decode cX12_isTried 7 = .ok (.putfield 440, 3) := by decide +kernel
theorem dX12_isTried_10 : decode cX12_isTried 10 = .ok (.aload_n 0, 1) := by decide +kernel
theorem dX12_isTried_11 : decode cX12_isTried 11 = .ok (.iload_n 3, 1) := by decide +kernel
theorem dX12_isTried_12 : decode cX12_isTried 12 = .ok (.putfield 443, 3) := by decide +kernel
theorem dX12_isTried_15 : decode cX12_isTried 15 = .ok (.iconst 0, 1) := by decide +kernel
theorem dX12_isTried_16 : decode cX12_isTried 16 = .ok (.istore 4, 2) := by decide +kernel
theorem dX12_isTried_18 : decode cX12_isTried 18 = .ok (.iload 4, 2) := by decide +kernel
theorem dX12_isTried_20 : decode cX12_isTried 20 = .ok (.aload_n 0, 1) := by decide +kernel
theorem dX12_isTried_21 : decode cX12_isTried 21 = .ok (.getfield 67, 3) := by decide +kernel
theorem dX12_isTried_24 : decode cX12_isTried 24 = .ok (.iload_n 1, 1) := by decide +kernel
theorem dX12_isTried_25 : decode cX12_isTried 25 = .ok (.iaload, 1) := by decide +kernel
theorem dX12_isTried_26 : decode cX12_isTried 26 = .ok (.if_icmp .ge 114, 3) := by decide +kernel
theorem dX12_isTried_29 : decode cX12_isTried 29 = .ok (.aload_n 0, 1) := by decide +kernel
theorem dX12_isTried_30 : decode cX12_isTried 30 = .ok (.getfield 70, 3) := by decide +kernel
theorem dX12_isTried_33 : decode cX12_isTried 33 = .ok (.bipush 40, 2) := by decide +kernel
theorem dX12_isTried_35 : decode cX12_isTried 35 = .ok (.iload_n 1, 1) := by decide +kernel
theorem dX12_isTried_36 : decode cX12_isTried 36 = .ok (.imul, 1) := by decide +kernel
theorem dX12_isTried_37 : decode cX12_isTried 37 = .ok (.iload 4, 2) := by decide +kernel
theorem dX12_isTried_39 : decode cX12_isTried 39 = .ok (.iadd, 1) := by decide +kernel
theorem dX12_isTried_40 : decode cX12_isTried 40 = .ok (.laload, 1) := by decide +kernel
theorem dX12_isTried_41 : decode cX12_isTried 41 = .ok (.l2i, 1) := by decide +kernel
theorem dX12_isTried_42 : decode cX12_isTried 42 = .ok (.istore 5, 2) := by decide +kernel
theorem dX12_isTried_44 : decode cX12_isTried 44 = .ok (.aload_n 0, 1) := by decide +kernel
theorem dX12_isTried_45 : decode cX12_isTried 45 = .ok (.iload_n 2, 1) := by decide +kernel
theorem dX12_isTried_46 : decode cX12_isTried 46 = .ok (.iconst 0, 1) := by decide +kernel
theorem dX12_isTried_47 : decode cX12_isTried 47 = .ok (.aload_n 0, 1) := by decide +kernel
theorem dX12_isTried_48 : decode cX12_isTried 48 = .ok (.getfield 440, 3) := by decide +kernel
theorem dX12_isTried_51 : decode cX12_isTried 51 = .ok (.aload_n 0, 1) := by decide +kernel
theorem dX12_isTried_52 : decode cX12_isTried 52 = .ok (.getfield 443, 3) := by decide +kernel
theorem dX12_isTried_55 : decode cX12_isTried 55 = .ok (.iload 5, 2) := by decide +kernel
theorem dX12_isTried_57 : decode cX12_isTried 57 = .ok (.bipush 10, 2) := by decide +kernel
theorem dX12_isTried_59 : decode cX12_isTried 59 = .ok (.idiv, 1) := by decide +kernel
theorem dX12_isTried_60 : decode cX12_isTried 60 = .ok (.invokevirtual 261, 3) := by decide +kernel
theorem dX12_isTried_63 : decode cX12_isTried 63 = .ok (.ifCond .ne 7, 3) := by decide +kernel
theorem dX12_isTried_66 : decode cX12_isTried 66 = .ok (.iconst 1, 1) := by decide +kernel
theorem dX12_isTried_67 : decode cX12_isTried 67 = .ok (.goto 4, 3) := by decide +kernel
theorem dX12_isTried_70 : decode cX12_isTried 70 = .ok (.iconst 0, 1) := by decide +kernel
theorem dX12_isTried_71 : decode cX12_isTried 71 = .ok (.istore 6, 2) := by decide +kernel
theorem dX12_isTried_73 : decode cX12_isTried 73 = .ok (.iload 6, 2) := by decide +kernel
theorem dX12_isTried_75 : decode cX12_isTried 75 = .ok (.iload 5, 2) := by decide +kernel
theorem dX12_isTried_77 : decode cX12_isTried 77 = .ok (.bipush 10, 2) := by decide +kernel
theorem dX12_isTried_79 : decode cX12_isTried 79 = .ok (.irem, 1) := by decide +kernel
theorem dX12_isTried_80 : decode cX12_isTried 80 = .ok (.iconst 1, 1) := by decide +kernel
theorem dX12_isTried_81 : decode cX12_isTried 81 = .ok (.if_icmp .ne 7, 3) := by decide +kernel
theorem dX12_isTried_84 : decode cX12_isTried 84 = .ok (.iconst 1, 1) := by decide +kernel
theorem dX12_isTried_85 : decode cX12_isTried 85 = .ok (.goto 4, 3) := by decide +kernel
theorem dX12_isTried_88 : decode cX12_isTried 88 = .ok (.iconst 0, 1) := by decide +kernel
theorem dX12_isTried_89 : decode cX12_isTried 89 = .ok (.if_icmp .eq 5, 3) := by decide +kernel
theorem dX12_isTried_92 : decode cX12_isTried 92 = .ok (.iconst 0, 1) := by decide +kernel
theorem dX12_isTried_93 : decode cX12_isTried 93 = .ok (.ireturn, 1) := by decide +kernel
theorem dX12_isTried_94 : decode cX12_isTried 94 = .ok (.aload_n 0, 1) := by decide +kernel
theorem dX12_isTried_95 : decode cX12_isTried 95 = .ok (.iload 6, 2) := by decide +kernel
theorem dX12_isTried_97 : decode cX12_isTried 97 = .ok (.ifCond .eq 10, 3) := by decide +kernel
theorem dX12_isTried_100 : decode cX12_isTried 100 = .ok (.aload_n 0, 1) := by decide +kernel
theorem dX12_isTried_101 : decode cX12_isTried 101 = .ok (.getfield 241, 3) := by decide +kernel
theorem dX12_isTried_104 : decode cX12_isTried 104 = .ok (.goto 7, 3) := by decide +kernel
theorem dX12_isTried_107 : decode cX12_isTried 107 = .ok (.aload_n 0, 1) := by decide +kernel
theorem dX12_isTried_108 : decode cX12_isTried 108 = .ok (.getfield 440, 3) := by decide +kernel
theorem dX12_isTried_111 : decode cX12_isTried 111 = .ok (.putfield 440, 3) := by decide +kernel
theorem dX12_isTried_114 : decode cX12_isTried 114 = .ok (.aload_n 0, 1) := by decide +kernel
theorem dX12_isTried_115 : decode cX12_isTried 115 = .ok (.iload 6, 2) := by decide +kernel
theorem dX12_isTried_117 : decode cX12_isTried 117 = .ok (.ifCond .eq 10, 3) := by decide +kernel
theorem dX12_isTried_120 : decode cX12_isTried 120 = .ok (.aload_n 0, 1) := by decide +kernel
theorem dX12_isTried_121 : decode cX12_isTried 121 = .ok (.getfield 252, 3) := by decide +kernel
theorem dX12_isTried_124 : decode cX12_isTried 124 = .ok (.goto 7, 3) := by decide +kernel
theorem dX12_isTried_127 : decode cX12_isTried 127 = .ok (.aload_n 0, 1) := by decide +kernel
theorem dX12_isTried_128 : decode cX12_isTried 128 = .ok (.getfield 443, 3) := by decide +kernel
theorem dX12_isTried_131 : decode cX12_isTried 131 = .ok (.putfield 443, 3) := by decide +kernel
theorem dX12_isTried_134 : decode cX12_isTried 134 = .ok (.iinc 4 1, 3) := by decide +kernel
theorem dX12_isTried_137 : decode cX12_isTried 137 = .ok (.goto (-119), 3) := by decide +kernel
theorem dX12_isTried_140 : decode cX12_isTried 140 = .ok (.iconst 1, 1) := by decide +kernel
theorem dX12_isTried_141 : decode cX12_isTried 141 = .ok (.ireturn, 1) := by decide +kernel
set_option maxRecDepth 20000 in
set_option maxHeartbeats 2000000 in
theorem w_X12_isTried_131 {X : CX} {d : Nat} (hd : 5 ≤ d) {g' : G} {rx : Bool} (k18 : Nat → Int32 → Int32 → Int32 → G → Option (Bool × G)) (hk18 : ∀ (l0 : Nat) (l1 : Int32) (l2 : Int32) (l4 : Int32) (g : G), KD g l0 12 → k18 l0 l1 l2 l4 g = some (rx, g') → SemF X m_X12_isTried d 18 [(0, .ref (ad X l0)), (1, .int l1), (2, .int l2), (4, .int l4)] [] g (some (.int (b2i rx))) g') (l0 : Nat) (l1 : Int32) (l2 : Int32) (l4 : Int32) (s0 : Int32) (s1 : Nat) (g : G) (k_l0 : KD g l0 12) (k_s1 : KD g s1 12) (h : f_X12_isTried_131 k18 l0 l1 l2 l4 s0 s1 g = some (rx, g')) : SemF X m_X12_isTried d 131 [(0, .ref (ad X l0)), (1, .int l1), (2, .int l2), (4, .int l4)] [.int s0, .ref (ad X s1)] g (some (.int (b2i rx))) g' := by
  rw [f_X12_isTried_131] at h
  refine SF_putI 134 fl_X12_443 dX12_isTried_131 k_s1.1 (fn_int _) (Or.inl rfl) rfl ?_
  obtain ⟨g1, e2, h⟩ := lg_some h
  rw [← e2]
  have k_l0 := KD.eq e2 k_l0
  have k_s1 := KD.eq e2 k_s1
  refine SF_iinc 3 (l4 + (1 : Int32)) [(4, .int (l4 + (1 : Int32))), (0, .ref (ad X l0)), (1, .int l1), (2, .int l2)] 137 dX12_isTried_134 rfl rfl (by decide) rfl rfl ?_
  refine SF_goto 18 dX12_isTried_137 rfl ?_
  refine SF_sub [1, 2, 3, 0] rfl ?_
  exact hk18 l0 l1 l2 (l4 + (1 : Int32)) g1 k_l0 h

set_option maxRecDepth 20000 in
set_option maxHeartbeats 2000000 in
theorem w_X12_isTried_111 {X : CX} {d : Nat} (hd : 5 ≤ d) {g' : G} {rx : Bool} (k18 : Nat → Int32 → Int32 → Int32 → G → Option (Bool × G)) (hk18 : ∀ (l0 : Nat) (l1 : Int32) (l2 : Int32) (l4 : Int32) (g : G), KD g l0 12 → k18 l0 l1 l2 l4 g = some (rx, g') → SemF X m_X12_isTried d 18 [(0, .ref (ad X l0)), (1, .int l1), (2, .int l2), (4, .int l4)] [] g (some (.int (b2i rx))) g') (l0 : Nat) (l1 : Int32) (l2 : Int32) (l4 : Int32) (l6 : Int32) (s0 : Int32) (s1 : Nat) (g : G) (k_l0 : KD g l0 12) (k_s1 : KD g s1 12) (h : f_X12_isTried_111 k18 l0 l1 l2 l4 l6 s0 s1 g = some (rx, g')) : SemF X m_X12_isTried d 111 [(0, .ref (ad X l0)), (1, .int l1), (2, .int l2), (4, .int l4), (6, .int l6)] [.int s0, .ref (ad X s1)] g (some (.int (b2i rx))) g' := by
  rw [f_X12_isTried_111] at h
  refine SF_putI 114 fl_X12_440 dX12_isTried_111 k_s1.1 (fn_int _) (Or.inl rfl) rfl ?_
  obtain ⟨g1, e2, h⟩ := lg_some h
  rw [← e2]
  have k_l0 := KD.eq e2 k_l0
  have k_s1 := KD.eq e2 k_s1
  refine SF_aload_n 0 115 dX12_isTried_114 rfl rfl rfl ?_
  refine SF_iload 4 117 dX12_isTried_115 rfl rfl ?_
  refine SF_ifeq 127 120 dX12_isTried_117 rfl rfl (fun c3 => ?_) (fun c3 => ?_)
  · have h := ite_t c3 h
    refine SF_aload_n 0 128 dX12_isTried_127 rfl rfl rfl ?_
    refine SF_getI 131 fl_X12_443 dX12_isTried_128 k_l0.1 rfl ?_
    refine SF_sub [0, 1, 2, 3] rfl ?_
    exact w_X12_isTried_131 hd k18 hk18 l0 l1 l2 l4 (gI g1 l0 32) l0 g1 k_l0 k_l0 h
  · have h := ite_f c3 h
    refine SF_aload_n 0 121 dX12_isTried_120 rfl rfl rfl ?_
    refine SF_getI 124 fl_X12_252 dX12_isTried_121 k_l0.1 rfl ?_
    refine SF_goto 131 dX12_isTried_124 rfl ?_
    refine SF_sub [0, 1, 2, 3] rfl ?_
    exact w_X12_isTried_131 hd k18 hk18 l0 l1 l2 l4 (gI g1 l0 18) l0 g1 k_l0 k_l0 h

set_option maxRecDepth 20000 in
set_option maxHeartbeats 2000000 in
theorem w_X12_isTried_89 {X : CX} {d : Nat} (hd : 5 ≤ d) {g' : G} {rx : Bool} (k18 : Nat → Int32 → Int32 → Int32 → G → Option (Bool × G)) (hk18 : ∀ (l0 : Nat) (l1 : Int32) (l2 : Int32) (l4 : Int32) (g : G), KD g l0 12 → k18 l0 l1 l2 l4 g = some (rx, g') → SemF X m_X12_isTried d 18 [(0, .ref (ad X l0)), (1, .int l1), (2, .int l2), (4, .int l4)] [] g (some (.int (b2i rx))) g') (l0 : Nat) (l1 : Int32) (l2 : Int32) (l4 : Int32) (l6 : Int32) (s0 : Int32) (s1 : Int32) (g : G) (k_l0 : KD g l0 12) (h : f_X12_isTried_89 k18 l0 l1 l2 l4 l6 s0 s1 g = some (rx, g')) : SemF X m_X12_isTried d 89 [(0, .ref (ad X l0)), (1, .int l1), (2, .int l2), (4, .int l4), (6, .int l6)] [.int s0, .int s1] g (some (.int (b2i rx))) g' := by
  rw [f_X12_isTried_89] at h
  refine SF_iceq 94 92 dX12_isTried_89 rfl rfl (fun c1 => ?_) (fun c1 => ?_)
  · have h := ite_t c1 h
    refine SF_aload_n 0 95 dX12_isTried_94 rfl rfl rfl ?_
    refine SF_iload 4 97 dX12_isTried_95 rfl rfl ?_
    refine SF_ifeq 107 100 dX12_isTried_97 rfl rfl (fun c2 => ?_) (fun c2 => ?_)
    · have h := ite_t c2 h
      refine SF_aload_n 0 108 dX12_isTried_107 rfl rfl rfl ?_
      refine SF_getI 111 fl_X12_440 dX12_isTried_108 k_l0.1 rfl ?_
      exact w_X12_isTried_111 hd k18 hk18 l0 l1 l2 l4 l6 (gI g l0 31) l0 g k_l0 k_l0 h
    · have h := ite_f c2 h
      refine SF_aload_n 0 101 dX12_isTried_100 rfl rfl rfl ?_
      refine SF_getI 104 fl_X12_241 dX12_isTried_101 k_l0.1 rfl ?_
      refine SF_goto 111 dX12_isTried_104 rfl ?_
      exact w_X12_isTried_111 hd k18 hk18 l0 l1 l2 l4 l6 (gI g l0 17) l0 g k_l0 k_l0 h
  · have h := ite_f c1 h
    refine SF_iconst (0 : Int32) 93 dX12_isTried_92 rfl rfl ?_
    exact RT_b rfl rfl dX12_isTried_93 h

set_option maxRecDepth 20000 in
set_option maxHeartbeats 2000000 in
theorem w_X12_isTried_71 {X : CX} {d : Nat} (hd : 5 ≤ d) {g' : G} {rx : Bool} (k18 : Nat → Int32 → Int32 → Int32 → G → Option (Bool × G)) (hk18 : ∀ (l0 : Nat) (l1 : Int32) (l2 : Int32) (l4 : Int32) (g : G), KD g l0 12 → k18 l0 l1 l2 l4 g = some (rx, g') → SemF X m_X12_isTried d 18 [(0, .ref (ad X l0)), (1, .int l1), (2, .int l2), (4, .int l4)] [] g (some (.int (b2i rx))) g') (l0 : Nat) (l1 : Int32) (l2 : Int32) (l4 : Int32) (l5 : Int32) (s0 : Int32) (g : G) (k_l0 : KD g l0 12) (h : f_X12_isTried_71 k18 l0 l1 l2 l4 l5 s0 g = some (rx, g')) : SemF X m_X12_isTried d 71 [(0, .ref (ad X l0)), (1, .int l1), (2, .int l2), (4, .int l4), (5, .int l5)] [.int s0] g (some (.int (b2i rx))) g' := by
  rw [f_X12_isTried_71] at h
  refine SF_istore [(6, .int s0), (0, .ref (ad X l0)), (1, .int l1), (2, .int l2), (4, .int l4), (5, .int l5)] 73 dX12_isTried_71 (by decide) rfl rfl ?_
  refine SF_iload 0 75 dX12_isTried_73 rfl rfl ?_
  refine SF_iload 5 77 dX12_isTried_75 rfl rfl ?_
  refine SF_bipush (10 : Int32) 79 dX12_isTried_77 rfl rfl ?_
  refine SF_irem 80 dX12_isTried_79 (by decide) rfl ?_
  refine SF_iconst (1 : Int32) 81 dX12_isTried_80 rfl rfl ?_
  refine SF_icne 88 84 dX12_isTried_81 rfl rfl (fun c1 => ?_) (fun c1 => ?_)
  · have h := ite_f c1 h
    refine SF_iconst (0 : Int32) 89 dX12_isTried_88 rfl rfl ?_
    refine SF_sub [1, 2, 3, 4, 0] rfl ?_
    exact w_X12_isTried_89 hd k18 hk18 l0 l1 l2 l4 s0 (0 : Int32) s0 g k_l0 h
  · have h := ite_t c1 h
    refine SF_iconst (1 : Int32) 85 dX12_isTried_84 rfl rfl ?_
    refine SF_goto 89 dX12_isTried_85 rfl ?_
    refine SF_sub [1, 2, 3, 4, 0] rfl ?_
    exact w_X12_isTried_89 hd k18 hk18 l0 l1 l2 l4 s0 (1 : Int32) s0 g k_l0 h

set_option maxRecDepth 20000 in
set_option maxHeartbeats 2000000 in
theorem w_X12_isTried_18 {X : CX} {d : Nat} (hd : 5 ≤ d) {g' : G} {rx : Bool} : ∀ (n : Nat) (l0 : Nat) (l1 : Int32) (l2 : Int32) (l4 : Int32) (g : G), KD g l0 12 → f_X12_isTried_18 n l0 l1 l2 l4 g = some (rx, g') → SemF X m_X12_isTried d 18 [(0, .ref (ad X l0)), (1, .int l1), (2, .int l2), (4, .int l4)] [] g (some (.int (b2i rx))) g' := by
  intro n
  induction n with
  | zero =>
    intro l0 l1 l2 l4 g k_l0 h
    rw [f_X12_isTried_18] at h
    cases h
  | succ n ih =>
  intro l0 l1 l2 l4 g k_l0 h
  rw [f_X12_isTried_18] at h
  refine SF_iload 3 20 dX12_isTried_18 rfl rfl ?_
  refine SF_aload_n 0 21 dX12_isTried_20 rfl rfl rfl ?_
  obtain ⟨b1, r2, h⟩ := dr_some h
  refine SF_getR 24 fl_X12_67 dX12_isTried_21 k_l0.1 r2 rfl ?_
  refine SF_iload_n 1 25 dX12_isTried_24 rfl rfl rfl ?_
  obtain ⟨k3, h⟩ := gdK_some h
  obtain ⟨i4, h⟩ := gdI_some h
  refine SF_iald 26 dX12_isTried_25 k3.1 i4 rfl ?_
  refine SF_icge 140 29 dX12_isTried_26 rfl rfl (fun c5 => ?_) (fun c5 => ?_)
  · have h := ite_t c5 h
    refine SF_iconst (1 : Int32) 141 dX12_isTried_140 rfl rfl ?_
    exact RT_b rfl rfl dX12_isTried_141 h
  · have h := ite_f c5 h
    refine SF_aload_n 0 30 dX12_isTried_29 rfl rfl rfl ?_
    obtain ⟨b6, r7, h⟩ := dr_some h
    refine SF_getR 33 fl_X12_70 dX12_isTried_30 k_l0.1 r7 rfl ?_
    refine SF_bipush (40 : Int32) 35 dX12_isTried_33 rfl rfl ?_
    refine SF_iload_n 1 36 dX12_isTried_35 rfl rfl rfl ?_
    refine SF_imul 37 dX12_isTried_36 rfl ?_
    refine SF_iload 3 39 dX12_isTried_37 rfl rfl ?_
    refine SF_iadd 40 dX12_isTried_39 rfl ?_
    obtain ⟨k8, h⟩ := gdK_some h
    obtain ⟨i9, h⟩ := gdI_some h
    refine SF_lald 41 dX12_isTried_40 k8.1 i9 rfl ?_
    refine SF_l2i 42 dX12_isTried_41 rfl ?_
    obtain ⟨y10, e11, h⟩ := li_some h
    refine SF_eqI e11 ?_
    refine SF_istore [(5, .int y10), (0, .ref (ad X l0)), (1, .int l1), (2, .int l2), (4, .int l4)] 44 dX12_isTried_42 (by decide) rfl rfl ?_
    refine SF_aload_n 1 45 dX12_isTried_44 rfl rfl rfl ?_
    refine SF_iload_n 3 46 dX12_isTried_45 rfl rfl rfl ?_
    refine SF_iconst (0 : Int32) 47 dX12_isTried_46 rfl rfl ?_
    refine SF_aload_n 1 48 dX12_isTried_47 rfl rfl rfl ?_
    refine SF_getI 51 fl_X12_440 dX12_isTried_48 k_l0.1 rfl ?_
    refine SF_aload_n 1 52 dX12_isTried_51 rfl rfl rfl ?_
    refine SF_getI 55 fl_X12_443 dX12_isTried_52 k_l0.1 rfl ?_
    refine SF_iload 0 57 dX12_isTried_55 rfl rfl ?_
    refine SF_bipush (10 : Int32) 59 dX12_isTried_57 rfl rfl ?_
    refine SF_idiv 60 dX12_isTried_59 (by decide) rfl ?_
    obtain ⟨v12, g13, q14, h⟩ := bd_some h
    have s15 := w_X12_whyBy (X := X) (Nat.le_refl 4) l0 l2 (0 : Int32) (gI g l0 31) (gI g l0 32) (y10 / (10 : Int32)) g g13 v12 k_l0 q14
    refine SF_callVi 63 mi_X12_whyBy ml_X12_261 dX12_isTried_60 (Nat.le_trans (by decide) hd) s15 k_l0.1 rfl rfl (Nat.le_of_ble_eq_true rfl) rfl ?_
    have k_l0 := k_l0.ext s15.1
    have k3 := k3.ext s15.1
    have k8 := k8.ext s15.1
    refine SF_ifne 70 66 dX12_isTried_63 rfl rfl (fun c16 => ?_) (fun c16 => ?_)
    · have h := ite_f c16 h
      refine SF_iconst (0 : Int32) 71 dX12_isTried_70 rfl rfl ?_
      refine SF_sub [1, 2, 3, 4, 0] rfl ?_
      exact w_X12_isTried_71 hd (f_X12_isTried_18 n) ih l0 l1 l2 l4 y10 (0 : Int32) g13 k_l0 h
    · have h := ite_t c16 h
      refine SF_iconst (1 : Int32) 67 dX12_isTried_66 rfl rfl ?_
      refine SF_goto 71 dX12_isTried_67 rfl ?_
      refine SF_sub [1, 2, 3, 4, 0] rfl ?_
      exact w_X12_isTried_71 hd (f_X12_isTried_18 n) ih l0 l1 l2 l4 y10 (1 : Int32) g13 k_l0 h

set_option maxRecDepth 20000 in
set_option maxHeartbeats 2000000 in
theorem w_X12_isTried {X : CX} {d : Nat} (hd : 5 ≤ d) (l0 : Nat) (l1 : Int32) (l2 : Int32) (l3 : Int32) (g g' : G) (rx : Bool) (k_l0 : KD g l0 12) (h : f_X12_isTried l0 l1 l2 l3 g = some (rx, g')) : Sem X m_X12_isTried d [.ref (ad X l0), .int l1, .int l2, .int l3] g (some (.int (b2i rx))) g' := by
  refine Sem_of (lo := [(0, .ref (ad X l0)), (1, .int l1), (2, .int l2), (3, .int l3)]) (by decide +kernel) rfl (Nat.le_of_ble_eq_true rfl) ?_
  rw [f_X12_isTried] at h
  refine SF_aload_n 0 1 dX12_isTried_0 rfl rfl rfl ?_
  refine SF_aload_n 0 2 dX12_isTried_1 rfl rfl rfl ?_
  refine SF_iload_n 2 3 dX12_isTried_2 rfl rfl rfl ?_
  refine SF_iconst (0 : Int32) 4 dX12_isTried_3 rfl rfl ?_
  obtain ⟨v1, g2, q3, h⟩ := bd_some h
  have s4 := w_X12_twinOf (X := X) (Nat.le_refl 0) l0 l2 (0 : Int32) g g2 v1 k_l0 q3
  refine SF_callVi 7 mi_X12_twinOf ml_X12_205 dX12_isTried_4 (Nat.le_trans (by decide) hd) s4 k_l0.1 rfl rfl (Nat.le_of_ble_eq_true rfl) rfl ?_
  have k_l0 := k_l0.ext s4.1
  refine SF_putI 10 fl_X12_440 dX12_isTried_7 k_l0.1 (fn_int _) (Or.inl rfl) rfl ?_
  obtain ⟨g5, e6, h⟩ := lg_some h
  rw [← e6]
  have k_l0 := KD.eq e6 k_l0
  refine SF_aload_n 0 11 dX12_isTried_10 rfl rfl rfl ?_
  refine SF_iload_n 3 12 dX12_isTried_11 rfl rfl rfl ?_
  refine SF_putI 15 fl_X12_443 dX12_isTried_12 k_l0.1 (fn_int _) (Or.inl rfl) rfl ?_
  obtain ⟨g7, e8, h⟩ := lg_some h
  rw [← e8]
  have k_l0 := KD.eq e8 k_l0
  refine SF_iconst (0 : Int32) 16 dX12_isTried_15 rfl rfl ?_
  refine SF_istore [(4, .int (0 : Int32)), (0, .ref (ad X l0)), (1, .int l1), (2, .int l2), (3, .int l3)] 18 dX12_isTried_16 (by decide) rfl rfl ?_
  refine SF_sub [1, 2, 3, 0] rfl ?_
  exact w_X12_isTried_18 hd FU l0 l1 l2 (0 : Int32) g7 k_l0 h

