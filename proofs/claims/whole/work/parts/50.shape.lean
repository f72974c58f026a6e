/-! THE FIXED SHAPE: the cells that the constructors made, their kinds, lengths and the references that never change. -/
def shF : List (Nat × Nat × Nat) := [(0, 0, 1), (0, 4, 47), (0, 5, 52), (0, 6, 57), (0, 7, 68), (0, 8, 2), (0, 9, 9), (0, 11, 16), (0, 12, 22), (0, 13, 27), (0, 14, 35), (0, 15, 76), (0, 16, 40), (0, 17, 41), (2, 1, 3), (2, 2, 4), (2, 3, 5), (2, 4, 6), (2, 5, 7), (2, 6, 8), (9, 1, 10), (9, 2, 11), (9, 3, 12), (9, 4, 13), (9, 5, 14), (9, 6, 15), (16, 1, 17), (16, 2, 18), (16, 3, 19), (16, 5, 20), (16, 7, 21), (22, 0, 23), (22, 1, 24), (22, 2, 25), (22, 3, 26), (27, 1, 28), (27, 2, 29), (27, 3, 30), (27, 5, 31), (27, 6, 32), (27, 7, 33), (27, 8, 34), (35, 0, 36), (35, 2, 39), (36, 0, 37), (36, 1, 38), (40, 0, 128), (40, 1, 130), (40, 2, 132), (40, 3, 134), (42, 6, 43), (42, 7, 44), (42, 8, 45), (42, 9, 46), (47, 2, 48), (47, 3, 49), (47, 4, 50), (47, 5, 51), (52, 2, 53), (52, 3, 54), (52, 4, 55), (52, 5, 56), (57, 0, 63), (57, 7, 59), (57, 8, 60), (57, 9, 61), (57, 16, 62), (63, 2, 64), (63, 3, 65), (63, 4, 66), (63, 5, 67), (68, 3, 69), (68, 4, 70), (68, 7, 71), (68, 8, 72), (68, 9, 73), (68, 10, 74), (68, 12, 75), (76, 2, 77), (77, 0, 78), (77, 1, 83), (77, 2, 88), (77, 3, 93), (77, 4, 98), (77, 5, 103), (77, 6, 108), (77, 7, 113), (77, 8, 118), (77, 9, 123), (78, 2, 79), (78, 3, 80), (78, 4, 81), (78, 5, 82), (83, 2, 84), (83, 3, 85), (83, 4, 86), (83, 5, 87), (88, 2, 89), (88, 3, 90), (88, 4, 91), (88, 5, 92), (93, 2, 94), (93, 3, 95), (93, 4, 96), (93, 5, 97), (98, 2, 99), (98, 3, 100), (98, 4, 101), (98, 5, 102), (103, 2, 104), (103, 3, 105), (103, 4, 106), (103, 5, 107), (108, 2, 109), (108, 3, 110), (108, 4, 111), (108, 5, 112), (113, 2, 114), (113, 3, 115), (113, 4, 116), (113, 5, 117), (118, 2, 119), (118, 3, 120), (118, 4, 121), (118, 5, 122), (123, 2, 124), (123, 3, 125), (123, 4, 126), (123, 5, 127), (128, 2, 129), (130, 2, 131), (132, 2, 133), (134, 2, 135), (136, 1, 137), (136, 2, 138), (136, 3, 139), (136, 4, 140), (136, 15, 141), (136, 16, 142), (136, 19, 143), (136, 23, 144), (136, 24, 145), (136, 25, 146), (136, 26, 147), (136, 27, 148), (136, 28, 149), (136, 29, 150), (136, 30, 151), (136, 33, 152), (136, 34, 153), (136, 35, 154)]
def Sh (g : G) : Prop := 155 ≤ gn g ∧ (∀ q ∈ shK, gK g q.1 = q.2.1 ∧ gN g q.1 = q.2.2) ∧ ∀ q ∈ shF, gR g q.1 q.2.1 = some q.2.2
theorem Sh_B : Sh gB := by
  refine ⟨by rw [gB_n]; exact Nat.le_refl _, fun q hq => ?_, fun q hq => ?_⟩
  · have := List.all_eq_true.mp shK_ok q hq
    simpa using this
  · have h0 : shF.all (fun q => gR gB q.1 q.2.1 == some q.2.2) = true := by decide +kernel
    have := List.all_eq_true.mp h0 q hq
    simpa using this
section SHP
variable {g : G}
theorem sk0 (h : Sh g) : KD g 0 11 := ⟨(h.2.1 (0, 11, 0) (by decide +kernel)).1, Nat.lt_of_lt_of_le (by decide) h.1⟩
theorem sk1 (h : Sh g) : KD g 1 13 := ⟨(h.2.1 (1, 13, 900) (by decide +kernel)).1, Nat.lt_of_lt_of_le (by decide) h.1⟩
theorem sn1 (h : Sh g) : gN g 1 = 900 := (h.2.1 (1, 13, 900) (by decide +kernel)).2
theorem sk2 (h : Sh g) : KD g 2 4 := ⟨(h.2.1 (2, 4, 0) (by decide +kernel)).1, Nat.lt_of_lt_of_le (by decide) h.1⟩
theorem sk3 (h : Sh g) : KD g 3 14 := ⟨(h.2.1 (3, 14, 256) (by decide +kernel)).1, Nat.lt_of_lt_of_le (by decide) h.1⟩
theorem sn3 (h : Sh g) : gN g 3 = 256 := (h.2.1 (3, 14, 256) (by decide +kernel)).2
theorem sk4 (h : Sh g) : KD g 4 14 := ⟨(h.2.1 (4, 14, 256) (by decide +kernel)).1, Nat.lt_of_lt_of_le (by decide) h.1⟩
theorem sn4 (h : Sh g) : gN g 4 = 256 := (h.2.1 (4, 14, 256) (by decide +kernel)).2
theorem sk5 (h : Sh g) : KD g 5 14 := ⟨(h.2.1 (5, 14, 256) (by decide +kernel)).1, Nat.lt_of_lt_of_le (by decide) h.1⟩
theorem sn5 (h : Sh g) : gN g 5 = 256 := (h.2.1 (5, 14, 256) (by decide +kernel)).2
theorem sk6 (h : Sh g) : KD g 6 14 := ⟨(h.2.1 (6, 14, 256) (by decide +kernel)).1, Nat.lt_of_lt_of_le (by decide) h.1⟩
theorem sn6 (h : Sh g) : gN g 6 = 256 := (h.2.1 (6, 14, 256) (by decide +kernel)).2
theorem sk7 (h : Sh g) : KD g 7 14 := ⟨(h.2.1 (7, 14, 2048) (by decide +kernel)).1, Nat.lt_of_lt_of_le (by decide) h.1⟩
theorem sn7 (h : Sh g) : gN g 7 = 2048 := (h.2.1 (7, 14, 2048) (by decide +kernel)).2
theorem sk8 (h : Sh g) : KD g 8 14 := ⟨(h.2.1 (8, 14, 1296) (by decide +kernel)).1, Nat.lt_of_lt_of_le (by decide) h.1⟩
theorem sn8 (h : Sh g) : gN g 8 = 1296 := (h.2.1 (8, 14, 1296) (by decide +kernel)).2
theorem sk9 (h : Sh g) : KD g 9 4 := ⟨(h.2.1 (9, 4, 0) (by decide +kernel)).1, Nat.lt_of_lt_of_le (by decide) h.1⟩
theorem sk10 (h : Sh g) : KD g 10 14 := ⟨(h.2.1 (10, 14, 256) (by decide +kernel)).1, Nat.lt_of_lt_of_le (by decide) h.1⟩
theorem sn10 (h : Sh g) : gN g 10 = 256 := (h.2.1 (10, 14, 256) (by decide +kernel)).2
theorem sk11 (h : Sh g) : KD g 11 14 := ⟨(h.2.1 (11, 14, 256) (by decide +kernel)).1, Nat.lt_of_lt_of_le (by decide) h.1⟩
theorem sn11 (h : Sh g) : gN g 11 = 256 := (h.2.1 (11, 14, 256) (by decide +kernel)).2
theorem sk12 (h : Sh g) : KD g 12 14 := ⟨(h.2.1 (12, 14, 256) (by decide +kernel)).1, Nat.lt_of_lt_of_le (by decide) h.1⟩
theorem sn12 (h : Sh g) : gN g 12 = 256 := (h.2.1 (12, 14, 256) (by decide +kernel)).2
theorem sk13 (h : Sh g) : KD g 13 14 := ⟨(h.2.1 (13, 14, 256) (by decide +kernel)).1, Nat.lt_of_lt_of_le (by decide) h.1⟩
theorem sn13 (h : Sh g) : gN g 13 = 256 := (h.2.1 (13, 14, 256) (by decide +kernel)).2
theorem sk14 (h : Sh g) : KD g 14 14 := ⟨(h.2.1 (14, 14, 2048) (by decide +kernel)).1, Nat.lt_of_lt_of_le (by decide) h.1⟩
theorem sn14 (h : Sh g) : gN g 14 = 2048 := (h.2.1 (14, 14, 2048) (by decide +kernel)).2
theorem sk15 (h : Sh g) : KD g 15 14 := ⟨(h.2.1 (15, 14, 1296) (by decide +kernel)).1, Nat.lt_of_lt_of_le (by decide) h.1⟩
theorem sn15 (h : Sh g) : gN g 15 = 1296 := (h.2.1 (15, 14, 1296) (by decide +kernel)).2
theorem sk16 (h : Sh g) : KD g 16 1 := ⟨(h.2.1 (16, 1, 0) (by decide +kernel)).1, Nat.lt_of_lt_of_le (by decide) h.1⟩
theorem sk17 (h : Sh g) : KD g 17 14 := ⟨(h.2.1 (17, 14, 256) (by decide +kernel)).1, Nat.lt_of_lt_of_le (by decide) h.1⟩
theorem sn17 (h : Sh g) : gN g 17 = 256 := (h.2.1 (17, 14, 256) (by decide +kernel)).2
theorem sk18 (h : Sh g) : KD g 18 14 := ⟨(h.2.1 (18, 14, 2048) (by decide +kernel)).1, Nat.lt_of_lt_of_le (by decide) h.1⟩
theorem sn18 (h : Sh g) : gN g 18 = 2048 := (h.2.1 (18, 14, 2048) (by decide +kernel)).2
theorem sk19 (h : Sh g) : KD g 19 14 := ⟨(h.2.1 (19, 14, 256) (by decide +kernel)).1, Nat.lt_of_lt_of_le (by decide) h.1⟩
theorem sn19 (h : Sh g) : gN g 19 = 256 := (h.2.1 (19, 14, 256) (by decide +kernel)).2
theorem sk20 (h : Sh g) : KD g 20 14 := ⟨(h.2.1 (20, 14, 256) (by decide +kernel)).1, Nat.lt_of_lt_of_le (by decide) h.1⟩
theorem sn20 (h : Sh g) : gN g 20 = 256 := (h.2.1 (20, 14, 256) (by decide +kernel)).2
theorem sk21 (h : Sh g) : KD g 21 14 := ⟨(h.2.1 (21, 14, 256) (by decide +kernel)).1, Nat.lt_of_lt_of_le (by decide) h.1⟩
theorem sn21 (h : Sh g) : gN g 21 = 256 := (h.2.1 (21, 14, 256) (by decide +kernel)).2
theorem sk22 (h : Sh g) : KD g 22 2 := ⟨(h.2.1 (22, 2, 0) (by decide +kernel)).1, Nat.lt_of_lt_of_le (by decide) h.1⟩
theorem sk23 (h : Sh g) : KD g 23 14 := ⟨(h.2.1 (23, 14, 1024) (by decide +kernel)).1, Nat.lt_of_lt_of_le (by decide) h.1⟩
theorem sn23 (h : Sh g) : gN g 23 = 1024 := (h.2.1 (23, 14, 1024) (by decide +kernel)).2
theorem sk24 (h : Sh g) : KD g 24 14 := ⟨(h.2.1 (24, 14, 1024) (by decide +kernel)).1, Nat.lt_of_lt_of_le (by decide) h.1⟩
theorem sn24 (h : Sh g) : gN g 24 = 1024 := (h.2.1 (24, 14, 1024) (by decide +kernel)).2
theorem sk25 (h : Sh g) : KD g 25 14 := ⟨(h.2.1 (25, 14, 1024) (by decide +kernel)).1, Nat.lt_of_lt_of_le (by decide) h.1⟩
theorem sn25 (h : Sh g) : gN g 25 = 1024 := (h.2.1 (25, 14, 1024) (by decide +kernel)).2
theorem sk26 (h : Sh g) : KD g 26 14 := ⟨(h.2.1 (26, 14, 1024) (by decide +kernel)).1, Nat.lt_of_lt_of_le (by decide) h.1⟩
theorem sn26 (h : Sh g) : gN g 26 = 1024 := (h.2.1 (26, 14, 1024) (by decide +kernel)).2
theorem sk27 (h : Sh g) : KD g 27 3 := ⟨(h.2.1 (27, 3, 0) (by decide +kernel)).1, Nat.lt_of_lt_of_le (by decide) h.1⟩
theorem sk28 (h : Sh g) : KD g 28 14 := ⟨(h.2.1 (28, 14, 512) (by decide +kernel)).1, Nat.lt_of_lt_of_le (by decide) h.1⟩
theorem sn28 (h : Sh g) : gN g 28 = 512 := (h.2.1 (28, 14, 512) (by decide +kernel)).2
theorem sk29 (h : Sh g) : KD g 29 14 := ⟨(h.2.1 (29, 14, 2048) (by decide +kernel)).1, Nat.lt_of_lt_of_le (by decide) h.1⟩
theorem sn29 (h : Sh g) : gN g 29 = 2048 := (h.2.1 (29, 14, 2048) (by decide +kernel)).2
theorem sk30 (h : Sh g) : KD g 30 14 := ⟨(h.2.1 (30, 14, 2048) (by decide +kernel)).1, Nat.lt_of_lt_of_le (by decide) h.1⟩
theorem sn30 (h : Sh g) : gN g 30 = 2048 := (h.2.1 (30, 14, 2048) (by decide +kernel)).2
theorem sk31 (h : Sh g) : KD g 31 14 := ⟨(h.2.1 (31, 14, 512) (by decide +kernel)).1, Nat.lt_of_lt_of_le (by decide) h.1⟩
theorem sn31 (h : Sh g) : gN g 31 = 512 := (h.2.1 (31, 14, 512) (by decide +kernel)).2
theorem sk32 (h : Sh g) : KD g 32 14 := ⟨(h.2.1 (32, 14, 512) (by decide +kernel)).1, Nat.lt_of_lt_of_le (by decide) h.1⟩
theorem sn32 (h : Sh g) : gN g 32 = 512 := (h.2.1 (32, 14, 512) (by decide +kernel)).2
theorem sk33 (h : Sh g) : KD g 33 14 := ⟨(h.2.1 (33, 14, 512) (by decide +kernel)).1, Nat.lt_of_lt_of_le (by decide) h.1⟩
theorem sn33 (h : Sh g) : gN g 33 = 512 := (h.2.1 (33, 14, 512) (by decide +kernel)).2
theorem sk34 (h : Sh g) : KD g 34 14 := ⟨(h.2.1 (34, 14, 512) (by decide +kernel)).1, Nat.lt_of_lt_of_le (by decide) h.1⟩
theorem sn34 (h : Sh g) : gN g 34 = 512 := (h.2.1 (34, 14, 512) (by decide +kernel)).2
theorem sk35 (h : Sh g) : KD g 35 6 := ⟨(h.2.1 (35, 6, 0) (by decide +kernel)).1, Nat.lt_of_lt_of_le (by decide) h.1⟩
theorem sk36 (h : Sh g) : KD g 36 19 := ⟨(h.2.1 (36, 19, 2) (by decide +kernel)).1, Nat.lt_of_lt_of_le (by decide) h.1⟩
theorem sn36 (h : Sh g) : gN g 36 = 2 := (h.2.1 (36, 19, 2) (by decide +kernel)).2
theorem sk37 (h : Sh g) : KD g 37 15 := ⟨(h.2.1 (37, 15, 256) (by decide +kernel)).1, Nat.lt_of_lt_of_le (by decide) h.1⟩
theorem sn37 (h : Sh g) : gN g 37 = 256 := (h.2.1 (37, 15, 256) (by decide +kernel)).2
theorem sk38 (h : Sh g) : KD g 38 15 := ⟨(h.2.1 (38, 15, 256) (by decide +kernel)).1, Nat.lt_of_lt_of_le (by decide) h.1⟩
theorem sn38 (h : Sh g) : gN g 38 = 256 := (h.2.1 (38, 15, 256) (by decide +kernel)).2
theorem sk39 (h : Sh g) : KD g 39 15 := ⟨(h.2.1 (39, 15, 36) (by decide +kernel)).1, Nat.lt_of_lt_of_le (by decide) h.1⟩
theorem sn39 (h : Sh g) : gN g 39 = 36 := (h.2.1 (39, 15, 36) (by decide +kernel)).2
theorem sk40 (h : Sh g) : KD g 40 18 := ⟨(h.2.1 (40, 18, 4) (by decide +kernel)).1, Nat.lt_of_lt_of_le (by decide) h.1⟩
theorem sn40 (h : Sh g) : gN g 40 = 4 := (h.2.1 (40, 18, 4) (by decide +kernel)).2
theorem sk41 (h : Sh g) : KD g 41 17 := ⟨(h.2.1 (41, 17, 2) (by decide +kernel)).1, Nat.lt_of_lt_of_le (by decide) h.1⟩
theorem sn41 (h : Sh g) : gN g 41 = 2 := (h.2.1 (41, 17, 2) (by decide +kernel)).2
theorem sk42 (h : Sh g) : KD g 42 7 := ⟨(h.2.1 (42, 7, 0) (by decide +kernel)).1, Nat.lt_of_lt_of_le (by decide) h.1⟩
theorem sk43 (h : Sh g) : KD g 43 14 := ⟨(h.2.1 (43, 14, 36) (by decide +kernel)).1, Nat.lt_of_lt_of_le (by decide) h.1⟩
theorem sn43 (h : Sh g) : gN g 43 = 36 := (h.2.1 (43, 14, 36) (by decide +kernel)).2
theorem sk44 (h : Sh g) : KD g 44 14 := ⟨(h.2.1 (44, 14, 36) (by decide +kernel)).1, Nat.lt_of_lt_of_le (by decide) h.1⟩
theorem sn44 (h : Sh g) : gN g 44 = 36 := (h.2.1 (44, 14, 36) (by decide +kernel)).2
theorem sk45 (h : Sh g) : KD g 45 14 := ⟨(h.2.1 (45, 14, 36) (by decide +kernel)).1, Nat.lt_of_lt_of_le (by decide) h.1⟩
theorem sn45 (h : Sh g) : gN g 45 = 36 := (h.2.1 (45, 14, 36) (by decide +kernel)).2
theorem sk46 (h : Sh g) : KD g 46 14 := ⟨(h.2.1 (46, 14, 6) (by decide +kernel)).1, Nat.lt_of_lt_of_le (by decide) h.1⟩
theorem sn46 (h : Sh g) : gN g 46 = 6 := (h.2.1 (46, 14, 6) (by decide +kernel)).2
theorem sk47 (h : Sh g) : KD g 47 0 := ⟨(h.2.1 (47, 0, 0) (by decide +kernel)).1, Nat.lt_of_lt_of_le (by decide) h.1⟩
theorem sk48 (h : Sh g) : KD g 48 14 := ⟨(h.2.1 (48, 14, 6) (by decide +kernel)).1, Nat.lt_of_lt_of_le (by decide) h.1⟩
theorem sn48 (h : Sh g) : gN g 48 = 6 := (h.2.1 (48, 14, 6) (by decide +kernel)).2
theorem sk49 (h : Sh g) : KD g 49 14 := ⟨(h.2.1 (49, 14, 3) (by decide +kernel)).1, Nat.lt_of_lt_of_le (by decide) h.1⟩
theorem sn49 (h : Sh g) : gN g 49 = 3 := (h.2.1 (49, 14, 3) (by decide +kernel)).2
theorem sk50 (h : Sh g) : KD g 50 14 := ⟨(h.2.1 (50, 14, 3) (by decide +kernel)).1, Nat.lt_of_lt_of_le (by decide) h.1⟩
theorem sn50 (h : Sh g) : gN g 50 = 3 := (h.2.1 (50, 14, 3) (by decide +kernel)).2
theorem sk51 (h : Sh g) : KD g 51 14 := ⟨(h.2.1 (51, 14, 3) (by decide +kernel)).1, Nat.lt_of_lt_of_le (by decide) h.1⟩
theorem sn51 (h : Sh g) : gN g 51 = 3 := (h.2.1 (51, 14, 3) (by decide +kernel)).2
theorem sk52 (h : Sh g) : KD g 52 0 := ⟨(h.2.1 (52, 0, 0) (by decide +kernel)).1, Nat.lt_of_lt_of_le (by decide) h.1⟩
theorem sk53 (h : Sh g) : KD g 53 14 := ⟨(h.2.1 (53, 14, 6) (by decide +kernel)).1, Nat.lt_of_lt_of_le (by decide) h.1⟩
theorem sn53 (h : Sh g) : gN g 53 = 6 := (h.2.1 (53, 14, 6) (by decide +kernel)).2
theorem sk54 (h : Sh g) : KD g 54 14 := ⟨(h.2.1 (54, 14, 3) (by decide +kernel)).1, Nat.lt_of_lt_of_le (by decide) h.1⟩
theorem sn54 (h : Sh g) : gN g 54 = 3 := (h.2.1 (54, 14, 3) (by decide +kernel)).2
theorem sk55 (h : Sh g) : KD g 55 14 := ⟨(h.2.1 (55, 14, 3) (by decide +kernel)).1, Nat.lt_of_lt_of_le (by decide) h.1⟩
theorem sn55 (h : Sh g) : gN g 55 = 3 := (h.2.1 (55, 14, 3) (by decide +kernel)).2
theorem sk56 (h : Sh g) : KD g 56 14 := ⟨(h.2.1 (56, 14, 3) (by decide +kernel)).1, Nat.lt_of_lt_of_le (by decide) h.1⟩
theorem sn56 (h : Sh g) : gN g 56 = 3 := (h.2.1 (56, 14, 3) (by decide +kernel)).2
theorem sk57 (h : Sh g) : KD g 57 8 := ⟨(h.2.1 (57, 8, 0) (by decide +kernel)).1, Nat.lt_of_lt_of_le (by decide) h.1⟩
theorem sk58 (h : Sh g) : KD g 58 13 := ⟨(h.2.1 (58, 13, 0) (by decide +kernel)).1, Nat.lt_of_lt_of_le (by decide) h.1⟩
theorem sn58 (h : Sh g) : gN g 58 = 0 := (h.2.1 (58, 13, 0) (by decide +kernel)).2
theorem sk59 (h : Sh g) : KD g 59 14 := ⟨(h.2.1 (59, 14, 901) (by decide +kernel)).1, Nat.lt_of_lt_of_le (by decide) h.1⟩
theorem sn59 (h : Sh g) : gN g 59 = 901 := (h.2.1 (59, 14, 901) (by decide +kernel)).2
theorem sk60 (h : Sh g) : KD g 60 14 := ⟨(h.2.1 (60, 14, 901) (by decide +kernel)).1, Nat.lt_of_lt_of_le (by decide) h.1⟩
theorem sn60 (h : Sh g) : gN g 60 = 901 := (h.2.1 (60, 14, 901) (by decide +kernel)).2
theorem sk61 (h : Sh g) : KD g 61 14 := ⟨(h.2.1 (61, 14, 901) (by decide +kernel)).1, Nat.lt_of_lt_of_le (by decide) h.1⟩
theorem sn61 (h : Sh g) : gN g 61 = 901 := (h.2.1 (61, 14, 901) (by decide +kernel)).2
theorem sk62 (h : Sh g) : KD g 62 14 := ⟨(h.2.1 (62, 14, 900) (by decide +kernel)).1, Nat.lt_of_lt_of_le (by decide) h.1⟩
theorem sn62 (h : Sh g) : gN g 62 = 900 := (h.2.1 (62, 14, 900) (by decide +kernel)).2
theorem sk63 (h : Sh g) : KD g 63 0 := ⟨(h.2.1 (63, 0, 0) (by decide +kernel)).1, Nat.lt_of_lt_of_le (by decide) h.1⟩
theorem sk64 (h : Sh g) : KD g 64 14 := ⟨(h.2.1 (64, 14, 6) (by decide +kernel)).1, Nat.lt_of_lt_of_le (by decide) h.1⟩
theorem sn64 (h : Sh g) : gN g 64 = 6 := (h.2.1 (64, 14, 6) (by decide +kernel)).2
theorem sk65 (h : Sh g) : KD g 65 14 := ⟨(h.2.1 (65, 14, 3) (by decide +kernel)).1, Nat.lt_of_lt_of_le (by decide) h.1⟩
theorem sn65 (h : Sh g) : gN g 65 = 3 := (h.2.1 (65, 14, 3) (by decide +kernel)).2
theorem sk66 (h : Sh g) : KD g 66 14 := ⟨(h.2.1 (66, 14, 3) (by decide +kernel)).1, Nat.lt_of_lt_of_le (by decide) h.1⟩
theorem sn66 (h : Sh g) : gN g 66 = 3 := (h.2.1 (66, 14, 3) (by decide +kernel)).2
theorem sk67 (h : Sh g) : KD g 67 14 := ⟨(h.2.1 (67, 14, 3) (by decide +kernel)).1, Nat.lt_of_lt_of_le (by decide) h.1⟩
theorem sn67 (h : Sh g) : gN g 67 = 3 := (h.2.1 (67, 14, 3) (by decide +kernel)).2
theorem sk68 (h : Sh g) : KD g 68 9 := ⟨(h.2.1 (68, 9, 0) (by decide +kernel)).1, Nat.lt_of_lt_of_le (by decide) h.1⟩
theorem sk69 (h : Sh g) : KD g 69 14 := ⟨(h.2.1 (69, 14, 8) (by decide +kernel)).1, Nat.lt_of_lt_of_le (by decide) h.1⟩
theorem sn69 (h : Sh g) : gN g 69 = 8 := (h.2.1 (69, 14, 8) (by decide +kernel)).2
theorem sk70 (h : Sh g) : KD g 70 15 := ⟨(h.2.1 (70, 15, 396) (by decide +kernel)).1, Nat.lt_of_lt_of_le (by decide) h.1⟩
theorem sn70 (h : Sh g) : gN g 70 = 396 := (h.2.1 (70, 15, 396) (by decide +kernel)).2
theorem sk71 (h : Sh g) : KD g 71 14 := ⟨(h.2.1 (71, 14, 2592) (by decide +kernel)).1, Nat.lt_of_lt_of_le (by decide) h.1⟩
theorem sn71 (h : Sh g) : gN g 71 = 2592 := (h.2.1 (71, 14, 2592) (by decide +kernel)).2
theorem sk72 (h : Sh g) : KD g 72 14 := ⟨(h.2.1 (72, 14, 2592) (by decide +kernel)).1, Nat.lt_of_lt_of_le (by decide) h.1⟩
theorem sn72 (h : Sh g) : gN g 72 = 2592 := (h.2.1 (72, 14, 2592) (by decide +kernel)).2
theorem sk73 (h : Sh g) : KD g 73 14 := ⟨(h.2.1 (73, 14, 2592) (by decide +kernel)).1, Nat.lt_of_lt_of_le (by decide) h.1⟩
theorem sn73 (h : Sh g) : gN g 73 = 2592 := (h.2.1 (73, 14, 2592) (by decide +kernel)).2
theorem sk74 (h : Sh g) : KD g 74 14 := ⟨(h.2.1 (74, 14, 2592) (by decide +kernel)).1, Nat.lt_of_lt_of_le (by decide) h.1⟩
theorem sn74 (h : Sh g) : gN g 74 = 2592 := (h.2.1 (74, 14, 2592) (by decide +kernel)).2
theorem sk75 (h : Sh g) : KD g 75 15 := ⟨(h.2.1 (75, 15, 64) (by decide +kernel)).1, Nat.lt_of_lt_of_le (by decide) h.1⟩
theorem sn75 (h : Sh g) : gN g 75 = 64 := (h.2.1 (75, 15, 64) (by decide +kernel)).2
theorem sk76 (h : Sh g) : KD g 76 5 := ⟨(h.2.1 (76, 5, 0) (by decide +kernel)).1, Nat.lt_of_lt_of_le (by decide) h.1⟩
theorem sk77 (h : Sh g) : KD g 77 17 := ⟨(h.2.1 (77, 17, 10) (by decide +kernel)).1, Nat.lt_of_lt_of_le (by decide) h.1⟩
theorem sn77 (h : Sh g) : gN g 77 = 10 := (h.2.1 (77, 17, 10) (by decide +kernel)).2
theorem sk78 (h : Sh g) : KD g 78 0 := ⟨(h.2.1 (78, 0, 0) (by decide +kernel)).1, Nat.lt_of_lt_of_le (by decide) h.1⟩
theorem sk79 (h : Sh g) : KD g 79 14 := ⟨(h.2.1 (79, 14, 6) (by decide +kernel)).1, Nat.lt_of_lt_of_le (by decide) h.1⟩
theorem sn79 (h : Sh g) : gN g 79 = 6 := (h.2.1 (79, 14, 6) (by decide +kernel)).2
theorem sk80 (h : Sh g) : KD g 80 14 := ⟨(h.2.1 (80, 14, 3) (by decide +kernel)).1, Nat.lt_of_lt_of_le (by decide) h.1⟩
theorem sn80 (h : Sh g) : gN g 80 = 3 := (h.2.1 (80, 14, 3) (by decide +kernel)).2
theorem sk81 (h : Sh g) : KD g 81 14 := ⟨(h.2.1 (81, 14, 3) (by decide +kernel)).1, Nat.lt_of_lt_of_le (by decide) h.1⟩
theorem sn81 (h : Sh g) : gN g 81 = 3 := (h.2.1 (81, 14, 3) (by decide +kernel)).2
theorem sk82 (h : Sh g) : KD g 82 14 := ⟨(h.2.1 (82, 14, 3) (by decide +kernel)).1, Nat.lt_of_lt_of_le (by decide) h.1⟩
theorem sn82 (h : Sh g) : gN g 82 = 3 := (h.2.1 (82, 14, 3) (by decide +kernel)).2
theorem sk83 (h : Sh g) : KD g 83 0 := ⟨(h.2.1 (83, 0, 0) (by decide +kernel)).1, Nat.lt_of_lt_of_le (by decide) h.1⟩
theorem sk84 (h : Sh g) : KD g 84 14 := ⟨(h.2.1 (84, 14, 6) (by decide +kernel)).1, Nat.lt_of_lt_of_le (by decide) h.1⟩
theorem sn84 (h : Sh g) : gN g 84 = 6 := (h.2.1 (84, 14, 6) (by decide +kernel)).2
theorem sk85 (h : Sh g) : KD g 85 14 := ⟨(h.2.1 (85, 14, 3) (by decide +kernel)).1, Nat.lt_of_lt_of_le (by decide) h.1⟩
theorem sn85 (h : Sh g) : gN g 85 = 3 := (h.2.1 (85, 14, 3) (by decide +kernel)).2
theorem sk86 (h : Sh g) : KD g 86 14 := ⟨(h.2.1 (86, 14, 3) (by decide +kernel)).1, Nat.lt_of_lt_of_le (by decide) h.1⟩
theorem sn86 (h : Sh g) : gN g 86 = 3 := (h.2.1 (86, 14, 3) (by decide +kernel)).2
theorem sk87 (h : Sh g) : KD g 87 14 := ⟨(h.2.1 (87, 14, 3) (by decide +kernel)).1, Nat.lt_of_lt_of_le (by decide) h.1⟩
theorem sn87 (h : Sh g) : gN g 87 = 3 := (h.2.1 (87, 14, 3) (by decide +kernel)).2
theorem sk88 (h : Sh g) : KD g 88 0 := ⟨(h.2.1 (88, 0, 0) (by decide +kernel)).1, Nat.lt_of_lt_of_le (by decide) h.1⟩
theorem sk89 (h : Sh g) : KD g 89 14 := ⟨(h.2.1 (89, 14, 6) (by decide +kernel)).1, Nat.lt_of_lt_of_le (by decide) h.1⟩
theorem sn89 (h : Sh g) : gN g 89 = 6 := (h.2.1 (89, 14, 6) (by decide +kernel)).2
theorem sk90 (h : Sh g) : KD g 90 14 := ⟨(h.2.1 (90, 14, 3) (by decide +kernel)).1, Nat.lt_of_lt_of_le (by decide) h.1⟩
theorem sn90 (h : Sh g) : gN g 90 = 3 := (h.2.1 (90, 14, 3) (by decide +kernel)).2
theorem sk91 (h : Sh g) : KD g 91 14 := ⟨(h.2.1 (91, 14, 3) (by decide +kernel)).1, Nat.lt_of_lt_of_le (by decide) h.1⟩
theorem sn91 (h : Sh g) : gN g 91 = 3 := (h.2.1 (91, 14, 3) (by decide +kernel)).2
theorem sk92 (h : Sh g) : KD g 92 14 := ⟨(h.2.1 (92, 14, 3) (by decide +kernel)).1, Nat.lt_of_lt_of_le (by decide) h.1⟩
theorem sn92 (h : Sh g) : gN g 92 = 3 := (h.2.1 (92, 14, 3) (by decide +kernel)).2
theorem sk93 (h : Sh g) : KD g 93 0 := ⟨(h.2.1 (93, 0, 0) (by decide +kernel)).1, Nat.lt_of_lt_of_le (by decide) h.1⟩
theorem sk94 (h : Sh g) : KD g 94 14 := ⟨(h.2.1 (94, 14, 6) (by decide +kernel)).1, Nat.lt_of_lt_of_le (by decide) h.1⟩
theorem sn94 (h : Sh g) : gN g 94 = 6 := (h.2.1 (94, 14, 6) (by decide +kernel)).2
theorem sk95 (h : Sh g) : KD g 95 14 := ⟨(h.2.1 (95, 14, 3) (by decide +kernel)).1, Nat.lt_of_lt_of_le (by decide) h.1⟩
theorem sn95 (h : Sh g) : gN g 95 = 3 := (h.2.1 (95, 14, 3) (by decide +kernel)).2
theorem sk96 (h : Sh g) : KD g 96 14 := ⟨(h.2.1 (96, 14, 3) (by decide +kernel)).1, Nat.lt_of_lt_of_le (by decide) h.1⟩
theorem sn96 (h : Sh g) : gN g 96 = 3 := (h.2.1 (96, 14, 3) (by decide +kernel)).2
theorem sk97 (h : Sh g) : KD g 97 14 := ⟨(h.2.1 (97, 14, 3) (by decide +kernel)).1, Nat.lt_of_lt_of_le (by decide) h.1⟩
theorem sn97 (h : Sh g) : gN g 97 = 3 := (h.2.1 (97, 14, 3) (by decide +kernel)).2
theorem sk98 (h : Sh g) : KD g 98 0 := ⟨(h.2.1 (98, 0, 0) (by decide +kernel)).1, Nat.lt_of_lt_of_le (by decide) h.1⟩
theorem sk99 (h : Sh g) : KD g 99 14 := ⟨(h.2.1 (99, 14, 6) (by decide +kernel)).1, Nat.lt_of_lt_of_le (by decide) h.1⟩
theorem sn99 (h : Sh g) : gN g 99 = 6 := (h.2.1 (99, 14, 6) (by decide +kernel)).2
theorem sk100 (h : Sh g) : KD g 100 14 := ⟨(h.2.1 (100, 14, 3) (by decide +kernel)).1, Nat.lt_of_lt_of_le (by decide) h.1⟩
theorem sn100 (h : Sh g) : gN g 100 = 3 := (h.2.1 (100, 14, 3) (by decide +kernel)).2
theorem sk101 (h : Sh g) : KD g 101 14 := ⟨(h.2.1 (101, 14, 3) (by decide +kernel)).1, Nat.lt_of_lt_of_le (by decide) h.1⟩
theorem sn101 (h : Sh g) : gN g 101 = 3 := (h.2.1 (101, 14, 3) (by decide +kernel)).2
theorem sk102 (h : Sh g) : KD g 102 14 := ⟨(h.2.1 (102, 14, 3) (by decide +kernel)).1, Nat.lt_of_lt_of_le (by decide) h.1⟩
theorem sn102 (h : Sh g) : gN g 102 = 3 := (h.2.1 (102, 14, 3) (by decide +kernel)).2
theorem sk103 (h : Sh g) : KD g 103 0 := ⟨(h.2.1 (103, 0, 0) (by decide +kernel)).1, Nat.lt_of_lt_of_le (by decide) h.1⟩
theorem sk104 (h : Sh g) : KD g 104 14 := ⟨(h.2.1 (104, 14, 6) (by decide +kernel)).1, Nat.lt_of_lt_of_le (by decide) h.1⟩
theorem sn104 (h : Sh g) : gN g 104 = 6 := (h.2.1 (104, 14, 6) (by decide +kernel)).2
theorem sk105 (h : Sh g) : KD g 105 14 := ⟨(h.2.1 (105, 14, 3) (by decide +kernel)).1, Nat.lt_of_lt_of_le (by decide) h.1⟩
theorem sn105 (h : Sh g) : gN g 105 = 3 := (h.2.1 (105, 14, 3) (by decide +kernel)).2
theorem sk106 (h : Sh g) : KD g 106 14 := ⟨(h.2.1 (106, 14, 3) (by decide +kernel)).1, Nat.lt_of_lt_of_le (by decide) h.1⟩
theorem sn106 (h : Sh g) : gN g 106 = 3 := (h.2.1 (106, 14, 3) (by decide +kernel)).2
theorem sk107 (h : Sh g) : KD g 107 14 := ⟨(h.2.1 (107, 14, 3) (by decide +kernel)).1, Nat.lt_of_lt_of_le (by decide) h.1⟩
theorem sn107 (h : Sh g) : gN g 107 = 3 := (h.2.1 (107, 14, 3) (by decide +kernel)).2
theorem sk108 (h : Sh g) : KD g 108 0 := ⟨(h.2.1 (108, 0, 0) (by decide +kernel)).1, Nat.lt_of_lt_of_le (by decide) h.1⟩
theorem sk109 (h : Sh g) : KD g 109 14 := ⟨(h.2.1 (109, 14, 6) (by decide +kernel)).1, Nat.lt_of_lt_of_le (by decide) h.1⟩
theorem sn109 (h : Sh g) : gN g 109 = 6 := (h.2.1 (109, 14, 6) (by decide +kernel)).2
theorem sk110 (h : Sh g) : KD g 110 14 := ⟨(h.2.1 (110, 14, 3) (by decide +kernel)).1, Nat.lt_of_lt_of_le (by decide) h.1⟩
theorem sn110 (h : Sh g) : gN g 110 = 3 := (h.2.1 (110, 14, 3) (by decide +kernel)).2
theorem sk111 (h : Sh g) : KD g 111 14 := ⟨(h.2.1 (111, 14, 3) (by decide +kernel)).1, Nat.lt_of_lt_of_le (by decide) h.1⟩
theorem sn111 (h : Sh g) : gN g 111 = 3 := (h.2.1 (111, 14, 3) (by decide +kernel)).2
theorem sk112 (h : Sh g) : KD g 112 14 := ⟨(h.2.1 (112, 14, 3) (by decide +kernel)).1, Nat.lt_of_lt_of_le (by decide) h.1⟩
theorem sn112 (h : Sh g) : gN g 112 = 3 := (h.2.1 (112, 14, 3) (by decide +kernel)).2
theorem sk113 (h : Sh g) : KD g 113 0 := ⟨(h.2.1 (113, 0, 0) (by decide +kernel)).1, Nat.lt_of_lt_of_le (by decide) h.1⟩
theorem sk114 (h : Sh g) : KD g 114 14 := ⟨(h.2.1 (114, 14, 6) (by decide +kernel)).1, Nat.lt_of_lt_of_le (by decide) h.1⟩
theorem sn114 (h : Sh g) : gN g 114 = 6 := (h.2.1 (114, 14, 6) (by decide +kernel)).2
theorem sk115 (h : Sh g) : KD g 115 14 := ⟨(h.2.1 (115, 14, 3) (by decide +kernel)).1, Nat.lt_of_lt_of_le (by decide) h.1⟩
theorem sn115 (h : Sh g) : gN g 115 = 3 := (h.2.1 (115, 14, 3) (by decide +kernel)).2
theorem sk116 (h : Sh g) : KD g 116 14 := ⟨(h.2.1 (116, 14, 3) (by decide +kernel)).1, Nat.lt_of_lt_of_le (by decide) h.1⟩
theorem sn116 (h : Sh g) : gN g 116 = 3 := (h.2.1 (116, 14, 3) (by decide +kernel)).2
theorem sk117 (h : Sh g) : KD g 117 14 := ⟨(h.2.1 (117, 14, 3) (by decide +kernel)).1, Nat.lt_of_lt_of_le (by decide) h.1⟩
theorem sn117 (h : Sh g) : gN g 117 = 3 := (h.2.1 (117, 14, 3) (by decide +kernel)).2
theorem sk118 (h : Sh g) : KD g 118 0 := ⟨(h.2.1 (118, 0, 0) (by decide +kernel)).1, Nat.lt_of_lt_of_le (by decide) h.1⟩
theorem sk119 (h : Sh g) : KD g 119 14 := ⟨(h.2.1 (119, 14, 6) (by decide +kernel)).1, Nat.lt_of_lt_of_le (by decide) h.1⟩
theorem sn119 (h : Sh g) : gN g 119 = 6 := (h.2.1 (119, 14, 6) (by decide +kernel)).2
theorem sk120 (h : Sh g) : KD g 120 14 := ⟨(h.2.1 (120, 14, 3) (by decide +kernel)).1, Nat.lt_of_lt_of_le (by decide) h.1⟩
theorem sn120 (h : Sh g) : gN g 120 = 3 := (h.2.1 (120, 14, 3) (by decide +kernel)).2
theorem sk121 (h : Sh g) : KD g 121 14 := ⟨(h.2.1 (121, 14, 3) (by decide +kernel)).1, Nat.lt_of_lt_of_le (by decide) h.1⟩
theorem sn121 (h : Sh g) : gN g 121 = 3 := (h.2.1 (121, 14, 3) (by decide +kernel)).2
theorem sk122 (h : Sh g) : KD g 122 14 := ⟨(h.2.1 (122, 14, 3) (by decide +kernel)).1, Nat.lt_of_lt_of_le (by decide) h.1⟩
theorem sn122 (h : Sh g) : gN g 122 = 3 := (h.2.1 (122, 14, 3) (by decide +kernel)).2
theorem sk123 (h : Sh g) : KD g 123 0 := ⟨(h.2.1 (123, 0, 0) (by decide +kernel)).1, Nat.lt_of_lt_of_le (by decide) h.1⟩
theorem sk124 (h : Sh g) : KD g 124 14 := ⟨(h.2.1 (124, 14, 6) (by decide +kernel)).1, Nat.lt_of_lt_of_le (by decide) h.1⟩
theorem sn124 (h : Sh g) : gN g 124 = 6 := (h.2.1 (124, 14, 6) (by decide +kernel)).2
theorem sk125 (h : Sh g) : KD g 125 14 := ⟨(h.2.1 (125, 14, 3) (by decide +kernel)).1, Nat.lt_of_lt_of_le (by decide) h.1⟩
theorem sn125 (h : Sh g) : gN g 125 = 3 := (h.2.1 (125, 14, 3) (by decide +kernel)).2
theorem sk126 (h : Sh g) : KD g 126 14 := ⟨(h.2.1 (126, 14, 3) (by decide +kernel)).1, Nat.lt_of_lt_of_le (by decide) h.1⟩
theorem sn126 (h : Sh g) : gN g 126 = 3 := (h.2.1 (126, 14, 3) (by decide +kernel)).2
theorem sk127 (h : Sh g) : KD g 127 14 := ⟨(h.2.1 (127, 14, 3) (by decide +kernel)).1, Nat.lt_of_lt_of_le (by decide) h.1⟩
theorem sn127 (h : Sh g) : gN g 127 = 3 := (h.2.1 (127, 14, 3) (by decide +kernel)).2
theorem sk128 (h : Sh g) : KD g 128 10 := ⟨(h.2.1 (128, 10, 0) (by decide +kernel)).1, Nat.lt_of_lt_of_le (by decide) h.1⟩
theorem sk129 (h : Sh g) : KD g 129 15 := ⟨(h.2.1 (129, 15, 40) (by decide +kernel)).1, Nat.lt_of_lt_of_le (by decide) h.1⟩
theorem sn129 (h : Sh g) : gN g 129 = 40 := (h.2.1 (129, 15, 40) (by decide +kernel)).2
theorem sk130 (h : Sh g) : KD g 130 10 := ⟨(h.2.1 (130, 10, 0) (by decide +kernel)).1, Nat.lt_of_lt_of_le (by decide) h.1⟩
theorem sk131 (h : Sh g) : KD g 131 15 := ⟨(h.2.1 (131, 15, 40) (by decide +kernel)).1, Nat.lt_of_lt_of_le (by decide) h.1⟩
theorem sn131 (h : Sh g) : gN g 131 = 40 := (h.2.1 (131, 15, 40) (by decide +kernel)).2
theorem sk132 (h : Sh g) : KD g 132 10 := ⟨(h.2.1 (132, 10, 0) (by decide +kernel)).1, Nat.lt_of_lt_of_le (by decide) h.1⟩
theorem sk133 (h : Sh g) : KD g 133 15 := ⟨(h.2.1 (133, 15, 40) (by decide +kernel)).1, Nat.lt_of_lt_of_le (by decide) h.1⟩
theorem sn133 (h : Sh g) : gN g 133 = 40 := (h.2.1 (133, 15, 40) (by decide +kernel)).2
theorem sk134 (h : Sh g) : KD g 134 10 := ⟨(h.2.1 (134, 10, 0) (by decide +kernel)).1, Nat.lt_of_lt_of_le (by decide) h.1⟩
theorem sk135 (h : Sh g) : KD g 135 15 := ⟨(h.2.1 (135, 15, 40) (by decide +kernel)).1, Nat.lt_of_lt_of_le (by decide) h.1⟩
theorem sn135 (h : Sh g) : gN g 135 = 40 := (h.2.1 (135, 15, 40) (by decide +kernel)).2
theorem sk136 (h : Sh g) : KD g 136 12 := ⟨(h.2.1 (136, 12, 0) (by decide +kernel)).1, Nat.lt_of_lt_of_le (by decide) h.1⟩
theorem sk137 (h : Sh g) : KD g 137 14 := ⟨(h.2.1 (137, 14, 4545) (by decide +kernel)).1, Nat.lt_of_lt_of_le (by decide) h.1⟩
theorem sn137 (h : Sh g) : gN g 137 = 4545 := (h.2.1 (137, 14, 4545) (by decide +kernel)).2
theorem sk138 (h : Sh g) : KD g 138 16 := ⟨(h.2.1 (138, 16, 2) (by decide +kernel)).1, Nat.lt_of_lt_of_le (by decide) h.1⟩
theorem sn138 (h : Sh g) : gN g 138 = 2 := (h.2.1 (138, 16, 2) (by decide +kernel)).2
theorem sk139 (h : Sh g) : KD g 139 14 := ⟨(h.2.1 (139, 14, 900) (by decide +kernel)).1, Nat.lt_of_lt_of_le (by decide) h.1⟩
theorem sn139 (h : Sh g) : gN g 139 = 900 := (h.2.1 (139, 14, 900) (by decide +kernel)).2
theorem sk140 (h : Sh g) : KD g 140 14 := ⟨(h.2.1 (140, 14, 1515) (by decide +kernel)).1, Nat.lt_of_lt_of_le (by decide) h.1⟩
theorem sn140 (h : Sh g) : gN g 140 = 1515 := (h.2.1 (140, 14, 1515) (by decide +kernel)).2
theorem sk141 (h : Sh g) : KD g 141 14 := ⟨(h.2.1 (141, 14, 900) (by decide +kernel)).1, Nat.lt_of_lt_of_le (by decide) h.1⟩
theorem sn141 (h : Sh g) : gN g 141 = 900 := (h.2.1 (141, 14, 900) (by decide +kernel)).2
theorem sk142 (h : Sh g) : KD g 142 14 := ⟨(h.2.1 (142, 14, 8) (by decide +kernel)).1, Nat.lt_of_lt_of_le (by decide) h.1⟩
theorem sn142 (h : Sh g) : gN g 142 = 8 := (h.2.1 (142, 14, 8) (by decide +kernel)).2
theorem sk143 (h : Sh g) : KD g 143 14 := ⟨(h.2.1 (143, 14, 51) (by decide +kernel)).1, Nat.lt_of_lt_of_le (by decide) h.1⟩
theorem sn143 (h : Sh g) : gN g 143 = 51 := (h.2.1 (143, 14, 51) (by decide +kernel)).2
theorem sk144 (h : Sh g) : KD g 144 16 := ⟨(h.2.1 (144, 16, 1296) (by decide +kernel)).1, Nat.lt_of_lt_of_le (by decide) h.1⟩
theorem sn144 (h : Sh g) : gN g 144 = 1296 := (h.2.1 (144, 16, 1296) (by decide +kernel)).2
theorem sk145 (h : Sh g) : KD g 145 14 := ⟨(h.2.1 (145, 14, 10368) (by decide +kernel)).1, Nat.lt_of_lt_of_le (by decide) h.1⟩
theorem sn145 (h : Sh g) : gN g 145 = 10368 := (h.2.1 (145, 14, 10368) (by decide +kernel)).2
theorem sk146 (h : Sh g) : KD g 146 14 := ⟨(h.2.1 (146, 14, 10368) (by decide +kernel)).1, Nat.lt_of_lt_of_le (by decide) h.1⟩
theorem sn146 (h : Sh g) : gN g 146 = 10368 := (h.2.1 (146, 14, 10368) (by decide +kernel)).2
theorem sk147 (h : Sh g) : KD g 147 14 := ⟨(h.2.1 (147, 14, 5184) (by decide +kernel)).1, Nat.lt_of_lt_of_le (by decide) h.1⟩
theorem sn147 (h : Sh g) : gN g 147 = 5184 := (h.2.1 (147, 14, 5184) (by decide +kernel)).2
theorem sk148 (h : Sh g) : KD g 148 14 := ⟨(h.2.1 (148, 14, 1296) (by decide +kernel)).1, Nat.lt_of_lt_of_le (by decide) h.1⟩
theorem sn148 (h : Sh g) : gN g 148 = 1296 := (h.2.1 (148, 14, 1296) (by decide +kernel)).2
theorem sk149 (h : Sh g) : KD g 149 15 := ⟨(h.2.1 (149, 15, 1296) (by decide +kernel)).1, Nat.lt_of_lt_of_le (by decide) h.1⟩
theorem sn149 (h : Sh g) : gN g 149 = 1296 := (h.2.1 (149, 15, 1296) (by decide +kernel)).2
theorem sk150 (h : Sh g) : KD g 150 15 := ⟨(h.2.1 (150, 15, 1296) (by decide +kernel)).1, Nat.lt_of_lt_of_le (by decide) h.1⟩
theorem sn150 (h : Sh g) : gN g 150 = 1296 := (h.2.1 (150, 15, 1296) (by decide +kernel)).2
theorem sk151 (h : Sh g) : KD g 151 14 := ⟨(h.2.1 (151, 14, 1296) (by decide +kernel)).1, Nat.lt_of_lt_of_le (by decide) h.1⟩
theorem sn151 (h : Sh g) : gN g 151 = 1296 := (h.2.1 (151, 14, 1296) (by decide +kernel)).2
theorem sk152 (h : Sh g) : KD g 152 14 := ⟨(h.2.1 (152, 14, 4) (by decide +kernel)).1, Nat.lt_of_lt_of_le (by decide) h.1⟩
theorem sn152 (h : Sh g) : gN g 152 = 4 := (h.2.1 (152, 14, 4) (by decide +kernel)).2
theorem sk153 (h : Sh g) : KD g 153 14 := ⟨(h.2.1 (153, 14, 4) (by decide +kernel)).1, Nat.lt_of_lt_of_le (by decide) h.1⟩
theorem sn153 (h : Sh g) : gN g 153 = 4 := (h.2.1 (153, 14, 4) (by decide +kernel)).2
theorem sk154 (h : Sh g) : KD g 154 15 := ⟨(h.2.1 (154, 15, 160) (by decide +kernel)).1, Nat.lt_of_lt_of_le (by decide) h.1⟩
theorem sn154 (h : Sh g) : gN g 154 = 160 := (h.2.1 (154, 15, 160) (by decide +kernel)).2
theorem sr0_0 (h : Sh g) : gR g 0 0 = some 1 := h.2.2 (0, 0, 1) (by decide +kernel)
theorem sr0_4 (h : Sh g) : gR g 0 4 = some 47 := h.2.2 (0, 4, 47) (by decide +kernel)
theorem sr0_5 (h : Sh g) : gR g 0 5 = some 52 := h.2.2 (0, 5, 52) (by decide +kernel)
theorem sr0_6 (h : Sh g) : gR g 0 6 = some 57 := h.2.2 (0, 6, 57) (by decide +kernel)
theorem sr0_7 (h : Sh g) : gR g 0 7 = some 68 := h.2.2 (0, 7, 68) (by decide +kernel)
theorem sr0_8 (h : Sh g) : gR g 0 8 = some 2 := h.2.2 (0, 8, 2) (by decide +kernel)
theorem sr0_9 (h : Sh g) : gR g 0 9 = some 9 := h.2.2 (0, 9, 9) (by decide +kernel)
theorem sr0_11 (h : Sh g) : gR g 0 11 = some 16 := h.2.2 (0, 11, 16) (by decide +kernel)
theorem sr0_12 (h : Sh g) : gR g 0 12 = some 22 := h.2.2 (0, 12, 22) (by decide +kernel)
theorem sr0_13 (h : Sh g) : gR g 0 13 = some 27 := h.2.2 (0, 13, 27) (by decide +kernel)
theorem sr0_14 (h : Sh g) : gR g 0 14 = some 35 := h.2.2 (0, 14, 35) (by decide +kernel)
theorem sr0_15 (h : Sh g) : gR g 0 15 = some 76 := h.2.2 (0, 15, 76) (by decide +kernel)
theorem sr0_16 (h : Sh g) : gR g 0 16 = some 40 := h.2.2 (0, 16, 40) (by decide +kernel)
theorem sr0_17 (h : Sh g) : gR g 0 17 = some 41 := h.2.2 (0, 17, 41) (by decide +kernel)
theorem sr2_1 (h : Sh g) : gR g 2 1 = some 3 := h.2.2 (2, 1, 3) (by decide +kernel)
theorem sr2_2 (h : Sh g) : gR g 2 2 = some 4 := h.2.2 (2, 2, 4) (by decide +kernel)
theorem sr2_3 (h : Sh g) : gR g 2 3 = some 5 := h.2.2 (2, 3, 5) (by decide +kernel)
theorem sr2_4 (h : Sh g) : gR g 2 4 = some 6 := h.2.2 (2, 4, 6) (by decide +kernel)
theorem sr2_5 (h : Sh g) : gR g 2 5 = some 7 := h.2.2 (2, 5, 7) (by decide +kernel)
theorem sr2_6 (h : Sh g) : gR g 2 6 = some 8 := h.2.2 (2, 6, 8) (by decide +kernel)
theorem sr9_1 (h : Sh g) : gR g 9 1 = some 10 := h.2.2 (9, 1, 10) (by decide +kernel)
theorem sr9_2 (h : Sh g) : gR g 9 2 = some 11 := h.2.2 (9, 2, 11) (by decide +kernel)
theorem sr9_3 (h : Sh g) : gR g 9 3 = some 12 := h.2.2 (9, 3, 12) (by decide +kernel)
theorem sr9_4 (h : Sh g) : gR g 9 4 = some 13 := h.2.2 (9, 4, 13) (by decide +kernel)
theorem sr9_5 (h : Sh g) : gR g 9 5 = some 14 := h.2.2 (9, 5, 14) (by decide +kernel)
theorem sr9_6 (h : Sh g) : gR g 9 6 = some 15 := h.2.2 (9, 6, 15) (by decide +kernel)
theorem sr16_1 (h : Sh g) : gR g 16 1 = some 17 := h.2.2 (16, 1, 17) (by decide +kernel)
theorem sr16_2 (h : Sh g) : gR g 16 2 = some 18 := h.2.2 (16, 2, 18) (by decide +kernel)
theorem sr16_3 (h : Sh g) : gR g 16 3 = some 19 := h.2.2 (16, 3, 19) (by decide +kernel)
theorem sr16_5 (h : Sh g) : gR g 16 5 = some 20 := h.2.2 (16, 5, 20) (by decide +kernel)
theorem sr16_7 (h : Sh g) : gR g 16 7 = some 21 := h.2.2 (16, 7, 21) (by decide +kernel)
theorem sr22_0 (h : Sh g) : gR g 22 0 = some 23 := h.2.2 (22, 0, 23) (by decide +kernel)
theorem sr22_1 (h : Sh g) : gR g 22 1 = some 24 := h.2.2 (22, 1, 24) (by decide +kernel)
theorem sr22_2 (h : Sh g) : gR g 22 2 = some 25 := h.2.2 (22, 2, 25) (by decide +kernel)
theorem sr22_3 (h : Sh g) : gR g 22 3 = some 26 := h.2.2 (22, 3, 26) (by decide +kernel)
theorem sr27_1 (h : Sh g) : gR g 27 1 = some 28 := h.2.2 (27, 1, 28) (by decide +kernel)
theorem sr27_2 (h : Sh g) : gR g 27 2 = some 29 := h.2.2 (27, 2, 29) (by decide +kernel)
theorem sr27_3 (h : Sh g) : gR g 27 3 = some 30 := h.2.2 (27, 3, 30) (by decide +kernel)
theorem sr27_5 (h : Sh g) : gR g 27 5 = some 31 := h.2.2 (27, 5, 31) (by decide +kernel)
theorem sr27_6 (h : Sh g) : gR g 27 6 = some 32 := h.2.2 (27, 6, 32) (by decide +kernel)
theorem sr27_7 (h : Sh g) : gR g 27 7 = some 33 := h.2.2 (27, 7, 33) (by decide +kernel)
theorem sr27_8 (h : Sh g) : gR g 27 8 = some 34 := h.2.2 (27, 8, 34) (by decide +kernel)
theorem sr35_0 (h : Sh g) : gR g 35 0 = some 36 := h.2.2 (35, 0, 36) (by decide +kernel)
theorem sr35_2 (h : Sh g) : gR g 35 2 = some 39 := h.2.2 (35, 2, 39) (by decide +kernel)
theorem sr36_0 (h : Sh g) : gR g 36 0 = some 37 := h.2.2 (36, 0, 37) (by decide +kernel)
theorem sr36_1 (h : Sh g) : gR g 36 1 = some 38 := h.2.2 (36, 1, 38) (by decide +kernel)
theorem sr40_0 (h : Sh g) : gR g 40 0 = some 128 := h.2.2 (40, 0, 128) (by decide +kernel)
theorem sr40_1 (h : Sh g) : gR g 40 1 = some 130 := h.2.2 (40, 1, 130) (by decide +kernel)
theorem sr40_2 (h : Sh g) : gR g 40 2 = some 132 := h.2.2 (40, 2, 132) (by decide +kernel)
theorem sr40_3 (h : Sh g) : gR g 40 3 = some 134 := h.2.2 (40, 3, 134) (by decide +kernel)
theorem sr42_6 (h : Sh g) : gR g 42 6 = some 43 := h.2.2 (42, 6, 43) (by decide +kernel)
theorem sr42_7 (h : Sh g) : gR g 42 7 = some 44 := h.2.2 (42, 7, 44) (by decide +kernel)
theorem sr42_8 (h : Sh g) : gR g 42 8 = some 45 := h.2.2 (42, 8, 45) (by decide +kernel)
theorem sr42_9 (h : Sh g) : gR g 42 9 = some 46 := h.2.2 (42, 9, 46) (by decide +kernel)
theorem sr47_2 (h : Sh g) : gR g 47 2 = some 48 := h.2.2 (47, 2, 48) (by decide +kernel)
theorem sr47_3 (h : Sh g) : gR g 47 3 = some 49 := h.2.2 (47, 3, 49) (by decide +kernel)
theorem sr47_4 (h : Sh g) : gR g 47 4 = some 50 := h.2.2 (47, 4, 50) (by decide +kernel)
theorem sr47_5 (h : Sh g) : gR g 47 5 = some 51 := h.2.2 (47, 5, 51) (by decide +kernel)
theorem sr52_2 (h : Sh g) : gR g 52 2 = some 53 := h.2.2 (52, 2, 53) (by decide +kernel)
theorem sr52_3 (h : Sh g) : gR g 52 3 = some 54 := h.2.2 (52, 3, 54) (by decide +kernel)
theorem sr52_4 (h : Sh g) : gR g 52 4 = some 55 := h.2.2 (52, 4, 55) (by decide +kernel)
theorem sr52_5 (h : Sh g) : gR g 52 5 = some 56 := h.2.2 (52, 5, 56) (by decide +kernel)
theorem sr57_0 (h : Sh g) : gR g 57 0 = some 63 := h.2.2 (57, 0, 63) (by decide +kernel)
theorem sr57_7 (h : Sh g) : gR g 57 7 = some 59 := h.2.2 (57, 7, 59) (by decide +kernel)
theorem sr57_8 (h : Sh g) : gR g 57 8 = some 60 := h.2.2 (57, 8, 60) (by decide +kernel)
theorem sr57_9 (h : Sh g) : gR g 57 9 = some 61 := h.2.2 (57, 9, 61) (by decide +kernel)
theorem sr57_16 (h : Sh g) : gR g 57 16 = some 62 := h.2.2 (57, 16, 62) (by decide +kernel)
theorem sr63_2 (h : Sh g) : gR g 63 2 = some 64 := h.2.2 (63, 2, 64) (by decide +kernel)
theorem sr63_3 (h : Sh g) : gR g 63 3 = some 65 := h.2.2 (63, 3, 65) (by decide +kernel)
theorem sr63_4 (h : Sh g) : gR g 63 4 = some 66 := h.2.2 (63, 4, 66) (by decide +kernel)
theorem sr63_5 (h : Sh g) : gR g 63 5 = some 67 := h.2.2 (63, 5, 67) (by decide +kernel)
theorem sr68_3 (h : Sh g) : gR g 68 3 = some 69 := h.2.2 (68, 3, 69) (by decide +kernel)
theorem sr68_4 (h : Sh g) : gR g 68 4 = some 70 := h.2.2 (68, 4, 70) (by decide +kernel)
theorem sr68_7 (h : Sh g) : gR g 68 7 = some 71 := h.2.2 (68, 7, 71) (by decide +kernel)
theorem sr68_8 (h : Sh g) : gR g 68 8 = some 72 := h.2.2 (68, 8, 72) (by decide +kernel)
theorem sr68_9 (h : Sh g) : gR g 68 9 = some 73 := h.2.2 (68, 9, 73) (by decide +kernel)
theorem sr68_10 (h : Sh g) : gR g 68 10 = some 74 := h.2.2 (68, 10, 74) (by decide +kernel)
theorem sr68_12 (h : Sh g) : gR g 68 12 = some 75 := h.2.2 (68, 12, 75) (by decide +kernel)
theorem sr76_2 (h : Sh g) : gR g 76 2 = some 77 := h.2.2 (76, 2, 77) (by decide +kernel)
theorem sr77_0 (h : Sh g) : gR g 77 0 = some 78 := h.2.2 (77, 0, 78) (by decide +kernel)
theorem sr77_1 (h : Sh g) : gR g 77 1 = some 83 := h.2.2 (77, 1, 83) (by decide +kernel)
theorem sr77_2 (h : Sh g) : gR g 77 2 = some 88 := h.2.2 (77, 2, 88) (by decide +kernel)
theorem sr77_3 (h : Sh g) : gR g 77 3 = some 93 := h.2.2 (77, 3, 93) (by decide +kernel)
theorem sr77_4 (h : Sh g) : gR g 77 4 = some 98 := h.2.2 (77, 4, 98) (by decide +kernel)
theorem sr77_5 (h : Sh g) : gR g 77 5 = some 103 := h.2.2 (77, 5, 103) (by decide +kernel)
theorem sr77_6 (h : Sh g) : gR g 77 6 = some 108 := h.2.2 (77, 6, 108) (by decide +kernel)
theorem sr77_7 (h : Sh g) : gR g 77 7 = some 113 := h.2.2 (77, 7, 113) (by decide +kernel)
theorem sr77_8 (h : Sh g) : gR g 77 8 = some 118 := h.2.2 (77, 8, 118) (by decide +kernel)
theorem sr77_9 (h : Sh g) : gR g 77 9 = some 123 := h.2.2 (77, 9, 123) (by decide +kernel)
theorem sr78_2 (h : Sh g) : gR g 78 2 = some 79 := h.2.2 (78, 2, 79) (by decide +kernel)
theorem sr78_3 (h : Sh g) : gR g 78 3 = some 80 := h.2.2 (78, 3, 80) (by decide +kernel)
theorem sr78_4 (h : Sh g) : gR g 78 4 = some 81 := h.2.2 (78, 4, 81) (by decide +kernel)
theorem sr78_5 (h : Sh g) : gR g 78 5 = some 82 := h.2.2 (78, 5, 82) (by decide +kernel)
theorem sr83_2 (h : Sh g) : gR g 83 2 = some 84 := h.2.2 (83, 2, 84) (by decide +kernel)
theorem sr83_3 (h : Sh g) : gR g 83 3 = some 85 := h.2.2 (83, 3, 85) (by decide +kernel)
theorem sr83_4 (h : Sh g) : gR g 83 4 = some 86 := h.2.2 (83, 4, 86) (by decide +kernel)
theorem sr83_5 (h : Sh g) : gR g 83 5 = some 87 := h.2.2 (83, 5, 87) (by decide +kernel)
theorem sr88_2 (h : Sh g) : gR g 88 2 = some 89 := h.2.2 (88, 2, 89) (by decide +kernel)
theorem sr88_3 (h : Sh g) : gR g 88 3 = some 90 := h.2.2 (88, 3, 90) (by decide +kernel)
theorem sr88_4 (h : Sh g) : gR g 88 4 = some 91 := h.2.2 (88, 4, 91) (by decide +kernel)
theorem sr88_5 (h : Sh g) : gR g 88 5 = some 92 := h.2.2 (88, 5, 92) (by decide +kernel)
theorem sr93_2 (h : Sh g) : gR g 93 2 = some 94 := h.2.2 (93, 2, 94) (by decide +kernel)
theorem sr93_3 (h : Sh g) : gR g 93 3 = some 95 := h.2.2 (93, 3, 95) (by decide +kernel)
theorem sr93_4 (h : Sh g) : gR g 93 4 = some 96 := h.2.2 (93, 4, 96) (by decide +kernel)
theorem sr93_5 (h : Sh g) : gR g 93 5 = some 97 := h.2.2 (93, 5, 97) (by decide +kernel)
theorem sr98_2 (h : Sh g) : gR g 98 2 = some 99 := h.2.2 (98, 2, 99) (by decide +kernel)
theorem sr98_3 (h : Sh g) : gR g 98 3 = some 100 := h.2.2 (98, 3, 100) (by decide +kernel)
theorem sr98_4 (h : Sh g) : gR g 98 4 = some 101 := h.2.2 (98, 4, 101) (by decide +kernel)
theorem sr98_5 (h : Sh g) : gR g 98 5 = some 102 := h.2.2 (98, 5, 102) (by decide +kernel)
theorem sr103_2 (h : Sh g) : gR g 103 2 = some 104 := h.2.2 (103, 2, 104) (by decide +kernel)
theorem sr103_3 (h : Sh g) : gR g 103 3 = some 105 := h.2.2 (103, 3, 105) (by decide +kernel)
theorem sr103_4 (h : Sh g) : gR g 103 4 = some 106 := h.2.2 (103, 4, 106) (by decide +kernel)
theorem sr103_5 (h : Sh g) : gR g 103 5 = some 107 := h.2.2 (103, 5, 107) (by decide +kernel)
theorem sr108_2 (h : Sh g) : gR g 108 2 = some 109 := h.2.2 (108, 2, 109) (by decide +kernel)
theorem sr108_3 (h : Sh g) : gR g 108 3 = some 110 := h.2.2 (108, 3, 110) (by decide +kernel)
theorem sr108_4 (h : Sh g) : gR g 108 4 = some 111 := h.2.2 (108, 4, 111) (by decide +kernel)
theorem sr108_5 (h : Sh g) : gR g 108 5 = some 112 := h.2.2 (108, 5, 112) (by decide +kernel)
theorem sr113_2 (h : Sh g) : gR g 113 2 = some 114 := h.2.2 (113, 2, 114) (by decide +kernel)
theorem sr113_3 (h : Sh g) : gR g 113 3 = some 115 := h.2.2 (113, 3, 115) (by decide +kernel)
theorem sr113_4 (h : Sh g) : gR g 113 4 = some 116 := h.2.2 (113, 4, 116) (by decide +kernel)
theorem sr113_5 (h : Sh g) : gR g 113 5 = some 117 := h.2.2 (113, 5, 117) (by decide +kernel)
theorem sr118_2 (h : Sh g) : gR g 118 2 = some 119 := h.2.2 (118, 2, 119) (by decide +kernel)
theorem sr118_3 (h : Sh g) : gR g 118 3 = some 120 := h.2.2 (118, 3, 120) (by decide +kernel)
theorem sr118_4 (h : Sh g) : gR g 118 4 = some 121 := h.2.2 (118, 4, 121) (by decide +kernel)
theorem sr118_5 (h : Sh g) : gR g 118 5 = some 122 := h.2.2 (118, 5, 122) (by decide +kernel)
theorem sr123_2 (h : Sh g) : gR g 123 2 = some 124 := h.2.2 (123, 2, 124) (by decide +kernel)
theorem sr123_3 (h : Sh g) : gR g 123 3 = some 125 := h.2.2 (123, 3, 125) (by decide +kernel)
theorem sr123_4 (h : Sh g) : gR g 123 4 = some 126 := h.2.2 (123, 4, 126) (by decide +kernel)
theorem sr123_5 (h : Sh g) : gR g 123 5 = some 127 := h.2.2 (123, 5, 127) (by decide +kernel)
theorem sr128_2 (h : Sh g) : gR g 128 2 = some 129 := h.2.2 (128, 2, 129) (by decide +kernel)
theorem sr130_2 (h : Sh g) : gR g 130 2 = some 131 := h.2.2 (130, 2, 131) (by decide +kernel)
theorem sr132_2 (h : Sh g) : gR g 132 2 = some 133 := h.2.2 (132, 2, 133) (by decide +kernel)
theorem sr134_2 (h : Sh g) : gR g 134 2 = some 135 := h.2.2 (134, 2, 135) (by decide +kernel)
theorem sr136_1 (h : Sh g) : gR g 136 1 = some 137 := h.2.2 (136, 1, 137) (by decide +kernel)
theorem sr136_2 (h : Sh g) : gR g 136 2 = some 138 := h.2.2 (136, 2, 138) (by decide +kernel)
theorem sr136_3 (h : Sh g) : gR g 136 3 = some 139 := h.2.2 (136, 3, 139) (by decide +kernel)
theorem sr136_4 (h : Sh g) : gR g 136 4 = some 140 := h.2.2 (136, 4, 140) (by decide +kernel)
theorem sr136_15 (h : Sh g) : gR g 136 15 = some 141 := h.2.2 (136, 15, 141) (by decide +kernel)
theorem sr136_16 (h : Sh g) : gR g 136 16 = some 142 := h.2.2 (136, 16, 142) (by decide +kernel)
theorem sr136_19 (h : Sh g) : gR g 136 19 = some 143 := h.2.2 (136, 19, 143) (by decide +kernel)
theorem sr136_23 (h : Sh g) : gR g 136 23 = some 144 := h.2.2 (136, 23, 144) (by decide +kernel)
theorem sr136_24 (h : Sh g) : gR g 136 24 = some 145 := h.2.2 (136, 24, 145) (by decide +kernel)
theorem sr136_25 (h : Sh g) : gR g 136 25 = some 146 := h.2.2 (136, 25, 146) (by decide +kernel)
theorem sr136_26 (h : Sh g) : gR g 136 26 = some 147 := h.2.2 (136, 26, 147) (by decide +kernel)
theorem sr136_27 (h : Sh g) : gR g 136 27 = some 148 := h.2.2 (136, 27, 148) (by decide +kernel)
theorem sr136_28 (h : Sh g) : gR g 136 28 = some 149 := h.2.2 (136, 28, 149) (by decide +kernel)
theorem sr136_29 (h : Sh g) : gR g 136 29 = some 150 := h.2.2 (136, 29, 150) (by decide +kernel)
theorem sr136_30 (h : Sh g) : gR g 136 30 = some 151 := h.2.2 (136, 30, 151) (by decide +kernel)
theorem sr136_33 (h : Sh g) : gR g 136 33 = some 152 := h.2.2 (136, 33, 152) (by decide +kernel)
theorem sr136_34 (h : Sh g) : gR g 136 34 = some 153 := h.2.2 (136, 34, 153) (by decide +kernel)
theorem sr136_35 (h : Sh g) : gR g 136 35 = some 154 := h.2.2 (136, 35, 154) (by decide +kernel)
end SHP
