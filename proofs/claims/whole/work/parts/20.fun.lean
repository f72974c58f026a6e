def f_X8_isWord (l0 : Nat) (l1 : Int32) (g : G) : Option (Bool × G) :=
  if (gI g l0 12) = (2 : Int32) then (if (gI g l0 14) = l1 then (some (true, g)) else (some (false, g))) else (some (false, g))
def f_X8_refuse (l0 : Nat) (l1 : Int32) (g : G) : Option (Bool × G) :=
  lg (sI g l0 1 l1) (fun g1 => lg (sI g1 l0 2 (gI g1 l0 13)) (fun g3 => some (false, g3)))
def f_X8_look (l0 : Nat) (g : G) : Option (Unit × G) :=
  if (gI g l0 10) ≤ ((gI g l0 11) + (1 : Int32)) then (some ((), g)) else (dr (gR g l0 7) (fun b2 => gdK g b2 14 (if (nI (gN g b2)) ≤ ((gI g l0 11) + (1 : Int32)) then (some ((), g)) else (lg (sI g l0 11 ((gI g l0 11) + (1 : Int32))) (fun g6 => gdI (gI g6 l0 11) (gN g6 b2) (lg (sI g6 l0 12 (gI g6 b2 (gI g6 l0 11).toNatClampNeg)) (fun g9 => dr (gR g9 l0 8) (fun b11 => gdK g9 b11 14 (gdI (gI g9 l0 11) (gN g9 b11) (lg (sI g9 l0 13 (gI g9 b11 (gI g9 l0 11).toNatClampNeg)) (fun g15 => dr (gR g15 l0 9) (fun b17 => gdK g15 b17 14 (gdI (gI g15 l0 11) (gN g15 b17) (lg (sI g15 l0 14 (gI g15 b17 (gI g15 l0 11).toNatClampNeg)) (fun g21 => some ((), g21))))))))))))))))
def f_X8_deeper (l0 : Nat) (l1 : Int32) (g : G) : Option (Bool × G) :=
  if l1 < (6 : Int32) then (bd (f_X8_look l0 g) (fun v2 g3 => some (true, g3))) else (bd (f_X8_refuse l0 (4 : Int32) g) (fun v6 g7 => some (v6, g7)))
def f_X8_emit (l0 : Nat) (l1 : Int32) (g : G) : Option (Bool × G) :=
  dr (gR g l0 16) (fun b1 => gdK g b1 14 (if (nI (gN g b1)) ≤ (gI g l0 17) then (some (true, g)) else (gdI (gI g l0 17) (gN g b1) (lg (sI g b1 (gI g l0 17).toNatClampNeg l1) (fun g6 => lg (sI g6 l0 17 ((gI g6 l0 17) + (1 : Int32))) (fun g8 => some (true, g8)))))))
def f_X8_refuseToken_14 (s0 : Int32) (s1 : Nat) (g : G) : Option (Bool × G) :=
  bd (f_X8_refuse s1 s0 g) (fun v1 g2 => some (v1, g2))
def f_X8_refuseToken (l0 : Nat) (g : G) : Option (Bool × G) :=
  if (gI g l0 12) = (1 : Int32) then (f_X8_refuseToken_14 (1 : Int32) l0 g) else (f_X8_refuseToken_14 (2 : Int32) l0 g)
def f_X8_take (l0 : Nat) (l1 : Int32) (g : G) : Option (Bool × G) :=
  if (gI g l0 12) = l1 then (bd (f_X8_look l0 g) (fun v2 g3 => some (true, g3))) else (bd (f_X8_refuseToken l0 g) (fun v6 g7 => some (v6, g7)))
def f_X8_atom_100 (hS : Nat → Int32 → G → Option (Bool × G)) (l0 : Nat) (g : G) : Option (Bool × G) :=
  bd (f_X8_look l0 g) (fun v1 g2 => some (true, g2))
def f_X8_atom_95 (hS : Nat → Int32 → G → Option (Bool × G)) (l0 : Nat) (g : G) : Option (Bool × G) :=
  bd (f_X8_refuseToken l0 g) (fun v1 g2 => some (v1, g2))
def f_X8_atom (hS : Nat → Int32 → G → Option (Bool × G)) (l0 : Nat) (l1 : Int32) (g : G) : Option (Bool × G) :=
  if (gI g l0 12) = (40 : Int32) then (bd (f_X8_deeper l0 l1 g) (fun v13 g14 => if (b2i v13) = 0 then (some (false, g14)) else (bd (hS l0 (l1 + (1 : Int32)) g14) (fun v18 g19 => if (b2i v18) = 0 then (some (false, g19)) else (bd (f_X8_take l0 (41 : Int32) g19) (fun v23 g24 => if (b2i v23) = 0 then (some (false, g24)) else (some (true, g24)))))))) else (if (gI g l0 12) = (3 : Int32) then (bd (f_X8_emit l0 (gI g l0 14) g) (fun v9 g10 => f_X8_atom_100 hS l0 g10)) else (if (gI g l0 12) = (2 : Int32) then (if (8 : Int32) ≤ (gI g l0 14) then (f_X8_atom_95 hS l0 g) else (bd (f_X8_emit l0 ((1000 : Int32) + (gI g l0 14)) g) (fun v5 g6 => f_X8_atom_100 hS l0 g6))) else (f_X8_atom_95 hS l0 g)))
def f_X8_term_12 (hS : Nat → Int32 → G → Option (Bool × G)) : Nat → Nat → Int32 → Int32 → G → Option (Bool × G)
  | 0, _, _, _, _ => none
  | n + 1, l0, l1, l2, g =>
  if (900 : Int32) ≤ l2 then (some (true, g)) else (if (gI g l0 12) = (42 : Int32) then (bd (f_X8_look l0 g) (fun v3 g4 => bd (f_X8_atom hS l0 l1 g4) (fun v7 g8 => if (b2i v7) = 0 then (some (false, g8)) else (bd (f_X8_emit l0 (2042 : Int32) g8) (fun v12 g13 => f_X8_term_12 hS n l0 l1 (l2 + (1 : Int32)) g13))))) else (some (true, g)))
def f_X8_term (hS : Nat → Int32 → G → Option (Bool × G)) (l0 : Nat) (l1 : Int32) (g : G) : Option (Bool × G) :=
  bd (f_X8_atom hS l0 l1 g) (fun v1 g2 => if (b2i v1) = 0 then (some (false, g2)) else (f_X8_term_12 hS FU l0 l1 (0 : Int32) g2))
def f_X8_sum_37 (hS : Nat → Int32 → G → Option (Bool × G)) (k12 : Nat → Int32 → Int32 → G → Option (Bool × G)) (l0 : Nat) (l1 : Int32) (l2 : Int32) (g : G) : Option (Bool × G) :=
  li (gI g l0 12) (fun y1 => bd (f_X8_look l0 g) (fun v3 g4 => bd (f_X8_term hS l0 l1 g4) (fun v7 g8 => if (b2i v7) = 0 then (some (false, g8)) else (bd (f_X8_emit l0 ((2000 : Int32) + y1) g8) (fun v12 g13 => k12 l0 l1 (l2 + (1 : Int32)) g13)))))
def f_X8_sum_12 (hS : Nat → Int32 → G → Option (Bool × G)) : Nat → Nat → Int32 → Int32 → G → Option (Bool × G)
  | 0, _, _, _, _ => none
  | n + 1, l0, l1, l2, g =>
  if (900 : Int32) ≤ l2 then (some (true, g)) else (if (gI g l0 12) = (43 : Int32) then (f_X8_sum_37 hS (f_X8_sum_12 hS n) l0 l1 l2 g) else (if (gI g l0 12) = (45 : Int32) then (f_X8_sum_37 hS (f_X8_sum_12 hS n) l0 l1 l2 g) else (some (true, g))))
def f_X8_sum (hS : Nat → Int32 → G → Option (Bool × G)) (l0 : Nat) (l1 : Int32) (g : G) : Option (Bool × G) :=
  bd (f_X8_term hS l0 l1 g) (fun v1 g2 => if (b2i v1) = 0 then (some (false, g2)) else (f_X8_sum_12 hS FU l0 l1 (0 : Int32) g2))
def f_X8_unit_123 (hS : Nat → Int32 → G → Option (Bool × G)) (hT : Nat → Int32 → G → Option (Bool × G)) (hU : Nat → Int32 → G → Option (Bool × G)) (l0 : Nat) (l1 : Int32) (l2 : Int32) (g : G) : Option (Bool × G) :=
  bd (f_X8_look l0 g) (fun v1 g2 => bd (f_X8_sum hS l0 l1 g2) (fun v5 g6 => if (b2i v5) = 0 then (some (false, g6)) else (bd (f_X8_emit l0 ((2000 : Int32) + l2) g6) (fun v10 g11 => if (b2i v10) = 0 then (some (false, g11)) else (some (true, g11))))))
def f_X8_unit (hS : Nat → Int32 → G → Option (Bool × G)) (hT : Nat → Int32 → G → Option (Bool × G)) (hU : Nat → Int32 → G → Option (Bool × G)) (l0 : Nat) (l1 : Int32) (g : G) : Option (Bool × G) :=
  bd (f_X8_isWord l0 (14 : Int32) g) (fun v1 g2 => if (b2i v1) = 0 then (if (gI g2 l0 12) = (91 : Int32) then (bd (f_X8_deeper l0 l1 g2) (fun v21 g22 => if (b2i v21) = 0 then (some (false, g22)) else (bd (hT l0 (l1 + (1 : Int32)) g22) (fun v26 g27 => if (b2i v26) = 0 then (some (false, g27)) else (bd (f_X8_take l0 (93 : Int32) g27) (fun v31 g32 => if (b2i v31) = 0 then (some (false, g32)) else (some (true, g32)))))))) else (bd (f_X8_sum hS l0 l1 g2) (fun v7 g8 => if (b2i v7) = 0 then (some (false, g8)) else (li (gI g8 l0 12) (fun y12 => if y12 = (61 : Int32) then (f_X8_unit_123 hS hT hU l0 l1 y12 g8) else (if y12 = (60 : Int32) then (f_X8_unit_123 hS hT hU l0 l1 y12 g8) else (if y12 = (62 : Int32) then (f_X8_unit_123 hS hT hU l0 l1 y12 g8) else (bd (f_X8_refuseToken l0 g8) (fun v17 g18 => some (v17, g18)))))))))) else (bd (f_X8_deeper l0 l1 g2) (fun v36 g37 => if (b2i v36) = 0 then (some (false, g37)) else (bd (hU l0 (l1 + (1 : Int32)) g37) (fun v41 g42 => if (b2i v41) = 0 then (some (false, g42)) else (bd (f_X8_emit l0 (2014 : Int32) g42) (fun v46 g47 => if (b2i v46) = 0 then (some (false, g47)) else (some (true, g47)))))))))
def f_X8_both_12 (hS : Nat → Int32 → G → Option (Bool × G)) (hT : Nat → Int32 → G → Option (Bool × G)) (hU : Nat → Int32 → G → Option (Bool × G)) : Nat → Nat → Int32 → Int32 → G → Option (Bool × G)
  | 0, _, _, _, _ => none
  | n + 1, l0, l1, l2, g =>
  if (900 : Int32) ≤ l2 then (some (true, g)) else (bd (f_X8_isWord l0 (13 : Int32) g) (fun v2 g3 => if (b2i v2) = 0 then (some (true, g3)) else (bd (f_X8_look l0 g3) (fun v7 g8 => bd (f_X8_unit hS hT hU l0 l1 g8) (fun v11 g12 => if (b2i v11) = 0 then (some (false, g12)) else (bd (f_X8_emit l0 (2013 : Int32) g12) (fun v16 g17 => f_X8_both_12 hS hT hU n l0 l1 (l2 + (1 : Int32)) g17)))))))
def f_X8_both (hS : Nat → Int32 → G → Option (Bool × G)) (hT : Nat → Int32 → G → Option (Bool × G)) (hU : Nat → Int32 → G → Option (Bool × G)) (l0 : Nat) (l1 : Int32) (g : G) : Option (Bool × G) :=
  bd (f_X8_unit hS hT hU l0 l1 g) (fun v1 g2 => if (b2i v1) = 0 then (some (false, g2)) else (f_X8_both_12 hS hT hU FU l0 l1 (0 : Int32) g2))
def f_X8_truth_12 (hS : Nat → Int32 → G → Option (Bool × G)) (hT : Nat → Int32 → G → Option (Bool × G)) (hU : Nat → Int32 → G → Option (Bool × G)) : Nat → Nat → Int32 → Int32 → G → Option (Bool × G)
  | 0, _, _, _, _ => none
  | n + 1, l0, l1, l2, g =>
  if (900 : Int32) ≤ l2 then (some (true, g)) else (bd (f_X8_isWord l0 (12 : Int32) g) (fun v2 g3 => if (b2i v2) = 0 then (some (true, g3)) else (bd (f_X8_look l0 g3) (fun v7 g8 => bd (f_X8_both hS hT hU l0 l1 g8) (fun v11 g12 => if (b2i v11) = 0 then (some (false, g12)) else (bd (f_X8_emit l0 (2012 : Int32) g12) (fun v16 g17 => f_X8_truth_12 hS hT hU n l0 l1 (l2 + (1 : Int32)) g17)))))))
def f_X8_truth (hS : Nat → Int32 → G → Option (Bool × G)) (hT : Nat → Int32 → G → Option (Bool × G)) (hU : Nat → Int32 → G → Option (Bool × G)) (l0 : Nat) (l1 : Int32) (g : G) : Option (Bool × G) :=
  bd (f_X8_both hS hT hU l0 l1 g) (fun v1 g2 => if (b2i v1) = 0 then (some (false, g2)) else (f_X8_truth_12 hS hT hU FU l0 l1 (0 : Int32) g2))
def R_X8 : Nat → (Nat → Int32 → G → Option (Bool × G)) × (Nat → Int32 → G → Option (Bool × G)) × (Nat → Int32 → G → Option (Bool × G))
  | 0 => (fun _ _ _ => none, fun _ _ _ => none, fun _ _ _ => none)
  | n + 1 => (f_X8_sum (R_X8 n).1, f_X8_truth (R_X8 n).1 (R_X8 n).2.1 (R_X8 n).2.2, f_X8_unit (R_X8 n).1 (R_X8 n).2.1 (R_X8 n).2.2)
def f_X8_sum_T : Nat → Int32 → G → Option (Bool × G) := (R_X8 8).1
def f_X8_truth_T : Nat → Int32 → G → Option (Bool × G) := (R_X8 8).2.1
def f_X12_is (l0 : Nat) (l1 : Int32) (g : G) : Option (Bool × G) :=
  if (gI g l0 11) = 0 then (if (gI g l0 9) = l1 then (some (true, g)) else (some (false, g))) else (some (false, g))
def f_X12_fails_23 (l0 : Nat) (s0 : Int32) (s1 : Nat) (g : G) : Option (Unit × G) :=
  lg (sI g s1 11 s0) (fun g1 => lg (sI g1 l0 12 (gI g1 l0 6)) (fun g3 => some ((), g3)))
def f_X12_fails (l0 : Nat) (l1 : Int32) (g : G) : Option (Unit × G) :=
  if (gI g l0 11) = 0 then (if (gI g l0 9) = (25 : Int32) then (f_X12_fails_23 l0 (1 : Int32) l0 g) else (f_X12_fails_23 l0 l1 l0 g)) else (some ((), g))
def f_X12_see (l0 : Nat) (l1 : Int32) (g : G) : Option (Int32 × G) :=
  if (gI g l0 8) ≤ l1 then (some ((-1 : Int32), g)) else (dr (gR g l0 3) (fun b2 => gdK g b2 14 (gdI l1 (gN g b2) (some ((gI g b2 l1.toNatClampNeg), g)))))
def f_X12_isSmall (l0 : Int32) (g : G) : Option (Bool × G) :=
  if l0 < (97 : Int32) then (some (false, g)) else (if (122 : Int32) < l0 then (some (false, g)) else (some (true, g)))
def f_J0_coder_7d493 (l0 : Nat) (g : G) : Option (Int32 × G) :=
  if (1 : Int32) = 0 then (some ((1 : Int32), g)) else (some ((0 : Int32), g))
def f_J0_length_8abf5 (l0 : Nat) (g : G) : Option (Int32 × G) :=
  bd (f_J0_coder_7d493 l0 g) (fun v1 g2 => some (((nI (jlen l0)) >>> (v1 &&& 31)), g2))
def f_J0_isLatin1_aae02 (l0 : Nat) (g : G) : Option (Bool × G) :=
  if (1 : Int32) = 0 then (some (false, g)) else (if (0 : Int32) = 0 then (some (true, g)) else (some (false, g)))
def f_J3_checkIndex_8e157_9 (g : G) : Option (Int32 × G) :=
  none
def f_J3_checkIndex_8e157 (l0 : Int32) (l1 : Int32) (g : G) : Option (Int32 × G) :=
  if l0 < 0 then (f_J3_checkIndex_8e157_9 g) else (if l0 < l1 then (some (l0, g)) else (f_J3_checkIndex_8e157_9 g))
def f_J0_checkIndex_df160 (l0 : Int32) (l1 : Int32) (g : G) : Option (Unit × G) :=
  bd (f_J3_checkIndex_8e157 l0 l1 g) (fun v1 g2 => some ((), g2))
def f_J1_charAt_3b067 (l0 : Nat) (l1 : Int32) (g : G) : Option (Int32 × G) :=
  bd (f_J0_checkIndex_df160 l1 (nI (jlen l0)) g) (fun v1 g2 => gdI l1 (jlen l0) (gdH ((((jbyt l0 l1.toNatClampNeg) &&& (255 : Int32)).toUInt32 % 65536).toInt32) (some (((((jbyt l0 l1.toNatClampNeg) &&& (255 : Int32)).toUInt32 % 65536).toInt32), g2))))
def f_J0_charAt_5068e (l0 : Nat) (l1 : Int32) (g : G) : Option (Int32 × G) :=
  bd (f_J0_isLatin1_aae02 l0 g) (fun v1 g2 => if (b2i v1) = 0 then (none) else (bd (f_J1_charAt_3b067 l0 l1 g2) (fun v6 g7 => gdH v6 (some (v6, g7)))))
def f_X12_keyAt_97 (k4 : Nat → Int32 → Int32 → G → Option (Int32 × G)) : Nat → Nat → Int32 → Int32 → G → Option (Int32 × G)
  | 0, _, _, _, _ => none
  | n + 1, l0, l1, l2, g =>
  bd (f_J0_charAt_5068e 0 l2 g) (fun v1 g2 => if v1 = (32 : Int32) then (k4 l0 (l1 + (1 : Int32)) (l2 + (1 : Int32)) g2) else (f_X12_keyAt_97 k4 n l0 l1 (l2 + (1 : Int32)) g2))
def f_X12_keyAt_69 (k4 : Nat → Int32 → Int32 → G → Option (Int32 × G)) (l0 : Nat) (l1 : Int32) (l2 : Int32) (l3 : Int32) (g : G) : Option (Int32 × G) :=
  bd (f_J0_charAt_5068e 0 (l2 + l3) g) (fun v1 g2 => if v1 = (32 : Int32) then (if ((gI g2 l0 6) + l3) = (gI g2 l0 7) then (some (l1, g2)) else (f_X12_keyAt_97 k4 FU l0 l1 l2 g2)) else (f_X12_keyAt_97 k4 FU l0 l1 l2 g2))
def f_X12_keyAt_15 (k4 : Nat → Int32 → Int32 → G → Option (Int32 × G)) : Nat → Nat → Int32 → Int32 → Int32 → G → Option (Int32 × G)
  | 0, _, _, _, _, _ => none
  | n + 1, l0, l1, l2, l3, g =>
  bd (f_J0_charAt_5068e 0 (l2 + l3) g) (fun v1 g2 => if v1 = (32 : Int32) then (f_X12_keyAt_69 k4 l0 l1 l2 l3 g2) else (if (gI g2 l0 7) ≤ ((gI g2 l0 6) + l3) then (f_X12_keyAt_69 k4 l0 l1 l2 l3 g2) else (dr (gR g2 l0 3) (fun b7 => gdK g2 b7 14 (gdI ((gI g2 l0 6) + l3) (gN g2 b7) (bd (f_J0_charAt_5068e 0 (l2 + l3) g2) (fun v11 g12 => if (gI g2 b7 ((gI g2 l0 6) + l3).toNatClampNeg) = v11 then (f_X12_keyAt_15 k4 n l0 l1 l2 (l3 + (1 : Int32)) g12) else (f_X12_keyAt_69 k4 l0 l1 l2 l3 g12))))))))
def f_X12_keyAt_4 : Nat → Nat → Int32 → Int32 → G → Option (Int32 × G)
  | 0, _, _, _, _ => none
  | n + 1, l0, l1, l2, g =>
  bd (f_J0_length_8abf5 0 g) (fun v1 g2 => if v1 ≤ l2 then (some ((22 : Int32), g2)) else (f_X12_keyAt_15 (f_X12_keyAt_4 n) FU l0 l1 l2 (0 : Int32) g2))
def f_X12_keyAt (l0 : Nat) (g : G) : Option (Int32 × G) :=
  f_X12_keyAt_4 FU l0 (0 : Int32) (1 : Int32) g
def f_X12_isDigit (l0 : Int32) (g : G) : Option (Bool × G) :=
  if l0 < (48 : Int32) then (some (false, g)) else (if (57 : Int32) < l0 then (some (false, g)) else (some (true, g)))
def f_X12_next_34 (k8 : Nat → G → Option (Unit × G)) (l0 : Nat) (g : G) : Option (Unit × G) :=
  lg (sI g l0 6 ((gI g l0 6) + (1 : Int32))) (fun g1 => k8 l0 g1)
def f_X12_next_89 : Nat → Nat → G → Option (Unit × G)
  | 0, _, _ => none
  | n + 1, l0, g =>
  bd (f_X12_see l0 (gI g l0 7) g) (fun v1 g2 => bd (f_X12_isSmall v1 g2) (fun v5 g6 => if (b2i v5) = 0 then (bd (f_X12_keyAt l0 g6) (fun v10 g11 => lg (sI g11 l0 9 v10) (fun g14 => some ((), g14)))) else (lg (sI g6 l0 7 ((gI g6 l0 7) + (1 : Int32))) (fun g16 => f_X12_next_89 n l0 g16))))
def f_X12_next_196 (k146 : Nat → G → Option (Unit × G)) (l0 : Nat) (g : G) : Option (Unit × G) :=
  lg (sI g l0 7 ((gI g l0 7) + (1 : Int32))) (fun g1 => k146 l0 g1)
def f_X12_next_230 (s0 : Int32) (s1 : Nat) (g : G) : Option (Unit × G) :=
  lg (sI g s1 9 s0) (fun g1 => some ((), g1))
def f_X12_next_146 : Nat → Nat → G → Option (Unit × G)
  | 0, _, _ => none
  | n + 1, l0, g =>
  bd (f_X12_see l0 (gI g l0 7) g) (fun v1 g2 => bd (f_X12_isDigit v1 g2) (fun v5 g6 => if (b2i v5) = 0 then (if ((gI g6 l0 7) - (gI g6 l0 6)) ≤ (3 : Int32) then (f_X12_next_230 (23 : Int32) l0 g6) else (f_X12_next_230 (25 : Int32) l0 g6)) else (if (3 : Int32) ≤ ((gI g6 l0 7) - (gI g6 l0 6)) then (f_X12_next_196 (f_X12_next_146 n) l0 g6) else (bd (f_X12_see l0 (gI g6 l0 7) g6) (fun v12 g13 => lg (sI g13 l0 10 ((((10 : Int32) * (gI g6 l0 10)) + v12) - (48 : Int32))) (fun g16 => f_X12_next_196 (f_X12_next_146 n) l0 g16))))))
def f_X12_next_288 (k254 : Nat → Int32 → G → Option (Unit × G)) (l0 : Nat) (l1 : Int32) (g : G) : Option (Unit × G) :=
  k254 l0 (l1 + (1 : Int32)) g
def f_X12_next_254 : Nat → Nat → Int32 → G → Option (Unit × G)
  | 0, _, _, _ => none
  | n + 1, l0, l1, g =>
  bd (f_J0_length_8abf5 1 g) (fun v1 g2 => if v1 ≤ l1 then (some ((), g2)) else (bd (f_X12_see l0 (gI g2 l0 6) g2) (fun v6 g7 => bd (f_J0_charAt_5068e 1 l1 g7) (fun v10 g11 => if v6 = v10 then (lg (sI g11 l0 9 ((30 : Int32) + l1)) (fun g15 => f_X12_next_288 (f_X12_next_254 n) l0 l1 g15)) else (f_X12_next_288 (f_X12_next_254 n) l0 l1 g11)))))
def f_X12_next_8 : Nat → Nat → G → Option (Unit × G)
  | 0, _, _ => none
  | n + 1, l0, g =>
  bd (f_X12_see l0 (gI g l0 6) g) (fun v1 g2 => if v1 = (10 : Int32) then (f_X12_next_34 (f_X12_next_8 n) l0 g2) else (bd (f_X12_see l0 (gI g2 l0 6) g2) (fun v6 g7 => if v6 = (32 : Int32) then (f_X12_next_34 (f_X12_next_8 n) l0 g7) else (lg (sI g7 l0 7 (gI g7 l0 6)) (fun g11 => if (gI g11 l0 6) < (gI g11 l0 8) then (bd (f_X12_see l0 (gI g11 l0 6) g11) (fun v14 g15 => bd (f_X12_isSmall v14 g15) (fun v18 g19 => if (b2i v18) = 0 then (bd (f_X12_see l0 (gI g19 l0 6) g19) (fun v23 g24 => bd (f_X12_isDigit v23 g24) (fun v27 g28 => if (b2i v27) = 0 then (lg (sI g28 l0 7 ((gI g28 l0 7) + (1 : Int32))) (fun g32 => lg (sI g32 l0 9 (25 : Int32)) (fun g34 => f_X12_next_254 FU l0 (0 : Int32) g34))) else (lg (sI g28 l0 10 (0 : Int32)) (fun g36 => f_X12_next_146 FU l0 g36))))) else (f_X12_next_89 FU l0 g19)))) else (lg (sI g11 l0 9 (24 : Int32)) (fun g38 => some ((), g38))))))))
def f_X12_next (l0 : Nat) (g : G) : Option (Unit × G) :=
  lg (sI g l0 6 (gI g l0 7)) (fun g1 => f_X12_next_8 FU l0 g1)
def f_X12_goesIn_22 (l0 : Nat) (g : G) : Option (Bool × G) :=
  if (gI g l0 11) = 0 then (some (true, g)) else (some (false, g))
def f_X12_goesIn_11 (l0 : Nat) (g : G) : Option (Bool × G) :=
  if (gI g l0 11) = 0 then (bd (f_X12_next l0 g) (fun v2 g3 => f_X12_goesIn_22 l0 g3)) else (f_X12_goesIn_22 l0 g)
def f_X12_goesIn (l0 : Nat) (l1 : Int32) (g : G) : Option (Bool × G) :=
  if l1 = (6 : Int32) then (bd (f_X12_fails l0 (4 : Int32) g) (fun v2 g3 => f_X12_goesIn_11 l0 g3)) else (f_X12_goesIn_11 l0 g)
def f_X12_codes (l0 : Nat) (l1 : Int32) (g : G) : Option (Unit × G) :=
  if (gI g l0 11) = 0 then (dr (gR g l0 4) (fun b2 => gdK g b2 14 (gdI (614 : Int32) (gN g b2) (gdI ((615 : Int32) + (gI g b2 (614 : Int32).toNatClampNeg)) (gN g b2) (lg (sI g b2 ((615 : Int32) + (gI g b2 (614 : Int32).toNatClampNeg)).toNatClampNeg l1) (fun g7 => lg (sI g7 b2 (614 : Int32).toNatClampNeg ((gI g7 b2 (614 : Int32).toNatClampNeg) + (1 : Int32))) (fun g9 => some ((), g9)))))))) else (some ((), g))
def f_X12_eats (l0 : Nat) (l1 : Int32) (g : G) : Option (Bool × G) :=
  bd (f_X12_is l0 l1 g) (fun v1 g2 => if (b2i v1) = 0 then (some (false, g2)) else (bd (f_X12_next l0 g2) (fun v6 g7 => some (true, g7))))
def f_X12_wordOf (l0 : Nat) (l1 : Int32) (g : G) : Option (Int32 × G) :=
  if l1.toInt < 1 then (some ((-1 : Int32), g)) else (match (l1.toInt - 1).toNat with | 0 => (some ((6 : Int32), g)) | 1 => (some ((0 : Int32), g)) | 2 => (some ((-1 : Int32), g)) | 3 => (some ((2 : Int32), g)) | 4 => (some ((-1 : Int32), g)) | 5 => (some ((-1 : Int32), g)) | 6 => (some ((1 : Int32), g)) | 7 => (some ((3 : Int32), g)) | 8 => (some ((4 : Int32), g)) | 9 => (some ((5 : Int32), g)) | 10 => (some ((7 : Int32), g)) | _ => (some ((-1 : Int32), g)))
def f_X12_readAtom_66 (hS : Nat → Int32 → G → Option (Unit × G)) (l0 : Nat) (l1 : Int32) (g : G) : Option (Unit × G) :=
  bd (f_X12_is l0 (35 : Int32) g) (fun v1 g2 => if (b2i v1) = 0 then (bd (f_X12_fails l0 (2 : Int32) g2) (fun v6 g7 => some ((), g7))) else (bd (f_X12_goesIn l0 l1 g2) (fun v10 g11 => if (b2i v10) = 0 then (some ((), g11)) else (bd (hS l0 (l1 + (1 : Int32)) g11) (fun v15 g16 => bd (f_X12_eats l0 (36 : Int32) g16) (fun v19 g20 => if (b2i v19) = 0 then (bd (f_X12_fails l0 (2 : Int32) g20) (fun v24 g25 => some ((), g25))) else (some ((), g20))))))))
def f_X12_readAtom (hS : Nat → Int32 → G → Option (Unit × G)) (l0 : Nat) (l1 : Int32) (g : G) : Option (Unit × G) :=
  bd (f_X12_is l0 (23 : Int32) g) (fun v1 g2 => if (b2i v1) = 0 then (if (gI g2 l0 11) = 0 then (bd (f_X12_wordOf l0 (gI g2 l0 9) g2) (fun v7 g8 => if v7 = (-1 : Int32) then (f_X12_readAtom_66 hS l0 l1 g8) else (bd (f_X12_wordOf l0 (gI g8 l0 9) g8) (fun v12 g13 => bd (f_X12_codes l0 ((1000 : Int32) + v12) g13) (fun v16 g17 => bd (f_X12_next l0 g17) (fun v20 g21 => some ((), g21))))))) else (f_X12_readAtom_66 hS l0 l1 g2)) else (bd (f_X12_codes l0 (gI g2 l0 10) g2) (fun v24 g25 => bd (f_X12_next l0 g25) (fun v28 g29 => some ((), g29)))))
def f_X12_readTerm_5 (hS : Nat → Int32 → G → Option (Unit × G)) : Nat → Nat → Int32 → G → Option (Unit × G)
  | 0, _, _, _ => none
  | n + 1, l0, l1, g =>
  bd (f_X12_eats l0 (34 : Int32) g) (fun v1 g2 => if (b2i v1) = 0 then (some ((), g2)) else (bd (f_X12_readAtom hS l0 l1 g2) (fun v6 g7 => bd (f_X12_codes l0 (3002 : Int32) g7) (fun v10 g11 => f_X12_readTerm_5 hS n l0 l1 g11))))
def f_X12_readTerm (hS : Nat → Int32 → G → Option (Unit × G)) (l0 : Nat) (l1 : Int32) (g : G) : Option (Unit × G) :=
  bd (f_X12_readAtom hS l0 l1 g) (fun v1 g2 => f_X12_readTerm_5 hS FU l0 l1 g2)
def f_X12_readSum_41 (hS : Nat → Int32 → G → Option (Unit × G)) (k5 : Nat → Int32 → G → Option (Unit × G)) (l0 : Nat) (l1 : Int32) (s0 : Int32) (g : G) : Option (Unit × G) :=
  bd (f_X12_next l0 g) (fun v1 g2 => bd (f_X12_readTerm hS l0 l1 g2) (fun v5 g6 => bd (f_X12_codes l0 s0 g6) (fun v9 g10 => k5 l0 l1 g10)))
def f_X12_readSum_23 (hS : Nat → Int32 → G → Option (Unit × G)) (k5 : Nat → Int32 → G → Option (Unit × G)) (l0 : Nat) (l1 : Int32) (g : G) : Option (Unit × G) :=
  if (gI g l0 9) = (32 : Int32) then (f_X12_readSum_41 hS k5 l0 l1 (3000 : Int32) g) else (f_X12_readSum_41 hS k5 l0 l1 (3001 : Int32) g)
def f_X12_readSum_5 (hS : Nat → Int32 → G → Option (Unit × G)) : Nat → Nat → Int32 → G → Option (Unit × G)
  | 0, _, _, _ => none
  | n + 1, l0, l1, g =>
  bd (f_X12_is l0 (32 : Int32) g) (fun v1 g2 => if (b2i v1) = 0 then (bd (f_X12_is l0 (33 : Int32) g2) (fun v6 g7 => if (b2i v6) = 0 then (some ((), g7)) else (f_X12_readSum_23 hS (f_X12_readSum_5 hS n) l0 l1 g7))) else (f_X12_readSum_23 hS (f_X12_readSum_5 hS n) l0 l1 g2))
def f_X12_readSum (hS : Nat → Int32 → G → Option (Unit × G)) (l0 : Nat) (l1 : Int32) (g : G) : Option (Unit × G) :=
  bd (f_X12_readTerm hS l0 l1 g) (fun v1 g2 => f_X12_readSum_5 hS FU l0 l1 g2)
def f_X12_readUnit_151 (hS : Nat → Int32 → G → Option (Unit × G)) (hT : Nat → Int32 → G → Option (Unit × G)) (hU : Nat → Int32 → G → Option (Unit × G)) (l0 : Nat) (l1 : Int32) (l2 : Int32) (g : G) : Option (Unit × G) :=
  bd (f_X12_readSum hS l0 l1 g) (fun v1 g2 => bd (f_X12_codes l0 l2 g2) (fun v5 g6 => some ((), g6)))
def f_X12_readUnit_139 (hS : Nat → Int32 → G → Option (Unit × G)) (hT : Nat → Int32 → G → Option (Unit × G)) (hU : Nat → Int32 → G → Option (Unit × G)) (l0 : Nat) (l1 : Int32) (l2 : Int32) (g : G) : Option (Unit × G) :=
  bd (f_X12_next l0 g) (fun v1 g2 => f_X12_readUnit_151 hS hT hU l0 l1 l2 g2)
def f_X12_readUnit_111 (hS : Nat → Int32 → G → Option (Unit × G)) (hT : Nat → Int32 → G → Option (Unit × G)) (hU : Nat → Int32 → G → Option (Unit × G)) (l0 : Nat) (l1 : Int32) (s0 : Int32) (g : G) : Option (Unit × G) :=
  bd (f_X12_is l0 (39 : Int32) g) (fun v1 g2 => if (b2i v1) = 0 then (bd (f_X12_is l0 (40 : Int32) g2) (fun v6 g7 => if (b2i v6) = 0 then (bd (f_X12_is l0 (41 : Int32) g7) (fun v11 g12 => if (b2i v11) = 0 then (bd (f_X12_fails l0 (2 : Int32) g12) (fun v16 g17 => f_X12_readUnit_151 hS hT hU l0 l1 s0 g17)) else (f_X12_readUnit_139 hS hT hU l0 l1 s0 g12))) else (f_X12_readUnit_139 hS hT hU l0 l1 s0 g7))) else (f_X12_readUnit_139 hS hT hU l0 l1 s0 g2))
def f_X12_readUnit (hS : Nat → Int32 → G → Option (Unit × G)) (hT : Nat → Int32 → G → Option (Unit × G)) (hU : Nat → Int32 → G → Option (Unit × G)) (l0 : Nat) (l1 : Int32) (g : G) : Option (Unit × G) :=
  bd (f_X12_is l0 (14 : Int32) g) (fun v1 g2 => if (b2i v1) = 0 then (bd (f_X12_is l0 (37 : Int32) g2) (fun v6 g7 => if (b2i v6) = 0 then (bd (f_X12_readSum hS l0 l1 g7) (fun v11 g12 => bd (f_X12_is l0 (39 : Int32) g12) (fun v15 g16 => if (b2i v15) = 0 then (bd (f_X12_is l0 (40 : Int32) g16) (fun v20 g21 => if (b2i v20) = 0 then (f_X12_readUnit_111 hS hT hU l0 l1 (3005 : Int32) g21) else (f_X12_readUnit_111 hS hT hU l0 l1 (3004 : Int32) g21))) else (f_X12_readUnit_111 hS hT hU l0 l1 (3003 : Int32) g16)))) else (bd (f_X12_goesIn l0 l1 g7) (fun v25 g26 => if (b2i v25) = 0 then (some ((), g26)) else (bd (hT l0 (l1 + (1 : Int32)) g26) (fun v30 g31 => bd (f_X12_eats l0 (38 : Int32) g31) (fun v34 g35 => if (b2i v34) = 0 then (bd (f_X12_fails l0 (2 : Int32) g35) (fun v39 g40 => some ((), g40))) else (some ((), g35))))))))) else (bd (f_X12_goesIn l0 l1 g2) (fun v43 g44 => if (b2i v43) = 0 then (some ((), g44)) else (bd (hU l0 (l1 + (1 : Int32)) g44) (fun v48 g49 => bd (f_X12_codes l0 (3006 : Int32) g49) (fun v52 g53 => some ((), g53)))))))
def f_X12_readBoth_5 (hS : Nat → Int32 → G → Option (Unit × G)) (hT : Nat → Int32 → G → Option (Unit × G)) (hU : Nat → Int32 → G → Option (Unit × G)) : Nat → Nat → Int32 → G → Option (Unit × G)
  | 0, _, _, _ => none
  | n + 1, l0, l1, g =>
  bd (f_X12_eats l0 (12 : Int32) g) (fun v1 g2 => if (b2i v1) = 0 then (some ((), g2)) else (bd (f_X12_readUnit hS hT hU l0 l1 g2) (fun v6 g7 => bd (f_X12_codes l0 (3007 : Int32) g7) (fun v10 g11 => f_X12_readBoth_5 hS hT hU n l0 l1 g11))))
def f_X12_readBoth (hS : Nat → Int32 → G → Option (Unit × G)) (hT : Nat → Int32 → G → Option (Unit × G)) (hU : Nat → Int32 → G → Option (Unit × G)) (l0 : Nat) (l1 : Int32) (g : G) : Option (Unit × G) :=
  bd (f_X12_readUnit hS hT hU l0 l1 g) (fun v1 g2 => f_X12_readBoth_5 hS hT hU FU l0 l1 g2)
def f_X12_readTruth_5 (hS : Nat → Int32 → G → Option (Unit × G)) (hT : Nat → Int32 → G → Option (Unit × G)) (hU : Nat → Int32 → G → Option (Unit × G)) : Nat → Nat → Int32 → G → Option (Unit × G)
  | 0, _, _, _ => none
  | n + 1, l0, l1, g =>
  bd (f_X12_eats l0 (13 : Int32) g) (fun v1 g2 => if (b2i v1) = 0 then (some ((), g2)) else (bd (f_X12_readBoth hS hT hU l0 l1 g2) (fun v6 g7 => bd (f_X12_codes l0 (3008 : Int32) g7) (fun v10 g11 => f_X12_readTruth_5 hS hT hU n l0 l1 g11))))
def f_X12_readTruth (hS : Nat → Int32 → G → Option (Unit × G)) (hT : Nat → Int32 → G → Option (Unit × G)) (hU : Nat → Int32 → G → Option (Unit × G)) (l0 : Nat) (l1 : Int32) (g : G) : Option (Unit × G) :=
  bd (f_X12_readBoth hS hT hU l0 l1 g) (fun v1 g2 => f_X12_readTruth_5 hS hT hU FU l0 l1 g2)
def R_X12 : Nat → (Nat → Int32 → G → Option (Unit × G)) × (Nat → Int32 → G → Option (Unit × G)) × (Nat → Int32 → G → Option (Unit × G))
  | 0 => (fun _ _ _ => none, fun _ _ _ => none, fun _ _ _ => none)
  | n + 1 => (f_X12_readSum (R_X12 n).1, f_X12_readTruth (R_X12 n).1 (R_X12 n).2.1 (R_X12 n).2.2, f_X12_readUnit (R_X12 n).1 (R_X12 n).2.1 (R_X12 n).2.2)
def f_X12_readSum_T : Nat → Int32 → G → Option (Unit × G) := (R_X12 8).1
def f_X12_readTruth_T : Nat → Int32 → G → Option (Unit × G) := (R_X12 8).2.1
def f_X12_common (hC : Int64 → Int64 → G → Option (Int64 × G)) (l0 : Int64) (l2 : Int64) (g : G) : Option (Int64 × G) :=
  if (lg_cmp l2 (0 : Int64)) = 0 then (some (l0, g)) else (gdZl l2 (bd (hC l2 (l0 - l0 / l2 * l2) g) (fun v3 g4 => some (v3, g4))))
def R_C : Nat → Int64 → Int64 → G → Option (Int64 × G)
  | 0 => fun _ _ _ => none
  | n + 1 => f_X12_common (R_C n)
def f_X12_common_T : Int64 → Int64 → G → Option (Int64 × G) := R_C 100
def f_X4_init (l0 : Nat) (g : G) : Option (Unit × G) :=
  lg (nw g 14 (256 : Int32).toNatClampNeg (256 : Int32).toNatClampNeg) (fun g1 => ln (gn g) (fun a3 => lg (sR g1 l0 1 (some a3)) (fun g6 => lg (nw g6 14 (256 : Int32).toNatClampNeg (256 : Int32).toNatClampNeg) (fun g8 => ln (gn g6) (fun a10 => lg (sR g8 l0 2 (some a10)) (fun g13 => lg (nw g13 14 (256 : Int32).toNatClampNeg (256 : Int32).toNatClampNeg) (fun g15 => ln (gn g13) (fun a17 => lg (sR g15 l0 3 (some a17)) (fun g20 => lg (nw g20 14 (256 : Int32).toNatClampNeg (256 : Int32).toNatClampNeg) (fun g22 => ln (gn g20) (fun a24 => lg (sR g22 l0 4 (some a24)) (fun g27 => lg (nw g27 14 (2048 : Int32).toNatClampNeg (2048 : Int32).toNatClampNeg) (fun g29 => ln (gn g27) (fun a31 => lg (sR g29 l0 5 (some a31)) (fun g34 => lg (nw g34 14 (1296 : Int32).toNatClampNeg (1296 : Int32).toNatClampNeg) (fun g36 => ln (gn g34) (fun a38 => lg (sR g36 l0 6 (some a38)) (fun g41 => some ((), g41)))))))))))))))))))
def f_X1_init (l0 : Nat) (g : G) : Option (Unit × G) :=
  lg (nw g 14 (256 : Int32).toNatClampNeg (256 : Int32).toNatClampNeg) (fun g1 => ln (gn g) (fun a3 => lg (sR g1 l0 1 (some a3)) (fun g6 => lg (nw g6 14 (2048 : Int32).toNatClampNeg (2048 : Int32).toNatClampNeg) (fun g8 => ln (gn g6) (fun a10 => lg (sR g8 l0 2 (some a10)) (fun g13 => lg (nw g13 14 (256 : Int32).toNatClampNeg (256 : Int32).toNatClampNeg) (fun g15 => ln (gn g13) (fun a17 => lg (sR g15 l0 3 (some a17)) (fun g20 => lg (nw g20 14 (256 : Int32).toNatClampNeg (256 : Int32).toNatClampNeg) (fun g22 => ln (gn g20) (fun a24 => lg (sR g22 l0 5 (some a24)) (fun g27 => lg (nw g27 14 (256 : Int32).toNatClampNeg (256 : Int32).toNatClampNeg) (fun g29 => ln (gn g27) (fun a31 => lg (sR g29 l0 7 (some a31)) (fun g34 => some ((), g34))))))))))))))))
def f_X2_init (l0 : Nat) (g : G) : Option (Unit × G) :=
  lg (nw g 14 (1024 : Int32).toNatClampNeg (1024 : Int32).toNatClampNeg) (fun g1 => ln (gn g) (fun a3 => lg (sR g1 l0 0 (some a3)) (fun g6 => lg (nw g6 14 (1024 : Int32).toNatClampNeg (1024 : Int32).toNatClampNeg) (fun g8 => ln (gn g6) (fun a10 => lg (sR g8 l0 1 (some a10)) (fun g13 => lg (nw g13 14 (1024 : Int32).toNatClampNeg (1024 : Int32).toNatClampNeg) (fun g15 => ln (gn g13) (fun a17 => lg (sR g15 l0 2 (some a17)) (fun g20 => lg (nw g20 14 (1024 : Int32).toNatClampNeg (1024 : Int32).toNatClampNeg) (fun g22 => ln (gn g20) (fun a24 => lg (sR g22 l0 3 (some a24)) (fun g27 => some ((), g27)))))))))))))
def f_X3_init (l0 : Nat) (g : G) : Option (Unit × G) :=
  lg (nw g 14 (512 : Int32).toNatClampNeg (512 : Int32).toNatClampNeg) (fun g1 => ln (gn g) (fun a3 => lg (sR g1 l0 1 (some a3)) (fun g6 => lg (nw g6 14 (2048 : Int32).toNatClampNeg (2048 : Int32).toNatClampNeg) (fun g8 => ln (gn g6) (fun a10 => lg (sR g8 l0 2 (some a10)) (fun g13 => lg (nw g13 14 (2048 : Int32).toNatClampNeg (2048 : Int32).toNatClampNeg) (fun g15 => ln (gn g13) (fun a17 => lg (sR g15 l0 3 (some a17)) (fun g20 => lg (nw g20 14 (512 : Int32).toNatClampNeg (512 : Int32).toNatClampNeg) (fun g22 => ln (gn g20) (fun a24 => lg (sR g22 l0 5 (some a24)) (fun g27 => lg (nw g27 14 (512 : Int32).toNatClampNeg (512 : Int32).toNatClampNeg) (fun g29 => ln (gn g27) (fun a31 => lg (sR g29 l0 6 (some a31)) (fun g34 => lg (nw g34 14 (512 : Int32).toNatClampNeg (512 : Int32).toNatClampNeg) (fun g36 => ln (gn g34) (fun a38 => lg (sR g36 l0 7 (some a38)) (fun g41 => lg (nw g41 14 (512 : Int32).toNatClampNeg (512 : Int32).toNatClampNeg) (fun g43 => ln (gn g41) (fun a45 => lg (sR g43 l0 8 (some a45)) (fun g48 => some ((), g48))))))))))))))))))))))
def f_X6_init (l0 : Nat) (g : G) : Option (Unit × G) :=
  lg (nwM g (256 : Int32).toNatClampNeg) (fun g1 => ln (gn g) (fun a3 => lg (sR g1 l0 0 (some a3)) (fun g6 => lg (nw g6 15 (36 : Int32).toNatClampNeg (36 : Int32).toNatClampNeg) (fun g8 => ln (gn g6) (fun a10 => lg (sR g8 l0 2 (some a10)) (fun g13 => some ((), g13)))))))
def f_J9_min_7cf53 (l0 : Int32) (l1 : Int32) (g : G) : Option (Int32 × G) :=
  if l1 < l0 then (some (l1, g)) else (some (l0, g))
def f_J9_max_7cf53 (l0 : Int32) (l1 : Int32) (g : G) : Option (Int32 × G) :=
  if l0 < l1 then (some (l1, g)) else (some (l0, g))
def f_J7_fill_53178_5 : Nat → Nat → Int32 → Int32 → Int32 → G → Option (Unit × G)
  | 0, _, _, _, _, _ => none
  | n + 1, l0, l1, l2, l3, g =>
  if l3 ≤ l2 then (some ((), g)) else (gdI l2 (gN g l0) (lg (sI g l0 l2.toNatClampNeg l1) (fun g3 => f_J7_fill_53178_5 n l0 l1 (l2 + (1 : Int32)) l3 g3)))
def f_J7_fill_53178 (l0 : Nat) (l1 : Int32) (g : G) : Option (Unit × G) :=
  li (nI (gN g l0)) (fun y1 => f_J7_fill_53178_5 FU l0 l1 (0 : Int32) y1 g)
def f_X7_init_135 (l0 : Nat) (g : G) : Option (Unit × G) :=
  dr (gR g l0 9) (fun b1 => gdK g b1 14 (bd (f_J7_fill_53178 b1 (-1 : Int32) g) (fun v4 g5 => some ((), g5))))
def f_X7_init_91 : Nat → Nat → Int32 → G → Option (Unit × G)
  | 0, _, _, _ => none
  | n + 1, l0, l3, g =>
  if (gI g l0 2) ≤ l3 then (f_X7_init_135 l0 g) else (if (36 : Int32) ≤ l3 then (f_X7_init_135 l0 g) else (dr (gR g l0 7) (fun b3 => gdZ (gI g l0 1) (gdK g b3 14 (gdI l3 (gN g b3) (lg (sI g b3 l3.toNatClampNeg (l3 / (gI g l0 1))) (fun g8 => dr (gR g8 l0 8) (fun b10 => gdZ (gI g8 l0 1) (gdK g8 b10 14 (gdI l3 (gN g8 b10) (lg (sI g8 b10 l3.toNatClampNeg (l3 - l3 / (gI g8 l0 1) * (gI g8 l0 1))) (fun g15 => f_X7_init_91 n l0 (l3 + (1 : Int32)) g15))))))))))))
def f_X7_init (l0 : Nat) (l1 : Int32) (l2 : Int32) (g : G) : Option (Unit × G) :=
  lg (nw g 14 (36 : Int32).toNatClampNeg (36 : Int32).toNatClampNeg) (fun g1 => ln (gn g) (fun a3 => lg (sR g1 l0 6 (some a3)) (fun g6 => lg (nw g6 14 (36 : Int32).toNatClampNeg (36 : Int32).toNatClampNeg) (fun g8 => ln (gn g6) (fun a10 => lg (sR g8 l0 7 (some a10)) (fun g13 => lg (nw g13 14 (36 : Int32).toNatClampNeg (36 : Int32).toNatClampNeg) (fun g15 => ln (gn g13) (fun a17 => lg (sR g15 l0 8 (some a17)) (fun g20 => lg (nw g20 14 (6 : Int32).toNatClampNeg (6 : Int32).toNatClampNeg) (fun g22 => ln (gn g20) (fun a24 => lg (sR g22 l0 9 (some a24)) (fun g27 => bd (f_J9_min_7cf53 (6 : Int32) l1 g27) (fun v29 g30 => bd (f_J9_max_7cf53 (1 : Int32) v29 g30) (fun v33 g34 => lg (sI g34 l0 0 v33) (fun g37 => bd (f_J9_min_7cf53 (6 : Int32) l2 g37) (fun v39 g40 => bd (f_J9_max_7cf53 (1 : Int32) v39 g40) (fun v43 g44 => lg (sI g44 l0 1 v43) (fun g47 => lg (sI g47 l0 2 ((gI g47 l0 0) * (gI g47 l0 1))) (fun g49 => lg (sL g49 l0 3 (((1 : Int64) <<< ((gI g49 l0 2).toInt64 &&& 63)) - (1 : Int64))) (fun g51 => f_X7_init_91 FU l0 (0 : Int32) g51))))))))))))))))))))
def f_X0_init (l0 : Nat) (l1 : Nat) (g : G) : Option (Unit × G) :=
  lg (nw g 14 (6 : Int32).toNatClampNeg (6 : Int32).toNatClampNeg) (fun g1 => ln (gn g) (fun a3 => lg (sR g1 l0 2 (some a3)) (fun g6 => lg (nw g6 14 (3 : Int32).toNatClampNeg (3 : Int32).toNatClampNeg) (fun g8 => ln (gn g6) (fun a10 => lg (sR g8 l0 3 (some a10)) (fun g13 => lg (nw g13 14 (3 : Int32).toNatClampNeg (3 : Int32).toNatClampNeg) (fun g15 => ln (gn g13) (fun a17 => lg (sR g15 l0 4 (some a17)) (fun g20 => lg (nw g20 14 (3 : Int32).toNatClampNeg (3 : Int32).toNatClampNeg) (fun g22 => ln (gn g20) (fun a24 => lg (sR g22 l0 5 (some a24)) (fun g27 => lg (sR g27 l0 0 (some l1)) (fun g29 => some ((), g29))))))))))))))
def f_X8_init (l0 : Nat) (l1 : Nat) (g : G) : Option (Unit × G) :=
  lg (sI g l0 2 (-1 : Int32)) (fun g1 => lg (nw g1 13 (0 : Int32).toNatClampNeg (0 : Int32).toNatClampNeg) (fun g3 => ln (gn g1) (fun a5 => lg (sR g3 l0 4 (some a5)) (fun g8 => lg (nw g8 14 (901 : Int32).toNatClampNeg (901 : Int32).toNatClampNeg) (fun g10 => ln (gn g8) (fun a12 => lg (sR g10 l0 7 (some a12)) (fun g15 => lg (nw g15 14 (901 : Int32).toNatClampNeg (901 : Int32).toNatClampNeg) (fun g17 => ln (gn g15) (fun a19 => lg (sR g17 l0 8 (some a19)) (fun g22 => lg (nw g22 14 (901 : Int32).toNatClampNeg (901 : Int32).toNatClampNeg) (fun g24 => ln (gn g22) (fun a26 => lg (sR g24 l0 9 (some a26)) (fun g29 => lg (nw g29 14 (900 : Int32).toNatClampNeg (900 : Int32).toNatClampNeg) (fun g31 => ln (gn g29) (fun a33 => lg (sR g31 l0 16 (some a33)) (fun g36 => lg (sR g36 l0 3 (some l1)) (fun g38 => lg (nw g38 0 0 6) (fun g40 => ln (gn g38) (fun a42 => bd (f_X0_init a42 l1 g40) (fun v45 g46 => lg (sR g46 l0 0 (some a42)) (fun g49 => some ((), g49))))))))))))))))))))))
def f_X9_init (l0 : Nat) (l1 : Nat) (g : G) : Option (Unit × G) :=
  lg (nw g 14 (8 : Int32).toNatClampNeg (8 : Int32).toNatClampNeg) (fun g1 => ln (gn g) (fun a3 => lg (sR g1 l0 3 (some a3)) (fun g6 => lg (nw g6 15 (396 : Int32).toNatClampNeg (396 : Int32).toNatClampNeg) (fun g8 => ln (gn g6) (fun a10 => lg (sR g8 l0 4 (some a10)) (fun g13 => lg (nw g13 14 (2592 : Int32).toNatClampNeg (2592 : Int32).toNatClampNeg) (fun g15 => ln (gn g13) (fun a17 => lg (sR g15 l0 7 (some a17)) (fun g20 => lg (nw g20 14 (2592 : Int32).toNatClampNeg (2592 : Int32).toNatClampNeg) (fun g22 => ln (gn g20) (fun a24 => lg (sR g22 l0 8 (some a24)) (fun g27 => lg (nw g27 14 (2592 : Int32).toNatClampNeg (2592 : Int32).toNatClampNeg) (fun g29 => ln (gn g27) (fun a31 => lg (sR g29 l0 9 (some a31)) (fun g34 => lg (nw g34 14 (2592 : Int32).toNatClampNeg (2592 : Int32).toNatClampNeg) (fun g36 => ln (gn g34) (fun a38 => lg (sR g36 l0 10 (some a38)) (fun g41 => lg (nw g41 15 (64 : Int32).toNatClampNeg (64 : Int32).toNatClampNeg) (fun g43 => ln (gn g41) (fun a45 => lg (sR g43 l0 12 (some a45)) (fun g48 => lg (sR g48 l0 1 (some l1)) (fun g50 => some ((), g50)))))))))))))))))))))))
def f_X5_init_15 : Nat → Nat → Nat → Int32 → G → Option (Unit × G)
  | 0, _, _, _, _ => none
  | n + 1, l0, l1, l2, g =>
  if (10 : Int32) ≤ l2 then (some ((), g)) else (dr (gR g l0 2) (fun b2 => lg (nw g 0 0 6) (fun g4 => ln (gn g) (fun a6 => bd (f_X0_init a6 l1 g4) (fun v9 g10 => gdK g10 b2 17 (gdI l2 (gN g10 b2) (lg (sR g10 b2 l2.toNatClampNeg (some a6)) (fun g15 => f_X5_init_15 n l0 l1 (l2 + (1 : Int32)) g15))))))))
def f_X5_init (l0 : Nat) (l1 : Nat) (g : G) : Option (Unit × G) :=
  lg (nw g 17 (10 : Int32).toNatClampNeg (10 : Int32).toNatClampNeg) (fun g1 => ln (gn g) (fun a3 => lg (sR g1 l0 2 (some a3)) (fun g6 => f_X5_init_15 FU l0 l1 (0 : Int32) g6)))
def f_X10_init (l0 : Nat) (g : G) : Option (Unit × G) :=
  lg (sI g l0 1 (-1 : Int32)) (fun g1 => lg (nw g1 15 (40 : Int32).toNatClampNeg (40 : Int32).toNatClampNeg) (fun g3 => ln (gn g1) (fun a5 => lg (sR g3 l0 2 (some a5)) (fun g8 => some ((), g8)))))
def f_X11_init_177 : Nat → Nat → Int32 → G → Option (Unit × G)
  | 0, _, _, _ => none
  | n + 1, l0, l2, g =>
  if (4 : Int32) ≤ l2 then (some ((), g)) else (dr (gR g l0 16) (fun b2 => lg (nw g 10 0 3) (fun g4 => ln (gn g) (fun a6 => bd (f_X10_init a6 g4) (fun v9 g10 => gdK g10 b2 18 (gdI l2 (gN g10 b2) (lg (sR g10 b2 l2.toNatClampNeg (some a6)) (fun g15 => f_X11_init_177 n l0 (l2 + (1 : Int32)) g15))))))))
def f_X11_init (l0 : Nat) (g : G) : Option (Unit × G) :=
  lg (nw g 13 (900 : Int32).toNatClampNeg (900 : Int32).toNatClampNeg) (fun g1 => ln (gn g) (fun a3 => lg (sR g1 l0 0 (some a3)) (fun g6 => lg (sI g6 l0 3 (-1 : Int32)) (fun g8 => lg (nw g8 4 0 7) (fun g10 => ln (gn g8) (fun a12 => bd (f_X4_init a12 g10) (fun v15 g16 => lg (sR g16 l0 8 (some a12)) (fun g19 => lg (nw g19 4 0 7) (fun g21 => ln (gn g19) (fun a23 => bd (f_X4_init a23 g21) (fun v26 g27 => lg (sR g27 l0 9 (some a23)) (fun g30 => lg (sI g30 l0 10 (-1 : Int32)) (fun g32 => lg (nw g32 1 0 8) (fun g34 => ln (gn g32) (fun a36 => bd (f_X1_init a36 g34) (fun v39 g40 => lg (sR g40 l0 11 (some a36)) (fun g43 => lg (nw g43 2 0 5) (fun g45 => ln (gn g43) (fun a47 => bd (f_X2_init a47 g45) (fun v50 g51 => lg (sR g51 l0 12 (some a47)) (fun g54 => lg (nw g54 3 0 9) (fun g56 => ln (gn g54) (fun a58 => bd (f_X3_init a58 g56) (fun v61 g62 => lg (sR g62 l0 13 (some a58)) (fun g65 => lg (nw g65 6 0 3) (fun g67 => ln (gn g65) (fun a69 => bd (f_X6_init a69 g67) (fun v72 g73 => lg (sR g73 l0 14 (some a69)) (fun g76 => lg (nw g76 18 (4 : Int32).toNatClampNeg (4 : Int32).toNatClampNeg) (fun g78 => ln (gn g76) (fun a80 => lg (sR g78 l0 16 (some a80)) (fun g83 => lg (nw g83 17 (2 : Int32).toNatClampNeg (2 : Int32).toNatClampNeg) (fun g85 => ln (gn g83) (fun a87 => lg (sR g85 l0 17 (some a87)) (fun g90 => lg (nw g90 7 0 12) (fun g92 => ln (gn g90) (fun a94 => bd (f_X7_init a94 (1 : Int32) (1 : Int32) g92) (fun v97 g98 => lg (nw g98 0 0 6) (fun g101 => ln (gn g98) (fun a103 => bd (f_X0_init a103 a94 g101) (fun v106 g107 => lg (sR g107 l0 4 (some a103)) (fun g110 => lg (nw g110 0 0 6) (fun g112 => ln (gn g110) (fun a114 => bd (f_X0_init a114 a94 g112) (fun v117 g118 => lg (sR g118 l0 5 (some a114)) (fun g121 => lg (nw g121 8 0 18) (fun g123 => ln (gn g121) (fun a125 => bd (f_X8_init a125 a94 g123) (fun v128 g129 => lg (sR g129 l0 6 (some a125)) (fun g132 => lg (nw g132 9 0 13) (fun g134 => ln (gn g132) (fun a136 => bd (f_X9_init a136 a94 g134) (fun v139 g140 => lg (sR g140 l0 7 (some a136)) (fun g143 => lg (nw g143 5 0 3) (fun g145 => ln (gn g143) (fun a147 => bd (f_X5_init a147 a94 g145) (fun v150 g151 => lg (sR g151 l0 15 (some a147)) (fun g154 => f_X11_init_177 FU l0 (0 : Int32) g154))))))))))))))))))))))))))))))))))))))))))))))))))))))))))
def f_X12_plain_29 : Nat → Nat → Int32 → G → Option (Unit × G)
  | 0, _, _, _ => none
  | n + 1, l0, l1, g =>
  if (6 : Int32) ≤ l1 then (some ((), g)) else (gdI ((46 : Int32) + l1) (gN g l0) (lg (sI g l0 ((46 : Int32) + l1).toNatClampNeg (-1 : Int32)) (fun g3 => gdI ((88 : Int32) + l1) (gN g3 l0) (lg (sI g3 l0 ((88 : Int32) + l1).toNatClampNeg (-1 : Int32)) (fun g6 => f_X12_plain_29 n l0 (l1 + (1 : Int32)) g6)))))
def f_X12_plain_2 : Nat → Nat → Int32 → G → Option (Unit × G)
  | 0, _, _, _ => none
  | n + 1, l0, l1, g =>
  if (1515 : Int32) ≤ l1 then (gdI (1 : Int32) (gN g l0) (lg (sI g l0 (1 : Int32).toNatClampNeg (1 : Int32)) (fun g3 => gdI (2 : Int32) (gN g3 l0) (lg (sI g3 l0 (2 : Int32).toNatClampNeg (1 : Int32)) (fun g6 => f_X12_plain_29 FU l0 (0 : Int32) g6))))) else (gdI l1 (gN g l0) (lg (sI g l0 l1.toNatClampNeg (0 : Int32)) (fun g9 => f_X12_plain_2 n l0 (l1 + (1 : Int32)) g9)))
def f_X12_plain (l0 : Nat) (g : G) : Option (Unit × G) :=
  f_X12_plain_2 FU l0 (0 : Int32) g
def f_X12_init (l0 : Nat) (g : G) : Option (Unit × G) :=
  lg (nw g 14 (4545 : Int32).toNatClampNeg (4545 : Int32).toNatClampNeg) (fun g1 => ln (gn g) (fun a3 => lg (sR g1 l0 1 (some a3)) (fun g6 => lg (nw g6 16 (2 : Int32).toNatClampNeg (2 : Int32).toNatClampNeg) (fun g8 => ln (gn g6) (fun a10 => lg (sR g8 l0 2 (some a10)) (fun g13 => lg (nw g13 14 (900 : Int32).toNatClampNeg (900 : Int32).toNatClampNeg) (fun g15 => ln (gn g13) (fun a17 => lg (sR g15 l0 3 (some a17)) (fun g20 => lg (nw g20 14 (1515 : Int32).toNatClampNeg (1515 : Int32).toNatClampNeg) (fun g22 => ln (gn g20) (fun a24 => lg (sR g22 l0 4 (some a24)) (fun g27 => lg (sI g27 l0 14 (-1 : Int32)) (fun g29 => lg (nw g29 14 (900 : Int32).toNatClampNeg (900 : Int32).toNatClampNeg) (fun g31 => ln (gn g29) (fun a33 => lg (sR g31 l0 15 (some a33)) (fun g36 => lg (nw g36 14 (8 : Int32).toNatClampNeg (8 : Int32).toNatClampNeg) (fun g38 => ln (gn g36) (fun a40 => lg (sR g38 l0 16 (some a40)) (fun g43 => lg (nw g43 14 (51 : Int32).toNatClampNeg (51 : Int32).toNatClampNeg) (fun g45 => ln (gn g43) (fun a47 => lg (sR g45 l0 19 (some a47)) (fun g50 => lg (nw g50 16 (1296 : Int32).toNatClampNeg (1296 : Int32).toNatClampNeg) (fun g52 => ln (gn g50) (fun a54 => lg (sR g52 l0 23 (some a54)) (fun g57 => lg (nw g57 14 (10368 : Int32).toNatClampNeg (10368 : Int32).toNatClampNeg) (fun g59 => ln (gn g57) (fun a61 => lg (sR g59 l0 24 (some a61)) (fun g64 => lg (nw g64 14 (10368 : Int32).toNatClampNeg (10368 : Int32).toNatClampNeg) (fun g66 => ln (gn g64) (fun a68 => lg (sR g66 l0 25 (some a68)) (fun g71 => lg (nw g71 14 (5184 : Int32).toNatClampNeg (5184 : Int32).toNatClampNeg) (fun g73 => ln (gn g71) (fun a75 => lg (sR g73 l0 26 (some a75)) (fun g78 => lg (nw g78 14 (1296 : Int32).toNatClampNeg (1296 : Int32).toNatClampNeg) (fun g80 => ln (gn g78) (fun a82 => lg (sR g80 l0 27 (some a82)) (fun g85 => lg (nw g85 15 (1296 : Int32).toNatClampNeg (1296 : Int32).toNatClampNeg) (fun g87 => ln (gn g85) (fun a89 => lg (sR g87 l0 28 (some a89)) (fun g92 => lg (nw g92 15 (1296 : Int32).toNatClampNeg (1296 : Int32).toNatClampNeg) (fun g94 => ln (gn g92) (fun a96 => lg (sR g94 l0 29 (some a96)) (fun g99 => lg (nw g99 14 (1296 : Int32).toNatClampNeg (1296 : Int32).toNatClampNeg) (fun g101 => ln (gn g99) (fun a103 => lg (sR g101 l0 30 (some a103)) (fun g106 => lg (nw g106 14 (4 : Int32).toNatClampNeg (4 : Int32).toNatClampNeg) (fun g108 => ln (gn g106) (fun a110 => gdI (0 : Int32) (gN g108 a110) (lg (sI g108 a110 (0 : Int32).toNatClampNeg (-1 : Int32)) (fun g114 => gdI (1 : Int32) (gN g114 a110) (lg (sI g114 a110 (1 : Int32).toNatClampNeg (-1 : Int32)) (fun g117 => gdI (2 : Int32) (gN g117 a110) (lg (sI g117 a110 (2 : Int32).toNatClampNeg (-1 : Int32)) (fun g120 => gdI (3 : Int32) (gN g120 a110) (lg (sI g120 a110 (3 : Int32).toNatClampNeg (-1 : Int32)) (fun g123 => lg (sR g123 l0 33 (some a110)) (fun g125 => lg (nw g125 14 (4 : Int32).toNatClampNeg (4 : Int32).toNatClampNeg) (fun g127 => ln (gn g125) (fun a129 => lg (sR g127 l0 34 (some a129)) (fun g132 => lg (nw g132 15 (160 : Int32).toNatClampNeg (160 : Int32).toNatClampNeg) (fun g134 => ln (gn g132) (fun a136 => lg (sR g134 l0 35 (some a136)) (fun g139 => dr (gR g139 l0 1) (fun b141 => gdK g139 b141 14 (bd (f_X12_plain b141 g139) (fun v144 g145 => some ((), g145)))))))))))))))))))))))))))))))))))))))))))))))))))))))))))))))))))
def f_X11_feedWord_3 : Nat → Nat → Int32 → Int32 → G → Option (Unit × G)
  | 0, _, _, _, _ => none
  | n + 1, l0, l1, l2, g =>
  if l2 < 0 then (some ((), g)) else (if (900 : Int32) ≤ (gI g l0 1) then (some ((), g)) else (dr (gR g l0 0) (fun b3 => gdK g b3 13 (gdI (gI g l0 1) (gN g b3) (lg (sI g b3 (gI g l0 1).toNatClampNeg (vp_nar .byte ((l1 >>> (l2 &&& 31)).toInt8.toInt32))) (fun g7 => lg (sI g7 l0 1 ((gI g7 l0 1) + (1 : Int32))) (fun g9 => f_X11_feedWord_3 n l0 l1 (l2 + (-8 : Int32)) g9)))))))
def f_X11_feedWord (l0 : Nat) (l1 : Int32) (g : G) : Option (Unit × G) :=
  f_X11_feedWord_3 FU l0 l1 (24 : Int32) g
def f_X11_feed (l0 : Nat) (l1 : Int32) (l2 : Int32) (l3 : Int32) (l4 : Int32) (l5 : Int32) (g : G) : Option (Int32 × G) :=
  if ((gI g l0 1) + (20 : Int32)) ≤ (900 : Int32) then (bd (f_X11_feedWord l0 l1 g) (fun v2 g3 => bd (f_X11_feedWord l0 l2 g3) (fun v6 g7 => bd (f_X11_feedWord l0 l3 g7) (fun v10 g11 => bd (f_X11_feedWord l0 l4 g11) (fun v14 g15 => bd (f_X11_feedWord l0 l5 g15) (fun v18 g19 => some ((gI g19 l0 1), g19))))))) else (some ((-5 : Int32), g))
def f_X12_feed_77 (k24 : Nat → Int32 → Int32 → Int32 → Int32 → Int32 → Int32 → G → Option (Int32 × G)) (l0 : Nat) (l1 : Int32) (l2 : Int32) (l3 : Int32) (l4 : Int32) (l5 : Int32) (l6 : Int32) (s0 : Int32) (g : G) : Option (Int32 × G) :=
  dr (gR g l0 3) (fun b1 => gdK g b1 14 (gdI (gI g l0 5) (gN g b1) (lg (sI g b1 (gI g l0 5).toNatClampNeg ((s0 >>> (((24 : Int32) - ((8 : Int32) * (l6 - l6 / (4 : Int32) * (4 : Int32)))) &&& 31)) &&& (255 : Int32))) (fun g5 => lg (sI g5 l0 5 ((gI g5 l0 5) + (1 : Int32))) (fun g7 => k24 l0 l1 l2 l3 l4 l5 (l6 + (1 : Int32)) g7)))))
def f_X12_feed_24 : Nat → Nat → Int32 → Int32 → Int32 → Int32 → Int32 → Int32 → G → Option (Int32 × G)
  | 0, _, _, _, _, _, _, _, _ => none
  | n + 1, l0, l1, l2, l3, l4, l5, l6, g =>
  if (20 : Int32) ≤ l6 then (some ((gI g l0 5), g)) else (if (4 : Int32) ≤ l6 then (if (8 : Int32) ≤ l6 then (if (12 : Int32) ≤ l6 then (if (16 : Int32) ≤ l6 then (f_X12_feed_77 (f_X12_feed_24 n) l0 l1 l2 l3 l4 l5 l6 l5 g) else (f_X12_feed_77 (f_X12_feed_24 n) l0 l1 l2 l3 l4 l5 l6 l4 g)) else (f_X12_feed_77 (f_X12_feed_24 n) l0 l1 l2 l3 l4 l5 l6 l3 g)) else (f_X12_feed_77 (f_X12_feed_24 n) l0 l1 l2 l3 l4 l5 l6 l2 g)) else (f_X12_feed_77 (f_X12_feed_24 n) l0 l1 l2 l3 l4 l5 l6 l1 g))
def f_X12_feed (l0 : Nat) (l1 : Int32) (l2 : Int32) (l3 : Int32) (l4 : Int32) (l5 : Int32) (g : G) : Option (Int32 × G) :=
  lg (sI g l0 0 (0 : Int32)) (fun g1 => if ((gI g1 l0 5) + (20 : Int32)) ≤ (900 : Int32) then (f_X12_feed_24 FU l0 l1 l2 l3 l4 l5 (0 : Int32) g1) else (some ((-5 : Int32), g1)))
def f_X8_signAt (l0 : Nat) (l1 : Int32) (g : G) : Option (Int32 × G) :=
  if l1 < 0 then (some ((0 : Int32), g)) else (if (gI g l0 5) ≤ l1 then (some ((0 : Int32), g)) else (dr (gR g l0 4) (fun b3 => gdK g b3 13 (if (nI (gN g b3)) ≤ l1 then (some ((0 : Int32), g)) else (gdI l1 (gN g b3) (some ((gI g b3 l1.toNatClampNeg), g)))))))
def f_X8_skipBlanks_37 (k0 : Nat → G → Option (Unit × G)) (l0 : Nat) (g : G) : Option (Unit × G) :=
  lg (sI g l0 6 ((gI g l0 6) + (1 : Int32))) (fun g1 => k0 l0 g1)
def f_X8_skipBlanks_0 : Nat → Nat → G → Option (Unit × G)
  | 0, _, _ => none
  | n + 1, l0, g =>
  if (gI g l0 5) ≤ (gI g l0 6) then (some ((), g)) else (bd (f_X8_signAt l0 (gI g l0 6) g) (fun v2 g3 => if v2 = (32 : Int32) then (f_X8_skipBlanks_37 (f_X8_skipBlanks_0 n) l0 g3) else (bd (f_X8_signAt l0 (gI g3 l0 6) g3) (fun v7 g8 => if v7 = (10 : Int32) then (f_X8_skipBlanks_37 (f_X8_skipBlanks_0 n) l0 g8) else (some ((), g8))))))
def f_X8_skipBlanks (l0 : Nat) (g : G) : Option (Unit × G) :=
  f_X8_skipBlanks_0 FU l0 g
def f_X8_isLetter (l0 : Int32) (g : G) : Option (Bool × G) :=
  if l0 < (97 : Int32) then (some (false, g)) else (if (122 : Int32) < l0 then (some (false, g)) else (some (true, g)))
def f_X8_splitWord_138 (k53 : Nat → Int32 → Int32 → Int32 → Int32 → Int32 → G → Option (Int32 × G)) (l0 : Nat) (l1 : Int32) (l2 : Int32) (l3 : Int32) (l4 : Int32) (l5 : Int32) (g : G) : Option (Int32 × G) :=
  k53 l0 l1 l2 l3 l4 (l5 + (1 : Int32)) g
def f_X8_splitWord_107 (k53 : Nat → Int32 → Int32 → Int32 → Int32 → Int32 → G → Option (Int32 × G)) (l0 : Nat) (l1 : Int32) (l2 : Int32) (l3 : Int32) (l5 : Int32) (s0 : Int32) (g : G) : Option (Int32 × G) :=
  f_X8_splitWord_138 k53 l0 l1 l2 (l3 + (1 : Int32)) s0 l5 g
def f_X8_splitWord_106 (k53 : Nat → Int32 → Int32 → Int32 → Int32 → Int32 → G → Option (Int32 × G)) (l0 : Nat) (l1 : Int32) (l2 : Int32) (l3 : Int32) (l5 : Int32) (g : G) : Option (Int32 × G) :=
  f_X8_splitWord_107 k53 l0 l1 l2 l3 l5 (0 : Int32) g
def f_X8_splitWord_130 (k53 : Nat → Int32 → Int32 → Int32 → Int32 → Int32 → G → Option (Int32 × G)) (l0 : Nat) (l1 : Int32) (l2 : Int32) (l5 : Int32) (g : G) : Option (Int32 × G) :=
  f_X8_splitWord_138 k53 l0 l1 (l2 + (1 : Int32)) l1 (1 : Int32) l5 g
def f_X8_splitWord_53 : Nat → Nat → Int32 → Int32 → Int32 → Int32 → Int32 → G → Option (Int32 × G)
  | 0, _, _, _, _, _, _, _ => none
  | n + 1, l0, l1, l2, l3, l4, l5, g =>
  bd (f_J0_length_8abf5 2 g) (fun v1 g2 => if v1 ≤ l5 then (some ((15 : Int32), g2)) else (bd (f_J0_charAt_5068e 2 l5 g2) (fun v6 g7 => if v6 = (32 : Int32) then (if l4 = 0 then (f_X8_splitWord_130 (f_X8_splitWord_53 n) l0 l1 l2 l5 g7) else (if l3 = (gI g7 l0 6) then (some (l2, g7)) else (f_X8_splitWord_130 (f_X8_splitWord_53 n) l0 l1 l2 l5 g7))) else (if l4 = 0 then (f_X8_splitWord_106 (f_X8_splitWord_53 n) l0 l1 l2 l3 l5 g7) else (if (gI g7 l0 6) ≤ l3 then (f_X8_splitWord_106 (f_X8_splitWord_53 n) l0 l1 l2 l3 l5 g7) else (bd (f_X8_signAt l0 l3 g7) (fun v15 g16 => if v15 = v6 then (f_X8_splitWord_107 (f_X8_splitWord_53 n) l0 l1 l2 l3 l5 (1 : Int32) g16) else (f_X8_splitWord_106 (f_X8_splitWord_53 n) l0 l1 l2 l3 l5 g16))))))))
def f_X8_splitWord_43 (l0 : Nat) (l1 : Int32) (g : G) : Option (Int32 × G) :=
  f_X8_splitWord_53 FU l0 l1 (0 : Int32) l1 (1 : Int32) (0 : Int32) g
def f_X8_splitWord_5 : Nat → Nat → Int32 → G → Option (Int32 × G)
  | 0, _, _, _ => none
  | n + 1, l0, l1, g =>
  if (gI g l0 5) ≤ (gI g l0 6) then (f_X8_splitWord_43 l0 l1 g) else (bd (f_X8_signAt l0 (gI g l0 6) g) (fun v2 g3 => bd (f_X8_isLetter v2 g3) (fun v6 g7 => if (b2i v6) = 0 then (f_X8_splitWord_43 l0 l1 g7) else (lg (sI g7 l0 6 ((gI g7 l0 6) + (1 : Int32))) (fun g11 => f_X8_splitWord_5 n l0 l1 g11)))))
def f_X8_splitWord (l0 : Nat) (g : G) : Option (Int32 × G) :=
  li (gI g l0 6) (fun y1 => f_X8_splitWord_5 FU l0 y1 g)
def f_X8_isDigit (l0 : Int32) (g : G) : Option (Bool × G) :=
  if l0 < (48 : Int32) then (some (false, g)) else (if (57 : Int32) < l0 then (some (false, g)) else (some (true, g)))
def f_X8_splitNumber_2 : Nat → Nat → Int32 → G → Option (Int32 × G)
  | 0, _, _, _ => none
  | n + 1, l0, l1, g =>
  if (gI g l0 5) ≤ (gI g l0 6) then (some (l1, g)) else (bd (f_X8_signAt l0 (gI g l0 6) g) (fun v2 g3 => bd (f_X8_isDigit v2 g3) (fun v6 g7 => if (b2i v6) = 0 then (some (l1, g7)) else (bd (f_X8_signAt l0 (gI g7 l0 6) g7) (fun v11 g12 => li (((((10 : Int32) * l1) + v11) - (48 : Int32)) - ((((10 : Int32) * l1) + v11) - (48 : Int32)) / (1000 : Int32) * (1000 : Int32)) (fun y15 => lg (sI g12 l0 6 ((gI g12 l0 6) + (1 : Int32))) (fun g17 => f_X8_splitNumber_2 n l0 y15 g17)))))))
def f_X8_splitNumber (l0 : Nat) (g : G) : Option (Int32 × G) :=
  f_X8_splitNumber_2 FU l0 (0 : Int32) g
def f_J1_canEncode_9a6ad (l0 : Int32) (g : G) : Option (Bool × G) :=
  if l0 < 0 then (some (false, g)) else (if (255 : Int32) < l0 then (some (false, g)) else (some (true, g)))
def f_J1_indexOfChar_4cfef_7 : Nat → Nat → Int32 → Int32 → Int32 → G → Option (Int32 × G)
  | 0, _, _, _, _, _ => none
  | n + 1, l0, l3, l4, l5, g =>
  if l3 ≤ l5 then (some ((-1 : Int32), g)) else (gdI l5 (jlen l0) (if (jbyt l0 l5.toNatClampNeg) = l4 then (some (l5, g)) else (f_J1_indexOfChar_4cfef_7 n l0 l3 l4 (l5 + (1 : Int32)) g)))
def f_J1_indexOfChar_4cfef (l0 : Nat) (l1 : Int32) (l2 : Int32) (l3 : Int32) (g : G) : Option (Int32 × G) :=
  li (l1.toInt8.toInt32) (fun y1 => f_J1_indexOfChar_4cfef_7 FU l0 l3 y1 l2 g)
def f_J1_indexOf_4cfef (l0 : Nat) (l1 : Int32) (l2 : Int32) (l3 : Int32) (g : G) : Option (Int32 × G) :=
  bd (f_J1_canEncode_9a6ad l1 g) (fun v1 g2 => if (b2i v1) = 0 then (some ((-1 : Int32), g2)) else (bd (f_J9_max_7cf53 l2 (0 : Int32) g2) (fun v6 g7 => bd (f_J9_min_7cf53 l3 (nI (jlen l0)) g7) (fun v10 g11 => if v6 < v10 then (bd (f_J1_indexOfChar_4cfef l0 l1 v6 v10 g11) (fun v15 g16 => some (v15, g16))) else (some ((-1 : Int32), g11))))))
def f_J0_indexOf_7cf53 (l0 : Nat) (l1 : Int32) (l2 : Int32) (g : G) : Option (Int32 × G) :=
  bd (f_J0_isLatin1_aae02 l0 g) (fun v1 g2 => if (b2i v1) = 0 then (none) else (bd (f_J0_length_8abf5 l0 g2) (fun v6 g7 => bd (f_J1_indexOf_4cfef l0 l1 l2 v6 g7) (fun v10 g11 => some (v10, g11)))))
def f_J0_indexOf_0f7a4 (l0 : Nat) (l1 : Int32) (g : G) : Option (Int32 × G) :=
  bd (f_J0_indexOf_7cf53 l0 l1 (0 : Int32) g) (fun v1 g2 => some (v1, g2))
def f_X8_splitToken (l0 : Nat) (l1 : Int32) (g : G) : Option (Int32 × G) :=
  bd (f_X8_signAt l0 (gI g l0 6) g) (fun v1 g2 => if (gI g2 l0 6) < (gI g2 l0 5) then (bd (f_X8_isLetter v1 g2) (fun v6 g7 => if (b2i v6) = 0 then (bd (f_X8_isDigit v1 g7) (fun v11 g12 => if (b2i v11) = 0 then (lg (sI g12 l0 6 ((gI g12 l0 6) + (1 : Int32))) (fun g16 => if v1 ≤ 0 then (some ((1 : Int32), g16)) else (bd (f_J0_indexOf_0f7a4 1 ((v1.toUInt32 % 65536).toInt32) g16) (fun v19 g20 => if v19 < 0 then (some ((1 : Int32), g20)) else (some (v1, g20)))))) else (li (gI g12 l0 6) (fun y24 => dr (gR g12 l0 9) (fun b26 => bd (f_X8_splitNumber l0 g12) (fun v28 g29 => gdK g29 b26 14 (gdI l1 (gN g29 b26) (lg (sI g29 b26 l1.toNatClampNeg v28) (fun g34 => if (gI g34 l0 6) ≤ (y24 + (3 : Int32)) then (some ((3 : Int32), g34)) else (some ((1 : Int32), g34))))))))))) else (dr (gR g7 l0 9) (fun b37 => bd (f_X8_splitWord l0 g7) (fun v39 g40 => gdK g40 b37 14 (gdI l1 (gN g40 b37) (lg (sI g40 b37 l1.toNatClampNeg v39) (fun g45 => some ((2 : Int32), g45))))))))) else (some ((0 : Int32), g2)))
def f_X8_splitText_14 : Nat → Nat → Int32 → Int32 → G → Option (Unit × G)
  | 0, _, _, _, _ => none
  | n + 1, l0, l1, l2, g =>
  if (900 : Int32) < l2 then (some ((), g)) else (if l1 = 0 then (some ((), g)) else (if l1 = (1 : Int32) then (some ((), g)) else (bd (f_X8_skipBlanks l0 g) (fun v4 g5 => dr (gR g5 l0 8) (fun b8 => gdK g5 b8 14 (gdI l2 (gN g5 b8) (lg (sI g5 b8 l2.toNatClampNeg (gI g5 l0 6)) (fun g12 => bd (f_X8_splitToken l0 l2 g12) (fun v14 g15 => dr (gR g15 l0 7) (fun b18 => gdK g15 b18 14 (gdI l2 (gN g15 b18) (lg (sI g15 b18 l2.toNatClampNeg v14) (fun g22 => lg (sI g22 l0 10 (l2 + (1 : Int32))) (fun g24 => f_X8_splitText_14 n l0 v14 (l2 + (1 : Int32)) g24))))))))))))))
def f_X8_splitText (l0 : Nat) (g : G) : Option (Unit × G) :=
  lg (sI g l0 6 (0 : Int32)) (fun g1 => lg (sI g1 l0 10 (0 : Int32)) (fun g3 => f_X8_splitText_14 FU l0 (2 : Int32) (0 : Int32) g3))
def f_X8_takeNumber_29 (l0 : Nat) (g : G) : Option (Bool × G) :=
  bd (f_X8_refuse l0 (3 : Int32) g) (fun v1 g2 => some (v1, g2))
def f_X8_takeNumber (l0 : Nat) (l1 : Int32) (l2 : Int32) (g : G) : Option (Bool × G) :=
  if (gI g l0 12) = (3 : Int32) then (if (gI g l0 14) < l1 then (f_X8_takeNumber_29 l0 g) else (if (gI g l0 14) ≤ l2 then (lg (sI g l0 15 (gI g l0 14)) (fun g4 => bd (f_X8_look l0 g4) (fun v6 g7 => some (true, g7)))) else (f_X8_takeNumber_29 l0 g))) else (bd (f_X8_refuseToken l0 g) (fun v10 g11 => some (v10, g11)))
def f_X0_clearFor (l0 : Nat) (l1 : Nat) (g : G) : Option (Unit × G) :=
  lg (sR g l0 0 (some l1)) (fun g1 => lg (sL g1 l0 1 (0 : Int64)) (fun g3 => dr (gR g3 l0 2) (fun b5 => gdK g3 b5 14 (bd (f_J7_fill_53178 b5 (0 : Int32) g3) (fun v8 g9 => dr (gR g9 l0 3) (fun b12 => gdK g9 b12 14 (bd (f_J7_fill_53178 b12 (0 : Int32) g9) (fun v15 g16 => dr (gR g16 l0 4) (fun b19 => gdK g16 b19 14 (bd (f_J7_fill_53178 b19 (0 : Int32) g16) (fun v22 g23 => dr (gR g23 l0 5) (fun b26 => gdK g23 b26 14 (bd (f_J7_fill_53178 b26 (0 : Int32) g23) (fun v29 g30 => some ((), g30)))))))))))))))
def f_X8_fieldLine (l0 : Nat) (g : G) : Option (Bool × G) :=
  bd (f_X8_isWord l0 (8 : Int32) g) (fun v1 g2 => if (b2i v1) = 0 then (bd (f_X8_refuseToken l0 g2) (fun v49 g50 => some (v49, g50))) else (bd (f_X8_look l0 g2) (fun v6 g7 => bd (f_X8_takeNumber l0 (1 : Int32) (6 : Int32) g7) (fun v10 g11 => if (b2i v10) = 0 then (some (false, g11)) else (li (gI g11 l0 15) (fun y15 => bd (f_X8_takeNumber l0 (1 : Int32) (6 : Int32) g11) (fun v17 g18 => if (b2i v17) = 0 then (some (false, g18)) else (lg (nw g18 7 0 12) (fun g22 => ln (gn g18) (fun a24 => bd (f_X7_init a24 y15 (gI g22 l0 15) g22) (fun v27 g28 => lg (sR g28 l0 3 (some a24)) (fun g31 => dr (gR g31 l0 3) (fun b33 => gdK g31 b33 7 (lg (sI g31 b33 5 (1 : Int32)) (fun g36 => dr (gR g36 l0 0) (fun b38 => gdK g36 b38 0 (bd (f_X0_clearFor b38 b33 g36) (fun v41 g42 => bd (f_X8_take l0 (59 : Int32) g42) (fun v45 g46 => some (v45, g46))))))))))))))))))))
def f_X7_isCell (l0 : Nat) (l1 : Int32) (g : G) : Option (Bool × G) :=
  if l1 < 0 then (some (false, g)) else (if (gI g l0 2) ≤ l1 then (some (false, g)) else (if (36 : Int32) ≤ l1 then (some (false, g)) else (some (true, g))))
def f_X8_tell_71 (s0 : Int64) (s1 : Int64) (s2 : Nat) (g : G) : Option (Unit × G) :=
  lg (sL g s2 1 (s1 ||| s0)) (fun g1 => some ((), g1))
def f_X8_tell_40 (l0 : Nat) (l1 : Int32) (l3 : Int32) (s0 : Int32) (s1 : Int32) (s2 : Nat) (g : G) : Option (Unit × G) :=
  gdI s1 (gN g s2) (lg (sI g s2 s1.toNatClampNeg s0) (fun g2 => dr (gR g2 l0 0) (fun b4 => gdK g2 b4 0 (if l3 = 0 then (f_X8_tell_71 (0 : Int64) ((gL g2 b4 1) &&& (((1 : Int64) <<< (l1.toInt64 &&& 63)) ^^^ (-1 : Int64))) b4 g2) else (f_X8_tell_71 ((1 : Int64) <<< (l1.toInt64 &&& 63)) ((gL g2 b4 1) &&& (((1 : Int64) <<< (l1.toInt64 &&& 63)) ^^^ (-1 : Int64))) b4 g2)))))
def f_X8_tell_22 (l0 : Nat) (l1 : Int32) (l2 : Int32) (s0 : Int32) (g : G) : Option (Unit × G) :=
  dr (gR g l0 3) (fun b1 => gdK g b1 7 (dr (gR g b1 6) (fun b4 => if s0 = 0 then (gdK g b4 14 (f_X8_tell_40 l0 l1 s0 l2 l1 b4 g)) else (gdK g b4 14 (f_X8_tell_40 l0 l1 s0 (0 : Int32) l1 b4 g)))))
def f_X8_tell (l0 : Nat) (l1 : Int32) (l2 : Int32) (g : G) : Option (Unit × G) :=
  dr (gR g l0 3) (fun b1 => gdK g b1 7 (bd (f_X7_isCell b1 l1 g) (fun v4 g5 => if (b2i v4) = 0 then (some ((), g5)) else (if l2 = (9 : Int32) then (f_X8_tell_22 l0 l1 l2 (1 : Int32) g5) else (f_X8_tell_22 l0 l1 l2 (0 : Int32) g5)))))
def f_X8_rowLine_38 : Nat → Nat → Int32 → Int32 → G → Option (Bool × G)
  | 0, _, _, _, _ => none
  | n + 1, l0, l1, l2, g =>
  dr (gR g l0 3) (fun b1 => gdK g b1 7 (if (gI g b1 1) ≤ l2 then (some (true, g)) else (bd (f_X8_takeNumber l0 (0 : Int32) (9 : Int32) g) (fun v5 g6 => if (b2i v5) = 0 then (some (false, g6)) else (bd (f_X8_tell l0 (l1 + l2) (gI g6 l0 15) g6) (fun v10 g11 => f_X8_rowLine_38 n l0 l1 (l2 + (1 : Int32)) g11))))))
def f_X8_rowLine (l0 : Nat) (g : G) : Option (Bool × G) :=
  bd (f_X8_look l0 g) (fun v1 g2 => dr (gR g2 l0 3) (fun b5 => gdK g2 b5 7 (bd (f_X8_takeNumber l0 (0 : Int32) ((gI g2 b5 0) - (1 : Int32)) g2) (fun v8 g9 => if (b2i v8) = 0 then (some (false, g9)) else (dr (gR g9 l0 3) (fun b13 => gdK g9 b13 7 (li ((gI g9 l0 15) * (gI g9 b13 1)) (fun y16 => f_X8_rowLine_38 FU l0 y16 (0 : Int32) g9))))))))
def f_X8_endLine (l0 : Nat) (g : G) : Option (Bool × G) :=
  dr (gR g l0 3) (fun b1 => gdK g b1 7 (lg (sI g b1 5 ((gI g b1 5) + (1 : Int32))) (fun g4 => bd (f_X8_take l0 (59 : Int32) g4) (fun v6 g7 => some (v6, g7)))))
def f_X0_isPair (l0 : Nat) (l1 : Int32) (g : G) : Option (Bool × G) :=
  if l1 < 0 then (some (false, g)) else (dr (gR g l0 0) (fun b2 => gdK g b2 7 (if (gI g b2 4) ≤ l1 then (some (false, g)) else (if (3 : Int32) ≤ l1 then (some (false, g)) else (some (true, g))))))
def f_X0_freeFor_46 (k8 : Nat → Int32 → Int64 → Int32 → G → Option (Int64 × G)) (l0 : Nat) (l1 : Int32) (l2 : Int64) (l4 : Int32) (g : G) : Option (Int64 × G) :=
  k8 l0 l1 l2 (l4 + (1 : Int32)) g
def f_X0_freeFor_8 : Nat → Nat → Int32 → Int64 → Int32 → G → Option (Int64 × G)
  | 0, _, _, _, _, _ => none
  | n + 1, l0, l1, l2, l4, g =>
  if (6 : Int32) ≤ l4 then (dr (gR g l0 0) (fun b2 => gdK g b2 7 (some (((gL g b2 3) &&& (l2 ^^^ (-1 : Int64))), g)))) else (if (l4 / (2 : Int32)) = l1 then (f_X0_freeFor_46 (f_X0_freeFor_8 n) l0 l1 l2 l4 g) else (bd (f_X0_isPair l0 (l4 / (2 : Int32)) g) (fun v6 g7 => if (b2i v6) = 0 then (f_X0_freeFor_46 (f_X0_freeFor_8 n) l0 l1 l2 l4 g7) else (dr (gR g7 l0 2) (fun b11 => gdK g7 b11 14 (gdI l4 (gN g7 b11) (ll (l2 ||| ((1 : Int64) <<< ((gI g7 b11 l4.toNatClampNeg).toInt64 &&& 63))) (fun y15 => f_X0_freeFor_46 (f_X0_freeFor_8 n) l0 l1 y15 l4 g7))))))))
def f_X0_freeFor (l0 : Nat) (l1 : Int32) (g : G) : Option (Int64 × G) :=
  ll (gL g l0 1) (fun y1 => f_X0_freeFor_8 FU l0 l1 y1 (0 : Int32) g)
def f_X8_takeCell_35 (l0 : Nat) (g : G) : Option (Bool × G) :=
  bd (f_X8_refuse l0 (3 : Int32) g) (fun v1 g2 => some (v1, g2))
def f_X8_takeCell (l0 : Nat) (l1 : Int64) (g : G) : Option (Bool × G) :=
  if (gI g l0 12) = (3 : Int32) then (if (36 : Int32) ≤ (gI g l0 14) then (f_X8_takeCell_35 l0 g) else (if (lg_cmp (((l1.toUInt64 >>> ((gI g l0 14).toInt64.toUInt64 &&& Int64.toUInt64 63)).toInt64) &&& (1 : Int64)) (0 : Int64)) = 0 then (f_X8_takeCell_35 l0 g) else (lg (sI g l0 15 (gI g l0 14)) (fun g4 => bd (f_X8_look l0 g4) (fun v6 g7 => some (true, g7)))))) else (bd (f_X8_refuseToken l0 g) (fun v10 g11 => some (v10, g11)))
def f_X8_flag (l0 : Nat) (l1 : Int32) (g : G) : Option (Bool × G) :=
  bd (f_X8_isWord l0 (2 : Int32) g) (fun v1 g2 => li (b2i v1) (fun y5 => bd (f_X8_look l0 g2) (fun v7 g8 => if y5 = 0 then (dr (gR g8 l0 3) (fun b12 => gdK g8 b12 7 (bd (f_X8_takeCell l0 (gL g8 b12 3) g8) (fun v15 g16 => if (b2i v15) = 0 then (some (false, g16)) else (dr (gR g16 l0 3) (fun b20 => gdK g16 b20 7 (dr (gR g16 b20 9) (fun b23 => gdK g16 b23 14 (gdI ((2 : Int32) * l1) (gN g16 b23) (lg (sI g16 b23 ((2 : Int32) * l1).toNatClampNeg (gI g16 l0 15)) (fun g27 => bd (f_X8_takeCell l0 (gL g27 b20 3) g27) (fun v29 g30 => if (b2i v29) = 0 then (some (false, g30)) else (dr (gR g30 l0 3) (fun b34 => gdK g30 b34 7 (dr (gR g30 b34 9) (fun b37 => gdK g30 b37 14 (gdI (((2 : Int32) * l1) + (1 : Int32)) (gN g30 b37) (lg (sI g30 b37 (((2 : Int32) * l1) + (1 : Int32)).toNatClampNeg (gI g30 l0 15)) (fun g41 => some (true, g41)))))))))))))))))))) else (bd (f_X8_takeNumber l0 (0 : Int32) (9 : Int32) g8) (fun v43 g44 => if (b2i v43) = 0 then (some (false, g44)) else (dr (gR g44 l0 0) (fun b48 => gdK g44 b48 0 (dr (gR g44 b48 4) (fun b51 => gdK g44 b51 14 (gdI l1 (gN g44 b51) (lg (sI g44 b51 l1.toNatClampNeg (gI g44 l0 15)) (fun g55 => some (true, g55)))))))))))))
def f_X0_isFreeFor (l0 : Nat) (l1 : Int32) (l2 : Int32) (g : G) : Option (Bool × G) :=
  dr (gR g l0 0) (fun b1 => gdK g b1 7 (bd (f_X7_isCell b1 l2 g) (fun v4 g5 => if (b2i v4) = 0 then (some (false, g5)) else (bd (f_X0_freeFor l0 l1 g5) (fun v9 g10 => if (lg_cmp (((v9.toUInt64 >>> (l2.toInt64.toUInt64 &&& Int64.toUInt64 63)).toInt64) &&& (1 : Int64)) (0 : Int64)) = 0 then (some (false, g10)) else (some (true, g10)))))))
def f_J9_abs_0f7a4 (l0 : Int32) (g : G) : Option (Int32 × G) :=
  if 0 ≤ l0 then (some (l0, g)) else (some ((-l0), g))
def f_X7_apart (l0 : Nat) (l1 : Int32) (l2 : Int32) (g : G) : Option (Int32 × G) :=
  bd (f_X7_isCell l0 l1 g) (fun v1 g2 => if (b2i v1) = 0 then (some ((0 : Int32), g2)) else (bd (f_X7_isCell l0 l2 g2) (fun v6 g7 => if (b2i v6) = 0 then (some ((0 : Int32), g7)) else (dr (gR g7 l0 7) (fun b11 => gdK g7 b11 14 (gdI l1 (gN g7 b11) (gdI l2 (gN g7 b11) (bd (f_J9_abs_0f7a4 ((gI g7 b11 l1.toNatClampNeg) - (gI g7 b11 l2.toNatClampNeg)) g7) (fun v16 g17 => dr (gR g17 l0 8) (fun b20 => gdK g17 b20 14 (gdI l1 (gN g17 b20) (gdI l2 (gN g17 b20) (bd (f_J9_abs_0f7a4 ((gI g17 b20 l1.toNatClampNeg) - (gI g17 b20 l2.toNatClampNeg)) g17) (fun v25 g26 => some ((v16 + v25), g26)))))))))))))))
def f_X0_settle_53 (k2 : Nat → Int32 → Int32 → G → Option (Unit × G)) (l0 : Nat) (l1 : Int32) (l2 : Int32) (g : G) : Option (Unit × G) :=
  k2 l0 l1 (l2 + (1 : Int32)) g
def f_X0_settle_2 : Nat → Nat → Int32 → Int32 → G → Option (Unit × G)
  | 0, _, _, _, _ => none
  | n + 1, l0, l1, l2, g =>
  if (2 : Int32) ≤ l2 then (some ((), g)) else (bd (f_X0_isPair l0 l1 g) (fun v2 g3 => if (b2i v2) = 0 then (f_X0_settle_53 (f_X0_settle_2 n) l0 l1 l2 g3) else (dr (gR g3 l0 0) (fun b7 => gdK g3 b7 7 (dr (gR g3 b7 9) (fun b10 => gdK g3 b10 14 (gdI (((2 : Int32) * l1) + l2) (gN g3 b10) (dr (gR g3 l0 2) (fun b14 => gdK g3 b14 14 (gdI (((2 : Int32) * l1) + l2) (gN g3 b14) (if (gI g3 b10 (((2 : Int32) * l1) + l2).toNatClampNeg) = (gI g3 b14 (((2 : Int32) * l1) + l2).toNatClampNeg) then (dr (gR g3 l0 5) (fun b19 => gdK g3 b19 14 (gdI l1 (gN g3 b19) (lg (sI g3 b19 l1.toNatClampNeg ((gI g3 b19 l1.toNatClampNeg) ||| ((1 : Int32) <<< (l2 &&& 31)))) (fun g23 => f_X0_settle_53 (f_X0_settle_2 n) l0 l1 l2 g23))))) else (f_X0_settle_53 (f_X0_settle_2 n) l0 l1 l2 g3))))))))))))
def f_X0_settle (l0 : Nat) (l1 : Int32) (g : G) : Option (Unit × G) :=
  f_X0_settle_2 FU l0 l1 (0 : Int32) g
def f_X0_go (l0 : Nat) (l1 : Int32) (l2 : Int32) (g : G) : Option (Unit × G) :=
  bd (f_X0_isPair l0 l1 g) (fun v1 g2 => if (b2i v1) = 0 then (some ((), g2)) else (dr (gR g2 l0 2) (fun b6 => gdK g2 b6 14 (gdI ((2 : Int32) * l1) (gN g2 b6) (lg (sI g2 b6 ((2 : Int32) * l1).toNatClampNeg (l2 / (64 : Int32))) (fun g10 => gdI (((2 : Int32) * l1) + (1 : Int32)) (gN g10 b6) (lg (sI g10 b6 (((2 : Int32) * l1) + (1 : Int32)).toNatClampNeg (l2 - l2 / (64 : Int32) * (64 : Int32))) (fun g13 => bd (f_X0_settle l0 l1 g13) (fun v15 g16 => some ((), g16))))))))))
def f_X0_place (l0 : Nat) (l1 : Int32) (l2 : Int32) (l3 : Int32) (g : G) : Option (Int32 × G) :=
  bd (f_X0_isPair l0 l1 g) (fun v1 g2 => if (b2i v1) = 0 then (some ((-1 : Int32), g2)) else (dr (gR g2 l0 0) (fun b6 => gdK g2 b6 7 (bd (f_X7_isCell b6 l2 g2) (fun v9 g10 => if (b2i v9) = 0 then (some ((-1 : Int32), g10)) else (dr (gR g10 l0 0) (fun b14 => gdK g10 b14 7 (bd (f_X7_isCell b14 l3 g10) (fun v17 g18 => if (b2i v17) = 0 then (some ((-1 : Int32), g18)) else (bd (f_X0_isFreeFor l0 l1 l2 g18) (fun v22 g23 => if (b2i v22) = 0 then (some ((-2 : Int32), g23)) else (bd (f_X0_isFreeFor l0 l1 l3 g23) (fun v27 g28 => if (b2i v27) = 0 then (some ((-2 : Int32), g28)) else (dr (gR g28 l0 3) (fun b32 => dr (gR g28 l0 0) (fun b34 => gdK g28 b34 7 (bd (f_X7_apart b34 l2 l3 g28) (fun v37 g38 => gdK g38 b32 14 (gdI l1 (gN g38 b32) (lg (sI g38 b32 l1.toNatClampNeg v37) (fun g43 => dr (gR g43 l0 5) (fun b45 => gdK g43 b45 14 (gdI l1 (gN g43 b45) (lg (sI g43 b45 l1.toNatClampNeg (0 : Int32)) (fun g49 => bd (f_X0_go l0 l1 ((l2 * (64 : Int32)) + l3) g49) (fun v51 g52 => dr (gR g52 l0 3) (fun b55 => gdK g52 b55 14 (gdI l1 (gN g52 b55) (some ((gI g52 b55 l1.toNatClampNeg), g52))))))))))))))))))))))))))))))
def f_X8_pairLine_92 (k67 : Nat → Int32 → Int32 → Int32 → Int32 → G → Option (Bool × G)) (l0 : Nat) (l1 : Int32) (l4 : Int32) (l5 : Int32) (l6 : Int32) (g : G) : Option (Bool × G) :=
  bd (f_X8_flag l0 l1 g) (fun v1 g2 => if (b2i v1) = 0 then (some (false, g2)) else (k67 l0 l1 l4 l5 (l6 + (1 : Int32)) g2))
def f_X8_pairLine_108 (l0 : Nat) (l1 : Int32) (l4 : Int32) (l5 : Int32) (g : G) : Option (Bool × G) :=
  dr (gR g l0 3) (fun b1 => gdK g b1 7 (lg (sI g b1 4 (l1 + (1 : Int32))) (fun g4 => dr (gR g4 l0 0) (fun b6 => gdK g4 b6 0 (bd (f_X0_place b6 l1 l4 l5 g4) (fun v9 g10 => some (true, g10)))))))
def f_X8_pairLine_67 : Nat → Nat → Int32 → Int32 → Int32 → Int32 → G → Option (Bool × G)
  | 0, _, _, _, _, _, _ => none
  | n + 1, l0, l1, l4, l5, l6, g =>
  if (900 : Int32) ≤ l6 then (f_X8_pairLine_108 l0 l1 l4 l5 g) else (bd (f_X8_isWord l0 (11 : Int32) g) (fun v2 g3 => if (b2i v2) = 0 then (bd (f_X8_isWord l0 (2 : Int32) g3) (fun v7 g8 => if (b2i v7) = 0 then (f_X8_pairLine_108 l0 l1 l4 l5 g8) else (f_X8_pairLine_92 (f_X8_pairLine_67 n) l0 l1 l4 l5 l6 g8))) else (f_X8_pairLine_92 (f_X8_pairLine_67 n) l0 l1 l4 l5 l6 g3)))
def f_X8_pairLine (l0 : Nat) (g : G) : Option (Bool × G) :=
  dr (gR g l0 3) (fun b1 => gdK g b1 7 (li (gI g b1 4) (fun y4 => if y4 < (3 : Int32) then (bd (f_X8_look l0 g) (fun v7 g8 => dr (gR g8 l0 0) (fun b11 => gdK g8 b11 0 (bd (f_X0_freeFor b11 y4 g8) (fun v14 g15 => bd (f_X8_takeCell l0 v14 g15) (fun v18 g19 => if (b2i v18) = 0 then (some (false, g19)) else (li (gI g19 l0 15) (fun y23 => bd (f_X8_takeCell l0 v14 g19) (fun v25 g26 => if (b2i v25) = 0 then (some (false, g26)) else (li (gI g26 l0 15) (fun y30 => f_X8_pairLine_67 FU l0 y4 y23 y30 (0 : Int32) g26))))))))))) else (bd (f_X8_refuse l0 (4 : Int32) g) (fun v32 g33 => some (v32, g33))))))
def f_J7_copyOf_59c91 (l0 : Nat) (l1 : Int32) (g : G) : Option (Nat × G) :=
  if l1 = (nI (gN g l0)) then (none) else (gdA l1 (lg (nw g 14 l1.toNatClampNeg l1.toNatClampNeg) (fun g3 => ln (gn g) (fun a5 => bd (f_J9_min_7cf53 (nI (gN g3 l0)) l1 g3) (fun v8 g9 => gdC (0 : Int32) (0 : Int32) v8 (gN g9 l0) (gN g9 a5) (lg (rI g9 a5 (va_cpy (gI g9 l0) (gI g9 a5) (0 : Int32).toNatClampNeg (0 : Int32).toNatClampNeg v8.toNatClampNeg)) (fun g13 => some (a5, g13))))))))
def f_X8_lawLine_43 (l0 : Nat) (l1 : Int32) (g : G) : Option (Bool × G) :=
  dr (gR g l0 16) (fun b1 => gdK g b1 14 (bd (f_J7_copyOf_59c91 b1 (gI g l0 17) g) (fun v4 g5 => if l1 = 0 then (dr (gR g5 l0 3) (fun b9 => gdK g5 b9 7 (lg (sR g5 b9 11 (some v4)) (fun g12 => some (true, g12))))) else (dr (gR g5 l0 3) (fun b14 => gdK g5 b14 7 (lg (sR g5 b14 10 (some v4)) (fun g17 => some (true, g17))))))))
def f_X8_lawLine (l0 : Nat) (l1 : Int32) (g : G) : Option (Bool × G) :=
  bd (f_X8_look l0 g) (fun v1 g2 => lg (sI g2 l0 17 (0 : Int32)) (fun g5 => bd (f_X8_take l0 (58 : Int32) g5) (fun v7 g8 => if (b2i v7) = 0 then (some (false, g8)) else (if l1 = 0 then (bd (f_X8_sum_T l0 (0 : Int32) g8) (fun v13 g14 => if (b2i v13) = 0 then (some (false, g14)) else (f_X8_lawLine_43 l0 l1 g14))) else (bd (f_X8_truth_T l0 (0 : Int32) g8) (fun v18 g19 => if (b2i v18) = 0 then (some (false, g19)) else (f_X8_lawLine_43 l0 l1 g19)))))))
def f_X8_line_100 (l0 : Nat) (s0 : Int32) (s1 : Nat) (g : G) : Option (Bool × G) :=
  bd (f_X8_lawLine s1 s0 g) (fun v1 g2 => if (b2i v1) = 0 then (some (false, g2)) else (bd (f_X8_endLine l0 g2) (fun v6 g7 => if (b2i v6) = 0 then (some (false, g7)) else (some (true, g7)))))
def f_X8_line_85 (l0 : Nat) (g : G) : Option (Bool × G) :=
  if (gI g l0 14) = (9 : Int32) then (f_X8_line_100 l0 (1 : Int32) l0 g) else (f_X8_line_100 l0 (0 : Int32) l0 g)
def f_X8_line_39 (l0 : Nat) (g : G) : Option (Bool × G) :=
  bd (f_X8_isWord l0 (0 : Int32) g) (fun v1 g2 => if (b2i v1) = 0 then (bd (f_X8_isWord l0 (9 : Int32) g2) (fun v6 g7 => if (b2i v6) = 0 then (bd (f_X8_isWord l0 (10 : Int32) g7) (fun v11 g12 => if (b2i v11) = 0 then (bd (f_X8_refuseToken l0 g12) (fun v16 g17 => some (v16, g17))) else (f_X8_line_85 l0 g12))) else (f_X8_line_85 l0 g7))) else (bd (f_X8_pairLine l0 g2) (fun v20 g21 => if (b2i v20) = 0 then (some (false, g21)) else (bd (f_X8_endLine l0 g21) (fun v25 g26 => if (b2i v25) = 0 then (some (false, g26)) else (some (true, g26)))))))
def f_X8_line (l0 : Nat) (g : G) : Option (Bool × G) :=
  bd (f_X8_isWord l0 (6 : Int32) g) (fun v1 g2 => if (b2i v1) = 0 then (f_X8_line_39 l0 g2) else (dr (gR g2 l0 3) (fun b6 => gdK g2 b6 7 (if (gI g2 b6 4) = 0 then (bd (f_X8_rowLine l0 g2) (fun v10 g11 => if (b2i v10) = 0 then (some (false, g11)) else (bd (f_X8_endLine l0 g11) (fun v15 g16 => if (b2i v15) = 0 then (some (false, g16)) else (some (true, g16)))))) else (f_X8_line_39 l0 g2)))))
def f_X8_reads_53 : Nat → Nat → Int32 → G → Option (Bool × G)
  | 0, _, _, _ => none
  | n + 1, l0, l3, g =>
  if (900 : Int32) ≤ l3 then (some (true, g)) else (if (gI g l0 12) = 0 then (some (true, g)) else (bd (f_X8_line l0 g) (fun v3 g4 => if (b2i v3) = 0 then (some (false, g4)) else (f_X8_reads_53 n l0 (l3 + (1 : Int32)) g4))))
def f_X8_reads (l0 : Nat) (l1 : Nat) (l2 : Int32) (g : G) : Option (Bool × G) :=
  lg (sR g l0 4 (some l1)) (fun g1 => bd (f_J9_min_7cf53 l2 (nI (gN g1 l1)) g1) (fun v3 g4 => bd (f_J9_max_7cf53 (0 : Int32) v3 g4) (fun v7 g8 => lg (sI g8 l0 5 v7) (fun g11 => lg (sI g11 l0 1 (0 : Int32)) (fun g13 => lg (sI g13 l0 2 (-1 : Int32)) (fun g15 => bd (f_X8_splitText l0 g15) (fun v17 g18 => lg (sI g18 l0 11 (-1 : Int32)) (fun g21 => bd (f_X8_look l0 g21) (fun v23 g24 => bd (f_X8_fieldLine l0 g24) (fun v27 g28 => if (b2i v27) = 0 then (some (false, g28)) else (f_X8_reads_53 FU l0 (0 : Int32) g28)))))))))))
def f_X0_copyFrom (l0 : Nat) (l1 : Nat) (g : G) : Option (Unit × G) :=
  dr (gR g l1 0) (fun b1 => lg (sR g l0 0 (some b1)) (fun g3 => lg (sL g3 l0 1 (gL g3 l1 1)) (fun g5 => dr (gR g5 l1 2) (fun b7 => dr (gR g5 l0 2) (fun b9 => gdK g5 b7 14 (gdK g5 b9 14 (gdC (0 : Int32) (0 : Int32) (6 : Int32) (gN g5 b7) (gN g5 b9) (lg (rI g5 b9 (va_cpy (gI g5 b7) (gI g5 b9) (0 : Int32).toNatClampNeg (0 : Int32).toNatClampNeg (6 : Int32).toNatClampNeg)) (fun g14 => dr (gR g14 l1 3) (fun b16 => dr (gR g14 l0 3) (fun b18 => gdK g14 b16 14 (gdK g14 b18 14 (gdC (0 : Int32) (0 : Int32) (3 : Int32) (gN g14 b16) (gN g14 b18) (lg (rI g14 b18 (va_cpy (gI g14 b16) (gI g14 b18) (0 : Int32).toNatClampNeg (0 : Int32).toNatClampNeg (3 : Int32).toNatClampNeg)) (fun g23 => dr (gR g23 l1 4) (fun b25 => dr (gR g23 l0 4) (fun b27 => gdK g23 b25 14 (gdK g23 b27 14 (gdC (0 : Int32) (0 : Int32) (3 : Int32) (gN g23 b25) (gN g23 b27) (lg (rI g23 b27 (va_cpy (gI g23 b25) (gI g23 b27) (0 : Int32).toNatClampNeg (0 : Int32).toNatClampNeg (3 : Int32).toNatClampNeg)) (fun g32 => dr (gR g32 l1 5) (fun b34 => dr (gR g32 l0 5) (fun b36 => gdK g32 b34 14 (gdK g32 b36 14 (gdC (0 : Int32) (0 : Int32) (3 : Int32) (gN g32 b34) (gN g32 b36) (lg (rI g32 b36 (va_cpy (gI g32 b34) (gI g32 b36) (0 : Int32).toNatClampNeg (0 : Int32).toNatClampNeg (3 : Int32).toNatClampNeg)) (fun g41 => some ((), g41))))))))))))))))))))))))))))
def f_X5_forget (l0 : Nat) (g : G) : Option (Unit × G) :=
  lg (sI g l0 0 (0 : Int32)) (fun g1 => lg (sI g1 l0 1 (0 : Int32)) (fun g3 => some ((), g3)))
def f_X11_forgetWays (l0 : Nat) (g : G) : Option (Unit × G) :=
  lg (sI g l0 10 (-1 : Int32)) (fun g1 => dr (gR g1 l0 11) (fun b3 => gdK g1 b3 1 (lg (sI g1 b3 0 (0 : Int32)) (fun g6 => dr (gR g6 l0 13) (fun b8 => gdK g6 b8 3 (lg (sI g6 b8 0 (0 : Int32)) (fun g11 => some ((), g11))))))))
def f_X11_field (l0 : Nat) (l1 : Int32) (g : G) : Option (Int32 × G) :=
  if l1 < 0 then (some ((-3 : Int32), g)) else (if l1 ≤ (gI g l0 1) then (lg (sI g l0 1 (0 : Int32)) (fun g3 => dr (gR g3 l0 6) (fun b5 => dr (gR g3 l0 0) (fun b7 => gdK g3 b5 8 (gdK g3 b7 13 (bd (f_X8_reads b5 b7 l1 g3) (fun v11 g12 => li (b2i v11) (fun y15 => dr (gR g12 l0 6) (fun b17 => gdK g12 b17 8 (lg (sI g12 l0 2 (gI g12 b17 1)) (fun g20 => lg (sI g20 l0 3 (gI g20 b17 2)) (fun g22 => if y15 = 0 then (some (((-30 : Int32) - (gI g22 l0 2)), g22)) else (dr (gR g22 l0 4) (fun b25 => dr (gR g22 b17 0) (fun b27 => gdK g22 b25 0 (gdK g22 b27 0 (bd (f_X0_copyFrom b25 b27 g22) (fun v31 g32 => dr (gR g32 l0 15) (fun b35 => gdK g32 b35 5 (bd (f_X5_forget b35 g32) (fun v38 g39 => bd (f_X11_forgetWays l0 g39) (fun v42 g43 => dr (gR g43 l0 4) (fun b46 => gdK g43 b46 0 (dr (gR g43 b46 0) (fun b49 => gdK g43 b49 7 (some ((gI g43 b49 5), g43))))))))))))))))))))))))))) else (some ((-3 : Int32), g)))
def f_X12_within (l0 : Int64) (l2 : Int64) (l4 : Int64) (g : G) : Option (Bool × G) :=
  if (lg_cmp l0 l2) < 0 then (some (false, g)) else (if 0 < (lg_cmp l0 l4) then (some (false, g)) else (some (true, g)))
def f_X12_takes_37 (l0 : Nat) (g : G) : Option (Int32 × G) :=
  li (gI g l0 10) (fun y1 => if (gI g l0 11) = 0 then (bd (f_X12_next l0 g) (fun v4 g5 => some (y1, g5))) else (some (y1, g)))
def f_X12_takes (l0 : Nat) (l1 : Int32) (l2 : Int32) (g : G) : Option (Int32 × G) :=
  bd (f_X12_is l0 (23 : Int32) g) (fun v1 g2 => if (b2i v1) = 0 then (bd (f_X12_fails l0 (2 : Int32) g2) (fun v15 g16 => f_X12_takes_37 l0 g16)) else (bd (f_X12_within ((gI g2 l0 10).toInt64) (l1.toInt64) (l2.toInt64) g2) (fun v6 g7 => if (b2i v6) = 0 then (bd (f_X12_fails l0 (3 : Int32) g7) (fun v11 g12 => f_X12_takes_37 l0 g12)) else (f_X12_takes_37 l0 g7))))
def f_X12_ends_14 (l0 : Nat) (g : G) : Option (Unit × G) :=
  dr (gR g l0 4) (fun b1 => gdK g b1 14 (gdI (0 : Int32) (gN g b1) (lg (sI g b1 (0 : Int32).toNatClampNeg ((gI g b1 (0 : Int32).toNatClampNeg) + (1 : Int32))) (fun g5 => some ((), g5)))))
def f_X12_ends (l0 : Nat) (g : G) : Option (Unit × G) :=
  bd (f_X12_eats l0 (30 : Int32) g) (fun v1 g2 => if (b2i v1) = 0 then (bd (f_X12_fails l0 (2 : Int32) g2) (fun v6 g7 => f_X12_ends_14 l0 g7)) else (f_X12_ends_14 l0 g2))
def f_X12_readRow_42 : Nat → Nat → Int32 → Int32 → G → Option (Unit × G)
  | 0, _, _, _, _ => none
  | n + 1, l0, l1, l2, g =>
  dr (gR g l0 4) (fun b1 => gdK g b1 14 (gdI (2 : Int32) (gN g b1) (if (gI g b1 (2 : Int32).toNatClampNeg) ≤ l2 then (some ((), g)) else (if (gI g l0 11) = 0 then (bd (f_X12_takes l0 (0 : Int32) (9 : Int32) g) (fun v7 g8 => gdI (((10 : Int32) + ((gI g b1 (2 : Int32).toNatClampNeg) * l1)) + l2) (gN g8 b1) (lg (sI g8 b1 (((10 : Int32) + ((gI g b1 (2 : Int32).toNatClampNeg) * l1)) + l2).toNatClampNeg v7) (fun g12 => f_X12_readRow_42 n l0 l1 (l2 + (1 : Int32)) g12)))) else (some ((), g))))))
def f_X12_readRow_14 (l0 : Nat) (g : G) : Option (Unit × G) :=
  if (gI g l0 11) = 0 then (bd (f_X12_next l0 g) (fun v2 g3 => dr (gR g3 l0 4) (fun b6 => gdK g3 b6 14 (gdI (1 : Int32) (gN g3 b6) (bd (f_X12_takes l0 (0 : Int32) ((gI g3 b6 (1 : Int32).toNatClampNeg) - (1 : Int32)) g3) (fun v10 g11 => f_X12_readRow_42 FU l0 v10 (0 : Int32) g11)))))) else (some ((), g))
def f_X12_readRow (l0 : Nat) (g : G) : Option (Unit × G) :=
  dr (gR g l0 4) (fun b1 => gdK g b1 14 (gdI (3 : Int32) (gN g b1) (if (gI g b1 (3 : Int32).toNatClampNeg) ≤ 0 then (f_X12_readRow_14 l0 g) else (bd (f_X12_fails l0 (2 : Int32) g) (fun v6 g7 => f_X12_readRow_14 l0 g7)))))
def f_X12_isTaken_18 : Nat → Nat → Int32 → Int32 → G → Option (Bool × G)
  | 0, _, _, _, _ => none
  | n + 1, l0, l1, l2, g =>
  dr (gR g l0 4) (fun b1 => gdK g b1 14 (gdI (3 : Int32) (gN g b1) (if ((2 : Int32) * (gI g b1 (3 : Int32).toNatClampNeg)) ≤ l2 then (some (false, g)) else (gdI ((88 : Int32) + l2) (gN g b1) (if (gI g b1 ((88 : Int32) + l2).toNatClampNeg) = l1 then (some (true, g)) else (f_X12_isTaken_18 n l0 l1 (l2 + (1 : Int32)) g))))))
def f_X12_isTaken (l0 : Nat) (l1 : Int32) (g : G) : Option (Bool × G) :=
  dr (gR g l0 4) (fun b1 => gdK g b1 14 (gdI ((10 : Int32) + l1) (gN g b1) (if (gI g b1 ((10 : Int32) + l1).toNatClampNeg) = (9 : Int32) then (some (true, g)) else (f_X12_isTaken_18 FU l0 l1 (0 : Int32) g))))
def f_X12_readPlace_49 (l0 : Nat) (g : G) : Option (Int32 × G) :=
  dr (gR g l0 4) (fun b1 => gdK g b1 14 (gdI (1 : Int32) (gN g b1) (gdI (2 : Int32) (gN g b1) (bd (f_X12_takes l0 (0 : Int32) (((gI g b1 (1 : Int32).toNatClampNeg) * (gI g b1 (2 : Int32).toNatClampNeg)) - (1 : Int32)) g) (fun v6 g7 => some (v6, g7))))))
def f_X12_readPlace (l0 : Nat) (l1 : Int32) (g : G) : Option (Int32 × G) :=
  if l1 = 0 then (f_X12_readPlace_49 l0 g) else (bd (f_X12_is l0 (23 : Int32) g) (fun v2 g3 => if (b2i v2) = 0 then (f_X12_readPlace_49 l0 g3) else (dr (gR g3 l0 4) (fun b7 => gdK g3 b7 14 (gdI (1 : Int32) (gN g3 b7) (gdI (2 : Int32) (gN g3 b7) (if ((gI g3 b7 (1 : Int32).toNatClampNeg) * (gI g3 b7 (2 : Int32).toNatClampNeg)) ≤ (gI g3 l0 10) then (f_X12_readPlace_49 l0 g3) else (bd (f_X12_isTaken l0 (gI g3 l0 10) g3) (fun v13 g14 => if (b2i v13) = 0 then (f_X12_readPlace_49 l0 g14) else (bd (f_X12_fails l0 (3 : Int32) g14) (fun v18 g19 => f_X12_readPlace_49 l0 g19)))))))))))
def f_X12_readFlag_74 (l0 : Nat) (g : G) : Option (Bool × G) :=
  if (gI g l0 11) = 0 then (some (true, g)) else (some (false, g))
def f_X12_readFlag (l0 : Nat) (l1 : Int32) (g : G) : Option (Bool × G) :=
  bd (f_X12_eats l0 (4 : Int32) g) (fun v1 g2 => if (b2i v1) = 0 then (bd (f_X12_eats l0 (3 : Int32) g2) (fun v6 g7 => if (b2i v6) = 0 then (some (false, g7)) else (dr (gR g7 l0 4) (fun b11 => bd (f_X12_readPlace l0 (0 : Int32) g7) (fun v13 g14 => gdK g14 b11 14 (gdI ((46 : Int32) + ((2 : Int32) * l1)) (gN g14 b11) (lg (sI g14 b11 ((46 : Int32) + ((2 : Int32) * l1)).toNatClampNeg v13) (fun g19 => dr (gR g19 l0 4) (fun b21 => bd (f_X12_readPlace l0 (0 : Int32) g19) (fun v23 g24 => gdK g24 b21 14 (gdI (((46 : Int32) + ((2 : Int32) * l1)) + (1 : Int32)) (gN g24 b21) (lg (sI g24 b21 (((46 : Int32) + ((2 : Int32) * l1)) + (1 : Int32)).toNatClampNeg v23) (fun g29 => f_X12_readFlag_74 l0 g29))))))))))))) else (dr (gR g2 l0 4) (fun b31 => bd (f_X12_takes l0 (0 : Int32) (9 : Int32) g2) (fun v33 g34 => gdK g34 b31 14 (gdI ((97 : Int32) + l1) (gN g34 b31) (lg (sI g34 b31 ((97 : Int32) + l1).toNatClampNeg v33) (fun g39 => f_X12_readFlag_74 l0 g39)))))))
def f_X12_readPair_59 (l0 : Nat) (l1 : Int32) (l2 : Int32) (l3 : Int32) (g : G) : Option (Unit × G) :=
  if (gI g l0 11) = 0 then (dr (gR g l0 4) (fun b2 => gdK g b2 14 (gdI ((88 : Int32) + ((2 : Int32) * l1)) (gN g b2) (lg (sI g b2 ((88 : Int32) + ((2 : Int32) * l1)).toNatClampNeg l2) (fun g6 => gdI (((88 : Int32) + ((2 : Int32) * l1)) + (1 : Int32)) (gN g6 b2) (lg (sI g6 b2 (((88 : Int32) + ((2 : Int32) * l1)) + (1 : Int32)).toNatClampNeg l3) (fun g9 => gdI (3 : Int32) (gN g9 b2) (lg (sI g9 b2 (3 : Int32).toNatClampNeg ((gI g9 b2 (3 : Int32).toNatClampNeg) + (1 : Int32))) (fun g12 => some ((), g12)))))))))) else (some ((), g))
def f_X12_readPair_41 : Nat → Nat → Int32 → Int32 → Int32 → G → Option (Unit × G)
  | 0, _, _, _, _, _ => none
  | n + 1, l0, l1, l2, l3, g =>
  if (gI g l0 11) = 0 then (bd (f_X12_readFlag l0 l1 g) (fun v2 g3 => if (b2i v2) = 0 then (f_X12_readPair_59 l0 l1 l2 l3 g3) else (f_X12_readPair_41 n l0 l1 l2 l3 g3))) else (f_X12_readPair_59 l0 l1 l2 l3 g)
def f_X12_readPair_17 (l0 : Nat) (l1 : Int32) (g : G) : Option (Unit × G) :=
  if (gI g l0 11) = 0 then (bd (f_X12_next l0 g) (fun v2 g3 => bd (f_X12_readPlace l0 (1 : Int32) g3) (fun v6 g7 => bd (f_X12_readPlace l0 (1 : Int32) g7) (fun v10 g11 => f_X12_readPair_41 FU l0 l1 v6 v10 g11)))) else (some ((), g))
def f_X12_readPair (l0 : Nat) (g : G) : Option (Unit × G) :=
  dr (gR g l0 4) (fun b1 => gdK g b1 14 (gdI (3 : Int32) (gN g b1) (li (gI g b1 (3 : Int32).toNatClampNeg) (fun y5 => if y5 = (3 : Int32) then (bd (f_X12_fails l0 (4 : Int32) g) (fun v8 g9 => f_X12_readPair_17 l0 y5 g9)) else (f_X12_readPair_17 l0 y5 g)))))
def f_X12_readLaw_45 (l0 : Nat) (l1 : Int32) (l2 : Int32) (g : G) : Option (Unit × G) :=
  if (gI g l0 11) = 0 then (dr (gR g l0 4) (fun b2 => gdK g b2 14 (gdI ((4 : Int32) + l1) (gN g b2) (lg (sI g b2 ((4 : Int32) + l1).toNatClampNeg (1 : Int32)) (fun g6 => gdI ((6 : Int32) + l1) (gN g6 b2) (lg (sI g6 b2 ((6 : Int32) + l1).toNatClampNeg l2) (fun g9 => gdI (614 : Int32) (gN g9 b2) (gdI ((8 : Int32) + l1) (gN g9 b2) (lg (sI g9 b2 ((8 : Int32) + l1).toNatClampNeg ((gI g9 b2 (614 : Int32).toNatClampNeg) - l2)) (fun g13 => some ((), g13))))))))))) else (some ((), g))
def f_X12_readLaw_18 (l0 : Nat) (l1 : Int32) (g : G) : Option (Unit × G) :=
  dr (gR g l0 4) (fun b1 => gdK g b1 14 (gdI (614 : Int32) (gN g b1) (li (gI g b1 (614 : Int32).toNatClampNeg) (fun y5 => if l1 = (1 : Int32) then (bd (f_X12_readSum_T l0 (0 : Int32) g) (fun v12 g13 => f_X12_readLaw_45 l0 l1 y5 g13)) else (bd (f_X12_readTruth_T l0 (0 : Int32) g) (fun v8 g9 => f_X12_readLaw_45 l0 l1 y5 g9))))))
def f_X12_readLaw (l0 : Nat) (l1 : Int32) (g : G) : Option (Unit × G) :=
  bd (f_X12_next l0 g) (fun v1 g2 => bd (f_X12_eats l0 (31 : Int32) g2) (fun v5 g6 => if (b2i v5) = 0 then (bd (f_X12_fails l0 (2 : Int32) g6) (fun v10 g11 => f_X12_readLaw_18 l0 l1 g11)) else (f_X12_readLaw_18 l0 l1 g6)))
def f_X12_readLine_55 (l0 : Nat) (g : G) : Option (Unit × G) :=
  bd (f_X12_readLaw l0 ((gI g l0 9) - (5 : Int32)) g) (fun v1 g2 => some ((), g2))
def f_X12_readLine (l0 : Nat) (g : G) : Option (Unit × G) :=
  if (gI g l0 11) = 0 then (bd (f_X12_is l0 (1 : Int32) g) (fun v2 g3 => if (b2i v2) = 0 then (bd (f_X12_is l0 (2 : Int32) g3) (fun v7 g8 => if (b2i v7) = 0 then (bd (f_X12_is l0 (5 : Int32) g8) (fun v12 g13 => if (b2i v12) = 0 then (bd (f_X12_is l0 (6 : Int32) g13) (fun v17 g18 => if (b2i v17) = 0 then (bd (f_X12_fails l0 (2 : Int32) g18) (fun v22 g23 => some ((), g23))) else (f_X12_readLine_55 l0 g18))) else (f_X12_readLine_55 l0 g13))) else (bd (f_X12_readPair l0 g8) (fun v26 g27 => some ((), g27))))) else (bd (f_X12_readRow l0 g3) (fun v30 g31 => some ((), g31))))) else (some ((), g))
def f_X12_twinOf (l0 : Nat) (l1 : Int32) (l2 : Int32) (g : G) : Option (Int32 × G) :=
  dr (gR g l0 1) (fun b1 => gdK g b1 14 (gdI (((88 : Int32) + ((2 : Int32) * l1)) + l2) (gN g b1) (some ((gI g b1 (((88 : Int32) + ((2 : Int32) * l1)) + l2).toNatClampNeg), g))))
def f_X12_less (l0 : Int32) (l1 : Int32) (g : G) : Option (Int32 × G) :=
  if l1 ≤ l0 then (some ((l0 - l1), g)) else (some ((l1 - l0), g))
def f_X12_apart (l0 : Nat) (l1 : Int32) (l2 : Int32) (g : G) : Option (Int32 × G) :=
  dr (gR g l0 1) (fun b1 => gdK g b1 14 (gdI (2 : Int32) (gN g b1) (gdZ (gI g b1 (2 : Int32).toNatClampNeg) (gdZ (gI g b1 (2 : Int32).toNatClampNeg) (bd (f_X12_less (l1 / (gI g b1 (2 : Int32).toNatClampNeg)) (l2 / (gI g b1 (2 : Int32).toNatClampNeg)) g) (fun v7 g8 => dr (gR g8 l0 1) (fun b11 => gdK g8 b11 14 (gdI (2 : Int32) (gN g8 b11) (gdZ (gI g8 b11 (2 : Int32).toNatClampNeg) (gdZ (gI g8 b11 (2 : Int32).toNatClampNeg) (bd (f_X12_less (l1 - l1 / (gI g8 b11 (2 : Int32).toNatClampNeg) * (gI g8 b11 (2 : Int32).toNatClampNeg)) (l2 - l2 / (gI g8 b11 (2 : Int32).toNatClampNeg) * (gI g8 b11 (2 : Int32).toNatClampNeg)) g8) (fun v17 g18 => some ((v7 + v17), g18)))))))))))))
def f_X12_isDone_44 (k2 : Nat → Int32 → Int32 → G → Option (Unit × G)) (l0 : Nat) (l1 : Int32) (l2 : Int32) (g : G) : Option (Unit × G) :=
  k2 l0 l1 (l2 + (1 : Int32)) g
def f_X12_isDone_2 : Nat → Nat → Int32 → Int32 → G → Option (Unit × G)
  | 0, _, _, _, _ => none
  | n + 1, l0, l1, l2, g =>
  if (2 : Int32) ≤ l2 then (some ((), g)) else (bd (f_X12_twinOf l0 l1 l2 g) (fun v2 g3 => dr (gR g3 l0 1) (fun b6 => gdK g3 b6 14 (gdI (((46 : Int32) + ((2 : Int32) * l1)) + l2) (gN g3 b6) (if v2 = (gI g3 b6 (((46 : Int32) + ((2 : Int32) * l1)) + l2).toNatClampNeg) then (gdI ((100 : Int32) + l1) (gN g3 b6) (lg (sI g3 b6 ((100 : Int32) + l1).toNatClampNeg ((gI g3 b6 ((100 : Int32) + l1).toNatClampNeg) ||| ((1 : Int32) <<< (l2 &&& 31)))) (fun g12 => f_X12_isDone_44 (f_X12_isDone_2 n) l0 l1 l2 g12))) else (f_X12_isDone_44 (f_X12_isDone_2 n) l0 l1 l2 g3))))))
def f_X12_isDone (l0 : Nat) (l1 : Int32) (g : G) : Option (Unit × G) :=
  f_X12_isDone_2 FU l0 l1 (0 : Int32) g
def f_X12_field_227 (k194 : Nat → Int32 → G → Option (Int32 × G)) (l0 : Nat) (l2 : Int32) (s0 : Int32) (s1 : Int32) (s2 : Nat) (g : G) : Option (Int32 × G) :=
  gdI s1 (gN g s2) (lg (sI g s2 s1.toNatClampNeg s0) (fun g2 => k194 l0 (l2 + (1 : Int32)) g2))
def f_X12_field_236 : Nat → Nat → Int32 → G → Option (Int32 × G)
  | 0, _, _, _ => none
  | n + 1, l0, l2, g =>
  dr (gR g l0 1) (fun b1 => gdK g b1 14 (gdI (3 : Int32) (gN g b1) (if (gI g b1 (3 : Int32).toNatClampNeg) ≤ l2 then (gdI (0 : Int32) (gN g b1) (some ((gI g b1 (0 : Int32).toNatClampNeg), g))) else (bd (f_X12_twinOf l0 l2 (0 : Int32) g) (fun v7 g8 => bd (f_X12_twinOf l0 l2 (1 : Int32) g8) (fun v11 g12 => bd (f_X12_apart l0 v7 v11 g12) (fun v15 g16 => gdI ((94 : Int32) + l2) (gN g16 b1) (lg (sI g16 b1 ((94 : Int32) + l2).toNatClampNeg v15) (fun g20 => bd (f_X12_isDone l0 l2 g20) (fun v22 g23 => f_X12_field_236 n l0 (l2 + (1 : Int32)) g23))))))))))
def f_X12_field_194 : Nat → Nat → Int32 → G → Option (Int32 × G)
  | 0, _, _, _ => none
  | n + 1, l0, l2, g =>
  if (36 : Int32) ≤ l2 then (f_X12_field_236 FU l0 (0 : Int32) g) else (dr (gR g l0 1) (fun b2 => gdK g b2 14 (gdI ((10 : Int32) + l2) (gN g b2) (if (gI g b2 ((10 : Int32) + l2).toNatClampNeg) = (9 : Int32) then (f_X12_field_227 (f_X12_field_194 n) l0 l2 (1 : Int32) ((52 : Int32) + l2) b2 g) else (f_X12_field_227 (f_X12_field_194 n) l0 l2 (0 : Int32) ((52 : Int32) + l2) b2 g)))))
def f_X12_field_167 : Nat → Nat → Int32 → G → Option (Int32 × G)
  | 0, _, _, _ => none
  | n + 1, l0, l2, g =>
  if (1515 : Int32) ≤ l2 then (f_X12_field_194 FU l0 (0 : Int32) g) else (dr (gR g l0 1) (fun b2 => dr (gR g l0 4) (fun b4 => gdK g b4 14 (gdI l2 (gN g b4) (gdK g b2 14 (gdI l2 (gN g b2) (lg (sI g b2 l2.toNatClampNeg (gI g b4 l2.toNatClampNeg)) (fun g10 => f_X12_field_167 n l0 (l2 + (1 : Int32)) g10))))))))
def f_X12_field_147 (l0 : Nat) (s0 : Int32) (s1 : Nat) (g : G) : Option (Int32 × G) :=
  lg (sI g s1 14 s0) (fun g1 => if (gI g1 l0 11) = 0 then (f_X12_field_167 FU l0 (0 : Int32) g1) else (some (((-30 : Int32) - (gI g1 l0 11)), g1)))
def f_X12_field_123 (l0 : Nat) (g : G) : Option (Int32 × G) :=
  lg (sI g l0 13 (gI g l0 11)) (fun g1 => if (gI g1 l0 11) = 0 then (f_X12_field_147 l0 (-1 : Int32) l0 g1) else (f_X12_field_147 l0 (gI g1 l0 12) l0 g1))
def f_X12_field_96 : Nat → Nat → G → Option (Int32 × G)
  | 0, _, _ => none
  | n + 1, l0, g =>
  if (gI g l0 11) = 0 then (if (gI g l0 9) = (24 : Int32) then (f_X12_field_123 l0 g) else (bd (f_X12_readLine l0 g) (fun v3 g4 => bd (f_X12_ends l0 g4) (fun v7 g8 => f_X12_field_96 n l0 g8)))) else (f_X12_field_123 l0 g)
def f_X12_field_66 (l0 : Nat) (g : G) : Option (Int32 × G) :=
  dr (gR g l0 4) (fun b1 => bd (f_X12_takes l0 (1 : Int32) (6 : Int32) g) (fun v3 g4 => gdK g4 b1 14 (gdI (1 : Int32) (gN g4 b1) (lg (sI g4 b1 (1 : Int32).toNatClampNeg v3) (fun g9 => dr (gR g9 l0 4) (fun b11 => bd (f_X12_takes l0 (1 : Int32) (6 : Int32) g9) (fun v13 g14 => gdK g14 b11 14 (gdI (2 : Int32) (gN g14 b11) (lg (sI g14 b11 (2 : Int32).toNatClampNeg v13) (fun g19 => bd (f_X12_ends l0 g19) (fun v21 g22 => f_X12_field_96 FU l0 g22)))))))))))
def f_X12_field (l0 : Nat) (l1 : Int32) (g : G) : Option (Int32 × G) :=
  lg (sI g l0 0 (0 : Int32)) (fun g1 => bd (f_X12_within (l1.toInt64) (0 : Int64) ((gI g1 l0 5).toInt64) g1) (fun v3 g4 => if (b2i v3) = 0 then (some ((-3 : Int32), g4)) else (lg (sI g4 l0 8 l1) (fun g8 => lg (sI g8 l0 5 (0 : Int32)) (fun g10 => lg (sI g10 l0 7 (0 : Int32)) (fun g12 => lg (sI g12 l0 11 (0 : Int32)) (fun g14 => dr (gR g14 l0 4) (fun b16 => gdK g14 b16 14 (bd (f_X12_plain b16 g14) (fun v19 g20 => bd (f_X12_next l0 g20) (fun v23 g24 => bd (f_X12_eats l0 (0 : Int32) g24) (fun v27 g28 => if (b2i v27) = 0 then (bd (f_X12_fails l0 (2 : Int32) g28) (fun v32 g33 => f_X12_field_66 l0 g33)) else (f_X12_field_66 l0 g28)))))))))))))
def f_X11_fault (l0 : Nat) (l1 : Int32) (g : G) : Option (Int32 × G) :=
  if l1 = 0 then (some ((gI g l0 2), g)) else (if l1 = (1 : Int32) then (some ((gI g l0 3), g)) else (some ((-1 : Int32), g)))
def f_X12_fault (l0 : Nat) (l1 : Int32) (g : G) : Option (Int32 × G) :=
  lg (sI g l0 0 (0 : Int32)) (fun g1 => if l1 = 0 then (some ((gI g1 l0 13), g1)) else (if l1 = (1 : Int32) then (some ((gI g1 l0 14), g1)) else (some ((-1 : Int32), g1))))
def f_X0_isWall (l0 : Nat) (l1 : Int32) (g : G) : Option (Bool × G) :=
  dr (gR g l0 0) (fun b1 => gdK g b1 7 (bd (f_X7_isCell b1 l1 g) (fun v4 g5 => if (b2i v4) = 0 then (some (false, g5)) else (if (lg_cmp ((((gL g5 l0 1).toUInt64 >>> (l1.toInt64.toUInt64 &&& Int64.toUInt64 63)).toInt64) &&& (1 : Int64)) (0 : Int64)) = 0 then (some (false, g5)) else (some (true, g5))))))
def f_X0_twinsAt_36 (k4 : Nat → Int32 → Int32 → Int32 → G → Option (Int32 × G)) (l0 : Nat) (l1 : Int32) (l3 : Int32) (s0 : Int32) (s1 : Int32) (g : G) : Option (Int32 × G) :=
  li (s1 + s0) (fun y1 => k4 l0 l1 y1 (l3 + (1 : Int32)) g)
def f_X0_twinsAt_35 (k4 : Nat → Int32 → Int32 → Int32 → G → Option (Int32 × G)) (l0 : Nat) (l1 : Int32) (l3 : Int32) (s0 : Int32) (g : G) : Option (Int32 × G) :=
  f_X0_twinsAt_36 k4 l0 l1 l3 (0 : Int32) s0 g
def f_X0_twinsAt_4 : Nat → Nat → Int32 → Int32 → Int32 → G → Option (Int32 × G)
  | 0, _, _, _, _, _ => none
  | n + 1, l0, l1, l2, l3, g =>
  if (6 : Int32) ≤ l3 then (some (l2, g)) else (bd (f_X0_isPair l0 (l3 / (2 : Int32)) g) (fun v2 g3 => if (b2i v2) = 0 then (f_X0_twinsAt_35 (f_X0_twinsAt_4 n) l0 l1 l3 l2 g3) else (dr (gR g3 l0 2) (fun b7 => gdK g3 b7 14 (gdI l3 (gN g3 b7) (if (gI g3 b7 l3.toNatClampNeg) = l1 then (f_X0_twinsAt_36 (f_X0_twinsAt_4 n) l0 l1 l3 (1 : Int32) l2 g3) else (f_X0_twinsAt_35 (f_X0_twinsAt_4 n) l0 l1 l3 l2 g3)))))))
def f_X0_twinsAt (l0 : Nat) (l1 : Int32) (g : G) : Option (Int32 × G) :=
  f_X0_twinsAt_4 FU l0 l1 (0 : Int32) (0 : Int32) g
def f_X0_firstPairAt_32 (k2 : Nat → Int32 → Int32 → G → Option (Int32 × G)) (l0 : Nat) (l1 : Int32) (l2 : Int32) (g : G) : Option (Int32 × G) :=
  k2 l0 l1 (l2 + (1 : Int32)) g
def f_X0_firstPairAt_2 : Nat → Nat → Int32 → Int32 → G → Option (Int32 × G)
  | 0, _, _, _, _ => none
  | n + 1, l0, l1, l2, g =>
  if (6 : Int32) ≤ l2 then (some ((-1 : Int32), g)) else (bd (f_X0_isPair l0 (l2 / (2 : Int32)) g) (fun v2 g3 => if (b2i v2) = 0 then (f_X0_firstPairAt_32 (f_X0_firstPairAt_2 n) l0 l1 l2 g3) else (dr (gR g3 l0 2) (fun b7 => gdK g3 b7 14 (gdI l2 (gN g3 b7) (if (gI g3 b7 l2.toNatClampNeg) = l1 then (some ((l2 / (2 : Int32)), g3)) else (f_X0_firstPairAt_32 (f_X0_firstPairAt_2 n) l0 l1 l2 g3)))))))
def f_X0_firstPairAt (l0 : Nat) (l1 : Int32) (g : G) : Option (Int32 × G) :=
  f_X0_firstPairAt_2 FU l0 l1 (0 : Int32) g
def f_X11_cell (l0 : Nat) (l1 : Int32) (l2 : Int32) (g : G) : Option (Int32 × G) :=
  dr (gR g l0 4) (fun b1 => gdK g b1 0 (dr (gR g b1 0) (fun b4 => gdK g b4 7 (bd (f_X7_isCell b4 l1 g) (fun v7 g8 => if (b2i v7) = 0 then (some ((-2 : Int32), g8)) else (if l2 = 0 then (dr (gR g8 l0 4) (fun b29 => gdK g8 b29 0 (bd (f_X0_isWall b29 l1 g8) (fun v32 g33 => if (b2i v32) = 0 then (dr (gR g33 l0 4) (fun b37 => gdK g33 b37 0 (dr (gR g33 b37 0) (fun b40 => gdK g33 b40 7 (dr (gR g33 b40 6) (fun b43 => gdK g33 b43 14 (gdI l1 (gN g33 b43) (some ((gI g33 b43 l1.toNatClampNeg), g33))))))))) else (some ((9 : Int32), g33)))))) else (if l2 = (1 : Int32) then (dr (gR g8 l0 4) (fun b22 => gdK g8 b22 0 (bd (f_X0_twinsAt b22 l1 g8) (fun v25 g26 => some (v25, g26))))) else (if l2 = (2 : Int32) then (dr (gR g8 l0 4) (fun b15 => gdK g8 b15 0 (bd (f_X0_firstPairAt b15 l1 g8) (fun v18 g19 => some (v18, g19))))) else (some ((-2 : Int32), g8))))))))))
def f_X12_cells (l0 : Nat) (g : G) : Option (Int32 × G) :=
  dr (gR g l0 1) (fun b1 => gdK g b1 14 (gdI (1 : Int32) (gN g b1) (gdI (2 : Int32) (gN g b1) (some (((gI g b1 (1 : Int32).toNatClampNeg) * (gI g b1 (2 : Int32).toNatClampNeg)), g)))))
def f_X12_isCell (l0 : Nat) (l1 : Int64) (g : G) : Option (Bool × G) :=
  bd (f_X12_cells l0 g) (fun v1 g2 => bd (f_X12_within l1 (0 : Int64) ((v1 - (1 : Int32)).toInt64) g2) (fun v5 g6 => some (v5, g6)))
def f_X12_heightOf (l0 : Nat) (l1 : Int32) (g : G) : Option (Int32 × G) :=
  dr (gR g l0 1) (fun b1 => gdK g b1 14 (gdI ((52 : Int32) + l1) (gN g b1) (if (gI g b1 ((52 : Int32) + l1).toNatClampNeg) = (1 : Int32) then (some ((9 : Int32), g)) else (gdI ((10 : Int32) + l1) (gN g b1) (if (gI g b1 ((10 : Int32) + l1).toNatClampNeg) = (9 : Int32) then (some ((0 : Int32), g)) else (some ((gI g b1 ((10 : Int32) + l1).toNatClampNeg), g)))))))
def f_X12_twinsIn_46 (k5 : Nat → Int32 → Int32 → Int32 → Int32 → G → Option (Int32 × G)) (l0 : Nat) (l1 : Int32) (l2 : Int32) (l4 : Int32) (s0 : Int32) (s1 : Int32) (g : G) : Option (Int32 × G) :=
  li (s1 + s0) (fun y1 => k5 l0 l1 l2 y1 (l4 + (1 : Int32)) g)
def f_X12_twinsIn_45 (k5 : Nat → Int32 → Int32 → Int32 → Int32 → G → Option (Int32 × G)) (l0 : Nat) (l1 : Int32) (l2 : Int32) (l4 : Int32) (s0 : Int32) (g : G) : Option (Int32 × G) :=
  f_X12_twinsIn_46 k5 l0 l1 l2 l4 (0 : Int32) s0 g
def f_X12_twinsIn_5 : Nat → Nat → Int32 → Int32 → Int32 → Int32 → G → Option (Int32 × G)
  | 0, _, _, _, _, _, _ => none
  | n + 1, l0, l1, l2, l3, l4, g =>
  dr (gR g l0 1) (fun b1 => gdK g b1 14 (gdI (3 : Int32) (gN g b1) (if ((2 : Int32) * (gI g b1 (3 : Int32).toNatClampNeg)) ≤ l4 then (some (l3, g)) else (if (l4 / (2 : Int32)) = l2 then (f_X12_twinsIn_45 (f_X12_twinsIn_5 n) l0 l1 l2 l4 l3 g) else (gdI ((88 : Int32) + l4) (gN g b1) (if (gI g b1 ((88 : Int32) + l4).toNatClampNeg) = l1 then (f_X12_twinsIn_46 (f_X12_twinsIn_5 n) l0 l1 l2 l4 (1 : Int32) l3 g) else (f_X12_twinsIn_45 (f_X12_twinsIn_5 n) l0 l1 l2 l4 l3 g)))))))
def f_X12_twinsIn (l0 : Nat) (l1 : Int32) (l2 : Int32) (g : G) : Option (Int32 × G) :=
  f_X12_twinsIn_5 FU l0 l1 l2 (0 : Int32) (0 : Int32) g
def f_X12_cell_49 : Nat → Nat → Int32 → Int32 → G → Option (Int32 × G)
  | 0, _, _, _, _ => none
  | n + 1, l0, l1, l3, g =>
  dr (gR g l0 1) (fun b1 => gdK g b1 14 (gdI (3 : Int32) (gN g b1) (if ((2 : Int32) * (gI g b1 (3 : Int32).toNatClampNeg)) ≤ l3 then (some ((-1 : Int32), g)) else (gdI ((88 : Int32) + l3) (gN g b1) (if (gI g b1 ((88 : Int32) + l3).toNatClampNeg) = l1 then (some ((l3 / (2 : Int32)), g)) else (f_X12_cell_49 n l0 l1 (l3 + (1 : Int32)) g))))))
def f_X12_cell (l0 : Nat) (l1 : Int32) (l2 : Int32) (g : G) : Option (Int32 × G) :=
  lg (sI g l0 0 (0 : Int32)) (fun g1 => bd (f_X12_isCell l0 (l1.toInt64) g1) (fun v3 g4 => if (b2i v3) = 0 then (some ((-2 : Int32), g4)) else (if l2 = 0 then (bd (f_X12_heightOf l0 l1 g4) (fun v15 g16 => some (v15, g16))) else (if l2 = (1 : Int32) then (bd (f_X12_twinsIn l0 l1 (-1 : Int32) g4) (fun v11 g12 => some (v11, g12))) else (if l2 = (2 : Int32) then (f_X12_cell_49 FU l0 l1 (0 : Int32) g4) else (some ((-2 : Int32), g4)))))))
def f_X11_pair_90 (l0 : Nat) (l1 : Int32) (l2 : Int32) (g : G) : Option (Int32 × G) :=
  dr (gR g l0 4) (fun b1 => gdK g b1 0 (dr (gR g b1 0) (fun b4 => gdK g b4 7 (dr (gR g b4 9) (fun b7 => gdK g b7 14 (gdI ((((2 : Int32) * l1) + l2) - (4 : Int32)) (gN g b7) (some ((gI g b7 ((((2 : Int32) * l1) + l2) - (4 : Int32)).toNatClampNeg), g))))))))
def f_X11_pair_56 (l0 : Nat) (l1 : Int32) (l2 : Int32) (g : G) : Option (Int32 × G) :=
  dr (gR g l0 4) (fun b1 => gdK g b1 0 (dr (gR g b1 2) (fun b4 => gdK g b4 14 (gdI (((2 : Int32) * l1) + l2) (gN g b4) (some ((gI g b4 (((2 : Int32) * l1) + l2).toNatClampNeg), g))))))
def f_X11_pair (l0 : Nat) (l1 : Int32) (l2 : Int32) (g : G) : Option (Int32 × G) :=
  dr (gR g l0 4) (fun b1 => gdK g b1 0 (bd (f_X0_isPair b1 l1 g) (fun v4 g5 => if (b2i v4) = 0 then (some ((-2 : Int32), g5)) else (if l2.toInt < 0 then (some ((-2 : Int32), g5)) else (match (l2.toInt - 0).toNat with | 0 => (f_X11_pair_56 l0 l1 l2 g5) | 1 => (f_X11_pair_56 l0 l1 l2 g5) | 2 => (dr (gR g5 l0 4) (fun b9 => gdK g5 b9 0 (dr (gR g5 b9 3) (fun b12 => gdK g5 b12 14 (gdI l1 (gN g5 b12) (some ((gI g5 b12 l1.toNatClampNeg), g5))))))) | 3 => (dr (gR g5 l0 4) (fun b16 => gdK g5 b16 0 (dr (gR g5 b16 4) (fun b19 => gdK g5 b19 14 (gdI l1 (gN g5 b19) (some ((gI g5 b19 l1.toNatClampNeg), g5))))))) | 4 => (f_X11_pair_90 l0 l1 l2 g5) | 5 => (f_X11_pair_90 l0 l1 l2 g5) | 6 => (dr (gR g5 l0 4) (fun b23 => gdK g5 b23 0 (dr (gR g5 b23 5) (fun b26 => gdK g5 b26 14 (gdI l1 (gN g5 b26) (some ((gI g5 b26 l1.toNatClampNeg), g5))))))) | _ => (some ((-2 : Int32), g5)))))))
def f_X12_isPair (l0 : Nat) (l1 : Int64) (g : G) : Option (Bool × G) :=
  dr (gR g l0 1) (fun b1 => gdK g b1 14 (gdI (3 : Int32) (gN g b1) (bd (f_X12_within l1 (0 : Int64) (((gI g b1 (3 : Int32).toNatClampNeg) - (1 : Int32)).toInt64) g) (fun v5 g6 => some (v5, g6)))))
def f_X12_pair (l0 : Nat) (l1 : Int32) (l2 : Int32) (g : G) : Option (Int32 × G) :=
  lg (sI g l0 0 (0 : Int32)) (fun g1 => bd (f_X12_isPair l0 (l1.toInt64) g1) (fun v3 g4 => if (b2i v3) = 0 then (some ((-2 : Int32), g4)) else (if l2.toInt < 0 then (some ((-2 : Int32), g4)) else (match (l2.toInt - 0).toNat with | 0 => (bd (f_X12_twinOf l0 l1 (0 : Int32) g4) (fun v8 g9 => some (v8, g9))) | 1 => (bd (f_X12_twinOf l0 l1 (1 : Int32) g4) (fun v12 g13 => some (v12, g13))) | 2 => (dr (gR g4 l0 1) (fun b16 => gdK g4 b16 14 (gdI ((94 : Int32) + l1) (gN g4 b16) (some ((gI g4 b16 ((94 : Int32) + l1).toNatClampNeg), g4))))) | 3 => (dr (gR g4 l0 1) (fun b20 => gdK g4 b20 14 (gdI ((97 : Int32) + l1) (gN g4 b20) (some ((gI g4 b20 ((97 : Int32) + l1).toNatClampNeg), g4))))) | 4 => (dr (gR g4 l0 1) (fun b24 => gdK g4 b24 14 (gdI ((46 : Int32) + ((2 : Int32) * l1)) (gN g4 b24) (some ((gI g4 b24 ((46 : Int32) + ((2 : Int32) * l1)).toNatClampNeg), g4))))) | 5 => (dr (gR g4 l0 1) (fun b28 => gdK g4 b28 14 (gdI (((46 : Int32) + ((2 : Int32) * l1)) + (1 : Int32)) (gN g4 b28) (some ((gI g4 b28 (((46 : Int32) + ((2 : Int32) * l1)) + (1 : Int32)).toNatClampNeg), g4))))) | 6 => (dr (gR g4 l0 1) (fun b32 => gdK g4 b32 14 (gdI ((100 : Int32) + l1) (gN g4 b32) (some ((gI g4 b32 ((100 : Int32) + l1).toNatClampNeg), g4))))) | _ => (some ((-2 : Int32), g4))))))
def f_X9_assume (l0 : Nat) (l1 : Int32) (g : G) : Option (Unit × G) :=
  dr (gR g l0 3) (fun b1 => gdK g b1 14 (gdI (2 : Int32) (gN g b1) (lg (sI g b1 (2 : Int32).toNatClampNeg l1) (fun g5 => lg (sI g5 l0 11 ((gI g5 l0 11) + (1 : Int32))) (fun g7 => some ((), g7))))))
def f_J7_fill_d0a16_6 : Nat → Nat → Int64 → Int32 → Int32 → G → Option (Unit × G)
  | 0, _, _, _, _, _ => none
  | n + 1, l0, l1, l3, l4, g =>
  if l4 ≤ l3 then (some ((), g)) else (gdI l3 (gN g l0) (lg (sL g l0 l3.toNatClampNeg l1) (fun g3 => f_J7_fill_d0a16_6 n l0 l1 (l3 + (1 : Int32)) l4 g3)))
def f_J7_fill_d0a16 (l0 : Nat) (l1 : Int64) (g : G) : Option (Unit × G) :=
  li (nI (gN g l0)) (fun y1 => f_J7_fill_d0a16_6 FU l0 l1 (0 : Int32) y1 g)
def f_X9_drawRings_101 (k32 : Nat → Int32 → G → Option (Unit × G)) (k51 : Nat → Int32 → Int32 → G → Option (Unit × G)) (l0 : Nat) (l1 : Int32) (l2 : Int32) (g : G) : Option (Unit × G) :=
  k51 l0 l1 (l2 + (1 : Int32)) g
def f_X9_drawRings_107 (k32 : Nat → Int32 → G → Option (Unit × G)) (l0 : Nat) (l1 : Int32) (g : G) : Option (Unit × G) :=
  k32 l0 (l1 + (1 : Int32)) g
def f_X9_drawRings_51 (k32 : Nat → Int32 → G → Option (Unit × G)) : Nat → Nat → Int32 → Int32 → G → Option (Unit × G)
  | 0, _, _, _, _ => none
  | n + 1, l0, l1, l2, g =>
  dr (gR g l0 1) (fun b1 => gdK g b1 7 (if (gI g b1 2) ≤ l2 then (f_X9_drawRings_107 k32 l0 l1 g) else (if (36 : Int32) ≤ l2 then (f_X9_drawRings_107 k32 l0 l1 g) else (bd (f_X7_apart b1 l1 l2 g) (fun v6 g7 => if (10 : Int32) < v6 then (f_X9_drawRings_101 k32 (f_X9_drawRings_51 k32 n) l0 l1 l2 g7) else (dr (gR g7 l0 4) (fun b11 => gdK g7 b11 15 (gdI ((v6 * (36 : Int32)) + l1) (gN g7 b11) (lg (sL g7 b11 ((v6 * (36 : Int32)) + l1).toNatClampNeg ((gL g7 b11 ((v6 * (36 : Int32)) + l1).toNatClampNeg) ||| ((1 : Int64) <<< (l2.toInt64 &&& 63)))) (fun g15 => f_X9_drawRings_101 k32 (f_X9_drawRings_51 k32 n) l0 l1 l2 g15))))))))))
def f_X9_drawRings_32 : Nat → Nat → Int32 → G → Option (Unit × G)
  | 0, _, _, _ => none
  | n + 1, l0, l1, g =>
  dr (gR g l0 1) (fun b1 => gdK g b1 7 (if (gI g b1 2) ≤ l1 then (some ((), g)) else (if (36 : Int32) ≤ l1 then (some ((), g)) else (f_X9_drawRings_51 (f_X9_drawRings_32 n) FU l0 l1 (0 : Int32) g))))
def f_X9_drawRings (l0 : Nat) (g : G) : Option (Unit × G) :=
  dr (gR g l0 4) (fun b1 => gdK g b1 15 (bd (f_J7_fill_d0a16 b1 (0 : Int64) g) (fun v4 g5 => dr (gR g5 l0 1) (fun b8 => gdK g5 b8 7 (lg (sI g5 l0 5 (gI g5 b8 0)) (fun g11 => lg (sI g11 l0 6 (gI g11 b8 1)) (fun g13 => f_X9_drawRings_32 FU l0 (0 : Int32) g13)))))))
def f_X9_aim_81 (l0 : Nat) (g : G) : Option (Unit × G) :=
  bd (f_X9_drawRings l0 g) (fun v1 g2 => some ((), g2))
def f_X9_aim (l0 : Nat) (l1 : Nat) (l2 : Int32) (g : G) : Option (Unit × G) :=
  bd (f_X0_isPair l1 l2 g) (fun v1 g2 => if (b2i v1) = 0 then (some ((), g2)) else (dr (gR g2 l1 0) (fun b6 => lg (sR g2 l0 1 (some b6)) (fun g8 => bd (f_X0_freeFor l1 l2 g8) (fun v10 g11 => lg (sL g11 l0 0 v10) (fun g14 => dr (gR g14 l1 3) (fun b16 => gdK g14 b16 14 (gdI l2 (gN g14 b16) (lg (sI g14 l0 2 (gI g14 b16 l2.toNatClampNeg)) (fun g20 => dr (gR g20 l0 3) (fun b22 => gdK g20 b22 14 (gdI (0 : Int32) (gN g20 b22) (lg (sI g20 b22 (0 : Int32).toNatClampNeg l2) (fun g26 => dr (gR g26 l1 4) (fun b28 => gdK g26 b28 14 (gdI l2 (gN g26 b28) (bd (f_X9_assume l0 (gI g26 b28 l2.toNatClampNeg) g26) (fun v32 g33 => dr (gR g33 l0 1) (fun b36 => gdK g33 b36 7 (if (gI g33 l0 5) = (gI g33 b36 0) then (if (gI g33 l0 6) = (gI g33 b36 1) then (some ((), g33)) else (f_X9_aim_81 l0 g33)) else (f_X9_aim_81 l0 g33)))))))))))))))))))))
def f_X0_standOf (l0 : Nat) (l1 : Int32) (g : G) : Option (Int32 × G) :=
  bd (f_X0_isPair l0 l1 g) (fun v1 g2 => if (b2i v1) = 0 then (some ((0 : Int32), g2)) else (dr (gR g2 l0 2) (fun b6 => gdK g2 b6 14 (gdI ((2 : Int32) * l1) (gN g2 b6) (gdI (((2 : Int32) * l1) + (1 : Int32)) (gN g2 b6) (some ((((gI g2 b6 ((2 : Int32) * l1).toNatClampNeg) * (64 : Int32)) + (gI g2 b6 (((2 : Int32) * l1) + (1 : Int32)).toNatClampNeg)), g2)))))))
def f_X7_beside (l0 : Nat) (l1 : Int32) (l2 : Int32) (g : G) : Option (Int32 × G) :=
  bd (f_X7_isCell l0 l1 g) (fun v1 g2 => if (b2i v1) = 0 then (some ((-1 : Int32), g2)) else (if l2.toInt < 0 then (some ((-1 : Int32), g2)) else (match (l2.toInt - 0).toNat with | 0 => (dr (gR g2 l0 7) (fun b6 => gdK g2 b6 14 (gdI l1 (gN g2 b6) (if (gI g2 b6 l1.toNatClampNeg) ≤ 0 then (some ((-1 : Int32), g2)) else (some ((l1 - (gI g2 l0 1)), g2)))))) | 1 => (dr (gR g2 l0 8) (fun b11 => gdK g2 b11 14 (gdI l1 (gN g2 b11) (if ((gI g2 l0 1) - (1 : Int32)) ≤ (gI g2 b11 l1.toNatClampNeg) then (some ((-1 : Int32), g2)) else (some ((l1 + (1 : Int32)), g2)))))) | 2 => (dr (gR g2 l0 7) (fun b16 => gdK g2 b16 14 (gdI l1 (gN g2 b16) (if ((gI g2 l0 0) - (1 : Int32)) ≤ (gI g2 b16 l1.toNatClampNeg) then (some ((-1 : Int32), g2)) else (some ((l1 + (gI g2 l0 1)), g2)))))) | 3 => (dr (gR g2 l0 8) (fun b21 => gdK g2 b21 14 (gdI l1 (gN g2 b21) (if (gI g2 b21 l1.toNatClampNeg) ≤ 0 then (some ((-1 : Int32), g2)) else (some ((l1 - (1 : Int32)), g2)))))) | _ => (some ((-1 : Int32), g2)))))
def f_X9_memoPlace_36 (l1 : Int32) (l2 : Int32) (l3 : Int32) (s0 : Int32) (g : G) : Option (Int32 × G) :=
  if s0 = 0 then (some ((-1 : Int32), g)) else (some (((((l1 * (36 : Int32)) + l2) * (36 : Int32)) + l3), g))
def f_X9_memoPlace_31 (l1 : Int32) (l2 : Int32) (l3 : Int32) (g : G) : Option (Int32 × G) :=
  f_X9_memoPlace_36 l1 l2 l3 (1 : Int32) g
def f_X9_memoPlace_35 (l1 : Int32) (l2 : Int32) (l3 : Int32) (g : G) : Option (Int32 × G) :=
  f_X9_memoPlace_36 l1 l2 l3 (0 : Int32) g
def f_X9_memoPlace (l0 : Nat) (l1 : Int32) (l2 : Int32) (l3 : Int32) (g : G) : Option (Int32 × G) :=
  dr (gR g l0 1) (fun b1 => gdK g b1 7 (bd (f_X7_isCell b1 l2 g) (fun v4 g5 => if (b2i v4) = 0 then (f_X9_memoPlace_35 l1 l2 l3 g5) else (dr (gR g5 l0 1) (fun b9 => gdK g5 b9 7 (bd (f_X7_isCell b9 l3 g5) (fun v12 g13 => if (b2i v12) = 0 then (f_X9_memoPlace_35 l1 l2 l3 g13) else (if l1 = 0 then (f_X9_memoPlace_31 l1 l2 l3 g13) else (if l1 = (1 : Int32) then (f_X9_memoPlace_31 l1 l2 l3 g13) else (f_X9_memoPlace_35 l1 l2 l3 g13))))))))))
def f_X9_joined_133 (l5 : Int64) (g : G) : Option (Int64 × G) :=
  if (lg_cmp l5 (1000000 : Int64)) ≤ 0 then (if 0 ≤ (lg_cmp l5 (-1000000 : Int64)) then (some (l5, g)) else (some ((-1000000 : Int64), g))) else (some ((1000000 : Int64), g))
def f_X9_joined (l0 : Int32) (l1 : Int64) (l3 : Int64) (g : G) : Option (Int64 × G) :=
  (if l0 = (12 : Int32) then (some ((l1 ||| l3), g)) else (if l0 = (13 : Int32) then (some ((l1 &&& l3), g)) else (if l0 = (43 : Int32) then (ll (l1 + l3) (fun y2 => f_X9_joined_133 y2 g)) else (if l0 = (45 : Int32) then (ll (l1 - l3) (fun y4 => f_X9_joined_133 y4 g)) else (if l0 = (60 : Int32) then (if 0 ≤ (lg_cmp l1 l3) then (some ((0 : Int64), g)) else (some ((1 : Int64), g))) else (if l0 = (61 : Int32) then (if (lg_cmp l1 l3) = 0 then (some ((1 : Int64), g)) else (some ((0 : Int64), g))) else (if l0 = (62 : Int32) then (if (lg_cmp l1 l3) ≤ 0 then (some ((0 : Int64), g)) else (some ((1 : Int64), g))) else (ll (l1 * l3) (fun y9 => f_X9_joined_133 y9 g)))))))))
def f_X9_lawTells_302 (k148 : Nat → Nat → Int32 → Int32 → G → Option (Int64 × G)) (l0 : Nat) (l1 : Nat) (l7 : Int32) (l8 : Int32) (g : G) : Option (Int64 × G) :=
  k148 l0 l1 l7 (l8 + (1 : Int32)) g
def f_X9_lawTells_298 (k148 : Nat → Nat → Int32 → Int32 → G → Option (Int64 × G)) (l0 : Nat) (l1 : Nat) (l7 : Int32) (l8 : Int32) (s0 : Int64) (s1 : Int32) (s2 : Nat) (g : G) : Option (Int64 × G) :=
  gdI s1 (gN g s2) (lg (sL g s2 s1.toNatClampNeg s0) (fun g2 => f_X9_lawTells_302 k148 l0 l1 (l7 + (1 : Int32)) l8 g2))
def f_X9_lawTells_295 (k148 : Nat → Nat → Int32 → Int32 → G → Option (Int64 × G)) (l0 : Nat) (l1 : Nat) (l7 : Int32) (l8 : Int32) (l9 : Int32) (s0 : Int32) (s1 : Nat) (g : G) : Option (Int64 × G) :=
  f_X9_lawTells_298 k148 l0 l1 l7 l8 (l9.toInt64) s0 s1 g
def f_X9_lawTells_148 : Nat → Nat → Nat → Int32 → Int32 → G → Option (Int64 × G)
  | 0, _, _, _, _, _ => none
  | n + 1, l0, l1, l7, l8, g =>
  if (nI (gN g l1)) ≤ l8 then (if l7 ≤ 0 then (some ((0 : Int64), g)) else (dr (gR g l0 12) (fun b3 => gdK g b3 15 (gdI (0 : Int32) (gN g b3) (some ((gL g b3 (0 : Int32).toNatClampNeg), g)))))) else (gdI l8 (gN g l1) (li (gI g l1 l8.toNatClampNeg) (fun y8 => if y8 = (2014 : Int32) then (if l7 ≤ 0 then (f_X9_lawTells_302 (f_X9_lawTells_148 n) l0 l1 l7 l8 g) else (dr (gR g l0 12) (fun b40 => gdK g b40 15 (gdI (l7 - (1 : Int32)) (gN g b40) (lg (sL g b40 (l7 - (1 : Int32)).toNatClampNeg ((1 : Int64) - (gL g b40 (l7 - (1 : Int32)).toNatClampNeg))) (fun g44 => f_X9_lawTells_302 (f_X9_lawTells_148 n) l0 l1 l7 l8 g44)))))) else (if y8 < (2000 : Int32) then (if (64 : Int32) ≤ l7 then (f_X9_lawTells_302 (f_X9_lawTells_148 n) l0 l1 l7 l8 g) else (li (y8 - (1000 : Int32)) (fun y13 => dr (gR g l0 12) (fun b15 => if y13 < 0 then (gdK g b15 15 (f_X9_lawTells_295 (f_X9_lawTells_148 n) l0 l1 l7 l8 y8 l7 b15 g)) else (if (8 : Int32) ≤ y13 then (gdK g b15 15 (f_X9_lawTells_295 (f_X9_lawTells_148 n) l0 l1 l7 l8 y8 l7 b15 g)) else (dr (gR g l0 3) (fun b21 => gdK g b21 14 (gdI y13 (gN g b21) (gdK g b15 15 (f_X9_lawTells_298 (f_X9_lawTells_148 n) l0 l1 l7 l8 ((gI g b21 y13.toNatClampNeg).toInt64) l7 b15 g)))))))))) else (if l7 ≤ (1 : Int32) then (f_X9_lawTells_302 (f_X9_lawTells_148 n) l0 l1 l7 l8 g) else (dr (gR g l0 12) (fun b27 => gdK g b27 15 (gdI ((l7 + (-1 : Int32)) - (1 : Int32)) (gN g b27) (gdI (l7 + (-1 : Int32)) (gN g b27) (bd (f_X9_joined (y8 - (2000 : Int32)) (gL g b27 ((l7 + (-1 : Int32)) - (1 : Int32)).toNatClampNeg) (gL g b27 (l7 + (-1 : Int32)).toNatClampNeg) g) (fun v32 g33 => gdI ((l7 + (-1 : Int32)) - (1 : Int32)) (gN g33 b27) (lg (sL g33 b27 ((l7 + (-1 : Int32)) - (1 : Int32)).toNatClampNeg v32) (fun g37 => f_X9_lawTells_302 (f_X9_lawTells_148 n) l0 l1 (l7 + (-1 : Int32)) l8 g37)))))))))))))
def f_X9_lawTells (l0 : Nat) (l1 : Nat) (l2 : Int32) (l3 : Int32) (l4 : Int32) (g : G) : Option (Int64 × G) :=
  dr (gR g l0 1) (fun b1 => gdK g b1 7 (bd (f_X7_isCell b1 l3 g) (fun v4 g5 => if (b2i v4) = 0 then (some ((0 : Int64), g5)) else (dr (gR g5 l0 1) (fun b9 => gdK g5 b9 7 (bd (f_X7_isCell b9 l4 g5) (fun v12 g13 => if (b2i v12) = 0 then (some ((0 : Int64), g13)) else (dr (gR g13 l0 1) (fun b17 => gdK g13 b17 7 (dr (gR g13 b17 7) (fun b20 => gdK g13 b20 14 (gdI l4 (gN g13 b20) (li (gI g13 b20 l4.toNatClampNeg) (fun y24 => dr (gR g13 b17 8) (fun b26 => gdK g13 b26 14 (gdI l4 (gN g13 b26) (li (gI g13 b26 l4.toNatClampNeg) (fun y30 => dr (gR g13 l0 3) (fun b32 => gdK g13 b32 14 (gdI (1 : Int32) (gN g13 b32) (lg (sI g13 b32 (1 : Int32).toNatClampNeg l2) (fun g36 => dr (gR g36 b17 6) (fun b38 => gdK g36 b38 14 (gdI l3 (gN g36 b38) (gdI (3 : Int32) (gN g36 b32) (lg (sI g36 b32 (3 : Int32).toNatClampNeg (gI g36 b38 l3.toNatClampNeg)) (fun g43 => gdI l4 (gN g43 b38) (gdI (4 : Int32) (gN g43 b32) (lg (sI g43 b32 (4 : Int32).toNatClampNeg (gI g43 b38 l4.toNatClampNeg)) (fun g47 => gdI l3 (gN g47 b20) (bd (f_J9_abs_0f7a4 ((gI g47 b20 l3.toNatClampNeg) - y24) g47) (fun v50 g51 => dr (gR g51 l0 1) (fun b54 => gdK g51 b54 7 (dr (gR g51 b54 8) (fun b57 => gdK g51 b57 14 (gdI l3 (gN g51 b57) (bd (f_J9_abs_0f7a4 ((gI g51 b57 l3.toNatClampNeg) - y30) g51) (fun v61 g62 => gdI (5 : Int32) (gN g62 b32) (lg (sI g62 b32 (5 : Int32).toNatClampNeg (v50 + v61)) (fun g66 => dr (gR g66 l0 3) (fun b68 => gdK g66 b68 14 (gdI (6 : Int32) (gN g66 b68) (lg (sI g66 b68 (6 : Int32).toNatClampNeg y24) (fun g72 => gdI (7 : Int32) (gN g72 b68) (lg (sI g72 b68 (7 : Int32).toNatClampNeg y30) (fun g75 => f_X9_lawTells_148 FU l0 l1 (0 : Int32) (0 : Int32) g75))))))))))))))))))))))))))))))))))))))))))))))
def f_X9_mayGo_72 (l0 : Nat) (l5 : Int32) (g : G) : Option (Bool × G) :=
  dr (gR g l0 8) (fun b1 => gdK g b1 14 (gdI l5 (gN g b1) (if (gI g b1 l5.toNatClampNeg) = 0 then (some (false, g)) else (some (true, g)))))
def f_X9_mayGo (l0 : Nat) (l1 : Int32) (l2 : Int32) (l3 : Int32) (g : G) : Option (Bool × G) :=
  dr (gR g l0 1) (fun b1 => gdK g b1 7 (bd (f_X9_memoPlace l0 l1 l2 l3 g) (fun v4 g5 => if (gR g b1 10) = none then (some (true, g5)) else (if 0 ≤ v4 then (dr (gR g5 l0 7) (fun b10 => gdK g5 b10 14 (gdI v4 (gN g5 b10) (if (gI g5 b10 v4.toNatClampNeg) = (gI g5 l0 11) then (f_X9_mayGo_72 l0 v4 g5) else (lg (sI g5 b10 v4.toNatClampNeg (gI g5 l0 11)) (fun g15 => dr (gR g15 l0 8) (fun b17 => dr (gR g b1 10) (fun b19 => gdK g15 b19 14 (bd (f_X9_lawTells l0 b19 l1 l2 l3 g15) (fun v22 g23 => gdK g23 b17 14 (gdI v4 (gN g23 b17) (lg (sI g23 b17 v4.toNatClampNeg (v22.toInt32)) (fun g28 => f_X9_mayGo_72 l0 v4 g28))))))))))))) else (some (true, g5))))))
def f_X9_ring (l0 : Nat) (l1 : Int32) (l2 : Int32) (g : G) : Option (Int64 × G) :=
  if l1 < 0 then (some ((0 : Int64), g)) else (if (10 : Int32) < l1 then (some ((0 : Int64), g)) else (if l2 < 0 then (some ((0 : Int64), g)) else (if l2 < (36 : Int32) then (dr (gR g l0 4) (fun b5 => gdK g b5 15 (gdI ((l1 * (36 : Int32)) + l2) (gN g b5) (some ((gL g b5 ((l1 * (36 : Int32)) + l2).toNatClampNeg), g))))) else (some ((0 : Int64), g)))))
def f_J13_bitCount_95d88 (l0 : Int64) (g : G) : Option (Int32 × G) :=
  ll (l0 - (((l0.toUInt64 >>> ((1 : Int32).toInt64.toUInt64 &&& Int64.toUInt64 63)).toInt64) &&& (6148914691236517205 : Int64))) (fun y1 => ll ((y1 &&& (3689348814741910323 : Int64)) + (((y1.toUInt64 >>> ((2 : Int32).toInt64.toUInt64 &&& Int64.toUInt64 63)).toInt64) &&& (3689348814741910323 : Int64))) (fun y3 => ll ((y3 + ((y3.toUInt64 >>> ((4 : Int32).toInt64.toUInt64 &&& Int64.toUInt64 63)).toInt64)) &&& (1085102592571150095 : Int64)) (fun y5 => ll (y5 + ((y5.toUInt64 >>> ((8 : Int32).toInt64.toUInt64 &&& Int64.toUInt64 63)).toInt64)) (fun y7 => ll (y7 + ((y7.toUInt64 >>> ((16 : Int32).toInt64.toUInt64 &&& Int64.toUInt64 63)).toInt64)) (fun y9 => ll (y9 + ((y9.toUInt64 >>> ((32 : Int32).toInt64.toUInt64 &&& Int64.toUInt64 63)).toInt64)) (fun y11 => some (((y11.toInt32) &&& (127 : Int32)), g)))))))
def f_X9_drawnTo_128 (k32 : Nat → Int32 → Int32 → Int64 → Int32 → G → Option (Int32 × G)) (l0 : Nat) (l1 : Int32) (l2 : Int32) (l4 : Int64) (l6 : Int32) (g : G) : Option (Int32 × G) :=
  k32 l0 l1 l2 l4 (l6 + (1 : Int32)) g
def f_X9_drawnTo_72 (k32 : Nat → Int32 → Int32 → Int64 → Int32 → G → Option (Int32 × G)) : Nat → Nat → Int32 → Int32 → Int64 → Int32 → Int64 → Int32 → G → Option (Int32 × G)
  | 0, _, _, _, _, _, _, _, _ => none
  | n + 1, l0, l1, l2, l4, l6, l7, l9, g =>
  if (36 : Int32) ≤ l9 then (f_X9_drawnTo_128 k32 l0 l1 l2 l4 l6 g) else (if (lg_cmp l7 (0 : Int64)) = 0 then (f_X9_drawnTo_128 k32 l0 l1 l2 l4 l6 g) else (bd (f_J13_bitCount_95d88 ((l7 &&& (-l7)) - (1 : Int64)) g) (fun v3 g4 => bd (f_X9_mayGo l0 l1 l2 v3 g4) (fun v7 g8 => if (b2i v7) = 0 then (ll (l7 &&& (l7 - (1 : Int64))) (fun y12 => f_X9_drawnTo_72 k32 n l0 l1 l2 l4 l6 y12 (l9 + (1 : Int32)) g8)) else (some (v3, g8))))))
def f_X9_drawnTo_32 : Nat → Nat → Int32 → Int32 → Int64 → Int32 → G → Option (Int32 × G)
  | 0, _, _, _, _, _, _ => none
  | n + 1, l0, l1, l2, l4, l6, g =>
  if (10 : Int32) < l6 then (some ((-1 : Int32), g)) else (if (lg_cmp l4 (0 : Int64)) = 0 then (some ((-1 : Int32), g)) else (bd (f_X9_ring l0 l6 l2 g) (fun v3 g4 => ll (v3 &&& l4) (fun y7 => ll (l4 &&& (y7 ^^^ (-1 : Int64))) (fun y9 => f_X9_drawnTo_72 (f_X9_drawnTo_32 n) FU l0 l1 l2 y9 l6 y7 (0 : Int32) g4)))))
def f_X9_drawnTo (l0 : Nat) (l1 : Int32) (l2 : Int32) (l3 : Int32) (g : G) : Option (Int32 × G) :=
  bd (f_X9_ring l0 (gI g l0 2) l3 g) (fun v1 g2 => ll (v1 &&& (gL g2 l0 0)) (fun y5 => if (lg_cmp (((y5.toUInt64 >>> (l2.toInt64.toUInt64 &&& Int64.toUInt64 63)).toInt64) &&& (1 : Int64)) (0 : Int64)) = 0 then (f_X9_drawnTo_32 FU l0 l1 l2 y5 (1 : Int32) g2) else (some (l2, g2))))
def f_X9_step_32 (l0 : Nat) (l2 : Int32) (l3 : Int32) (l4 : Int32) (s0 : Int32) (g : G) : Option (Int32 × G) :=
  dr (gR g l0 1) (fun b1 => gdK g b1 7 (bd (f_X7_beside b1 l4 l3 g) (fun v4 g5 => if v4 = (-1 : Int32) then (some ((-2 : Int32), g5)) else (if (lg_cmp ((((gL g5 l0 0).toUInt64 >>> (v4.toInt64.toUInt64 &&& Int64.toUInt64 63)).toInt64) &&& (1 : Int64)) (0 : Int64)) = 0 then (some ((-2 : Int32), g5)) else (bd (f_X9_mayGo l0 l2 l4 v4 g5) (fun v10 g11 => if (b2i v10) = 0 then (some ((-3 : Int32), g11)) else (bd (f_X9_drawnTo l0 ((1 : Int32) - l2) s0 v4 g11) (fun v15 g16 => if v15 = (-1 : Int32) then (some ((-4 : Int32), g16)) else (if l2 = 0 then (some (((v4 * (64 : Int32)) + v15), g16)) else (some (((v15 * (64 : Int32)) + v4), g16)))))))))))
def f_X9_step_15 (l0 : Nat) (l1 : Int32) (l2 : Int32) (l3 : Int32) (s0 : Int32) (g : G) : Option (Int32 × G) :=
  if l2 = 0 then (f_X9_step_32 l0 l2 l3 s0 (l1 - l1 / (64 : Int32) * (64 : Int32)) g) else (f_X9_step_32 l0 l2 l3 s0 (l1 / (64 : Int32)) g)
def f_X9_step (l0 : Nat) (l1 : Int32) (l2 : Int32) (l3 : Int32) (g : G) : Option (Int32 × G) :=
  if l2 = 0 then (f_X9_step_15 l0 l1 l2 l3 (l1 / (64 : Int32)) g) else (f_X9_step_15 l0 l1 l2 l3 (l1 - l1 / (64 : Int32) * (64 : Int32)) g)
def f_X0_wouldBe (l0 : Nat) (l1 : Nat) (l2 : Int32) (l3 : Int32) (l4 : Int32) (g : G) : Option (Int32 × G) :=
  bd (f_X0_isPair l0 l2 g) (fun v1 g2 => if (b2i v1) = 0 then (some ((-1 : Int32), g2)) else (if l3 < 0 then (some ((-1 : Int32), g2)) else (if (1 : Int32) < l3 then (some ((-1 : Int32), g2)) else (if l4 < 0 then (some ((-1 : Int32), g2)) else (if l4 < (4 : Int32) then (bd (f_X9_aim l1 l0 l2 g2) (fun v10 g11 => bd (f_X0_standOf l0 l2 g11) (fun v14 g15 => bd (f_X9_step l1 v14 l3 l4 g15) (fun v18 g19 => some (v18, g19))))) else (some ((-1 : Int32), g2)))))))
def f_X11_why (l0 : Nat) (l1 : Int32) (l2 : Int32) (l3 : Int32) (g : G) : Option (Int32 × G) :=
  dr (gR g l0 4) (fun b1 => dr (gR g l0 7) (fun b3 => gdK g b1 0 (gdK g b3 9 (bd (f_X0_wouldBe b1 b3 l1 l2 l3 g) (fun v7 g8 => if 0 ≤ v7 then (some ((0 : Int32), g8)) else (some ((-v7), g8)))))))
def f_X12_beside_55 (l0 : Nat) (l3 : Int32) (s0 : Int32) (s1 : Int32) (g : G) : Option (Int32 × G) :=
  li (s1 + s0) (fun y1 => dr (gR g l0 1) (fun b3 => gdK g b3 14 (gdI (1 : Int32) (gN g b3) (bd (f_X12_within (l3.toInt64) (0 : Int64) (((gI g b3 (1 : Int32).toNatClampNeg) - (1 : Int32)).toInt64) g) (fun v7 g8 => if (b2i v7) = 0 then (some ((-1 : Int32), g8)) else (dr (gR g8 l0 1) (fun b12 => gdK g8 b12 14 (gdI (2 : Int32) (gN g8 b12) (bd (f_X12_within (y1.toInt64) (0 : Int64) (((gI g8 b12 (2 : Int32).toNatClampNeg) - (1 : Int32)).toInt64) g8) (fun v16 g17 => if (b2i v16) = 0 then (some ((-1 : Int32), g17)) else (dr (gR g17 l0 1) (fun b21 => gdK g17 b21 14 (gdI (2 : Int32) (gN g17 b21) (some ((((gI g17 b21 (2 : Int32).toNatClampNeg) * l3) + y1), g17)))))))))))))))
def f_X12_beside_26 (l0 : Nat) (l1 : Int32) (l2 : Int32) (s0 : Int32) (s1 : Int32) (g : G) : Option (Int32 × G) :=
  li (s1 + s0) (fun y1 => dr (gR g l0 1) (fun b3 => gdK g b3 14 (gdI (2 : Int32) (gN g b3) (gdZ (gI g b3 (2 : Int32).toNatClampNeg) (if l2 = (1 : Int32) then (f_X12_beside_55 l0 y1 (1 : Int32) (l1 - l1 / (gI g b3 (2 : Int32).toNatClampNeg) * (gI g b3 (2 : Int32).toNatClampNeg)) g) else (if l2 = (3 : Int32) then (f_X12_beside_55 l0 y1 (-1 : Int32) (l1 - l1 / (gI g b3 (2 : Int32).toNatClampNeg) * (gI g b3 (2 : Int32).toNatClampNeg)) g) else (f_X12_beside_55 l0 y1 (0 : Int32) (l1 - l1 / (gI g b3 (2 : Int32).toNatClampNeg) * (gI g b3 (2 : Int32).toNatClampNeg)) g)))))))
def f_X12_beside (l0 : Nat) (l1 : Int32) (l2 : Int32) (g : G) : Option (Int32 × G) :=
  dr (gR g l0 1) (fun b1 => gdK g b1 14 (gdI (2 : Int32) (gN g b1) (gdZ (gI g b1 (2 : Int32).toNatClampNeg) (if l2 = 0 then (f_X12_beside_26 l0 l1 l2 (-1 : Int32) (l1 / (gI g b1 (2 : Int32).toNatClampNeg)) g) else (if l2 = (2 : Int32) then (f_X12_beside_26 l0 l1 l2 (1 : Int32) (l1 / (gI g b1 (2 : Int32).toNatClampNeg)) g) else (f_X12_beside_26 l0 l1 l2 (0 : Int32) (l1 / (gI g b1 (2 : Int32).toNatClampNeg)) g))))))
def f_X12_isFree (l0 : Nat) (l1 : Int32) (l2 : Int32) (g : G) : Option (Bool × G) :=
  dr (gR g l0 1) (fun b1 => gdK g b1 14 (gdI ((52 : Int32) + l2) (gN g b1) (if (gI g b1 ((52 : Int32) + l2).toNatClampNeg) = 0 then (bd (f_X12_twinsIn l0 l2 l1 g) (fun v6 g7 => if v6 = 0 then (some (true, g7)) else (some (false, g7)))) else (some (false, g)))))
def f_X12_between_146 (s0 : Int64) (g : G) : Option (Int32 × G) :=
  some ((s0.toInt32), g)
def f_X12_between_116 (s0 : Int64) (g : G) : Option (Int32 × G) :=
  if (lg_cmp s0 (1000000 : Int64)) ≤ 0 then (if 0 ≤ (lg_cmp s0 (-1000000 : Int64)) then (f_X12_between_146 s0 g) else (f_X12_between_146 (-1000000 : Int64) g)) else (f_X12_between_146 (1000000 : Int64) g)
def f_X12_between_81 (l0 : Int32) (l1 : Int32) (l2 : Int32) (g : G) : Option (Int32 × G) :=
  if l0 = (3000 : Int32) then (f_X12_between_116 ((l1.toInt64) + (l2.toInt64)) g) else (if l0 = (3001 : Int32) then (f_X12_between_116 ((l1.toInt64) - (l2.toInt64)) g) else (f_X12_between_116 ((l1.toInt64) * (l2.toInt64)) g))
def f_X12_between (l0 : Int32) (l1 : Int32) (l2 : Int32) (g : G) : Option (Int32 × G) :=
  if l0.toInt < 3003 then (f_X12_between_81 l0 l1 l2 g) else (match (l0.toInt - 3003).toNat with | 0 => (if l1 = l2 then (some ((1 : Int32), g)) else (some ((0 : Int32), g))) | 1 => (if l2 ≤ l1 then (some ((0 : Int32), g)) else (some ((1 : Int32), g))) | 2 => (if l1 ≤ l2 then (some ((0 : Int32), g)) else (some ((1 : Int32), g))) | 3 => (f_X12_between_81 l0 l1 l2 g) | 4 => (some ((l1 &&& l2), g)) | 5 => (some ((l1 ||| l2), g)) | _ => (f_X12_between_81 l0 l1 l2 g))
def f_X12_reckons_251 (k105 : Nat → Int32 → Int32 → Int32 → G → Option (Int32 × G)) (l0 : Nat) (l1 : Int32) (l6 : Int32) (l7 : Int32) (g : G) : Option (Int32 × G) :=
  k105 l0 l1 l6 (l7 + (1 : Int32)) g
def f_X12_reckons_180 (k105 : Nat → Int32 → Int32 → Int32 → G → Option (Int32 × G)) (l0 : Nat) (l1 : Int32) (l6 : Int32) (l7 : Int32) (s0 : Int32) (s1 : Int32) (s2 : Nat) (g : G) : Option (Int32 × G) :=
  gdI s1 (gN g s2) (lg (sI g s2 s1.toNatClampNeg s0) (fun g2 => f_X12_reckons_251 k105 l0 l1 (l6 + (1 : Int32)) l7 g2))
def f_X12_reckons_105 : Nat → Nat → Int32 → Int32 → Int32 → G → Option (Int32 × G)
  | 0, _, _, _, _, _ => none
  | n + 1, l0, l1, l6, l7, g =>
  dr (gR g l0 1) (fun b1 => gdK g b1 14 (gdI ((8 : Int32) + l1) (gN g b1) (if (gI g b1 ((8 : Int32) + l1).toNatClampNeg) ≤ l7 then (dr (gR g l0 15) (fun b6 => gdK g b6 14 (gdI (0 : Int32) (gN g b6) (some ((gI g b6 (0 : Int32).toNatClampNeg), g))))) else (gdI ((6 : Int32) + l1) (gN g b1) (gdI (((615 : Int32) + (gI g b1 ((6 : Int32) + l1).toNatClampNeg)) + l7) (gN g b1) (li (gI g b1 (((615 : Int32) + (gI g b1 ((6 : Int32) + l1).toNatClampNeg)) + l7).toNatClampNeg) (fun y12 => if (3000 : Int32) ≤ y12 then (if y12 = (3006 : Int32) then (dr (gR g l0 15) (fun b28 => gdK g b28 14 (gdI (l6 - (1 : Int32)) (gN g b28) (lg (sI g b28 (l6 - (1 : Int32)).toNatClampNeg ((1 : Int32) - (gI g b28 (l6 - (1 : Int32)).toNatClampNeg))) (fun g32 => f_X12_reckons_251 (f_X12_reckons_105 n) l0 l1 l6 l7 g32))))) else (dr (gR g l0 15) (fun b16 => gdK g b16 14 (gdI ((l6 + (-1 : Int32)) - (1 : Int32)) (gN g b16) (gdI (l6 + (-1 : Int32)) (gN g b16) (bd (f_X12_between y12 (gI g b16 ((l6 + (-1 : Int32)) - (1 : Int32)).toNatClampNeg) (gI g b16 (l6 + (-1 : Int32)).toNatClampNeg) g) (fun v21 g22 => gdI ((l6 + (-1 : Int32)) - (1 : Int32)) (gN g22 b16) (lg (sI g22 b16 ((l6 + (-1 : Int32)) - (1 : Int32)).toNatClampNeg v21) (fun g26 => f_X12_reckons_251 (f_X12_reckons_105 n) l0 l1 (l6 + (-1 : Int32)) l7 g26))))))))) else (dr (gR g l0 15) (fun b34 => if (1000 : Int32) ≤ y12 then (dr (gR g l0 16) (fun b37 => gdK g b37 14 (gdI (y12 - (1000 : Int32)) (gN g b37) (gdK g b34 14 (f_X12_reckons_180 (f_X12_reckons_105 n) l0 l1 l6 l7 (gI g b37 (y12 - (1000 : Int32)).toNatClampNeg) l6 b34 g))))) else (gdK g b34 14 (f_X12_reckons_180 (f_X12_reckons_105 n) l0 l1 l6 l7 y12 l6 b34 g)))))))))))
def f_X12_reckons (l0 : Nat) (l1 : Int32) (l2 : Int32) (l3 : Int32) (l4 : Int32) (l5 : Int32) (g : G) : Option (Int32 × G) :=
  dr (gR g l0 16) (fun b1 => gdK g b1 14 (gdI (0 : Int32) (gN g b1) (lg (sI g b1 (0 : Int32).toNatClampNeg l2) (fun g5 => gdI (1 : Int32) (gN g5 b1) (lg (sI g5 b1 (1 : Int32).toNatClampNeg l3) (fun g8 => dr (gR g8 l0 1) (fun b10 => gdK g8 b10 14 (gdI ((97 : Int32) + l2) (gN g8 b10) (gdI (2 : Int32) (gN g8 b1) (lg (sI g8 b1 (2 : Int32).toNatClampNeg (gI g8 b10 ((97 : Int32) + l2).toNatClampNeg)) (fun g15 => bd (f_X12_heightOf l0 l4 g15) (fun v17 g18 => gdI (3 : Int32) (gN g18 b1) (lg (sI g18 b1 (3 : Int32).toNatClampNeg v17) (fun g22 => dr (gR g22 l0 16) (fun b24 => bd (f_X12_heightOf l0 l5 g22) (fun v26 g27 => gdK g27 b24 14 (gdI (4 : Int32) (gN g27 b24) (lg (sI g27 b24 (4 : Int32).toNatClampNeg v26) (fun g32 => dr (gR g32 l0 16) (fun b34 => bd (f_X12_apart l0 l4 l5 g32) (fun v36 g37 => gdK g37 b34 14 (gdI (5 : Int32) (gN g37 b34) (lg (sI g37 b34 (5 : Int32).toNatClampNeg v36) (fun g42 => dr (gR g42 l0 16) (fun b44 => dr (gR g42 l0 1) (fun b46 => gdK g42 b46 14 (gdI (2 : Int32) (gN g42 b46) (gdZ (gI g42 b46 (2 : Int32).toNatClampNeg) (gdK g42 b44 14 (gdI (6 : Int32) (gN g42 b44) (lg (sI g42 b44 (6 : Int32).toNatClampNeg (l5 / (gI g42 b46 (2 : Int32).toNatClampNeg))) (fun g53 => gdZ (gI g53 b46 (2 : Int32).toNatClampNeg) (gdI (7 : Int32) (gN g53 b44) (lg (sI g53 b44 (7 : Int32).toNatClampNeg (l5 - l5 / (gI g53 b46 (2 : Int32).toNatClampNeg) * (gI g53 b46 (2 : Int32).toNatClampNeg))) (fun g57 => f_X12_reckons_105 FU l0 l1 (0 : Int32) (0 : Int32) g57)))))))))))))))))))))))))))))))))))
def f_X12_mayGo_23 (g : G) : Option (Bool × G) :=
  some (true, g)
def f_X12_mayGo (l0 : Nat) (l1 : Int32) (l2 : Int32) (l3 : Int32) (l4 : Int32) (g : G) : Option (Bool × G) :=
  dr (gR g l0 1) (fun b1 => gdK g b1 14 (gdI (4 : Int32) (gN g b1) (if (gI g b1 (4 : Int32).toNatClampNeg) = 0 then (f_X12_mayGo_23 g) else (bd (f_X12_reckons l0 (0 : Int32) l1 l2 l3 l4 g) (fun v6 g7 => if v6 = (1 : Int32) then (f_X12_mayGo_23 g7) else (some (false, g7)))))))
def f_X12_whyBy_191 (k97 : Nat → Int32 → Int32 → Int32 → Int32 → G → Option (Int32 × G)) (l0 : Nat) (l1 : Int32) (l2 : Int32) (l4 : Int32) (l6 : Int32) (g : G) : Option (Int32 × G) :=
  k97 l0 l1 l2 l4 (l6 + (1 : Int32)) g
def f_X12_whyBy_185 (k97 : Nat → Int32 → Int32 → Int32 → Int32 → G → Option (Int32 × G)) (l0 : Nat) (l1 : Int32) (l2 : Int32) (l4 : Int32) (l6 : Int32) (g : G) : Option (Int32 × G) :=
  lg (sI g l0 18 l6) (fun g1 => f_X12_whyBy_191 k97 l0 l1 l2 l4 l6 g1)
def f_X12_whyBy_97 : Nat → Nat → Int32 → Int32 → Int32 → Int32 → G → Option (Int32 × G)
  | 0, _, _, _, _, _, _ => none
  | n + 1, l0, l1, l2, l4, l6, g =>
  bd (f_X12_cells l0 g) (fun v1 g2 => if v1 ≤ l6 then (if (gI g2 l0 18) = (-1 : Int32) then (some ((4 : Int32), g2)) else (some ((0 : Int32), g2))) else (bd (f_X12_apart l0 (gI g2 l0 17) l6 g2) (fun v7 g8 => dr (gR g8 l0 1) (fun b11 => gdK g8 b11 14 (gdI ((94 : Int32) + l1) (gN g8 b11) (if v7 = (gI g8 b11 ((94 : Int32) + l1).toNatClampNeg) then (bd (f_X12_isFree l0 l1 l6 g8) (fun v16 g17 => if (b2i v16) = 0 then (f_X12_whyBy_191 (f_X12_whyBy_97 n) l0 l1 l2 l4 l6 g17) else (bd (f_X12_mayGo l0 l1 ((1 : Int32) - l2) l4 l6 g17) (fun v21 g22 => if (b2i v21) = 0 then (f_X12_whyBy_191 (f_X12_whyBy_97 n) l0 l1 l2 l4 l6 g22) else (if (gI g22 l0 18) = (-1 : Int32) then (f_X12_whyBy_185 (f_X12_whyBy_97 n) l0 l1 l2 l4 l6 g22) else (bd (f_X12_apart l0 l4 l6 g22) (fun v27 g28 => bd (f_X12_apart l0 l4 (gI g28 l0 18) g28) (fun v31 g32 => if v31 ≤ v27 then (f_X12_whyBy_191 (f_X12_whyBy_97 n) l0 l1 l2 l4 l6 g32) else (f_X12_whyBy_185 (f_X12_whyBy_97 n) l0 l1 l2 l4 l6 g32))))))))) else (f_X12_whyBy_191 (f_X12_whyBy_97 n) l0 l1 l2 l4 l6 g8)))))))
def f_X12_whyBy_89 (l0 : Nat) (l1 : Int32) (l2 : Int32) (l4 : Int32) (g : G) : Option (Int32 × G) :=
  lg (sI g l0 18 (-1 : Int32)) (fun g1 => f_X12_whyBy_97 FU l0 l1 l2 l4 (0 : Int32) g1)
def f_X12_whyBy (l0 : Nat) (l1 : Int32) (l2 : Int32) (l3 : Int32) (l4 : Int32) (l5 : Int32) (g : G) : Option (Int32 × G) :=
  bd (f_X12_beside l0 l3 l5 g) (fun v1 g2 => lg (sI g2 l0 17 v1) (fun g5 => if (gI g5 l0 17) = (-1 : Int32) then (some ((2 : Int32), g5)) else (bd (f_X12_isFree l0 l1 (gI g5 l0 17) g5) (fun v8 g9 => if (b2i v8) = 0 then (some ((2 : Int32), g9)) else (bd (f_X12_mayGo l0 l1 l2 l3 (gI g9 l0 17) g9) (fun v13 g14 => if (b2i v13) = 0 then (some ((3 : Int32), g14)) else (lg (sI g14 l0 18 l4) (fun g18 => bd (f_X12_isFree l0 l1 l4 g18) (fun v20 g21 => if (b2i v20) = 0 then (f_X12_whyBy_89 l0 l1 l2 l4 g21) else (bd (f_X12_apart l0 (gI g21 l0 17) l4 g21) (fun v25 g26 => dr (gR g26 l0 1) (fun b29 => gdK g26 b29 14 (gdI ((94 : Int32) + l1) (gN g26 b29) (if v25 = (gI g26 b29 ((94 : Int32) + l1).toNatClampNeg) then (some ((0 : Int32), g26)) else (f_X12_whyBy_89 l0 l1 l2 l4 g26)))))))))))))))
def f_X12_whyLead (l0 : Nat) (l1 : Int64) (l3 : Int64) (l5 : Int64) (g : G) : Option (Int32 × G) :=
  bd (f_X12_isPair l0 l1 g) (fun v1 g2 => if (b2i v1) = 0 then (some ((1 : Int32), g2)) else (bd (f_X12_within l3 (0 : Int64) (1 : Int64) g2) (fun v6 g7 => if (b2i v6) = 0 then (some ((1 : Int32), g7)) else (bd (f_X12_within l5 (0 : Int64) (3 : Int64) g7) (fun v11 g12 => if (b2i v11) = 0 then (some ((1 : Int32), g12)) else (li (l1.toInt32) (fun y16 => li (l3.toInt32) (fun y18 => bd (f_X12_twinOf l0 y16 y18 g12) (fun v20 g21 => bd (f_X12_twinOf l0 y16 ((1 : Int32) - y18) g21) (fun v24 g25 => bd (f_X12_whyBy l0 y16 y18 v20 v24 (l5.toInt32) g25) (fun v28 g29 => some (v28, g29))))))))))))
def f_X12_why (l0 : Nat) (l1 : Int32) (l2 : Int32) (l3 : Int32) (g : G) : Option (Int32 × G) :=
  lg (sI g l0 0 (0 : Int32)) (fun g1 => bd (f_X12_whyLead l0 (l1.toInt64) (l2.toInt64) (l3.toInt64) g1) (fun v3 g4 => some (v3, g4)))
def f_J9_min_f86c9 (l0 : Int64) (l2 : Int64) (g : G) : Option (Int64 × G) :=
  if 0 < (lg_cmp l0 l2) then (some (l2, g)) else (some (l0, g))
def f_J9_max_f86c9 (l0 : Int64) (l2 : Int64) (g : G) : Option (Int64 × G) :=
  if (lg_cmp l0 l2) < 0 then (some (l2, g)) else (some (l0, g))
def f_X9_costGo_28 (l0 : Nat) (l2 : Int32) (l3 : Int32) (g : G) : Option (Int32 × G) :=
  dr (gR g l0 1) (fun b1 => gdK g b1 7 (bd (f_X7_apart b1 l2 l3 g) (fun v4 g5 => some (v4, g5))))
def f_X9_costGo_94 (l0 : Nat) (l5 : Int32) (g : G) : Option (Int32 × G) :=
  dr (gR g l0 10) (fun b1 => gdK g b1 14 (gdI l5 (gN g b1) (some ((gI g b1 l5.toNatClampNeg), g))))
def f_X9_costGo (l0 : Nat) (l1 : Int32) (l2 : Int32) (l3 : Int32) (g : G) : Option (Int32 × G) :=
  dr (gR g l0 1) (fun b1 => gdK g b1 7 (bd (f_X9_memoPlace l0 l1 l2 l3 g) (fun v4 g5 => if (gR g b1 11) = none then (f_X9_costGo_28 l0 l2 l3 g5) else (if 0 ≤ v4 then (dr (gR g5 l0 9) (fun b10 => gdK g5 b10 14 (gdI v4 (gN g5 b10) (if (gI g5 b10 v4.toNatClampNeg) = (gI g5 l0 11) then (f_X9_costGo_94 l0 v4 g5) else (lg (sI g5 b10 v4.toNatClampNeg (gI g5 l0 11)) (fun g15 => dr (gR g b1 11) (fun b17 => gdK g15 b17 14 (bd (f_X9_lawTells l0 b17 l1 l2 l3 g15) (fun v20 g21 => dr (gR g21 l0 10) (fun b24 => bd (f_J9_min_f86c9 (99 : Int64) v20 g21) (fun v26 g27 => bd (f_J9_max_f86c9 (0 : Int64) v26 g27) (fun v30 g31 => gdK g31 b24 14 (gdI v4 (gN g31 b24) (lg (sI g31 b24 v4.toNatClampNeg (v30.toInt32)) (fun g36 => f_X9_costGo_94 l0 v4 g36))))))))))))))) else (f_X9_costGo_28 l0 l2 l3 g5)))))
def f_X9_costOf_29 (l0 : Nat) (l1 : Int32) (l2 : Int32) (l3 : Int32) (g : G) : Option (Int32 × G) :=
  if (l1 - l1 / (64 : Int32) * (64 : Int32)) = (l2 - l2 / (64 : Int32) * (64 : Int32)) then (some (l3, g)) else (bd (f_X9_costGo l0 (1 : Int32) (l1 - l1 / (64 : Int32) * (64 : Int32)) (l2 - l2 / (64 : Int32) * (64 : Int32)) g) (fun v2 g3 => li (l3 + v2) (fun y6 => some (y6, g3))))
def f_X9_costOf (l0 : Nat) (l1 : Int32) (l2 : Int32) (g : G) : Option (Int32 × G) :=
  if (l1 / (64 : Int32)) = (l2 / (64 : Int32)) then (f_X9_costOf_29 l0 l1 l2 (0 : Int32) g) else (bd (f_X9_costGo l0 (0 : Int32) (l1 / (64 : Int32)) (l2 / (64 : Int32)) g) (fun v2 g3 => li ((0 : Int32) + v2) (fun y6 => f_X9_costOf_29 l0 l1 l2 y6 g3)))
def f_X11_by (l0 : Nat) (l1 : Int32) (l2 : Int32) (l3 : Int32) (l4 : Int32) (g : G) : Option (Int32 × G) :=
  if l4 < 0 then (some ((-2 : Int32), g)) else (if l4 ≤ (3 : Int32) then (dr (gR g l0 4) (fun b3 => dr (gR g l0 7) (fun b5 => gdK g b3 0 (gdK g b5 9 (bd (f_X0_wouldBe b3 b5 l1 l2 l3 g) (fun v9 g10 => if 0 ≤ v9 then (if l4 = 0 then (some ((v9 / (64 : Int32)), g10)) else (if l4 = (1 : Int32) then (some ((v9 - v9 / (64 : Int32) * (64 : Int32)), g10)) else (dr (gR g10 l0 4) (fun b16 => gdK g10 b16 0 (bd (f_X0_standOf b16 l1 g10) (fun v19 g20 => if l4 = (2 : Int32) then (if l2 = 0 then (dr (gR g20 l0 4) (fun b42 => gdK g20 b42 0 (dr (gR g20 b42 0) (fun b45 => gdK g20 b45 7 (bd (f_X7_apart b45 (v19 - v19 / (64 : Int32) * (64 : Int32)) (v9 - v9 / (64 : Int32) * (64 : Int32)) g20) (fun v48 g49 => some (v48, g49))))))) else (dr (gR g20 l0 4) (fun b32 => gdK g20 b32 0 (dr (gR g20 b32 0) (fun b35 => gdK g20 b35 7 (bd (f_X7_apart b35 (v19 / (64 : Int32)) (v9 / (64 : Int32)) g20) (fun v38 g39 => some (v38, g39)))))))) else (dr (gR g20 l0 7) (fun b24 => gdK g20 b24 9 (bd (f_X9_costOf b24 v19 v9 g20) (fun v27 g28 => some (v27, g28))))))))))) else (some ((-5 : Int32), g10)))))))) else (some ((-2 : Int32), g)))
def f_X12_costOf_37 (s0 : Int32) (g : G) : Option (Int32 × G) :=
  if 0 ≤ s0 then (if s0 ≤ (99 : Int32) then (some (s0, g)) else (some ((99 : Int32), g))) else (some ((0 : Int32), g))
def f_X12_costOf (l0 : Nat) (l1 : Int32) (l2 : Int32) (l3 : Int32) (l4 : Int32) (g : G) : Option (Int32 × G) :=
  if l3 = l4 then (some ((0 : Int32), g)) else (dr (gR g l0 1) (fun b2 => gdK g b2 14 (gdI (5 : Int32) (gN g b2) (if (gI g b2 (5 : Int32).toNatClampNeg) = 0 then (bd (f_X12_apart l0 l3 l4 g) (fun v11 g12 => f_X12_costOf_37 v11 g12)) else (bd (f_X12_reckons l0 (1 : Int32) l1 l2 l3 l4 g) (fun v7 g8 => f_X12_costOf_37 v7 g8))))))
def f_X12_costNow (l0 : Nat) (l1 : Int32) (l2 : Int32) (g : G) : Option (Int32 × G) :=
  bd (f_X12_twinOf l0 l1 l2 g) (fun v1 g2 => bd (f_X12_costOf l0 l1 l2 v1 (gI g2 l0 17) g2) (fun v5 g6 => bd (f_X12_twinOf l0 l1 ((1 : Int32) - l2) g6) (fun v9 g10 => bd (f_X12_costOf l0 l1 ((1 : Int32) - l2) v9 (gI g10 l0 18) g10) (fun v13 g14 => some ((v5 + v13), g14)))))
def f_X12_by (l0 : Nat) (l1 : Int32) (l2 : Int32) (l3 : Int32) (l4 : Int32) (g : G) : Option (Int32 × G) :=
  lg (sI g l0 0 (0 : Int32)) (fun g1 => bd (f_X12_within (l4.toInt64) (0 : Int64) (3 : Int64) g1) (fun v3 g4 => if (b2i v3) = 0 then (some ((-2 : Int32), g4)) else (bd (f_X12_whyLead l0 (l1.toInt64) (l2.toInt64) (l3.toInt64) g4) (fun v8 g9 => if v8 = 0 then (if (2 : Int32) ≤ l4 then (if l4 = (2 : Int32) then (bd (f_X12_twinOf l0 l1 ((1 : Int32) - l2) g9) (fun v19 g20 => bd (f_X12_apart l0 v19 (gI g20 l0 18) g20) (fun v23 g24 => some (v23, g24)))) else (bd (f_X12_costNow l0 l1 l2 g9) (fun v15 g16 => some (v15, g16)))) else (if l4 = l2 then (some ((gI g9 l0 17), g9)) else (some ((gI g9 l0 18), g9)))) else (some ((-5 : Int32), g9))))))
def f_X5_keep (l0 : Nat) (l1 : Nat) (g : G) : Option (Unit × G) :=
  dr (gR g l0 2) (fun b1 => gdK g b1 17 (gdI (((gI g l0 1) + (gI g l0 0)) - ((gI g l0 1) + (gI g l0 0)) / (10 : Int32) * (10 : Int32)) (gN g b1) (dr (gR g b1 (((gI g l0 1) + (gI g l0 0)) - ((gI g l0 1) + (gI g l0 0)) / (10 : Int32) * (10 : Int32)).toNatClampNeg) (fun b5 => gdK g b5 0 (bd (f_X0_copyFrom b5 l1 g) (fun v8 g9 => if (10 : Int32) ≤ (gI g9 l0 0) then (lg (sI g9 l0 1 (((gI g9 l0 1) + (1 : Int32)) - ((gI g9 l0 1) + (1 : Int32)) / (10 : Int32) * (10 : Int32))) (fun g13 => some ((), g13))) else (lg (sI g9 l0 0 ((gI g9 l0 0) + (1 : Int32))) (fun g15 => some ((), g15)))))))))
def f_X11_keepSpare (l0 : Nat) (g : G) : Option (Unit × G) :=
  dr (gR g l0 15) (fun b1 => dr (gR g l0 5) (fun b3 => gdK g b1 5 (gdK g b3 0 (bd (f_X5_keep b1 b3 g) (fun v7 g8 => bd (f_X11_forgetWays l0 g8) (fun v11 g12 => some ((), g12)))))))
def f_X11_lead (l0 : Nat) (l1 : Int32) (l2 : Int32) (l3 : Int32) (g : G) : Option (Int32 × G) :=
  dr (gR g l0 4) (fun b1 => dr (gR g l0 7) (fun b3 => gdK g b1 0 (gdK g b3 9 (bd (f_X0_wouldBe b1 b3 l1 l2 l3 g) (fun v7 g8 => if 0 ≤ v7 then (dr (gR g8 l0 7) (fun b12 => dr (gR g8 l0 4) (fun b14 => gdK g8 b14 0 (bd (f_X0_standOf b14 l1 g8) (fun v17 g18 => gdK g18 b12 9 (bd (f_X9_costOf b12 v17 v7 g18) (fun v22 g23 => dr (gR g23 l0 5) (fun b26 => dr (gR g23 l0 4) (fun b28 => gdK g23 b26 0 (gdK g23 b28 0 (bd (f_X0_copyFrom b26 b28 g23) (fun v32 g33 => dr (gR g33 l0 4) (fun b36 => gdK g33 b36 0 (bd (f_X0_go b36 l1 v7 g33) (fun v39 g40 => bd (f_X11_keepSpare l0 g40) (fun v43 g44 => some (v22, g44))))))))))))))))) else (some (((-10 : Int32) + v7), g8)))))))
def f_X12_keeps_2 : Nat → Nat → Int32 → G → Option (Unit × G)
  | 0, _, _, _ => none
  | n + 1, l0, l1, g =>
  if (51 : Int32) ≤ l1 then (some ((), g)) else (dr (gR g l0 19) (fun b2 => dr (gR g l0 1) (fun b4 => gdK g b4 14 (gdI ((52 : Int32) + l1) (gN g b4) (gdK g b2 14 (gdI l1 (gN g b2) (lg (sI g b2 l1.toNatClampNeg (gI g b4 ((52 : Int32) + l1).toNatClampNeg)) (fun g10 => f_X12_keeps_2 n l0 (l1 + (1 : Int32)) g10))))))))
def f_X12_keeps (l0 : Nat) (g : G) : Option (Unit × G) :=
  f_X12_keeps_2 FU l0 (0 : Int32) g
def f_X12_leads (l0 : Nat) (l1 : Int32) (l2 : Int32) (g : G) : Option (Unit × G) :=
  bd (f_X12_twinOf l0 l1 ((1 : Int32) - l2) g) (fun v1 g2 => bd (f_X12_apart l0 v1 (gI g2 l0 18) g2) (fun v5 g6 => lg (sI g6 l0 20 ((gI g l0 20) + ((1 : Int32) + v5))) (fun g9 => dr (gR g9 l0 1) (fun b11 => gdK g9 b11 14 (gdI (((88 : Int32) + ((2 : Int32) * l1)) + l2) (gN g9 b11) (lg (sI g9 b11 (((88 : Int32) + ((2 : Int32) * l1)) + l2).toNatClampNeg (gI g9 l0 17)) (fun g15 => gdI ((((88 : Int32) + ((2 : Int32) * l1)) + (1 : Int32)) - l2) (gN g15 b11) (lg (sI g15 b11 ((((88 : Int32) + ((2 : Int32) * l1)) + (1 : Int32)) - l2).toNatClampNeg (gI g15 l0 18)) (fun g18 => bd (f_X12_isDone l0 l1 g18) (fun v20 g21 => some ((), g21)))))))))))
def f_X12_notes_59 : Nat → Nat → Int32 → G → Option (Unit × G)
  | 0, _, _, _ => none
  | n + 1, l0, l1, g =>
  if (51 : Int32) ≤ l1 then (dr (gR g l0 1) (fun b2 => gdK g b2 14 (gdI (103 : Int32) (gN g b2) (lg (sI g b2 (103 : Int32).toNatClampNeg ((gI g b2 (103 : Int32).toNatClampNeg) + (1 : Int32))) (fun g6 => some ((), g6)))))) else (dr (gR g l0 1) (fun b8 => gdK g b8 14 (gdI (103 : Int32) (gN g b8) (dr (gR g l0 19) (fun b12 => gdK g b12 14 (gdI l1 (gN g b12) (gdI (((104 : Int32) + ((51 : Int32) * (gI g b8 (103 : Int32).toNatClampNeg))) + l1) (gN g b8) (lg (sI g b8 (((104 : Int32) + ((51 : Int32) * (gI g b8 (103 : Int32).toNatClampNeg))) + l1).toNatClampNeg (gI g b12 l1.toNatClampNeg)) (fun g17 => f_X12_notes_59 n l0 (l1 + (1 : Int32)) g17)))))))))
def f_X12_notes_57 (l0 : Nat) (g : G) : Option (Unit × G) :=
  f_X12_notes_59 FU l0 (0 : Int32) g
def f_X12_notes_14 : Nat → Nat → Int32 → G → Option (Unit × G)
  | 0, _, _, _ => none
  | n + 1, l0, l1, g =>
  if (459 : Int32) ≤ l1 then (dr (gR g l0 1) (fun b2 => gdK g b2 14 (gdI (103 : Int32) (gN g b2) (lg (sI g b2 (103 : Int32).toNatClampNeg ((gI g b2 (103 : Int32).toNatClampNeg) - (1 : Int32))) (fun g6 => f_X12_notes_57 l0 g6))))) else (dr (gR g l0 1) (fun b8 => gdK g b8 14 (gdI ((155 : Int32) + l1) (gN g b8) (gdI ((104 : Int32) + l1) (gN g b8) (lg (sI g b8 ((104 : Int32) + l1).toNatClampNeg (gI g b8 ((155 : Int32) + l1).toNatClampNeg)) (fun g13 => f_X12_notes_14 n l0 (l1 + (1 : Int32)) g13))))))
def f_X12_notes (l0 : Nat) (g : G) : Option (Unit × G) :=
  dr (gR g l0 1) (fun b1 => gdK g b1 14 (gdI (103 : Int32) (gN g b1) (if (gI g b1 (103 : Int32).toNatClampNeg) = (10 : Int32) then (f_X12_notes_14 FU l0 (0 : Int32) g) else (f_X12_notes_57 l0 g))))
def f_X12_lead (l0 : Nat) (l1 : Int32) (l2 : Int32) (l3 : Int32) (g : G) : Option (Int32 × G) :=
  lg (sI g l0 0 (0 : Int32)) (fun g1 => bd (f_X12_whyLead l0 (l1.toInt64) (l2.toInt64) (l3.toInt64) g1) (fun v3 g4 => if v3 = 0 then (bd (f_X12_keeps l0 g4) (fun v8 g9 => bd (f_X12_costNow l0 l1 l2 g9) (fun v12 g13 => bd (f_X12_leads l0 l1 l2 g13) (fun v16 g17 => bd (f_X12_notes l0 g17) (fun v20 g21 => some (v12, g21)))))) else (some (((-10 : Int32) - v3), g4))))
def f_X0_turnWall (l0 : Nat) (l1 : Int32) (g : G) : Option (Int32 × G) :=
  dr (gR g l0 0) (fun b1 => gdK g b1 7 (bd (f_X7_isCell b1 l1 g) (fun v4 g5 => if (b2i v4) = 0 then (some ((-1 : Int32), g5)) else (bd (f_X0_firstPairAt l0 l1 g5) (fun v9 g10 => if v9 = (-1 : Int32) then (lg (sL g10 l0 1 ((gL g10 l0 1) ^^^ ((1 : Int64) <<< (l1.toInt64 &&& 63)))) (fun g14 => bd (f_X0_isWall l0 l1 g14) (fun v16 g17 => if (b2i v16) = 0 then (some ((0 : Int32), g17)) else (some ((1 : Int32), g17))))) else (some ((-2 : Int32), g10)))))))
def f_X11_deedAnswer (l0 : Nat) (l1 : Int32) (g : G) : Option (Int32 × G) :=
  if 0 ≤ l1 then (bd (f_X11_keepSpare l0 g) (fun v2 g3 => some (l1, g3))) else (some (((-10 : Int32) + l1), g))
def f_X11_wall (l0 : Nat) (l1 : Int32) (g : G) : Option (Int32 × G) :=
  dr (gR g l0 5) (fun b1 => dr (gR g l0 4) (fun b3 => gdK g b1 0 (gdK g b3 0 (bd (f_X0_copyFrom b1 b3 g) (fun v7 g8 => dr (gR g8 l0 4) (fun b11 => gdK g8 b11 0 (bd (f_X0_turnWall b11 l1 g8) (fun v14 g15 => bd (f_X11_deedAnswer l0 v14 g15) (fun v18 g19 => some (v18, g19))))))))))
def f_X12_whyWall (l0 : Nat) (l1 : Int64) (g : G) : Option (Int32 × G) :=
  bd (f_X12_isCell l0 l1 g) (fun v1 g2 => if (b2i v1) = 0 then (some ((1 : Int32), g2)) else (bd (f_X12_twinsIn l0 (l1.toInt32) (-1 : Int32) g2) (fun v6 g7 => if v6 ≤ 0 then (some ((0 : Int32), g7)) else (some ((2 : Int32), g7)))))
def f_X12_wall (l0 : Nat) (l1 : Int32) (g : G) : Option (Int32 × G) :=
  lg (sI g l0 0 (0 : Int32)) (fun g1 => bd (f_X12_whyWall l0 (l1.toInt64) g1) (fun v3 g4 => if v3 = 0 then (bd (f_X12_keeps l0 g4) (fun v8 g9 => dr (gR g9 l0 1) (fun b12 => gdK g9 b12 14 (gdI ((52 : Int32) + l1) (gN g9 b12) (lg (sI g9 b12 ((52 : Int32) + l1).toNatClampNeg ((gI g9 b12 ((52 : Int32) + l1).toNatClampNeg) ^^^ (1 : Int32))) (fun g16 => bd (f_X12_notes l0 g16) (fun v18 g19 => dr (gR g19 l0 1) (fun b22 => gdK g19 b22 14 (gdI ((52 : Int32) + l1) (gN g19 b22) (some ((gI g19 b22 ((52 : Int32) + l1).toNatClampNeg), g19))))))))))) else (some (((-10 : Int32) - v3), g4))))
def f_X11_put (l0 : Nat) (l1 : Int32) (l2 : Int32) (l3 : Int32) (g : G) : Option (Int32 × G) :=
  dr (gR g l0 5) (fun b1 => dr (gR g l0 4) (fun b3 => gdK g b1 0 (gdK g b3 0 (bd (f_X0_copyFrom b1 b3 g) (fun v7 g8 => dr (gR g8 l0 4) (fun b11 => gdK g8 b11 0 (bd (f_X0_place b11 l1 l2 l3 g8) (fun v14 g15 => bd (f_X11_deedAnswer l0 v14 g15) (fun v18 g19 => some (v18, g19))))))))))
def f_X12_put (l0 : Nat) (l1 : Int32) (l2 : Int32) (l3 : Int32) (g : G) : Option (Int32 × G) :=
  lg (sI g l0 0 (0 : Int32)) (fun g1 => bd (f_X12_isPair l0 (l1.toInt64) g1) (fun v3 g4 => if (b2i v3) = 0 then (some ((-11 : Int32), g4)) else (bd (f_X12_isCell l0 (l2.toInt64) g4) (fun v8 g9 => if (b2i v8) = 0 then (some ((-11 : Int32), g9)) else (bd (f_X12_isCell l0 (l3.toInt64) g9) (fun v13 g14 => if (b2i v13) = 0 then (some ((-11 : Int32), g14)) else (bd (f_X12_isFree l0 l1 l2 g14) (fun v18 g19 => if (b2i v18) = 0 then (some ((-12 : Int32), g19)) else (bd (f_X12_isFree l0 l1 l3 g19) (fun v23 g24 => if (b2i v23) = 0 then (some ((-12 : Int32), g24)) else (bd (f_X12_keeps l0 g24) (fun v28 g29 => dr (gR g29 l0 1) (fun b32 => gdK g29 b32 14 (gdI ((88 : Int32) + ((2 : Int32) * l1)) (gN g29 b32) (lg (sI g29 b32 ((88 : Int32) + ((2 : Int32) * l1)).toNatClampNeg l2) (fun g36 => gdI (((88 : Int32) + ((2 : Int32) * l1)) + (1 : Int32)) (gN g36 b32) (lg (sI g36 b32 (((88 : Int32) + ((2 : Int32) * l1)) + (1 : Int32)).toNatClampNeg l3) (fun g39 => bd (f_X12_apart l0 l2 l3 g39) (fun v41 g42 => gdI ((94 : Int32) + l1) (gN g42 b32) (lg (sI g42 b32 ((94 : Int32) + l1).toNatClampNeg v41) (fun g46 => dr (gR g46 l0 1) (fun b48 => gdK g46 b48 14 (gdI ((100 : Int32) + l1) (gN g46 b48) (lg (sI g46 b48 ((100 : Int32) + l1).toNatClampNeg (0 : Int32)) (fun g52 => bd (f_X12_isDone l0 l1 g52) (fun v54 g55 => bd (f_X12_notes l0 g55) (fun v58 g59 => dr (gR g59 l0 1) (fun b62 => gdK g59 b62 14 (gdI ((94 : Int32) + l1) (gN g59 b62) (some ((gI g59 b62 ((94 : Int32) + l1).toNatClampNeg), g59)))))))))))))))))))))))))))))))
def f_X0_feel (l0 : Nat) (l1 : Int32) (l2 : Int32) (g : G) : Option (Int32 × G) :=
  bd (f_X0_isPair l0 l1 g) (fun v1 g2 => if (b2i v1) = 0 then (some ((-1 : Int32), g2)) else (if l2 < 0 then (some ((-1 : Int32), g2)) else (if l2 < (10 : Int32) then (dr (gR g2 l0 4) (fun b8 => gdK g2 b8 14 (gdI l1 (gN g2 b8) (li (gI g2 b8 l1.toNatClampNeg) (fun y12 => lg (sI g2 b8 l1.toNatClampNeg l2) (fun g14 => some (y12, g14))))))) else (some ((-1 : Int32), g2)))))
def f_X11_mood (l0 : Nat) (l1 : Int32) (l2 : Int32) (g : G) : Option (Int32 × G) :=
  dr (gR g l0 5) (fun b1 => dr (gR g l0 4) (fun b3 => gdK g b1 0 (gdK g b3 0 (bd (f_X0_copyFrom b1 b3 g) (fun v7 g8 => dr (gR g8 l0 4) (fun b11 => gdK g8 b11 0 (bd (f_X0_feel b11 l1 l2 g8) (fun v14 g15 => bd (f_X11_deedAnswer l0 v14 g15) (fun v18 g19 => some (v18, g19))))))))))
def f_X12_mood (l0 : Nat) (l1 : Int32) (l2 : Int32) (g : G) : Option (Int32 × G) :=
  lg (sI g l0 0 (0 : Int32)) (fun g1 => bd (f_X12_isPair l0 (l1.toInt64) g1) (fun v3 g4 => if (b2i v3) = 0 then (some ((-11 : Int32), g4)) else (bd (f_X12_within (l2.toInt64) (0 : Int64) (9 : Int64) g4) (fun v8 g9 => if (b2i v8) = 0 then (some ((-11 : Int32), g9)) else (bd (f_X12_keeps l0 g9) (fun v13 g14 => dr (gR g14 l0 1) (fun b17 => gdK g14 b17 14 (gdI ((97 : Int32) + l1) (gN g14 b17) (lg (sI g14 b17 ((97 : Int32) + l1).toNatClampNeg l2) (fun g21 => bd (f_X12_notes l0 g21) (fun v23 g24 => dr (gR g24 l0 19) (fun b27 => gdK g24 b27 14 (gdI ((45 : Int32) + l1) (gN g24 b27) (some ((gI g24 b27 ((45 : Int32) + l1).toNatClampNeg), g24)))))))))))))))
def f_X5_goBack (l0 : Nat) (l1 : Int32) (l2 : Nat) (g : G) : Option (Unit × G) :=
  if l1 < (1 : Int32) then (some ((), g)) else (if (gI g l0 0) < l1 then (some ((), g)) else (lg (sI g l0 0 ((gI g l0 0) - l1)) (fun g3 => dr (gR g3 l0 2) (fun b5 => gdK g3 b5 17 (gdI (((gI g3 l0 1) + (gI g3 l0 0)) - ((gI g3 l0 1) + (gI g3 l0 0)) / (10 : Int32) * (10 : Int32)) (gN g3 b5) (dr (gR g3 b5 (((gI g3 l0 1) + (gI g3 l0 0)) - ((gI g3 l0 1) + (gI g3 l0 0)) / (10 : Int32) * (10 : Int32)).toNatClampNeg) (fun b9 => gdK g3 b9 0 (bd (f_X0_copyFrom l2 b9 g3) (fun v12 g13 => some ((), g13))))))))))
def f_X11_undo (l0 : Nat) (l1 : Int32) (g : G) : Option (Int32 × G) :=
  if l1 < (1 : Int32) then (some ((-3 : Int32), g)) else (if (10 : Int32) < l1 then (some ((-3 : Int32), g)) else (dr (gR g l0 15) (fun b3 => gdK g b3 5 (if l1 ≤ (gI g b3 0) then (dr (gR g l0 4) (fun b7 => gdK g b7 0 (bd (f_X5_goBack b3 l1 b7 g) (fun v10 g11 => bd (f_X11_forgetWays l0 g11) (fun v14 g15 => dr (gR g15 l0 15) (fun b18 => gdK g15 b18 5 (some ((gI g15 b18 0), g15)))))))) else (some ((-3 : Int32), g))))))
def f_X12_undo_44 : Nat → Nat → Int32 → G → Option (Int32 × G)
  | 0, _, _, _ => none
  | n + 1, l0, l2, g =>
  if (51 : Int32) ≤ l2 then (dr (gR g l0 1) (fun b2 => gdK g b2 14 (gdI (103 : Int32) (gN g b2) (some ((gI g b2 (103 : Int32).toNatClampNeg), g))))) else (dr (gR g l0 1) (fun b6 => gdK g b6 14 (gdI (103 : Int32) (gN g b6) (gdI (((104 : Int32) + ((51 : Int32) * (gI g b6 (103 : Int32).toNatClampNeg))) + l2) (gN g b6) (gdI ((52 : Int32) + l2) (gN g b6) (lg (sI g b6 ((52 : Int32) + l2).toNatClampNeg (gI g b6 (((104 : Int32) + ((51 : Int32) * (gI g b6 (103 : Int32).toNatClampNeg))) + l2).toNatClampNeg)) (fun g12 => f_X12_undo_44 n l0 (l2 + (1 : Int32)) g12)))))))
def f_X12_undo (l0 : Nat) (l1 : Int32) (g : G) : Option (Int32 × G) :=
  lg (sI g l0 0 (0 : Int32)) (fun g1 => bd (f_X12_within (l1.toInt64) (1 : Int64) (10 : Int64) g1) (fun v3 g4 => if (b2i v3) = 0 then (some ((-3 : Int32), g4)) else (dr (gR g4 l0 1) (fun b8 => gdK g4 b8 14 (gdI (103 : Int32) (gN g4 b8) (if l1 ≤ (gI g4 b8 (103 : Int32).toNatClampNeg) then (lg (sI g4 b8 (103 : Int32).toNatClampNeg ((gI g4 b8 (103 : Int32).toNatClampNeg) - l1)) (fun g13 => f_X12_undo_44 FU l0 (0 : Int32) g13)) else (some ((-3 : Int32), g4))))))))
def f_X11_isTray (l0 : Int32) (g : G) : Option (Bool × G) :=
  if l0 < 0 then (some (false, g)) else (if (4 : Int32) ≤ l0 then (some (false, g)) else (some (true, g)))
def f_X10_isMissing (l0 : Nat) (g : G) : Option (Bool × G) :=
  if (gI g l0 1) = (-1 : Int32) then (some (true, g)) else (some (false, g))
def f_X10_at (l0 : Nat) (l1 : Int32) (g : G) : Option (Int64 × G) :=
  if l1 < 0 then (some ((0 : Int64), g)) else (if (40 : Int32) ≤ l1 then (some ((0 : Int64), g)) else (dr (gR g l0 2) (fun b3 => gdK g b3 15 (gdI l1 (gN g b3) (some ((gL g b3 l1.toNatClampNeg), g))))))
def f_X0_act_177 (l4 : Int32) (g : G) : Option (Int32 × G) :=
  bd (f_J9_min_7cf53 l4 (0 : Int32) g) (fun v1 g2 => some (v1, g2))
def f_X0_act_141 (l0 : Nat) (l2 : Int64) (l4 : Int32) (g : G) : Option (Int32 × G) :=
  if (lg_cmp l2 (2000 : Int64)) < 0 then (f_X0_act_177 l4 g) else (if 0 < (lg_cmp l2 (2099 : Int64)) then (f_X0_act_177 l4 g) else (bd (f_X0_feel l0 (((l2.toInt32) - (2000 : Int32)) / (10 : Int32)) ((l2.toInt32) - (l2.toInt32) / (10 : Int32) * (10 : Int32)) g) (fun v3 g4 => f_X0_act_177 v3 g4)))
def f_X0_act_107 (l0 : Nat) (l2 : Int64) (g : G) : Option (Int32 × G) :=
  if (lg_cmp l2 (1000 : Int64)) < 0 then (f_X0_act_141 l0 l2 (-1 : Int32) g) else (if 0 < (lg_cmp l2 (1099 : Int64)) then (f_X0_act_141 l0 l2 (-1 : Int32) g) else (bd (f_X0_turnWall l0 ((l2.toInt32) - (1000 : Int32)) g) (fun v3 g4 => f_X0_act_177 v3 g4)))
def f_X0_act (l0 : Nat) (l1 : Nat) (l2 : Int64) (g : G) : Option (Int32 × G) :=
  if (lg_cmp l2 (0 : Int64)) < 0 then (f_X0_act_107 l0 l2 g) else (if 0 < (lg_cmp l2 (399 : Int64)) then (f_X0_act_107 l0 l2 g) else (li (l2.toInt32) (fun y3 => li (y3 / (100 : Int32)) (fun y5 => bd (f_X0_wouldBe l0 l1 y5 ((y3 / (10 : Int32)) - (y3 / (10 : Int32)) / (10 : Int32) * (10 : Int32)) (y3 - y3 / (10 : Int32) * (10 : Int32)) g) (fun v7 g8 => if 0 ≤ v7 then (bd (f_X0_standOf l0 y5 g8) (fun v12 g13 => bd (f_X0_go l0 y5 v7 g13) (fun v16 g17 => dr (gR g17 l0 0) (fun b20 => gdK g17 b20 7 (bd (f_X7_apart b20 (v12 / (64 : Int32)) (v7 / (64 : Int32)) g17) (fun v23 g24 => dr (gR g24 l0 0) (fun b27 => gdK g24 b27 7 (bd (f_X7_apart b27 (v12 - v12 / (64 : Int32) * (64 : Int32)) (v7 - v7 / (64 : Int32) * (64 : Int32)) g24) (fun v30 g31 => some ((v23 + v30), g31)))))))))) else (some (v7, g8)))))))
def f_J6_bitCount_0f7a4 (l0 : Int32) (g : G) : Option (Int32 × G) :=
  li (l0 - (((l0.toUInt32 >>> ((1 : Int32).toUInt32 &&& Int32.toUInt32 31)).toInt32) &&& (1431655765 : Int32))) (fun y1 => li ((y1 &&& (858993459 : Int32)) + (((y1.toUInt32 >>> ((2 : Int32).toUInt32 &&& Int32.toUInt32 31)).toInt32) &&& (858993459 : Int32))) (fun y3 => li ((y3 + ((y3.toUInt32 >>> ((4 : Int32).toUInt32 &&& Int32.toUInt32 31)).toInt32)) &&& (252645135 : Int32)) (fun y5 => li (y5 + ((y5.toUInt32 >>> ((8 : Int32).toUInt32 &&& Int32.toUInt32 31)).toInt32)) (fun y7 => li (y7 + ((y7.toUInt32 >>> ((16 : Int32).toUInt32 &&& Int32.toUInt32 31)).toInt32)) (fun y9 => some ((y9 &&& (63 : Int32)), g))))))
def f_X0_allDone_31 (k4 : Nat → Int32 → Int32 → G → Option (Int32 × G)) (l0 : Nat) (l2 : Int32) (s0 : Int32) (s1 : Int32) (g : G) : Option (Int32 × G) :=
  li (s1 + s0) (fun y1 => k4 l0 y1 (l2 + (1 : Int32)) g)
def f_X0_allDone_4 : Nat → Nat → Int32 → Int32 → G → Option (Int32 × G)
  | 0, _, _, _, _ => none
  | n + 1, l0, l1, l2, g =>
  if (3 : Int32) ≤ l2 then (some (l1, g)) else (bd (f_X0_isPair l0 l2 g) (fun v2 g3 => if (b2i v2) = 0 then (f_X0_allDone_31 (f_X0_allDone_4 n) l0 l2 (0 : Int32) l1 g3) else (dr (gR g3 l0 5) (fun b7 => gdK g3 b7 14 (gdI l2 (gN g3 b7) (bd (f_J6_bitCount_0f7a4 (gI g3 b7 l2.toNatClampNeg) g3) (fun v11 g12 => f_X0_allDone_31 (f_X0_allDone_4 n) l0 l2 v11 l1 g12)))))))
def f_X0_allDone (l0 : Nat) (g : G) : Option (Int32 × G) :=
  f_X0_allDone_4 FU l0 (0 : Int32) (0 : Int32) g
def f_X11_judgement (l0 : Nat) (l1 : Int32) (l2 : Int32) (l3 : Int32) (l4 : Int32) (g : G) : Option (Int32 × G) :=
  if l1 = 0 then (some (l2, g)) else (if l1 = (1 : Int32) then (some (l3, g)) else (if l1 = (2 : Int32) then (dr (gR g l0 5) (fun b4 => gdK g b4 0 (bd (f_X0_allDone b4 g) (fun v7 g8 => some (v7, g8))))) else (some (l4, g))))
def f_X11_judge_53 : Nat → Nat → Int32 → Nat → Int32 → Int32 → G → Option (Int32 × G)
  | 0, _, _, _, _, _, _ => none
  | n + 1, l0, l2, l3, l4, l5, g =>
  if (gI g l3 0) ≤ l5 then (bd (f_X11_judgement l0 l2 (-1 : Int32) (0 : Int32) l4 g) (fun v2 g3 => some (v2, g3))) else (dr (gR g l0 5) (fun b6 => dr (gR g l0 7) (fun b8 => bd (f_X10_at l3 l5 g) (fun v10 g11 => gdK g11 b6 0 (gdK g11 b8 9 (bd (f_X0_act b6 b8 v10 g11) (fun v16 g17 => if 0 ≤ v16 then (li (l4 + v16) (fun y21 => f_X11_judge_53 n l0 l2 l3 y21 (l5 + (1 : Int32)) g17)) else (bd (f_X11_judgement l0 l2 l5 (-v16) l4 g17) (fun v23 g24 => some (v23, g24))))))))))
def f_X11_judge (l0 : Nat) (l1 : Int32) (l2 : Int32) (g : G) : Option (Int32 × G) :=
  bd (f_X11_isTray l1 g) (fun v1 g2 => if (b2i v1) = 0 then (some ((-2 : Int32), g2)) else (if l2 < 0 then (some ((-2 : Int32), g2)) else (if l2 ≤ (3 : Int32) then (dr (gR g2 l0 16) (fun b8 => gdK g2 b8 18 (gdI l1 (gN g2 b8) (dr (gR g2 b8 l1.toNatClampNeg) (fun b12 => gdK g2 b12 10 (bd (f_X10_isMissing b12 g2) (fun v15 g16 => if (b2i v15) = 0 then (dr (gR g16 l0 5) (fun b20 => dr (gR g16 l0 4) (fun b22 => gdK g16 b20 0 (gdK g16 b22 0 (bd (f_X0_copyFrom b20 b22 g16) (fun v26 g27 => f_X11_judge_53 FU l0 l2 b12 (0 : Int32) (0 : Int32) g27)))))) else (some ((-6 : Int32), g16))))))))) else (some ((-2 : Int32), g2)))))
def f_X12_noTray (l0 : Nat) (l1 : Int32) (g : G) : Option (Int32 × G) :=
  bd (f_X12_within (l1.toInt64) (0 : Int64) (3 : Int64) g) (fun v1 g2 => if (b2i v1) = 0 then (some ((-2 : Int32), g2)) else (dr (gR g2 l0 33) (fun b6 => gdK g2 b6 14 (gdI l1 (gN g2 b6) (if (gI g2 b6 l1.toNatClampNeg) = (-1 : Int32) then (some ((-6 : Int32), g2)) else (some ((0 : Int32), g2)))))))
def f_X12_whyNot (l0 : Nat) (l1 : Int64) (g : G) : Option (Int32 × G) :=
  bd (f_X12_within l1 (0 : Int64) (399 : Int64) g) (fun v1 g2 => if (b2i v1) = 0 then (bd (f_X12_within l1 (1000 : Int64) (1099 : Int64) g2) (fun v6 g7 => if (b2i v6) = 0 then (bd (f_X12_within l1 (2000 : Int64) (2099 : Int64) g7) (fun v11 g12 => if (b2i v11) = 0 then (some ((1 : Int32), g12)) else (bd (f_X12_isPair l0 ((l1 - (2000 : Int64)) / (10 : Int64)) g12) (fun v16 g17 => if (b2i v16) = 0 then (some ((1 : Int32), g17)) else (some ((0 : Int32), g17)))))) else (bd (f_X12_whyWall l0 (l1 - (1000 : Int64)) g7) (fun v21 g22 => some (v21, g22))))) else (bd (f_X12_whyLead l0 (l1 / (100 : Int64)) ((l1 / (10 : Int64)) - (l1 / (10 : Int64)) / (10 : Int64) * (10 : Int64)) (l1 - l1 / (10 : Int64) * (10 : Int64)) g2) (fun v25 g26 => some (v25, g26))))
def f_X12_does (l0 : Nat) (l1 : Int32) (g : G) : Option (Unit × G) :=
  if (400 : Int32) ≤ l1 then (if (2000 : Int32) ≤ l1 then (dr (gR g l0 1) (fun b3 => gdK g b3 14 (gdI ((97 : Int32) + ((l1 - (2000 : Int32)) / (10 : Int32))) (gN g b3) (lg (sI g b3 ((97 : Int32) + ((l1 - (2000 : Int32)) / (10 : Int32))).toNatClampNeg (l1 - l1 / (10 : Int32) * (10 : Int32))) (fun g7 => some ((), g7)))))) else (dr (gR g l0 1) (fun b9 => gdK g b9 14 (gdI (((52 : Int32) + l1) - (1000 : Int32)) (gN g b9) (lg (sI g b9 (((52 : Int32) + l1) - (1000 : Int32)).toNatClampNeg ((gI g b9 (((52 : Int32) + l1) - (1000 : Int32)).toNatClampNeg) ^^^ (1 : Int32))) (fun g13 => some ((), g13))))))) else (bd (f_X12_leads l0 (l1 / (100 : Int32)) ((l1 / (10 : Int32)) - (l1 / (10 : Int32)) / (10 : Int32) * (10 : Int32)) g) (fun v15 g16 => some ((), g16)))
def f_X12_tells_12 : Nat → Nat → Int32 → Int32 → G → Option (Int32 × G)
  | 0, _, _, _, _ => none
  | n + 1, l0, l1, l2, g =>
  dr (gR g l0 34) (fun b1 => gdK g b1 14 (gdI l1 (gN g b1) (if (gI g b1 l1.toNatClampNeg) ≤ l2 then (some ((gI g b1 l1.toNatClampNeg), g)) else (dr (gR g l0 35) (fun b6 => gdK g b6 15 (gdI (((40 : Int32) * l1) + l2) (gN g b6) (bd (f_X12_whyNot l0 (gL g b6 (((40 : Int32) * l1) + l2).toNatClampNeg) g) (fun v10 g11 => lg (sI g11 l0 21 v10) (fun g14 => if (gI g14 l0 21) = 0 then (dr (gR g14 l0 35) (fun b17 => gdK g14 b17 15 (gdI (((40 : Int32) * l1) + l2) (gN g14 b17) (bd (f_X12_does l0 ((gL g14 b17 (((40 : Int32) * l1) + l2).toNatClampNeg).toInt32) g14) (fun v21 g22 => f_X12_tells_12 n l0 l1 (l2 + (1 : Int32)) g22))))) else (some (l2, g14)))))))))))
def f_X12_tells (l0 : Nat) (l1 : Int32) (g : G) : Option (Int32 × G) :=
  lg (sI g l0 21 (0 : Int32)) (fun g1 => lg (sI g1 l0 20 (0 : Int32)) (fun g3 => f_X12_tells_12 FU l0 l1 (0 : Int32) g3))
def f_X12_doneAll_4 : Nat → Nat → Int32 → Int32 → G → Option (Int32 × G)
  | 0, _, _, _, _ => none
  | n + 1, l0, l1, l2, g =>
  dr (gR g l0 1) (fun b1 => gdK g b1 14 (gdI (3 : Int32) (gN g b1) (if (gI g b1 (3 : Int32).toNatClampNeg) ≤ l2 then (some (l1, g)) else (gdI ((100 : Int32) + l2) (gN g b1) (li (l1 + (((gI g b1 ((100 : Int32) + l2).toNatClampNeg) &&& (1 : Int32)) + ((gI g b1 ((100 : Int32) + l2).toNatClampNeg) >>> ((1 : Int32) &&& 31)))) (fun y7 => f_X12_doneAll_4 n l0 y7 (l2 + (1 : Int32)) g))))))
def f_X12_doneAll (l0 : Nat) (g : G) : Option (Int32 × G) :=
  f_X12_doneAll_4 FU l0 (0 : Int32) (0 : Int32) g
def f_X12_isAgain_2 : Nat → Nat → Int32 → G → Option (Unit × G)
  | 0, _, _, _ => none
  | n + 1, l0, l1, g =>
  if (51 : Int32) ≤ l1 then (some ((), g)) else (dr (gR g l0 1) (fun b2 => dr (gR g l0 19) (fun b4 => gdK g b4 14 (gdI l1 (gN g b4) (gdK g b2 14 (gdI ((52 : Int32) + l1) (gN g b2) (lg (sI g b2 ((52 : Int32) + l1).toNatClampNeg (gI g b4 l1.toNatClampNeg)) (fun g10 => f_X12_isAgain_2 n l0 (l1 + (1 : Int32)) g10))))))))
def f_X12_isAgain (l0 : Nat) (g : G) : Option (Unit × G) :=
  f_X12_isAgain_2 FU l0 (0 : Int32) g
def f_X12_judge (l0 : Nat) (l1 : Int32) (l2 : Int32) (g : G) : Option (Int32 × G) :=
  lg (sI g l0 0 (0 : Int32)) (fun g1 => bd (f_X12_within (l2.toInt64) (0 : Int64) (3 : Int64) g1) (fun v3 g4 => if (b2i v3) = 0 then (some ((-2 : Int32), g4)) else (bd (f_X12_noTray l0 l1 g4) (fun v8 g9 => if v8 = 0 then (bd (f_X12_keeps l0 g9) (fun v13 g14 => bd (f_X12_tells l0 l1 g14) (fun v17 g18 => bd (f_X12_doneAll l0 g18) (fun v21 g22 => bd (f_X12_isAgain l0 g22) (fun v25 g26 => if l2 = 0 then (if (gI g26 l0 21) = 0 then (some ((-1 : Int32), g26)) else (some (v17, g26))) else (if l2 = (1 : Int32) then (some ((gI g26 l0 21), g26)) else (if l2 = (2 : Int32) then (some (v21, g26)) else (some ((gI g26 l0 20), g26))))))))) else (some (v8, g9))))))
def f_X11_perform_84 (l0 : Nat) (l3 : Int32) (g : G) : Option (Int32 × G) :=
  if l3 ≤ 0 then (some (l3, g)) else (bd (f_X11_keepSpare l0 g) (fun v2 g3 => some (l3, g3)))
def f_X11_perform_43 : Nat → Nat → Nat → Int32 → Int32 → G → Option (Int32 × G)
  | 0, _, _, _, _, _ => none
  | n + 1, l0, l2, l3, l4, g =>
  if (gI g l2 0) ≤ l4 then (f_X11_perform_84 l0 l3 g) else (dr (gR g l0 4) (fun b2 => dr (gR g l0 7) (fun b4 => bd (f_X10_at l2 l4 g) (fun v6 g7 => gdK g7 b2 0 (gdK g7 b4 9 (bd (f_X0_act b2 b4 v6 g7) (fun v12 g13 => if 0 ≤ v12 then (f_X11_perform_43 n l0 l2 (l3 + (1 : Int32)) (l4 + (1 : Int32)) g13) else (f_X11_perform_84 l0 l3 g13))))))))
def f_X11_perform (l0 : Nat) (l1 : Int32) (g : G) : Option (Int32 × G) :=
  bd (f_X11_isTray l1 g) (fun v1 g2 => if (b2i v1) = 0 then (some ((-2 : Int32), g2)) else (dr (gR g2 l0 16) (fun b6 => gdK g2 b6 18 (gdI l1 (gN g2 b6) (dr (gR g2 b6 l1.toNatClampNeg) (fun b10 => gdK g2 b10 10 (bd (f_X10_isMissing b10 g2) (fun v13 g14 => if (b2i v13) = 0 then (dr (gR g14 l0 5) (fun b18 => dr (gR g14 l0 4) (fun b20 => gdK g14 b18 0 (gdK g14 b20 0 (bd (f_X0_copyFrom b18 b20 g14) (fun v24 g25 => f_X11_perform_43 FU l0 b10 (0 : Int32) (0 : Int32) g25)))))) else (some ((-6 : Int32), g14))))))))))
def f_X12_perform (l0 : Nat) (l1 : Int32) (g : G) : Option (Int32 × G) :=
  lg (sI g l0 0 (0 : Int32)) (fun g1 => bd (f_X12_noTray l0 l1 g1) (fun v3 g4 => if v3 = 0 then (bd (f_X12_keeps l0 g4) (fun v8 g9 => bd (f_X12_tells l0 l1 g9) (fun v12 g13 => if v12 ≤ 0 then (some (v12, g13)) else (bd (f_X12_notes l0 g13) (fun v17 g18 => some (v12, g18)))))) else (some (v3, g4))))
def f_X11_drawn (l0 : Int32) (g : G) : Option (Int32 × G) :=
  some ((((1103515245 : Int32) * l0) + (12345 : Int32)), g)
def f_X11_day_147 (k33 : Nat → Int32 → Int32 → Int32 → Int32 → G → Option (Int32 × G)) (l0 : Nat) (l2 : Int32) (l3 : Int32) (l4 : Int32) (l5 : Int32) (g : G) : Option (Int32 × G) :=
  k33 l0 l2 l3 l4 (l5 + (1 : Int32)) g
def f_X11_day_127 (k33 : Nat → Int32 → Int32 → Int32 → Int32 → G → Option (Int32 × G)) (l0 : Nat) (l2 : Int32) (l3 : Int32) (l4 : Int32) (l5 : Int32) (l6 : Int32) (g : G) : Option (Int32 × G) :=
  dr (gR g l0 4) (fun b1 => dr (gR g l0 7) (fun b3 => gdK g b1 0 (gdK g b3 9 (bd (f_X0_act b1 b3 (l6.toInt64) g) (fun v7 g8 => if v7 < 0 then (f_X11_day_147 k33 l0 l2 l3 l4 l5 g8) else (f_X11_day_147 k33 l0 l2 l3 (l4 + (1 : Int32)) l5 g8))))))
def f_X11_day_33 : Nat → Nat → Int32 → Int32 → Int32 → Int32 → G → Option (Int32 × G)
  | 0, _, _, _, _, _, _ => none
  | n + 1, l0, l2, l3, l4, l5, g =>
  if l2 ≤ l5 then (if l4 ≤ 0 then (some (l4, g)) else (bd (f_X11_keepSpare l0 g) (fun v3 g4 => some (l4, g4)))) else (bd (f_X11_drawn l3 g) (fun v7 g8 => if (((v7.toUInt32 >>> ((16 : Int32).toUInt32 &&& Int32.toUInt32 31)).toInt32) - ((v7.toUInt32 >>> ((16 : Int32).toUInt32 &&& Int32.toUInt32 31)).toInt32) / (6 : Int32) * (6 : Int32)) = (5 : Int32) then (bd (f_X11_drawn v7 g8) (fun v30 g31 => li ((1000 : Int32) + (((v30.toUInt32 >>> ((16 : Int32).toUInt32 &&& Int32.toUInt32 31)).toInt32) - ((v30.toUInt32 >>> ((16 : Int32).toUInt32 &&& Int32.toUInt32 31)).toInt32) / (36 : Int32) * (36 : Int32))) (fun y34 => f_X11_day_127 (f_X11_day_33 n) l0 l2 v30 l4 l5 y34 g31))) else (bd (f_X11_drawn v7 g8) (fun v12 g13 => li (((v12.toUInt32 >>> ((16 : Int32).toUInt32 &&& Int32.toUInt32 31)).toInt32) - ((v12.toUInt32 >>> ((16 : Int32).toUInt32 &&& Int32.toUInt32 31)).toInt32) / (2 : Int32) * (2 : Int32)) (fun y16 => bd (f_X11_drawn v12 g13) (fun v18 g19 => li (((v18.toUInt32 >>> ((16 : Int32).toUInt32 &&& Int32.toUInt32 31)).toInt32) - ((v18.toUInt32 >>> ((16 : Int32).toUInt32 &&& Int32.toUInt32 31)).toInt32) / (3 : Int32) * (3 : Int32)) (fun y22 => bd (f_X11_drawn v18 g19) (fun v24 g25 => li ((((100 : Int32) * y22) + ((10 : Int32) * y16)) + (((v24.toUInt32 >>> ((16 : Int32).toUInt32 &&& Int32.toUInt32 31)).toInt32) - ((v24.toUInt32 >>> ((16 : Int32).toUInt32 &&& Int32.toUInt32 31)).toInt32) / (4 : Int32) * (4 : Int32))) (fun y28 => f_X11_day_127 (f_X11_day_33 n) l0 l2 v24 l4 l5 y28 g25)))))))))
def f_X11_day (l0 : Nat) (l1 : Int32) (l2 : Int32) (g : G) : Option (Int32 × G) :=
  if l2 < (1 : Int32) then (some ((-3 : Int32), g)) else (if l2 ≤ (40 : Int32) then (dr (gR g l0 5) (fun b3 => dr (gR g l0 4) (fun b5 => gdK g b3 0 (gdK g b5 0 (bd (f_X0_copyFrom b3 b5 g) (fun v9 g10 => f_X11_day_33 FU l0 l2 l1 (0 : Int32) (0 : Int32) g10)))))) else (some ((-3 : Int32), g)))
def f_X12_draw (l0 : Nat) (l1 : Int32) (g : G) : Option (Int32 × G) :=
  lg (sI g l0 22 (((1103515245 : Int32) * (gI g l0 22)) + (12345 : Int32))) (fun g1 => gdZ l1 (some (((((gI g1 l0 22).toUInt32 >>> ((16 : Int32).toUInt32 &&& Int32.toUInt32 31)).toInt32) - (((gI g1 l0 22).toUInt32 >>> ((16 : Int32).toUInt32 &&& Int32.toUInt32 31)).toInt32) / l1 * l1), g1)))
def f_X12_drawnDeed (l0 : Nat) (g : G) : Option (Int32 × G) :=
  bd (f_X12_draw l0 (6 : Int32) g) (fun v1 g2 => if v1 = (5 : Int32) then (bd (f_X12_draw l0 (36 : Int32) g2) (fun v18 g19 => some (((1000 : Int32) + v18), g19))) else (bd (f_X12_draw l0 (2 : Int32) g2) (fun v6 g7 => bd (f_X12_draw l0 (3 : Int32) g7) (fun v10 g11 => bd (f_X12_draw l0 (4 : Int32) g11) (fun v14 g15 => some (((((100 : Int32) * v10) + ((10 : Int32) * v6)) + v14), g15))))))
def f_X12_day_68 (k34 : Nat → Int32 → Int32 → Int32 → G → Option (Int32 × G)) (l0 : Nat) (l2 : Int32) (l3 : Int32) (l4 : Int32) (g : G) : Option (Int32 × G) :=
  k34 l0 l2 l3 (l4 + (1 : Int32)) g
def f_X12_day_34 : Nat → Nat → Int32 → Int32 → Int32 → G → Option (Int32 × G)
  | 0, _, _, _, _, _ => none
  | n + 1, l0, l2, l3, l4, g =>
  if l2 ≤ l4 then (if l3 ≤ 0 then (some (l3, g)) else (bd (f_X12_notes l0 g) (fun v3 g4 => some (l3, g4)))) else (bd (f_X12_drawnDeed l0 g) (fun v7 g8 => bd (f_X12_whyNot l0 (v7.toInt64) g8) (fun v11 g12 => if v11 = 0 then (bd (f_X12_does l0 v7 g12) (fun v16 g17 => f_X12_day_68 (f_X12_day_34 n) l0 l2 (l3 + (1 : Int32)) l4 g17)) else (f_X12_day_68 (f_X12_day_34 n) l0 l2 l3 l4 g12))))
def f_X12_day (l0 : Nat) (l1 : Int32) (l2 : Int32) (g : G) : Option (Int32 × G) :=
  lg (sI g l0 0 (0 : Int32)) (fun g1 => bd (f_X12_within (l2.toInt64) (1 : Int64) (40 : Int64) g1) (fun v3 g4 => if (b2i v3) = 0 then (some ((-3 : Int32), g4)) else (bd (f_X12_keeps l0 g4) (fun v8 g9 => lg (sI g9 l0 22 l1) (fun g12 => f_X12_day_34 FU l0 l2 (0 : Int32) (0 : Int32) g12)))))
def f_X11_isCellOrNone_19 (g : G) : Option (Bool × G) :=
  some (true, g)
def f_X11_isCellOrNone (l0 : Nat) (l1 : Int32) (g : G) : Option (Bool × G) :=
  if l1 = (-1 : Int32) then (f_X11_isCellOrNone_19 g) else (dr (gR g l0 4) (fun b2 => gdK g b2 0 (dr (gR g b2 0) (fun b5 => gdK g b5 7 (bd (f_X7_isCell b5 l1 g) (fun v8 g9 => if (b2i v8) = 0 then (some (false, g9)) else (f_X11_isCellOrNone_19 g9)))))))
def f_X11_isGoal (l0 : Nat) (l1 : Int32) (l2 : Int32) (l3 : Int32) (g : G) : Option (Bool × G) :=
  dr (gR g l0 4) (fun b1 => gdK g b1 0 (bd (f_X0_isPair b1 l1 g) (fun v4 g5 => if (b2i v4) = 0 then (some (false, g5)) else (bd (f_X11_isCellOrNone l0 l2 g5) (fun v9 g10 => if (b2i v9) = 0 then (some (false, g10)) else (bd (f_X11_isCellOrNone l0 l3 g10) (fun v14 g15 => if (b2i v14) = 0 then (some (false, g15)) else (some (true, g15)))))))))
def f_X4_add_112 (l0 : Nat) (l5 : Int32) (g : G) : Option (Int32 × G) :=
  dr (gR g l0 6) (fun b1 => gdK g b1 14 (gdI l5 (gN g b1) (some ((gI g b1 l5.toNatClampNeg), g))))
def f_X4_add (l0 : Nat) (l1 : Int32) (l2 : Int32) (l3 : Int32) (l4 : Int32) (g : G) : Option (Int32 × G) :=
  li (((l1 / (64 : Int32)) * (36 : Int32)) + (l1 - l1 / (64 : Int32) * (64 : Int32))) (fun y1 => if y1 < 0 then (some ((-1 : Int32), g)) else (if y1 < (1296 : Int32) then (dr (gR g l0 6) (fun b5 => gdK g b5 14 (gdI y1 (gN g b5) (if (gI g b5 y1.toNatClampNeg) = (-1 : Int32) then (if (256 : Int32) ≤ (gI g l0 0) then (f_X4_add_112 l0 y1 g) else (lg (sI g b5 y1.toNatClampNeg (gI g l0 0)) (fun g11 => dr (gR g11 l0 1) (fun b13 => gdK g11 b13 14 (gdI (gI g11 l0 0) (gN g11 b13) (lg (sI g11 b13 (gI g11 l0 0).toNatClampNeg l1) (fun g17 => dr (gR g17 l0 2) (fun b19 => gdK g17 b19 14 (gdI (gI g17 l0 0) (gN g17 b19) (lg (sI g17 b19 (gI g17 l0 0).toNatClampNeg l2) (fun g23 => dr (gR g23 l0 3) (fun b25 => gdK g23 b25 14 (gdI (gI g23 l0 0) (gN g23 b25) (lg (sI g23 b25 (gI g23 l0 0).toNatClampNeg l3) (fun g29 => dr (gR g29 l0 4) (fun b31 => gdK g29 b31 14 (gdI (gI g29 l0 0) (gN g29 b31) (lg (sI g29 b31 (gI g29 l0 0).toNatClampNeg l4) (fun g35 => lg (sI g35 l0 0 ((gI g35 l0 0) + (1 : Int32))) (fun g37 => f_X4_add_112 l0 y1 g37)))))))))))))))))))) else (f_X4_add_112 l0 y1 g))))) else (some ((-1 : Int32), g))))
def f_X4_has (l0 : Nat) (l1 : Int32) (g : G) : Option (Bool × G) :=
  if l1 < 0 then (some (false, g)) else (if (gI g l0 0) ≤ l1 then (some (false, g)) else (if (256 : Int32) ≤ l1 then (some (false, g)) else (some (true, g))))
def f_X4_fits_44 (g : G) : Option (Bool × G) :=
  some (true, g)
def f_X4_fits_26 (l0 : Nat) (l1 : Int32) (l3 : Int32) (g : G) : Option (Bool × G) :=
  if l3 = (-1 : Int32) then (f_X4_fits_44 g) else (dr (gR g l0 1) (fun b2 => gdK g b2 14 (gdI l1 (gN g b2) (if ((gI g b2 l1.toNatClampNeg) - (gI g b2 l1.toNatClampNeg) / (64 : Int32) * (64 : Int32)) = l3 then (f_X4_fits_44 g) else (some (false, g))))))
def f_X4_fits (l0 : Nat) (l1 : Int32) (l2 : Int32) (l3 : Int32) (g : G) : Option (Bool × G) :=
  bd (f_X4_has l0 l1 g) (fun v1 g2 => if (b2i v1) = 0 then (some (false, g2)) else (if l2 = (-1 : Int32) then (f_X4_fits_26 l0 l1 l3 g2) else (dr (gR g2 l0 1) (fun b7 => gdK g2 b7 14 (gdI l1 (gN g2 b7) (if ((gI g2 b7 l1.toNatClampNeg) / (64 : Int32)) = l2 then (f_X4_fits_26 l0 l1 l3 g2) else (some (false, g2))))))))
def f_X4_build_125 (k25 : Nat → Nat → Int32 → Int32 → Int32 → G → Option (Unit × G)) (k57 : Nat → Nat → Int32 → Int32 → Int32 → Int32 → G → Option (Unit × G)) (l0 : Nat) (l1 : Nat) (l3 : Int32) (l4 : Int32) (l5 : Int32) (l6 : Int32) (s0 : Int32) (s1 : Int32) (s2 : Nat) (g : G) : Option (Unit × G) :=
  gdI s1 (gN g s2) (lg (sI g s2 s1.toNatClampNeg s0) (fun g2 => k57 l0 l1 l3 l4 l5 (l6 + (1 : Int32)) g2))
def f_X4_build_57 (k25 : Nat → Nat → Int32 → Int32 → Int32 → G → Option (Unit × G)) : Nat → Nat → Nat → Int32 → Int32 → Int32 → Int32 → G → Option (Unit × G)
  | 0, _, _, _, _, _, _, _ => none
  | n + 1, l0, l1, l3, l4, l5, l6, g =>
  if (8 : Int32) ≤ l6 then (k25 l0 l1 l3 l4 (l5 + (1 : Int32)) g) else (dr (gR g l0 1) (fun b2 => gdK g b2 14 (gdI l5 (gN g b2) (bd (f_X9_step l1 (gI g b2 l5.toNatClampNeg) (l6 / (4 : Int32)) (l6 - l6 / (4 : Int32) * (4 : Int32)) g) (fun v6 g7 => dr (gR g7 l0 5) (fun b10 => if 0 ≤ v6 then (dr (gR g7 l0 2) (fun b13 => gdK g7 b13 14 (gdI l5 (gN g7 b13) (bd (f_X4_add l0 v6 ((gI g7 b13 l5.toNatClampNeg) + (1 : Int32)) l5 l6 g7) (fun v17 g18 => gdK g18 b10 14 (f_X4_build_125 k25 (f_X4_build_57 k25 n) l0 l1 l3 l4 l5 l6 v17 ((l5 * (8 : Int32)) + l6) b10 g18)))))) else (gdK g7 b10 14 (f_X4_build_125 k25 (f_X4_build_57 k25 n) l0 l1 l3 l4 l5 l6 (-1 : Int32) ((l5 * (8 : Int32)) + l6) b10 g7))))))))
def f_X4_build_25 : Nat → Nat → Nat → Int32 → Int32 → Int32 → G → Option (Unit × G)
  | 0, _, _, _, _, _, _ => none
  | n + 1, l0, l1, l3, l4, l5, g =>
  if (gI g l0 0) ≤ l5 then (some ((), g)) else (if (256 : Int32) ≤ l5 then (some ((), g)) else (bd (f_X4_fits l0 l5 l3 l4 g) (fun v3 g4 => if (b2i v3) = 0 then (f_X4_build_57 (f_X4_build_25 n) FU l0 l1 l3 l4 l5 (0 : Int32) g4) else (some ((), g4)))))
def f_X4_build (l0 : Nat) (l1 : Nat) (l2 : Int32) (l3 : Int32) (l4 : Int32) (g : G) : Option (Unit × G) :=
  dr (gR g l0 6) (fun b1 => gdK g b1 14 (bd (f_J7_fill_53178 b1 (-1 : Int32) g) (fun v4 g5 => lg (sI g5 l0 0 (0 : Int32)) (fun g8 => bd (f_X4_add l0 l2 (0 : Int32) (-1 : Int32) (-1 : Int32) g8) (fun v10 g11 => f_X4_build_25 FU l0 l1 l3 l4 (0 : Int32) g11)))))
def f_X11_graphOf_52 (l0 : Nat) (g : G) : Option (Nat × G) :=
  dr (gR g l0 8) (fun b1 => some (b1, g))
def f_X11_graphOf (l0 : Nat) (l1 : Int32) (g : G) : Option (Nat × G) :=
  if (gI g l0 10) = l1 then (f_X11_graphOf_52 l0 g) else (dr (gR g l0 7) (fun b2 => dr (gR g l0 4) (fun b4 => gdK g b2 9 (gdK g b4 0 (bd (f_X9_aim b2 b4 l1 g) (fun v8 g9 => dr (gR g9 l0 8) (fun b12 => dr (gR g9 l0 7) (fun b14 => dr (gR g9 l0 4) (fun b16 => gdK g9 b16 0 (bd (f_X0_standOf b16 l1 g9) (fun v19 g20 => gdK g20 b12 4 (gdK g20 b14 9 (bd (f_X4_build b12 b14 v19 (-2 : Int32) (-2 : Int32) g20) (fun v25 g26 => bd (f_X11_forgetWays l0 g26) (fun v29 g30 => lg (sI g30 l0 10 l1) (fun g33 => f_X11_graphOf_52 l0 g33))))))))))))))))
def f_X4_find_2 : Nat → Nat → Int32 → Int32 → Int32 → G → Option (Int32 × G)
  | 0, _, _, _, _, _ => none
  | n + 1, l0, l1, l2, l3, g =>
  if (gI g l0 0) ≤ l3 then (some ((-1 : Int32), g)) else (bd (f_X4_fits l0 l3 l1 l2 g) (fun v2 g3 => if (b2i v2) = 0 then (f_X4_find_2 n l0 l1 l2 (l3 + (1 : Int32)) g3) else (some (l3, g3))))
def f_X4_find (l0 : Nat) (l1 : Int32) (l2 : Int32) (g : G) : Option (Int32 × G) :=
  f_X4_find_2 FU l0 l1 l2 (0 : Int32) g
def f_X4_depthOf (l0 : Nat) (l1 : Int32) (g : G) : Option (Int32 × G) :=
  bd (f_X4_has l0 l1 g) (fun v1 g2 => if (b2i v1) = 0 then (some ((-1 : Int32), g2)) else (dr (gR g2 l0 2) (fun b6 => gdK g2 b6 14 (gdI l1 (gN g2 b6) (some ((gI g2 b6 l1.toNatClampNeg), g2))))))
def f_X11_soonest (l0 : Nat) (l1 : Int32) (l2 : Int32) (l3 : Int32) (g : G) : Option (Int32 × G) :=
  bd (f_X11_isGoal l0 l1 l2 l3 g) (fun v1 g2 => if (b2i v1) = 0 then (some ((-2 : Int32), g2)) else (bd (f_X11_graphOf l0 l1 g2) (fun v6 g7 => gdK g7 v6 4 (bd (f_X4_find v6 l2 l3 g7) (fun v11 g12 => bd (f_X4_depthOf v6 v11 g12) (fun v15 g16 => some (v15, g16)))))))
def f_X12_isGoalTold_37 (g : G) : Option (Bool × G) :=
  some (true, g)
def f_X12_isGoalTold_23 (l0 : Nat) (l3 : Int32) (g : G) : Option (Bool × G) :=
  if l3 = (-1 : Int32) then (f_X12_isGoalTold_37 g) else (bd (f_X12_isCell l0 (l3.toInt64) g) (fun v2 g3 => if (b2i v2) = 0 then (some (false, g3)) else (f_X12_isGoalTold_37 g3)))
def f_X12_isGoalTold (l0 : Nat) (l1 : Int32) (l2 : Int32) (l3 : Int32) (g : G) : Option (Bool × G) :=
  bd (f_X12_isPair l0 (l1.toInt64) g) (fun v1 g2 => if (b2i v1) = 0 then (some (false, g2)) else (if l2 = (-1 : Int32) then (f_X12_isGoalTold_23 l0 l3 g2) else (bd (f_X12_isCell l0 (l2.toInt64) g2) (fun v7 g8 => if (b2i v7) = 0 then (some (false, g8)) else (f_X12_isGoalTold_23 l0 l3 g8)))))
def f_X12_inStand (l0 : Int32) (l1 : Int32) (g : G) : Option (Int32 × G) :=
  if l1 = 0 then (some ((l0 / (36 : Int32)), g)) else (some ((l0 - l0 / (36 : Int32) * (36 : Int32)), g))
def f_X12_standOf (l0 : Int32) (l1 : Int32) (g : G) : Option (Int32 × G) :=
  some ((((36 : Int32) * l0) + l1), g)
def f_X12_laysLead_93 (l0 : Nat) (l1 : Int32) (l2 : Int32) (l3 : Int32) (l4 : Int32) (l5 : Int32) (l6 : Int32) (s0 : Int32) (s1 : Int32) (s2 : Nat) (g : G) : Option (Unit × G) :=
  gdI s1 (gN g s2) (lg (sI g s2 s1.toNatClampNeg s0) (fun g2 => dr (gR g2 l0 25) (fun b4 => bd (f_X12_costOf l0 l1 l4 l5 (gI g2 l0 17) g2) (fun v6 g7 => bd (f_X12_costOf l0 l1 ((1 : Int32) - l4) l6 (gI g7 l0 18) g7) (fun v10 g11 => gdK g11 b4 14 (gdI (((8 : Int32) * l2) + l3) (gN g11 b4) (lg (sI g11 b4 (((8 : Int32) * l2) + l3).toNatClampNeg (v6 + v10)) (fun g16 => some ((), g16)))))))))
def f_X12_laysLead (l0 : Nat) (l1 : Int32) (l2 : Int32) (l3 : Int32) (g : G) : Option (Unit × G) :=
  li (l3 / (4 : Int32)) (fun y1 => bd (f_X12_inStand l2 y1 g) (fun v3 g4 => bd (f_X12_inStand l2 ((1 : Int32) - y1) g4) (fun v7 g8 => dr (gR g8 l0 24) (fun b11 => gdK g8 b11 14 (gdI (((8 : Int32) * l2) + l3) (gN g8 b11) (lg (sI g8 b11 (((8 : Int32) * l2) + l3).toNatClampNeg (-1 : Int32)) (fun g15 => bd (f_X12_whyBy l0 l1 y1 v3 v7 (l3 - l3 / (4 : Int32) * (4 : Int32)) g15) (fun v17 g18 => if v17 = 0 then (dr (gR g18 l0 24) (fun b22 => if y1 = 0 then (bd (f_X12_standOf (gI g18 l0 17) (gI g18 l0 18) g18) (fun v30 g31 => gdK g31 b22 14 (f_X12_laysLead_93 l0 l1 l2 l3 y1 v3 v7 v30 (((8 : Int32) * l2) + l3) b22 g31))) else (bd (f_X12_standOf (gI g18 l0 18) (gI g18 l0 17) g18) (fun v25 g26 => gdK g26 b22 14 (f_X12_laysLead_93 l0 l1 l2 l3 y1 v3 v7 v25 (((8 : Int32) * l2) + l3) b22 g26))))) else (some ((), g18))))))))))
def f_X12_laysStands_123 (k2 : Nat → Int32 → Int32 → G → Option (Unit × G)) (l0 : Nat) (l1 : Int32) (l2 : Int32) (g : G) : Option (Unit × G) :=
  k2 l0 l1 (l2 + (1 : Int32)) g
def f_X12_laysStands_93 (k2 : Nat → Int32 → Int32 → G → Option (Unit × G)) : Nat → Nat → Int32 → Int32 → Int32 → G → Option (Unit × G)
  | 0, _, _, _, _, _ => none
  | n + 1, l0, l1, l2, l5, g =>
  if (8 : Int32) ≤ l5 then (f_X12_laysStands_123 k2 l0 l1 l2 g) else (dr (gR g l0 23) (fun b2 => gdK g b2 16 (gdI l2 (gN g b2) (if (gI g b2 l2.toNatClampNeg) = 0 then (f_X12_laysStands_123 k2 l0 l1 l2 g) else (bd (f_X12_laysLead l0 l1 l2 l5 g) (fun v7 g8 => f_X12_laysStands_93 k2 n l0 l1 l2 (l5 + (1 : Int32)) g8))))))
def f_X12_laysStands_89 (k2 : Nat → Int32 → Int32 → G → Option (Unit × G)) (l0 : Nat) (l1 : Int32) (l2 : Int32) (s0 : Int32) (s1 : Int32) (s2 : Nat) (g : G) : Option (Unit × G) :=
  gdI s1 (gN g s2) (lg (sI g s2 s1.toNatClampNeg (vp_nar .boolean s0)) (fun g2 => f_X12_laysStands_93 k2 FU l0 l1 l2 (0 : Int32) g2))
def f_X12_laysStands_88 (k2 : Nat → Int32 → Int32 → G → Option (Unit × G)) (l0 : Nat) (l1 : Int32) (l2 : Int32) (s0 : Int32) (s1 : Nat) (g : G) : Option (Unit × G) :=
  f_X12_laysStands_89 k2 l0 l1 l2 (0 : Int32) s0 s1 g
def f_X12_laysStands_2 : Nat → Nat → Int32 → Int32 → G → Option (Unit × G)
  | 0, _, _, _, _ => none
  | n + 1, l0, l1, l2, g =>
  if (1296 : Int32) ≤ l2 then (some ((), g)) else (bd (f_X12_inStand l2 (0 : Int32) g) (fun v2 g3 => bd (f_X12_inStand l2 (1 : Int32) g3) (fun v6 g7 => dr (gR g7 l0 23) (fun b10 => bd (f_X12_isCell l0 (v2.toInt64) g7) (fun v12 g13 => if (b2i v12) = 0 then (gdK g13 b10 16 (f_X12_laysStands_88 (f_X12_laysStands_2 n) l0 l1 l2 l2 b10 g13)) else (bd (f_X12_isCell l0 (v6.toInt64) g13) (fun v18 g19 => if (b2i v18) = 0 then (gdK g19 b10 16 (f_X12_laysStands_88 (f_X12_laysStands_2 n) l0 l1 l2 l2 b10 g19)) else (bd (f_X12_apart l0 v2 v6 g19) (fun v24 g25 => dr (gR g25 l0 1) (fun b28 => gdK g25 b28 14 (gdI ((94 : Int32) + l1) (gN g25 b28) (if v24 = (gI g25 b28 ((94 : Int32) + l1).toNatClampNeg) then (bd (f_X12_isFree l0 l1 v2 g25) (fun v34 g35 => if (b2i v34) = 0 then (gdK g35 b10 16 (f_X12_laysStands_88 (f_X12_laysStands_2 n) l0 l1 l2 l2 b10 g35)) else (bd (f_X12_isFree l0 l1 v6 g35) (fun v40 g41 => if (b2i v40) = 0 then (gdK g41 b10 16 (f_X12_laysStands_88 (f_X12_laysStands_2 n) l0 l1 l2 l2 b10 g41)) else (gdK g41 b10 16 (f_X12_laysStands_89 (f_X12_laysStands_2 n) l0 l1 l2 (1 : Int32) l2 b10 g41)))))) else (gdK g25 b10 16 (f_X12_laysStands_88 (f_X12_laysStands_2 n) l0 l1 l2 l2 b10 g25))))))))))))))
def f_X12_laysStands (l0 : Nat) (l1 : Int32) (g : G) : Option (Unit × G) :=
  f_X12_laysStands_2 FU l0 l1 (0 : Int32) g
def f_X12_isGoal_28 (g : G) : Option (Bool × G) :=
  some (true, g)
def f_X12_isGoal_14 (l1 : Int32) (l3 : Int32) (g : G) : Option (Bool × G) :=
  if l3 = (-1 : Int32) then (f_X12_isGoal_28 g) else (bd (f_X12_inStand l1 (1 : Int32) g) (fun v2 g3 => if v2 = l3 then (f_X12_isGoal_28 g3) else (some (false, g3))))
def f_X12_isGoal (l0 : Nat) (l1 : Int32) (l2 : Int32) (l3 : Int32) (g : G) : Option (Bool × G) :=
  if l2 = (-1 : Int32) then (f_X12_isGoal_14 l1 l3 g) else (bd (f_X12_inStand l1 (0 : Int32) g) (fun v2 g3 => if v2 = l2 then (f_X12_isGoal_14 l1 l3 g3) else (some (false, g3))))
def f_X12_countOf (l0 : Nat) (l1 : Int32) (l2 : Int32) (l3 : Int32) (g : G) : Option (Int32 × G) :=
  if l3 = 0 then (some ((1 : Int32), g)) else (dr (gR g l0 25) (fun b2 => gdK g b2 14 (gdI (((8 : Int32) * l1) + l2) (gN g b2) (some ((((10000 : Int32) * (gI g b2 (((8 : Int32) * l1) + l2).toNatClampNeg)) + (1 : Int32)), g)))))
def f_X12_stillBy_32 (g : G) : Option (Int32 × G) :=
  some ((1073741824 : Int32), g)
def f_X12_stillBy (l0 : Nat) (l1 : Int32) (l2 : Int32) (l3 : Int32) (g : G) : Option (Int32 × G) :=
  dr (gR g l0 24) (fun b1 => gdK g b1 14 (gdI (((8 : Int32) * l1) + l2) (gN g b1) (li (gI g b1 (((8 : Int32) * l1) + l2).toNatClampNeg) (fun y5 => if y5 = (-1 : Int32) then (f_X12_stillBy_32 g) else (dr (gR g l0 26) (fun b8 => gdK g b8 14 (gdI y5 (gN g b8) (if (gI g b8 y5.toNatClampNeg) = (1073741824 : Int32) then (f_X12_stillBy_32 g) else (bd (f_X12_countOf l0 l1 l2 l3 g) (fun v13 g14 => some (((gI g b8 y5.toNatClampNeg) + v13), g14)))))))))))
def f_X12_leastBy_41 (k10 : Nat → Int32 → Int32 → Int32 → Int32 → G → Option (Int32 × G)) (l0 : Nat) (l1 : Int32) (l2 : Int32) (l4 : Int32) (s0 : Int32) (g : G) : Option (Int32 × G) :=
  k10 l0 l1 l2 s0 (l4 + (1 : Int32)) g
def f_X12_leastBy_10 : Nat → Nat → Int32 → Int32 → Int32 → Int32 → G → Option (Int32 × G)
  | 0, _, _, _, _, _, _ => none
  | n + 1, l0, l1, l2, l3, l4, g =>
  if (8 : Int32) ≤ l4 then (some (l3, g)) else (bd (f_X12_stillBy l0 l1 l4 l2 g) (fun v2 g3 => if l3 ≤ v2 then (f_X12_leastBy_41 (f_X12_leastBy_10 n) l0 l1 l2 l4 l3 g3) else (bd (f_X12_stillBy l0 l1 l4 l2 g3) (fun v7 g8 => f_X12_leastBy_41 (f_X12_leastBy_10 n) l0 l1 l2 l4 v7 g8))))
def f_X12_leastBy (l0 : Nat) (l1 : Int32) (l2 : Int32) (g : G) : Option (Int32 × G) :=
  dr (gR g l0 26) (fun b1 => gdK g b1 14 (gdI l1 (gN g b1) (li (gI g b1 l1.toNatClampNeg) (fun y5 => f_X12_leastBy_10 FU l0 l1 l2 y5 (0 : Int32) g))))
def f_X12_standNow (l0 : Nat) (l1 : Int32) (g : G) : Option (Int32 × G) :=
  bd (f_X12_twinOf l0 l1 (0 : Int32) g) (fun v1 g2 => bd (f_X12_twinOf l0 l1 (1 : Int32) g2) (fun v5 g6 => bd (f_X12_standOf v1 v5 g6) (fun v9 g10 => some (v9, g10))))
def f_X12_laysStill_45 (k3 : Nat → Int32 → Int32 → Int32 → Int32 → Int32 → G → Option (Int32 × G)) (l0 : Nat) (l1 : Int32) (l2 : Int32) (l3 : Int32) (l4 : Int32) (l5 : Int32) (s0 : Int32) (s1 : Int32) (s2 : Nat) (g : G) : Option (Int32 × G) :=
  gdI s1 (gN g s2) (lg (sI g s2 s1.toNatClampNeg s0) (fun g2 => k3 l0 l1 l2 l3 l4 (l5 + (1 : Int32)) g2))
def f_X12_laysStill_42 (k3 : Nat → Int32 → Int32 → Int32 → Int32 → Int32 → G → Option (Int32 × G)) (l0 : Nat) (l1 : Int32) (l2 : Int32) (l3 : Int32) (l4 : Int32) (l5 : Int32) (s0 : Int32) (s1 : Nat) (g : G) : Option (Int32 × G) :=
  f_X12_laysStill_45 k3 l0 l1 l2 l3 l4 l5 (1073741824 : Int32) s0 s1 g
def f_X12_laysStill_128 (k55 : Nat → Int32 → Int32 → Int32 → G → Option (Int32 × G)) (k66 : Nat → Int32 → Int32 → Int32 → Int32 → G → Option (Int32 × G)) (l0 : Nat) (l1 : Int32) (l4 : Int32) (l5 : Int32) (l6 : Int32) (g : G) : Option (Int32 × G) :=
  k66 l0 l1 l4 l5 (l6 + (1 : Int32)) g
def f_X12_laysStill_116 (k55 : Nat → Int32 → Int32 → Int32 → G → Option (Int32 × G)) (k66 : Nat → Int32 → Int32 → Int32 → Int32 → G → Option (Int32 × G)) (l0 : Nat) (l1 : Int32) (l4 : Int32) (l6 : Int32) (l7 : Int32) (s0 : Int32) (s1 : Int32) (g : G) : Option (Int32 × G) :=
  li (s1 ||| s0) (fun y1 => dr (gR g l0 26) (fun b3 => gdK g b3 14 (gdI l6 (gN g b3) (lg (sI g b3 l6.toNatClampNeg l7) (fun g7 => f_X12_laysStill_128 k55 k66 l0 l1 l4 y1 l6 g7)))))
def f_X12_laysStill_66 (k55 : Nat → Int32 → Int32 → Int32 → G → Option (Int32 × G)) : Nat → Nat → Int32 → Int32 → Int32 → Int32 → G → Option (Int32 × G)
  | 0, _, _, _, _, _, _ => none
  | n + 1, l0, l1, l4, l5, l6, g =>
  if (1296 : Int32) ≤ l6 then (k55 l0 l1 l4 l5 g) else (dr (gR g l0 23) (fun b2 => gdK g b2 16 (gdI l6 (gN g b2) (if (gI g b2 l6.toNatClampNeg) = 0 then (f_X12_laysStill_128 k55 (f_X12_laysStill_66 k55 n) l0 l1 l4 l5 l6 g) else (bd (f_X12_leastBy l0 l6 l4 g) (fun v7 g8 => dr (gR g8 l0 26) (fun b11 => gdK g8 b11 14 (gdI l6 (gN g8 b11) (if (gI g8 b11 l6.toNatClampNeg) ≤ v7 then (f_X12_laysStill_116 k55 (f_X12_laysStill_66 k55 n) l0 l1 l4 l6 v7 (0 : Int32) l5 g8) else (f_X12_laysStill_116 k55 (f_X12_laysStill_66 k55 n) l0 l1 l4 l6 v7 (1 : Int32) l5 g8))))))))))
def f_X12_laysStill_55 : Nat → Nat → Int32 → Int32 → Int32 → G → Option (Int32 × G)
  | 0, _, _, _, _, _ => none
  | n + 1, l0, l1, l4, l5, g =>
  if l5 = 0 then (dr (gR g l0 26) (fun b2 => bd (f_X12_standNow l0 l1 g) (fun v4 g5 => gdK g5 b2 14 (gdI v4 (gN g5 b2) (some ((gI g5 b2 v4.toNatClampNeg), g5)))))) else (f_X12_laysStill_66 (f_X12_laysStill_55 n) FU l0 l1 l4 (0 : Int32) (0 : Int32) g)
def f_X12_laysStill_3 : Nat → Nat → Int32 → Int32 → Int32 → Int32 → Int32 → G → Option (Int32 × G)
  | 0, _, _, _, _, _, _, _ => none
  | n + 1, l0, l1, l2, l3, l4, l5, g =>
  if (1296 : Int32) ≤ l5 then (f_X12_laysStill_55 FU l0 l1 l4 (1 : Int32) g) else (dr (gR g l0 26) (fun b2 => dr (gR g l0 23) (fun b4 => gdK g b4 16 (gdI l5 (gN g b4) (if (gI g b4 l5.toNatClampNeg) = 0 then (gdK g b2 14 (f_X12_laysStill_42 (f_X12_laysStill_3 n) l0 l1 l2 l3 l4 l5 l5 b2 g)) else (bd (f_X12_isGoal l0 l5 l2 l3 g) (fun v10 g11 => if (b2i v10) = 0 then (gdK g11 b2 14 (f_X12_laysStill_42 (f_X12_laysStill_3 n) l0 l1 l2 l3 l4 l5 l5 b2 g11)) else (gdK g11 b2 14 (f_X12_laysStill_45 (f_X12_laysStill_3 n) l0 l1 l2 l3 l4 l5 (0 : Int32) l5 b2 g11)))))))))
def f_X12_laysStill (l0 : Nat) (l1 : Int32) (l2 : Int32) (l3 : Int32) (l4 : Int32) (g : G) : Option (Int32 × G) :=
  f_X12_laysStill_3 FU l0 l1 l2 l3 l4 (0 : Int32) g
def f_X12_toldFar (l0 : Int32) (l1 : Int32) (g : G) : Option (Int32 × G) :=
  if l0 = (1073741824 : Int32) then (some ((-1 : Int32), g)) else (if l1 = 0 then (some (l0, g)) else (some ((l0 / (10000 : Int32)), g)))
def f_X12_comes (l0 : Nat) (l1 : Int32) (l2 : Int32) (l3 : Int32) (l4 : Int32) (g : G) : Option (Int32 × G) :=
  bd (f_X12_isGoalTold l0 l1 l2 l3 g) (fun v1 g2 => if (b2i v1) = 0 then (some ((-2 : Int32), g2)) else (bd (f_X12_laysStands l0 l1 g2) (fun v6 g7 => bd (f_X12_laysStill l0 l1 l2 l3 l4 g7) (fun v10 g11 => bd (f_X12_toldFar v10 l4 g11) (fun v14 g15 => some (v14, g15))))))
def f_X12_soonest (l0 : Nat) (l1 : Int32) (l2 : Int32) (l3 : Int32) (g : G) : Option (Int32 × G) :=
  lg (sI g l0 0 (0 : Int32)) (fun g1 => bd (f_X12_comes l0 l1 l2 l3 (0 : Int32) g1) (fun v3 g4 => some (v3, g4)))
def f_X4_leadAt_20 : Nat → Nat → Int32 → Int32 → Int32 → G → Option (Int32 × G)
  | 0, _, _, _, _, _ => none
  | n + 1, l0, l2, l3, l4, g =>
  if (256 : Int32) ≤ l4 then (some ((-1 : Int32), g)) else (bd (f_X4_has l0 l3 g) (fun v2 g3 => if (b2i v2) = 0 then (some ((-1 : Int32), g3)) else (dr (gR g3 l0 2) (fun b7 => gdK g3 b7 14 (gdI l3 (gN g3 b7) (if (gI g3 b7 l3.toNatClampNeg) = (l2 + (1 : Int32)) then (dr (gR g3 l0 4) (fun b18 => gdK g3 b18 14 (gdI l3 (gN g3 b18) (some ((gI g3 b18 l3.toNatClampNeg), g3))))) else (dr (gR g3 l0 3) (fun b12 => gdK g3 b12 14 (gdI l3 (gN g3 b12) (li (gI g3 b12 l3.toNatClampNeg) (fun y16 => f_X4_leadAt_20 n l0 l2 y16 (l4 + (1 : Int32)) g3)))))))))))
def f_X4_leadAt (l0 : Nat) (l1 : Int32) (l2 : Int32) (g : G) : Option (Int32 × G) :=
  if l2 < 0 then (some ((-1 : Int32), g)) else (bd (f_X4_depthOf l0 l1 g) (fun v2 g3 => if l2 < v2 then (f_X4_leadAt_20 FU l0 l2 l1 (0 : Int32) g3) else (some ((-1 : Int32), g3))))
def f_X11_told (l0 : Int32) (g : G) : Option (Int32 × G) :=
  if 0 ≤ l0 then (some ((((10 : Int32) * (l0 / (4 : Int32))) + (l0 - l0 / (4 : Int32) * (4 : Int32))), g)) else (some ((-1 : Int32), g))
def f_X11_way (l0 : Nat) (l1 : Int32) (l2 : Int32) (l3 : Int32) (l4 : Int32) (g : G) : Option (Int32 × G) :=
  bd (f_X11_isGoal l0 l1 l2 l3 g) (fun v1 g2 => if (b2i v1) = 0 then (some ((-2 : Int32), g2)) else (if 0 ≤ l4 then (bd (f_X11_graphOf l0 l1 g2) (fun v7 g8 => gdK g8 v7 4 (bd (f_X4_find v7 l2 l3 g8) (fun v12 g13 => bd (f_X4_leadAt v7 v12 l4 g13) (fun v16 g17 => bd (f_X11_told v16 g17) (fun v20 g21 => some (v20, g21))))))) else (some ((-3 : Int32), g2))))
def f_X12_leadAt_38 (k25 : Nat → Int32 → Int32 → Int32 → Int32 → G → Option (Int32 × G)) : Nat → Nat → Int32 → Int32 → Int32 → Int32 → Int32 → G → Option (Int32 × G)
  | 0, _, _, _, _, _, _, _ => none
  | n + 1, l0, l2, l3, l4, l5, l6, g =>
  bd (f_X12_stillBy l0 l4 l6 l3 g) (fun v1 g2 => dr (gR g2 l0 26) (fun b5 => gdK g2 b5 14 (gdI l4 (gN g2 b5) (if v1 = (gI g2 b5 l4.toNatClampNeg) then (if l5 = l2 then (some ((((10 : Int32) * (l6 / (4 : Int32))) + (l6 - l6 / (4 : Int32) * (4 : Int32))), g2)) else (dr (gR g2 l0 24) (fun b11 => gdK g2 b11 14 (gdI (((8 : Int32) * l4) + l6) (gN g2 b11) (li (gI g2 b11 (((8 : Int32) * l4) + l6).toNatClampNeg) (fun y15 => k25 l0 l2 l3 y15 (l5 + (1 : Int32)) g2)))))) else (f_X12_leadAt_38 k25 n l0 l2 l3 l4 l5 (l6 + (1 : Int32)) g2)))))
def f_X12_leadAt_25 : Nat → Nat → Int32 → Int32 → Int32 → Int32 → G → Option (Int32 × G)
  | 0, _, _, _, _, _, _ => none
  | n + 1, l0, l2, l3, l4, l5, g =>
  dr (gR g l0 26) (fun b1 => gdK g b1 14 (gdI l4 (gN g b1) (if (gI g b1 l4.toNatClampNeg) ≤ 0 then (some ((-1 : Int32), g)) else (f_X12_leadAt_38 (f_X12_leadAt_25 n) FU l0 l2 l3 l4 l5 (0 : Int32) g))))
def f_X12_leadAt (l0 : Nat) (l1 : Int32) (l2 : Int32) (l3 : Int32) (g : G) : Option (Int32 × G) :=
  bd (f_X12_standNow l0 l1 g) (fun v1 g2 => dr (gR g2 l0 26) (fun b5 => gdK g2 b5 14 (gdI v1 (gN g2 b5) (if (gI g2 b5 v1.toNatClampNeg) = (1073741824 : Int32) then (some ((-1 : Int32), g2)) else (f_X12_leadAt_25 FU l0 l2 l3 v1 (0 : Int32) g2)))))
def f_X12_comesBy (l0 : Nat) (l1 : Int32) (l2 : Int32) (l3 : Int32) (l4 : Int32) (l5 : Int32) (g : G) : Option (Int32 × G) :=
  bd (f_X12_isGoalTold l0 l1 l2 l3 g) (fun v1 g2 => if (b2i v1) = 0 then (some ((-2 : Int32), g2)) else (if 0 ≤ l4 then (bd (f_X12_laysStands l0 l1 g2) (fun v7 g8 => bd (f_X12_laysStill l0 l1 l2 l3 l5 g8) (fun v11 g12 => bd (f_X12_leadAt l0 l1 l4 l5 g12) (fun v15 g16 => some (v15, g16))))) else (some ((-3 : Int32), g2))))
def f_X12_way (l0 : Nat) (l1 : Int32) (l2 : Int32) (l3 : Int32) (l4 : Int32) (g : G) : Option (Int32 × G) :=
  lg (sI g l0 0 (0 : Int32)) (fun g1 => bd (f_X12_comesBy l0 l1 l2 l3 l4 (0 : Int32) g1) (fun v3 g4 => some (v3, g4)))
def f_X1_takeNearest_39 (k4 : Nat → Int32 → Int32 → G → Option (Int32 × G)) (l0 : Nat) (l1 : Int32) (l2 : Int32) (g : G) : Option (Int32 × G) :=
  k4 l0 l1 (l2 + (1 : Int32)) g
def f_X1_takeNearest_4 : Nat → Nat → Int32 → Int32 → G → Option (Int32 × G)
  | 0, _, _, _, _ => none
  | n + 1, l0, l1, l2, g =>
  if (gI g l0 6) ≤ l2 then (dr (gR g l0 5) (fun b2 => gdK g b2 14 (gdI l1 (gN g b2) (li (gI g b2 l1.toNatClampNeg) (fun y6 => lg (sI g l0 6 ((gI g l0 6) - (1 : Int32))) (fun g8 => gdI (gI g8 l0 6) (gN g8 b2) (lg (sI g8 b2 l1.toNatClampNeg (gI g8 b2 (gI g8 l0 6).toNatClampNeg)) (fun g11 => some (y6, g11))))))))) else (dr (gR g l0 1) (fun b13 => dr (gR g l0 5) (fun b15 => gdK g b15 14 (gdI l2 (gN g b15) (gdK g b13 14 (gdI (gI g b15 l2.toNatClampNeg) (gN g b13) (gdI l1 (gN g b15) (gdI (gI g b15 l1.toNatClampNeg) (gN g b13) (if (gI g b13 (gI g b15 l1.toNatClampNeg).toNatClampNeg) ≤ (gI g b13 (gI g b15 l2.toNatClampNeg).toNatClampNeg) then (f_X1_takeNearest_39 (f_X1_takeNearest_4 n) l0 l1 l2 g) else (f_X1_takeNearest_39 (f_X1_takeNearest_4 n) l0 l2 l2 g))))))))))
def f_X1_takeNearest (l0 : Nat) (g : G) : Option (Int32 × G) :=
  f_X1_takeNearest_4 FU l0 (0 : Int32) (1 : Int32) g
def f_X4_nextOf (l0 : Nat) (l1 : Int32) (l2 : Int32) (g : G) : Option (Int32 × G) :=
  bd (f_X4_has l0 l1 g) (fun v1 g2 => if (b2i v1) = 0 then (some ((-1 : Int32), g2)) else (if l2 < 0 then (some ((-1 : Int32), g2)) else (if (8 : Int32) ≤ l2 then (some ((-1 : Int32), g2)) else (dr (gR g2 l0 5) (fun b8 => gdK g2 b8 14 (gdI ((l1 * (8 : Int32)) + l2) (gN g2 b8) (some ((gI g2 b8 ((l1 * (8 : Int32)) + l2).toNatClampNeg), g2))))))))
def f_X1_relax_120 (l0 : Nat) (l3 : Int32) (l5 : Int32) (l6 : Int32) (g : G) : Option (Unit × G) :=
  dr (gR g l0 1) (fun b1 => gdK g b1 14 (gdI l3 (gN g b1) (gdI l5 (gN g b1) (lg (sI g b1 l5.toNatClampNeg ((gI g b1 l3.toNatClampNeg) + l6)) (fun g6 => some ((), g6))))))
def f_X1_relax (l0 : Nat) (l1 : Nat) (l2 : Nat) (l3 : Int32) (l4 : Int32) (g : G) : Option (Unit × G) :=
  bd (f_X4_nextOf l1 l3 l4 g) (fun v1 g2 => bd (f_X4_has l1 v1 g2) (fun v5 g6 => if (b2i v5) = 0 then (some ((), g6)) else (dr (gR g6 l1 1) (fun b10 => gdK g6 b10 14 (gdI l3 (gN g6 b10) (gdI v1 (gN g6 b10) (bd (f_X9_costOf l2 (gI g6 b10 l3.toNatClampNeg) (gI g6 b10 v1.toNatClampNeg) g6) (fun v15 g16 => li ((v15 * (1024 : Int32)) + (1 : Int32)) (fun y19 => dr (gR g16 l0 2) (fun b21 => gdK g16 b21 14 (gdI ((l3 * (8 : Int32)) + l4) (gN g16 b21) (lg (sI g16 b21 ((l3 * (8 : Int32)) + l4).toNatClampNeg y19) (fun g25 => dr (gR g25 l0 1) (fun b27 => gdK g25 b27 14 (gdI l3 (gN g25 b27) (gdI v1 (gN g25 b27) (if (gI g25 b27 v1.toNatClampNeg) ≤ ((gI g25 b27 l3.toNatClampNeg) + y19) then (some ((), g25)) else (if (gI g25 b27 v1.toNatClampNeg) = (1000000000 : Int32) then (if (256 : Int32) ≤ (gI g25 l0 6) then (f_X1_relax_120 l0 l3 v1 y19 g25) else (dr (gR g25 l0 5) (fun b35 => gdK g25 b35 14 (gdI (gI g25 l0 6) (gN g25 b35) (lg (sI g25 b35 (gI g25 l0 6).toNatClampNeg v1) (fun g39 => lg (sI g39 l0 6 ((gI g39 l0 6) + (1 : Int32))) (fun g41 => f_X1_relax_120 l0 l3 v1 y19 g41))))))) else (f_X1_relax_120 l0 l3 v1 y19 g25)))))))))))))))))))
def f_X1_explore_78 (k40 : Nat → Nat → Nat → Int32 → G → Option (Unit × G)) : Nat → Nat → Nat → Nat → Int32 → Int32 → Int32 → G → Option (Unit × G)
  | 0, _, _, _, _, _, _, _ => none
  | n + 1, l0, l1, l2, l3, l4, l5, g =>
  if (8 : Int32) ≤ l5 then (k40 l0 l1 l2 (l3 + (1 : Int32)) g) else (bd (f_X1_relax l0 l1 l2 l4 l5 g) (fun v2 g3 => f_X1_explore_78 k40 n l0 l1 l2 l3 l4 (l5 + (1 : Int32)) g3))
def f_X1_explore_40 : Nat → Nat → Nat → Nat → Int32 → G → Option (Unit × G)
  | 0, _, _, _, _, _ => none
  | n + 1, l0, l1, l2, l3, g =>
  if (256 : Int32) ≤ l3 then (some ((), g)) else (if (gI g l0 6) ≤ 0 then (some ((), g)) else (bd (f_X1_takeNearest l0 g) (fun v3 g4 => dr (gR g4 l0 3) (fun b7 => gdK g4 b7 14 (gdI l3 (gN g4 b7) (lg (sI g4 b7 l3.toNatClampNeg v3) (fun g11 => lg (sI g11 l0 4 (l3 + (1 : Int32))) (fun g13 => f_X1_explore_78 (f_X1_explore_40 n) FU l0 l1 l2 l3 v3 (0 : Int32) g13))))))))
def f_X1_explore (l0 : Nat) (l1 : Nat) (l2 : Nat) (g : G) : Option (Unit × G) :=
  dr (gR g l0 1) (fun b1 => gdK g b1 14 (bd (f_J7_fill_53178 b1 (1000000000 : Int32) g) (fun v4 g5 => dr (gR g5 l0 1) (fun b8 => gdK g5 b8 14 (gdI (0 : Int32) (gN g5 b8) (lg (sI g5 b8 (0 : Int32).toNatClampNeg (0 : Int32)) (fun g12 => dr (gR g12 l0 5) (fun b14 => gdK g12 b14 14 (gdI (0 : Int32) (gN g12 b14) (lg (sI g12 b14 (0 : Int32).toNatClampNeg (0 : Int32)) (fun g18 => lg (sI g18 l0 6 (1 : Int32)) (fun g20 => lg (sI g20 l0 4 (0 : Int32)) (fun g22 => lg (sI g22 l0 0 (1 : Int32)) (fun g24 => f_X1_explore_40 FU l0 l1 l2 (0 : Int32) g24))))))))))))))
def f_X11_prepareCheap (l0 : Nat) (l1 : Int32) (g : G) : Option (Unit × G) :=
  dr (gR g l0 11) (fun b1 => gdK g b1 1 (if (gI g b1 0) = 0 then (dr (gR g l0 7) (fun b5 => dr (gR g l0 4) (fun b7 => gdK g b5 9 (gdK g b7 0 (bd (f_X9_aim b5 b7 l1 g) (fun v11 g12 => dr (gR g12 l0 11) (fun b15 => dr (gR g12 l0 8) (fun b17 => dr (gR g12 l0 7) (fun b19 => gdK g12 b15 1 (gdK g12 b17 4 (gdK g12 b19 9 (bd (f_X1_explore b15 b17 b19 g12) (fun v24 g25 => some ((), g25)))))))))))))) else (some ((), g))))
def f_X1_lengthTo_3 : Nat → Nat → Nat → Int32 → Int32 → Int32 → G → Option (Int32 × G)
  | 0, _, _, _, _, _, _ => none
  | n + 1, l0, l1, l2, l3, l4, g =>
  if (gI g l0 4) ≤ l4 then (some ((1000000000 : Int32), g)) else (dr (gR g l0 3) (fun b2 => gdK g b2 14 (gdI l4 (gN g b2) (bd (f_X4_fits l1 (gI g b2 l4.toNatClampNeg) l2 l3 g) (fun v6 g7 => if (b2i v6) = 0 then (f_X1_lengthTo_3 n l0 l1 l2 l3 (l4 + (1 : Int32)) g7) else (dr (gR g7 l0 1) (fun b11 => dr (gR g7 l0 3) (fun b13 => gdK g7 b13 14 (gdI l4 (gN g7 b13) (gdK g7 b11 14 (gdI (gI g7 b13 l4.toNatClampNeg) (gN g7 b11) (some ((gI g7 b11 (gI g7 b13 l4.toNatClampNeg).toNatClampNeg), g7)))))))))))))
def f_X1_lengthTo (l0 : Nat) (l1 : Nat) (l2 : Int32) (l3 : Int32) (g : G) : Option (Int32 × G) :=
  f_X1_lengthTo_3 FU l0 l1 l2 l3 (0 : Int32) g
def f_X1_costTo (l0 : Nat) (l1 : Nat) (l2 : Int32) (l3 : Int32) (g : G) : Option (Int32 × G) :=
  bd (f_X1_lengthTo l0 l1 l2 l3 g) (fun v1 g2 => if v1 = (1000000000 : Int32) then (some ((-1 : Int32), g2)) else (some ((v1 / (1024 : Int32)), g2)))
def f_X11_cheapest (l0 : Nat) (l1 : Int32) (l2 : Int32) (l3 : Int32) (g : G) : Option (Int32 × G) :=
  bd (f_X11_isGoal l0 l1 l2 l3 g) (fun v1 g2 => if (b2i v1) = 0 then (some ((-2 : Int32), g2)) else (bd (f_X11_graphOf l0 l1 g2) (fun v6 g7 => bd (f_X11_prepareCheap l0 l1 g7) (fun v10 g11 => dr (gR g11 l0 11) (fun b14 => gdK g11 b14 1 (gdK g11 v6 4 (bd (f_X1_costTo b14 v6 l2 l3 g11) (fun v18 g19 => some (v18, g19)))))))))
def f_X12_cheapest (l0 : Nat) (l1 : Int32) (l2 : Int32) (l3 : Int32) (g : G) : Option (Int32 × G) :=
  lg (sI g l0 0 (0 : Int32)) (fun g1 => bd (f_X12_comes l0 l1 l2 l3 (1 : Int32) g1) (fun v3 g4 => some (v3, g4)))
def f_X1_leadsOn (l0 : Nat) (l1 : Nat) (l2 : Int32) (l3 : Int32) (g : G) : Option (Bool × G) :=
  bd (f_X4_nextOf l1 l2 l3 g) (fun v1 g2 => bd (f_X4_has l1 v1 g2) (fun v5 g6 => if (b2i v5) = 0 then (some (false, g6)) else (dr (gR g6 l0 7) (fun b10 => gdK g6 b10 14 (gdI v1 (gN g6 b10) (if (gI g6 b10 v1.toNatClampNeg) = (1 : Int32) then (dr (gR g6 l0 1) (fun b15 => gdK g6 b15 14 (gdI l2 (gN g6 b15) (dr (gR g6 l0 2) (fun b19 => gdK g6 b19 14 (gdI ((l2 * (8 : Int32)) + l3) (gN g6 b19) (gdI v1 (gN g6 b15) (if ((gI g6 b15 l2.toNatClampNeg) + (gI g6 b19 ((l2 * (8 : Int32)) + l3).toNatClampNeg)) = (gI g6 b15 v1.toNatClampNeg) then (some (true, g6)) else (some (false, g6)))))))))) else (some (false, g6))))))))
def f_X1_firstOn_2 : Nat → Nat → Nat → Int32 → Int32 → G → Option (Int32 × G)
  | 0, _, _, _, _, _ => none
  | n + 1, l0, l1, l2, l3, g =>
  if (8 : Int32) ≤ l3 then (some ((-1 : Int32), g)) else (bd (f_X1_leadsOn l0 l1 l2 l3 g) (fun v2 g3 => if (b2i v2) = 0 then (f_X1_firstOn_2 n l0 l1 l2 (l3 + (1 : Int32)) g3) else (some (l3, g3))))
def f_X1_firstOn (l0 : Nat) (l1 : Nat) (l2 : Int32) (g : G) : Option (Int32 × G) :=
  f_X1_firstOn_2 FU l0 l1 l2 (0 : Int32) g
def f_X1_mark_99 (k16 : Nat → Nat → Int32 → Int32 → Int32 → Int32 → G → Option (Unit × G)) (l0 : Nat) (l1 : Nat) (l2 : Int32) (l3 : Int32) (l4 : Int32) (l5 : Int32) (s0 : Int32) (s1 : Int32) (s2 : Nat) (g : G) : Option (Unit × G) :=
  gdI s1 (gN g s2) (lg (sI g s2 s1.toNatClampNeg s0) (fun g2 => k16 l0 l1 l2 l3 l4 (l5 + (-1 : Int32)) g2))
def f_X1_mark_81 (k16 : Nat → Nat → Int32 → Int32 → Int32 → Int32 → G → Option (Unit × G)) (l0 : Nat) (l1 : Nat) (l2 : Int32) (l3 : Int32) (l4 : Int32) (l5 : Int32) (l6 : Int32) (s0 : Int32) (g : G) : Option (Unit × G) :=
  dr (gR g l0 7) (fun b1 => if s0 = 0 then (gdK g b1 14 (f_X1_mark_99 k16 l0 l1 l2 l3 l4 l5 (0 : Int32) l6 b1 g)) else (gdK g b1 14 (f_X1_mark_99 k16 l0 l1 l2 l3 l4 l5 (1 : Int32) l6 b1 g)))
def f_X1_mark_80 (k16 : Nat → Nat → Int32 → Int32 → Int32 → Int32 → G → Option (Unit × G)) (l0 : Nat) (l1 : Nat) (l2 : Int32) (l3 : Int32) (l4 : Int32) (l5 : Int32) (l6 : Int32) (g : G) : Option (Unit × G) :=
  f_X1_mark_81 k16 l0 l1 l2 l3 l4 l5 l6 (0 : Int32) g
def f_X1_mark_16 : Nat → Nat → Nat → Int32 → Int32 → Int32 → Int32 → G → Option (Unit × G)
  | 0, _, _, _, _, _, _, _ => none
  | n + 1, l0, l1, l2, l3, l4, l5, g =>
  if l5 < 0 then (some ((), g)) else (dr (gR g l0 3) (fun b2 => gdK g b2 14 (gdI l5 (gN g b2) (li (gI g b2 l5.toNatClampNeg) (fun y6 => dr (gR g l0 1) (fun b8 => gdK g b8 14 (gdI y6 (gN g b8) (if (gI g b8 y6.toNatClampNeg) = l4 then (bd (f_X4_fits l1 y6 l2 l3 g) (fun v19 g20 => f_X1_mark_81 (f_X1_mark_16 n) l0 l1 l2 l3 l4 l5 y6 (b2i v19) g20)) else (if l4 ≤ (gI g b8 y6.toNatClampNeg) then (f_X1_mark_80 (f_X1_mark_16 n) l0 l1 l2 l3 l4 l5 y6 g) else (bd (f_X1_firstOn l0 l1 y6 g) (fun v14 g15 => if v14 = (-1 : Int32) then (f_X1_mark_80 (f_X1_mark_16 n) l0 l1 l2 l3 l4 l5 y6 g15) else (f_X1_mark_81 (f_X1_mark_16 n) l0 l1 l2 l3 l4 l5 y6 (1 : Int32) g15))))))))))))
def f_X1_mark (l0 : Nat) (l1 : Nat) (l2 : Int32) (l3 : Int32) (l4 : Int32) (g : G) : Option (Unit × G) :=
  dr (gR g l0 7) (fun b1 => gdK g b1 14 (bd (f_J7_fill_53178 b1 (0 : Int32) g) (fun v4 g5 => li ((gI g5 l0 4) - (1 : Int32)) (fun y8 => f_X1_mark_16 FU l0 l1 l2 l3 l4 y8 g5))))
def f_X1_leadTo_52 : Nat → Nat → Nat → Int32 → Int32 → Int32 → Int32 → G → Option (Int32 × G)
  | 0, _, _, _, _, _, _, _ => none
  | n + 1, l0, l1, l4, l6, l7, l8, g =>
  if l4 < l8 then (some (l7, g)) else (if (256 : Int32) ≤ l8 then (some (l7, g)) else (bd (f_X4_has l1 l6 g) (fun v3 g4 => if (b2i v3) = 0 then (some (l7, g4)) else (bd (f_X1_firstOn l0 l1 l6 g4) (fun v8 g9 => bd (f_X4_nextOf l1 l6 v8 g9) (fun v12 g13 => f_X1_leadTo_52 n l0 l1 l4 v12 v8 (l8 + (1 : Int32)) g13))))))
def f_X1_leadTo (l0 : Nat) (l1 : Nat) (l2 : Int32) (l3 : Int32) (l4 : Int32) (g : G) : Option (Int32 × G) :=
  bd (f_X1_lengthTo l0 l1 l2 l3 g) (fun v1 g2 => if v1 = (1000000000 : Int32) then (some ((-1 : Int32), g2)) else (if l4 < 0 then (some ((-1 : Int32), g2)) else (if l4 < (v1 - v1 / (1024 : Int32) * (1024 : Int32)) then (bd (f_X1_mark l0 l1 l2 l3 v1 g2) (fun v8 g9 => f_X1_leadTo_52 FU l0 l1 l4 (0 : Int32) (-1 : Int32) (0 : Int32) g9)) else (some ((-1 : Int32), g2)))))
def f_X11_cheapWay (l0 : Nat) (l1 : Int32) (l2 : Int32) (l3 : Int32) (l4 : Int32) (g : G) : Option (Int32 × G) :=
  bd (f_X11_isGoal l0 l1 l2 l3 g) (fun v1 g2 => if (b2i v1) = 0 then (some ((-2 : Int32), g2)) else (if 0 ≤ l4 then (bd (f_X11_graphOf l0 l1 g2) (fun v7 g8 => bd (f_X11_prepareCheap l0 l1 g8) (fun v11 g12 => dr (gR g12 l0 11) (fun b15 => gdK g12 b15 1 (gdK g12 v7 4 (bd (f_X1_leadTo b15 v7 l2 l3 l4 g12) (fun v19 g20 => bd (f_X11_told v19 g20) (fun v23 g24 => some (v23, g24))))))))) else (some ((-3 : Int32), g2))))
def f_X12_cheapWay (l0 : Nat) (l1 : Int32) (l2 : Int32) (l3 : Int32) (l4 : Int32) (g : G) : Option (Int32 × G) :=
  lg (sI g l0 0 (0 : Int32)) (fun g1 => bd (f_X12_comesBy l0 l1 l2 l3 l4 (1 : Int32) g1) (fun v3 g4 => some (v3, g4)))
def f_X6_start (l0 : Nat) (g : G) : Option (Unit × G) :=
  lg (sI g l0 1 (0 : Int32)) (fun g1 => dr (gR g1 l0 0) (fun b3 => gdK g1 b3 19 (gdI (0 : Int32) (gN g1 b3) (dr (gR g1 b3 (0 : Int32).toNatClampNeg) (fun b7 => gdK g1 b7 15 (bd (f_J7_fill_d0a16 b7 (0 : Int64) g1) (fun v10 g11 => dr (gR g11 l0 0) (fun b14 => gdK g11 b14 19 (gdI (0 : Int32) (gN g11 b14) (dr (gR g11 b14 (0 : Int32).toNatClampNeg) (fun b18 => gdK g11 b18 15 (gdI (0 : Int32) (gN g11 b18) (lg (sL g11 b18 (0 : Int32).toNatClampNeg (1 : Int64)) (fun g22 => some ((), g22)))))))))))))))
def f_X6_goOnFrom_34 (k6 : Nat → Int32 → Int64 → Int64 → Nat → Int32 → Int32 → G → Option (Unit × G)) (l0 : Nat) (l1 : Int32) (l2 : Int64) (l4 : Int64) (l6 : Nat) (l8 : Int32) (s0 : Int32) (s1 : Int32) (g : G) : Option (Unit × G) :=
  li (s1 + s0) (fun y1 => k6 l0 l1 l2 l4 l6 y1 (l8 + (1 : Int32)) g)
def f_X6_goOnFrom_119 (k84 : Nat → Int32 → Nat → Int64 → Int32 → G → Option (Unit × G)) (l0 : Nat) (l1 : Int32) (l6 : Nat) (l8 : Int64) (l10 : Int32) (g : G) : Option (Unit × G) :=
  k84 l0 l1 l6 l8 (l10 + (1 : Int32)) g
def f_X6_goOnFrom_84 : Nat → Nat → Int32 → Nat → Int64 → Int32 → G → Option (Unit × G)
  | 0, _, _, _, _, _, _ => none
  | n + 1, l0, l1, l6, l8, l10, g =>
  if (8 : Int32) ≤ l10 then (some ((), g)) else (bd (f_X4_nextOf l0 l1 l10 g) (fun v2 g3 => bd (f_X4_has l0 v2 g3) (fun v6 g7 => if (b2i v6) = 0 then (f_X6_goOnFrom_119 (f_X6_goOnFrom_84 n) l0 l1 l6 l8 l10 g7) else (gdI v2 (gN g7 l6) (lg (sL g7 l6 v2.toNatClampNeg ((gL g7 l6 v2.toNatClampNeg) + l8)) (fun g12 => f_X6_goOnFrom_119 (f_X6_goOnFrom_84 n) l0 l1 l6 l8 l10 g12))))))
def f_X6_goOnFrom_79 (l0 : Nat) (l1 : Int32) (l6 : Nat) (s0 : Int64) (g : G) : Option (Unit × G) :=
  f_X6_goOnFrom_84 FU l0 l1 l6 s0 (0 : Int32) g
def f_X6_goOnFrom_6 : Nat → Nat → Int32 → Int64 → Int64 → Nat → Int32 → Int32 → G → Option (Unit × G)
  | 0, _, _, _, _, _, _, _, _ => none
  | n + 1, l0, l1, l2, l4, l6, l7, l8, g =>
  if (8 : Int32) ≤ l8 then (if l7 = 0 then (gdI l1 (gN g l6) (lg (sL g l6 l1.toNatClampNeg ((gL g l6 l1.toNatClampNeg) + (l2 * l4))) (fun g6 => some ((), g6)))) else (if (lg_cmp l4 (0 : Int64)) = 0 then (f_X6_goOnFrom_79 l0 l1 l6 l2 g) else (gdZl (l7.toInt64) (f_X6_goOnFrom_79 l0 l1 l6 (l2 * (l4 / (l7.toInt64))) g)))) else (bd (f_X4_nextOf l0 l1 l8 g) (fun v8 g9 => bd (f_X4_has l0 v8 g9) (fun v12 g13 => if (b2i v12) = 0 then (f_X6_goOnFrom_34 (f_X6_goOnFrom_6 n) l0 l1 l2 l4 l6 l8 (0 : Int32) l7 g13) else (f_X6_goOnFrom_34 (f_X6_goOnFrom_6 n) l0 l1 l2 l4 l6 l8 (1 : Int32) l7 g13))))
def f_X6_goOnFrom (l0 : Nat) (l1 : Int32) (l2 : Int64) (l4 : Int64) (l6 : Nat) (g : G) : Option (Unit × G) :=
  f_X6_goOnFrom_6 FU l0 l1 l2 l4 l6 (0 : Int32) (0 : Int32) g
def f_X6_goOn_81 (k32 : Nat → Nat → Int32 → Nat → Nat → Int32 → G → Option (Unit × G)) (l0 : Nat) (l1 : Nat) (l2 : Int32) (l3 : Nat) (l4 : Nat) (l5 : Int32) (g : G) : Option (Unit × G) :=
  k32 l0 l1 l2 l3 l4 (l5 + (1 : Int32)) g
def f_X6_goOn_76 (k32 : Nat → Nat → Int32 → Nat → Nat → Int32 → G → Option (Unit × G)) (l0 : Nat) (l1 : Nat) (l2 : Int32) (l3 : Nat) (l4 : Nat) (l5 : Int32) (s0 : Int64) (s1 : Int64) (s2 : Int32) (s3 : Nat) (g : G) : Option (Unit × G) :=
  bd (f_X6_goOnFrom s3 s2 s1 s0 l4 g) (fun v1 g2 => f_X6_goOn_81 k32 l0 l1 l2 l3 l4 l5 g2)
def f_X6_goOn_87 (l0 : Nat) (g : G) : Option (Unit × G) :=
  lg (sI g l0 1 ((1 : Int32) - (gI g l0 1))) (fun g1 => some ((), g1))
def f_X6_goOn_32 : Nat → Nat → Nat → Int32 → Nat → Nat → Int32 → G → Option (Unit × G)
  | 0, _, _, _, _, _, _, _ => none
  | n + 1, l0, l1, l2, l3, l4, l5, g =>
  if (gI g l1 0) ≤ l5 then (f_X6_goOn_87 l0 g) else (if (256 : Int32) ≤ l5 then (f_X6_goOn_87 l0 g) else (gdI l5 (gN g l3) (if (lg_cmp (gL g l3 l5.toNatClampNeg) (0 : Int64)) = 0 then (f_X6_goOn_81 (f_X6_goOn_32 n) l0 l1 l2 l3 l4 l5 g) else (if l2 = 0 then (f_X6_goOn_76 (f_X6_goOn_32 n) l0 l1 l2 l3 l4 l5 (0 : Int64) (gL g l3 l5.toNatClampNeg) l5 l1 g) else (f_X6_goOn_76 (f_X6_goOn_32 n) l0 l1 l2 l3 l4 l5 (840 : Int64) (gL g l3 l5.toNatClampNeg) l5 l1 g)))))
def f_X6_goOn (l0 : Nat) (l1 : Nat) (l2 : Int32) (g : G) : Option (Unit × G) :=
  dr (gR g l0 0) (fun b1 => gdK g b1 19 (gdI (gI g l0 1) (gN g b1) (dr (gR g b1 (gI g l0 1).toNatClampNeg) (fun b5 => gdI ((1 : Int32) - (gI g l0 1)) (gN g b1) (dr (gR g b1 ((1 : Int32) - (gI g l0 1)).toNatClampNeg) (fun b8 => gdK g b8 15 (bd (f_J7_fill_d0a16 b8 (0 : Int64) g) (fun v11 g12 => gdK g12 b5 15 (f_X6_goOn_32 FU l0 l1 l2 b5 b8 (0 : Int32) g12)))))))))
def f_X6_sumAt_52 (k6 : Nat → Nat → Int32 → Int32 → Int64 → Int32 → G → Option (Int64 × G)) (l0 : Nat) (l1 : Nat) (l2 : Int32) (l3 : Int32) (l6 : Int32) (s0 : Int64) (s1 : Int64) (g : G) : Option (Int64 × G) :=
  ll (s1 + s0) (fun y1 => k6 l0 l1 l2 l3 y1 (l6 + (1 : Int32)) g)
def f_X6_sumAt_61 (l4 : Int64) (g : G) : Option (Int64 × G) :=
  some (l4, g)
def f_X6_sumAt_6 : Nat → Nat → Nat → Int32 → Int32 → Int64 → Int32 → G → Option (Int64 × G)
  | 0, _, _, _, _, _, _, _ => none
  | n + 1, l0, l1, l2, l3, l4, l6, g =>
  if (gI g l1 0) ≤ l6 then (f_X6_sumAt_61 l4 g) else (if (256 : Int32) ≤ l6 then (f_X6_sumAt_61 l4 g) else (bd (f_X4_fits l1 l6 l2 l3 g) (fun v3 g4 => if (b2i v3) = 0 then (f_X6_sumAt_52 (f_X6_sumAt_6 n) l0 l1 l2 l3 l6 (0 : Int64) l4 g4) else (dr (gR g4 l0 0) (fun b8 => gdK g4 b8 19 (gdI (gI g4 l0 1) (gN g4 b8) (dr (gR g4 b8 (gI g4 l0 1).toNatClampNeg) (fun b12 => gdK g4 b12 15 (gdI l6 (gN g4 b12) (f_X6_sumAt_52 (f_X6_sumAt_6 n) l0 l1 l2 l3 l6 (gL g4 b12 l6.toNatClampNeg) l4 g4))))))))))
def f_X6_sumAt (l0 : Nat) (l1 : Nat) (l2 : Int32) (l3 : Int32) (g : G) : Option (Int64 × G) :=
  f_X6_sumAt_6 FU l0 l1 l2 l3 (0 : Int64) (0 : Int32) g
def f_X11_rows_26 (g : G) : Option (Int64 × G) :=
  some ((-3 : Int64), g)
def f_X11_rows_47 : Nat → Nat → Int32 → Int32 → Int32 → Nat → Int32 → G → Option (Int64 × G)
  | 0, _, _, _, _, _, _, _ => none
  | n + 1, l0, l2, l3, l4, l5, l6, g =>
  if l4 ≤ l6 then (dr (gR g l0 14) (fun b2 => gdK g b2 6 (bd (f_X6_sumAt b2 l5 l2 l3 g) (fun v5 g6 => some (v5, g6))))) else (dr (gR g l0 14) (fun b9 => gdK g b9 6 (bd (f_X6_goOn b9 l5 (0 : Int32) g) (fun v12 g13 => f_X11_rows_47 n l0 l2 l3 l4 l5 (l6 + (1 : Int32)) g13))))
def f_X11_rows (l0 : Nat) (l1 : Int32) (l2 : Int32) (l3 : Int32) (l4 : Int32) (g : G) : Option (Int64 × G) :=
  bd (f_X11_isGoal l0 l1 l2 l3 g) (fun v1 g2 => if (b2i v1) = 0 then (some ((-2 : Int64), g2)) else (if l4 < 0 then (f_X11_rows_26 g2) else (if l4 ≤ (15 : Int32) then (bd (f_X11_graphOf l0 l1 g2) (fun v8 g9 => dr (gR g9 l0 14) (fun b12 => gdK g9 b12 6 (bd (f_X6_start b12 g9) (fun v15 g16 => gdK g16 v8 4 (f_X11_rows_47 FU l0 l2 l3 l4 v8 (0 : Int32) g16)))))) else (f_X11_rows_26 g2))))
def f_X12_beginsMany_28 (k2 : Nat → Int32 → Int32 → G → Option (Unit × G)) (l0 : Nat) (l1 : Int32) (l2 : Int32) (s0 : Int64) (s1 : Int32) (s2 : Nat) (g : G) : Option (Unit × G) :=
  gdI s1 (gN g s2) (lg (sL g s2 s1.toNatClampNeg s0) (fun g2 => k2 l0 l1 (l2 + (1 : Int32)) g2))
def f_X12_beginsMany_2 : Nat → Nat → Int32 → Int32 → G → Option (Unit × G)
  | 0, _, _, _, _ => none
  | n + 1, l0, l1, l2, g =>
  if (1296 : Int32) ≤ l2 then (some ((), g)) else (dr (gR g l0 28) (fun b2 => bd (f_X12_standNow l0 l1 g) (fun v4 g5 => if l2 = v4 then (gdK g5 b2 15 (f_X12_beginsMany_28 (f_X12_beginsMany_2 n) l0 l1 l2 (1 : Int64) l2 b2 g5)) else (gdK g5 b2 15 (f_X12_beginsMany_28 (f_X12_beginsMany_2 n) l0 l1 l2 (0 : Int64) l2 b2 g5)))))
def f_X12_beginsMany (l0 : Nat) (l1 : Int32) (g : G) : Option (Unit × G) :=
  f_X12_beginsMany_2 FU l0 l1 (0 : Int32) g
def f_X12_isThen_2 : Nat → Nat → Int32 → G → Option (Unit × G)
  | 0, _, _, _ => none
  | n + 1, l0, l1, g =>
  if (1296 : Int32) ≤ l1 then (some ((), g)) else (dr (gR g l0 28) (fun b2 => dr (gR g l0 29) (fun b4 => gdK g b4 15 (gdI l1 (gN g b4) (gdK g b2 15 (gdI l1 (gN g b2) (lg (sL g b2 l1.toNatClampNeg (gL g b4 l1.toNatClampNeg)) (fun g10 => lg (sL g10 b4 l1.toNatClampNeg (0 : Int64)) (fun g12 => f_X12_isThen_2 n l0 (l1 + (1 : Int32)) g12)))))))))
def f_X12_isThen (l0 : Nat) (g : G) : Option (Unit × G) :=
  f_X12_isThen_2 FU l0 (0 : Int32) g
def f_X12_rows_159 (k74 : Nat → Int32 → Int32 → Int32 → Int32 → G → Option (Int64 × G)) (k84 : Nat → Int32 → Int32 → Int32 → Int32 → Int32 → G → Option (Int64 × G)) (k95 : Nat → Int32 → Int32 → Int32 → Int32 → Int32 → Int32 → G → Option (Int64 × G)) (l0 : Nat) (l2 : Int32) (l3 : Int32) (l4 : Int32) (l5 : Int32) (l6 : Int32) (l7 : Int32) (g : G) : Option (Int64 × G) :=
  k95 l0 l2 l3 l4 l5 l6 (l7 + (1 : Int32)) g
def f_X12_rows_165 (k74 : Nat → Int32 → Int32 → Int32 → Int32 → G → Option (Int64 × G)) (k84 : Nat → Int32 → Int32 → Int32 → Int32 → Int32 → G → Option (Int64 × G)) (l0 : Nat) (l2 : Int32) (l3 : Int32) (l4 : Int32) (l5 : Int32) (l6 : Int32) (g : G) : Option (Int64 × G) :=
  k84 l0 l2 l3 l4 l5 (l6 + (1 : Int32)) g
def f_X12_rows_95 (k74 : Nat → Int32 → Int32 → Int32 → Int32 → G → Option (Int64 × G)) (k84 : Nat → Int32 → Int32 → Int32 → Int32 → Int32 → G → Option (Int64 × G)) : Nat → Nat → Int32 → Int32 → Int32 → Int32 → Int32 → Int32 → G → Option (Int64 × G)
  | 0, _, _, _, _, _, _, _, _ => none
  | n + 1, l0, l2, l3, l4, l5, l6, l7, g =>
  if (8 : Int32) ≤ l7 then (f_X12_rows_165 k74 k84 l0 l2 l3 l4 l5 l6 g) else (dr (gR g l0 28) (fun b2 => gdK g b2 15 (gdI l6 (gN g b2) (if (lg_cmp (gL g b2 l6.toNatClampNeg) (0 : Int64)) ≤ 0 then (f_X12_rows_165 k74 k84 l0 l2 l3 l4 l5 l6 g) else (dr (gR g l0 24) (fun b7 => gdK g b7 14 (gdI (((8 : Int32) * l6) + l7) (gN g b7) (if (gI g b7 (((8 : Int32) * l6) + l7).toNatClampNeg) = (-1 : Int32) then (f_X12_rows_159 k74 k84 (f_X12_rows_95 k74 k84 n) l0 l2 l3 l4 l5 l6 l7 g) else (dr (gR g l0 29) (fun b12 => gdK g b12 15 (gdI (gI g b7 (((8 : Int32) * l6) + l7).toNatClampNeg) (gN g b12) (lg (sL g b12 (gI g b7 (((8 : Int32) * l6) + l7).toNatClampNeg).toNatClampNeg ((gL g b12 (gI g b7 (((8 : Int32) * l6) + l7).toNatClampNeg).toNatClampNeg) + (gL g b2 l6.toNatClampNeg))) (fun g16 => f_X12_rows_159 k74 k84 (f_X12_rows_95 k74 k84 n) l0 l2 l3 l4 l5 l6 l7 g16)))))))))))))
def f_X12_rows_84 (k74 : Nat → Int32 → Int32 → Int32 → Int32 → G → Option (Int64 × G)) : Nat → Nat → Int32 → Int32 → Int32 → Int32 → Int32 → G → Option (Int64 × G)
  | 0, _, _, _, _, _, _, _ => none
  | n + 1, l0, l2, l3, l4, l5, l6, g =>
  if (1296 : Int32) ≤ l6 then (bd (f_X12_isThen l0 g) (fun v2 g3 => k74 l0 l2 l3 l4 (l5 + (1 : Int32)) g3)) else (f_X12_rows_95 k74 (f_X12_rows_84 k74 n) FU l0 l2 l3 l4 l5 l6 (0 : Int32) g)
def f_X12_rows_219 (k187 : Nat → Int32 → Int32 → Int64 → Int32 → G → Option (Int64 × G)) (l0 : Nat) (l2 : Int32) (l3 : Int32) (l7 : Int32) (s0 : Int64) (s1 : Int64) (g : G) : Option (Int64 × G) :=
  ll (s1 + s0) (fun y1 => k187 l0 l2 l3 y1 (l7 + (1 : Int32)) g)
def f_X12_rows_187 : Nat → Nat → Int32 → Int32 → Int64 → Int32 → G → Option (Int64 × G)
  | 0, _, _, _, _, _, _ => none
  | n + 1, l0, l2, l3, l5, l7, g =>
  if (1296 : Int32) ≤ l7 then (some (l5, g)) else (bd (f_X12_isGoal l0 l7 l2 l3 g) (fun v2 g3 => if (b2i v2) = 0 then (f_X12_rows_219 (f_X12_rows_187 n) l0 l2 l3 l7 (0 : Int64) l5 g3) else (dr (gR g3 l0 28) (fun b7 => gdK g3 b7 15 (gdI l7 (gN g3 b7) (f_X12_rows_219 (f_X12_rows_187 n) l0 l2 l3 l7 (gL g3 b7 l7.toNatClampNeg) l5 g3))))))
def f_X12_rows_74 : Nat → Nat → Int32 → Int32 → Int32 → Int32 → G → Option (Int64 × G)
  | 0, _, _, _, _, _, _ => none
  | n + 1, l0, l2, l3, l4, l5, g =>
  if l4 ≤ l5 then (f_X12_rows_187 FU l0 l2 l3 (0 : Int64) (0 : Int32) g) else (f_X12_rows_84 (f_X12_rows_74 n) FU l0 l2 l3 l4 l5 (0 : Int32) g)
def f_X12_rows_49 : Nat → Nat → Int32 → Int32 → Int32 → Int32 → G → Option (Int64 × G)
  | 0, _, _, _, _, _, _ => none
  | n + 1, l0, l2, l3, l4, l5, g =>
  if (1296 : Int32) ≤ l5 then (f_X12_rows_74 FU l0 l2 l3 l4 (0 : Int32) g) else (dr (gR g l0 29) (fun b2 => gdK g b2 15 (gdI l5 (gN g b2) (lg (sL g b2 l5.toNatClampNeg (0 : Int64)) (fun g6 => f_X12_rows_49 n l0 l2 l3 l4 (l5 + (1 : Int32)) g6)))))
def f_X12_rows (l0 : Nat) (l1 : Int32) (l2 : Int32) (l3 : Int32) (l4 : Int32) (g : G) : Option (Int64 × G) :=
  lg (sI g l0 0 (0 : Int32)) (fun g1 => bd (f_X12_isGoalTold l0 l1 l2 l3 g1) (fun v3 g4 => if (b2i v3) = 0 then (some ((-2 : Int64), g4)) else (bd (f_X12_within (l4.toInt64) (0 : Int64) (15 : Int64) g4) (fun v8 g9 => if (b2i v8) = 0 then (some ((-3 : Int64), g9)) else (bd (f_X12_laysStands l0 l1 g9) (fun v13 g14 => bd (f_X12_beginsMany l0 l1 g14) (fun v17 g18 => f_X12_rows_49 FU l0 l2 l3 l4 (0 : Int32) g18)))))))
def f_X4_trailTo_68 (l2 : Int64) (g : G) : Option (Int64 × G) :=
  some (l2, g)
def f_X4_trailTo_8 : Nat → Nat → Int64 → Int32 → Int32 → G → Option (Int64 × G)
  | 0, _, _, _, _, _ => none
  | n + 1, l0, l2, l4, l5, g =>
  if (256 : Int32) ≤ l5 then (f_X4_trailTo_68 l2 g) else (bd (f_X4_has l0 l4 g) (fun v2 g3 => if (b2i v2) = 0 then (f_X4_trailTo_68 l2 g3) else (dr (gR g3 l0 1) (fun b7 => gdK g3 b7 14 (gdI l4 (gN g3 b7) (ll (l2 ||| (((1 : Int64) <<< (((gI g3 b7 l4.toNatClampNeg) / (64 : Int32)).toInt64 &&& 63)) ||| ((1 : Int64) <<< (((gI g3 b7 l4.toNatClampNeg) - (gI g3 b7 l4.toNatClampNeg) / (64 : Int32) * (64 : Int32)).toInt64 &&& 63)))) (fun y11 => dr (gR g3 l0 3) (fun b13 => gdK g3 b13 14 (gdI l4 (gN g3 b13) (li (gI g3 b13 l4.toNatClampNeg) (fun y17 => f_X4_trailTo_8 n l0 y11 y17 (l5 + (1 : Int32)) g3)))))))))))
def f_X4_trailTo (l0 : Nat) (l1 : Int32) (g : G) : Option (Int64 × G) :=
  f_X4_trailTo_8 FU l0 (0 : Int64) l1 (0 : Int32) g
def f_X11_needed_185 (k108 : Nat → Int32 → Int32 → Int32 → Int64 → Int64 → Int64 → Int32 → G → Option (Int64 × G)) (l0 : Nat) (l2 : Int32) (l3 : Int32) (l6 : Int32) (l9 : Int64) (l11 : Int64) (l13 : Int64) (l15 : Int32) (g : G) : Option (Int64 × G) :=
  k108 l0 l2 l3 l6 l9 l11 l13 (l15 + (1 : Int32)) g
def f_X11_needed_108 : Nat → Nat → Int32 → Int32 → Int32 → Int64 → Int64 → Int64 → Int32 → G → Option (Int64 × G)
  | 0, _, _, _, _, _, _, _, _, _ => none
  | n + 1, l0, l2, l3, l6, l9, l11, l13, l15, g =>
  if (36 : Int32) ≤ l15 then (some (l11, g)) else (if (lg_cmp (((l9.toUInt64 >>> (l15.toInt64.toUInt64 &&& Int64.toUInt64 63)).toInt64) &&& (1 : Int64)) (0 : Int64)) = 0 then (f_X11_needed_185 (f_X11_needed_108 n) l0 l2 l3 l6 l9 l11 l13 l15 g) else (dr (gR g l0 7) (fun b3 => gdK g b3 9 (lg (sL g b3 0 (l13 &&& (((1 : Int64) <<< (l15.toInt64 &&& 63)) ^^^ (-1 : Int64)))) (fun g6 => dr (gR g6 l0 9) (fun b8 => gdK g6 b8 4 (bd (f_X4_build b8 b3 l6 l2 l3 g6) (fun v11 g12 => dr (gR g12 l0 9) (fun b15 => gdK g12 b15 4 (bd (f_X4_find b15 l2 l3 g12) (fun v18 g19 => if v18 = (-1 : Int32) then (ll (l11 ||| ((1 : Int64) <<< (l15.toInt64 &&& 63))) (fun y23 => f_X11_needed_185 (f_X11_needed_108 n) l0 l2 l3 l6 l9 y23 l13 l15 g19)) else (f_X11_needed_185 (f_X11_needed_108 n) l0 l2 l3 l6 l9 l11 l13 l15 g19))))))))))))
def f_X11_needed (l0 : Nat) (l1 : Int32) (l2 : Int32) (l3 : Int32) (g : G) : Option (Int64 × G) :=
  bd (f_X11_isGoal l0 l1 l2 l3 g) (fun v1 g2 => if (b2i v1) = 0 then (some ((-2 : Int64), g2)) else (bd (f_X11_graphOf l0 l1 g2) (fun v6 g7 => gdK g7 v6 4 (bd (f_X4_find v6 l2 l3 g7) (fun v11 g12 => if v11 = (-1 : Int32) then (some ((0 : Int64), g12)) else (dr (gR g12 l0 4) (fun b16 => gdK g12 b16 0 (bd (f_X0_standOf b16 l1 g12) (fun v19 g20 => ll (((1 : Int64) <<< ((v19 / (64 : Int32)).toInt64 &&& 63)) ||| ((1 : Int64) <<< ((v19 - v19 / (64 : Int32) * (64 : Int32)).toInt64 &&& 63))) (fun y23 => bd (f_X4_trailTo v6 v11 g20) (fun v25 g26 => ll (v25 &&& (y23 ^^^ (-1 : Int64))) (fun y29 => dr (gR g26 l0 7) (fun b31 => dr (gR g26 l0 4) (fun b33 => gdK g26 b31 9 (gdK g26 b33 0 (bd (f_X9_aim b31 b33 l1 g26) (fun v37 g38 => dr (gR g38 l0 7) (fun b41 => gdK g38 b41 9 (ll (gL g38 b41 0) (fun y44 => f_X11_needed_108 FU l0 l2 l3 v19 y29 (0 : Int64) y44 (0 : Int32) g38))))))))))))))))))))
def f_X12_needed_131 (k40 : Nat → Int32 → Int32 → Int32 → Int64 → Int32 → G → Option (Int64 × G)) (l0 : Nat) (l1 : Int32) (l2 : Int32) (l3 : Int32) (l4 : Int64) (l6 : Int32) (g : G) : Option (Int64 × G) :=
  k40 l0 l1 l2 l3 l4 (l6 + (1 : Int32)) g
def f_X12_needed_117 (k40 : Nat → Int32 → Int32 → Int32 → Int64 → Int32 → G → Option (Int64 × G)) (l0 : Nat) (l1 : Int32) (l2 : Int32) (l3 : Int32) (l6 : Int32) (s0 : Int64) (s1 : Int64) (g : G) : Option (Int64 × G) :=
  ll (s1 ||| s0) (fun y1 => dr (gR g l0 1) (fun b3 => gdK g b3 14 (gdI ((52 : Int32) + l6) (gN g b3) (lg (sI g b3 ((52 : Int32) + l6).toNatClampNeg (0 : Int32)) (fun g7 => f_X12_needed_131 k40 l0 l1 l2 l3 y1 l6 g7)))))
def f_X12_needed_40 : Nat → Nat → Int32 → Int32 → Int32 → Int64 → Int32 → G → Option (Int64 × G)
  | 0, _, _, _, _, _, _, _ => none
  | n + 1, l0, l1, l2, l3, l4, l6, g =>
  bd (f_X12_cells l0 g) (fun v1 g2 => if v1 ≤ l6 then (some (l4, g2)) else (bd (f_X12_isFree l0 l1 l6 g2) (fun v6 g7 => if (b2i v6) = 0 then (f_X12_needed_131 (f_X12_needed_40 n) l0 l1 l2 l3 l4 l6 g7) else (bd (f_X12_twinOf l0 l1 (0 : Int32) g7) (fun v11 g12 => if v11 = l6 then (f_X12_needed_131 (f_X12_needed_40 n) l0 l1 l2 l3 l4 l6 g12) else (bd (f_X12_twinOf l0 l1 (1 : Int32) g12) (fun v16 g17 => if v16 = l6 then (f_X12_needed_131 (f_X12_needed_40 n) l0 l1 l2 l3 l4 l6 g17) else (dr (gR g17 l0 1) (fun b21 => gdK g17 b21 14 (gdI ((52 : Int32) + l6) (gN g17 b21) (lg (sI g17 b21 ((52 : Int32) + l6).toNatClampNeg (1 : Int32)) (fun g25 => bd (f_X12_comes l0 l1 l2 l3 (0 : Int32) g25) (fun v27 g28 => if v27 = (-1 : Int32) then (f_X12_needed_117 (f_X12_needed_40 n) l0 l1 l2 l3 l6 ((1 : Int64) <<< (l6.toInt64 &&& 63)) l4 g28) else (f_X12_needed_117 (f_X12_needed_40 n) l0 l1 l2 l3 l6 (0 : Int64) l4 g28))))))))))))))
def f_X12_needed (l0 : Nat) (l1 : Int32) (l2 : Int32) (l3 : Int32) (g : G) : Option (Int64 × G) :=
  lg (sI g l0 0 (0 : Int32)) (fun g1 => bd (f_X12_isGoalTold l0 l1 l2 l3 g1) (fun v3 g4 => if (b2i v3) = 0 then (some ((-2 : Int64), g4)) else (bd (f_X12_comes l0 l1 l2 l3 (0 : Int32) g4) (fun v8 g9 => if v8 = (-1 : Int32) then (some ((0 : Int64), g9)) else (f_X12_needed_40 FU l0 l1 l2 l3 (0 : Int64) (0 : Int32) g9)))))
def f_X4_cellOf (l0 : Nat) (l1 : Int32) (l2 : Int32) (g : G) : Option (Int32 × G) :=
  bd (f_X4_has l0 l1 g) (fun v1 g2 => if (b2i v1) = 0 then (some ((-1 : Int32), g2)) else (if l2 = 0 then (dr (gR g2 l0 1) (fun b11 => gdK g2 b11 14 (gdI l1 (gN g2 b11) (some (((gI g2 b11 l1.toNatClampNeg) / (64 : Int32)), g2))))) else (dr (gR g2 l0 1) (fun b7 => gdK g2 b7 14 (gdI l1 (gN g2 b7) (some (((gI g2 b7 l1.toNatClampNeg) - (gI g2 b7 l1.toNatClampNeg) / (64 : Int32) * (64 : Int32)), g2)))))))
def f_X2_explore_299 (k110 : Nat → Nat → Int32 → Int32 → Int32 → Int32 → G → Option (Unit × G)) (k152 : Nat → Nat → Int32 → Int32 → Int32 → Int32 → Int32 → Int32 → G → Option (Unit × G)) (l0 : Nat) (l1 : Nat) (l4 : Int32) (l5 : Int32) (l7 : Int32) (l8 : Int32) (l9 : Int32) (l10 : Int32) (g : G) : Option (Unit × G) :=
  k152 l0 l1 l4 l5 l7 l8 l9 (l10 + (1 : Int32)) g
def f_X2_explore_222 (k110 : Nat → Nat → Int32 → Int32 → Int32 → Int32 → G → Option (Unit × G)) (k152 : Nat → Nat → Int32 → Int32 → Int32 → Int32 → Int32 → Int32 → G → Option (Unit × G)) (l0 : Nat) (l1 : Nat) (l4 : Int32) (l5 : Int32) (l7 : Int32) (l8 : Int32) (l9 : Int32) (l10 : Int32) (l11 : Int32) (s0 : Int32) (s1 : Int32) (g : G) : Option (Unit × G) :=
  li (s1 ||| s0) (fun y1 => li ((l11 * (4 : Int32)) + y1) (fun y3 => dr (gR g l0 3) (fun b5 => gdK g b5 14 (gdI y3 (gN g b5) (if (gI g b5 y3.toNatClampNeg) = (-1 : Int32) then (if (1024 : Int32) ≤ l7 then (f_X2_explore_299 k110 k152 l0 l1 l4 l5 l7 l8 l9 l10 g) else (gdI l9 (gN g b5) (lg (sI g b5 y3.toNatClampNeg ((gI g b5 l9.toNatClampNeg) + (1 : Int32))) (fun g12 => dr (gR g12 l0 1) (fun b14 => gdK g12 b14 14 (gdI y3 (gN g12 b14) (lg (sI g12 b14 y3.toNatClampNeg l9) (fun g18 => dr (gR g18 l0 2) (fun b20 => gdK g18 b20 14 (gdI y3 (gN g18 b20) (lg (sI g18 b20 y3.toNatClampNeg l10) (fun g24 => dr (gR g24 l0 0) (fun b26 => gdK g24 b26 14 (gdI l7 (gN g24 b26) (lg (sI g24 b26 l7.toNatClampNeg y3) (fun g30 => f_X2_explore_299 k110 k152 l0 l1 l4 l5 (l7 + (1 : Int32)) l8 l9 l10 g30)))))))))))))))) else (f_X2_explore_299 k110 k152 l0 l1 l4 l5 l7 l8 l9 l10 g))))))
def f_X2_explore_204 (k110 : Nat → Nat → Int32 → Int32 → Int32 → Int32 → G → Option (Unit × G)) (k152 : Nat → Nat → Int32 → Int32 → Int32 → Int32 → Int32 → Int32 → G → Option (Unit × G)) (l0 : Nat) (l1 : Nat) (l4 : Int32) (l5 : Int32) (l7 : Int32) (l8 : Int32) (l9 : Int32) (l10 : Int32) (l11 : Int32) (s0 : Int32) (s1 : Int32) (g : G) : Option (Unit × G) :=
  bd (f_X4_cellOf l1 l11 (1 : Int32) g) (fun v1 g2 => if v1 = l5 then (f_X2_explore_222 k110 k152 l0 l1 l4 l5 l7 l8 l9 l10 l11 (2 : Int32) (s1 ||| s0) g2) else (f_X2_explore_222 k110 k152 l0 l1 l4 l5 l7 l8 l9 l10 l11 (0 : Int32) (s1 ||| s0) g2))
def f_X2_explore_152 (k110 : Nat → Nat → Int32 → Int32 → Int32 → Int32 → G → Option (Unit × G)) : Nat → Nat → Nat → Int32 → Int32 → Int32 → Int32 → Int32 → Int32 → G → Option (Unit × G)
  | 0, _, _, _, _, _, _, _, _, _ => none
  | n + 1, l0, l1, l4, l5, l7, l8, l9, l10, g =>
  if (8 : Int32) ≤ l10 then (k110 l0 l1 l4 l5 l7 (l8 + (1 : Int32)) g) else (bd (f_X4_nextOf l1 (l9 / (4 : Int32)) l10 g) (fun v2 g3 => bd (f_X4_has l1 v2 g3) (fun v6 g7 => if (b2i v6) = 0 then (f_X2_explore_299 k110 (f_X2_explore_152 k110 n) l0 l1 l4 l5 l7 l8 l9 l10 g7) else (bd (f_X4_cellOf l1 v2 (0 : Int32) g7) (fun v11 g12 => if v11 = l4 then (f_X2_explore_204 k110 (f_X2_explore_152 k110 n) l0 l1 l4 l5 l7 l8 l9 l10 v2 (1 : Int32) (l9 - l9 / (4 : Int32) * (4 : Int32)) g12) else (f_X2_explore_204 k110 (f_X2_explore_152 k110 n) l0 l1 l4 l5 l7 l8 l9 l10 v2 (0 : Int32) (l9 - l9 / (4 : Int32) * (4 : Int32)) g12))))))
def f_X2_explore_110 : Nat → Nat → Nat → Int32 → Int32 → Int32 → Int32 → G → Option (Unit × G)
  | 0, _, _, _, _, _, _, _ => none
  | n + 1, l0, l1, l4, l5, l7, l8, g =>
  if l7 ≤ l8 then (some ((), g)) else (if (1024 : Int32) ≤ l8 then (some ((), g)) else (dr (gR g l0 0) (fun b3 => gdK g b3 14 (gdI l8 (gN g b3) (li (gI g b3 l8.toNatClampNeg) (fun y7 => if (y7 - y7 / (4 : Int32) * (4 : Int32)) = (3 : Int32) then (lg (sI g l0 4 y7) (fun g10 => some ((), g10))) else (f_X2_explore_152 (f_X2_explore_110 n) FU l0 l1 l4 l5 l7 l8 y7 (0 : Int32) g)))))))
def f_X2_explore_72 (l0 : Nat) (l1 : Nat) (l2 : Nat) (l3 : Int32) (l4 : Int32) (l5 : Int32) (s0 : Int32) (s1 : Int32) (g : G) : Option (Unit × G) :=
  li (s1 + s0) (fun y1 => dr (gR g l0 0) (fun b3 => dr (gR g l2 5) (fun b5 => gdK g b5 14 (gdI l3 (gN g b5) (gdK g b3 14 (gdI (0 : Int32) (gN g b3) (lg (sI g b3 (0 : Int32).toNatClampNeg (((gI g b5 l3.toNatClampNeg) ||| y1) &&& (3 : Int32))) (fun g11 => dr (gR g11 l0 3) (fun b13 => gdK g11 b13 14 (gdI (gI g11 b3 (0 : Int32).toNatClampNeg) (gN g11 b13) (lg (sI g11 b13 (gI g11 b3 (0 : Int32).toNatClampNeg).toNatClampNeg (0 : Int32)) (fun g17 => f_X2_explore_110 FU l0 l1 l4 l5 (1 : Int32) (0 : Int32) g17))))))))))))
def f_X2_explore_61 (l0 : Nat) (l1 : Nat) (l2 : Nat) (l3 : Int32) (l4 : Int32) (l5 : Int32) (s0 : Int32) (g : G) : Option (Unit × G) :=
  if l5 = (-1 : Int32) then (f_X2_explore_72 l0 l1 l2 l3 l4 l5 (2 : Int32) s0 g) else (f_X2_explore_72 l0 l1 l2 l3 l4 l5 (0 : Int32) s0 g)
def f_X2_explore (l0 : Nat) (l1 : Nat) (l2 : Nat) (l3 : Int32) (g : G) : Option (Unit × G) :=
  dr (gR g l0 3) (fun b1 => gdK g b1 14 (bd (f_J7_fill_53178 b1 (-1 : Int32) g) (fun v4 g5 => lg (sI g5 l0 4 (-1 : Int32)) (fun g8 => bd (f_X0_isPair l2 l3 g8) (fun v10 g11 => if (b2i v10) = 0 then (some ((), g11)) else (dr (gR g11 l2 0) (fun b15 => gdK g11 b15 7 (dr (gR g11 b15 9) (fun b18 => gdK g11 b18 14 (gdI ((2 : Int32) * l3) (gN g11 b18) (li (gI g11 b18 ((2 : Int32) * l3).toNatClampNeg) (fun y22 => gdI (((2 : Int32) * l3) + (1 : Int32)) (gN g11 b18) (li (gI g11 b18 (((2 : Int32) * l3) + (1 : Int32)).toNatClampNeg) (fun y25 => if y22 = (-1 : Int32) then (f_X2_explore_61 l0 l1 l2 l3 y22 y25 (1 : Int32) g11) else (f_X2_explore_61 l0 l1 l2 l3 y22 y25 (0 : Int32) g11)))))))))))))))
def f_X2_length (l0 : Nat) (g : G) : Option (Int32 × G) :=
  if 0 ≤ (gI g l0 4) then (dr (gR g l0 3) (fun b2 => gdK g b2 14 (gdI (gI g l0 4) (gN g b2) (some ((gI g b2 (gI g l0 4).toNatClampNeg), g))))) else (some ((-1 : Int32), g))
def f_X11_errands (l0 : Nat) (l1 : Int32) (g : G) : Option (Int32 × G) :=
  dr (gR g l0 4) (fun b1 => gdK g b1 0 (bd (f_X0_isPair b1 l1 g) (fun v4 g5 => if (b2i v4) = 0 then (some ((-2 : Int32), g5)) else (dr (gR g5 l0 12) (fun b9 => bd (f_X11_graphOf l0 l1 g5) (fun v11 g12 => dr (gR g12 l0 4) (fun b15 => gdK g12 b9 2 (gdK g12 v11 4 (gdK g12 b15 0 (bd (f_X2_explore b9 v11 b15 l1 g12) (fun v20 g21 => dr (gR g21 l0 12) (fun b24 => gdK g21 b24 2 (bd (f_X2_length b24 g21) (fun v27 g28 => some (v27, g28)))))))))))))))
def f_X12_doneIn_63 (k6 : Nat → Int32 → Int32 → Int32 → Int32 → G → Option (Int32 × G)) (l0 : Nat) (l1 : Int32) (l2 : Int32) (l5 : Int32) (s0 : Int32) (s1 : Int32) (g : G) : Option (Int32 × G) :=
  li (s1 ||| s0) (fun y1 => k6 l0 l1 l2 y1 (l5 + (1 : Int32)) g)
def f_X12_doneIn_55 (k6 : Nat → Int32 → Int32 → Int32 → Int32 → G → Option (Int32 × G)) (l0 : Nat) (l1 : Int32) (l2 : Int32) (l5 : Int32) (s0 : Int32) (g : G) : Option (Int32 × G) :=
  f_X12_doneIn_63 k6 l0 l1 l2 l5 ((1 : Int32) <<< (l5 &&& 31)) s0 g
def f_X12_doneIn_6 : Nat → Nat → Int32 → Int32 → Int32 → Int32 → G → Option (Int32 × G)
  | 0, _, _, _, _, _, _ => none
  | n + 1, l0, l1, l2, l4, l5, g =>
  if (2 : Int32) ≤ l5 then (some (l4, g)) else (dr (gR g l0 1) (fun b2 => gdK g b2 14 (gdI (((46 : Int32) + ((2 : Int32) * l1)) + l5) (gN g b2) (if (gI g b2 (((46 : Int32) + ((2 : Int32) * l1)) + l5).toNatClampNeg) = (-1 : Int32) then (f_X12_doneIn_55 (f_X12_doneIn_6 n) l0 l1 l2 l5 l4 g) else (bd (f_X12_inStand l2 l5 g) (fun v7 g8 => dr (gR g8 l0 1) (fun b11 => gdK g8 b11 14 (gdI (((46 : Int32) + ((2 : Int32) * l1)) + l5) (gN g8 b11) (if v7 = (gI g8 b11 (((46 : Int32) + ((2 : Int32) * l1)) + l5).toNatClampNeg) then (f_X12_doneIn_55 (f_X12_doneIn_6 n) l0 l1 l2 l5 l4 g8) else (f_X12_doneIn_63 (f_X12_doneIn_6 n) l0 l1 l2 l5 (0 : Int32) l4 g8))))))))))
def f_X12_doneIn (l0 : Nat) (l1 : Int32) (l2 : Int32) (l3 : Int32) (g : G) : Option (Int32 × G) :=
  f_X12_doneIn_6 FU l0 l1 l2 l3 (0 : Int32) g
def f_X12_errandBy (l0 : Nat) (l1 : Int32) (l2 : Int32) (l3 : Int32) (l4 : Int32) (g : G) : Option (Int32 × G) :=
  dr (gR g l0 24) (fun b1 => gdK g b1 14 (gdI (((8 : Int32) * l2) + l4) (gN g b1) (li (gI g b1 (((8 : Int32) * l2) + l4).toNatClampNeg) (fun y5 => if y5 = (-1 : Int32) then (some ((1073741824 : Int32), g)) else (dr (gR g l0 26) (fun b8 => bd (f_X12_doneIn l0 l1 y5 l3 g) (fun v10 g11 => gdK g11 b8 14 (gdI (((4 : Int32) * y5) + v10) (gN g11 b8) (li (gI g11 b8 (((4 : Int32) * y5) + v10).toNatClampNeg) (fun y16 => if y16 = (1073741824 : Int32) then (some ((1073741824 : Int32), g11)) else (some ((y16 + (1 : Int32)), g11))))))))))))
def f_X12_laysErrands_33 (k7 : Nat → Int32 → Int32 → G → Option (Int32 × G)) (l0 : Nat) (l1 : Int32) (l2 : Int32) (s0 : Int32) (s1 : Int32) (s2 : Nat) (g : G) : Option (Int32 × G) :=
  gdI s1 (gN g s2) (lg (sI g s2 s1.toNatClampNeg s0) (fun g2 => k7 l0 l1 (l2 + (1 : Int32)) g2))
def f_X12_laysErrands_126 (k42 : Nat → Int32 → Int32 → G → Option (Int32 × G)) (k50 : Nat → Int32 → Int32 → Int32 → G → Option (Int32 × G)) (k65 : Nat → Int32 → Int32 → Int32 → Int32 → Int32 → G → Option (Int32 × G)) (l0 : Nat) (l1 : Int32) (l2 : Int32) (l3 : Int32) (l4 : Int32) (l5 : Int32) (g : G) : Option (Int32 × G) :=
  k65 l0 l1 l2 l3 l4 (l5 + (1 : Int32)) g
def f_X12_laysErrands_132 (k42 : Nat → Int32 → Int32 → G → Option (Int32 × G)) (k50 : Nat → Int32 → Int32 → Int32 → G → Option (Int32 × G)) (l0 : Nat) (l1 : Int32) (l2 : Int32) (l3 : Int32) (g : G) : Option (Int32 × G) :=
  k50 l0 l1 l2 (l3 + (1 : Int32)) g
def f_X12_laysErrands_65 (k42 : Nat → Int32 → Int32 → G → Option (Int32 × G)) (k50 : Nat → Int32 → Int32 → Int32 → G → Option (Int32 × G)) : Nat → Nat → Int32 → Int32 → Int32 → Int32 → Int32 → G → Option (Int32 × G)
  | 0, _, _, _, _, _, _, _ => none
  | n + 1, l0, l1, l2, l3, l4, l5, g =>
  if (8 : Int32) ≤ l5 then (f_X12_laysErrands_132 k42 k50 l0 l1 l2 l3 g) else (dr (gR g l0 23) (fun b2 => gdK g b2 16 (gdI l4 (gN g b2) (if (gI g b2 l4.toNatClampNeg) = 0 then (f_X12_laysErrands_132 k42 k50 l0 l1 l2 l3 g) else (bd (f_X12_errandBy l0 l1 l4 (l3 - l3 / (4 : Int32) * (4 : Int32)) l5 g) (fun v7 g8 => dr (gR g8 l0 26) (fun b11 => gdK g8 b11 14 (gdI l3 (gN g8 b11) (if v7 < (gI g8 b11 l3.toNatClampNeg) then (bd (f_X12_errandBy l0 l1 l4 (l3 - l3 / (4 : Int32) * (4 : Int32)) l5 g8) (fun v16 g17 => gdI l3 (gN g17 b11) (lg (sI g17 b11 l3.toNatClampNeg v16) (fun g21 => f_X12_laysErrands_126 k42 k50 (f_X12_laysErrands_65 k42 k50 n) l0 l1 (1 : Int32) l3 l4 l5 g21)))) else (f_X12_laysErrands_126 k42 k50 (f_X12_laysErrands_65 k42 k50 n) l0 l1 l2 l3 l4 l5 g8))))))))))
def f_X12_laysErrands_50 (k42 : Nat → Int32 → Int32 → G → Option (Int32 × G)) : Nat → Nat → Int32 → Int32 → Int32 → G → Option (Int32 × G)
  | 0, _, _, _, _, _ => none
  | n + 1, l0, l1, l2, l3, g =>
  if (5184 : Int32) ≤ l3 then (k42 l0 l1 l2 g) else (li (l3 / (4 : Int32)) (fun y2 => f_X12_laysErrands_65 k42 (f_X12_laysErrands_50 k42 n) FU l0 l1 l2 l3 y2 (0 : Int32) g))
def f_X12_laysErrands_42 : Nat → Nat → Int32 → Int32 → G → Option (Int32 × G)
  | 0, _, _, _, _ => none
  | n + 1, l0, l1, l2, g =>
  if l2 = 0 then (dr (gR g l0 26) (fun b2 => bd (f_X12_standNow l0 l1 g) (fun v4 g5 => bd (f_X12_standNow l0 l1 g5) (fun v8 g9 => dr (gR g9 l0 1) (fun b12 => gdK g9 b12 14 (gdI ((100 : Int32) + l1) (gN g9 b12) (bd (f_X12_doneIn l0 l1 v8 (gI g9 b12 ((100 : Int32) + l1).toNatClampNeg) g9) (fun v16 g17 => gdK g17 b2 14 (gdI (((4 : Int32) * v4) + v16) (gN g17 b2) (some ((gI g17 b2 (((4 : Int32) * v4) + v16).toNatClampNeg), g17))))))))))) else (f_X12_laysErrands_50 (f_X12_laysErrands_42 n) FU l0 l1 (0 : Int32) (0 : Int32) g)
def f_X12_laysErrands_7 : Nat → Nat → Int32 → Int32 → G → Option (Int32 × G)
  | 0, _, _, _, _ => none
  | n + 1, l0, l1, l2, g =>
  if (5184 : Int32) ≤ l2 then (f_X12_laysErrands_42 FU l0 l1 (1 : Int32) g) else (dr (gR g l0 26) (fun b2 => if (l2 - l2 / (4 : Int32) * (4 : Int32)) = (3 : Int32) then (gdK g b2 14 (f_X12_laysErrands_33 (f_X12_laysErrands_7 n) l0 l1 l2 (0 : Int32) l2 b2 g)) else (gdK g b2 14 (f_X12_laysErrands_33 (f_X12_laysErrands_7 n) l0 l1 l2 (1073741824 : Int32) l2 b2 g))))
def f_X12_laysErrands (l0 : Nat) (l1 : Int32) (g : G) : Option (Int32 × G) :=
  bd (f_X12_laysStands l0 l1 g) (fun v1 g2 => f_X12_laysErrands_7 FU l0 l1 (0 : Int32) g2)
def f_X12_errands (l0 : Nat) (l1 : Int32) (g : G) : Option (Int32 × G) :=
  lg (sI g l0 0 (0 : Int32)) (fun g1 => bd (f_X12_isPair l0 (l1.toInt64) g1) (fun v3 g4 => if (b2i v3) = 0 then (some ((-2 : Int32), g4)) else (bd (f_X12_laysErrands l0 l1 g4) (fun v8 g9 => bd (f_X12_toldFar v8 (0 : Int32) g9) (fun v12 g13 => some (v12, g13))))))
def f_X2_leadAt_53 (l0 : Nat) (l2 : Int32) (g : G) : Option (Int32 × G) :=
  dr (gR g l0 2) (fun b1 => gdK g b1 14 (gdI l2 (gN g b1) (some ((gI g b1 l2.toNatClampNeg), g))))
def f_X2_leadAt_21 : Nat → Nat → Int32 → Int32 → Int32 → G → Option (Int32 × G)
  | 0, _, _, _, _, _ => none
  | n + 1, l0, l1, l2, l3, g =>
  if (1024 : Int32) ≤ l3 then (f_X2_leadAt_53 l0 l2 g) else (dr (gR g l0 3) (fun b2 => gdK g b2 14 (gdI l2 (gN g b2) (if (gI g b2 l2.toNatClampNeg) ≤ (l1 + (1 : Int32)) then (f_X2_leadAt_53 l0 l2 g) else (dr (gR g l0 1) (fun b7 => gdK g b7 14 (gdI l2 (gN g b7) (li (gI g b7 l2.toNatClampNeg) (fun y11 => f_X2_leadAt_21 n l0 l1 y11 (l3 + (1 : Int32)) g)))))))))
def f_X2_leadAt (l0 : Nat) (l1 : Int32) (g : G) : Option (Int32 × G) :=
  if l1 < 0 then (some ((-1 : Int32), g)) else (bd (f_X2_length l0 g) (fun v2 g3 => if l1 < v2 then (li (gI g3 l0 4) (fun y7 => f_X2_leadAt_21 FU l0 l1 y7 (0 : Int32) g3)) else (some ((-1 : Int32), g3))))
def f_X11_errandWay (l0 : Nat) (l1 : Int32) (l2 : Int32) (g : G) : Option (Int32 × G) :=
  dr (gR g l0 4) (fun b1 => gdK g b1 0 (bd (f_X0_isPair b1 l1 g) (fun v4 g5 => if (b2i v4) = 0 then (some ((-2 : Int32), g5)) else (if 0 ≤ l2 then (dr (gR g5 l0 12) (fun b10 => bd (f_X11_graphOf l0 l1 g5) (fun v12 g13 => dr (gR g13 l0 4) (fun b16 => gdK g13 b10 2 (gdK g13 v12 4 (gdK g13 b16 0 (bd (f_X2_explore b10 v12 b16 l1 g13) (fun v21 g22 => dr (gR g22 l0 12) (fun b25 => gdK g22 b25 2 (bd (f_X2_leadAt b25 l2 g22) (fun v28 g29 => bd (f_X11_told v28 g29) (fun v32 g33 => some (v32, g33))))))))))))) else (some ((-3 : Int32), g5))))))
def f_X12_errandWay_75 (k72 : Nat → Int32 → Int32 → Int32 → Int32 → Int32 → G → Option (Int32 × G)) : Nat → Nat → Int32 → Int32 → Int32 → Int32 → Int32 → Int32 → G → Option (Int32 × G)
  | 0, _, _, _, _, _, _, _, _ => none
  | n + 1, l0, l1, l2, l4, l5, l6, l7, g =>
  bd (f_X12_errandBy l0 l1 l4 l5 l7 g) (fun v1 g2 => dr (gR g2 l0 26) (fun b5 => gdK g2 b5 14 (gdI (((4 : Int32) * l4) + l5) (gN g2 b5) (if v1 = (gI g2 b5 (((4 : Int32) * l4) + l5).toNatClampNeg) then (if l6 = l2 then (some ((((10 : Int32) * (l7 / (4 : Int32))) + (l7 - l7 / (4 : Int32) * (4 : Int32))), g2)) else (dr (gR g2 l0 24) (fun b11 => gdK g2 b11 14 (gdI (((8 : Int32) * l4) + l7) (gN g2 b11) (li (gI g2 b11 (((8 : Int32) * l4) + l7).toNatClampNeg) (fun y15 => bd (f_X12_doneIn l0 l1 y15 l5 g2) (fun v17 g18 => k72 l0 l1 l2 y15 v17 (l6 + (1 : Int32)) g18))))))) else (f_X12_errandWay_75 k72 n l0 l1 l2 l4 l5 l6 (l7 + (1 : Int32)) g2)))))
def f_X12_errandWay_72 : Nat → Nat → Int32 → Int32 → Int32 → Int32 → Int32 → G → Option (Int32 × G)
  | 0, _, _, _, _, _, _, _ => none
  | n + 1, l0, l1, l2, l4, l5, l6, g =>
  f_X12_errandWay_75 (f_X12_errandWay_72 n) FU l0 l1 l2 l4 l5 l6 (0 : Int32) g
def f_X12_errandWay (l0 : Nat) (l1 : Int32) (l2 : Int32) (g : G) : Option (Int32 × G) :=
  lg (sI g l0 0 (0 : Int32)) (fun g1 => bd (f_X12_isPair l0 (l1.toInt64) g1) (fun v3 g4 => if (b2i v3) = 0 then (some ((-2 : Int32), g4)) else (if 0 ≤ l2 then (bd (f_X12_laysErrands l0 l1 g4) (fun v9 g10 => if v9 = (1073741824 : Int32) then (some ((-1 : Int32), g10)) else (if l2 < v9 then (bd (f_X12_standNow l0 l1 g10) (fun v15 g16 => dr (gR g16 l0 1) (fun b19 => gdK g16 b19 14 (gdI ((100 : Int32) + l1) (gN g16 b19) (bd (f_X12_doneIn l0 l1 v15 (gI g16 b19 ((100 : Int32) + l1).toNatClampNeg) g16) (fun v23 g24 => f_X12_errandWay_72 FU l0 l1 l2 v15 v23 (0 : Int32) g24)))))) else (some ((-1 : Int32), g10))))) else (some ((-3 : Int32), g4)))))
def f_X11_isTwin_9 (g : G) : Option (Bool × G) :=
  some (true, g)
def f_X11_isTwin (l0 : Int32) (g : G) : Option (Bool × G) :=
  if l0 = 0 then (f_X11_isTwin_9 g) else (if l0 = (1 : Int32) then (f_X11_isTwin_9 g) else (some (false, g)))
def f_X4_cellsOf_5 : Nat → Nat → Int32 → Int64 → Int32 → G → Option (Int64 × G)
  | 0, _, _, _, _, _ => none
  | n + 1, l0, l1, l2, l4, g =>
  if (gI g l0 0) ≤ l4 then (some (l2, g)) else (bd (f_X4_cellOf l0 l4 l1 g) (fun v2 g3 => ll (l2 ||| ((1 : Int64) <<< (v2.toInt64 &&& 63))) (fun y6 => f_X4_cellsOf_5 n l0 l1 y6 (l4 + (1 : Int32)) g3)))
def f_X4_cellsOf (l0 : Nat) (l1 : Int32) (g : G) : Option (Int64 × G) :=
  f_X4_cellsOf_5 FU l0 l1 (0 : Int64) (0 : Int32) g
def f_X11_reach_18 (g : G) : Option (Int64 × G) :=
  some ((-2 : Int64), g)
def f_X11_reach (l0 : Nat) (l1 : Int32) (l2 : Int32) (g : G) : Option (Int64 × G) :=
  dr (gR g l0 4) (fun b1 => gdK g b1 0 (bd (f_X0_isPair b1 l1 g) (fun v4 g5 => if (b2i v4) = 0 then (f_X11_reach_18 g5) else (bd (f_X11_isTwin l2 g5) (fun v9 g10 => if (b2i v9) = 0 then (f_X11_reach_18 g10) else (bd (f_X11_graphOf l0 l1 g10) (fun v14 g15 => gdK g15 v14 4 (bd (f_X4_cellsOf v14 l2 g15) (fun v19 g20 => some (v19, g20))))))))))
def f_X12_isTwin (l0 : Int32) (g : G) : Option (Bool × G) :=
  bd (f_X12_within (l0.toInt64) (0 : Int64) (1 : Int64) g) (fun v1 g2 => some (v1, g2))
def f_X12_laysFirst_35 (k7 : Nat → Int32 → Int32 → G → Option (Unit × G)) (l0 : Nat) (l1 : Int32) (l2 : Int32) (s0 : Int32) (s1 : Int32) (s2 : Nat) (g : G) : Option (Unit × G) :=
  gdI s1 (gN g s2) (lg (sI g s2 s1.toNatClampNeg s0) (fun g2 => k7 l0 l1 (l2 + (1 : Int32)) g2))
def f_X12_laysFirst_123 (k44 : Nat → Int32 → G → Option (Unit × G)) (k53 : Nat → Int32 → Int32 → G → Option (Unit × G)) (k63 : Nat → Int32 → Int32 → Int32 → G → Option (Unit × G)) (l0 : Nat) (l2 : Int32) (l3 : Int32) (l4 : Int32) (g : G) : Option (Unit × G) :=
  k63 l0 l2 l3 (l4 + (1 : Int32)) g
def f_X12_laysFirst_129 (k44 : Nat → Int32 → G → Option (Unit × G)) (k53 : Nat → Int32 → Int32 → G → Option (Unit × G)) (l0 : Nat) (l2 : Int32) (l3 : Int32) (g : G) : Option (Unit × G) :=
  k53 l0 l2 (l3 + (1 : Int32)) g
def f_X12_laysFirst_63 (k44 : Nat → Int32 → G → Option (Unit × G)) (k53 : Nat → Int32 → Int32 → G → Option (Unit × G)) : Nat → Nat → Int32 → Int32 → Int32 → G → Option (Unit × G)
  | 0, _, _, _, _, _ => none
  | n + 1, l0, l2, l3, l4, g =>
  if (8 : Int32) ≤ l4 then (f_X12_laysFirst_129 k44 k53 l0 l2 l3 g) else (dr (gR g l0 27) (fun b2 => gdK g b2 14 (gdI l3 (gN g b2) (if (gI g b2 l3.toNatClampNeg) = l2 then (dr (gR g l0 24) (fun b7 => gdK g b7 14 (gdI (((8 : Int32) * l3) + l4) (gN g b7) (li (gI g b7 (((8 : Int32) * l3) + l4).toNatClampNeg) (fun y11 => if y11 = (-1 : Int32) then (f_X12_laysFirst_123 k44 k53 (f_X12_laysFirst_63 k44 k53 n) l0 l2 l3 l4 g) else (gdI y11 (gN g b2) (if (gI g b2 y11.toNatClampNeg) = (1073741824 : Int32) then (lg (sI g b2 y11.toNatClampNeg (l2 + (1 : Int32))) (fun g16 => f_X12_laysFirst_123 k44 k53 (f_X12_laysFirst_63 k44 k53 n) l0 l2 l3 l4 g16)) else (f_X12_laysFirst_123 k44 k53 (f_X12_laysFirst_63 k44 k53 n) l0 l2 l3 l4 g)))))))) else (f_X12_laysFirst_129 k44 k53 l0 l2 l3 g)))))
def f_X12_laysFirst_53 (k44 : Nat → Int32 → G → Option (Unit × G)) : Nat → Nat → Int32 → Int32 → G → Option (Unit × G)
  | 0, _, _, _, _ => none
  | n + 1, l0, l2, l3, g =>
  if (1296 : Int32) ≤ l3 then (k44 l0 (l2 + (1 : Int32)) g) else (f_X12_laysFirst_63 k44 (f_X12_laysFirst_53 k44 n) FU l0 l2 l3 (0 : Int32) g)
def f_X12_laysFirst_44 : Nat → Nat → Int32 → G → Option (Unit × G)
  | 0, _, _, _ => none
  | n + 1, l0, l2, g =>
  if (1296 : Int32) ≤ l2 then (some ((), g)) else (f_X12_laysFirst_53 (f_X12_laysFirst_44 n) FU l0 l2 (0 : Int32) g)
def f_X12_laysFirst_7 : Nat → Nat → Int32 → Int32 → G → Option (Unit × G)
  | 0, _, _, _, _ => none
  | n + 1, l0, l1, l2, g =>
  if (1296 : Int32) ≤ l2 then (f_X12_laysFirst_44 FU l0 (0 : Int32) g) else (dr (gR g l0 27) (fun b2 => bd (f_X12_standNow l0 l1 g) (fun v4 g5 => if l2 = v4 then (gdK g5 b2 14 (f_X12_laysFirst_35 (f_X12_laysFirst_7 n) l0 l1 l2 (0 : Int32) l2 b2 g5)) else (gdK g5 b2 14 (f_X12_laysFirst_35 (f_X12_laysFirst_7 n) l0 l1 l2 (1073741824 : Int32) l2 b2 g5)))))
def f_X12_laysFirst (l0 : Nat) (l1 : Int32) (g : G) : Option (Unit × G) :=
  bd (f_X12_laysStands l0 l1 g) (fun v1 g2 => f_X12_laysFirst_7 FU l0 l1 (0 : Int32) g2)
def f_X12_reach_21 (g : G) : Option (Int64 × G) :=
  some ((-2 : Int64), g)
def f_X12_reach_69 (k35 : Nat → Int32 → Int64 → Int32 → G → Option (Int64 × G)) (l0 : Nat) (l2 : Int32) (l5 : Int32) (s0 : Int64) (s1 : Int64) (g : G) : Option (Int64 × G) :=
  ll (s1 ||| s0) (fun y1 => k35 l0 l2 y1 (l5 + (1 : Int32)) g)
def f_X12_reach_35 : Nat → Nat → Int32 → Int64 → Int32 → G → Option (Int64 × G)
  | 0, _, _, _, _, _ => none
  | n + 1, l0, l2, l3, l5, g =>
  if (1296 : Int32) ≤ l5 then (some (l3, g)) else (dr (gR g l0 27) (fun b2 => gdK g b2 14 (gdI l5 (gN g b2) (if (1073741824 : Int32) ≤ (gI g b2 l5.toNatClampNeg) then (f_X12_reach_69 (f_X12_reach_35 n) l0 l2 l5 (0 : Int64) l3 g) else (bd (f_X12_inStand l5 l2 g) (fun v7 g8 => f_X12_reach_69 (f_X12_reach_35 n) l0 l2 l5 ((1 : Int64) <<< (v7.toInt64 &&& 63)) l3 g8))))))
def f_X12_reach (l0 : Nat) (l1 : Int32) (l2 : Int32) (g : G) : Option (Int64 × G) :=
  lg (sI g l0 0 (0 : Int32)) (fun g1 => bd (f_X12_isPair l0 (l1.toInt64) g1) (fun v3 g4 => if (b2i v3) = 0 then (f_X12_reach_21 g4) else (bd (f_X12_isTwin l2 g4) (fun v8 g9 => if (b2i v8) = 0 then (f_X12_reach_21 g9) else (bd (f_X12_laysFirst l0 l1 g9) (fun v13 g14 => f_X12_reach_35 FU l0 l2 (0 : Int64) (0 : Int32) g14))))))
def f_X11_stands (l0 : Nat) (l1 : Int32) (g : G) : Option (Int32 × G) :=
  dr (gR g l0 4) (fun b1 => gdK g b1 0 (bd (f_X0_isPair b1 l1 g) (fun v4 g5 => if (b2i v4) = 0 then (some ((-2 : Int32), g5)) else (bd (f_X11_graphOf l0 l1 g5) (fun v9 g10 => gdK g10 v9 4 (some ((gI g10 v9 0), g10)))))))
def f_X12_stands_51 (k26 : Nat → Int32 → Int32 → G → Option (Int32 × G)) (l0 : Nat) (l3 : Int32) (s0 : Int32) (s1 : Int32) (g : G) : Option (Int32 × G) :=
  li (s1 + s0) (fun y1 => k26 l0 y1 (l3 + (1 : Int32)) g)
def f_X12_stands_26 : Nat → Nat → Int32 → Int32 → G → Option (Int32 × G)
  | 0, _, _, _, _ => none
  | n + 1, l0, l2, l3, g =>
  if (1296 : Int32) ≤ l3 then (some (l2, g)) else (dr (gR g l0 27) (fun b2 => gdK g b2 14 (gdI l3 (gN g b2) (if (1073741824 : Int32) ≤ (gI g b2 l3.toNatClampNeg) then (f_X12_stands_51 (f_X12_stands_26 n) l0 l3 (0 : Int32) l2 g) else (f_X12_stands_51 (f_X12_stands_26 n) l0 l3 (1 : Int32) l2 g)))))
def f_X12_stands (l0 : Nat) (l1 : Int32) (g : G) : Option (Int32 × G) :=
  lg (sI g l0 0 (0 : Int32)) (fun g1 => bd (f_X12_isPair l0 (l1.toInt64) g1) (fun v3 g4 => if (b2i v3) = 0 then (some ((-2 : Int32), g4)) else (bd (f_X12_laysFirst l0 l1 g4) (fun v8 g9 => f_X12_stands_26 FU l0 (0 : Int32) (0 : Int32) g9))))
def f_X4_lastCellOf_79 (k11 : Nat → Int32 → Int64 → Int32 → Int32 → Int32 → G → Option (Int32 × G)) (l0 : Nat) (l1 : Int32) (l2 : Int64) (l4 : Int32) (l5 : Int32) (l6 : Int32) (g : G) : Option (Int32 × G) :=
  k11 l0 l1 l2 l4 l5 (l6 + (1 : Int32)) g
def f_X4_lastCellOf_66 (k11 : Nat → Int32 → Int64 → Int32 → Int32 → Int32 → G → Option (Int32 × G)) (l0 : Nat) (l1 : Int32) (l2 : Int64) (l6 : Int32) (l7 : Int32) (g : G) : Option (Int32 × G) :=
  dr (gR g l0 2) (fun b1 => gdK g b1 14 (gdI l6 (gN g b1) (li (gI g b1 l6.toNatClampNeg) (fun y5 => f_X4_lastCellOf_79 k11 l0 l1 l2 l7 y5 l6 g))))
def f_X4_lastCellOf_11 : Nat → Nat → Int32 → Int64 → Int32 → Int32 → Int32 → G → Option (Int32 × G)
  | 0, _, _, _, _, _, _, _ => none
  | n + 1, l0, l1, l2, l4, l5, l6, g =>
  if (gI g l0 0) ≤ l6 then (some (l4, g)) else (bd (f_X4_cellOf l0 l6 l1 g) (fun v2 g3 => if (lg_cmp (((l2.toUInt64 >>> (v2.toInt64.toUInt64 &&& Int64.toUInt64 63)).toInt64) &&& (1 : Int64)) (0 : Int64)) = 0 then (ll (l2 ||| ((1 : Int64) <<< (v2.toInt64 &&& 63))) (fun y7 => dr (gR g3 l0 2) (fun b9 => gdK g3 b9 14 (gdI l6 (gN g3 b9) (if l5 < (gI g3 b9 l6.toNatClampNeg) then (f_X4_lastCellOf_66 (f_X4_lastCellOf_11 n) l0 l1 y7 l6 v2 g3) else (if l4 ≤ v2 then (f_X4_lastCellOf_79 (f_X4_lastCellOf_11 n) l0 l1 y7 l4 l5 l6 g3) else (f_X4_lastCellOf_66 (f_X4_lastCellOf_11 n) l0 l1 y7 l6 v2 g3))))))) else (f_X4_lastCellOf_79 (f_X4_lastCellOf_11 n) l0 l1 l2 l4 l5 l6 g3)))
def f_X4_lastCellOf (l0 : Nat) (l1 : Int32) (g : G) : Option (Int32 × G) :=
  f_X4_lastCellOf_11 FU l0 l1 (0 : Int64) (-1 : Int32) (-1 : Int32) (0 : Int32) g
def f_X11_farthest (l0 : Nat) (l1 : Int32) (l2 : Int32) (g : G) : Option (Int32 × G) :=
  dr (gR g l0 4) (fun b1 => gdK g b1 0 (bd (f_X0_isPair b1 l1 g) (fun v4 g5 => if (b2i v4) = 0 then (some ((-2 : Int32), g5)) else (bd (f_X11_isTwin l2 g5) (fun v9 g10 => if (b2i v9) = 0 then (some ((-2 : Int32), g10)) else (bd (f_X11_graphOf l0 l1 g10) (fun v14 g15 => gdK g15 v14 4 (bd (f_X4_lastCellOf v14 l2 g15) (fun v19 g20 => some (v19, g20))))))))))
def f_X12_firstIn_44 (k7 : Nat → Int32 → Int32 → Int32 → Int32 → G → Option (Int32 × G)) (l0 : Nat) (l1 : Int32) (l2 : Int32) (l3 : Int32) (l4 : Int32) (g : G) : Option (Int32 × G) :=
  k7 l0 l1 l2 l3 (l4 + (1 : Int32)) g
def f_X12_firstIn_7 : Nat → Nat → Int32 → Int32 → Int32 → Int32 → G → Option (Int32 × G)
  | 0, _, _, _, _, _, _ => none
  | n + 1, l0, l1, l2, l3, l4, g =>
  if (1296 : Int32) ≤ l4 then (some (l3, g)) else (bd (f_X12_inStand l4 l1 g) (fun v2 g3 => if v2 = l2 then (dr (gR g3 l0 27) (fun b7 => gdK g3 b7 14 (gdI l4 (gN g3 b7) (if l3 ≤ (gI g3 b7 l4.toNatClampNeg) then (f_X12_firstIn_44 (f_X12_firstIn_7 n) l0 l1 l2 l3 l4 g3) else (li (gI g3 b7 l4.toNatClampNeg) (fun y12 => f_X12_firstIn_44 (f_X12_firstIn_7 n) l0 l1 l2 y12 l4 g3)))))) else (f_X12_firstIn_44 (f_X12_firstIn_7 n) l0 l1 l2 l3 l4 g3)))
def f_X12_firstIn (l0 : Nat) (l1 : Int32) (l2 : Int32) (g : G) : Option (Int32 × G) :=
  f_X12_firstIn_7 FU l0 l1 l2 (1073741824 : Int32) (0 : Int32) g
def f_X12_farthest_80 (k37 : Nat → Int32 → Int32 → Int32 → Int32 → G → Option (Int32 × G)) (l0 : Nat) (l2 : Int32) (l3 : Int32) (l4 : Int32) (l5 : Int32) (g : G) : Option (Int32 × G) :=
  k37 l0 l2 l3 l4 (l5 + (1 : Int32)) g
def f_X12_farthest_37 : Nat → Nat → Int32 → Int32 → Int32 → Int32 → G → Option (Int32 × G)
  | 0, _, _, _, _, _, _ => none
  | n + 1, l0, l2, l3, l4, l5, g =>
  bd (f_X12_cells l0 g) (fun v1 g2 => if v1 ≤ l5 then (some (l3, g2)) else (bd (f_X12_firstIn l0 l2 l5 g2) (fun v6 g7 => if v6 = (1073741824 : Int32) then (f_X12_farthest_80 (f_X12_farthest_37 n) l0 l2 l3 l4 l5 g7) else (if l4 < v6 then (f_X12_farthest_80 (f_X12_farthest_37 n) l0 l2 l5 v6 l5 g7) else (f_X12_farthest_80 (f_X12_farthest_37 n) l0 l2 l3 l4 l5 g7)))))
def f_X12_farthest (l0 : Nat) (l1 : Int32) (l2 : Int32) (g : G) : Option (Int32 × G) :=
  lg (sI g l0 0 (0 : Int32)) (fun g1 => bd (f_X12_isPair l0 (l1.toInt64) g1) (fun v3 g4 => if (b2i v3) = 0 then (some ((-2 : Int32), g4)) else (bd (f_X12_isTwin l2 g4) (fun v8 g9 => if (b2i v8) = 0 then (some ((-2 : Int32), g9)) else (bd (f_X12_laysFirst l0 l1 g9) (fun v13 g14 => f_X12_farthest_37 FU l0 l2 (-1 : Int32) (-1 : Int32) (0 : Int32) g14))))))
def f_X11_round_25 (g : G) : Option (Int64 × G) :=
  some ((-2 : Int64), g)
def f_X11_round (l0 : Nat) (l1 : Int32) (l2 : Int32) (g : G) : Option (Int64 × G) :=
  dr (gR g l0 4) (fun b1 => gdK g b1 0 (bd (f_X0_isPair b1 l1 g) (fun v4 g5 => if (b2i v4) = 0 then (f_X11_round_25 g5) else (dr (gR g5 l0 4) (fun b9 => gdK g5 b9 0 (dr (gR g5 b9 0) (fun b12 => gdK g5 b12 7 (bd (f_X7_isCell b12 l2 g5) (fun v15 g16 => if (b2i v15) = 0 then (f_X11_round_25 g16) else (dr (gR g16 l0 7) (fun b20 => dr (gR g16 l0 4) (fun b22 => gdK g16 b20 9 (gdK g16 b22 0 (bd (f_X9_aim b20 b22 l1 g16) (fun v26 g27 => dr (gR g27 l0 7) (fun b30 => gdK g27 b30 9 (dr (gR g27 l0 4) (fun b33 => gdK g27 b33 0 (dr (gR g27 b33 3) (fun b36 => gdK g27 b36 14 (gdI l1 (gN g27 b36) (bd (f_X9_ring b30 (gI g27 b36 l1.toNatClampNeg) l2 g27) (fun v40 g41 => some (((gL g27 b30 0) &&& v40), g41))))))))))))))))))))))))
def f_X12_round_23 (g : G) : Option (Int64 × G) :=
  some ((-2 : Int64), g)
def f_X12_round_79 (k32 : Nat → Int32 → Int32 → Int64 → Int32 → G → Option (Int64 × G)) (l0 : Nat) (l1 : Int32) (l2 : Int32) (l5 : Int32) (s0 : Int64) (s1 : Int64) (g : G) : Option (Int64 × G) :=
  ll (s1 ||| s0) (fun y1 => k32 l0 l1 l2 y1 (l5 + (1 : Int32)) g)
def f_X12_round_78 (k32 : Nat → Int32 → Int32 → Int64 → Int32 → G → Option (Int64 × G)) (l0 : Nat) (l1 : Int32) (l2 : Int32) (l5 : Int32) (s0 : Int64) (g : G) : Option (Int64 × G) :=
  f_X12_round_79 k32 l0 l1 l2 l5 (0 : Int64) s0 g
def f_X12_round_32 : Nat → Nat → Int32 → Int32 → Int64 → Int32 → G → Option (Int64 × G)
  | 0, _, _, _, _, _, _ => none
  | n + 1, l0, l1, l2, l3, l5, g =>
  bd (f_X12_cells l0 g) (fun v1 g2 => if v1 ≤ l5 then (some (l3, g2)) else (bd (f_X12_isFree l0 l1 l5 g2) (fun v6 g7 => if (b2i v6) = 0 then (f_X12_round_78 (f_X12_round_32 n) l0 l1 l2 l5 l3 g7) else (bd (f_X12_apart l0 l2 l5 g7) (fun v11 g12 => dr (gR g12 l0 1) (fun b15 => gdK g12 b15 14 (gdI ((94 : Int32) + l1) (gN g12 b15) (if v11 = (gI g12 b15 ((94 : Int32) + l1).toNatClampNeg) then (f_X12_round_79 (f_X12_round_32 n) l0 l1 l2 l5 ((1 : Int64) <<< (l5.toInt64 &&& 63)) l3 g12) else (f_X12_round_78 (f_X12_round_32 n) l0 l1 l2 l5 l3 g12)))))))))
def f_X12_round (l0 : Nat) (l1 : Int32) (l2 : Int32) (g : G) : Option (Int64 × G) :=
  lg (sI g l0 0 (0 : Int32)) (fun g1 => bd (f_X12_isPair l0 (l1.toInt64) g1) (fun v3 g4 => if (b2i v3) = 0 then (f_X12_round_23 g4) else (bd (f_X12_isCell l0 (l2.toInt64) g4) (fun v8 g9 => if (b2i v8) = 0 then (f_X12_round_23 g9) else (f_X12_round_32 FU l0 l1 l2 (0 : Int64) (0 : Int32) g9)))))
def f_X11_spans_92 (k44 : Nat → Int32 → Int32 → Int32 → G → Option (Int32 × G)) (l0 : Nat) (l2 : Int32) (l3 : Int32) (l4 : Int32) (g : G) : Option (Int32 × G) :=
  k44 l0 l2 l3 (l4 + (1 : Int32)) g
def f_X11_spans_44 : Nat → Nat → Int32 → Int32 → Int32 → G → Option (Int32 × G)
  | 0, _, _, _, _, _ => none
  | n + 1, l0, l2, l3, l4, g =>
  if (36 : Int32) ≤ l4 then (some (l3, g)) else (dr (gR g l0 7) (fun b2 => gdK g b2 9 (if (lg_cmp ((((gL g b2 0).toUInt64 >>> (l4.toInt64.toUInt64 &&& Int64.toUInt64 63)).toInt64) &&& (1 : Int64)) (0 : Int64)) = 0 then (f_X11_spans_92 (f_X11_spans_44 n) l0 l2 l3 l4 g) else (bd (f_X9_ring b2 l2 l4 g) (fun v6 g7 => bd (f_J13_bitCount_95d88 ((gL g b2 0) &&& v6) g7) (fun v10 g11 => li (l3 + v10) (fun y14 => f_X11_spans_92 (f_X11_spans_44 n) l0 l2 y14 l4 g11)))))))
def f_X11_spans (l0 : Nat) (l1 : Int32) (l2 : Int32) (g : G) : Option (Int32 × G) :=
  dr (gR g l0 4) (fun b1 => gdK g b1 0 (bd (f_X0_isPair b1 l1 g) (fun v4 g5 => if (b2i v4) = 0 then (some ((-2 : Int32), g5)) else (if l2 < 0 then (some ((-3 : Int32), g5)) else (if l2 ≤ (10 : Int32) then (dr (gR g5 l0 7) (fun b11 => dr (gR g5 l0 4) (fun b13 => gdK g5 b11 9 (gdK g5 b13 0 (bd (f_X9_aim b11 b13 l1 g5) (fun v17 g18 => f_X11_spans_44 FU l0 l2 (0 : Int32) (0 : Int32) g18)))))) else (some ((-3 : Int32), g5)))))))
def f_X12_spans_96 (k37 : Nat → Int32 → Int32 → Int32 → Int32 → G → Option (Int32 × G)) (k49 : Nat → Int32 → Int32 → Int32 → Int32 → Int32 → G → Option (Int32 × G)) (l0 : Nat) (l1 : Int32) (l2 : Int32) (l4 : Int32) (l5 : Int32) (s0 : Int32) (s1 : Int32) (g : G) : Option (Int32 × G) :=
  li (s1 + s0) (fun y1 => k49 l0 l1 l2 y1 l4 (l5 + (1 : Int32)) g)
def f_X12_spans_95 (k37 : Nat → Int32 → Int32 → Int32 → Int32 → G → Option (Int32 × G)) (k49 : Nat → Int32 → Int32 → Int32 → Int32 → Int32 → G → Option (Int32 × G)) (l0 : Nat) (l1 : Int32) (l2 : Int32) (l4 : Int32) (l5 : Int32) (s0 : Int32) (g : G) : Option (Int32 × G) :=
  f_X12_spans_96 k37 k49 l0 l1 l2 l4 l5 (0 : Int32) s0 g
def f_X12_spans_49 (k37 : Nat → Int32 → Int32 → Int32 → Int32 → G → Option (Int32 × G)) : Nat → Nat → Int32 → Int32 → Int32 → Int32 → Int32 → G → Option (Int32 × G)
  | 0, _, _, _, _, _, _, _ => none
  | n + 1, l0, l1, l2, l3, l4, l5, g =>
  bd (f_X12_cells l0 g) (fun v1 g2 => if v1 ≤ l5 then (k37 l0 l1 l2 l3 (l4 + (1 : Int32)) g2) else (bd (f_X12_isFree l0 l1 l4 g2) (fun v6 g7 => if (b2i v6) = 0 then (f_X12_spans_95 k37 (f_X12_spans_49 k37 n) l0 l1 l2 l4 l5 l3 g7) else (bd (f_X12_isFree l0 l1 l5 g7) (fun v11 g12 => if (b2i v11) = 0 then (f_X12_spans_95 k37 (f_X12_spans_49 k37 n) l0 l1 l2 l4 l5 l3 g12) else (bd (f_X12_apart l0 l4 l5 g12) (fun v16 g17 => if v16 = l2 then (f_X12_spans_96 k37 (f_X12_spans_49 k37 n) l0 l1 l2 l4 l5 (1 : Int32) l3 g17) else (f_X12_spans_95 k37 (f_X12_spans_49 k37 n) l0 l1 l2 l4 l5 l3 g17))))))))
def f_X12_spans_37 : Nat → Nat → Int32 → Int32 → Int32 → Int32 → G → Option (Int32 × G)
  | 0, _, _, _, _, _, _ => none
  | n + 1, l0, l1, l2, l3, l4, g =>
  bd (f_X12_cells l0 g) (fun v1 g2 => if v1 ≤ l4 then (some (l3, g2)) else (f_X12_spans_49 (f_X12_spans_37 n) FU l0 l1 l2 l3 l4 (0 : Int32) g2))
def f_X12_spans (l0 : Nat) (l1 : Int32) (l2 : Int32) (g : G) : Option (Int32 × G) :=
  lg (sI g l0 0 (0 : Int32)) (fun g1 => bd (f_X12_isPair l0 (l1.toInt64) g1) (fun v3 g4 => if (b2i v3) = 0 then (some ((-2 : Int32), g4)) else (bd (f_X12_within (l2.toInt64) (0 : Int64) (10 : Int64) g4) (fun v8 g9 => if (b2i v8) = 0 then (some ((-3 : Int32), g9)) else (f_X12_spans_37 FU l0 l1 l2 (0 : Int32) (0 : Int32) g9)))))
def f_X3_link (l0 : Nat) (l1 : Int32) (l2 : Int32) (g : G) : Option (Unit × G) :=
  dr (gR g l0 2) (fun b1 => gdK g b1 14 (if (nI (gN g b1)) ≤ (gI g l0 4) then (some ((), g)) else (dr (gR g l0 3) (fun b5 => gdK g b5 14 (gdI (gI g l0 4) (gN g b5) (lg (sI g b5 (gI g l0 4).toNatClampNeg l1) (fun g9 => dr (gR g9 l0 1) (fun b11 => gdK g9 b11 14 (gdI l2 (gN g9 b11) (gdI (gI g9 l0 4) (gN g9 b1) (lg (sI g9 b1 (gI g9 l0 4).toNatClampNeg (gI g9 b11 l2.toNatClampNeg)) (fun g16 => lg (sI g16 b11 l2.toNatClampNeg (gI g16 l0 4)) (fun g18 => dr (gR g18 l0 5) (fun b20 => gdK g18 b20 14 (gdI l1 (gN g18 b20) (lg (sI g18 b20 l1.toNatClampNeg ((gI g18 b20 l1.toNatClampNeg) + (1 : Int32))) (fun g24 => lg (sI g24 l0 4 ((gI g24 l0 4) + (1 : Int32))) (fun g26 => some ((), g26)))))))))))))))))))
def f_X3_linkAll_92 (k28 : Nat → Nat → Int32 → G → Option (Unit × G)) (k45 : Nat → Nat → Int32 → Int32 → G → Option (Unit × G)) (l0 : Nat) (l1 : Nat) (l2 : Int32) (l3 : Int32) (g : G) : Option (Unit × G) :=
  k45 l0 l1 l2 (l3 + (1 : Int32)) g
def f_X3_linkAll_134 (k28 : Nat → Nat → Int32 → G → Option (Unit × G)) (k100 : Nat → Nat → Int32 → Int32 → G → Option (Unit × G)) (l0 : Nat) (l1 : Nat) (l2 : Int32) (l3 : Int32) (g : G) : Option (Unit × G) :=
  k100 l0 l1 l2 (l3 + (1 : Int32)) g
def f_X3_linkAll_100 (k28 : Nat → Nat → Int32 → G → Option (Unit × G)) : Nat → Nat → Nat → Int32 → Int32 → G → Option (Unit × G)
  | 0, _, _, _, _, _ => none
  | n + 1, l0, l1, l2, l3, g =>
  if (2 : Int32) ≤ l3 then (k28 l0 l1 (l2 + (1 : Int32)) g) else (dr (gR g l0 5) (fun b2 => gdK g b2 14 (gdI (((2 : Int32) * l2) + l3) (gN g b2) (if (gI g b2 (((2 : Int32) * l2) + l3).toNatClampNeg) = 0 then (bd (f_X3_link l0 (((2 : Int32) * l2) + l3) ((((2 : Int32) * l2) + (1 : Int32)) - l3) g) (fun v7 g8 => f_X3_linkAll_134 k28 (f_X3_linkAll_100 k28 n) l0 l1 l2 l3 g8)) else (f_X3_linkAll_134 k28 (f_X3_linkAll_100 k28 n) l0 l1 l2 l3 g)))))
def f_X3_linkAll_45 (k28 : Nat → Nat → Int32 → G → Option (Unit × G)) : Nat → Nat → Nat → Int32 → Int32 → G → Option (Unit × G)
  | 0, _, _, _, _, _ => none
  | n + 1, l0, l1, l2, l3, g =>
  if (8 : Int32) ≤ l3 then (f_X3_linkAll_100 k28 FU l0 l1 l2 (0 : Int32) g) else (li (l3 / (4 : Int32)) (fun y2 => bd (f_X4_nextOf l1 l2 l3 g) (fun v4 g5 => bd (f_X4_has l1 v4 g5) (fun v8 g9 => if (b2i v8) = 0 then (f_X3_linkAll_92 k28 (f_X3_linkAll_45 k28 n) l0 l1 l2 l3 g9) else (bd (f_X3_link l0 (((2 : Int32) * l2) + y2) ((((2 : Int32) * v4) + (1 : Int32)) - y2) g9) (fun v13 g14 => f_X3_linkAll_92 k28 (f_X3_linkAll_45 k28 n) l0 l1 l2 l3 g14))))))
def f_X3_linkAll_28 : Nat → Nat → Nat → Int32 → G → Option (Unit × G)
  | 0, _, _, _, _ => none
  | n + 1, l0, l1, l2, g =>
  if (gI g l1 0) ≤ l2 then (some ((), g)) else (if (256 : Int32) ≤ l2 then (some ((), g)) else (f_X3_linkAll_45 (f_X3_linkAll_28 n) FU l0 l1 l2 (0 : Int32) g))
def f_X3_linkAll (l0 : Nat) (l1 : Nat) (g : G) : Option (Unit × G) :=
  lg (sI g l0 0 (1 : Int32)) (fun g1 => dr (gR g1 l0 1) (fun b3 => gdK g1 b3 14 (bd (f_J7_fill_53178 b3 (-1 : Int32) g1) (fun v6 g7 => dr (gR g7 l0 5) (fun b10 => gdK g7 b10 14 (bd (f_J7_fill_53178 b10 (0 : Int32) g7) (fun v13 g14 => lg (sI g14 l0 4 (0 : Int32)) (fun g17 => f_X3_linkAll_28 FU l0 l1 (0 : Int32) g17))))))))
def f_X3_play_92 (k41 : Nat → Nat → Int32 → Int32 → Int32 → G → Option (Unit × G)) (l0 : Nat) (l1 : Nat) (l2 : Int32) (l3 : Int32) (l4 : Int32) (g : G) : Option (Unit × G) :=
  k41 l0 l1 l2 l3 (l4 + (1 : Int32)) g
def f_X3_play_249 (k101 : Nat → Int32 → Int32 → G → Option (Unit × G)) (k132 : Nat → Int32 → Int32 → Int32 → Int32 → G → Option (Unit × G)) (l0 : Nat) (l3 : Int32) (l4 : Int32) (l5 : Int32) (l6 : Int32) (g : G) : Option (Unit × G) :=
  dr (gR g l0 2) (fun b1 => gdK g b1 14 (gdI l5 (gN g b1) (li (gI g b1 l5.toNatClampNeg) (fun y5 => k132 l0 l3 l4 y5 (l6 + (1 : Int32)) g))))
def f_X3_play_201 (k101 : Nat → Int32 → Int32 → G → Option (Unit × G)) (k132 : Nat → Int32 → Int32 → Int32 → Int32 → G → Option (Unit × G)) (l0 : Nat) (l3 : Int32) (l4 : Int32) (l5 : Int32) (l6 : Int32) (l7 : Int32) (s0 : Int32) (g : G) : Option (Unit × G) :=
  if s0 = 0 then (f_X3_play_249 k101 k132 l0 l3 l4 l5 l6 g) else (dr (gR g l0 8) (fun b2 => gdK g b2 14 (if (nI (gN g b2)) ≤ l3 then (f_X3_play_249 k101 k132 l0 l3 l4 l5 l6 g) else (dr (gR g l0 7) (fun b6 => gdI l4 (gN g b2) (gdK g b6 14 (gdI (gI g b2 l4.toNatClampNeg) (gN g b6) (gdI l7 (gN g b6) (lg (sI g b6 l7.toNatClampNeg ((gI g b6 (gI g b2 l4.toNatClampNeg).toNatClampNeg) + (1 : Int32))) (fun g12 => gdI l3 (gN g12 b2) (lg (sI g12 b2 l3.toNatClampNeg l7) (fun g15 => f_X3_play_249 k101 k132 l0 (l3 + (1 : Int32)) l4 l5 l6 g15))))))))))))
def f_X3_play_196 (k101 : Nat → Int32 → Int32 → G → Option (Unit × G)) (k132 : Nat → Int32 → Int32 → Int32 → Int32 → G → Option (Unit × G)) (l0 : Nat) (l3 : Int32) (l4 : Int32) (l5 : Int32) (l6 : Int32) (l7 : Int32) (g : G) : Option (Unit × G) :=
  f_X3_play_201 k101 k132 l0 l3 l4 l5 l6 l7 (1 : Int32) g
def f_X3_play_200 (k101 : Nat → Int32 → Int32 → G → Option (Unit × G)) (k132 : Nat → Int32 → Int32 → Int32 → Int32 → G → Option (Unit × G)) (l0 : Nat) (l3 : Int32) (l4 : Int32) (l5 : Int32) (l6 : Int32) (l7 : Int32) (g : G) : Option (Unit × G) :=
  f_X3_play_201 k101 k132 l0 l3 l4 l5 l6 l7 (0 : Int32) g
def f_X3_play_264 (k101 : Nat → Int32 → Int32 → G → Option (Unit × G)) (l0 : Nat) (l3 : Int32) (l4 : Int32) (g : G) : Option (Unit × G) :=
  k101 l0 l3 (l4 + (1 : Int32)) g
def f_X3_play_132 (k101 : Nat → Int32 → Int32 → G → Option (Unit × G)) : Nat → Nat → Int32 → Int32 → Int32 → Int32 → G → Option (Unit × G)
  | 0, _, _, _, _, _, _ => none
  | n + 1, l0, l3, l4, l5, l6, g =>
  dr (gR g l0 3) (fun b1 => gdK g b1 14 (if (nI (gN g b1)) ≤ l6 then (f_X3_play_264 k101 l0 l3 l4 g) else (if l5 = (-1 : Int32) then (f_X3_play_264 k101 l0 l3 l4 g) else (gdI l5 (gN g b1) (li (gI g b1 l5.toNatClampNeg) (fun y7 => dr (gR g l0 6) (fun b9 => gdK g b9 14 (gdI y7 (gN g b9) (lg (sI g b9 y7.toNatClampNeg ((gI g b9 y7.toNatClampNeg) - (1 : Int32))) (fun g13 => dr (gR g13 l0 7) (fun b15 => gdK g13 b15 14 (gdI y7 (gN g13 b15) (if (gI g13 b15 y7.toNatClampNeg) = (-1 : Int32) then (if (y7 - y7 / (2 : Int32) * (2 : Int32)) = 0 then (f_X3_play_196 k101 (f_X3_play_132 k101 n) l0 l3 l4 l5 l6 y7 g13) else (if (gI g13 b9 y7.toNatClampNeg) = 0 then (f_X3_play_196 k101 (f_X3_play_132 k101 n) l0 l3 l4 l5 l6 y7 g13) else (f_X3_play_200 k101 (f_X3_play_132 k101 n) l0 l3 l4 l5 l6 y7 g13))) else (f_X3_play_200 k101 (f_X3_play_132 k101 n) l0 l3 l4 l5 l6 y7 g13))))))))))))))
def f_X3_play_101 : Nat → Nat → Int32 → Int32 → G → Option (Unit × G)
  | 0, _, _, _, _ => none
  | n + 1, l0, l3, l4, g =>
  if l3 ≤ l4 then (some ((), g)) else (if (512 : Int32) ≤ l4 then (some ((), g)) else (dr (gR g l0 1) (fun b3 => dr (gR g l0 8) (fun b5 => gdK g b5 14 (gdI l4 (gN g b5) (gdK g b3 14 (gdI (gI g b5 l4.toNatClampNeg) (gN g b3) (li (gI g b3 (gI g b5 l4.toNatClampNeg).toNatClampNeg) (fun y11 => f_X3_play_132 (f_X3_play_101 n) FU l0 l3 l4 y11 (0 : Int32) g)))))))))
def f_X3_play_98 (l0 : Nat) (l3 : Int32) (g : G) : Option (Unit × G) :=
  f_X3_play_101 FU l0 l3 (0 : Int32) g
def f_X3_play_41 : Nat → Nat → Nat → Int32 → Int32 → Int32 → G → Option (Unit × G)
  | 0, _, _, _, _, _, _ => none
  | n + 1, l0, l1, l2, l3, l4, g =>
  if ((2 : Int32) * (gI g l1 0)) ≤ l4 then (f_X3_play_98 l0 l3 g) else (if (512 : Int32) ≤ l4 then (f_X3_play_98 l0 l3 g) else (bd (f_X4_cellOf l1 (l4 / (2 : Int32)) (0 : Int32) g) (fun v3 g4 => if v3 = l2 then (dr (gR g4 l0 7) (fun b8 => gdK g4 b8 14 (gdI l4 (gN g4 b8) (lg (sI g4 b8 l4.toNatClampNeg (0 : Int32)) (fun g12 => dr (gR g12 l0 8) (fun b14 => gdK g12 b14 14 (gdI l3 (gN g12 b14) (lg (sI g12 b14 l3.toNatClampNeg l4) (fun g18 => f_X3_play_92 (f_X3_play_41 n) l0 l1 l2 (l3 + (1 : Int32)) l4 g18))))))))) else (f_X3_play_92 (f_X3_play_41 n) l0 l1 l2 l3 l4 g4))))
def f_X3_play_12 (l0 : Nat) (l1 : Nat) (l2 : Int32) (g : G) : Option (Unit × G) :=
  dr (gR g l0 7) (fun b1 => gdK g b1 14 (bd (f_J7_fill_53178 b1 (-1 : Int32) g) (fun v4 g5 => dr (gR g5 l0 5) (fun b8 => dr (gR g5 l0 6) (fun b10 => gdK g5 b8 14 (gdK g5 b10 14 (gdC (0 : Int32) (0 : Int32) (512 : Int32) (gN g5 b8) (gN g5 b10) (lg (rI g5 b10 (va_cpy (gI g5 b8) (gI g5 b10) (0 : Int32).toNatClampNeg (0 : Int32).toNatClampNeg (512 : Int32).toNatClampNeg)) (fun g15 => f_X3_play_41 FU l0 l1 l2 (0 : Int32) (0 : Int32) g15)))))))))
def f_X3_play (l0 : Nat) (l1 : Nat) (l2 : Int32) (g : G) : Option (Unit × G) :=
  if (gI g l0 0) = 0 then (bd (f_X3_linkAll l0 l1 g) (fun v2 g3 => f_X3_play_12 l0 l1 l2 g3)) else (f_X3_play_12 l0 l1 l2 g)
def f_X3_levelNow (l0 : Nat) (g : G) : Option (Int32 × G) :=
  dr (gR g l0 7) (fun b1 => gdK g b1 14 (gdI (0 : Int32) (gN g b1) (some ((gI g b1 (0 : Int32).toNatClampNeg), g))))
def f_X11_forces (l0 : Nat) (l1 : Int32) (l2 : Int32) (g : G) : Option (Int32 × G) :=
  dr (gR g l0 4) (fun b1 => gdK g b1 0 (bd (f_X0_isPair b1 l1 g) (fun v4 g5 => if (b2i v4) = 0 then (some ((-2 : Int32), g5)) else (dr (gR g5 l0 4) (fun b9 => gdK g5 b9 0 (dr (gR g5 b9 0) (fun b12 => gdK g5 b12 7 (bd (f_X7_isCell b12 l2 g5) (fun v15 g16 => if (b2i v15) = 0 then (some ((-2 : Int32), g16)) else (dr (gR g16 l0 13) (fun b20 => bd (f_X11_graphOf l0 l1 g16) (fun v22 g23 => gdK g23 b20 3 (gdK g23 v22 4 (bd (f_X3_play b20 v22 l2 g23) (fun v28 g29 => dr (gR g29 l0 13) (fun b32 => gdK g29 b32 3 (bd (f_X3_levelNow b32 g29) (fun v35 g36 => some (v35, g36)))))))))))))))))))
def f_X12_forcedBy (l0 : Nat) (l1 : Int32) (l2 : Int32) (g : G) : Option (Int32 × G) :=
  dr (gR g l0 24) (fun b1 => gdK g b1 14 (gdI (((8 : Int32) * l1) + l2) (gN g b1) (li (gI g b1 (((8 : Int32) * l1) + l2).toNatClampNeg) (fun y5 => if y5 = (-1 : Int32) then (some ((-1 : Int32), g)) else (dr (gR g l0 30) (fun b8 => gdK g b8 14 (gdI y5 (gN g b8) (some ((gI g b8 y5.toNatClampNeg), g)))))))))
def f_X12_forcedOne_41 (k4 : Nat → Int32 → Int32 → Int32 → G → Option (Int32 × G)) (l0 : Nat) (l1 : Int32) (l2 : Int32) (l3 : Int32) (g : G) : Option (Int32 × G) :=
  k4 l0 l1 l2 (l3 + (1 : Int32)) g
def f_X12_forcedOne_34 (k4 : Nat → Int32 → Int32 → Int32 → G → Option (Int32 × G)) (l0 : Nat) (l1 : Int32) (l3 : Int32) (g : G) : Option (Int32 × G) :=
  bd (f_X12_forcedBy l0 l1 l3 g) (fun v1 g2 => f_X12_forcedOne_41 k4 l0 l1 v1 l3 g2)
def f_X12_forcedOne_62 (s0 : Int32) (g : G) : Option (Int32 × G) :=
  if s0 = (1073741824 : Int32) then (some ((1073741824 : Int32), g)) else (some ((s0 + (1 : Int32)), g))
def f_X12_forcedOne_4 : Nat → Nat → Int32 → Int32 → Int32 → G → Option (Int32 × G)
  | 0, _, _, _, _, _ => none
  | n + 1, l0, l1, l2, l3, g =>
  if (4 : Int32) ≤ l3 then (if l2 = (-1 : Int32) then (dr (gR g l0 30) (fun b3 => gdK g b3 14 (gdI l1 (gN g b3) (f_X12_forcedOne_62 (gI g b3 l1.toNatClampNeg) g)))) else (f_X12_forcedOne_62 l2 g)) else (bd (f_X12_forcedBy l0 l1 l3 g) (fun v7 g8 => if v7 = (-1 : Int32) then (f_X12_forcedOne_41 (f_X12_forcedOne_4 n) l0 l1 l2 l3 g8) else (if l2 = (-1 : Int32) then (f_X12_forcedOne_34 (f_X12_forcedOne_4 n) l0 l1 l3 g8) else (bd (f_X12_forcedBy l0 l1 l3 g8) (fun v13 g14 => if l2 ≤ v13 then (f_X12_forcedOne_41 (f_X12_forcedOne_4 n) l0 l1 l2 l3 g14) else (f_X12_forcedOne_34 (f_X12_forcedOne_4 n) l0 l1 l3 g14))))))
def f_X12_forcedOne (l0 : Nat) (l1 : Int32) (g : G) : Option (Int32 × G) :=
  f_X12_forcedOne_4 FU l0 l1 (-1 : Int32) (0 : Int32) g
def f_X12_forcedOther_48 (k4 : Nat → Int32 → Int32 → Int32 → G → Option (Int32 × G)) (l0 : Nat) (l1 : Int32) (l2 : Int32) (l3 : Int32) (g : G) : Option (Int32 × G) :=
  k4 l0 l1 l2 (l3 + (1 : Int32)) g
def f_X12_forcedOther_69 (s0 : Int32) (g : G) : Option (Int32 × G) :=
  if s0 = (1073741824 : Int32) then (some ((1073741824 : Int32), g)) else (some ((s0 + (1 : Int32)), g))
def f_X12_forcedOther_4 : Nat → Nat → Int32 → Int32 → Int32 → G → Option (Int32 × G)
  | 0, _, _, _, _, _ => none
  | n + 1, l0, l1, l2, l3, g =>
  if (8 : Int32) ≤ l3 then (if l2 = (-1 : Int32) then (dr (gR g l0 26) (fun b3 => gdK g b3 14 (gdI l1 (gN g b3) (f_X12_forcedOther_69 (gI g b3 l1.toNatClampNeg) g)))) else (f_X12_forcedOther_69 l2 g)) else (dr (gR g l0 24) (fun b7 => gdK g b7 14 (gdI (((8 : Int32) * l1) + l3) (gN g b7) (li (gI g b7 (((8 : Int32) * l1) + l3).toNatClampNeg) (fun y11 => if y11 = (-1 : Int32) then (f_X12_forcedOther_48 (f_X12_forcedOther_4 n) l0 l1 l2 l3 g) else (dr (gR g l0 26) (fun b14 => gdK g b14 14 (gdI y11 (gN g b14) (if (gI g b14 y11.toNatClampNeg) ≤ l2 then (f_X12_forcedOther_48 (f_X12_forcedOther_4 n) l0 l1 l2 l3 g) else (li (gI g b14 y11.toNatClampNeg) (fun y19 => f_X12_forcedOther_48 (f_X12_forcedOther_4 n) l0 l1 y19 l3 g)))))))))))
def f_X12_forcedOther (l0 : Nat) (l1 : Int32) (g : G) : Option (Int32 × G) :=
  f_X12_forcedOther_4 FU l0 l1 (-1 : Int32) (4 : Int32) g
def f_X12_laysForced_39 (k2 : Nat → Int32 → Int32 → Int32 → G → Option (Int32 × G)) (l0 : Nat) (l1 : Int32) (l2 : Int32) (l3 : Int32) (s0 : Int32) (s1 : Int32) (s2 : Nat) (g : G) : Option (Int32 × G) :=
  gdI s1 (gN g s2) (lg (sI g s2 s1.toNatClampNeg s0) (fun g2 => dr (gR g2 l0 30) (fun b4 => dr (gR g2 l0 26) (fun b6 => gdK g2 b6 14 (gdI l3 (gN g2 b6) (gdK g2 b4 14 (gdI l3 (gN g2 b4) (lg (sI g2 b4 l3.toNatClampNeg (gI g2 b6 l3.toNatClampNeg)) (fun g12 => k2 l0 l1 l2 (l3 + (1 : Int32)) g12)))))))))
def f_X12_laysForced_36 (k2 : Nat → Int32 → Int32 → Int32 → G → Option (Int32 × G)) (l0 : Nat) (l1 : Int32) (l2 : Int32) (l3 : Int32) (s0 : Int32) (s1 : Nat) (g : G) : Option (Int32 × G) :=
  f_X12_laysForced_39 k2 l0 l1 l2 l3 (1073741824 : Int32) s0 s1 g
def f_X12_laysForced_210 (k60 : Nat → Int32 → Int32 → Int32 → G → Option (Int32 × G)) (k69 : Nat → Int32 → Int32 → Int32 → Int32 → G → Option (Int32 × G)) (l0 : Nat) (l1 : Int32) (l2 : Int32) (l3 : Int32) (l4 : Int32) (g : G) : Option (Int32 × G) :=
  k69 l0 l1 l2 l3 (l4 + (1 : Int32)) g
def f_X12_laysForced_209 (k60 : Nat → Int32 → Int32 → Int32 → G → Option (Int32 × G)) (k69 : Nat → Int32 → Int32 → Int32 → Int32 → G → Option (Int32 × G)) (l0 : Nat) (l1 : Int32) (l2 : Int32) (l3 : Int32) (l4 : Int32) (s0 : Int32) (s1 : Int32) (s2 : Nat) (g : G) : Option (Int32 × G) :=
  gdI s1 (gN g s2) (lg (sI g s2 s1.toNatClampNeg s0) (fun g2 => f_X12_laysForced_210 k60 k69 l0 l1 l2 l3 l4 g2))
def f_X12_laysForced_178 (k60 : Nat → Int32 → Int32 → Int32 → G → Option (Int32 × G)) (k69 : Nat → Int32 → Int32 → Int32 → Int32 → G → Option (Int32 × G)) (l0 : Nat) (l1 : Int32) (l2 : Int32) (l3 : Int32) (l4 : Int32) (l6 : Int32) (s0 : Int32) (s1 : Int32) (s2 : Nat) (g : G) : Option (Int32 × G) :=
  gdI s1 (gN g s2) (lg (sI g s2 s1.toNatClampNeg s0) (fun g2 => dr (gR g2 l0 30) (fun b4 => gdK g2 b4 14 (gdI l4 (gN g2 b4) (if (gI g2 b4 l4.toNatClampNeg) ≤ l6 then (f_X12_laysForced_209 k60 k69 l0 l1 l2 l3 l4 (gI g2 b4 l4.toNatClampNeg) l4 b4 g2) else (f_X12_laysForced_209 k60 k69 l0 l1 l2 l3 l4 l6 l4 b4 g2))))))
def f_X12_laysForced_146 (k60 : Nat → Int32 → Int32 → Int32 → G → Option (Int32 × G)) (k69 : Nat → Int32 → Int32 → Int32 → Int32 → G → Option (Int32 × G)) (l0 : Nat) (l1 : Int32) (l2 : Int32) (l4 : Int32) (l5 : Int32) (l6 : Int32) (s0 : Int32) (s1 : Int32) (g : G) : Option (Int32 × G) :=
  li (s1 ||| s0) (fun y1 => dr (gR g l0 26) (fun b3 => gdK g b3 14 (gdI l4 (gN g b3) (if (gI g b3 l4.toNatClampNeg) ≤ l5 then (f_X12_laysForced_178 k60 k69 l0 l1 l2 y1 l4 l6 (gI g b3 l4.toNatClampNeg) l4 b3 g) else (f_X12_laysForced_178 k60 k69 l0 l1 l2 y1 l4 l6 l5 l4 b3 g)))))
def f_X12_laysForced_141 (k60 : Nat → Int32 → Int32 → Int32 → G → Option (Int32 × G)) (k69 : Nat → Int32 → Int32 → Int32 → Int32 → G → Option (Int32 × G)) (l0 : Nat) (l1 : Int32) (l2 : Int32) (l4 : Int32) (l5 : Int32) (l6 : Int32) (s0 : Int32) (g : G) : Option (Int32 × G) :=
  f_X12_laysForced_146 k60 k69 l0 l1 l2 l4 l5 l6 (1 : Int32) s0 g
def f_X12_laysForced_69 (k60 : Nat → Int32 → Int32 → Int32 → G → Option (Int32 × G)) : Nat → Nat → Int32 → Int32 → Int32 → Int32 → G → Option (Int32 × G)
  | 0, _, _, _, _, _, _ => none
  | n + 1, l0, l1, l2, l3, l4, g =>
  if (1296 : Int32) ≤ l4 then (k60 l0 l1 l2 l3 g) else (dr (gR g l0 23) (fun b2 => gdK g b2 16 (gdI l4 (gN g b2) (if (gI g b2 l4.toNatClampNeg) = 0 then (f_X12_laysForced_210 k60 (f_X12_laysForced_69 k60 n) l0 l1 l2 l3 l4 g) else (bd (f_X12_inStand l4 (0 : Int32) g) (fun v7 g8 => if v7 = l2 then (f_X12_laysForced_210 k60 (f_X12_laysForced_69 k60 n) l0 l1 l2 l3 l4 g8) else (bd (f_X12_forcedOne l0 l4 g8) (fun v12 g13 => bd (f_X12_forcedOther l0 l4 g13) (fun v16 g17 => dr (gR g17 l0 26) (fun b20 => gdK g17 b20 14 (gdI l4 (gN g17 b20) (if v12 < (gI g17 b20 l4.toNatClampNeg) then (f_X12_laysForced_141 k60 (f_X12_laysForced_69 k60 n) l0 l1 l2 l4 v12 v16 l3 g17) else (dr (gR g17 l0 30) (fun b25 => gdK g17 b25 14 (gdI l4 (gN g17 b25) (if (gI g17 b25 l4.toNatClampNeg) ≤ v16 then (f_X12_laysForced_146 k60 (f_X12_laysForced_69 k60 n) l0 l1 l2 l4 v12 v16 (0 : Int32) l3 g17) else (f_X12_laysForced_141 k60 (f_X12_laysForced_69 k60 n) l0 l1 l2 l4 v12 v16 l3 g17)))))))))))))))))
def f_X12_laysForced_60 : Nat → Nat → Int32 → Int32 → Int32 → G → Option (Int32 × G)
  | 0, _, _, _, _, _ => none
  | n + 1, l0, l1, l2, l3, g =>
  if l3 = 0 then (dr (gR g l0 26) (fun b2 => bd (f_X12_standNow l0 l1 g) (fun v4 g5 => gdK g5 b2 14 (gdI v4 (gN g5 b2) (some ((gI g5 b2 v4.toNatClampNeg), g5)))))) else (f_X12_laysForced_69 (f_X12_laysForced_60 n) FU l0 l1 l2 (0 : Int32) (0 : Int32) g)
def f_X12_laysForced_2 : Nat → Nat → Int32 → Int32 → Int32 → G → Option (Int32 × G)
  | 0, _, _, _, _, _ => none
  | n + 1, l0, l1, l2, l3, g =>
  if (1296 : Int32) ≤ l3 then (f_X12_laysForced_60 FU l0 l1 l2 (1 : Int32) g) else (dr (gR g l0 26) (fun b2 => dr (gR g l0 23) (fun b4 => gdK g b4 16 (gdI l3 (gN g b4) (if (gI g b4 l3.toNatClampNeg) = 0 then (gdK g b2 14 (f_X12_laysForced_36 (f_X12_laysForced_2 n) l0 l1 l2 l3 l3 b2 g)) else (bd (f_X12_inStand l3 (0 : Int32) g) (fun v10 g11 => if v10 = l2 then (gdK g11 b2 14 (f_X12_laysForced_39 (f_X12_laysForced_2 n) l0 l1 l2 l3 (0 : Int32) l3 b2 g11)) else (gdK g11 b2 14 (f_X12_laysForced_36 (f_X12_laysForced_2 n) l0 l1 l2 l3 l3 b2 g11)))))))))
def f_X12_laysForced (l0 : Nat) (l1 : Int32) (l2 : Int32) (g : G) : Option (Int32 × G) :=
  f_X12_laysForced_2 FU l0 l1 l2 (0 : Int32) g
def f_X12_forces (l0 : Nat) (l1 : Int32) (l2 : Int32) (g : G) : Option (Int32 × G) :=
  lg (sI g l0 0 (0 : Int32)) (fun g1 => bd (f_X12_isPair l0 (l1.toInt64) g1) (fun v3 g4 => if (b2i v3) = 0 then (some ((-2 : Int32), g4)) else (bd (f_X12_isCell l0 (l2.toInt64) g4) (fun v8 g9 => if (b2i v8) = 0 then (some ((-2 : Int32), g9)) else (bd (f_X12_laysStands l0 l1 g9) (fun v13 g14 => bd (f_X12_laysForced l0 l1 l2 g14) (fun v17 g18 => bd (f_X12_toldFar v17 (0 : Int32) g18) (fun v21 g22 => some (v21, g22)))))))))
def f_X3_firstBest_54 (k2 : Nat → Nat → Int32 → G → Option (Int32 × G)) (l0 : Nat) (l1 : Nat) (l2 : Int32) (g : G) : Option (Int32 × G) :=
  k2 l0 l1 (l2 + (1 : Int32)) g
def f_X3_firstBest_2 : Nat → Nat → Nat → Int32 → G → Option (Int32 × G)
  | 0, _, _, _, _ => none
  | n + 1, l0, l1, l2, g =>
  if (4 : Int32) ≤ l2 then (some ((-1 : Int32), g)) else (dr (gR g l0 7) (fun b2 => gdK g b2 14 (gdI (0 : Int32) (gN g b2) (if (gI g b2 (0 : Int32).toNatClampNeg) ≤ 0 then (some ((-1 : Int32), g)) else (bd (f_X4_nextOf l1 (0 : Int32) l2 g) (fun v7 g8 => bd (f_X4_has l1 v7 g8) (fun v11 g12 => if (b2i v11) = 0 then (f_X3_firstBest_54 (f_X3_firstBest_2 n) l0 l1 l2 g12) else (dr (gR g12 l0 7) (fun b16 => gdK g12 b16 14 (gdI (((2 : Int32) * v7) + (1 : Int32)) (gN g12 b16) (gdI (0 : Int32) (gN g12 b16) (if (gI g12 b16 (((2 : Int32) * v7) + (1 : Int32)).toNatClampNeg) = ((gI g12 b16 (0 : Int32).toNatClampNeg) - (1 : Int32)) then (some (l2, g12)) else (f_X3_firstBest_54 (f_X3_firstBest_2 n) l0 l1 l2 g12)))))))))))))
def f_X3_firstBest (l0 : Nat) (l1 : Nat) (g : G) : Option (Int32 × G) :=
  f_X3_firstBest_2 FU l0 l1 (0 : Int32) g
def f_X11_best (l0 : Nat) (l1 : Int32) (l2 : Int32) (g : G) : Option (Int32 × G) :=
  dr (gR g l0 4) (fun b1 => gdK g b1 0 (bd (f_X0_isPair b1 l1 g) (fun v4 g5 => if (b2i v4) = 0 then (some ((-2 : Int32), g5)) else (dr (gR g5 l0 4) (fun b9 => gdK g5 b9 0 (dr (gR g5 b9 0) (fun b12 => gdK g5 b12 7 (bd (f_X7_isCell b12 l2 g5) (fun v15 g16 => if (b2i v15) = 0 then (some ((-2 : Int32), g16)) else (bd (f_X11_graphOf l0 l1 g16) (fun v20 g21 => dr (gR g21 l0 13) (fun b24 => gdK g21 b24 3 (gdK g21 v20 4 (bd (f_X3_play b24 v20 l2 g21) (fun v28 g29 => dr (gR g29 l0 13) (fun b32 => gdK g29 b32 3 (bd (f_X3_firstBest b32 v20 g29) (fun v35 g36 => some (v35, g36)))))))))))))))))))
def f_X12_best_54 : Nat → Nat → Int32 → Int32 → Int32 → G → Option (Int32 × G)
  | 0, _, _, _, _, _ => none
  | n + 1, l0, l1, l3, l4, g =>
  if (4 : Int32) ≤ l4 then (some ((-1 : Int32), g)) else (bd (f_X12_standNow l0 l1 g) (fun v2 g3 => bd (f_X12_forcedBy l0 v2 l4 g3) (fun v6 g7 => if v6 = (l3 - (1 : Int32)) then (some (l4, g7)) else (f_X12_best_54 n l0 l1 l3 (l4 + (1 : Int32)) g7))))
def f_X12_best (l0 : Nat) (l1 : Int32) (l2 : Int32) (g : G) : Option (Int32 × G) :=
  lg (sI g l0 0 (0 : Int32)) (fun g1 => bd (f_X12_isPair l0 (l1.toInt64) g1) (fun v3 g4 => if (b2i v3) = 0 then (some ((-2 : Int32), g4)) else (bd (f_X12_isCell l0 (l2.toInt64) g4) (fun v8 g9 => if (b2i v8) = 0 then (some ((-2 : Int32), g9)) else (bd (f_X12_laysStands l0 l1 g9) (fun v13 g14 => bd (f_X12_laysForced l0 l1 l2 g14) (fun v17 g18 => if v17 = (1073741824 : Int32) then (some ((-1 : Int32), g18)) else (if v17 = 0 then (some ((-1 : Int32), g18)) else (f_X12_best_54 FU l0 l1 v17 (0 : Int32) g18)))))))))
def f_X11_power_81 (k33 : Nat → Nat → Int64 → Int64 → Int32 → G → Option (Int64 × G)) (l0 : Nat) (l2 : Nat) (l3 : Int64) (l5 : Int64) (l7 : Int32) (g : G) : Option (Int64 × G) :=
  k33 l0 l2 l3 l5 (l7 + (1 : Int32)) g
def f_X11_power_33 : Nat → Nat → Nat → Int64 → Int64 → Int32 → G → Option (Int64 × G)
  | 0, _, _, _, _, _, _ => none
  | n + 1, l0, l2, l3, l5, l7, g =>
  if (36 : Int32) ≤ l7 then (some (l5, g)) else (if (lg_cmp (((l3.toUInt64 >>> (l7.toInt64.toUInt64 &&& Int64.toUInt64 63)).toInt64) &&& (1 : Int64)) (0 : Int64)) = 0 then (f_X11_power_81 (f_X11_power_33 n) l0 l2 l3 l5 l7 g) else (dr (gR g l0 13) (fun b3 => gdK g b3 3 (bd (f_X3_play b3 l2 l7 g) (fun v6 g7 => dr (gR g7 l0 13) (fun b10 => gdK g7 b10 3 (bd (f_X3_levelNow b10 g7) (fun v13 g14 => if v13 = (-1 : Int32) then (f_X11_power_81 (f_X11_power_33 n) l0 l2 l3 l5 l7 g14) else (ll (l5 ||| ((1 : Int64) <<< (l7.toInt64 &&& 63))) (fun y18 => f_X11_power_81 (f_X11_power_33 n) l0 l2 l3 y18 l7 g14))))))))))
def f_X11_power (l0 : Nat) (l1 : Int32) (g : G) : Option (Int64 × G) :=
  dr (gR g l0 4) (fun b1 => gdK g b1 0 (bd (f_X0_isPair b1 l1 g) (fun v4 g5 => if (b2i v4) = 0 then (some ((-2 : Int64), g5)) else (bd (f_X11_graphOf l0 l1 g5) (fun v9 g10 => gdK g10 v9 4 (bd (f_X4_cellsOf v9 (0 : Int32) g10) (fun v14 g15 => f_X11_power_33 FU l0 v9 v14 (0 : Int64) (0 : Int32) g15)))))))
def f_X12_power_59 (k28 : Nat → Int32 → Int64 → Int32 → G → Option (Int64 × G)) (l0 : Nat) (l1 : Int32) (l4 : Int32) (s0 : Int64) (s1 : Int64) (g : G) : Option (Int64 × G) :=
  ll (s1 ||| s0) (fun y1 => k28 l0 l1 y1 (l4 + (1 : Int32)) g)
def f_X12_power_28 : Nat → Nat → Int32 → Int64 → Int32 → G → Option (Int64 × G)
  | 0, _, _, _, _, _ => none
  | n + 1, l0, l1, l2, l4, g =>
  bd (f_X12_cells l0 g) (fun v1 g2 => if v1 ≤ l4 then (some (l2, g2)) else (bd (f_X12_laysForced l0 l1 l4 g2) (fun v6 g7 => if (1073741824 : Int32) ≤ v6 then (f_X12_power_59 (f_X12_power_28 n) l0 l1 l4 (0 : Int64) l2 g7) else (f_X12_power_59 (f_X12_power_28 n) l0 l1 l4 ((1 : Int64) <<< (l4.toInt64 &&& 63)) l2 g7))))
def f_X12_power (l0 : Nat) (l1 : Int32) (g : G) : Option (Int64 × G) :=
  lg (sI g l0 0 (0 : Int32)) (fun g1 => bd (f_X12_isPair l0 (l1.toInt64) g1) (fun v3 g4 => if (b2i v3) = 0 then (some ((-2 : Int64), g4)) else (bd (f_X12_laysStands l0 l1 g4) (fun v8 g9 => f_X12_power_28 FU l0 l1 (0 : Int64) (0 : Int32) g9))))
def f_X11_triesRefused_61 : Nat → Nat → Int32 → G → Option (Int32 × G)
  | 0, _, _, _ => none
  | n + 1, l3, l4, g =>
  if (gI g l3 0) ≤ l4 then (some ((0 : Int32), g)) else (bd (f_X10_at l3 l4 g) (fun v2 g3 => if (lg_cmp v2 (0 : Int64)) < 0 then (some ((-3 : Int32), g3)) else (if 0 ≤ (lg_cmp (v2 / (10 : Int64)) (4 : Int64)) then (some ((-3 : Int32), g3)) else (if (lg_cmp (v2 - v2 / (10 : Int64) * (10 : Int64)) (1 : Int64)) ≤ 0 then (f_X11_triesRefused_61 n l3 (l4 + (1 : Int32)) g3) else (some ((-3 : Int32), g3))))))
def f_X11_triesRefused (l0 : Nat) (l1 : Int32) (l2 : Int32) (g : G) : Option (Int32 × G) :=
  bd (f_X11_isTray l1 g) (fun v1 g2 => if (b2i v1) = 0 then (some ((-2 : Int32), g2)) else (dr (gR g2 l0 4) (fun b6 => gdK g2 b6 0 (bd (f_X0_isPair b6 l2 g2) (fun v9 g10 => if (b2i v9) = 0 then (some ((-2 : Int32), g10)) else (dr (gR g10 l0 16) (fun b14 => gdK g10 b14 18 (gdI l1 (gN g10 b14) (dr (gR g10 b14 l1.toNatClampNeg) (fun b18 => gdK g10 b18 10 (bd (f_X10_isMissing b18 g10) (fun v21 g22 => if (b2i v21) = 0 then (if (gI g22 b18 0) < (1 : Int32) then (some ((-4 : Int32), g22)) else (if (gI g22 b18 0) ≤ (12 : Int32) then (f_X11_triesRefused_61 FU b18 (0 : Int32) g22) else (some ((-4 : Int32), g22)))) else (some ((-6 : Int32), g22))))))))))))))
def f_X9_behind_88 (k11 : Nat → Nat → Int32 → Int32 → G → Option (Int32 × G)) (l0 : Nat) (l1 : Nat) (l5 : Int32) (s0 : Int32) (g : G) : Option (Int32 × G) :=
  k11 l0 l1 s0 (l5 + (1 : Int32)) g
def f_X9_behind_71 (k11 : Nat → Nat → Int32 → Int32 → G → Option (Int32 × G)) (l0 : Nat) (l1 : Nat) (l4 : Int32) (l5 : Int32) (l7 : Int32) (l8 : Int32) (s0 : Int32) (s1 : Int32) (g : G) : Option (Int32 × G) :=
  if s1 = s0 then (if l8 = 0 then (f_X9_behind_88 k11 l0 l1 l5 l4 g) else (f_X9_behind_88 k11 l0 l1 l5 l7 g)) else (some ((-1 : Int32), g))
def f_X9_behind_53 (k11 : Nat → Nat → Int32 → Int32 → G → Option (Int32 × G)) (l0 : Nat) (l1 : Nat) (l4 : Int32) (l5 : Int32) (l6 : Int32) (l7 : Int32) (s0 : Int32) (g : G) : Option (Int32 × G) :=
  if (l6 - l6 / (10 : Int32) * (10 : Int32)) = (1 : Int32) then (f_X9_behind_71 k11 l0 l1 l4 l5 l7 s0 (1 : Int32) s0 g) else (f_X9_behind_71 k11 l0 l1 l4 l5 l7 s0 (0 : Int32) s0 g)
def f_X9_behind_11 : Nat → Nat → Nat → Int32 → Int32 → G → Option (Int32 × G)
  | 0, _, _, _, _, _ => none
  | n + 1, l0, l1, l4, l5, g =>
  if (gI g l1 0) ≤ l5 then (some (l4, g)) else (bd (f_X10_at l1 l5 g) (fun v2 g3 => li (v2.toInt32) (fun y6 => bd (f_X9_step l0 l4 (0 : Int32) (y6 / (10 : Int32)) g3) (fun v8 g9 => if v8 < 0 then (f_X9_behind_53 (f_X9_behind_11 n) l0 l1 l4 l5 y6 v8 (0 : Int32) g9) else (f_X9_behind_53 (f_X9_behind_11 n) l0 l1 l4 l5 y6 v8 (1 : Int32) g9)))))
def f_X9_behind (l0 : Nat) (l1 : Nat) (l2 : Int32) (l3 : Int32) (g : G) : Option (Int32 × G) :=
  li ((l2 * (64 : Int32)) + l3) (fun y1 => f_X9_behind_11 FU l0 l1 y1 (0 : Int32) g)
def f_X11_cellsTried_107 (k57 : Nat → Int32 → Int32 → Int64 → Int64 → Int32 → G → Option (Int64 × G)) (l0 : Nat) (l1 : Int32) (l3 : Int32) (l4 : Int64) (l6 : Int64) (l8 : Int32) (g : G) : Option (Int64 × G) :=
  k57 l0 l1 l3 l4 l6 (l8 + (1 : Int32)) g
def f_X11_cellsTried_57 : Nat → Nat → Int32 → Int32 → Int64 → Int64 → Int32 → G → Option (Int64 × G)
  | 0, _, _, _, _, _, _, _ => none
  | n + 1, l0, l1, l3, l4, l6, l8, g =>
  if (36 : Int32) ≤ l8 then (some (l6, g)) else (if (lg_cmp (((l4.toUInt64 >>> (l8.toInt64.toUInt64 &&& Int64.toUInt64 63)).toInt64) &&& (1 : Int64)) (0 : Int64)) = 0 then (f_X11_cellsTried_107 (f_X11_cellsTried_57 n) l0 l1 l3 l4 l6 l8 g) else (dr (gR g l0 7) (fun b3 => dr (gR g l0 16) (fun b5 => gdK g b5 18 (gdI l1 (gN g b5) (dr (gR g b5 l1.toNatClampNeg) (fun b9 => gdK g b3 9 (gdK g b9 10 (bd (f_X9_behind b3 b9 (l3 / (64 : Int32)) l8 g) (fun v13 g14 => if v13 < 0 then (f_X11_cellsTried_107 (f_X11_cellsTried_57 n) l0 l1 l3 l4 l6 l8 g14) else (ll (l6 ||| ((1 : Int64) <<< (l8.toInt64 &&& 63))) (fun y18 => f_X11_cellsTried_107 (f_X11_cellsTried_57 n) l0 l1 l3 l4 y18 l8 g14))))))))))))
def f_X11_cellsTried (l0 : Nat) (l1 : Int32) (l2 : Int32) (g : G) : Option (Int64 × G) :=
  dr (gR g l0 4) (fun b1 => gdK g b1 0 (bd (f_X0_standOf b1 l2 g) (fun v4 g5 => dr (gR g5 l0 7) (fun b8 => dr (gR g5 l0 4) (fun b10 => gdK g5 b8 9 (gdK g5 b10 0 (bd (f_X9_aim b8 b10 l2 g5) (fun v14 g15 => dr (gR g15 l0 7) (fun b18 => gdK g15 b18 9 (dr (gR g15 l0 4) (fun b21 => gdK g15 b21 0 (dr (gR g15 b21 3) (fun b24 => gdK g15 b24 14 (gdI l2 (gN g15 b24) (bd (f_X9_ring b18 (gI g15 b24 l2.toNatClampNeg) (v4 / (64 : Int32)) g15) (fun v28 g29 => ll ((gL g15 b18 0) &&& v28) (fun y32 => f_X11_cellsTried_57 FU l0 l1 v4 y32 (0 : Int64) (0 : Int32) g29)))))))))))))))))
def f_X11_tried (l0 : Nat) (l1 : Int32) (l2 : Int32) (g : G) : Option (Int64 × G) :=
  bd (f_X11_triesRefused l0 l1 l2 g) (fun v1 g2 => if v1 = 0 then (bd (f_X11_cellsTried l0 l1 l2 g2) (fun v6 g7 => some (v6, g7))) else (some ((v1.toInt64), g2)))
def f_X12_noTried_59 : Nat → Nat → Int32 → Int32 → G → Option (Int32 × G)
  | 0, _, _, _, _ => none
  | n + 1, l0, l1, l4, g =>
  dr (gR g l0 34) (fun b1 => gdK g b1 14 (gdI l1 (gN g b1) (if (gI g b1 l1.toNatClampNeg) ≤ l4 then (some ((0 : Int32), g)) else (dr (gR g l0 35) (fun b6 => gdK g b6 15 (gdI (((40 : Int32) * l1) + l4) (gN g b6) (ll (gL g b6 (((40 : Int32) * l1) + l4).toNatClampNeg) (fun y10 => if (lg_cmp y10 (0 : Int64)) < 0 then (some ((-3 : Int32), g)) else (bd (f_X12_within (y10 / (10 : Int64)) (0 : Int64) (3 : Int64) g) (fun v13 g14 => if (b2i v13) = 0 then (some ((-3 : Int32), g14)) else (bd (f_X12_within (y10 - y10 / (10 : Int64) * (10 : Int64)) (0 : Int64) (1 : Int64) g14) (fun v18 g19 => if (b2i v18) = 0 then (some ((-3 : Int32), g19)) else (f_X12_noTried_59 n l0 l1 (l4 + (1 : Int32)) g19)))))))))))))
def f_X12_noTried (l0 : Nat) (l1 : Int32) (l2 : Int32) (g : G) : Option (Int32 × G) :=
  bd (f_X12_within (l1.toInt64) (0 : Int64) (3 : Int64) g) (fun v1 g2 => if (b2i v1) = 0 then (some ((-2 : Int32), g2)) else (bd (f_X12_isPair l0 (l2.toInt64) g2) (fun v6 g7 => if (b2i v6) = 0 then (some ((-2 : Int32), g7)) else (bd (f_X12_noTray l0 l1 g7) (fun v11 g12 => if v11 = 0 then (dr (gR g12 l0 34) (fun b16 => gdK g12 b16 14 (gdI l1 (gN g12 b16) (bd (f_X12_within ((gI g12 b16 l1.toNatClampNeg).toInt64) (1 : Int64) (12 : Int64) g12) (fun v20 g21 => if (b2i v20) = 0 then (some ((-4 : Int32), g21)) else (f_X12_noTried_59 FU l0 l1 (0 : Int32) g21)))))) else (some (v11, g12)))))))
def f_X12_isFirst (l0 : Nat) (l1 : Int32) (l2 : Int32) (g : G) : Option (Bool × G) :=
  bd (f_X12_isFree l0 l1 l2 g) (fun v1 g2 => if (b2i v1) = 0 then (some (false, g2)) else (bd (f_X12_twinOf l0 l1 (0 : Int32) g2) (fun v6 g7 => bd (f_X12_apart l0 v6 l2 g7) (fun v10 g11 => dr (gR g11 l0 1) (fun b14 => gdK g11 b14 14 (gdI ((94 : Int32) + l1) (gN g11 b14) (if v10 = (gI g11 b14 ((94 : Int32) + l1).toNatClampNeg) then (some (true, g11)) else (some (false, g11)))))))))
def f_X12_isTried_131 (k18 : Nat → Int32 → Int32 → Int32 → G → Option (Bool × G)) (l0 : Nat) (l1 : Int32) (l2 : Int32) (l4 : Int32) (s0 : Int32) (s1 : Nat) (g : G) : Option (Bool × G) :=
  lg (sI g s1 32 s0) (fun g1 => k18 l0 l1 l2 (l4 + (1 : Int32)) g1)
def f_X12_isTried_111 (k18 : Nat → Int32 → Int32 → Int32 → G → Option (Bool × G)) (l0 : Nat) (l1 : Int32) (l2 : Int32) (l4 : Int32) (l6 : Int32) (s0 : Int32) (s1 : Nat) (g : G) : Option (Bool × G) :=
  lg (sI g s1 31 s0) (fun g1 => if l6 = 0 then (f_X12_isTried_131 k18 l0 l1 l2 l4 (gI g1 l0 32) l0 g1) else (f_X12_isTried_131 k18 l0 l1 l2 l4 (gI g1 l0 18) l0 g1))
def f_X12_isTried_89 (k18 : Nat → Int32 → Int32 → Int32 → G → Option (Bool × G)) (l0 : Nat) (l1 : Int32) (l2 : Int32) (l4 : Int32) (l6 : Int32) (s0 : Int32) (s1 : Int32) (g : G) : Option (Bool × G) :=
  if s1 = s0 then (if l6 = 0 then (f_X12_isTried_111 k18 l0 l1 l2 l4 l6 (gI g l0 31) l0 g) else (f_X12_isTried_111 k18 l0 l1 l2 l4 l6 (gI g l0 17) l0 g)) else (some (false, g))
def f_X12_isTried_71 (k18 : Nat → Int32 → Int32 → Int32 → G → Option (Bool × G)) (l0 : Nat) (l1 : Int32) (l2 : Int32) (l4 : Int32) (l5 : Int32) (s0 : Int32) (g : G) : Option (Bool × G) :=
  if (l5 - l5 / (10 : Int32) * (10 : Int32)) = (1 : Int32) then (f_X12_isTried_89 k18 l0 l1 l2 l4 s0 (1 : Int32) s0 g) else (f_X12_isTried_89 k18 l0 l1 l2 l4 s0 (0 : Int32) s0 g)
def f_X12_isTried_18 : Nat → Nat → Int32 → Int32 → Int32 → G → Option (Bool × G)
  | 0, _, _, _, _, _ => none
  | n + 1, l0, l1, l2, l4, g =>
  dr (gR g l0 34) (fun b1 => gdK g b1 14 (gdI l1 (gN g b1) (if (gI g b1 l1.toNatClampNeg) ≤ l4 then (some (true, g)) else (dr (gR g l0 35) (fun b6 => gdK g b6 15 (gdI (((40 : Int32) * l1) + l4) (gN g b6) (li ((gL g b6 (((40 : Int32) * l1) + l4).toNatClampNeg).toInt32) (fun y10 => bd (f_X12_whyBy l0 l2 (0 : Int32) (gI g l0 31) (gI g l0 32) (y10 / (10 : Int32)) g) (fun v12 g13 => if v12 = 0 then (f_X12_isTried_71 (f_X12_isTried_18 n) l0 l1 l2 l4 y10 (1 : Int32) g13) else (f_X12_isTried_71 (f_X12_isTried_18 n) l0 l1 l2 l4 y10 (0 : Int32) g13))))))))))
def f_X12_isTried (l0 : Nat) (l1 : Int32) (l2 : Int32) (l3 : Int32) (g : G) : Option (Bool × G) :=
  bd (f_X12_twinOf l0 l2 (0 : Int32) g) (fun v1 g2 => lg (sI g2 l0 31 v1) (fun g5 => lg (sI g5 l0 32 l3) (fun g7 => f_X12_isTried_18 FU l0 l1 l2 (0 : Int32) g7)))
def f_X12_triedSet_44 (k5 : Nat → Int32 → Int32 → Int64 → Int32 → G → Option (Int64 × G)) (l0 : Nat) (l1 : Int32) (l2 : Int32) (l5 : Int32) (s0 : Int64) (s1 : Int64) (g : G) : Option (Int64 × G) :=
  ll (s1 ||| s0) (fun y1 => k5 l0 l1 l2 y1 (l5 + (1 : Int32)) g)
def f_X12_triedSet_43 (k5 : Nat → Int32 → Int32 → Int64 → Int32 → G → Option (Int64 × G)) (l0 : Nat) (l1 : Int32) (l2 : Int32) (l5 : Int32) (s0 : Int64) (g : G) : Option (Int64 × G) :=
  f_X12_triedSet_44 k5 l0 l1 l2 l5 (0 : Int64) s0 g
def f_X12_triedSet_5 : Nat → Nat → Int32 → Int32 → Int64 → Int32 → G → Option (Int64 × G)
  | 0, _, _, _, _, _, _ => none
  | n + 1, l0, l1, l2, l3, l5, g =>
  bd (f_X12_cells l0 g) (fun v1 g2 => if v1 ≤ l5 then (some (l3, g2)) else (bd (f_X12_isFirst l0 l2 l5 g2) (fun v6 g7 => if (b2i v6) = 0 then (f_X12_triedSet_43 (f_X12_triedSet_5 n) l0 l1 l2 l5 l3 g7) else (bd (f_X12_isTried l0 l1 l2 l5 g7) (fun v11 g12 => if (b2i v11) = 0 then (f_X12_triedSet_43 (f_X12_triedSet_5 n) l0 l1 l2 l5 l3 g12) else (f_X12_triedSet_44 (f_X12_triedSet_5 n) l0 l1 l2 l5 ((1 : Int64) <<< (l5.toInt64 &&& 63)) l3 g12))))))
def f_X12_triedSet (l0 : Nat) (l1 : Int32) (l2 : Int32) (g : G) : Option (Int64 × G) :=
  f_X12_triedSet_5 FU l0 l1 l2 (0 : Int64) (0 : Int32) g
def f_X12_tried (l0 : Nat) (l1 : Int32) (l2 : Int32) (g : G) : Option (Int64 × G) :=
  lg (sI g l0 0 (0 : Int32)) (fun g1 => bd (f_X12_noTried l0 l1 l2 g1) (fun v3 g4 => if v3 = 0 then (bd (f_X12_triedSet l0 l1 l2 g4) (fun v8 g9 => some (v8, g9))) else (some ((v3.toInt64), g4))))
def f_X11_many (l0 : Nat) (l1 : Int32) (l2 : Int32) (g : G) : Option (Int32 × G) :=
  bd (f_X11_triesRefused l0 l1 l2 g) (fun v1 g2 => if v1 = 0 then (bd (f_X11_cellsTried l0 l1 l2 g2) (fun v6 g7 => bd (f_J13_bitCount_95d88 v6 g7) (fun v10 g11 => some (v10, g11)))) else (some (v1, g2)))
def f_X12_isIn (l0 : Int64) (l2 : Int32) (g : G) : Option (Bool × G) :=
  if (lg_cmp ((l0 >>> (l2.toInt64 &&& 63)) &&& (1 : Int64)) (1 : Int64)) = 0 then (some (true, g)) else (some (false, g))
def f_X12_bitsOf_24 (k4 : Int64 → Int32 → Int32 → G → Option (Int32 × G)) (l0 : Int64) (l3 : Int32) (s0 : Int32) (s1 : Int32) (g : G) : Option (Int32 × G) :=
  li (s1 + s0) (fun y1 => k4 l0 y1 (l3 + (1 : Int32)) g)
def f_X12_bitsOf_4 : Nat → Int64 → Int32 → Int32 → G → Option (Int32 × G)
  | 0, _, _, _, _ => none
  | n + 1, l0, l2, l3, g =>
  if (36 : Int32) ≤ l3 then (some (l2, g)) else (bd (f_X12_isIn l0 l3 g) (fun v2 g3 => if (b2i v2) = 0 then (f_X12_bitsOf_24 (f_X12_bitsOf_4 n) l0 l3 (0 : Int32) l2 g3) else (f_X12_bitsOf_24 (f_X12_bitsOf_4 n) l0 l3 (1 : Int32) l2 g3)))
def f_X12_bitsOf (l0 : Int64) (g : G) : Option (Int32 × G) :=
  f_X12_bitsOf_4 FU l0 (0 : Int32) (0 : Int32) g
def f_X12_many (l0 : Nat) (l1 : Int32) (l2 : Int32) (g : G) : Option (Int32 × G) :=
  lg (sI g l0 0 (0 : Int32)) (fun g1 => bd (f_X12_noTried l0 l1 l2 g1) (fun v3 g4 => if v3 = 0 then (bd (f_X12_triedSet l0 l1 l2 g4) (fun v8 g9 => bd (f_X12_bitsOf v8 g9) (fun v12 g13 => some (v12, g13)))) else (some (v3, g4))))
def f_X11_attempt_135 (k47 : Nat → Int32 → Int64 → Int32 → Int32 → Int32 → Int32 → Int32 → G → Option (Int32 × G)) (k64 : Nat → Int32 → Int64 → Int32 → Int32 → Int32 → Int32 → Int32 → Int32 → Int32 → G → Option (Int32 × G)) (l0 : Nat) (l1 : Int32) (l4 : Int64) (l6 : Int32) (l7 : Int32) (l8 : Int32) (l9 : Int32) (l10 : Int32) (l11 : Int32) (l12 : Int32) (g : G) : Option (Int32 × G) :=
  k64 l0 l1 l4 l6 l7 l8 l9 l10 l11 (l12 + (1 : Int32)) g
def f_X11_attempt_132 (k47 : Nat → Int32 → Int64 → Int32 → Int32 → Int32 → Int32 → Int32 → G → Option (Int32 × G)) (k64 : Nat → Int32 → Int64 → Int32 → Int32 → Int32 → Int32 → Int32 → Int32 → Int32 → G → Option (Int32 × G)) (l0 : Nat) (l1 : Int32) (l4 : Int64) (l6 : Int32) (l7 : Int32) (l8 : Int32) (l9 : Int32) (l10 : Int32) (l12 : Int32) (s0 : Int32) (s1 : Int32) (g : G) : Option (Int32 × G) :=
  li (s1 + s0) (fun y1 => f_X11_attempt_135 k47 k64 l0 l1 l4 l6 l7 l8 l9 l10 y1 l12 g)
def f_X11_attempt_131 (k47 : Nat → Int32 → Int64 → Int32 → Int32 → Int32 → Int32 → Int32 → G → Option (Int32 × G)) (k64 : Nat → Int32 → Int64 → Int32 → Int32 → Int32 → Int32 → Int32 → Int32 → Int32 → G → Option (Int32 × G)) (l0 : Nat) (l1 : Int32) (l4 : Int64) (l6 : Int32) (l7 : Int32) (l8 : Int32) (l9 : Int32) (l10 : Int32) (l12 : Int32) (s0 : Int32) (g : G) : Option (Int32 × G) :=
  f_X11_attempt_132 k47 k64 l0 l1 l4 l6 l7 l8 l9 l10 l12 (0 : Int32) s0 g
def f_X11_attempt_168 (k47 : Nat → Int32 → Int64 → Int32 → Int32 → Int32 → Int32 → Int32 → G → Option (Int32 × G)) (l0 : Nat) (l1 : Int32) (l4 : Int64) (l6 : Int32) (l7 : Int32) (l8 : Int32) (l9 : Int32) (l10 : Int32) (g : G) : Option (Int32 × G) :=
  k47 l0 l1 l4 l6 l7 l8 l9 (l10 + (1 : Int32)) g
def f_X11_attempt_64 (k47 : Nat → Int32 → Int64 → Int32 → Int32 → Int32 → Int32 → Int32 → G → Option (Int32 × G)) : Nat → Nat → Int32 → Int64 → Int32 → Int32 → Int32 → Int32 → Int32 → Int32 → Int32 → G → Option (Int32 × G)
  | 0, _, _, _, _, _, _, _, _, _, _, _ => none
  | n + 1, l0, l1, l4, l6, l7, l8, l9, l10, l11, l12, g =>
  if (36 : Int32) ≤ l12 then (bd (f_J9_min_7cf53 l11 (l7 - l11) g) (fun v2 g3 => if v2 ≤ l9 then (f_X11_attempt_168 k47 l0 l1 l4 l6 l7 l8 l9 l10 g3) else (f_X11_attempt_168 k47 l0 l1 l4 l6 l7 l10 v2 l10 g3))) else (if (lg_cmp (((l4.toUInt64 >>> (l12.toInt64.toUInt64 &&& Int64.toUInt64 63)).toInt64) &&& (1 : Int64)) (0 : Int64)) = 0 then (f_X11_attempt_135 k47 (f_X11_attempt_64 k47 n) l0 l1 l4 l6 l7 l8 l9 l10 l11 l12 g) else (dr (gR g l0 7) (fun b8 => dr (gR g l0 16) (fun b10 => gdK g b10 18 (gdI l1 (gN g b10) (dr (gR g b10 l1.toNatClampNeg) (fun b14 => gdK g b8 9 (gdK g b14 10 (bd (f_X9_behind b8 b14 (l6 / (64 : Int32)) l12 g) (fun v18 g19 => if v18 < 0 then (f_X11_attempt_131 k47 (f_X11_attempt_64 k47 n) l0 l1 l4 l6 l7 l8 l9 l10 l12 l11 g19) else (dr (gR g19 l0 7) (fun b23 => gdK g19 b23 9 (bd (f_X9_step b23 v18 (0 : Int32) l10 g19) (fun v26 g27 => if v26 < 0 then (f_X11_attempt_131 k47 (f_X11_attempt_64 k47 n) l0 l1 l4 l6 l7 l8 l9 l10 l12 l11 g27) else (f_X11_attempt_132 k47 (f_X11_attempt_64 k47 n) l0 l1 l4 l6 l7 l8 l9 l10 l12 (1 : Int32) l11 g27)))))))))))))))
def f_X11_attempt_47 : Nat → Nat → Int32 → Int64 → Int32 → Int32 → Int32 → Int32 → Int32 → G → Option (Int32 × G)
  | 0, _, _, _, _, _, _, _, _, _ => none
  | n + 1, l0, l1, l4, l6, l7, l8, l9, l10, g =>
  if (4 : Int32) ≤ l10 then (some (l8, g)) else (if l7 ≤ 0 then (some (l8, g)) else (f_X11_attempt_64 (f_X11_attempt_47 n) FU l0 l1 l4 l6 l7 l8 l9 l10 (0 : Int32) (0 : Int32) g))
def f_X11_attempt (l0 : Nat) (l1 : Int32) (l2 : Int32) (g : G) : Option (Int32 × G) :=
  bd (f_X11_triesRefused l0 l1 l2 g) (fun v1 g2 => if v1 = 0 then (bd (f_X11_cellsTried l0 l1 l2 g2) (fun v6 g7 => dr (gR g7 l0 4) (fun b10 => gdK g7 b10 0 (bd (f_X0_standOf b10 l2 g7) (fun v13 g14 => bd (f_J13_bitCount_95d88 v6 g14) (fun v17 g18 => f_X11_attempt_47 FU l0 l1 v6 v13 v17 (-1 : Int32) (-1 : Int32) (0 : Int32) g18)))))) else (some (v1, g2)))
def f_X12_attempt_111 (k38 : Nat → Int32 → Int32 → Int32 → Int32 → Int32 → Int32 → G → Option (Int32 × G)) (k55 : Nat → Int32 → Int32 → Int32 → Int32 → Int32 → Int32 → Int32 → Int32 → G → Option (Int32 × G)) (l0 : Nat) (l1 : Int32) (l2 : Int32) (l4 : Int32) (l5 : Int32) (l6 : Int32) (l7 : Int32) (l9 : Int32) (s0 : Int32) (s1 : Int32) (g : G) : Option (Int32 × G) :=
  li (s1 + s0) (fun y1 => k55 l0 l1 l2 l4 l5 l6 l7 y1 (l9 + (1 : Int32)) g)
def f_X12_attempt_110 (k38 : Nat → Int32 → Int32 → Int32 → Int32 → Int32 → Int32 → G → Option (Int32 × G)) (k55 : Nat → Int32 → Int32 → Int32 → Int32 → Int32 → Int32 → Int32 → Int32 → G → Option (Int32 × G)) (l0 : Nat) (l1 : Int32) (l2 : Int32) (l4 : Int32) (l5 : Int32) (l6 : Int32) (l7 : Int32) (l9 : Int32) (s0 : Int32) (g : G) : Option (Int32 × G) :=
  f_X12_attempt_111 k38 k55 l0 l1 l2 l4 l5 l6 l7 l9 (0 : Int32) s0 g
def f_X12_attempt_160 (k38 : Nat → Int32 → Int32 → Int32 → Int32 → Int32 → Int32 → G → Option (Int32 × G)) (l0 : Nat) (l1 : Int32) (l2 : Int32) (l4 : Int32) (l5 : Int32) (l6 : Int32) (l7 : Int32) (g : G) : Option (Int32 × G) :=
  k38 l0 l1 l2 l4 l5 l6 (l7 + (1 : Int32)) g
def f_X12_attempt_140 (k38 : Nat → Int32 → Int32 → Int32 → Int32 → Int32 → Int32 → G → Option (Int32 × G)) (l0 : Nat) (l1 : Int32) (l2 : Int32) (l4 : Int32) (l5 : Int32) (l6 : Int32) (l7 : Int32) (s0 : Int32) (g : G) : Option (Int32 × G) :=
  if l6 < s0 then (f_X12_attempt_160 k38 l0 l1 l2 l4 l7 s0 l7 g) else (f_X12_attempt_160 k38 l0 l1 l2 l4 l5 l6 l7 g)
def f_X12_attempt_55 (k38 : Nat → Int32 → Int32 → Int32 → Int32 → Int32 → Int32 → G → Option (Int32 × G)) : Nat → Nat → Int32 → Int32 → Int32 → Int32 → Int32 → Int32 → Int32 → Int32 → G → Option (Int32 × G)
  | 0, _, _, _, _, _, _, _, _, _, _ => none
  | n + 1, l0, l1, l2, l4, l5, l6, l7, l8, l9, g =>
  bd (f_X12_cells l0 g) (fun v1 g2 => if v1 ≤ l9 then (if (l4 - l8) ≤ l8 then (f_X12_attempt_140 k38 l0 l1 l2 l4 l5 l6 l7 (l4 - l8) g2) else (f_X12_attempt_140 k38 l0 l1 l2 l4 l5 l6 l7 l8 g2)) else (bd (f_X12_isFirst l0 l2 l9 g2) (fun v7 g8 => if (b2i v7) = 0 then (f_X12_attempt_110 k38 (f_X12_attempt_55 k38 n) l0 l1 l2 l4 l5 l6 l7 l9 l8 g8) else (bd (f_X12_isTried l0 l1 l2 l9 g8) (fun v12 g13 => if (b2i v12) = 0 then (f_X12_attempt_110 k38 (f_X12_attempt_55 k38 n) l0 l1 l2 l4 l5 l6 l7 l9 l8 g13) else (bd (f_X12_whyBy l0 l2 (0 : Int32) (gI g13 l0 31) (gI g13 l0 32) l7 g13) (fun v17 g18 => if v17 = 0 then (f_X12_attempt_111 k38 (f_X12_attempt_55 k38 n) l0 l1 l2 l4 l5 l6 l7 l9 (1 : Int32) l8 g18) else (f_X12_attempt_110 k38 (f_X12_attempt_55 k38 n) l0 l1 l2 l4 l5 l6 l7 l9 l8 g18))))))))
def f_X12_attempt_38 : Nat → Nat → Int32 → Int32 → Int32 → Int32 → Int32 → Int32 → G → Option (Int32 × G)
  | 0, _, _, _, _, _, _, _, _ => none
  | n + 1, l0, l1, l2, l4, l5, l6, l7, g =>
  if (4 : Int32) ≤ l7 then (some (l5, g)) else (if l4 ≤ 0 then (some (l5, g)) else (f_X12_attempt_55 (f_X12_attempt_38 n) FU l0 l1 l2 l4 l5 l6 l7 (0 : Int32) (0 : Int32) g))
def f_X12_attempt (l0 : Nat) (l1 : Int32) (l2 : Int32) (g : G) : Option (Int32 × G) :=
  lg (sI g l0 0 (0 : Int32)) (fun g1 => bd (f_X12_noTried l0 l1 l2 g1) (fun v3 g4 => if v3 = 0 then (bd (f_X12_triedSet l0 l1 l2 g4) (fun v8 g9 => bd (f_X12_bitsOf v8 g9) (fun v12 g13 => f_X12_attempt_38 FU l0 l1 l2 v12 (-1 : Int32) (-1 : Int32) (0 : Int32) g13))) else (some (v3, g4))))
def f_X11_moods_92 (k41 : Nat → Int32 → Int32 → Int32 → Int32 → G → Option (Int32 × G)) (l0 : Nat) (l1 : Int32) (l4 : Int32) (l5 : Int32) (l6 : Int32) (g : G) : Option (Int32 × G) :=
  k41 l0 l1 l4 l5 (l6 + (1 : Int32)) g
def f_X11_moods_41 : Nat → Nat → Int32 → Int32 → Int32 → Int32 → G → Option (Int32 × G)
  | 0, _, _, _, _, _, _ => none
  | n + 1, l0, l1, l4, l5, l6, g =>
  if (10 : Int32) ≤ l6 then (some (l5, g)) else (dr (gR g l0 7) (fun b2 => gdK g b2 9 (bd (f_X9_assume b2 l6 g) (fun v5 g6 => dr (gR g6 l0 7) (fun b9 => dr (gR g6 l0 16) (fun b11 => gdK g6 b11 18 (gdI l1 (gN g6 b11) (dr (gR g6 b11 l1.toNatClampNeg) (fun b15 => gdK g6 b9 9 (gdK g6 b15 10 (bd (f_X9_behind b9 b15 (l4 / (64 : Int32)) (l4 - l4 / (64 : Int32) * (64 : Int32)) g6) (fun v19 g20 => if v19 < 0 then (f_X11_moods_92 (f_X11_moods_41 n) l0 l1 l4 l5 l6 g20) else (li (l5 ||| ((1 : Int32) <<< (l6 &&& 31))) (fun y24 => f_X11_moods_92 (f_X11_moods_41 n) l0 l1 l4 y24 l6 g20))))))))))))))
def f_X11_moods (l0 : Nat) (l1 : Int32) (l2 : Int32) (g : G) : Option (Int32 × G) :=
  bd (f_X11_triesRefused l0 l1 l2 g) (fun v1 g2 => if v1 = 0 then (dr (gR g2 l0 4) (fun b6 => gdK g2 b6 0 (bd (f_X0_standOf b6 l2 g2) (fun v9 g10 => dr (gR g10 l0 7) (fun b13 => dr (gR g10 l0 4) (fun b15 => gdK g10 b13 9 (gdK g10 b15 0 (bd (f_X9_aim b13 b15 l2 g10) (fun v19 g20 => f_X11_moods_41 FU l0 l1 v9 (0 : Int32) (0 : Int32) g20))))))))) else (some (v1, g2)))
def f_X12_moods_78 (k35 : Nat → Int32 → Int32 → Int32 → Int32 → Int32 → G → Option (Int32 × G)) (l0 : Nat) (l1 : Int32) (l2 : Int32) (l4 : Int32) (l6 : Int32) (s0 : Int32) (s1 : Int32) (g : G) : Option (Int32 × G) :=
  li (s1 ||| s0) (fun y1 => k35 l0 l1 l2 l4 y1 (l6 + (1 : Int32)) g)
def f_X12_moods_35 : Nat → Nat → Int32 → Int32 → Int32 → Int32 → Int32 → G → Option (Int32 × G)
  | 0, _, _, _, _, _, _, _ => none
  | n + 1, l0, l1, l2, l4, l5, l6, g =>
  if (10 : Int32) ≤ l6 then (dr (gR g l0 1) (fun b2 => gdK g b2 14 (gdI ((97 : Int32) + l2) (gN g b2) (lg (sI g b2 ((97 : Int32) + l2).toNatClampNeg l4) (fun g6 => some (l5, g6)))))) else (dr (gR g l0 1) (fun b8 => gdK g b8 14 (gdI ((97 : Int32) + l2) (gN g b8) (lg (sI g b8 ((97 : Int32) + l2).toNatClampNeg l6) (fun g12 => bd (f_X12_twinOf l0 l2 (1 : Int32) g12) (fun v14 g15 => bd (f_X12_isTried l0 l1 l2 v14 g15) (fun v18 g19 => if (b2i v18) = 0 then (f_X12_moods_78 (f_X12_moods_35 n) l0 l1 l2 l4 l6 (0 : Int32) l5 g19) else (f_X12_moods_78 (f_X12_moods_35 n) l0 l1 l2 l4 l6 ((1 : Int32) <<< (l6 &&& 31)) l5 g19))))))))
def f_X12_moods (l0 : Nat) (l1 : Int32) (l2 : Int32) (g : G) : Option (Int32 × G) :=
  lg (sI g l0 0 (0 : Int32)) (fun g1 => bd (f_X12_noTried l0 l1 l2 g1) (fun v3 g4 => if v3 = 0 then (dr (gR g4 l0 1) (fun b8 => gdK g4 b8 14 (gdI ((97 : Int32) + l2) (gN g4 b8) (li (gI g4 b8 ((97 : Int32) + l2).toNatClampNeg) (fun y12 => f_X12_moods_35 FU l0 l1 l2 y12 (0 : Int32) (0 : Int32) g4))))) else (some (v3, g4))))
def f_X11_chances_12 : Nat → Nat → Nat → Int32 → Int64 → Int32 → G → Option (Int64 × G)
  | 0, _, _, _, _, _, _ => none
  | n + 1, l0, l1, l2, l3, l5, g =>
  if l2 ≤ l5 then (some (l3, g)) else (dr (gR g l0 14) (fun b2 => gdK g b2 6 (bd (f_X6_goOn b2 l1 (1 : Int32) g) (fun v5 g6 => ll (l3 * (840 : Int64)) (fun y9 => f_X11_chances_12 n l0 l1 l2 y9 (l5 + (1 : Int32)) g6)))))
def f_X11_chances (l0 : Nat) (l1 : Nat) (l2 : Int32) (g : G) : Option (Int64 × G) :=
  dr (gR g l0 14) (fun b1 => gdK g b1 6 (bd (f_X6_start b1 g) (fun v4 g5 => f_X11_chances_12 FU l0 l1 l2 (1 : Int64) (0 : Int32) g5)))
def f_X11_commonDivisor_44 (l4 : Int64) (g : G) : Option (Int64 × G) :=
  some (l4, g)
def f_X11_commonDivisor_9 : Nat → Int64 → Int64 → Int32 → G → Option (Int64 × G)
  | 0, _, _, _, _ => none
  | n + 1, l4, l6, l8, g =>
  if (100 : Int32) ≤ l8 then (f_X11_commonDivisor_44 l4 g) else (if (lg_cmp l6 (0 : Int64)) ≤ 0 then (f_X11_commonDivisor_44 l4 g) else (gdZl l6 (ll (l4 - l4 / l6 * l6) (fun y4 => f_X11_commonDivisor_9 n l6 y4 (l8 + (1 : Int32)) g))))
def f_X11_commonDivisor (l0 : Int64) (l2 : Int64) (g : G) : Option (Int64 × G) :=
  f_X11_commonDivisor_9 FU l0 l2 (0 : Int32) g
def f_X11_chance_55 (g : G) : Option (Int64 × G) :=
  some ((-2 : Int64), g)
def f_X11_chance_70 (g : G) : Option (Int64 × G) :=
  some ((-3 : Int64), g)
def f_X11_chance_151 (l12 : Int64) (s0 : Int64) (g : G) : Option (Int64 × G) :=
  gdZl l12 (some ((s0 / l12), g))
def f_X11_chance_116 (l5 : Int32) (l8 : Int64) (s0 : Int32) (s1 : Int32) (s2 : Nat) (s3 : Nat) (g : G) : Option (Int64 × G) :=
  bd (f_X6_sumAt s3 s2 s1 s0 g) (fun v1 g2 => bd (f_X11_commonDivisor l8 v1 g2) (fun v5 g6 => if 0 ≤ (lg_cmp v5 (1 : Int64)) then (if l5 = 0 then (f_X11_chance_151 v5 v1 g6) else (f_X11_chance_151 v5 l8 g6)) else (some ((0 : Int64), g6))))
def f_X11_chance_106 (l2 : Int32) (l3 : Int32) (l5 : Int32) (l8 : Int64) (s0 : Int32) (s1 : Nat) (s2 : Nat) (g : G) : Option (Int64 × G) :=
  if l2 = (1 : Int32) then (f_X11_chance_116 l5 l8 l3 s0 s1 s2 g) else (f_X11_chance_116 l5 l8 (-1 : Int32) s0 s1 s2 g)
def f_X11_chance_37 (l0 : Nat) (l1 : Int32) (l2 : Int32) (l3 : Int32) (l4 : Int32) (l5 : Int32) (s0 : Int32) (g : G) : Option (Int64 × G) :=
  if s0 = 0 then (f_X11_chance_55 g) else (if l5 < 0 then (f_X11_chance_55 g) else (if l5 ≤ (1 : Int32) then (if l4 < 0 then (f_X11_chance_70 g) else (if l4 ≤ (5 : Int32) then (bd (f_X11_graphOf l0 l1 g) (fun v6 g7 => gdK g7 v6 4 (bd (f_X11_chances l0 v6 l4 g7) (fun v11 g12 => dr (gR g12 l0 14) (fun b15 => if l2 = 0 then (gdK g12 b15 6 (f_X11_chance_106 l2 l3 l5 v11 l3 v6 b15 g12)) else (gdK g12 b15 6 (f_X11_chance_106 l2 l3 l5 v11 (-1 : Int32) v6 b15 g12))))))) else (f_X11_chance_70 g))) else (f_X11_chance_55 g)))
def f_X11_chance_36 (l0 : Nat) (l1 : Int32) (l2 : Int32) (l3 : Int32) (l4 : Int32) (l5 : Int32) (g : G) : Option (Int64 × G) :=
  f_X11_chance_37 l0 l1 l2 l3 l4 l5 (0 : Int32) g
def f_X11_chance (l0 : Nat) (l1 : Int32) (l2 : Int32) (l3 : Int32) (l4 : Int32) (l5 : Int32) (g : G) : Option (Int64 × G) :=
  dr (gR g l0 4) (fun b1 => gdK g b1 0 (bd (f_X0_isPair b1 l1 g) (fun v4 g5 => if (b2i v4) = 0 then (f_X11_chance_36 l0 l1 l2 l3 l4 l5 g5) else (bd (f_X11_isTwin l2 g5) (fun v9 g10 => if (b2i v9) = 0 then (f_X11_chance_36 l0 l1 l2 l3 l4 l5 g10) else (dr (gR g10 l0 4) (fun b14 => gdK g10 b14 0 (dr (gR g10 b14 0) (fun b17 => gdK g10 b17 7 (bd (f_X7_isCell b17 l3 g10) (fun v20 g21 => if (b2i v20) = 0 then (f_X11_chance_36 l0 l1 l2 l3 l4 l5 g21) else (f_X11_chance_37 l0 l1 l2 l3 l4 l5 (1 : Int32) g21))))))))))))
def f_X12_canFrom_31 (k4 : Nat → Int32 → Int32 → Int32 → G → Option (Int32 × G)) (l0 : Nat) (l1 : Int32) (l3 : Int32) (s0 : Int32) (s1 : Int32) (g : G) : Option (Int32 × G) :=
  li (s1 + s0) (fun y1 => k4 l0 l1 y1 (l3 + (1 : Int32)) g)
def f_X12_canFrom_4 : Nat → Nat → Int32 → Int32 → Int32 → G → Option (Int32 × G)
  | 0, _, _, _, _, _ => none
  | n + 1, l0, l1, l2, l3, g =>
  if (8 : Int32) ≤ l3 then (some (l2, g)) else (dr (gR g l0 24) (fun b2 => gdK g b2 14 (gdI (((8 : Int32) * l1) + l3) (gN g b2) (if (gI g b2 (((8 : Int32) * l1) + l3).toNatClampNeg) = (-1 : Int32) then (f_X12_canFrom_31 (f_X12_canFrom_4 n) l0 l1 l3 (0 : Int32) l2 g) else (f_X12_canFrom_31 (f_X12_canFrom_4 n) l0 l1 l3 (1 : Int32) l2 g)))))
def f_X12_canFrom (l0 : Nat) (l1 : Int32) (g : G) : Option (Int32 × G) :=
  f_X12_canFrom_4 FU l0 l1 (0 : Int32) (0 : Int32) g
def f_X12_laysLikely_173 (k34 : Nat → Int32 → Int32 → G → Option (Unit × G)) (k42 : Nat → Int32 → Int32 → Int32 → G → Option (Unit × G)) (l0 : Nat) (l2 : Int32) (l3 : Int32) (l4 : Int32) (g : G) : Option (Unit × G) :=
  k42 l0 l2 l3 (l4 + (1 : Int32)) g
def f_X12_laysLikely_167 (k34 : Nat → Int32 → Int32 → G → Option (Unit × G)) (k42 : Nat → Int32 → Int32 → Int32 → G → Option (Unit × G)) (k102 : Nat → Int32 → Int32 → Int32 → Int32 → Int32 → G → Option (Unit × G)) (l0 : Nat) (l2 : Int32) (l3 : Int32) (l4 : Int32) (l5 : Int32) (l6 : Int32) (g : G) : Option (Unit × G) :=
  k102 l0 l2 l3 l4 l5 (l6 + (1 : Int32)) g
def f_X12_laysLikely_102 (k34 : Nat → Int32 → Int32 → G → Option (Unit × G)) (k42 : Nat → Int32 → Int32 → Int32 → G → Option (Unit × G)) : Nat → Nat → Int32 → Int32 → Int32 → Int32 → Int32 → G → Option (Unit × G)
  | 0, _, _, _, _, _, _, _ => none
  | n + 1, l0, l2, l3, l4, l5, l6, g =>
  if (8 : Int32) ≤ l6 then (f_X12_laysLikely_173 k34 k42 l0 l2 l3 l4 g) else (if l5 ≤ 0 then (f_X12_laysLikely_173 k34 k42 l0 l2 l3 l4 g) else (dr (gR g l0 24) (fun b3 => gdK g b3 14 (gdI (((8 : Int32) * l4) + l6) (gN g b3) (if (gI g b3 (((8 : Int32) * l4) + l6).toNatClampNeg) = (-1 : Int32) then (f_X12_laysLikely_167 k34 k42 (f_X12_laysLikely_102 k34 k42 n) l0 l2 l3 l4 l5 l6 g) else (dr (gR g l0 29) (fun b8 => gdK g b8 15 (gdI (gI g b3 (((8 : Int32) * l4) + l6).toNatClampNeg) (gN g b8) (dr (gR g l0 28) (fun b12 => gdK g b12 15 (gdI l4 (gN g b12) (gdZl (l5.toInt64) (lg (sL g b8 (gI g b3 (((8 : Int32) * l4) + l6).toNatClampNeg).toNatClampNeg ((gL g b8 (gI g b3 (((8 : Int32) * l4) + l6).toNatClampNeg).toNatClampNeg) + ((gL g b12 l4.toNatClampNeg) * ((840 : Int64) / (l5.toInt64))))) (fun g17 => f_X12_laysLikely_167 k34 k42 (f_X12_laysLikely_102 k34 k42 n) l0 l2 l3 l4 l5 l6 g17))))))))))))))
def f_X12_laysLikely_99 (k34 : Nat → Int32 → Int32 → G → Option (Unit × G)) (k42 : Nat → Int32 → Int32 → Int32 → G → Option (Unit × G)) (l0 : Nat) (l2 : Int32) (l3 : Int32) (l4 : Int32) (l5 : Int32) (g : G) : Option (Unit × G) :=
  f_X12_laysLikely_102 k34 k42 FU l0 l2 l3 l4 l5 (0 : Int32) g
def f_X12_laysLikely_42 (k34 : Nat → Int32 → Int32 → G → Option (Unit × G)) : Nat → Nat → Int32 → Int32 → Int32 → G → Option (Unit × G)
  | 0, _, _, _, _, _ => none
  | n + 1, l0, l2, l3, l4, g =>
  if (1296 : Int32) ≤ l4 then (bd (f_X12_isThen l0 g) (fun v2 g3 => k34 l0 l2 (l3 + (1 : Int32)) g3)) else (dr (gR g l0 28) (fun b6 => gdK g b6 15 (gdI l4 (gN g b6) (if (lg_cmp (gL g b6 l4.toNatClampNeg) (0 : Int64)) = 0 then (f_X12_laysLikely_173 k34 (f_X12_laysLikely_42 k34 n) l0 l2 l3 l4 g) else (bd (f_X12_canFrom l0 l4 g) (fun v11 g12 => if v11 = 0 then (dr (gR g12 l0 29) (fun b16 => gdK g12 b16 15 (gdI l4 (gN g12 b16) (dr (gR g12 l0 28) (fun b20 => gdK g12 b20 15 (gdI l4 (gN g12 b20) (lg (sL g12 b16 l4.toNatClampNeg ((gL g12 b16 l4.toNatClampNeg) + ((gL g12 b20 l4.toNatClampNeg) * (840 : Int64)))) (fun g24 => f_X12_laysLikely_99 k34 (f_X12_laysLikely_42 k34 n) l0 l2 l3 l4 v11 g24)))))))) else (f_X12_laysLikely_99 k34 (f_X12_laysLikely_42 k34 n) l0 l2 l3 l4 v11 g12)))))))
def f_X12_laysLikely_34 : Nat → Nat → Int32 → Int32 → G → Option (Unit × G)
  | 0, _, _, _, _ => none
  | n + 1, l0, l2, l3, g =>
  if l2 ≤ l3 then (some ((), g)) else (f_X12_laysLikely_42 (f_X12_laysLikely_34 n) FU l0 l2 l3 (0 : Int32) g)
def f_X12_laysLikely_12 : Nat → Nat → Int32 → Int32 → G → Option (Unit × G)
  | 0, _, _, _, _ => none
  | n + 1, l0, l2, l3, g =>
  if (1296 : Int32) ≤ l3 then (f_X12_laysLikely_34 FU l0 l2 (0 : Int32) g) else (dr (gR g l0 29) (fun b2 => gdK g b2 15 (gdI l3 (gN g b2) (lg (sL g b2 l3.toNatClampNeg (0 : Int64)) (fun g6 => f_X12_laysLikely_12 n l0 l2 (l3 + (1 : Int32)) g6)))))
def f_X12_laysLikely (l0 : Nat) (l1 : Int32) (l2 : Int32) (g : G) : Option (Unit × G) :=
  bd (f_X12_laysStands l0 l1 g) (fun v1 g2 => bd (f_X12_beginsMany l0 l1 g2) (fun v5 g6 => f_X12_laysLikely_12 FU l0 l2 (0 : Int32) g6))
def f_X12_likelyIn_35 (k5 : Nat → Int32 → Int32 → Int64 → Int32 → G → Option (Int64 × G)) (l0 : Nat) (l1 : Int32) (l2 : Int32) (l5 : Int32) (s0 : Int64) (s1 : Int64) (g : G) : Option (Int64 × G) :=
  ll (s1 + s0) (fun y1 => k5 l0 l1 l2 y1 (l5 + (1 : Int32)) g)
def f_X12_likelyIn_5 : Nat → Nat → Int32 → Int32 → Int64 → Int32 → G → Option (Int64 × G)
  | 0, _, _, _, _, _, _ => none
  | n + 1, l0, l1, l2, l3, l5, g =>
  if (1296 : Int32) ≤ l5 then (some (l3, g)) else (bd (f_X12_inStand l5 l1 g) (fun v2 g3 => if v2 = l2 then (dr (gR g3 l0 28) (fun b7 => gdK g3 b7 15 (gdI l5 (gN g3 b7) (f_X12_likelyIn_35 (f_X12_likelyIn_5 n) l0 l1 l2 l5 (gL g3 b7 l5.toNatClampNeg) l3 g3)))) else (f_X12_likelyIn_35 (f_X12_likelyIn_5 n) l0 l1 l2 l5 (0 : Int64) l3 g3)))
def f_X12_likelyIn (l0 : Nat) (l1 : Int32) (l2 : Int32) (g : G) : Option (Int64 × G) :=
  f_X12_likelyIn_5 FU l0 l1 l2 (0 : Int64) (0 : Int32) g
def f_X12_chance_41 (g : G) : Option (Int64 × G) :=
  some ((-2 : Int64), g)
def f_X12_chance_116 (l6 : Int64) (l8 : Int64) (s0 : Int64) (g : G) : Option (Int64 × G) :=
  bd (f_X12_common_T l8 l6 g) (fun v1 g2 => gdZl v1 (some ((s0 / v1), g2)))
def f_X12_chance_75 : Nat → Nat → Int32 → Int32 → Int32 → Int32 → Int64 → Int32 → G → Option (Int64 × G)
  | 0, _, _, _, _, _, _, _, _ => none
  | n + 1, l0, l2, l3, l4, l5, l6, l8, g =>
  if l4 ≤ l8 then (bd (f_X12_likelyIn l0 l2 l3 g) (fun v2 g3 => if l5 = 0 then (f_X12_chance_116 l6 v2 v2 g3) else (f_X12_chance_116 l6 v2 l6 g3))) else (ll (l6 * (840 : Int64)) (fun y7 => f_X12_chance_75 n l0 l2 l3 l4 l5 y7 (l8 + (1 : Int32)) g))
def f_X12_chance (l0 : Nat) (l1 : Int32) (l2 : Int32) (l3 : Int32) (l4 : Int32) (l5 : Int32) (g : G) : Option (Int64 × G) :=
  lg (sI g l0 0 (0 : Int32)) (fun g1 => bd (f_X12_isPair l0 (l1.toInt64) g1) (fun v3 g4 => if (b2i v3) = 0 then (f_X12_chance_41 g4) else (bd (f_X12_isTwin l2 g4) (fun v8 g9 => if (b2i v8) = 0 then (f_X12_chance_41 g9) else (bd (f_X12_isCell l0 (l3.toInt64) g9) (fun v13 g14 => if (b2i v13) = 0 then (f_X12_chance_41 g14) else (bd (f_X12_within (l5.toInt64) (0 : Int64) (1 : Int64) g14) (fun v18 g19 => if (b2i v18) = 0 then (f_X12_chance_41 g19) else (bd (f_X12_within (l4.toInt64) (0 : Int64) (5 : Int64) g19) (fun v23 g24 => if (b2i v23) = 0 then (some ((-3 : Int64), g24)) else (bd (f_X12_laysLikely l0 l1 l4 g24) (fun v28 g29 => f_X12_chance_75 FU l0 l2 l3 l4 l5 (1 : Int64) (0 : Int32) g29))))))))))))
def f_X6_greatestOf_66 (k10 : Nat → Nat → Int32 → Int32 → G → Option (Int32 × G)) (l0 : Nat) (l1 : Nat) (l2 : Int32) (l3 : Int32) (g : G) : Option (Int32 × G) :=
  k10 l0 l1 l2 (l3 + (1 : Int32)) g
def f_X6_greatestOf_107 (k77 : Nat → Int32 → Int32 → G → Option (Int32 × G)) (l0 : Nat) (l4 : Int32) (s0 : Int32) (g : G) : Option (Int32 × G) :=
  k77 l0 s0 (l4 + (1 : Int32)) g
def f_X6_greatestOf_77 : Nat → Nat → Int32 → Int32 → G → Option (Int32 × G)
  | 0, _, _, _, _ => none
  | n + 1, l0, l3, l4, g =>
  if (36 : Int32) ≤ l4 then (some (l3, g)) else (dr (gR g l0 2) (fun b2 => gdK g b2 15 (gdI l4 (gN g b2) (gdI l3 (gN g b2) (if (lg_cmp (gL g b2 l4.toNatClampNeg) (gL g b2 l3.toNatClampNeg)) ≤ 0 then (f_X6_greatestOf_107 (f_X6_greatestOf_77 n) l0 l4 l3 g) else (f_X6_greatestOf_107 (f_X6_greatestOf_77 n) l0 l4 l4 g))))))
def f_X6_greatestOf_72 (l0 : Nat) (g : G) : Option (Int32 × G) :=
  f_X6_greatestOf_77 FU l0 (0 : Int32) (1 : Int32) g
def f_X6_greatestOf_10 : Nat → Nat → Nat → Int32 → Int32 → G → Option (Int32 × G)
  | 0, _, _, _, _, _ => none
  | n + 1, l0, l1, l2, l3, g =>
  if (gI g l1 0) ≤ l3 then (f_X6_greatestOf_72 l0 g) else (if (256 : Int32) ≤ l3 then (f_X6_greatestOf_72 l0 g) else (bd (f_X4_cellOf l1 l3 l2 g) (fun v3 g4 => if v3 < 0 then (f_X6_greatestOf_66 (f_X6_greatestOf_10 n) l0 l1 l2 l3 g4) else (if (36 : Int32) ≤ v3 then (f_X6_greatestOf_66 (f_X6_greatestOf_10 n) l0 l1 l2 l3 g4) else (dr (gR g4 l0 2) (fun b9 => gdK g4 b9 15 (gdI v3 (gN g4 b9) (dr (gR g4 l0 0) (fun b13 => gdK g4 b13 19 (gdI (gI g4 l0 1) (gN g4 b13) (dr (gR g4 b13 (gI g4 l0 1).toNatClampNeg) (fun b17 => gdK g4 b17 15 (gdI l3 (gN g4 b17) (lg (sL g4 b9 v3.toNatClampNeg ((gL g4 b9 v3.toNatClampNeg) + (gL g4 b17 l3.toNatClampNeg))) (fun g21 => f_X6_greatestOf_66 (f_X6_greatestOf_10 n) l0 l1 l2 l3 g21)))))))))))))))
def f_X6_greatestOf (l0 : Nat) (l1 : Nat) (l2 : Int32) (g : G) : Option (Int32 × G) :=
  dr (gR g l0 2) (fun b1 => gdK g b1 15 (bd (f_J7_fill_d0a16 b1 (0 : Int64) g) (fun v4 g5 => f_X6_greatestOf_10 FU l0 l1 l2 (0 : Int32) g5)))
def f_X11_likeliest (l0 : Nat) (l1 : Int32) (l2 : Int32) (l3 : Int32) (g : G) : Option (Int32 × G) :=
  dr (gR g l0 4) (fun b1 => gdK g b1 0 (bd (f_X0_isPair b1 l1 g) (fun v4 g5 => if (b2i v4) = 0 then (some ((-2 : Int32), g5)) else (bd (f_X11_isTwin l2 g5) (fun v9 g10 => if (b2i v9) = 0 then (some ((-2 : Int32), g10)) else (if l3 < 0 then (some ((-3 : Int32), g10)) else (if l3 ≤ (5 : Int32) then (bd (f_X11_graphOf l0 l1 g10) (fun v16 g17 => gdK g17 v16 4 (bd (f_X11_chances l0 v16 l3 g17) (fun v21 g22 => dr (gR g22 l0 14) (fun b25 => gdK g22 b25 6 (bd (f_X6_greatestOf b25 v16 l2 g22) (fun v28 g29 => some (v28, g29)))))))) else (some ((-3 : Int32), g10)))))))))
def f_X12_likeliest_82 (k51 : Nat → Int32 → Int32 → Int32 → G → Option (Int32 × G)) (l0 : Nat) (l2 : Int32) (l4 : Int32) (l5 : Int32) (g : G) : Option (Int32 × G) :=
  k51 l0 l2 l4 (l5 + (1 : Int32)) g
def f_X12_likeliest_51 : Nat → Nat → Int32 → Int32 → Int32 → G → Option (Int32 × G)
  | 0, _, _, _, _, _ => none
  | n + 1, l0, l2, l4, l5, g =>
  bd (f_X12_cells l0 g) (fun v1 g2 => if v1 ≤ l5 then (some (l4, g2)) else (bd (f_X12_likelyIn l0 l2 l5 g2) (fun v6 g7 => bd (f_X12_likelyIn l0 l2 l4 g7) (fun v10 g11 => if (lg_cmp v6 v10) ≤ 0 then (f_X12_likeliest_82 (f_X12_likeliest_51 n) l0 l2 l4 l5 g11) else (f_X12_likeliest_82 (f_X12_likeliest_51 n) l0 l2 l5 l5 g11)))))
def f_X12_likeliest (l0 : Nat) (l1 : Int32) (l2 : Int32) (l3 : Int32) (g : G) : Option (Int32 × G) :=
  lg (sI g l0 0 (0 : Int32)) (fun g1 => bd (f_X12_isPair l0 (l1.toInt64) g1) (fun v3 g4 => if (b2i v3) = 0 then (some ((-2 : Int32), g4)) else (bd (f_X12_isTwin l2 g4) (fun v8 g9 => if (b2i v8) = 0 then (some ((-2 : Int32), g9)) else (bd (f_X12_within (l3.toInt64) (0 : Int64) (5 : Int64) g9) (fun v13 g14 => if (b2i v13) = 0 then (some ((-3 : Int32), g14)) else (bd (f_X12_laysLikely l0 l1 l3 g14) (fun v18 g19 => f_X12_likeliest_51 FU l0 l2 (0 : Int32) (1 : Int32) g19))))))))
def f_X10_become (l0 : Nat) (l1 : Int32) (l2 : Int32) (g : G) : Option (Unit × G) :=
  lg (sI g l0 1 l1) (fun g1 => bd (f_J9_min_7cf53 (40 : Int32) l2 g1) (fun v3 g4 => bd (f_J9_max_7cf53 (0 : Int32) v3 g4) (fun v7 g8 => lg (sI g8 l0 0 v7) (fun g11 => dr (gR g11 l0 2) (fun b13 => gdK g11 b13 15 (bd (f_J7_fill_d0a16 b13 (0 : Int64) g11) (fun v16 g17 => some ((), g17))))))))
def f_X11_numbers (l0 : Nat) (l1 : Int32) (l2 : Int32) (l3 : Int32) (g : G) : Option (Int32 × G) :=
  bd (f_X11_isTray l1 g) (fun v1 g2 => if (b2i v1) = 0 then (some ((-2 : Int32), g2)) else (if l2 < 0 then (some ((-2 : Int32), g2)) else (if l2 ≤ (3 : Int32) then (if l3 < 0 then (some ((-3 : Int32), g2)) else (if l3 ≤ (40 : Int32) then (dr (gR g2 l0 16) (fun b10 => gdK g2 b10 18 (gdI l1 (gN g2 b10) (dr (gR g2 b10 l1.toNatClampNeg) (fun b14 => gdK g2 b14 10 (bd (f_X10_become b14 l2 l3 g2) (fun v17 g18 => some ((0 : Int32), g18)))))))) else (some ((-3 : Int32), g2)))) else (some ((-2 : Int32), g2)))))
def f_X12_numbers_64 : Nat → Nat → Int32 → Int32 → Int32 → G → Option (Int32 × G)
  | 0, _, _, _, _, _ => none
  | n + 1, l0, l1, l3, l4, g =>
  if l3 ≤ l4 then (some ((0 : Int32), g)) else (dr (gR g l0 35) (fun b2 => gdK g b2 15 (gdI (((40 : Int32) * l1) + l4) (gN g b2) (lg (sL g b2 (((40 : Int32) * l1) + l4).toNatClampNeg (0 : Int64)) (fun g6 => f_X12_numbers_64 n l0 l1 l3 (l4 + (1 : Int32)) g6)))))
def f_X12_numbers (l0 : Nat) (l1 : Int32) (l2 : Int32) (l3 : Int32) (g : G) : Option (Int32 × G) :=
  lg (sI g l0 0 (0 : Int32)) (fun g1 => bd (f_X12_within (l1.toInt64) (0 : Int64) (3 : Int64) g1) (fun v3 g4 => if (b2i v3) = 0 then (some ((-2 : Int32), g4)) else (bd (f_X12_within (l2.toInt64) (0 : Int64) (3 : Int64) g4) (fun v8 g9 => if (b2i v8) = 0 then (some ((-2 : Int32), g9)) else (bd (f_X12_within (l3.toInt64) (0 : Int64) (40 : Int64) g9) (fun v13 g14 => if (b2i v13) = 0 then (some ((-3 : Int32), g14)) else (dr (gR g14 l0 33) (fun b18 => gdK g14 b18 14 (gdI l1 (gN g14 b18) (lg (sI g14 b18 l1.toNatClampNeg l2) (fun g22 => dr (gR g22 l0 34) (fun b24 => gdK g22 b24 14 (gdI l1 (gN g22 b24) (lg (sI g22 b24 l1.toNatClampNeg l3) (fun g28 => f_X12_numbers_64 FU l0 l1 l3 (0 : Int32) g28)))))))))))))))
def f_X10_cut (l0 : Nat) (l1 : Int64) (g : G) : Option (Int64 × G) :=
  if (gI g l0 1) = 0 then (some ((((l1.toInt32).toInt8.toInt32).toInt64), g)) else (if (gI g l0 1) = (1 : Int32) then (some ((((l1.toInt32).toInt16.toInt32).toInt64), g)) else (if (gI g l0 1) = (2 : Int32) then (some (((l1.toInt32).toInt64), g)) else (some (l1, g))))
def f_X10_set (l0 : Nat) (l1 : Int32) (l2 : Int64) (g : G) : Option (Int64 × G) :=
  if l1 < 0 then (some ((0 : Int64), g)) else (if l1 < (40 : Int32) then (dr (gR g l0 2) (fun b3 => bd (f_X10_cut l0 l2 g) (fun v5 g6 => gdK g6 b3 15 (gdI l1 (gN g6 b3) (lg (sL g6 b3 l1.toNatClampNeg v5) (fun g11 => dr (gR g11 l0 2) (fun b13 => gdK g11 b13 15 (gdI l1 (gN g11 b13) (some ((gL g11 b13 l1.toNatClampNeg), g11)))))))))) else (some ((0 : Int64), g)))
def f_X11_write_44 (g : G) : Option (Int64 × G) :=
  some ((-7 : Int64), g)
def f_X11_write (l0 : Nat) (l1 : Int32) (l2 : Int32) (l3 : Int64) (g : G) : Option (Int64 × G) :=
  bd (f_X11_isTray l1 g) (fun v1 g2 => if (b2i v1) = 0 then (some ((-2 : Int64), g2)) else (dr (gR g2 l0 16) (fun b6 => gdK g2 b6 18 (gdI l1 (gN g2 b6) (dr (gR g2 b6 l1.toNatClampNeg) (fun b10 => gdK g2 b10 10 (bd (f_X10_isMissing b10 g2) (fun v13 g14 => if (b2i v13) = 0 then (if l2 < 0 then (f_X11_write_44 g14) else (dr (gR g14 l0 16) (fun b19 => gdK g14 b19 18 (gdI l1 (gN g14 b19) (dr (gR g14 b19 l1.toNatClampNeg) (fun b23 => gdK g14 b23 10 (if l2 < (gI g14 b23 0) then (dr (gR g14 b19 l1.toNatClampNeg) (fun b27 => gdK g14 b27 10 (bd (f_X10_set b27 l2 l3 g14) (fun v30 g31 => some (v30, g31))))) else (f_X11_write_44 g14)))))))) else (some ((-6 : Int64), g14))))))))))
def f_X12_cut (l0 : Int64) (l2 : Int32) (g : G) : Option (Int64 × G) :=
  if l2 = 0 then (some ((((l0.toInt32).toInt8.toInt32).toInt64), g)) else (if l2 = (1 : Int32) then (some ((((l0.toInt32).toInt16.toInt32).toInt64), g)) else (if l2 = (2 : Int32) then (some (((l0.toInt32).toInt64), g)) else (some (l0, g))))
def f_X12_write (l0 : Nat) (l1 : Int32) (l2 : Int32) (l3 : Int64) (g : G) : Option (Int64 × G) :=
  lg (sI g l0 0 (0 : Int32)) (fun g1 => bd (f_X12_noTray l0 l1 g1) (fun v3 g4 => if v3 = 0 then (dr (gR g4 l0 34) (fun b8 => gdK g4 b8 14 (gdI l1 (gN g4 b8) (bd (f_X12_within (l2.toInt64) (0 : Int64) (((gI g4 b8 l1.toNatClampNeg) - (1 : Int32)).toInt64) g4) (fun v12 g13 => if (b2i v12) = 0 then (some ((-7 : Int64), g13)) else (dr (gR g13 l0 35) (fun b17 => dr (gR g13 l0 33) (fun b19 => gdK g13 b19 14 (gdI l1 (gN g13 b19) (bd (f_X12_cut l3 (gI g13 b19 l1.toNatClampNeg) g13) (fun v23 g24 => gdK g24 b17 15 (gdI (((40 : Int32) * l1) + l2) (gN g24 b17) (lg (sL g24 b17 (((40 : Int32) * l1) + l2).toNatClampNeg v23) (fun g29 => dr (gR g29 l0 35) (fun b31 => gdK g29 b31 15 (gdI (((40 : Int32) * l1) + l2) (gN g29 b31) (some ((gL g29 b31 (((40 : Int32) * l1) + l2).toNatClampNeg), g29)))))))))))))))))) else (some ((v3.toInt64), g4))))
def f_X11_lists_86 : Nat → Int32 → Nat → Nat → Int32 → Int32 → Int32 → G → Option (Int32 × G)
  | 0, _, _, _, _, _, _, _ => none
  | n + 1, l2, l5, l6, l7, l8, l9, g =>
  if l8 ≤ l9 then (some (l8, g)) else (bd (f_X4_leadAt l6 l7 l9 g) (fun v2 g3 => bd (f_X11_told v2 g3) (fun v6 g7 => bd (f_X10_set l5 l9 (((100 : Int64) * (l2.toInt64)) + (v6.toInt64)) g7) (fun v10 g11 => f_X11_lists_86 n l2 l5 l6 l7 l8 (l9 + (1 : Int32)) g11))))
def f_X11_lists (l0 : Nat) (l1 : Int32) (l2 : Int32) (l3 : Int32) (l4 : Int32) (g : G) : Option (Int32 × G) :=
  bd (f_X11_isTray l1 g) (fun v1 g2 => if (b2i v1) = 0 then (some ((-2 : Int32), g2)) else (bd (f_X11_isGoal l0 l2 l3 l4 g2) (fun v6 g7 => if (b2i v6) = 0 then (some ((-2 : Int32), g7)) else (dr (gR g7 l0 16) (fun b11 => gdK g7 b11 18 (gdI l1 (gN g7 b11) (dr (gR g7 b11 l1.toNatClampNeg) (fun b15 => gdK g7 b15 10 (bd (f_X10_isMissing b15 g7) (fun v18 g19 => if (b2i v18) = 0 then (bd (f_X11_graphOf l0 l2 g19) (fun v23 g24 => gdK g24 v23 4 (bd (f_X4_find v23 l3 l4 g24) (fun v28 g29 => if v28 = (-1 : Int32) then (some ((-5 : Int32), g29)) else (bd (f_X4_depthOf v23 v28 g29) (fun v33 g34 => bd (f_J9_min_7cf53 v33 (gI g34 b15 0) g34) (fun v37 g38 => f_X11_lists_86 FU l2 b15 v23 v28 v37 (0 : Int32) g38))))))) else (some ((-6 : Int32), g19))))))))))))
def f_X12_lists_93 : Nat → Nat → Int32 → Int32 → Int32 → Int32 → G → Option (Int32 × G)
  | 0, _, _, _, _, _, _ => none
  | n + 1, l0, l1, l2, l7, l8, g =>
  if l7 ≤ l8 then (some (l7, g)) else (dr (gR g l0 35) (fun b2 => bd (f_X12_leadAt l0 l2 l8 (0 : Int32) g) (fun v4 g5 => dr (gR g5 l0 33) (fun b8 => gdK g5 b8 14 (gdI l1 (gN g5 b8) (bd (f_X12_cut ((((100 : Int32) * l2) + v4).toInt64) (gI g5 b8 l1.toNatClampNeg) g5) (fun v12 g13 => gdK g13 b2 15 (gdI (((40 : Int32) * l1) + l8) (gN g13 b2) (lg (sL g13 b2 (((40 : Int32) * l1) + l8).toNatClampNeg v12) (fun g18 => f_X12_lists_93 n l0 l1 l2 l7 (l8 + (1 : Int32)) g18))))))))))
def f_X12_lists_88 (l0 : Nat) (l1 : Int32) (l2 : Int32) (s0 : Int32) (g : G) : Option (Int32 × G) :=
  f_X12_lists_93 FU l0 l1 l2 s0 (0 : Int32) g
def f_X12_lists (l0 : Nat) (l1 : Int32) (l2 : Int32) (l3 : Int32) (l4 : Int32) (g : G) : Option (Int32 × G) :=
  lg (sI g l0 0 (0 : Int32)) (fun g1 => bd (f_X12_within (l1.toInt64) (0 : Int64) (3 : Int64) g1) (fun v3 g4 => if (b2i v3) = 0 then (some ((-2 : Int32), g4)) else (bd (f_X12_isGoalTold l0 l2 l3 l4 g4) (fun v8 g9 => if (b2i v8) = 0 then (some ((-2 : Int32), g9)) else (bd (f_X12_noTray l0 l1 g9) (fun v13 g14 => if v13 = 0 then (bd (f_X12_comes l0 l2 l3 l4 (0 : Int32) g14) (fun v18 g19 => if v18 = (-1 : Int32) then (some ((-5 : Int32), g19)) else (dr (gR g19 l0 34) (fun b23 => gdK g19 b23 14 (gdI l1 (gN g19 b23) (if (gI g19 b23 l1.toNatClampNeg) ≤ v18 then (f_X12_lists_88 l0 l1 l2 (gI g19 b23 l1.toNatClampNeg) g19) else (f_X12_lists_88 l0 l1 l2 v18 g19))))))) else (some (v13, g14))))))))
def f_X11_image_45 (l0 : Nat) (l2 : Option Nat) (g : G) : Option (Int32 × G) :=
  dr (gR g l0 4) (fun b1 => dr l2 (fun b3 => gdK g b3 0 (gdK g b1 0 (bd (f_X0_copyFrom b3 b1 g) (fun v7 g8 => some ((0 : Int32), g8))))))
def f_X11_image (l0 : Nat) (l1 : Int32) (g : G) : Option (Int32 × G) :=
  if l1 < 0 then (some ((-2 : Int32), g)) else (if l1 < (2 : Int32) then (dr (gR g l0 17) (fun b3 => gdK g b3 17 (gdI l1 (gN g b3) (if (gR g b3 l1.toNatClampNeg) = none then (lg (nw g 0 0 6) (fun g8 => ln (gn g) (fun a10 => dr (gR g8 l0 4) (fun b13 => gdK g8 b13 0 (dr (gR g8 b13 0) (fun b16 => gdK g8 b16 7 (bd (f_X0_init a10 b16 g8) (fun v19 g20 => dr (gR g20 l0 17) (fun b23 => gdK g20 b23 17 (gdI l1 (gN g20 b23) (lg (sR g20 b23 l1.toNatClampNeg (some a10)) (fun g27 => f_X11_image_45 l0 (some a10) g27)))))))))))) else (f_X11_image_45 l0 (gR g b3 l1.toNatClampNeg) g))))) else (some ((-2 : Int32), g)))
def f_X12_image_20 : Nat → Nat → Int32 → Int32 → G → Option (Int32 × G)
  | 0, _, _, _, _ => none
  | n + 1, l0, l1, l2, g =>
  if (1515 : Int32) ≤ l2 then (dr (gR g l0 2) (fun b2 => gdK g b2 16 (gdI l1 (gN g b2) (lg (sI g b2 l1.toNatClampNeg (vp_nar .boolean (1 : Int32))) (fun g6 => some ((0 : Int32), g6)))))) else (dr (gR g l0 1) (fun b8 => gdK g b8 14 (gdI l2 (gN g b8) (gdI (((1515 : Int32) * (l1 + (1 : Int32))) + l2) (gN g b8) (lg (sI g b8 (((1515 : Int32) * (l1 + (1 : Int32))) + l2).toNatClampNeg (gI g b8 l2.toNatClampNeg)) (fun g13 => f_X12_image_20 n l0 l1 (l2 + (1 : Int32)) g13))))))
def f_X12_image (l0 : Nat) (l1 : Int32) (g : G) : Option (Int32 × G) :=
  lg (sI g l0 0 (0 : Int32)) (fun g1 => bd (f_X12_within (l1.toInt64) (0 : Int64) (1 : Int64) g1) (fun v3 g4 => if (b2i v3) = 0 then (some ((-2 : Int32), g4)) else (f_X12_image_20 FU l0 l1 (0 : Int32) g4)))
def f_X11_restore (l0 : Nat) (l1 : Int32) (g : G) : Option (Int32 × G) :=
  if l1 < 0 then (some ((-2 : Int32), g)) else (if l1 < (2 : Int32) then (dr (gR g l0 17) (fun b3 => gdK g b3 17 (gdI l1 (gN g b3) (if (gR g b3 l1.toNatClampNeg) = none then (some ((-5 : Int32), g)) else (dr (gR g l0 4) (fun b8 => gdK g b8 0 (dr (gR g b3 l1.toNatClampNeg) (fun b11 => gdK g b11 0 (bd (f_X0_copyFrom b8 b11 g) (fun v14 g15 => dr (gR g15 l0 15) (fun b18 => gdK g15 b18 5 (bd (f_X5_forget b18 g15) (fun v21 g22 => bd (f_X11_forgetWays l0 g22) (fun v25 g26 => some ((0 : Int32), g26))))))))))))))) else (some ((-2 : Int32), g)))
def f_X12_restore_32 : Nat → Nat → Int32 → Int32 → G → Option (Int32 × G)
  | 0, _, _, _, _ => none
  | n + 1, l0, l1, l2, g =>
  if (1515 : Int32) ≤ l2 then (dr (gR g l0 1) (fun b2 => gdK g b2 14 (gdI (103 : Int32) (gN g b2) (lg (sI g b2 (103 : Int32).toNatClampNeg (0 : Int32)) (fun g6 => some ((0 : Int32), g6)))))) else (dr (gR g l0 1) (fun b8 => gdK g b8 14 (gdI (((1515 : Int32) * (l1 + (1 : Int32))) + l2) (gN g b8) (gdI l2 (gN g b8) (lg (sI g b8 l2.toNatClampNeg (gI g b8 (((1515 : Int32) * (l1 + (1 : Int32))) + l2).toNatClampNeg)) (fun g13 => f_X12_restore_32 n l0 l1 (l2 + (1 : Int32)) g13))))))
def f_X12_restore (l0 : Nat) (l1 : Int32) (g : G) : Option (Int32 × G) :=
  lg (sI g l0 0 (0 : Int32)) (fun g1 => bd (f_X12_within (l1.toInt64) (0 : Int64) (1 : Int64) g1) (fun v3 g4 => if (b2i v3) = 0 then (some ((-2 : Int32), g4)) else (dr (gR g4 l0 2) (fun b8 => gdK g4 b8 16 (gdI l1 (gN g4 b8) (if (gI g4 b8 l1.toNatClampNeg) = 0 then (some ((-5 : Int32), g4)) else (f_X12_restore_32 FU l0 l1 (0 : Int32) g4)))))))
def f_X0_allSpans_28 (k4 : Nat → Int32 → Int32 → G → Option (Int32 × G)) (l0 : Nat) (l2 : Int32) (s0 : Int32) (s1 : Int32) (g : G) : Option (Int32 × G) :=
  li (s1 + s0) (fun y1 => k4 l0 y1 (l2 + (1 : Int32)) g)
def f_X0_allSpans_4 : Nat → Nat → Int32 → Int32 → G → Option (Int32 × G)
  | 0, _, _, _, _ => none
  | n + 1, l0, l1, l2, g =>
  if (3 : Int32) ≤ l2 then (some (l1, g)) else (bd (f_X0_isPair l0 l2 g) (fun v2 g3 => if (b2i v2) = 0 then (f_X0_allSpans_28 (f_X0_allSpans_4 n) l0 l2 (0 : Int32) l1 g3) else (dr (gR g3 l0 3) (fun b7 => gdK g3 b7 14 (gdI l2 (gN g3 b7) (f_X0_allSpans_28 (f_X0_allSpans_4 n) l0 l2 (gI g3 b7 l2.toNatClampNeg) l1 g3))))))
def f_X0_allSpans (l0 : Nat) (g : G) : Option (Int32 × G) :=
  f_X0_allSpans_4 FU l0 (0 : Int32) (0 : Int32) g
def f_X11_count (l0 : Nat) (l1 : Int32) (g : G) : Option (Int32 × G) :=
  if l1.toInt < 0 then (some ((-1 : Int32), g)) else (match (l1.toInt - 0).toNat with | 0 => (dr (gR g l0 4) (fun b1 => gdK g b1 0 (dr (gR g b1 0) (fun b4 => gdK g b4 7 (some ((gI g b4 0), g)))))) | 1 => (dr (gR g l0 4) (fun b7 => gdK g b7 0 (dr (gR g b7 0) (fun b10 => gdK g b10 7 (some ((gI g b10 1), g)))))) | 2 => (dr (gR g l0 4) (fun b13 => gdK g b13 0 (dr (gR g b13 0) (fun b16 => gdK g b16 7 (some ((gI g b16 4), g)))))) | 3 => (dr (gR g l0 4) (fun b19 => gdK g b19 0 (bd (f_J13_bitCount_95d88 (gL g b19 1) g) (fun v22 g23 => some (v22, g23))))) | 4 => (dr (gR g l0 4) (fun b26 => gdK g b26 0 (bd (f_X0_allSpans b26 g) (fun v29 g30 => some (v29, g30))))) | 5 => (dr (gR g l0 4) (fun b33 => gdK g b33 0 (bd (f_X0_allDone b33 g) (fun v36 g37 => some (v36, g37))))) | 6 => (dr (gR g l0 15) (fun b40 => gdK g b40 5 (some ((gI g b40 0), g)))) | 7 => (some ((gI g l0 1), g)) | 8 => (dr (gR g l0 4) (fun b43 => gdK g b43 0 (dr (gR g b43 0) (fun b46 => gdK g b46 7 (some ((gI g b46 5), g)))))) | _ => (some ((-1 : Int32), g)))
def f_X12_sumOf_5 : Nat → Nat → Int32 → Int32 → Int32 → Int32 → G → Option (Int32 × G)
  | 0, _, _, _, _, _, _ => none
  | n + 1, l0, l1, l2, l3, l4, g =>
  if l2 ≤ l4 then (some (l3, g)) else (dr (gR g l0 1) (fun b2 => gdK g b2 14 (gdI (l1 + l4) (gN g b2) (li (l3 + (gI g b2 (l1 + l4).toNatClampNeg)) (fun y6 => f_X12_sumOf_5 n l0 l1 l2 y6 (l4 + (1 : Int32)) g)))))
def f_X12_sumOf (l0 : Nat) (l1 : Int32) (l2 : Int32) (g : G) : Option (Int32 × G) :=
  f_X12_sumOf_5 FU l0 l1 l2 (0 : Int32) (0 : Int32) g
def f_X12_count (l0 : Nat) (l1 : Int32) (g : G) : Option (Int32 × G) :=
  lg (sI g l0 0 (0 : Int32)) (fun g1 => if l1.toInt < 0 then (some ((-1 : Int32), g1)) else (match (l1.toInt - 0).toNat with | 0 => (dr (gR g1 l0 1) (fun b3 => gdK g1 b3 14 (gdI (1 : Int32) (gN g1 b3) (some ((gI g1 b3 (1 : Int32).toNatClampNeg), g1))))) | 1 => (dr (gR g1 l0 1) (fun b7 => gdK g1 b7 14 (gdI (2 : Int32) (gN g1 b7) (some ((gI g1 b7 (2 : Int32).toNatClampNeg), g1))))) | 2 => (dr (gR g1 l0 1) (fun b11 => gdK g1 b11 14 (gdI (3 : Int32) (gN g1 b11) (some ((gI g1 b11 (3 : Int32).toNatClampNeg), g1))))) | 3 => (bd (f_X12_sumOf l0 (52 : Int32) (36 : Int32) g1) (fun v15 g16 => some (v15, g16))) | 4 => (dr (gR g1 l0 1) (fun b19 => gdK g1 b19 14 (gdI (3 : Int32) (gN g1 b19) (bd (f_X12_sumOf l0 (94 : Int32) (gI g1 b19 (3 : Int32).toNatClampNeg) g1) (fun v23 g24 => some (v23, g24)))))) | 5 => (bd (f_X12_doneAll l0 g1) (fun v27 g28 => some (v27, g28))) | 6 => (dr (gR g1 l0 1) (fun b31 => gdK g1 b31 14 (gdI (103 : Int32) (gN g1 b31) (some ((gI g1 b31 (103 : Int32).toNatClampNeg), g1))))) | 7 => (some ((gI g1 l0 5), g1)) | 8 => (dr (gR g1 l0 1) (fun b35 => gdK g1 b35 14 (gdI (0 : Int32) (gN g1 b35) (some ((gI g1 b35 (0 : Int32).toNatClampNeg), g1))))) | _ => (some ((-1 : Int32), g1))))
def f_L_law_1817 (sL : Nat) (sX : Nat → Int32) (k18 : Nat → Nat → Int32 → G → Option (Bool × G)) (l1 : Nat) (l2 : Nat) (l3 : Int32) (g : G) : Option (Bool × G) :=
  k18 l1 l2 (l3 + (6 : Int32)) g
def f_L_law_18 (sL : Nat) (sX : Nat → Int32) : Nat → Nat → Nat → Int32 → G → Option (Bool × G)
  | 0, _, _, _, _ => none
  | n + 1, l1, l2, l3, g =>
  if ((nI sL) - (6 : Int32)) < l3 then (some (true, g)) else (gdI l3 sL (if ((sX l3.toNatClampNeg) &&& (63 : Int32)).toInt < 0 then (f_L_law_1817 sL sX (f_L_law_18 sL sX n) l1 l2 l3 g) else (match (((sX l3.toNatClampNeg) &&& (63 : Int32)).toInt - 0).toNat with | 0 => (gdI (l3 + (1 : Int32)) sL (gdI (l3 + (2 : Int32)) sL (gdI (l3 + (3 : Int32)) sL (gdI (l3 + (4 : Int32)) sL (gdI (l3 + (5 : Int32)) sL (bd (f_X11_feed l1 (sX (l3 + (1 : Int32)).toNatClampNeg) (sX (l3 + (2 : Int32)).toNatClampNeg) (sX (l3 + (3 : Int32)).toNatClampNeg) (sX (l3 + (4 : Int32)).toNatClampNeg) (sX (l3 + (5 : Int32)).toNatClampNeg) g) (fun v8 g9 => gdI (l3 + (1 : Int32)) sL (gdI (l3 + (2 : Int32)) sL (gdI (l3 + (3 : Int32)) sL (gdI (l3 + (4 : Int32)) sL (gdI (l3 + (5 : Int32)) sL (bd (f_X12_feed l2 (sX (l3 + (1 : Int32)).toNatClampNeg) (sX (l3 + (2 : Int32)).toNatClampNeg) (sX (l3 + (3 : Int32)).toNatClampNeg) (sX (l3 + (4 : Int32)).toNatClampNeg) (sX (l3 + (5 : Int32)).toNatClampNeg) g9) (fun v17 g18 => if v8 = v17 then (f_L_law_1817 sL sX (f_L_law_18 sL sX n) l1 l2 l3 g18) else (some (false, g18))))))))))))))) | 1 => (gdI (l3 + (1 : Int32)) sL (bd (f_X11_field l1 (sX (l3 + (1 : Int32)).toNatClampNeg) g) (fun v23 g24 => gdI (l3 + (1 : Int32)) sL (bd (f_X12_field l2 (sX (l3 + (1 : Int32)).toNatClampNeg) g24) (fun v28 g29 => if v23 = v28 then (f_L_law_1817 sL sX (f_L_law_18 sL sX n) l1 l2 l3 g29) else (some (false, g29))))))) | 2 => (gdI (l3 + (1 : Int32)) sL (bd (f_X11_fault l1 (sX (l3 + (1 : Int32)).toNatClampNeg) g) (fun v34 g35 => gdI (l3 + (1 : Int32)) sL (bd (f_X12_fault l2 (sX (l3 + (1 : Int32)).toNatClampNeg) g35) (fun v39 g40 => if v34 = v39 then (f_L_law_1817 sL sX (f_L_law_18 sL sX n) l1 l2 l3 g40) else (some (false, g40))))))) | 3 => (gdI (l3 + (1 : Int32)) sL (gdI (l3 + (2 : Int32)) sL (bd (f_X11_cell l1 (sX (l3 + (1 : Int32)).toNatClampNeg) (sX (l3 + (2 : Int32)).toNatClampNeg) g) (fun v46 g47 => gdI (l3 + (1 : Int32)) sL (gdI (l3 + (2 : Int32)) sL (bd (f_X12_cell l2 (sX (l3 + (1 : Int32)).toNatClampNeg) (sX (l3 + (2 : Int32)).toNatClampNeg) g47) (fun v52 g53 => if v46 = v52 then (f_L_law_1817 sL sX (f_L_law_18 sL sX n) l1 l2 l3 g53) else (some (false, g53))))))))) | 4 => (gdI (l3 + (1 : Int32)) sL (gdI (l3 + (2 : Int32)) sL (bd (f_X11_pair l1 (sX (l3 + (1 : Int32)).toNatClampNeg) (sX (l3 + (2 : Int32)).toNatClampNeg) g) (fun v59 g60 => gdI (l3 + (1 : Int32)) sL (gdI (l3 + (2 : Int32)) sL (bd (f_X12_pair l2 (sX (l3 + (1 : Int32)).toNatClampNeg) (sX (l3 + (2 : Int32)).toNatClampNeg) g60) (fun v65 g66 => if v59 = v65 then (f_L_law_1817 sL sX (f_L_law_18 sL sX n) l1 l2 l3 g66) else (some (false, g66))))))))) | 5 => (gdI (l3 + (1 : Int32)) sL (gdI (l3 + (2 : Int32)) sL (gdI (l3 + (3 : Int32)) sL (bd (f_X11_why l1 (sX (l3 + (1 : Int32)).toNatClampNeg) (sX (l3 + (2 : Int32)).toNatClampNeg) (sX (l3 + (3 : Int32)).toNatClampNeg) g) (fun v73 g74 => gdI (l3 + (1 : Int32)) sL (gdI (l3 + (2 : Int32)) sL (gdI (l3 + (3 : Int32)) sL (bd (f_X12_why l2 (sX (l3 + (1 : Int32)).toNatClampNeg) (sX (l3 + (2 : Int32)).toNatClampNeg) (sX (l3 + (3 : Int32)).toNatClampNeg) g74) (fun v80 g81 => if v73 = v80 then (f_L_law_1817 sL sX (f_L_law_18 sL sX n) l1 l2 l3 g81) else (some (false, g81))))))))))) | 6 => (gdI (l3 + (1 : Int32)) sL (gdI (l3 + (2 : Int32)) sL (gdI (l3 + (3 : Int32)) sL (gdI (l3 + (4 : Int32)) sL (bd (f_X11_by l1 (sX (l3 + (1 : Int32)).toNatClampNeg) (sX (l3 + (2 : Int32)).toNatClampNeg) (sX (l3 + (3 : Int32)).toNatClampNeg) (sX (l3 + (4 : Int32)).toNatClampNeg) g) (fun v89 g90 => gdI (l3 + (1 : Int32)) sL (gdI (l3 + (2 : Int32)) sL (gdI (l3 + (3 : Int32)) sL (gdI (l3 + (4 : Int32)) sL (bd (f_X12_by l2 (sX (l3 + (1 : Int32)).toNatClampNeg) (sX (l3 + (2 : Int32)).toNatClampNeg) (sX (l3 + (3 : Int32)).toNatClampNeg) (sX (l3 + (4 : Int32)).toNatClampNeg) g90) (fun v97 g98 => if v89 = v97 then (f_L_law_1817 sL sX (f_L_law_18 sL sX n) l1 l2 l3 g98) else (some (false, g98))))))))))))) | 7 => (gdI (l3 + (1 : Int32)) sL (gdI (l3 + (2 : Int32)) sL (gdI (l3 + (3 : Int32)) sL (bd (f_X11_lead l1 (sX (l3 + (1 : Int32)).toNatClampNeg) (sX (l3 + (2 : Int32)).toNatClampNeg) (sX (l3 + (3 : Int32)).toNatClampNeg) g) (fun v105 g106 => gdI (l3 + (1 : Int32)) sL (gdI (l3 + (2 : Int32)) sL (gdI (l3 + (3 : Int32)) sL (bd (f_X12_lead l2 (sX (l3 + (1 : Int32)).toNatClampNeg) (sX (l3 + (2 : Int32)).toNatClampNeg) (sX (l3 + (3 : Int32)).toNatClampNeg) g106) (fun v112 g113 => if v105 = v112 then (f_L_law_1817 sL sX (f_L_law_18 sL sX n) l1 l2 l3 g113) else (some (false, g113))))))))))) | 8 => (gdI (l3 + (1 : Int32)) sL (bd (f_X11_wall l1 (sX (l3 + (1 : Int32)).toNatClampNeg) g) (fun v118 g119 => gdI (l3 + (1 : Int32)) sL (bd (f_X12_wall l2 (sX (l3 + (1 : Int32)).toNatClampNeg) g119) (fun v123 g124 => if v118 = v123 then (f_L_law_1817 sL sX (f_L_law_18 sL sX n) l1 l2 l3 g124) else (some (false, g124))))))) | 9 => (gdI (l3 + (1 : Int32)) sL (gdI (l3 + (2 : Int32)) sL (gdI (l3 + (3 : Int32)) sL (bd (f_X11_put l1 (sX (l3 + (1 : Int32)).toNatClampNeg) (sX (l3 + (2 : Int32)).toNatClampNeg) (sX (l3 + (3 : Int32)).toNatClampNeg) g) (fun v131 g132 => gdI (l3 + (1 : Int32)) sL (gdI (l3 + (2 : Int32)) sL (gdI (l3 + (3 : Int32)) sL (bd (f_X12_put l2 (sX (l3 + (1 : Int32)).toNatClampNeg) (sX (l3 + (2 : Int32)).toNatClampNeg) (sX (l3 + (3 : Int32)).toNatClampNeg) g132) (fun v138 g139 => if v131 = v138 then (f_L_law_1817 sL sX (f_L_law_18 sL sX n) l1 l2 l3 g139) else (some (false, g139))))))))))) | 10 => (gdI (l3 + (1 : Int32)) sL (gdI (l3 + (2 : Int32)) sL (bd (f_X11_mood l1 (sX (l3 + (1 : Int32)).toNatClampNeg) (sX (l3 + (2 : Int32)).toNatClampNeg) g) (fun v145 g146 => gdI (l3 + (1 : Int32)) sL (gdI (l3 + (2 : Int32)) sL (bd (f_X12_mood l2 (sX (l3 + (1 : Int32)).toNatClampNeg) (sX (l3 + (2 : Int32)).toNatClampNeg) g146) (fun v151 g152 => if v145 = v151 then (f_L_law_1817 sL sX (f_L_law_18 sL sX n) l1 l2 l3 g152) else (some (false, g152))))))))) | 11 => (gdI (l3 + (1 : Int32)) sL (bd (f_X11_undo l1 (sX (l3 + (1 : Int32)).toNatClampNeg) g) (fun v157 g158 => gdI (l3 + (1 : Int32)) sL (bd (f_X12_undo l2 (sX (l3 + (1 : Int32)).toNatClampNeg) g158) (fun v162 g163 => if v157 = v162 then (f_L_law_1817 sL sX (f_L_law_18 sL sX n) l1 l2 l3 g163) else (some (false, g163))))))) | 12 => (gdI (l3 + (1 : Int32)) sL (gdI (l3 + (2 : Int32)) sL (bd (f_X11_judge l1 (sX (l3 + (1 : Int32)).toNatClampNeg) (sX (l3 + (2 : Int32)).toNatClampNeg) g) (fun v169 g170 => gdI (l3 + (1 : Int32)) sL (gdI (l3 + (2 : Int32)) sL (bd (f_X12_judge l2 (sX (l3 + (1 : Int32)).toNatClampNeg) (sX (l3 + (2 : Int32)).toNatClampNeg) g170) (fun v175 g176 => if v169 = v175 then (f_L_law_1817 sL sX (f_L_law_18 sL sX n) l1 l2 l3 g176) else (some (false, g176))))))))) | 13 => (gdI (l3 + (1 : Int32)) sL (bd (f_X11_perform l1 (sX (l3 + (1 : Int32)).toNatClampNeg) g) (fun v181 g182 => gdI (l3 + (1 : Int32)) sL (bd (f_X12_perform l2 (sX (l3 + (1 : Int32)).toNatClampNeg) g182) (fun v186 g187 => if v181 = v186 then (f_L_law_1817 sL sX (f_L_law_18 sL sX n) l1 l2 l3 g187) else (some (false, g187))))))) | 14 => (gdI (l3 + (1 : Int32)) sL (gdI (l3 + (2 : Int32)) sL (bd (f_X11_day l1 (sX (l3 + (1 : Int32)).toNatClampNeg) (sX (l3 + (2 : Int32)).toNatClampNeg) g) (fun v193 g194 => gdI (l3 + (1 : Int32)) sL (gdI (l3 + (2 : Int32)) sL (bd (f_X12_day l2 (sX (l3 + (1 : Int32)).toNatClampNeg) (sX (l3 + (2 : Int32)).toNatClampNeg) g194) (fun v199 g200 => if v193 = v199 then (f_L_law_1817 sL sX (f_L_law_18 sL sX n) l1 l2 l3 g200) else (some (false, g200))))))))) | 15 => (gdI (l3 + (1 : Int32)) sL (gdI (l3 + (2 : Int32)) sL (gdI (l3 + (3 : Int32)) sL (bd (f_X11_soonest l1 (sX (l3 + (1 : Int32)).toNatClampNeg) (sX (l3 + (2 : Int32)).toNatClampNeg) (sX (l3 + (3 : Int32)).toNatClampNeg) g) (fun v207 g208 => gdI (l3 + (1 : Int32)) sL (gdI (l3 + (2 : Int32)) sL (gdI (l3 + (3 : Int32)) sL (bd (f_X12_soonest l2 (sX (l3 + (1 : Int32)).toNatClampNeg) (sX (l3 + (2 : Int32)).toNatClampNeg) (sX (l3 + (3 : Int32)).toNatClampNeg) g208) (fun v214 g215 => if v207 = v214 then (f_L_law_1817 sL sX (f_L_law_18 sL sX n) l1 l2 l3 g215) else (some (false, g215))))))))))) | 16 => (gdI (l3 + (1 : Int32)) sL (gdI (l3 + (2 : Int32)) sL (gdI (l3 + (3 : Int32)) sL (gdI (l3 + (4 : Int32)) sL (bd (f_X11_way l1 (sX (l3 + (1 : Int32)).toNatClampNeg) (sX (l3 + (2 : Int32)).toNatClampNeg) (sX (l3 + (3 : Int32)).toNatClampNeg) (sX (l3 + (4 : Int32)).toNatClampNeg) g) (fun v223 g224 => gdI (l3 + (1 : Int32)) sL (gdI (l3 + (2 : Int32)) sL (gdI (l3 + (3 : Int32)) sL (gdI (l3 + (4 : Int32)) sL (bd (f_X12_way l2 (sX (l3 + (1 : Int32)).toNatClampNeg) (sX (l3 + (2 : Int32)).toNatClampNeg) (sX (l3 + (3 : Int32)).toNatClampNeg) (sX (l3 + (4 : Int32)).toNatClampNeg) g224) (fun v231 g232 => if v223 = v231 then (f_L_law_1817 sL sX (f_L_law_18 sL sX n) l1 l2 l3 g232) else (some (false, g232))))))))))))) | 17 => (gdI (l3 + (1 : Int32)) sL (gdI (l3 + (2 : Int32)) sL (gdI (l3 + (3 : Int32)) sL (bd (f_X11_cheapest l1 (sX (l3 + (1 : Int32)).toNatClampNeg) (sX (l3 + (2 : Int32)).toNatClampNeg) (sX (l3 + (3 : Int32)).toNatClampNeg) g) (fun v239 g240 => gdI (l3 + (1 : Int32)) sL (gdI (l3 + (2 : Int32)) sL (gdI (l3 + (3 : Int32)) sL (bd (f_X12_cheapest l2 (sX (l3 + (1 : Int32)).toNatClampNeg) (sX (l3 + (2 : Int32)).toNatClampNeg) (sX (l3 + (3 : Int32)).toNatClampNeg) g240) (fun v246 g247 => if v239 = v246 then (f_L_law_1817 sL sX (f_L_law_18 sL sX n) l1 l2 l3 g247) else (some (false, g247))))))))))) | 18 => (gdI (l3 + (1 : Int32)) sL (gdI (l3 + (2 : Int32)) sL (gdI (l3 + (3 : Int32)) sL (gdI (l3 + (4 : Int32)) sL (bd (f_X11_cheapWay l1 (sX (l3 + (1 : Int32)).toNatClampNeg) (sX (l3 + (2 : Int32)).toNatClampNeg) (sX (l3 + (3 : Int32)).toNatClampNeg) (sX (l3 + (4 : Int32)).toNatClampNeg) g) (fun v255 g256 => gdI (l3 + (1 : Int32)) sL (gdI (l3 + (2 : Int32)) sL (gdI (l3 + (3 : Int32)) sL (gdI (l3 + (4 : Int32)) sL (bd (f_X12_cheapWay l2 (sX (l3 + (1 : Int32)).toNatClampNeg) (sX (l3 + (2 : Int32)).toNatClampNeg) (sX (l3 + (3 : Int32)).toNatClampNeg) (sX (l3 + (4 : Int32)).toNatClampNeg) g256) (fun v263 g264 => if v255 = v263 then (f_L_law_1817 sL sX (f_L_law_18 sL sX n) l1 l2 l3 g264) else (some (false, g264))))))))))))) | 19 => (gdI (l3 + (1 : Int32)) sL (gdI (l3 + (2 : Int32)) sL (gdI (l3 + (3 : Int32)) sL (gdI (l3 + (4 : Int32)) sL (bd (f_X11_rows l1 (sX (l3 + (1 : Int32)).toNatClampNeg) (sX (l3 + (2 : Int32)).toNatClampNeg) (sX (l3 + (3 : Int32)).toNatClampNeg) (sX (l3 + (4 : Int32)).toNatClampNeg) g) (fun v272 g273 => gdI (l3 + (1 : Int32)) sL (gdI (l3 + (2 : Int32)) sL (gdI (l3 + (3 : Int32)) sL (gdI (l3 + (4 : Int32)) sL (bd (f_X12_rows l2 (sX (l3 + (1 : Int32)).toNatClampNeg) (sX (l3 + (2 : Int32)).toNatClampNeg) (sX (l3 + (3 : Int32)).toNatClampNeg) (sX (l3 + (4 : Int32)).toNatClampNeg) g273) (fun v280 g281 => if (lg_cmp v272 v280) = 0 then (f_L_law_1817 sL sX (f_L_law_18 sL sX n) l1 l2 l3 g281) else (some (false, g281))))))))))))) | 20 => (gdI (l3 + (1 : Int32)) sL (gdI (l3 + (2 : Int32)) sL (gdI (l3 + (3 : Int32)) sL (bd (f_X11_needed l1 (sX (l3 + (1 : Int32)).toNatClampNeg) (sX (l3 + (2 : Int32)).toNatClampNeg) (sX (l3 + (3 : Int32)).toNatClampNeg) g) (fun v288 g289 => gdI (l3 + (1 : Int32)) sL (gdI (l3 + (2 : Int32)) sL (gdI (l3 + (3 : Int32)) sL (bd (f_X12_needed l2 (sX (l3 + (1 : Int32)).toNatClampNeg) (sX (l3 + (2 : Int32)).toNatClampNeg) (sX (l3 + (3 : Int32)).toNatClampNeg) g289) (fun v295 g296 => if (lg_cmp v288 v295) = 0 then (f_L_law_1817 sL sX (f_L_law_18 sL sX n) l1 l2 l3 g296) else (some (false, g296))))))))))) | 21 => (gdI (l3 + (1 : Int32)) sL (bd (f_X11_errands l1 (sX (l3 + (1 : Int32)).toNatClampNeg) g) (fun v301 g302 => gdI (l3 + (1 : Int32)) sL (bd (f_X12_errands l2 (sX (l3 + (1 : Int32)).toNatClampNeg) g302) (fun v306 g307 => if v301 = v306 then (f_L_law_1817 sL sX (f_L_law_18 sL sX n) l1 l2 l3 g307) else (some (false, g307))))))) | 22 => (gdI (l3 + (1 : Int32)) sL (gdI (l3 + (2 : Int32)) sL (bd (f_X11_errandWay l1 (sX (l3 + (1 : Int32)).toNatClampNeg) (sX (l3 + (2 : Int32)).toNatClampNeg) g) (fun v313 g314 => gdI (l3 + (1 : Int32)) sL (gdI (l3 + (2 : Int32)) sL (bd (f_X12_errandWay l2 (sX (l3 + (1 : Int32)).toNatClampNeg) (sX (l3 + (2 : Int32)).toNatClampNeg) g314) (fun v319 g320 => if v313 = v319 then (f_L_law_1817 sL sX (f_L_law_18 sL sX n) l1 l2 l3 g320) else (some (false, g320))))))))) | 23 => (gdI (l3 + (1 : Int32)) sL (gdI (l3 + (2 : Int32)) sL (bd (f_X11_reach l1 (sX (l3 + (1 : Int32)).toNatClampNeg) (sX (l3 + (2 : Int32)).toNatClampNeg) g) (fun v326 g327 => gdI (l3 + (1 : Int32)) sL (gdI (l3 + (2 : Int32)) sL (bd (f_X12_reach l2 (sX (l3 + (1 : Int32)).toNatClampNeg) (sX (l3 + (2 : Int32)).toNatClampNeg) g327) (fun v332 g333 => if (lg_cmp v326 v332) = 0 then (f_L_law_1817 sL sX (f_L_law_18 sL sX n) l1 l2 l3 g333) else (some (false, g333))))))))) | 24 => (gdI (l3 + (1 : Int32)) sL (bd (f_X11_stands l1 (sX (l3 + (1 : Int32)).toNatClampNeg) g) (fun v338 g339 => gdI (l3 + (1 : Int32)) sL (bd (f_X12_stands l2 (sX (l3 + (1 : Int32)).toNatClampNeg) g339) (fun v343 g344 => if v338 = v343 then (f_L_law_1817 sL sX (f_L_law_18 sL sX n) l1 l2 l3 g344) else (some (false, g344))))))) | 25 => (gdI (l3 + (1 : Int32)) sL (gdI (l3 + (2 : Int32)) sL (bd (f_X11_farthest l1 (sX (l3 + (1 : Int32)).toNatClampNeg) (sX (l3 + (2 : Int32)).toNatClampNeg) g) (fun v350 g351 => gdI (l3 + (1 : Int32)) sL (gdI (l3 + (2 : Int32)) sL (bd (f_X12_farthest l2 (sX (l3 + (1 : Int32)).toNatClampNeg) (sX (l3 + (2 : Int32)).toNatClampNeg) g351) (fun v356 g357 => if v350 = v356 then (f_L_law_1817 sL sX (f_L_law_18 sL sX n) l1 l2 l3 g357) else (some (false, g357))))))))) | 26 => (gdI (l3 + (1 : Int32)) sL (gdI (l3 + (2 : Int32)) sL (bd (f_X11_round l1 (sX (l3 + (1 : Int32)).toNatClampNeg) (sX (l3 + (2 : Int32)).toNatClampNeg) g) (fun v363 g364 => gdI (l3 + (1 : Int32)) sL (gdI (l3 + (2 : Int32)) sL (bd (f_X12_round l2 (sX (l3 + (1 : Int32)).toNatClampNeg) (sX (l3 + (2 : Int32)).toNatClampNeg) g364) (fun v369 g370 => if (lg_cmp v363 v369) = 0 then (f_L_law_1817 sL sX (f_L_law_18 sL sX n) l1 l2 l3 g370) else (some (false, g370))))))))) | 27 => (gdI (l3 + (1 : Int32)) sL (gdI (l3 + (2 : Int32)) sL (bd (f_X11_spans l1 (sX (l3 + (1 : Int32)).toNatClampNeg) (sX (l3 + (2 : Int32)).toNatClampNeg) g) (fun v376 g377 => gdI (l3 + (1 : Int32)) sL (gdI (l3 + (2 : Int32)) sL (bd (f_X12_spans l2 (sX (l3 + (1 : Int32)).toNatClampNeg) (sX (l3 + (2 : Int32)).toNatClampNeg) g377) (fun v382 g383 => if v376 = v382 then (f_L_law_1817 sL sX (f_L_law_18 sL sX n) l1 l2 l3 g383) else (some (false, g383))))))))) | 28 => (gdI (l3 + (1 : Int32)) sL (gdI (l3 + (2 : Int32)) sL (bd (f_X11_forces l1 (sX (l3 + (1 : Int32)).toNatClampNeg) (sX (l3 + (2 : Int32)).toNatClampNeg) g) (fun v389 g390 => gdI (l3 + (1 : Int32)) sL (gdI (l3 + (2 : Int32)) sL (bd (f_X12_forces l2 (sX (l3 + (1 : Int32)).toNatClampNeg) (sX (l3 + (2 : Int32)).toNatClampNeg) g390) (fun v395 g396 => if v389 = v395 then (f_L_law_1817 sL sX (f_L_law_18 sL sX n) l1 l2 l3 g396) else (some (false, g396))))))))) | 29 => (gdI (l3 + (1 : Int32)) sL (gdI (l3 + (2 : Int32)) sL (bd (f_X11_best l1 (sX (l3 + (1 : Int32)).toNatClampNeg) (sX (l3 + (2 : Int32)).toNatClampNeg) g) (fun v402 g403 => gdI (l3 + (1 : Int32)) sL (gdI (l3 + (2 : Int32)) sL (bd (f_X12_best l2 (sX (l3 + (1 : Int32)).toNatClampNeg) (sX (l3 + (2 : Int32)).toNatClampNeg) g403) (fun v408 g409 => if v402 = v408 then (f_L_law_1817 sL sX (f_L_law_18 sL sX n) l1 l2 l3 g409) else (some (false, g409))))))))) | 30 => (gdI (l3 + (1 : Int32)) sL (bd (f_X11_power l1 (sX (l3 + (1 : Int32)).toNatClampNeg) g) (fun v414 g415 => gdI (l3 + (1 : Int32)) sL (bd (f_X12_power l2 (sX (l3 + (1 : Int32)).toNatClampNeg) g415) (fun v419 g420 => if (lg_cmp v414 v419) = 0 then (f_L_law_1817 sL sX (f_L_law_18 sL sX n) l1 l2 l3 g420) else (some (false, g420))))))) | 31 => (gdI (l3 + (1 : Int32)) sL (gdI (l3 + (2 : Int32)) sL (bd (f_X11_tried l1 (sX (l3 + (1 : Int32)).toNatClampNeg) (sX (l3 + (2 : Int32)).toNatClampNeg) g) (fun v426 g427 => gdI (l3 + (1 : Int32)) sL (gdI (l3 + (2 : Int32)) sL (bd (f_X12_tried l2 (sX (l3 + (1 : Int32)).toNatClampNeg) (sX (l3 + (2 : Int32)).toNatClampNeg) g427) (fun v432 g433 => if (lg_cmp v426 v432) = 0 then (f_L_law_1817 sL sX (f_L_law_18 sL sX n) l1 l2 l3 g433) else (some (false, g433))))))))) | 32 => (gdI (l3 + (1 : Int32)) sL (gdI (l3 + (2 : Int32)) sL (bd (f_X11_many l1 (sX (l3 + (1 : Int32)).toNatClampNeg) (sX (l3 + (2 : Int32)).toNatClampNeg) g) (fun v439 g440 => gdI (l3 + (1 : Int32)) sL (gdI (l3 + (2 : Int32)) sL (bd (f_X12_many l2 (sX (l3 + (1 : Int32)).toNatClampNeg) (sX (l3 + (2 : Int32)).toNatClampNeg) g440) (fun v445 g446 => if v439 = v445 then (f_L_law_1817 sL sX (f_L_law_18 sL sX n) l1 l2 l3 g446) else (some (false, g446))))))))) | 33 => (gdI (l3 + (1 : Int32)) sL (gdI (l3 + (2 : Int32)) sL (bd (f_X11_attempt l1 (sX (l3 + (1 : Int32)).toNatClampNeg) (sX (l3 + (2 : Int32)).toNatClampNeg) g) (fun v452 g453 => gdI (l3 + (1 : Int32)) sL (gdI (l3 + (2 : Int32)) sL (bd (f_X12_attempt l2 (sX (l3 + (1 : Int32)).toNatClampNeg) (sX (l3 + (2 : Int32)).toNatClampNeg) g453) (fun v458 g459 => if v452 = v458 then (f_L_law_1817 sL sX (f_L_law_18 sL sX n) l1 l2 l3 g459) else (some (false, g459))))))))) | 34 => (gdI (l3 + (1 : Int32)) sL (gdI (l3 + (2 : Int32)) sL (bd (f_X11_moods l1 (sX (l3 + (1 : Int32)).toNatClampNeg) (sX (l3 + (2 : Int32)).toNatClampNeg) g) (fun v465 g466 => gdI (l3 + (1 : Int32)) sL (gdI (l3 + (2 : Int32)) sL (bd (f_X12_moods l2 (sX (l3 + (1 : Int32)).toNatClampNeg) (sX (l3 + (2 : Int32)).toNatClampNeg) g466) (fun v471 g472 => if v465 = v471 then (f_L_law_1817 sL sX (f_L_law_18 sL sX n) l1 l2 l3 g472) else (some (false, g472))))))))) | 35 => (gdI (l3 + (1 : Int32)) sL (gdI (l3 + (2 : Int32)) sL (gdI (l3 + (3 : Int32)) sL (gdI (l3 + (4 : Int32)) sL (gdI (l3 + (5 : Int32)) sL (bd (f_X11_chance l1 (sX (l3 + (1 : Int32)).toNatClampNeg) (sX (l3 + (2 : Int32)).toNatClampNeg) (sX (l3 + (3 : Int32)).toNatClampNeg) (sX (l3 + (4 : Int32)).toNatClampNeg) (sX (l3 + (5 : Int32)).toNatClampNeg) g) (fun v481 g482 => gdI (l3 + (1 : Int32)) sL (gdI (l3 + (2 : Int32)) sL (gdI (l3 + (3 : Int32)) sL (gdI (l3 + (4 : Int32)) sL (gdI (l3 + (5 : Int32)) sL (bd (f_X12_chance l2 (sX (l3 + (1 : Int32)).toNatClampNeg) (sX (l3 + (2 : Int32)).toNatClampNeg) (sX (l3 + (3 : Int32)).toNatClampNeg) (sX (l3 + (4 : Int32)).toNatClampNeg) (sX (l3 + (5 : Int32)).toNatClampNeg) g482) (fun v490 g491 => if (lg_cmp v481 v490) = 0 then (f_L_law_1817 sL sX (f_L_law_18 sL sX n) l1 l2 l3 g491) else (some (false, g491))))))))))))))) | 36 => (gdI (l3 + (1 : Int32)) sL (gdI (l3 + (2 : Int32)) sL (gdI (l3 + (3 : Int32)) sL (bd (f_X11_likeliest l1 (sX (l3 + (1 : Int32)).toNatClampNeg) (sX (l3 + (2 : Int32)).toNatClampNeg) (sX (l3 + (3 : Int32)).toNatClampNeg) g) (fun v498 g499 => gdI (l3 + (1 : Int32)) sL (gdI (l3 + (2 : Int32)) sL (gdI (l3 + (3 : Int32)) sL (bd (f_X12_likeliest l2 (sX (l3 + (1 : Int32)).toNatClampNeg) (sX (l3 + (2 : Int32)).toNatClampNeg) (sX (l3 + (3 : Int32)).toNatClampNeg) g499) (fun v505 g506 => if v498 = v505 then (f_L_law_1817 sL sX (f_L_law_18 sL sX n) l1 l2 l3 g506) else (some (false, g506))))))))))) | 37 => (gdI (l3 + (1 : Int32)) sL (gdI (l3 + (2 : Int32)) sL (gdI (l3 + (3 : Int32)) sL (bd (f_X11_numbers l1 (sX (l3 + (1 : Int32)).toNatClampNeg) (sX (l3 + (2 : Int32)).toNatClampNeg) (sX (l3 + (3 : Int32)).toNatClampNeg) g) (fun v513 g514 => gdI (l3 + (1 : Int32)) sL (gdI (l3 + (2 : Int32)) sL (gdI (l3 + (3 : Int32)) sL (bd (f_X12_numbers l2 (sX (l3 + (1 : Int32)).toNatClampNeg) (sX (l3 + (2 : Int32)).toNatClampNeg) (sX (l3 + (3 : Int32)).toNatClampNeg) g514) (fun v520 g521 => if v513 = v520 then (f_L_law_1817 sL sX (f_L_law_18 sL sX n) l1 l2 l3 g521) else (some (false, g521))))))))))) | 38 => (gdI (l3 + (1 : Int32)) sL (gdI (l3 + (2 : Int32)) sL (gdI (l3 + (3 : Int32)) sL (gdI (l3 + (4 : Int32)) sL (bd (f_X11_write l1 (sX (l3 + (1 : Int32)).toNatClampNeg) (sX (l3 + (2 : Int32)).toNatClampNeg) ((((sX (l3 + (3 : Int32)).toNatClampNeg).toInt64) <<< ((32 : Int32).toInt64 &&& 63)) ||| (((sX (l3 + (4 : Int32)).toNatClampNeg).toInt64) &&& (4294967295 : Int64))) g) (fun v529 g530 => gdI (l3 + (1 : Int32)) sL (gdI (l3 + (2 : Int32)) sL (gdI (l3 + (3 : Int32)) sL (gdI (l3 + (4 : Int32)) sL (bd (f_X12_write l2 (sX (l3 + (1 : Int32)).toNatClampNeg) (sX (l3 + (2 : Int32)).toNatClampNeg) ((((sX (l3 + (3 : Int32)).toNatClampNeg).toInt64) <<< ((32 : Int32).toInt64 &&& 63)) ||| (((sX (l3 + (4 : Int32)).toNatClampNeg).toInt64) &&& (4294967295 : Int64))) g530) (fun v537 g538 => if (lg_cmp v529 v537) = 0 then (f_L_law_1817 sL sX (f_L_law_18 sL sX n) l1 l2 l3 g538) else (some (false, g538))))))))))))) | 39 => (gdI (l3 + (1 : Int32)) sL (gdI (l3 + (2 : Int32)) sL (gdI (l3 + (3 : Int32)) sL (gdI (l3 + (4 : Int32)) sL (bd (f_X11_lists l1 (sX (l3 + (1 : Int32)).toNatClampNeg) (sX (l3 + (2 : Int32)).toNatClampNeg) (sX (l3 + (3 : Int32)).toNatClampNeg) (sX (l3 + (4 : Int32)).toNatClampNeg) g) (fun v546 g547 => gdI (l3 + (1 : Int32)) sL (gdI (l3 + (2 : Int32)) sL (gdI (l3 + (3 : Int32)) sL (gdI (l3 + (4 : Int32)) sL (bd (f_X12_lists l2 (sX (l3 + (1 : Int32)).toNatClampNeg) (sX (l3 + (2 : Int32)).toNatClampNeg) (sX (l3 + (3 : Int32)).toNatClampNeg) (sX (l3 + (4 : Int32)).toNatClampNeg) g547) (fun v554 g555 => if v546 = v554 then (f_L_law_1817 sL sX (f_L_law_18 sL sX n) l1 l2 l3 g555) else (some (false, g555))))))))))))) | 40 => (gdI (l3 + (1 : Int32)) sL (bd (f_X11_image l1 (sX (l3 + (1 : Int32)).toNatClampNeg) g) (fun v560 g561 => gdI (l3 + (1 : Int32)) sL (bd (f_X12_image l2 (sX (l3 + (1 : Int32)).toNatClampNeg) g561) (fun v565 g566 => if v560 = v565 then (f_L_law_1817 sL sX (f_L_law_18 sL sX n) l1 l2 l3 g566) else (some (false, g566))))))) | 41 => (gdI (l3 + (1 : Int32)) sL (bd (f_X11_restore l1 (sX (l3 + (1 : Int32)).toNatClampNeg) g) (fun v571 g572 => gdI (l3 + (1 : Int32)) sL (bd (f_X12_restore l2 (sX (l3 + (1 : Int32)).toNatClampNeg) g572) (fun v576 g577 => if v571 = v576 then (f_L_law_1817 sL sX (f_L_law_18 sL sX n) l1 l2 l3 g577) else (some (false, g577))))))) | 42 => (gdI (l3 + (1 : Int32)) sL (bd (f_X11_count l1 (sX (l3 + (1 : Int32)).toNatClampNeg) g) (fun v582 g583 => gdI (l3 + (1 : Int32)) sL (bd (f_X12_count l2 (sX (l3 + (1 : Int32)).toNatClampNeg) g583) (fun v587 g588 => if v582 = v587 then (f_L_law_1817 sL sX (f_L_law_18 sL sX n) l1 l2 l3 g588) else (some (false, g588))))))) | _ => (f_L_law_1817 sL sX (f_L_law_18 sL sX n) l1 l2 l3 g))))
def f_L_law (sL : Nat) (sX : Nat → Int32) (g : G) : Option (Bool × G) :=
  lg (nw g 11 0 18) (fun g1 => ln (gn g) (fun a3 => bd (f_X11_init a3 g1) (fun v6 g7 => lg (nw g7 12 0 36) (fun g10 => ln (gn g7) (fun a12 => bd (f_X12_init a12 g10) (fun v15 g16 => f_L_law_18 sL sX FU a3 a12 (0 : Int32) g16))))))
