/-! literals -/
theorem lnge1 {j : Nat} (h : j < 1) : ¬ (1 : Int32) ≤ nI j := nI_ge (a := j) (b := 1) h (by decide)
theorem lle1 {j : Nat} (h : 1 ≤ j) (hj : j < 2 ^ 31) : (1 : Int32) ≤ nI j := nI_le (a := 1) (b := j) h hj
theorem llt1 {j : Nat} (h : j < 1) : nI j < (1 : Int32) := nI_lt (a := j) (b := 1) h (by decide)
theorem lnlt1 {j : Nat} (h : 1 ≤ j) (hj : j < 2 ^ 31) : ¬ nI j < (1 : Int32) := nI_nlt (a := j) (b := 1) h hj
theorem lgt1 {j : Nat} (h : 1 < j) (hj : j < 2 ^ 31) : (1 : Int32) < nI j := nI_lt (a := 1) (b := j) h hj
theorem lngt1 {j : Nat} (h : j ≤ 1) : ¬ (1 : Int32) < nI j := nI_nlt (a := 1) (b := j) h (by decide)
theorem leq1 {j : Nat} (hj : j < 2 ^ 31) : (nI j = (1 : Int32)) = (j = 1) := propext (nI_eq (b := 1) hj (by decide))
theorem lad1 (j : Nat) : nI j + (1 : Int32) = nI (j + 1) := nI_add j 1
theorem lda1 (j : Nat) : (1 : Int32) + nI j = nI (1 + j) := nI_add 1 j
theorem lmu1 (j : Nat) : nI j * (1 : Int32) = nI (j * 1) := pk_mul j 1
theorem lum1 (j : Nat) : (1 : Int32) * nI j = nI (1 * j) := pk_mul 1 j
theorem ldi1 {j : Nat} (hj : j < 2 ^ 31) : nI j / (1 : Int32) = nI (j / 1) := pk_div (d := 1) hj (by decide) (by decide)
theorem lmo1 (j : Nat) : nI j - nI (j / 1) * (1 : Int32) = nI (j % 1) := by
  rw [lmu1]
  exact nI_mod j 1
theorem lsu1 {j : Nat} (h : 1 ≤ j) : nI j - (1 : Int32) = nI (j - 1) := pk_sub (b := 1) h
theorem lnge2 {j : Nat} (h : j < 2) : ¬ (2 : Int32) ≤ nI j := nI_ge (a := j) (b := 2) h (by decide)
theorem lle2 {j : Nat} (h : 2 ≤ j) (hj : j < 2 ^ 31) : (2 : Int32) ≤ nI j := nI_le (a := 2) (b := j) h hj
theorem llt2 {j : Nat} (h : j < 2) : nI j < (2 : Int32) := nI_lt (a := j) (b := 2) h (by decide)
theorem lnlt2 {j : Nat} (h : 2 ≤ j) (hj : j < 2 ^ 31) : ¬ nI j < (2 : Int32) := nI_nlt (a := j) (b := 2) h hj
theorem lgt2 {j : Nat} (h : 2 < j) (hj : j < 2 ^ 31) : (2 : Int32) < nI j := nI_lt (a := 2) (b := j) h hj
theorem lngt2 {j : Nat} (h : j ≤ 2) : ¬ (2 : Int32) < nI j := nI_nlt (a := 2) (b := j) h (by decide)
theorem leq2 {j : Nat} (hj : j < 2 ^ 31) : (nI j = (2 : Int32)) = (j = 2) := propext (nI_eq (b := 2) hj (by decide))
theorem lad2 (j : Nat) : nI j + (2 : Int32) = nI (j + 2) := nI_add j 2
theorem lda2 (j : Nat) : (2 : Int32) + nI j = nI (2 + j) := nI_add 2 j
theorem lmu2 (j : Nat) : nI j * (2 : Int32) = nI (j * 2) := pk_mul j 2
theorem lum2 (j : Nat) : (2 : Int32) * nI j = nI (2 * j) := pk_mul 2 j
theorem ldi2 {j : Nat} (hj : j < 2 ^ 31) : nI j / (2 : Int32) = nI (j / 2) := pk_div (d := 2) hj (by decide) (by decide)
theorem lmo2 (j : Nat) : nI j - nI (j / 2) * (2 : Int32) = nI (j % 2) := by
  rw [lmu2]
  exact nI_mod j 2
theorem lsu2 {j : Nat} (h : 2 ≤ j) : nI j - (2 : Int32) = nI (j - 2) := pk_sub (b := 2) h
theorem lnge3 {j : Nat} (h : j < 3) : ¬ (3 : Int32) ≤ nI j := nI_ge (a := j) (b := 3) h (by decide)
theorem lle3 {j : Nat} (h : 3 ≤ j) (hj : j < 2 ^ 31) : (3 : Int32) ≤ nI j := nI_le (a := 3) (b := j) h hj
theorem llt3 {j : Nat} (h : j < 3) : nI j < (3 : Int32) := nI_lt (a := j) (b := 3) h (by decide)
theorem lnlt3 {j : Nat} (h : 3 ≤ j) (hj : j < 2 ^ 31) : ¬ nI j < (3 : Int32) := nI_nlt (a := j) (b := 3) h hj
theorem lgt3 {j : Nat} (h : 3 < j) (hj : j < 2 ^ 31) : (3 : Int32) < nI j := nI_lt (a := 3) (b := j) h hj
theorem lngt3 {j : Nat} (h : j ≤ 3) : ¬ (3 : Int32) < nI j := nI_nlt (a := 3) (b := j) h (by decide)
theorem leq3 {j : Nat} (hj : j < 2 ^ 31) : (nI j = (3 : Int32)) = (j = 3) := propext (nI_eq (b := 3) hj (by decide))
theorem lad3 (j : Nat) : nI j + (3 : Int32) = nI (j + 3) := nI_add j 3
theorem lda3 (j : Nat) : (3 : Int32) + nI j = nI (3 + j) := nI_add 3 j
theorem lmu3 (j : Nat) : nI j * (3 : Int32) = nI (j * 3) := pk_mul j 3
theorem lum3 (j : Nat) : (3 : Int32) * nI j = nI (3 * j) := pk_mul 3 j
theorem ldi3 {j : Nat} (hj : j < 2 ^ 31) : nI j / (3 : Int32) = nI (j / 3) := pk_div (d := 3) hj (by decide) (by decide)
theorem lmo3 (j : Nat) : nI j - nI (j / 3) * (3 : Int32) = nI (j % 3) := by
  rw [lmu3]
  exact nI_mod j 3
theorem lsu3 {j : Nat} (h : 3 ≤ j) : nI j - (3 : Int32) = nI (j - 3) := pk_sub (b := 3) h
theorem lnge4 {j : Nat} (h : j < 4) : ¬ (4 : Int32) ≤ nI j := nI_ge (a := j) (b := 4) h (by decide)
theorem lle4 {j : Nat} (h : 4 ≤ j) (hj : j < 2 ^ 31) : (4 : Int32) ≤ nI j := nI_le (a := 4) (b := j) h hj
theorem llt4 {j : Nat} (h : j < 4) : nI j < (4 : Int32) := nI_lt (a := j) (b := 4) h (by decide)
theorem lnlt4 {j : Nat} (h : 4 ≤ j) (hj : j < 2 ^ 31) : ¬ nI j < (4 : Int32) := nI_nlt (a := j) (b := 4) h hj
theorem lgt4 {j : Nat} (h : 4 < j) (hj : j < 2 ^ 31) : (4 : Int32) < nI j := nI_lt (a := 4) (b := j) h hj
theorem lngt4 {j : Nat} (h : j ≤ 4) : ¬ (4 : Int32) < nI j := nI_nlt (a := 4) (b := j) h (by decide)
theorem leq4 {j : Nat} (hj : j < 2 ^ 31) : (nI j = (4 : Int32)) = (j = 4) := propext (nI_eq (b := 4) hj (by decide))
theorem lad4 (j : Nat) : nI j + (4 : Int32) = nI (j + 4) := nI_add j 4
theorem lda4 (j : Nat) : (4 : Int32) + nI j = nI (4 + j) := nI_add 4 j
theorem lmu4 (j : Nat) : nI j * (4 : Int32) = nI (j * 4) := pk_mul j 4
theorem lum4 (j : Nat) : (4 : Int32) * nI j = nI (4 * j) := pk_mul 4 j
theorem ldi4 {j : Nat} (hj : j < 2 ^ 31) : nI j / (4 : Int32) = nI (j / 4) := pk_div (d := 4) hj (by decide) (by decide)
theorem lmo4 (j : Nat) : nI j - nI (j / 4) * (4 : Int32) = nI (j % 4) := by
  rw [lmu4]
  exact nI_mod j 4
theorem lsu4 {j : Nat} (h : 4 ≤ j) : nI j - (4 : Int32) = nI (j - 4) := pk_sub (b := 4) h
theorem lnge5 {j : Nat} (h : j < 5) : ¬ (5 : Int32) ≤ nI j := nI_ge (a := j) (b := 5) h (by decide)
theorem lle5 {j : Nat} (h : 5 ≤ j) (hj : j < 2 ^ 31) : (5 : Int32) ≤ nI j := nI_le (a := 5) (b := j) h hj
theorem llt5 {j : Nat} (h : j < 5) : nI j < (5 : Int32) := nI_lt (a := j) (b := 5) h (by decide)
theorem lnlt5 {j : Nat} (h : 5 ≤ j) (hj : j < 2 ^ 31) : ¬ nI j < (5 : Int32) := nI_nlt (a := j) (b := 5) h hj
theorem lgt5 {j : Nat} (h : 5 < j) (hj : j < 2 ^ 31) : (5 : Int32) < nI j := nI_lt (a := 5) (b := j) h hj
theorem lngt5 {j : Nat} (h : j ≤ 5) : ¬ (5 : Int32) < nI j := nI_nlt (a := 5) (b := j) h (by decide)
theorem leq5 {j : Nat} (hj : j < 2 ^ 31) : (nI j = (5 : Int32)) = (j = 5) := propext (nI_eq (b := 5) hj (by decide))
theorem lad5 (j : Nat) : nI j + (5 : Int32) = nI (j + 5) := nI_add j 5
theorem lda5 (j : Nat) : (5 : Int32) + nI j = nI (5 + j) := nI_add 5 j
theorem lmu5 (j : Nat) : nI j * (5 : Int32) = nI (j * 5) := pk_mul j 5
theorem lum5 (j : Nat) : (5 : Int32) * nI j = nI (5 * j) := pk_mul 5 j
theorem ldi5 {j : Nat} (hj : j < 2 ^ 31) : nI j / (5 : Int32) = nI (j / 5) := pk_div (d := 5) hj (by decide) (by decide)
theorem lmo5 (j : Nat) : nI j - nI (j / 5) * (5 : Int32) = nI (j % 5) := by
  rw [lmu5]
  exact nI_mod j 5
theorem lsu5 {j : Nat} (h : 5 ≤ j) : nI j - (5 : Int32) = nI (j - 5) := pk_sub (b := 5) h
theorem lnge6 {j : Nat} (h : j < 6) : ¬ (6 : Int32) ≤ nI j := nI_ge (a := j) (b := 6) h (by decide)
theorem lle6 {j : Nat} (h : 6 ≤ j) (hj : j < 2 ^ 31) : (6 : Int32) ≤ nI j := nI_le (a := 6) (b := j) h hj
theorem llt6 {j : Nat} (h : j < 6) : nI j < (6 : Int32) := nI_lt (a := j) (b := 6) h (by decide)
theorem lnlt6 {j : Nat} (h : 6 ≤ j) (hj : j < 2 ^ 31) : ¬ nI j < (6 : Int32) := nI_nlt (a := j) (b := 6) h hj
theorem lgt6 {j : Nat} (h : 6 < j) (hj : j < 2 ^ 31) : (6 : Int32) < nI j := nI_lt (a := 6) (b := j) h hj
theorem lngt6 {j : Nat} (h : j ≤ 6) : ¬ (6 : Int32) < nI j := nI_nlt (a := 6) (b := j) h (by decide)
theorem leq6 {j : Nat} (hj : j < 2 ^ 31) : (nI j = (6 : Int32)) = (j = 6) := propext (nI_eq (b := 6) hj (by decide))
theorem lad6 (j : Nat) : nI j + (6 : Int32) = nI (j + 6) := nI_add j 6
theorem lda6 (j : Nat) : (6 : Int32) + nI j = nI (6 + j) := nI_add 6 j
theorem lmu6 (j : Nat) : nI j * (6 : Int32) = nI (j * 6) := pk_mul j 6
theorem lum6 (j : Nat) : (6 : Int32) * nI j = nI (6 * j) := pk_mul 6 j
theorem ldi6 {j : Nat} (hj : j < 2 ^ 31) : nI j / (6 : Int32) = nI (j / 6) := pk_div (d := 6) hj (by decide) (by decide)
theorem lmo6 (j : Nat) : nI j - nI (j / 6) * (6 : Int32) = nI (j % 6) := by
  rw [lmu6]
  exact nI_mod j 6
theorem lsu6 {j : Nat} (h : 6 ≤ j) : nI j - (6 : Int32) = nI (j - 6) := pk_sub (b := 6) h
theorem lnge8 {j : Nat} (h : j < 8) : ¬ (8 : Int32) ≤ nI j := nI_ge (a := j) (b := 8) h (by decide)
theorem lle8 {j : Nat} (h : 8 ≤ j) (hj : j < 2 ^ 31) : (8 : Int32) ≤ nI j := nI_le (a := 8) (b := j) h hj
theorem llt8 {j : Nat} (h : j < 8) : nI j < (8 : Int32) := nI_lt (a := j) (b := 8) h (by decide)
theorem lnlt8 {j : Nat} (h : 8 ≤ j) (hj : j < 2 ^ 31) : ¬ nI j < (8 : Int32) := nI_nlt (a := j) (b := 8) h hj
theorem lgt8 {j : Nat} (h : 8 < j) (hj : j < 2 ^ 31) : (8 : Int32) < nI j := nI_lt (a := 8) (b := j) h hj
theorem lngt8 {j : Nat} (h : j ≤ 8) : ¬ (8 : Int32) < nI j := nI_nlt (a := 8) (b := j) h (by decide)
theorem leq8 {j : Nat} (hj : j < 2 ^ 31) : (nI j = (8 : Int32)) = (j = 8) := propext (nI_eq (b := 8) hj (by decide))
theorem lad8 (j : Nat) : nI j + (8 : Int32) = nI (j + 8) := nI_add j 8
theorem lda8 (j : Nat) : (8 : Int32) + nI j = nI (8 + j) := nI_add 8 j
theorem lmu8 (j : Nat) : nI j * (8 : Int32) = nI (j * 8) := pk_mul j 8
theorem lum8 (j : Nat) : (8 : Int32) * nI j = nI (8 * j) := pk_mul 8 j
theorem ldi8 {j : Nat} (hj : j < 2 ^ 31) : nI j / (8 : Int32) = nI (j / 8) := pk_div (d := 8) hj (by decide) (by decide)
theorem lmo8 (j : Nat) : nI j - nI (j / 8) * (8 : Int32) = nI (j % 8) := by
  rw [lmu8]
  exact nI_mod j 8
theorem lsu8 {j : Nat} (h : 8 ≤ j) : nI j - (8 : Int32) = nI (j - 8) := pk_sub (b := 8) h
theorem lnge9 {j : Nat} (h : j < 9) : ¬ (9 : Int32) ≤ nI j := nI_ge (a := j) (b := 9) h (by decide)
theorem lle9 {j : Nat} (h : 9 ≤ j) (hj : j < 2 ^ 31) : (9 : Int32) ≤ nI j := nI_le (a := 9) (b := j) h hj
theorem llt9 {j : Nat} (h : j < 9) : nI j < (9 : Int32) := nI_lt (a := j) (b := 9) h (by decide)
theorem lnlt9 {j : Nat} (h : 9 ≤ j) (hj : j < 2 ^ 31) : ¬ nI j < (9 : Int32) := nI_nlt (a := j) (b := 9) h hj
theorem lgt9 {j : Nat} (h : 9 < j) (hj : j < 2 ^ 31) : (9 : Int32) < nI j := nI_lt (a := 9) (b := j) h hj
theorem lngt9 {j : Nat} (h : j ≤ 9) : ¬ (9 : Int32) < nI j := nI_nlt (a := 9) (b := j) h (by decide)
theorem leq9 {j : Nat} (hj : j < 2 ^ 31) : (nI j = (9 : Int32)) = (j = 9) := propext (nI_eq (b := 9) hj (by decide))
theorem lad9 (j : Nat) : nI j + (9 : Int32) = nI (j + 9) := nI_add j 9
theorem lda9 (j : Nat) : (9 : Int32) + nI j = nI (9 + j) := nI_add 9 j
theorem lmu9 (j : Nat) : nI j * (9 : Int32) = nI (j * 9) := pk_mul j 9
theorem lum9 (j : Nat) : (9 : Int32) * nI j = nI (9 * j) := pk_mul 9 j
theorem ldi9 {j : Nat} (hj : j < 2 ^ 31) : nI j / (9 : Int32) = nI (j / 9) := pk_div (d := 9) hj (by decide) (by decide)
theorem lmo9 (j : Nat) : nI j - nI (j / 9) * (9 : Int32) = nI (j % 9) := by
  rw [lmu9]
  exact nI_mod j 9
theorem lsu9 {j : Nat} (h : 9 ≤ j) : nI j - (9 : Int32) = nI (j - 9) := pk_sub (b := 9) h
theorem lnge10 {j : Nat} (h : j < 10) : ¬ (10 : Int32) ≤ nI j := nI_ge (a := j) (b := 10) h (by decide)
theorem lle10 {j : Nat} (h : 10 ≤ j) (hj : j < 2 ^ 31) : (10 : Int32) ≤ nI j := nI_le (a := 10) (b := j) h hj
theorem llt10 {j : Nat} (h : j < 10) : nI j < (10 : Int32) := nI_lt (a := j) (b := 10) h (by decide)
theorem lnlt10 {j : Nat} (h : 10 ≤ j) (hj : j < 2 ^ 31) : ¬ nI j < (10 : Int32) := nI_nlt (a := j) (b := 10) h hj
theorem lgt10 {j : Nat} (h : 10 < j) (hj : j < 2 ^ 31) : (10 : Int32) < nI j := nI_lt (a := 10) (b := j) h hj
theorem lngt10 {j : Nat} (h : j ≤ 10) : ¬ (10 : Int32) < nI j := nI_nlt (a := 10) (b := j) h (by decide)
theorem leq10 {j : Nat} (hj : j < 2 ^ 31) : (nI j = (10 : Int32)) = (j = 10) := propext (nI_eq (b := 10) hj (by decide))
theorem lad10 (j : Nat) : nI j + (10 : Int32) = nI (j + 10) := nI_add j 10
theorem lda10 (j : Nat) : (10 : Int32) + nI j = nI (10 + j) := nI_add 10 j
theorem lmu10 (j : Nat) : nI j * (10 : Int32) = nI (j * 10) := pk_mul j 10
theorem lum10 (j : Nat) : (10 : Int32) * nI j = nI (10 * j) := pk_mul 10 j
theorem ldi10 {j : Nat} (hj : j < 2 ^ 31) : nI j / (10 : Int32) = nI (j / 10) := pk_div (d := 10) hj (by decide) (by decide)
theorem lmo10 (j : Nat) : nI j - nI (j / 10) * (10 : Int32) = nI (j % 10) := by
  rw [lmu10]
  exact nI_mod j 10
theorem lsu10 {j : Nat} (h : 10 ≤ j) : nI j - (10 : Int32) = nI (j - 10) := pk_sub (b := 10) h
theorem lnge12 {j : Nat} (h : j < 12) : ¬ (12 : Int32) ≤ nI j := nI_ge (a := j) (b := 12) h (by decide)
theorem lle12 {j : Nat} (h : 12 ≤ j) (hj : j < 2 ^ 31) : (12 : Int32) ≤ nI j := nI_le (a := 12) (b := j) h hj
theorem llt12 {j : Nat} (h : j < 12) : nI j < (12 : Int32) := nI_lt (a := j) (b := 12) h (by decide)
theorem lnlt12 {j : Nat} (h : 12 ≤ j) (hj : j < 2 ^ 31) : ¬ nI j < (12 : Int32) := nI_nlt (a := j) (b := 12) h hj
theorem lgt12 {j : Nat} (h : 12 < j) (hj : j < 2 ^ 31) : (12 : Int32) < nI j := nI_lt (a := 12) (b := j) h hj
theorem lngt12 {j : Nat} (h : j ≤ 12) : ¬ (12 : Int32) < nI j := nI_nlt (a := 12) (b := j) h (by decide)
theorem leq12 {j : Nat} (hj : j < 2 ^ 31) : (nI j = (12 : Int32)) = (j = 12) := propext (nI_eq (b := 12) hj (by decide))
theorem lad12 (j : Nat) : nI j + (12 : Int32) = nI (j + 12) := nI_add j 12
theorem lda12 (j : Nat) : (12 : Int32) + nI j = nI (12 + j) := nI_add 12 j
theorem lmu12 (j : Nat) : nI j * (12 : Int32) = nI (j * 12) := pk_mul j 12
theorem lum12 (j : Nat) : (12 : Int32) * nI j = nI (12 * j) := pk_mul 12 j
theorem ldi12 {j : Nat} (hj : j < 2 ^ 31) : nI j / (12 : Int32) = nI (j / 12) := pk_div (d := 12) hj (by decide) (by decide)
theorem lmo12 (j : Nat) : nI j - nI (j / 12) * (12 : Int32) = nI (j % 12) := by
  rw [lmu12]
  exact nI_mod j 12
theorem lsu12 {j : Nat} (h : 12 ≤ j) : nI j - (12 : Int32) = nI (j - 12) := pk_sub (b := 12) h
theorem lnge15 {j : Nat} (h : j < 15) : ¬ (15 : Int32) ≤ nI j := nI_ge (a := j) (b := 15) h (by decide)
theorem lle15 {j : Nat} (h : 15 ≤ j) (hj : j < 2 ^ 31) : (15 : Int32) ≤ nI j := nI_le (a := 15) (b := j) h hj
theorem llt15 {j : Nat} (h : j < 15) : nI j < (15 : Int32) := nI_lt (a := j) (b := 15) h (by decide)
theorem lnlt15 {j : Nat} (h : 15 ≤ j) (hj : j < 2 ^ 31) : ¬ nI j < (15 : Int32) := nI_nlt (a := j) (b := 15) h hj
theorem lgt15 {j : Nat} (h : 15 < j) (hj : j < 2 ^ 31) : (15 : Int32) < nI j := nI_lt (a := 15) (b := j) h hj
theorem lngt15 {j : Nat} (h : j ≤ 15) : ¬ (15 : Int32) < nI j := nI_nlt (a := 15) (b := j) h (by decide)
theorem leq15 {j : Nat} (hj : j < 2 ^ 31) : (nI j = (15 : Int32)) = (j = 15) := propext (nI_eq (b := 15) hj (by decide))
theorem lad15 (j : Nat) : nI j + (15 : Int32) = nI (j + 15) := nI_add j 15
theorem lda15 (j : Nat) : (15 : Int32) + nI j = nI (15 + j) := nI_add 15 j
theorem lmu15 (j : Nat) : nI j * (15 : Int32) = nI (j * 15) := pk_mul j 15
theorem lum15 (j : Nat) : (15 : Int32) * nI j = nI (15 * j) := pk_mul 15 j
theorem ldi15 {j : Nat} (hj : j < 2 ^ 31) : nI j / (15 : Int32) = nI (j / 15) := pk_div (d := 15) hj (by decide) (by decide)
theorem lmo15 (j : Nat) : nI j - nI (j / 15) * (15 : Int32) = nI (j % 15) := by
  rw [lmu15]
  exact nI_mod j 15
theorem lsu15 {j : Nat} (h : 15 ≤ j) : nI j - (15 : Int32) = nI (j - 15) := pk_sub (b := 15) h
theorem lnge20 {j : Nat} (h : j < 20) : ¬ (20 : Int32) ≤ nI j := nI_ge (a := j) (b := 20) h (by decide)
theorem lle20 {j : Nat} (h : 20 ≤ j) (hj : j < 2 ^ 31) : (20 : Int32) ≤ nI j := nI_le (a := 20) (b := j) h hj
theorem llt20 {j : Nat} (h : j < 20) : nI j < (20 : Int32) := nI_lt (a := j) (b := 20) h (by decide)
theorem lnlt20 {j : Nat} (h : 20 ≤ j) (hj : j < 2 ^ 31) : ¬ nI j < (20 : Int32) := nI_nlt (a := j) (b := 20) h hj
theorem lgt20 {j : Nat} (h : 20 < j) (hj : j < 2 ^ 31) : (20 : Int32) < nI j := nI_lt (a := 20) (b := j) h hj
theorem lngt20 {j : Nat} (h : j ≤ 20) : ¬ (20 : Int32) < nI j := nI_nlt (a := 20) (b := j) h (by decide)
theorem leq20 {j : Nat} (hj : j < 2 ^ 31) : (nI j = (20 : Int32)) = (j = 20) := propext (nI_eq (b := 20) hj (by decide))
theorem lad20 (j : Nat) : nI j + (20 : Int32) = nI (j + 20) := nI_add j 20
theorem lda20 (j : Nat) : (20 : Int32) + nI j = nI (20 + j) := nI_add 20 j
theorem lmu20 (j : Nat) : nI j * (20 : Int32) = nI (j * 20) := pk_mul j 20
theorem lum20 (j : Nat) : (20 : Int32) * nI j = nI (20 * j) := pk_mul 20 j
theorem ldi20 {j : Nat} (hj : j < 2 ^ 31) : nI j / (20 : Int32) = nI (j / 20) := pk_div (d := 20) hj (by decide) (by decide)
theorem lmo20 (j : Nat) : nI j - nI (j / 20) * (20 : Int32) = nI (j % 20) := by
  rw [lmu20]
  exact nI_mod j 20
theorem lsu20 {j : Nat} (h : 20 ≤ j) : nI j - (20 : Int32) = nI (j - 20) := pk_sub (b := 20) h
theorem lnge36 {j : Nat} (h : j < 36) : ¬ (36 : Int32) ≤ nI j := nI_ge (a := j) (b := 36) h (by decide)
theorem lle36 {j : Nat} (h : 36 ≤ j) (hj : j < 2 ^ 31) : (36 : Int32) ≤ nI j := nI_le (a := 36) (b := j) h hj
theorem llt36 {j : Nat} (h : j < 36) : nI j < (36 : Int32) := nI_lt (a := j) (b := 36) h (by decide)
theorem lnlt36 {j : Nat} (h : 36 ≤ j) (hj : j < 2 ^ 31) : ¬ nI j < (36 : Int32) := nI_nlt (a := j) (b := 36) h hj
theorem lgt36 {j : Nat} (h : 36 < j) (hj : j < 2 ^ 31) : (36 : Int32) < nI j := nI_lt (a := 36) (b := j) h hj
theorem lngt36 {j : Nat} (h : j ≤ 36) : ¬ (36 : Int32) < nI j := nI_nlt (a := 36) (b := j) h (by decide)
theorem leq36 {j : Nat} (hj : j < 2 ^ 31) : (nI j = (36 : Int32)) = (j = 36) := propext (nI_eq (b := 36) hj (by decide))
theorem lad36 (j : Nat) : nI j + (36 : Int32) = nI (j + 36) := nI_add j 36
theorem lda36 (j : Nat) : (36 : Int32) + nI j = nI (36 + j) := nI_add 36 j
theorem lmu36 (j : Nat) : nI j * (36 : Int32) = nI (j * 36) := pk_mul j 36
theorem lum36 (j : Nat) : (36 : Int32) * nI j = nI (36 * j) := pk_mul 36 j
theorem ldi36 {j : Nat} (hj : j < 2 ^ 31) : nI j / (36 : Int32) = nI (j / 36) := pk_div (d := 36) hj (by decide) (by decide)
theorem lmo36 (j : Nat) : nI j - nI (j / 36) * (36 : Int32) = nI (j % 36) := by
  rw [lmu36]
  exact nI_mod j 36
theorem lsu36 {j : Nat} (h : 36 ≤ j) : nI j - (36 : Int32) = nI (j - 36) := pk_sub (b := 36) h
theorem lnge40 {j : Nat} (h : j < 40) : ¬ (40 : Int32) ≤ nI j := nI_ge (a := j) (b := 40) h (by decide)
theorem lle40 {j : Nat} (h : 40 ≤ j) (hj : j < 2 ^ 31) : (40 : Int32) ≤ nI j := nI_le (a := 40) (b := j) h hj
theorem llt40 {j : Nat} (h : j < 40) : nI j < (40 : Int32) := nI_lt (a := j) (b := 40) h (by decide)
theorem lnlt40 {j : Nat} (h : 40 ≤ j) (hj : j < 2 ^ 31) : ¬ nI j < (40 : Int32) := nI_nlt (a := j) (b := 40) h hj
theorem lgt40 {j : Nat} (h : 40 < j) (hj : j < 2 ^ 31) : (40 : Int32) < nI j := nI_lt (a := 40) (b := j) h hj
theorem lngt40 {j : Nat} (h : j ≤ 40) : ¬ (40 : Int32) < nI j := nI_nlt (a := 40) (b := j) h (by decide)
theorem leq40 {j : Nat} (hj : j < 2 ^ 31) : (nI j = (40 : Int32)) = (j = 40) := propext (nI_eq (b := 40) hj (by decide))
theorem lad40 (j : Nat) : nI j + (40 : Int32) = nI (j + 40) := nI_add j 40
theorem lda40 (j : Nat) : (40 : Int32) + nI j = nI (40 + j) := nI_add 40 j
theorem lmu40 (j : Nat) : nI j * (40 : Int32) = nI (j * 40) := pk_mul j 40
theorem lum40 (j : Nat) : (40 : Int32) * nI j = nI (40 * j) := pk_mul 40 j
theorem ldi40 {j : Nat} (hj : j < 2 ^ 31) : nI j / (40 : Int32) = nI (j / 40) := pk_div (d := 40) hj (by decide) (by decide)
theorem lmo40 (j : Nat) : nI j - nI (j / 40) * (40 : Int32) = nI (j % 40) := by
  rw [lmu40]
  exact nI_mod j 40
theorem lsu40 {j : Nat} (h : 40 ≤ j) : nI j - (40 : Int32) = nI (j - 40) := pk_sub (b := 40) h
theorem lnge64 {j : Nat} (h : j < 64) : ¬ (64 : Int32) ≤ nI j := nI_ge (a := j) (b := 64) h (by decide)
theorem lle64 {j : Nat} (h : 64 ≤ j) (hj : j < 2 ^ 31) : (64 : Int32) ≤ nI j := nI_le (a := 64) (b := j) h hj
theorem llt64 {j : Nat} (h : j < 64) : nI j < (64 : Int32) := nI_lt (a := j) (b := 64) h (by decide)
theorem lnlt64 {j : Nat} (h : 64 ≤ j) (hj : j < 2 ^ 31) : ¬ nI j < (64 : Int32) := nI_nlt (a := j) (b := 64) h hj
theorem lgt64 {j : Nat} (h : 64 < j) (hj : j < 2 ^ 31) : (64 : Int32) < nI j := nI_lt (a := 64) (b := j) h hj
theorem lngt64 {j : Nat} (h : j ≤ 64) : ¬ (64 : Int32) < nI j := nI_nlt (a := 64) (b := j) h (by decide)
theorem leq64 {j : Nat} (hj : j < 2 ^ 31) : (nI j = (64 : Int32)) = (j = 64) := propext (nI_eq (b := 64) hj (by decide))
theorem lad64 (j : Nat) : nI j + (64 : Int32) = nI (j + 64) := nI_add j 64
theorem lda64 (j : Nat) : (64 : Int32) + nI j = nI (64 + j) := nI_add 64 j
theorem lmu64 (j : Nat) : nI j * (64 : Int32) = nI (j * 64) := pk_mul j 64
theorem lum64 (j : Nat) : (64 : Int32) * nI j = nI (64 * j) := pk_mul 64 j
theorem ldi64 {j : Nat} (hj : j < 2 ^ 31) : nI j / (64 : Int32) = nI (j / 64) := pk_div (d := 64) hj (by decide) (by decide)
theorem lmo64 (j : Nat) : nI j - nI (j / 64) * (64 : Int32) = nI (j % 64) := by
  rw [lmu64]
  exact nI_mod j 64
theorem lsu64 {j : Nat} (h : 64 ≤ j) : nI j - (64 : Int32) = nI (j - 64) := pk_sub (b := 64) h
theorem lnge100 {j : Nat} (h : j < 100) : ¬ (100 : Int32) ≤ nI j := nI_ge (a := j) (b := 100) h (by decide)
theorem lle100 {j : Nat} (h : 100 ≤ j) (hj : j < 2 ^ 31) : (100 : Int32) ≤ nI j := nI_le (a := 100) (b := j) h hj
theorem llt100 {j : Nat} (h : j < 100) : nI j < (100 : Int32) := nI_lt (a := j) (b := 100) h (by decide)
theorem lnlt100 {j : Nat} (h : 100 ≤ j) (hj : j < 2 ^ 31) : ¬ nI j < (100 : Int32) := nI_nlt (a := j) (b := 100) h hj
theorem lgt100 {j : Nat} (h : 100 < j) (hj : j < 2 ^ 31) : (100 : Int32) < nI j := nI_lt (a := 100) (b := j) h hj
theorem lngt100 {j : Nat} (h : j ≤ 100) : ¬ (100 : Int32) < nI j := nI_nlt (a := 100) (b := j) h (by decide)
theorem leq100 {j : Nat} (hj : j < 2 ^ 31) : (nI j = (100 : Int32)) = (j = 100) := propext (nI_eq (b := 100) hj (by decide))
theorem lad100 (j : Nat) : nI j + (100 : Int32) = nI (j + 100) := nI_add j 100
theorem lda100 (j : Nat) : (100 : Int32) + nI j = nI (100 + j) := nI_add 100 j
theorem lmu100 (j : Nat) : nI j * (100 : Int32) = nI (j * 100) := pk_mul j 100
theorem lum100 (j : Nat) : (100 : Int32) * nI j = nI (100 * j) := pk_mul 100 j
theorem ldi100 {j : Nat} (hj : j < 2 ^ 31) : nI j / (100 : Int32) = nI (j / 100) := pk_div (d := 100) hj (by decide) (by decide)
theorem lmo100 (j : Nat) : nI j - nI (j / 100) * (100 : Int32) = nI (j % 100) := by
  rw [lmu100]
  exact nI_mod j 100
theorem lsu100 {j : Nat} (h : 100 ≤ j) : nI j - (100 : Int32) = nI (j - 100) := pk_sub (b := 100) h
theorem lnge256 {j : Nat} (h : j < 256) : ¬ (256 : Int32) ≤ nI j := nI_ge (a := j) (b := 256) h (by decide)
theorem lle256 {j : Nat} (h : 256 ≤ j) (hj : j < 2 ^ 31) : (256 : Int32) ≤ nI j := nI_le (a := 256) (b := j) h hj
theorem llt256 {j : Nat} (h : j < 256) : nI j < (256 : Int32) := nI_lt (a := j) (b := 256) h (by decide)
theorem lnlt256 {j : Nat} (h : 256 ≤ j) (hj : j < 2 ^ 31) : ¬ nI j < (256 : Int32) := nI_nlt (a := j) (b := 256) h hj
theorem lgt256 {j : Nat} (h : 256 < j) (hj : j < 2 ^ 31) : (256 : Int32) < nI j := nI_lt (a := 256) (b := j) h hj
theorem lngt256 {j : Nat} (h : j ≤ 256) : ¬ (256 : Int32) < nI j := nI_nlt (a := 256) (b := j) h (by decide)
theorem leq256 {j : Nat} (hj : j < 2 ^ 31) : (nI j = (256 : Int32)) = (j = 256) := propext (nI_eq (b := 256) hj (by decide))
theorem lad256 (j : Nat) : nI j + (256 : Int32) = nI (j + 256) := nI_add j 256
theorem lda256 (j : Nat) : (256 : Int32) + nI j = nI (256 + j) := nI_add 256 j
theorem lmu256 (j : Nat) : nI j * (256 : Int32) = nI (j * 256) := pk_mul j 256
theorem lum256 (j : Nat) : (256 : Int32) * nI j = nI (256 * j) := pk_mul 256 j
theorem ldi256 {j : Nat} (hj : j < 2 ^ 31) : nI j / (256 : Int32) = nI (j / 256) := pk_div (d := 256) hj (by decide) (by decide)
theorem lmo256 (j : Nat) : nI j - nI (j / 256) * (256 : Int32) = nI (j % 256) := by
  rw [lmu256]
  exact nI_mod j 256
theorem lsu256 {j : Nat} (h : 256 ≤ j) : nI j - (256 : Int32) = nI (j - 256) := pk_sub (b := 256) h
theorem lnge400 {j : Nat} (h : j < 400) : ¬ (400 : Int32) ≤ nI j := nI_ge (a := j) (b := 400) h (by decide)
theorem lle400 {j : Nat} (h : 400 ≤ j) (hj : j < 2 ^ 31) : (400 : Int32) ≤ nI j := nI_le (a := 400) (b := j) h hj
theorem llt400 {j : Nat} (h : j < 400) : nI j < (400 : Int32) := nI_lt (a := j) (b := 400) h (by decide)
theorem lnlt400 {j : Nat} (h : 400 ≤ j) (hj : j < 2 ^ 31) : ¬ nI j < (400 : Int32) := nI_nlt (a := j) (b := 400) h hj
theorem lgt400 {j : Nat} (h : 400 < j) (hj : j < 2 ^ 31) : (400 : Int32) < nI j := nI_lt (a := 400) (b := j) h hj
theorem lngt400 {j : Nat} (h : j ≤ 400) : ¬ (400 : Int32) < nI j := nI_nlt (a := 400) (b := j) h (by decide)
theorem leq400 {j : Nat} (hj : j < 2 ^ 31) : (nI j = (400 : Int32)) = (j = 400) := propext (nI_eq (b := 400) hj (by decide))
theorem lad400 (j : Nat) : nI j + (400 : Int32) = nI (j + 400) := nI_add j 400
theorem lda400 (j : Nat) : (400 : Int32) + nI j = nI (400 + j) := nI_add 400 j
theorem lmu400 (j : Nat) : nI j * (400 : Int32) = nI (j * 400) := pk_mul j 400
theorem lum400 (j : Nat) : (400 : Int32) * nI j = nI (400 * j) := pk_mul 400 j
theorem ldi400 {j : Nat} (hj : j < 2 ^ 31) : nI j / (400 : Int32) = nI (j / 400) := pk_div (d := 400) hj (by decide) (by decide)
theorem lmo400 (j : Nat) : nI j - nI (j / 400) * (400 : Int32) = nI (j % 400) := by
  rw [lmu400]
  exact nI_mod j 400
theorem lsu400 {j : Nat} (h : 400 ≤ j) : nI j - (400 : Int32) = nI (j - 400) := pk_sub (b := 400) h
theorem lnge512 {j : Nat} (h : j < 512) : ¬ (512 : Int32) ≤ nI j := nI_ge (a := j) (b := 512) h (by decide)
theorem lle512 {j : Nat} (h : 512 ≤ j) (hj : j < 2 ^ 31) : (512 : Int32) ≤ nI j := nI_le (a := 512) (b := j) h hj
theorem llt512 {j : Nat} (h : j < 512) : nI j < (512 : Int32) := nI_lt (a := j) (b := 512) h (by decide)
theorem lnlt512 {j : Nat} (h : 512 ≤ j) (hj : j < 2 ^ 31) : ¬ nI j < (512 : Int32) := nI_nlt (a := j) (b := 512) h hj
theorem lgt512 {j : Nat} (h : 512 < j) (hj : j < 2 ^ 31) : (512 : Int32) < nI j := nI_lt (a := 512) (b := j) h hj
theorem lngt512 {j : Nat} (h : j ≤ 512) : ¬ (512 : Int32) < nI j := nI_nlt (a := 512) (b := j) h (by decide)
theorem leq512 {j : Nat} (hj : j < 2 ^ 31) : (nI j = (512 : Int32)) = (j = 512) := propext (nI_eq (b := 512) hj (by decide))
theorem lad512 (j : Nat) : nI j + (512 : Int32) = nI (j + 512) := nI_add j 512
theorem lda512 (j : Nat) : (512 : Int32) + nI j = nI (512 + j) := nI_add 512 j
theorem lmu512 (j : Nat) : nI j * (512 : Int32) = nI (j * 512) := pk_mul j 512
theorem lum512 (j : Nat) : (512 : Int32) * nI j = nI (512 * j) := pk_mul 512 j
theorem ldi512 {j : Nat} (hj : j < 2 ^ 31) : nI j / (512 : Int32) = nI (j / 512) := pk_div (d := 512) hj (by decide) (by decide)
theorem lmo512 (j : Nat) : nI j - nI (j / 512) * (512 : Int32) = nI (j % 512) := by
  rw [lmu512]
  exact nI_mod j 512
theorem lsu512 {j : Nat} (h : 512 ≤ j) : nI j - (512 : Int32) = nI (j - 512) := pk_sub (b := 512) h
theorem lnge900 {j : Nat} (h : j < 900) : ¬ (900 : Int32) ≤ nI j := nI_ge (a := j) (b := 900) h (by decide)
theorem lle900 {j : Nat} (h : 900 ≤ j) (hj : j < 2 ^ 31) : (900 : Int32) ≤ nI j := nI_le (a := 900) (b := j) h hj
theorem llt900 {j : Nat} (h : j < 900) : nI j < (900 : Int32) := nI_lt (a := j) (b := 900) h (by decide)
theorem lnlt900 {j : Nat} (h : 900 ≤ j) (hj : j < 2 ^ 31) : ¬ nI j < (900 : Int32) := nI_nlt (a := j) (b := 900) h hj
theorem lgt900 {j : Nat} (h : 900 < j) (hj : j < 2 ^ 31) : (900 : Int32) < nI j := nI_lt (a := 900) (b := j) h hj
theorem lngt900 {j : Nat} (h : j ≤ 900) : ¬ (900 : Int32) < nI j := nI_nlt (a := 900) (b := j) h (by decide)
theorem leq900 {j : Nat} (hj : j < 2 ^ 31) : (nI j = (900 : Int32)) = (j = 900) := propext (nI_eq (b := 900) hj (by decide))
theorem lad900 (j : Nat) : nI j + (900 : Int32) = nI (j + 900) := nI_add j 900
theorem lda900 (j : Nat) : (900 : Int32) + nI j = nI (900 + j) := nI_add 900 j
theorem lmu900 (j : Nat) : nI j * (900 : Int32) = nI (j * 900) := pk_mul j 900
theorem lum900 (j : Nat) : (900 : Int32) * nI j = nI (900 * j) := pk_mul 900 j
theorem ldi900 {j : Nat} (hj : j < 2 ^ 31) : nI j / (900 : Int32) = nI (j / 900) := pk_div (d := 900) hj (by decide) (by decide)
theorem lmo900 (j : Nat) : nI j - nI (j / 900) * (900 : Int32) = nI (j % 900) := by
  rw [lmu900]
  exact nI_mod j 900
theorem lsu900 {j : Nat} (h : 900 ≤ j) : nI j - (900 : Int32) = nI (j - 900) := pk_sub (b := 900) h
theorem lnge1024 {j : Nat} (h : j < 1024) : ¬ (1024 : Int32) ≤ nI j := nI_ge (a := j) (b := 1024) h (by decide)
theorem lle1024 {j : Nat} (h : 1024 ≤ j) (hj : j < 2 ^ 31) : (1024 : Int32) ≤ nI j := nI_le (a := 1024) (b := j) h hj
theorem llt1024 {j : Nat} (h : j < 1024) : nI j < (1024 : Int32) := nI_lt (a := j) (b := 1024) h (by decide)
theorem lnlt1024 {j : Nat} (h : 1024 ≤ j) (hj : j < 2 ^ 31) : ¬ nI j < (1024 : Int32) := nI_nlt (a := j) (b := 1024) h hj
theorem lgt1024 {j : Nat} (h : 1024 < j) (hj : j < 2 ^ 31) : (1024 : Int32) < nI j := nI_lt (a := 1024) (b := j) h hj
theorem lngt1024 {j : Nat} (h : j ≤ 1024) : ¬ (1024 : Int32) < nI j := nI_nlt (a := 1024) (b := j) h (by decide)
theorem leq1024 {j : Nat} (hj : j < 2 ^ 31) : (nI j = (1024 : Int32)) = (j = 1024) := propext (nI_eq (b := 1024) hj (by decide))
theorem lad1024 (j : Nat) : nI j + (1024 : Int32) = nI (j + 1024) := nI_add j 1024
theorem lda1024 (j : Nat) : (1024 : Int32) + nI j = nI (1024 + j) := nI_add 1024 j
theorem lmu1024 (j : Nat) : nI j * (1024 : Int32) = nI (j * 1024) := pk_mul j 1024
theorem lum1024 (j : Nat) : (1024 : Int32) * nI j = nI (1024 * j) := pk_mul 1024 j
theorem ldi1024 {j : Nat} (hj : j < 2 ^ 31) : nI j / (1024 : Int32) = nI (j / 1024) := pk_div (d := 1024) hj (by decide) (by decide)
theorem lmo1024 (j : Nat) : nI j - nI (j / 1024) * (1024 : Int32) = nI (j % 1024) := by
  rw [lmu1024]
  exact nI_mod j 1024
theorem lsu1024 {j : Nat} (h : 1024 ≤ j) : nI j - (1024 : Int32) = nI (j - 1024) := pk_sub (b := 1024) h
theorem lnge1296 {j : Nat} (h : j < 1296) : ¬ (1296 : Int32) ≤ nI j := nI_ge (a := j) (b := 1296) h (by decide)
theorem lle1296 {j : Nat} (h : 1296 ≤ j) (hj : j < 2 ^ 31) : (1296 : Int32) ≤ nI j := nI_le (a := 1296) (b := j) h hj
theorem llt1296 {j : Nat} (h : j < 1296) : nI j < (1296 : Int32) := nI_lt (a := j) (b := 1296) h (by decide)
theorem lnlt1296 {j : Nat} (h : 1296 ≤ j) (hj : j < 2 ^ 31) : ¬ nI j < (1296 : Int32) := nI_nlt (a := j) (b := 1296) h hj
theorem lgt1296 {j : Nat} (h : 1296 < j) (hj : j < 2 ^ 31) : (1296 : Int32) < nI j := nI_lt (a := 1296) (b := j) h hj
theorem lngt1296 {j : Nat} (h : j ≤ 1296) : ¬ (1296 : Int32) < nI j := nI_nlt (a := 1296) (b := j) h (by decide)
theorem leq1296 {j : Nat} (hj : j < 2 ^ 31) : (nI j = (1296 : Int32)) = (j = 1296) := propext (nI_eq (b := 1296) hj (by decide))
theorem lad1296 (j : Nat) : nI j + (1296 : Int32) = nI (j + 1296) := nI_add j 1296
theorem lda1296 (j : Nat) : (1296 : Int32) + nI j = nI (1296 + j) := nI_add 1296 j
theorem lmu1296 (j : Nat) : nI j * (1296 : Int32) = nI (j * 1296) := pk_mul j 1296
theorem lum1296 (j : Nat) : (1296 : Int32) * nI j = nI (1296 * j) := pk_mul 1296 j
theorem ldi1296 {j : Nat} (hj : j < 2 ^ 31) : nI j / (1296 : Int32) = nI (j / 1296) := pk_div (d := 1296) hj (by decide) (by decide)
theorem lmo1296 (j : Nat) : nI j - nI (j / 1296) * (1296 : Int32) = nI (j % 1296) := by
  rw [lmu1296]
  exact nI_mod j 1296
theorem lsu1296 {j : Nat} (h : 1296 ≤ j) : nI j - (1296 : Int32) = nI (j - 1296) := pk_sub (b := 1296) h
theorem lnge2048 {j : Nat} (h : j < 2048) : ¬ (2048 : Int32) ≤ nI j := nI_ge (a := j) (b := 2048) h (by decide)
theorem lle2048 {j : Nat} (h : 2048 ≤ j) (hj : j < 2 ^ 31) : (2048 : Int32) ≤ nI j := nI_le (a := 2048) (b := j) h hj
theorem llt2048 {j : Nat} (h : j < 2048) : nI j < (2048 : Int32) := nI_lt (a := j) (b := 2048) h (by decide)
theorem lnlt2048 {j : Nat} (h : 2048 ≤ j) (hj : j < 2 ^ 31) : ¬ nI j < (2048 : Int32) := nI_nlt (a := j) (b := 2048) h hj
theorem lgt2048 {j : Nat} (h : 2048 < j) (hj : j < 2 ^ 31) : (2048 : Int32) < nI j := nI_lt (a := 2048) (b := j) h hj
theorem lngt2048 {j : Nat} (h : j ≤ 2048) : ¬ (2048 : Int32) < nI j := nI_nlt (a := 2048) (b := j) h (by decide)
theorem leq2048 {j : Nat} (hj : j < 2 ^ 31) : (nI j = (2048 : Int32)) = (j = 2048) := propext (nI_eq (b := 2048) hj (by decide))
theorem lad2048 (j : Nat) : nI j + (2048 : Int32) = nI (j + 2048) := nI_add j 2048
theorem lda2048 (j : Nat) : (2048 : Int32) + nI j = nI (2048 + j) := nI_add 2048 j
theorem lmu2048 (j : Nat) : nI j * (2048 : Int32) = nI (j * 2048) := pk_mul j 2048
theorem lum2048 (j : Nat) : (2048 : Int32) * nI j = nI (2048 * j) := pk_mul 2048 j
theorem ldi2048 {j : Nat} (hj : j < 2 ^ 31) : nI j / (2048 : Int32) = nI (j / 2048) := pk_div (d := 2048) hj (by decide) (by decide)
theorem lmo2048 (j : Nat) : nI j - nI (j / 2048) * (2048 : Int32) = nI (j % 2048) := by
  rw [lmu2048]
  exact nI_mod j 2048
theorem lsu2048 {j : Nat} (h : 2048 ≤ j) : nI j - (2048 : Int32) = nI (j - 2048) := pk_sub (b := 2048) h
theorem lnge5184 {j : Nat} (h : j < 5184) : ¬ (5184 : Int32) ≤ nI j := nI_ge (a := j) (b := 5184) h (by decide)
theorem lle5184 {j : Nat} (h : 5184 ≤ j) (hj : j < 2 ^ 31) : (5184 : Int32) ≤ nI j := nI_le (a := 5184) (b := j) h hj
theorem llt5184 {j : Nat} (h : j < 5184) : nI j < (5184 : Int32) := nI_lt (a := j) (b := 5184) h (by decide)
theorem lnlt5184 {j : Nat} (h : 5184 ≤ j) (hj : j < 2 ^ 31) : ¬ nI j < (5184 : Int32) := nI_nlt (a := j) (b := 5184) h hj
theorem lgt5184 {j : Nat} (h : 5184 < j) (hj : j < 2 ^ 31) : (5184 : Int32) < nI j := nI_lt (a := 5184) (b := j) h hj
theorem lngt5184 {j : Nat} (h : j ≤ 5184) : ¬ (5184 : Int32) < nI j := nI_nlt (a := 5184) (b := j) h (by decide)
theorem leq5184 {j : Nat} (hj : j < 2 ^ 31) : (nI j = (5184 : Int32)) = (j = 5184) := propext (nI_eq (b := 5184) hj (by decide))
theorem lad5184 (j : Nat) : nI j + (5184 : Int32) = nI (j + 5184) := nI_add j 5184
theorem lda5184 (j : Nat) : (5184 : Int32) + nI j = nI (5184 + j) := nI_add 5184 j
theorem lmu5184 (j : Nat) : nI j * (5184 : Int32) = nI (j * 5184) := pk_mul j 5184
theorem lum5184 (j : Nat) : (5184 : Int32) * nI j = nI (5184 * j) := pk_mul 5184 j
theorem ldi5184 {j : Nat} (hj : j < 2 ^ 31) : nI j / (5184 : Int32) = nI (j / 5184) := pk_div (d := 5184) hj (by decide) (by decide)
theorem lmo5184 (j : Nat) : nI j - nI (j / 5184) * (5184 : Int32) = nI (j % 5184) := by
  rw [lmu5184]
  exact nI_mod j 5184
theorem lsu5184 {j : Nat} (h : 5184 ≤ j) : nI j - (5184 : Int32) = nI (j - 5184) := pk_sub (b := 5184) h
theorem lnge1000 {j : Nat} (h : j < 1000) : ¬ (1000 : Int32) ≤ nI j := nI_ge (a := j) (b := 1000) h (by decide)
theorem lle1000 {j : Nat} (h : 1000 ≤ j) (hj : j < 2 ^ 31) : (1000 : Int32) ≤ nI j := nI_le (a := 1000) (b := j) h hj
theorem llt1000 {j : Nat} (h : j < 1000) : nI j < (1000 : Int32) := nI_lt (a := j) (b := 1000) h (by decide)
theorem lnlt1000 {j : Nat} (h : 1000 ≤ j) (hj : j < 2 ^ 31) : ¬ nI j < (1000 : Int32) := nI_nlt (a := j) (b := 1000) h hj
theorem lgt1000 {j : Nat} (h : 1000 < j) (hj : j < 2 ^ 31) : (1000 : Int32) < nI j := nI_lt (a := 1000) (b := j) h hj
theorem lngt1000 {j : Nat} (h : j ≤ 1000) : ¬ (1000 : Int32) < nI j := nI_nlt (a := 1000) (b := j) h (by decide)
theorem leq1000 {j : Nat} (hj : j < 2 ^ 31) : (nI j = (1000 : Int32)) = (j = 1000) := propext (nI_eq (b := 1000) hj (by decide))
theorem lad1000 (j : Nat) : nI j + (1000 : Int32) = nI (j + 1000) := nI_add j 1000
theorem lda1000 (j : Nat) : (1000 : Int32) + nI j = nI (1000 + j) := nI_add 1000 j
theorem lmu1000 (j : Nat) : nI j * (1000 : Int32) = nI (j * 1000) := pk_mul j 1000
theorem lum1000 (j : Nat) : (1000 : Int32) * nI j = nI (1000 * j) := pk_mul 1000 j
theorem ldi1000 {j : Nat} (hj : j < 2 ^ 31) : nI j / (1000 : Int32) = nI (j / 1000) := pk_div (d := 1000) hj (by decide) (by decide)
theorem lmo1000 (j : Nat) : nI j - nI (j / 1000) * (1000 : Int32) = nI (j % 1000) := by
  rw [lmu1000]
  exact nI_mod j 1000
theorem lsu1000 {j : Nat} (h : 1000 ≤ j) : nI j - (1000 : Int32) = nI (j - 1000) := pk_sub (b := 1000) h
theorem lnge2000 {j : Nat} (h : j < 2000) : ¬ (2000 : Int32) ≤ nI j := nI_ge (a := j) (b := 2000) h (by decide)
theorem lle2000 {j : Nat} (h : 2000 ≤ j) (hj : j < 2 ^ 31) : (2000 : Int32) ≤ nI j := nI_le (a := 2000) (b := j) h hj
theorem llt2000 {j : Nat} (h : j < 2000) : nI j < (2000 : Int32) := nI_lt (a := j) (b := 2000) h (by decide)
theorem lnlt2000 {j : Nat} (h : 2000 ≤ j) (hj : j < 2 ^ 31) : ¬ nI j < (2000 : Int32) := nI_nlt (a := j) (b := 2000) h hj
theorem lgt2000 {j : Nat} (h : 2000 < j) (hj : j < 2 ^ 31) : (2000 : Int32) < nI j := nI_lt (a := 2000) (b := j) h hj
theorem lngt2000 {j : Nat} (h : j ≤ 2000) : ¬ (2000 : Int32) < nI j := nI_nlt (a := 2000) (b := j) h (by decide)
theorem leq2000 {j : Nat} (hj : j < 2 ^ 31) : (nI j = (2000 : Int32)) = (j = 2000) := propext (nI_eq (b := 2000) hj (by decide))
theorem lad2000 (j : Nat) : nI j + (2000 : Int32) = nI (j + 2000) := nI_add j 2000
theorem lda2000 (j : Nat) : (2000 : Int32) + nI j = nI (2000 + j) := nI_add 2000 j
theorem lmu2000 (j : Nat) : nI j * (2000 : Int32) = nI (j * 2000) := pk_mul j 2000
theorem lum2000 (j : Nat) : (2000 : Int32) * nI j = nI (2000 * j) := pk_mul 2000 j
theorem ldi2000 {j : Nat} (hj : j < 2 ^ 31) : nI j / (2000 : Int32) = nI (j / 2000) := pk_div (d := 2000) hj (by decide) (by decide)
theorem lmo2000 (j : Nat) : nI j - nI (j / 2000) * (2000 : Int32) = nI (j % 2000) := by
  rw [lmu2000]
  exact nI_mod j 2000
theorem lsu2000 {j : Nat} (h : 2000 ≤ j) : nI j - (2000 : Int32) = nI (j - 2000) := pk_sub (b := 2000) h
theorem lnge2014 {j : Nat} (h : j < 2014) : ¬ (2014 : Int32) ≤ nI j := nI_ge (a := j) (b := 2014) h (by decide)
theorem lle2014 {j : Nat} (h : 2014 ≤ j) (hj : j < 2 ^ 31) : (2014 : Int32) ≤ nI j := nI_le (a := 2014) (b := j) h hj
theorem llt2014 {j : Nat} (h : j < 2014) : nI j < (2014 : Int32) := nI_lt (a := j) (b := 2014) h (by decide)
theorem lnlt2014 {j : Nat} (h : 2014 ≤ j) (hj : j < 2 ^ 31) : ¬ nI j < (2014 : Int32) := nI_nlt (a := j) (b := 2014) h hj
theorem lgt2014 {j : Nat} (h : 2014 < j) (hj : j < 2 ^ 31) : (2014 : Int32) < nI j := nI_lt (a := 2014) (b := j) h hj
theorem lngt2014 {j : Nat} (h : j ≤ 2014) : ¬ (2014 : Int32) < nI j := nI_nlt (a := 2014) (b := j) h (by decide)
theorem leq2014 {j : Nat} (hj : j < 2 ^ 31) : (nI j = (2014 : Int32)) = (j = 2014) := propext (nI_eq (b := 2014) hj (by decide))
theorem lad2014 (j : Nat) : nI j + (2014 : Int32) = nI (j + 2014) := nI_add j 2014
theorem lda2014 (j : Nat) : (2014 : Int32) + nI j = nI (2014 + j) := nI_add 2014 j
theorem lmu2014 (j : Nat) : nI j * (2014 : Int32) = nI (j * 2014) := pk_mul j 2014
theorem lum2014 (j : Nat) : (2014 : Int32) * nI j = nI (2014 * j) := pk_mul 2014 j
theorem ldi2014 {j : Nat} (hj : j < 2 ^ 31) : nI j / (2014 : Int32) = nI (j / 2014) := pk_div (d := 2014) hj (by decide) (by decide)
theorem lmo2014 (j : Nat) : nI j - nI (j / 2014) * (2014 : Int32) = nI (j % 2014) := by
  rw [lmu2014]
  exact nI_mod j 2014
theorem lsu2014 {j : Nat} (h : 2014 ≤ j) : nI j - (2014 : Int32) = nI (j - 2014) := pk_sub (b := 2014) h
