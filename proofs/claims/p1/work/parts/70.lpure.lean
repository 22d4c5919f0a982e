theorem law_pure (L : Nat) (hL : L ≤ 4) (xs : Nat → Int32) : f_L_law L xs = some 1 := by
  rw [law_cases, T0_is, bso, M0_is, bso]
  by_cases h4 : L < 4
  · rw [if_pos (show nI L - 4 < 0 from pk_sneg (a := L) (b := 4) (by omega) h4)]
  · obtain rfl : L = 4 := by omega
    rw [if_neg (show ¬ nI 4 - 4 < 0 from by decide), in0]
    by_cases h0 : (xs (0 : Int32).toNatClampNeg) &&& 31 = 0
    · rw [if_pos h0]; exact k_0 _ _ _
    rw [if_neg h0]
    by_cases h1 : (xs (0 : Int32).toNatClampNeg) &&& 31 = 1
    · rw [if_pos h1]; exact k_1 _ _ _
    rw [if_neg h1]
    by_cases h2 : (xs (0 : Int32).toNatClampNeg) &&& 31 = 2
    · rw [if_pos h2]; exact k_2 _ _ _
    rw [if_neg h2]
    by_cases h3 : (xs (0 : Int32).toNatClampNeg) &&& 31 = 3
    · rw [if_pos h3]; exact k_3 _ _ _
    rw [if_neg h3]
    by_cases h4 : (xs (0 : Int32).toNatClampNeg) &&& 31 = 4
    · rw [if_pos h4]; exact k_4 _ _ _
    rw [if_neg h4]
    by_cases h5 : (xs (0 : Int32).toNatClampNeg) &&& 31 = 5
    · rw [if_pos h5]; exact k_5 _ _ _
    rw [if_neg h5]
    by_cases h6 : (xs (0 : Int32).toNatClampNeg) &&& 31 = 6
    · rw [if_pos h6]; exact k_6 _ _ _
    rw [if_neg h6]
    by_cases h7 : (xs (0 : Int32).toNatClampNeg) &&& 31 = 7
    · rw [if_pos h7]; exact k_7 _ _ _
    rw [if_neg h7]
    by_cases h8 : (xs (0 : Int32).toNatClampNeg) &&& 31 = 8
    · rw [if_pos h8]; exact k_8 _ _ _
    rw [if_neg h8]
    by_cases h9 : (xs (0 : Int32).toNatClampNeg) &&& 31 = 9
    · rw [if_pos h9]; exact k_9 _ _ _
    rw [if_neg h9]
    by_cases h10 : (xs (0 : Int32).toNatClampNeg) &&& 31 = 10
    · rw [if_pos h10]; exact k_10 _ _ _
    rw [if_neg h10]
    by_cases h11 : (xs (0 : Int32).toNatClampNeg) &&& 31 = 11
    · rw [if_pos h11]; exact k_11 _ _ _
    rw [if_neg h11]
    by_cases h12 : (xs (0 : Int32).toNatClampNeg) &&& 31 = 12
    · rw [if_pos h12]; exact k_12 _ _ _
    rw [if_neg h12]
    by_cases h13 : (xs (0 : Int32).toNatClampNeg) &&& 31 = 13
    · rw [if_pos h13]; exact k_13 _ _ _
    rw [if_neg h13]
    by_cases h14 : (xs (0 : Int32).toNatClampNeg) &&& 31 = 14
    · rw [if_pos h14]; exact k_14 _ _ _
    rw [if_neg h14]
    by_cases h15 : (xs (0 : Int32).toNatClampNeg) &&& 31 = 15
    · rw [if_pos h15]; exact k_15 _ _ _
    rw [if_neg h15]
    by_cases h16 : (xs (0 : Int32).toNatClampNeg) &&& 31 = 16
    · rw [if_pos h16]; exact k_16 _ _ _
    rw [if_neg h16]
    by_cases h17 : (xs (0 : Int32).toNatClampNeg) &&& 31 = 17
    · rw [if_pos h17]; exact k_17 _ _ _
    rw [if_neg h17]
    by_cases h18 : (xs (0 : Int32).toNatClampNeg) &&& 31 = 18
    · rw [if_pos h18]; exact k_18 _ _ _
    rw [if_neg h18]
    by_cases h19 : (xs (0 : Int32).toNatClampNeg) &&& 31 = 19
    · rw [if_pos h19]; exact k_19 _ _ _
    rw [if_neg h19]
    by_cases h20 : (xs (0 : Int32).toNatClampNeg) &&& 31 = 20
    · rw [if_pos h20]; exact k_20 _ _ _
    rw [if_neg h20]
    by_cases h21 : (xs (0 : Int32).toNatClampNeg) &&& 31 = 21
    · rw [if_pos h21]; exact k_21 _ _ _
    rw [if_neg h21]
    by_cases h22 : (xs (0 : Int32).toNatClampNeg) &&& 31 = 22
    · rw [if_pos h22]; exact k_22 _ _ _
    rw [if_neg h22]
    by_cases h23 : (xs (0 : Int32).toNatClampNeg) &&& 31 = 23
    · rw [if_pos h23]; exact k_23 _ _ _
    rw [if_neg h23]
    by_cases h24 : (xs (0 : Int32).toNatClampNeg) &&& 31 = 24
    · rw [if_pos h24]; exact k_24 _ _ _
    rw [if_neg h24]
    by_cases h25 : (xs (0 : Int32).toNatClampNeg) &&& 31 = 25
    · rw [if_pos h25]; exact k_25 _ _ _
    rw [if_neg h25]
    by_cases h26 : (xs (0 : Int32).toNatClampNeg) &&& 31 = 26
    · rw [if_pos h26]; exact k_26 _ _ _
    rw [if_neg h26]
    by_cases h27 : (xs (0 : Int32).toNatClampNeg) &&& 31 = 27
    · rw [if_pos h27]; exact k_27 _ _ _
    rw [if_neg h27]
    exact end4
