theorem i_cases (n : Nat) (hn : n < 2147483648) (a : Int32) : (∃ k : Fin n, a = Int32.ofNat k.val) ∨ a < 0 ∨ Int32.ofNat n ≤ a := by
  by_cases h : a < 0
  · exact Or.inr (Or.inl h)
  · by_cases h2 : Int32.ofNat n ≤ a
    · exact Or.inr (Or.inr h2)
    · left
      rw [i_lt] at h
      rw [i_le] at h2
      have e0 : (0 : Int32).toInt = 0 := by decide
      have en : (Int32.ofNat n).toInt = (n : Int) := Int32.toInt_ofNat_of_lt hn
      rw [e0] at h
      rw [en] at h2
      refine ⟨⟨a.toInt.toNat, by omega⟩, ?_⟩
      apply Int32.toInt_inj.mp
      show a.toInt = (Int32.ofNat a.toInt.toNat).toInt
      rw [Int32.toInt_ofNat_of_lt (by omega)]
      omega
theorem i_nlt {a b : Int32} (h : ¬ a < b) : b ≤ a := by rw [i_lt] at h; rw [i_le]; omega
theorem i_nle {a b : Int32} (h : ¬ a ≤ b) : b < a := by rw [i_le] at h; rw [i_lt]; omega
theorem i_neg1 {a : Int32} (h : ¬ a < 0) : (0 : Int32) - 1 < a := by
  rw [i_lt] at *
  have e : ((0 : Int32) - 1).toInt = -1 := by decide
  have e0 : (0 : Int32).toInt = 0 := by decide
  omega
theorem k_9 (a b c : Int32) : lk_9 a b c = some 1 := by unfold lk_9 lc_9; decide +kernel
theorem k_1 (a b c : Int32) : lk_1 a b c = some 1 := by unfold lk_1 lc_1; decide +kernel
theorem k_25 (a b c : Int32) : lk_25 a b c = some 1 := by unfold lk_25 lc_25; decide +kernel
theorem k_2 (a b c : Int32) : lk_2 a b c = some 1 := by
  by_cases h : a = 0
  · subst h; unfold lk_2 lc_2; decide +kernel
  · unfold lk_2 lc_2
    simp only [h, if_false, in1]
    decide +kernel
theorem k_6 (a b c : Int32) : lk_6 a b c = some 1 := by
  unfold lk_6 lc_6 f_X11_lose f_X12_lose f_X12_in
  simp only [T0c0, T0c5, T0c16, M0c0, M0a_32, M0a_33, in1, in2, end4]
  by_cases h1 : b < 1
  · simp only [h1, if_true, bso]
  · by_cases h2 : 500 < b
    · simp only [h1, h2, if_true, if_false, bso]
    · by_cases h3 : a < 0
      · simp only [h1, h2, h3, if_true, if_false, bso]
        simp
      · have h4 : ¬ a ≤ 0 - b := by
          rw [i_lt] at *; rw [i_le]
          have e0 : (0 : Int32).toInt = 0 := by decide
          have e1 : (1 : Int32).toInt = 1 := by decide
          have e5 : (500 : Int32).toInt = 500 := by decide
          have eb : ((0 : Int32) - b).toInt = - b.toInt := by
            rw [Int32.toInt_sub, e0, Int.zero_sub]
            apply Int.bmod_eq_of_le <;> omega
          omega
        have h5 := i_nle h4
        simp only [h1, h2, h3, h4, h5, if_true, if_false, bso]
        simp
theorem k_8 (a b c : Int32) : lk_8 a b c = some 1 := by
  have e : (if (0 : Int32) - 0 ≤ 4000 then some ((0 : Int32) - 0) else some (4000 : Int32)) = some 0 := by decide
  unfold lk_8 lc_8 f_X11_hear f_X12_hear f_X12_in f_X12_lesser
  simp only [T0c0, T0c5, T0c16, M0c0, M0a_32, M0a_33, in1, end4, e, bso]
  by_cases h1 : a < 1
  · simp only [h1, if_true, bso]
  · have h2 : (0 : Int32) < a := by
      rw [i_lt] at *
      have e0 : (0 : Int32).toInt = 0 := by decide
      have e1 : (1 : Int32).toInt = 1 := by decide
      omega
    have h3 : ¬ a ≤ 0 - 0 := by
      rw [i_lt] at h2; rw [i_le]
      have e0 : (0 : Int32).toInt = 0 := by decide
      have e1 : (0 - 0 : Int32).toInt = 0 := by decide
      omega
    by_cases h4 : 4000 < a
    · simp only [h1, h2, h4, if_true, if_false, bso]
    · simp only [h1, h2, h3, h4, if_true, if_false, bso]
theorem k_10 (a b c : Int32) : lk_10 a b c = some 1 := by
  rcases i_cases 16 (by decide) a with ⟨k, rfl⟩ | h
  · exact (by decide +kernel : ∀ k : Fin 16, lk_10 (Int32.ofNat k.val) 0 0 = some 1) k
  · have hn : ∀ k : Fin 16, a ≠ Int32.ofNat k.val := by
      intro k e; subst e
      revert h; revert k; decide +kernel
    have q0 := hn 0; have q1 := hn 1; have q2 := hn 2; have q3 := hn 3; have q4 := hn 4; have q5 := hn 5; have q6 := hn 6; have q7 := hn 7; have q8 := hn 8; have q9 := hn 9; have q10 := hn 10; have q11 := hn 11; have q12 := hn 12; have q13 := hn 13; have q14 := hn 14; have q15 := hn 15
    unfold lk_10 lc_10 f_X11_count f_X12_count
    simp only [T0c1, T0c3, T0c6, M0c0]
    simp only [show (Int32.ofNat (0 : Fin 16).val) = 0 from rfl, show (Int32.ofNat (1 : Fin 16).val) = 1 from rfl, show (Int32.ofNat (2 : Fin 16).val) = 2 from rfl, show (Int32.ofNat (3 : Fin 16).val) = 3 from rfl, show (Int32.ofNat (4 : Fin 16).val) = 4 from rfl, show (Int32.ofNat (5 : Fin 16).val) = 5 from rfl, show (Int32.ofNat (6 : Fin 16).val) = 6 from rfl, show (Int32.ofNat (7 : Fin 16).val) = 7 from rfl, show (Int32.ofNat (8 : Fin 16).val) = 8 from rfl, show (Int32.ofNat (9 : Fin 16).val) = 9 from rfl, show (Int32.ofNat (10 : Fin 16).val) = 10 from rfl, show (Int32.ofNat (11 : Fin 16).val) = 11 from rfl, show (Int32.ofNat (12 : Fin 16).val) = 12 from rfl, show (Int32.ofNat (13 : Fin 16).val) = 13 from rfl, show (Int32.ofNat (14 : Fin 16).val) = 14 from rfl, show (Int32.ofNat (15 : Fin 16).val) = 15 from rfl] at *
    simp only [q0, q1, q2, q3, q4, q5, q6, q7, q8, q9, q10, q11, q12, q13, q14, q15, if_false, in1, bso, end4, if_true]
theorem k_11 (a b c : Int32) : lk_11 a b c = some 1 := by
  rcases i_cases 6 (by decide) a with ⟨k, rfl⟩ | h
  · exact (by decide +kernel : ∀ k : Fin 6, lk_11 (Int32.ofNat k.val) 0 0 = some 1) k
  · unfold lk_11 lc_11 f_L_role f_X5_roleAt f_X12_role f_X12_in f_X12_role_23 f_X12_thrown
    simp only [T0c1, M0c0, M0a_8, in1, end4]
    rcases h with h | h
    · simp [h, bso]
    · have h1 : ¬ a < 0 := by rw [i_lt]; rw [i_le] at h; have e0 : (0 : Int32).toInt = 0 := by decide
                              have e6 : (Int32.ofNat 6).toInt = 6 := by decide
                              omega
      have h2 : ¬ a < 6 := by rw [i_lt]; rw [i_le] at h; have e0 : (6 : Int32).toInt = 6 := by decide
                              have e6 : (Int32.ofNat 6).toInt = 6 := by decide
                              omega
      have h3 : (6 - 1 : Int32) < a := by rw [i_lt]; rw [i_le] at h; have e0 : (6 - 1 : Int32).toInt = 5 := by decide
                                          have e6 : (Int32.ofNat 6).toInt = 6 := by decide
                                          omega
      have h4 : (6 : Int32) ≤ a := i_nlt h2
      have h5 : (5 : Int32) < a := h3
      simp [h1, h2, h3, h4, h5, bso]
theorem k_13 (a b c : Int32) : lk_13 a b c = some 1 := by
  unfold lk_13 lc_13 f_X11_checks f_X12_checks f_X12_in f_X12_round
  simp only [T0c1, T0c5, T0c16, M0c0, M0a_0, M0a_8, M0a_32, in1, end4]
  by_cases h : a < 0
  · simp only [h, if_true, bso]
  · have h1 : ¬ a ≤ 0 - 48 := by
      rw [i_lt] at h; rw [i_le]
      have e0 : (0 : Int32).toInt = 0 := by decide
      have e1 : (0 - 48 : Int32).toInt = -48 := by decide
      omega
    have h2 : (0 - 8 * 6 : Int32) < a := by
      rw [i_lt] at *
      have e0 : (0 : Int32).toInt = 0 := by decide
      have e1 : (0 - 8 * 6 : Int32).toInt = -48 := by decide
      omega
    simp only [h, h1, h2, if_true, if_false, bso]
theorem k_14 (a b c : Int32) : lk_14 a b c = some 1 := by
  rcases i_cases 18 (by decide) a with ⟨k, rfl⟩ | h
  · exact (by decide +kernel : ∀ k : Fin 18, lk_14 (Int32.ofNat k.val) 0 0 = some 1) k
  · have hn : ∀ k : Fin 18, a ≠ Int32.ofNat k.val := by
      intro k e; subst e
      revert h; revert k; decide +kernel
    have q0 : ¬ a = 0 := hn 0
    have q1 : ¬ a = 1 := hn 1
    have q2 : ¬ a = 2 := hn 2
    have q3 : ¬ a = 3 := hn 3
    have q4 : ¬ a = 4 := hn 4
    have q5 : ¬ a = 5 := hn 5
    have q6 : ¬ a = 6 := hn 6
    have q7 : ¬ a = 7 := hn 7
    have q8 : ¬ a = 8 := hn 8
    have q9 : ¬ a = 9 := hn 9
    have q10 : ¬ a = 10 := hn 10
    have q11 : ¬ a = 11 := hn 11
    have q12 : ¬ a = 12 := hn 12
    have q13 : ¬ a = 13 := hn 13
    have q14 : ¬ a = 14 := hn 14
    have q15 : ¬ a = 15 := hn 15
    have q16 : ¬ a = 16 := hn 16
    have q17 : ¬ a = 17 := hn 17
    unfold lk_14 lc_14 f_X11_receiver f_X4_tell f_X12_receiver f_X12_in
    simp only [T0c1, T0c8, T0c9, T0c11, T0c12, M0c0]
    simp only [q0, q1, q2, q3, q4, q5, q6, q7, q8, q9, q10, q11, q12, q13, q14, q15, q16, q17, if_false, in1, bso, end4]
    rcases h with h | h
    · simp [h, bso]
    · have h1 : ¬ a < 0 := by rw [i_lt]; rw [i_le] at h; have e0 : (0 : Int32).toInt = 0 := by decide
                              have e6 : (Int32.ofNat 18).toInt = 18 := by decide
                              omega
      have h3 : (17 : Int32) < a := by rw [i_lt]; rw [i_le] at h; have e0 : (17 : Int32).toInt = 17 := by decide
                                       have e6 : (Int32.ofNat 18).toInt = 18 := by decide
                                       omega
      simp [h1, h3, bso]
theorem left_all : ∀ k : Fin 48, f_X12_isLeft (Int32.ofNat k.val) M0.1 M0.2.1 = some 1 := by decide +kernel
theorem round_0 : f_X12_round M0.1 M0.2.1 = some 48 := by decide +kernel
theorem i_succ (k : Nat) : Int32.ofNat k + 1 = Int32.ofNat (k + 1) := by
  show Int32.ofNat k + Int32.ofNat 1 = _
  rw [← Int32.ofNat_add]
theorem i_ofle {m n : Nat} (hm : m < 2147483648) (hn : n < 2147483648) : Int32.ofNat m ≤ Int32.ofNat n ↔ m ≤ n := by
  rw [i_le, Int32.toInt_ofNat_of_lt hm, Int32.toInt_ofNat_of_lt hn]; omega
theorem leftAt_out (a : Int32) (ha : ∀ k : Fin 48, a ≠ Int32.ofNat k.val) : ∀ (m n : Nat), m ≤ 48 → m ≤ n → f_X12_leftAt_4 M0.1 M0.2.1 a (n + 1) (Int32.ofNat (48 - m)) (Int32.ofNat (48 - m)) = some (-1) := by
  intro m
  induction m with
  | zero =>
    intro n _ _
    simp only [f_X12_leftAt_4, round_0, bso]
    rw [if_pos (by decide)]
  | succ m ih =>
    intro n h1 h2
    simp only [f_X12_leftAt_4, round_0, bso]
    have hl : ¬ (48 : Int32) ≤ Int32.ofNat (48 - (m + 1)) := by
      rw [show (48 : Int32) = Int32.ofNat 48 from rfl, i_ofle (by omega) (by omega)]; omega
    rw [if_neg hl, left_all ⟨48 - (m + 1), by omega⟩, bso]
    have hne : ¬ Int32.ofNat (48 - (m + 1)) = a := fun e => ha ⟨48 - (m + 1), by omega⟩ e.symm
    rw [if_neg (by decide), if_neg hne]
    unfold f_X12_leftAt_30
    obtain ⟨n, rfl⟩ : ∃ q, n = q + 1 := ⟨n - 1, by omega⟩
    rw [i_succ, show 48 - (m + 1) + 1 = 48 - m by omega]
    exact ih n (by omega) (by omega)
theorem nth_out (a : Int32) (h : a < 0 ∨ Int32.ofNat 48 ≤ a) (r : Nat → Int32) (p : SX5) (x1 x2 x3 x4 : Int32) : f_X1_nth a (48, x1, x2, x3, x4) r p = some (-1) := by
  unfold f_X1_nth
  rcases h with h | h
  · simp only [h, if_true]
  · have h1 : ¬ a < 48 := by
      intro h2; rw [i_lt] at h2; rw [i_le] at h
      have e6 : (Int32.ofNat 48).toInt = 48 := by decide
      have e7 : (48 : Int32).toInt = 48 := by decide
      omega
    simp only [h1, if_false, ite_self]
theorem k_15 (a b c : Int32) : lk_15 a b c = some 1 := by
  rcases i_cases 48 (by decide) a with ⟨k, rfl⟩ | h
  · exact (by decide +kernel : ∀ k : Fin 48, lk_15 (Int32.ofNat k.val) 0 0 = some 1) k
  · have hn : ∀ k : Fin 48, a ≠ Int32.ofNat k.val := by
      intro k e; subst e
      revert h; revert k; decide +kernel
    have hr := leftAt_out a hn 48 65535 (by decide) (by decide)
    unfold lk_15 lc_15 f_X11_candidate f_X12_candidate f_X12_leftAt
    simp only [T0c8, T0c9, M0c0, M0a_34, in1, if_true, nth_out a h, bso]
    rw [M0c0] at hr
    have hr2 : f_X12_leftAt_4 (0, 0, 0, 0, 0, 0, 0, 0, 0, 0, -1, 0) M0.2.1 a 65536 0 0 = some (-1) := hr
    simp only [hr2, bso, if_true, end4]
theorem k_16 (a b c : Int32) : lk_16 a b c = some 1 := by
  unfold lk_16 lc_16 f_X11_frame f_X12_frame
  simp only [T0c11, M0c0, M0a_46, in1, end4, bso, if_true]
theorem k_17 (a b c : Int32) : lk_17 a b c = some 1 := by
  rcases i_cases 1 (by decide) a with ⟨k, rfl⟩ | h
  · exact (by decide +kernel : ∀ k : Fin 1, lk_17 (Int32.ofNat k.val) 0 0 = some 1) k
  · unfold lk_17 lc_17 f_X11_signal f_X12_signal f_X12_channels f_X12_in
    simp only [T0c1, T0c11, M0c0, M0a_0, M0a_2, in1, end4, bso]
    rcases h with h | h
    · simp [h, bso, m_g]
    · have h1 : ¬ a < 0 := by rw [i_lt]; rw [i_le] at h; have e0 : (0 : Int32).toInt = 0 := by decide
                              have e6 : (Int32.ofNat 1).toInt = 1 := by decide
                              omega
      have h3 : (0 : Int32) < a := by rw [i_lt]; rw [i_le] at h; have e0 : (0 : Int32).toInt = 0 := by decide
                                      have e6 : (Int32.ofNat 1).toInt = 1 := by decide
                                      omega
      have h4 : (1 : Int32) ≤ a := h
      simp [h1, h3, h4, bso, m_g]
theorem k_18 (a b c : Int32) : lk_18 a b c = some 1 := by
  unfold lk_18 lc_18 f_X11_value f_X0_nth f_X12_value f_X12_lesser f_X12_in
  simp only [T0c12, M0c0, M0a_50, in1, end4, bso]
  by_cases h : a < 0
  · simp [h, bso]
  · have h1 := i_nlt h
    have h2 : (-1 : Int32) < a := i_neg1 h
    simp [h, h1, h2, bso]
theorem k_20 (a b c : Int32) : lk_20 a b c = some 1 := by
  unfold lk_20 lc_20 f_X11_struck f_X12_struck f_X12_in
  simp only [T0c1, T0c5, T0c16, M0c0, M0a_32, in1, in2, end4, bso]
  by_cases h : a < 0
  · simp only [h, if_true, bso]
  · have h1 := i_nlt h
    have h2 := i_neg1 h
    simp only [h, h1, h2, if_true, if_false, bso]
theorem k_21 (a b c : Int32) : lk_21 a b c = some 1 := by
  unfold lk_21 lc_21 f_X11_locks f_X12_locks f_X12_in
  simp only [T0c1, T0c5, T0c16, M0c0, M0a_32, in1, in2, end4, bso]
  by_cases h : a < 0
  · simp only [h, if_true, bso]
  · have h2 := i_neg1 h
    simp only [h, h2, if_true, if_false, bso]
theorem k_22 (a b c : Int32) : lk_22 a b c = some 1 := by
  unfold lk_22 lc_22 f_X11_from f_X12_from f_X12_in
  simp only [T0c1, T0c5, T0c16, M0c0, M0a_32, in1, in2, end4, bso]
  by_cases h : a < 0
  · simp only [h, if_true, bso]
  · have h1 := i_nlt h
    have h2 := i_neg1 h
    simp only [h, h1, h2, if_true, if_false, bso]
theorem k_27 (a b c : Int32) : lk_27 a b c = some 1 := by
  rcases i_cases 3 (by decide) a with ⟨k, rfl⟩ | h
  · exact (by decide +kernel : ∀ k : Fin 3, lk_27 (Int32.ofNat k.val) 0 0 = some 1) k
  · unfold lk_27 lc_27 f_X11_again f_X12_again f_X12_in
    simp only [M0c0, in1, end4, bso]
    rcases h with h | h
    · simp [h, bso]
    · have h1 : ¬ a < 0 := by rw [i_lt]; rw [i_le] at h; have e0 : (0 : Int32).toInt = 0 := by decide
                              have e6 : (Int32.ofNat 3).toInt = 3 := by decide
                              omega
      have h3 : (2 : Int32) < a := by rw [i_lt]; rw [i_le] at h; have e0 : (2 : Int32).toInt = 2 := by decide
                                      have e6 : (Int32.ofNat 3).toInt = 3 := by decide
                                      omega
      have h4 : (3 : Int32) ≤ a := h
      simp [h1, h3, h4, bso]
theorem k_26 (a b c : Int32) : lk_26 a b c = some 1 := by
  rcases i_cases 3 (by decide) a with ⟨k, rfl⟩ | h
  · exact (by decide +kernel : ∀ k : Fin 3, lk_26 (Int32.ofNat k.val) 0 0 = some 1) k
  · unfold lk_26 lc_26 f_X11_image f_X12_image f_X12_in
    simp only [M0c0, in1, end4, bso]
    rcases h with h | h
    · simp [h, bso]
    · have h1 : ¬ a < 0 := by rw [i_lt]; rw [i_le] at h; have e0 : (0 : Int32).toInt = 0 := by decide
                              have e6 : (Int32.ofNat 3).toInt = 3 := by decide
                              omega
      have h3 : (2 : Int32) < a := by rw [i_lt]; rw [i_le] at h; have e0 : (2 : Int32).toInt = 2 := by decide
                                      have e6 : (Int32.ofNat 3).toInt = 3 := by decide
                                      omega
      have h4 : (3 : Int32) ≤ a := h
      have h5 : ¬ a < 3 := by rw [i_lt]; rw [i_le] at h4; omega
      simp [h1, h3, h4, h5, bso]
theorem i_pos {a : Int32} (h : ¬ a < 0) (h0 : ¬ a = 0) : (0 : Int32) < a := by
  rw [i_lt] at *
  have e0 : (0 : Int32).toInt = 0 := by decide
  by_cases q : 0 < a.toInt
  · omega
  · exact absurd (Int32.toInt_inj.mp (show a.toInt = (0 : Int32).toInt by omega)) h0
theorem i_npos {a : Int32} (h : 0 < a) : ¬ a ≤ 0 := by rw [i_lt] at h; rw [i_le]; omega
theorem k_24 (a b c : Int32) : lk_24 a b c = some 1 := by
  by_cases h0 : a = 0
  · subst h0; unfold lk_24 lc_24; decide +kernel
  · unfold lk_24 lc_24 f_X11_least f_X12_least f_X12_in
    simp only [T0c16, M0c0, M0a_32, in1, end4, bso]
    by_cases h : a < 0
    · simp [h, bso]
    · have h1 := i_pos h h0
      have h2 := i_npos h1
      simp only [h, h1, h2, if_true, if_false, bso]
