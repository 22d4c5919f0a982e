/-! rows on bits, shifts and unsigned numbers, to paste: each family out of a closed proof of our own, whole with what it rests on; each by itself clean at Lean in its own claim (generation 39, form 5). Take a family whole -/
/-! ===== Int32 by its bits: bt x i ===== -/
def bt (x : Int32) (i : Nat) : Bool := x.toBitVec.getLsbD i
theorem b_ext {x y : Int32} (h : ∀ i, i < 32 → bt x i = bt y i) : x = y := Int32.toBitVec_inj.mp (BitVec.eq_of_getLsbD_eq (fun i hi => h i hi))
theorem b_or (x y : Int32) (i : Nat) : bt (x ||| y) i = (bt x i || bt y i) := by unfold bt; rw [Int32.toBitVec_or, BitVec.getLsbD_or]
theorem b_and (x y : Int32) (i : Nat) : bt (x &&& y) i = (bt x i && bt y i) := by unfold bt; rw [Int32.toBitVec_and, BitVec.getLsbD_and]
theorem b_xor (x y : Int32) (i : Nat) : bt (x ^^^ y) i = (bt x i ^^ bt y i) := by unfold bt; rw [Int32.toBitVec_xor, BitVec.getLsbD_xor]
theorem b_big {x : Int32} {i : Nat} (h : 32 ≤ i) : bt x i = false := BitVec.getLsbD_of_ge _ _ h
theorem b_255 (i : Nat) : bt 255 i = decide (i < 8) := by
  rcases Nat.lt_or_ge i 32 with h | h
  · exact (by decide +kernel : ∀ i, i < 32 → bt 255 i = decide (i < 8)) i h
  · rw [b_big h, decide_eq_false (by omega)]
theorem b_65535 (i : Nat) : bt 65535 i = decide (i < 16) := by
  rcases Nat.lt_or_ge i 32 with h | h
  · exact (by decide +kernel : ∀ i, i < 32 → bt 65535 i = decide (i < 16)) i h
  · rw [b_big h, decide_eq_false (by omega)]
theorem b_m1 : ∀ i, i < 32 → bt (-1) i = true := by decide +kernel
theorem b_0 (i : Nat) : bt 0 i = false := BitVec.getLsbD_zero
theorem s_l : ∀ n, n < 32 → ((nI n &&& 31).toBitVec.smod 32).toNat = n := by decide +kernel
theorem s_u : ∀ n, n < 32 → (((nI n).toUInt32 &&& Int32.toUInt32 31).toBitVec % 32).toNat = n := by decide +kernel
theorem b_shl (n : Nat) (hn : n < 32) (x : Int32) {i : Nat} (hi : i < 32) : bt (x <<< (nI n &&& 31)) i = (decide (n ≤ i) && bt x (i - n)) := by
  unfold bt
  rw [Int32.toBitVec_shiftLeft]
  show (x.toBitVec <<< ((nI n &&& 31).toBitVec.smod 32).toNat).getLsbD i = _
  rw [s_l n hn, BitVec.getLsbD_shiftLeft]
  rcases Nat.lt_or_ge i n with h | h
  · simp [h, Nat.not_le.mpr h]
  · simp [hi, h, Nat.not_lt.mpr h]
theorem b_ushr (n : Nat) (hn : n < 32) (x : Int32) (i : Nat) : bt ((x.toUInt32 >>> ((nI n).toUInt32 &&& Int32.toUInt32 31)).toInt32) i = bt x (n + i) := by
  show (x.toUInt32 >>> ((nI n).toUInt32 &&& Int32.toUInt32 31)).toBitVec.getLsbD i = x.toUInt32.toBitVec.getLsbD (n + i)
  rw [UInt32.toBitVec_shiftRight]
  show (x.toUInt32.toBitVec >>> (((nI n).toUInt32 &&& Int32.toUInt32 31).toBitVec % 32).toNat).getLsbD i = _
  rw [s_u n hn, BitVec.getLsbD_ushiftRight]
theorem b_sshr (n : Nat) (hn : n < 32) (x : Int32) {i : Nat} (hi : i < 32) : bt (x >>> (nI n &&& 31)) i = if n + i < 32 then bt x (n + i) else bt x 31 := by
  unfold bt
  rw [Int32.toBitVec_shiftRight]
  show (x.toBitVec.sshiftRight ((nI n &&& 31).toBitVec.smod 32).toNat).getLsbD i = _
  rw [s_l n hn, BitVec.getLsbD_sshiftRight, BitVec.msb_eq_getLsbD_last]
  simp [hi]
theorem b_shl8 (x : Int32) {i : Nat} (hi : i < 32) : bt (x <<< ((8 : Int32) &&& 31)) i = (decide (8 ≤ i) && bt x (i - 8)) := b_shl 8 (by omega) x hi
theorem b_shl16 (x : Int32) {i : Nat} (hi : i < 32) : bt (x <<< ((16 : Int32) &&& 31)) i = (decide (16 ≤ i) && bt x (i - 16)) := b_shl 16 (by omega) x hi
theorem b_shl24 (x : Int32) {i : Nat} (hi : i < 32) : bt (x <<< ((24 : Int32) &&& 31)) i = (decide (24 ≤ i) && bt x (i - 24)) := b_shl 24 (by omega) x hi
theorem b_sshr8 (x : Int32) {i : Nat} (hi : i < 32) : bt (x >>> ((8 : Int32) &&& 31)) i = if 8 + i < 32 then bt x (8 + i) else bt x 31 := b_sshr 8 (by omega) x hi
theorem f_X12_strikes_2_s (s_this : SX12) (x0 : Int32) (n : Nat) (y2_l2 : Int32) (y2_this_all : (Nat → Int32)) : f_X12_strikes_2 s_this x0 (n + 1) y2_l2 y2_this_all = (Option.bind (f_X12_round s_this y2_this_all) (fun u4_r => (if u4_r ≤ y2_l2 then some (upd y2_this_all 40 ((y2_this_all 40) + 1)) else Option.bind (f_X12_round s_this y2_this_all) (fun u20_r => m_g (¬ u20_r = 0) (m_n ((y2_l2 + (y2_this_all 40)) - (y2_l2 + (y2_this_all 40)) / u20_r * u20_r) (fun u24_e => Option.bind (f_X12_isLeft y2_l2 s_this y2_this_all) (fun u27_r => (if u27_r = 0 then f_X12_strikes_73 y2_l2 (f_X12_strikes_2 s_this x0 n) y2_this_all else Option.bind (f_X12_isFixed u24_e s_this y2_this_all) (fun u35_r => (if u35_r = 0 then f_X12_strikes_73 y2_l2 (f_X12_strikes_2 s_this x0 n) y2_this_all else Option.bind (f_X12_roleOf u24_e s_this y2_this_all) (fun u43_r => (if u43_r = x0 then f_X12_strikes_73 y2_l2 (f_X12_strikes_2 s_this x0 n) y2_this_all else m_in (124 + (y2_l2 / 32)) 680 (m_n ((y2_this_all (124 + (y2_l2 / 32)).toNatClampNeg) &&& (((1 : Int32) <<< ((y2_l2 - y2_l2 / 32 * 32) &&& 31)) ^^^ (-1))) (fun u72_e => m_in (124 + (y2_l2 / 32)) 680 (f_X12_strikes_73 y2_l2 (f_X12_strikes_2 s_this x0 n) (upd y2_this_all (124 + (y2_l2 / 32)).toNatClampNeg u72_e)))))))))))))))) := rfl
theorem f_X12_leftMany_4_s (r_this_all : Nat → Int32) (n : Nat) (y4_l1 : Int32) (y4_l2 : Int32) : f_X12_leftMany_4 r_this_all (n + 1) y4_l1 y4_l2 = ((if 9 ≤ y4_l2 then some y4_l1 else m_in (124 + y4_l2) 680 (Option.bind (f_X12_ones (r_this_all (124 + y4_l2).toNatClampNeg)) (fun u20_r => (f_X12_leftMany_4 r_this_all n) (y4_l1 + u20_r) (y4_l2 + 1))))) := rfl
theorem f_X12_ones_4_s (x0 : Int32) (n : Nat) (y4_l1 : Int32) (y4_l2 : Int32) : f_X12_ones_4 x0 (n + 1) y4_l1 y4_l2 = ((if 32 ≤ y4_l2 then some y4_l1 else (f_X12_ones_4 x0 n) (y4_l1 + ((x0 >>> (y4_l2 &&& 31)) &&& 1)) (y4_l2 + 1))) := rfl
theorem f_X12_leftAt_4_s (s_this : SX12) (r_this_all : Nat → Int32) (x0 : Int32) (n : Nat) (y4_l2 : Int32) (y4_l3 : Int32) : f_X12_leftAt_4 s_this r_this_all x0 (n + 1) y4_l2 y4_l3 = (Option.bind (f_X12_round s_this r_this_all) (fun u6_r => (if u6_r ≤ y4_l3 then some (-1) else Option.bind (f_X12_isLeft y4_l3 s_this r_this_all) (fun u14_r => (if u14_r = 0 then f_X12_leftAt_30 y4_l3 (f_X12_leftAt_4 s_this r_this_all x0 n) y4_l2 else (if y4_l2 = x0 then some y4_l3 else f_X12_leftAt_30 y4_l3 (f_X12_leftAt_4 s_this r_this_all x0 n) (y4_l2 + 1))))))) := rfl
theorem f_X12_fixedFrom_5_s (x1 : Int32) (s_this : SX12) (r_this_all : Nat → Int32) (x0 : Int32) (n : Nat) (y5_l3 : Int32) (y5_l4 : Int32) : f_X12_fixedFrom_5 x1 s_this r_this_all x0 (n + 1) y5_l3 y5_l4 = ((if x1 ≤ y5_l4 then some y5_l3 else Option.bind (f_X12_round s_this r_this_all) (fun u18_r => m_g (¬ u18_r = 0) (Option.bind (f_X12_isFixed ((x0 + y5_l4) - (x0 + y5_l4) / u18_r * u18_r) s_this r_this_all) (fun u22_r => (if u22_r = 0 then f_X12_fixedFrom_33 y5_l3 y5_l4 (f_X12_fixedFrom_5 x1 s_this r_this_all x0 n) 0 else f_X12_fixedFrom_33 y5_l3 y5_l4 (f_X12_fixedFrom_5 x1 s_this r_this_all x0 n) 1)))))) := rfl
theorem f_X12_ticks_100_s (s_this : SX12) (n : Nat) (y100_l1 : Int32) (y100_this_all : (Nat → Int32)) : f_X12_ticks_100 s_this (n + 1) y100_l1 y100_this_all = ((if 3 ≤ y100_l1 then Option.bind (f_X12_signals s_this (upd (upd y100_this_all 48 ((y100_this_all 48) - 1)) 46 (((upd y100_this_all 48 ((y100_this_all 48) - 1)) 46) + 1))) (fun u170_this_all => some u170_this_all) else m_in (69 + y100_l1) 680 (m_in (75 + y100_l1) 680 (m_in (72 + y100_l1) 680 (m_n ((upd y100_this_all (75 + y100_l1).toNatClampNeg (y100_this_all (69 + y100_l1).toNatClampNeg)) (72 + y100_l1).toNatClampNeg) (fun u140_e => m_in (69 + y100_l1) 680 ((f_X12_ticks_100 s_this n) (y100_l1 + 1) (upd (upd y100_this_all (75 + y100_l1).toNatClampNeg (y100_this_all (69 + y100_l1).toNatClampNeg)) (69 + y100_l1).toNatClampNeg u140_e)))))))) := rfl
theorem f_X9_listen_5_s (x1 : Int32) (n_this_line_bits : Nat) (s_p0 : SX5) (r_p0_roles : Nat → Int32) (s_this_line : Int32) (r_this_line_bits : Nat → Int8) (n : Nat) (y5_l3 : Int32) (y5_this_receiver : SX4) (y5_this_receiver_hunt : SX1) (y5_this_receiver_hunt_rows : (Nat → Int32)) (y5_this_receiver_store : SX7) (y5_this_receiver_ear : SX0) (y5_this_receiver_ear_values : (Nat → Int32)) : f_X9_listen_5 x1 n_this_line_bits s_p0 r_p0_roles s_this_line r_this_line_bits (n + 1) y5_l3 y5_this_receiver y5_this_receiver_hunt y5_this_receiver_hunt_rows y5_this_receiver_store y5_this_receiver_ear y5_this_receiver_ear_values = ((if x1 ≤ y5_l3 then some (x1, y5_this_receiver, y5_this_receiver_hunt, y5_this_receiver_hunt_rows, y5_this_receiver_store, y5_this_receiver_ear, y5_this_receiver_ear_values) else Option.bind (f_X4_take n_this_line_bits y5_l3 y5_this_receiver y5_this_receiver_hunt y5_this_receiver_hunt_rows y5_this_receiver_store y5_this_receiver_ear y5_this_receiver_ear_values s_p0 r_p0_roles s_this_line r_this_line_bits) (fun z => match z with | (u20_this_receiver, u20_this_receiver_hunt, u20_this_receiver_hunt_rows, u20_this_receiver_store, u20_this_receiver_ear, u20_this_receiver_ear_values) => (f_X9_listen_5 x1 n_this_line_bits s_p0 r_p0_roles s_this_line r_this_line_bits n) (y5_l3 + 1) u20_this_receiver u20_this_receiver_hunt u20_this_receiver_hunt_rows u20_this_receiver_store u20_this_receiver_ear u20_this_receiver_ear_values))) := rfl
theorem f_X12_ahead_39_s (x2 : Int32) (u36_this_raised : Int32) (u36_this_undos : Int32) (u36_this_reached : Int32) (u36_this_length : Int32) (u36_this_begin : Int32) (u36_this_sort : Int32) (u36_this_value : Int32) (u36_this_signs : Int32) (u36_this_word : Int64) (u36_this_wrongAt : Int32) (u36_this_badAt : Int32) (u36_this_x : Int32) (u36_this_line : Nat → Int8) (n : Nat) (y39_this_all : (Nat → Int32)) : f_X12_ahead_39 x2 u36_this_raised u36_this_undos u36_this_reached u36_this_length u36_this_begin u36_this_sort u36_this_value u36_this_signs u36_this_word u36_this_wrongAt u36_this_badAt u36_this_x u36_this_line (n + 1) y39_this_all = ((if (y39_this_all 32) ≤ (y39_this_all 33) then Option.bind (f_X12_told x2 (u36_this_raised, u36_this_undos, u36_this_reached, u36_this_length, u36_this_begin, u36_this_sort, u36_this_value, u36_this_signs, u36_this_word, u36_this_wrongAt, u36_this_badAt, u36_this_x) y39_this_all) (fun u89_r => Option.bind (f_X12_back u89_r (u36_this_raised, u36_this_undos, u36_this_reached, u36_this_length, u36_this_begin, u36_this_sort, u36_this_value, u36_this_signs, u36_this_word, u36_this_wrongAt, u36_this_badAt, u36_this_x) y39_this_all) (fun z => match z with | (u92_r, u92_this_all) => some (u92_r, (u36_this_raised, u36_this_undos, u36_this_reached, u36_this_length, u36_this_begin, u36_this_sort, u36_this_value, u36_this_signs, u36_this_word, u36_this_wrongAt, u36_this_badAt, u36_this_x), u92_this_all, u36_this_line))) else m_in (y39_this_all 33) 32000 (Option.bind (f_X12_hears ((u36_this_line (y39_this_all 33).toNatClampNeg).toInt32) (u36_this_raised, u36_this_undos, u36_this_reached, u36_this_length, u36_this_begin, u36_this_sort, u36_this_value, u36_this_signs, u36_this_word, u36_this_wrongAt, u36_this_badAt, u36_this_x) y39_this_all) (fun u69_this_all => (f_X12_ahead_39 x2 u36_this_raised u36_this_undos u36_this_reached u36_this_length u36_this_begin u36_this_sort u36_this_value u36_this_signs u36_this_word u36_this_wrongAt u36_this_badAt u36_this_x u36_this_line n) (upd u69_this_all 33 ((u69_this_all 33) + 1)))))) := rfl
theorem f_X12_copies_2_s (x0 : Int32) (x1 : Int32) (n : Nat) (y2_l3 : Int32) (y2_this_all : (Nat → Int32)) : f_X12_copies_2 x0 x1 (n + 1) y2_l3 y2_this_all = ((if 136 ≤ y2_l3 then some y2_this_all else m_in ((136 * x0) + y2_l3) 680 (m_in ((136 * x1) + y2_l3) 680 ((f_X12_copies_2 x0 x1 n) (y2_l3 + 1) (upd y2_this_all ((136 * x1) + y2_l3).toNatClampNeg (y2_this_all ((136 * x0) + y2_l3).toNatClampNeg)))))) := rfl
theorem f_X1_nth_19_s (v_p0_roleCount : Int32) (v_p0_length : Int32) (r_this_rows : Nat → Int32) (x1 : Int32) (n : Nat) (y19_l3 : Int32) (y19_l4 : Int32) : f_X1_nth_19 v_p0_roleCount v_p0_length r_this_rows x1 (n + 1) y19_l3 y19_l4 = ((if v_p0_roleCount ≤ y19_l4 then some (-1) else f_X1_nth_31 v_p0_length y19_l4 r_this_rows x1 (f_X1_nth_19 v_p0_roleCount v_p0_length r_this_rows x1 n) 65536 y19_l3 0)) := rfl
theorem f_X1_nth_31_s (v_p0_length : Int32) (y19_l4 : Int32) (r_this_rows : Nat → Int32) (x1 : Int32) (k19 : Int32 → Int32 → Option (Int32)) (n : Nat) (y31_l3 : Int32) (y31_l5 : Int32) : f_X1_nth_31 v_p0_length y19_l4 r_this_rows x1 k19 (n + 1) y31_l3 y31_l5 = ((if v_p0_length ≤ y31_l5 then f_X1_nth_84 y31_l3 y19_l4 k19 else (if 24 ≤ y31_l5 then f_X1_nth_84 y31_l3 y19_l4 k19 else m_in y31_l5 24 (m_n (y31_l3 + (((r_this_rows y31_l5.toNatClampNeg) >>> (y19_l4 &&& 31)) &&& 1)) (fun u61_e => (if u61_e ≤ x1 then (f_X1_nth_31 v_p0_length y19_l4 r_this_rows x1 k19 n) u61_e (y31_l5 + 1) else some ((y19_l4 * v_p0_length) + y31_l5))))))) := rfl
theorem b_1 : ∀ j, j < 32 → bt 1 j = decide (j = 0) := by decide +kernel
theorem b_nI01 (b : Bool) : ∀ j, j < 32 → bt (nI b.toNat) j = (decide (j = 0) && b) := by
  cases b <;> decide +kernel
theorem bt1 (x : Int32) (i : Nat) (hi : i < 32) : (x >>> (nI i &&& 31)) &&& 1 = nI (bt x i).toNat := by
  apply b_ext
  intro j hj
  rw [b_and, b_1 j hj, b_nI01 _ j hj, b_sshr i hi x hj]
  by_cases h : j = 0
  · subst h; simp [hi]
  · simp [h]
theorem b_clr (w : Int32) (i j : Nat) (hi : i < 32) (hj : j < 32) : bt (w &&& (((1 : Int32) <<< (nI i &&& 31)) ^^^ (-1))) j = (bt w j && !decide (j = i)) := by
  rw [b_and, b_xor, b_shl i hi _ hj, b_m1 j hj]
  by_cases h : i ≤ j
  · rw [b_1 (j - i) (by omega)]
    have e : (j - i = 0) ↔ (j = i) := by omega
    simp [h, e]
  · have e : ¬ j = i := by omega
    simp [h, e]
def osum (g : Nat → Bool) : Nat → Nat
  | 0 => 0
  | n + 1 => osum g n + (g n).toNat
theorem osum_le (g : Nat → Bool) (n : Nat) : osum g n ≤ n := by
  induction n with
  | zero => exact Nat.le_refl _
  | succ n ih => unfold osum; have : (g n).toNat ≤ 1 := Bool.toNat_le _; omega
theorem ones_go (x : Int32) (m : Nat) : ∀ (k f : Nat) (_ : k + m = 32) (_ : m ≤ f), f_X12_ones_4 x (f + 1) (nI (osum (bt x) k)) (nI k) = some (nI (osum (bt x) 32)) := by
  induction m with
  | zero => intro k f hk _
            have : k = 32 := by omega
            subst this
            rw [f_X12_ones_4_s, if_pos (by decide)]
  | succ m ih =>
    intro k f hk hf
    obtain ⟨f, rfl⟩ : ∃ q, f = q + 1 := ⟨f - 1, by omega⟩
    rw [f_X12_ones_4_s, if_neg (show ¬ (32 : Int32) ≤ nI k from nI_ge (a := k) (b := 32) (by omega) (by omega)), bt1 x k (by omega), nI_add, nI_1]
    exact ih (k + 1) f (by omega) (by omega)
theorem ones_is (x : Int32) : f_X12_ones x = some (nI (osum (bt x) 32)) := ones_go x 32 0 65535 (by omega) (by omega)
/-- the words of the candidates -/
def BW (a : Nat → Int32) (C : Nat → Bool) : Prop := (∀ p, p < 32 → bt (a 124) p = C p) ∧ (∀ p, p < 32 → bt (a 125) p = (decide (p < 16) && C (32 + p))) ∧ ∀ k, 126 ≤ k → k < 133 → a k = 0
def tot (C : Nat → Bool) : Nat := osum C 32 + osum (fun p => decide (p < 16) && C (32 + p)) 32
theorem osum_c {g h : Nat → Bool} (n : Nat) (e : ∀ p, p < n → g p = h p) : osum g n = osum h n := by
  induction n with
  | zero => rfl
  | succ n ih => unfold osum; rw [ih (fun p hp => e p (by omega)), e n (by omega)]
theorem tot_le (C : Nat → Bool) : tot C ≤ 64 := by
  unfold tot
  have h1 := osum_le C 32
  have h2 := osum_le (fun p => decide (p < 16) && C (32 + p)) 32
  omega
theorem lm_is {a : Nat → Int32} {C : Nat → Bool} (h : BW a C) (s : SX12) : f_X12_leftMany s a = some (nI (tot C)) := by
  have h1 : f_X12_ones (a 124) = some (nI (osum C 32)) := by rw [ones_is, osum_c 32 h.1]
  have h2 : f_X12_ones (a 125) = some (nI (osum (fun p => decide (p < 16) && C (32 + p)) 32)) := by rw [ones_is, osum_c 32 h.2.1]
  have h0 : f_X12_ones 0 = some 0 := by decide +kernel
  have key : ∀ (m k f n : Nat), k + m = 9 → m ≤ f → 2 ≤ k → f_X12_leftMany_4 a (f + 1) (nI n) (nI k) = some (nI n) := by
    intro m
    induction m with
    | zero => intro k f n hk _ _
              have : k = 9 := by omega
              subst this
              rw [f_X12_leftMany_4_s, if_pos (by decide)]
    | succ m ih =>
      intro k f n hk hf h2
      obtain ⟨f, rfl⟩ : ∃ q, f = q + 1 := ⟨f - 1, by omega⟩
      rw [f_X12_leftMany_4_s, if_neg (show ¬ (9 : Int32) ≤ nI k from nI_ge (a := k) (b := 9) (by omega) (by omega)), show (124 : Int32) = nI 124 from rfl, nI_add, m_inI (nI_in (c := 124 + k) (N := 680) (by omega) (by omega)), nI_clamp (by omega), h.2.2 (124 + k) (by omega) (by omega), h0, bso, nI_1, show nI n + 0 = nI n from nI_add n 0]
      exact ih (k + 1) f n (by omega) (by omega) (by omega)
  unfold f_X12_leftMany
  rw [show (65536 : Nat) = 65533 + 1 + 1 + 1 from rfl, f_X12_leftMany_4_s, if_neg (by decide), show (124 : Int32) + 0 = nI 124 from rfl, m_inI (nI_in (c := 124) (N := 680) (by omega) (by omega)), nI_clamp (by omega), h1, bso, show (0 : Int32) + nI (osum C 32) = nI (osum C 32) from by rw [show (0 : Int32) = nI 0 from rfl, nI_add, Nat.zero_add], f_X12_leftMany_4_s, if_neg (by decide), show (124 : Int32) + (0 + 1) = nI 125 from rfl, m_inI (nI_in (c := 125) (N := 680) (by omega) (by omega)), nI_clamp (by omega), h2, bso, nI_add]
  exact key 7 2 65533 (tot C) (by omega) (by omega) (by omega)
theorem il_is {a : Nat → Int32} {C : Nat → Bool} (h : BW a C) (s : SX12) {p : Nat} (hp : p < 48) : f_X12_isLeft (nI p) s a = some (if C p then 1 else 0) := by
  unfold f_X12_isLeft
  rw [show (32 : Int32) = nI 32 from rfl, pk_rem (by omega) (by decide) (by decide), pk_div (by omega) (by decide) (by decide), show (124 : Int32) = nI 124 from rfl, nI_add, m_inI (nI_in (c := 124 + p / 32) (N := 680) (by omega) (by omega)), nI_clamp (by omega), bt1 _ _ (by omega)]
  have e : bt (a (124 + p / 32)) (p % 32) = C p := by
    by_cases h32 : p < 32
    · rw [show p / 32 = 0 by omega, show p % 32 = p by omega]; exact h.1 p h32
    · rw [show p / 32 = 1 by omega, show p % 32 = p - 32 by omega]
      rw [show 124 + 1 = 125 from rfl, h.2.1 (p - 32) (by omega), show 32 + (p - 32) = p by omega]
      simp; omega
  rw [e]
  cases C p
  · rfl
  · rfl
