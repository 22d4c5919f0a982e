theorem f_X12_frame_75_s (v_this_undos : Int32) (v_this_reached : Int32) (v_this_length : Int32) (v_this_begin : Int32) (v_this_sort : Int32) (v_this_value : Int32) (v_this_signs : Int32) (v_this_word : Int64) (v_this_wrongAt : Int32) (v_this_badAt : Int32) (v_this_x : Int32) (r_this_all : Nat → Int32) (n : Nat) (y75_l2 : Int32) (y75_l3 : Int32) : f_X12_frame_75 v_this_undos v_this_reached v_this_length v_this_begin v_this_sort v_this_value v_this_signs v_this_word v_this_wrongAt v_this_badAt v_this_x r_this_all (n + 1) y75_l2 y75_l3 = (Option.bind (f_X12_channels (0, v_this_undos, v_this_reached, v_this_length, v_this_begin, v_this_sort, v_this_value, v_this_signs, v_this_word, v_this_wrongAt, v_this_badAt, v_this_x) r_this_all) (fun u77_r => (if u77_r ≤ y75_l3 then some (y75_l2, (0, v_this_undos, v_this_reached, v_this_length, v_this_begin, v_this_sort, v_this_value, v_this_signs, v_this_word, v_this_wrongAt, v_this_badAt, v_this_x)) else Option.bind (f_X12_channelBits y75_l3 (0, v_this_undos, v_this_reached, v_this_length, v_this_begin, v_this_sort, v_this_value, v_this_signs, v_this_word, v_this_wrongAt, v_this_badAt, v_this_x) r_this_all) (fun u86_r => Option.bind (f_X12_ones u86_r) (fun u89_r => (f_X12_frame_75 v_this_undos v_this_reached v_this_length v_this_begin v_this_sort v_this_value v_this_signs v_this_word v_this_wrongAt v_this_badAt v_this_x r_this_all n) (y75_l2 + u89_r) (y75_l3 + 1)))))) := rfl
theorem f_X12_channelBits_4_s (r_this_all : Nat → Int32) (x0 : Int32) (s_this : SX12) (n : Nat) (y4_l2 : Int32) (y4_l3 : Int32) : f_X12_channelBits_4 r_this_all x0 s_this (n + 1) y4_l2 y4_l3 = ((if (r_this_all 2) < y4_l3 then some y4_l2 else Option.bind (f_X12_bitOf (r_this_all 75) ((x0 * (r_this_all 2)) + y4_l3) s_this r_this_all) (fun u35_r => (f_X12_channelBits_4 r_this_all x0 s_this n) ((y4_l2 <<< ((1 : Int32) &&& 31)) ||| u35_r) (y4_l3 + 1)))) := rfl
theorem f_X12_struck_40_s (r_this_all : Nat → Int32) (v_this_undos : Int32) (v_this_reached : Int32) (v_this_length : Int32) (v_this_begin : Int32) (v_this_sort : Int32) (v_this_value : Int32) (v_this_signs : Int32) (v_this_word : Int64) (v_this_wrongAt : Int32) (v_this_badAt : Int32) (v_this_x : Int32) (x1 : Int32) (x0 : Int32) (r_this_line : Nat → Int8) (n : Nat) (y40_l3 : Int32) : f_X12_struck_40 r_this_all v_this_undos v_this_reached v_this_length v_this_begin v_this_sort v_this_value v_this_signs v_this_word v_this_wrongAt v_this_badAt v_this_x x1 x0 r_this_line (n + 1) y40_l3 = ((if (r_this_all 32) ≤ y40_l3 then some ((-1), (0, v_this_undos, v_this_reached, v_this_length, v_this_begin, v_this_sort, v_this_value, v_this_signs, v_this_word, v_this_wrongAt, v_this_badAt, v_this_x)) else Option.bind (f_X12_round (0, v_this_undos, v_this_reached, v_this_length, v_this_begin, v_this_sort, v_this_value, v_this_signs, v_this_word, v_this_wrongAt, v_this_badAt, v_this_x) r_this_all) (fun u57_r => m_g (¬ u57_r = 0) (m_n (((x1 + y40_l3) - x0) - ((x1 + y40_l3) - x0) / u57_r * u57_r) (fun u61_e => Option.bind (f_X12_isFixed u61_e (0, v_this_undos, v_this_reached, v_this_length, v_this_begin, v_this_sort, v_this_value, v_this_signs, v_this_word, v_this_wrongAt, v_this_badAt, v_this_x) r_this_all) (fun u66_r => (if u66_r = 0 then f_X12_struck_89 y40_l3 (f_X12_struck_40 r_this_all v_this_undos v_this_reached v_this_length v_this_begin v_this_sort v_this_value v_this_signs v_this_word v_this_wrongAt v_this_badAt v_this_x x1 x0 r_this_line n) else Option.bind (f_X12_roleOf u61_e (0, v_this_undos, v_this_reached, v_this_length, v_this_begin, v_this_sort, v_this_value, v_this_signs, v_this_word, v_this_wrongAt, v_this_badAt, v_this_x) r_this_all) (fun u75_r => m_in y40_l3 32000 ((if u75_r = (r_this_line y40_l3.toNatClampNeg).toInt32 then f_X12_struck_89 y40_l3 (f_X12_struck_40 r_this_all v_this_undos v_this_reached v_this_length v_this_begin v_this_sort v_this_value v_this_signs v_this_word v_this_wrongAt v_this_badAt v_this_x x1 x0 r_this_line n) else some (y40_l3, (0, v_this_undos, v_this_reached, v_this_length, v_this_begin, v_this_sort, v_this_value, v_this_signs, v_this_word, v_this_wrongAt, v_this_badAt, v_this_x)))))))))))) := rfl
theorem f_X12_hearsFrom_6_s (x0 : Int32) (x1 : Int32) (r_this_line : Nat → Int8) (s_this : SX12) (n : Nat) (y6_l3 : Int32) (y6_this_all : (Nat → Int32)) : f_X12_hearsFrom_6 x0 x1 r_this_line s_this (n + 1) y6_l3 y6_this_all = ((if (y6_this_all 32) ≤ (x0 + y6_l3) then some (y6_l3, y6_this_all) else (if x1 = 0 then (if (y6_this_all 37) = 0 then f_X12_hearsFrom_33 x0 y6_l3 r_this_line s_this y6_this_all (f_X12_hearsFrom_6 x0 x1 r_this_line s_this n) else some (y6_l3, y6_this_all)) else f_X12_hearsFrom_33 x0 y6_l3 r_this_line s_this y6_this_all (f_X12_hearsFrom_6 x0 x1 r_this_line s_this n)))) := rfl
theorem f_X12_least_34_s (x0 : Int32) (v_this_undos : Int32) (v_this_reached : Int32) (v_this_length : Int32) (v_this_begin : Int32) (v_this_sort : Int32) (v_this_value : Int32) (v_this_signs : Int32) (v_this_word : Int64) (v_this_wrongAt : Int32) (v_this_badAt : Int32) (v_this_x : Int32) (r_this_line : Nat → Int8) (n : Nat) (y34_l2 : Int32) (y34_this_all : (Nat → Int32)) : f_X12_least_34 x0 v_this_undos v_this_reached v_this_length v_this_begin v_this_sort v_this_value v_this_signs v_this_word v_this_wrongAt v_this_badAt v_this_x r_this_line (n + 1) y34_l2 y34_this_all = (((if x0 < y34_l2 then Option.bind (f_X12_back (-1) (0, v_this_undos, v_this_reached, v_this_length, v_this_begin, v_this_sort, v_this_value, v_this_signs, v_this_word, v_this_wrongAt, v_this_badAt, v_this_x) y34_this_all) (fun z => match z with | (u73_r, u73_this_all) => some (u73_r, (0, v_this_undos, v_this_reached, v_this_length, v_this_begin, v_this_sort, v_this_value, v_this_signs, v_this_word, v_this_wrongAt, v_this_badAt, v_this_x), u73_this_all)) else m_in (y34_l2 - 1) 32000 (Option.bind (f_X12_strikes ((r_this_line (y34_l2 - 1).toNatClampNeg).toInt32) (0, v_this_undos, v_this_reached, v_this_length, v_this_begin, v_this_sort, v_this_value, v_this_signs, v_this_word, v_this_wrongAt, v_this_badAt, v_this_x) y34_this_all) (fun u48_this_all => Option.bind (f_X12_leftMany (0, v_this_undos, v_this_reached, v_this_length, v_this_begin, v_this_sort, v_this_value, v_this_signs, v_this_word, v_this_wrongAt, v_this_badAt, v_this_x) u48_this_all) (fun u52_r => (if u52_r = 1 then Option.bind (f_X12_back y34_l2 (0, v_this_undos, v_this_reached, v_this_length, v_this_begin, v_this_sort, v_this_value, v_this_signs, v_this_word, v_this_wrongAt, v_this_badAt, v_this_x) u48_this_all) (fun z => match z with | (u61_r, u61_this_all) => some (u61_r, (0, v_this_undos, v_this_reached, v_this_length, v_this_begin, v_this_sort, v_this_value, v_this_signs, v_this_word, v_this_wrongAt, v_this_badAt, v_this_x), u61_this_all)) else (f_X12_least_34 x0 v_this_undos v_this_reached v_this_length v_this_begin v_this_sort v_this_value v_this_signs v_this_word v_this_wrongAt v_this_badAt v_this_x r_this_line n) (y34_l2 + 1) u48_this_all)))))) : Option (Int32 × SX12 × (Nat → Int32))) := rfl
theorem f_X12_lostAt_10_s (x0 : Int32) (r_this_line : Nat → Int8) (s_this : SX12) (r_this_all : Nat → Int32) (n : Nat) (y10_l3 : Int32) (y10_this_all : (Nat → Int32)) : f_X12_lostAt_10 x0 r_this_line s_this r_this_all (n + 1) y10_l3 y10_this_all = ((if x0 ≤ y10_l3 then some ((-1), y10_this_all) else m_in (y10_this_all 33) 32000 (Option.bind (f_X12_hears ((r_this_line (y10_this_all 33).toNatClampNeg).toInt32) s_this y10_this_all) (fun u28_this_all => (if ((upd u28_this_all 33 ((u28_this_all 33) + 1)) 38) ≤ (r_this_all 38) then (f_X12_lostAt_10 x0 r_this_line s_this r_this_all n) (y10_l3 + 1) (upd u28_this_all 33 ((u28_this_all 33) + 1)) else some (y10_l3, (upd u28_this_all 33 ((u28_this_all 33) + 1)))))))) := rfl
theorem f_X12_weak_49_s (r_this_all : Nat → Int32) (v_this_undos : Int32) (v_this_reached : Int32) (v_this_length : Int32) (v_this_begin : Int32) (v_this_sort : Int32) (v_this_value : Int32) (v_this_signs : Int32) (v_this_word : Int64) (v_this_wrongAt : Int32) (v_this_badAt : Int32) (v_this_x : Int32) (u23_r : Int32) (n : Nat) (y49_l3 : Int32) (y49_l4 : Int32) (y49_l5 : Int32) (y49_this_all : (Nat → Int32)) (y49_this_line : (Nat → Int8)) : f_X12_weak_49 r_this_all v_this_undos v_this_reached v_this_length v_this_begin v_this_sort v_this_value v_this_signs v_this_word v_this_wrongAt v_this_badAt v_this_x u23_r (n + 1) y49_l3 y49_l4 y49_l5 y49_this_all y49_this_line = ((if ((r_this_all 33) + 40) ≤ y49_l5 then some (y49_l3, (0, v_this_undos, v_this_reached, v_this_length, v_this_begin, v_this_sort, v_this_value, v_this_signs, v_this_word, v_this_wrongAt, v_this_badAt, v_this_x), y49_this_all, y49_this_line) else (if ((r_this_all 33) + u23_r) ≤ y49_l5 then some (y49_l3, (0, v_this_undos, v_this_reached, v_this_length, v_this_begin, v_this_sort, v_this_value, v_this_signs, v_this_word, v_this_wrongAt, v_this_badAt, v_this_x), y49_this_all, y49_this_line) else m_in y49_l5 32000 (m_n ((1 - (y49_this_line y49_l5.toNatClampNeg).toInt32).toInt8.toInt32) (fun u82_e => m_in y49_l5 32000 (Option.bind (f_X12_lostAt u23_r (0, v_this_undos, v_this_reached, v_this_length, v_this_begin, v_this_sort, v_this_value, v_this_signs, v_this_word, v_this_wrongAt, v_this_badAt, v_this_x) y49_this_all (upB y49_this_line y49_l5.toNatClampNeg u82_e.toInt8)) (fun z => match z with | (u85_r, u85_this_all) => m_in y49_l5 32000 (m_n ((1 - ((upB y49_this_line y49_l5.toNatClampNeg u82_e.toInt8) y49_l5.toNatClampNeg).toInt32).toInt8.toInt32) (fun u106_e => m_in y49_l5 32000 (Option.bind (f_X12_copies 4 0 (0, v_this_undos, v_this_reached, v_this_length, v_this_begin, v_this_sort, v_this_value, v_this_signs, v_this_word, v_this_wrongAt, v_this_badAt, v_this_x) u85_this_all) (fun u110_this_all => (if u85_r = (-1) then f_X12_weak_139 y49_l5 u110_this_all y49_this_line u82_e u106_e (f_X12_weak_49 r_this_all v_this_undos v_this_reached v_this_length v_this_begin v_this_sort v_this_value v_this_signs v_this_word v_this_wrongAt v_this_badAt v_this_x u23_r n) y49_l3 y49_l4 else (if y49_l4 = (-1) then f_X12_weak_132 y49_l5 u110_this_all y49_this_line u82_e u106_e u85_r (f_X12_weak_49 r_this_all v_this_undos v_this_reached v_this_length v_this_begin v_this_sort v_this_value v_this_signs v_this_word v_this_wrongAt v_this_badAt v_this_x u23_r n) else (if y49_l4 ≤ u85_r then f_X12_weak_139 y49_l5 u110_this_all y49_this_line u82_e u106_e (f_X12_weak_49 r_this_all v_this_undos v_this_reached v_this_length v_this_begin v_this_sort v_this_value v_this_signs v_this_word v_this_wrongAt v_this_badAt v_this_x u23_r n) y49_l3 y49_l4 else f_X12_weak_132 y49_l5 u110_this_all y49_this_line u82_e u106_e u85_r (f_X12_weak_49 r_this_all v_this_undos v_this_reached v_this_length v_this_begin v_this_sort v_this_value v_this_signs v_this_word v_this_wrongAt v_this_badAt v_this_x u23_r n))))))))))))))) := rfl
theorem f_X12_copiesAll_8_s (u3_this_all : Nat → Int32) (x0 : Int32) (x1 : Int32) (r_this_text : Nat → Int8) (n : Nat) (y8_l3 : Int32) (y8_this_line : (Nat → Int8)) : f_X12_copiesAll_8 u3_this_all x0 x1 r_this_text (n + 1) y8_l3 y8_this_line = ((if 4000 ≤ y8_l3 then f_X12_copiesAll_47 u3_this_all y8_this_line x0 x1 65536 0 r_this_text else m_in ((6400 * x0) + y8_l3) 32000 (m_in ((6400 * x1) + y8_l3) 32000 ((f_X12_copiesAll_8 u3_this_all x0 x1 r_this_text n) (y8_l3 + 1) (upB y8_this_line ((6400 * x1) + y8_l3).toNatClampNeg ((y8_this_line ((6400 * x0) + y8_l3).toNatClampNeg).toInt32).toInt8))))) := rfl
theorem f_X12_copiesAll_47_s (u3_this_all : Nat → Int32) (y8_this_line : Nat → Int8) (x0 : Int32) (x1 : Int32) (n : Nat) (y47_l3 : Int32) (y47_this_text : (Nat → Int8)) : f_X12_copiesAll_47 u3_this_all y8_this_line x0 x1 (n + 1) y47_l3 y47_this_text = ((if 300 ≤ y47_l3 then some (u3_this_all, y8_this_line, y47_this_text) else m_in ((300 * x0) + y47_l3) 1200 (m_in ((300 * x1) + y47_l3) 1200 ((f_X12_copiesAll_47 u3_this_all y8_this_line x0 x1 n) (y47_l3 + 1) (upB y47_this_text ((300 * x1) + y47_l3).toNatClampNeg ((y47_this_text ((300 * x0) + y47_l3).toNatClampNeg).toInt32).toInt8))))) := rfl
theorem f_X12_canBe_2_s (x1 : Int32) (s_this : SX12) (r_this_all : Nat → Int32) (x0 : Int32) (r_this_line : Nat → Int8) (n : Nat) (y2_l3 : Int32) : f_X12_canBe_2 x1 s_this r_this_all x0 r_this_line (n + 1) y2_l3 = ((if x1 ≤ y2_l3 then some 1 else Option.bind (f_X12_round s_this r_this_all) (fun u11_r => m_g (¬ u11_r = 0) (Option.bind (f_X12_isFixed ((x0 + y2_l3) - (x0 + y2_l3) / u11_r * u11_r) s_this r_this_all) (fun u20_r => (if u20_r = 0 then f_X12_canBe_43 y2_l3 (f_X12_canBe_2 x1 s_this r_this_all x0 r_this_line n) else Option.bind (f_X12_roleOf ((x0 + y2_l3) - (x0 + y2_l3) / u11_r * u11_r) s_this r_this_all) (fun u29_r => m_in y2_l3 32000 ((if u29_r = (r_this_line y2_l3.toNatClampNeg).toInt32 then f_X12_canBe_43 y2_l3 (f_X12_canBe_2 x1 s_this r_this_all x0 r_this_line n) else some 0))))))))) := rfl
theorem f_X12_fits_27_s (v_this_undos : Int32) (v_this_reached : Int32) (v_this_length : Int32) (v_this_begin : Int32) (v_this_sort : Int32) (v_this_value : Int32) (v_this_signs : Int32) (v_this_word : Int64) (v_this_wrongAt : Int32) (v_this_badAt : Int32) (v_this_x : Int32) (r_this_all : Nat → Int32) (x1 : Int32) (x0 : Int32) (r_this_line : Nat → Int8) (n : Nat) (y27_l3 : Int32) (y27_l4 : Int32) : f_X12_fits_27 v_this_undos v_this_reached v_this_length v_this_begin v_this_sort v_this_value v_this_signs v_this_word v_this_wrongAt v_this_badAt v_this_x r_this_all x1 x0 r_this_line (n + 1) y27_l3 y27_l4 = (Option.bind (f_X12_round (0, v_this_undos, v_this_reached, v_this_length, v_this_begin, v_this_sort, v_this_value, v_this_signs, v_this_word, v_this_wrongAt, v_this_badAt, v_this_x) r_this_all) (fun u30_r => (if u30_r ≤ y27_l4 then (if x1 = (-1) then some (y27_l3, (0, v_this_undos, v_this_reached, v_this_length, v_this_begin, v_this_sort, v_this_value, v_this_signs, v_this_word, v_this_wrongAt, v_this_badAt, v_this_x)) else some ((-1), (0, v_this_undos, v_this_reached, v_this_length, v_this_begin, v_this_sort, v_this_value, v_this_signs, v_this_word, v_this_wrongAt, v_this_badAt, v_this_x))) else Option.bind (f_X12_canBe y27_l4 x0 (0, v_this_undos, v_this_reached, v_this_length, v_this_begin, v_this_sort, v_this_value, v_this_signs, v_this_word, v_this_wrongAt, v_this_badAt, v_this_x) r_this_all r_this_line) (fun u40_r => (if u40_r = 0 then f_X12_fits_57 y27_l4 (f_X12_fits_27 v_this_undos v_this_reached v_this_length v_this_begin v_this_sort v_this_value v_this_signs v_this_word v_this_wrongAt v_this_badAt v_this_x r_this_all x1 x0 r_this_line n) y27_l3 else (if y27_l3 = x1 then some (y27_l4, (0, v_this_undos, v_this_reached, v_this_length, v_this_begin, v_this_sort, v_this_value, v_this_signs, v_this_word, v_this_wrongAt, v_this_badAt, v_this_x)) else f_X12_fits_57 y27_l4 (f_X12_fits_27 v_this_undos v_this_reached v_this_length v_this_begin v_this_sort v_this_value v_this_signs v_this_word v_this_wrongAt v_this_badAt v_this_x r_this_all x1 x0 r_this_line n) (y27_l3 + 1))))))) := rfl
theorem told_t (w : Nat) (hw : w < 18) (s : SX12) (a : Nat → Int32) : ∃ v, f_X12_told (nI w) s a = some v := by
  obtain ⟨m, hm⟩ := lm_t s a
  have k : ∀ y, ∃ v, f_X12_told_15 (nI w) a s y = some v := by
    intro y
    unfold f_X12_told_15
    obtain rfl | rfl | rfl | rfl | rfl | rfl | rfl | rfl | rfl | rfl | rfl | rfl | rfl | rfl | rfl | rfl | rfl | rfl : w = 0 ∨ w = 1 ∨ w = 2 ∨ w = 3 ∨ w = 4 ∨ w = 5 ∨ w = 6 ∨ w = 7 ∨ w = 8 ∨ w = 9 ∨ w = 10 ∨ w = 11 ∨ w = 12 ∨ w = 13 ∨ w = 14 ∨ w = 15 ∨ w = 16 ∨ w = 17 := by omega
    · exact ⟨_, rfl⟩
    · rw [if_neg (by decide), if_pos (by decide), hm]
      split
      · exact ⟨_, rfl⟩
      · exact ⟨_, rfl⟩
    · exact ⟨_, rfl⟩
    · exact ⟨_, rfl⟩
    · exact ⟨_, rfl⟩
    · exact ⟨_, rfl⟩
    · rw [if_neg (by decide), if_neg (by decide), if_neg (by decide), if_neg (by decide), if_neg (by decide), if_neg (by decide), if_pos (by decide)]
      split
      · exact ⟨_, rfl⟩
      · exact ⟨_, rfl⟩
    · exact ⟨_, rfl⟩
    · rw [if_neg (by decide), if_neg (by decide), if_neg (by decide), if_neg (by decide), if_neg (by decide), if_neg (by decide), if_neg (by decide), if_neg (by decide), if_pos (by decide), ones_is]
      split
      · exact ⟨_, rfl⟩
      · exact ⟨_, rfl⟩
    · exact ⟨_, rfl⟩
    · exact ⟨_, rfl⟩
    · exact ⟨_, rfl⟩
    · exact ⟨_, rfl⟩
    · exact ⟨_, rfl⟩
    · exact ⟨_, rfl⟩
    · exact ⟨_, rfl⟩
    · exact ⟨_, rfl⟩
    · exact ⟨_, rfl⟩
  unfold f_X12_told
  split
  · exact k 1
  · exact k 0
theorem rcv_t (x0 : Int32) (s : SX12) (a : Nat → Int32) : Tt (f_X12_receiver x0 s a) (fun q => q.2.2.1 = s.2.1) := by
  obtain ⟨ra, u, re, le, be, so, va, si, w, wa, bd, x⟩ := s
  unfold f_X12_receiver
  simp only []
  obtain ⟨q, e, hq⟩ := in_is x0 0 17
  rw [e, bso]
  refine tt_i (fun _ => tt_r rfl) (fun c => ?_)
  obtain ⟨k, rfl, _, hk⟩ := in_n (a := 0) (b := 17) (by decide) (by decide) hq c
  obtain ⟨v, e2⟩ := told_t k (by omega) (0, u, re, le, be, so, va, si, w, wa, bd, x) a
  rw [e2, bso]
  exact tt_r rfl
theorem can_t (x0 : Int32) (s : SX12) (a : Nat → Int32) (hB : IB a 0) : Tt (f_X12_candidate x0 s a) (fun q => q.2.2.1 = s.2.1) := by
  obtain ⟨ra, u, re, le, be, so, va, si, w, wa, bd, x⟩ := s
  obtain ⟨L, w', st, r, sy, bt, hd, po, si', sd, tk, hS, _⟩ := hB.sb
  unfold f_X12_candidate
  refine tt_i (fun _ => ?_) (fun _ => tt_r rfl)
  obtain ⟨v, e, _⟩ := la_t hS (0, u, re, le, be, so, va, si, w, wa, bd, x) x0
  rw [e, bso]
  exact tt_r rfl
theorem chn_t {a : Nat → Int32} {L w st r : Nat} (h : SB a L w st r) (s : SX12) : f_X12_channels s a = some (nI ((L - 1) / w)) := by
  obtain ⟨⟨a1, a2⟩, ⟨b1, b2⟩, _, _, h0, h2, _, _⟩ := h
  unfold f_X12_channels
  rw [h0, h2, m_gI (nI_ne0 (by omega) (by omega)), show nI L - 1 = nI (L - 1) from pk_sub (b := 1) (by omega), pk_div (by omega) (by omega) (by omega)]
theorem cb_t {a : Nat → Int32} {L w st r : Nat} (h : SB a L w st r) (s : SX12) (x0 : Int32) : ∃ v, f_X12_channelBits x0 s a = some v := by
  obtain ⟨_, ⟨b1, b2⟩, _, _, _, h2, _, _⟩ := h
  have key : ∀ (m k f : Nat) (l : Int32), k + m = w + 1 → m ≤ f → ∃ v, f_X12_channelBits_4 a x0 s (f + 1) l (nI k) = some v := by
    intro m
    induction m with
    | zero =>
      intro k f l hk _
      rw [f_X12_channelBits_4_s, h2, if_pos (nI_lt (by omega) (by omega))]; exact ⟨_, rfl⟩
    | succ m ih =>
      intro k f l hk hf
      obtain ⟨f, rfl⟩ : ∃ q, f = q + 1 := ⟨f - 1, by omega⟩
      rw [f_X12_channelBits_4_s]
      split
      · exact ⟨_, rfl⟩
      · unfold f_X12_bitOf
        rw [bso, nI_1]
        exact ih (k + 1) f _ (by omega) (by omega)
  exact key w 1 65535 0 (by omega) (by omega)
/-- a number between 0 and one less than there are -/
theorem in_c {x0 q : Int32} {n : Nat} (hn : n ≤ 5000) (h : q = 0 ∨ (q = 1 ∧ ¬ x0 < 0 ∧ ¬ nI n - 1 < x0)) (c : ¬ q = 0) : ∃ k : Nat, x0 = nI k ∧ k < n := by
  rcases h with h | ⟨_, l1, l2⟩
  · exact absurd h c
  · obtain ⟨k, e, _, h2⟩ := bt_n (a := 0) (b := n) (by omega) (by omega) 1 (by omega) l1 l2
    exact ⟨k, e, by omega⟩
theorem frm_t (x0 : Int32) (s : SX12) (a : Nat → Int32) (hB : IB a 0) : Tt (f_X12_frame x0 s a) (fun q => q.2.2.1 = s.2.1) := by
  obtain ⟨ra, u, re, le, be, so, va, si, w, wa, bd, x⟩ := s
  obtain ⟨L, w', st, r, sy, bt, hd, po, si', sd, tk, hS, _⟩ := hB.sb
  have hc : (L - 1) / w' ≤ 23 := Nat.le_trans (Nat.div_le_self _ _) (by have := hS.1; omega)
  have loop : ∀ (m k f : Nat) (l : Int32), k + m = (L - 1) / w' → m ≤ f → Tt (f_X12_frame_75 u re le be so va si w wa bd x a (f + 1) l (nI k)) (fun q => q.2.2.1 = u) := by
    intro m
    induction m with
    | zero =>
      intro k f l hk _
      rw [f_X12_frame_75_s, chn_t hS, bso, if_pos (nI_le (by omega) (by omega))]
      exact tt_r rfl
    | succ m ih =>
      intro k f l hk hf
      obtain ⟨f, rfl⟩ : ∃ q, f = q + 1 := ⟨f - 1, by omega⟩
      rw [f_X12_frame_75_s, chn_t hS, bso, if_neg (nI_ge (by omega) (by omega))]
      obtain ⟨v, e⟩ := cb_t hS (0, u, re, le, be, so, va, si, w, wa, bd, x) (nI k)
      rw [e, bso, ones_is, bso, nI_1]
      exact ih (k + 1) f _ (by omega) (by omega)
  unfold f_X12_frame f_X12_frame_26
  refine tt_i (fun _ => tt_r rfl) (fun _ => tt_i (fun c => ?_) (fun _ => tt_i (fun c => ?_) (fun _ => tt_i (fun _ => loop ((L - 1) / w') 0 65535 0 (by omega) (by omega)) (fun _ => ?_))))
  · subst c; exact tt_ik 76 (by decide) (by decide) (by decide) (tt_r rfl)
  · subst c; exact tt_ik 77 (by decide) (by decide) (by decide) (tt_r rfl)
  · rw [chn_t hS, bso]
    obtain ⟨q, e, _⟩ := in_is (x0 - 10) 0 (nI ((L - 1) / w') - 1)
    rw [e, bso]
    refine tt_i (fun _ => tt_r rfl) (fun _ => ?_)
    obtain ⟨v, e2⟩ := cb_t hS (0, u, re, le, be, so, va, si, w, wa, bd, x) (x0 - 10)
    rw [e2, bso]
    exact tt_r rfl
theorem sig_t (x0 : Int32) (s : SX12) (a : Nat → Int32) (hB : IB a 0) : Tt (f_X12_signal x0 s a) (fun q => q.2.2.1 = s.2.1) := by
  obtain ⟨ra, u, re, le, be, so, va, si, w, wa, bd, x⟩ := s
  obtain ⟨L, w', st, r, sy, bt, hd, po, si', sd, tk, hS, _⟩ := hB.sb
  have hc : (L - 1) / w' ≤ 23 := Nat.le_trans (Nat.div_le_self _ _) (by have := hS.1; omega)
  unfold f_X12_signal
  simp only []
  rw [chn_t hS, bso]
  obtain ⟨q, e, hq⟩ := in_is x0 0 (nI ((L - 1) / w') - 1)
  rw [e, bso]
  refine tt_i (fun _ => tt_r rfl) (fun c => ?_)
  obtain ⟨k, rfl, hk⟩ := in_c (by omega) hq c
  rw [show (78 : Int32) = nI 78 from rfl, show (2 : Int32) = nI 2 from rfl, pk_mul, nI_add, nI_1]
  refine tt_ik (78 + 2 * k + 1) rfl (by omega) (by omega) (tt_i (fun _ => tt_r rfl) (fun _ => tt_ik (78 + 2 * k) rfl (by omega) (by omega) (tt_ik (78 + 2 * k + 1) rfl (by omega) (by omega) (tt_i (fun _ => ?_) (fun _ => tt_r rfl)))))
  rw [ones_is, bso]
  exact tt_i (fun _ => tt_r rfl) (fun _ => tt_r rfl)
theorem val_t (x0 : Int32) (s : SX12) (a : Nat → Int32) (hB : IB a 0) : Tt (f_X12_value x0 s a) (fun q => q.2.2.1 = s.2.1) := by
  obtain ⟨ra, u, re, le, be, so, va, si, w, wa, bd, x⟩ := s
  obtain ⟨L, w', st, r, sy, bt, hd, po, si', sd, tk, hS, h5, h6, h7, h8, h9, h10, h11, g5, g6, g7, g8, g9, g10, g11⟩ := hB.sb
  unfold f_X12_value
  simp only []
  rw [g11]
  obtain ⟨v, e, hv⟩ := ls_is 8 (nI tk)
  rw [e, bso]
  obtain ⟨k, rfl, hk⟩ : ∃ k : Nat, v = nI k ∧ k ≤ 8 := by
    rcases hv with ⟨h, rfl⟩ | ⟨_, rfl⟩
    · exact ⟨tk, rfl, (nI_leI (b := 8) (by omega) (by omega)).mp h⟩
    · exact ⟨8, rfl, Nat.le_refl _⟩
  obtain ⟨q, e2, hq⟩ := in_is x0 0 (nI k - 1)
  rw [e2, bso]
  refine tt_i (fun _ => tt_r rfl) (fun c => ?_)
  obtain ⟨i, rfl, hi⟩ := in_c (by omega) hq c
  rw [show (54 : Int32) = nI 54 from rfl, nI_add]
  exact tt_ik (54 + i) rfl (by omega) (by omega) (tt_r rfl)
theorem bit_t (x0 : Int32) (s : SX12) (a : Nat → Int32) (hB : IB a 0) (ln : Nat → Int8) : Tt (f_X12_bit x0 s a ln) (fun q => q.2.2.1 = s.2.1) := by
  obtain ⟨ra, u, re, le, be, so, va, si, w, wa, bd, x⟩ := s
  obtain ⟨L, w', st, r, sy, bt, hd, po, si', sd, tk, hS, h5, h6, h7, h8, h9, h10, h11, g5, g6, _⟩ := hB.sb
  unfold f_X12_bit
  simp only []
  rw [g6]
  obtain ⟨q, e, hq⟩ := in_is x0 0 (nI bt - 1)
  rw [e, bso]
  refine tt_i (fun _ => tt_r rfl) (fun c => ?_)
  obtain ⟨k, rfl, hk⟩ := in_c (by omega) hq c
  exact tt_ik k rfl (by omega) (by omega) (tt_r rfl)
theorem rol_t (x0 : Int32) (s : SX12) (a : Nat → Int32) (hB : IB a 0) : Tt (f_X12_role x0 s a) (fun q => q.2.2.1 = s.2.1) := by
  obtain ⟨ra, u, re, le, be, so, va, si, w, wa, bd, x⟩ := s
  obtain ⟨L, w', st, r, sy, bt, hd, po, si', sd, tk, hS, _⟩ := hB.sb
  have h8 := hS.2.2.2.2.2.2.2
  have hr := hS.2.2.2.1
  unfold f_X12_role f_X12_role_23
  simp only []
  rw [h8]
  obtain ⟨q, e, hq⟩ := in_is x0 0 (nI r - 1)
  rw [e, bso]
  refine tt_i (fun _ => ?_) (fun c => ?_)
  · rw [if_neg (by decide)]; exact tt_r rfl
  · obtain ⟨k, rfl, hk⟩ := in_c (by omega) hq c
    rw [if_pos (by decide)]
    unfold f_X12_roleAt
    rw [show (9 : Int32) = nI 9 from rfl, nI_add, m_inI (nI_in (c := 9 + k) (N := 680) (by omega) (by omega)), bso]
    exact tt_r rfl
theorem cv_go (x0 x1 : Nat) (h0 : x0 ≤ 4) (h1 : x1 ≤ 4) (hne : x0 ≠ x1) (m : Nat) : ∀ (k f : Nat) (_ : k + m = 136) (_ : m ≤ f) (a : Nat → Int32), ∃ a', f_X12_copies_2 (nI x0) (nI x1) (f + 1) (nI k) a = some a' ∧ (∀ j, k ≤ j → j < 136 → a' (136 * x1 + j) = a (136 * x0 + j)) ∧ ∀ j, ¬ (136 * x1 + k ≤ j ∧ j < 136 * x1 + 136) → a' j = a j := by
  induction m with
  | zero => intro k f hk _ a
            have : k = 136 := by omega
            subst this
            exact ⟨a, by rw [f_X12_copies_2_s, if_pos (by decide)], fun j h1 h2 => absurd h2 (by omega), fun _ _ => rfl⟩
  | succ m ih =>
    intro k f hk hf a
    obtain ⟨f, rfl⟩ : ∃ q, f = q + 1 := ⟨f - 1, by omega⟩
    have e136 : (136 : Int32) = nI 136 := rfl
    obtain ⟨a', e1, e2, e3⟩ := ih (k + 1) f (by omega) (by omega) (upd a (136 * x1 + k) (a (136 * x0 + k)))
    have hsep : ∀ j, j < 136 → 136 * x0 + j ≠ 136 * x1 + k := by
      intro j hj
      rcases Nat.lt_or_gt_of_ne hne with h | h <;> omega
    refine ⟨a', ?_, fun j hj1 hj2 => ?_, fun j hj => by rw [e3 j (by omega), upd_ne _ _ (by omega)]⟩
    · rw [f_X12_copies_2_s, if_neg (show ¬ (136 : Int32) ≤ nI k from nI_ge (a := k) (b := 136) (by omega) (by omega)), e136, pk_mul, pk_mul, nI_add, nI_add, m_inI (nI_in (c := 136 * x0 + k) (N := 680) (by omega) (by omega)), m_inI (nI_in (c := 136 * x1 + k) (N := 680) (by omega) (by omega)), nI_clamp (by omega), nI_clamp (by omega), nI_1]
      exact e1
    · by_cases e : j = k
      · subst e
        rw [e3 _ (by omega), upd_same]
      · rw [e2 j (by omega) hj2, upd_ne _ _ (hsep j hj2)]
theorem cv_is (x0 x1 : Nat) (h0 : x0 ≤ 4) (h1 : x1 ≤ 4) (hne : x0 ≠ x1) (s : SX12) (a : Nat → Int32) : ∃ a', f_X12_copies (nI x0) (nI x1) s a = some a' ∧ (∀ j, j < 136 → a' (136 * x1 + j) = a (136 * x0 + j)) ∧ ∀ j, ¬ (136 * x1 ≤ j ∧ j < 136 * x1 + 136) → a' j = a j := by
  obtain ⟨a', e1, e2, e3⟩ := cv_go x0 x1 h0 h1 hne 136 0 65535 (by omega) (by omega) a
  exact ⟨a', e1, fun j hj => e2 j (Nat.zero_le _) hj, fun j hj => e3 j (by omega)⟩
/-- what would be is tried over a copy -/
def TW (a a1 : Nat → Int32) : Prop := (∀ j, j < 544 → a1 j = a j) ∧ ∀ j, j < 136 → a1 (544 + j) = a j
theorem tw_0 (s : SX12) (a : Nat → Int32) : ∃ a1, f_X12_copies 0 4 s a = some a1 ∧ TW a a1 := by
  obtain ⟨a1, e1, e2, e3⟩ := cv_is 0 4 (by decide) (by decide) (by decide) s a
  exact ⟨a1, e1, fun j hj => e3 j (by omega), fun j hj => by have := e2 j hj; rw [show 136 * 4 + j = 544 + j by omega, show 136 * 0 + j = j by omega] at this; exact this⟩
theorem tw_b (s : SX12) {a a1 a2 : Nat → Int32} (h : TW a a1) (h2 : ∀ j, 133 ≤ j → a2 j = a1 j) : ∃ a3, f_X12_copies 4 0 s a2 = some a3 ∧ TW a a3 := by
  obtain ⟨a3, e1, e2, e3⟩ := cv_is 4 0 (by decide) (by decide) (by decide) s a2
  refine ⟨a3, e1, fun j hj => ?_, fun j hj => ?_⟩
  · by_cases h136 : j < 136
    · have := e2 j h136
      rw [show 136 * 0 + j = j by omega, show 136 * 4 + j = 544 + j by omega] at this
      rw [this, h2 _ (by omega), h.2 j h136]
    · rw [e3 j (by omega), h2 j (by omega), h.1 j hj]
  · rw [e3 _ (by omega), h2 _ (by omega), h.2 j hj]
theorem bk_t (v : Int32) (s : SX12) {a a1 a2 : Nat → Int32} (h : TW a a1) (h2 : ∀ j, 133 ≤ j → a2 j = a1 j) : Tt (f_X12_back v s a2) (fun q => TW a q.2) := by
  obtain ⟨a3, e1, e2⟩ := tw_b s h h2
  unfold f_X12_back
  rw [show f_X12_copies 4 0 s a2 = some a3 from e1, bso]
  exact tt_r e2
theorem IB.tw {a a1 : Nat → Int32} (h : IB a 0) (t : TW a a1) : IB a1 0 := h.c (fun k hk => by rw [Nat.zero_add]; exact t.1 k (by omega))
theorem IB.hb {a : Nat → Int32} (h : IB a 0) : ∃ hd bt : Nat, HB a hd ∧ hd ≤ bt ∧ bt ≤ 4000 ∧ a 33 = nI hd ∧ a 32 = nI bt := by
  obtain ⟨L, w', st, r, sy, bt, hd, po, si', sd, tk, hS, h5, h6, h7, h8, h9, h10, h11, g5, g6, g7, g8, g9, g10, g11⟩ := h.sb
  exact ⟨hd, bt, ⟨L, w', st, r, po, si', sd, tk, hS, h8, h9, h10, h11, g8, g9, g10, g11⟩, h6, h7, g7, g6⟩
theorem ah39 (w : Nat) (hw : w < 18) (ra u re le be so va si : Int32) (wd : Int64) (wa bd x : Int32) (ln : Nat → Int8) (a a0 : Nat → Int32) (hT : TW a a0) (B : Nat) (hB : B ≤ 6400) (m : Nat) : ∀ (h f : Nat) (_ : h + m = B) (_ : m ≤ f) (a1 : Nat → Int32) (_ : HB a1 h) (_ : a1 33 = nI h) (_ : a1 32 = nI B) (_ : ∀ j, 133 ≤ j → a1 j = a0 j),
    Tt (f_X12_ahead_39 (nI w) ra u re le be so va si wd wa bd x ln (f + 1) a1) (fun q => q.2.1.2.1 = u ∧ TW a q.2.2.1) := by
  induction m with
  | zero =>
    intro h f hh _ a1 h1 h33 h32 hf
    rw [f_X12_ahead_39_s, h32, h33, if_pos (nI_le (by omega) (by omega))]
    obtain ⟨v, e⟩ := told_t w hw (ra, u, re, le, be, so, va, si, wd, wa, bd, x) a1
    rw [e, bso]
    refine tt_b (bk_t v _ hT hf) ?_
    rintro ⟨q, a2⟩ h2
    exact tt_r ⟨rfl, h2⟩
  | succ m ih =>
    intro h f hh hf' a1 h1 h33 h32 hf
    obtain ⟨f, rfl⟩ : ∃ q, f = q + 1 := ⟨f - 1, by omega⟩
    rw [f_X12_ahead_39_s, h32, h33, if_neg (nI_ge (by omega) (by omega))]
    refine tt_ik h rfl (by omega) (by omega) (tt_b (he_t h1 (by omega) _ _) ?_)
    rintro a2 ⟨f1, f2⟩
    rw [f1 33 (by omega), h33, nI_1]
    exact ih (h + 1) f (by omega) (by omega) _ (f2.up (Or.inr (Or.inl rfl))) (upd_same _ _ _) (by rw [upd_ne _ _ (by decide), f1 32 (by omega)]; exact h32) (fun j hj => by rw [upd_ne _ _ (by omega), f1 j (by omega)]; exact hf j hj)
theorem ahe_t (x0 x1 x2 : Int32) (s : SX12) (a : Nat → Int32) (hB : IB a 0) (ln : Nat → Int8) : Tt (f_X12_ahead x0 x1 x2 s a ln) (fun q => q.2.1.2.1 = s.2.1 ∧ ∀ j, j < 544 → q.2.2.1 j = a j) := by
  obtain ⟨ra, u, re, le, be, so, va, si, w, wa, bd, x⟩ := s
  have stay : ∀ j, j < 544 → a j = a j := fun _ _ => rfl
  unfold f_X12_ahead
  simp only []
  obtain ⟨q, e, hq⟩ := in_is x0 1 8
  rw [e, bso]
  refine tt_i (fun _ => tt_r ⟨rfl, stay⟩) (fun c => ?_)
  obtain ⟨n, rfl, n1, n2⟩ := in_n (a := 1) (b := 8) (by decide) (by decide) hq c
  obtain ⟨q2, e2, hq2⟩ := in_is x2 0 17
  rw [e2, bso]
  refine tt_i (fun _ => tt_r ⟨rfl, stay⟩) (fun c2 => ?_)
  obtain ⟨k, rfl, _, hk⟩ := in_n (a := 0) (b := 17) (by decide) (by decide) hq2 c2
  obtain ⟨a1, c1, hT⟩ := tw_0 (0, u, re, le, be, so, va, si, w, wa, bd, x) a
  rw [c1, bso]
  have hB1 := hB.tw hT
  obtain ⟨L, w', st, r, sy, bt, hd, po, si', sd, tk, hS, h5, h6, h7, h8, h9, h10, h11, g5, g6, g7, g8, g9, g10, g11⟩ := hB1.sb
  have hl := hS.lr
  have hnm : n * (L * r) ≤ 8 * 288 := Nat.mul_le_mul n2 hl.2
  refine tt_b (sd_t n n2 bt (by omega) a1 hS g6 ⟨sy, h5, g5⟩ x1 _ ln) ?_
  rintro ⟨⟨t1, t2, t3, t4, t5, t6, t7, t8, t9, t10, t11, t12⟩, a2, ln2⟩ ⟨f1, f2, _, _, f6⟩
  have f6 : t2 = u := f6
  subst f6
  have f1 : FrT a1 a2 := f1
  have f2 : a2 32 = nI (bt + n * (L * r)) := f2
  refine tt_m (ah39 k (by omega) t1 t2 t3 t4 t5 t6 t7 t8 t9 t10 t11 t12 ln2 a a1 hT (bt + n * (L * r)) (by omega) (bt + n * (L * r) - hd) hd 65535 (by omega) (by omega) a2 ⟨L, w', st, r, po, si', sd, tk, hS.frT f1, h8, by omega, h10, by omega, (f1 39 (by omega)).trans g8, (f1 40 (by omega)).trans g9, (f1 48 (by omega)).trans g10, (f1 50 (by omega)).trans g11⟩ ((f1 33 (by omega)).trans g7) f2 (fun j hj => f1 j (by omega))) ?_
  rintro q ⟨p1, p2⟩
  exact ⟨p1, p2.1⟩
theorem hf_t (i : Nat) (x1 : Int32) (s : SX12) (a0 : Nat → Int32) (hB : IB a0 0) (hi : i ≤ 4000) (ln : Nat → Int8) : Tt (f_X12_hearsFrom (nI i) x1 s a0 ln) (fun q => ∀ j, 133 ≤ j → q.2 j = a0 j) := by
  obtain ⟨L, w', st, r, sy, bt, hd, po, si', sd, tk, hS, h5, h6, h7, h8, h9, h10, h11, g5, g6, g7, g8, g9, g10, g11⟩ := hB.sb
  have hl := hS.lr
  have loop : ∀ (m k f : Nat) (_ : k + m = 4000) (_ : m ≤ f) (a1 : Nat → Int32), HB a1 k → a1 32 = nI bt → (∀ j, 133 ≤ j → a1 j = a0 j) → Tt (f_X12_hearsFrom_6 (nI i) x1 ln s (f + 1) (nI k) a1) (fun q => ∀ j, 133 ≤ j → q.2 j = a0 j) := by
    intro m
    induction m with
    | zero =>
      intro k f hk _ a1 h1 h32 hf
      rw [f_X12_hearsFrom_6_s, h32, nI_add, if_pos (nI_le (by omega) (by omega))]
      exact tt_r hf
    | succ m ih =>
      intro k f hk hf' a1 h1 h32 hf
      obtain ⟨f, rfl⟩ : ∃ q, f = q + 1 := ⟨f - 1, by omega⟩
      have go : Tt (f_X12_hearsFrom_33 (nI i) (nI k) ln s a1 (f_X12_hearsFrom_6 (nI i) x1 ln s (f + 1))) (fun q => ∀ j, 133 ≤ j → q.2 j = a0 j) := by
        unfold f_X12_hearsFrom_33
        rw [nI_add]
        refine tt_ik (i + k) rfl (by omega) (by omega) (tt_b (he_t h1 (by omega) _ _) ?_)
        rintro a2 ⟨f1, f2⟩
        rw [nI_1]
        exact ih (k + 1) f (by omega) (by omega) a2 f2 (by rw [f1 32 (by omega)]; exact h32) (fun j hj => by rw [f1 j (by omega)]; exact hf j hj)
      rw [f_X12_hearsFrom_6_s]
      exact tt_i (fun _ => tt_r hf) (fun _ => tt_i (fun _ => tt_i (fun _ => go) (fun _ => tt_r hf)) (fun _ => go))
  unfold f_X12_hearsFrom
  refine tt_b (bg_is s hS.1.2 hS.2.2.2.1.2 a0 hS.2.2.2.2.1 hS.2.2.2.2.2.2.2) ?_
  rintro a1 ⟨p1, p2, p3, p4, p5, p6⟩
  refine loop 4000 0 65535 (by omega) (by omega) a1 ⟨L, w', st, r, 0, 0, 0, 0, ⟨hS.1, hS.2.1, hS.2.2.1, hS.2.2.2.1, ?_, ?_, ?_, ?_⟩, by omega, Nat.le_refl _, by omega, Nat.le_refl _, p3, p2, p4, p5⟩ ?_ (fun j hj => p6 j (by omega))
  · rw [p6 0 (by omega)]; exact hS.2.2.2.2.1
  · rw [p6 2 (by omega)]; exact hS.2.2.2.2.2.1
  · rw [p6 3 (by omega)]; exact hS.2.2.2.2.2.2.1
  · rw [p6 8 (by omega)]; exact hS.2.2.2.2.2.2.2
  · rw [p6 32 (by omega)]; exact g6
theorem loc_t (x0 : Int32) (s : SX12) (a : Nat → Int32) (hB : IB a 0) (ln : Nat → Int8) : Tt (f_X12_locks x0 s a ln) (fun q => q.2.1.2.1 = s.2.1 ∧ ∀ j, j < 544 → q.2.2 j = a j) := by
  obtain ⟨ra, u, re, le, be, so, va, si, w, wa, bd, x⟩ := s
  obtain ⟨hd, bt, _, _, h7, _, g6⟩ := hB.hb
  unfold f_X12_locks
  simp only []
  rw [g6]
  obtain ⟨q, e, hq⟩ := in_is x0 0 (nI bt - 1)
  rw [e, bso]
  refine tt_i (fun _ => tt_r ⟨rfl, fun _ _ => rfl⟩) (fun c => ?_)
  obtain ⟨k, rfl, hk⟩ := in_c (by omega) hq c
  obtain ⟨a1, c1, hT⟩ := tw_0 (0, u, re, le, be, so, va, si, w, wa, bd, x) a
  rw [c1, bso]
  refine tt_b (hf_t k 0 _ a1 (hB.tw hT) (by omega) ln) ?_
  rintro ⟨v, a2⟩ h2
  have h2 : ∀ j, 133 ≤ j → a2 j = a1 j := h2
  simp only []
  refine tt_i (fun _ => ?_) (fun _ => ?_)
  · refine tt_b (bk_t (-1) _ hT h2) ?_
    rintro ⟨v2, a3⟩ h3
    exact tt_r ⟨rfl, h3.1⟩
  · refine tt_b (bk_t v _ hT h2) ?_
    rintro ⟨v2, a3⟩ h3
    exact tt_r ⟨rfl, h3.1⟩
theorem fro_t (x0 x1 : Int32) (s : SX12) (a : Nat → Int32) (hB : IB a 0) (ln : Nat → Int8) : Tt (f_X12_from x0 x1 s a ln) (fun q => q.2.1.2.1 = s.2.1 ∧ ∀ j, j < 544 → q.2.2 j = a j) := by
  obtain ⟨ra, u, re, le, be, so, va, si, w, wa, bd, x⟩ := s
  obtain ⟨hd, bt, _, _, h7, _, g6⟩ := hB.hb
  unfold f_X12_from
  simp only []
  rw [g6]
  obtain ⟨q, e, hq⟩ := in_is x0 0 (nI bt - 1)
  rw [e, bso]
  refine tt_i (fun _ => tt_r ⟨rfl, fun _ _ => rfl⟩) (fun c => ?_)
  obtain ⟨k, rfl, hk⟩ := in_c (by omega) hq c
  obtain ⟨q2, e2, hq2⟩ := in_is x1 0 17
  rw [e2, bso]
  refine tt_i (fun _ => tt_r ⟨rfl, fun _ _ => rfl⟩) (fun c2 => ?_)
  obtain ⟨v, rfl, _, hv⟩ := in_n (a := 0) (b := 17) (by decide) (by decide) hq2 c2
  obtain ⟨a1, c1, hT⟩ := tw_0 (0, u, re, le, be, so, va, si, w, wa, bd, x) a
  rw [c1, bso]
  refine tt_b (hf_t k 1 _ a1 (hB.tw hT) (by omega) ln) ?_
  rintro ⟨v1, a2⟩ h2
  have h2 : ∀ j, 133 ≤ j → a2 j = a1 j := h2
  simp only []
  obtain ⟨v3, e3⟩ := told_t v (by omega) (0, u, re, le, be, so, va, si, w, wa, bd, x) a2
  rw [e3, bso]
  refine tt_b (bk_t v3 _ hT h2) ?_
  rintro ⟨v2, a3⟩ h3
  exact tt_r ⟨rfl, h3.1⟩
theorem stk_t (x0 x1 : Int32) (s : SX12) (a : Nat → Int32) (hB : IB a 0) (ln : Nat → Int8) : Tt (f_X12_struck x0 x1 s a ln) (fun q => q.2.2.1 = s.2.1) := by
  obtain ⟨ra, u, re, le, be, so, va, si, w, wa, bd, x⟩ := s
  obtain ⟨L, w', st, r, sy, bt, hd, po, si', sd, tk, hS, h5, h6, h7, h8, h9, h10, h11, g5, g6, g7, g8, g9, g10, g11⟩ := hB.sb
  have hl := hS.lr
  unfold f_X12_struck
  simp only []
  rw [g6]
  obtain ⟨q, e, hq⟩ := in_is x0 0 (nI bt - 1)
  rw [e, bso]
  refine tt_i (fun _ => tt_r rfl) (fun c => ?_)
  obtain ⟨i, rfl, hi⟩ := in_c (by omega) hq c
  rw [rnd hS.2.2.2.2.1 hS.2.2.2.2.2.2.2, bso]
  obtain ⟨q2, e2, hq2⟩ := in_is x1 0 (nI (L * r) - 1)
  rw [e2, bso]
  refine tt_i (fun _ => tt_r rfl) (fun c2 => ?_)
  obtain ⟨p, rfl, hp⟩ := in_c (by omega) hq2 c2
  have loop : ∀ (m k f : Nat) (_ : k + m = bt) (_ : m ≤ f) (_ : i ≤ k), Tt (f_X12_struck_40 a u re le be so va si w wa bd x (nI p) (nI i) ln (f + 1) (nI k)) (fun q => q.2.2.1 = u) := by
    intro m
    induction m with
    | zero =>
      intro k f hk _ _
      rw [f_X12_struck_40_s, g6, if_pos (nI_le (by omega) (by omega))]
      exact tt_r rfl
    | succ m ih =>
      intro k f hk hf hik
      obtain ⟨f, rfl⟩ : ∃ q, f = q + 1 := ⟨f - 1, by omega⟩
      have go : Tt (f_X12_struck_89 (nI k) (f_X12_struck_40 a u re le be so va si w wa bd x (nI p) (nI i) ln (f + 1))) (fun q => q.2.2.1 = u) := by
        unfold f_X12_struck_89
        rw [nI_1]
        exact ih (k + 1) f (by omega) (by omega) (by omega)
      rw [f_X12_struck_40_s, g6, if_neg (nI_ge (by omega) (by omega)), rnd hS.2.2.2.2.1 hS.2.2.2.2.2.2.2, bso]
      refine tt_g (nI_ne0 (by omega) (by omega)) ?_
      rw [nI_add, pk_sub (show i ≤ p + k by omega), pk_rem (by omega) (by omega) (by omega)]
      refine tt_n ?_
      obtain ⟨v, e3, _⟩ := fx_t hS (0, u, re, le, be, so, va, si, w, wa, bd, x) (q := (p + k - i) % (L * r)) (Nat.mod_lt _ (by omega))
      rw [e3, bso]
      refine tt_i (fun _ => go) (fun _ => ?_)
      obtain ⟨v2, e4⟩ := ro_t hS (0, u, re, le, be, so, va, si, w, wa, bd, x) (q := (p + k - i) % (L * r)) (Nat.mod_lt _ (by omega))
      rw [e4, bso]
      exact tt_ik k rfl (by omega) (by omega) (tt_i (fun _ => go) (fun _ => tt_r rfl))
  exact loop (bt - i) i 65535 (by omega) (by omega) (Nat.le_refl _)
theorem lea_t (x0 : Int32) (s : SX12) (a : Nat → Int32) (hB : IB a 0) (ln : Nat → Int8) : Tt (f_X12_least x0 s a ln) (fun q => q.2.1.2.1 = s.2.1 ∧ ∀ j, j < 544 → q.2.2 j = a j) := by
  obtain ⟨ra, u, re, le, be, so, va, si, w, wa, bd, x⟩ := s
  obtain ⟨hd, bt, _, _, h7, _, g6⟩ := hB.hb
  unfold f_X12_least
  simp only []
  rw [g6]
  obtain ⟨q, e, hq⟩ := in_is x0 0 (nI bt)
  rw [e, bso]
  refine tt_i (fun _ => tt_r ⟨rfl, fun _ _ => rfl⟩) (fun c => ?_)
  obtain ⟨n, rfl, _, hn⟩ := in_n (a := 0) (b := bt) (by omega) (by omega) hq c
  obtain ⟨a1, c1, hT⟩ := tw_0 (0, u, re, le, be, so, va, si, w, wa, bd, x) a
  rw [c1, bso]
  obtain ⟨L, w', st, r, sy, _, _, _, _, _, _, hS, _⟩ := (hB.tw hT).sb
  refine tt_b (bg_is (0, u, re, le, be, so, va, si, w, wa, bd, x) hS.1.2 hS.2.2.2.1.2 a1 hS.2.2.2.2.1 hS.2.2.2.2.2.2.2) ?_
  rintro a2 ⟨p1, p2, p3, p4, p5, p6⟩
  have hS2 : SB a2 L w' st r := ⟨hS.1, hS.2.1, hS.2.2.1, hS.2.2.2.1, by rw [p6 0 (by omega)]; exact hS.2.2.2.2.1, by rw [p6 2 (by omega)]; exact hS.2.2.2.2.2.1, by rw [p6 3 (by omega)]; exact hS.2.2.2.2.2.2.1, by rw [p6 8 (by omega)]; exact hS.2.2.2.2.2.2.2⟩
  have bk : ∀ (v : Int32) (a3 : Nat → Int32), (∀ j, 133 ≤ j → a3 j = a1 j) → Tt (Option.bind (f_X12_back v (0, u, re, le, be, so, va, si, w, wa, bd, x) a3) (fun z => match z with | (u61_r, u61_this_all) => some (u61_r, ((0, u, re, le, be, so, va, si, w, wa, bd, x) : SX12), u61_this_all))) (fun q => q.2.1.2.1 = u ∧ ∀ j, j < 544 → q.2.2 j = a j) := by
    intro v a3 h3
    refine tt_b (bk_t v _ hT h3) ?_
    rintro ⟨v2, a4⟩ h4
    exact tt_r ⟨rfl, h4.1⟩
  have loop : ∀ (m k f : Nat) (_ : k + m = n) (_ : m ≤ f) (a3 : Nat → Int32), SB a3 L w' st r → a3 40 = nI k → (∀ j, 133 ≤ j → a3 j = a1 j) → Tt (f_X12_least_34 (nI n) u re le be so va si w wa bd x ln (f + 1) (nI (k + 1)) a3) (fun q => q.2.1.2.1 = u ∧ ∀ j, j < 544 → q.2.2 j = a j) := by
    intro m
    induction m with
    | zero =>
      intro k f hk _ a3 s3 h40 hf
      rw [f_X12_least_34_s, if_pos (nI_lt (by omega) (by omega))]
      exact bk _ a3 hf
    | succ m ih =>
      intro k f hk hf' a3 s3 h40 hf
      obtain ⟨f, rfl⟩ : ∃ q, f = q + 1 := ⟨f - 1, by omega⟩
      rw [f_X12_least_34_s, if_neg (nI_nlt (by omega) (by omega)), nI_pred]
      refine tt_ik k rfl (by omega) (by omega) (tt_b (sk_t s3 (si := k) (by omega) h40 _ _) ?_)
      rintro a4 ⟨f1, f2, _⟩
      obtain ⟨v, e5⟩ := lm_t (0, u, re, le, be, so, va, si, w, wa, bd, x) a4
      rw [e5, bso]
      have hf4 : ∀ j, 133 ≤ j → a4 j = a1 j := fun j hj => by rw [f1 j (by omega)]; exact hf j hj
      refine tt_i (fun _ => bk _ a4 hf4) (fun _ => ?_)
      rw [nI_1]
      exact ih (k + 1) f (by omega) (by omega) a4 (s3.fr f1) f2 hf4
  exact loop n 0 65535 (by omega) (by omega) a2 hS2 p2 (fun j hj => p6 j (by omega))
theorem fit_t (x0 x1 : Int32) (s : SX12) (a : Nat → Int32) (hB : IB a 0) (ln : Nat → Int8) : Tt (f_X12_fits x0 x1 s a ln) (fun q => q.2.2.1 = s.2.1) := by
  obtain ⟨ra, u, re, le, be, so, va, si, w, wa, bd, x⟩ := s
  obtain ⟨L, w', st, r, sy, bt, hd, po, si', sd, tk, hS, h5, h6, h7, h8, h9, h10, h11, g5, g6, g7, g8, g9, g10, g11⟩ := hB.sb
  have hl := hS.lr
  unfold f_X12_fits
  simp only []
  rw [g6]
  obtain ⟨q, e, hq⟩ := in_is x0 0 (nI bt)
  rw [e, bso]
  refine tt_i (fun _ => tt_r rfl) (fun c => ?_)
  obtain ⟨n, rfl, _, hn⟩ := in_n (a := 0) (b := bt) (by omega) (by omega) hq c
  have can : ∀ p, p < L * r → ∃ v, f_X12_canBe (nI p) (nI n) (0, u, re, le, be, so, va, si, w, wa, bd, x) a ln = some v := by
    intro p hp
    have key : ∀ (m k f : Nat), k + m = n → m ≤ f → ∃ v, f_X12_canBe_2 (nI n) (0, u, re, le, be, so, va, si, w, wa, bd, x) a (nI p) ln (f + 1) (nI k) = some v := by
      intro m
      induction m with
      | zero => intro k f hk _
                rw [f_X12_canBe_2_s, if_pos (nI_le (by omega) (by omega))]; exact ⟨_, rfl⟩
      | succ m ih =>
        intro k f hk hf
        obtain ⟨f, rfl⟩ : ∃ q, f = q + 1 := ⟨f - 1, by omega⟩
        have go : ∃ v, f_X12_canBe_43 (nI k) (f_X12_canBe_2 (nI n) (0, u, re, le, be, so, va, si, w, wa, bd, x) a (nI p) ln (f + 1)) = some v := by
          unfold f_X12_canBe_43
          rw [nI_1]
          exact ih (k + 1) f (by omega) (by omega)
        rw [f_X12_canBe_2_s, if_neg (nI_ge (by omega) (by omega)), rnd hS.2.2.2.2.1 hS.2.2.2.2.2.2.2, bso, m_gI (nI_ne0 (by omega) (by omega)), nI_add, pk_rem (by omega) (by omega) (by omega)]
        obtain ⟨v, e3, _⟩ := fx_t hS (0, u, re, le, be, so, va, si, w, wa, bd, x) (q := (p + k) % (L * r)) (Nat.mod_lt _ (by omega))
        rw [e3, bso]
        split
        · exact go
        · obtain ⟨v2, e4⟩ := ro_t hS (0, u, re, le, be, so, va, si, w, wa, bd, x) (q := (p + k) % (L * r)) (Nat.mod_lt _ (by omega))
          rw [e4, bso, m_inI (nI_in (c := k) (N := 32000) (by omega) (by omega))]
          split
          · exact go
          · exact ⟨_, rfl⟩
    exact key n 0 65535 (by omega) (by omega)
  have loop : ∀ (m k f : Nat) (l : Int32) (_ : k + m = L * r) (_ : m ≤ f), Tt (f_X12_fits_27 u re le be so va si w wa bd x a x1 (nI n) ln (f + 1) l (nI k)) (fun q => q.2.2.1 = u) := by
    intro m
    induction m with
    | zero =>
      intro k f l hk _
      rw [f_X12_fits_27_s, rnd hS.2.2.2.2.1 hS.2.2.2.2.2.2.2, bso, if_pos (nI_le (by omega) (by omega))]
      exact tt_i (fun _ => tt_r rfl) (fun _ => tt_r rfl)
    | succ m ih =>
      intro k f l hk hf
      obtain ⟨f, rfl⟩ : ∃ q, f = q + 1 := ⟨f - 1, by omega⟩
      have go : ∀ t, Tt (f_X12_fits_57 (nI k) (f_X12_fits_27 u re le be so va si w wa bd x a x1 (nI n) ln (f + 1)) t) (fun q => q.2.2.1 = u) := by
        intro t
        unfold f_X12_fits_57
        rw [nI_1]
        exact ih (k + 1) f t (by omega) (by omega)
      rw [f_X12_fits_27_s, rnd hS.2.2.2.2.1 hS.2.2.2.2.2.2.2, bso, if_neg (nI_ge (by omega) (by omega))]
      obtain ⟨v, e3⟩ := can k (by omega)
      rw [e3, bso]
      exact tt_i (fun _ => go _) (fun _ => tt_i (fun _ => tt_r rfl) (fun _ => go _))
  exact loop (L * r) 0 65535 0 (by omega) (by omega)
theorem lost_t (v : Nat) (hv : v ≤ 400) (s : SX12) (ln : Nat → Int8) (a0 : Nat → Int32) (hd : Nat) (hhd : hd ≤ 4000) (hB : HB a0 hd) (h33 : a0 33 = nI hd) : Tt (f_X12_lostAt (nI v) s a0 ln) (fun q => ∀ j, 133 ≤ j → q.2 j = a0 j) := by
  have loop : ∀ (m k f : Nat) (_ : k + m = v) (_ : m ≤ f) (a1 : Nat → Int32), HB a1 (hd + k) → a1 33 = nI (hd + k) → (∀ j, 133 ≤ j → a1 j = a0 j) → Tt (f_X12_lostAt_10 (nI v) ln s a0 (f + 1) (nI k) a1) (fun q => ∀ j, 133 ≤ j → q.2 j = a0 j) := by
    intro m
    induction m with
    | zero =>
      intro k f hk _ a1 h1 h33 hf
      rw [f_X12_lostAt_10_s, if_pos (nI_le (by omega) (by omega))]
      exact tt_r hf
    | succ m ih =>
      intro k f hk hf' a1 h1 h33 hf
      obtain ⟨f, rfl⟩ : ∃ q, f = q + 1 := ⟨f - 1, by omega⟩
      rw [f_X12_lostAt_10_s, if_neg (nI_ge (by omega) (by omega)), h33]
      refine tt_ik (hd + k) rfl (by omega) (by omega) (tt_b (he_t h1 (by omega) _ _) ?_)
      rintro a2 ⟨f1, f2⟩
      have hf2 : ∀ j, 133 ≤ j → upd a2 33 ((a2 33) + 1) j = a0 j := fun j hj => by rw [upd_ne _ _ (by omega), f1 j (by omega)]; exact hf j hj
      refine tt_i (fun _ => ?_) (fun _ => tt_r hf2)
      rw [nI_1]
      exact ih (k + 1) f (by omega) (by omega) _ (f2.up (Or.inr (Or.inl rfl))) (by rw [upd_same, f1 33 (by omega), h33, nI_1]; rfl) hf2
  unfold f_X12_lostAt
  exact loop v 0 65535 (by omega) (by omega) a0 hB h33 (fun _ _ => rfl)
theorem wea_t (s : SX12) (a : Nat → Int32) (hB : IB a 0) (ln : Nat → Int8) : Tt (f_X12_weak s a ln) (fun q => q.2.1.2.1 = s.2.1 ∧ ∀ j, j < 544 → q.2.2.1 j = a j) := by
  obtain ⟨ra, u, re, le, be, so, va, si, w, wa, bd, x⟩ := s
  obtain ⟨hd, bt, hH, h6, h7, g7, g6⟩ := hB.hb
  unfold f_X12_weak
  simp only []
  rw [g6, g7, pk_sub h6]
  obtain ⟨v, e, hv⟩ := ls_is 400 (nI (bt - hd))
  rw [e, bso]
  obtain ⟨k, rfl, hk1, hk2⟩ : ∃ k : Nat, v = nI k ∧ k ≤ 400 ∧ k ≤ bt - hd := by
    rcases hv with ⟨h, rfl⟩ | ⟨h, rfl⟩
    · exact ⟨bt - hd, rfl, (nI_leI (b := 400) (by omega) (by omega)).mp h, Nat.le_refl _⟩
    · refine ⟨400, rfl, Nat.le_refl _, ?_⟩
      rcases Nat.lt_or_ge (bt - hd) 400 with h2 | h2
      · exact absurd (show nI (bt - hd) ≤ 400 from nI_le (b := 400) (by omega) (by omega)) h
      · exact h2
  obtain ⟨a1, c1, hT⟩ := tw_0 (0, u, re, le, be, so, va, si, w, wa, bd, x) a
  rw [c1, bso]
  have loop : ∀ (m i f : Nat) (_ : i + m = hd + 40) (_ : m ≤ f) (_ : hd ≤ i) (l3 l4 : Int32) (a2 : Nat → Int32) (ln2 : Nat → Int8), TW a a2 → Tt (f_X12_weak_49 a u re le be so va si w wa bd x (nI k) (f + 1) l3 l4 (nI i) a2 ln2) (fun q => q.2.1.2.1 = u ∧ ∀ j, j < 544 → q.2.2.1 j = a j) := by
    intro m
    induction m with
    | zero =>
      intro i f hi _ _ l3 l4 a2 ln2 h2
      rw [f_X12_weak_49_s, g7, show (40 : Int32) = nI 40 from rfl, nI_add, if_pos (nI_le (by omega) (by omega))]
      exact tt_r ⟨rfl, h2.1⟩
    | succ m ih =>
      intro i f hi hf hhi l3 l4 a2 ln2 h2
      obtain ⟨f, rfl⟩ : ∃ q, f = q + 1 := ⟨f - 1, by omega⟩
      rw [f_X12_weak_49_s]
      refine tt_i (fun _ => tt_r ⟨rfl, h2.1⟩) (fun _ => tt_i (fun _ => tt_r ⟨rfl, h2.1⟩) (fun _ => ?_))
      refine tt_ik i rfl (by omega) (by omega) (tt_n (tt_ik i rfl (by omega) (by omega) ?_))
      have hB2 := hB.tw h2
      obtain ⟨hd2, bt2, hH2, q6, q7, q8, q9⟩ := hB2.hb
      have hdd : hd2 = hd := by
        have e1 := h2.1 33 (by omega)
        rw [q8, g7] at e1
        exact (nI_eq (by omega) (by omega)).mp e1
      subst hdd
      refine tt_b (lost_t k hk1 _ _ a2 hd2 (by omega) hH2 q8) ?_
      rintro ⟨v2, a3⟩ h3
      have h3 : ∀ j, 133 ≤ j → a3 j = a2 j := h3
      simp only []
      refine tt_ik i rfl (by omega) (by omega) (tt_n (tt_ik i rfl (by omega) (by omega) ?_))
      obtain ⟨a4, c4, h4⟩ := tw_b (0, u, re, le, be, so, va, si, w, wa, bd, x) h2 h3
      rw [c4, bso]
      have go : ∀ (y1 y2 z1 z2 : Int32) (l3' l4' : Int32), Tt (f_X12_weak_139 (nI i) a4 ln2 z1 z2 (f_X12_weak_49 a u re le be so va si w wa bd x (nI k) (f + 1)) l3' l4') (fun q => q.2.1.2.1 = u ∧ ∀ j, j < 544 → q.2.2.1 j = a j) := by
        intro y1 y2 z1 z2 l3' l4'
        unfold f_X12_weak_139
        rw [nI_1]
        exact ih (i + 1) f (by omega) (by omega) (by omega) l3' l4' a4 _ h4
      unfold f_X12_weak_132
      exact tt_i (fun _ => go 0 0 _ _ _ _) (fun _ => tt_i (fun _ => go 0 0 _ _ _ _) (fun _ => tt_i (fun _ => go 0 0 _ _ _ _) (fun _ => go 0 0 _ _ _ _)))
  exact loop 40 hd 65535 (by omega) (by omega) (Nat.le_refl _) (-1) (-1) a1 ln hT
theorem ca_t (x0 x1 : Nat) (h0 : x0 ≤ 3) (h1 : x1 ≤ 3) (hne : x0 ≠ x1) (s : SX12) (a : Nat → Int32) (ln tx : Nat → Int8) : Tt (f_X12_copiesAll (nI x0) (nI x1) s a ln tx) (fun q => (∀ j, j < 136 → q.1 (136 * x1 + j) = a (136 * x0 + j)) ∧ ∀ j, ¬ (136 * x1 ≤ j ∧ j < 136 * x1 + 136) → q.1 j = a j) := by
  obtain ⟨a1, c1, c2, c3⟩ := cv_is x0 x1 (by omega) (by omega) hne s a
  have l47 : ∀ (m k f : Nat) (_ : k + m = 300) (_ : m ≤ f) (ln1 tx1 : Nat → Int8), Tt (f_X12_copiesAll_47 a1 ln1 (nI x0) (nI x1) (f + 1) (nI k) tx1) (fun q => (∀ j, j < 136 → q.1 (136 * x1 + j) = a (136 * x0 + j)) ∧ ∀ j, ¬ (136 * x1 ≤ j ∧ j < 136 * x1 + 136) → q.1 j = a j) := by
    intro m
    induction m with
    | zero =>
      intro k f hk _ ln1 tx1
      have : k = 300 := by omega
      subst this
      rw [f_X12_copiesAll_47_s, if_pos (by decide)]
      exact tt_r ⟨c2, c3⟩
    | succ m ih =>
      intro k f hk hf ln1 tx1
      obtain ⟨f, rfl⟩ : ∃ q, f = q + 1 := ⟨f - 1, by omega⟩
      rw [f_X12_copiesAll_47_s, if_neg (show ¬ (300 : Int32) ≤ nI k from nI_ge (a := k) (b := 300) (by omega) (by omega)), show (300 : Int32) = nI 300 from rfl, pk_mul, pk_mul, nI_add, nI_add, nI_1]
      exact tt_ik (300 * x0 + k) rfl (by omega) (by omega) (tt_ik (300 * x1 + k) rfl (by omega) (by omega) (ih (k + 1) f (by omega) (by omega) _ _))
  have l8 : ∀ (m k f : Nat) (_ : k + m = 4000) (_ : m ≤ f) (ln1 : Nat → Int8), Tt (f_X12_copiesAll_8 a1 (nI x0) (nI x1) tx (f + 1) (nI k) ln1) (fun q => (∀ j, j < 136 → q.1 (136 * x1 + j) = a (136 * x0 + j)) ∧ ∀ j, ¬ (136 * x1 ≤ j ∧ j < 136 * x1 + 136) → q.1 j = a j) := by
    intro m
    induction m with
    | zero =>
      intro k f hk _ ln1
      rw [f_X12_copiesAll_8_s, if_pos (show (4000 : Int32) ≤ nI k from nI_le (a := 4000) (by omega) (by omega))]
      exact l47 300 0 65535 (by omega) (by omega) ln1 tx
    | succ m ih =>
      intro k f hk hf ln1
      obtain ⟨f, rfl⟩ : ∃ q, f = q + 1 := ⟨f - 1, by omega⟩
      rw [f_X12_copiesAll_8_s, if_neg (show ¬ (4000 : Int32) ≤ nI k from nI_ge (a := k) (b := 4000) (by omega) (by omega)), show (6400 : Int32) = nI 6400 from rfl, pk_mul, pk_mul, nI_add, nI_add, nI_1]
      exact tt_ik (6400 * x0 + k) rfl (by omega) (by omega) (tt_ik (6400 * x1 + k) rfl (by omega) (by omega) (ih (k + 1) f (by omega) (by omega) _))
  unfold f_X12_copiesAll
  rw [c1, bso]
  exact l8 4000 0 65535 (by omega) (by omega) ln
/-- a block with its text's size -/
def IZ (a : Nat → Int32) (o : Nat) : Prop := IB a o ∧ ∃ z : Nat, z ≤ 300 ∧ a (o + 133) = nI z
theorem IZ.c {a a' : Nat → Int32} {o o' : Nat} (h : IZ a o) (e : ∀ k, k < 136 → a' (o' + k) = a (o + k)) : IZ a' o' := by
  obtain ⟨h1, z, h2, h3⟩ := h
  exact ⟨h1.c (fun k hk => e k (by omega)), z, h2, (e 133 (by decide)).trans h3⟩
/-- the reference's state between two calls -/
def RI (u : Int32) (a un sv : Nat → Int32) : Prop := IZ a 0 ∧ (∃ u' : Nat, u = nI u' ∧ KU un u') ∧ ∀ k, k < 3 → sv k = 0 ∨ IZ a (136 * (k + 1))
theorem RI.of {u u2 : Int32} {a a' un un' sv : Nat → Int32} (h : RI u a un sv) (h0 : IZ a' 0) (h1 : ∃ u' : Nat, u2 = nI u' ∧ KU un' u') (h2 : ∀ j, 136 ≤ j → j < 544 → a' j = a j) : RI u2 a' un' sv :=
  ⟨h0, h1, fun k hk => (h.2.2 k hk).imp id (fun q => q.c (fun j hj => h2 _ (by omega) (by omega)))⟩
theorem RI.act {u u2 : Int32} {a a' un un' sv : Nat → Int32} (h : RI u a un sv) (q : AO a u2 a' un') : RI u2 a' un' sv := by
  obtain ⟨⟨_, z, z1, z2⟩, _, _⟩ := id h
  exact h.of ⟨q.1, z, z1, (q.2.2 133 (by decide)).trans z2⟩ q.2.1 (fun j hj _ => q.2.2 j (by omega))
theorem RI.same {u : Int32} {a a' un sv : Nat → Int32} (h : RI u a un sv) (e : ∀ j, j < 544 → a' j = a j) : RI u a' un sv :=
  h.of (h.1.c (fun k hk => by rw [Nat.zero_add]; exact e k (by omega))) h.2.1 (fun j _ hj => e j hj)
theorem img_t (x0 : Int32) (s : SX12) (a un sv : Nat → Int32) (ln tx : Nat → Int8) (h : RI s.2.1 a un sv) : Tt (f_X12_image x0 s a ln tx sv) (fun q => RI q.2.1.2.1 q.2.2.1 un q.2.2.2.2.2) := by
  obtain ⟨ra, u, re, le, be, so, va, si, w, wa, bd, x⟩ := s
  unfold f_X12_image
  simp only []
  obtain ⟨q, e, hq⟩ := in_is x0 0 2
  rw [e, bso]
  refine tt_i (fun _ => tt_r h) (fun c => ?_)
  obtain ⟨k, rfl, _, hk⟩ := in_n (a := 0) (b := 2) (by decide) (by decide) hq c
  rw [nI_1]
  refine tt_b (ca_t 0 (k + 1) (by omega) (by omega) (by omega) _ a ln tx) ?_
  rintro ⟨a1, ln1, tx1⟩ ⟨c1, c2⟩
  have c1 : ∀ j, j < 136 → a1 (136 * (k + 1) + j) = a (136 * 0 + j) := c1
  have c2 : ∀ j, ¬ (136 * (k + 1) ≤ j ∧ j < 136 * (k + 1) + 136) → a1 j = a j := c2
  refine tt_ik k rfl (by omega) (by omega) (tt_r ⟨?_, h.2.1, fun i hi => ?_⟩)
  · exact h.1.c (fun j hj => c2 _ (by omega))
  · show upd sv (nI k).toNatClampNeg 1 i = 0 ∨ IZ a1 (136 * (i + 1))
    rw [nI_clamp (by omega)]
    by_cases e1 : i = k
    · subst e1
      exact Or.inr (h.1.c (fun j hj => by rw [c1 j hj, Nat.mul_zero]))
    · rw [upd_ne _ _ e1]
      exact (h.2.2 i hi).imp id (fun q => q.c (fun j hj => c2 _ (by omega)))
theorem agn_t (x0 : Int32) (s : SX12) (a un sv : Nat → Int32) (ln tx : Nat → Int8) (h : RI s.2.1 a un sv) : Tt (f_X12_again x0 s a ln tx sv) (fun q => RI q.2.1.2.1 q.2.2.1 un sv) := by
  obtain ⟨ra, u, re, le, be, so, va, si, w, wa, bd, x⟩ := s
  unfold f_X12_again
  simp only []
  obtain ⟨q, e, hq⟩ := in_is x0 0 2
  rw [e, bso]
  refine tt_i (fun _ => tt_r h) (fun c => ?_)
  obtain ⟨k, rfl, _, hk⟩ := in_n (a := 0) (b := 2) (by decide) (by decide) hq c
  refine tt_ik k rfl (by omega) (by omega) ?_
  rw [nI_clamp (by omega), nI_1]
  refine tt_i (fun _ => tt_r h) (fun c2 => ?_)
  have hz : IZ a (136 * (k + 1)) := by
    rcases h.2.2 k (by omega) with e1 | e1
    · exact absurd e1 c2
    · exact e1
  refine tt_b (ca_t (k + 1) 0 (by omega) (by omega) (by omega) _ a ln tx) ?_
  rintro ⟨a1, ln1, tx1⟩ ⟨d1, d2⟩
  have d1 : ∀ j, j < 136 → a1 (136 * 0 + j) = a (136 * (k + 1) + j) := d1
  have d2 : ∀ j, ¬ (136 * 0 ≤ j ∧ j < 136 * 0 + 136) → a1 j = a j := d2
  exact tt_r (h.of (hz.c (fun j hj => by have := d1 j hj; rw [Nat.mul_zero] at this; exact this)) ⟨0, rfl, by omega, fun j hj => absurd hj (by omega)⟩ (fun j h1 _ => d2 j (by omega)))
theorem key_t (x0 : Int64) (s : SX12) (a : Nat → Int32) (tx : Nat → Int8) (z : Nat) (hz : z ≤ 300) (h : a 133 = nI z) : Tt (f_X12_key x0 s a tx) (fun q => q.2.1.2.1 = s.2.1 ∧ (∀ j, j ≠ 133 → q.2.2.1 j = a j) ∧ ∃ z' : Nat, z' ≤ 300 ∧ q.2.2.1 133 = nI z') := by
  obtain ⟨ra, u, re, le, be, so, va, si, w, wa, bd, x⟩ := s
  have l58 : ∀ (n : Nat) (_ : z + n ≤ 300) (m k f : Nat) (_ : k + m = n) (_ : m ≤ f) (a1 : Nat → Int32) (tx1 : Nat → Int8), (∀ j, j ≠ 133 → a1 j = a j) → a1 133 = nI (z + k) → Tt (f_X12_key_58 (nI n) u re le be so va si w wa bd x x0 (f + 1) (nI k) a1 tx1) (fun q => q.2.1.2.1 = u ∧ (∀ j, j ≠ 133 → q.2.2.1 j = a j) ∧ ∃ z' : Nat, z' ≤ 300 ∧ q.2.2.1 133 = nI z') := by
    intro n hn m
    induction m with
    | zero =>
      intro k f hk _ a1 tx1 h1 h2
      rw [f_X12_key_58_s, if_pos (nI_le (by omega) (by omega))]
      exact tt_r ⟨rfl, h1, z + k, by omega, h2⟩
    | succ m ih =>
      intro k f hk hf a1 tx1 h1 h2
      obtain ⟨f, rfl⟩ : ∃ q, f = q + 1 := ⟨f - 1, by omega⟩
      rw [f_X12_key_58_s, if_neg (nI_ge (by omega) (by omega)), h2]
      refine tt_n (tt_ik (z + k) rfl (by omega) (by omega) ?_)
      rw [nI_1, nI_1]
      exact ih (k + 1) f (by omega) (by omega) _ _ (fun j hj => by rw [upd_ne _ _ hj]; exact h1 j hj) (by rw [upd_same]; rfl)
  have l37 : ∀ n, n ≤ 8 → Tt (f_X12_key_37 a (nI n) u re le be so va si w wa bd x x0 tx) (fun q => q.2.1.2.1 = u ∧ (∀ j, j ≠ 133 → q.2.2.1 j = a j) ∧ ∃ z' : Nat, z' ≤ 300 ∧ q.2.2.1 133 = nI z') := by
    intro n hn
    unfold f_X12_key_37
    rw [h, nI_add]
    refine tt_i (fun c => ?_) (fun _ => tt_r ⟨rfl, fun _ _ => rfl, z, hz, h⟩)
    have hle : z + n ≤ 300 := (nI_leI (b := 300) (by omega) (by omega)).mp c
    exact l58 n hle n 0 65535 (by omega) (by omega) a tx (fun _ _ => rfl) h
  have l7 : ∀ (m k f : Nat) (_ : k + m = 8) (_ : m ≤ f), Tt (f_X12_key_7 a u re le be so va si w wa bd x x0 tx (f + 1) (nI k)) (fun q => q.2.1.2.1 = u ∧ (∀ j, j ≠ 133 → q.2.2.1 j = a j) ∧ ∃ z' : Nat, z' ≤ 300 ∧ q.2.2.1 133 = nI z') := by
    intro m
    induction m with
    | zero =>
      intro k f hk _
      rw [f_X12_key_7_s, if_pos (show (8 : Int32) ≤ nI k from nI_le (a := 8) (by omega) (by omega))]
      exact l37 k (by omega)
    | succ m ih =>
      intro k f hk hf
      obtain ⟨f, rfl⟩ : ∃ q, f = q + 1 := ⟨f - 1, by omega⟩
      rw [f_X12_key_7_s, if_neg (show ¬ (8 : Int32) ≤ nI k from nI_ge (a := k) (b := 8) (by omega) (by omega))]
      refine tt_i (fun _ => l37 k (by omega)) (fun _ => ?_)
      rw [nI_1]
      exact ih (k + 1) f (by omega) (by omega)
  unfold f_X12_key
  exact l7 8 0 65535 (by omega) (by omega)
theorem cnt_t (x0 : Int32) (s : SX12) (a : Nat → Int32) (hB : IB a 0) : Tt (f_X12_count x0 s a) (fun q => q.2.2.1 = s.2.1) := by
  obtain ⟨ra, u, re, le, be, so, va, si, w, wa, bd, x⟩ := s
  obtain ⟨L, w', st, r, sy, bt, hd, po, si', sd, tk, hS, _⟩ := hB.sb
  have k : ∀ (v : Nat), 2 ≤ v → v ≤ 8 → x0 = nI v → Tt (m_in ((1 + x0) - 2) 680 (some ((a ((1 + x0) - 2).toNatClampNeg), ((0, u, re, le, be, so, va, si, w, wa, bd, x) : SX12)))) (fun q => q.2.2.1 = u) := by
    intro v h1 h2 e
    subst e
    rw [show (1 : Int32) = nI 1 from rfl, nI_add, show (2 : Int32) = nI 2 from rfl, pk_sub (by omega)]
    exact tt_ik (1 + v - 2) rfl (by omega) (by omega) (tt_r rfl)
  unfold f_X12_count
  refine tt_i (fun _ => tt_r rfl) (fun _ => tt_i (fun _ => tt_r rfl) (fun _ => tt_i (fun c => k 2 (by decide) (by decide) c) (fun _ => tt_i (fun c => k 3 (by decide) (by decide) c) (fun _ => tt_i (fun c => k 4 (by decide) (by decide) c) (fun _ => tt_i (fun c => k 5 (by decide) (by decide) c) (fun _ => tt_i (fun c => k 6 (by decide) (by decide) c) (fun _ => tt_i (fun c => k 7 (by decide) (by decide) c) (fun _ => tt_i (fun c => k 8 (by decide) (by decide) c) (fun _ => tt_i (fun _ => ?_) (fun _ => tt_i (fun _ => ?_) (fun _ => tt_i (fun _ => tt_r rfl) (fun _ => tt_i (fun _ => tt_r rfl) (fun _ => tt_i (fun _ => tt_r rfl) (fun _ => tt_i (fun _ => tt_r rfl) (fun _ => tt_i (fun _ => tt_r rfl) (fun _ => tt_r rfl))))))))))))))))
  · rw [chn_t hS, bso]; exact tt_r rfl
  · obtain ⟨v, e⟩ := cm_t hS (0, u, re, le, be, so, va, si, w, wa, bd, x)
    rw [e, bso]; exact tt_r rfl
