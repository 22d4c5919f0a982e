theorem f_X12_token_0_s (v_this_raised : Int32) (v_this_undos : Int32) (v_this_length : Int32) (v_this_begin : Int32) (v_this_sort : Int32) (v_this_value : Int32) (v_this_signs : Int32) (v_this_word : Int64) (v_this_wrongAt : Int32) (v_this_badAt : Int32) (v_this_x : Int32) (r_this_text : Nat → Int8) (n : Nat) (y0_this_reached : Int32) : f_X12_token_0 v_this_raised v_this_undos v_this_length v_this_begin v_this_sort v_this_value v_this_signs v_this_word v_this_wrongAt v_this_badAt v_this_x r_this_text (n + 1) y0_this_reached = (Option.bind (f_X12_see (v_this_raised, v_this_undos, y0_this_reached, v_this_length, v_this_begin, v_this_sort, v_this_value, v_this_signs, v_this_word, v_this_wrongAt, v_this_badAt, v_this_x) r_this_text) (fun u1_r => (if u1_r = 10 then f_X12_token_18 y0_this_reached (f_X12_token_0 v_this_raised v_this_undos v_this_length v_this_begin v_this_sort v_this_value v_this_signs v_this_word v_this_wrongAt v_this_badAt v_this_x r_this_text n) else Option.bind (f_X12_see (v_this_raised, v_this_undos, y0_this_reached, v_this_length, v_this_begin, v_this_sort, v_this_value, v_this_signs, v_this_word, v_this_wrongAt, v_this_badAt, v_this_x) r_this_text) (fun u10_r => (if u10_r = 32 then f_X12_token_18 y0_this_reached (f_X12_token_0 v_this_raised v_this_undos v_this_length v_this_begin v_this_sort v_this_value v_this_signs v_this_word v_this_wrongAt v_this_badAt v_this_x r_this_text n) else Option.bind (f_X12_see (v_this_raised, v_this_undos, y0_this_reached, v_this_length, y0_this_reached, v_this_sort, v_this_value, v_this_signs, v_this_word, v_this_wrongAt, v_this_badAt, v_this_x) r_this_text) (fun u40_r => (if 0 ≤ u40_r then Option.bind (f_X12_in u40_r 97 122) (fun u68_r => (if u68_r = 0 then Option.bind (f_X12_in u40_r 48 57) (fun u152_r => (if u152_r = 0 then (if u40_r = 59 then f_X12_token_263 v_this_raised v_this_undos v_this_length y0_this_reached v_this_wrongAt v_this_badAt v_this_x v_this_value 4 else f_X12_token_263 v_this_raised v_this_undos v_this_length y0_this_reached v_this_wrongAt v_this_badAt v_this_x v_this_value 1) else f_X12_token_163 v_this_raised v_this_undos v_this_length y0_this_reached v_this_sort v_this_signs v_this_wrongAt v_this_badAt v_this_x r_this_text 65536 0 y0_this_reached 0)) else f_X12_token_74 v_this_raised v_this_undos v_this_length y0_this_reached v_this_sort v_this_value v_this_signs v_this_wrongAt v_this_badAt v_this_x r_this_text 65536 0 y0_this_reached 0)) else f_X12_token_266 v_this_raised v_this_undos v_this_length y0_this_reached v_this_wrongAt v_this_badAt v_this_x 0 y0_this_reached 0 v_this_value 0))))))) := rfl
theorem f_X12_token_74_s (v_this_raised : Int32) (v_this_undos : Int32) (v_this_length : Int32) (y0_this_reached : Int32) (v_this_sort : Int32) (v_this_value : Int32) (v_this_signs : Int32) (v_this_wrongAt : Int32) (v_this_badAt : Int32) (v_this_x : Int32) (r_this_text : Nat → Int8) (n : Nat) (y74_l2 : Int32) (y74_this_reached : Int32) (y74_this_word : Int64) : f_X12_token_74 v_this_raised v_this_undos v_this_length y0_this_reached v_this_sort v_this_value v_this_signs v_this_wrongAt v_this_badAt v_this_x r_this_text (n + 1) y74_l2 y74_this_reached y74_this_word = (Option.bind (f_X12_see (v_this_raised, v_this_undos, y74_this_reached, v_this_length, y0_this_reached, v_this_sort, v_this_value, v_this_signs, y74_this_word, v_this_wrongAt, v_this_badAt, v_this_x) r_this_text) (fun u75_r => Option.bind (f_X12_in u75_r 97 122) (fun u82_r => (if u82_r = 0 then (if y74_l2 ≤ 8 then f_X12_token_136 v_this_raised v_this_undos v_this_length y0_this_reached v_this_wrongAt v_this_badAt v_this_x y74_l2 y74_this_reached v_this_value y74_this_word else f_X12_token_136 v_this_raised v_this_undos v_this_length y0_this_reached v_this_wrongAt v_this_badAt v_this_x y74_l2 y74_this_reached v_this_value 0) else Option.bind (f_X12_see (v_this_raised, v_this_undos, y74_this_reached, v_this_length, y0_this_reached, v_this_sort, v_this_value, v_this_signs, y74_this_word, v_this_wrongAt, v_this_badAt, v_this_x) r_this_text) (fun u97_r => m_n ((y74_this_word <<< ((8 : Int32).toInt64 &&& 63)) ||| u97_r.toInt64) (fun u102_e => (f_X12_token_74 v_this_raised v_this_undos v_this_length y0_this_reached v_this_sort v_this_value v_this_signs v_this_wrongAt v_this_badAt v_this_x r_this_text n) (y74_l2 + 1) (y74_this_reached + 1) u102_e)))))) := rfl
theorem f_X12_token_163_s (v_this_raised : Int32) (v_this_undos : Int32) (v_this_length : Int32) (y0_this_reached : Int32) (v_this_sort : Int32) (v_this_signs : Int32) (v_this_wrongAt : Int32) (v_this_badAt : Int32) (v_this_x : Int32) (r_this_text : Nat → Int8) (n : Nat) (y163_l2 : Int32) (y163_this_reached : Int32) (y163_this_value : Int32) : f_X12_token_163 v_this_raised v_this_undos v_this_length y0_this_reached v_this_sort v_this_signs v_this_wrongAt v_this_badAt v_this_x r_this_text (n + 1) y163_l2 y163_this_reached y163_this_value = (Option.bind (f_X12_see (v_this_raised, v_this_undos, y163_this_reached, v_this_length, y0_this_reached, v_this_sort, y163_this_value, v_this_signs, 0, v_this_wrongAt, v_this_badAt, v_this_x) r_this_text) (fun u164_r => Option.bind (f_X12_in u164_r 48 57) (fun u171_r => (if u171_r = 0 then (if y163_l2 ≤ 12 then f_X12_token_235 v_this_raised v_this_undos v_this_length y0_this_reached v_this_wrongAt v_this_badAt v_this_x y163_l2 y163_this_reached y163_this_value 3 else f_X12_token_235 v_this_raised v_this_undos v_this_length y0_this_reached v_this_wrongAt v_this_badAt v_this_x y163_l2 y163_this_reached y163_this_value 1) else (if 3 ≤ y163_l2 then f_X12_token_204 y163_l2 y163_this_reached (f_X12_token_163 v_this_raised v_this_undos v_this_length y0_this_reached v_this_sort v_this_signs v_this_wrongAt v_this_badAt v_this_x r_this_text n) 1000 else Option.bind (f_X12_see (v_this_raised, v_this_undos, y163_this_reached, v_this_length, y0_this_reached, v_this_sort, y163_this_value, v_this_signs, 0, v_this_wrongAt, v_this_badAt, v_this_x) r_this_text) (fun u191_r => f_X12_token_204 y163_l2 y163_this_reached (f_X12_token_163 v_this_raised v_this_undos v_this_length y0_this_reached v_this_sort v_this_signs v_this_wrongAt v_this_badAt v_this_x r_this_text n) (((10 * y163_this_value) + u191_r) - 48))))))) := rfl
theorem f_X12_isRoleToken_2_s (v_this_signs : Int32) (v_this_begin : Int32) (v_this_sort : Int32) (r_this_text : Nat → Int8) (x0 : Int32) (n : Nat) (y2_l2 : Int32) (y2_this_told : (Nat → Int32)) : f_X12_isRoleToken_2 v_this_signs v_this_begin v_this_sort r_this_text x0 (n + 1) y2_l2 y2_this_told = ((if v_this_signs ≤ y2_l2 then some (1, y2_this_told) else m_in (v_this_begin + y2_l2) 1200 ((if v_this_sort = 3 then (if (r_this_text (v_this_begin + y2_l2).toNatClampNeg).toInt32 = 48 then f_X12_isRoleToken_42 y2_this_told x0 y2_l2 r_this_text v_this_begin (f_X12_isRoleToken_2 v_this_signs v_this_begin v_this_sort r_this_text x0 n) else (if (r_this_text (v_this_begin + y2_l2).toNatClampNeg).toInt32 = 49 then f_X12_isRoleToken_42 y2_this_told x0 y2_l2 r_this_text v_this_begin (f_X12_isRoleToken_2 v_this_signs v_this_begin v_this_sort r_this_text x0 n) else f_X12_isRoleToken_67 y2_this_told x0 y2_l2 r_this_text v_this_begin (f_X12_isRoleToken_2 v_this_signs v_this_begin v_this_sort r_this_text x0 n) 0)) else (if (r_this_text (v_this_begin + y2_l2).toNatClampNeg).toInt32 = 99 then f_X12_isRoleToken_62 y2_this_told x0 y2_l2 r_this_text v_this_begin (f_X12_isRoleToken_2 v_this_signs v_this_begin v_this_sort r_this_text x0 n) else (if (r_this_text (v_this_begin + y2_l2).toNatClampNeg).toInt32 = 100 then f_X12_isRoleToken_62 y2_this_told x0 y2_l2 r_this_text v_this_begin (f_X12_isRoleToken_2 v_this_signs v_this_begin v_this_sort r_this_text x0 n) else f_X12_isRoleToken_67 y2_this_told x0 y2_l2 r_this_text v_this_begin (f_X12_isRoleToken_2 v_this_signs v_this_begin v_this_sort r_this_text x0 n) 0)))))) := rfl
theorem f_X12_rolesLine_11_s (r_this_text : Nat → Int8) (v_this_begin : Int32) (n : Nat) (y11_l2 : Int32) (y11_this_raised : Int32) (y11_this_undos : Int32) (y11_this_reached : Int32) (y11_this_length : Int32) (y11_this_begin : Int32) (y11_this_sort : Int32) (y11_this_value : Int32) (y11_this_signs : Int32) (y11_this_word : Int64) (y11_this_wrongAt : Int32) (y11_this_badAt : Int32) (y11_this_x : Int32) (y11_this_told : (Nat → Int32)) : f_X12_rolesLine_11 r_this_text v_this_begin (n + 1) y11_l2 y11_this_raised y11_this_undos y11_this_reached y11_this_length y11_this_begin y11_this_sort y11_this_value y11_this_signs y11_this_word y11_this_wrongAt y11_this_badAt y11_this_x y11_this_told = ((if y11_this_sort = 3 then f_X12_rolesLine_27 y11_l2 y11_this_raised y11_this_undos y11_this_reached y11_this_length y11_this_begin y11_this_sort y11_this_value y11_this_signs y11_this_word y11_this_wrongAt y11_this_badAt y11_this_x r_this_text y11_this_told (f_X12_rolesLine_11 r_this_text v_this_begin n) else (if y11_this_sort = 2 then f_X12_rolesLine_27 y11_l2 y11_this_raised y11_this_undos y11_this_reached y11_this_length y11_this_begin y11_this_sort y11_this_value y11_this_signs y11_this_word y11_this_wrongAt y11_this_badAt y11_this_x r_this_text y11_this_told (f_X12_rolesLine_11 r_this_text v_this_begin n) else (if y11_l2 = 0 then Option.bind (f_X12_fails (y11_this_raised, y11_this_undos, y11_this_reached, y11_this_length, y11_this_begin, y11_this_sort, y11_this_value, y11_this_signs, y11_this_word, y11_this_wrongAt, y11_this_badAt, y11_this_x)) (fun z => match z with | (u59_r, (u59_this_raised, u59_this_undos, u59_this_reached, u59_this_length, u59_this_begin, u59_this_sort, u59_this_value, u59_this_signs, u59_this_word, u59_this_wrongAt, u59_this_badAt, u59_this_x)) => m_g (u59_r &&& 1 = u59_r) (some (u59_r, (u59_this_raised, u59_this_undos, u59_this_reached, u59_this_length, u59_this_begin, u59_this_sort, u59_this_value, u59_this_signs, u59_this_word, u59_this_wrongAt, u59_this_badAt, u59_this_x), y11_this_told))) else f_X12_rolesLine_71 y11_l2 v_this_begin y11_this_raised y11_this_undos y11_this_reached y11_this_length y11_this_begin y11_this_sort y11_this_value y11_this_signs y11_this_word y11_this_wrongAt y11_this_badAt y11_this_x y11_this_told 65536 0 0 0)))) := rfl
theorem f_X12_rolesLine_71_s (y11_l2 : Int32) (v_this_begin : Int32) (y11_this_raised : Int32) (y11_this_undos : Int32) (y11_this_reached : Int32) (y11_this_length : Int32) (y11_this_begin : Int32) (y11_this_sort : Int32) (y11_this_value : Int32) (y11_this_signs : Int32) (y11_this_word : Int64) (y11_this_wrongAt : Int32) (y11_this_badAt : Int32) (y11_this_x : Int32) (y11_this_told : Nat → Int32) (n : Nat) (y71_l3 : Int32) (y71_l4 : Int32) (y71_l5 : Int32) : f_X12_rolesLine_71 y11_l2 v_this_begin y11_this_raised y11_this_undos y11_this_reached y11_this_length y11_this_begin y11_this_sort y11_this_value y11_this_signs y11_this_word y11_this_wrongAt y11_this_badAt y11_this_x y11_this_told (n + 1) y71_l3 y71_l4 y71_l5 = ((if y11_l2 ≤ y71_l5 then f_X12_rolesLine_136 y11_l2 v_this_begin y11_this_raised y11_this_undos y11_this_reached y11_this_length y11_this_begin y11_this_sort y11_this_value y11_this_signs y11_this_word y11_this_wrongAt y11_this_badAt y11_this_x y11_this_told y71_l3 y71_l4 else (if 12 ≤ y71_l5 then f_X12_rolesLine_136 y11_l2 v_this_begin y11_this_raised y11_this_undos y11_this_reached y11_this_length y11_this_begin y11_this_sort y11_this_value y11_this_signs y11_this_word y11_this_wrongAt y11_this_badAt y11_this_x y11_this_told y71_l3 y71_l4 else m_in (9 + y71_l5) 21 ((if 2 ≤ (y11_this_told (9 + y71_l5).toNatClampNeg) then f_X12_rolesLine_104 y71_l5 y11_this_told y71_l3 y71_l4 (f_X12_rolesLine_71 y11_l2 v_this_begin y11_this_raised y11_this_undos y11_this_reached y11_this_length y11_this_begin y11_this_sort y11_this_value y11_this_signs y11_this_word y11_this_wrongAt y11_this_badAt y11_this_x y11_this_told n) 0 else f_X12_rolesLine_104 y71_l5 y11_this_told y71_l3 y71_l4 (f_X12_rolesLine_71 y11_l2 v_this_begin y11_this_raised y11_this_undos y11_this_reached y11_this_length y11_this_begin y11_this_sort y11_this_value y11_this_signs y11_this_word y11_this_wrongAt y11_this_badAt y11_this_x y11_this_told n) 1))))) := rfl
theorem f_X12_scheme_36_s (r_this_all : Nat → Int32) (r_this_text : Nat → Int8) (n : Nat) (y36_l1 : Int32) (y36_this_raised : Int32) (y36_this_undos : Int32) (y36_this_reached : Int32) (y36_this_length : Int32) (y36_this_begin : Int32) (y36_this_sort : Int32) (y36_this_value : Int32) (y36_this_signs : Int32) (y36_this_word : Int64) (y36_this_wrongAt : Int32) (y36_this_badAt : Int32) (y36_this_x : Int32) (y36_this_told : (Nat → Int32)) : f_X12_scheme_36 r_this_all r_this_text (n + 1) y36_l1 y36_this_raised y36_this_undos y36_this_reached y36_this_length y36_this_begin y36_this_sort y36_this_value y36_this_signs y36_this_word y36_this_wrongAt y36_this_badAt y36_this_x y36_this_told = ((if y36_l1 = 0 then f_X12_scheme_80 y36_l1 r_this_all y36_this_raised y36_this_undos y36_this_reached y36_this_length y36_this_begin y36_this_sort y36_this_value y36_this_signs y36_this_word y36_this_wrongAt y36_this_badAt y36_this_x y36_this_told else (if y36_this_sort = 0 then f_X12_scheme_80 y36_l1 r_this_all y36_this_raised y36_this_undos y36_this_reached y36_this_length y36_this_begin y36_this_sort y36_this_value y36_this_signs y36_this_word y36_this_wrongAt y36_this_badAt y36_this_x y36_this_told else Option.bind (f_X12_line (y36_this_raised, y36_this_undos, y36_this_reached, y36_this_length, y36_this_begin, y36_this_sort, y36_this_value, y36_this_signs, y36_this_word, y36_this_wrongAt, y36_this_badAt, y36_this_x) r_this_text y36_this_told) (fun z => match z with | (u48_r, (u48_this_raised, u48_this_undos, u48_this_reached, u48_this_length, u48_this_begin, u48_this_sort, u48_this_value, u48_this_signs, u48_this_word, u48_this_wrongAt, u48_this_badAt, u48_this_x), u48_this_told) => (if u48_r = 0 then f_X12_scheme_69 u48_this_told r_this_text (f_X12_scheme_36 r_this_all r_this_text n) u48_r u48_this_raised u48_this_undos u48_this_reached u48_this_length u48_this_begin u48_this_sort u48_this_value u48_this_signs u48_this_word u48_this_wrongAt u48_this_badAt u48_this_x else (if u48_this_sort = 4 then f_X12_scheme_69 u48_this_told r_this_text (f_X12_scheme_36 r_this_all r_this_text n) u48_r u48_this_raised u48_this_undos u48_this_reached u48_this_length u48_this_begin u48_this_sort u48_this_value u48_this_signs u48_this_word u48_this_wrongAt u48_this_badAt u48_this_x else Option.bind (f_X12_fails (u48_this_raised, u48_this_undos, u48_this_reached, u48_this_length, u48_this_begin, u48_this_sort, u48_this_value, u48_this_signs, u48_this_word, u48_this_wrongAt, u48_this_badAt, u48_this_x)) (fun z => match z with | (u65_r, (u65_this_raised, u65_this_undos, u65_this_reached, u65_this_length, u65_this_begin, u65_this_sort, u65_this_value, u65_this_signs, u65_this_word, u65_this_wrongAt, u65_this_badAt, u65_this_x)) => f_X12_scheme_69 u48_this_told r_this_text (f_X12_scheme_36 r_this_all r_this_text n) u65_r u65_this_raised u65_this_undos u65_this_reached u65_this_length u65_this_begin u65_this_sort u65_this_value u65_this_signs u65_this_word u65_this_wrongAt u65_this_badAt u65_this_x))))))) := rfl
theorem f_X12_taken_2_s (v_this_raised : Int32) (v_this_undos : Int32) (v_this_reached : Int32) (v_this_length : Int32) (v_this_begin : Int32) (v_this_sort : Int32) (v_this_value : Int32) (v_this_signs : Int32) (v_this_word : Int64) (v_this_wrongAt : Int32) (v_this_badAt : Int32) (v_this_x : Int32) (r_this_told : Nat → Int32) (n : Nat) (y2_l1 : Int32) (y2_this_all : (Nat → Int32)) : f_X12_taken_2 v_this_raised v_this_undos v_this_reached v_this_length v_this_begin v_this_sort v_this_value v_this_signs v_this_word v_this_wrongAt v_this_badAt v_this_x r_this_told (n + 1) y2_l1 y2_this_all = ((if 133 ≤ y2_l1 then Option.bind (f_X12_begins (v_this_raised, v_this_undos, v_this_reached, v_this_length, v_this_begin, v_this_sort, v_this_value, v_this_signs, v_this_word, v_this_wrongAt, v_this_badAt, v_this_x) y2_this_all) (fun u38_this_all => some ((v_this_raised, 0, v_this_reached, v_this_length, v_this_begin, v_this_sort, v_this_value, v_this_signs, v_this_word, v_this_wrongAt, v_this_badAt, v_this_x), u38_this_all)) else (if 21 ≤ y2_l1 then f_X12_taken_30 y2_l1 y2_this_all (f_X12_taken_2 v_this_raised v_this_undos v_this_reached v_this_length v_this_begin v_this_sort v_this_value v_this_signs v_this_word v_this_wrongAt v_this_badAt v_this_x r_this_told n) 0 else m_in y2_l1 21 (f_X12_taken_30 y2_l1 y2_this_all (f_X12_taken_2 v_this_raised v_this_undos v_this_reached v_this_length v_this_begin v_this_sort v_this_value v_this_signs v_this_word v_this_wrongAt v_this_badAt v_this_x r_this_told n) (r_this_told y2_l1.toNatClampNeg))))) := rfl
theorem f_X12_begins_3_s (s_this : SX12) (n : Nat) (y3_l1 : Int32) (y3_this_all : (Nat → Int32)) : f_X12_begins_3 s_this (n + 1) y3_l1 y3_this_all = ((if 133 ≤ y3_l1 then Option.bind (f_X12_hunts s_this (upd (upd y3_this_all 52 (-1)) 33 0)) (fun u40_this_all => some u40_this_all) else m_in y3_l1 680 ((f_X12_begins_3 s_this n) (y3_l1 + 1) (upd y3_this_all y3_l1.toNatClampNeg 0)))) := rfl
theorem f_X12_hunts_61_s (s_this : SX12) (n : Nat) (y61_l1 : Int32) (y61_this_all : (Nat → Int32)) : f_X12_hunts_61 s_this (n + 1) y61_l1 y61_this_all = (Option.bind (f_X12_round s_this y61_this_all) (fun u63_r => (if u63_r ≤ y61_l1 then some y61_this_all else m_in (124 + (y61_l1 / 32)) 680 (m_n ((y61_this_all (124 + (y61_l1 / 32)).toNatClampNeg) ||| ((1 : Int32) <<< ((y61_l1 - y61_l1 / 32 * 32) &&& 31))) (fun u89_e => m_in (124 + (y61_l1 / 32)) 680 ((f_X12_hunts_61 s_this n) (y61_l1 + 1) (upd y61_this_all (124 + (y61_l1 / 32)).toNatClampNeg u89_e))))))) := rfl
theorem f_X12_hunts_37_s (s_this : SX12) (n : Nat) (y37_l1 : Int32) (y37_this_all : (Nat → Int32)) : f_X12_hunts_37 s_this (n + 1) y37_l1 y37_this_all = ((if 9 ≤ y37_l1 then f_X12_hunts_61 s_this 65536 0 y37_this_all else m_in (124 + y37_l1) 680 ((f_X12_hunts_37 s_this n) (y37_l1 + 1) (upd y37_this_all (124 + y37_l1).toNatClampNeg 0)))) := rfl
theorem f_X12_atFirst_2_s (v_this_raised : Int32) (v_this_undos : Int32) (v_this_length : Int32) (v_this_begin : Int32) (v_this_sort : Int32) (v_this_value : Int32) (v_this_signs : Int32) (v_this_word : Int64) (v_this_wrongAt : Int32) (v_this_x : Int32) (n : Nat) (y2_l1 : Int32) (y2_this_told : (Nat → Int32)) : f_X12_atFirst_2 v_this_raised v_this_undos v_this_length v_this_begin v_this_sort v_this_value v_this_signs v_this_word v_this_wrongAt v_this_x (n + 1) y2_l1 y2_this_told = ((if 21 ≤ y2_l1 then some ((v_this_raised, v_this_undos, 0, v_this_length, v_this_begin, v_this_sort, v_this_value, v_this_signs, v_this_word, v_this_wrongAt, (-1), v_this_x), (upd (upd (upd (upd (upd (upd (upd (upd (upd y2_this_told 0 8) 2 7) 4 4) 5 2) 6 4) 8 6) 11 1) 13 1) 14 1)) else m_in y2_l1 21 ((f_X12_atFirst_2 v_this_raised v_this_undos v_this_length v_this_begin v_this_sort v_this_value v_this_signs v_this_word v_this_wrongAt v_this_x n) (y2_l1 + 1) (upd y2_this_told y2_l1.toNatClampNeg 0)))) := rfl
def Tt {α : Type} (A : Option α) (P : α → Prop) : Prop := ∃ r, A = some r ∧ P r
theorem tt_r {α : Type} {a : α} {P : α → Prop} (h : P a) : Tt (some a) P := ⟨a, rfl, h⟩
theorem tt_b {α β : Type} {A : Option α} {f : α → Option β} {P : α → Prop} {Q : β → Prop} (h : Tt A P) (k : ∀ r, P r → Tt (f r) Q) : Tt (Option.bind A f) Q := by
  obtain ⟨r, e, p⟩ := h
  rw [e]; exact k r p
theorem tt_i {α : Type} {c : Prop} {inst : Decidable c} {A B : Option α} {P : α → Prop} (h1 : c → Tt A P) (h2 : ¬ c → Tt B P) : Tt (@ite _ c inst A B) P := by
  by_cases h : c
  · rw [if_pos h]; exact h1 h
  · rw [if_neg h]; exact h2 h
theorem tt_in {α : Type} {i : Int32} {n : Nat} {A : Option α} {P : α → Prop} (h : vp_in i n) (k : Tt A P) : Tt (m_in i n A) P := by rw [m_inI h]; exact k
theorem tt_ik {α : Type} {i : Int32} {n : Nat} {A : Option α} {P : α → Prop} (k : Nat) (e : i = nI k) (h : k < n) (hn : n < 2 ^ 31) (q : Tt A P) : Tt (m_in i n A) P := by subst e; rw [m_inI (nI_in h hn)]; exact q
theorem tt_g {α : Type} {c : Prop} {inst : Decidable c} {A : Option α} {P : α → Prop} (h : c) (k : Tt A P) : Tt (@m_g α c inst A) P := by rw [m_gI h]; exact k
theorem tt_n {α β : Type} {a : α} {k : α → Option β} {P : β → Prop} (h : Tt (k a) P) : Tt (m_n a k) P := h
theorem tt_m {α : Type} {A : Option α} {P Q : α → Prop} (h : Tt A P) (k : ∀ r, P r → Q r) : Tt A Q := by
  obtain ⟨r, e, p⟩ := h
  exact ⟨r, e, k r p⟩
theorem see_is {z r : Nat} (hr : r ≤ z) (hz : z ≤ 300) (ra u be so va si : Int32) (w : Int64) (wa bd x : Int32) (tx : Nat → Int8) : ∃ v, f_X12_see (ra, u, nI r, nI z, be, so, va, si, w, wa, bd, x) tx = some v ∧ (r = z → v = -1) := by
  unfold f_X12_see
  simp only []
  by_cases h : z ≤ r
  · rw [if_pos (nI_le h (by omega))]; exact ⟨_, rfl, fun _ => rfl⟩
  · rw [if_neg (nI_ge (by omega) (by omega)), m_inI (nI_in (c := r) (N := 1200) (by omega) (by omega))]
    exact ⟨_, rfl, fun e => absurd e (by omega)⟩
theorem in_is (v a b : Int32) : ∃ q, f_X12_in v a b = some q ∧ (q = 0 ∨ (q = 1 ∧ ¬ v < a ∧ ¬ b < v)) := by
  unfold f_X12_in
  by_cases h1 : v < a
  · rw [if_pos h1]; exact ⟨0, rfl, Or.inl rfl⟩
  · rw [if_neg h1]
    by_cases h2 : b < v
    · rw [if_pos h2]; exact ⟨0, rfl, Or.inl rfl⟩
    · rw [if_neg h2]; exact ⟨1, rfl, Or.inr ⟨rfl, h1, h2⟩⟩
/-- what a token leaves -/
def TK (z r : Nat) (ra u wa bd x : Int32) (s' : SX12) : Prop := ∃ r' b' so' va' g' w', s' = (ra, u, nI r', nI z, nI b', so', va', nI g', w', wa, bd, x) ∧ r ≤ r' ∧ r' ≤ z ∧ b' + g' ≤ r' ∧ r ≤ b' ∧ (so' = 0 ∨ r < r')
theorem tk74 {z : Nat} (hz : z ≤ 300) (ra u : Int32) (b : Nat) (so va si wa bd x : Int32) (tx : Nat → Int8) (r0 : Nat) (m : Nat) : ∀ (k f : Nat) (w : Int64), (b + k) + m = z → m ≤ f → r0 ≤ b → (k = 0 → b < z ∧ ∀ v, (f_X12_see (ra, u, nI b, nI z, nI b, so, va, si, w, wa, bd, x) tx = some v → ¬ v < 97 ∧ ¬ 122 < v)) →
    Tt (f_X12_token_74 ra u (nI z) (nI b) so va si wa bd x tx (f + 1) (nI k) (nI (b + k)) w) (TK z r0 ra u wa bd x) := by
  induction m with
  | zero =>
    intro k f w hk hf hb h0
    rw [f_X12_token_74_s]
    obtain ⟨v, e, ev⟩ := see_is (r := b + k) (z := z) (by omega) hz ra u (nI b) so va si w wa bd x tx
    rw [e, bso]
    have hv := ev (by omega)
    subst hv
    rw [show f_X12_in (-1) 97 122 = some 0 from by decide, bso, if_pos rfl]
    have hk1 : 1 ≤ k := by
      rcases Nat.eq_zero_or_pos k with e0 | e0
      · exact absurd (h0 e0).1 (by omega)
      · exact e0
    have fin : ∀ t, Tt (f_X12_token_136 ra u (nI z) (nI b) wa bd x (nI k) (nI (b + k)) va t) (TK z r0 ra u wa bd x) := fun t => tt_r ⟨b + k, b, 2, va, k, t, rfl, by omega, by omega, by omega, by omega, Or.inr (by omega)⟩
    split
    · exact fin _
    · exact fin _
  | succ m ih =>
    intro k f w hk hf hb h0
    obtain ⟨f, rfl⟩ : ∃ q, f = q + 1 := ⟨f - 1, by omega⟩
    rw [f_X12_token_74_s]
    obtain ⟨v, e, ev⟩ := see_is (r := b + k) (z := z) (by omega) hz ra u (nI b) so va si w wa bd x tx
    rw [e, bso]
    obtain ⟨q, eq, hq⟩ := in_is v 97 122
    rw [eq, bso]
    refine tt_i (fun c => ?_) (fun c => ?_)
    · have hk1 : 1 ≤ k := by
        rcases Nat.eq_zero_or_pos k with e0 | e0
        · subst e0
          have := (h0 rfl).2 v (by rw [Nat.add_zero] at e; exact e)
          unfold f_X12_in at eq
          rw [if_neg this.1, if_neg this.2] at eq
          exact absurd (Option.some.inj eq) (by rw [c]; decide)
        · exact e0
      have fin : ∀ t, Tt (f_X12_token_136 ra u (nI z) (nI b) wa bd x (nI k) (nI (b + k)) va t) (TK z r0 ra u wa bd x) := fun t => tt_r ⟨b + k, b, 2, va, k, t, rfl, by omega, by omega, by omega, by omega, Or.inr (by omega)⟩
      split
      · exact fin _
      · exact fin _
    · rw [bso]
      refine tt_n ?_
      rw [nI_1, nI_1]
      exact ih (k + 1) f _ (by omega) (by omega) hb (fun e0 => absurd e0 (by omega))
theorem tk163 {z : Nat} (hz : z ≤ 300) (ra u : Int32) (b : Nat) (so si wa bd x : Int32) (tx : Nat → Int8) (r0 : Nat) (m : Nat) : ∀ (k f : Nat) (va : Int32), (b + k) + m = z → m ≤ f → r0 ≤ b → (k = 0 → b < z ∧ ∀ v, (f_X12_see (ra, u, nI b, nI z, nI b, so, va, si, 0, wa, bd, x) tx = some v → ¬ v < 48 ∧ ¬ 57 < v)) →
    Tt (f_X12_token_163 ra u (nI z) (nI b) so si wa bd x tx (f + 1) (nI k) (nI (b + k)) va) (TK z r0 ra u wa bd x) := by
  induction m with
  | zero =>
    intro k f va hk hf hb h0
    rw [f_X12_token_163_s]
    obtain ⟨v, e, ev⟩ := see_is (r := b + k) (z := z) (by omega) hz ra u (nI b) so va si 0 wa bd x tx
    rw [e, bso]
    have hv := ev (by omega)
    subst hv
    rw [show f_X12_in (-1) 48 57 = some 0 from by decide, bso, if_pos rfl]
    have hk1 : 1 ≤ k := by
      rcases Nat.eq_zero_or_pos k with e0 | e0
      · exact absurd (h0 e0).1 (by omega)
      · exact e0
    have fin : ∀ t, Tt (f_X12_token_235 ra u (nI z) (nI b) wa bd x (nI k) (nI (b + k)) va t) (TK z r0 ra u wa bd x) := fun t => tt_r ⟨b + k, b, t, va, k, 0, rfl, by omega, by omega, by omega, by omega, Or.inr (by omega)⟩
    split
    · exact fin _
    · exact fin _
  | succ m ih =>
    intro k f va hk hf hb h0
    obtain ⟨f, rfl⟩ : ∃ q, f = q + 1 := ⟨f - 1, by omega⟩
    rw [f_X12_token_163_s]
    obtain ⟨v, e, ev⟩ := see_is (r := b + k) (z := z) (by omega) hz ra u (nI b) so va si 0 wa bd x tx
    rw [e, bso]
    obtain ⟨q, eq, hq⟩ := in_is v 48 57
    rw [eq, bso]
    refine tt_i (fun c => ?_) (fun c => ?_)
    · have hk1 : 1 ≤ k := by
        rcases Nat.eq_zero_or_pos k with e0 | e0
        · subst e0
          have := (h0 rfl).2 v (by rw [Nat.add_zero] at e; exact e)
          unfold f_X12_in at eq
          rw [if_neg this.1, if_neg this.2] at eq
          exact absurd (Option.some.inj eq) (by rw [c]; decide)
        · exact e0
      have fin : ∀ t, Tt (f_X12_token_235 ra u (nI z) (nI b) wa bd x (nI k) (nI (b + k)) va t) (TK z r0 ra u wa bd x) := fun t => tt_r ⟨b + k, b, t, va, k, 0, rfl, by omega, by omega, by omega, by omega, Or.inr (by omega)⟩
      split
      · exact fin _
      · exact fin _
    · have go : ∀ t, Tt (f_X12_token_204 (nI k) (nI (b + k)) (f_X12_token_163 ra u (nI z) (nI b) so si wa bd x tx (f + 1)) t) (TK z r0 ra u wa bd x) := by
        intro t
        unfold f_X12_token_204
        rw [nI_1, nI_1]
        exact ih (k + 1) f t (by omega) (by omega) hb (fun e0 => absurd e0 (by omega))
      refine tt_i (fun _ => go _) (fun _ => ?_)
      rw [bso]
      exact go _
theorem tk0 {z : Nat} (hz : z ≤ 300) (ra u be so va si wa bd x : Int32) (w : Int64) (tx : Nat → Int8) (r0 : Nat) (m : Nat) : ∀ (r f : Nat), r + m = z → m ≤ f → r0 ≤ r →
    Tt (f_X12_token_0 ra u (nI z) be so va si w wa bd x tx (f + 1) (nI r)) (TK z r0 ra u wa bd x) := by
  induction m with
  | zero =>
    intro r f hr hf h0
    rw [f_X12_token_0_s]
    obtain ⟨v, e, ev⟩ := see_is (r := r) (z := z) (by omega) hz ra u be so va si w wa bd x tx
    obtain ⟨v2, e2, ev2⟩ := see_is (r := r) (z := z) (by omega) hz ra u (nI r) so va si w wa bd x tx
    have hv := ev (by omega)
    have hv2 := ev2 (by omega)
    subst hv
    subst hv2
    rw [e, bso, if_neg (by decide), bso, if_neg (by decide), e2, bso, if_neg (by decide)]
    exact tt_r ⟨r, r, 0, va, 0, 0, rfl, by omega, by omega, by omega, by omega, Or.inl rfl⟩
  | succ m ih =>
    intro r f hr hf h0
    obtain ⟨f, rfl⟩ : ∃ q, f = q + 1 := ⟨f - 1, by omega⟩
    rw [f_X12_token_0_s]
    obtain ⟨v, e, ev⟩ := see_is (r := r) (z := z) (by omega) hz ra u be so va si w wa bd x tx
    obtain ⟨v2, e2, ev2⟩ := see_is (r := r) (z := z) (by omega) hz ra u (nI r) so va si w wa bd x tx
    have go : Tt (f_X12_token_18 (nI r) (f_X12_token_0 ra u (nI z) be so va si w wa bd x tx (f + 1))) (TK z r0 ra u wa bd x) := by
      unfold f_X12_token_18
      rw [nI_1]
      exact ih (r + 1) f (by omega) (by omega) (by omega)
    rw [e, bso]
    refine tt_i (fun _ => go) (fun _ => ?_)
    rw [bso]
    refine tt_i (fun _ => go) (fun _ => ?_)
    rw [e2, bso]
    refine tt_i (fun c => ?_) (fun c => ?_)
    · obtain ⟨q, eq, hq⟩ := in_is v2 97 122
      rw [eq, bso]
      refine tt_i (fun c1 => ?_) (fun c1 => ?_)
      · obtain ⟨q2, eq2, hq2⟩ := in_is v2 48 57
        rw [eq2, bso]
        refine tt_i (fun c2 => ?_) (fun c2 => ?_)
        · have fin : ∀ t, Tt (f_X12_token_263 ra u (nI z) (nI r) wa bd x va t) (TK z r0 ra u wa bd x) := by
            intro t
            unfold f_X12_token_263
            rw [nI_1]
            exact tt_r ⟨r + 1, r, t, va, 0, 0, rfl, by omega, by omega, by omega, by omega, Or.inr (by omega)⟩
          exact tt_i (fun _ => fin _) (fun _ => fin _)
        · refine tk163 hz ra u r so si wa bd x tx r0 (m + 1) 0 65535 0 (by omega) (by omega) h0 (fun _ => ⟨by omega, fun t et => ?_⟩)
          rcases hq2 with h | h
          · exact absurd h c2
          · unfold f_X12_see at et e2
            simp only [] at et e2
            rw [et] at e2
            cases e2
            exact h.2
      · refine tk74 hz ra u r so va si wa bd x tx r0 (m + 1) 0 65535 0 (by omega) (by omega) h0 (fun _ => ⟨by omega, fun t et => ?_⟩)
        rcases hq with h | h
        · exact absurd h c1
        · unfold f_X12_see at et e2
          simp only [] at et e2
          rw [et] at e2
          cases e2
          exact h.2
    · exact tt_r ⟨r, r, 0, va, 0, 0, rfl, by omega, by omega, by omega, by omega, Or.inl rfl⟩
theorem tk_is {z r : Nat} (hz : z ≤ 300) (hr : r ≤ z) (ra u be so va si wa bd x : Int32) (w : Int64) (tx : Nat → Int8) : Tt (f_X12_token (ra, u, nI r, nI z, be, so, va, si, w, wa, bd, x) tx) (TK z r ra u wa bd x) := by
  unfold f_X12_token
  exact tk0 hz ra u be so va si wa bd x w tx r (z - r) r 65535 (by omega) (by omega) (Nat.le_refl _)
/-- the ranges of what is told, where nothing is bad -/
def TOk (t : Nat → Int32) : Prop := (∃ L : Nat, t 0 = nI L ∧ 4 ≤ L ∧ L ≤ 24) ∧ (∃ w : Nat, t 2 = nI w ∧ 1 ≤ w ∧ w ≤ 8) ∧ (∃ q : Nat, t 3 = nI q ∧ q ≤ 12) ∧ (∃ r : Nat, t 8 = nI r ∧ 2 ≤ r ∧ r ≤ 12)
def PSr (z r : Nat) (ra u x : Int32) (s : SX12) (t : Nat → Int32) : Prop := ∃ (b : Nat) (so va : Int32) (g : Nat) (w : Int64) (wa bd : Int32), s = (ra, u, nI r, nI z, nI b, so, va, nI g, w, wa, bd, x) ∧ r ≤ z ∧ b + g ≤ r ∧ (bd = -1 → TOk t)
abbrev srt (s : SX12) : Int32 := s.2.2.2.2.2.1
abbrev bgn (s : SX12) : Int32 := s.2.2.2.2.1
theorem tk_ps {z r : Nat} (hz : z ≤ 300) {ra u x : Int32} {s : SX12} {t : Nat → Int32} (h : PSr z r ra u x s t) (tx : Nat → Int8) : Tt (f_X12_token s tx) (fun s' => ∃ r', r ≤ r' ∧ PSr z r' ra u x s' t ∧ (srt s' = 0 ∨ r < r') ∧ ∃ b' : Nat, bgn s' = nI b' ∧ r ≤ b') := by
  obtain ⟨b, so, va, g, w, wa, bd, rfl, h1, h2, h3⟩ := h
  refine tt_m (tk_is hz h1 ra u (nI b) so va (nI g) wa bd x w tx) ?_
  rintro s' ⟨r', b', so', va', g', w', rfl, k1, k2, k3, k4, k5⟩
  exact ⟨r', k1, ⟨b', so', va', g', w', wa, bd, rfl, k2, k3, h3⟩, k5, b', rfl, k4⟩
def LR (z r : Nat) (ra u x : Int32) (q : Int32 × SX12 × (Nat → Int32)) : Prop := (q.1 = 0 ∨ q.1 = 1) ∧ ∃ r', r ≤ r' ∧ PSr z r' ra u x q.2.1 q.2.2 ∧ (q.1 = 1 → srt q.2.1 = 0 ∨ r < r')
theorem bad_is {b : Nat} (hb : b < 2 ^ 31) (ra u re le be so va si : Int32) (w : Int64) (wa bd x : Int32) : ∃ bd', f_X12_isBad (nI b) (ra, u, re, le, be, so, va, si, w, wa, bd, x) = some (ra, u, re, le, be, so, va, si, w, wa, bd', x) ∧ ¬ bd' = -1 := by
  have hn : ¬ nI b = -1 := fun e => by
    have h0 := nI_pos hb
    rw [e] at h0
    exact h0 (by decide)
  unfold f_X12_isBad f_X12_isBad_17
  simp only []
  split
  · exact ⟨_, rfl, hn⟩
  · split
    · exact ⟨_, rfl, by assumption⟩
    · exact ⟨_, rfl, hn⟩
theorem tq_is {z r : Nat} (hz : z ≤ 300) {ra u x : Int32} {s : SX12} {t : Nat → Int32} (h : PSr z r ra u x s t) (tx : Nat → Int8) (i : Nat) (hi : i < 21) (lo hi' : Int32) (hT : ∀ va, TOk t → ¬ va < lo → ¬ hi' < va → TOk (upd t i va)) : Tt (f_X12_takes (nI i) lo hi' s tx t) (LR z r ra u x) := by
  obtain ⟨b, so, va, g, w, wa, bd, rfl, h1, h2, h3⟩ := h
  unfold f_X12_takes
  simp only []
  refine tt_i (fun c => ?_) (fun c => ?_)
  · obtain ⟨q, eq, hq⟩ := in_is va lo hi'
    have fin : ∀ bd', (bd' = -1 → TOk (upd t i va)) → Tt (f_X12_takes_33 (nI i) tx t ra u (nI r) (nI z) (nI b) so va (nI g) w wa bd' x) (LR z r ra u x) := by
      intro bd' hb
      unfold f_X12_takes_33
      refine tt_ik i rfl hi (by omega) ?_
      refine tt_b (tk_ps (t := upd t i va) hz ⟨b, so, va, g, w, wa, bd', rfl, h1, h2, hb⟩ tx) ?_
      rintro s' ⟨r', k1, k2, k3, -⟩
      obtain ⟨s1, s2, s3, s4, s5, s6, s7, s8, s9, s10, s11, s12⟩ := s'
      refine tt_r ⟨Or.inr rfl, r', k1, ?_, fun _ => k3⟩
      rw [nI_clamp (by omega)]; exact k2
    rw [eq, bso]
    refine tt_i (fun c0 => ?_) (fun c0 => ?_)
    · obtain ⟨bd', e1, e2⟩ := bad_is (b := b) (by omega) ra u (nI r) (nI z) (nI b) so va (nI g) w wa bd x
      rw [e1, bso]
      exact fin bd' (fun e => absurd e e2)
    · refine fin bd (fun e => ?_)
      rcases hq with h | ⟨_, l1, l2⟩
      · exact absurd h c0
      · exact hT va (h3 e) l1 l2
  · unfold f_X12_fails
    rw [bso]
    refine tt_g (show (0 : Int32) &&& 1 = 0 by decide) ?_
    exact tt_r ⟨Or.inl rfl, r, Nat.le_refl _, ⟨b, so, va, g, w, nI b, bd, rfl, h1, h2, h3⟩, fun e => absurd e (show ¬ (0 : Int32) = 1 by decide)⟩
theorem TO_far {t : Nat → Int32} (h : TOk t) (i : Nat) (v : Int32) (hi : i ≠ 0 ∧ i ≠ 2 ∧ i ≠ 3 ∧ i ≠ 8) : TOk (upd t i v) := by
  obtain ⟨h0, h2, h3, h8⟩ := h
  refine ⟨?_, ?_, ?_, ?_⟩
  · rw [upd_ne _ _ (fun e => hi.1 e.symm)]; exact h0
  · rw [upd_ne _ _ (fun e => hi.2.1 e.symm)]; exact h2
  · rw [upd_ne _ _ (fun e => hi.2.2.1 e.symm)]; exact h3
  · rw [upd_ne _ _ (fun e => hi.2.2.2 e.symm)]; exact h8
theorem rng {v lo hi : Int32} {a b : Nat} (ha : lo = nI a) (hb : hi = nI b) (hb2 : b < 2 ^ 31) (hab : a ≤ b) (h1 : ¬ v < lo) (h2 : ¬ hi < v) : ∃ k : Nat, v = nI k ∧ a ≤ k ∧ k ≤ b := by
  subst ha
  subst hb
  have g1 := i_nlt h1
  have g2 := i_nlt h2
  rw [i_le, nI_toInt (by omega)] at g1
  rw [i_le, nI_toInt hb2] at g2
  refine ⟨v.toInt.toNat, ?_, by omega, by omega⟩
  apply Int32.toInt_inj.mp
  rw [nI_toInt (by omega)]
  omega
theorem TO_0 {t : Nat → Int32} (h : TOk t) (v : Int32) (h1 : ¬ v < 4) (h2 : ¬ 24 < v) : TOk (upd t 0 v) := by
  obtain ⟨k, rfl, a, b⟩ := rng (a := 4) (b := 24) rfl rfl (by decide) (by decide) h1 h2
  exact ⟨⟨k, upd_same _ _ _, a, b⟩, by rw [upd_ne _ _ (by decide)]; exact h.2.1, by rw [upd_ne _ _ (by decide)]; exact h.2.2.1, by rw [upd_ne _ _ (by decide)]; exact h.2.2.2⟩
theorem TO_2 {t : Nat → Int32} (h : TOk t) (v : Int32) (h1 : ¬ v < 1) (h2 : ¬ 8 < v) : TOk (upd t 2 v) := by
  obtain ⟨k, rfl, a, b⟩ := rng (a := 1) (b := 8) rfl rfl (by decide) (by decide) h1 h2
  exact ⟨by rw [upd_ne _ _ (by decide)]; exact h.1, ⟨k, upd_same _ _ _, a, b⟩, by rw [upd_ne _ _ (by decide)]; exact h.2.2.1, by rw [upd_ne _ _ (by decide)]; exact h.2.2.2⟩
theorem TO_3 {t : Nat → Int32} (h : TOk t) (v : Int32) (h1 : ¬ v < 0) (h2 : ¬ 12 < v) : TOk (upd t 3 v) := by
  obtain ⟨k, rfl, a, b⟩ := rng (a := 0) (b := 12) rfl rfl (by decide) (by decide) h1 h2
  exact ⟨by rw [upd_ne _ _ (by decide)]; exact h.1, by rw [upd_ne _ _ (by decide)]; exact h.2.1, ⟨k, upd_same _ _ _, b⟩, by rw [upd_ne _ _ (by decide)]; exact h.2.2.2⟩
theorem dl_is {z r : Nat} (hz : z ≤ 300) {ra u x : Int32} {s : SX12} {t : Nat → Int32} (h : PSr z r ra u x s t) (tx : Nat → Int8) (x0 : Int32) : Tt (f_X12_driftLine x0 s tx t) (LR z r ra u x) := by
  unfold f_X12_driftLine
  refine tt_b (tk_ps hz h tx) ?_
  rintro s' ⟨r1, k1, k2, k3, -⟩
  refine tt_b (tq_is hz k2 tx 7 (by decide) 0 50 (fun va q _ _ => TO_far q 7 va (by decide))) ?_
  rintro ⟨q, s2, t2⟩ ⟨a1, r2, a2, a3, a4⟩
  obtain ⟨s1, s2', s3, s4, s5, s6, s7, s8, s9, s10, s11, s12⟩ := s2
  refine tt_i (fun _ => tt_r ⟨Or.inl rfl, r2, by omega, a3, fun e => absurd e (show ¬ (0 : Int32) = 1 by decide)⟩) (fun c => tt_r ⟨Or.inr rfl, r2, by omega, ?_, fun _ => ?_⟩)
  · obtain ⟨b, so, va, g, w, wa, bd, e, p1, p2, p3⟩ := a3
    exact ⟨b, so, va, g, w, wa, bd, e, p1, p2, fun e => TO_far (p3 e) 7 _ (by decide)⟩
  · rcases a1 with e | e
    · exact absurd e c
    · rcases a4 e with e2 | e2
      · exact Or.inl e2
      · exact Or.inr (by omega)
theorem rt_go {tx : Nat → Int8} (k : Nat) (hk : k ≤ 300) (b g : Nat) (hbg : b + g ≤ 300) (so : Int32) (m : Nat) : ∀ (l f : Nat) (_ : l + m = g) (_ : m ≤ f) (t : Nat → Int32), Tt (f_X12_isRoleToken_2 (nI g) (nI b) so tx (nI k) (f + 1) (nI l) t) (fun q => (q.1 = 0 ∨ q.1 = 1) ∧ ∀ j, j < 9 → q.2 j = t j) := by
  induction m with
  | zero =>
    intro l f hl _ t
    rw [f_X12_isRoleToken_2_s, if_pos (nI_le (by omega) (by omega))]
    exact tt_r ⟨Or.inr rfl, fun _ _ => rfl⟩
  | succ m ih =>
    intro l f hl hf t
    obtain ⟨f, rfl⟩ : ∃ q, f = q + 1 := ⟨f - 1, by omega⟩
    rw [f_X12_isRoleToken_2_s, if_neg (nI_ge (by omega) (by omega))]
    refine tt_ik (b + l) (nI_add b l) (by omega) (by omega) ?_
    have go : ∀ t2 : Nat → Int32, (∀ j, j < 9 → t2 j = t j) → Tt (f_X12_isRoleToken_126 (nI l) (f_X12_isRoleToken_2 (nI g) (nI b) so tx (nI k) (f + 1)) t2) (fun q => (q.1 = 0 ∨ q.1 = 1) ∧ ∀ j, j < 9 → q.2 j = t j) := by
      intro t2 h2
      unfold f_X12_isRoleToken_126
      rw [nI_1]
      exact tt_m (ih (l + 1) f (by omega) (by omega) t2) (fun q hq => ⟨hq.1, fun j hj => by rw [hq.2 j hj, h2 j hj]⟩)
    have one : ∀ v, Tt (f_X12_isRoleToken_67 t (nI k) (nI l) tx (nI b) (f_X12_isRoleToken_2 (nI g) (nI b) so tx (nI k) (f + 1)) v) (fun q => (q.1 = 0 ∨ q.1 = 1) ∧ ∀ j, j < 9 → q.2 j = t j) := by
      intro v
      unfold f_X12_isRoleToken_67
      refine tt_i (fun _ => tt_r ⟨Or.inl rfl, fun _ _ => rfl⟩) (fun _ => ?_)
      rw [nI_add]
      refine tt_i (fun _ => go t (fun _ _ => rfl)) (fun c => ?_)
      have hlt : k + l < 12 := by
        rcases Nat.lt_or_ge (k + l) 12 with h | h
        · exact h
        · exact absurd (show (12 : Int32) ≤ nI (k + l) from nI_le (a := 12) h (by omega)) c
      have put : ∀ v2, Tt (f_X12_isRoleToken_125 (nI k) (nI l) t (f_X12_isRoleToken_2 (nI g) (nI b) so tx (nI k) (f + 1)) v2) (fun q => (q.1 = 0 ∨ q.1 = 1) ∧ ∀ j, j < 9 → q.2 j = t j) := by
        intro v2
        unfold f_X12_isRoleToken_125
        rw [show (9 : Int32) = nI 9 from rfl, nI_add, nI_add]
        refine tt_ik (9 + k + l) rfl (by omega) (by omega) ?_
        rw [nI_clamp (by omega)]
        exact go _ (fun j hj => upd_ne _ _ (by omega))
      exact tt_i (fun _ => put _) (fun _ => tt_i (fun _ => put _) (fun _ => tt_i (fun _ => put _) (fun _ => put _)))
    refine tt_i (fun _ => tt_i (fun _ => one 1) (fun _ => tt_i (fun _ => one 1) (fun _ => one 0))) (fun _ => tt_i (fun _ => one 1) (fun _ => tt_i (fun _ => one 1) (fun _ => one 0)))
theorem TO_c {t t' : Nat → Int32} (h : TOk t) (e : ∀ j, j < 9 → t' j = t j) : TOk t' :=
  ⟨by rw [e 0 (by omega)]; exact h.1, by rw [e 2 (by omega)]; exact h.2.1, by rw [e 3 (by omega)]; exact h.2.2.1, by rw [e 8 (by omega)]; exact h.2.2.2⟩
theorem ls_is (a b : Int32) : ∃ r, f_X12_lesser a b = some r ∧ ((b ≤ a ∧ r = b) ∨ (¬ b ≤ a ∧ r = a)) := by
  unfold f_X12_lesser
  by_cases h : b ≤ a
  · rw [if_pos h]; exact ⟨_, rfl, Or.inl ⟨h, rfl⟩⟩
  · rw [if_neg h]; exact ⟨_, rfl, Or.inr ⟨h, rfl⟩⟩
theorem TO_8 {t : Nat → Int32} (h : TOk t) {k : Nat} (h1 : 2 ≤ k) (h2 : k ≤ 12) : TOk (upd t 8 (nI k)) :=
  ⟨by rw [upd_ne _ _ (by decide)]; exact h.1, by rw [upd_ne _ _ (by decide)]; exact h.2.1, by rw [upd_ne _ _ (by decide)]; exact h.2.2.1, ⟨k, upd_same _ _ _, h1, h2⟩⟩
/-- the end of a line of roles: k signs -/
theorem rl136 {z r r0 : Nat} (hr0 : r0 < r) (k : Nat) (hk : k ≤ 300) (b0 : Nat) (hb0 : b0 ≤ 300) (ra u x : Int32) (b : Nat) (so va : Int32) (g : Nat) (w : Int64) (wa bd : Int32) (h1 : r ≤ z) (h2 : b + g ≤ r) (t : Nat → Int32) (h3 : bd = -1 → TOk t) (l3 l4 : Int32) :
    Tt (f_X12_rolesLine_136 (nI k) (nI b0) ra u (nI r) (nI z) (nI b) so va (nI g) w wa bd x t l3 l4) (LR z r0 ra u x) := by
  have fin : ∀ bd', (bd' = -1 → TOk t ∧ 2 ≤ k ∧ k ≤ 12) → Tt (f_X12_rolesLine_163 (nI k) t ra u (nI r) (nI z) (nI b) so va (nI g) w wa bd' x) (LR z r0 ra u x) := by
    intro bd' hb
    unfold f_X12_rolesLine_163
    obtain ⟨q, e1, e2⟩ := ls_is (nI k) 12
    rw [e1, bso]
    refine tt_r ⟨Or.inr rfl, r, by omega, ⟨b, so, va, g, w, wa, bd', rfl, h1, h2, fun e => ?_⟩, fun _ => Or.inr hr0⟩
    obtain ⟨p1, p2, p3⟩ := hb e
    have hq : q = nI k := by
      rcases e2 with ⟨c, rfl⟩ | ⟨_, rfl⟩
      · have : (12 : Nat) ≤ k := (nI_leI (a := 12) (b := k) (by omega) (by omega)).mp c
        rw [show k = 12 by omega]; rfl
      · rfl
    show TOk (upd t 8 q)
    rw [hq]; exact TO_8 p1 p2 p3
  have bad : Tt (f_X12_rolesLine_158 (nI b0) ra u (nI r) (nI z) (nI b) so va (nI g) w wa bd x (nI k) t) (LR z r0 ra u x) := by
    unfold f_X12_rolesLine_158
    obtain ⟨bd', e1, e2⟩ := bad_is (b := b0) (by omega) ra u (nI r) (nI z) (nI b) so va (nI g) w wa bd x
    rw [e1, bso]
    exact fin bd' (fun e => absurd e e2)
  unfold f_X12_rolesLine_136
  obtain ⟨q, eq, hq⟩ := in_is (nI k) 2 12
  rw [eq, bso]
  refine tt_i (fun _ => bad) (fun c => tt_i (fun _ => bad) (fun _ => tt_i (fun _ => fin bd (fun e => ⟨h3 e, ?_⟩)) (fun _ => bad)))
  rcases hq with h | ⟨_, l1, l2⟩
  · exact absurd h c
  · obtain ⟨k', e', a, b'⟩ := rng (a := 2) (b := 12) rfl rfl (by decide) (by decide) l1 l2
    have : k = k' := (nI_eq (by omega) (by omega)).mp e'
    omega
theorem rl71 {z r r0 : Nat} (hr0 : r0 < r) (k : Nat) (hk : k ≤ 300) (b0 : Nat) (hb0 : b0 ≤ 300) (ra u x : Int32) (b : Nat) (so va : Int32) (g : Nat) (w : Int64) (wa bd : Int32) (h1 : r ≤ z) (h2 : b + g ≤ r) (t : Nat → Int32) (h3 : bd = -1 → TOk t) (m : Nat) : ∀ (l f : Nat) (_ : l + m = 12) (_ : m ≤ f) (l3 l4 : Int32),
    Tt (f_X12_rolesLine_71 (nI k) (nI b0) ra u (nI r) (nI z) (nI b) so va (nI g) w wa bd x t (f + 1) l3 l4 (nI l)) (LR z r0 ra u x) := by
  induction m with
  | zero =>
    intro l f hl _ l3 l4
    have : l = 12 := by omega
    subst this
    rw [f_X12_rolesLine_71_s]
    exact tt_i (fun _ => rl136 hr0 k hk b0 hb0 ra u x b so va g w wa bd h1 h2 t h3 _ _) (fun _ => tt_i (fun _ => rl136 hr0 k hk b0 hb0 ra u x b so va g w wa bd h1 h2 t h3 _ _) (fun c => absurd (show (12 : Int32) ≤ nI 12 by decide) c))
  | succ m ih =>
    intro l f hl hf l3 l4
    obtain ⟨f, rfl⟩ : ∃ q, f = q + 1 := ⟨f - 1, by omega⟩
    rw [f_X12_rolesLine_71_s]
    refine tt_i (fun _ => rl136 hr0 k hk b0 hb0 ra u x b so va g w wa bd h1 h2 t h3 _ _) (fun _ => tt_i (fun _ => rl136 hr0 k hk b0 hb0 ra u x b so va g w wa bd h1 h2 t h3 _ _) (fun _ => ?_))
    rw [show (9 : Int32) = nI 9 from rfl, nI_add]
    refine tt_ik (9 + l) rfl (by omega) (by omega) ?_
    have go : ∀ v, Tt (f_X12_rolesLine_104 (nI l) t l3 l4 (f_X12_rolesLine_71 (nI k) (nI b0) ra u (nI r) (nI z) (nI b) so va (nI g) w wa bd x t (f + 1)) v) (LR z r0 ra u x) := by
      intro v
      unfold f_X12_rolesLine_104 f_X12_rolesLine_127
      rw [show (9 : Int32) = nI 9 from rfl, nI_add, nI_1]
      exact tt_ik (9 + l) rfl (by omega) (by omega) (tt_i (fun _ => ih (l + 1) f (by omega) (by omega) _ _) (fun _ => ih (l + 1) f (by omega) (by omega) _ _))
    exact tt_i (fun _ => go _) (fun _ => go _)
theorem rl11 {z r0 : Nat} (hz : z ≤ 300) (b0 : Nat) (hb0 : b0 ≤ 300) (ra u x : Int32) (tx : Nat → Int8) (m : Nat) : ∀ (r f k : Nat) (b : Nat) (so va : Int32) (g : Nat) (w : Int64) (wa bd : Int32) (t : Nat → Int32), r ≤ z → z - r + (if so = 0 then 0 else 1) ≤ m → m ≤ f → (so = 0 ∨ r0 < r) → r0 ≤ r → k ≤ b → b + g ≤ r → (bd = -1 → TOk t) → (so = 0 → k = 0 ∨ r0 < r) →
    Tt (f_X12_rolesLine_11 tx (nI b0) (f + 1) (nI k) ra u (nI r) (nI z) (nI b) so va (nI g) w wa bd x t) (LR z r0 ra u x) := by
  have last : ∀ (f' : Nat) (r k b : Nat) (so va : Int32) (g : Nat) (w : Int64) (wa bd : Int32) (t : Nat → Int32), r ≤ z → (so = 0 ∨ r0 < r) → r0 ≤ r → k ≤ b → b + g ≤ r → (bd = -1 → TOk t) → (so = 0 → k = 0 ∨ r0 < r) →
      Tt (if nI k = 0 then Option.bind (f_X12_fails (ra, u, nI r, nI z, nI b, so, va, nI g, w, wa, bd, x)) (fun z => match z with | (u59_r, (u59_this_raised, u59_this_undos, u59_this_reached, u59_this_length, u59_this_begin, u59_this_sort, u59_this_value, u59_this_signs, u59_this_word, u59_this_wrongAt, u59_this_badAt, u59_this_x)) => m_g (u59_r &&& 1 = u59_r) (some (u59_r, (u59_this_raised, u59_this_undos, u59_this_reached, u59_this_length, u59_this_begin, u59_this_sort, u59_this_value, u59_this_signs, u59_this_word, u59_this_wrongAt, u59_this_badAt, u59_this_x), t))) else f_X12_rolesLine_71 (nI k) (nI b0) ra u (nI r) (nI z) (nI b) so va (nI g) w wa bd x t 65536 0 0 0) (LR z r0 ra u x) := by
    intro f' r k b so va g w wa bd t h1 h2 h3 h4 h5 h6 h7
    refine tt_i (fun _ => ?_) (fun c => ?_)
    · unfold f_X12_fails
      rw [bso]
      exact tt_g (show (0 : Int32) &&& 1 = 0 by decide) (tt_r ⟨Or.inl rfl, r, h3, ⟨b, so, va, g, w, nI b, bd, rfl, h1, h5, h6⟩, fun e => absurd e (show ¬ (0 : Int32) = 1 by decide)⟩)
    · have hr : r0 < r := by
        rcases h2 with e | e
        · rcases h7 e with e2 | e2
          · exact absurd (show nI k = 0 by rw [e2]; rfl) c
          · exact e2
        · exact e
      exact rl71 hr k (by omega) b0 hb0 ra u x b so va g w wa bd h1 h5 t h6 12 0 65535 (by omega) (by omega) 0 0
  induction m with
  | zero =>
    intro r f k b so va g w wa bd t hrz hr hf h2 h3 h4 h5 h6 h7
    have hso : so = 0 := by
      by_cases e : so = 0
      · exact e
      · rw [if_neg e] at hr; omega
    rw [f_X12_rolesLine_11_s, if_neg (by rw [hso]; decide), if_neg (by rw [hso]; decide)]
    exact last 0 r k b so va g w wa bd t hrz h2 h3 h4 h5 h6 h7
  | succ m ih =>
    intro r f k b so va g w wa bd t hrz hr hf h2 h3 h4 h5 h6 h7
    obtain ⟨f, rfl⟩ : ∃ q, f = q + 1 := ⟨f - 1, by omega⟩
    rw [f_X12_rolesLine_11_s]
    have tok : ¬ so = 0 → Tt (f_X12_rolesLine_27 (nI k) ra u (nI r) (nI z) (nI b) so va (nI g) w wa bd x tx t (f_X12_rolesLine_11 tx (nI b0) (f + 1))) (LR z r0 ra u x) := by
      intro hso
      have hr0 : r0 < r := by
        rcases h2 with e | e
        · exact absurd e hso
        · exact e
      rw [if_neg hso] at hr
      unfold f_X12_rolesLine_27 f_X12_isRoleToken
      refine tt_b (rt_go (tx := tx) k (by omega) b g (by omega) so g 0 65535 (by omega) (by omega) t) ?_
      rintro ⟨q, t2⟩ ⟨q1, q2⟩
      have hT : bd = -1 → TOk t2 := fun e => TO_c (h6 e) q2
      refine tt_i (fun _ => ?_) (fun _ => ?_)
      · unfold f_X12_fails
        rw [bso]
        exact tt_g (show (0 : Int32) &&& 1 = 0 by decide) (tt_r ⟨Or.inl rfl, r, h3, ⟨b, so, va, g, w, nI b, bd, rfl, hrz, h5, hT⟩, fun e => absurd e (show ¬ (0 : Int32) = 1 by decide)⟩)
      · refine tt_b (tk_is hz hrz ra u (nI b) so va (nI g) wa bd x w tx) ?_
        rintro s' ⟨r', b', so', va', g', w', rfl, k1, k2, k3, k4, k5⟩
        simp only []
        rw [nI_add]
        refine ih r' f (k + g) b' so' va' g' w' wa bd t2 k2 ?_ (by omega) (Or.inr (by omega)) (by omega) (by omega) k3 hT (fun _ => Or.inr (by omega))
        rcases k5 with e | e
        · rw [if_pos e]; omega
        · split <;> omega
    refine tt_i (fun c => tok (by rw [c]; decide)) (fun _ => tt_i (fun c => tok (by rw [c]; decide)) (fun _ => last 0 r k b so va g w wa bd t hrz h2 h3 h4 h5 h6 h7))
theorem rln {z r : Nat} (hz : z ≤ 300) {ra u x : Int32} {s : SX12} {t : Nat → Int32} (h : PSr z r ra u x s t) (tx : Nat → Int8) : Tt (f_X12_rolesLine s tx t) (LR z r ra u x) := by
  obtain ⟨b, so, va, g, w, wa, bd, rfl, h1, h2, h3⟩ := h
  unfold f_X12_rolesLine
  refine tt_b (tk_is hz h1 ra u (nI b) so va (nI g) wa bd x w tx) ?_
  rintro s' ⟨r', b', so', va', g', w', rfl, k1, k2, k3, k4, k5⟩
  refine rl11 hz b (by omega) ra u x tx (z - r' + 1) r' 65535 0 b' so' va' g' w' wa bd t k2 ?_ (by omega) k5 k1 (by omega) k3 h3 (fun _ => Or.inl rfl)
  split <;> omega
/-- a statement of the text -/
theorem ln_is {z r : Nat} (hz : z ≤ 300) {ra u x : Int32} {s : SX12} {t : Nat → Int32} (h : PSr z r ra u x s t) (tx : Nat → Int8) : Tt (f_X12_line s tx t) (LR z r ra u x) := by
  have bool : ∀ {r1 : Nat} (_ : r ≤ r1 ∧ (r < r1 ∨ r = r1)) {A : Option (Int32 × SX12 × (Nat → Int32))}, Tt A (LR z r1 ra u x) → (r = r1 ∨ r < r1) → Tt (Option.bind A (fun z => match z with | (q, (a1, a2, a3, a4, a5, a6, a7, a8, a9, a10, a11, a12), t') => m_g (q &&& 1 = q) (some (q, (a1, a2, a3, a4, a5, a6, a7, a8, a9, a10, a11, a12), t')))) (LR z r ra u x) := by
    intro r1 h1 A hA hr
    refine tt_b hA ?_
    rintro ⟨q, ⟨a1, a2, a3, a4, a5, a6, a7, a8, a9, a10, a11, a12⟩, t'⟩ ⟨b1, r', b2, b3, b4⟩
    refine tt_g ?_ (tt_r ⟨b1, r', by omega, b3, fun e => ?_⟩)
    · rcases b1 with e | e
      · show q &&& 1 = q; rw [show q = 0 from e]; decide
      · show q &&& 1 = q; rw [show q = 1 from e]; decide
    · rcases b4 e with e2 | e2
      · exact Or.inl e2
      · exact Or.inr (by omega)
  obtain ⟨b, so, va, g, w, wa, bd, rfl, h1, h2, h3⟩ := h
  have hP : PSr z r ra u x (ra, u, nI r, nI z, nI b, so, va, nI g, w, wa, bd, x) t := ⟨b, so, va, g, w, wa, bd, rfl, h1, h2, h3⟩
  have fl : Tt (Option.bind (f_X12_fails (ra, u, nI r, nI z, nI b, so, va, nI g, w, wa, bd, x)) (fun z => match z with | (q, (a1, a2, a3, a4, a5, a6, a7, a8, a9, a10, a11, a12)) => m_g (q &&& 1 = q) (some (q, (a1, a2, a3, a4, a5, a6, a7, a8, a9, a10, a11, a12), t)))) (LR z r ra u x) := by
    unfold f_X12_fails
    rw [bso]
    exact tt_g (show (0 : Int32) &&& 1 = 0 by decide) (tt_r ⟨Or.inl rfl, r, Nat.le_refl _, ⟨b, so, va, g, w, nI b, bd, rfl, h1, h2, h3⟩, fun e => absurd e (show ¬ (0 : Int32) = 1 by decide)⟩)
  have l46 : ∀ y, Tt (f_X12_line_46 y ra u (nI r) (nI z) (nI b) so va (nI g) w wa bd x tx t) (LR z r ra u x) := by
    intro y
    unfold f_X12_line_46
    exact tt_i (fun _ => bool ⟨Nat.le_refl _, Or.inr rfl⟩ (dl_is hz hP tx _) (Or.inl rfl)) (fun _ => bool ⟨Nat.le_refl _, Or.inr rfl⟩ (dl_is hz hP tx _) (Or.inl rfl))
  have l154 : ∀ y, Tt (f_X12_line_154 ra u (nI r) (nI z) (nI b) so va (nI g) w wa bd x tx y t) (LR z r ra u x) := by
    intro y
    unfold f_X12_line_154
    refine tt_b (tk_ps hz hP tx) ?_
    rintro ⟨a1, a2, a3, a4, a5, a6, a7, a8, a9, a10, a11, a12⟩ ⟨r1, k1, k2, k3, -⟩
    have hd : r ≤ r1 ∧ (r < r1 ∨ r = r1) := ⟨k1, by omega⟩
    have hd2 : r = r1 ∨ r < r1 := by omega
    exact tt_i (fun _ => bool hd (tq_is hz k2 tx 0 (by decide) 4 24 (fun va q c1 c2 => TO_0 q va c1 c2)) hd2)
      (fun _ => tt_i (fun _ => bool hd (tq_is hz k2 tx 1 (by decide) 0 63 (fun va q _ _ => TO_far q 1 va (by decide))) hd2)
      (fun _ => tt_i (fun _ => bool hd (tq_is hz k2 tx 2 (by decide) 1 8 (fun va q c1 c2 => TO_2 q va c1 c2)) hd2)
      (fun _ => tt_i (fun _ => bool hd (tq_is hz k2 tx 3 (by decide) 0 12 (fun va q c1 c2 => TO_3 q va c1 c2)) hd2)
      (fun _ => bool hd (tq_is hz k2 tx 4 (by decide) 2 24 (fun va q _ _ => TO_far q 4 va (by decide))) hd2))))
  have l16 : ∀ y, Tt (f_X12_line_16 ra u (nI r) (nI z) (nI b) so va (nI g) w wa bd x tx t y) (LR z r ra u x) := by
    intro y
    unfold f_X12_line_16
    refine tt_i (fun _ => bool ⟨Nat.le_refl _, Or.inr rfl⟩ (rln hz hP tx) (Or.inl rfl)) (fun _ => tt_i (fun _ => l46 y) (fun _ => tt_i (fun _ => l46 y) (fun _ => tt_i (fun _ => ?_) (fun _ => tt_i (fun _ => l154 y) (fun _ => tt_i (fun _ => l154 y) (fun _ => tt_i (fun _ => l154 y) (fun _ => tt_i (fun _ => l154 y) (fun _ => tt_i (fun _ => l154 y) (fun _ => fl)))))))))
    refine tt_b (tk_ps hz hP tx) ?_
    rintro ⟨a1, a2, a3, a4, a5, a6, a7, a8, a9, a10, a11, a12⟩ ⟨r1, k1, k2, k3, -⟩
    refine tt_b (tq_is hz k2 tx 5 (by decide) 1 4 (fun va q _ _ => TO_far q 5 va (by decide))) ?_
    rintro ⟨q, ⟨b1, b2, b3, b4, b5, b6, b7, b8, b9, b10, b11, b12⟩, t2⟩ ⟨p1, r2, p2, p3, p4⟩
    refine tt_i (fun _ => tt_r ⟨Or.inl rfl, r2, by omega, p3, fun e => absurd e (show ¬ (0 : Int32) = 1 by decide)⟩) (fun _ => ?_)
    refine tt_b (tq_is hz p3 tx 6 (by decide) (t2 5) 8 (fun va q _ _ => TO_far q 6 va (by decide))) ?_
    rintro ⟨q2, ⟨c1, c2, c3, c4, c5, c6, c7, c8, c9, c10, c11, c12⟩, t3⟩ ⟨p5, r3, p6, p7, p8⟩
    refine tt_i (fun _ => tt_r ⟨Or.inl rfl, r3, by omega, p7, fun e => absurd e (show ¬ (0 : Int32) = 1 by decide)⟩) (fun c => tt_r ⟨Or.inr rfl, r3, by omega, p7, fun _ => ?_⟩)
    rcases p5 with e | e
    · exact absurd e c
    · rcases p8 e with e2 | e2
      · exact Or.inl e2
      · exact Or.inr (by omega)
  unfold f_X12_line
  exact tt_i (fun _ => l16 w) (fun _ => l16 0)
/-- a block's cells where the scheme, the line's size, the receiver stand -/
def IB (a : Nat → Int32) (o : Nat) : Prop := ∃ L w st r sy bt hd po si sd tk : Nat, (4 ≤ L ∧ L ≤ 24) ∧ (1 ≤ w ∧ w ≤ 8) ∧ st ≤ 12 ∧ (2 ≤ r ∧ r ≤ 12) ∧ sy ≤ 8 ∧ hd ≤ bt ∧ bt ≤ 4000 ∧ po < L * r ∧ si ≤ hd ∧ sd ≤ 2 ∧ tk ≤ hd ∧
  a o = nI L ∧ a (o + 2) = nI w ∧ a (o + 3) = nI st ∧ a (o + 8) = nI r ∧ a (o + 21) = nI sy ∧ a (o + 32) = nI bt ∧ a (o + 33) = nI hd ∧ a (o + 39) = nI po ∧ a (o + 40) = nI si ∧ a (o + 48) = nI sd ∧ a (o + 50) = nI tk
theorem rnd {a : Nat → Int32} {L r : Nat} (h0 : a 0 = nI L) (h8 : a 8 = nI r) (s : SX12) : f_X12_round s a = some (nI (L * r)) := by
  unfold f_X12_round
  rw [h0, h8, pk_mul]
theorem hn61 (s : SX12) {L r : Nat} (hL : L ≤ 24) (hr : r ≤ 12) (m : Nat) : ∀ (k f : Nat) (_ : k + m = L * r) (_ : m ≤ f) (a : Nat → Int32) (_ : a 0 = nI L) (_ : a 8 = nI r), Tt (f_X12_hunts_61 s (f + 1) (nI k) a) (fun a' => ∀ j, ¬ (124 ≤ j ∧ j < 133) → a' j = a j) := by
  have hLr : L * r ≤ 24 * 12 := Nat.mul_le_mul hL hr
  induction m with
  | zero =>
    intro k f hk _ a h0 h8
    rw [f_X12_hunts_61_s, rnd h0 h8, bso, if_pos (nI_le (by omega) (by omega))]
    exact tt_r (fun _ _ => rfl)
  | succ m ih =>
    intro k f hk hf a h0 h8
    obtain ⟨f, rfl⟩ : ∃ q, f = q + 1 := ⟨f - 1, by omega⟩
    rw [f_X12_hunts_61_s, rnd h0 h8, bso, if_neg (nI_ge (by omega) (by omega)), show (32 : Int32) = nI 32 from rfl, pk_div (by omega) (by decide) (by decide), show (124 : Int32) = nI 124 from rfl, nI_add]
    refine tt_ik (124 + k / 32) rfl (by omega) (by omega) (tt_n (tt_ik (124 + k / 32) rfl (by omega) (by omega) ?_))
    rw [nI_clamp (by omega), nI_1]
    refine tt_m (ih (k + 1) f (by omega) (by omega) _ (by rw [upd_ne _ _ (by omega)]; exact h0) (by rw [upd_ne _ _ (by omega)]; exact h8)) (fun a' h j hj => ?_)
    rw [h j hj, upd_ne _ _ (by omega)]
theorem hn37 (s : SX12) {L r : Nat} (hL : L ≤ 24) (hr : r ≤ 12) (m : Nat) : ∀ (k f : Nat) (_ : k + m = 9) (_ : m ≤ f) (a : Nat → Int32) (_ : a 0 = nI L) (_ : a 8 = nI r), Tt (f_X12_hunts_37 s (f + 1) (nI k) a) (fun a' => ∀ j, ¬ (124 ≤ j ∧ j < 133) → a' j = a j) := by
  have hLr : L * r ≤ 24 * 12 := Nat.mul_le_mul hL hr
  induction m with
  | zero =>
    intro k f hk _ a h0 h8
    have : k = 9 := by omega
    subst this
    rw [f_X12_hunts_37_s, if_pos (by decide)]
    exact hn61 s hL hr (L * r) 0 65535 (by omega) (by omega) a h0 h8
  | succ m ih =>
    intro k f hk hf a h0 h8
    obtain ⟨f, rfl⟩ : ∃ q, f = q + 1 := ⟨f - 1, by omega⟩
    rw [f_X12_hunts_37_s, if_neg (show ¬ (9 : Int32) ≤ nI k from nI_ge (a := k) (b := 9) (by omega) (by omega)), show (124 : Int32) = nI 124 from rfl, nI_add]
    refine tt_ik (124 + k) rfl (by omega) (by omega) ?_
    rw [nI_clamp (by omega), nI_1]
    refine tt_m (ih (k + 1) f (by omega) (by omega) _ (by rw [upd_ne _ _ (by omega)]; exact h0) (by rw [upd_ne _ _ (by omega)]; exact h8)) (fun a' h j hj => ?_)
    rw [h j hj, upd_ne _ _ (by omega)]
/-- it hunts anew: the state, the starts, the bits since, what is begun, the candidates -/
theorem hn_is (s : SX12) {L r : Nat} (hL : L ≤ 24) (hr : r ≤ 12) (a : Nat → Int32) (h0 : a 0 = nI L) (h8 : a 8 = nI r) : Tt (f_X12_hunts s a) (fun a' => a' 34 = 0 ∧ a' 40 = 0 ∧ ∀ j, j ≠ 34 → j ≠ 35 → j ≠ 40 → j ≠ 52 → ¬ (124 ≤ j ∧ j < 133) → a' j = a j) := by
  unfold f_X12_hunts
  refine tt_m (hn37 s hL hr 9 0 65535 (by omega) (by omega) _ (by rw [upd_ne _ _ (by decide), upd_ne _ _ (by decide), upd_ne _ _ (by decide), upd_ne _ _ (by decide)]; exact h0) (by rw [upd_ne _ _ (by decide), upd_ne _ _ (by decide), upd_ne _ _ (by decide), upd_ne _ _ (by decide)]; exact h8)) (fun a' h => ⟨?_, ?_, fun j h1 h2 h3 h4 h5 => ?_⟩)
  · rw [h 34 (by omega), upd_ne _ _ (by decide), upd_ne _ _ (by decide), upd_ne _ _ (by decide), upd_same]
  · rw [h 40 (by omega), upd_ne _ _ (by decide), upd_same]
  · rw [h j h5, upd_ne _ _ h4, upd_ne _ _ h3, upd_ne _ _ h2, upd_ne _ _ h1]
theorem bg3 (s : SX12) {L r : Nat} (hL : L ≤ 24) (hr : r ≤ 12) (m : Nat) : ∀ (k f : Nat) (_ : k + m = 133) (_ : m ≤ f) (_ : 34 ≤ k) (a : Nat → Int32) (_ : a 0 = nI L) (_ : a 8 = nI r), Tt (f_X12_begins_3 s (f + 1) (nI k) a) (fun a' => a' 33 = 0 ∧ a' 40 = 0 ∧ (k ≤ 39 → a' 39 = 0) ∧ (k ≤ 48 → a' 48 = 0) ∧ (k ≤ 50 → a' 50 = 0) ∧ (∀ j, 34 ≤ j → j < k → j = 39 ∨ j = 48 ∨ j = 50 → a' j = a j) ∧ ∀ j, ¬ (33 ≤ j ∧ j < 133) → a' j = a j) := by
  induction m with
  | zero =>
    intro k f hk _ _ a h0 h8
    have : k = 133 := by omega
    subst this
    rw [f_X12_begins_3_s, if_pos (by decide)]
    refine tt_b (hn_is s hL hr _ (by rw [upd_ne _ _ (by decide), upd_ne _ _ (by decide)]; exact h0) (by rw [upd_ne _ _ (by decide), upd_ne _ _ (by decide)]; exact h8)) ?_
    rintro a' ⟨_, h40, h⟩
    refine tt_r ⟨?_, h40, fun e => absurd e (by decide), fun e => absurd e (by decide), fun e => absurd e (by decide), fun j _ _ hj => ?_, fun j hj => ?_⟩
    · rw [h 33 (by decide) (by decide) (by decide) (by decide) (by omega), upd_same]
    · rcases hj with e | e | e <;> subst e
      · rw [h 39 (by decide) (by decide) (by decide) (by decide) (by omega), upd_ne _ _ (by decide), upd_ne _ _ (by decide)]
      · rw [h 48 (by decide) (by decide) (by decide) (by decide) (by omega), upd_ne _ _ (by decide), upd_ne _ _ (by decide)]
      · rw [h 50 (by decide) (by decide) (by decide) (by decide) (by omega), upd_ne _ _ (by decide), upd_ne _ _ (by decide)]
    · rw [h j (by omega) (by omega) (by omega) (by omega) (by omega), upd_ne _ _ (by omega), upd_ne _ _ (by omega)]
  | succ m ih =>
    intro k f hk hf h34 a h0 h8
    obtain ⟨f, rfl⟩ : ∃ q, f = q + 1 := ⟨f - 1, by omega⟩
    rw [f_X12_begins_3_s, if_neg (show ¬ (133 : Int32) ≤ nI k from nI_ge (a := k) (b := 133) (by omega) (by omega))]
    refine tt_ik k rfl (by omega) (by omega) ?_
    rw [nI_clamp (by omega), nI_1]
    refine tt_m (ih (k + 1) f (by omega) (by omega) (by omega) _ (by rw [upd_ne _ _ (by omega)]; exact h0) (by rw [upd_ne _ _ (by omega)]; exact h8)) ?_
    rintro a' ⟨p1, p2, p3, p4, p7, p5, p6⟩
    refine ⟨p1, p2, fun e => ?_, fun e => ?_, fun e => ?_, fun j a1 a2 a3 => ?_, fun j hj => ?_⟩
    · rcases Nat.lt_or_ge k 39 with c | c
      · exact p3 (by omega)
      · have : k = 39 := by omega
        subst this
        rw [p5 39 (by decide) (by decide) (Or.inl rfl), upd_same]
    · rcases Nat.lt_or_ge k 48 with c | c
      · exact p4 (by omega)
      · have : k = 48 := by omega
        subst this
        rw [p5 48 (by decide) (by decide) (Or.inr (Or.inl rfl)), upd_same]
    · rcases Nat.lt_or_ge k 50 with c | c
      · exact p7 (by omega)
      · have : k = 50 := by omega
        subst this
        rw [p5 50 (by decide) (by decide) (Or.inr (Or.inr rfl)), upd_same]
    · rw [p5 j a1 (by omega) a3, upd_ne _ _ (by omega)]
    · rw [p6 j hj, upd_ne _ _ (by omega)]
theorem bg_is (s : SX12) {L r : Nat} (hL : L ≤ 24) (hr : r ≤ 12) (a : Nat → Int32) (h0 : a 0 = nI L) (h8 : a 8 = nI r) : Tt (f_X12_begins s a) (fun a' => a' 33 = 0 ∧ a' 40 = 0 ∧ a' 39 = 0 ∧ a' 48 = 0 ∧ a' 50 = 0 ∧ ∀ j, ¬ (33 ≤ j ∧ j < 133) → a' j = a j) := by
  unfold f_X12_begins
  refine tt_m (bg3 s hL hr 99 34 65535 (by omega) (by omega) (by omega) a h0 h8) ?_
  rintro a' ⟨p1, p2, p3, p4, p7, _, p6⟩
  exact ⟨p1, p2, p3 (by decide), p4 (by decide), p7 (by decide), p6⟩
theorem tn2 (ra u re le be so va si : Int32) (w : Int64) (wa bd x : Int32) (t : Nat → Int32) {L r : Nat} (hL : L ≤ 24) (hr : r ≤ 12) (ht0 : t 0 = nI L) (ht8 : t 8 = nI r) (m : Nat) : ∀ (k f : Nat) (_ : k + m = 133) (_ : m ≤ f) (a : Nat → Int32) (_ : ∀ j, j < k → a j = if j < 21 then t j else 0),
    Tt (f_X12_taken_2 ra u re le be so va si w wa bd x t (f + 1) (nI k) a) (fun q => q.1 = (ra, 0, re, le, be, so, va, si, w, wa, bd, x) ∧ q.2 33 = 0 ∧ q.2 40 = 0 ∧ q.2 39 = 0 ∧ q.2 48 = 0 ∧ q.2 50 = 0 ∧ (∀ j, j < 33 → q.2 j = if j < 21 then t j else 0) ∧ ∀ j, 133 ≤ j → q.2 j = a j) := by
  induction m with
  | zero =>
    intro k f hk _ a ha
    have : k = 133 := by omega
    subst this
    rw [f_X12_taken_2_s, if_pos (by decide)]
    refine tt_b (bg_is _ hL hr a (by rw [ha 0 (by decide), if_pos (by decide)]; exact ht0) (by rw [ha 8 (by decide), if_pos (by decide)]; exact ht8)) ?_
    rintro a' ⟨p1, p2, p3, p4, p7, p5⟩
    exact tt_r ⟨rfl, p1, p2, p3, p4, p7, fun j hj => by rw [show (_ : SX12 × (Nat → Int32)).2 j = a' j from rfl, p5 j (by omega), ha j (by omega)], fun j hj => p5 j (by omega)⟩
  | succ m ih =>
    intro k f hk hf a ha
    obtain ⟨f, rfl⟩ : ∃ q, f = q + 1 := ⟨f - 1, by omega⟩
    rw [f_X12_taken_2_s, if_neg (show ¬ (133 : Int32) ≤ nI k from nI_ge (a := k) (b := 133) (by omega) (by omega))]
    have go : ∀ v, v = (if k < 21 then t k else 0) → Tt (f_X12_taken_30 (nI k) a (f_X12_taken_2 ra u re le be so va si w wa bd x t (f + 1)) v) (fun q => q.1 = (ra, 0, re, le, be, so, va, si, w, wa, bd, x) ∧ q.2 33 = 0 ∧ q.2 40 = 0 ∧ q.2 39 = 0 ∧ q.2 48 = 0 ∧ q.2 50 = 0 ∧ (∀ j, j < 33 → q.2 j = if j < 21 then t j else 0) ∧ ∀ j, 133 ≤ j → q.2 j = a j) := by
      intro v hv
      unfold f_X12_taken_30
      refine tt_ik k rfl (by omega) (by omega) ?_
      rw [nI_clamp (by omega), nI_1]
      refine tt_m (ih (k + 1) f (by omega) (by omega) _ (fun j hj => ?_)) ?_
      · by_cases e : j = k
        · subst e; rw [upd_same]; exact hv
        · rw [upd_ne _ _ e]; exact ha j (by omega)
      · rintro q ⟨p0, p1, p2, p3, p4, p7, p5, p6⟩
        exact ⟨p0, p1, p2, p3, p4, p7, p5, fun j hj => by rw [p6 j hj, upd_ne _ _ (by omega)]⟩
    by_cases h21 : 21 ≤ k
    · rw [if_pos (show (21 : Int32) ≤ nI k from nI_le (a := 21) h21 (by omega))]
      exact go 0 (by rw [if_neg (by omega)])
    · rw [if_neg (show ¬ (21 : Int32) ≤ nI k from nI_ge (a := k) (b := 21) (by omega) (by omega))]
      refine tt_ik k rfl (by omega) (by omega) ?_
      rw [nI_clamp (by omega)]
      exact go _ (by rw [if_pos (by omega)])
theorem tn_is (ra u re le be so va si : Int32) (w : Int64) (wa bd x : Int32) (t : Nat → Int32) (hT : TOk t) (a : Nat → Int32) : Tt (f_X12_taken (ra, u, re, le, be, so, va, si, w, wa, bd, x) a t) (fun q => q.1 = (ra, 0, re, le, be, so, va, si, w, wa, bd, x) ∧ IB q.2 0 ∧ ∀ j, 133 ≤ j → q.2 j = a j) := by
  obtain ⟨⟨L, h0, a1, a2⟩, ⟨w', h2, b1, b2⟩, ⟨st, h3, c1⟩, ⟨r, h8, d1, d2⟩⟩ := hT
  unfold f_X12_taken
  refine tt_m (tn2 ra u re le be so va si w wa bd x t a2 d2 h0 h8 133 0 65535 (by omega) (by omega) a (fun j hj => absurd hj (by omega))) ?_
  rintro q ⟨p0, p1, p2, p3, p4, p7, p5, p6⟩
  have hpos : 0 < L * r := Nat.mul_pos (by omega) (by omega)
  refine ⟨p0, ⟨L, w', st, r, 0, 0, 0, 0, 0, 0, 0, ⟨a1, a2⟩, ⟨b1, b2⟩, c1, ⟨d1, d2⟩, by omega, by omega, by omega, hpos, by omega, by omega, by omega, ?_, ?_, ?_, ?_, ?_, ?_, p1, p3, p2, p4, p7⟩, p6⟩
  · rw [p5 0 (by decide), if_pos (by decide)]; exact h0
  · rw [p5 (0 + 2) (by decide), if_pos (by decide)]; exact h2
  · rw [p5 (0 + 3) (by decide), if_pos (by decide)]; exact h3
  · rw [p5 (0 + 8) (by decide), if_pos (by decide)]; exact h8
  · rw [p5 (0 + 21) (by decide), if_neg (by decide)]; rfl
  · rw [p5 (0 + 32) (by decide), if_neg (by decide)]; rfl
/-- what scheme() leaves -/
def SCo (u : Int32) (a : Nat → Int32) (q : Int32 × SX12 × (Nat → Int32) × (Nat → Int32)) : Prop :=
  ((q.2.1.2.1 = 0 ∧ IB q.2.2.1 0) ∨ (q.2.1.2.1 = u ∧ ∀ j, j < 133 → q.2.2.1 j = a j)) ∧ q.2.2.1 133 = 0 ∧ ∀ j, 136 ≤ j → q.2.2.1 j = a j
theorem s131 (a : Nat → Int32) (y u re le be so va si : Int32) (w : Int64) (wa bd x : Int32) (t : Nat → Int32) (y2 : Int32) (hT : y = 0 → TOk t) : Tt (f_X12_scheme_131 a y 0 u re le be so va si w wa bd x t y2) (SCo u a) := by
  unfold f_X12_scheme_131
  rw [upd_ne _ _ (show 134 ≠ 135 by decide), upd_same]
  refine tt_i (fun c => ?_) (fun c => ?_)
  · refine tt_b (tn_is 0 u re le be so va si w wa bd x t (hT c) _) ?_
    rintro ⟨s', a'⟩ ⟨p0, p1, p2⟩
    have p0 : s' = _ := p0
    have w2 : ∀ j, 133 ≤ j → a' j = upd (upd (upd a 133 0) 134 y) 135 y2 j := p2
    subst p0
    simp only []
    unfold f_X12_round
    rw [bso]
    refine tt_r ⟨Or.inl ⟨rfl, p1⟩, ?_, fun j hj => ?_⟩
    · show a' 133 = 0
      rw [w2 133 (by decide), upd_ne _ _ (by decide), upd_ne _ _ (by decide), upd_same]
    · show a' j = a j
      rw [w2 j (by omega), upd_ne _ _ (by omega), upd_ne _ _ (by omega), upd_ne _ _ (by omega)]
  · refine tt_r ⟨Or.inr ⟨rfl, fun j hj => ?_⟩, ?_, fun j hj => ?_⟩
    · show upd (upd (upd a 133 0) 134 y) 135 y2 j = a j
      rw [upd_ne _ _ (by omega), upd_ne _ _ (by omega), upd_ne _ _ (by omega)]
    · show upd (upd (upd a 133 0) 134 y) 135 y2 133 = 0
      rw [upd_ne _ _ (by decide), upd_ne _ _ (by decide), upd_same]
    · show upd (upd (upd a 133 0) 134 y) 135 y2 j = a j
      rw [upd_ne _ _ (by omega), upd_ne _ _ (by omega), upd_ne _ _ (by omega)]
theorem s80 (a : Nat → Int32) (l1 u re le be so va si : Int32) (w : Int64) (wa bd x : Int32) (t : Nat → Int32) (hT : bd = -1 → TOk t) : Tt (f_X12_scheme_80 l1 a 0 u re le be so va si w wa bd x t) (SCo u a) := by
  have k : ∀ y, (y = 0 → TOk t) → Tt (f_X12_scheme_108 l1 a 0 u re le be so va si w wa bd x t y) (SCo u a) := by
    intro y hy
    unfold f_X12_scheme_108
    exact tt_i (fun _ => s131 a y u re le be so va si w wa bd x t _ hy) (fun _ => s131 a y u re le be so va si w wa bd x t _ hy)
  unfold f_X12_scheme_80
  exact tt_i (fun _ => k 1 (fun e => absurd e (by decide))) (fun _ => tt_i (fun c => k 0 (fun _ => hT c)) (fun _ => k 2 (fun e => absurd e (by decide))))
theorem s36 {z : Nat} (hz : z ≤ 300) (a : Nat → Int32) (u x : Int32) (tx : Nat → Int8) (m : Nat) : ∀ (r f : Nat) (l1 : Int32) (b : Nat) (so va : Int32) (g : Nat) (w : Int64) (wa bd : Int32) (t : Nat → Int32), r ≤ z → z - r + (if so = 0 then 0 else 1) + (if l1 = 0 then 0 else 1) ≤ m → m ≤ f → b + g ≤ r → (bd = -1 → TOk t) →
    Tt (f_X12_scheme_36 a tx (f + 1) l1 0 u (nI r) (nI z) (nI b) so va (nI g) w wa bd x t) (SCo u a) := by
  induction m with
  | zero =>
    intro r f l1 b so va g w wa bd t hr hm _ hb hT
    have h1 : so = 0 := by
      by_cases e : so = 0
      · exact e
      · rw [if_neg e] at hm; omega
    rw [f_X12_scheme_36_s]
    exact tt_i (fun _ => s80 a l1 u _ _ _ so va _ w wa bd x t hT) (fun _ => tt_i (fun _ => s80 a l1 u _ _ _ so va _ w wa bd x t hT) (fun c => absurd h1 c))
  | succ m ih =>
    intro r f l1 b so va g w wa bd t hr hm hf hb hT
    obtain ⟨f, rfl⟩ : ∃ q, f = q + 1 := ⟨f - 1, by omega⟩
    rw [f_X12_scheme_36_s]
    refine tt_i (fun _ => s80 a l1 u _ _ _ so va _ w wa bd x t hT) (fun c1 => tt_i (fun _ => s80 a l1 u _ _ _ so va _ w wa bd x t hT) (fun c2 => ?_))
    rw [if_neg c1, if_neg c2] at hm
    refine tt_b (ln_is hz (r := r) ⟨b, so, va, g, w, wa, bd, rfl, hr, hb, hT⟩ tx) ?_
    rintro ⟨q, s', t'⟩ ⟨q1, r', k1, ⟨b', so', va', g', w', wa', bd', e', k2, k3, k4⟩, k5⟩
    have e' : s' = _ := e'
    subst e'
    simp only []
    have zero : ∀ (wa2 : Int32), Tt (f_X12_scheme_69 t' tx (f_X12_scheme_36 a tx (f + 1)) 0 0 u (nI r') (nI z) (nI b') so' va' (nI g') w' wa2 bd' x) (SCo u a) := by
      intro wa2
      unfold f_X12_scheme_69
      rw [if_pos rfl]
      refine ih r' f 0 b' so' va' g' w' wa2 bd' t' k2 ?_ (by omega) k3 k4
      rw [if_pos rfl]
      split <;> omega
    refine tt_i (fun c => ?_) (fun c => tt_i (fun c4 => ?_) (fun _ => ?_))
    · rw [show q = 0 from c]; exact zero wa'
    · unfold f_X12_scheme_69
      rw [if_neg c]
      refine tt_b (tk_is hz k2 0 u (nI b') so' va' (nI g') wa' bd' x w' tx) ?_
      rintro s2 ⟨r2, b2, so2, va2, g2, w2, rfl, j1, j2, j3, j4, j5⟩
      simp only []
      have hq : q = 1 := by
        rcases q1 with e | e
        · exact absurd e c
        · exact e
      have hlt : r < r' := by
        rcases k5 hq with e | e
        · exact absurd (show so' = 0 from e) (by rw [c4]; decide)
        · exact e
      refine ih r2 f q b2 so2 va2 g2 w2 wa' bd' t' j2 ?_ (by omega) j3 k4
      rw [if_neg c]
      rcases j5 with e | e
      · rw [if_pos e]; omega
      · split <;> omega
    · unfold f_X12_fails
      rw [bso]
      exact zero (nI b')
theorem af2 (ra u le be so va si : Int32) (w : Int64) (wa x : Int32) (m : Nat) : ∀ (k f : Nat) (_ : k + m = 21) (_ : m ≤ f) (t : Nat → Int32) (_ : ∀ j, j < k → t j = 0),
    Tt (f_X12_atFirst_2 ra u le be so va si w wa x (f + 1) (nI k) t) (fun q => q.1 = (ra, u, 0, le, be, so, va, si, w, wa, -1, x) ∧ TOk q.2) := by
  induction m with
  | zero =>
    intro k f hk _ t ht
    have : k = 21 := by omega
    subst this
    rw [f_X12_atFirst_2_s, if_pos (by decide)]
    refine tt_r ⟨rfl, ⟨8, rfl, by decide, by decide⟩, ⟨7, rfl, by decide, by decide⟩, ⟨0, ?_, by decide⟩, ⟨6, rfl, by decide, by decide⟩⟩
    show upd (upd (upd (upd (upd (upd (upd (upd (upd t 0 8) 2 7) 4 4) 5 2) 6 4) 8 6) 11 1) 13 1) 14 1 3 = nI 0
    rw [upd_ne _ _ (by decide), upd_ne _ _ (by decide), upd_ne _ _ (by decide), upd_ne _ _ (by decide), upd_ne _ _ (by decide), upd_ne _ _ (by decide), upd_ne _ _ (by decide), upd_ne _ _ (by decide), upd_ne _ _ (by decide), ht 3 (by decide)]; rfl
  | succ m ih =>
    intro k f hk hf t ht
    obtain ⟨f, rfl⟩ : ∃ q, f = q + 1 := ⟨f - 1, by omega⟩
    rw [f_X12_atFirst_2_s, if_neg (show ¬ (21 : Int32) ≤ nI k from nI_ge (a := k) (b := 21) (by omega) (by omega))]
    refine tt_ik k rfl (by omega) (by omega) ?_
    rw [nI_clamp (by omega), nI_1]
    refine ih (k + 1) f (by omega) (by omega) _ (fun j hj => ?_)
    by_cases e : j = k
    · subst e; exact upd_same _ _ _
    · rw [upd_ne _ _ e]; exact ht j (by omega)
theorem sc_is {z : Nat} (hz : z ≤ 300) (s : SX12) (a : Nat → Int32) (h : a 133 = nI z) (tx : Nat → Int8) (t : Nat → Int32) : Tt (f_X12_scheme s a tx t) (SCo s.2.1 a) := by
  obtain ⟨ra, u, re, le, be, so, va, si, w, wa, bd, x⟩ := s
  unfold f_X12_scheme
  simp only []
  rw [h]
  refine tt_b (P := fun q => q.1 = (0, u, 0, nI z, be, so, va, si, w, wa, -1, x) ∧ TOk q.2) (by unfold f_X12_atFirst; exact af2 0 u (nI z) be so va si w wa x 21 0 65535 (by omega) (by omega) t (fun j hj => absurd hj (by omega))) ?_
  rintro ⟨s1, t1⟩ ⟨e1, hT⟩
  have e1 : s1 = _ := e1
  subst e1
  simp only []
  refine tt_b (tk_is (r := 0) hz (Nat.zero_le _) 0 u be so va si wa (-1) x w tx) ?_
  rintro s2 ⟨r2, b2, so2, va2, g2, w2, rfl, j1, j2, j3, j4, j5⟩
  simp only []
  refine s36 hz a u x tx (z - r2 + 2) r2 65535 1 b2 so2 va2 g2 w2 wa (-1) t1 j2 ?_ (by omega) j3 (fun _ => hT)
  split <;> split <;> omega
