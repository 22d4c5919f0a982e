/-! the table's words by their numbers: 1024 * (the chunk) + (the place) -/
def fe_t : List (List Cond) := [k2_sels lw_privs, tables_1_1, tables_1_2, tables_1_3, tables_1_4, tables_1_5, tables_1_6, tables_1_7]
def fe_d : Cond := .initialized "TrunkFramerLaw"
theorem fe_din : fe_d ∈ lw_tbl := List.mem_of_getElem? (i := 78) (by decide +kernel)
def fe_g (w : Cond) : Cond := bif goodWord w then w else fe_d
def fe (q : Nat) : Cond := fe_g ((((fe_t[q / 1024]?).getD [])[q % 1024]?).getD fe_d)
theorem fe_good (q : Nat) : ((fe q).onTables && (fe q).keeps) = true ∨ ∃ ty, fe q = .arrayClass ty := by
  unfold fe fe_g
  generalize ((((fe_t[q / 1024]?).getD [])[q % 1024]?).getD fe_d) = w
  cases h : goodWord w with
  | true => exact good_of_word h
  | false => exact Or.inl rfl
theorem fe_tin : ∀ l ∈ fe_t, ∀ w ∈ l, w ∈ lw_tbl := by
  intro l hl w hw
  have e : lw_tbl = fe_t.flatten := by
    unfold lw_tbl fe_t tables_1
    simp only [List.flatten_cons, List.flatten_nil, List.append_nil]
  rw [e]
  exact List.mem_flatten.mpr ⟨l, hl, hw⟩
theorem fe_in (q : Nat) : fe q ∈ lw_tbl := by
  have h2 : ∀ (o : Option Cond), (∀ w, o = some w → w ∈ lw_tbl) → o.getD fe_d ∈ lw_tbl := by
    intro o ho
    cases o with
    | none => exact fe_din
    | some w => exact ho w rfl
  have h3 : ∀ w ∈ lw_tbl, fe_g w ∈ lw_tbl := by
    intro w hw
    unfold fe_g
    cases goodWord w with
    | true => exact hw
    | false => exact fe_din
  refine h3 _ (h2 _ ?_)
  intro w hw
  have hm := List.mem_of_getElem? hw
  cases ht : fe_t[q / 1024]? with
  | none =>
    rw [ht] at hm
    cases (show w ∈ ([] : List Cond) from hm)
  | some l =>
    rw [ht] at hm
    exact fe_tin l (List.mem_of_getElem? ht) w hm
theorem cn : ([] : List Nat).map fe = [] := rfl
theorem ce {a : Cond} {l : List Cond} {q : Nat} {qs : List Nat} (h : fe q = a) (t : qs.map fe = l) : (q :: qs).map fe = a :: l := by rw [List.map_cons, h, t]
theorem ca {l l' : List Cond} {qs qs' : List Nat} (h : qs.map fe = l) (t : qs'.map fe = l') : (qs ++ qs').map fe = l ++ l' := by rw [List.map_append, h, t]
theorem gi_e {A B : List Nat} {wa wb : List Cond} (ha : A.map fe = wa) (hb : B.map fe = wb) (h : B.all (fun q => A.any (Nat.beq q)) = true) : GoodIn wa wb := by
  intro w hw
  rw [← hb] at hw
  obtain ⟨q, hq, rfl⟩ := List.mem_map.mp hw
  refine ⟨?_, fe_good q⟩
  obtain ⟨p, hp, e⟩ := List.any_eq_true.mp (List.all_eq_true.mp h q hq)
  have e2 : q = p := Nat.eq_of_beq_eq_true e
  rw [← ha]
  exact List.mem_map.mpr ⟨q, by rw [e2]; exact hp, rfl⟩
theorem gi_t {B : List Nat} {wb : List Cond} (hb : B.map fe = wb) : GoodIn lw_tbl wb := by
  intro w hw
  rw [← hb] at hw
  obtain ⟨q, hq, rfl⟩ := List.mem_map.mp hw
  exact ⟨fe_in q, fe_good q⟩
theorem fw_0 : fe 0 = .selects RX3 yX3_step yX3_step := rfl
theorem fw_1 : fe 1 = .selects RX3 yX3_readStatement yX3_readStatement := rfl
theorem fw_2 : fe 2 = .selects RX3 yX3_isWord yX3_isWord := rfl
theorem fw_3 : fe 3 = .selects RX3 yX3_readRow yX3_readRow := rfl
theorem fw_4 : fe 4 = .selects RX3 yX3_misplace yX3_misplace := rfl
theorem fw_5 : fe 5 = .selects RX3 yX3_impossible yX3_impossible := rfl
theorem fw_6 : fe 6 = .selects RX3 yX3_readNumber yX3_readNumber := rfl
theorem fw_7 : fe 7 = .selects RX3 yX3_readSingle yX3_readSingle := rfl
theorem fw_8 : fe 8 = .selects RX11 yX11_remember yX11_remember := rfl
theorem fw_9 : fe 9 = .selects RX6 yX6_transmitOne yX6_transmitOne := rfl
theorem fw_10 : fe 10 = .selects RX6 yX6_linkBit yX6_linkBit := rfl
theorem fw_11 : fe 11 = .selects RX6 yX6_dequeue yX6_dequeue := rfl
theorem fw_12 : fe 12 = .selects RX4 yX4_takeHunting yX4_takeHunting := rfl
theorem fw_13 : fe 13 = .selects RX4 yX4_huntAnew yX4_huntAnew := rfl
theorem fw_14 : fe 14 = .selects RX4 yX4_followLone yX4_followLone := rfl
theorem fw_15 : fe 15 = .selects RX4 yX4_lock yX4_lock := rfl
theorem fw_16 : fe 16 = .selects RX4 yX4_takeVerifying yX4_takeVerifying := rfl
theorem fw_17 : fe 17 = .selects RX4 yX4_advance yX4_advance := rfl
theorem fw_18 : fe 18 = .selects RX4 yX4_isJudged yX4_isJudged := rfl
theorem fw_19 : fe 19 = .selects RX4 yX4_takeLocked yX4_takeLocked := rfl
theorem fw_20 : fe 20 = .selects RX4 yX4_takeFirst yX4_takeFirst := rfl
theorem fw_21 : fe 21 = .selects RX0 yX0_keep yX0_keep := rfl
theorem fw_22 : fe 22 = .selects RX7 yX7_dropOlder yX7_dropOlder := rfl
theorem fw_23 : fe 23 = .selects RX7 yX7_readOlder yX7_readOlder := rfl
theorem fw_24 : fe 24 = .selects RX11 yX11_channelOnes yX11_channelOnes := rfl
theorem fw_25 : fe 25 = .selects RX11 yX11_channelNumber yX11_channelNumber := rfl
theorem fw_26 : fe 26 = .selects RX11 yX11_firstLoss yX11_firstLoss := rfl
theorem fw_28 : fe 28 = .selects RX12 yX12_atFirst yX12_atFirst := rfl
theorem fw_29 : fe 29 = .selects RX12 yX12_taken yX12_taken := rfl
theorem fw_30 : fe 30 = .selects RX12 yX12_begins yX12_begins := rfl
theorem fw_31 : fe 31 = .selects RX12 yX12_hunts yX12_hunts := rfl
theorem fw_32 : fe 32 = .selects RX12 yX12_round yX12_round := rfl
theorem fw_33 : fe 33 = .selects RX12 yX12_token yX12_token := rfl
theorem fw_34 : fe 34 = .selects RX12 yX12_see yX12_see := rfl
theorem fw_35 : fe 35 = .selects RX12 yX12_line yX12_line := rfl
theorem fw_36 : fe 36 = .selects RX12 yX12_rolesLine yX12_rolesLine := rfl
theorem fw_37 : fe 37 = .selects RX12 yX12_isRoleToken yX12_isRoleToken := rfl
theorem fw_38 : fe 38 = .selects RX12 yX12_fails yX12_fails := rfl
theorem fw_39 : fe 39 = .selects RX12 yX12_isBad yX12_isBad := rfl
theorem fw_40 : fe 40 = .selects RX12 yX12_driftLine yX12_driftLine := rfl
theorem fw_41 : fe 41 = .selects RX12 yX12_takes yX12_takes := rfl
theorem fw_42 : fe 42 = .selects RX12 yX12_roleOf yX12_roleOf := rfl
theorem fw_43 : fe 43 = .selects RX12 yX12_roleAt yX12_roleAt := rfl
theorem fw_44 : fe 44 = .selects RX12 yX12_checkMany yX12_checkMany := rfl
theorem fw_45 : fe 45 = .selects RX12 yX12_goesOn yX12_goesOn := rfl
theorem fw_46 : fe 46 = .selects RX12 yX12_keeps yX12_keeps := rfl
theorem fw_47 : fe 47 = .selects RX12 yX12_sends yX12_sends := rfl
theorem fw_48 : fe 48 = .selects RX12 yX12_sendsOne yX12_sendsOne := rfl
theorem fw_49 : fe 49 = .selects RX12 yX12_drawn yX12_drawn := rfl
theorem fw_50 : fe 50 = .selects RX12 yX12_linked yX12_linked := rfl
theorem fw_51 : fe 51 = .selects RX12 yX12_hears yX12_hears := rfl
theorem fw_52 : fe 52 = .selects RX12 yX12_hunted yX12_hunted := rfl
theorem fw_53 : fe 53 = .selects RX12 yX12_strikes yX12_strikes := rfl
theorem fw_54 : fe 54 = .selects RX12 yX12_isLeft yX12_isLeft := rfl
theorem fw_55 : fe 55 = .selects RX12 yX12_isFixed yX12_isFixed := rfl
theorem fw_56 : fe 56 = .selects RX12 yX12_leftMany yX12_leftMany := rfl
theorem fw_57 : fe 57 = .selects RX12 yX12_leftAt yX12_leftAt := rfl
theorem fw_58 : fe 58 = .selects RX12 yX12_fixedFrom yX12_fixedFrom := rfl
theorem fw_59 : fe 59 = .selects RX12 yX12_follows yX12_follows := rfl
theorem fw_60 : fe 60 = .selects RX12 yX12_verified yX12_verified := rfl
theorem fw_61 : fe 61 = .selects RX12 yX12_checked yX12_checked := rfl
theorem fw_62 : fe 62 = .selects RX12 yX12_locked yX12_locked := rfl
theorem fw_63 : fe 63 = .selects RX12 yX12_linkHears yX12_linkHears := rfl
theorem fw_64 : fe 64 = .selects RX12 yX12_framed yX12_framed := rfl
theorem fw_65 : fe 65 = .selects RX12 yX12_stores yX12_stores := rfl
theorem fw_66 : fe 66 = .selects RX12 yX12_ticks yX12_ticks := rfl
theorem fw_67 : fe 67 = .selects RX12 yX12_signals yX12_signals := rfl
theorem fw_68 : fe 68 = .selects RX12 yX12_channels yX12_channels := rfl
theorem fw_69 : fe 69 = .selects RX12 yX12_bitOf yX12_bitOf := rfl
theorem fw_70 : fe 70 = .selects RX12 yX12_told yX12_told := rfl
theorem fw_71 : fe 71 = .selects RX12 yX12_channelBits yX12_channelBits := rfl
theorem fw_72 : fe 72 = .selects RX12 yX12_copies yX12_copies := rfl
theorem fw_73 : fe 73 = .selects RX12 yX12_back yX12_back := rfl
theorem fw_74 : fe 74 = .selects RX12 yX12_hearsFrom yX12_hearsFrom := rfl
theorem fw_75 : fe 75 = .selects RX12 yX12_canBe yX12_canBe := rfl
theorem fw_76 : fe 76 = .selects RX12 yX12_lostAt yX12_lostAt := rfl
theorem fw_77 : fe 77 = .selects RX12 yX12_copiesAll yX12_copiesAll := rfl
theorem fw_1025 : fe 1025 = .initialized RX11 := rfl
theorem fw_1026 : fe 1026 = .initialized RX10 := rfl
theorem fw_1027 : fe 1027 = .initialized RX5 := rfl
theorem fw_1028 : fe 1028 = .initialized RX8 := rfl
theorem fw_1029 : fe 1029 = .initialized RX9 := rfl
theorem fw_1030 : fe 1030 = .initialized RX6 := rfl
theorem fw_1031 : fe 1031 = .initialized RX4 := rfl
theorem fw_1032 : fe 1032 = .initialized RX1 := rfl
theorem fw_1033 : fe 1033 = .initialized RX7 := rfl
theorem fw_1034 : fe 1034 = .initialized RX0 := rfl
theorem fw_1035 : fe 1035 = .initialized RX2 := rfl
theorem fw_1036 : fe 1036 = .initialized "java/lang/Math" := rfl
theorem fw_1037 : fe 1037 = .initialized RX3 := rfl
theorem fw_1038 : fe 1038 = .initialized RX12 := rfl
theorem fw_1039 : fe 1039 = .initialized "java/lang/System" := rfl
theorem fw_1040 : fe 1040 = .initialized RJ0 := rfl
theorem fw_1041 : fe 1041 = .initialized RJ1 := rfl
theorem fw_1042 : fe 1042 = .initialized RJ3 := rfl
theorem fw_1043 : fe 1043 = .initialized RJ2 := rfl
theorem fw_1044 : fe 1044 = .initialized RJ6 := rfl
theorem fw_1053 : fe 1053 = .code yX11_init cX11_init 2 none := rfl
theorem fw_1054 : fe 1054 = .methodLink RX11 3 objectInit := rfl
theorem fw_1055 : fe 1055 = .instanceMethod objectInit := rfl
theorem fw_1056 : fe 1056 = .code objectInit ⟨#[0xb1]⟩ 1 none := rfl
theorem fw_1057 : fe 1057 = .classLink RX11 9 RX10 := rfl
theorem fw_1058 : fe 1058 = .instantiable RX10 3 := rfl
theorem fw_1060 : fe 1060 = .instanceMethod yX10_init := rfl
theorem fw_1061 : fe 1061 = .code yX10_init cX10_init 1 none := rfl
theorem fw_1062 : fe 1062 = .methodLink RX10 3 objectInit := rfl
theorem fw_1063 : fe 1063 = .classLink RX10 9 RX5 := rfl
theorem fw_1064 : fe 1064 = .instantiable RX5 16 := rfl
theorem fw_1065 : fe 1065 = .methodLink RX10 11 yX5_init := rfl
theorem fw_1066 : fe 1066 = .instanceMethod yX5_init := rfl
theorem fw_1067 : fe 1067 = .code yX5_init cX5_init 1 none := rfl
theorem fw_1068 : fe 1068 = .methodLink RX5 3 objectInit := rfl
theorem fw_1069 : fe 1069 = .methodLink RX5 15 yX5_begin := rfl
theorem fw_1070 : fe 1070 = .instanceMethod yX5_begin := rfl
theorem fw_1071 : fe 1071 = .selects RX5 yX5_begin yX5_begin := rfl
theorem fw_1072 : fe 1072 = .code yX5_begin cX5_begin 1 none := rfl
theorem fw_1073 : fe 1073 = .methodLink RX5 46 yX5_derive := rfl
theorem fw_1074 : fe 1074 = .instanceMethod yX5_derive := rfl
theorem fw_1075 : fe 1075 = .selects RX5 yX5_derive yX5_derive := rfl
theorem fw_1076 : fe 1076 = .code yX5_derive cX5_derive 2 none := rfl
theorem fw_1077 : fe 1077 = .fieldLink RX5 18 "TrunkFramer$Scheme" "length" "I" := rfl
theorem fw_1078 : fe 1078 = .fieldLink RX1 15 "TrunkFramer$Scheme" "length" "I" := rfl
theorem fw_1079 : fe 1079 = .fieldLink RX3 86 "TrunkFramer$Scheme" "length" "I" := rfl
theorem fw_1080 : fe 1080 = .fieldLink RX6 51 "TrunkFramer$Scheme" "length" "I" := rfl
theorem fw_1081 : fe 1081 = .fieldLink RX4 116 "TrunkFramer$Scheme" "length" "I" := rfl
theorem fw_1082 : fe 1082 = .fieldLink RX7 51 "TrunkFramer$Scheme" "length" "I" := rfl
theorem fw_1083 : fe 1083 = .fieldLink RX11 141 "TrunkFramer$Scheme" "length" "I" := rfl
theorem fw_1084 : fe 1084 = .fieldLink RX5 9 "TrunkFramer$Scheme" "roles" "[I" := rfl
theorem fw_1085 : fe 1085 = .fieldLink RX3 121 "TrunkFramer$Scheme" "roles" "[I" := rfl
theorem fw_1086 : fe 1086 = .fieldLink RX5 22 "TrunkFramer$Scheme" "roleCount" "I" := rfl
theorem fw_1087 : fe 1087 = .fieldLink RX1 48 "TrunkFramer$Scheme" "roleCount" "I" := rfl
theorem fw_1088 : fe 1088 = .fieldLink RX6 33 "TrunkFramer$Scheme" "roleCount" "I" := rfl
theorem fw_1089 : fe 1089 = .fieldLink RX3 124 "TrunkFramer$Scheme" "roleCount" "I" := rfl
theorem fw_1090 : fe 1090 = .fieldLink RX11 144 "TrunkFramer$Scheme" "roleCount" "I" := rfl
theorem fw_1091 : fe 1091 = .fieldLink RX5 25 "TrunkFramer$Scheme" "poly" "I" := rfl
theorem fw_1092 : fe 1092 = .fieldLink RX3 90 "TrunkFramer$Scheme" "poly" "I" := rfl
theorem fw_1093 : fe 1093 = .fieldLink RX11 147 "TrunkFramer$Scheme" "poly" "I" := rfl
theorem fw_1094 : fe 1094 = .fieldLink RX5 28 "TrunkFramer$Scheme" "width" "I" := rfl
theorem fw_1095 : fe 1095 = .fieldLink RX3 94 "TrunkFramer$Scheme" "width" "I" := rfl
theorem fw_1096 : fe 1096 = .fieldLink RX11 150 "TrunkFramer$Scheme" "width" "I" := rfl
theorem fw_1097 : fe 1097 = .fieldLink RX5 31 "TrunkFramer$Scheme" "stolen" "I" := rfl
theorem fw_1098 : fe 1098 = .fieldLink RX3 98 "TrunkFramer$Scheme" "stolen" "I" := rfl
theorem fw_1099 : fe 1099 = .fieldLink RX11 153 "TrunkFramer$Scheme" "stolen" "I" := rfl
theorem fw_1100 : fe 1100 = .fieldLink RX5 34 "TrunkFramer$Scheme" "fewest" "I" := rfl
theorem fw_1101 : fe 1101 = .fieldLink RX4 107 "TrunkFramer$Scheme" "fewest" "I" := rfl
theorem fw_1102 : fe 1102 = .fieldLink RX3 102 "TrunkFramer$Scheme" "fewest" "I" := rfl
theorem fw_1103 : fe 1103 = .fieldLink RX11 156 "TrunkFramer$Scheme" "fewest" "I" := rfl
theorem fw_1104 : fe 1104 = .fieldLink RX5 37 "TrunkFramer$Scheme" "wrong" "I" := rfl
theorem fw_1105 : fe 1105 = .fieldLink RX3 73 "TrunkFramer$Scheme" "wrong" "I" := rfl
theorem fw_1106 : fe 1106 = .fieldLink RX4 165 "TrunkFramer$Scheme" "wrong" "I" := rfl
theorem fw_1107 : fe 1107 = .fieldLink RX11 159 "TrunkFramer$Scheme" "wrong" "I" := rfl
theorem fw_1108 : fe 1108 = .fieldLink RX5 40 "TrunkFramer$Scheme" "latest" "I" := rfl
theorem fw_1109 : fe 1109 = .fieldLink RX3 75 "TrunkFramer$Scheme" "latest" "I" := rfl
theorem fw_1110 : fe 1110 = .fieldLink RX4 157 "TrunkFramer$Scheme" "latest" "I" := rfl
theorem fw_1111 : fe 1111 = .fieldLink RX11 162 "TrunkFramer$Scheme" "latest" "I" := rfl
theorem fw_1112 : fe 1112 = .fieldLink RX5 43 "TrunkFramer$Scheme" "drift" "I" := rfl
theorem fw_1113 : fe 1113 = .fieldLink RX3 107 "TrunkFramer$Scheme" "drift" "I" := rfl
theorem fw_1114 : fe 1114 = .fieldLink RX7 46 "TrunkFramer$Scheme" "drift" "I" := rfl
theorem fw_1115 : fe 1115 = .fieldLink RX11 165 "TrunkFramer$Scheme" "drift" "I" := rfl
theorem fw_1116 : fe 1116 = .fieldLink RX1 24 "TrunkFramer$Scheme" "superframe" "I" := rfl
theorem fw_1117 : fe 1117 = .fieldLink RX5 49 "TrunkFramer$Scheme" "superframe" "I" := rfl
theorem fw_1118 : fe 1118 = .fieldLink RX11 92 "TrunkFramer$Scheme" "superframe" "I" := rfl
theorem fw_1119 : fe 1119 = .fieldLink RX4 113 "TrunkFramer$Scheme" "superframe" "I" := rfl
theorem fw_1120 : fe 1120 = .fieldLink RX5 52 "TrunkFramer$Scheme" "channels" "I" := rfl
theorem fw_1121 : fe 1121 = .fieldLink RX11 168 "TrunkFramer$Scheme" "channels" "I" := rfl
theorem fw_1122 : fe 1122 = .fieldLink RX5 55 "TrunkFramer$Scheme" "checkBits" "I" := rfl
theorem fw_1123 : fe 1123 = .fieldLink RX6 28 "TrunkFramer$Scheme" "checkBits" "I" := rfl
theorem fw_1124 : fe 1124 = .fieldLink RX4 125 "TrunkFramer$Scheme" "checkBits" "I" := rfl
theorem fw_1125 : fe 1125 = .fieldLink RX11 171 "TrunkFramer$Scheme" "checkBits" "I" := rfl
theorem fw_1126 : fe 1126 = .fieldLink RX1 45 "TrunkFramer$Scheme" "zeros" "I" := rfl
theorem fw_1127 : fe 1127 = .fieldLink RX5 58 "TrunkFramer$Scheme" "zeros" "I" := rfl
theorem fw_1128 : fe 1128 = .fieldLink RX1 42 "TrunkFramer$Scheme" "ones" "I" := rfl
theorem fw_1129 : fe 1129 = .fieldLink RX5 61 "TrunkFramer$Scheme" "ones" "I" := rfl
theorem fw_1130 : fe 1130 = .fieldLink RX1 21 "TrunkFramer$Scheme" "allFrames" "I" := rfl
theorem fw_1131 : fe 1131 = .fieldLink RX5 64 "TrunkFramer$Scheme" "allFrames" "I" := rfl
theorem fw_1165 : fe 1165 = .arrayClass .int := rfl
theorem fw_1166 : fe 1166 = .classLink RX10 18 RX8 := rfl
theorem fw_1167 : fe 1167 = .instantiable RX8 4 := rfl
theorem fw_1169 : fe 1169 = .instanceMethod yX8_init := rfl
theorem fw_1170 : fe 1170 = .code yX8_init cX8_init 1 none := rfl
theorem fw_1171 : fe 1171 = .methodLink RX8 3 objectInit := rfl
theorem fw_1172 : fe 1172 = .fieldLink RX8 9 "TrunkFramer$Text" "bytes" "[B" := rfl
theorem fw_1173 : fe 1173 = .fieldLink RX8 23 "TrunkFramer$Text" "size" "I" := rfl
theorem fw_1174 : fe 1174 = .fieldLink RX11 58 "TrunkFramer$Text" "size" "I" := rfl
theorem fw_1175 : fe 1175 = .fieldLink RX3 136 "TrunkFramer$Text" "size" "I" := rfl
theorem fw_1176 : fe 1176 = .fieldLink RX11 65 "TrunkFramer$Text" "flaw" "I" := rfl
theorem fw_1177 : fe 1177 = .fieldLink RX8 41 "TrunkFramer$Text" "flaw" "I" := rfl
theorem fw_1178 : fe 1178 = .fieldLink RX8 15 "TrunkFramer$Text" "flawPlace" "I" := rfl
theorem fw_1179 : fe 1179 = .fieldLink RX11 69 "TrunkFramer$Text" "flawPlace" "I" := rfl
theorem fw_1189 : fe 1189 = .arrayClass .byte := rfl
theorem fw_1190 : fe 1190 = .classLink RX10 25 RX9 := rfl
theorem fw_1191 : fe 1191 = .instantiable RX9 4 := rfl
theorem fw_1192 : fe 1192 = .methodLink RX10 27 yX9_init := rfl
theorem fw_1193 : fe 1193 = .instanceMethod yX9_init := rfl
theorem fw_1194 : fe 1194 = .code yX9_init cX9_init 2 none := rfl
theorem fw_1195 : fe 1195 = .methodLink RX9 1 objectInit := rfl
theorem fw_1196 : fe 1196 = .classLink RX9 7 RX6 := rfl
theorem fw_1197 : fe 1197 = .instantiable RX6 4 := rfl
theorem fw_1199 : fe 1199 = .instanceMethod yX6_init := rfl
theorem fw_1200 : fe 1200 = .code yX6_init cX6_init 1 none := rfl
theorem fw_1201 : fe 1201 = .methodLink RX6 3 objectInit := rfl
theorem fw_1202 : fe 1202 = .fieldLink RX6 9 "TrunkFramer$Sender" "values" "[I" := rfl
theorem fw_1203 : fe 1203 = .fieldLink RX6 15 "TrunkFramer$Sender" "waiting" "I" := rfl
theorem fw_1204 : fe 1204 = .fieldLink RX11 99 "TrunkFramer$Sender" "waiting" "I" := rfl
theorem fw_1205 : fe 1205 = .fieldLink RX6 59 "TrunkFramer$Sender" "begun" "I" := rfl
theorem fw_1206 : fe 1206 = .fieldLink RX9 39 "TrunkFramer$Sender" "lastChecks" "I" := rfl
theorem fw_1207 : fe 1207 = .fieldLink RX6 40 "TrunkFramer$Sender" "lastChecks" "I" := rfl
theorem fw_1217 : fe 1217 = .classLink RX9 16 RX4 := rfl
theorem fw_1218 : fe 1218 = .instantiable RX4 13 := rfl
theorem fw_1219 : fe 1219 = .methodLink RX9 18 yX4_init := rfl
theorem fw_1220 : fe 1220 = .instanceMethod yX4_init := rfl
theorem fw_1221 : fe 1221 = .code yX4_init cX4_init 1 none := rfl
theorem fw_1222 : fe 1222 = .methodLink RX4 3 objectInit := rfl
theorem fw_1223 : fe 1223 = .classLink RX4 9 RX1 := rfl
theorem fw_1224 : fe 1224 = .instantiable RX1 6 := rfl
theorem fw_1226 : fe 1226 = .instanceMethod yX1_init := rfl
theorem fw_1227 : fe 1227 = .code yX1_init cX1_init 1 none := rfl
theorem fw_1228 : fe 1228 = .methodLink RX1 3 objectInit := rfl
theorem fw_1229 : fe 1229 = .fieldLink RX1 9 "TrunkFramer$Hunt" "rows" "[I" := rfl
theorem fw_1230 : fe 1230 = .fieldLink RX1 27 "TrunkFramer$Hunt" "left" "I" := rfl
theorem fw_1231 : fe 1231 = .fieldLink RX4 97 "TrunkFramer$Hunt" "left" "I" := rfl
theorem fw_1232 : fe 1232 = .fieldLink RX11 280 "TrunkFramer$Hunt" "left" "I" := rfl
theorem fw_1233 : fe 1233 = .fieldLink RX1 30 "TrunkFramer$Hunt" "heard" "I" := rfl
theorem fw_1234 : fe 1234 = .fieldLink RX4 122 "TrunkFramer$Hunt" "heard" "I" := rfl
theorem fw_1235 : fe 1235 = .fieldLink RX11 286 "TrunkFramer$Hunt" "heard" "I" := rfl
theorem fw_1236 : fe 1236 = .fieldLink RX1 33 "TrunkFramer$Hunt" "due" "I" := rfl
theorem fw_1237 : fe 1237 = .fieldLink RX1 36 "TrunkFramer$Hunt" "framesOn" "I" := rfl
theorem fw_1238 : fe 1238 = .fieldLink RX1 39 "TrunkFramer$Hunt" "only" "I" := rfl
theorem fw_1252 : fe 1252 = .classLink RX4 18 RX7 := rfl
theorem fw_1253 : fe 1253 = .instantiable RX7 17 := rfl
theorem fw_1255 : fe 1255 = .instanceMethod yX7_init := rfl
theorem fw_1256 : fe 1256 = .code yX7_init cX7_init 1 none := rfl
theorem fw_1257 : fe 1257 = .methodLink RX7 1 objectInit := rfl
theorem fw_1258 : fe 1258 = .fieldLink RX7 7 "TrunkFramer$Store" "held" "I" := rfl
theorem fw_1259 : fe 1259 = .fieldLink RX4 193 "TrunkFramer$Store" "held" "I" := rfl
theorem fw_1260 : fe 1260 = .fieldLink RX7 13 "TrunkFramer$Store" "came" "I" := rfl
theorem fw_1261 : fe 1261 = .fieldLink RX4 181 "TrunkFramer$Store" "came" "I" := rfl
theorem fw_1262 : fe 1262 = .fieldLink RX7 16 "TrunkFramer$Store" "dropped" "I" := rfl
theorem fw_1263 : fe 1263 = .fieldLink RX4 184 "TrunkFramer$Store" "dropped" "I" := rfl
theorem fw_2048 : fe 2048 = .fieldLink RX7 19 "TrunkFramer$Store" "read" "I" := rfl
theorem fw_2049 : fe 2049 = .fieldLink RX4 187 "TrunkFramer$Store" "read" "I" := rfl
theorem fw_2050 : fe 2050 = .fieldLink RX11 218 "TrunkFramer$Store" "read" "I" := rfl
theorem fw_2051 : fe 2051 = .fieldLink RX7 22 "TrunkFramer$Store" "repeated" "I" := rfl
theorem fw_2052 : fe 2052 = .fieldLink RX4 190 "TrunkFramer$Store" "repeated" "I" := rfl
theorem fw_2053 : fe 2053 = .fieldLink RX7 25 "TrunkFramer$Store" "clock" "I" := rfl
theorem fw_2054 : fe 2054 = .fieldLink RX4 196 "TrunkFramer$Store" "clock" "I" := rfl
theorem fw_2055 : fe 2055 = .fieldLink RX7 34 "TrunkFramer$Store" "olderStart" "I" := rfl
theorem fw_2056 : fe 2056 = .fieldLink RX7 37 "TrunkFramer$Store" "olderPlace" "I" := rfl
theorem fw_2057 : fe 2057 = .fieldLink RX7 40 "TrunkFramer$Store" "newerStart" "I" := rfl
theorem fw_2058 : fe 2058 = .fieldLink RX7 43 "TrunkFramer$Store" "newerPlace" "I" := rfl
theorem fw_2059 : fe 2059 = .fieldLink RX7 58 "TrunkFramer$Store" "readStart" "I" := rfl
theorem fw_2060 : fe 2060 = .fieldLink RX11 229 "TrunkFramer$Store" "readStart" "I" := rfl
theorem fw_2061 : fe 2061 = .fieldLink RX7 61 "TrunkFramer$Store" "readPlace" "I" := rfl
theorem fw_2062 : fe 2062 = .fieldLink RX11 226 "TrunkFramer$Store" "readPlace" "I" := rfl
theorem fw_2063 : fe 2063 = .fieldLink RX7 64 "TrunkFramer$Store" "readNumber" "I" := rfl
theorem fw_2064 : fe 2064 = .fieldLink RX11 223 "TrunkFramer$Store" "readNumber" "I" := rfl
theorem fw_2065 : fe 2065 = .fieldLink RX7 28 "TrunkFramer$Store" "signals" "I" := rfl
theorem fw_2066 : fe 2066 = .fieldLink RX11 239 "TrunkFramer$Store" "signals" "I" := rfl
theorem fw_2067 : fe 2067 = .fieldLink RX7 77 "TrunkFramer$Store" "signalStart" "I" := rfl
theorem fw_2068 : fe 2068 = .fieldLink RX11 242 "TrunkFramer$Store" "signalStart" "I" := rfl
theorem fw_2069 : fe 2069 = .fieldLink RX7 71 "TrunkFramer$Store" "signalStart2" "I" := rfl
theorem fw_2070 : fe 2070 = .fieldLink RX11 245 "TrunkFramer$Store" "signalStart2" "I" := rfl
theorem fw_2071 : fe 2071 = .fieldLink RX7 74 "TrunkFramer$Store" "signalStart3" "I" := rfl
theorem fw_2072 : fe 2072 = .fieldLink RX11 248 "TrunkFramer$Store" "signalStart3" "I" := rfl
theorem fw_2108 : fe 2108 = .classLink RX4 25 RX0 := rfl
theorem fw_2109 : fe 2109 = .instantiable RX0 5 := rfl
theorem fw_2111 : fe 2111 = .instanceMethod yX0_init := rfl
theorem fw_2112 : fe 2112 = .code yX0_init cX0_init 1 none := rfl
theorem fw_2113 : fe 2113 = .methodLink RX0 3 objectInit := rfl
theorem fw_2114 : fe 2114 = .fieldLink RX0 9 "TrunkFramer$Ear" "values" "[I" := rfl
theorem fw_2115 : fe 2115 = .fieldLink RX0 15 "TrunkFramer$Ear" "taken" "I" := rfl
theorem fw_2116 : fe 2116 = .fieldLink RX4 199 "TrunkFramer$Ear" "taken" "I" := rfl
theorem fw_2117 : fe 2117 = .fieldLink RX0 19 "TrunkFramer$Ear" "spoilt" "I" := rfl
theorem fw_2118 : fe 2118 = .fieldLink RX4 202 "TrunkFramer$Ear" "spoilt" "I" := rfl
theorem fw_2119 : fe 2119 = .fieldLink RX0 25 "TrunkFramer$Ear" "begun" "I" := rfl
theorem fw_2120 : fe 2120 = .fieldLink RX0 28 "TrunkFramer$Ear" "partial" "I" := rfl
theorem fw_2132 : fe 2132 = .classLink RX4 32 RX5 := rfl
theorem fw_2133 : fe 2133 = .methodLink RX4 34 yX5_init := rfl
theorem fw_2134 : fe 2134 = .methodLink RX4 35 yX4_begin := rfl
theorem fw_2135 : fe 2135 = .instanceMethod yX4_begin := rfl
theorem fw_2136 : fe 2136 = .selects RX4 yX4_begin yX4_begin := rfl
theorem fw_2137 : fe 2137 = .code yX4_begin cX4_begin 2 none := rfl
theorem fw_2138 : fe 2138 = .methodLink RX4 43 yX1_begin := rfl
theorem fw_2139 : fe 2139 = .instanceMethod yX1_begin := rfl
theorem fw_2140 : fe 2140 = .selects RX1 yX1_begin yX1_begin := rfl
theorem fw_2141 : fe 2141 = .code yX1_begin cX1_begin 3 none := rfl
theorem fw_2142 : fe 2142 = .methodLink RX4 44 yX7_begin := rfl
theorem fw_2143 : fe 2143 = .instanceMethod yX7_begin := rfl
theorem fw_2144 : fe 2144 = .selects RX7 yX7_begin yX7_begin := rfl
theorem fw_2145 : fe 2145 = .code yX7_begin cX7_begin 1 none := rfl
theorem fw_2146 : fe 2146 = .methodLink RX4 46 yX0_begin := rfl
theorem fw_2147 : fe 2147 = .instanceMethod yX0_begin := rfl
theorem fw_2148 : fe 2148 = .selects RX0 yX0_begin yX0_begin := rfl
theorem fw_2149 : fe 2149 = .code yX0_begin cX0_begin 1 none := rfl
theorem fw_2150 : fe 2150 = .methodLink RX0 22 yX0_forget := rfl
theorem fw_2151 : fe 2151 = .instanceMethod yX0_forget := rfl
theorem fw_2152 : fe 2152 = .selects RX0 yX0_forget yX0_forget := rfl
theorem fw_2153 : fe 2153 = .code yX0_forget cX0_forget 1 none := rfl
theorem fw_2154 : fe 2154 = .fieldLink RX4 39 "TrunkFramer$Receiver" "mode" "I" := rfl
theorem fw_2155 : fe 2155 = .fieldLink RX11 202 "TrunkFramer$Receiver" "mode" "I" := rfl
theorem fw_2156 : fe 2156 = .fieldLink RX4 12 "TrunkFramer$Receiver" "hunt" "LTrunkFramer$Hunt;" := rfl
theorem fw_2157 : fe 2157 = .fieldLink RX11 205 "TrunkFramer$Receiver" "hunt" "LTrunkFramer$Hunt;" := rfl
theorem fw_2158 : fe 2158 = .fieldLink RX4 21 "TrunkFramer$Receiver" "store" "LTrunkFramer$Store;" := rfl
theorem fw_2159 : fe 2159 = .fieldLink RX11 214 "TrunkFramer$Receiver" "store" "LTrunkFramer$Store;" := rfl
theorem fw_2160 : fe 2160 = .fieldLink RX4 28 "TrunkFramer$Receiver" "ear" "LTrunkFramer$Ear;" := rfl
theorem fw_2161 : fe 2161 = .fieldLink RX11 251 "TrunkFramer$Receiver" "ear" "LTrunkFramer$Ear;" := rfl
theorem fw_2162 : fe 2162 = .fieldLink RX4 47 "TrunkFramer$Receiver" "starts" "I" := rfl
theorem fw_2163 : fe 2163 = .fieldLink RX4 50 "TrunkFramer$Receiver" "mimics" "I" := rfl
theorem fw_2164 : fe 2164 = .fieldLink RX4 53 "TrunkFramer$Receiver" "locked" "I" := rfl
theorem fw_2165 : fe 2165 = .fieldLink RX11 276 "TrunkFramer$Receiver" "locked" "I" := rfl
theorem fw_2166 : fe 2166 = .fieldLink RX4 56 "TrunkFramer$Receiver" "lost" "I" := rfl
theorem fw_2167 : fe 2167 = .fieldLink RX11 301 "TrunkFramer$Receiver" "lost" "I" := rfl
theorem fw_2168 : fe 2168 = .fieldLink RX4 59 "TrunkFramer$Receiver" "place" "I" := rfl
theorem fw_2169 : fe 2169 = .fieldLink RX4 62 "TrunkFramer$Receiver" "offset" "I" := rfl
theorem fw_2170 : fe 2170 = .fieldLink RX4 65 "TrunkFramer$Receiver" "since" "I" := rfl
theorem fw_2171 : fe 2171 = .fieldLink RX4 68 "TrunkFramer$Receiver" "history" "I" := rfl
theorem fw_2172 : fe 2172 = .fieldLink RX4 71 "TrunkFramer$Receiver" "badChecks" "I" := rfl
theorem fw_2200 : fe 2200 = .classLink RX9 23 RX2 := rfl
theorem fw_2201 : fe 2201 = .instantiable RX2 2 := rfl
theorem fw_2202 : fe 2202 = .methodLink RX9 25 yX2_init := rfl
theorem fw_2203 : fe 2203 = .instanceMethod yX2_init := rfl
theorem fw_2204 : fe 2204 = .code yX2_init cX2_init 2 none := rfl
theorem fw_2205 : fe 2205 = .methodLink RX2 3 objectInit := rfl
theorem fw_2206 : fe 2206 = .methodLink RX2 9 Lib.Math.max.name := rfl
theorem fw_2207 : fe 2207 = .static Lib.Math.max.name := rfl
theorem fw_2208 : fe 2208 = .code Lib.Math.max.name Lib.Math.max.code 2 (some .int) := rfl
theorem fw_2209 : fe 2209 = .fieldLink RX2 15 "TrunkFramer$Line" "bits" "[B" := rfl
theorem fw_2210 : fe 2210 = .fieldLink RX9 32 "TrunkFramer$Line" "size" "I" := rfl
theorem fw_2211 : fe 2211 = .fieldLink RX2 21 "TrunkFramer$Line" "size" "I" := rfl
theorem fw_2212 : fe 2212 = .fieldLink RX6 23 "TrunkFramer$Line" "size" "I" := rfl
theorem fw_2213 : fe 2213 = .fieldLink RX11 114 "TrunkFramer$Line" "size" "I" := rfl
theorem fw_2219 : fe 2219 = .fieldLink RX9 28 "TrunkFramer$Trunk" "line" "LTrunkFramer$Line;" := rfl
theorem fw_2220 : fe 2220 = .fieldLink RX11 110 "TrunkFramer$Trunk" "line" "LTrunkFramer$Line;" := rfl
theorem fw_2221 : fe 2221 = .fieldLink RX9 10 "TrunkFramer$Trunk" "sender" "LTrunkFramer$Sender;" := rfl
theorem fw_2222 : fe 2222 = .fieldLink RX11 95 "TrunkFramer$Trunk" "sender" "LTrunkFramer$Sender;" := rfl
theorem fw_2223 : fe 2223 = .fieldLink RX9 19 "TrunkFramer$Trunk" "receiver" "LTrunkFramer$Receiver;" := rfl
theorem fw_2224 : fe 2224 = .fieldLink RX11 192 "TrunkFramer$Trunk" "receiver" "LTrunkFramer$Receiver;" := rfl
theorem fw_2225 : fe 2225 = .fieldLink RX9 36 "TrunkFramer$Trunk" "heard" "I" := rfl
theorem fw_2226 : fe 2226 = .fieldLink RX11 121 "TrunkFramer$Trunk" "heard" "I" := rfl
theorem fw_2236 : fe 2236 = .fieldLink RX10 12 "TrunkFramer$Whole" "plan" "LTrunkFramer$Scheme;" := rfl
theorem fw_2237 : fe 2237 = .fieldLink RX11 70 "TrunkFramer$Whole" "plan" "LTrunkFramer$Scheme;" := rfl
theorem fw_2238 : fe 2238 = .fieldLink RX10 21 "TrunkFramer$Whole" "text" "LTrunkFramer$Text;" := rfl
theorem fw_2239 : fe 2239 = .fieldLink RX11 44 "TrunkFramer$Whole" "text" "LTrunkFramer$Text;" := rfl
theorem fw_2240 : fe 2240 = .fieldLink RX10 30 "TrunkFramer$Whole" "trunk" "LTrunkFramer$Trunk;" := rfl
theorem fw_2241 : fe 2241 = .fieldLink RX11 83 "TrunkFramer$Whole" "trunk" "LTrunkFramer$Trunk;" := rfl
theorem fw_2250 : fe 2250 = .classLink RX11 24 RX9 := rfl
theorem fw_2252 : fe 2252 = .methodLink RX11 30 yX9_init := rfl
theorem fw_2253 : fe 2253 = .classLink RX11 37 RX3 := rfl
theorem fw_2254 : fe 2254 = .instantiable RX3 7 := rfl
theorem fw_2256 : fe 2256 = .instanceMethod yX3_init := rfl
theorem fw_2257 : fe 2257 = .code yX3_init cX3_init 1 none := rfl
theorem fw_2258 : fe 2258 = .methodLink RX3 3 objectInit := rfl
theorem fw_2259 : fe 2259 = .classLink RX3 9 RX5 := rfl
theorem fw_2260 : fe 2260 = .methodLink RX3 11 yX5_init := rfl
theorem fw_2261 : fe 2261 = .classLink RX3 18 RX8 := rfl
theorem fw_2263 : fe 2263 = .fieldLink RX3 12 "TrunkFramer$Reader" "told" "LTrunkFramer$Scheme;" := rfl
theorem fw_2264 : fe 2264 = .fieldLink RX11 74 "TrunkFramer$Reader" "told" "LTrunkFramer$Scheme;" := rfl
theorem fw_2265 : fe 2265 = .fieldLink RX3 21 "TrunkFramer$Reader" "text" "LTrunkFramer$Text;" := rfl
theorem fw_2266 : fe 2266 = .fieldLink RX3 32 "TrunkFramer$Reader" "flaw" "I" := rfl
theorem fw_2267 : fe 2267 = .fieldLink RX11 62 "TrunkFramer$Reader" "flaw" "I" := rfl
theorem fw_2268 : fe 2268 = .fieldLink RX3 36 "TrunkFramer$Reader" "flawPlace" "I" := rfl
theorem fw_2269 : fe 2269 = .fieldLink RX11 66 "TrunkFramer$Reader" "flawPlace" "I" := rfl
theorem fw_2270 : fe 2270 = .fieldLink RX3 45 "TrunkFramer$Reader" "kind" "I" := rfl
theorem fw_2271 : fe 2271 = .fieldLink RX3 54 "TrunkFramer$Reader" "start" "I" := rfl
theorem fw_2272 : fe 2272 = .fieldLink RX3 39 "TrunkFramer$Reader" "end" "I" := rfl
theorem fw_3072 : fe 3072 = .arrayClass .boolean := rfl
theorem fw_3073 : fe 3073 = .fieldLink RX11 12 "TrunkFramer" "now" "LTrunkFramer$Whole;" := rfl
theorem fw_3074 : fe 3074 = .fieldLink RX11 16 "TrunkFramer" "kept" "[LTrunkFramer$Whole;" := rfl
theorem fw_3075 : fe 3075 = .fieldLink RX11 20 "TrunkFramer" "isKept" "[Z" := rfl
theorem fw_3076 : fe 3076 = .fieldLink RX11 26 "TrunkFramer" "past" "[LTrunkFramer$Trunk;" := rfl
theorem fw_3077 : fe 3077 = .fieldLink RX11 89 "TrunkFramer" "acts" "I" := rfl
theorem fw_3078 : fe 3078 = .fieldLink RX11 33 "TrunkFramer" "trial" "LTrunkFramer$Trunk;" := rfl
theorem fw_3079 : fe 3079 = .fieldLink RX11 40 "TrunkFramer" "reader" "LTrunkFramer$Reader;" := rfl
theorem fw_3095 : fe 3095 = .methodLink RL 21 yX11_key := rfl
theorem fw_3096 : fe 3096 = .instanceMethod yX11_key := rfl
theorem fw_3097 : fe 3097 = .selects RX11 yX11_key yX11_key := rfl
theorem fw_3098 : fe 3098 = .code yX11_key cX11_key 3 (some .int) := rfl
theorem fw_3099 : fe 3099 = .methodLink RX11 48 yX8_append := rfl
theorem fw_3100 : fe 3100 = .instanceMethod yX8_append := rfl
theorem fw_3101 : fe 3101 = .selects RX8 yX8_append yX8_append := rfl
theorem fw_3102 : fe 3102 = .code yX8_append cX8_append 5 (some .int) := rfl
theorem fw_3103 : fe 3103 = .methodLink RX8 19 yX8_byteOf := rfl
theorem fw_3104 : fe 3104 = .static yX8_byteOf := rfl
theorem fw_3105 : fe 3105 = .code yX8_byteOf cX8_byteOf 3 (some .int) := rfl
theorem fw_3106 : fe 3106 = .methodLink RL 26 yX11_scheme := rfl
theorem fw_3107 : fe 3107 = .instanceMethod yX11_scheme := rfl
theorem fw_3108 : fe 3108 = .selects RX11 yX11_scheme yX11_scheme := rfl
theorem fw_3109 : fe 3109 = .code yX11_scheme cX11_scheme 2 (some .int) := rfl
theorem fw_3110 : fe 3110 = .methodLink RX11 54 yX3_readWhole := rfl
theorem fw_3111 : fe 3111 = .instanceMethod yX3_readWhole := rfl
theorem fw_3112 : fe 3112 = .selects RX3 yX3_readWhole yX3_readWhole := rfl
theorem fw_3113 : fe 3113 = .code yX3_readWhole cX3_readWhole 3 none := rfl
theorem fw_3114 : fe 3114 = .methodLink RX3 25 yX8_copyFrom := rfl
theorem fw_3115 : fe 3115 = .instanceMethod yX8_copyFrom := rfl
theorem fw_3116 : fe 3116 = .selects RX8 yX8_copyFrom yX8_copyFrom := rfl
theorem fw_3117 : fe 3117 = .code yX8_copyFrom cX8_copyFrom 2 none := rfl
theorem fw_3118 : fe 3118 = .methodLink RX8 26 Lib.Math.min.name := rfl
theorem fw_3119 : fe 3119 = .static Lib.Math.min.name := rfl
theorem fw_3120 : fe 3120 = .code Lib.Math.min.name Lib.Math.min.code 2 (some .int) := rfl
theorem fw_3121 : fe 3121 = .methodLink RX8 32 Lib.Math.max.name := rfl
theorem fw_3122 : fe 3122 = .methodLink RX8 35 arraycopyName := rfl
theorem fw_3123 : fe 3123 = .static arraycopyName := rfl
theorem fw_3124 : fe 3124 = .native arraycopyName := rfl
theorem fw_3125 : fe 3125 = .methodLink RX3 29 yX5_begin := rfl
theorem fw_3126 : fe 3126 = .methodLink RX3 42 yX3_step := rfl
theorem fw_3128 : fe 3128 = .instanceMethod yX3_step := rfl
theorem fw_3129 : fe 3129 = .code yX3_step cX3_step 1 none := rfl
theorem fw_3130 : fe 3130 = .methodLink RX3 111 yX8_at := rfl
theorem fw_3131 : fe 3131 = .instanceMethod yX8_at := rfl
theorem fw_3132 : fe 3132 = .selects RX8 yX8_at yX8_at := rfl
theorem fw_3133 : fe 3133 = .code yX8_at cX8_at 2 (some .int) := rfl
theorem fw_3134 : fe 3134 = .methodLink RX3 139 yX3_isBlank := rfl
theorem fw_3135 : fe 3135 = .static yX3_isBlank := rfl
theorem fw_3136 : fe 3136 = .code yX3_isBlank cX3_isBlank 1 (some .boolean) := rfl
theorem fw_3137 : fe 3137 = .methodLink RX3 143 yX3_isLetter := rfl
theorem fw_3138 : fe 3138 = .static yX3_isLetter := rfl
theorem fw_3139 : fe 3139 = .code yX3_isLetter cX3_isLetter 1 (some .boolean) := rfl
theorem fw_3140 : fe 3140 = .methodLink RX3 146 yX3_isDigit := rfl
theorem fw_3141 : fe 3141 = .static yX3_isDigit := rfl
theorem fw_3142 : fe 3142 = .code yX3_isDigit cX3_isDigit 1 (some .boolean) := rfl
theorem fw_3143 : fe 3143 = .methodLink RX3 48 yX3_readStatement := rfl
theorem fw_3145 : fe 3145 = .instanceMethod yX3_readStatement := rfl
theorem fw_3146 : fe 3146 = .code yX3_readStatement cX3_readStatement 2 none := rfl
theorem fw_3148 : fe 3148 = .methodLink RX3 59 yX3_isWord := rfl
theorem fw_3150 : fe 3150 = .instanceMethod yX3_isWord := rfl
theorem fw_3151 : fe 3151 = .code yX3_isWord cX3_isWord 3 (some .boolean) := rfl
theorem fw_3152 : fe 3152 = .methodLink RX3 127 yJ0_length_8abf5 := rfl
theorem fw_3153 : fe 3153 = .instanceMethod yJ0_length_8abf5 := rfl
theorem fw_3154 : fe 3154 = .selects RJ0 yJ0_length_8abf5 yJ0_length_8abf5 := rfl
theorem fw_3155 : fe 3155 = .code yJ0_length_8abf5 cJ0_length_8abf5 1 (some .int) := rfl
theorem fw_3156 : fe 3156 = .methodLink RJ0 335 yJ0_coder_7d493 := rfl
theorem fw_3157 : fe 3157 = .instanceMethod yJ0_coder_7d493 := rfl
theorem fw_3158 : fe 3158 = .selects RJ0 yJ0_coder_7d493 yJ0_coder_7d493 := rfl
theorem fw_3159 : fe 3159 = .code yJ0_coder_7d493 cJ0_coder_7d493 1 (some .byte) := rfl
theorem fw_3160 : fe 3160 = .fieldLink RJ0 38 "java/lang/String" "COMPACT_STRINGS" "Z" := rfl
theorem fw_3162 : fe 3162 = .methodLink RX3 132 yJ0_charAt_5068e := rfl
theorem fw_3163 : fe 3163 = .instanceMethod yJ0_charAt_5068e := rfl
theorem fw_3164 : fe 3164 = .selects RJ0 yJ0_charAt_5068e yJ0_charAt_5068e := rfl
theorem fw_3165 : fe 3165 = .code yJ0_charAt_5068e cJ0_charAt_5068e 2 (some .char) := rfl
theorem fw_3166 : fe 3166 = .methodLink RJ0 492 yJ0_isLatin1_aae02 := rfl
theorem fw_3167 : fe 3167 = .instanceMethod yJ0_isLatin1_aae02 := rfl
theorem fw_3168 : fe 3168 = .selects RJ0 yJ0_isLatin1_aae02 yJ0_isLatin1_aae02 := rfl
theorem fw_3169 : fe 3169 = .code yJ0_isLatin1_aae02 cJ0_isLatin1_aae02 1 (some .boolean) := rfl
theorem fw_3170 : fe 3170 = .methodLink RJ0 495 yJ1_charAt_3b067 := rfl
theorem fw_3171 : fe 3171 = .static yJ1_charAt_3b067 := rfl
theorem fw_3172 : fe 3172 = .code yJ1_charAt_3b067 cJ1_charAt_3b067 2 (some .char) := rfl
theorem fw_3173 : fe 3173 = .methodLink RJ1 9 yJ0_checkIndex_df160 := rfl
theorem fw_3174 : fe 3174 = .static yJ0_checkIndex_df160 := rfl
theorem fw_3175 : fe 3175 = .code yJ0_checkIndex_df160 cJ0_checkIndex_df160 2 none := rfl
theorem fw_3176 : fe 3176 = .fieldLink RJ0 1053 "jdk/internal/util/Preconditions" "SIOOBE_FORMATTER" "Ljava/util/function/BiFunction;" := rfl
theorem fw_3178 : fe 3178 = .methodLink RJ0 1059 yJ3_checkIndex_8e157 := rfl
theorem fw_3179 : fe 3179 = .static yJ3_checkIndex_8e157 := rfl
theorem fw_3180 : fe 3180 = .code yJ3_checkIndex_8e157 cJ3_checkIndex_8e157 3 (some .int) := rfl
theorem fw_3181 : fe 3181 = .methodLink RJ0 498 yJ2_charAt_3b067 := rfl
theorem fw_3182 : fe 3182 = .static yJ2_charAt_3b067 := rfl
theorem fw_3183 : fe 3183 = .code yJ2_charAt_3b067 cJ2_charAt_3b067 2 (some .char) := rfl
theorem fw_3184 : fe 3184 = .methodLink RJ2 67 yJ2_checkIndex_2214a := rfl
theorem fw_3185 : fe 3185 = .static yJ2_checkIndex_2214a := rfl
theorem fw_3186 : fe 3186 = .code yJ2_checkIndex_2214a cJ2_checkIndex_2214a 2 none := rfl
theorem fw_3187 : fe 3187 = .methodLink RJ2 48 yJ2_length_9d52b := rfl
theorem fw_3188 : fe 3188 = .static yJ2_length_9d52b := rfl
theorem fw_3189 : fe 3189 = .code yJ2_length_9d52b cJ2_length_9d52b 1 (some .int) := rfl
theorem fw_3190 : fe 3190 = .methodLink RJ2 414 yJ0_checkIndex_df160 := rfl
theorem fw_3191 : fe 3191 = .methodLink RJ2 71 yJ2_getChar_3b067 := rfl
theorem fw_3192 : fe 3192 = .static yJ2_getChar_3b067 := rfl
theorem fw_3193 : fe 3193 = .code yJ2_getChar_3b067 cJ2_getChar_3b067 2 (some .char) := rfl
theorem fw_3194 : fe 3194 = .fieldLink RJ2 44 "java/lang/StringUTF16" "$assertionsDisabled" "Z" := rfl
theorem fw_3196 : fe 3196 = .fieldLink RJ2 59 "java/lang/StringUTF16" "HI_BYTE_SHIFT" "I" := rfl
theorem fw_3198 : fe 3198 = .fieldLink RJ2 63 "java/lang/StringUTF16" "LO_BYTE_SHIFT" "I" := rfl
theorem fw_3200 : fe 3200 = .methodLink RX3 63 yX3_readRow := rfl
theorem fw_3202 : fe 3202 = .instanceMethod yX3_readRow := rfl
theorem fw_3203 : fe 3203 = .code yX3_readRow cX3_readRow 8 none := rfl
theorem fw_3204 : fe 3204 = .methodLink RX3 81 yX3_misplace := rfl
theorem fw_3206 : fe 3206 = .instanceMethod yX3_misplace := rfl
theorem fw_3207 : fe 3207 = .code yX3_misplace cX3_misplace 1 none := rfl
theorem fw_3208 : fe 3208 = .methodLink RX3 118 yX3_roleOf := rfl
theorem fw_3209 : fe 3209 = .static yX3_roleOf := rfl
theorem fw_3210 : fe 3210 = .code yX3_roleOf cX3_roleOf 1 (some .int) := rfl
theorem fw_3211 : fe 3211 = .methodLink RX3 115 yX3_impossible := rfl
theorem fw_3213 : fe 3213 = .instanceMethod yX3_impossible := rfl
theorem fw_3214 : fe 3214 = .code yX3_impossible cX3_impossible 2 none := rfl
theorem fw_3216 : fe 3216 = .methodLink RX3 69 yX3_readNumber := rfl
theorem fw_3218 : fe 3218 = .instanceMethod yX3_readNumber := rfl
theorem fw_3219 : fe 3219 = .code yX3_readNumber cX3_readNumber 6 (some .int) := rfl
theorem fw_3220 : fe 3220 = .methodLink RX3 78 yX3_readSingle := rfl
theorem fw_3222 : fe 3222 = .instanceMethod yX3_readSingle := rfl
theorem fw_3223 : fe 3223 = .code yX3_readSingle cX3_readSingle 1 none := rfl
theorem fw_3231 : fe 3231 = .methodLink RX3 51 yX5_derive := rfl
theorem fw_3232 : fe 3232 = .methodLink RX11 77 yX5_copyFrom := rfl
theorem fw_3233 : fe 3233 = .instanceMethod yX5_copyFrom := rfl
theorem fw_3234 : fe 3234 = .selects RX5 yX5_copyFrom yX5_copyFrom := rfl
theorem fw_3235 : fe 3235 = .code yX5_copyFrom cX5_copyFrom 2 none := rfl
theorem fw_3236 : fe 3236 = .methodLink RX5 67 arraycopyName := rfl
theorem fw_3237 : fe 3237 = .methodLink RX11 86 yX9_restart := rfl
theorem fw_3238 : fe 3238 = .instanceMethod yX9_restart := rfl
theorem fw_3239 : fe 3239 = .selects RX9 yX9_restart yX9_restart := rfl
theorem fw_3240 : fe 3240 = .code yX9_restart cX9_restart 2 none := rfl
theorem fw_3241 : fe 3241 = .methodLink RX9 42 yX4_begin := rfl
theorem fw_3242 : fe 3242 = .methodLink RL 31 yX11_fault := rfl
theorem fw_3243 : fe 3243 = .instanceMethod yX11_fault := rfl
theorem fw_3244 : fe 3244 = .selects RX11 yX11_fault yX11_fault := rfl
theorem fw_3245 : fe 3245 = .code yX11_fault cX11_fault 2 (some .int) := rfl
theorem fw_3246 : fe 3246 = .methodLink RL 36 yX11_say := rfl
theorem fw_3247 : fe 3247 = .instanceMethod yX11_say := rfl
theorem fw_3248 : fe 3248 = .selects RX11 yX11_say yX11_say := rfl
theorem fw_3249 : fe 3249 = .code yX11_say cX11_say 3 (some .int) := rfl
theorem fw_3250 : fe 3250 = .methodLink RX11 104 yX11_remember := rfl
theorem fw_3252 : fe 3252 = .instanceMethod yX11_remember := rfl
theorem fw_3253 : fe 3253 = .code yX11_remember cX11_remember 3 none := rfl
theorem fw_3254 : fe 3254 = .methodLink RX11 138 yX9_copyFrom := rfl
theorem fw_3255 : fe 3255 = .instanceMethod yX9_copyFrom := rfl
theorem fw_3256 : fe 3256 = .selects RX9 yX9_copyFrom yX9_copyFrom := rfl
theorem fw_3257 : fe 3257 = .code yX9_copyFrom cX9_copyFrom 2 none := rfl
theorem fw_3258 : fe 3258 = .methodLink RX9 50 yX2_copyFrom := rfl
theorem fw_3259 : fe 3259 = .instanceMethod yX2_copyFrom := rfl
theorem fw_3260 : fe 3260 = .selects RX2 yX2_copyFrom yX2_copyFrom := rfl
theorem fw_3261 : fe 3261 = .code yX2_copyFrom cX2_copyFrom 2 none := rfl
theorem fw_3262 : fe 3262 = .methodLink RX2 31 Lib.Math.min.name := rfl
theorem fw_3263 : fe 3263 = .methodLink RX2 25 arraycopyName := rfl
theorem fw_3264 : fe 3264 = .methodLink RX9 54 yX6_copyFrom := rfl
theorem fw_3265 : fe 3265 = .instanceMethod yX6_copyFrom := rfl
theorem fw_3266 : fe 3266 = .selects RX6 yX6_copyFrom yX6_copyFrom := rfl
theorem fw_3267 : fe 3267 = .code yX6_copyFrom cX6_copyFrom 2 none := rfl
theorem fw_3268 : fe 3268 = .methodLink RX6 65 arraycopyName := rfl
theorem fw_3269 : fe 3269 = .methodLink RX9 57 yX4_copyFrom := rfl
theorem fw_3270 : fe 3270 = .instanceMethod yX4_copyFrom := rfl
theorem fw_3271 : fe 3271 = .selects RX4 yX4_copyFrom yX4_copyFrom := rfl
theorem fw_3272 : fe 3272 = .code yX4_copyFrom cX4_copyFrom 2 none := rfl
theorem fw_3273 : fe 3273 = .methodLink RX4 205 yX1_copyFrom := rfl
theorem fw_3274 : fe 3274 = .instanceMethod yX1_copyFrom := rfl
theorem fw_3275 : fe 3275 = .selects RX1 yX1_copyFrom yX1_copyFrom := rfl
theorem fw_3276 : fe 3276 = .code yX1_copyFrom cX1_copyFrom 2 none := rfl
theorem fw_3277 : fe 3277 = .methodLink RX1 71 arraycopyName := rfl
theorem fw_3278 : fe 3278 = .methodLink RX4 209 yX7_copyFrom := rfl
theorem fw_3279 : fe 3279 = .instanceMethod yX7_copyFrom := rfl
theorem fw_3280 : fe 3280 = .selects RX7 yX7_copyFrom yX7_copyFrom := rfl
theorem fw_3281 : fe 3281 = .code yX7_copyFrom cX7_copyFrom 2 none := rfl
theorem fw_3282 : fe 3282 = .methodLink RX4 212 yX0_copyFrom := rfl
theorem fw_3283 : fe 3283 = .instanceMethod yX0_copyFrom := rfl
theorem fw_3284 : fe 3284 = .selects RX0 yX0_copyFrom yX0_copyFrom := rfl
theorem fw_3285 : fe 3285 = .code yX0_copyFrom cX0_copyFrom 2 none := rfl
theorem fw_3286 : fe 3286 = .methodLink RX0 35 arraycopyName := rfl
theorem fw_3287 : fe 3287 = .methodLink RX11 107 yX6_enqueue := rfl
theorem fw_3288 : fe 3288 = .instanceMethod yX6_enqueue := rfl
theorem fw_3289 : fe 3289 = .selects RX6 yX6_enqueue yX6_enqueue := rfl
theorem fw_3290 : fe 3290 = .code yX6_enqueue cX6_enqueue 2 none := rfl
theorem fw_3291 : fe 3291 = .methodLink RL 40 yX11_send := rfl
theorem fw_3292 : fe 3292 = .instanceMethod yX11_send := rfl
theorem fw_3293 : fe 3293 = .selects RX11 yX11_send yX11_send := rfl
theorem fw_3294 : fe 3294 = .code yX11_send cX11_send 4 (some .int) := rfl
theorem fw_3295 : fe 3295 = .methodLink RX11 117 yX6_transmit := rfl
theorem fw_3296 : fe 3296 = .instanceMethod yX6_transmit := rfl
theorem fw_3297 : fe 3297 = .selects RX6 yX6_transmit yX6_transmit := rfl
theorem fw_3298 : fe 3298 = .code yX6_transmit cX6_transmit 7 none := rfl
theorem fw_3299 : fe 3299 = .methodLink RX6 19 yX6_transmitOne := rfl
theorem fw_3301 : fe 3301 = .instanceMethod yX6_transmitOne := rfl
theorem fw_3302 : fe 3302 = .code yX6_transmitOne cX6_transmitOne 10 (some .int) := rfl
theorem fw_3303 : fe 3303 = .methodLink RX6 36 yX5_roleAt := rfl
theorem fw_3304 : fe 3304 = .instanceMethod yX5_roleAt := rfl
theorem fw_3305 : fe 3305 = .selects RX5 yX5_roleAt yX5_roleAt := rfl
theorem fw_3306 : fe 3306 = .code yX5_roleAt cX5_roleAt 2 (some .int) := rfl
theorem fw_3307 : fe 3307 = .methodLink RX6 43 yX2_append := rfl
theorem fw_3308 : fe 3308 = .instanceMethod yX2_append := rfl
theorem fw_3309 : fe 3309 = .selects RX2 yX2_append yX2_append := rfl
theorem fw_3310 : fe 3310 = .code yX2_append cX2_append 2 none := rfl
theorem fw_3311 : fe 3311 = .methodLink RX6 47 yX6_linkBit := rfl
theorem fw_4097 : fe 4097 = .instanceMethod yX6_linkBit := rfl
theorem fw_4098 : fe 4098 = .code yX6_linkBit cX6_linkBit 2 (some .int) := rfl
theorem fw_4099 : fe 4099 = .methodLink RX6 62 yX6_dequeue := rfl
theorem fw_4101 : fe 4101 = .instanceMethod yX6_dequeue := rfl
theorem fw_4102 : fe 4102 = .code yX6_dequeue cX6_dequeue 2 none := rfl
theorem fw_4103 : fe 4103 = .constant RX6 54 (1103515245) := rfl
theorem fw_4104 : fe 4104 = .methodLink RX6 55 yX5_checksOf := rfl
theorem fw_4105 : fe 4105 = .instanceMethod yX5_checksOf := rfl
theorem fw_4106 : fe 4106 = .selects RX5 yX5_checksOf yX5_checksOf := rfl
theorem fw_4107 : fe 4107 = .code yX5_checksOf cX5_checksOf 13 (some .int) := rfl
theorem fw_4108 : fe 4108 = .methodLink RX5 82 yX5_roleAt := rfl
theorem fw_4109 : fe 4109 = .methodLink RX5 85 yX2_at := rfl
theorem fw_4110 : fe 4110 = .instanceMethod yX2_at := rfl
theorem fw_4111 : fe 4111 = .selects RX2 yX2_at yX2_at := rfl
theorem fw_4112 : fe 4112 = .code yX2_at cX2_at 2 (some .int) := rfl
theorem fw_4113 : fe 4113 = .methodLink RL 45 yX11_turn := rfl
theorem fw_4114 : fe 4114 = .instanceMethod yX11_turn := rfl
theorem fw_4115 : fe 4115 = .selects RX11 yX11_turn yX11_turn := rfl
theorem fw_4116 : fe 4116 = .code yX11_turn cX11_turn 3 (some .boolean) := rfl
theorem fw_4117 : fe 4117 = .methodLink RX11 124 yX2_flip := rfl
theorem fw_4118 : fe 4118 = .instanceMethod yX2_flip := rfl
theorem fw_4119 : fe 4119 = .selects RX2 yX2_flip yX2_flip := rfl
theorem fw_4120 : fe 4120 = .code yX2_flip cX2_flip 2 none := rfl
theorem fw_4121 : fe 4121 = .methodLink RL 50 yX11_lose := rfl
theorem fw_4122 : fe 4122 = .instanceMethod yX11_lose := rfl
theorem fw_4123 : fe 4123 = .selects RX11 yX11_lose yX11_lose := rfl
theorem fw_4124 : fe 4124 = .code yX11_lose cX11_lose 4 (some .int) := rfl
theorem fw_4125 : fe 4125 = .methodLink RX11 127 yX2_cut := rfl
theorem fw_4126 : fe 4126 = .instanceMethod yX2_cut := rfl
theorem fw_4127 : fe 4127 = .selects RX2 yX2_cut yX2_cut := rfl
theorem fw_4128 : fe 4128 = .code yX2_cut cX2_cut 3 none := rfl
theorem fw_4129 : fe 4129 = .methodLink RL 54 yX11_put := rfl
theorem fw_4130 : fe 4130 = .instanceMethod yX11_put := rfl
theorem fw_4131 : fe 4131 = .selects RX11 yX11_put yX11_put := rfl
theorem fw_4132 : fe 4132 = .code yX11_put cX11_put 4 (some .int) := rfl
theorem fw_4133 : fe 4133 = .methodLink RX11 131 yX2_insert := rfl
theorem fw_4134 : fe 4134 = .instanceMethod yX2_insert := rfl
theorem fw_4135 : fe 4135 = .selects RX2 yX2_insert yX2_insert := rfl
theorem fw_4136 : fe 4136 = .code yX2_insert cX2_insert 3 none := rfl
theorem fw_4137 : fe 4137 = .methodLink RL 59 yX11_hear := rfl
theorem fw_4138 : fe 4138 = .instanceMethod yX11_hear := rfl
theorem fw_4139 : fe 4139 = .selects RX11 yX11_hear yX11_hear := rfl
theorem fw_4140 : fe 4140 = .code yX11_hear cX11_hear 3 (some .int) := rfl
theorem fw_4141 : fe 4141 = .methodLink RX11 134 yX9_listen := rfl
theorem fw_4142 : fe 4142 = .instanceMethod yX9_listen := rfl
theorem fw_4143 : fe 4143 = .selects RX9 yX9_listen yX9_listen := rfl
theorem fw_4144 : fe 4144 = .code yX9_listen cX9_listen 4 none := rfl
theorem fw_4145 : fe 4145 = .methodLink RX9 46 yX4_take := rfl
theorem fw_4146 : fe 4146 = .instanceMethod yX4_take := rfl
theorem fw_4147 : fe 4147 = .selects RX4 yX4_take yX4_take := rfl
theorem fw_4148 : fe 4148 = .code yX4_take cX4_take 5 none := rfl
theorem fw_4149 : fe 4149 = .methodLink RX4 74 yX2_at := rfl
theorem fw_4150 : fe 4150 = .methodLink RX4 80 yX4_takeHunting := rfl
theorem fw_4152 : fe 4152 = .instanceMethod yX4_takeHunting := rfl
theorem fw_4153 : fe 4153 = .code yX4_takeHunting cX4_takeHunting 3 none := rfl
theorem fw_4154 : fe 4154 = .methodLink RX4 94 yX1_follow := rfl
theorem fw_4155 : fe 4155 = .instanceMethod yX1_follow := rfl
theorem fw_4156 : fe 4156 = .selects RX1 yX1_follow yX1_follow := rfl
theorem fw_4157 : fe 4157 = .code yX1_follow cX1_follow 6 none := rfl
theorem fw_4158 : fe 4158 = .methodLink RX1 51 yJ6_bitCount_0f7a4 := rfl
theorem fw_4159 : fe 4159 = .static yJ6_bitCount_0f7a4 := rfl
theorem fw_4160 : fe 4160 = .code yJ6_bitCount_0f7a4 cJ6_bitCount_0f7a4 1 (some .int) := rfl
theorem fw_4161 : fe 4161 = .constant RJ6 265 (1431655765) := rfl
theorem fw_4162 : fe 4162 = .constant RJ6 266 (858993459) := rfl
theorem fw_4163 : fe 4163 = .constant RJ6 267 (252645135) := rfl
theorem fw_4164 : fe 4164 = .methodLink RX1 57 yX5_placeBehind := rfl
theorem fw_4165 : fe 4165 = .instanceMethod yX5_placeBehind := rfl
theorem fw_4166 : fe 4166 = .selects RX5 yX5_placeBehind yX5_placeBehind := rfl
theorem fw_4167 : fe 4167 = .code yX5_placeBehind cX5_placeBehind 2 (some .int) := rfl
theorem fw_4168 : fe 4168 = .methodLink RX4 100 yX4_huntAnew := rfl
theorem fw_4170 : fe 4170 = .instanceMethod yX4_huntAnew := rfl
theorem fw_4171 : fe 4171 = .code yX4_huntAnew cX4_huntAnew 2 none := rfl
theorem fw_4172 : fe 4172 = .methodLink RX4 103 yX1_fixedHeard := rfl
theorem fw_4173 : fe 4173 = .instanceMethod yX1_fixedHeard := rfl
theorem fw_4174 : fe 4174 = .selects RX1 yX1_fixedHeard yX1_fixedHeard := rfl
theorem fw_4175 : fe 4175 = .code yX1_fixedHeard cX1_fixedHeard 3 (some .int) := rfl
theorem fw_4176 : fe 4176 = .methodLink RX1 64 yX1_lone := rfl
theorem fw_4177 : fe 4177 = .instanceMethod yX1_lone := rfl
theorem fw_4178 : fe 4178 = .selects RX1 yX1_lone yX1_lone := rfl
theorem fw_4179 : fe 4179 = .code yX1_lone cX1_lone 2 (some .int) := rfl
theorem fw_4180 : fe 4180 = .methodLink RX1 60 yX1_nth := rfl
theorem fw_4181 : fe 4181 = .instanceMethod yX1_nth := rfl
theorem fw_4182 : fe 4182 = .selects RX1 yX1_nth yX1_nth := rfl
theorem fw_4183 : fe 4183 = .code yX1_nth cX1_nth 6 (some .int) := rfl
theorem fw_4184 : fe 4184 = .methodLink RX1 68 yX5_fixedStarted := rfl
theorem fw_4185 : fe 4185 = .instanceMethod yX5_fixedStarted := rfl
theorem fw_4186 : fe 4186 = .selects RX5 yX5_fixedStarted yX5_fixedStarted := rfl
theorem fw_4187 : fe 4187 = .code yX5_fixedStarted cX5_fixedStarted 6 (some .int) := rfl
theorem fw_4188 : fe 4188 = .methodLink RX5 73 yX5_framesStarted := rfl
theorem fw_4189 : fe 4189 = .instanceMethod yX5_framesStarted := rfl
theorem fw_4190 : fe 4190 = .selects RX5 yX5_framesStarted yX5_framesStarted := rfl
theorem fw_4191 : fe 4191 = .code yX5_framesStarted cX5_framesStarted 2 (some .int) := rfl
theorem fw_4192 : fe 4192 = .methodLink RX5 77 yJ6_bitCount_0f7a4 := rfl
theorem fw_4193 : fe 4193 = .methodLink RX4 110 yX4_followLone := rfl
theorem fw_4195 : fe 4195 = .instanceMethod yX4_followLone := rfl
theorem fw_4196 : fe 4196 = .code yX4_followLone cX4_followLone 3 none := rfl
theorem fw_4197 : fe 4197 = .methodLink RX4 119 yX1_lone := rfl
theorem fw_4198 : fe 4198 = .methodLink RX4 128 yX4_lock := rfl
theorem fw_4200 : fe 4200 = .instanceMethod yX4_lock := rfl
theorem fw_4201 : fe 4201 = .code yX4_lock cX4_lock 1 none := rfl
theorem fw_4202 : fe 4202 = .methodLink RX4 178 yX0_forget := rfl
theorem fw_4203 : fe 4203 = .methodLink RX4 84 yX4_takeVerifying := rfl
theorem fw_4205 : fe 4205 = .instanceMethod yX4_takeVerifying := rfl
theorem fw_4206 : fe 4206 = .code yX4_takeVerifying cX4_takeVerifying 4 none := rfl
theorem fw_4207 : fe 4207 = .methodLink RX4 131 yX5_isOther := rfl
theorem fw_4208 : fe 4208 = .instanceMethod yX5_isOther := rfl
theorem fw_4209 : fe 4209 = .selects RX5 yX5_isOther yX5_isOther := rfl
theorem fw_4210 : fe 4210 = .code yX5_isOther cX5_isOther 3 (some .boolean) := rfl
theorem fw_4211 : fe 4211 = .methodLink RX4 135 yX4_advance := rfl
theorem fw_4213 : fe 4213 = .instanceMethod yX4_advance := rfl
theorem fw_4214 : fe 4214 = .code yX4_advance cX4_advance 2 none := rfl
theorem fw_4215 : fe 4215 = .methodLink RX4 175 yX5_placeBehind := rfl
theorem fw_4216 : fe 4216 = .methodLink RX4 138 yX4_isJudged := rfl
theorem fw_4218 : fe 4218 = .instanceMethod yX4_isJudged := rfl
theorem fw_4219 : fe 4219 = .code yX4_isJudged cX4_isJudged 2 (some .boolean) := rfl
theorem fw_4220 : fe 4220 = .methodLink RX4 142 yX5_checksHold := rfl
theorem fw_4221 : fe 4221 = .instanceMethod yX5_checksHold := rfl
theorem fw_4222 : fe 4222 = .selects RX5 yX5_checksHold yX5_checksHold := rfl
theorem fw_4223 : fe 4223 = .code yX5_checksHold cX5_checksHold 5 (some .boolean) := rfl
theorem fw_4224 : fe 4224 = .methodLink RX5 90 yX5_checksOf := rfl
theorem fw_4225 : fe 4225 = .methodLink RX4 88 yX4_takeLocked := rfl
theorem fw_4227 : fe 4227 = .instanceMethod yX4_takeLocked := rfl
theorem fw_4228 : fe 4228 = .code yX4_takeLocked cX4_takeLocked 5 none := rfl
theorem fw_4229 : fe 4229 = .methodLink RX4 146 yX4_takeFirst := rfl
theorem fw_4231 : fe 4231 = .instanceMethod yX4_takeFirst := rfl
theorem fw_4232 : fe 4232 = .code yX4_takeFirst cX4_takeFirst 4 none := rfl
theorem fw_4233 : fe 4233 = .methodLink RX4 153 yX5_isFixed := rfl
theorem fw_4234 : fe 4234 = .instanceMethod yX5_isFixed := rfl
theorem fw_4235 : fe 4235 = .selects RX5 yX5_isFixed yX5_isFixed := rfl
theorem fw_4236 : fe 4236 = .code yX5_isFixed cX5_isFixed 2 (some .boolean) := rfl
theorem fw_4237 : fe 4237 = .methodLink RX4 160 yJ6_bitCount_0f7a4 := rfl
theorem fw_4238 : fe 4238 = .methodLink RX4 168 yX5_roleAt := rfl
theorem fw_4239 : fe 4239 = .methodLink RX4 171 yX0_take := rfl
theorem fw_4240 : fe 4240 = .instanceMethod yX0_take := rfl
theorem fw_4241 : fe 4241 = .selects RX0 yX0_take yX0_take := rfl
theorem fw_4242 : fe 4242 = .code yX0_take cX0_take 2 none := rfl
theorem fw_4243 : fe 4243 = .methodLink RX0 31 yX0_keep := rfl
theorem fw_4245 : fe 4245 = .instanceMethod yX0_keep := rfl
theorem fw_4246 : fe 4246 = .code yX0_keep cX0_keep 3 none := rfl
theorem fw_4247 : fe 4247 = .methodLink RX4 149 yX7_come := rfl
theorem fw_4248 : fe 4248 = .instanceMethod yX7_come := rfl
theorem fw_4249 : fe 4249 = .selects RX7 yX7_come yX7_come := rfl
theorem fw_4250 : fe 4250 = .code yX7_come cX7_come 3 none := rfl
theorem fw_4251 : fe 4251 = .methodLink RX7 31 yX7_dropOlder := rfl
theorem fw_4253 : fe 4253 = .instanceMethod yX7_dropOlder := rfl
theorem fw_4254 : fe 4254 = .code yX7_dropOlder cX7_dropOlder 1 none := rfl
theorem fw_4255 : fe 4255 = .methodLink RX4 91 yX7_tick := rfl
theorem fw_4256 : fe 4256 = .instanceMethod yX7_tick := rfl
theorem fw_4257 : fe 4257 = .selects RX7 yX7_tick yX7_tick := rfl
theorem fw_4258 : fe 4258 = .code yX7_tick cX7_tick 2 none := rfl
theorem fw_4259 : fe 4259 = .methodLink RX7 54 yX7_readOlder := rfl
theorem fw_4261 : fe 4261 = .instanceMethod yX7_readOlder := rfl
theorem fw_4262 : fe 4262 = .code yX7_readOlder cX7_readOlder 2 none := rfl
theorem fw_4263 : fe 4263 = .methodLink RX7 67 yX5_isSignalPlace := rfl
theorem fw_4264 : fe 4264 = .instanceMethod yX5_isSignalPlace := rfl
theorem fw_4265 : fe 4265 = .selects RX5 yX5_isSignalPlace yX5_isSignalPlace := rfl
theorem fw_4266 : fe 4266 = .code yX5_isSignalPlace cX5_isSignalPlace 2 (some .boolean) := rfl
theorem fw_4267 : fe 4267 = .methodLink RX7 80 Lib.Math.min.name := rfl
theorem fw_4268 : fe 4268 = .methodLink RL 63 yX11_undo := rfl
theorem fw_4269 : fe 4269 = .instanceMethod yX11_undo := rfl
theorem fw_4270 : fe 4270 = .selects RX11 yX11_undo yX11_undo := rfl
theorem fw_4271 : fe 4271 = .code yX11_undo cX11_undo 1 (some .int) := rfl
theorem fw_4272 : fe 4272 = .methodLink RL 67 yX11_count := rfl
theorem fw_4273 : fe 4273 = .instanceMethod yX11_count := rfl
theorem fw_4274 : fe 4274 = .selects RX11 yX11_count yX11_count := rfl
theorem fw_4275 : fe 4275 = .code yX11_count cX11_count 3 (some .int) := rfl
theorem fw_4276 : fe 4276 = .methodLink RL 80 yX11_bit := rfl
theorem fw_4277 : fe 4277 = .instanceMethod yX11_bit := rfl
theorem fw_4278 : fe 4278 = .selects RX11 yX11_bit yX11_bit := rfl
theorem fw_4279 : fe 4279 = .code yX11_bit cX11_bit 2 (some .int) := rfl
theorem fw_4280 : fe 4280 = .methodLink RX11 185 yX2_at := rfl
theorem fw_4281 : fe 4281 = .methodLink RL 84 yX11_checks := rfl
theorem fw_4282 : fe 4282 = .instanceMethod yX11_checks := rfl
theorem fw_4283 : fe 4283 = .selects RX11 yX11_checks yX11_checks := rfl
theorem fw_4284 : fe 4284 = .code yX11_checks cX11_checks 3 (some .int) := rfl
theorem fw_4285 : fe 4285 = .methodLink RX11 188 yX5_checksOf := rfl
theorem fw_4286 : fe 4286 = .methodLink RL 88 yX11_receiver := rfl
theorem fw_4287 : fe 4287 = .instanceMethod yX11_receiver := rfl
theorem fw_4288 : fe 4288 = .selects RX11 yX11_receiver yX11_receiver := rfl
theorem fw_4289 : fe 4289 = .code yX11_receiver cX11_receiver 2 (some .int) := rfl
theorem fw_4290 : fe 4290 = .methodLink RX11 196 yX4_tell := rfl
theorem fw_4291 : fe 4291 = .instanceMethod yX4_tell := rfl
theorem fw_4292 : fe 4292 = .selects RX4 yX4_tell yX4_tell := rfl
theorem fw_4293 : fe 4293 = .code yX4_tell cX4_tell 3 (some .int) := rfl
theorem fw_4294 : fe 4294 = .methodLink RL 92 yX11_candidate := rfl
theorem fw_4295 : fe 4295 = .instanceMethod yX11_candidate := rfl
theorem fw_4296 : fe 4296 = .selects RX11 yX11_candidate yX11_candidate := rfl
theorem fw_4297 : fe 4297 = .code yX11_candidate cX11_candidate 3 (some .int) := rfl
theorem fw_4298 : fe 4298 = .methodLink RX11 209 yX1_nth := rfl
theorem fw_4299 : fe 4299 = .methodLink RL 96 yX11_frame := rfl
theorem fw_4300 : fe 4300 = .instanceMethod yX11_frame := rfl
theorem fw_4301 : fe 4301 = .selects RX11 yX11_frame yX11_frame := rfl
theorem fw_4302 : fe 4302 = .code yX11_frame cX11_frame 3 (some .int) := rfl
theorem fw_4303 : fe 4303 = .methodLink RX11 232 yX11_channelOnes := rfl
theorem fw_4305 : fe 4305 = .instanceMethod yX11_channelOnes := rfl
theorem fw_4306 : fe 4306 = .code yX11_channelOnes cX11_channelOnes 5 (some .int) := rfl
theorem fw_4307 : fe 4307 = .methodLink RX11 235 yX11_channelNumber := rfl
theorem fw_4309 : fe 4309 = .instanceMethod yX11_channelNumber := rfl
theorem fw_4310 : fe 4310 = .code yX11_channelNumber cX11_channelNumber 7 (some .int) := rfl
theorem fw_4311 : fe 4311 = .methodLink RL 100 yX11_signal := rfl
theorem fw_4312 : fe 4312 = .instanceMethod yX11_signal := rfl
theorem fw_4313 : fe 4313 = .selects RX11 yX11_signal yX11_signal := rfl
theorem fw_4314 : fe 4314 = .code yX11_signal cX11_signal 8 (some .int) := rfl
theorem fw_4315 : fe 4315 = .methodLink RL 104 yX11_value := rfl
theorem fw_4316 : fe 4316 = .instanceMethod yX11_value := rfl
theorem fw_4317 : fe 4317 = .selects RX11 yX11_value yX11_value := rfl
theorem fw_4318 : fe 4318 = .code yX11_value cX11_value 2 (some .int) := rfl
theorem fw_4319 : fe 4319 = .methodLink RX11 255 yX0_nth := rfl
theorem fw_4320 : fe 4320 = .instanceMethod yX0_nth := rfl
theorem fw_4321 : fe 4321 = .selects RX0 yX0_nth yX0_nth := rfl
theorem fw_4322 : fe 4322 = .code yX0_nth cX0_nth 2 (some .int) := rfl
theorem fw_4323 : fe 4323 = .methodLink RL 108 yX11_ahead := rfl
theorem fw_4324 : fe 4324 = .instanceMethod yX11_ahead := rfl
theorem fw_4325 : fe 4325 = .selects RX11 yX11_ahead yX11_ahead := rfl
theorem fw_4326 : fe 4326 = .code yX11_ahead cX11_ahead 4 (some .int) := rfl
theorem fw_4327 : fe 4327 = .methodLink RL 113 yX11_struck := rfl
theorem fw_4328 : fe 4328 = .instanceMethod yX11_struck := rfl
theorem fw_4329 : fe 4329 = .selects RX11 yX11_struck yX11_struck := rfl
theorem fw_4330 : fe 4330 = .code yX11_struck cX11_struck 8 (some .int) := rfl
theorem fw_4331 : fe 4331 = .methodLink RX11 259 yX5_framesStarted := rfl
theorem fw_4332 : fe 4332 = .methodLink RX11 262 yX5_isOther := rfl
theorem fw_4333 : fe 4333 = .methodLink RX11 266 yX5_placeBehind := rfl
theorem fw_4334 : fe 4334 = .methodLink RL 117 yX11_locks := rfl
theorem fw_4335 : fe 4335 = .instanceMethod yX11_locks := rfl
theorem fw_5120 : fe 5120 = .selects RX11 yX11_locks yX11_locks := rfl
theorem fw_5121 : fe 5121 = .code yX11_locks cX11_locks 5 (some .int) := rfl
theorem fw_5122 : fe 5122 = .methodLink RX11 269 yX4_begin := rfl
theorem fw_5123 : fe 5123 = .methodLink RX11 272 yX4_take := rfl
theorem fw_5124 : fe 5124 = .methodLink RL 121 yX11_from := rfl
theorem fw_5125 : fe 5125 = .instanceMethod yX11_from := rfl
theorem fw_5126 : fe 5126 = .selects RX11 yX11_from yX11_from := rfl
theorem fw_5127 : fe 5127 = .code yX11_from cX11_from 6 (some .int) := rfl
theorem fw_5128 : fe 5128 = .methodLink RL 125 yX11_fits := rfl
theorem fw_5129 : fe 5129 = .instanceMethod yX11_fits := rfl
theorem fw_5130 : fe 5130 = .selects RX11 yX11_fits yX11_fits := rfl
theorem fw_5131 : fe 5131 = .code yX11_fits cX11_fits 6 (some .int) := rfl
theorem fw_5132 : fe 5132 = .methodLink RX11 279 yX1_begin := rfl
theorem fw_5133 : fe 5133 = .methodLink RX11 283 yX1_follow := rfl
theorem fw_5134 : fe 5134 = .methodLink RL 129 yX11_least := rfl
theorem fw_5135 : fe 5135 = .instanceMethod yX11_least := rfl
theorem fw_5136 : fe 5136 = .selects RX11 yX11_least yX11_least := rfl
theorem fw_5137 : fe 5137 = .code yX11_least cX11_least 5 (some .int) := rfl
theorem fw_5138 : fe 5138 = .methodLink RL 133 yX11_weak := rfl
theorem fw_5139 : fe 5139 = .instanceMethod yX11_weak := rfl
theorem fw_5140 : fe 5140 = .selects RX11 yX11_weak yX11_weak := rfl
theorem fw_5141 : fe 5141 = .code yX11_weak cX11_weak 7 (some .int) := rfl
theorem fw_5142 : fe 5142 = .methodLink RX11 287 Lib.Math.min.name := rfl
theorem fw_5143 : fe 5143 = .methodLink RX11 292 yX11_firstLoss := rfl
theorem fw_5145 : fe 5145 = .instanceMethod yX11_firstLoss := rfl
theorem fw_5146 : fe 5146 = .code yX11_firstLoss cX11_firstLoss 6 (some .int) := rfl
theorem fw_5147 : fe 5147 = .methodLink RX11 298 yX4_copyFrom := rfl
theorem fw_5148 : fe 5148 = .methodLink RL 137 yX11_image := rfl
theorem fw_5149 : fe 5149 = .instanceMethod yX11_image := rfl
theorem fw_5150 : fe 5150 = .selects RX11 yX11_image yX11_image := rfl
theorem fw_5151 : fe 5151 = .code yX11_image cX11_image 2 (some .boolean) := rfl
theorem fw_5152 : fe 5152 = .methodLink RX11 295 yX10_copyFrom := rfl
theorem fw_5153 : fe 5153 = .instanceMethod yX10_copyFrom := rfl
theorem fw_5154 : fe 5154 = .selects RX10 yX10_copyFrom yX10_copyFrom := rfl
theorem fw_5155 : fe 5155 = .code yX10_copyFrom cX10_copyFrom 2 none := rfl
theorem fw_5156 : fe 5156 = .methodLink RX10 34 yX5_copyFrom := rfl
theorem fw_5157 : fe 5157 = .methodLink RX10 38 yX8_copyFrom := rfl
theorem fw_5158 : fe 5158 = .methodLink RX10 41 yX9_copyFrom := rfl
theorem fw_5159 : fe 5159 = .methodLink RL 141 yX11_again := rfl
theorem fw_5160 : fe 5160 = .instanceMethod yX11_again := rfl
theorem fw_5161 : fe 5161 = .selects RX11 yX11_again yX11_again := rfl
theorem fw_5162 : fe 5162 = .code yX11_again cX11_again 2 (some .boolean) := rfl
theorem fw_5171 : fe 5171 = .methodLink RX11 174 yX5_roleAt := rfl
theorem fw_5241 : fe 5241 = .code yX12_init cX12_init 1 none := rfl
theorem fw_5242 : fe 5242 = .methodLink RX12 1 objectInit := rfl
theorem fw_5243 : fe 5243 = .methodLink RX12 33 yX12_atFirst := rfl
theorem fw_5245 : fe 5245 = .instanceMethod yX12_atFirst := rfl
theorem fw_5246 : fe 5246 = .code yX12_atFirst cX12_atFirst 2 none := rfl
theorem fw_5247 : fe 5247 = .methodLink RX12 36 yX12_taken := rfl
theorem fw_5249 : fe 5249 = .instanceMethod yX12_taken := rfl
theorem fw_5250 : fe 5250 = .code yX12_taken cX12_taken 2 none := rfl
theorem fw_5251 : fe 5251 = .methodLink RX12 134 yX12_begins := rfl
theorem fw_5253 : fe 5253 = .instanceMethod yX12_begins := rfl
theorem fw_5254 : fe 5254 = .code yX12_begins cX12_begins 2 none := rfl
theorem fw_5255 : fe 5255 = .methodLink RX12 165 yX12_hunts := rfl
theorem fw_5257 : fe 5257 = .instanceMethod yX12_hunts := rfl
theorem fw_5258 : fe 5258 = .code yX12_hunts cX12_hunts 2 none := rfl
theorem fw_5259 : fe 5259 = .methodLink RX12 142 yX12_round := rfl
theorem fw_5261 : fe 5261 = .instanceMethod yX12_round := rfl
theorem fw_5262 : fe 5262 = .code yX12_round cX12_round 1 (some .int) := rfl
theorem fw_5263 : fe 5263 = .fieldLink RX12 39 "TrunkFramerModel" "raised" "I" := rfl
theorem fw_5264 : fe 5264 = .fieldLink RX12 7 "TrunkFramerModel" "all" "[I" := rfl
theorem fw_5265 : fe 5265 = .fieldLink RX12 13 "TrunkFramerModel" "line" "[B" := rfl
theorem fw_5266 : fe 5266 = .fieldLink RX12 17 "TrunkFramerModel" "text" "[B" := rfl
theorem fw_5267 : fe 5267 = .fieldLink RX12 20 "TrunkFramerModel" "saved" "[Z" := rfl
theorem fw_5268 : fe 5268 = .fieldLink RX12 24 "TrunkFramerModel" "undone" "[I" := rfl
theorem fw_5269 : fe 5269 = .fieldLink RX12 27 "TrunkFramerModel" "undoneLine" "[B" := rfl
theorem fw_5270 : fe 5270 = .fieldLink RX12 137 "TrunkFramerModel" "undos" "I" := rfl
theorem fw_5271 : fe 5271 = .fieldLink RX12 52 "TrunkFramerModel" "reached" "I" := rfl
theorem fw_5272 : fe 5272 = .fieldLink RX12 55 "TrunkFramerModel" "length" "I" := rfl
theorem fw_5273 : fe 5273 = .fieldLink RX12 62 "TrunkFramerModel" "begin" "I" := rfl
theorem fw_5274 : fe 5274 = .fieldLink RX12 69 "TrunkFramerModel" "sort" "I" := rfl
theorem fw_5275 : fe 5275 = .fieldLink RX12 76 "TrunkFramerModel" "value" "I" := rfl
theorem fw_5276 : fe 5276 = .fieldLink RX12 79 "TrunkFramerModel" "signs" "I" := rfl
theorem fw_5277 : fe 5277 = .fieldLink RX12 65 "TrunkFramerModel" "word" "J" := rfl
theorem fw_5278 : fe 5278 = .fieldLink RX12 82 "TrunkFramerModel" "wrongAt" "I" := rfl
theorem fw_5279 : fe 5279 = .fieldLink RX12 85 "TrunkFramerModel" "badAt" "I" := rfl
theorem fw_5280 : fe 5280 = .fieldLink RX12 30 "TrunkFramerModel" "told" "[I" := rfl
theorem fw_5281 : fe 5281 = .fieldLink RX12 152 "TrunkFramerModel" "x" "I" := rfl
theorem fw_5321 : fe 5321 = .methodLink RL 77 yX12_thrown := rfl
theorem fw_5322 : fe 5322 = .instanceMethod yX12_thrown := rfl
theorem fw_5323 : fe 5323 = .selects RX12 yX12_thrown yX12_thrown := rfl
theorem fw_5324 : fe 5324 = .code yX12_thrown cX12_thrown 1 (some .int) := rfl
theorem fw_5325 : fe 5325 = .methodLink RL 25 yX12_key := rfl
theorem fw_5326 : fe 5326 = .instanceMethod yX12_key := rfl
theorem fw_5327 : fe 5327 = .selects RX12 yX12_key yX12_key := rfl
theorem fw_5328 : fe 5328 = .code yX12_key cX12_key 5 (some .int) := rfl
theorem fw_5329 : fe 5329 = .constantLong RX12 50 (255) := rfl
theorem fw_5330 : fe 5330 = .methodLink RL 30 yX12_scheme := rfl
theorem fw_5331 : fe 5331 = .instanceMethod yX12_scheme := rfl
theorem fw_5332 : fe 5332 = .selects RX12 yX12_scheme yX12_scheme := rfl
theorem fw_5333 : fe 5333 = .code yX12_scheme cX12_scheme 2 (some .int) := rfl
theorem fw_5334 : fe 5334 = .methodLink RX12 96 yX12_token := rfl
theorem fw_5336 : fe 5336 = .instanceMethod yX12_token := rfl
theorem fw_5337 : fe 5337 = .code yX12_token cX12_token 3 none := rfl
theorem fw_5338 : fe 5338 = .methodLink RX12 58 yX12_see := rfl
theorem fw_5340 : fe 5340 = .instanceMethod yX12_see := rfl
theorem fw_5341 : fe 5341 = .code yX12_see cX12_see 1 (some .int) := rfl
theorem fw_5342 : fe 5342 = .methodLink RX12 72 yX12_in := rfl
theorem fw_5343 : fe 5343 = .static yX12_in := rfl
theorem fw_5344 : fe 5344 = .code yX12_in cX12_in 3 (some .boolean) := rfl
theorem fw_5345 : fe 5345 = .methodLink RX12 140 yX12_line := rfl
theorem fw_5347 : fe 5347 = .instanceMethod yX12_line := rfl
theorem fw_5348 : fe 5348 = .code yX12_line cX12_line 3 (some .boolean) := rfl
theorem fw_5349 : fe 5349 = .constantLong RX12 110 (491495646579) := rfl
theorem fw_5350 : fe 5350 = .methodLink RX12 112 yX12_rolesLine := rfl
theorem fw_5352 : fe 5352 = .instanceMethod yX12_rolesLine := rfl
theorem fw_5353 : fe 5353 = .code yX12_rolesLine cX12_rolesLine 6 (some .boolean) := rfl
theorem fw_5354 : fe 5354 = .methodLink RX12 99 yX12_isRoleToken := rfl
theorem fw_5356 : fe 5356 = .instanceMethod yX12_isRoleToken := rfl
theorem fw_5357 : fe 5357 = .code yX12_isRoleToken cX12_isRoleToken 5 (some .boolean) := rfl
theorem fw_5358 : fe 5358 = .methodLink RX12 88 yX12_fails := rfl
theorem fw_6144 : fe 6144 = .instanceMethod yX12_fails := rfl
theorem fw_6145 : fe 6145 = .code yX12_fails cX12_fails 1 (some .boolean) := rfl
theorem fw_6146 : fe 6146 = .methodLink RX12 92 yX12_isBad := rfl
theorem fw_6148 : fe 6148 = .instanceMethod yX12_isBad := rfl
theorem fw_6149 : fe 6149 = .code yX12_isBad cX12_isBad 2 none := rfl
theorem fw_6150 : fe 6150 = .methodLink RX12 103 yX12_lesser := rfl
theorem fw_6151 : fe 6151 = .static yX12_lesser := rfl
theorem fw_6152 : fe 6152 = .code yX12_lesser cX12_lesser 2 (some .int) := rfl
theorem fw_6153 : fe 6153 = .constantLong RX12 115 (431416239732) := rfl
theorem fw_6154 : fe 6154 = .constantLong RX12 117 (7102823) := rfl
theorem fw_6155 : fe 6155 = .methodLink RX12 119 yX12_driftLine := rfl
theorem fw_6157 : fe 6157 = .instanceMethod yX12_driftLine := rfl
theorem fw_6158 : fe 6158 = .code yX12_driftLine cX12_driftLine 2 (some .boolean) := rfl
theorem fw_6159 : fe 6159 = .methodLink RX12 107 yX12_takes := rfl
theorem fw_6161 : fe 6161 = .instanceMethod yX12_takes := rfl
theorem fw_6162 : fe 6162 = .code yX12_takes cX12_takes 4 (some .boolean) := rfl
theorem fw_6163 : fe 6163 = .constantLong RX12 122 (513021013607) := rfl
theorem fw_6164 : fe 6164 = .constantLong RX12 124 (119182899770472) := rfl
theorem fw_6165 : fe 6165 = .constantLong RX12 126 (1886350457) := rfl
theorem fw_6166 : fe 6166 = .constantLong RX12 128 (512869299304) := rfl
theorem fw_6167 : fe 6167 = .constantLong RX12 130 (126943922775406) := rfl
theorem fw_6168 : fe 6168 = .constantLong RX12 132 (465557353332) := rfl
theorem fw_6169 : fe 6169 = .methodLink RL 35 yX12_fault := rfl
theorem fw_6170 : fe 6170 = .instanceMethod yX12_fault := rfl
theorem fw_6171 : fe 6171 = .selects RX12 yX12_fault yX12_fault := rfl
theorem fw_6172 : fe 6172 = .code yX12_fault cX12_fault 2 (some .int) := rfl
theorem fw_6173 : fe 6173 = .methodLink RL 87 yX12_checks := rfl
theorem fw_6174 : fe 6174 = .instanceMethod yX12_checks := rfl
theorem fw_6175 : fe 6175 = .selects RX12 yX12_checks yX12_checks := rfl
theorem fw_6176 : fe 6176 = .code yX12_checks cX12_checks 4 (some .int) := rfl
theorem fw_6177 : fe 6177 = .methodLink RX12 47 yX12_roleOf := rfl
theorem fw_6179 : fe 6179 = .instanceMethod yX12_roleOf := rfl
theorem fw_6180 : fe 6180 = .code yX12_roleOf cX12_roleOf 2 (some .int) := rfl
theorem fw_6181 : fe 6181 = .methodLink RX12 43 yX12_roleAt := rfl
theorem fw_6183 : fe 6183 = .instanceMethod yX12_roleAt := rfl
theorem fw_6184 : fe 6184 = .code yX12_roleAt cX12_roleAt 2 (some .int) := rfl
theorem fw_6185 : fe 6185 = .methodLink RX12 145 yX12_checkMany := rfl
theorem fw_6187 : fe 6187 = .instanceMethod yX12_checkMany := rfl
theorem fw_6188 : fe 6188 = .code yX12_checkMany cX12_checkMany 3 (some .int) := rfl
theorem fw_6189 : fe 6189 = .methodLink RX12 148 yX12_goesOn := rfl
theorem fw_6191 : fe 6191 = .instanceMethod yX12_goesOn := rfl
theorem fw_6192 : fe 6192 = .code yX12_goesOn cX12_goesOn 7 (some .int) := rfl
theorem fw_6193 : fe 6193 = .methodLink RL 39 yX12_say := rfl
theorem fw_6194 : fe 6194 = .instanceMethod yX12_say := rfl
theorem fw_6195 : fe 6195 = .selects RX12 yX12_say yX12_say := rfl
theorem fw_6196 : fe 6196 = .code yX12_say cX12_say 2 (some .int) := rfl
theorem fw_6197 : fe 6197 = .methodLink RX12 226 yX12_keeps := rfl
theorem fw_6199 : fe 6199 = .instanceMethod yX12_keeps := rfl
theorem fw_6200 : fe 6200 = .code yX12_keeps cX12_keeps 2 none := rfl
theorem fw_6201 : fe 6201 = .methodLink RL 44 yX12_send := rfl
theorem fw_6202 : fe 6202 = .instanceMethod yX12_send := rfl
theorem fw_6203 : fe 6203 = .selects RX12 yX12_send yX12_send := rfl
theorem fw_6204 : fe 6204 = .code yX12_send cX12_send 3 (some .int) := rfl
theorem fw_6205 : fe 6205 = .methodLink RX12 229 yX12_sends := rfl
theorem fw_6207 : fe 6207 = .instanceMethod yX12_sends := rfl
theorem fw_6208 : fe 6208 = .code yX12_sends cX12_sends 4 none := rfl
theorem fw_6209 : fe 6209 = .methodLink RX12 162 yX12_sendsOne := rfl
theorem fw_6211 : fe 6211 = .instanceMethod yX12_sendsOne := rfl
theorem fw_6212 : fe 6212 = .code yX12_sendsOne cX12_sendsOne 7 none := rfl
theorem fw_6213 : fe 6213 = .methodLink RX12 156 yX12_drawn := rfl
theorem fw_6215 : fe 6215 = .instanceMethod yX12_drawn := rfl
theorem fw_6216 : fe 6216 = .code yX12_drawn cX12_drawn 1 (some .int) := rfl
theorem fw_6217 : fe 6217 = .constant RX12 155 (1103515245) := rfl
theorem fw_6218 : fe 6218 = .methodLink RX12 159 yX12_linked := rfl
theorem fw_6220 : fe 6220 = .instanceMethod yX12_linked := rfl
theorem fw_6221 : fe 6221 = .code yX12_linked cX12_linked 4 (some .int) := rfl
theorem fw_6222 : fe 6222 = .methodLink RL 49 yX12_turn := rfl
theorem fw_6223 : fe 6223 = .instanceMethod yX12_turn := rfl
theorem fw_6224 : fe 6224 = .selects RX12 yX12_turn yX12_turn := rfl
theorem fw_6225 : fe 6225 = .code yX12_turn cX12_turn 2 (some .boolean) := rfl
theorem fw_6226 : fe 6226 = .methodLink RL 53 yX12_lose := rfl
theorem fw_6227 : fe 6227 = .instanceMethod yX12_lose := rfl
theorem fw_6228 : fe 6228 = .selects RX12 yX12_lose yX12_lose := rfl
theorem fw_6229 : fe 6229 = .code yX12_lose cX12_lose 4 (some .int) := rfl
theorem fw_6230 : fe 6230 = .methodLink RL 58 yX12_put := rfl
theorem fw_6231 : fe 6231 = .instanceMethod yX12_put := rfl
theorem fw_6232 : fe 6232 = .selects RX12 yX12_put yX12_put := rfl
theorem fw_6233 : fe 6233 = .code yX12_put cX12_put 4 (some .int) := rfl
theorem fw_6234 : fe 6234 = .methodLink RL 62 yX12_hear := rfl
theorem fw_6235 : fe 6235 = .instanceMethod yX12_hear := rfl
theorem fw_6236 : fe 6236 = .selects RX12 yX12_hear yX12_hear := rfl
theorem fw_6237 : fe 6237 = .code yX12_hear cX12_hear 3 (some .int) := rfl
theorem fw_6238 : fe 6238 = .methodLink RX12 232 yX12_hears := rfl
theorem fw_6240 : fe 6240 = .instanceMethod yX12_hears := rfl
theorem fw_6241 : fe 6241 = .code yX12_hears cX12_hears 3 none := rfl
theorem fw_6242 : fe 6242 = .methodLink RX12 214 yX12_hunted := rfl
theorem fw_6244 : fe 6244 = .instanceMethod yX12_hunted := rfl
theorem fw_6245 : fe 6245 = .code yX12_hunted cX12_hunted 4 none := rfl
theorem fw_6246 : fe 6246 = .methodLink RX12 177 yX12_strikes := rfl
theorem fw_6248 : fe 6248 = .instanceMethod yX12_strikes := rfl
theorem fw_6249 : fe 6249 = .code yX12_strikes cX12_strikes 4 none := rfl
theorem fw_6250 : fe 6250 = .methodLink RX12 171 yX12_isLeft := rfl
theorem fw_6252 : fe 6252 = .instanceMethod yX12_isLeft := rfl
theorem fw_6253 : fe 6253 = .code yX12_isLeft cX12_isLeft 2 (some .boolean) := rfl
theorem fw_6254 : fe 6254 = .methodLink RX12 174 yX12_isFixed := rfl
theorem fw_6256 : fe 6256 = .instanceMethod yX12_isFixed := rfl
theorem fw_6257 : fe 6257 = .code yX12_isFixed cX12_isFixed 3 (some .boolean) := rfl
theorem fw_6258 : fe 6258 = .methodLink RX12 180 yX12_leftMany := rfl
theorem fw_6260 : fe 6260 = .instanceMethod yX12_leftMany := rfl
theorem fw_6261 : fe 6261 = .code yX12_leftMany cX12_leftMany 3 (some .int) := rfl
theorem fw_6262 : fe 6262 = .methodLink RX12 168 yX12_ones := rfl
theorem fw_6263 : fe 6263 = .static yX12_ones := rfl
theorem fw_6264 : fe 6264 = .code yX12_ones cX12_ones 3 (some .int) := rfl
theorem fw_6265 : fe 6265 = .methodLink RX12 183 yX12_leftAt := rfl
theorem fw_6267 : fe 6267 = .instanceMethod yX12_leftAt := rfl
theorem fw_6268 : fe 6268 = .code yX12_leftAt cX12_leftAt 4 (some .int) := rfl
theorem fw_6269 : fe 6269 = .methodLink RX12 186 yX12_fixedFrom := rfl
theorem fw_6271 : fe 6271 = .instanceMethod yX12_fixedFrom := rfl
theorem fw_6272 : fe 6272 = .code yX12_fixedFrom cX12_fixedFrom 5 (some .int) := rfl
theorem fw_6273 : fe 6273 = .methodLink RX12 189 yX12_follows := rfl
theorem fw_6275 : fe 6275 = .instanceMethod yX12_follows := rfl
theorem fw_6276 : fe 6276 = .code yX12_follows cX12_follows 2 none := rfl
theorem fw_6277 : fe 6277 = .methodLink RX12 217 yX12_verified := rfl
theorem fw_6279 : fe 6279 = .instanceMethod yX12_verified := rfl
theorem fw_6280 : fe 6280 = .code yX12_verified cX12_verified 4 none := rfl
theorem fw_6281 : fe 6281 = .methodLink RX12 192 yX12_checked := rfl
theorem fw_6283 : fe 6283 = .instanceMethod yX12_checked := rfl
theorem fw_6284 : fe 6284 = .code yX12_checked cX12_checked 6 (some .int) := rfl
theorem fw_6285 : fe 6285 = .methodLink RX12 220 yX12_locked := rfl
theorem fw_6287 : fe 6287 = .instanceMethod yX12_locked := rfl
theorem fw_6288 : fe 6288 = .code yX12_locked cX12_locked 4 none := rfl
theorem fw_6289 : fe 6289 = .methodLink RX12 198 yX12_linkHears := rfl
theorem fw_6291 : fe 6291 = .instanceMethod yX12_linkHears := rfl
theorem fw_6292 : fe 6292 = .code yX12_linkHears cX12_linkHears 3 none := rfl
theorem fw_6293 : fe 6293 = .methodLink RX12 201 yX12_framed := rfl
theorem fw_6295 : fe 6295 = .instanceMethod yX12_framed := rfl
theorem fw_6296 : fe 6296 = .code yX12_framed cX12_framed 4 none := rfl
theorem fw_6297 : fe 6297 = .methodLink RX12 195 yX12_stores := rfl
theorem fw_6299 : fe 6299 = .instanceMethod yX12_stores := rfl
theorem fw_6300 : fe 6300 = .code yX12_stores cX12_stores 3 none := rfl
theorem fw_6301 : fe 6301 = .methodLink RX12 223 yX12_ticks := rfl
theorem fw_6303 : fe 6303 = .instanceMethod yX12_ticks := rfl
theorem fw_6304 : fe 6304 = .code yX12_ticks cX12_ticks 2 none := rfl
theorem fw_6305 : fe 6305 = .methodLink RX12 205 yX12_signals := rfl
theorem fw_6307 : fe 6307 = .instanceMethod yX12_signals := rfl
theorem fw_6308 : fe 6308 = .code yX12_signals cX12_signals 3 none := rfl
theorem fw_6309 : fe 6309 = .methodLink RX12 208 yX12_channels := rfl
theorem fw_6311 : fe 6311 = .instanceMethod yX12_channels := rfl
theorem fw_6312 : fe 6312 = .code yX12_channels cX12_channels 1 (some .int) := rfl
theorem fw_6313 : fe 6313 = .methodLink RX12 211 yX12_bitOf := rfl
theorem fw_6315 : fe 6315 = .instanceMethod yX12_bitOf := rfl
theorem fw_6316 : fe 6316 = .code yX12_bitOf cX12_bitOf 3 (some .int) := rfl
theorem fw_6317 : fe 6317 = .methodLink RL 66 yX12_undo := rfl
theorem fw_6318 : fe 6318 = .instanceMethod yX12_undo := rfl
theorem fw_6319 : fe 6319 = .selects RX12 yX12_undo yX12_undo := rfl
theorem fw_6320 : fe 6320 = .code yX12_undo cX12_undo 2 (some .int) := rfl
theorem fw_6321 : fe 6321 = .methodLink RL 70 yX12_count := rfl
theorem fw_6322 : fe 6322 = .instanceMethod yX12_count := rfl
theorem fw_6323 : fe 6323 = .selects RX12 yX12_count yX12_count := rfl
theorem fw_6324 : fe 6324 = .code yX12_count cX12_count 2 (some .int) := rfl
theorem fw_6325 : fe 6325 = .methodLink RL 76 yX12_role := rfl
theorem fw_6326 : fe 6326 = .instanceMethod yX12_role := rfl
theorem fw_6327 : fe 6327 = .selects RX12 yX12_role yX12_role := rfl
theorem fw_6328 : fe 6328 = .code yX12_role cX12_role 2 (some .int) := rfl
theorem fw_6329 : fe 6329 = .methodLink RL 83 yX12_bit := rfl
theorem fw_6330 : fe 6330 = .instanceMethod yX12_bit := rfl
theorem fw_6331 : fe 6331 = .selects RX12 yX12_bit yX12_bit := rfl
theorem fw_6332 : fe 6332 = .code yX12_bit cX12_bit 2 (some .int) := rfl
theorem fw_6333 : fe 6333 = .methodLink RL 91 yX12_receiver := rfl
theorem fw_6334 : fe 6334 = .instanceMethod yX12_receiver := rfl
theorem fw_6335 : fe 6335 = .selects RX12 yX12_receiver yX12_receiver := rfl
theorem fw_6336 : fe 6336 = .code yX12_receiver cX12_receiver 2 (some .int) := rfl
theorem fw_6337 : fe 6337 = .methodLink RX12 235 yX12_told := rfl
theorem fw_6339 : fe 6339 = .instanceMethod yX12_told := rfl
theorem fw_6340 : fe 6340 = .code yX12_told cX12_told 3 (some .int) := rfl
theorem fw_6341 : fe 6341 = .methodLink RL 95 yX12_candidate := rfl
theorem fw_6342 : fe 6342 = .instanceMethod yX12_candidate := rfl
theorem fw_6343 : fe 6343 = .selects RX12 yX12_candidate yX12_candidate := rfl
theorem fw_6344 : fe 6344 = .code yX12_candidate cX12_candidate 2 (some .int) := rfl
theorem fw_6345 : fe 6345 = .methodLink RL 99 yX12_frame := rfl
theorem fw_6346 : fe 6346 = .instanceMethod yX12_frame := rfl
theorem fw_6347 : fe 6347 = .selects RX12 yX12_frame yX12_frame := rfl
theorem fw_6348 : fe 6348 = .code yX12_frame cX12_frame 4 (some .int) := rfl
theorem fw_6349 : fe 6349 = .methodLink RX12 237 yX12_channelBits := rfl
theorem fw_6351 : fe 6351 = .instanceMethod yX12_channelBits := rfl
theorem fw_6352 : fe 6352 = .code yX12_channelBits cX12_channelBits 4 (some .int) := rfl
theorem fw_6353 : fe 6353 = .methodLink RL 103 yX12_signal := rfl
theorem fw_6354 : fe 6354 = .instanceMethod yX12_signal := rfl
theorem fw_6355 : fe 6355 = .selects RX12 yX12_signal yX12_signal := rfl
theorem fw_6356 : fe 6356 = .code yX12_signal cX12_signal 3 (some .int) := rfl
theorem fw_6357 : fe 6357 = .methodLink RL 107 yX12_value := rfl
theorem fw_6358 : fe 6358 = .instanceMethod yX12_value := rfl
theorem fw_6359 : fe 6359 = .selects RX12 yX12_value yX12_value := rfl
theorem fw_6360 : fe 6360 = .code yX12_value cX12_value 2 (some .int) := rfl
theorem fw_6361 : fe 6361 = .methodLink RL 112 yX12_ahead := rfl
theorem fw_6362 : fe 6362 = .instanceMethod yX12_ahead := rfl
theorem fw_6363 : fe 6363 = .selects RX12 yX12_ahead yX12_ahead := rfl
theorem fw_6364 : fe 6364 = .code yX12_ahead cX12_ahead 4 (some .int) := rfl
theorem fw_6365 : fe 6365 = .methodLink RX12 240 yX12_copies := rfl
theorem fw_6367 : fe 6367 = .instanceMethod yX12_copies := rfl
theorem fw_6368 : fe 6368 = .code yX12_copies cX12_copies 4 none := rfl
theorem fw_6369 : fe 6369 = .methodLink RX12 243 yX12_back := rfl
theorem fw_6371 : fe 6371 = .instanceMethod yX12_back := rfl
theorem fw_6372 : fe 6372 = .code yX12_back cX12_back 2 (some .int) := rfl
theorem fw_6373 : fe 6373 = .methodLink RL 116 yX12_struck := rfl
theorem fw_6374 : fe 6374 = .instanceMethod yX12_struck := rfl
theorem fw_6375 : fe 6375 = .selects RX12 yX12_struck yX12_struck := rfl
theorem fw_6376 : fe 6376 = .code yX12_struck cX12_struck 5 (some .int) := rfl
theorem fw_6377 : fe 6377 = .methodLink RL 120 yX12_locks := rfl
theorem fw_6378 : fe 6378 = .instanceMethod yX12_locks := rfl
theorem fw_6379 : fe 6379 = .selects RX12 yX12_locks yX12_locks := rfl
theorem fw_6380 : fe 6380 = .code yX12_locks cX12_locks 3 (some .int) := rfl
theorem fw_6381 : fe 6381 = .methodLink RX12 246 yX12_hearsFrom := rfl
theorem fw_6383 : fe 6383 = .instanceMethod yX12_hearsFrom := rfl
theorem fw_7168 : fe 7168 = .code yX12_hearsFrom cX12_hearsFrom 4 (some .int) := rfl
theorem fw_7169 : fe 7169 = .methodLink RL 124 yX12_from := rfl
theorem fw_7170 : fe 7170 = .instanceMethod yX12_from := rfl
theorem fw_7171 : fe 7171 = .selects RX12 yX12_from yX12_from := rfl
theorem fw_7172 : fe 7172 = .code yX12_from cX12_from 4 (some .int) := rfl
theorem fw_7173 : fe 7173 = .methodLink RL 128 yX12_fits := rfl
theorem fw_7174 : fe 7174 = .instanceMethod yX12_fits := rfl
theorem fw_7175 : fe 7175 = .selects RX12 yX12_fits yX12_fits := rfl
theorem fw_7176 : fe 7176 = .code yX12_fits cX12_fits 5 (some .int) := rfl
theorem fw_7177 : fe 7177 = .methodLink RX12 250 yX12_canBe := rfl
theorem fw_7179 : fe 7179 = .instanceMethod yX12_canBe := rfl
theorem fw_7180 : fe 7180 = .code yX12_canBe cX12_canBe 5 (some .boolean) := rfl
theorem fw_7181 : fe 7181 = .methodLink RL 132 yX12_least := rfl
theorem fw_7182 : fe 7182 = .instanceMethod yX12_least := rfl
theorem fw_7183 : fe 7183 = .selects RX12 yX12_least yX12_least := rfl
theorem fw_7184 : fe 7184 = .code yX12_least cX12_least 3 (some .int) := rfl
theorem fw_7185 : fe 7185 = .methodLink RL 136 yX12_weak := rfl
theorem fw_7186 : fe 7186 = .instanceMethod yX12_weak := rfl
theorem fw_7187 : fe 7187 = .selects RX12 yX12_weak yX12_weak := rfl
theorem fw_7188 : fe 7188 = .code yX12_weak cX12_weak 7 (some .int) := rfl
theorem fw_7189 : fe 7189 = .methodLink RX12 254 yX12_lostAt := rfl
theorem fw_7191 : fe 7191 = .instanceMethod yX12_lostAt := rfl
theorem fw_7192 : fe 7192 = .code yX12_lostAt cX12_lostAt 4 (some .int) := rfl
theorem fw_7193 : fe 7193 = .methodLink RL 140 yX12_image := rfl
theorem fw_7194 : fe 7194 = .instanceMethod yX12_image := rfl
theorem fw_7195 : fe 7195 = .selects RX12 yX12_image yX12_image := rfl
theorem fw_7196 : fe 7196 = .code yX12_image cX12_image 2 (some .boolean) := rfl
theorem fw_7197 : fe 7197 = .methodLink RX12 257 yX12_copiesAll := rfl
theorem fw_7199 : fe 7199 = .instanceMethod yX12_copiesAll := rfl
theorem fw_7200 : fe 7200 = .code yX12_copiesAll cX12_copiesAll 4 none := rfl
theorem fw_7201 : fe 7201 = .methodLink RL 144 yX12_again := rfl
theorem fw_7202 : fe 7202 = .instanceMethod yX12_again := rfl
theorem fw_7203 : fe 7203 = .selects RX12 yX12_again yX12_again := rfl
theorem fw_7204 : fe 7204 = .code yX12_again cX12_again 2 (some .boolean) := rfl
theorem fw_7224 : fe 7224 = .fieldLink RJ0 9 "java/lang/String" "value" "[B" := rfl
theorem fw_7225 : fe 7225 = .fieldLink RJ0 15 "java/lang/String" "coder" "B" := rfl
