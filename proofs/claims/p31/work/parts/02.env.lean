/-! the table's words by their numbers: 1024 * (the chunk) + (the place) -/
def fe_t : List (List Cond) := [k2_sels lw_privs, tables_1_1, tables_1_2, tables_1_3, tables_1_4, tables_1_5]
def fe_d : Cond := .initialized "TrunkFramerLaw"
theorem fe_din : fe_d ∈ lw_tbl := List.mem_of_getElem? (i := 27) (by decide +kernel)
def fe_g (w : Cond) : Cond := bif goodWord w then w else fe_d
def fe (q : Nat) : Cond := fe_g ((((fe_t[q / 1024]?).getD [])[q % 1024]?).getD fe_d)
theorem fe_good (q : Nat) : ((fe q).onTables && (fe q).keeps) = true ∨ ∃ ty, fe q = .arrayClass ty := by
  unfold fe fe_g
  generalize ((((fe_t[q / 1024]?).getD [])[q % 1024]?).getD fe_d) = w
  cases h : goodWord w with
  | true => exact good_of_word h
  | false => exact Or.inl rfl
theorem fe_tin : ∀ l ∈ fe_t, ∀ w ∈ l, w ∈ lw_tbl := by
  intro l hl w hw
  have e : lw_tbl = fe_t.flatten := by
    unfold lw_tbl fe_t tables_1
    simp only [List.flatten_cons, List.flatten_nil, List.append_nil]
  rw [e]
  exact List.mem_flatten.mpr ⟨l, hl, hw⟩
theorem fe_in (q : Nat) : fe q ∈ lw_tbl := by
  have h2 : ∀ (o : Option Cond), (∀ w, o = some w → w ∈ lw_tbl) → o.getD fe_d ∈ lw_tbl := by
    intro o ho
    cases o with
    | none => exact fe_din
    | some w => exact ho w rfl
  have h3 : ∀ w ∈ lw_tbl, fe_g w ∈ lw_tbl := by
    intro w hw
    unfold fe_g
    cases goodWord w with
    | true => exact hw
    | false => exact fe_din
  refine h3 _ (h2 _ ?_)
  intro w hw
  have hm := List.mem_of_getElem? hw
  cases ht : fe_t[q / 1024]? with
  | none =>
    rw [ht] at hm
    cases (show w ∈ ([] : List Cond) from hm)
  | some l =>
    rw [ht] at hm
    exact fe_tin l (List.mem_of_getElem? ht) w hm
theorem cn : ([] : List Nat).map fe = [] := rfl
theorem ce {a : Cond} {l : List Cond} {q : Nat} {qs : List Nat} (h : fe q = a) (t : qs.map fe = l) : (q :: qs).map fe = a :: l := by rw [List.map_cons, h, t]
theorem ca {l l' : List Cond} {qs qs' : List Nat} (h : qs.map fe = l) (t : qs'.map fe = l') : (qs ++ qs').map fe = l ++ l' := by rw [List.map_append, h, t]
theorem gi_e {A B : List Nat} {wa wb : List Cond} (ha : A.map fe = wa) (hb : B.map fe = wb) (h : B.all (fun q => A.any (Nat.beq q)) = true) : GoodIn wa wb := by
  intro w hw
  rw [← hb] at hw
  obtain ⟨q, hq, rfl⟩ := List.mem_map.mp hw
  refine ⟨?_, fe_good q⟩
  obtain ⟨p, hp, e⟩ := List.any_eq_true.mp (List.all_eq_true.mp h q hq)
  have e2 : q = p := Nat.eq_of_beq_eq_true e
  rw [← ha]
  exact List.mem_map.mpr ⟨q, by rw [e2]; exact hp, rfl⟩
theorem gi_t {B : List Nat} {wb : List Cond} (hb : B.map fe = wb) : GoodIn lw_tbl wb := by
  intro w hw
  rw [← hb] at hw
  obtain ⟨q, hq, rfl⟩ := List.mem_map.mp hw
  exact ⟨fe_in q, fe_good q⟩
theorem fw_0 : fe 0 = .selects RX11 yX11_remember yX11_remember := rfl
theorem fw_1 : fe 1 = .selects RX6 yX6_transmitOne yX6_transmitOne := rfl
theorem fw_2 : fe 2 = .selects RX6 yX6_linkBit yX6_linkBit := rfl
theorem fw_3 : fe 3 = .selects RX6 yX6_dequeue yX6_dequeue := rfl
theorem fw_4 : fe 4 = .selects RX4 yX4_takeHunting yX4_takeHunting := rfl
theorem fw_5 : fe 5 = .selects RX4 yX4_huntAnew yX4_huntAnew := rfl
theorem fw_6 : fe 6 = .selects RX4 yX4_followLone yX4_followLone := rfl
theorem fw_7 : fe 7 = .selects RX4 yX4_lock yX4_lock := rfl
theorem fw_8 : fe 8 = .selects RX4 yX4_takeVerifying yX4_takeVerifying := rfl
theorem fw_9 : fe 9 = .selects RX4 yX4_advance yX4_advance := rfl
theorem fw_10 : fe 10 = .selects RX4 yX4_isJudged yX4_isJudged := rfl
theorem fw_11 : fe 11 = .selects RX4 yX4_takeLocked yX4_takeLocked := rfl
theorem fw_12 : fe 12 = .selects RX4 yX4_takeFirst yX4_takeFirst := rfl
theorem fw_13 : fe 13 = .selects RX0 yX0_keep yX0_keep := rfl
theorem fw_14 : fe 14 = .selects RX7 yX7_dropOlder yX7_dropOlder := rfl
theorem fw_15 : fe 15 = .selects RX7 yX7_readOlder yX7_readOlder := rfl
theorem fw_16 : fe 16 = .selects RX3 yX3_step yX3_step := rfl
theorem fw_17 : fe 17 = .selects RX3 yX3_readStatement yX3_readStatement := rfl
theorem fw_18 : fe 18 = .selects RX3 yX3_isWord yX3_isWord := rfl
theorem fw_19 : fe 19 = .selects RX3 yX3_readRow yX3_readRow := rfl
theorem fw_20 : fe 20 = .selects RX3 yX3_misplace yX3_misplace := rfl
theorem fw_21 : fe 21 = .selects RX3 yX3_impossible yX3_impossible := rfl
theorem fw_22 : fe 22 = .selects RX3 yX3_readNumber yX3_readNumber := rfl
theorem fw_23 : fe 23 = .selects RX3 yX3_readSingle yX3_readSingle := rfl
theorem fw_25 : fe 25 = .selects RX11 yX11_channelOnes yX11_channelOnes := rfl
theorem fw_26 : fe 26 = .selects RX11 yX11_channelNumber yX11_channelNumber := rfl
theorem fw_1024 : fe 1024 = .initialized RL := rfl
theorem fw_1025 : fe 1025 = .initialized RX11 := rfl
theorem fw_1026 : fe 1026 = .initialized RX10 := rfl
theorem fw_1027 : fe 1027 = .initialized RX5 := rfl
theorem fw_1028 : fe 1028 = .initialized RX8 := rfl
theorem fw_1029 : fe 1029 = .initialized RX9 := rfl
theorem fw_1030 : fe 1030 = .initialized RX6 := rfl
theorem fw_1031 : fe 1031 = .initialized RX4 := rfl
theorem fw_1032 : fe 1032 = .initialized RX1 := rfl
theorem fw_1033 : fe 1033 = .initialized RX7 := rfl
theorem fw_1034 : fe 1034 = .initialized RX0 := rfl
theorem fw_1035 : fe 1035 = .initialized RX2 := rfl
theorem fw_1036 : fe 1036 = .initialized "java/lang/Math" := rfl
theorem fw_1037 : fe 1037 = .initialized RX3 := rfl
theorem fw_1038 : fe 1038 = .initialized RX12 := rfl
theorem fw_1039 : fe 1039 = .initialized RJ6 := rfl
theorem fw_1040 : fe 1040 = .initialized "java/lang/System" := rfl
theorem fw_1041 : fe 1041 = .initialized RJ0 := rfl
theorem fw_1042 : fe 1042 = .initialized RJ1 := rfl
theorem fw_1043 : fe 1043 = .initialized RJ3 := rfl
theorem fw_1044 : fe 1044 = .initialized RJ2 := rfl
theorem fw_1048 : fe 1048 = .initialized "java/util/NoSuchElementException" := rfl
theorem fw_1053 : fe 1053 = .code yX11_init cX11_init 2 none := rfl
theorem fw_1054 : fe 1054 = .methodLink RX11 3 objectInit := rfl
theorem fw_1055 : fe 1055 = .instanceMethod objectInit := rfl
theorem fw_1056 : fe 1056 = .code objectInit ⟨#[0xb1]⟩ 1 none := rfl
theorem fw_1057 : fe 1057 = .classLink RX11 9 RX10 := rfl
theorem fw_1058 : fe 1058 = .instantiable RX10 3 := rfl
theorem fw_1060 : fe 1060 = .instanceMethod yX10_init := rfl
theorem fw_1061 : fe 1061 = .code yX10_init cX10_init 1 none := rfl
theorem fw_1062 : fe 1062 = .methodLink RX10 3 objectInit := rfl
theorem fw_1063 : fe 1063 = .classLink RX10 9 RX5 := rfl
theorem fw_1064 : fe 1064 = .instantiable RX5 16 := rfl
theorem fw_1065 : fe 1065 = .methodLink RX10 11 yX5_init := rfl
theorem fw_1066 : fe 1066 = .instanceMethod yX5_init := rfl
theorem fw_1067 : fe 1067 = .code yX5_init cX5_init 1 none := rfl
theorem fw_1068 : fe 1068 = .methodLink RX5 3 objectInit := rfl
theorem fw_1069 : fe 1069 = .methodLink RX5 15 yX5_begin := rfl
theorem fw_1070 : fe 1070 = .instanceMethod yX5_begin := rfl
theorem fw_1071 : fe 1071 = .selects RX5 yX5_begin yX5_begin := rfl
theorem fw_1072 : fe 1072 = .code yX5_begin cX5_begin 1 none := rfl
theorem fw_1073 : fe 1073 = .methodLink RX5 46 yX5_derive := rfl
theorem fw_1074 : fe 1074 = .instanceMethod yX5_derive := rfl
theorem fw_1075 : fe 1075 = .selects RX5 yX5_derive yX5_derive := rfl
theorem fw_1076 : fe 1076 = .code yX5_derive cX5_derive 2 none := rfl
theorem fw_1077 : fe 1077 = .fieldLink RX5 18 "TrunkFramer$Scheme" "length" "I" := rfl
theorem fw_1078 : fe 1078 = .fieldLink RX1 15 "TrunkFramer$Scheme" "length" "I" := rfl
theorem fw_1079 : fe 1079 = .fieldLink RX3 86 "TrunkFramer$Scheme" "length" "I" := rfl
theorem fw_1080 : fe 1080 = .fieldLink RX6 51 "TrunkFramer$Scheme" "length" "I" := rfl
theorem fw_1081 : fe 1081 = .fieldLink RX4 116 "TrunkFramer$Scheme" "length" "I" := rfl
theorem fw_1082 : fe 1082 = .fieldLink RX7 51 "TrunkFramer$Scheme" "length" "I" := rfl
theorem fw_1083 : fe 1083 = .fieldLink RX11 141 "TrunkFramer$Scheme" "length" "I" := rfl
theorem fw_1084 : fe 1084 = .fieldLink RX5 9 "TrunkFramer$Scheme" "roles" "[I" := rfl
theorem fw_1085 : fe 1085 = .fieldLink RX3 121 "TrunkFramer$Scheme" "roles" "[I" := rfl
theorem fw_1086 : fe 1086 = .fieldLink RX5 22 "TrunkFramer$Scheme" "roleCount" "I" := rfl
theorem fw_1087 : fe 1087 = .fieldLink RX1 48 "TrunkFramer$Scheme" "roleCount" "I" := rfl
theorem fw_1088 : fe 1088 = .fieldLink RX6 33 "TrunkFramer$Scheme" "roleCount" "I" := rfl
theorem fw_1089 : fe 1089 = .fieldLink RX3 124 "TrunkFramer$Scheme" "roleCount" "I" := rfl
theorem fw_1090 : fe 1090 = .fieldLink RX11 144 "TrunkFramer$Scheme" "roleCount" "I" := rfl
theorem fw_1091 : fe 1091 = .fieldLink RX5 25 "TrunkFramer$Scheme" "poly" "I" := rfl
theorem fw_1092 : fe 1092 = .fieldLink RX3 90 "TrunkFramer$Scheme" "poly" "I" := rfl
theorem fw_1093 : fe 1093 = .fieldLink RX11 147 "TrunkFramer$Scheme" "poly" "I" := rfl
theorem fw_1094 : fe 1094 = .fieldLink RX5 28 "TrunkFramer$Scheme" "width" "I" := rfl
theorem fw_1095 : fe 1095 = .fieldLink RX3 94 "TrunkFramer$Scheme" "width" "I" := rfl
theorem fw_1096 : fe 1096 = .fieldLink RX11 150 "TrunkFramer$Scheme" "width" "I" := rfl
theorem fw_1097 : fe 1097 = .fieldLink RX5 31 "TrunkFramer$Scheme" "stolen" "I" := rfl
theorem fw_1098 : fe 1098 = .fieldLink RX3 98 "TrunkFramer$Scheme" "stolen" "I" := rfl
theorem fw_1099 : fe 1099 = .fieldLink RX11 153 "TrunkFramer$Scheme" "stolen" "I" := rfl
theorem fw_1100 : fe 1100 = .fieldLink RX5 34 "TrunkFramer$Scheme" "fewest" "I" := rfl
theorem fw_1101 : fe 1101 = .fieldLink RX4 107 "TrunkFramer$Scheme" "fewest" "I" := rfl
theorem fw_1102 : fe 1102 = .fieldLink RX3 102 "TrunkFramer$Scheme" "fewest" "I" := rfl
theorem fw_1103 : fe 1103 = .fieldLink RX11 156 "TrunkFramer$Scheme" "fewest" "I" := rfl
theorem fw_1104 : fe 1104 = .fieldLink RX5 37 "TrunkFramer$Scheme" "wrong" "I" := rfl
theorem fw_1105 : fe 1105 = .fieldLink RX3 73 "TrunkFramer$Scheme" "wrong" "I" := rfl
theorem fw_1106 : fe 1106 = .fieldLink RX4 165 "TrunkFramer$Scheme" "wrong" "I" := rfl
theorem fw_1107 : fe 1107 = .fieldLink RX11 159 "TrunkFramer$Scheme" "wrong" "I" := rfl
theorem fw_1108 : fe 1108 = .fieldLink RX5 40 "TrunkFramer$Scheme" "latest" "I" := rfl
theorem fw_1109 : fe 1109 = .fieldLink RX3 75 "TrunkFramer$Scheme" "latest" "I" := rfl
theorem fw_1110 : fe 1110 = .fieldLink RX4 157 "TrunkFramer$Scheme" "latest" "I" := rfl
theorem fw_1111 : fe 1111 = .fieldLink RX11 162 "TrunkFramer$Scheme" "latest" "I" := rfl
theorem fw_1112 : fe 1112 = .fieldLink RX5 43 "TrunkFramer$Scheme" "drift" "I" := rfl
theorem fw_1113 : fe 1113 = .fieldLink RX3 107 "TrunkFramer$Scheme" "drift" "I" := rfl
theorem fw_1114 : fe 1114 = .fieldLink RX7 46 "TrunkFramer$Scheme" "drift" "I" := rfl
theorem fw_1115 : fe 1115 = .fieldLink RX11 165 "TrunkFramer$Scheme" "drift" "I" := rfl
theorem fw_1116 : fe 1116 = .fieldLink RX1 24 "TrunkFramer$Scheme" "superframe" "I" := rfl
theorem fw_1117 : fe 1117 = .fieldLink RX5 49 "TrunkFramer$Scheme" "superframe" "I" := rfl
theorem fw_1118 : fe 1118 = .fieldLink RX11 92 "TrunkFramer$Scheme" "superframe" "I" := rfl
theorem fw_1119 : fe 1119 = .fieldLink RX4 113 "TrunkFramer$Scheme" "superframe" "I" := rfl
theorem fw_1120 : fe 1120 = .fieldLink RX5 52 "TrunkFramer$Scheme" "channels" "I" := rfl
theorem fw_1121 : fe 1121 = .fieldLink RX11 168 "TrunkFramer$Scheme" "channels" "I" := rfl
theorem fw_1122 : fe 1122 = .fieldLink RX5 55 "TrunkFramer$Scheme" "checkBits" "I" := rfl
theorem fw_1123 : fe 1123 = .fieldLink RX6 28 "TrunkFramer$Scheme" "checkBits" "I" := rfl
theorem fw_1124 : fe 1124 = .fieldLink RX4 125 "TrunkFramer$Scheme" "checkBits" "I" := rfl
theorem fw_1125 : fe 1125 = .fieldLink RX11 171 "TrunkFramer$Scheme" "checkBits" "I" := rfl
theorem fw_1126 : fe 1126 = .fieldLink RX1 45 "TrunkFramer$Scheme" "zeros" "I" := rfl
theorem fw_1127 : fe 1127 = .fieldLink RX5 58 "TrunkFramer$Scheme" "zeros" "I" := rfl
theorem fw_1128 : fe 1128 = .fieldLink RX1 42 "TrunkFramer$Scheme" "ones" "I" := rfl
theorem fw_1129 : fe 1129 = .fieldLink RX5 61 "TrunkFramer$Scheme" "ones" "I" := rfl
theorem fw_1130 : fe 1130 = .fieldLink RX1 21 "TrunkFramer$Scheme" "allFrames" "I" := rfl
theorem fw_1131 : fe 1131 = .fieldLink RX5 64 "TrunkFramer$Scheme" "allFrames" "I" := rfl
theorem fw_1165 : fe 1165 = .arrayClass .int := rfl
theorem fw_1166 : fe 1166 = .classLink RX10 18 RX8 := rfl
theorem fw_1167 : fe 1167 = .instantiable RX8 4 := rfl
theorem fw_1169 : fe 1169 = .instanceMethod yX8_init := rfl
theorem fw_1170 : fe 1170 = .code yX8_init cX8_init 1 none := rfl
theorem fw_1171 : fe 1171 = .methodLink RX8 3 objectInit := rfl
theorem fw_1172 : fe 1172 = .fieldLink RX8 9 "TrunkFramer$Text" "bytes" "[B" := rfl
theorem fw_1173 : fe 1173 = .fieldLink RX8 23 "TrunkFramer$Text" "size" "I" := rfl
theorem fw_1174 : fe 1174 = .fieldLink RX11 58 "TrunkFramer$Text" "size" "I" := rfl
theorem fw_1175 : fe 1175 = .fieldLink RX3 136 "TrunkFramer$Text" "size" "I" := rfl
theorem fw_1176 : fe 1176 = .fieldLink RX11 65 "TrunkFramer$Text" "flaw" "I" := rfl
theorem fw_1177 : fe 1177 = .fieldLink RX8 41 "TrunkFramer$Text" "flaw" "I" := rfl
theorem fw_1178 : fe 1178 = .fieldLink RX8 15 "TrunkFramer$Text" "flawPlace" "I" := rfl
theorem fw_1179 : fe 1179 = .fieldLink RX11 69 "TrunkFramer$Text" "flawPlace" "I" := rfl
theorem fw_1189 : fe 1189 = .arrayClass .byte := rfl
theorem fw_1190 : fe 1190 = .classLink RX10 25 RX9 := rfl
theorem fw_1191 : fe 1191 = .instantiable RX9 4 := rfl
theorem fw_1192 : fe 1192 = .methodLink RX10 27 yX9_init := rfl
theorem fw_1193 : fe 1193 = .instanceMethod yX9_init := rfl
theorem fw_1194 : fe 1194 = .code yX9_init cX9_init 2 none := rfl
theorem fw_1195 : fe 1195 = .methodLink RX9 1 objectInit := rfl
theorem fw_1196 : fe 1196 = .classLink RX9 7 RX6 := rfl
theorem fw_1197 : fe 1197 = .instantiable RX6 4 := rfl
theorem fw_1199 : fe 1199 = .instanceMethod yX6_init := rfl
theorem fw_1200 : fe 1200 = .code yX6_init cX6_init 1 none := rfl
theorem fw_1201 : fe 1201 = .methodLink RX6 3 objectInit := rfl
theorem fw_1202 : fe 1202 = .fieldLink RX6 9 "TrunkFramer$Sender" "values" "[I" := rfl
theorem fw_1203 : fe 1203 = .fieldLink RX6 15 "TrunkFramer$Sender" "waiting" "I" := rfl
theorem fw_1204 : fe 1204 = .fieldLink RX11 99 "TrunkFramer$Sender" "waiting" "I" := rfl
theorem fw_1205 : fe 1205 = .fieldLink RX6 59 "TrunkFramer$Sender" "begun" "I" := rfl
theorem fw_1206 : fe 1206 = .fieldLink RX9 39 "TrunkFramer$Sender" "lastChecks" "I" := rfl
theorem fw_1207 : fe 1207 = .fieldLink RX6 40 "TrunkFramer$Sender" "lastChecks" "I" := rfl
theorem fw_1217 : fe 1217 = .classLink RX9 16 RX4 := rfl
theorem fw_1218 : fe 1218 = .instantiable RX4 13 := rfl
theorem fw_1219 : fe 1219 = .methodLink RX9 18 yX4_init := rfl
theorem fw_1220 : fe 1220 = .instanceMethod yX4_init := rfl
theorem fw_1221 : fe 1221 = .code yX4_init cX4_init 1 none := rfl
theorem fw_1222 : fe 1222 = .methodLink RX4 3 objectInit := rfl
theorem fw_1223 : fe 1223 = .classLink RX4 9 RX1 := rfl
theorem fw_1224 : fe 1224 = .instantiable RX1 6 := rfl
theorem fw_1226 : fe 1226 = .instanceMethod yX1_init := rfl
theorem fw_1227 : fe 1227 = .code yX1_init cX1_init 1 none := rfl
theorem fw_1228 : fe 1228 = .methodLink RX1 3 objectInit := rfl
theorem fw_1229 : fe 1229 = .fieldLink RX1 9 "TrunkFramer$Hunt" "rows" "[I" := rfl
theorem fw_1230 : fe 1230 = .fieldLink RX1 27 "TrunkFramer$Hunt" "left" "I" := rfl
theorem fw_1231 : fe 1231 = .fieldLink RX4 97 "TrunkFramer$Hunt" "left" "I" := rfl
theorem fw_1232 : fe 1232 = .fieldLink RX11 280 "TrunkFramer$Hunt" "left" "I" := rfl
theorem fw_1233 : fe 1233 = .fieldLink RX1 30 "TrunkFramer$Hunt" "heard" "I" := rfl
theorem fw_1234 : fe 1234 = .fieldLink RX4 122 "TrunkFramer$Hunt" "heard" "I" := rfl
theorem fw_1235 : fe 1235 = .fieldLink RX1 33 "TrunkFramer$Hunt" "due" "I" := rfl
theorem fw_1236 : fe 1236 = .fieldLink RX1 36 "TrunkFramer$Hunt" "framesOn" "I" := rfl
theorem fw_1237 : fe 1237 = .fieldLink RX1 39 "TrunkFramer$Hunt" "only" "I" := rfl
theorem fw_1251 : fe 1251 = .classLink RX4 18 RX7 := rfl
theorem fw_1252 : fe 1252 = .instantiable RX7 17 := rfl
theorem fw_1254 : fe 1254 = .instanceMethod yX7_init := rfl
theorem fw_1255 : fe 1255 = .code yX7_init cX7_init 1 none := rfl
theorem fw_1256 : fe 1256 = .methodLink RX7 1 objectInit := rfl
theorem fw_1257 : fe 1257 = .fieldLink RX7 7 "TrunkFramer$Store" "held" "I" := rfl
theorem fw_1258 : fe 1258 = .fieldLink RX4 193 "TrunkFramer$Store" "held" "I" := rfl
theorem fw_1259 : fe 1259 = .fieldLink RX7 13 "TrunkFramer$Store" "came" "I" := rfl
theorem fw_1260 : fe 1260 = .fieldLink RX4 181 "TrunkFramer$Store" "came" "I" := rfl
theorem fw_1261 : fe 1261 = .fieldLink RX7 16 "TrunkFramer$Store" "dropped" "I" := rfl
theorem fw_1262 : fe 1262 = .fieldLink RX4 184 "TrunkFramer$Store" "dropped" "I" := rfl
theorem fw_1263 : fe 1263 = .fieldLink RX7 19 "TrunkFramer$Store" "read" "I" := rfl
theorem fw_2048 : fe 2048 = .fieldLink RX4 187 "TrunkFramer$Store" "read" "I" := rfl
theorem fw_2049 : fe 2049 = .fieldLink RX11 218 "TrunkFramer$Store" "read" "I" := rfl
theorem fw_2050 : fe 2050 = .fieldLink RX7 22 "TrunkFramer$Store" "repeated" "I" := rfl
theorem fw_2051 : fe 2051 = .fieldLink RX4 190 "TrunkFramer$Store" "repeated" "I" := rfl
theorem fw_2052 : fe 2052 = .fieldLink RX7 25 "TrunkFramer$Store" "clock" "I" := rfl
theorem fw_2053 : fe 2053 = .fieldLink RX4 196 "TrunkFramer$Store" "clock" "I" := rfl
theorem fw_2054 : fe 2054 = .fieldLink RX7 34 "TrunkFramer$Store" "olderStart" "I" := rfl
theorem fw_2055 : fe 2055 = .fieldLink RX7 37 "TrunkFramer$Store" "olderPlace" "I" := rfl
theorem fw_2056 : fe 2056 = .fieldLink RX7 40 "TrunkFramer$Store" "newerStart" "I" := rfl
theorem fw_2057 : fe 2057 = .fieldLink RX7 43 "TrunkFramer$Store" "newerPlace" "I" := rfl
theorem fw_2058 : fe 2058 = .fieldLink RX7 58 "TrunkFramer$Store" "readStart" "I" := rfl
theorem fw_2059 : fe 2059 = .fieldLink RX11 229 "TrunkFramer$Store" "readStart" "I" := rfl
theorem fw_2060 : fe 2060 = .fieldLink RX7 61 "TrunkFramer$Store" "readPlace" "I" := rfl
theorem fw_2061 : fe 2061 = .fieldLink RX11 226 "TrunkFramer$Store" "readPlace" "I" := rfl
theorem fw_2062 : fe 2062 = .fieldLink RX7 64 "TrunkFramer$Store" "readNumber" "I" := rfl
theorem fw_2063 : fe 2063 = .fieldLink RX11 223 "TrunkFramer$Store" "readNumber" "I" := rfl
theorem fw_2064 : fe 2064 = .fieldLink RX7 28 "TrunkFramer$Store" "signals" "I" := rfl
theorem fw_2065 : fe 2065 = .fieldLink RX7 77 "TrunkFramer$Store" "signalStart" "I" := rfl
theorem fw_2066 : fe 2066 = .fieldLink RX7 71 "TrunkFramer$Store" "signalStart2" "I" := rfl
theorem fw_2067 : fe 2067 = .fieldLink RX7 74 "TrunkFramer$Store" "signalStart3" "I" := rfl
theorem fw_2103 : fe 2103 = .classLink RX4 25 RX0 := rfl
theorem fw_2104 : fe 2104 = .instantiable RX0 5 := rfl
theorem fw_2106 : fe 2106 = .instanceMethod yX0_init := rfl
theorem fw_2107 : fe 2107 = .code yX0_init cX0_init 1 none := rfl
theorem fw_2108 : fe 2108 = .methodLink RX0 3 objectInit := rfl
theorem fw_2109 : fe 2109 = .fieldLink RX0 9 "TrunkFramer$Ear" "values" "[I" := rfl
theorem fw_2110 : fe 2110 = .fieldLink RX0 15 "TrunkFramer$Ear" "taken" "I" := rfl
theorem fw_2111 : fe 2111 = .fieldLink RX4 199 "TrunkFramer$Ear" "taken" "I" := rfl
theorem fw_2112 : fe 2112 = .fieldLink RX0 19 "TrunkFramer$Ear" "spoilt" "I" := rfl
theorem fw_2113 : fe 2113 = .fieldLink RX4 202 "TrunkFramer$Ear" "spoilt" "I" := rfl
theorem fw_2114 : fe 2114 = .fieldLink RX0 25 "TrunkFramer$Ear" "begun" "I" := rfl
theorem fw_2115 : fe 2115 = .fieldLink RX0 28 "TrunkFramer$Ear" "partial" "I" := rfl
theorem fw_2127 : fe 2127 = .classLink RX4 32 RX5 := rfl
theorem fw_2128 : fe 2128 = .methodLink RX4 34 yX5_init := rfl
theorem fw_2129 : fe 2129 = .methodLink RX4 35 yX4_begin := rfl
theorem fw_2130 : fe 2130 = .instanceMethod yX4_begin := rfl
theorem fw_2131 : fe 2131 = .selects RX4 yX4_begin yX4_begin := rfl
theorem fw_2132 : fe 2132 = .code yX4_begin cX4_begin 2 none := rfl
theorem fw_2133 : fe 2133 = .methodLink RX4 43 yX1_begin := rfl
theorem fw_2134 : fe 2134 = .instanceMethod yX1_begin := rfl
theorem fw_2135 : fe 2135 = .selects RX1 yX1_begin yX1_begin := rfl
theorem fw_2136 : fe 2136 = .code yX1_begin cX1_begin 3 none := rfl
theorem fw_2137 : fe 2137 = .methodLink RX4 44 yX7_begin := rfl
theorem fw_2138 : fe 2138 = .instanceMethod yX7_begin := rfl
theorem fw_2139 : fe 2139 = .selects RX7 yX7_begin yX7_begin := rfl
theorem fw_2140 : fe 2140 = .code yX7_begin cX7_begin 1 none := rfl
theorem fw_2141 : fe 2141 = .methodLink RX4 46 yX0_begin := rfl
theorem fw_2142 : fe 2142 = .instanceMethod yX0_begin := rfl
theorem fw_2143 : fe 2143 = .selects RX0 yX0_begin yX0_begin := rfl
theorem fw_2144 : fe 2144 = .code yX0_begin cX0_begin 1 none := rfl
theorem fw_2145 : fe 2145 = .methodLink RX0 22 yX0_forget := rfl
theorem fw_2146 : fe 2146 = .instanceMethod yX0_forget := rfl
theorem fw_2147 : fe 2147 = .selects RX0 yX0_forget yX0_forget := rfl
theorem fw_2148 : fe 2148 = .code yX0_forget cX0_forget 1 none := rfl
theorem fw_2149 : fe 2149 = .fieldLink RX4 39 "TrunkFramer$Receiver" "mode" "I" := rfl
theorem fw_2150 : fe 2150 = .fieldLink RX11 202 "TrunkFramer$Receiver" "mode" "I" := rfl
theorem fw_2151 : fe 2151 = .fieldLink RX4 12 "TrunkFramer$Receiver" "hunt" "LTrunkFramer$Hunt;" := rfl
theorem fw_2152 : fe 2152 = .fieldLink RX11 205 "TrunkFramer$Receiver" "hunt" "LTrunkFramer$Hunt;" := rfl
theorem fw_2153 : fe 2153 = .fieldLink RX4 21 "TrunkFramer$Receiver" "store" "LTrunkFramer$Store;" := rfl
theorem fw_2154 : fe 2154 = .fieldLink RX11 214 "TrunkFramer$Receiver" "store" "LTrunkFramer$Store;" := rfl
theorem fw_2155 : fe 2155 = .fieldLink RX4 28 "TrunkFramer$Receiver" "ear" "LTrunkFramer$Ear;" := rfl
theorem fw_2156 : fe 2156 = .fieldLink RX11 251 "TrunkFramer$Receiver" "ear" "LTrunkFramer$Ear;" := rfl
theorem fw_2157 : fe 2157 = .fieldLink RX4 47 "TrunkFramer$Receiver" "starts" "I" := rfl
theorem fw_2158 : fe 2158 = .fieldLink RX4 50 "TrunkFramer$Receiver" "mimics" "I" := rfl
theorem fw_2159 : fe 2159 = .fieldLink RX4 53 "TrunkFramer$Receiver" "locked" "I" := rfl
theorem fw_2160 : fe 2160 = .fieldLink RX11 276 "TrunkFramer$Receiver" "locked" "I" := rfl
theorem fw_2161 : fe 2161 = .fieldLink RX4 56 "TrunkFramer$Receiver" "lost" "I" := rfl
theorem fw_2162 : fe 2162 = .fieldLink RX4 59 "TrunkFramer$Receiver" "place" "I" := rfl
theorem fw_2163 : fe 2163 = .fieldLink RX4 62 "TrunkFramer$Receiver" "offset" "I" := rfl
theorem fw_2164 : fe 2164 = .fieldLink RX4 65 "TrunkFramer$Receiver" "since" "I" := rfl
theorem fw_2165 : fe 2165 = .fieldLink RX4 68 "TrunkFramer$Receiver" "history" "I" := rfl
theorem fw_2166 : fe 2166 = .fieldLink RX4 71 "TrunkFramer$Receiver" "badChecks" "I" := rfl
theorem fw_2194 : fe 2194 = .classLink RX9 23 RX2 := rfl
theorem fw_2195 : fe 2195 = .instantiable RX2 2 := rfl
theorem fw_2196 : fe 2196 = .methodLink RX9 25 yX2_init := rfl
theorem fw_2197 : fe 2197 = .instanceMethod yX2_init := rfl
theorem fw_2198 : fe 2198 = .code yX2_init cX2_init 2 none := rfl
theorem fw_2199 : fe 2199 = .methodLink RX2 3 objectInit := rfl
theorem fw_2200 : fe 2200 = .methodLink RX2 9 Lib.Math.max.name := rfl
theorem fw_2201 : fe 2201 = .static Lib.Math.max.name := rfl
theorem fw_2202 : fe 2202 = .code Lib.Math.max.name Lib.Math.max.code 2 (some .int) := rfl
theorem fw_2203 : fe 2203 = .fieldLink RX2 15 "TrunkFramer$Line" "bits" "[B" := rfl
theorem fw_2204 : fe 2204 = .fieldLink RX9 32 "TrunkFramer$Line" "size" "I" := rfl
theorem fw_2205 : fe 2205 = .fieldLink RX2 21 "TrunkFramer$Line" "size" "I" := rfl
theorem fw_2206 : fe 2206 = .fieldLink RX6 23 "TrunkFramer$Line" "size" "I" := rfl
theorem fw_2207 : fe 2207 = .fieldLink RX11 114 "TrunkFramer$Line" "size" "I" := rfl
theorem fw_2213 : fe 2213 = .fieldLink RX9 28 "TrunkFramer$Trunk" "line" "LTrunkFramer$Line;" := rfl
theorem fw_2214 : fe 2214 = .fieldLink RX11 110 "TrunkFramer$Trunk" "line" "LTrunkFramer$Line;" := rfl
theorem fw_2215 : fe 2215 = .fieldLink RX9 10 "TrunkFramer$Trunk" "sender" "LTrunkFramer$Sender;" := rfl
theorem fw_2216 : fe 2216 = .fieldLink RX11 95 "TrunkFramer$Trunk" "sender" "LTrunkFramer$Sender;" := rfl
theorem fw_2217 : fe 2217 = .fieldLink RX9 19 "TrunkFramer$Trunk" "receiver" "LTrunkFramer$Receiver;" := rfl
theorem fw_2218 : fe 2218 = .fieldLink RX11 192 "TrunkFramer$Trunk" "receiver" "LTrunkFramer$Receiver;" := rfl
theorem fw_2219 : fe 2219 = .fieldLink RX9 36 "TrunkFramer$Trunk" "heard" "I" := rfl
theorem fw_2220 : fe 2220 = .fieldLink RX11 121 "TrunkFramer$Trunk" "heard" "I" := rfl
theorem fw_2230 : fe 2230 = .fieldLink RX10 12 "TrunkFramer$Whole" "plan" "LTrunkFramer$Scheme;" := rfl
theorem fw_2231 : fe 2231 = .fieldLink RX11 70 "TrunkFramer$Whole" "plan" "LTrunkFramer$Scheme;" := rfl
theorem fw_2232 : fe 2232 = .fieldLink RX10 21 "TrunkFramer$Whole" "text" "LTrunkFramer$Text;" := rfl
theorem fw_2233 : fe 2233 = .fieldLink RX11 44 "TrunkFramer$Whole" "text" "LTrunkFramer$Text;" := rfl
theorem fw_2234 : fe 2234 = .fieldLink RX10 30 "TrunkFramer$Whole" "trunk" "LTrunkFramer$Trunk;" := rfl
theorem fw_2235 : fe 2235 = .fieldLink RX11 83 "TrunkFramer$Whole" "trunk" "LTrunkFramer$Trunk;" := rfl
theorem fw_2244 : fe 2244 = .classLink RX11 24 RX9 := rfl
theorem fw_2246 : fe 2246 = .methodLink RX11 30 yX9_init := rfl
theorem fw_2247 : fe 2247 = .classLink RX11 37 RX3 := rfl
theorem fw_2248 : fe 2248 = .instantiable RX3 7 := rfl
theorem fw_2250 : fe 2250 = .instanceMethod yX3_init := rfl
theorem fw_2251 : fe 2251 = .code yX3_init cX3_init 1 none := rfl
theorem fw_2252 : fe 2252 = .methodLink RX3 3 objectInit := rfl
theorem fw_2253 : fe 2253 = .classLink RX3 9 RX5 := rfl
theorem fw_2254 : fe 2254 = .methodLink RX3 11 yX5_init := rfl
theorem fw_2255 : fe 2255 = .classLink RX3 18 RX8 := rfl
theorem fw_2257 : fe 2257 = .fieldLink RX3 12 "TrunkFramer$Reader" "told" "LTrunkFramer$Scheme;" := rfl
theorem fw_2258 : fe 2258 = .fieldLink RX11 74 "TrunkFramer$Reader" "told" "LTrunkFramer$Scheme;" := rfl
theorem fw_2259 : fe 2259 = .fieldLink RX3 21 "TrunkFramer$Reader" "text" "LTrunkFramer$Text;" := rfl
theorem fw_2260 : fe 2260 = .fieldLink RX3 32 "TrunkFramer$Reader" "flaw" "I" := rfl
theorem fw_2261 : fe 2261 = .fieldLink RX11 62 "TrunkFramer$Reader" "flaw" "I" := rfl
theorem fw_2262 : fe 2262 = .fieldLink RX3 36 "TrunkFramer$Reader" "flawPlace" "I" := rfl
theorem fw_2263 : fe 2263 = .fieldLink RX11 66 "TrunkFramer$Reader" "flawPlace" "I" := rfl
theorem fw_2264 : fe 2264 = .fieldLink RX3 45 "TrunkFramer$Reader" "kind" "I" := rfl
theorem fw_2265 : fe 2265 = .fieldLink RX3 54 "TrunkFramer$Reader" "start" "I" := rfl
theorem fw_2266 : fe 2266 = .fieldLink RX3 39 "TrunkFramer$Reader" "end" "I" := rfl
theorem fw_2282 : fe 2282 = .arrayClass .boolean := rfl
theorem fw_2283 : fe 2283 = .fieldLink RX11 12 "TrunkFramer" "now" "LTrunkFramer$Whole;" := rfl
theorem fw_2284 : fe 2284 = .fieldLink RX11 16 "TrunkFramer" "kept" "[LTrunkFramer$Whole;" := rfl
theorem fw_2285 : fe 2285 = .fieldLink RX11 20 "TrunkFramer" "isKept" "[Z" := rfl
theorem fw_2286 : fe 2286 = .fieldLink RX11 26 "TrunkFramer" "past" "[LTrunkFramer$Trunk;" := rfl
theorem fw_2287 : fe 2287 = .fieldLink RX11 89 "TrunkFramer" "acts" "I" := rfl
theorem fw_3072 : fe 3072 = .fieldLink RX11 33 "TrunkFramer" "trial" "LTrunkFramer$Trunk;" := rfl
theorem fw_3073 : fe 3073 = .fieldLink RX11 40 "TrunkFramer" "reader" "LTrunkFramer$Reader;" := rfl
theorem fw_3089 : fe 3089 = .methodLink RL 124 yX11_say := rfl
theorem fw_3090 : fe 3090 = .instanceMethod yX11_say := rfl
theorem fw_3091 : fe 3091 = .selects RX11 yX11_say yX11_say := rfl
theorem fw_3092 : fe 3092 = .code yX11_say cX11_say 3 (some .int) := rfl
theorem fw_3093 : fe 3093 = .methodLink RX11 104 yX11_remember := rfl
theorem fw_3095 : fe 3095 = .instanceMethod yX11_remember := rfl
theorem fw_3096 : fe 3096 = .code yX11_remember cX11_remember 3 none := rfl
theorem fw_3097 : fe 3097 = .methodLink RX11 138 yX9_copyFrom := rfl
theorem fw_3098 : fe 3098 = .instanceMethod yX9_copyFrom := rfl
theorem fw_3099 : fe 3099 = .selects RX9 yX9_copyFrom yX9_copyFrom := rfl
theorem fw_3100 : fe 3100 = .code yX9_copyFrom cX9_copyFrom 2 none := rfl
theorem fw_3101 : fe 3101 = .methodLink RX9 50 yX2_copyFrom := rfl
theorem fw_3102 : fe 3102 = .instanceMethod yX2_copyFrom := rfl
theorem fw_3103 : fe 3103 = .selects RX2 yX2_copyFrom yX2_copyFrom := rfl
theorem fw_3104 : fe 3104 = .code yX2_copyFrom cX2_copyFrom 2 none := rfl
theorem fw_3105 : fe 3105 = .methodLink RX2 31 Lib.Math.min.name := rfl
theorem fw_3106 : fe 3106 = .static Lib.Math.min.name := rfl
theorem fw_3107 : fe 3107 = .code Lib.Math.min.name Lib.Math.min.code 2 (some .int) := rfl
theorem fw_3108 : fe 3108 = .methodLink RX2 25 arraycopyName := rfl
theorem fw_3109 : fe 3109 = .static arraycopyName := rfl
theorem fw_3110 : fe 3110 = .native arraycopyName := rfl
theorem fw_3111 : fe 3111 = .methodLink RX9 54 yX6_copyFrom := rfl
theorem fw_3112 : fe 3112 = .instanceMethod yX6_copyFrom := rfl
theorem fw_3113 : fe 3113 = .selects RX6 yX6_copyFrom yX6_copyFrom := rfl
theorem fw_3114 : fe 3114 = .code yX6_copyFrom cX6_copyFrom 2 none := rfl
theorem fw_3115 : fe 3115 = .methodLink RX6 65 arraycopyName := rfl
theorem fw_3116 : fe 3116 = .methodLink RX9 57 yX4_copyFrom := rfl
theorem fw_3117 : fe 3117 = .instanceMethod yX4_copyFrom := rfl
theorem fw_3118 : fe 3118 = .selects RX4 yX4_copyFrom yX4_copyFrom := rfl
theorem fw_3119 : fe 3119 = .code yX4_copyFrom cX4_copyFrom 2 none := rfl
theorem fw_3120 : fe 3120 = .methodLink RX4 205 yX1_copyFrom := rfl
theorem fw_3121 : fe 3121 = .instanceMethod yX1_copyFrom := rfl
theorem fw_3122 : fe 3122 = .selects RX1 yX1_copyFrom yX1_copyFrom := rfl
theorem fw_3123 : fe 3123 = .code yX1_copyFrom cX1_copyFrom 2 none := rfl
theorem fw_3124 : fe 3124 = .methodLink RX1 71 arraycopyName := rfl
theorem fw_3125 : fe 3125 = .methodLink RX4 209 yX7_copyFrom := rfl
theorem fw_3126 : fe 3126 = .instanceMethod yX7_copyFrom := rfl
theorem fw_3127 : fe 3127 = .selects RX7 yX7_copyFrom yX7_copyFrom := rfl
theorem fw_3128 : fe 3128 = .code yX7_copyFrom cX7_copyFrom 2 none := rfl
theorem fw_3129 : fe 3129 = .methodLink RX4 212 yX0_copyFrom := rfl
theorem fw_3130 : fe 3130 = .instanceMethod yX0_copyFrom := rfl
theorem fw_3131 : fe 3131 = .selects RX0 yX0_copyFrom yX0_copyFrom := rfl
theorem fw_3132 : fe 3132 = .code yX0_copyFrom cX0_copyFrom 2 none := rfl
theorem fw_3133 : fe 3133 = .methodLink RX0 35 arraycopyName := rfl
theorem fw_3134 : fe 3134 = .methodLink RX11 107 yX6_enqueue := rfl
theorem fw_3135 : fe 3135 = .instanceMethod yX6_enqueue := rfl
theorem fw_3136 : fe 3136 = .selects RX6 yX6_enqueue yX6_enqueue := rfl
theorem fw_3137 : fe 3137 = .code yX6_enqueue cX6_enqueue 2 none := rfl
theorem fw_3138 : fe 3138 = .methodLink RL 127 yX11_send := rfl
theorem fw_3139 : fe 3139 = .instanceMethod yX11_send := rfl
theorem fw_3140 : fe 3140 = .selects RX11 yX11_send yX11_send := rfl
theorem fw_3141 : fe 3141 = .code yX11_send cX11_send 4 (some .int) := rfl
theorem fw_3142 : fe 3142 = .methodLink RX11 117 yX6_transmit := rfl
theorem fw_3143 : fe 3143 = .instanceMethod yX6_transmit := rfl
theorem fw_3144 : fe 3144 = .selects RX6 yX6_transmit yX6_transmit := rfl
theorem fw_3145 : fe 3145 = .code yX6_transmit cX6_transmit 7 none := rfl
theorem fw_3146 : fe 3146 = .methodLink RX6 19 yX6_transmitOne := rfl
theorem fw_3148 : fe 3148 = .instanceMethod yX6_transmitOne := rfl
theorem fw_3149 : fe 3149 = .code yX6_transmitOne cX6_transmitOne 10 (some .int) := rfl
theorem fw_3150 : fe 3150 = .methodLink RX6 36 yX5_roleAt := rfl
theorem fw_3151 : fe 3151 = .instanceMethod yX5_roleAt := rfl
theorem fw_3152 : fe 3152 = .selects RX5 yX5_roleAt yX5_roleAt := rfl
theorem fw_3153 : fe 3153 = .code yX5_roleAt cX5_roleAt 2 (some .int) := rfl
theorem fw_3154 : fe 3154 = .methodLink RX6 43 yX2_append := rfl
theorem fw_3155 : fe 3155 = .instanceMethod yX2_append := rfl
theorem fw_3156 : fe 3156 = .selects RX2 yX2_append yX2_append := rfl
theorem fw_3157 : fe 3157 = .code yX2_append cX2_append 2 none := rfl
theorem fw_3158 : fe 3158 = .methodLink RX6 47 yX6_linkBit := rfl
theorem fw_3160 : fe 3160 = .instanceMethod yX6_linkBit := rfl
theorem fw_3161 : fe 3161 = .code yX6_linkBit cX6_linkBit 2 (some .int) := rfl
theorem fw_3162 : fe 3162 = .methodLink RX6 62 yX6_dequeue := rfl
theorem fw_3164 : fe 3164 = .instanceMethod yX6_dequeue := rfl
theorem fw_3165 : fe 3165 = .code yX6_dequeue cX6_dequeue 2 none := rfl
theorem fw_3166 : fe 3166 = .constant RX6 54 (1103515245) := rfl
theorem fw_3167 : fe 3167 = .methodLink RX6 55 yX5_checksOf := rfl
theorem fw_3168 : fe 3168 = .instanceMethod yX5_checksOf := rfl
theorem fw_3169 : fe 3169 = .selects RX5 yX5_checksOf yX5_checksOf := rfl
theorem fw_3170 : fe 3170 = .code yX5_checksOf cX5_checksOf 13 (some .int) := rfl
theorem fw_3171 : fe 3171 = .methodLink RX5 82 yX5_roleAt := rfl
theorem fw_3172 : fe 3172 = .methodLink RX5 85 yX2_at := rfl
theorem fw_3173 : fe 3173 = .instanceMethod yX2_at := rfl
theorem fw_3174 : fe 3174 = .selects RX2 yX2_at yX2_at := rfl
theorem fw_3175 : fe 3175 = .code yX2_at cX2_at 2 (some .int) := rfl
theorem fw_3176 : fe 3176 = .methodLink RL 133 yX11_hear := rfl
theorem fw_3177 : fe 3177 = .instanceMethod yX11_hear := rfl
theorem fw_3178 : fe 3178 = .selects RX11 yX11_hear yX11_hear := rfl
theorem fw_3179 : fe 3179 = .code yX11_hear cX11_hear 3 (some .int) := rfl
theorem fw_3180 : fe 3180 = .methodLink RX11 134 yX9_listen := rfl
theorem fw_3181 : fe 3181 = .instanceMethod yX9_listen := rfl
theorem fw_3182 : fe 3182 = .selects RX9 yX9_listen yX9_listen := rfl
theorem fw_3183 : fe 3183 = .code yX9_listen cX9_listen 4 none := rfl
theorem fw_3184 : fe 3184 = .methodLink RX9 46 yX4_take := rfl
theorem fw_3185 : fe 3185 = .instanceMethod yX4_take := rfl
theorem fw_3186 : fe 3186 = .selects RX4 yX4_take yX4_take := rfl
theorem fw_3187 : fe 3187 = .code yX4_take cX4_take 5 none := rfl
theorem fw_3188 : fe 3188 = .methodLink RX4 74 yX2_at := rfl
theorem fw_3189 : fe 3189 = .methodLink RX4 80 yX4_takeHunting := rfl
theorem fw_3191 : fe 3191 = .instanceMethod yX4_takeHunting := rfl
theorem fw_3192 : fe 3192 = .code yX4_takeHunting cX4_takeHunting 3 none := rfl
theorem fw_3193 : fe 3193 = .methodLink RX4 94 yX1_follow := rfl
theorem fw_3194 : fe 3194 = .instanceMethod yX1_follow := rfl
theorem fw_3195 : fe 3195 = .selects RX1 yX1_follow yX1_follow := rfl
theorem fw_3196 : fe 3196 = .code yX1_follow cX1_follow 6 none := rfl
theorem fw_3197 : fe 3197 = .methodLink RX1 51 yJ6_bitCount_0f7a4 := rfl
theorem fw_3198 : fe 3198 = .static yJ6_bitCount_0f7a4 := rfl
theorem fw_3199 : fe 3199 = .code yJ6_bitCount_0f7a4 cJ6_bitCount_0f7a4 1 (some .int) := rfl
theorem fw_3200 : fe 3200 = .constant RJ6 265 (1431655765) := rfl
theorem fw_3201 : fe 3201 = .constant RJ6 266 (858993459) := rfl
theorem fw_3202 : fe 3202 = .constant RJ6 267 (252645135) := rfl
theorem fw_3203 : fe 3203 = .methodLink RX1 57 yX5_placeBehind := rfl
theorem fw_3204 : fe 3204 = .instanceMethod yX5_placeBehind := rfl
theorem fw_3205 : fe 3205 = .selects RX5 yX5_placeBehind yX5_placeBehind := rfl
theorem fw_3206 : fe 3206 = .code yX5_placeBehind cX5_placeBehind 2 (some .int) := rfl
theorem fw_3207 : fe 3207 = .methodLink RX4 100 yX4_huntAnew := rfl
theorem fw_3209 : fe 3209 = .instanceMethod yX4_huntAnew := rfl
theorem fw_3210 : fe 3210 = .code yX4_huntAnew cX4_huntAnew 2 none := rfl
theorem fw_3211 : fe 3211 = .methodLink RX4 103 yX1_fixedHeard := rfl
theorem fw_3212 : fe 3212 = .instanceMethod yX1_fixedHeard := rfl
theorem fw_3213 : fe 3213 = .selects RX1 yX1_fixedHeard yX1_fixedHeard := rfl
theorem fw_3214 : fe 3214 = .code yX1_fixedHeard cX1_fixedHeard 3 (some .int) := rfl
theorem fw_3215 : fe 3215 = .methodLink RX1 64 yX1_lone := rfl
theorem fw_3216 : fe 3216 = .instanceMethod yX1_lone := rfl
theorem fw_3217 : fe 3217 = .selects RX1 yX1_lone yX1_lone := rfl
theorem fw_3218 : fe 3218 = .code yX1_lone cX1_lone 2 (some .int) := rfl
theorem fw_3219 : fe 3219 = .methodLink RX1 60 yX1_nth := rfl
theorem fw_3220 : fe 3220 = .instanceMethod yX1_nth := rfl
theorem fw_3221 : fe 3221 = .selects RX1 yX1_nth yX1_nth := rfl
theorem fw_3222 : fe 3222 = .code yX1_nth cX1_nth 6 (some .int) := rfl
theorem fw_3223 : fe 3223 = .methodLink RX1 68 yX5_fixedStarted := rfl
theorem fw_3224 : fe 3224 = .instanceMethod yX5_fixedStarted := rfl
theorem fw_3225 : fe 3225 = .selects RX5 yX5_fixedStarted yX5_fixedStarted := rfl
theorem fw_3226 : fe 3226 = .code yX5_fixedStarted cX5_fixedStarted 6 (some .int) := rfl
theorem fw_3227 : fe 3227 = .methodLink RX5 73 yX5_framesStarted := rfl
theorem fw_3228 : fe 3228 = .instanceMethod yX5_framesStarted := rfl
theorem fw_3229 : fe 3229 = .selects RX5 yX5_framesStarted yX5_framesStarted := rfl
theorem fw_3230 : fe 3230 = .code yX5_framesStarted cX5_framesStarted 2 (some .int) := rfl
theorem fw_3231 : fe 3231 = .methodLink RX5 77 yJ6_bitCount_0f7a4 := rfl
theorem fw_3232 : fe 3232 = .methodLink RX4 110 yX4_followLone := rfl
theorem fw_3234 : fe 3234 = .instanceMethod yX4_followLone := rfl
theorem fw_3235 : fe 3235 = .code yX4_followLone cX4_followLone 3 none := rfl
theorem fw_3236 : fe 3236 = .methodLink RX4 119 yX1_lone := rfl
theorem fw_3237 : fe 3237 = .methodLink RX4 128 yX4_lock := rfl
theorem fw_3239 : fe 3239 = .instanceMethod yX4_lock := rfl
theorem fw_3240 : fe 3240 = .code yX4_lock cX4_lock 1 none := rfl
theorem fw_3241 : fe 3241 = .methodLink RX4 178 yX0_forget := rfl
theorem fw_3242 : fe 3242 = .methodLink RX4 84 yX4_takeVerifying := rfl
theorem fw_3244 : fe 3244 = .instanceMethod yX4_takeVerifying := rfl
theorem fw_3245 : fe 3245 = .code yX4_takeVerifying cX4_takeVerifying 4 none := rfl
theorem fw_3246 : fe 3246 = .methodLink RX4 131 yX5_isOther := rfl
theorem fw_3247 : fe 3247 = .instanceMethod yX5_isOther := rfl
theorem fw_3248 : fe 3248 = .selects RX5 yX5_isOther yX5_isOther := rfl
theorem fw_3249 : fe 3249 = .code yX5_isOther cX5_isOther 3 (some .boolean) := rfl
theorem fw_3250 : fe 3250 = .methodLink RX4 135 yX4_advance := rfl
theorem fw_3252 : fe 3252 = .instanceMethod yX4_advance := rfl
theorem fw_3253 : fe 3253 = .code yX4_advance cX4_advance 2 none := rfl
theorem fw_3254 : fe 3254 = .methodLink RX4 175 yX5_placeBehind := rfl
theorem fw_3255 : fe 3255 = .methodLink RX4 138 yX4_isJudged := rfl
theorem fw_3257 : fe 3257 = .instanceMethod yX4_isJudged := rfl
theorem fw_3258 : fe 3258 = .code yX4_isJudged cX4_isJudged 2 (some .boolean) := rfl
theorem fw_3259 : fe 3259 = .methodLink RX4 142 yX5_checksHold := rfl
theorem fw_3260 : fe 3260 = .instanceMethod yX5_checksHold := rfl
theorem fw_3261 : fe 3261 = .selects RX5 yX5_checksHold yX5_checksHold := rfl
theorem fw_3262 : fe 3262 = .code yX5_checksHold cX5_checksHold 5 (some .boolean) := rfl
theorem fw_3263 : fe 3263 = .methodLink RX5 90 yX5_checksOf := rfl
theorem fw_3264 : fe 3264 = .methodLink RX4 88 yX4_takeLocked := rfl
theorem fw_3266 : fe 3266 = .instanceMethod yX4_takeLocked := rfl
theorem fw_3267 : fe 3267 = .code yX4_takeLocked cX4_takeLocked 5 none := rfl
theorem fw_3268 : fe 3268 = .methodLink RX4 146 yX4_takeFirst := rfl
theorem fw_3270 : fe 3270 = .instanceMethod yX4_takeFirst := rfl
theorem fw_3271 : fe 3271 = .code yX4_takeFirst cX4_takeFirst 4 none := rfl
theorem fw_3272 : fe 3272 = .methodLink RX4 153 yX5_isFixed := rfl
theorem fw_3273 : fe 3273 = .instanceMethod yX5_isFixed := rfl
theorem fw_3274 : fe 3274 = .selects RX5 yX5_isFixed yX5_isFixed := rfl
theorem fw_3275 : fe 3275 = .code yX5_isFixed cX5_isFixed 2 (some .boolean) := rfl
theorem fw_3276 : fe 3276 = .methodLink RX4 160 yJ6_bitCount_0f7a4 := rfl
theorem fw_3277 : fe 3277 = .methodLink RX4 168 yX5_roleAt := rfl
theorem fw_3278 : fe 3278 = .methodLink RX4 171 yX0_take := rfl
theorem fw_3279 : fe 3279 = .instanceMethod yX0_take := rfl
theorem fw_3280 : fe 3280 = .selects RX0 yX0_take yX0_take := rfl
theorem fw_3281 : fe 3281 = .code yX0_take cX0_take 2 none := rfl
theorem fw_3282 : fe 3282 = .methodLink RX0 31 yX0_keep := rfl
theorem fw_3284 : fe 3284 = .instanceMethod yX0_keep := rfl
theorem fw_3285 : fe 3285 = .code yX0_keep cX0_keep 3 none := rfl
theorem fw_3286 : fe 3286 = .methodLink RX4 149 yX7_come := rfl
theorem fw_3287 : fe 3287 = .instanceMethod yX7_come := rfl
theorem fw_3288 : fe 3288 = .selects RX7 yX7_come yX7_come := rfl
theorem fw_3289 : fe 3289 = .code yX7_come cX7_come 3 none := rfl
theorem fw_3290 : fe 3290 = .methodLink RX7 31 yX7_dropOlder := rfl
theorem fw_3292 : fe 3292 = .instanceMethod yX7_dropOlder := rfl
theorem fw_3293 : fe 3293 = .code yX7_dropOlder cX7_dropOlder 1 none := rfl
theorem fw_3294 : fe 3294 = .methodLink RX4 91 yX7_tick := rfl
theorem fw_3295 : fe 3295 = .instanceMethod yX7_tick := rfl
theorem fw_3296 : fe 3296 = .selects RX7 yX7_tick yX7_tick := rfl
theorem fw_3297 : fe 3297 = .code yX7_tick cX7_tick 2 none := rfl
theorem fw_3298 : fe 3298 = .methodLink RX7 54 yX7_readOlder := rfl
theorem fw_3300 : fe 3300 = .instanceMethod yX7_readOlder := rfl
theorem fw_3301 : fe 3301 = .code yX7_readOlder cX7_readOlder 2 none := rfl
theorem fw_3302 : fe 3302 = .methodLink RX7 67 yX5_isSignalPlace := rfl
theorem fw_3303 : fe 3303 = .instanceMethod yX5_isSignalPlace := rfl
theorem fw_3304 : fe 3304 = .selects RX5 yX5_isSignalPlace yX5_isSignalPlace := rfl
theorem fw_3305 : fe 3305 = .code yX5_isSignalPlace cX5_isSignalPlace 2 (some .boolean) := rfl
theorem fw_3306 : fe 3306 = .methodLink RX7 80 Lib.Math.min.name := rfl
theorem fw_3307 : fe 3307 = .methodLink RL 66 yX11_count := rfl
theorem fw_3308 : fe 3308 = .instanceMethod yX11_count := rfl
theorem fw_3309 : fe 3309 = .selects RX11 yX11_count yX11_count := rfl
theorem fw_3310 : fe 3310 = .code yX11_count cX11_count 3 (some .int) := rfl
theorem fw_3311 : fe 3311 = .methodLink RL 69 yX11_receiver := rfl
theorem fw_4096 : fe 4096 = .instanceMethod yX11_receiver := rfl
theorem fw_4097 : fe 4097 = .selects RX11 yX11_receiver yX11_receiver := rfl
theorem fw_4098 : fe 4098 = .code yX11_receiver cX11_receiver 2 (some .int) := rfl
theorem fw_4099 : fe 4099 = .methodLink RX11 196 yX4_tell := rfl
theorem fw_4100 : fe 4100 = .instanceMethod yX4_tell := rfl
theorem fw_4101 : fe 4101 = .selects RX4 yX4_tell yX4_tell := rfl
theorem fw_4102 : fe 4102 = .code yX4_tell cX4_tell 3 (some .int) := rfl
theorem fw_4107 : fe 4107 = .code yX12_init cX12_init 2 none := rfl
theorem fw_4108 : fe 4108 = .methodLink RX12 1 objectInit := rfl
theorem fw_4109 : fe 4109 = .fieldLink RX12 7 "TrunkFramerLaw$Draws" "x" "I" := rfl
theorem fw_4113 : fe 4113 = .methodLink RL 23 yX12_next := rfl
theorem fw_4114 : fe 4114 = .instanceMethod yX12_next := rfl
theorem fw_4115 : fe 4115 = .selects RX12 yX12_next yX12_next := rfl
theorem fw_4116 : fe 4116 = .code yX12_next cX12_next 2 (some .int) := rfl
theorem fw_4117 : fe 4117 = .constant RX12 13 (1103515245) := rfl
theorem fw_4118 : fe 4118 = .methodLink RL 120 yL_begins := rfl
theorem fw_4119 : fe 4119 = .static yL_begins := rfl
theorem fw_4120 : fe 4120 = .code yL_begins cL_begins 10 (some .int) := rfl
theorem fw_4121 : fe 4121 = .constantLong RL 29 (119182899770472) := rfl
theorem fw_4122 : fe 4122 = .methodLink RL 31 yL_word := rfl
theorem fw_4123 : fe 4123 = .static yL_word := rfl
theorem fw_4124 : fe 4124 = .code yL_word cL_word 5 none := rfl
theorem fw_4125 : fe 4125 = .constantLong RL 15 (255) := rfl
theorem fw_4126 : fe 4126 = .methodLink RL 17 yL_put := rfl
theorem fw_4127 : fe 4127 = .static yL_put := rfl
theorem fw_4128 : fe 4128 = .code yL_put cL_put 4 none := rfl
theorem fw_4129 : fe 4129 = .constantLong RL 7 (8) := rfl
theorem fw_4130 : fe 4130 = .methodLink RL 9 yX11_key := rfl
theorem fw_4131 : fe 4131 = .instanceMethod yX11_key := rfl
theorem fw_4132 : fe 4132 = .selects RX11 yX11_key yX11_key := rfl
theorem fw_4133 : fe 4133 = .code yX11_key cX11_key 3 (some .int) := rfl
theorem fw_4134 : fe 4134 = .methodLink RX11 48 yX8_append := rfl
theorem fw_4135 : fe 4135 = .instanceMethod yX8_append := rfl
theorem fw_4136 : fe 4136 = .selects RX8 yX8_append yX8_append := rfl
theorem fw_4137 : fe 4137 = .code yX8_append cX8_append 5 (some .int) := rfl
theorem fw_4138 : fe 4138 = .methodLink RX8 19 yX8_byteOf := rfl
theorem fw_4139 : fe 4139 = .static yX8_byteOf := rfl
theorem fw_4140 : fe 4140 = .code yX8_byteOf cX8_byteOf 3 (some .int) := rfl
theorem fw_4141 : fe 4141 = .methodLink RL 35 yL_more := rfl
theorem fw_4142 : fe 4142 = .static yL_more := rfl
theorem fw_4143 : fe 4143 = .code yL_more cL_more 3 none := rfl
theorem fw_4144 : fe 4144 = .constantLong RL 38 (65362681685363) := rfl
theorem fw_4145 : fe 4145 = .constantLong RL 40 (255289420921) := rfl
theorem fw_4146 : fe 4146 = .constantLong RL 42 (65384055338088) := rfl
theorem fw_4147 : fe 4147 = .constantLong RL 44 (16733967548704110) := rfl
theorem fw_4148 : fe 4148 = .constantLong RL 46 (65336743392116) := rfl
theorem fw_4149 : fe 4149 = .constantLong RL 48 (65302602278516) := rfl
theorem fw_4150 : fe 4150 = .constantLong RL 50 (996958567) := rfl
theorem fw_4151 : fe 4151 = .constantLong RL 52 (65384207052391) := rfl
theorem fw_4152 : fe 4152 = .methodLink RL 54 yL_ends := rfl
theorem fw_4153 : fe 4153 = .static yL_ends := rfl
theorem fw_4154 : fe 4154 = .code yL_ends cL_ends 3 none := rfl
theorem fw_4155 : fe 4155 = .methodLink RL 58 yX11_scheme := rfl
theorem fw_4156 : fe 4156 = .instanceMethod yX11_scheme := rfl
theorem fw_4157 : fe 4157 = .selects RX11 yX11_scheme yX11_scheme := rfl
theorem fw_4158 : fe 4158 = .code yX11_scheme cX11_scheme 2 (some .int) := rfl
theorem fw_4159 : fe 4159 = .methodLink RX11 54 yX3_readWhole := rfl
theorem fw_4160 : fe 4160 = .instanceMethod yX3_readWhole := rfl
theorem fw_4161 : fe 4161 = .selects RX3 yX3_readWhole yX3_readWhole := rfl
theorem fw_4162 : fe 4162 = .code yX3_readWhole cX3_readWhole 3 none := rfl
theorem fw_4163 : fe 4163 = .methodLink RX3 25 yX8_copyFrom := rfl
theorem fw_4164 : fe 4164 = .instanceMethod yX8_copyFrom := rfl
theorem fw_4165 : fe 4165 = .selects RX8 yX8_copyFrom yX8_copyFrom := rfl
theorem fw_4166 : fe 4166 = .code yX8_copyFrom cX8_copyFrom 2 none := rfl
theorem fw_4167 : fe 4167 = .methodLink RX8 26 Lib.Math.min.name := rfl
theorem fw_4168 : fe 4168 = .methodLink RX8 32 Lib.Math.max.name := rfl
theorem fw_4169 : fe 4169 = .methodLink RX8 35 arraycopyName := rfl
theorem fw_4170 : fe 4170 = .methodLink RX3 29 yX5_begin := rfl
theorem fw_4171 : fe 4171 = .methodLink RX3 42 yX3_step := rfl
theorem fw_4173 : fe 4173 = .instanceMethod yX3_step := rfl
theorem fw_4174 : fe 4174 = .code yX3_step cX3_step 1 none := rfl
theorem fw_4175 : fe 4175 = .methodLink RX3 111 yX8_at := rfl
theorem fw_4176 : fe 4176 = .instanceMethod yX8_at := rfl
theorem fw_4177 : fe 4177 = .selects RX8 yX8_at yX8_at := rfl
theorem fw_4178 : fe 4178 = .code yX8_at cX8_at 2 (some .int) := rfl
theorem fw_4179 : fe 4179 = .methodLink RX3 139 yX3_isBlank := rfl
theorem fw_4180 : fe 4180 = .static yX3_isBlank := rfl
theorem fw_4181 : fe 4181 = .code yX3_isBlank cX3_isBlank 1 (some .boolean) := rfl
theorem fw_4182 : fe 4182 = .methodLink RX3 143 yX3_isLetter := rfl
theorem fw_4183 : fe 4183 = .static yX3_isLetter := rfl
theorem fw_4184 : fe 4184 = .code yX3_isLetter cX3_isLetter 1 (some .boolean) := rfl
theorem fw_4185 : fe 4185 = .methodLink RX3 146 yX3_isDigit := rfl
theorem fw_4186 : fe 4186 = .static yX3_isDigit := rfl
theorem fw_4187 : fe 4187 = .code yX3_isDigit cX3_isDigit 1 (some .boolean) := rfl
theorem fw_4188 : fe 4188 = .methodLink RX3 48 yX3_readStatement := rfl
theorem fw_4190 : fe 4190 = .instanceMethod yX3_readStatement := rfl
theorem fw_4191 : fe 4191 = .code yX3_readStatement cX3_readStatement 2 none := rfl
theorem fw_4193 : fe 4193 = .methodLink RX3 59 yX3_isWord := rfl
theorem fw_4195 : fe 4195 = .instanceMethod yX3_isWord := rfl
theorem fw_4196 : fe 4196 = .code yX3_isWord cX3_isWord 3 (some .boolean) := rfl
theorem fw_4197 : fe 4197 = .methodLink RX3 127 yJ0_length_8abf5 := rfl
theorem fw_4198 : fe 4198 = .instanceMethod yJ0_length_8abf5 := rfl
theorem fw_4199 : fe 4199 = .selects RJ0 yJ0_length_8abf5 yJ0_length_8abf5 := rfl
theorem fw_4200 : fe 4200 = .code yJ0_length_8abf5 cJ0_length_8abf5 1 (some .int) := rfl
theorem fw_4201 : fe 4201 = .methodLink RJ0 335 yJ0_coder_7d493 := rfl
theorem fw_4202 : fe 4202 = .instanceMethod yJ0_coder_7d493 := rfl
theorem fw_4203 : fe 4203 = .selects RJ0 yJ0_coder_7d493 yJ0_coder_7d493 := rfl
theorem fw_4204 : fe 4204 = .code yJ0_coder_7d493 cJ0_coder_7d493 1 (some .byte) := rfl
theorem fw_4205 : fe 4205 = .fieldLink RJ0 38 "java/lang/String" "COMPACT_STRINGS" "Z" := rfl
theorem fw_4207 : fe 4207 = .methodLink RX3 132 yJ0_charAt_5068e := rfl
theorem fw_4208 : fe 4208 = .instanceMethod yJ0_charAt_5068e := rfl
theorem fw_4209 : fe 4209 = .selects RJ0 yJ0_charAt_5068e yJ0_charAt_5068e := rfl
theorem fw_4210 : fe 4210 = .code yJ0_charAt_5068e cJ0_charAt_5068e 2 (some .char) := rfl
theorem fw_4211 : fe 4211 = .methodLink RJ0 492 yJ0_isLatin1_aae02 := rfl
theorem fw_4212 : fe 4212 = .instanceMethod yJ0_isLatin1_aae02 := rfl
theorem fw_4213 : fe 4213 = .selects RJ0 yJ0_isLatin1_aae02 yJ0_isLatin1_aae02 := rfl
theorem fw_4214 : fe 4214 = .code yJ0_isLatin1_aae02 cJ0_isLatin1_aae02 1 (some .boolean) := rfl
theorem fw_4215 : fe 4215 = .methodLink RJ0 495 yJ1_charAt_3b067 := rfl
theorem fw_4216 : fe 4216 = .static yJ1_charAt_3b067 := rfl
theorem fw_4217 : fe 4217 = .code yJ1_charAt_3b067 cJ1_charAt_3b067 2 (some .char) := rfl
theorem fw_4218 : fe 4218 = .methodLink RJ1 9 yJ0_checkIndex_df160 := rfl
theorem fw_4219 : fe 4219 = .static yJ0_checkIndex_df160 := rfl
theorem fw_4220 : fe 4220 = .code yJ0_checkIndex_df160 cJ0_checkIndex_df160 2 none := rfl
theorem fw_4221 : fe 4221 = .fieldLink RJ0 1053 "jdk/internal/util/Preconditions" "SIOOBE_FORMATTER" "Ljava/util/function/BiFunction;" := rfl
theorem fw_4223 : fe 4223 = .methodLink RJ0 1059 yJ3_checkIndex_8e157 := rfl
theorem fw_4224 : fe 4224 = .static yJ3_checkIndex_8e157 := rfl
theorem fw_4225 : fe 4225 = .code yJ3_checkIndex_8e157 cJ3_checkIndex_8e157 3 (some .int) := rfl
theorem fw_4226 : fe 4226 = .methodLink RJ0 498 yJ2_charAt_3b067 := rfl
theorem fw_4227 : fe 4227 = .static yJ2_charAt_3b067 := rfl
theorem fw_4228 : fe 4228 = .code yJ2_charAt_3b067 cJ2_charAt_3b067 2 (some .char) := rfl
theorem fw_4229 : fe 4229 = .methodLink RJ2 67 yJ2_checkIndex_2214a := rfl
theorem fw_4230 : fe 4230 = .static yJ2_checkIndex_2214a := rfl
theorem fw_4231 : fe 4231 = .code yJ2_checkIndex_2214a cJ2_checkIndex_2214a 2 none := rfl
theorem fw_4232 : fe 4232 = .methodLink RJ2 48 yJ2_length_9d52b := rfl
theorem fw_4233 : fe 4233 = .static yJ2_length_9d52b := rfl
theorem fw_4234 : fe 4234 = .code yJ2_length_9d52b cJ2_length_9d52b 1 (some .int) := rfl
theorem fw_4235 : fe 4235 = .methodLink RJ2 414 yJ0_checkIndex_df160 := rfl
theorem fw_4236 : fe 4236 = .methodLink RJ2 71 yJ2_getChar_3b067 := rfl
theorem fw_4237 : fe 4237 = .static yJ2_getChar_3b067 := rfl
theorem fw_4238 : fe 4238 = .code yJ2_getChar_3b067 cJ2_getChar_3b067 2 (some .char) := rfl
theorem fw_4239 : fe 4239 = .fieldLink RJ2 44 "java/lang/StringUTF16" "$assertionsDisabled" "Z" := rfl
theorem fw_4241 : fe 4241 = .fieldLink RJ2 59 "java/lang/StringUTF16" "HI_BYTE_SHIFT" "I" := rfl
theorem fw_4243 : fe 4243 = .fieldLink RJ2 63 "java/lang/StringUTF16" "LO_BYTE_SHIFT" "I" := rfl
theorem fw_4245 : fe 4245 = .methodLink RX3 63 yX3_readRow := rfl
theorem fw_4247 : fe 4247 = .instanceMethod yX3_readRow := rfl
theorem fw_4248 : fe 4248 = .code yX3_readRow cX3_readRow 8 none := rfl
theorem fw_4249 : fe 4249 = .methodLink RX3 81 yX3_misplace := rfl
theorem fw_4251 : fe 4251 = .instanceMethod yX3_misplace := rfl
theorem fw_4252 : fe 4252 = .code yX3_misplace cX3_misplace 1 none := rfl
theorem fw_4253 : fe 4253 = .methodLink RX3 118 yX3_roleOf := rfl
theorem fw_4254 : fe 4254 = .static yX3_roleOf := rfl
theorem fw_4255 : fe 4255 = .code yX3_roleOf cX3_roleOf 1 (some .int) := rfl
theorem fw_4256 : fe 4256 = .methodLink RX3 115 yX3_impossible := rfl
theorem fw_4258 : fe 4258 = .instanceMethod yX3_impossible := rfl
theorem fw_4259 : fe 4259 = .code yX3_impossible cX3_impossible 2 none := rfl
theorem fw_4261 : fe 4261 = .methodLink RX3 69 yX3_readNumber := rfl
theorem fw_4263 : fe 4263 = .instanceMethod yX3_readNumber := rfl
theorem fw_4264 : fe 4264 = .code yX3_readNumber cX3_readNumber 6 (some .int) := rfl
theorem fw_4265 : fe 4265 = .methodLink RX3 78 yX3_readSingle := rfl
theorem fw_4267 : fe 4267 = .instanceMethod yX3_readSingle := rfl
theorem fw_4268 : fe 4268 = .code yX3_readSingle cX3_readSingle 1 none := rfl
theorem fw_4276 : fe 4276 = .methodLink RX3 51 yX5_derive := rfl
theorem fw_4277 : fe 4277 = .methodLink RX11 77 yX5_copyFrom := rfl
theorem fw_4278 : fe 4278 = .instanceMethod yX5_copyFrom := rfl
theorem fw_4279 : fe 4279 = .selects RX5 yX5_copyFrom yX5_copyFrom := rfl
theorem fw_4280 : fe 4280 = .code yX5_copyFrom cX5_copyFrom 2 none := rfl
theorem fw_4281 : fe 4281 = .methodLink RX5 67 arraycopyName := rfl
theorem fw_4282 : fe 4282 = .methodLink RX11 86 yX9_restart := rfl
theorem fw_4283 : fe 4283 = .instanceMethod yX9_restart := rfl
theorem fw_4284 : fe 4284 = .selects RX9 yX9_restart yX9_restart := rfl
theorem fw_4285 : fe 4285 = .code yX9_restart cX9_restart 2 none := rfl
theorem fw_4286 : fe 4286 = .methodLink RX9 42 yX4_begin := rfl
theorem fw_4287 : fe 4287 = .methodLink RL 62 yX11_fault := rfl
theorem fw_4288 : fe 4288 = .instanceMethod yX11_fault := rfl
theorem fw_4289 : fe 4289 = .selects RX11 yX11_fault yX11_fault := rfl
theorem fw_4290 : fe 4290 = .code yX11_fault cX11_fault 2 (some .int) := rfl
theorem fw_4291 : fe 4291 = .arrayClass .long := rfl
theorem fw_4292 : fe 4292 = .methodLink RL 77 yL_role := rfl
theorem fw_4293 : fe 4293 = .static yL_role := rfl
theorem fw_4294 : fe 4294 = .codeWith yL_role cL_role 3 (some .int) [(0, 5, 6, 75)] := rfl
theorem fw_4295 : fe 4295 = .classLink RL 75 "java/util/NoSuchElementException" := rfl
theorem fw_4296 : fe 4296 = .methodLink RL 72 yX11_role := rfl
theorem fw_4297 : fe 4297 = .instanceMethod yX11_role := rfl
theorem fw_4298 : fe 4298 = .selects RX11 yX11_role yX11_role := rfl
theorem fw_4299 : fe 4299 = .code yX11_role cX11_role 3 (some .int) := rfl
theorem fw_4300 : fe 4300 = .methodLink RX11 174 yX5_roleAt := rfl
theorem fw_4301 : fe 4301 = .classLink RX11 178 "java/util/NoSuchElementException" := rfl
theorem fw_5150 : fe 5150 = .methodLink RL 136 yL_isSent := rfl
theorem fw_5151 : fe 5151 = .static yL_isSent := rfl
theorem fw_5152 : fe 5152 = .code yL_isSent cL_isSent 8 (some .boolean) := rfl
theorem fw_5153 : fe 5153 = .methodLink RL 80 yL_fixed := rfl
theorem fw_5154 : fe 5154 = .static yL_fixed := rfl
theorem fw_5155 : fe 5155 = .code yL_fixed cL_fixed 3 (some .int) := rfl
theorem fw_5156 : fe 5156 = .methodLink RL 83 yX11_bit := rfl
theorem fw_5157 : fe 5157 = .instanceMethod yX11_bit := rfl
theorem fw_5158 : fe 5158 = .selects RX11 yX11_bit yX11_bit := rfl
theorem fw_5159 : fe 5159 = .code yX11_bit cX11_bit 2 (some .int) := rfl
theorem fw_5160 : fe 5160 = .methodLink RX11 185 yX2_at := rfl
theorem fw_5161 : fe 5161 = .methodLink RL 86 yX11_checks := rfl
theorem fw_5162 : fe 5162 = .instanceMethod yX11_checks := rfl
theorem fw_5163 : fe 5163 = .selects RX11 yX11_checks yX11_checks := rfl
theorem fw_5164 : fe 5164 = .code yX11_checks cX11_checks 3 (some .int) := rfl
theorem fw_5165 : fe 5165 = .methodLink RX11 188 yX5_checksOf := rfl
theorem fw_5166 : fe 5166 = .methodLink RL 140 yL_isTrue := rfl
theorem fw_5167 : fe 5167 = .static yL_isTrue := rfl
theorem fw_5168 : fe 5168 = .code yL_isTrue cL_isTrue 8 (some .boolean) := rfl
theorem fw_5169 : fe 5169 = .methodLink RL 89 yX11_candidate := rfl
theorem fw_5170 : fe 5170 = .instanceMethod yX11_candidate := rfl
theorem fw_5171 : fe 5171 = .selects RX11 yX11_candidate yX11_candidate := rfl
theorem fw_5172 : fe 5172 = .code yX11_candidate cX11_candidate 3 (some .int) := rfl
theorem fw_5173 : fe 5173 = .methodLink RX11 209 yX1_nth := rfl
theorem fw_5174 : fe 5174 = .methodLink RL 92 yX11_fits := rfl
theorem fw_5175 : fe 5175 = .instanceMethod yX11_fits := rfl
theorem fw_5176 : fe 5176 = .selects RX11 yX11_fits yX11_fits := rfl
theorem fw_5177 : fe 5177 = .code yX11_fits cX11_fits 6 (some .int) := rfl
theorem fw_5178 : fe 5178 = .methodLink RX11 279 yX1_begin := rfl
theorem fw_5179 : fe 5179 = .methodLink RX11 283 yX1_follow := rfl
theorem fw_5180 : fe 5180 = .methodLink RL 96 yX11_locks := rfl
theorem fw_5181 : fe 5181 = .instanceMethod yX11_locks := rfl
theorem fw_5182 : fe 5182 = .selects RX11 yX11_locks yX11_locks := rfl
theorem fw_5183 : fe 5183 = .code yX11_locks cX11_locks 5 (some .int) := rfl
theorem fw_5184 : fe 5184 = .methodLink RX11 269 yX4_begin := rfl
theorem fw_5185 : fe 5185 = .methodLink RX11 272 yX4_take := rfl
theorem fw_5186 : fe 5186 = .methodLink RL 99 yX11_struck := rfl
theorem fw_5187 : fe 5187 = .instanceMethod yX11_struck := rfl
theorem fw_5188 : fe 5188 = .selects RX11 yX11_struck yX11_struck := rfl
theorem fw_5189 : fe 5189 = .code yX11_struck cX11_struck 8 (some .int) := rfl
theorem fw_5190 : fe 5190 = .methodLink RX11 259 yX5_framesStarted := rfl
theorem fw_5191 : fe 5191 = .methodLink RX11 262 yX5_isOther := rfl
theorem fw_5192 : fe 5192 = .methodLink RX11 266 yX5_placeBehind := rfl
theorem fw_5193 : fe 5193 = .methodLink RL 102 yX11_from := rfl
theorem fw_5194 : fe 5194 = .instanceMethod yX11_from := rfl
theorem fw_5195 : fe 5195 = .selects RX11 yX11_from yX11_from := rfl
theorem fw_5196 : fe 5196 = .code yX11_from cX11_from 6 (some .int) := rfl
theorem fw_5197 : fe 5197 = .methodLink RL 144 yL_areFrames := rfl
theorem fw_5198 : fe 5198 = .static yL_areFrames := rfl
theorem fw_5199 : fe 5199 = .code yL_areFrames cL_areFrames 2 (some .boolean) := rfl
theorem fw_5200 : fe 5200 = .methodLink RL 105 yX11_frame := rfl
theorem fw_5201 : fe 5201 = .instanceMethod yX11_frame := rfl
theorem fw_5202 : fe 5202 = .selects RX11 yX11_frame yX11_frame := rfl
theorem fw_5203 : fe 5203 = .code yX11_frame cX11_frame 3 (some .int) := rfl
theorem fw_5204 : fe 5204 = .methodLink RX11 232 yX11_channelOnes := rfl
theorem fw_5206 : fe 5206 = .instanceMethod yX11_channelOnes := rfl
theorem fw_5207 : fe 5207 = .code yX11_channelOnes cX11_channelOnes 5 (some .int) := rfl
theorem fw_5208 : fe 5208 = .methodLink RX11 235 yX11_channelNumber := rfl
theorem fw_5210 : fe 5210 = .instanceMethod yX11_channelNumber := rfl
theorem fw_5211 : fe 5211 = .code yX11_channelNumber cX11_channelNumber 7 (some .int) := rfl
theorem fw_5212 : fe 5212 = .methodLink RL 148 yL_isLinked := rfl
theorem fw_5213 : fe 5213 = .static yL_isLinked := rfl
theorem fw_5214 : fe 5214 = .code yL_isLinked cL_isLinked 6 (some .boolean) := rfl
theorem fw_5215 : fe 5215 = .methodLink RL 108 yX11_value := rfl
theorem fw_5216 : fe 5216 = .instanceMethod yX11_value := rfl
theorem fw_5217 : fe 5217 = .selects RX11 yX11_value yX11_value := rfl
theorem fw_5218 : fe 5218 = .code yX11_value cX11_value 2 (some .int) := rfl
theorem fw_5219 : fe 5219 = .methodLink RX11 255 yX0_nth := rfl
theorem fw_5220 : fe 5220 = .instanceMethod yX0_nth := rfl
theorem fw_5221 : fe 5221 = .selects RX0 yX0_nth yX0_nth := rfl
theorem fw_5222 : fe 5222 = .code yX0_nth cX0_nth 2 (some .int) := rfl
theorem fw_5223 : fe 5223 = .methodLink RL 111 Lib.Math.min.name := rfl
theorem fw_5242 : fe 5242 = .fieldLink RJ0 9 "java/lang/String" "value" "[B" := rfl
theorem fw_5243 : fe 5243 = .fieldLink RJ0 15 "java/lang/String" "coder" "B" := rfl
