def q_wsX00 : List Nat := [2116, 2118, 2120, 2122, 2124]
theorem e_wsX00 : q_wsX00.map fe = wsX00 := by decide +kernel
def q_wsX0_begin : List Nat := 2144 :: (([2110, 2112, 2145, 2146, 2147, 1034, 2148, 2114, 2115]) ++ (q_wsX00))
set_option maxRecDepth 100000 in
theorem e_wsX0_begin : q_wsX0_begin.map fe = wsX0_begin := ce fw_2144 (ca (ce fw_2110 (ce fw_2112 (ce fw_2145 (ce fw_2146 (ce fw_2147 (ce fw_1034 (ce fw_2148 (ce fw_2114 (ce fw_2115 (cn)))))))))) (e_wsX00))
def q_wsX0_forget : List Nat := 2148 :: (([2114, 2115]) ++ (q_wsX00))
set_option maxRecDepth 100000 in
theorem e_wsX0_forget : q_wsX0_forget.map fe = wsX0_forget := ce fw_2148 (ca (ce fw_2114 (ce fw_2115 (cn))) (e_wsX00))
def q_wsX0_take : List Nat := 3281 :: (([2114, 2115, 2112, 3282, 3284, 13, 1034, 3285, 2109, 2110, 2145, 2146, 2147, 2148]) ++ (q_wsX00))
set_option maxRecDepth 100000 in
theorem e_wsX0_take : q_wsX0_take.map fe = wsX0_take := ce fw_3281 (ca (ce fw_2114 (ce fw_2115 (ce fw_2112 (ce fw_3282 (ce fw_3284 (ce fw_13 (ce fw_1034 (ce fw_3285 (ce fw_2109 (ce fw_2110 (ce fw_2145 (ce fw_2146 (ce fw_2147 (ce fw_2148 (cn))))))))))))))) (e_wsX00))
def q_wsX0_keep : List Nat := 3285 :: (([2109, 2110]) ++ (q_wsX00))
set_option maxRecDepth 100000 in
theorem e_wsX0_keep : q_wsX0_keep.map fe = wsX0_keep := ce fw_3285 (ca (ce fw_2109 (ce fw_2110 (cn))) (e_wsX00))
def q_wsX10 : List Nat := [1238, 1240, 1242, 1244, 1246, 1248]
theorem e_wsX10 : q_wsX10.map fe = wsX10 := by decide +kernel
def q_wsX50 : List Nat := [1132, 1134, 1136, 1138, 1140, 1142, 1144, 1146, 1148, 1150, 1152, 1154, 1156, 1158, 1160, 1162]
theorem e_wsX50 : q_wsX50.map fe = wsX50 := by decide +kernel
def q_wsX1_follow : List Nat := 3196 :: ((([1235, 1128, 1126, 1236, 1087, 1229, 1230, 1233, 1078, 3197, 3198, 1039, 3199, 3200, 3201, 3202, 3203, 3204, 3205, 1027, 3206, 1086]) ++ (q_wsX10)) ++ (q_wsX50))
set_option maxRecDepth 100000 in
theorem e_wsX1_follow : q_wsX1_follow.map fe = wsX1_follow := ce fw_3196 (ca (ca (ce fw_1235 (ce fw_1128 (ce fw_1126 (ce fw_1236 (ce fw_1087 (ce fw_1229 (ce fw_1230 (ce fw_1233 (ce fw_1078 (ce fw_3197 (ce fw_3198 (ce fw_1039 (ce fw_3199 (ce fw_3200 (ce fw_3201 (ce fw_3202 (ce fw_3203 (ce fw_3204 (ce fw_3205 (ce fw_1027 (ce fw_3206 (ce fw_1086 (cn))))))))))))))))))))))) (e_wsX10)) (e_wsX50))
def q_wsJ6_bitCount_0f7a4 : List Nat := 3199 :: ([3200, 3201, 3202])
set_option maxRecDepth 100000 in
theorem e_wsJ6_bitCount_0f7a4 : q_wsJ6_bitCount_0f7a4.map fe = wsJ6_bitCount_0f7a4 := ce fw_3199 (ce fw_3200 (ce fw_3201 (ce fw_3202 (cn))))
def q_wsX5_placeBehind : List Nat := 3206 :: (([1086]) ++ (q_wsX50))
set_option maxRecDepth 100000 in
theorem e_wsX5_placeBehind : q_wsX5_placeBehind.map fe = wsX5_placeBehind := ce fw_3206 (ca (ce fw_1086 (cn)) (e_wsX50))
def q_wsX1_lone : List Nat := 3218 :: ((([1237, 3219, 3220, 3221, 1032, 3222, 1230, 1087, 1078, 1229]) ++ (q_wsX10)) ++ (q_wsX50))
set_option maxRecDepth 100000 in
theorem e_wsX1_lone : q_wsX1_lone.map fe = wsX1_lone := ce fw_3218 (ca (ca (ce fw_1237 (ce fw_3219 (ce fw_3220 (ce fw_3221 (ce fw_1032 (ce fw_3222 (ce fw_1230 (ce fw_1087 (ce fw_1078 (ce fw_1229 (cn))))))))))) (e_wsX10)) (e_wsX50))
def q_wsX1_nth : List Nat := 3222 :: ((([1230, 1087, 1078, 1229]) ++ (q_wsX10)) ++ (q_wsX50))
set_option maxRecDepth 100000 in
theorem e_wsX1_nth : q_wsX1_nth.map fe = wsX1_nth := ce fw_3222 (ca (ca (ce fw_1230 (ce fw_1087 (ce fw_1078 (ce fw_1229 (cn))))) (e_wsX10)) (e_wsX50))
def q_wsX1_fixedHeard_r1 : List Nat := [1233, 3215, 3216, 3217, 1032, 3218, 1237, 3219, 3220, 3221, 3222, 1230, 1087, 1078, 1229, 3223, 3224, 3225, 1027, 3226, 1086, 1127, 1129, 3227]
set_option maxRecDepth 100000 in
theorem e_wsX1_fixedHeard_r1 : q_wsX1_fixedHeard_r1.map fe = wsX1_fixedHeard_r1 := ce fw_1233 (ce fw_3215 (ce fw_3216 (ce fw_3217 (ce fw_1032 (ce fw_3218 (ce fw_1237 (ce fw_3219 (ce fw_3220 (ce fw_3221 (ce fw_3222 (ce fw_1230 (ce fw_1087 (ce fw_1078 (ce fw_1229 (ce fw_3223 (ce fw_3224 (ce fw_3225 (ce fw_1027 (ce fw_3226 (ce fw_1086 (ce fw_1127 (ce fw_1129 (ce fw_3227 (cn))))))))))))))))))))))))
def q_wsX1_fixedHeard_r2 : List Nat := [3228, 3229, 3230, 1077, 3231, 3198, 1039, 3199, 3200, 3201, 3202]
set_option maxRecDepth 100000 in
theorem e_wsX1_fixedHeard_r2 : q_wsX1_fixedHeard_r2.map fe = wsX1_fixedHeard_r2 := ce fw_3228 (ce fw_3229 (ce fw_3230 (ce fw_1077 (ce fw_3231 (ce fw_3198 (ce fw_1039 (ce fw_3199 (ce fw_3200 (ce fw_3201 (ce fw_3202 (cn)))))))))))
def q_wsX1_fixedHeard : List Nat := 3214 :: ((((q_wsX1_fixedHeard_r1) ++ (q_wsX1_fixedHeard_r2)) ++ (q_wsX10)) ++ (q_wsX50))
set_option maxRecDepth 100000 in
theorem e_wsX1_fixedHeard : q_wsX1_fixedHeard.map fe = wsX1_fixedHeard := ce fw_3214 (ca (ca (ca (e_wsX1_fixedHeard_r1) (e_wsX1_fixedHeard_r2)) (e_wsX10)) (e_wsX50))
def q_wsX5_fixedStarted : List Nat := 3226 :: (([1086, 1127, 1129, 3227, 3228, 3229, 1027, 3230, 1077, 3231, 3198, 1039, 3199, 3200, 3201, 3202]) ++ (q_wsX50))
set_option maxRecDepth 100000 in
theorem e_wsX5_fixedStarted : q_wsX5_fixedStarted.map fe = wsX5_fixedStarted := ce fw_3226 (ca (ce fw_1086 (ce fw_1127 (ce fw_1129 (ce fw_3227 (ce fw_3228 (ce fw_3229 (ce fw_1027 (ce fw_3230 (ce fw_1077 (ce fw_3231 (ce fw_3198 (ce fw_1039 (ce fw_3199 (ce fw_3200 (ce fw_3201 (ce fw_3202 (cn))))))))))))))))) (e_wsX50))
def q_wsX3_init_r1 : List Nat := [2252, 1055, 1056, 2253, 1064, 1027, 2257, 2255, 1167, 1028, 2259, 2254, 1066, 1067, 1068, 1165, 1084, 1069, 1070, 1071, 1072, 1077, 1086, 1091]
set_option maxRecDepth 100000 in
theorem e_wsX3_init_r1 : q_wsX3_init_r1.map fe = wsX3_init_r1 := ce fw_2252 (ce fw_1055 (ce fw_1056 (ce fw_2253 (ce fw_1064 (ce fw_1027 (ce fw_2257 (ce fw_2255 (ce fw_1167 (ce fw_1028 (ce fw_2259 (ce fw_2254 (ce fw_1066 (ce fw_1067 (ce fw_1068 (ce fw_1165 (ce fw_1084 (ce fw_1069 (ce fw_1070 (ce fw_1071 (ce fw_1072 (ce fw_1077 (ce fw_1086 (ce fw_1091 (cn))))))))))))))))))))))))
def q_wsX3_init_r2 : List Nat := [1094, 1097, 1100, 1104, 1108, 1112, 1073, 1074, 1075, 1076, 1117, 1120, 1122, 1127, 1129, 1131, 1169, 1170, 1171, 1189, 1172, 1178]
set_option maxRecDepth 100000 in
theorem e_wsX3_init_r2 : q_wsX3_init_r2.map fe = wsX3_init_r2 := ce fw_1094 (ce fw_1097 (ce fw_1100 (ce fw_1104 (ce fw_1108 (ce fw_1112 (ce fw_1073 (ce fw_1074 (ce fw_1075 (ce fw_1076 (ce fw_1117 (ce fw_1120 (ce fw_1122 (ce fw_1127 (ce fw_1129 (ce fw_1131 (ce fw_1169 (ce fw_1170 (ce fw_1171 (ce fw_1189 (ce fw_1172 (ce fw_1178 (cn))))))))))))))))))))))
def q_wsX30 : List Nat := [2267, 2269, 2271, 2273, 2275, 2277, 2279]
theorem e_wsX30 : q_wsX30.map fe = wsX30 := by decide +kernel
def q_wsX80 : List Nat := [1180, 1182, 1184, 1186]
theorem e_wsX80 : q_wsX80.map fe = wsX80 := by decide +kernel
def q_wsX3_init : List Nat := 2251 :: (((((q_wsX3_init_r1) ++ (q_wsX3_init_r2)) ++ (q_wsX50)) ++ (q_wsX30)) ++ (q_wsX80))
set_option maxRecDepth 100000 in
theorem e_wsX3_init : q_wsX3_init.map fe = wsX3_init := ce fw_2251 (ca (ca (ca (ca (e_wsX3_init_r1) (e_wsX3_init_r2)) (e_wsX50)) (e_wsX30)) (e_wsX80))
def q_wsX5_init_r1 : List Nat := [1068, 1055, 1056, 1165, 1084, 1069, 1070, 1071, 1027, 1072, 1077, 1086, 1091, 1094, 1097, 1100, 1104, 1108, 1112, 1073, 1074, 1075, 1076, 1117]
set_option maxRecDepth 100000 in
theorem e_wsX5_init_r1 : q_wsX5_init_r1.map fe = wsX5_init_r1 := ce fw_1068 (ce fw_1055 (ce fw_1056 (ce fw_1165 (ce fw_1084 (ce fw_1069 (ce fw_1070 (ce fw_1071 (ce fw_1027 (ce fw_1072 (ce fw_1077 (ce fw_1086 (ce fw_1091 (ce fw_1094 (ce fw_1097 (ce fw_1100 (ce fw_1104 (ce fw_1108 (ce fw_1112 (ce fw_1073 (ce fw_1074 (ce fw_1075 (ce fw_1076 (ce fw_1117 (cn))))))))))))))))))))))))
def q_wsX5_init_r2 : List Nat := [1120, 1122, 1127, 1129, 1131]
set_option maxRecDepth 100000 in
theorem e_wsX5_init_r2 : q_wsX5_init_r2.map fe = wsX5_init_r2 := ce fw_1120 (ce fw_1122 (ce fw_1127 (ce fw_1129 (ce fw_1131 (cn)))))
def q_wsX5_init : List Nat := 1067 :: (((q_wsX5_init_r1) ++ (q_wsX5_init_r2)) ++ (q_wsX50))
set_option maxRecDepth 100000 in
theorem e_wsX5_init : q_wsX5_init.map fe = wsX5_init := ce fw_1067 (ca (ca (e_wsX5_init_r1) (e_wsX5_init_r2)) (e_wsX50))
def q_wsX8_init : List Nat := 1170 :: (([1171, 1055, 1056, 1189, 1172, 1178]) ++ (q_wsX80))
set_option maxRecDepth 100000 in
theorem e_wsX8_init : q_wsX8_init.map fe = wsX8_init := ce fw_1170 (ca (ce fw_1171 (ce fw_1055 (ce fw_1056 (ce fw_1189 (ce fw_1172 (ce fw_1178 (cn))))))) (e_wsX80))
def q_wsX3_readWhole_r1 : List Nat := [2259, 2257, 2260, 2262, 2266, 2264, 4163, 4164, 4165, 1028, 4166, 1173, 4167, 3106, 1036, 3107, 4168, 2201, 2202, 1172, 4169, 3110, 3109, 1040]
set_option maxRecDepth 100000 in
theorem e_wsX3_readWhole_r1 : q_wsX3_readWhole_r1.map fe = wsX3_readWhole_r1 := ce fw_2259 (ce fw_2257 (ce fw_2260 (ce fw_2262 (ce fw_2266 (ce fw_2264 (ce fw_4163 (ce fw_4164 (ce fw_4165 (ce fw_1028 (ce fw_4166 (ce fw_1173 (ce fw_4167 (ce fw_3106 (ce fw_1036 (ce fw_3107 (ce fw_4168 (ce fw_2201 (ce fw_2202 (ce fw_1172 (ce fw_4169 (ce fw_3110 (ce fw_3109 (ce fw_1040 (cn))))))))))))))))))))))))
def q_wsX3_readWhole_r2 : List Nat := [1177, 1178, 4170, 1070, 1071, 1027, 1072, 1077, 1084, 1086, 1091, 1094, 1097, 1100, 1104, 1108, 1112, 1073, 1074, 1075, 1076, 1117, 1120, 1122]
set_option maxRecDepth 100000 in
theorem e_wsX3_readWhole_r2 : q_wsX3_readWhole_r2.map fe = wsX3_readWhole_r2 := ce fw_1177 (ce fw_1178 (ce fw_4170 (ce fw_1070 (ce fw_1071 (ce fw_1027 (ce fw_1072 (ce fw_1077 (ce fw_1084 (ce fw_1086 (ce fw_1091 (ce fw_1094 (ce fw_1097 (ce fw_1100 (ce fw_1104 (ce fw_1108 (ce fw_1112 (ce fw_1073 (ce fw_1074 (ce fw_1075 (ce fw_1076 (ce fw_1117 (ce fw_1120 (ce fw_1122 (cn))))))))))))))))))))))))
def q_wsX3_readWhole_r3 : List Nat := [1127, 1129, 1131, 4171, 4173, 16, 1037, 4174, 2265, 1175, 4175, 4176, 4177, 4178, 4179, 4180, 4181, 4182, 4183, 4184, 4185, 4186, 4187, 4188]
set_option maxRecDepth 100000 in
theorem e_wsX3_readWhole_r3 : q_wsX3_readWhole_r3.map fe = wsX3_readWhole_r3 := ce fw_1127 (ce fw_1129 (ce fw_1131 (ce fw_4171 (ce fw_4173 (ce fw_16 (ce fw_1037 (ce fw_4174 (ce fw_2265 (ce fw_1175 (ce fw_4175 (ce fw_4176 (ce fw_4177 (ce fw_4178 (ce fw_4179 (ce fw_4180 (ce fw_4181 (ce fw_4182 (ce fw_4183 (ce fw_4184 (ce fw_4185 (ce fw_4186 (ce fw_4187 (ce fw_4188 (cn))))))))))))))))))))))))
def q_wsX3_readWhole_r4 : List Nat := [4190, 17, 4191, 1105, 1109, 4193, 4195, 18, 4196, 4197, 4198, 4199, 1041, 4200, 5242, 4201, 4202, 4203, 4204, 4205, 5243, 4207, 4208, 4209]
set_option maxRecDepth 100000 in
theorem e_wsX3_readWhole_r4 : q_wsX3_readWhole_r4.map fe = wsX3_readWhole_r4 := ce fw_4190 (ce fw_17 (ce fw_4191 (ce fw_1105 (ce fw_1109 (ce fw_4193 (ce fw_4195 (ce fw_18 (ce fw_4196 (ce fw_4197 (ce fw_4198 (ce fw_4199 (ce fw_1041 (ce fw_4200 (ce fw_5242 (ce fw_4201 (ce fw_4202 (ce fw_4203 (ce fw_4204 (ce fw_4205 (ce fw_5243 (ce fw_4207 (ce fw_4208 (ce fw_4209 (cn))))))))))))))))))))))))
def q_wsX3_readWhole_r5 : List Nat := [4210, 4211, 4212, 4213, 4214, 4215, 4216, 1042, 4217, 4218, 4219, 4220, 4221, 4223, 4224, 1043, 4225, 4226, 4227, 1044, 4228, 4229, 4230, 4231]
set_option maxRecDepth 100000 in
theorem e_wsX3_readWhole_r5 : q_wsX3_readWhole_r5.map fe = wsX3_readWhole_r5 := ce fw_4210 (ce fw_4211 (ce fw_4212 (ce fw_4213 (ce fw_4214 (ce fw_4215 (ce fw_4216 (ce fw_1042 (ce fw_4217 (ce fw_4218 (ce fw_4219 (ce fw_4220 (ce fw_4221 (ce fw_4223 (ce fw_4224 (ce fw_1043 (ce fw_4225 (ce fw_4226 (ce fw_4227 (ce fw_1044 (ce fw_4228 (ce fw_4229 (ce fw_4230 (ce fw_4231 (cn))))))))))))))))))))))))
def q_wsX3_readWhole_r6 : List Nat := [4232, 4233, 4234, 4235, 4236, 4237, 4238, 4239, 4241, 4243, 4245, 4247, 19, 4248, 1085, 1089, 4249, 4251, 20, 4252, 4253, 4254, 4255, 4256]
set_option maxRecDepth 100000 in
theorem e_wsX3_readWhole_r6 : q_wsX3_readWhole_r6.map fe = wsX3_readWhole_r6 := ce fw_4232 (ce fw_4233 (ce fw_4234 (ce fw_4235 (ce fw_4236 (ce fw_4237 (ce fw_4238 (ce fw_4239 (ce fw_4241 (ce fw_4243 (ce fw_4245 (ce fw_4247 (ce fw_19 (ce fw_4248 (ce fw_1085 (ce fw_1089 (ce fw_4249 (ce fw_4251 (ce fw_20 (ce fw_4252 (ce fw_4253 (ce fw_4254 (ce fw_4255 (ce fw_4256 (cn))))))))))))))))))))))))
def q_wsX3_readWhole_r7 : List Nat := [4258, 21, 4259, 4261, 4263, 22, 4264, 4265, 4267, 23, 4268, 1079, 1092, 1095, 1098, 1102, 1113, 4276]
set_option maxRecDepth 100000 in
theorem e_wsX3_readWhole_r7 : q_wsX3_readWhole_r7.map fe = wsX3_readWhole_r7 := ce fw_4258 (ce fw_21 (ce fw_4259 (ce fw_4261 (ce fw_4263 (ce fw_22 (ce fw_4264 (ce fw_4265 (ce fw_4267 (ce fw_23 (ce fw_4268 (ce fw_1079 (ce fw_1092 (ce fw_1095 (ce fw_1098 (ce fw_1102 (ce fw_1113 (ce fw_4276 (cn))))))))))))))))))
def q_wsX3_readWhole : List Nat := 4162 :: (((((q_wsX3_readWhole_r1) ++ ((q_wsX3_readWhole_r2) ++ ((q_wsX3_readWhole_r3) ++ ((q_wsX3_readWhole_r4) ++ ((q_wsX3_readWhole_r5) ++ ((q_wsX3_readWhole_r6) ++ (q_wsX3_readWhole_r7))))))) ++ (q_wsX30)) ++ (q_wsX80)) ++ (q_wsX50))
set_option maxRecDepth 100000 in
theorem e_wsX3_readWhole : q_wsX3_readWhole.map fe = wsX3_readWhole := ce fw_4162 (ca (ca (ca (ca (e_wsX3_readWhole_r1) (ca (e_wsX3_readWhole_r2) (ca (e_wsX3_readWhole_r3) (ca (e_wsX3_readWhole_r4) (ca (e_wsX3_readWhole_r5) (ca (e_wsX3_readWhole_r6) (e_wsX3_readWhole_r7))))))) (e_wsX30)) (e_wsX80)) (e_wsX50))
def q_wsX8_copyFrom : List Nat := 4166 :: (([1173, 4167, 3106, 1036, 3107, 4168, 2201, 2202, 1172, 4169, 3110, 3109, 1040, 1177, 1178]) ++ (q_wsX80))
set_option maxRecDepth 100000 in
theorem e_wsX8_copyFrom : q_wsX8_copyFrom.map fe = wsX8_copyFrom := ce fw_4166 (ca (ce fw_1173 (ce fw_4167 (ce fw_3106 (ce fw_1036 (ce fw_3107 (ce fw_4168 (ce fw_2201 (ce fw_2202 (ce fw_1172 (ce fw_4169 (ce fw_3110 (ce fw_3109 (ce fw_1040 (ce fw_1177 (ce fw_1178 (cn)))))))))))))))) (e_wsX80))
def q_wsX5_begin : List Nat := 1072 :: (([1077, 1084, 1086, 1091, 1094, 1097, 1100, 1104, 1108, 1112, 1073, 1074, 1075, 1027, 1076, 1117, 1120, 1122, 1127, 1129, 1131]) ++ (q_wsX50))
set_option maxRecDepth 100000 in
theorem e_wsX5_begin : q_wsX5_begin.map fe = wsX5_begin := ce fw_1072 (ca (ce fw_1077 (ce fw_1084 (ce fw_1086 (ce fw_1091 (ce fw_1094 (ce fw_1097 (ce fw_1100 (ce fw_1104 (ce fw_1108 (ce fw_1112 (ce fw_1073 (ce fw_1074 (ce fw_1075 (ce fw_1027 (ce fw_1076 (ce fw_1117 (ce fw_1120 (ce fw_1122 (ce fw_1127 (ce fw_1129 (ce fw_1131 (cn)))))))))))))))))))))) (e_wsX50))
def q_wsX3_step : List Nat := 4174 :: ((([2266, 2265, 2259, 1175, 2264, 4175, 4176, 4177, 1028, 4178, 1173, 1172, 4179, 4180, 1037, 4181, 4182, 4183, 4184, 4185, 4186, 4187]) ++ (q_wsX30)) ++ (q_wsX80))
set_option maxRecDepth 100000 in
theorem e_wsX3_step : q_wsX3_step.map fe = wsX3_step := ce fw_4174 (ca (ca (ce fw_2266 (ce fw_2265 (ce fw_2259 (ce fw_1175 (ce fw_2264 (ce fw_4175 (ce fw_4176 (ce fw_4177 (ce fw_1028 (ce fw_4178 (ce fw_1173 (ce fw_1172 (ce fw_4179 (ce fw_4180 (ce fw_1037 (ce fw_4181 (ce fw_4182 (ce fw_4183 (ce fw_4184 (ce fw_4185 (ce fw_4186 (ce fw_4187 (cn))))))))))))))))))))))) (e_wsX30)) (e_wsX80))
def q_wsX3_readStatement_r1 : List Nat := [2265, 2257, 1105, 1109, 2260, 2264, 4193, 4195, 18, 1037, 4196, 2266, 2259, 4197, 4198, 4199, 1041, 4200, 5242, 4201, 4202, 4203, 4204, 4205]
set_option maxRecDepth 100000 in
theorem e_wsX3_readStatement_r1 : q_wsX3_readStatement_r1.map fe = wsX3_readStatement_r1 := ce fw_2265 (ce fw_2257 (ce fw_1105 (ce fw_1109 (ce fw_2260 (ce fw_2264 (ce fw_4193 (ce fw_4195 (ce fw_18 (ce fw_1037 (ce fw_4196 (ce fw_2266 (ce fw_2259 (ce fw_4197 (ce fw_4198 (ce fw_4199 (ce fw_1041 (ce fw_4200 (ce fw_5242 (ce fw_4201 (ce fw_4202 (ce fw_4203 (ce fw_4204 (ce fw_4205 (cn))))))))))))))))))))))))
def q_wsX3_readStatement_r2 : List Nat := [5243, 4175, 4176, 4177, 1028, 4178, 1173, 1172, 4207, 4208, 4209, 4210, 4211, 4212, 4213, 4214, 4215, 4216, 1042, 4217, 4218, 4219, 4220, 4221]
set_option maxRecDepth 100000 in
theorem e_wsX3_readStatement_r2 : q_wsX3_readStatement_r2.map fe = wsX3_readStatement_r2 := ce fw_5243 (ce fw_4175 (ce fw_4176 (ce fw_4177 (ce fw_1028 (ce fw_4178 (ce fw_1173 (ce fw_1172 (ce fw_4207 (ce fw_4208 (ce fw_4209 (ce fw_4210 (ce fw_4211 (ce fw_4212 (ce fw_4213 (ce fw_4214 (ce fw_4215 (ce fw_4216 (ce fw_1042 (ce fw_4217 (ce fw_4218 (ce fw_4219 (ce fw_4220 (ce fw_4221 (cn))))))))))))))))))))))))
def q_wsX3_readStatement_r3 : List Nat := [4223, 4224, 1043, 4225, 4226, 4227, 1044, 4228, 4229, 4230, 4231, 4232, 4233, 4234, 4235, 4236, 4237, 4238, 4239, 4241, 4243, 4171, 4173, 16]
set_option maxRecDepth 100000 in
theorem e_wsX3_readStatement_r3 : q_wsX3_readStatement_r3.map fe = wsX3_readStatement_r3 := ce fw_4223 (ce fw_4224 (ce fw_1043 (ce fw_4225 (ce fw_4226 (ce fw_4227 (ce fw_1044 (ce fw_4228 (ce fw_4229 (ce fw_4230 (ce fw_4231 (ce fw_4232 (ce fw_4233 (ce fw_4234 (ce fw_4235 (ce fw_4236 (ce fw_4237 (ce fw_4238 (ce fw_4239 (ce fw_4241 (ce fw_4243 (ce fw_4171 (ce fw_4173 (ce fw_16 (cn))))))))))))))))))))))))
def q_wsX3_readStatement_r4 : List Nat := [4174, 1175, 4179, 4180, 4181, 4182, 4183, 4184, 4185, 4186, 4187, 4245, 4247, 19, 4248, 1085, 1089, 4249, 4251, 20, 4252, 2262, 4253, 4254]
set_option maxRecDepth 100000 in
theorem e_wsX3_readStatement_r4 : q_wsX3_readStatement_r4.map fe = wsX3_readStatement_r4 := ce fw_4174 (ce fw_1175 (ce fw_4179 (ce fw_4180 (ce fw_4181 (ce fw_4182 (ce fw_4183 (ce fw_4184 (ce fw_4185 (ce fw_4186 (ce fw_4187 (ce fw_4245 (ce fw_4247 (ce fw_19 (ce fw_4248 (ce fw_1085 (ce fw_1089 (ce fw_4249 (ce fw_4251 (ce fw_20 (ce fw_4252 (ce fw_2262 (ce fw_4253 (ce fw_4254 (cn))))))))))))))))))))))))
def q_wsX3_readStatement_r5 : List Nat := [4255, 4256, 4258, 21, 4259, 4261, 4263, 22, 4264, 4265, 4267, 23, 4268, 1079, 1092, 1095, 1098, 1102, 1113]
set_option maxRecDepth 100000 in
theorem e_wsX3_readStatement_r5 : q_wsX3_readStatement_r5.map fe = wsX3_readStatement_r5 := ce fw_4255 (ce fw_4256 (ce fw_4258 (ce fw_21 (ce fw_4259 (ce fw_4261 (ce fw_4263 (ce fw_22 (ce fw_4264 (ce fw_4265 (ce fw_4267 (ce fw_23 (ce fw_4268 (ce fw_1079 (ce fw_1092 (ce fw_1095 (ce fw_1098 (ce fw_1102 (ce fw_1113 (cn)))))))))))))))))))
def q_wsX3_readStatement : List Nat := 4191 :: (((((q_wsX3_readStatement_r1) ++ ((q_wsX3_readStatement_r2) ++ ((q_wsX3_readStatement_r3) ++ ((q_wsX3_readStatement_r4) ++ (q_wsX3_readStatement_r5))))) ++ (q_wsX30)) ++ (q_wsX50)) ++ (q_wsX80))
set_option maxRecDepth 100000 in
theorem e_wsX3_readStatement : q_wsX3_readStatement.map fe = wsX3_readStatement := ce fw_4191 (ca (ca (ca (ca (e_wsX3_readStatement_r1) (ca (e_wsX3_readStatement_r2) (ca (e_wsX3_readStatement_r3) (ca (e_wsX3_readStatement_r4) (e_wsX3_readStatement_r5))))) (e_wsX30)) (e_wsX50)) (e_wsX80))
def q_wsX5_derive : List Nat := 1076 :: (([1077, 1086, 1117, 1094, 1120, 1122, 1127, 1129, 1131, 1084]) ++ (q_wsX50))
set_option maxRecDepth 100000 in
theorem e_wsX5_derive : q_wsX5_derive.map fe = wsX5_derive := ce fw_1076 (ca (ce fw_1077 (ce fw_1086 (ce fw_1117 (ce fw_1094 (ce fw_1120 (ce fw_1122 (ce fw_1127 (ce fw_1129 (ce fw_1131 (ce fw_1084 (cn))))))))))) (e_wsX50))
def q_wsX3_isWord_r1 : List Nat := [2264, 2266, 2265, 2259, 4197, 4198, 4199, 1041, 4200, 5242, 4201, 4202, 4203, 4204, 4205, 5243, 4175, 4176, 4177, 1028, 4178, 1173, 1172, 4207]
set_option maxRecDepth 100000 in
theorem e_wsX3_isWord_r1 : q_wsX3_isWord_r1.map fe = wsX3_isWord_r1 := ce fw_2264 (ce fw_2266 (ce fw_2265 (ce fw_2259 (ce fw_4197 (ce fw_4198 (ce fw_4199 (ce fw_1041 (ce fw_4200 (ce fw_5242 (ce fw_4201 (ce fw_4202 (ce fw_4203 (ce fw_4204 (ce fw_4205 (ce fw_5243 (ce fw_4175 (ce fw_4176 (ce fw_4177 (ce fw_1028 (ce fw_4178 (ce fw_1173 (ce fw_1172 (ce fw_4207 (cn))))))))))))))))))))))))
def q_wsX3_isWord_r2 : List Nat := [4208, 4209, 4210, 4211, 4212, 4213, 4214, 4215, 4216, 1042, 4217, 4218, 4219, 4220, 4221, 4223, 4224, 1043, 4225, 4226, 4227, 1044, 4228, 4229]
set_option maxRecDepth 100000 in
theorem e_wsX3_isWord_r2 : q_wsX3_isWord_r2.map fe = wsX3_isWord_r2 := ce fw_4208 (ce fw_4209 (ce fw_4210 (ce fw_4211 (ce fw_4212 (ce fw_4213 (ce fw_4214 (ce fw_4215 (ce fw_4216 (ce fw_1042 (ce fw_4217 (ce fw_4218 (ce fw_4219 (ce fw_4220 (ce fw_4221 (ce fw_4223 (ce fw_4224 (ce fw_1043 (ce fw_4225 (ce fw_4226 (ce fw_4227 (ce fw_1044 (ce fw_4228 (ce fw_4229 (cn))))))))))))))))))))))))
def q_wsX3_isWord_r3 : List Nat := [4230, 4231, 4232, 4233, 4234, 4235, 4236, 4237, 4238, 4239, 4241, 4243]
set_option maxRecDepth 100000 in
theorem e_wsX3_isWord_r3 : q_wsX3_isWord_r3.map fe = wsX3_isWord_r3 := ce fw_4230 (ce fw_4231 (ce fw_4232 (ce fw_4233 (ce fw_4234 (ce fw_4235 (ce fw_4236 (ce fw_4237 (ce fw_4238 (ce fw_4239 (ce fw_4241 (ce fw_4243 (cn))))))))))))
def q_wsX3_isWord : List Nat := 4196 :: ((((q_wsX3_isWord_r1) ++ ((q_wsX3_isWord_r2) ++ (q_wsX3_isWord_r3))) ++ (q_wsX30)) ++ (q_wsX80))
set_option maxRecDepth 100000 in
theorem e_wsX3_isWord : q_wsX3_isWord.map fe = wsX3_isWord := ce fw_4196 (ca (ca (ca (e_wsX3_isWord_r1) (ca (e_wsX3_isWord_r2) (e_wsX3_isWord_r3))) (e_wsX30)) (e_wsX80))
def q_wsX3_readRow_r1 : List Nat := [2264, 2265, 2266, 2259, 2257, 1085, 1089, 4249, 4251, 20, 1037, 4252, 2260, 2262, 4175, 4176, 4177, 1028, 4178, 1173, 1172, 4253, 4254, 4255]
set_option maxRecDepth 100000 in
theorem e_wsX3_readRow_r1 : q_wsX3_readRow_r1.map fe = wsX3_readRow_r1 := ce fw_2264 (ce fw_2265 (ce fw_2266 (ce fw_2259 (ce fw_2257 (ce fw_1085 (ce fw_1089 (ce fw_4249 (ce fw_4251 (ce fw_20 (ce fw_1037 (ce fw_4252 (ce fw_2260 (ce fw_2262 (ce fw_4175 (ce fw_4176 (ce fw_4177 (ce fw_1028 (ce fw_4178 (ce fw_1173 (ce fw_1172 (ce fw_4253 (ce fw_4254 (ce fw_4255 (cn))))))))))))))))))))))))
def q_wsX3_readRow_r2 : List Nat := [4171, 4173, 16, 4174, 1175, 4179, 4180, 4181, 4182, 4183, 4184, 4185, 4186, 4187, 4256, 4258, 21, 4259]
set_option maxRecDepth 100000 in
theorem e_wsX3_readRow_r2 : q_wsX3_readRow_r2.map fe = wsX3_readRow_r2 := ce fw_4171 (ce fw_4173 (ce fw_16 (ce fw_4174 (ce fw_1175 (ce fw_4179 (ce fw_4180 (ce fw_4181 (ce fw_4182 (ce fw_4183 (ce fw_4184 (ce fw_4185 (ce fw_4186 (ce fw_4187 (ce fw_4256 (ce fw_4258 (ce fw_21 (ce fw_4259 (cn))))))))))))))))))
def q_wsX3_readRow : List Nat := 4248 :: (((((q_wsX3_readRow_r1) ++ (q_wsX3_readRow_r2)) ++ (q_wsX30)) ++ (q_wsX50)) ++ (q_wsX80))
set_option maxRecDepth 100000 in
theorem e_wsX3_readRow : q_wsX3_readRow.map fe = wsX3_readRow := ce fw_4248 (ca (ca (ca (ca (e_wsX3_readRow_r1) (e_wsX3_readRow_r2)) (e_wsX30)) (e_wsX50)) (e_wsX80))
def q_wsX3_readNumber_r1 : List Nat := [2260, 2264, 2266, 2265, 2259, 4249, 4251, 20, 1037, 4252, 2262, 4175, 4176, 4177, 1028, 4178, 1173, 1172, 4256, 4258, 21, 4259, 4171, 4173]
set_option maxRecDepth 100000 in
theorem e_wsX3_readNumber_r1 : q_wsX3_readNumber_r1.map fe = wsX3_readNumber_r1 := ce fw_2260 (ce fw_2264 (ce fw_2266 (ce fw_2265 (ce fw_2259 (ce fw_4249 (ce fw_4251 (ce fw_20 (ce fw_1037 (ce fw_4252 (ce fw_2262 (ce fw_4175 (ce fw_4176 (ce fw_4177 (ce fw_1028 (ce fw_4178 (ce fw_1173 (ce fw_1172 (ce fw_4256 (ce fw_4258 (ce fw_21 (ce fw_4259 (ce fw_4171 (ce fw_4173 (cn))))))))))))))))))))))))
def q_wsX3_readNumber_r2 : List Nat := [16, 4174, 1175, 4179, 4180, 4181, 4182, 4183, 4184, 4185, 4186, 4187]
set_option maxRecDepth 100000 in
theorem e_wsX3_readNumber_r2 : q_wsX3_readNumber_r2.map fe = wsX3_readNumber_r2 := ce fw_16 (ce fw_4174 (ce fw_1175 (ce fw_4179 (ce fw_4180 (ce fw_4181 (ce fw_4182 (ce fw_4183 (ce fw_4184 (ce fw_4185 (ce fw_4186 (ce fw_4187 (cn))))))))))))
def q_wsX3_readNumber : List Nat := 4264 :: ((((q_wsX3_readNumber_r1) ++ (q_wsX3_readNumber_r2)) ++ (q_wsX30)) ++ (q_wsX80))
set_option maxRecDepth 100000 in
theorem e_wsX3_readNumber : q_wsX3_readNumber.map fe = wsX3_readNumber := ce fw_4264 (ca (ca (ca (e_wsX3_readNumber_r1) (e_wsX3_readNumber_r2)) (e_wsX30)) (e_wsX80))
def q_wsX3_readSingle_r1 : List Nat := [2257, 1079, 1092, 1095, 1098, 1102, 1113, 4193, 4195, 18, 1037, 4196, 2264, 2266, 2265, 2259, 4197, 4198, 4199, 1041, 4200, 5242, 4201, 4202]
set_option maxRecDepth 100000 in
theorem e_wsX3_readSingle_r1 : q_wsX3_readSingle_r1.map fe = wsX3_readSingle_r1 := ce fw_2257 (ce fw_1079 (ce fw_1092 (ce fw_1095 (ce fw_1098 (ce fw_1102 (ce fw_1113 (ce fw_4193 (ce fw_4195 (ce fw_18 (ce fw_1037 (ce fw_4196 (ce fw_2264 (ce fw_2266 (ce fw_2265 (ce fw_2259 (ce fw_4197 (ce fw_4198 (ce fw_4199 (ce fw_1041 (ce fw_4200 (ce fw_5242 (ce fw_4201 (ce fw_4202 (cn))))))))))))))))))))))))
def q_wsX3_readSingle_r2 : List Nat := [4203, 4204, 4205, 5243, 4175, 4176, 4177, 1028, 4178, 1173, 1172, 4207, 4208, 4209, 4210, 4211, 4212, 4213, 4214, 4215, 4216, 1042, 4217, 4218]
set_option maxRecDepth 100000 in
theorem e_wsX3_readSingle_r2 : q_wsX3_readSingle_r2.map fe = wsX3_readSingle_r2 := ce fw_4203 (ce fw_4204 (ce fw_4205 (ce fw_5243 (ce fw_4175 (ce fw_4176 (ce fw_4177 (ce fw_1028 (ce fw_4178 (ce fw_1173 (ce fw_1172 (ce fw_4207 (ce fw_4208 (ce fw_4209 (ce fw_4210 (ce fw_4211 (ce fw_4212 (ce fw_4213 (ce fw_4214 (ce fw_4215 (ce fw_4216 (ce fw_1042 (ce fw_4217 (ce fw_4218 (cn))))))))))))))))))))))))
def q_wsX3_readSingle_r3 : List Nat := [4219, 4220, 4221, 4223, 4224, 1043, 4225, 4226, 4227, 1044, 4228, 4229, 4230, 4231, 4232, 4233, 4234, 4235, 4236, 4237, 4238, 4239, 4241, 4243]
set_option maxRecDepth 100000 in
theorem e_wsX3_readSingle_r3 : q_wsX3_readSingle_r3.map fe = wsX3_readSingle_r3 := ce fw_4219 (ce fw_4220 (ce fw_4221 (ce fw_4223 (ce fw_4224 (ce fw_1043 (ce fw_4225 (ce fw_4226 (ce fw_4227 (ce fw_1044 (ce fw_4228 (ce fw_4229 (ce fw_4230 (ce fw_4231 (ce fw_4232 (ce fw_4233 (ce fw_4234 (ce fw_4235 (ce fw_4236 (ce fw_4237 (ce fw_4238 (ce fw_4239 (ce fw_4241 (ce fw_4243 (cn))))))))))))))))))))))))
def q_wsX3_readSingle_r4 : List Nat := [4171, 4173, 16, 4174, 1175, 4179, 4180, 4181, 4182, 4183, 4184, 4185, 4186, 4187, 4261, 4263, 22, 4264, 2260, 4249, 4251, 20, 4252, 2262]
set_option maxRecDepth 100000 in
theorem e_wsX3_readSingle_r4 : q_wsX3_readSingle_r4.map fe = wsX3_readSingle_r4 := ce fw_4171 (ce fw_4173 (ce fw_16 (ce fw_4174 (ce fw_1175 (ce fw_4179 (ce fw_4180 (ce fw_4181 (ce fw_4182 (ce fw_4183 (ce fw_4184 (ce fw_4185 (ce fw_4186 (ce fw_4187 (ce fw_4261 (ce fw_4263 (ce fw_22 (ce fw_4264 (ce fw_2260 (ce fw_4249 (ce fw_4251 (ce fw_20 (ce fw_4252 (ce fw_2262 (cn))))))))))))))))))))))))
def q_wsX3_readSingle_r5 : List Nat := [4256, 4258, 21, 4259]
set_option maxRecDepth 100000 in
theorem e_wsX3_readSingle_r5 : q_wsX3_readSingle_r5.map fe = wsX3_readSingle_r5 := ce fw_4256 (ce fw_4258 (ce fw_21 (ce fw_4259 (cn))))
def q_wsX3_readSingle : List Nat := 4268 :: (((((q_wsX3_readSingle_r1) ++ ((q_wsX3_readSingle_r2) ++ ((q_wsX3_readSingle_r3) ++ ((q_wsX3_readSingle_r4) ++ (q_wsX3_readSingle_r5))))) ++ (q_wsX30)) ++ (q_wsX50)) ++ (q_wsX80))
set_option maxRecDepth 100000 in
theorem e_wsX3_readSingle : q_wsX3_readSingle.map fe = wsX3_readSingle := ce fw_4268 (ca (ca (ca (ca (e_wsX3_readSingle_r1) (ca (e_wsX3_readSingle_r2) (ca (e_wsX3_readSingle_r3) (ca (e_wsX3_readSingle_r4) (e_wsX3_readSingle_r5))))) (e_wsX30)) (e_wsX50)) (e_wsX80))
def q_wsX3_misplace : List Nat := 4252 :: (([2260, 2265, 2262]) ++ (q_wsX30))
set_option maxRecDepth 100000 in
theorem e_wsX3_misplace : q_wsX3_misplace.map fe = wsX3_misplace := ce fw_4252 (ca (ce fw_2260 (ce fw_2265 (ce fw_2262 (cn)))) (e_wsX30))
def q_wsX8_at : List Nat := 4178 :: (([1173, 1172]) ++ (q_wsX80))
set_option maxRecDepth 100000 in
theorem e_wsX8_at : q_wsX8_at.map fe = wsX8_at := ce fw_4178 (ca (ce fw_1173 (ce fw_1172 (cn))) (e_wsX80))
def q_wsX3_impossible : List Nat := 4259 :: (([2260, 2262]) ++ (q_wsX30))
set_option maxRecDepth 100000 in
theorem e_wsX3_impossible : q_wsX3_impossible.map fe = wsX3_impossible := ce fw_4259 (ca (ce fw_2260 (ce fw_2262 (cn))) (e_wsX30))
def q_wsX3_roleOf : List Nat := 4255 :: ([])
set_option maxRecDepth 100000 in
theorem e_wsX3_roleOf : q_wsX3_roleOf.map fe = wsX3_roleOf := ce fw_4255 (cn)
def q_wsJ0_length_8abf5 : List Nat := 4200 :: ([5242, 4201, 4202, 4203, 1041, 4204, 4205, 5243])
set_option maxRecDepth 100000 in
theorem e_wsJ0_length_8abf5 : q_wsJ0_length_8abf5.map fe = wsJ0_length_8abf5 := ce fw_4200 (ce fw_5242 (ce fw_4201 (ce fw_4202 (ce fw_4203 (ce fw_1041 (ce fw_4204 (ce fw_4205 (ce fw_5243 (cn)))))))))
def q_wsJ0_charAt_5068e_r1 : List Nat := [5242, 4211, 4212, 4213, 1041, 4214, 4205, 5243, 4215, 4216, 1042, 4217, 4218, 4219, 4220, 4221, 4223, 4224, 1043, 4225, 4226, 4227, 1044, 4228]
set_option maxRecDepth 100000 in
theorem e_wsJ0_charAt_5068e_r1 : q_wsJ0_charAt_5068e_r1.map fe = wsJ0_charAt_5068e_r1 := ce fw_5242 (ce fw_4211 (ce fw_4212 (ce fw_4213 (ce fw_1041 (ce fw_4214 (ce fw_4205 (ce fw_5243 (ce fw_4215 (ce fw_4216 (ce fw_1042 (ce fw_4217 (ce fw_4218 (ce fw_4219 (ce fw_4220 (ce fw_4221 (ce fw_4223 (ce fw_4224 (ce fw_1043 (ce fw_4225 (ce fw_4226 (ce fw_4227 (ce fw_1044 (ce fw_4228 (cn))))))))))))))))))))))))
def q_wsJ0_charAt_5068e_r2 : List Nat := [4229, 4230, 4231, 4232, 4233, 4234, 4235, 4236, 4237, 4238, 4239, 4241, 4243]
set_option maxRecDepth 100000 in
theorem e_wsJ0_charAt_5068e_r2 : q_wsJ0_charAt_5068e_r2.map fe = wsJ0_charAt_5068e_r2 := ce fw_4229 (ce fw_4230 (ce fw_4231 (ce fw_4232 (ce fw_4233 (ce fw_4234 (ce fw_4235 (ce fw_4236 (ce fw_4237 (ce fw_4238 (ce fw_4239 (ce fw_4241 (ce fw_4243 (cn)))))))))))))
def q_wsJ0_charAt_5068e : List Nat := 4210 :: ((q_wsJ0_charAt_5068e_r1) ++ (q_wsJ0_charAt_5068e_r2))
set_option maxRecDepth 100000 in
theorem e_wsJ0_charAt_5068e : q_wsJ0_charAt_5068e.map fe = wsJ0_charAt_5068e := ce fw_4210 (ca (e_wsJ0_charAt_5068e_r1) (e_wsJ0_charAt_5068e_r2))
def q_wsX3_isBlank : List Nat := 4181 :: ([])
set_option maxRecDepth 100000 in
theorem e_wsX3_isBlank : q_wsX3_isBlank.map fe = wsX3_isBlank := ce fw_4181 (cn)
def q_wsX3_isLetter : List Nat := 4184 :: ([])
set_option maxRecDepth 100000 in
theorem e_wsX3_isLetter : q_wsX3_isLetter.map fe = wsX3_isLetter := ce fw_4184 (cn)
def q_wsX3_isDigit : List Nat := 4187 :: ([])
set_option maxRecDepth 100000 in
theorem e_wsX3_isDigit : q_wsX3_isDigit.map fe = wsX3_isDigit := ce fw_4187 (cn)
def q_wsX4_init_r1 : List Nat := [1222, 1055, 1056, 1223, 1224, 1032, 2151, 1251, 1252, 1033, 2153, 2103, 2104, 1034, 2155, 2127, 1064, 1027, 1226, 1227, 1228, 1165, 1229, 1254]
set_option maxRecDepth 100000 in
theorem e_wsX4_init_r1 : q_wsX4_init_r1.map fe = wsX4_init_r1 := ce fw_1222 (ce fw_1055 (ce fw_1056 (ce fw_1223 (ce fw_1224 (ce fw_1032 (ce fw_2151 (ce fw_1251 (ce fw_1252 (ce fw_1033 (ce fw_2153 (ce fw_2103 (ce fw_2104 (ce fw_1034 (ce fw_2155 (ce fw_2127 (ce fw_1064 (ce fw_1027 (ce fw_1226 (ce fw_1227 (ce fw_1228 (ce fw_1165 (ce fw_1229 (ce fw_1254 (cn))))))))))))))))))))))))
def q_wsX4_init_r2 : List Nat := [1255, 1256, 2106, 2107, 2108, 2109, 2128, 1066, 1067, 1068, 1084, 1069, 1070, 1071, 1072, 1077, 1086, 1091, 1094, 1097, 1100, 1104, 1108, 1112]
set_option maxRecDepth 100000 in
theorem e_wsX4_init_r2 : q_wsX4_init_r2.map fe = wsX4_init_r2 := ce fw_1255 (ce fw_1256 (ce fw_2106 (ce fw_2107 (ce fw_2108 (ce fw_2109 (ce fw_2128 (ce fw_1066 (ce fw_1067 (ce fw_1068 (ce fw_1084 (ce fw_1069 (ce fw_1070 (ce fw_1071 (ce fw_1072 (ce fw_1077 (ce fw_1086 (ce fw_1091 (ce fw_1094 (ce fw_1097 (ce fw_1100 (ce fw_1104 (ce fw_1108 (ce fw_1112 (cn))))))))))))))))))))))))
def q_wsX4_init_r3 : List Nat := [1073, 1074, 1075, 1076, 1117, 1120, 1122, 1127, 1129, 1131, 2129, 2130, 2131, 1031, 2132, 2149, 2157, 2158, 2159, 2161, 2162, 2163, 2164, 2165]
set_option maxRecDepth 100000 in
theorem e_wsX4_init_r3 : q_wsX4_init_r3.map fe = wsX4_init_r3 := ce fw_1073 (ce fw_1074 (ce fw_1075 (ce fw_1076 (ce fw_1117 (ce fw_1120 (ce fw_1122 (ce fw_1127 (ce fw_1129 (ce fw_1131 (ce fw_2129 (ce fw_2130 (ce fw_2131 (ce fw_1031 (ce fw_2132 (ce fw_2149 (ce fw_2157 (ce fw_2158 (ce fw_2159 (ce fw_2161 (ce fw_2162 (ce fw_2163 (ce fw_2164 (ce fw_2165 (cn))))))))))))))))))))))))
def q_wsX4_init_r4 : List Nat := [2166, 2133, 2134, 2135, 2136, 1078, 1130, 1116, 1230, 1233, 1235, 1236, 1237, 2137, 2138, 2139, 2140, 1257, 1259, 1261, 1263, 2050, 2052, 2064]
set_option maxRecDepth 100000 in
theorem e_wsX4_init_r4 : q_wsX4_init_r4.map fe = wsX4_init_r4 := ce fw_2166 (ce fw_2133 (ce fw_2134 (ce fw_2135 (ce fw_2136 (ce fw_1078 (ce fw_1130 (ce fw_1116 (ce fw_1230 (ce fw_1233 (ce fw_1235 (ce fw_1236 (ce fw_1237 (ce fw_2137 (ce fw_2138 (ce fw_2139 (ce fw_2140 (ce fw_1257 (ce fw_1259 (ce fw_1261 (ce fw_1263 (ce fw_2050 (ce fw_2052 (ce fw_2064 (cn))))))))))))))))))))))))
def q_wsX4_init_r5 : List Nat := [2141, 2142, 2143, 2144, 2110, 2112, 2145, 2146, 2147, 2148, 2114, 2115]
set_option maxRecDepth 100000 in
theorem e_wsX4_init_r5 : q_wsX4_init_r5.map fe = wsX4_init_r5 := ce fw_2141 (ce fw_2142 (ce fw_2143 (ce fw_2144 (ce fw_2110 (ce fw_2112 (ce fw_2145 (ce fw_2146 (ce fw_2147 (ce fw_2148 (ce fw_2114 (ce fw_2115 (cn))))))))))))
def q_wsX40 : List Nat := [2167, 2169, 2171, 2173, 2175, 2177, 2179, 2181, 2183, 2185, 2187, 2189, 2191]
theorem e_wsX40 : q_wsX40.map fe = wsX40 := by decide +kernel
def q_wsX70 : List Nat := [2068, 2070, 2072, 2074, 2076, 2078, 2080, 2082, 2084, 2086, 2088, 2090, 2092, 2094, 2096, 2098, 2100]
theorem e_wsX70 : q_wsX70.map fe = wsX70 := by decide +kernel
def q_wsX4_init : List Nat := 1221 :: (((((((q_wsX4_init_r1) ++ ((q_wsX4_init_r2) ++ ((q_wsX4_init_r3) ++ ((q_wsX4_init_r4) ++ (q_wsX4_init_r5))))) ++ (q_wsX10)) ++ (q_wsX40)) ++ (q_wsX70)) ++ (q_wsX00)) ++ (q_wsX50))
set_option maxRecDepth 100000 in
theorem e_wsX4_init : q_wsX4_init.map fe = wsX4_init := ce fw_1221 (ca (ca (ca (ca (ca (ca (e_wsX4_init_r1) (ca (e_wsX4_init_r2) (ca (e_wsX4_init_r3) (ca (e_wsX4_init_r4) (e_wsX4_init_r5))))) (e_wsX10)) (e_wsX40)) (e_wsX70)) (e_wsX00)) (e_wsX50))
def q_wsX1_init : List Nat := 1227 :: (([1228, 1055, 1056, 1165, 1229]) ++ (q_wsX10))
set_option maxRecDepth 100000 in
theorem e_wsX1_init : q_wsX1_init.map fe = wsX1_init := ce fw_1227 (ca (ce fw_1228 (ce fw_1055 (ce fw_1056 (ce fw_1165 (ce fw_1229 (cn)))))) (e_wsX10))
def q_wsX7_init : List Nat := 1255 :: ([1256, 1055, 1056])
set_option maxRecDepth 100000 in
theorem e_wsX7_init : q_wsX7_init.map fe = wsX7_init := ce fw_1255 (ce fw_1256 (ce fw_1055 (ce fw_1056 (cn))))
def q_wsX0_init : List Nat := 2107 :: (([2108, 1055, 1056, 1165, 2109]) ++ (q_wsX00))
set_option maxRecDepth 100000 in
theorem e_wsX0_init : q_wsX0_init.map fe = wsX0_init := ce fw_2107 (ca (ce fw_2108 (ce fw_1055 (ce fw_1056 (ce fw_1165 (ce fw_2109 (cn)))))) (e_wsX00))
def q_wsX4_begin_r1 : List Nat := [2149, 2151, 2153, 2155, 2157, 2158, 2159, 2161, 2162, 2163, 2164, 2165, 2166, 2133, 2134, 2135, 1032, 2136, 1078, 1229, 1130, 1116, 1230, 1233]
set_option maxRecDepth 100000 in
theorem e_wsX4_begin_r1 : q_wsX4_begin_r1.map fe = wsX4_begin_r1 := ce fw_2149 (ce fw_2151 (ce fw_2153 (ce fw_2155 (ce fw_2157 (ce fw_2158 (ce fw_2159 (ce fw_2161 (ce fw_2162 (ce fw_2163 (ce fw_2164 (ce fw_2165 (ce fw_2166 (ce fw_2133 (ce fw_2134 (ce fw_2135 (ce fw_1032 (ce fw_2136 (ce fw_1078 (ce fw_1229 (ce fw_1130 (ce fw_1116 (ce fw_1230 (ce fw_1233 (cn))))))))))))))))))))))))
def q_wsX4_begin_r2 : List Nat := [1235, 1236, 1237, 2137, 2138, 2139, 1033, 2140, 1257, 1259, 1261, 1263, 2050, 2052, 2064, 2141, 2142, 2143, 1034, 2144, 2110, 2112, 2145, 2146]
set_option maxRecDepth 100000 in
theorem e_wsX4_begin_r2 : q_wsX4_begin_r2.map fe = wsX4_begin_r2 := ce fw_1235 (ce fw_1236 (ce fw_1237 (ce fw_2137 (ce fw_2138 (ce fw_2139 (ce fw_1033 (ce fw_2140 (ce fw_1257 (ce fw_1259 (ce fw_1261 (ce fw_1263 (ce fw_2050 (ce fw_2052 (ce fw_2064 (ce fw_2141 (ce fw_2142 (ce fw_2143 (ce fw_1034 (ce fw_2144 (ce fw_2110 (ce fw_2112 (ce fw_2145 (ce fw_2146 (cn))))))))))))))))))))))))
def q_wsX4_begin_r3 : List Nat := [2147, 2148, 2114, 2115]
set_option maxRecDepth 100000 in
theorem e_wsX4_begin_r3 : q_wsX4_begin_r3.map fe = wsX4_begin_r3 := ce fw_2147 (ce fw_2148 (ce fw_2114 (ce fw_2115 (cn))))
def q_wsX4_begin : List Nat := 2132 :: (((((((q_wsX4_begin_r1) ++ ((q_wsX4_begin_r2) ++ (q_wsX4_begin_r3))) ++ (q_wsX40)) ++ (q_wsX50)) ++ (q_wsX10)) ++ (q_wsX70)) ++ (q_wsX00))
set_option maxRecDepth 100000 in
theorem e_wsX4_begin : q_wsX4_begin.map fe = wsX4_begin := ce fw_2132 (ca (ca (ca (ca (ca (ca (e_wsX4_begin_r1) (ca (e_wsX4_begin_r2) (e_wsX4_begin_r3))) (e_wsX40)) (e_wsX50)) (e_wsX10)) (e_wsX70)) (e_wsX00))
def q_wsX1_begin : List Nat := 2136 :: ((([1078, 1229, 1130, 1116, 1230, 1233, 1235, 1236, 1237]) ++ (q_wsX50)) ++ (q_wsX10))
set_option maxRecDepth 100000 in
theorem e_wsX1_begin : q_wsX1_begin.map fe = wsX1_begin := ce fw_2136 (ca (ca (ce fw_1078 (ce fw_1229 (ce fw_1130 (ce fw_1116 (ce fw_1230 (ce fw_1233 (ce fw_1235 (ce fw_1236 (ce fw_1237 (cn)))))))))) (e_wsX50)) (e_wsX10))
def q_wsX7_begin : List Nat := 2140 :: (([1257, 1259, 1261, 1263, 2050, 2052, 2064]) ++ (q_wsX70))
set_option maxRecDepth 100000 in
theorem e_wsX7_begin : q_wsX7_begin.map fe = wsX7_begin := ce fw_2140 (ca (ce fw_1257 (ce fw_1259 (ce fw_1261 (ce fw_1263 (ce fw_2050 (ce fw_2052 (ce fw_2064 (cn)))))))) (e_wsX70))
def q_wsX4_take_r1 : List Nat := [2164, 2149, 2153, 3188, 3173, 3174, 1035, 3175, 2205, 2203, 3189, 3191, 4, 1031, 3192, 2151, 1231, 1101, 3193, 3194, 3195, 1032, 3196, 1235]
set_option maxRecDepth 100000 in
theorem e_wsX4_take_r1 : q_wsX4_take_r1.map fe = wsX4_take_r1 := ce fw_2164 (ce fw_2149 (ce fw_2153 (ce fw_3188 (ce fw_3173 (ce fw_3174 (ce fw_1035 (ce fw_3175 (ce fw_2205 (ce fw_2203 (ce fw_3189 (ce fw_3191 (ce fw_4 (ce fw_1031 (ce fw_3192 (ce fw_2151 (ce fw_1231 (ce fw_1101 (ce fw_3193 (ce fw_3194 (ce fw_3195 (ce fw_1032 (ce fw_3196 (ce fw_1235 (cn))))))))))))))))))))))))
def q_wsX4_take_r2 : List Nat := [1128, 1126, 1236, 1087, 1229, 1230, 1233, 1078, 3197, 3198, 1039, 3199, 3200, 3201, 3202, 3203, 3204, 3205, 1027, 3206, 1086, 3207, 3209, 5]
set_option maxRecDepth 100000 in
theorem e_wsX4_take_r2 : q_wsX4_take_r2.map fe = wsX4_take_r2 := ce fw_1128 (ce fw_1126 (ce fw_1236 (ce fw_1087 (ce fw_1229 (ce fw_1230 (ce fw_1233 (ce fw_1078 (ce fw_3197 (ce fw_3198 (ce fw_1039 (ce fw_3199 (ce fw_3200 (ce fw_3201 (ce fw_3202 (ce fw_3203 (ce fw_3204 (ce fw_3205 (ce fw_1027 (ce fw_3206 (ce fw_1086 (ce fw_3207 (ce fw_3209 (ce fw_5 (cn))))))))))))))))))))))))
def q_wsX4_take_r3 : List Nat := [3210, 2157, 2133, 2134, 2135, 2136, 1130, 1116, 1237, 3211, 3212, 3213, 3214, 3215, 3216, 3217, 3218, 3219, 3220, 3221, 3222, 3223, 3224, 3225]
set_option maxRecDepth 100000 in
theorem e_wsX4_take_r3 : q_wsX4_take_r3.map fe = wsX4_take_r3 := ce fw_3210 (ce fw_2157 (ce fw_2133 (ce fw_2134 (ce fw_2135 (ce fw_2136 (ce fw_1130 (ce fw_1116 (ce fw_1237 (ce fw_3211 (ce fw_3212 (ce fw_3213 (ce fw_3214 (ce fw_3215 (ce fw_3216 (ce fw_3217 (ce fw_3218 (ce fw_3219 (ce fw_3220 (ce fw_3221 (ce fw_3222 (ce fw_3223 (ce fw_3224 (ce fw_3225 (cn))))))))))))))))))))))))
def q_wsX4_take_r4 : List Nat := [3226, 1127, 1129, 3227, 3228, 3229, 3230, 1077, 3231, 3232, 3234, 6, 3235, 1119, 1081, 1234, 2162, 2163, 1124, 3236, 3237, 3239, 7, 3240]
set_option maxRecDepth 100000 in
theorem e_wsX4_take_r4 : q_wsX4_take_r4.map fe = wsX4_take_r4 := ce fw_3226 (ce fw_1127 (ce fw_1129 (ce fw_3227 (ce fw_3228 (ce fw_3229 (ce fw_3230 (ce fw_1077 (ce fw_3231 (ce fw_3232 (ce fw_3234 (ce fw_6 (ce fw_3235 (ce fw_1119 (ce fw_1081 (ce fw_1234 (ce fw_2162 (ce fw_2163 (ce fw_1124 (ce fw_3236 (ce fw_3237 (ce fw_3239 (ce fw_7 (ce fw_3240 (cn))))))))))))))))))))))))
def q_wsX4_take_r5 : List Nat := [2159, 2165, 2155, 3241, 2146, 2147, 1034, 2148, 2114, 2115, 3242, 3244, 8, 3245, 2158, 3246, 3247, 3248, 3249, 3250, 3252, 9, 3253, 3254]
set_option maxRecDepth 100000 in
theorem e_wsX4_take_r5 : q_wsX4_take_r5.map fe = wsX4_take_r5 := ce fw_2159 (ce fw_2165 (ce fw_2155 (ce fw_3241 (ce fw_2146 (ce fw_2147 (ce fw_1034 (ce fw_2148 (ce fw_2114 (ce fw_2115 (ce fw_3242 (ce fw_3244 (ce fw_8 (ce fw_3245 (ce fw_2158 (ce fw_3246 (ce fw_3247 (ce fw_3248 (ce fw_3249 (ce fw_3250 (ce fw_3252 (ce fw_9 (ce fw_3253 (ce fw_3254 (cn))))))))))))))))))))))))
def q_wsX4_take_r6 : List Nat := [3255, 3257, 10, 3258, 3259, 3260, 3261, 3262, 1117, 3171, 3151, 3152, 3153, 1084, 3172, 3263, 3168, 3169, 3170, 1122, 1091, 3264, 3266, 11]
set_option maxRecDepth 100000 in
theorem e_wsX4_take_r6 : q_wsX4_take_r6.map fe = wsX4_take_r6 := ce fw_3255 (ce fw_3257 (ce fw_10 (ce fw_3258 (ce fw_3259 (ce fw_3260 (ce fw_3261 (ce fw_3262 (ce fw_1117 (ce fw_3171 (ce fw_3151 (ce fw_3152 (ce fw_3153 (ce fw_1084 (ce fw_3172 (ce fw_3263 (ce fw_3168 (ce fw_3169 (ce fw_3170 (ce fw_1122 (ce fw_1091 (ce fw_3264 (ce fw_3266 (ce fw_11 (cn))))))))))))))))))))))))
def q_wsX4_take_r7 : List Nat := [3267, 2166, 3268, 3270, 12, 3271, 1110, 1106, 2161, 3272, 3273, 3274, 3275, 3276, 3277, 3278, 3279, 3280, 3281, 2112, 3282, 3284, 13, 3285]
set_option maxRecDepth 100000 in
theorem e_wsX4_take_r7 : q_wsX4_take_r7.map fe = wsX4_take_r7 := ce fw_3267 (ce fw_2166 (ce fw_3268 (ce fw_3270 (ce fw_12 (ce fw_3271 (ce fw_1110 (ce fw_1106 (ce fw_2161 (ce fw_3272 (ce fw_3273 (ce fw_3274 (ce fw_3275 (ce fw_3276 (ce fw_3277 (ce fw_3278 (ce fw_3279 (ce fw_3280 (ce fw_3281 (ce fw_2112 (ce fw_3282 (ce fw_3284 (ce fw_13 (ce fw_3285 (cn))))))))))))))))))))))))
def q_wsX4_take_r8 : List Nat := [2109, 2110, 2145, 3286, 3287, 3288, 1033, 3289, 1257, 1261, 2054, 2055, 2056, 2057, 1259, 3290, 3292, 14, 3293, 3294, 3295, 3296, 3297, 2052]
set_option maxRecDepth 100000 in
theorem e_wsX4_take_r8 : q_wsX4_take_r8.map fe = wsX4_take_r8 := ce fw_2109 (ce fw_2110 (ce fw_2145 (ce fw_3286 (ce fw_3287 (ce fw_3288 (ce fw_1033 (ce fw_3289 (ce fw_1257 (ce fw_1261 (ce fw_2054 (ce fw_2055 (ce fw_2056 (ce fw_2057 (ce fw_1259 (ce fw_3290 (ce fw_3292 (ce fw_14 (ce fw_3293 (ce fw_3294 (ce fw_3295 (ce fw_3296 (ce fw_3297 (ce fw_2052 (cn))))))))))))))))))))))))
def q_wsX4_take_r9 : List Nat := [1114, 1082, 1263, 2050, 3298, 3300, 15, 3301, 2058, 2060, 2062, 2066, 2067, 2065, 2064, 3306, 3106, 1036, 3107, 3302, 3303, 3304, 3305, 1097]
set_option maxRecDepth 100000 in
theorem e_wsX4_take_r9 : q_wsX4_take_r9.map fe = wsX4_take_r9 := ce fw_1114 (ce fw_1082 (ce fw_1263 (ce fw_2050 (ce fw_3298 (ce fw_3300 (ce fw_15 (ce fw_3301 (ce fw_2058 (ce fw_2060 (ce fw_2062 (ce fw_2066 (ce fw_2067 (ce fw_2065 (ce fw_2064 (ce fw_3306 (ce fw_3106 (ce fw_1036 (ce fw_3107 (ce fw_3302 (ce fw_3303 (ce fw_3304 (ce fw_3305 (ce fw_1097 (cn))))))))))))))))))))))))
def q_wsX20 : List Nat := [2208, 2210]
theorem e_wsX20 : q_wsX20.map fe = wsX20 := by decide +kernel
def q_wsX4_take : List Nat := 3187 :: ((((((((q_wsX4_take_r1) ++ ((q_wsX4_take_r2) ++ ((q_wsX4_take_r3) ++ ((q_wsX4_take_r4) ++ ((q_wsX4_take_r5) ++ ((q_wsX4_take_r6) ++ ((q_wsX4_take_r7) ++ ((q_wsX4_take_r8) ++ (q_wsX4_take_r9))))))))) ++ (q_wsX40)) ++ (q_wsX20)) ++ (q_wsX10)) ++ (q_wsX50)) ++ (q_wsX00)) ++ (q_wsX70))
set_option maxRecDepth 100000 in
theorem e_wsX4_take : q_wsX4_take.map fe = wsX4_take := ce fw_3187 (ca (ca (ca (ca (ca (ca (ca (e_wsX4_take_r1) (ca (e_wsX4_take_r2) (ca (e_wsX4_take_r3) (ca (e_wsX4_take_r4) (ca (e_wsX4_take_r5) (ca (e_wsX4_take_r6) (ca (e_wsX4_take_r7) (ca (e_wsX4_take_r8) (e_wsX4_take_r9))))))))) (e_wsX40)) (e_wsX20)) (e_wsX10)) (e_wsX50)) (e_wsX00)) (e_wsX70))
def q_wsX2_at : List Nat := 3175 :: (([2205, 2203]) ++ (q_wsX20))
set_option maxRecDepth 100000 in
theorem e_wsX2_at : q_wsX2_at.map fe = wsX2_at := ce fw_3175 (ca (ce fw_2205 (ce fw_2203 (cn))) (e_wsX20))
def q_wsX4_takeHunting_r1 : List Nat := [2151, 1231, 1101, 3193, 3194, 3195, 1032, 3196, 1235, 1128, 1126, 1236, 1087, 1229, 1230, 1233, 1078, 3197, 3198, 1039, 3199, 3200, 3201, 3202]
set_option maxRecDepth 100000 in
theorem e_wsX4_takeHunting_r1 : q_wsX4_takeHunting_r1.map fe = wsX4_takeHunting_r1 := ce fw_2151 (ce fw_1231 (ce fw_1101 (ce fw_3193 (ce fw_3194 (ce fw_3195 (ce fw_1032 (ce fw_3196 (ce fw_1235 (ce fw_1128 (ce fw_1126 (ce fw_1236 (ce fw_1087 (ce fw_1229 (ce fw_1230 (ce fw_1233 (ce fw_1078 (ce fw_3197 (ce fw_3198 (ce fw_1039 (ce fw_3199 (ce fw_3200 (ce fw_3201 (ce fw_3202 (cn))))))))))))))))))))))))
def q_wsX4_takeHunting_r2 : List Nat := [3203, 3204, 3205, 1027, 3206, 1086, 3207, 3209, 5, 1031, 3210, 2149, 2157, 2164, 2133, 2134, 2135, 2136, 1130, 1116, 1237, 3211, 3212, 3213]
set_option maxRecDepth 100000 in
theorem e_wsX4_takeHunting_r2 : q_wsX4_takeHunting_r2.map fe = wsX4_takeHunting_r2 := ce fw_3203 (ce fw_3204 (ce fw_3205 (ce fw_1027 (ce fw_3206 (ce fw_1086 (ce fw_3207 (ce fw_3209 (ce fw_5 (ce fw_1031 (ce fw_3210 (ce fw_2149 (ce fw_2157 (ce fw_2164 (ce fw_2133 (ce fw_2134 (ce fw_2135 (ce fw_2136 (ce fw_1130 (ce fw_1116 (ce fw_1237 (ce fw_3211 (ce fw_3212 (ce fw_3213 (cn))))))))))))))))))))))))
def q_wsX4_takeHunting_r3 : List Nat := [3214, 3215, 3216, 3217, 3218, 3219, 3220, 3221, 3222, 3223, 3224, 3225, 3226, 1127, 1129, 3227, 3228, 3229, 3230, 1077, 3231, 3232, 3234, 6]
set_option maxRecDepth 100000 in
theorem e_wsX4_takeHunting_r3 : q_wsX4_takeHunting_r3.map fe = wsX4_takeHunting_r3 := ce fw_3214 (ce fw_3215 (ce fw_3216 (ce fw_3217 (ce fw_3218 (ce fw_3219 (ce fw_3220 (ce fw_3221 (ce fw_3222 (ce fw_3223 (ce fw_3224 (ce fw_3225 (ce fw_3226 (ce fw_1127 (ce fw_1129 (ce fw_3227 (ce fw_3228 (ce fw_3229 (ce fw_3230 (ce fw_1077 (ce fw_3231 (ce fw_3232 (ce fw_3234 (ce fw_6 (cn))))))))))))))))))))))))
def q_wsX4_takeHunting_r4 : List Nat := [3235, 1119, 1081, 1234, 2162, 2163, 1124, 3236, 3237, 3239, 7, 3240, 2159, 2165, 2155, 3241, 2146, 2147, 1034, 2148, 2114, 2115]
set_option maxRecDepth 100000 in
theorem e_wsX4_takeHunting_r4 : q_wsX4_takeHunting_r4.map fe = wsX4_takeHunting_r4 := ce fw_3235 (ce fw_1119 (ce fw_1081 (ce fw_1234 (ce fw_2162 (ce fw_2163 (ce fw_1124 (ce fw_3236 (ce fw_3237 (ce fw_3239 (ce fw_7 (ce fw_3240 (ce fw_2159 (ce fw_2165 (ce fw_2155 (ce fw_3241 (ce fw_2146 (ce fw_2147 (ce fw_1034 (ce fw_2148 (ce fw_2114 (ce fw_2115 (cn))))))))))))))))))))))
def q_wsX4_takeHunting : List Nat := 3192 :: ((((((q_wsX4_takeHunting_r1) ++ ((q_wsX4_takeHunting_r2) ++ ((q_wsX4_takeHunting_r3) ++ (q_wsX4_takeHunting_r4)))) ++ (q_wsX40)) ++ (q_wsX10)) ++ (q_wsX50)) ++ (q_wsX00))
set_option maxRecDepth 100000 in
theorem e_wsX4_takeHunting : q_wsX4_takeHunting.map fe = wsX4_takeHunting := ce fw_3192 (ca (ca (ca (ca (ca (e_wsX4_takeHunting_r1) (ca (e_wsX4_takeHunting_r2) (ca (e_wsX4_takeHunting_r3) (e_wsX4_takeHunting_r4)))) (e_wsX40)) (e_wsX10)) (e_wsX50)) (e_wsX00))
def q_wsX4_takeVerifying_r1 : List Nat := [2163, 2162, 1119, 2158, 3188, 3173, 3174, 1035, 3175, 2205, 2203, 3246, 3247, 3248, 1027, 3249, 1129, 1127, 3207, 3209, 5, 1031, 3210, 2149]
set_option maxRecDepth 100000 in
theorem e_wsX4_takeVerifying_r1 : q_wsX4_takeVerifying_r1.map fe = wsX4_takeVerifying_r1 := ce fw_2163 (ce fw_2162 (ce fw_1119 (ce fw_2158 (ce fw_3188 (ce fw_3173 (ce fw_3174 (ce fw_1035 (ce fw_3175 (ce fw_2205 (ce fw_2203 (ce fw_3246 (ce fw_3247 (ce fw_3248 (ce fw_1027 (ce fw_3249 (ce fw_1129 (ce fw_1127 (ce fw_3207 (ce fw_3209 (ce fw_5 (ce fw_1031 (ce fw_3210 (ce fw_2149 (cn))))))))))))))))))))))))
def q_wsX4_takeVerifying_r2 : List Nat := [2157, 2164, 2151, 2133, 2134, 2135, 1032, 2136, 1078, 1229, 1130, 1116, 1230, 1233, 1235, 1236, 1237, 3250, 3252, 9, 3253, 1081, 3254, 3204]
set_option maxRecDepth 100000 in
theorem e_wsX4_takeVerifying_r2 : q_wsX4_takeVerifying_r2.map fe = wsX4_takeVerifying_r2 := ce fw_2157 (ce fw_2164 (ce fw_2151 (ce fw_2133 (ce fw_2134 (ce fw_2135 (ce fw_1032 (ce fw_2136 (ce fw_1078 (ce fw_1229 (ce fw_1130 (ce fw_1116 (ce fw_1230 (ce fw_1233 (ce fw_1235 (ce fw_1236 (ce fw_1237 (ce fw_3250 (ce fw_3252 (ce fw_9 (ce fw_3253 (ce fw_1081 (ce fw_3254 (ce fw_3204 (cn))))))))))))))))))))))))
def q_wsX4_takeVerifying_r3 : List Nat := [3205, 3206, 1086, 3255, 3257, 10, 3258, 1124, 3259, 3260, 3261, 3262, 1077, 1117, 3171, 3151, 3152, 3153, 1084, 3172, 3263, 3168, 3169, 3170]
set_option maxRecDepth 100000 in
theorem e_wsX4_takeVerifying_r3 : q_wsX4_takeVerifying_r3.map fe = wsX4_takeVerifying_r3 := ce fw_3205 (ce fw_3206 (ce fw_1086 (ce fw_3255 (ce fw_3257 (ce fw_10 (ce fw_3258 (ce fw_1124 (ce fw_3259 (ce fw_3260 (ce fw_3261 (ce fw_3262 (ce fw_1077 (ce fw_1117 (ce fw_3171 (ce fw_3151 (ce fw_3152 (ce fw_3153 (ce fw_1084 (ce fw_3172 (ce fw_3263 (ce fw_3168 (ce fw_3169 (ce fw_3170 (cn))))))))))))))))))))))))
def q_wsX4_takeVerifying_r4 : List Nat := [1122, 1091, 3237, 3239, 7, 3240, 2159, 2165, 2155, 3241, 2146, 2147, 1034, 2148, 2114, 2115]
set_option maxRecDepth 100000 in
theorem e_wsX4_takeVerifying_r4 : q_wsX4_takeVerifying_r4.map fe = wsX4_takeVerifying_r4 := ce fw_1122 (ce fw_1091 (ce fw_3237 (ce fw_3239 (ce fw_7 (ce fw_3240 (ce fw_2159 (ce fw_2165 (ce fw_2155 (ce fw_3241 (ce fw_2146 (ce fw_2147 (ce fw_1034 (ce fw_2148 (ce fw_2114 (ce fw_2115 (cn))))))))))))))))
def q_wsX4_takeVerifying : List Nat := 3245 :: (((((((q_wsX4_takeVerifying_r1) ++ ((q_wsX4_takeVerifying_r2) ++ ((q_wsX4_takeVerifying_r3) ++ (q_wsX4_takeVerifying_r4)))) ++ (q_wsX40)) ++ (q_wsX50)) ++ (q_wsX20)) ++ (q_wsX10)) ++ (q_wsX00))
set_option maxRecDepth 100000 in
theorem e_wsX4_takeVerifying : q_wsX4_takeVerifying.map fe = wsX4_takeVerifying := ce fw_3245 (ca (ca (ca (ca (ca (ca (e_wsX4_takeVerifying_r1) (ca (e_wsX4_takeVerifying_r2) (ca (e_wsX4_takeVerifying_r3) (e_wsX4_takeVerifying_r4)))) (e_wsX40)) (e_wsX50)) (e_wsX20)) (e_wsX10)) (e_wsX00))
def q_wsX4_takeLocked_r1 : List Nat := [2163, 2149, 2162, 2164, 1081, 2153, 1119, 2166, 3188, 3173, 3174, 1035, 3175, 2205, 2203, 3268, 3270, 12, 1031, 3271, 2165, 1110, 1106, 2161]
set_option maxRecDepth 100000 in
theorem e_wsX4_takeLocked_r1 : q_wsX4_takeLocked_r1.map fe = wsX4_takeLocked_r1 := ce fw_2163 (ce fw_2149 (ce fw_2162 (ce fw_2164 (ce fw_1081 (ce fw_2153 (ce fw_1119 (ce fw_2166 (ce fw_3188 (ce fw_3173 (ce fw_3174 (ce fw_1035 (ce fw_3175 (ce fw_2205 (ce fw_2203 (ce fw_3268 (ce fw_3270 (ce fw_12 (ce fw_1031 (ce fw_3271 (ce fw_2165 (ce fw_1110 (ce fw_1106 (ce fw_2161 (cn))))))))))))))))))))))))
def q_wsX4_takeLocked_r2 : List Nat := [2155, 3272, 3273, 3274, 1027, 3275, 1127, 1129, 3246, 3247, 3248, 3249, 3276, 3198, 1039, 3199, 3200, 3201, 3202, 3207, 3209, 5, 3210, 2157]
set_option maxRecDepth 100000 in
theorem e_wsX4_takeLocked_r2 : q_wsX4_takeLocked_r2.map fe = wsX4_takeLocked_r2 := ce fw_2155 (ce fw_3272 (ce fw_3273 (ce fw_3274 (ce fw_1027 (ce fw_3275 (ce fw_1127 (ce fw_1129 (ce fw_3246 (ce fw_3247 (ce fw_3248 (ce fw_3249 (ce fw_3276 (ce fw_3198 (ce fw_1039 (ce fw_3199 (ce fw_3200 (ce fw_3201 (ce fw_3202 (ce fw_3207 (ce fw_3209 (ce fw_5 (ce fw_3210 (ce fw_2157 (cn))))))))))))))))))))))))
def q_wsX4_takeLocked_r3 : List Nat := [2151, 2133, 2134, 2135, 1032, 2136, 1078, 1229, 1130, 1116, 1230, 1233, 1235, 1236, 1237, 3277, 3151, 3152, 3153, 1086, 1084, 3278, 3279, 3280]
set_option maxRecDepth 100000 in
theorem e_wsX4_takeLocked_r3 : q_wsX4_takeLocked_r3.map fe = wsX4_takeLocked_r3 := ce fw_2151 (ce fw_2133 (ce fw_2134 (ce fw_2135 (ce fw_1032 (ce fw_2136 (ce fw_1078 (ce fw_1229 (ce fw_1130 (ce fw_1116 (ce fw_1230 (ce fw_1233 (ce fw_1235 (ce fw_1236 (ce fw_1237 (ce fw_3277 (ce fw_3151 (ce fw_3152 (ce fw_3153 (ce fw_1086 (ce fw_1084 (ce fw_3278 (ce fw_3279 (ce fw_3280 (cn))))))))))))))))))))))))
def q_wsX4_takeLocked_r4 : List Nat := [1034, 3281, 2114, 2115, 2112, 3282, 3284, 13, 3285, 2109, 2110, 2145, 2146, 2147, 2148, 3250, 3252, 9, 3253, 3254, 3204, 3205, 3206, 3286]
set_option maxRecDepth 100000 in
theorem e_wsX4_takeLocked_r4 : q_wsX4_takeLocked_r4.map fe = wsX4_takeLocked_r4 := ce fw_1034 (ce fw_3281 (ce fw_2114 (ce fw_2115 (ce fw_2112 (ce fw_3282 (ce fw_3284 (ce fw_13 (ce fw_3285 (ce fw_2109 (ce fw_2110 (ce fw_2145 (ce fw_2146 (ce fw_2147 (ce fw_2148 (ce fw_3250 (ce fw_3252 (ce fw_9 (ce fw_3253 (ce fw_3254 (ce fw_3204 (ce fw_3205 (ce fw_3206 (ce fw_3286 (cn))))))))))))))))))))))))
def q_wsX4_takeLocked_r5 : List Nat := [3287, 3288, 1033, 3289, 1257, 1261, 2054, 2055, 2056, 2057, 1259, 3290, 3292, 14, 3293, 3255, 3257, 10, 3258, 1124, 3259, 3260, 3261, 3262]
set_option maxRecDepth 100000 in
theorem e_wsX4_takeLocked_r5 : q_wsX4_takeLocked_r5.map fe = wsX4_takeLocked_r5 := ce fw_3287 (ce fw_3288 (ce fw_1033 (ce fw_3289 (ce fw_1257 (ce fw_1261 (ce fw_2054 (ce fw_2055 (ce fw_2056 (ce fw_2057 (ce fw_1259 (ce fw_3290 (ce fw_3292 (ce fw_14 (ce fw_3293 (ce fw_3255 (ce fw_3257 (ce fw_10 (ce fw_3258 (ce fw_1124 (ce fw_3259 (ce fw_3260 (ce fw_3261 (ce fw_3262 (cn))))))))))))))))))))))))
def q_wsX4_takeLocked_r6 : List Nat := [1077, 1117, 3171, 3172, 3263, 3168, 3169, 3170, 1122, 1091]
set_option maxRecDepth 100000 in
theorem e_wsX4_takeLocked_r6 : q_wsX4_takeLocked_r6.map fe = wsX4_takeLocked_r6 := ce fw_1077 (ce fw_1117 (ce fw_3171 (ce fw_3172 (ce fw_3263 (ce fw_3168 (ce fw_3169 (ce fw_3170 (ce fw_1122 (ce fw_1091 (cn))))))))))
def q_wsX4_takeLocked : List Nat := 3267 :: ((((((((q_wsX4_takeLocked_r1) ++ ((q_wsX4_takeLocked_r2) ++ ((q_wsX4_takeLocked_r3) ++ ((q_wsX4_takeLocked_r4) ++ ((q_wsX4_takeLocked_r5) ++ (q_wsX4_takeLocked_r6)))))) ++ (q_wsX40)) ++ (q_wsX50)) ++ (q_wsX20)) ++ (q_wsX10)) ++ (q_wsX00)) ++ (q_wsX70))
set_option maxRecDepth 100000 in
theorem e_wsX4_takeLocked : q_wsX4_takeLocked.map fe = wsX4_takeLocked := ce fw_3267 (ca (ca (ca (ca (ca (ca (ca (e_wsX4_takeLocked_r1) (ca (e_wsX4_takeLocked_r2) (ca (e_wsX4_takeLocked_r3) (ca (e_wsX4_takeLocked_r4) (ca (e_wsX4_takeLocked_r5) (e_wsX4_takeLocked_r6)))))) (e_wsX40)) (e_wsX50)) (e_wsX20)) (e_wsX10)) (e_wsX00)) (e_wsX70))
def q_wsX7_tick_r1 : List Nat := [2052, 1114, 1082, 1257, 1263, 2050, 3298, 3300, 15, 1033, 3301, 2054, 2058, 2055, 2060, 1259, 2062, 2066, 2067, 2065, 2064, 3306, 3106, 1036]
set_option maxRecDepth 100000 in
theorem e_wsX7_tick_r1 : q_wsX7_tick_r1.map fe = wsX7_tick_r1 := ce fw_2052 (ce fw_1114 (ce fw_1082 (ce fw_1257 (ce fw_1263 (ce fw_2050 (ce fw_3298 (ce fw_3300 (ce fw_15 (ce fw_1033 (ce fw_3301 (ce fw_2054 (ce fw_2058 (ce fw_2055 (ce fw_2060 (ce fw_1259 (ce fw_2062 (ce fw_2066 (ce fw_2067 (ce fw_2065 (ce fw_2064 (ce fw_3306 (ce fw_3106 (ce fw_1036 (cn))))))))))))))))))))))))
def q_wsX7_tick_r2 : List Nat := [3107, 3290, 3292, 14, 3293, 2056, 2057, 3302, 3303, 3304, 1027, 3305, 1097]
set_option maxRecDepth 100000 in
theorem e_wsX7_tick_r2 : q_wsX7_tick_r2.map fe = wsX7_tick_r2 := ce fw_3107 (ce fw_3290 (ce fw_3292 (ce fw_14 (ce fw_3293 (ce fw_2056 (ce fw_2057 (ce fw_3302 (ce fw_3303 (ce fw_3304 (ce fw_1027 (ce fw_3305 (ce fw_1097 (cn)))))))))))))
def q_wsX7_tick : List Nat := 3297 :: ((((q_wsX7_tick_r1) ++ (q_wsX7_tick_r2)) ++ (q_wsX70)) ++ (q_wsX50))
set_option maxRecDepth 100000 in
theorem e_wsX7_tick : q_wsX7_tick.map fe = wsX7_tick := ce fw_3297 (ca (ca (ca (e_wsX7_tick_r1) (e_wsX7_tick_r2)) (e_wsX70)) (e_wsX50))
def q_wsX4_huntAnew : List Nat := 3210 :: (((([2149, 2157, 2164, 2151, 2133, 2134, 2135, 1032, 2136, 1078, 1229, 1130, 1116, 1230, 1233, 1235, 1236, 1237]) ++ (q_wsX40)) ++ (q_wsX50)) ++ (q_wsX10))
set_option maxRecDepth 100000 in
theorem e_wsX4_huntAnew : q_wsX4_huntAnew.map fe = wsX4_huntAnew := ce fw_3210 (ca (ca (ca (ce fw_2149 (ce fw_2157 (ce fw_2164 (ce fw_2151 (ce fw_2133 (ce fw_2134 (ce fw_2135 (ce fw_1032 (ce fw_2136 (ce fw_1078 (ce fw_1229 (ce fw_1130 (ce fw_1116 (ce fw_1230 (ce fw_1233 (ce fw_1235 (ce fw_1236 (ce fw_1237 (cn))))))))))))))))))) (e_wsX40)) (e_wsX50)) (e_wsX10))
def q_wsX4_followLone_r1 : List Nat := [1119, 1081, 2151, 1234, 2162, 2163, 1124, 2149, 2164, 3236, 3216, 3217, 1032, 3218, 1237, 3219, 3220, 3221, 3222, 1230, 1087, 1078, 1229, 3237]
set_option maxRecDepth 100000 in
theorem e_wsX4_followLone_r1 : q_wsX4_followLone_r1.map fe = wsX4_followLone_r1 := ce fw_1119 (ce fw_1081 (ce fw_2151 (ce fw_1234 (ce fw_2162 (ce fw_2163 (ce fw_1124 (ce fw_2149 (ce fw_2164 (ce fw_3236 (ce fw_3216 (ce fw_3217 (ce fw_1032 (ce fw_3218 (ce fw_1237 (ce fw_3219 (ce fw_3220 (ce fw_3221 (ce fw_3222 (ce fw_1230 (ce fw_1087 (ce fw_1078 (ce fw_1229 (ce fw_3237 (cn))))))))))))))))))))))))
def q_wsX4_followLone_r2 : List Nat := [3239, 7, 1031, 3240, 2159, 2165, 2155, 3241, 2146, 2147, 1034, 2148, 2114, 2115]
set_option maxRecDepth 100000 in
theorem e_wsX4_followLone_r2 : q_wsX4_followLone_r2.map fe = wsX4_followLone_r2 := ce fw_3239 (ce fw_7 (ce fw_1031 (ce fw_3240 (ce fw_2159 (ce fw_2165 (ce fw_2155 (ce fw_3241 (ce fw_2146 (ce fw_2147 (ce fw_1034 (ce fw_2148 (ce fw_2114 (ce fw_2115 (cn))))))))))))))
def q_wsX4_followLone : List Nat := 3235 :: ((((((q_wsX4_followLone_r1) ++ (q_wsX4_followLone_r2)) ++ (q_wsX50)) ++ (q_wsX40)) ++ (q_wsX10)) ++ (q_wsX00))
set_option maxRecDepth 100000 in
theorem e_wsX4_followLone : q_wsX4_followLone.map fe = wsX4_followLone := ce fw_3235 (ca (ca (ca (ca (ca (e_wsX4_followLone_r1) (e_wsX4_followLone_r2)) (e_wsX50)) (e_wsX40)) (e_wsX10)) (e_wsX00))
def q_wsX4_lock : List Nat := 3240 :: ((([2149, 2159, 2164, 2165, 2155, 3241, 2146, 2147, 1034, 2148, 2114, 2115]) ++ (q_wsX40)) ++ (q_wsX00))
set_option maxRecDepth 100000 in
theorem e_wsX4_lock : q_wsX4_lock.map fe = wsX4_lock := ce fw_3240 (ca (ca (ce fw_2149 (ce fw_2159 (ce fw_2164 (ce fw_2165 (ce fw_2155 (ce fw_3241 (ce fw_2146 (ce fw_2147 (ce fw_1034 (ce fw_2148 (ce fw_2114 (ce fw_2115 (cn))))))))))))) (e_wsX40)) (e_wsX00))
def q_wsX5_isOther : List Nat := 3249 :: (([1129, 1127]) ++ (q_wsX50))
set_option maxRecDepth 100000 in
theorem e_wsX5_isOther : q_wsX5_isOther.map fe = wsX5_isOther := ce fw_3249 (ca (ce fw_1129 (ce fw_1127 (cn))) (e_wsX50))
def q_wsX4_advance : List Nat := 3253 :: ((([2163, 1081, 2162, 3254, 3204, 3205, 1027, 3206, 1086]) ++ (q_wsX40)) ++ (q_wsX50))
set_option maxRecDepth 100000 in
theorem e_wsX4_advance : q_wsX4_advance.map fe = wsX4_advance := ce fw_3253 (ca (ca (ce fw_2163 (ce fw_1081 (ce fw_2162 (ce fw_3254 (ce fw_3204 (ce fw_3205 (ce fw_1027 (ce fw_3206 (ce fw_1086 (cn)))))))))) (e_wsX40)) (e_wsX50))
def q_wsX4_isJudged : List Nat := 3258 :: ((([2162, 2163, 1124, 2164, 1119]) ++ (q_wsX40)) ++ (q_wsX50))
set_option maxRecDepth 100000 in
theorem e_wsX4_isJudged : q_wsX4_isJudged.map fe = wsX4_isJudged := ce fw_3258 (ca (ca (ce fw_2162 (ce fw_2163 (ce fw_1124 (ce fw_2164 (ce fw_1119 (cn)))))) (e_wsX40)) (e_wsX50))
def q_wsX5_checksHold : List Nat := 3262 :: ((([1086, 1077, 1117, 3171, 3151, 3152, 1027, 3153, 1084, 3172, 3173, 3174, 1035, 3175, 2205, 2203, 3263, 3168, 3169, 3170, 1122, 1091]) ++ (q_wsX50)) ++ (q_wsX20))
set_option maxRecDepth 100000 in
theorem e_wsX5_checksHold : q_wsX5_checksHold.map fe = wsX5_checksHold := ce fw_3262 (ca (ca (ce fw_1086 (ce fw_1077 (ce fw_1117 (ce fw_3171 (ce fw_3151 (ce fw_3152 (ce fw_1027 (ce fw_3153 (ce fw_1084 (ce fw_3172 (ce fw_3173 (ce fw_3174 (ce fw_1035 (ce fw_3175 (ce fw_2205 (ce fw_2203 (ce fw_3263 (ce fw_3168 (ce fw_3169 (ce fw_3170 (ce fw_1122 (ce fw_1091 (cn))))))))))))))))))))))) (e_wsX50)) (e_wsX20))
def q_wsX4_takeFirst_r1 : List Nat := [2162, 2165, 1110, 1106, 2161, 2155, 3272, 3273, 3274, 1027, 3275, 1127, 1129, 3246, 3247, 3248, 3249, 3276, 3198, 1039, 3199, 3200, 3201, 3202]
set_option maxRecDepth 100000 in
theorem e_wsX4_takeFirst_r1 : q_wsX4_takeFirst_r1.map fe = wsX4_takeFirst_r1 := ce fw_2162 (ce fw_2165 (ce fw_1110 (ce fw_1106 (ce fw_2161 (ce fw_2155 (ce fw_3272 (ce fw_3273 (ce fw_3274 (ce fw_1027 (ce fw_3275 (ce fw_1127 (ce fw_1129 (ce fw_3246 (ce fw_3247 (ce fw_3248 (ce fw_3249 (ce fw_3276 (ce fw_3198 (ce fw_1039 (ce fw_3199 (ce fw_3200 (ce fw_3201 (ce fw_3202 (cn))))))))))))))))))))))))
def q_wsX4_takeFirst_r2 : List Nat := [3207, 3209, 5, 1031, 3210, 2149, 2157, 2164, 2151, 2133, 2134, 2135, 1032, 2136, 1078, 1229, 1130, 1116, 1230, 1233, 1235, 1236, 1237, 3277]
set_option maxRecDepth 100000 in
theorem e_wsX4_takeFirst_r2 : q_wsX4_takeFirst_r2.map fe = wsX4_takeFirst_r2 := ce fw_3207 (ce fw_3209 (ce fw_5 (ce fw_1031 (ce fw_3210 (ce fw_2149 (ce fw_2157 (ce fw_2164 (ce fw_2151 (ce fw_2133 (ce fw_2134 (ce fw_2135 (ce fw_1032 (ce fw_2136 (ce fw_1078 (ce fw_1229 (ce fw_1130 (ce fw_1116 (ce fw_1230 (ce fw_1233 (ce fw_1235 (ce fw_1236 (ce fw_1237 (ce fw_3277 (cn))))))))))))))))))))))))
def q_wsX4_takeFirst_r3 : List Nat := [3151, 3152, 3153, 1086, 1084, 3278, 3279, 3280, 1034, 3281, 2114, 2115, 2112, 3282, 3284, 13, 3285, 2109, 2110, 2145, 2146, 2147, 2148]
set_option maxRecDepth 100000 in
theorem e_wsX4_takeFirst_r3 : q_wsX4_takeFirst_r3.map fe = wsX4_takeFirst_r3 := ce fw_3151 (ce fw_3152 (ce fw_3153 (ce fw_1086 (ce fw_1084 (ce fw_3278 (ce fw_3279 (ce fw_3280 (ce fw_1034 (ce fw_3281 (ce fw_2114 (ce fw_2115 (ce fw_2112 (ce fw_3282 (ce fw_3284 (ce fw_13 (ce fw_3285 (ce fw_2109 (ce fw_2110 (ce fw_2145 (ce fw_2146 (ce fw_2147 (ce fw_2148 (cn)))))))))))))))))))))))
def q_wsX4_takeFirst : List Nat := 3271 :: ((((((q_wsX4_takeFirst_r1) ++ ((q_wsX4_takeFirst_r2) ++ (q_wsX4_takeFirst_r3))) ++ (q_wsX40)) ++ (q_wsX50)) ++ (q_wsX10)) ++ (q_wsX00))
set_option maxRecDepth 100000 in
theorem e_wsX4_takeFirst : q_wsX4_takeFirst.map fe = wsX4_takeFirst := ce fw_3271 (ca (ca (ca (ca (ca (e_wsX4_takeFirst_r1) (ca (e_wsX4_takeFirst_r2) (e_wsX4_takeFirst_r3))) (e_wsX40)) (e_wsX50)) (e_wsX10)) (e_wsX00))
def q_wsX7_come : List Nat := 3289 :: (([1257, 1261, 2054, 2055, 2056, 2057, 1259, 3290, 3292, 14, 1033, 3293]) ++ (q_wsX70))
set_option maxRecDepth 100000 in
theorem e_wsX7_come : q_wsX7_come.map fe = wsX7_come := ce fw_3289 (ca (ce fw_1257 (ce fw_1261 (ce fw_2054 (ce fw_2055 (ce fw_2056 (ce fw_2057 (ce fw_1259 (ce fw_3290 (ce fw_3292 (ce fw_14 (ce fw_1033 (ce fw_3293 (cn))))))))))))) (e_wsX70))
def q_wsX5_isFixed : List Nat := 3275 :: (([1127, 1129]) ++ (q_wsX50))
set_option maxRecDepth 100000 in
theorem e_wsX5_isFixed : q_wsX5_isFixed.map fe = wsX5_isFixed := ce fw_3275 (ca (ce fw_1127 (ce fw_1129 (cn))) (e_wsX50))
def q_wsX5_roleAt : List Nat := 3153 :: (([1086, 1084]) ++ (q_wsX50))
set_option maxRecDepth 100000 in
theorem e_wsX5_roleAt : q_wsX5_roleAt.map fe = wsX5_roleAt := ce fw_3153 (ca (ce fw_1086 (ce fw_1084 (cn))) (e_wsX50))
def q_wsX4_tell_r1 : List Nat := [2149, 2151, 1231, 2157, 2158, 2159, 2161, 2162, 1081, 2163, 2164, 2165, 2166, 2153, 1260, 1262, 2048, 2051, 1258, 2053, 2155, 2111, 2113, 3276]
set_option maxRecDepth 100000 in
theorem e_wsX4_tell_r1 : q_wsX4_tell_r1.map fe = wsX4_tell_r1 := ce fw_2149 (ce fw_2151 (ce fw_1231 (ce fw_2157 (ce fw_2158 (ce fw_2159 (ce fw_2161 (ce fw_2162 (ce fw_1081 (ce fw_2163 (ce fw_2164 (ce fw_2165 (ce fw_2166 (ce fw_2153 (ce fw_1260 (ce fw_1262 (ce fw_2048 (ce fw_2051 (ce fw_1258 (ce fw_2053 (ce fw_2155 (ce fw_2111 (ce fw_2113 (ce fw_3276 (cn))))))))))))))))))))))))
def q_wsX4_tell_r2 : List Nat := [3198, 1039, 3199, 3200, 3201, 3202]
set_option maxRecDepth 100000 in
theorem e_wsX4_tell_r2 : q_wsX4_tell_r2.map fe = wsX4_tell_r2 := ce fw_3198 (ce fw_1039 (ce fw_3199 (ce fw_3200 (ce fw_3201 (ce fw_3202 (cn))))))
def q_wsX4_tell : List Nat := 4102 :: (((((((q_wsX4_tell_r1) ++ (q_wsX4_tell_r2)) ++ (q_wsX40)) ++ (q_wsX10)) ++ (q_wsX50)) ++ (q_wsX70)) ++ (q_wsX00))
set_option maxRecDepth 100000 in
theorem e_wsX4_tell : q_wsX4_tell.map fe = wsX4_tell := ce fw_4102 (ca (ca (ca (ca (ca (ca (e_wsX4_tell_r1) (e_wsX4_tell_r2)) (e_wsX40)) (e_wsX10)) (e_wsX50)) (e_wsX70)) (e_wsX00))
def q_wsX4_copyFrom_r1 : List Nat := [2149, 2151, 2153, 2155, 2157, 2158, 2159, 2161, 2162, 2163, 2164, 2165, 2166, 3120, 3121, 3122, 1032, 3123, 1229, 3124, 3110, 3109, 1040, 1230]
set_option maxRecDepth 100000 in
theorem e_wsX4_copyFrom_r1 : q_wsX4_copyFrom_r1.map fe = wsX4_copyFrom_r1 := ce fw_2149 (ce fw_2151 (ce fw_2153 (ce fw_2155 (ce fw_2157 (ce fw_2158 (ce fw_2159 (ce fw_2161 (ce fw_2162 (ce fw_2163 (ce fw_2164 (ce fw_2165 (ce fw_2166 (ce fw_3120 (ce fw_3121 (ce fw_3122 (ce fw_1032 (ce fw_3123 (ce fw_1229 (ce fw_3124 (ce fw_3110 (ce fw_3109 (ce fw_1040 (ce fw_1230 (cn))))))))))))))))))))))))
def q_wsX4_copyFrom_r2 : List Nat := [1233, 1235, 1236, 1237, 3125, 3126, 3127, 1033, 3128, 1257, 1259, 1261, 1263, 2050, 2052, 2054, 2055, 2056, 2057, 2058, 2060, 2062, 2064, 2065]
set_option maxRecDepth 100000 in
theorem e_wsX4_copyFrom_r2 : q_wsX4_copyFrom_r2.map fe = wsX4_copyFrom_r2 := ce fw_1233 (ce fw_1235 (ce fw_1236 (ce fw_1237 (ce fw_3125 (ce fw_3126 (ce fw_3127 (ce fw_1033 (ce fw_3128 (ce fw_1257 (ce fw_1259 (ce fw_1261 (ce fw_1263 (ce fw_2050 (ce fw_2052 (ce fw_2054 (ce fw_2055 (ce fw_2056 (ce fw_2057 (ce fw_2058 (ce fw_2060 (ce fw_2062 (ce fw_2064 (ce fw_2065 (cn))))))))))))))))))))))))
def q_wsX4_copyFrom_r3 : List Nat := [2066, 2067, 3129, 3130, 3131, 1034, 3132, 2109, 3133, 2110, 2112, 2114, 2115]
set_option maxRecDepth 100000 in
theorem e_wsX4_copyFrom_r3 : q_wsX4_copyFrom_r3.map fe = wsX4_copyFrom_r3 := ce fw_2066 (ce fw_2067 (ce fw_3129 (ce fw_3130 (ce fw_3131 (ce fw_1034 (ce fw_3132 (ce fw_2109 (ce fw_3133 (ce fw_2110 (ce fw_2112 (ce fw_2114 (ce fw_2115 (cn)))))))))))))
def q_wsX4_copyFrom : List Nat := 3119 :: ((((((q_wsX4_copyFrom_r1) ++ ((q_wsX4_copyFrom_r2) ++ (q_wsX4_copyFrom_r3))) ++ (q_wsX40)) ++ (q_wsX10)) ++ (q_wsX70)) ++ (q_wsX00))
set_option maxRecDepth 100000 in
theorem e_wsX4_copyFrom : q_wsX4_copyFrom.map fe = wsX4_copyFrom := ce fw_3119 (ca (ca (ca (ca (ca (e_wsX4_copyFrom_r1) (ca (e_wsX4_copyFrom_r2) (e_wsX4_copyFrom_r3))) (e_wsX40)) (e_wsX10)) (e_wsX70)) (e_wsX00))
def q_wsX1_copyFrom : List Nat := 3123 :: (([1229, 3124, 3110, 3109, 1040, 1230, 1233, 1235, 1236, 1237]) ++ (q_wsX10))
set_option maxRecDepth 100000 in
theorem e_wsX1_copyFrom : q_wsX1_copyFrom.map fe = wsX1_copyFrom := ce fw_3123 (ca (ce fw_1229 (ce fw_3124 (ce fw_3110 (ce fw_3109 (ce fw_1040 (ce fw_1230 (ce fw_1233 (ce fw_1235 (ce fw_1236 (ce fw_1237 (cn))))))))))) (e_wsX10))
def q_wsX7_copyFrom : List Nat := 3128 :: (([1257, 1259, 1261, 1263, 2050, 2052, 2054, 2055, 2056, 2057, 2058, 2060, 2062, 2064, 2065, 2066, 2067]) ++ (q_wsX70))
set_option maxRecDepth 100000 in
theorem e_wsX7_copyFrom : q_wsX7_copyFrom.map fe = wsX7_copyFrom := ce fw_3128 (ca (ce fw_1257 (ce fw_1259 (ce fw_1261 (ce fw_1263 (ce fw_2050 (ce fw_2052 (ce fw_2054 (ce fw_2055 (ce fw_2056 (ce fw_2057 (ce fw_2058 (ce fw_2060 (ce fw_2062 (ce fw_2064 (ce fw_2065 (ce fw_2066 (ce fw_2067 (cn)))))))))))))))))) (e_wsX70))
def q_wsX0_copyFrom : List Nat := 3132 :: (([2109, 3133, 3110, 3109, 1040, 2110, 2112, 2114, 2115]) ++ (q_wsX00))
set_option maxRecDepth 100000 in
theorem e_wsX0_copyFrom : q_wsX0_copyFrom.map fe = wsX0_copyFrom := ce fw_3132 (ca (ce fw_2109 (ce fw_3133 (ce fw_3110 (ce fw_3109 (ce fw_1040 (ce fw_2110 (ce fw_2112 (ce fw_2114 (ce fw_2115 (cn)))))))))) (e_wsX00))
def q_wsX5_framesStarted : List Nat := 3230 :: (([1077]) ++ (q_wsX50))
set_option maxRecDepth 100000 in
theorem e_wsX5_framesStarted : q_wsX5_framesStarted.map fe = wsX5_framesStarted := ce fw_3230 (ca (ce fw_1077 (cn)) (e_wsX50))
def q_wsX5_checksOf : List Nat := 3170 :: ((([1122, 1091, 1086, 1077, 3171, 3151, 3152, 1027, 3153, 1084, 3172, 3173, 3174, 1035, 3175, 2205, 2203]) ++ (q_wsX50)) ++ (q_wsX20))
set_option maxRecDepth 100000 in
theorem e_wsX5_checksOf : q_wsX5_checksOf.map fe = wsX5_checksOf := ce fw_3170 (ca (ca (ce fw_1122 (ce fw_1091 (ce fw_1086 (ce fw_1077 (ce fw_3171 (ce fw_3151 (ce fw_3152 (ce fw_1027 (ce fw_3153 (ce fw_1084 (ce fw_3172 (ce fw_3173 (ce fw_3174 (ce fw_1035 (ce fw_3175 (ce fw_2205 (ce fw_2203 (cn)))))))))))))))))) (e_wsX50)) (e_wsX20))
def q_wsX6_transmit_r1 : List Nat := [3146, 3148, 1, 1030, 3149, 2206, 1123, 1088, 1207, 1080, 3166, 3150, 3151, 3152, 1027, 3153, 1086, 1084, 3154, 3155, 3156, 1035, 3157, 2205]
set_option maxRecDepth 100000 in
theorem e_wsX6_transmit_r1 : q_wsX6_transmit_r1.map fe = wsX6_transmit_r1 := ce fw_3146 (ce fw_3148 (ce fw_1 (ce fw_1030 (ce fw_3149 (ce fw_2206 (ce fw_1123 (ce fw_1088 (ce fw_1207 (ce fw_1080 (ce fw_3166 (ce fw_3150 (ce fw_3151 (ce fw_3152 (ce fw_1027 (ce fw_3153 (ce fw_1086 (ce fw_1084 (ce fw_3154 (ce fw_3155 (ce fw_3156 (ce fw_1035 (ce fw_3157 (ce fw_2205 (cn))))))))))))))))))))))))
def q_wsX6_transmit_r2 : List Nat := [2203, 3158, 3160, 2, 3161, 1203, 1205, 1202, 3162, 3164, 3, 3165, 3167, 3168, 3169, 3170, 1122, 1091, 1077, 3171, 3172, 3173, 3174, 3175]
set_option maxRecDepth 100000 in
theorem e_wsX6_transmit_r2 : q_wsX6_transmit_r2.map fe = wsX6_transmit_r2 := ce fw_2203 (ce fw_3158 (ce fw_3160 (ce fw_2 (ce fw_3161 (ce fw_1203 (ce fw_1205 (ce fw_1202 (ce fw_3162 (ce fw_3164 (ce fw_3 (ce fw_3165 (ce fw_3167 (ce fw_3168 (ce fw_3169 (ce fw_3170 (ce fw_1122 (ce fw_1091 (ce fw_1077 (ce fw_3171 (ce fw_3172 (ce fw_3173 (ce fw_3174 (ce fw_3175 (cn))))))))))))))))))))))))
def q_wsX60 : List Nat := [1208, 1210, 1212, 1214]
theorem e_wsX60 : q_wsX60.map fe = wsX60 := by decide +kernel
def q_wsX6_transmit : List Nat := 3145 :: (((((q_wsX6_transmit_r1) ++ (q_wsX6_transmit_r2)) ++ (q_wsX20)) ++ (q_wsX50)) ++ (q_wsX60))
set_option maxRecDepth 100000 in
theorem e_wsX6_transmit : q_wsX6_transmit.map fe = wsX6_transmit := ce fw_3145 (ca (ca (ca (ca (e_wsX6_transmit_r1) (e_wsX6_transmit_r2)) (e_wsX20)) (e_wsX50)) (e_wsX60))
def q_wsX6_transmitOne_r1 : List Nat := [2206, 1123, 1088, 1207, 1080, 3166, 3150, 3151, 3152, 1027, 3153, 1086, 1084, 3154, 3155, 3156, 1035, 3157, 2205, 2203, 3158, 3160, 2, 1030]
set_option maxRecDepth 100000 in
theorem e_wsX6_transmitOne_r1 : q_wsX6_transmitOne_r1.map fe = wsX6_transmitOne_r1 := ce fw_2206 (ce fw_1123 (ce fw_1088 (ce fw_1207 (ce fw_1080 (ce fw_3166 (ce fw_3150 (ce fw_3151 (ce fw_3152 (ce fw_1027 (ce fw_3153 (ce fw_1086 (ce fw_1084 (ce fw_3154 (ce fw_3155 (ce fw_3156 (ce fw_1035 (ce fw_3157 (ce fw_2205 (ce fw_2203 (ce fw_3158 (ce fw_3160 (ce fw_2 (ce fw_1030 (cn))))))))))))))))))))))))
def q_wsX6_transmitOne_r2 : List Nat := [3161, 1203, 1205, 1202, 3162, 3164, 3, 3165, 3167, 3168, 3169, 3170, 1122, 1091, 1077, 3171, 3172, 3173, 3174, 3175]
set_option maxRecDepth 100000 in
theorem e_wsX6_transmitOne_r2 : q_wsX6_transmitOne_r2.map fe = wsX6_transmitOne_r2 := ce fw_3161 (ce fw_1203 (ce fw_1205 (ce fw_1202 (ce fw_3162 (ce fw_3164 (ce fw_3 (ce fw_3165 (ce fw_3167 (ce fw_3168 (ce fw_3169 (ce fw_3170 (ce fw_1122 (ce fw_1091 (ce fw_1077 (ce fw_3171 (ce fw_3172 (ce fw_3173 (ce fw_3174 (ce fw_3175 (cn))))))))))))))))))))
def q_wsX6_transmitOne : List Nat := 3149 :: (((((q_wsX6_transmitOne_r1) ++ (q_wsX6_transmitOne_r2)) ++ (q_wsX20)) ++ (q_wsX50)) ++ (q_wsX60))
set_option maxRecDepth 100000 in
theorem e_wsX6_transmitOne : q_wsX6_transmitOne.map fe = wsX6_transmitOne := ce fw_3149 (ca (ca (ca (ca (e_wsX6_transmitOne_r1) (e_wsX6_transmitOne_r2)) (e_wsX20)) (e_wsX50)) (e_wsX60))
def q_wsX2_append : List Nat := 3157 :: (([2205, 2203]) ++ (q_wsX20))
set_option maxRecDepth 100000 in
theorem e_wsX2_append : q_wsX2_append.map fe = wsX2_append := ce fw_3157 (ca (ce fw_2205 (ce fw_2203 (cn))) (e_wsX20))
def q_wsX6_linkBit : List Nat := 3161 :: (([1203, 1205, 1202, 3162, 3164, 3, 1030, 3165]) ++ (q_wsX60))
set_option maxRecDepth 100000 in
theorem e_wsX6_linkBit : q_wsX6_linkBit.map fe = wsX6_linkBit := ce fw_3161 (ca (ce fw_1203 (ce fw_1205 (ce fw_1202 (ce fw_3162 (ce fw_3164 (ce fw_3 (ce fw_1030 (ce fw_3165 (cn))))))))) (e_wsX60))
def q_wsX6_dequeue : List Nat := 3165 :: (([1202, 1203, 1205]) ++ (q_wsX60))
set_option maxRecDepth 100000 in
theorem e_wsX6_dequeue : q_wsX6_dequeue.map fe = wsX6_dequeue := ce fw_3165 (ca (ce fw_1202 (ce fw_1203 (ce fw_1205 (cn)))) (e_wsX60))
def q_wsX7_dropOlder : List Nat := 3293 :: (([2056, 2054, 2057, 2055, 1257]) ++ (q_wsX70))
set_option maxRecDepth 100000 in
theorem e_wsX7_dropOlder : q_wsX7_dropOlder.map fe = wsX7_dropOlder := ce fw_3293 (ca (ce fw_2056 (ce fw_2054 (ce fw_2057 (ce fw_2055 (ce fw_1257 (cn)))))) (e_wsX70))
def q_wsX7_readOlder_r1 : List Nat := [2054, 2058, 2055, 2060, 1259, 1257, 2062, 1263, 2066, 2067, 2065, 2064, 3306, 3106, 1036, 3107, 3290, 3292, 14, 1033, 3293, 2056, 2057, 3302]
set_option maxRecDepth 100000 in
theorem e_wsX7_readOlder_r1 : q_wsX7_readOlder_r1.map fe = wsX7_readOlder_r1 := ce fw_2054 (ce fw_2058 (ce fw_2055 (ce fw_2060 (ce fw_1259 (ce fw_1257 (ce fw_2062 (ce fw_1263 (ce fw_2066 (ce fw_2067 (ce fw_2065 (ce fw_2064 (ce fw_3306 (ce fw_3106 (ce fw_1036 (ce fw_3107 (ce fw_3290 (ce fw_3292 (ce fw_14 (ce fw_1033 (ce fw_3293 (ce fw_2056 (ce fw_2057 (ce fw_3302 (cn))))))))))))))))))))))))
def q_wsX7_readOlder_r2 : List Nat := [3303, 3304, 1027, 3305, 1097]
set_option maxRecDepth 100000 in
theorem e_wsX7_readOlder_r2 : q_wsX7_readOlder_r2.map fe = wsX7_readOlder_r2 := ce fw_3303 (ce fw_3304 (ce fw_1027 (ce fw_3305 (ce fw_1097 (cn)))))
def q_wsX7_readOlder : List Nat := 3301 :: ((((q_wsX7_readOlder_r1) ++ (q_wsX7_readOlder_r2)) ++ (q_wsX70)) ++ (q_wsX50))
set_option maxRecDepth 100000 in
theorem e_wsX7_readOlder : q_wsX7_readOlder.map fe = wsX7_readOlder := ce fw_3301 (ca (ca (ca (e_wsX7_readOlder_r1) (e_wsX7_readOlder_r2)) (e_wsX70)) (e_wsX50))
def q_wsX5_isSignalPlace : List Nat := 3305 :: (([1097]) ++ (q_wsX50))
set_option maxRecDepth 100000 in
theorem e_wsX5_isSignalPlace : q_wsX5_isSignalPlace.map fe = wsX5_isSignalPlace := ce fw_3305 (ca (ce fw_1097 (cn)) (e_wsX50))
def q_wsX8_append : List Nat := 4137 :: (([1173, 1172, 4138, 4139, 1028, 4140]) ++ (q_wsX80))
set_option maxRecDepth 100000 in
theorem e_wsX8_append : q_wsX8_append.map fe = wsX8_append := ce fw_4137 (ca (ce fw_1173 (ce fw_1172 (ce fw_4138 (ce fw_4139 (ce fw_1028 (ce fw_4140 (cn))))))) (e_wsX80))
def q_wsX8_byteOf : List Nat := 4140 :: ([])
set_option maxRecDepth 100000 in
theorem e_wsX8_byteOf : q_wsX8_byteOf.map fe = wsX8_byteOf := ce fw_4140 (cn)
def q_wsX9_init_r1 : List Nat := [1195, 1055, 1056, 1196, 1197, 1030, 2215, 1217, 1218, 1031, 2217, 2194, 2195, 1035, 2213, 1199, 1200, 1201, 1165, 1202, 1219, 1220, 1221, 1222]
set_option maxRecDepth 100000 in
theorem e_wsX9_init_r1 : q_wsX9_init_r1.map fe = wsX9_init_r1 := ce fw_1195 (ce fw_1055 (ce fw_1056 (ce fw_1196 (ce fw_1197 (ce fw_1030 (ce fw_2215 (ce fw_1217 (ce fw_1218 (ce fw_1031 (ce fw_2217 (ce fw_2194 (ce fw_2195 (ce fw_1035 (ce fw_2213 (ce fw_1199 (ce fw_1200 (ce fw_1201 (ce fw_1165 (ce fw_1202 (ce fw_1219 (ce fw_1220 (ce fw_1221 (ce fw_1222 (cn))))))))))))))))))))))))
def q_wsX9_init_r2 : List Nat := [1223, 1224, 1032, 2151, 1251, 1252, 1033, 2153, 2103, 2104, 1034, 2155, 2127, 1064, 1027, 1226, 1227, 1228, 1229, 1254, 1255, 1256, 2106, 2107]
set_option maxRecDepth 100000 in
theorem e_wsX9_init_r2 : q_wsX9_init_r2.map fe = wsX9_init_r2 := ce fw_1223 (ce fw_1224 (ce fw_1032 (ce fw_2151 (ce fw_1251 (ce fw_1252 (ce fw_1033 (ce fw_2153 (ce fw_2103 (ce fw_2104 (ce fw_1034 (ce fw_2155 (ce fw_2127 (ce fw_1064 (ce fw_1027 (ce fw_1226 (ce fw_1227 (ce fw_1228 (ce fw_1229 (ce fw_1254 (ce fw_1255 (ce fw_1256 (ce fw_2106 (ce fw_2107 (cn))))))))))))))))))))))))
def q_wsX9_init_r3 : List Nat := [2108, 2109, 2128, 1066, 1067, 1068, 1084, 1069, 1070, 1071, 1072, 1077, 1086, 1091, 1094, 1097, 1100, 1104, 1108, 1112, 1073, 1074, 1075, 1076]
set_option maxRecDepth 100000 in
theorem e_wsX9_init_r3 : q_wsX9_init_r3.map fe = wsX9_init_r3 := ce fw_2108 (ce fw_2109 (ce fw_2128 (ce fw_1066 (ce fw_1067 (ce fw_1068 (ce fw_1084 (ce fw_1069 (ce fw_1070 (ce fw_1071 (ce fw_1072 (ce fw_1077 (ce fw_1086 (ce fw_1091 (ce fw_1094 (ce fw_1097 (ce fw_1100 (ce fw_1104 (ce fw_1108 (ce fw_1112 (ce fw_1073 (ce fw_1074 (ce fw_1075 (ce fw_1076 (cn))))))))))))))))))))))))
