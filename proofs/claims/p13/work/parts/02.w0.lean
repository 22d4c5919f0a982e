def q_wsX00 : List Nat := [2121, 2123, 2125, 2127, 2129]
theorem e_wsX00 : q_wsX00.map fe = wsX00 := by decide +kernel
def q_wsX0_begin : List Nat := 2149 :: (([2115, 2117, 2150, 2151, 2152, 1034, 2153, 2119, 2120]) ++ (q_wsX00))
set_option maxRecDepth 100000 in
theorem e_wsX0_begin : q_wsX0_begin.map fe = wsX0_begin := ce fw_2149 (ca (ce fw_2115 (ce fw_2117 (ce fw_2150 (ce fw_2151 (ce fw_2152 (ce fw_1034 (ce fw_2153 (ce fw_2119 (ce fw_2120 (cn)))))))))) (e_wsX00))
def q_wsX0_forget : List Nat := 2153 :: (([2119, 2120]) ++ (q_wsX00))
set_option maxRecDepth 100000 in
theorem e_wsX0_forget : q_wsX0_forget.map fe = wsX0_forget := ce fw_2153 (ca (ce fw_2119 (ce fw_2120 (cn))) (e_wsX00))
def q_wsX0_take : List Nat := 4242 :: (([2119, 2120, 2117, 4243, 4245, 21, 1034, 4246, 2114, 2115, 2150, 2151, 2152, 2153]) ++ (q_wsX00))
set_option maxRecDepth 100000 in
theorem e_wsX0_take : q_wsX0_take.map fe = wsX0_take := ce fw_4242 (ca (ce fw_2119 (ce fw_2120 (ce fw_2117 (ce fw_4243 (ce fw_4245 (ce fw_21 (ce fw_1034 (ce fw_4246 (ce fw_2114 (ce fw_2115 (ce fw_2150 (ce fw_2151 (ce fw_2152 (ce fw_2153 (cn))))))))))))))) (e_wsX00))
def q_wsX0_keep : List Nat := 4246 :: (([2114, 2115]) ++ (q_wsX00))
set_option maxRecDepth 100000 in
theorem e_wsX0_keep : q_wsX0_keep.map fe = wsX0_keep := ce fw_4246 (ca (ce fw_2114 (ce fw_2115 (cn))) (e_wsX00))
def q_wsX10 : List Nat := [1239, 1241, 1243, 1245, 1247, 1249]
theorem e_wsX10 : q_wsX10.map fe = wsX10 := by decide +kernel
def q_wsX50 : List Nat := [1132, 1134, 1136, 1138, 1140, 1142, 1144, 1146, 1148, 1150, 1152, 1154, 1156, 1158, 1160, 1162]
theorem e_wsX50 : q_wsX50.map fe = wsX50 := by decide +kernel
def q_wsX1_follow : List Nat := 4157 :: ((([1236, 1128, 1126, 1237, 1087, 1229, 1230, 1233, 1078, 4158, 4159, 1044, 4160, 4161, 4162, 4163, 4164, 4165, 4166, 1027, 4167, 1086]) ++ (q_wsX10)) ++ (q_wsX50))
set_option maxRecDepth 100000 in
theorem e_wsX1_follow : q_wsX1_follow.map fe = wsX1_follow := ce fw_4157 (ca (ca (ce fw_1236 (ce fw_1128 (ce fw_1126 (ce fw_1237 (ce fw_1087 (ce fw_1229 (ce fw_1230 (ce fw_1233 (ce fw_1078 (ce fw_4158 (ce fw_4159 (ce fw_1044 (ce fw_4160 (ce fw_4161 (ce fw_4162 (ce fw_4163 (ce fw_4164 (ce fw_4165 (ce fw_4166 (ce fw_1027 (ce fw_4167 (ce fw_1086 (cn))))))))))))))))))))))) (e_wsX10)) (e_wsX50))
def q_wsJ6_bitCount_0f7a4 : List Nat := 4160 :: ([4161, 4162, 4163])
set_option maxRecDepth 100000 in
theorem e_wsJ6_bitCount_0f7a4 : q_wsJ6_bitCount_0f7a4.map fe = wsJ6_bitCount_0f7a4 := ce fw_4160 (ce fw_4161 (ce fw_4162 (ce fw_4163 (cn))))
def q_wsX5_placeBehind : List Nat := 4167 :: (([1086]) ++ (q_wsX50))
set_option maxRecDepth 100000 in
theorem e_wsX5_placeBehind : q_wsX5_placeBehind.map fe = wsX5_placeBehind := ce fw_4167 (ca (ce fw_1086 (cn)) (e_wsX50))
def q_wsX1_lone : List Nat := 4179 :: ((([1238, 4180, 4181, 4182, 1032, 4183, 1230, 1087, 1078, 1229]) ++ (q_wsX10)) ++ (q_wsX50))
set_option maxRecDepth 100000 in
theorem e_wsX1_lone : q_wsX1_lone.map fe = wsX1_lone := ce fw_4179 (ca (ca (ce fw_1238 (ce fw_4180 (ce fw_4181 (ce fw_4182 (ce fw_1032 (ce fw_4183 (ce fw_1230 (ce fw_1087 (ce fw_1078 (ce fw_1229 (cn))))))))))) (e_wsX10)) (e_wsX50))
def q_wsX1_nth : List Nat := 4183 :: ((([1230, 1087, 1078, 1229]) ++ (q_wsX10)) ++ (q_wsX50))
set_option maxRecDepth 100000 in
theorem e_wsX1_nth : q_wsX1_nth.map fe = wsX1_nth := ce fw_4183 (ca (ca (ce fw_1230 (ce fw_1087 (ce fw_1078 (ce fw_1229 (cn))))) (e_wsX10)) (e_wsX50))
def q_wsX1_fixedHeard_r1 : List Nat := [1233, 4176, 4177, 4178, 1032, 4179, 1238, 4180, 4181, 4182, 4183, 1230, 1087, 1078, 1229, 4184, 4185, 4186, 1027, 4187, 1086, 1127, 1129, 4188]
set_option maxRecDepth 100000 in
theorem e_wsX1_fixedHeard_r1 : q_wsX1_fixedHeard_r1.map fe = wsX1_fixedHeard_r1 := ce fw_1233 (ce fw_4176 (ce fw_4177 (ce fw_4178 (ce fw_1032 (ce fw_4179 (ce fw_1238 (ce fw_4180 (ce fw_4181 (ce fw_4182 (ce fw_4183 (ce fw_1230 (ce fw_1087 (ce fw_1078 (ce fw_1229 (ce fw_4184 (ce fw_4185 (ce fw_4186 (ce fw_1027 (ce fw_4187 (ce fw_1086 (ce fw_1127 (ce fw_1129 (ce fw_4188 (cn))))))))))))))))))))))))
def q_wsX1_fixedHeard_r2 : List Nat := [4189, 4190, 4191, 1077, 4192, 4159, 1044, 4160, 4161, 4162, 4163]
set_option maxRecDepth 100000 in
theorem e_wsX1_fixedHeard_r2 : q_wsX1_fixedHeard_r2.map fe = wsX1_fixedHeard_r2 := ce fw_4189 (ce fw_4190 (ce fw_4191 (ce fw_1077 (ce fw_4192 (ce fw_4159 (ce fw_1044 (ce fw_4160 (ce fw_4161 (ce fw_4162 (ce fw_4163 (cn)))))))))))
def q_wsX1_fixedHeard : List Nat := 4175 :: ((((q_wsX1_fixedHeard_r1) ++ (q_wsX1_fixedHeard_r2)) ++ (q_wsX10)) ++ (q_wsX50))
set_option maxRecDepth 100000 in
theorem e_wsX1_fixedHeard : q_wsX1_fixedHeard.map fe = wsX1_fixedHeard := ce fw_4175 (ca (ca (ca (e_wsX1_fixedHeard_r1) (e_wsX1_fixedHeard_r2)) (e_wsX10)) (e_wsX50))
def q_wsX5_fixedStarted : List Nat := 4187 :: (([1086, 1127, 1129, 4188, 4189, 4190, 1027, 4191, 1077, 4192, 4159, 1044, 4160, 4161, 4162, 4163]) ++ (q_wsX50))
set_option maxRecDepth 100000 in
theorem e_wsX5_fixedStarted : q_wsX5_fixedStarted.map fe = wsX5_fixedStarted := ce fw_4187 (ca (ce fw_1086 (ce fw_1127 (ce fw_1129 (ce fw_4188 (ce fw_4189 (ce fw_4190 (ce fw_1027 (ce fw_4191 (ce fw_1077 (ce fw_4192 (ce fw_4159 (ce fw_1044 (ce fw_4160 (ce fw_4161 (ce fw_4162 (ce fw_4163 (cn))))))))))))))))) (e_wsX50))
def q_wsX3_init_r1 : List Nat := [2258, 1055, 1056, 2259, 1064, 1027, 2263, 2261, 1167, 1028, 2265, 2260, 1066, 1067, 1068, 1165, 1084, 1069, 1070, 1071, 1072, 1077, 1086, 1091]
set_option maxRecDepth 100000 in
theorem e_wsX3_init_r1 : q_wsX3_init_r1.map fe = wsX3_init_r1 := ce fw_2258 (ce fw_1055 (ce fw_1056 (ce fw_2259 (ce fw_1064 (ce fw_1027 (ce fw_2263 (ce fw_2261 (ce fw_1167 (ce fw_1028 (ce fw_2265 (ce fw_2260 (ce fw_1066 (ce fw_1067 (ce fw_1068 (ce fw_1165 (ce fw_1084 (ce fw_1069 (ce fw_1070 (ce fw_1071 (ce fw_1072 (ce fw_1077 (ce fw_1086 (ce fw_1091 (cn))))))))))))))))))))))))
def q_wsX3_init_r2 : List Nat := [1094, 1097, 1100, 1104, 1108, 1112, 1073, 1074, 1075, 1076, 1117, 1120, 1122, 1127, 1129, 1131, 1169, 1170, 1171, 1189, 1172, 1178]
set_option maxRecDepth 100000 in
theorem e_wsX3_init_r2 : q_wsX3_init_r2.map fe = wsX3_init_r2 := ce fw_1094 (ce fw_1097 (ce fw_1100 (ce fw_1104 (ce fw_1108 (ce fw_1112 (ce fw_1073 (ce fw_1074 (ce fw_1075 (ce fw_1076 (ce fw_1117 (ce fw_1120 (ce fw_1122 (ce fw_1127 (ce fw_1129 (ce fw_1131 (ce fw_1169 (ce fw_1170 (ce fw_1171 (ce fw_1189 (ce fw_1172 (ce fw_1178 (cn))))))))))))))))))))))
def q_wsX30 : List Nat := [2273, 2275, 2277, 2279, 2281, 2283, 2285]
theorem e_wsX30 : q_wsX30.map fe = wsX30 := by decide +kernel
def q_wsX80 : List Nat := [1180, 1182, 1184, 1186]
theorem e_wsX80 : q_wsX80.map fe = wsX80 := by decide +kernel
def q_wsX3_init : List Nat := 2257 :: (((((q_wsX3_init_r1) ++ (q_wsX3_init_r2)) ++ (q_wsX50)) ++ (q_wsX30)) ++ (q_wsX80))
set_option maxRecDepth 100000 in
theorem e_wsX3_init : q_wsX3_init.map fe = wsX3_init := ce fw_2257 (ca (ca (ca (ca (e_wsX3_init_r1) (e_wsX3_init_r2)) (e_wsX50)) (e_wsX30)) (e_wsX80))
def q_wsX5_init_r1 : List Nat := [1068, 1055, 1056, 1165, 1084, 1069, 1070, 1071, 1027, 1072, 1077, 1086, 1091, 1094, 1097, 1100, 1104, 1108, 1112, 1073, 1074, 1075, 1076, 1117]
set_option maxRecDepth 100000 in
theorem e_wsX5_init_r1 : q_wsX5_init_r1.map fe = wsX5_init_r1 := ce fw_1068 (ce fw_1055 (ce fw_1056 (ce fw_1165 (ce fw_1084 (ce fw_1069 (ce fw_1070 (ce fw_1071 (ce fw_1027 (ce fw_1072 (ce fw_1077 (ce fw_1086 (ce fw_1091 (ce fw_1094 (ce fw_1097 (ce fw_1100 (ce fw_1104 (ce fw_1108 (ce fw_1112 (ce fw_1073 (ce fw_1074 (ce fw_1075 (ce fw_1076 (ce fw_1117 (cn))))))))))))))))))))))))
def q_wsX5_init_r2 : List Nat := [1120, 1122, 1127, 1129, 1131]
set_option maxRecDepth 100000 in
theorem e_wsX5_init_r2 : q_wsX5_init_r2.map fe = wsX5_init_r2 := ce fw_1120 (ce fw_1122 (ce fw_1127 (ce fw_1129 (ce fw_1131 (cn)))))
def q_wsX5_init : List Nat := 1067 :: (((q_wsX5_init_r1) ++ (q_wsX5_init_r2)) ++ (q_wsX50))
set_option maxRecDepth 100000 in
theorem e_wsX5_init : q_wsX5_init.map fe = wsX5_init := ce fw_1067 (ca (ca (e_wsX5_init_r1) (e_wsX5_init_r2)) (e_wsX50))
def q_wsX8_init : List Nat := 1170 :: (([1171, 1055, 1056, 1189, 1172, 1178]) ++ (q_wsX80))
set_option maxRecDepth 100000 in
theorem e_wsX8_init : q_wsX8_init.map fe = wsX8_init := ce fw_1170 (ca (ce fw_1171 (ce fw_1055 (ce fw_1056 (ce fw_1189 (ce fw_1172 (ce fw_1178 (cn))))))) (e_wsX80))
def q_wsX3_readWhole_r1 : List Nat := [2265, 2263, 2266, 2268, 2272, 2270, 3114, 3115, 3116, 1028, 3117, 1173, 3118, 3119, 1036, 3120, 3121, 2207, 2208, 1172, 3122, 3124, 3123, 1039]
set_option maxRecDepth 100000 in
theorem e_wsX3_readWhole_r1 : q_wsX3_readWhole_r1.map fe = wsX3_readWhole_r1 := ce fw_2265 (ce fw_2263 (ce fw_2266 (ce fw_2268 (ce fw_2272 (ce fw_2270 (ce fw_3114 (ce fw_3115 (ce fw_3116 (ce fw_1028 (ce fw_3117 (ce fw_1173 (ce fw_3118 (ce fw_3119 (ce fw_1036 (ce fw_3120 (ce fw_3121 (ce fw_2207 (ce fw_2208 (ce fw_1172 (ce fw_3122 (ce fw_3124 (ce fw_3123 (ce fw_1039 (cn))))))))))))))))))))))))
def q_wsX3_readWhole_r2 : List Nat := [1177, 1178, 3125, 1070, 1071, 1027, 1072, 1077, 1084, 1086, 1091, 1094, 1097, 1100, 1104, 1108, 1112, 1073, 1074, 1075, 1076, 1117, 1120, 1122]
set_option maxRecDepth 100000 in
theorem e_wsX3_readWhole_r2 : q_wsX3_readWhole_r2.map fe = wsX3_readWhole_r2 := ce fw_1177 (ce fw_1178 (ce fw_3125 (ce fw_1070 (ce fw_1071 (ce fw_1027 (ce fw_1072 (ce fw_1077 (ce fw_1084 (ce fw_1086 (ce fw_1091 (ce fw_1094 (ce fw_1097 (ce fw_1100 (ce fw_1104 (ce fw_1108 (ce fw_1112 (ce fw_1073 (ce fw_1074 (ce fw_1075 (ce fw_1076 (ce fw_1117 (ce fw_1120 (ce fw_1122 (cn))))))))))))))))))))))))
def q_wsX3_readWhole_r3 : List Nat := [1127, 1129, 1131, 3126, 3128, 0, 1037, 3129, 2271, 1175, 3130, 3131, 3132, 3133, 3134, 3135, 3136, 3137, 3138, 3139, 3140, 3141, 3142, 3143]
set_option maxRecDepth 100000 in
theorem e_wsX3_readWhole_r3 : q_wsX3_readWhole_r3.map fe = wsX3_readWhole_r3 := ce fw_1127 (ce fw_1129 (ce fw_1131 (ce fw_3126 (ce fw_3128 (ce fw_0 (ce fw_1037 (ce fw_3129 (ce fw_2271 (ce fw_1175 (ce fw_3130 (ce fw_3131 (ce fw_3132 (ce fw_3133 (ce fw_3134 (ce fw_3135 (ce fw_3136 (ce fw_3137 (ce fw_3138 (ce fw_3139 (ce fw_3140 (ce fw_3141 (ce fw_3142 (ce fw_3143 (cn))))))))))))))))))))))))
def q_wsX3_readWhole_r4 : List Nat := [3145, 1, 3146, 1105, 1109, 3148, 3150, 2, 3151, 3152, 3153, 3154, 1040, 3155, 7224, 3156, 3157, 3158, 3159, 3160, 7225, 3162, 3163, 3164]
set_option maxRecDepth 100000 in
theorem e_wsX3_readWhole_r4 : q_wsX3_readWhole_r4.map fe = wsX3_readWhole_r4 := ce fw_3145 (ce fw_1 (ce fw_3146 (ce fw_1105 (ce fw_1109 (ce fw_3148 (ce fw_3150 (ce fw_2 (ce fw_3151 (ce fw_3152 (ce fw_3153 (ce fw_3154 (ce fw_1040 (ce fw_3155 (ce fw_7224 (ce fw_3156 (ce fw_3157 (ce fw_3158 (ce fw_3159 (ce fw_3160 (ce fw_7225 (ce fw_3162 (ce fw_3163 (ce fw_3164 (cn))))))))))))))))))))))))
def q_wsX3_readWhole_r5 : List Nat := [3165, 3166, 3167, 3168, 3169, 3170, 3171, 1041, 3172, 3173, 3174, 3175, 3176, 3178, 3179, 1042, 3180, 3181, 3182, 1043, 3183, 3184, 3185, 3186]
set_option maxRecDepth 100000 in
theorem e_wsX3_readWhole_r5 : q_wsX3_readWhole_r5.map fe = wsX3_readWhole_r5 := ce fw_3165 (ce fw_3166 (ce fw_3167 (ce fw_3168 (ce fw_3169 (ce fw_3170 (ce fw_3171 (ce fw_1041 (ce fw_3172 (ce fw_3173 (ce fw_3174 (ce fw_3175 (ce fw_3176 (ce fw_3178 (ce fw_3179 (ce fw_1042 (ce fw_3180 (ce fw_3181 (ce fw_3182 (ce fw_1043 (ce fw_3183 (ce fw_3184 (ce fw_3185 (ce fw_3186 (cn))))))))))))))))))))))))
def q_wsX3_readWhole_r6 : List Nat := [3187, 3188, 3189, 3190, 3191, 3192, 3193, 3194, 3196, 3198, 3200, 3202, 3, 3203, 1085, 1089, 3204, 3206, 4, 3207, 3208, 3209, 3210, 3211]
set_option maxRecDepth 100000 in
theorem e_wsX3_readWhole_r6 : q_wsX3_readWhole_r6.map fe = wsX3_readWhole_r6 := ce fw_3187 (ce fw_3188 (ce fw_3189 (ce fw_3190 (ce fw_3191 (ce fw_3192 (ce fw_3193 (ce fw_3194 (ce fw_3196 (ce fw_3198 (ce fw_3200 (ce fw_3202 (ce fw_3 (ce fw_3203 (ce fw_1085 (ce fw_1089 (ce fw_3204 (ce fw_3206 (ce fw_4 (ce fw_3207 (ce fw_3208 (ce fw_3209 (ce fw_3210 (ce fw_3211 (cn))))))))))))))))))))))))
def q_wsX3_readWhole_r7 : List Nat := [3213, 5, 3214, 3216, 3218, 6, 3219, 3220, 3222, 7, 3223, 1079, 1092, 1095, 1098, 1102, 1113, 3231]
set_option maxRecDepth 100000 in
theorem e_wsX3_readWhole_r7 : q_wsX3_readWhole_r7.map fe = wsX3_readWhole_r7 := ce fw_3213 (ce fw_5 (ce fw_3214 (ce fw_3216 (ce fw_3218 (ce fw_6 (ce fw_3219 (ce fw_3220 (ce fw_3222 (ce fw_7 (ce fw_3223 (ce fw_1079 (ce fw_1092 (ce fw_1095 (ce fw_1098 (ce fw_1102 (ce fw_1113 (ce fw_3231 (cn))))))))))))))))))
def q_wsX3_readWhole : List Nat := 3113 :: (((((q_wsX3_readWhole_r1) ++ ((q_wsX3_readWhole_r2) ++ ((q_wsX3_readWhole_r3) ++ ((q_wsX3_readWhole_r4) ++ ((q_wsX3_readWhole_r5) ++ ((q_wsX3_readWhole_r6) ++ (q_wsX3_readWhole_r7))))))) ++ (q_wsX30)) ++ (q_wsX80)) ++ (q_wsX50))
set_option maxRecDepth 100000 in
theorem e_wsX3_readWhole : q_wsX3_readWhole.map fe = wsX3_readWhole := ce fw_3113 (ca (ca (ca (ca (e_wsX3_readWhole_r1) (ca (e_wsX3_readWhole_r2) (ca (e_wsX3_readWhole_r3) (ca (e_wsX3_readWhole_r4) (ca (e_wsX3_readWhole_r5) (ca (e_wsX3_readWhole_r6) (e_wsX3_readWhole_r7))))))) (e_wsX30)) (e_wsX80)) (e_wsX50))
def q_wsX8_copyFrom : List Nat := 3117 :: (([1173, 3118, 3119, 1036, 3120, 3121, 2207, 2208, 1172, 3122, 3124, 3123, 1039, 1177, 1178]) ++ (q_wsX80))
set_option maxRecDepth 100000 in
theorem e_wsX8_copyFrom : q_wsX8_copyFrom.map fe = wsX8_copyFrom := ce fw_3117 (ca (ce fw_1173 (ce fw_3118 (ce fw_3119 (ce fw_1036 (ce fw_3120 (ce fw_3121 (ce fw_2207 (ce fw_2208 (ce fw_1172 (ce fw_3122 (ce fw_3124 (ce fw_3123 (ce fw_1039 (ce fw_1177 (ce fw_1178 (cn)))))))))))))))) (e_wsX80))
def q_wsX5_begin : List Nat := 1072 :: (([1077, 1084, 1086, 1091, 1094, 1097, 1100, 1104, 1108, 1112, 1073, 1074, 1075, 1027, 1076, 1117, 1120, 1122, 1127, 1129, 1131]) ++ (q_wsX50))
set_option maxRecDepth 100000 in
theorem e_wsX5_begin : q_wsX5_begin.map fe = wsX5_begin := ce fw_1072 (ca (ce fw_1077 (ce fw_1084 (ce fw_1086 (ce fw_1091 (ce fw_1094 (ce fw_1097 (ce fw_1100 (ce fw_1104 (ce fw_1108 (ce fw_1112 (ce fw_1073 (ce fw_1074 (ce fw_1075 (ce fw_1027 (ce fw_1076 (ce fw_1117 (ce fw_1120 (ce fw_1122 (ce fw_1127 (ce fw_1129 (ce fw_1131 (cn)))))))))))))))))))))) (e_wsX50))
def q_wsX3_step : List Nat := 3129 :: ((([2272, 2271, 2265, 1175, 2270, 3130, 3131, 3132, 1028, 3133, 1173, 1172, 3134, 3135, 1037, 3136, 3137, 3138, 3139, 3140, 3141, 3142]) ++ (q_wsX30)) ++ (q_wsX80))
set_option maxRecDepth 100000 in
theorem e_wsX3_step : q_wsX3_step.map fe = wsX3_step := ce fw_3129 (ca (ca (ce fw_2272 (ce fw_2271 (ce fw_2265 (ce fw_1175 (ce fw_2270 (ce fw_3130 (ce fw_3131 (ce fw_3132 (ce fw_1028 (ce fw_3133 (ce fw_1173 (ce fw_1172 (ce fw_3134 (ce fw_3135 (ce fw_1037 (ce fw_3136 (ce fw_3137 (ce fw_3138 (ce fw_3139 (ce fw_3140 (ce fw_3141 (ce fw_3142 (cn))))))))))))))))))))))) (e_wsX30)) (e_wsX80))
def q_wsX3_readStatement_r1 : List Nat := [2271, 2263, 1105, 1109, 2266, 2270, 3148, 3150, 2, 1037, 3151, 2272, 2265, 3152, 3153, 3154, 1040, 3155, 7224, 3156, 3157, 3158, 3159, 3160]
set_option maxRecDepth 100000 in
theorem e_wsX3_readStatement_r1 : q_wsX3_readStatement_r1.map fe = wsX3_readStatement_r1 := ce fw_2271 (ce fw_2263 (ce fw_1105 (ce fw_1109 (ce fw_2266 (ce fw_2270 (ce fw_3148 (ce fw_3150 (ce fw_2 (ce fw_1037 (ce fw_3151 (ce fw_2272 (ce fw_2265 (ce fw_3152 (ce fw_3153 (ce fw_3154 (ce fw_1040 (ce fw_3155 (ce fw_7224 (ce fw_3156 (ce fw_3157 (ce fw_3158 (ce fw_3159 (ce fw_3160 (cn))))))))))))))))))))))))
def q_wsX3_readStatement_r2 : List Nat := [7225, 3130, 3131, 3132, 1028, 3133, 1173, 1172, 3162, 3163, 3164, 3165, 3166, 3167, 3168, 3169, 3170, 3171, 1041, 3172, 3173, 3174, 3175, 3176]
set_option maxRecDepth 100000 in
theorem e_wsX3_readStatement_r2 : q_wsX3_readStatement_r2.map fe = wsX3_readStatement_r2 := ce fw_7225 (ce fw_3130 (ce fw_3131 (ce fw_3132 (ce fw_1028 (ce fw_3133 (ce fw_1173 (ce fw_1172 (ce fw_3162 (ce fw_3163 (ce fw_3164 (ce fw_3165 (ce fw_3166 (ce fw_3167 (ce fw_3168 (ce fw_3169 (ce fw_3170 (ce fw_3171 (ce fw_1041 (ce fw_3172 (ce fw_3173 (ce fw_3174 (ce fw_3175 (ce fw_3176 (cn))))))))))))))))))))))))
def q_wsX3_readStatement_r3 : List Nat := [3178, 3179, 1042, 3180, 3181, 3182, 1043, 3183, 3184, 3185, 3186, 3187, 3188, 3189, 3190, 3191, 3192, 3193, 3194, 3196, 3198, 3126, 3128, 0]
set_option maxRecDepth 100000 in
theorem e_wsX3_readStatement_r3 : q_wsX3_readStatement_r3.map fe = wsX3_readStatement_r3 := ce fw_3178 (ce fw_3179 (ce fw_1042 (ce fw_3180 (ce fw_3181 (ce fw_3182 (ce fw_1043 (ce fw_3183 (ce fw_3184 (ce fw_3185 (ce fw_3186 (ce fw_3187 (ce fw_3188 (ce fw_3189 (ce fw_3190 (ce fw_3191 (ce fw_3192 (ce fw_3193 (ce fw_3194 (ce fw_3196 (ce fw_3198 (ce fw_3126 (ce fw_3128 (ce fw_0 (cn))))))))))))))))))))))))
def q_wsX3_readStatement_r4 : List Nat := [3129, 1175, 3134, 3135, 3136, 3137, 3138, 3139, 3140, 3141, 3142, 3200, 3202, 3, 3203, 1085, 1089, 3204, 3206, 4, 3207, 2268, 3208, 3209]
set_option maxRecDepth 100000 in
theorem e_wsX3_readStatement_r4 : q_wsX3_readStatement_r4.map fe = wsX3_readStatement_r4 := ce fw_3129 (ce fw_1175 (ce fw_3134 (ce fw_3135 (ce fw_3136 (ce fw_3137 (ce fw_3138 (ce fw_3139 (ce fw_3140 (ce fw_3141 (ce fw_3142 (ce fw_3200 (ce fw_3202 (ce fw_3 (ce fw_3203 (ce fw_1085 (ce fw_1089 (ce fw_3204 (ce fw_3206 (ce fw_4 (ce fw_3207 (ce fw_2268 (ce fw_3208 (ce fw_3209 (cn))))))))))))))))))))))))
def q_wsX3_readStatement_r5 : List Nat := [3210, 3211, 3213, 5, 3214, 3216, 3218, 6, 3219, 3220, 3222, 7, 3223, 1079, 1092, 1095, 1098, 1102, 1113]
set_option maxRecDepth 100000 in
theorem e_wsX3_readStatement_r5 : q_wsX3_readStatement_r5.map fe = wsX3_readStatement_r5 := ce fw_3210 (ce fw_3211 (ce fw_3213 (ce fw_5 (ce fw_3214 (ce fw_3216 (ce fw_3218 (ce fw_6 (ce fw_3219 (ce fw_3220 (ce fw_3222 (ce fw_7 (ce fw_3223 (ce fw_1079 (ce fw_1092 (ce fw_1095 (ce fw_1098 (ce fw_1102 (ce fw_1113 (cn)))))))))))))))))))
def q_wsX3_readStatement : List Nat := 3146 :: (((((q_wsX3_readStatement_r1) ++ ((q_wsX3_readStatement_r2) ++ ((q_wsX3_readStatement_r3) ++ ((q_wsX3_readStatement_r4) ++ (q_wsX3_readStatement_r5))))) ++ (q_wsX30)) ++ (q_wsX50)) ++ (q_wsX80))
set_option maxRecDepth 100000 in
theorem e_wsX3_readStatement : q_wsX3_readStatement.map fe = wsX3_readStatement := ce fw_3146 (ca (ca (ca (ca (e_wsX3_readStatement_r1) (ca (e_wsX3_readStatement_r2) (ca (e_wsX3_readStatement_r3) (ca (e_wsX3_readStatement_r4) (e_wsX3_readStatement_r5))))) (e_wsX30)) (e_wsX50)) (e_wsX80))
def q_wsX5_derive : List Nat := 1076 :: (([1077, 1086, 1117, 1094, 1120, 1122, 1127, 1129, 1131, 1084]) ++ (q_wsX50))
set_option maxRecDepth 100000 in
theorem e_wsX5_derive : q_wsX5_derive.map fe = wsX5_derive := ce fw_1076 (ca (ce fw_1077 (ce fw_1086 (ce fw_1117 (ce fw_1094 (ce fw_1120 (ce fw_1122 (ce fw_1127 (ce fw_1129 (ce fw_1131 (ce fw_1084 (cn))))))))))) (e_wsX50))
def q_wsX3_isWord_r1 : List Nat := [2270, 2272, 2271, 2265, 3152, 3153, 3154, 1040, 3155, 7224, 3156, 3157, 3158, 3159, 3160, 7225, 3130, 3131, 3132, 1028, 3133, 1173, 1172, 3162]
set_option maxRecDepth 100000 in
theorem e_wsX3_isWord_r1 : q_wsX3_isWord_r1.map fe = wsX3_isWord_r1 := ce fw_2270 (ce fw_2272 (ce fw_2271 (ce fw_2265 (ce fw_3152 (ce fw_3153 (ce fw_3154 (ce fw_1040 (ce fw_3155 (ce fw_7224 (ce fw_3156 (ce fw_3157 (ce fw_3158 (ce fw_3159 (ce fw_3160 (ce fw_7225 (ce fw_3130 (ce fw_3131 (ce fw_3132 (ce fw_1028 (ce fw_3133 (ce fw_1173 (ce fw_1172 (ce fw_3162 (cn))))))))))))))))))))))))
def q_wsX3_isWord_r2 : List Nat := [3163, 3164, 3165, 3166, 3167, 3168, 3169, 3170, 3171, 1041, 3172, 3173, 3174, 3175, 3176, 3178, 3179, 1042, 3180, 3181, 3182, 1043, 3183, 3184]
set_option maxRecDepth 100000 in
theorem e_wsX3_isWord_r2 : q_wsX3_isWord_r2.map fe = wsX3_isWord_r2 := ce fw_3163 (ce fw_3164 (ce fw_3165 (ce fw_3166 (ce fw_3167 (ce fw_3168 (ce fw_3169 (ce fw_3170 (ce fw_3171 (ce fw_1041 (ce fw_3172 (ce fw_3173 (ce fw_3174 (ce fw_3175 (ce fw_3176 (ce fw_3178 (ce fw_3179 (ce fw_1042 (ce fw_3180 (ce fw_3181 (ce fw_3182 (ce fw_1043 (ce fw_3183 (ce fw_3184 (cn))))))))))))))))))))))))
def q_wsX3_isWord_r3 : List Nat := [3185, 3186, 3187, 3188, 3189, 3190, 3191, 3192, 3193, 3194, 3196, 3198]
set_option maxRecDepth 100000 in
theorem e_wsX3_isWord_r3 : q_wsX3_isWord_r3.map fe = wsX3_isWord_r3 := ce fw_3185 (ce fw_3186 (ce fw_3187 (ce fw_3188 (ce fw_3189 (ce fw_3190 (ce fw_3191 (ce fw_3192 (ce fw_3193 (ce fw_3194 (ce fw_3196 (ce fw_3198 (cn))))))))))))
def q_wsX3_isWord : List Nat := 3151 :: ((((q_wsX3_isWord_r1) ++ ((q_wsX3_isWord_r2) ++ (q_wsX3_isWord_r3))) ++ (q_wsX30)) ++ (q_wsX80))
set_option maxRecDepth 100000 in
theorem e_wsX3_isWord : q_wsX3_isWord.map fe = wsX3_isWord := ce fw_3151 (ca (ca (ca (e_wsX3_isWord_r1) (ca (e_wsX3_isWord_r2) (e_wsX3_isWord_r3))) (e_wsX30)) (e_wsX80))
def q_wsX3_readRow_r1 : List Nat := [2270, 2271, 2272, 2265, 2263, 1085, 1089, 3204, 3206, 4, 1037, 3207, 2266, 2268, 3130, 3131, 3132, 1028, 3133, 1173, 1172, 3208, 3209, 3210]
set_option maxRecDepth 100000 in
theorem e_wsX3_readRow_r1 : q_wsX3_readRow_r1.map fe = wsX3_readRow_r1 := ce fw_2270 (ce fw_2271 (ce fw_2272 (ce fw_2265 (ce fw_2263 (ce fw_1085 (ce fw_1089 (ce fw_3204 (ce fw_3206 (ce fw_4 (ce fw_1037 (ce fw_3207 (ce fw_2266 (ce fw_2268 (ce fw_3130 (ce fw_3131 (ce fw_3132 (ce fw_1028 (ce fw_3133 (ce fw_1173 (ce fw_1172 (ce fw_3208 (ce fw_3209 (ce fw_3210 (cn))))))))))))))))))))))))
def q_wsX3_readRow_r2 : List Nat := [3126, 3128, 0, 3129, 1175, 3134, 3135, 3136, 3137, 3138, 3139, 3140, 3141, 3142, 3211, 3213, 5, 3214]
set_option maxRecDepth 100000 in
theorem e_wsX3_readRow_r2 : q_wsX3_readRow_r2.map fe = wsX3_readRow_r2 := ce fw_3126 (ce fw_3128 (ce fw_0 (ce fw_3129 (ce fw_1175 (ce fw_3134 (ce fw_3135 (ce fw_3136 (ce fw_3137 (ce fw_3138 (ce fw_3139 (ce fw_3140 (ce fw_3141 (ce fw_3142 (ce fw_3211 (ce fw_3213 (ce fw_5 (ce fw_3214 (cn))))))))))))))))))
def q_wsX3_readRow : List Nat := 3203 :: (((((q_wsX3_readRow_r1) ++ (q_wsX3_readRow_r2)) ++ (q_wsX30)) ++ (q_wsX50)) ++ (q_wsX80))
set_option maxRecDepth 100000 in
theorem e_wsX3_readRow : q_wsX3_readRow.map fe = wsX3_readRow := ce fw_3203 (ca (ca (ca (ca (e_wsX3_readRow_r1) (e_wsX3_readRow_r2)) (e_wsX30)) (e_wsX50)) (e_wsX80))
def q_wsX3_readNumber_r1 : List Nat := [2266, 2270, 2272, 2271, 2265, 3204, 3206, 4, 1037, 3207, 2268, 3130, 3131, 3132, 1028, 3133, 1173, 1172, 3211, 3213, 5, 3214, 3126, 3128]
set_option maxRecDepth 100000 in
theorem e_wsX3_readNumber_r1 : q_wsX3_readNumber_r1.map fe = wsX3_readNumber_r1 := ce fw_2266 (ce fw_2270 (ce fw_2272 (ce fw_2271 (ce fw_2265 (ce fw_3204 (ce fw_3206 (ce fw_4 (ce fw_1037 (ce fw_3207 (ce fw_2268 (ce fw_3130 (ce fw_3131 (ce fw_3132 (ce fw_1028 (ce fw_3133 (ce fw_1173 (ce fw_1172 (ce fw_3211 (ce fw_3213 (ce fw_5 (ce fw_3214 (ce fw_3126 (ce fw_3128 (cn))))))))))))))))))))))))
def q_wsX3_readNumber_r2 : List Nat := [0, 3129, 1175, 3134, 3135, 3136, 3137, 3138, 3139, 3140, 3141, 3142]
set_option maxRecDepth 100000 in
theorem e_wsX3_readNumber_r2 : q_wsX3_readNumber_r2.map fe = wsX3_readNumber_r2 := ce fw_0 (ce fw_3129 (ce fw_1175 (ce fw_3134 (ce fw_3135 (ce fw_3136 (ce fw_3137 (ce fw_3138 (ce fw_3139 (ce fw_3140 (ce fw_3141 (ce fw_3142 (cn))))))))))))
def q_wsX3_readNumber : List Nat := 3219 :: ((((q_wsX3_readNumber_r1) ++ (q_wsX3_readNumber_r2)) ++ (q_wsX30)) ++ (q_wsX80))
set_option maxRecDepth 100000 in
theorem e_wsX3_readNumber : q_wsX3_readNumber.map fe = wsX3_readNumber := ce fw_3219 (ca (ca (ca (e_wsX3_readNumber_r1) (e_wsX3_readNumber_r2)) (e_wsX30)) (e_wsX80))
def q_wsX3_readSingle_r1 : List Nat := [2263, 1079, 1092, 1095, 1098, 1102, 1113, 3148, 3150, 2, 1037, 3151, 2270, 2272, 2271, 2265, 3152, 3153, 3154, 1040, 3155, 7224, 3156, 3157]
set_option maxRecDepth 100000 in
theorem e_wsX3_readSingle_r1 : q_wsX3_readSingle_r1.map fe = wsX3_readSingle_r1 := ce fw_2263 (ce fw_1079 (ce fw_1092 (ce fw_1095 (ce fw_1098 (ce fw_1102 (ce fw_1113 (ce fw_3148 (ce fw_3150 (ce fw_2 (ce fw_1037 (ce fw_3151 (ce fw_2270 (ce fw_2272 (ce fw_2271 (ce fw_2265 (ce fw_3152 (ce fw_3153 (ce fw_3154 (ce fw_1040 (ce fw_3155 (ce fw_7224 (ce fw_3156 (ce fw_3157 (cn))))))))))))))))))))))))
def q_wsX3_readSingle_r2 : List Nat := [3158, 3159, 3160, 7225, 3130, 3131, 3132, 1028, 3133, 1173, 1172, 3162, 3163, 3164, 3165, 3166, 3167, 3168, 3169, 3170, 3171, 1041, 3172, 3173]
set_option maxRecDepth 100000 in
theorem e_wsX3_readSingle_r2 : q_wsX3_readSingle_r2.map fe = wsX3_readSingle_r2 := ce fw_3158 (ce fw_3159 (ce fw_3160 (ce fw_7225 (ce fw_3130 (ce fw_3131 (ce fw_3132 (ce fw_1028 (ce fw_3133 (ce fw_1173 (ce fw_1172 (ce fw_3162 (ce fw_3163 (ce fw_3164 (ce fw_3165 (ce fw_3166 (ce fw_3167 (ce fw_3168 (ce fw_3169 (ce fw_3170 (ce fw_3171 (ce fw_1041 (ce fw_3172 (ce fw_3173 (cn))))))))))))))))))))))))
def q_wsX3_readSingle_r3 : List Nat := [3174, 3175, 3176, 3178, 3179, 1042, 3180, 3181, 3182, 1043, 3183, 3184, 3185, 3186, 3187, 3188, 3189, 3190, 3191, 3192, 3193, 3194, 3196, 3198]
set_option maxRecDepth 100000 in
theorem e_wsX3_readSingle_r3 : q_wsX3_readSingle_r3.map fe = wsX3_readSingle_r3 := ce fw_3174 (ce fw_3175 (ce fw_3176 (ce fw_3178 (ce fw_3179 (ce fw_1042 (ce fw_3180 (ce fw_3181 (ce fw_3182 (ce fw_1043 (ce fw_3183 (ce fw_3184 (ce fw_3185 (ce fw_3186 (ce fw_3187 (ce fw_3188 (ce fw_3189 (ce fw_3190 (ce fw_3191 (ce fw_3192 (ce fw_3193 (ce fw_3194 (ce fw_3196 (ce fw_3198 (cn))))))))))))))))))))))))
def q_wsX3_readSingle_r4 : List Nat := [3126, 3128, 0, 3129, 1175, 3134, 3135, 3136, 3137, 3138, 3139, 3140, 3141, 3142, 3216, 3218, 6, 3219, 2266, 3204, 3206, 4, 3207, 2268]
set_option maxRecDepth 100000 in
theorem e_wsX3_readSingle_r4 : q_wsX3_readSingle_r4.map fe = wsX3_readSingle_r4 := ce fw_3126 (ce fw_3128 (ce fw_0 (ce fw_3129 (ce fw_1175 (ce fw_3134 (ce fw_3135 (ce fw_3136 (ce fw_3137 (ce fw_3138 (ce fw_3139 (ce fw_3140 (ce fw_3141 (ce fw_3142 (ce fw_3216 (ce fw_3218 (ce fw_6 (ce fw_3219 (ce fw_2266 (ce fw_3204 (ce fw_3206 (ce fw_4 (ce fw_3207 (ce fw_2268 (cn))))))))))))))))))))))))
def q_wsX3_readSingle_r5 : List Nat := [3211, 3213, 5, 3214]
set_option maxRecDepth 100000 in
theorem e_wsX3_readSingle_r5 : q_wsX3_readSingle_r5.map fe = wsX3_readSingle_r5 := ce fw_3211 (ce fw_3213 (ce fw_5 (ce fw_3214 (cn))))
def q_wsX3_readSingle : List Nat := 3223 :: (((((q_wsX3_readSingle_r1) ++ ((q_wsX3_readSingle_r2) ++ ((q_wsX3_readSingle_r3) ++ ((q_wsX3_readSingle_r4) ++ (q_wsX3_readSingle_r5))))) ++ (q_wsX30)) ++ (q_wsX50)) ++ (q_wsX80))
set_option maxRecDepth 100000 in
theorem e_wsX3_readSingle : q_wsX3_readSingle.map fe = wsX3_readSingle := ce fw_3223 (ca (ca (ca (ca (e_wsX3_readSingle_r1) (ca (e_wsX3_readSingle_r2) (ca (e_wsX3_readSingle_r3) (ca (e_wsX3_readSingle_r4) (e_wsX3_readSingle_r5))))) (e_wsX30)) (e_wsX50)) (e_wsX80))
def q_wsX3_misplace : List Nat := 3207 :: (([2266, 2271, 2268]) ++ (q_wsX30))
set_option maxRecDepth 100000 in
theorem e_wsX3_misplace : q_wsX3_misplace.map fe = wsX3_misplace := ce fw_3207 (ca (ce fw_2266 (ce fw_2271 (ce fw_2268 (cn)))) (e_wsX30))
def q_wsX8_at : List Nat := 3133 :: (([1173, 1172]) ++ (q_wsX80))
set_option maxRecDepth 100000 in
theorem e_wsX8_at : q_wsX8_at.map fe = wsX8_at := ce fw_3133 (ca (ce fw_1173 (ce fw_1172 (cn))) (e_wsX80))
def q_wsX3_impossible : List Nat := 3214 :: (([2266, 2268]) ++ (q_wsX30))
set_option maxRecDepth 100000 in
theorem e_wsX3_impossible : q_wsX3_impossible.map fe = wsX3_impossible := ce fw_3214 (ca (ce fw_2266 (ce fw_2268 (cn))) (e_wsX30))
def q_wsX3_roleOf : List Nat := 3210 :: ([])
set_option maxRecDepth 100000 in
theorem e_wsX3_roleOf : q_wsX3_roleOf.map fe = wsX3_roleOf := ce fw_3210 (cn)
def q_wsJ0_length_8abf5 : List Nat := 3155 :: ([7224, 3156, 3157, 3158, 1040, 3159, 3160, 7225])
set_option maxRecDepth 100000 in
theorem e_wsJ0_length_8abf5 : q_wsJ0_length_8abf5.map fe = wsJ0_length_8abf5 := ce fw_3155 (ce fw_7224 (ce fw_3156 (ce fw_3157 (ce fw_3158 (ce fw_1040 (ce fw_3159 (ce fw_3160 (ce fw_7225 (cn)))))))))
def q_wsJ0_charAt_5068e_r1 : List Nat := [7224, 3166, 3167, 3168, 1040, 3169, 3160, 7225, 3170, 3171, 1041, 3172, 3173, 3174, 3175, 3176, 3178, 3179, 1042, 3180, 3181, 3182, 1043, 3183]
set_option maxRecDepth 100000 in
theorem e_wsJ0_charAt_5068e_r1 : q_wsJ0_charAt_5068e_r1.map fe = wsJ0_charAt_5068e_r1 := ce fw_7224 (ce fw_3166 (ce fw_3167 (ce fw_3168 (ce fw_1040 (ce fw_3169 (ce fw_3160 (ce fw_7225 (ce fw_3170 (ce fw_3171 (ce fw_1041 (ce fw_3172 (ce fw_3173 (ce fw_3174 (ce fw_3175 (ce fw_3176 (ce fw_3178 (ce fw_3179 (ce fw_1042 (ce fw_3180 (ce fw_3181 (ce fw_3182 (ce fw_1043 (ce fw_3183 (cn))))))))))))))))))))))))
def q_wsJ0_charAt_5068e_r2 : List Nat := [3184, 3185, 3186, 3187, 3188, 3189, 3190, 3191, 3192, 3193, 3194, 3196, 3198]
set_option maxRecDepth 100000 in
theorem e_wsJ0_charAt_5068e_r2 : q_wsJ0_charAt_5068e_r2.map fe = wsJ0_charAt_5068e_r2 := ce fw_3184 (ce fw_3185 (ce fw_3186 (ce fw_3187 (ce fw_3188 (ce fw_3189 (ce fw_3190 (ce fw_3191 (ce fw_3192 (ce fw_3193 (ce fw_3194 (ce fw_3196 (ce fw_3198 (cn)))))))))))))
def q_wsJ0_charAt_5068e : List Nat := 3165 :: ((q_wsJ0_charAt_5068e_r1) ++ (q_wsJ0_charAt_5068e_r2))
set_option maxRecDepth 100000 in
theorem e_wsJ0_charAt_5068e : q_wsJ0_charAt_5068e.map fe = wsJ0_charAt_5068e := ce fw_3165 (ca (e_wsJ0_charAt_5068e_r1) (e_wsJ0_charAt_5068e_r2))
def q_wsX3_isBlank : List Nat := 3136 :: ([])
set_option maxRecDepth 100000 in
theorem e_wsX3_isBlank : q_wsX3_isBlank.map fe = wsX3_isBlank := ce fw_3136 (cn)
def q_wsX3_isLetter : List Nat := 3139 :: ([])
set_option maxRecDepth 100000 in
theorem e_wsX3_isLetter : q_wsX3_isLetter.map fe = wsX3_isLetter := ce fw_3139 (cn)
def q_wsX3_isDigit : List Nat := 3142 :: ([])
set_option maxRecDepth 100000 in
theorem e_wsX3_isDigit : q_wsX3_isDigit.map fe = wsX3_isDigit := ce fw_3142 (cn)
def q_wsX4_init_r1 : List Nat := [1222, 1055, 1056, 1223, 1224, 1032, 2156, 1252, 1253, 1033, 2158, 2108, 2109, 1034, 2160, 2132, 1064, 1027, 1226, 1227, 1228, 1165, 1229, 1255]
set_option maxRecDepth 100000 in
theorem e_wsX4_init_r1 : q_wsX4_init_r1.map fe = wsX4_init_r1 := ce fw_1222 (ce fw_1055 (ce fw_1056 (ce fw_1223 (ce fw_1224 (ce fw_1032 (ce fw_2156 (ce fw_1252 (ce fw_1253 (ce fw_1033 (ce fw_2158 (ce fw_2108 (ce fw_2109 (ce fw_1034 (ce fw_2160 (ce fw_2132 (ce fw_1064 (ce fw_1027 (ce fw_1226 (ce fw_1227 (ce fw_1228 (ce fw_1165 (ce fw_1229 (ce fw_1255 (cn))))))))))))))))))))))))
def q_wsX4_init_r2 : List Nat := [1256, 1257, 2111, 2112, 2113, 2114, 2133, 1066, 1067, 1068, 1084, 1069, 1070, 1071, 1072, 1077, 1086, 1091, 1094, 1097, 1100, 1104, 1108, 1112]
set_option maxRecDepth 100000 in
theorem e_wsX4_init_r2 : q_wsX4_init_r2.map fe = wsX4_init_r2 := ce fw_1256 (ce fw_1257 (ce fw_2111 (ce fw_2112 (ce fw_2113 (ce fw_2114 (ce fw_2133 (ce fw_1066 (ce fw_1067 (ce fw_1068 (ce fw_1084 (ce fw_1069 (ce fw_1070 (ce fw_1071 (ce fw_1072 (ce fw_1077 (ce fw_1086 (ce fw_1091 (ce fw_1094 (ce fw_1097 (ce fw_1100 (ce fw_1104 (ce fw_1108 (ce fw_1112 (cn))))))))))))))))))))))))
def q_wsX4_init_r3 : List Nat := [1073, 1074, 1075, 1076, 1117, 1120, 1122, 1127, 1129, 1131, 2134, 2135, 2136, 1031, 2137, 2154, 2162, 2163, 2164, 2166, 2168, 2169, 2170, 2171]
set_option maxRecDepth 100000 in
theorem e_wsX4_init_r3 : q_wsX4_init_r3.map fe = wsX4_init_r3 := ce fw_1073 (ce fw_1074 (ce fw_1075 (ce fw_1076 (ce fw_1117 (ce fw_1120 (ce fw_1122 (ce fw_1127 (ce fw_1129 (ce fw_1131 (ce fw_2134 (ce fw_2135 (ce fw_2136 (ce fw_1031 (ce fw_2137 (ce fw_2154 (ce fw_2162 (ce fw_2163 (ce fw_2164 (ce fw_2166 (ce fw_2168 (ce fw_2169 (ce fw_2170 (ce fw_2171 (cn))))))))))))))))))))))))
def q_wsX4_init_r4 : List Nat := [2172, 2138, 2139, 2140, 2141, 1078, 1130, 1116, 1230, 1233, 1236, 1237, 1238, 2142, 2143, 2144, 2145, 1258, 1260, 1262, 2048, 2051, 2053, 2065]
set_option maxRecDepth 100000 in
theorem e_wsX4_init_r4 : q_wsX4_init_r4.map fe = wsX4_init_r4 := ce fw_2172 (ce fw_2138 (ce fw_2139 (ce fw_2140 (ce fw_2141 (ce fw_1078 (ce fw_1130 (ce fw_1116 (ce fw_1230 (ce fw_1233 (ce fw_1236 (ce fw_1237 (ce fw_1238 (ce fw_2142 (ce fw_2143 (ce fw_2144 (ce fw_2145 (ce fw_1258 (ce fw_1260 (ce fw_1262 (ce fw_2048 (ce fw_2051 (ce fw_2053 (ce fw_2065 (cn))))))))))))))))))))))))
def q_wsX4_init_r5 : List Nat := [2146, 2147, 2148, 2149, 2115, 2117, 2150, 2151, 2152, 2153, 2119, 2120]
set_option maxRecDepth 100000 in
theorem e_wsX4_init_r5 : q_wsX4_init_r5.map fe = wsX4_init_r5 := ce fw_2146 (ce fw_2147 (ce fw_2148 (ce fw_2149 (ce fw_2115 (ce fw_2117 (ce fw_2150 (ce fw_2151 (ce fw_2152 (ce fw_2153 (ce fw_2119 (ce fw_2120 (cn))))))))))))
def q_wsX40 : List Nat := [2173, 2175, 2177, 2179, 2181, 2183, 2185, 2187, 2189, 2191, 2193, 2195, 2197]
theorem e_wsX40 : q_wsX40.map fe = wsX40 := by decide +kernel
def q_wsX70 : List Nat := [2073, 2075, 2077, 2079, 2081, 2083, 2085, 2087, 2089, 2091, 2093, 2095, 2097, 2099, 2101, 2103, 2105]
theorem e_wsX70 : q_wsX70.map fe = wsX70 := by decide +kernel
def q_wsX4_init : List Nat := 1221 :: (((((((q_wsX4_init_r1) ++ ((q_wsX4_init_r2) ++ ((q_wsX4_init_r3) ++ ((q_wsX4_init_r4) ++ (q_wsX4_init_r5))))) ++ (q_wsX10)) ++ (q_wsX40)) ++ (q_wsX70)) ++ (q_wsX00)) ++ (q_wsX50))
set_option maxRecDepth 100000 in
theorem e_wsX4_init : q_wsX4_init.map fe = wsX4_init := ce fw_1221 (ca (ca (ca (ca (ca (ca (e_wsX4_init_r1) (ca (e_wsX4_init_r2) (ca (e_wsX4_init_r3) (ca (e_wsX4_init_r4) (e_wsX4_init_r5))))) (e_wsX10)) (e_wsX40)) (e_wsX70)) (e_wsX00)) (e_wsX50))
def q_wsX1_init : List Nat := 1227 :: (([1228, 1055, 1056, 1165, 1229]) ++ (q_wsX10))
set_option maxRecDepth 100000 in
theorem e_wsX1_init : q_wsX1_init.map fe = wsX1_init := ce fw_1227 (ca (ce fw_1228 (ce fw_1055 (ce fw_1056 (ce fw_1165 (ce fw_1229 (cn)))))) (e_wsX10))
def q_wsX7_init : List Nat := 1256 :: ([1257, 1055, 1056])
set_option maxRecDepth 100000 in
theorem e_wsX7_init : q_wsX7_init.map fe = wsX7_init := ce fw_1256 (ce fw_1257 (ce fw_1055 (ce fw_1056 (cn))))
def q_wsX0_init : List Nat := 2112 :: (([2113, 1055, 1056, 1165, 2114]) ++ (q_wsX00))
set_option maxRecDepth 100000 in
theorem e_wsX0_init : q_wsX0_init.map fe = wsX0_init := ce fw_2112 (ca (ce fw_2113 (ce fw_1055 (ce fw_1056 (ce fw_1165 (ce fw_2114 (cn)))))) (e_wsX00))
def q_wsX4_begin_r1 : List Nat := [2154, 2156, 2158, 2160, 2162, 2163, 2164, 2166, 2168, 2169, 2170, 2171, 2172, 2138, 2139, 2140, 1032, 2141, 1078, 1229, 1130, 1116, 1230, 1233]
set_option maxRecDepth 100000 in
theorem e_wsX4_begin_r1 : q_wsX4_begin_r1.map fe = wsX4_begin_r1 := ce fw_2154 (ce fw_2156 (ce fw_2158 (ce fw_2160 (ce fw_2162 (ce fw_2163 (ce fw_2164 (ce fw_2166 (ce fw_2168 (ce fw_2169 (ce fw_2170 (ce fw_2171 (ce fw_2172 (ce fw_2138 (ce fw_2139 (ce fw_2140 (ce fw_1032 (ce fw_2141 (ce fw_1078 (ce fw_1229 (ce fw_1130 (ce fw_1116 (ce fw_1230 (ce fw_1233 (cn))))))))))))))))))))))))
def q_wsX4_begin_r2 : List Nat := [1236, 1237, 1238, 2142, 2143, 2144, 1033, 2145, 1258, 1260, 1262, 2048, 2051, 2053, 2065, 2146, 2147, 2148, 1034, 2149, 2115, 2117, 2150, 2151]
set_option maxRecDepth 100000 in
theorem e_wsX4_begin_r2 : q_wsX4_begin_r2.map fe = wsX4_begin_r2 := ce fw_1236 (ce fw_1237 (ce fw_1238 (ce fw_2142 (ce fw_2143 (ce fw_2144 (ce fw_1033 (ce fw_2145 (ce fw_1258 (ce fw_1260 (ce fw_1262 (ce fw_2048 (ce fw_2051 (ce fw_2053 (ce fw_2065 (ce fw_2146 (ce fw_2147 (ce fw_2148 (ce fw_1034 (ce fw_2149 (ce fw_2115 (ce fw_2117 (ce fw_2150 (ce fw_2151 (cn))))))))))))))))))))))))
def q_wsX4_begin_r3 : List Nat := [2152, 2153, 2119, 2120]
set_option maxRecDepth 100000 in
theorem e_wsX4_begin_r3 : q_wsX4_begin_r3.map fe = wsX4_begin_r3 := ce fw_2152 (ce fw_2153 (ce fw_2119 (ce fw_2120 (cn))))
def q_wsX4_begin : List Nat := 2137 :: (((((((q_wsX4_begin_r1) ++ ((q_wsX4_begin_r2) ++ (q_wsX4_begin_r3))) ++ (q_wsX40)) ++ (q_wsX50)) ++ (q_wsX10)) ++ (q_wsX70)) ++ (q_wsX00))
set_option maxRecDepth 100000 in
theorem e_wsX4_begin : q_wsX4_begin.map fe = wsX4_begin := ce fw_2137 (ca (ca (ca (ca (ca (ca (e_wsX4_begin_r1) (ca (e_wsX4_begin_r2) (e_wsX4_begin_r3))) (e_wsX40)) (e_wsX50)) (e_wsX10)) (e_wsX70)) (e_wsX00))
def q_wsX1_begin : List Nat := 2141 :: ((([1078, 1229, 1130, 1116, 1230, 1233, 1236, 1237, 1238]) ++ (q_wsX50)) ++ (q_wsX10))
set_option maxRecDepth 100000 in
theorem e_wsX1_begin : q_wsX1_begin.map fe = wsX1_begin := ce fw_2141 (ca (ca (ce fw_1078 (ce fw_1229 (ce fw_1130 (ce fw_1116 (ce fw_1230 (ce fw_1233 (ce fw_1236 (ce fw_1237 (ce fw_1238 (cn)))))))))) (e_wsX50)) (e_wsX10))
def q_wsX7_begin : List Nat := 2145 :: (([1258, 1260, 1262, 2048, 2051, 2053, 2065]) ++ (q_wsX70))
set_option maxRecDepth 100000 in
theorem e_wsX7_begin : q_wsX7_begin.map fe = wsX7_begin := ce fw_2145 (ca (ce fw_1258 (ce fw_1260 (ce fw_1262 (ce fw_2048 (ce fw_2051 (ce fw_2053 (ce fw_2065 (cn)))))))) (e_wsX70))
def q_wsX4_take_r1 : List Nat := [2170, 2154, 2158, 4149, 4110, 4111, 1035, 4112, 2211, 2209, 4150, 4152, 12, 1031, 4153, 2156, 1231, 1101, 4154, 4155, 4156, 1032, 4157, 1236]
set_option maxRecDepth 100000 in
theorem e_wsX4_take_r1 : q_wsX4_take_r1.map fe = wsX4_take_r1 := ce fw_2170 (ce fw_2154 (ce fw_2158 (ce fw_4149 (ce fw_4110 (ce fw_4111 (ce fw_1035 (ce fw_4112 (ce fw_2211 (ce fw_2209 (ce fw_4150 (ce fw_4152 (ce fw_12 (ce fw_1031 (ce fw_4153 (ce fw_2156 (ce fw_1231 (ce fw_1101 (ce fw_4154 (ce fw_4155 (ce fw_4156 (ce fw_1032 (ce fw_4157 (ce fw_1236 (cn))))))))))))))))))))))))
def q_wsX4_take_r2 : List Nat := [1128, 1126, 1237, 1087, 1229, 1230, 1233, 1078, 4158, 4159, 1044, 4160, 4161, 4162, 4163, 4164, 4165, 4166, 1027, 4167, 1086, 4168, 4170, 13]
set_option maxRecDepth 100000 in
theorem e_wsX4_take_r2 : q_wsX4_take_r2.map fe = wsX4_take_r2 := ce fw_1128 (ce fw_1126 (ce fw_1237 (ce fw_1087 (ce fw_1229 (ce fw_1230 (ce fw_1233 (ce fw_1078 (ce fw_4158 (ce fw_4159 (ce fw_1044 (ce fw_4160 (ce fw_4161 (ce fw_4162 (ce fw_4163 (ce fw_4164 (ce fw_4165 (ce fw_4166 (ce fw_1027 (ce fw_4167 (ce fw_1086 (ce fw_4168 (ce fw_4170 (ce fw_13 (cn))))))))))))))))))))))))
def q_wsX4_take_r3 : List Nat := [4171, 2162, 2138, 2139, 2140, 2141, 1130, 1116, 1238, 4172, 4173, 4174, 4175, 4176, 4177, 4178, 4179, 4180, 4181, 4182, 4183, 4184, 4185, 4186]
set_option maxRecDepth 100000 in
theorem e_wsX4_take_r3 : q_wsX4_take_r3.map fe = wsX4_take_r3 := ce fw_4171 (ce fw_2162 (ce fw_2138 (ce fw_2139 (ce fw_2140 (ce fw_2141 (ce fw_1130 (ce fw_1116 (ce fw_1238 (ce fw_4172 (ce fw_4173 (ce fw_4174 (ce fw_4175 (ce fw_4176 (ce fw_4177 (ce fw_4178 (ce fw_4179 (ce fw_4180 (ce fw_4181 (ce fw_4182 (ce fw_4183 (ce fw_4184 (ce fw_4185 (ce fw_4186 (cn))))))))))))))))))))))))
def q_wsX4_take_r4 : List Nat := [4187, 1127, 1129, 4188, 4189, 4190, 4191, 1077, 4192, 4193, 4195, 14, 4196, 1119, 1081, 1234, 2168, 2169, 1124, 4197, 4198, 4200, 15, 4201]
set_option maxRecDepth 100000 in
theorem e_wsX4_take_r4 : q_wsX4_take_r4.map fe = wsX4_take_r4 := ce fw_4187 (ce fw_1127 (ce fw_1129 (ce fw_4188 (ce fw_4189 (ce fw_4190 (ce fw_4191 (ce fw_1077 (ce fw_4192 (ce fw_4193 (ce fw_4195 (ce fw_14 (ce fw_4196 (ce fw_1119 (ce fw_1081 (ce fw_1234 (ce fw_2168 (ce fw_2169 (ce fw_1124 (ce fw_4197 (ce fw_4198 (ce fw_4200 (ce fw_15 (ce fw_4201 (cn))))))))))))))))))))))))
def q_wsX4_take_r5 : List Nat := [2164, 2171, 2160, 4202, 2151, 2152, 1034, 2153, 2119, 2120, 4203, 4205, 16, 4206, 2163, 4207, 4208, 4209, 4210, 4211, 4213, 17, 4214, 4215]
set_option maxRecDepth 100000 in
theorem e_wsX4_take_r5 : q_wsX4_take_r5.map fe = wsX4_take_r5 := ce fw_2164 (ce fw_2171 (ce fw_2160 (ce fw_4202 (ce fw_2151 (ce fw_2152 (ce fw_1034 (ce fw_2153 (ce fw_2119 (ce fw_2120 (ce fw_4203 (ce fw_4205 (ce fw_16 (ce fw_4206 (ce fw_2163 (ce fw_4207 (ce fw_4208 (ce fw_4209 (ce fw_4210 (ce fw_4211 (ce fw_4213 (ce fw_17 (ce fw_4214 (ce fw_4215 (cn))))))))))))))))))))))))
def q_wsX4_take_r6 : List Nat := [4216, 4218, 18, 4219, 4220, 4221, 4222, 4223, 1117, 4108, 3304, 3305, 3306, 1084, 4109, 4224, 4105, 4106, 4107, 1122, 1091, 4225, 4227, 19]
set_option maxRecDepth 100000 in
theorem e_wsX4_take_r6 : q_wsX4_take_r6.map fe = wsX4_take_r6 := ce fw_4216 (ce fw_4218 (ce fw_18 (ce fw_4219 (ce fw_4220 (ce fw_4221 (ce fw_4222 (ce fw_4223 (ce fw_1117 (ce fw_4108 (ce fw_3304 (ce fw_3305 (ce fw_3306 (ce fw_1084 (ce fw_4109 (ce fw_4224 (ce fw_4105 (ce fw_4106 (ce fw_4107 (ce fw_1122 (ce fw_1091 (ce fw_4225 (ce fw_4227 (ce fw_19 (cn))))))))))))))))))))))))
def q_wsX4_take_r7 : List Nat := [4228, 2172, 4229, 4231, 20, 4232, 1110, 1106, 2166, 4233, 4234, 4235, 4236, 4237, 4238, 4239, 4240, 4241, 4242, 2117, 4243, 4245, 21, 4246]
set_option maxRecDepth 100000 in
theorem e_wsX4_take_r7 : q_wsX4_take_r7.map fe = wsX4_take_r7 := ce fw_4228 (ce fw_2172 (ce fw_4229 (ce fw_4231 (ce fw_20 (ce fw_4232 (ce fw_1110 (ce fw_1106 (ce fw_2166 (ce fw_4233 (ce fw_4234 (ce fw_4235 (ce fw_4236 (ce fw_4237 (ce fw_4238 (ce fw_4239 (ce fw_4240 (ce fw_4241 (ce fw_4242 (ce fw_2117 (ce fw_4243 (ce fw_4245 (ce fw_21 (ce fw_4246 (cn))))))))))))))))))))))))
def q_wsX4_take_r8 : List Nat := [2114, 2115, 2150, 4247, 4248, 4249, 1033, 4250, 1258, 1262, 2055, 2056, 2057, 2058, 1260, 4251, 4253, 22, 4254, 4255, 4256, 4257, 4258, 2053]
set_option maxRecDepth 100000 in
theorem e_wsX4_take_r8 : q_wsX4_take_r8.map fe = wsX4_take_r8 := ce fw_2114 (ce fw_2115 (ce fw_2150 (ce fw_4247 (ce fw_4248 (ce fw_4249 (ce fw_1033 (ce fw_4250 (ce fw_1258 (ce fw_1262 (ce fw_2055 (ce fw_2056 (ce fw_2057 (ce fw_2058 (ce fw_1260 (ce fw_4251 (ce fw_4253 (ce fw_22 (ce fw_4254 (ce fw_4255 (ce fw_4256 (ce fw_4257 (ce fw_4258 (ce fw_2053 (cn))))))))))))))))))))))))
def q_wsX4_take_r9 : List Nat := [1114, 1082, 2048, 2051, 4259, 4261, 23, 4262, 2059, 2061, 2063, 2069, 2071, 2067, 2065, 4267, 3119, 1036, 3120, 4263, 4264, 4265, 4266, 1097]
set_option maxRecDepth 100000 in
theorem e_wsX4_take_r9 : q_wsX4_take_r9.map fe = wsX4_take_r9 := ce fw_1114 (ce fw_1082 (ce fw_2048 (ce fw_2051 (ce fw_4259 (ce fw_4261 (ce fw_23 (ce fw_4262 (ce fw_2059 (ce fw_2061 (ce fw_2063 (ce fw_2069 (ce fw_2071 (ce fw_2067 (ce fw_2065 (ce fw_4267 (ce fw_3119 (ce fw_1036 (ce fw_3120 (ce fw_4263 (ce fw_4264 (ce fw_4265 (ce fw_4266 (ce fw_1097 (cn))))))))))))))))))))))))
def q_wsX20 : List Nat := [2214, 2216]
theorem e_wsX20 : q_wsX20.map fe = wsX20 := by decide +kernel
def q_wsX4_take : List Nat := 4148 :: ((((((((q_wsX4_take_r1) ++ ((q_wsX4_take_r2) ++ ((q_wsX4_take_r3) ++ ((q_wsX4_take_r4) ++ ((q_wsX4_take_r5) ++ ((q_wsX4_take_r6) ++ ((q_wsX4_take_r7) ++ ((q_wsX4_take_r8) ++ (q_wsX4_take_r9))))))))) ++ (q_wsX40)) ++ (q_wsX20)) ++ (q_wsX10)) ++ (q_wsX50)) ++ (q_wsX00)) ++ (q_wsX70))
set_option maxRecDepth 100000 in
theorem e_wsX4_take : q_wsX4_take.map fe = wsX4_take := ce fw_4148 (ca (ca (ca (ca (ca (ca (ca (e_wsX4_take_r1) (ca (e_wsX4_take_r2) (ca (e_wsX4_take_r3) (ca (e_wsX4_take_r4) (ca (e_wsX4_take_r5) (ca (e_wsX4_take_r6) (ca (e_wsX4_take_r7) (ca (e_wsX4_take_r8) (e_wsX4_take_r9))))))))) (e_wsX40)) (e_wsX20)) (e_wsX10)) (e_wsX50)) (e_wsX00)) (e_wsX70))
def q_wsX2_at : List Nat := 4112 :: (([2211, 2209]) ++ (q_wsX20))
set_option maxRecDepth 100000 in
theorem e_wsX2_at : q_wsX2_at.map fe = wsX2_at := ce fw_4112 (ca (ce fw_2211 (ce fw_2209 (cn))) (e_wsX20))
def q_wsX4_takeHunting_r1 : List Nat := [2156, 1231, 1101, 4154, 4155, 4156, 1032, 4157, 1236, 1128, 1126, 1237, 1087, 1229, 1230, 1233, 1078, 4158, 4159, 1044, 4160, 4161, 4162, 4163]
set_option maxRecDepth 100000 in
theorem e_wsX4_takeHunting_r1 : q_wsX4_takeHunting_r1.map fe = wsX4_takeHunting_r1 := ce fw_2156 (ce fw_1231 (ce fw_1101 (ce fw_4154 (ce fw_4155 (ce fw_4156 (ce fw_1032 (ce fw_4157 (ce fw_1236 (ce fw_1128 (ce fw_1126 (ce fw_1237 (ce fw_1087 (ce fw_1229 (ce fw_1230 (ce fw_1233 (ce fw_1078 (ce fw_4158 (ce fw_4159 (ce fw_1044 (ce fw_4160 (ce fw_4161 (ce fw_4162 (ce fw_4163 (cn))))))))))))))))))))))))
def q_wsX4_takeHunting_r2 : List Nat := [4164, 4165, 4166, 1027, 4167, 1086, 4168, 4170, 13, 1031, 4171, 2154, 2162, 2170, 2138, 2139, 2140, 2141, 1130, 1116, 1238, 4172, 4173, 4174]
set_option maxRecDepth 100000 in
theorem e_wsX4_takeHunting_r2 : q_wsX4_takeHunting_r2.map fe = wsX4_takeHunting_r2 := ce fw_4164 (ce fw_4165 (ce fw_4166 (ce fw_1027 (ce fw_4167 (ce fw_1086 (ce fw_4168 (ce fw_4170 (ce fw_13 (ce fw_1031 (ce fw_4171 (ce fw_2154 (ce fw_2162 (ce fw_2170 (ce fw_2138 (ce fw_2139 (ce fw_2140 (ce fw_2141 (ce fw_1130 (ce fw_1116 (ce fw_1238 (ce fw_4172 (ce fw_4173 (ce fw_4174 (cn))))))))))))))))))))))))
def q_wsX4_takeHunting_r3 : List Nat := [4175, 4176, 4177, 4178, 4179, 4180, 4181, 4182, 4183, 4184, 4185, 4186, 4187, 1127, 1129, 4188, 4189, 4190, 4191, 1077, 4192, 4193, 4195, 14]
set_option maxRecDepth 100000 in
theorem e_wsX4_takeHunting_r3 : q_wsX4_takeHunting_r3.map fe = wsX4_takeHunting_r3 := ce fw_4175 (ce fw_4176 (ce fw_4177 (ce fw_4178 (ce fw_4179 (ce fw_4180 (ce fw_4181 (ce fw_4182 (ce fw_4183 (ce fw_4184 (ce fw_4185 (ce fw_4186 (ce fw_4187 (ce fw_1127 (ce fw_1129 (ce fw_4188 (ce fw_4189 (ce fw_4190 (ce fw_4191 (ce fw_1077 (ce fw_4192 (ce fw_4193 (ce fw_4195 (ce fw_14 (cn))))))))))))))))))))))))
def q_wsX4_takeHunting_r4 : List Nat := [4196, 1119, 1081, 1234, 2168, 2169, 1124, 4197, 4198, 4200, 15, 4201, 2164, 2171, 2160, 4202, 2151, 2152, 1034, 2153, 2119, 2120]
set_option maxRecDepth 100000 in
theorem e_wsX4_takeHunting_r4 : q_wsX4_takeHunting_r4.map fe = wsX4_takeHunting_r4 := ce fw_4196 (ce fw_1119 (ce fw_1081 (ce fw_1234 (ce fw_2168 (ce fw_2169 (ce fw_1124 (ce fw_4197 (ce fw_4198 (ce fw_4200 (ce fw_15 (ce fw_4201 (ce fw_2164 (ce fw_2171 (ce fw_2160 (ce fw_4202 (ce fw_2151 (ce fw_2152 (ce fw_1034 (ce fw_2153 (ce fw_2119 (ce fw_2120 (cn))))))))))))))))))))))
def q_wsX4_takeHunting : List Nat := 4153 :: ((((((q_wsX4_takeHunting_r1) ++ ((q_wsX4_takeHunting_r2) ++ ((q_wsX4_takeHunting_r3) ++ (q_wsX4_takeHunting_r4)))) ++ (q_wsX40)) ++ (q_wsX10)) ++ (q_wsX50)) ++ (q_wsX00))
set_option maxRecDepth 100000 in
theorem e_wsX4_takeHunting : q_wsX4_takeHunting.map fe = wsX4_takeHunting := ce fw_4153 (ca (ca (ca (ca (ca (e_wsX4_takeHunting_r1) (ca (e_wsX4_takeHunting_r2) (ca (e_wsX4_takeHunting_r3) (e_wsX4_takeHunting_r4)))) (e_wsX40)) (e_wsX10)) (e_wsX50)) (e_wsX00))
def q_wsX4_takeVerifying_r1 : List Nat := [2169, 2168, 1119, 2163, 4149, 4110, 4111, 1035, 4112, 2211, 2209, 4207, 4208, 4209, 1027, 4210, 1129, 1127, 4168, 4170, 13, 1031, 4171, 2154]
set_option maxRecDepth 100000 in
theorem e_wsX4_takeVerifying_r1 : q_wsX4_takeVerifying_r1.map fe = wsX4_takeVerifying_r1 := ce fw_2169 (ce fw_2168 (ce fw_1119 (ce fw_2163 (ce fw_4149 (ce fw_4110 (ce fw_4111 (ce fw_1035 (ce fw_4112 (ce fw_2211 (ce fw_2209 (ce fw_4207 (ce fw_4208 (ce fw_4209 (ce fw_1027 (ce fw_4210 (ce fw_1129 (ce fw_1127 (ce fw_4168 (ce fw_4170 (ce fw_13 (ce fw_1031 (ce fw_4171 (ce fw_2154 (cn))))))))))))))))))))))))
def q_wsX4_takeVerifying_r2 : List Nat := [2162, 2170, 2156, 2138, 2139, 2140, 1032, 2141, 1078, 1229, 1130, 1116, 1230, 1233, 1236, 1237, 1238, 4211, 4213, 17, 4214, 1081, 4215, 4165]
set_option maxRecDepth 100000 in
theorem e_wsX4_takeVerifying_r2 : q_wsX4_takeVerifying_r2.map fe = wsX4_takeVerifying_r2 := ce fw_2162 (ce fw_2170 (ce fw_2156 (ce fw_2138 (ce fw_2139 (ce fw_2140 (ce fw_1032 (ce fw_2141 (ce fw_1078 (ce fw_1229 (ce fw_1130 (ce fw_1116 (ce fw_1230 (ce fw_1233 (ce fw_1236 (ce fw_1237 (ce fw_1238 (ce fw_4211 (ce fw_4213 (ce fw_17 (ce fw_4214 (ce fw_1081 (ce fw_4215 (ce fw_4165 (cn))))))))))))))))))))))))
def q_wsX4_takeVerifying_r3 : List Nat := [4166, 4167, 1086, 4216, 4218, 18, 4219, 1124, 4220, 4221, 4222, 4223, 1077, 1117, 4108, 3304, 3305, 3306, 1084, 4109, 4224, 4105, 4106, 4107]
set_option maxRecDepth 100000 in
theorem e_wsX4_takeVerifying_r3 : q_wsX4_takeVerifying_r3.map fe = wsX4_takeVerifying_r3 := ce fw_4166 (ce fw_4167 (ce fw_1086 (ce fw_4216 (ce fw_4218 (ce fw_18 (ce fw_4219 (ce fw_1124 (ce fw_4220 (ce fw_4221 (ce fw_4222 (ce fw_4223 (ce fw_1077 (ce fw_1117 (ce fw_4108 (ce fw_3304 (ce fw_3305 (ce fw_3306 (ce fw_1084 (ce fw_4109 (ce fw_4224 (ce fw_4105 (ce fw_4106 (ce fw_4107 (cn))))))))))))))))))))))))
def q_wsX4_takeVerifying_r4 : List Nat := [1122, 1091, 4198, 4200, 15, 4201, 2164, 2171, 2160, 4202, 2151, 2152, 1034, 2153, 2119, 2120]
set_option maxRecDepth 100000 in
theorem e_wsX4_takeVerifying_r4 : q_wsX4_takeVerifying_r4.map fe = wsX4_takeVerifying_r4 := ce fw_1122 (ce fw_1091 (ce fw_4198 (ce fw_4200 (ce fw_15 (ce fw_4201 (ce fw_2164 (ce fw_2171 (ce fw_2160 (ce fw_4202 (ce fw_2151 (ce fw_2152 (ce fw_1034 (ce fw_2153 (ce fw_2119 (ce fw_2120 (cn))))))))))))))))
def q_wsX4_takeVerifying : List Nat := 4206 :: (((((((q_wsX4_takeVerifying_r1) ++ ((q_wsX4_takeVerifying_r2) ++ ((q_wsX4_takeVerifying_r3) ++ (q_wsX4_takeVerifying_r4)))) ++ (q_wsX40)) ++ (q_wsX50)) ++ (q_wsX20)) ++ (q_wsX10)) ++ (q_wsX00))
set_option maxRecDepth 100000 in
theorem e_wsX4_takeVerifying : q_wsX4_takeVerifying.map fe = wsX4_takeVerifying := ce fw_4206 (ca (ca (ca (ca (ca (ca (e_wsX4_takeVerifying_r1) (ca (e_wsX4_takeVerifying_r2) (ca (e_wsX4_takeVerifying_r3) (e_wsX4_takeVerifying_r4)))) (e_wsX40)) (e_wsX50)) (e_wsX20)) (e_wsX10)) (e_wsX00))
def q_wsX4_takeLocked_r1 : List Nat := [2169, 2154, 2168, 2170, 1081, 2158, 1119, 2172, 4149, 4110, 4111, 1035, 4112, 2211, 2209, 4229, 4231, 20, 1031, 4232, 2171, 1110, 1106, 2166]
set_option maxRecDepth 100000 in
theorem e_wsX4_takeLocked_r1 : q_wsX4_takeLocked_r1.map fe = wsX4_takeLocked_r1 := ce fw_2169 (ce fw_2154 (ce fw_2168 (ce fw_2170 (ce fw_1081 (ce fw_2158 (ce fw_1119 (ce fw_2172 (ce fw_4149 (ce fw_4110 (ce fw_4111 (ce fw_1035 (ce fw_4112 (ce fw_2211 (ce fw_2209 (ce fw_4229 (ce fw_4231 (ce fw_20 (ce fw_1031 (ce fw_4232 (ce fw_2171 (ce fw_1110 (ce fw_1106 (ce fw_2166 (cn))))))))))))))))))))))))
def q_wsX4_takeLocked_r2 : List Nat := [2160, 4233, 4234, 4235, 1027, 4236, 1127, 1129, 4207, 4208, 4209, 4210, 4237, 4159, 1044, 4160, 4161, 4162, 4163, 4168, 4170, 13, 4171, 2162]
set_option maxRecDepth 100000 in
theorem e_wsX4_takeLocked_r2 : q_wsX4_takeLocked_r2.map fe = wsX4_takeLocked_r2 := ce fw_2160 (ce fw_4233 (ce fw_4234 (ce fw_4235 (ce fw_1027 (ce fw_4236 (ce fw_1127 (ce fw_1129 (ce fw_4207 (ce fw_4208 (ce fw_4209 (ce fw_4210 (ce fw_4237 (ce fw_4159 (ce fw_1044 (ce fw_4160 (ce fw_4161 (ce fw_4162 (ce fw_4163 (ce fw_4168 (ce fw_4170 (ce fw_13 (ce fw_4171 (ce fw_2162 (cn))))))))))))))))))))))))
def q_wsX4_takeLocked_r3 : List Nat := [2156, 2138, 2139, 2140, 1032, 2141, 1078, 1229, 1130, 1116, 1230, 1233, 1236, 1237, 1238, 4238, 3304, 3305, 3306, 1086, 1084, 4239, 4240, 4241]
set_option maxRecDepth 100000 in
theorem e_wsX4_takeLocked_r3 : q_wsX4_takeLocked_r3.map fe = wsX4_takeLocked_r3 := ce fw_2156 (ce fw_2138 (ce fw_2139 (ce fw_2140 (ce fw_1032 (ce fw_2141 (ce fw_1078 (ce fw_1229 (ce fw_1130 (ce fw_1116 (ce fw_1230 (ce fw_1233 (ce fw_1236 (ce fw_1237 (ce fw_1238 (ce fw_4238 (ce fw_3304 (ce fw_3305 (ce fw_3306 (ce fw_1086 (ce fw_1084 (ce fw_4239 (ce fw_4240 (ce fw_4241 (cn))))))))))))))))))))))))
def q_wsX4_takeLocked_r4 : List Nat := [1034, 4242, 2119, 2120, 2117, 4243, 4245, 21, 4246, 2114, 2115, 2150, 2151, 2152, 2153, 4211, 4213, 17, 4214, 4215, 4165, 4166, 4167, 4247]
set_option maxRecDepth 100000 in
theorem e_wsX4_takeLocked_r4 : q_wsX4_takeLocked_r4.map fe = wsX4_takeLocked_r4 := ce fw_1034 (ce fw_4242 (ce fw_2119 (ce fw_2120 (ce fw_2117 (ce fw_4243 (ce fw_4245 (ce fw_21 (ce fw_4246 (ce fw_2114 (ce fw_2115 (ce fw_2150 (ce fw_2151 (ce fw_2152 (ce fw_2153 (ce fw_4211 (ce fw_4213 (ce fw_17 (ce fw_4214 (ce fw_4215 (ce fw_4165 (ce fw_4166 (ce fw_4167 (ce fw_4247 (cn))))))))))))))))))))))))
def q_wsX4_takeLocked_r5 : List Nat := [4248, 4249, 1033, 4250, 1258, 1262, 2055, 2056, 2057, 2058, 1260, 4251, 4253, 22, 4254, 4216, 4218, 18, 4219, 1124, 4220, 4221, 4222, 4223]
set_option maxRecDepth 100000 in
theorem e_wsX4_takeLocked_r5 : q_wsX4_takeLocked_r5.map fe = wsX4_takeLocked_r5 := ce fw_4248 (ce fw_4249 (ce fw_1033 (ce fw_4250 (ce fw_1258 (ce fw_1262 (ce fw_2055 (ce fw_2056 (ce fw_2057 (ce fw_2058 (ce fw_1260 (ce fw_4251 (ce fw_4253 (ce fw_22 (ce fw_4254 (ce fw_4216 (ce fw_4218 (ce fw_18 (ce fw_4219 (ce fw_1124 (ce fw_4220 (ce fw_4221 (ce fw_4222 (ce fw_4223 (cn))))))))))))))))))))))))
def q_wsX4_takeLocked_r6 : List Nat := [1077, 1117, 4108, 4109, 4224, 4105, 4106, 4107, 1122, 1091]
set_option maxRecDepth 100000 in
theorem e_wsX4_takeLocked_r6 : q_wsX4_takeLocked_r6.map fe = wsX4_takeLocked_r6 := ce fw_1077 (ce fw_1117 (ce fw_4108 (ce fw_4109 (ce fw_4224 (ce fw_4105 (ce fw_4106 (ce fw_4107 (ce fw_1122 (ce fw_1091 (cn))))))))))
def q_wsX4_takeLocked : List Nat := 4228 :: ((((((((q_wsX4_takeLocked_r1) ++ ((q_wsX4_takeLocked_r2) ++ ((q_wsX4_takeLocked_r3) ++ ((q_wsX4_takeLocked_r4) ++ ((q_wsX4_takeLocked_r5) ++ (q_wsX4_takeLocked_r6)))))) ++ (q_wsX40)) ++ (q_wsX50)) ++ (q_wsX20)) ++ (q_wsX10)) ++ (q_wsX00)) ++ (q_wsX70))
set_option maxRecDepth 100000 in
theorem e_wsX4_takeLocked : q_wsX4_takeLocked.map fe = wsX4_takeLocked := ce fw_4228 (ca (ca (ca (ca (ca (ca (ca (e_wsX4_takeLocked_r1) (ca (e_wsX4_takeLocked_r2) (ca (e_wsX4_takeLocked_r3) (ca (e_wsX4_takeLocked_r4) (ca (e_wsX4_takeLocked_r5) (e_wsX4_takeLocked_r6)))))) (e_wsX40)) (e_wsX50)) (e_wsX20)) (e_wsX10)) (e_wsX00)) (e_wsX70))
def q_wsX7_tick_r1 : List Nat := [2053, 1114, 1082, 1258, 2048, 2051, 4259, 4261, 23, 1033, 4262, 2055, 2059, 2056, 2061, 1260, 2063, 2069, 2071, 2067, 2065, 4267, 3119, 1036]
set_option maxRecDepth 100000 in
theorem e_wsX7_tick_r1 : q_wsX7_tick_r1.map fe = wsX7_tick_r1 := ce fw_2053 (ce fw_1114 (ce fw_1082 (ce fw_1258 (ce fw_2048 (ce fw_2051 (ce fw_4259 (ce fw_4261 (ce fw_23 (ce fw_1033 (ce fw_4262 (ce fw_2055 (ce fw_2059 (ce fw_2056 (ce fw_2061 (ce fw_1260 (ce fw_2063 (ce fw_2069 (ce fw_2071 (ce fw_2067 (ce fw_2065 (ce fw_4267 (ce fw_3119 (ce fw_1036 (cn))))))))))))))))))))))))
def q_wsX7_tick_r2 : List Nat := [3120, 4251, 4253, 22, 4254, 2057, 2058, 4263, 4264, 4265, 1027, 4266, 1097]
set_option maxRecDepth 100000 in
theorem e_wsX7_tick_r2 : q_wsX7_tick_r2.map fe = wsX7_tick_r2 := ce fw_3120 (ce fw_4251 (ce fw_4253 (ce fw_22 (ce fw_4254 (ce fw_2057 (ce fw_2058 (ce fw_4263 (ce fw_4264 (ce fw_4265 (ce fw_1027 (ce fw_4266 (ce fw_1097 (cn)))))))))))))
def q_wsX7_tick : List Nat := 4258 :: ((((q_wsX7_tick_r1) ++ (q_wsX7_tick_r2)) ++ (q_wsX70)) ++ (q_wsX50))
set_option maxRecDepth 100000 in
theorem e_wsX7_tick : q_wsX7_tick.map fe = wsX7_tick := ce fw_4258 (ca (ca (ca (e_wsX7_tick_r1) (e_wsX7_tick_r2)) (e_wsX70)) (e_wsX50))
def q_wsX4_huntAnew : List Nat := 4171 :: (((([2154, 2162, 2170, 2156, 2138, 2139, 2140, 1032, 2141, 1078, 1229, 1130, 1116, 1230, 1233, 1236, 1237, 1238]) ++ (q_wsX40)) ++ (q_wsX50)) ++ (q_wsX10))
set_option maxRecDepth 100000 in
theorem e_wsX4_huntAnew : q_wsX4_huntAnew.map fe = wsX4_huntAnew := ce fw_4171 (ca (ca (ca (ce fw_2154 (ce fw_2162 (ce fw_2170 (ce fw_2156 (ce fw_2138 (ce fw_2139 (ce fw_2140 (ce fw_1032 (ce fw_2141 (ce fw_1078 (ce fw_1229 (ce fw_1130 (ce fw_1116 (ce fw_1230 (ce fw_1233 (ce fw_1236 (ce fw_1237 (ce fw_1238 (cn))))))))))))))))))) (e_wsX40)) (e_wsX50)) (e_wsX10))
def q_wsX4_followLone_r1 : List Nat := [1119, 1081, 2156, 1234, 2168, 2169, 1124, 2154, 2170, 4197, 4177, 4178, 1032, 4179, 1238, 4180, 4181, 4182, 4183, 1230, 1087, 1078, 1229, 4198]
set_option maxRecDepth 100000 in
theorem e_wsX4_followLone_r1 : q_wsX4_followLone_r1.map fe = wsX4_followLone_r1 := ce fw_1119 (ce fw_1081 (ce fw_2156 (ce fw_1234 (ce fw_2168 (ce fw_2169 (ce fw_1124 (ce fw_2154 (ce fw_2170 (ce fw_4197 (ce fw_4177 (ce fw_4178 (ce fw_1032 (ce fw_4179 (ce fw_1238 (ce fw_4180 (ce fw_4181 (ce fw_4182 (ce fw_4183 (ce fw_1230 (ce fw_1087 (ce fw_1078 (ce fw_1229 (ce fw_4198 (cn))))))))))))))))))))))))
def q_wsX4_followLone_r2 : List Nat := [4200, 15, 1031, 4201, 2164, 2171, 2160, 4202, 2151, 2152, 1034, 2153, 2119, 2120]
set_option maxRecDepth 100000 in
theorem e_wsX4_followLone_r2 : q_wsX4_followLone_r2.map fe = wsX4_followLone_r2 := ce fw_4200 (ce fw_15 (ce fw_1031 (ce fw_4201 (ce fw_2164 (ce fw_2171 (ce fw_2160 (ce fw_4202 (ce fw_2151 (ce fw_2152 (ce fw_1034 (ce fw_2153 (ce fw_2119 (ce fw_2120 (cn))))))))))))))
def q_wsX4_followLone : List Nat := 4196 :: ((((((q_wsX4_followLone_r1) ++ (q_wsX4_followLone_r2)) ++ (q_wsX50)) ++ (q_wsX40)) ++ (q_wsX10)) ++ (q_wsX00))
set_option maxRecDepth 100000 in
theorem e_wsX4_followLone : q_wsX4_followLone.map fe = wsX4_followLone := ce fw_4196 (ca (ca (ca (ca (ca (e_wsX4_followLone_r1) (e_wsX4_followLone_r2)) (e_wsX50)) (e_wsX40)) (e_wsX10)) (e_wsX00))
def q_wsX4_lock : List Nat := 4201 :: ((([2154, 2164, 2170, 2171, 2160, 4202, 2151, 2152, 1034, 2153, 2119, 2120]) ++ (q_wsX40)) ++ (q_wsX00))
set_option maxRecDepth 100000 in
theorem e_wsX4_lock : q_wsX4_lock.map fe = wsX4_lock := ce fw_4201 (ca (ca (ce fw_2154 (ce fw_2164 (ce fw_2170 (ce fw_2171 (ce fw_2160 (ce fw_4202 (ce fw_2151 (ce fw_2152 (ce fw_1034 (ce fw_2153 (ce fw_2119 (ce fw_2120 (cn))))))))))))) (e_wsX40)) (e_wsX00))
def q_wsX5_isOther : List Nat := 4210 :: (([1129, 1127]) ++ (q_wsX50))
set_option maxRecDepth 100000 in
theorem e_wsX5_isOther : q_wsX5_isOther.map fe = wsX5_isOther := ce fw_4210 (ca (ce fw_1129 (ce fw_1127 (cn))) (e_wsX50))
def q_wsX4_advance : List Nat := 4214 :: ((([2169, 1081, 2168, 4215, 4165, 4166, 1027, 4167, 1086]) ++ (q_wsX40)) ++ (q_wsX50))
set_option maxRecDepth 100000 in
theorem e_wsX4_advance : q_wsX4_advance.map fe = wsX4_advance := ce fw_4214 (ca (ca (ce fw_2169 (ce fw_1081 (ce fw_2168 (ce fw_4215 (ce fw_4165 (ce fw_4166 (ce fw_1027 (ce fw_4167 (ce fw_1086 (cn)))))))))) (e_wsX40)) (e_wsX50))
def q_wsX4_isJudged : List Nat := 4219 :: ((([2168, 2169, 1124, 2170, 1119]) ++ (q_wsX40)) ++ (q_wsX50))
set_option maxRecDepth 100000 in
theorem e_wsX4_isJudged : q_wsX4_isJudged.map fe = wsX4_isJudged := ce fw_4219 (ca (ca (ce fw_2168 (ce fw_2169 (ce fw_1124 (ce fw_2170 (ce fw_1119 (cn)))))) (e_wsX40)) (e_wsX50))
def q_wsX5_checksHold : List Nat := 4223 :: ((([1086, 1077, 1117, 4108, 3304, 3305, 1027, 3306, 1084, 4109, 4110, 4111, 1035, 4112, 2211, 2209, 4224, 4105, 4106, 4107, 1122, 1091]) ++ (q_wsX50)) ++ (q_wsX20))
set_option maxRecDepth 100000 in
theorem e_wsX5_checksHold : q_wsX5_checksHold.map fe = wsX5_checksHold := ce fw_4223 (ca (ca (ce fw_1086 (ce fw_1077 (ce fw_1117 (ce fw_4108 (ce fw_3304 (ce fw_3305 (ce fw_1027 (ce fw_3306 (ce fw_1084 (ce fw_4109 (ce fw_4110 (ce fw_4111 (ce fw_1035 (ce fw_4112 (ce fw_2211 (ce fw_2209 (ce fw_4224 (ce fw_4105 (ce fw_4106 (ce fw_4107 (ce fw_1122 (ce fw_1091 (cn))))))))))))))))))))))) (e_wsX50)) (e_wsX20))
def q_wsX4_takeFirst_r1 : List Nat := [2168, 2171, 1110, 1106, 2166, 2160, 4233, 4234, 4235, 1027, 4236, 1127, 1129, 4207, 4208, 4209, 4210, 4237, 4159, 1044, 4160, 4161, 4162, 4163]
set_option maxRecDepth 100000 in
theorem e_wsX4_takeFirst_r1 : q_wsX4_takeFirst_r1.map fe = wsX4_takeFirst_r1 := ce fw_2168 (ce fw_2171 (ce fw_1110 (ce fw_1106 (ce fw_2166 (ce fw_2160 (ce fw_4233 (ce fw_4234 (ce fw_4235 (ce fw_1027 (ce fw_4236 (ce fw_1127 (ce fw_1129 (ce fw_4207 (ce fw_4208 (ce fw_4209 (ce fw_4210 (ce fw_4237 (ce fw_4159 (ce fw_1044 (ce fw_4160 (ce fw_4161 (ce fw_4162 (ce fw_4163 (cn))))))))))))))))))))))))
def q_wsX4_takeFirst_r2 : List Nat := [4168, 4170, 13, 1031, 4171, 2154, 2162, 2170, 2156, 2138, 2139, 2140, 1032, 2141, 1078, 1229, 1130, 1116, 1230, 1233, 1236, 1237, 1238, 4238]
set_option maxRecDepth 100000 in
theorem e_wsX4_takeFirst_r2 : q_wsX4_takeFirst_r2.map fe = wsX4_takeFirst_r2 := ce fw_4168 (ce fw_4170 (ce fw_13 (ce fw_1031 (ce fw_4171 (ce fw_2154 (ce fw_2162 (ce fw_2170 (ce fw_2156 (ce fw_2138 (ce fw_2139 (ce fw_2140 (ce fw_1032 (ce fw_2141 (ce fw_1078 (ce fw_1229 (ce fw_1130 (ce fw_1116 (ce fw_1230 (ce fw_1233 (ce fw_1236 (ce fw_1237 (ce fw_1238 (ce fw_4238 (cn))))))))))))))))))))))))
def q_wsX4_takeFirst_r3 : List Nat := [3304, 3305, 3306, 1086, 1084, 4239, 4240, 4241, 1034, 4242, 2119, 2120, 2117, 4243, 4245, 21, 4246, 2114, 2115, 2150, 2151, 2152, 2153]
set_option maxRecDepth 100000 in
theorem e_wsX4_takeFirst_r3 : q_wsX4_takeFirst_r3.map fe = wsX4_takeFirst_r3 := ce fw_3304 (ce fw_3305 (ce fw_3306 (ce fw_1086 (ce fw_1084 (ce fw_4239 (ce fw_4240 (ce fw_4241 (ce fw_1034 (ce fw_4242 (ce fw_2119 (ce fw_2120 (ce fw_2117 (ce fw_4243 (ce fw_4245 (ce fw_21 (ce fw_4246 (ce fw_2114 (ce fw_2115 (ce fw_2150 (ce fw_2151 (ce fw_2152 (ce fw_2153 (cn)))))))))))))))))))))))
def q_wsX4_takeFirst : List Nat := 4232 :: ((((((q_wsX4_takeFirst_r1) ++ ((q_wsX4_takeFirst_r2) ++ (q_wsX4_takeFirst_r3))) ++ (q_wsX40)) ++ (q_wsX50)) ++ (q_wsX10)) ++ (q_wsX00))
set_option maxRecDepth 100000 in
theorem e_wsX4_takeFirst : q_wsX4_takeFirst.map fe = wsX4_takeFirst := ce fw_4232 (ca (ca (ca (ca (ca (e_wsX4_takeFirst_r1) (ca (e_wsX4_takeFirst_r2) (e_wsX4_takeFirst_r3))) (e_wsX40)) (e_wsX50)) (e_wsX10)) (e_wsX00))
def q_wsX7_come : List Nat := 4250 :: (([1258, 1262, 2055, 2056, 2057, 2058, 1260, 4251, 4253, 22, 1033, 4254]) ++ (q_wsX70))
set_option maxRecDepth 100000 in
theorem e_wsX7_come : q_wsX7_come.map fe = wsX7_come := ce fw_4250 (ca (ce fw_1258 (ce fw_1262 (ce fw_2055 (ce fw_2056 (ce fw_2057 (ce fw_2058 (ce fw_1260 (ce fw_4251 (ce fw_4253 (ce fw_22 (ce fw_1033 (ce fw_4254 (cn))))))))))))) (e_wsX70))
def q_wsX5_isFixed : List Nat := 4236 :: (([1127, 1129]) ++ (q_wsX50))
set_option maxRecDepth 100000 in
theorem e_wsX5_isFixed : q_wsX5_isFixed.map fe = wsX5_isFixed := ce fw_4236 (ca (ce fw_1127 (ce fw_1129 (cn))) (e_wsX50))
def q_wsX5_roleAt : List Nat := 3306 :: (([1086, 1084]) ++ (q_wsX50))
set_option maxRecDepth 100000 in
theorem e_wsX5_roleAt : q_wsX5_roleAt.map fe = wsX5_roleAt := ce fw_3306 (ca (ce fw_1086 (ce fw_1084 (cn))) (e_wsX50))
def q_wsX4_tell_r1 : List Nat := [2154, 2156, 1231, 2162, 2163, 2164, 2166, 2168, 1081, 2169, 2170, 2171, 2172, 2158, 1261, 1263, 2049, 2052, 1259, 2054, 2160, 2116, 2118, 4237]
set_option maxRecDepth 100000 in
theorem e_wsX4_tell_r1 : q_wsX4_tell_r1.map fe = wsX4_tell_r1 := ce fw_2154 (ce fw_2156 (ce fw_1231 (ce fw_2162 (ce fw_2163 (ce fw_2164 (ce fw_2166 (ce fw_2168 (ce fw_1081 (ce fw_2169 (ce fw_2170 (ce fw_2171 (ce fw_2172 (ce fw_2158 (ce fw_1261 (ce fw_1263 (ce fw_2049 (ce fw_2052 (ce fw_1259 (ce fw_2054 (ce fw_2160 (ce fw_2116 (ce fw_2118 (ce fw_4237 (cn))))))))))))))))))))))))
def q_wsX4_tell_r2 : List Nat := [4159, 1044, 4160, 4161, 4162, 4163]
set_option maxRecDepth 100000 in
theorem e_wsX4_tell_r2 : q_wsX4_tell_r2.map fe = wsX4_tell_r2 := ce fw_4159 (ce fw_1044 (ce fw_4160 (ce fw_4161 (ce fw_4162 (ce fw_4163 (cn))))))
def q_wsX4_tell : List Nat := 4293 :: (((((((q_wsX4_tell_r1) ++ (q_wsX4_tell_r2)) ++ (q_wsX40)) ++ (q_wsX10)) ++ (q_wsX50)) ++ (q_wsX70)) ++ (q_wsX00))
set_option maxRecDepth 100000 in
theorem e_wsX4_tell : q_wsX4_tell.map fe = wsX4_tell := ce fw_4293 (ca (ca (ca (ca (ca (ca (e_wsX4_tell_r1) (e_wsX4_tell_r2)) (e_wsX40)) (e_wsX10)) (e_wsX50)) (e_wsX70)) (e_wsX00))
def q_wsX4_copyFrom_r1 : List Nat := [2154, 2156, 2158, 2160, 2162, 2163, 2164, 2166, 2168, 2169, 2170, 2171, 2172, 3273, 3274, 3275, 1032, 3276, 1229, 3277, 3124, 3123, 1039, 1230]
set_option maxRecDepth 100000 in
theorem e_wsX4_copyFrom_r1 : q_wsX4_copyFrom_r1.map fe = wsX4_copyFrom_r1 := ce fw_2154 (ce fw_2156 (ce fw_2158 (ce fw_2160 (ce fw_2162 (ce fw_2163 (ce fw_2164 (ce fw_2166 (ce fw_2168 (ce fw_2169 (ce fw_2170 (ce fw_2171 (ce fw_2172 (ce fw_3273 (ce fw_3274 (ce fw_3275 (ce fw_1032 (ce fw_3276 (ce fw_1229 (ce fw_3277 (ce fw_3124 (ce fw_3123 (ce fw_1039 (ce fw_1230 (cn))))))))))))))))))))))))
def q_wsX4_copyFrom_r2 : List Nat := [1233, 1236, 1237, 1238, 3278, 3279, 3280, 1033, 3281, 1258, 1260, 1262, 2048, 2051, 2053, 2055, 2056, 2057, 2058, 2059, 2061, 2063, 2065, 2067]
set_option maxRecDepth 100000 in
theorem e_wsX4_copyFrom_r2 : q_wsX4_copyFrom_r2.map fe = wsX4_copyFrom_r2 := ce fw_1233 (ce fw_1236 (ce fw_1237 (ce fw_1238 (ce fw_3278 (ce fw_3279 (ce fw_3280 (ce fw_1033 (ce fw_3281 (ce fw_1258 (ce fw_1260 (ce fw_1262 (ce fw_2048 (ce fw_2051 (ce fw_2053 (ce fw_2055 (ce fw_2056 (ce fw_2057 (ce fw_2058 (ce fw_2059 (ce fw_2061 (ce fw_2063 (ce fw_2065 (ce fw_2067 (cn))))))))))))))))))))))))
def q_wsX4_copyFrom_r3 : List Nat := [2069, 2071, 3282, 3283, 3284, 1034, 3285, 2114, 3286, 2115, 2117, 2119, 2120]
set_option maxRecDepth 100000 in
theorem e_wsX4_copyFrom_r3 : q_wsX4_copyFrom_r3.map fe = wsX4_copyFrom_r3 := ce fw_2069 (ce fw_2071 (ce fw_3282 (ce fw_3283 (ce fw_3284 (ce fw_1034 (ce fw_3285 (ce fw_2114 (ce fw_3286 (ce fw_2115 (ce fw_2117 (ce fw_2119 (ce fw_2120 (cn)))))))))))))
def q_wsX4_copyFrom : List Nat := 3272 :: ((((((q_wsX4_copyFrom_r1) ++ ((q_wsX4_copyFrom_r2) ++ (q_wsX4_copyFrom_r3))) ++ (q_wsX40)) ++ (q_wsX10)) ++ (q_wsX70)) ++ (q_wsX00))
set_option maxRecDepth 100000 in
theorem e_wsX4_copyFrom : q_wsX4_copyFrom.map fe = wsX4_copyFrom := ce fw_3272 (ca (ca (ca (ca (ca (e_wsX4_copyFrom_r1) (ca (e_wsX4_copyFrom_r2) (e_wsX4_copyFrom_r3))) (e_wsX40)) (e_wsX10)) (e_wsX70)) (e_wsX00))
def q_wsX1_copyFrom : List Nat := 3276 :: (([1229, 3277, 3124, 3123, 1039, 1230, 1233, 1236, 1237, 1238]) ++ (q_wsX10))
set_option maxRecDepth 100000 in
theorem e_wsX1_copyFrom : q_wsX1_copyFrom.map fe = wsX1_copyFrom := ce fw_3276 (ca (ce fw_1229 (ce fw_3277 (ce fw_3124 (ce fw_3123 (ce fw_1039 (ce fw_1230 (ce fw_1233 (ce fw_1236 (ce fw_1237 (ce fw_1238 (cn))))))))))) (e_wsX10))
def q_wsX7_copyFrom : List Nat := 3281 :: (([1258, 1260, 1262, 2048, 2051, 2053, 2055, 2056, 2057, 2058, 2059, 2061, 2063, 2065, 2067, 2069, 2071]) ++ (q_wsX70))
set_option maxRecDepth 100000 in
theorem e_wsX7_copyFrom : q_wsX7_copyFrom.map fe = wsX7_copyFrom := ce fw_3281 (ca (ce fw_1258 (ce fw_1260 (ce fw_1262 (ce fw_2048 (ce fw_2051 (ce fw_2053 (ce fw_2055 (ce fw_2056 (ce fw_2057 (ce fw_2058 (ce fw_2059 (ce fw_2061 (ce fw_2063 (ce fw_2065 (ce fw_2067 (ce fw_2069 (ce fw_2071 (cn)))))))))))))))))) (e_wsX70))
def q_wsX0_copyFrom : List Nat := 3285 :: (([2114, 3286, 3124, 3123, 1039, 2115, 2117, 2119, 2120]) ++ (q_wsX00))
set_option maxRecDepth 100000 in
theorem e_wsX0_copyFrom : q_wsX0_copyFrom.map fe = wsX0_copyFrom := ce fw_3285 (ca (ce fw_2114 (ce fw_3286 (ce fw_3124 (ce fw_3123 (ce fw_1039 (ce fw_2115 (ce fw_2117 (ce fw_2119 (ce fw_2120 (cn)))))))))) (e_wsX00))
def q_wsX5_framesStarted : List Nat := 4191 :: (([1077]) ++ (q_wsX50))
set_option maxRecDepth 100000 in
theorem e_wsX5_framesStarted : q_wsX5_framesStarted.map fe = wsX5_framesStarted := ce fw_4191 (ca (ce fw_1077 (cn)) (e_wsX50))
def q_wsX5_checksOf : List Nat := 4107 :: ((([1122, 1091, 1086, 1077, 4108, 3304, 3305, 1027, 3306, 1084, 4109, 4110, 4111, 1035, 4112, 2211, 2209]) ++ (q_wsX50)) ++ (q_wsX20))
set_option maxRecDepth 100000 in
theorem e_wsX5_checksOf : q_wsX5_checksOf.map fe = wsX5_checksOf := ce fw_4107 (ca (ca (ce fw_1122 (ce fw_1091 (ce fw_1086 (ce fw_1077 (ce fw_4108 (ce fw_3304 (ce fw_3305 (ce fw_1027 (ce fw_3306 (ce fw_1084 (ce fw_4109 (ce fw_4110 (ce fw_4111 (ce fw_1035 (ce fw_4112 (ce fw_2211 (ce fw_2209 (cn)))))))))))))))))) (e_wsX50)) (e_wsX20))
def q_wsX6_transmit_r1 : List Nat := [3299, 3301, 9, 1030, 3302, 2212, 1123, 1088, 1207, 1080, 4103, 3303, 3304, 3305, 1027, 3306, 1086, 1084, 3307, 3308, 3309, 1035, 3310, 2211]
set_option maxRecDepth 100000 in
theorem e_wsX6_transmit_r1 : q_wsX6_transmit_r1.map fe = wsX6_transmit_r1 := ce fw_3299 (ce fw_3301 (ce fw_9 (ce fw_1030 (ce fw_3302 (ce fw_2212 (ce fw_1123 (ce fw_1088 (ce fw_1207 (ce fw_1080 (ce fw_4103 (ce fw_3303 (ce fw_3304 (ce fw_3305 (ce fw_1027 (ce fw_3306 (ce fw_1086 (ce fw_1084 (ce fw_3307 (ce fw_3308 (ce fw_3309 (ce fw_1035 (ce fw_3310 (ce fw_2211 (cn))))))))))))))))))))))))
def q_wsX6_transmit_r2 : List Nat := [2209, 3311, 4097, 10, 4098, 1203, 1205, 1202, 4099, 4101, 11, 4102, 4104, 4105, 4106, 4107, 1122, 1091, 1077, 4108, 4109, 4110, 4111, 4112]
set_option maxRecDepth 100000 in
theorem e_wsX6_transmit_r2 : q_wsX6_transmit_r2.map fe = wsX6_transmit_r2 := ce fw_2209 (ce fw_3311 (ce fw_4097 (ce fw_10 (ce fw_4098 (ce fw_1203 (ce fw_1205 (ce fw_1202 (ce fw_4099 (ce fw_4101 (ce fw_11 (ce fw_4102 (ce fw_4104 (ce fw_4105 (ce fw_4106 (ce fw_4107 (ce fw_1122 (ce fw_1091 (ce fw_1077 (ce fw_4108 (ce fw_4109 (ce fw_4110 (ce fw_4111 (ce fw_4112 (cn))))))))))))))))))))))))
def q_wsX60 : List Nat := [1208, 1210, 1212, 1214]
theorem e_wsX60 : q_wsX60.map fe = wsX60 := by decide +kernel
def q_wsX6_transmit : List Nat := 3298 :: (((((q_wsX6_transmit_r1) ++ (q_wsX6_transmit_r2)) ++ (q_wsX20)) ++ (q_wsX50)) ++ (q_wsX60))
set_option maxRecDepth 100000 in
theorem e_wsX6_transmit : q_wsX6_transmit.map fe = wsX6_transmit := ce fw_3298 (ca (ca (ca (ca (e_wsX6_transmit_r1) (e_wsX6_transmit_r2)) (e_wsX20)) (e_wsX50)) (e_wsX60))
def q_wsX6_transmitOne_r1 : List Nat := [2212, 1123, 1088, 1207, 1080, 4103, 3303, 3304, 3305, 1027, 3306, 1086, 1084, 3307, 3308, 3309, 1035, 3310, 2211, 2209, 3311, 4097, 10, 1030]
set_option maxRecDepth 100000 in
theorem e_wsX6_transmitOne_r1 : q_wsX6_transmitOne_r1.map fe = wsX6_transmitOne_r1 := ce fw_2212 (ce fw_1123 (ce fw_1088 (ce fw_1207 (ce fw_1080 (ce fw_4103 (ce fw_3303 (ce fw_3304 (ce fw_3305 (ce fw_1027 (ce fw_3306 (ce fw_1086 (ce fw_1084 (ce fw_3307 (ce fw_3308 (ce fw_3309 (ce fw_1035 (ce fw_3310 (ce fw_2211 (ce fw_2209 (ce fw_3311 (ce fw_4097 (ce fw_10 (ce fw_1030 (cn))))))))))))))))))))))))
def q_wsX6_transmitOne_r2 : List Nat := [4098, 1203, 1205, 1202, 4099, 4101, 11, 4102, 4104, 4105, 4106, 4107, 1122, 1091, 1077, 4108, 4109, 4110, 4111, 4112]
set_option maxRecDepth 100000 in
theorem e_wsX6_transmitOne_r2 : q_wsX6_transmitOne_r2.map fe = wsX6_transmitOne_r2 := ce fw_4098 (ce fw_1203 (ce fw_1205 (ce fw_1202 (ce fw_4099 (ce fw_4101 (ce fw_11 (ce fw_4102 (ce fw_4104 (ce fw_4105 (ce fw_4106 (ce fw_4107 (ce fw_1122 (ce fw_1091 (ce fw_1077 (ce fw_4108 (ce fw_4109 (ce fw_4110 (ce fw_4111 (ce fw_4112 (cn))))))))))))))))))))
def q_wsX6_transmitOne : List Nat := 3302 :: (((((q_wsX6_transmitOne_r1) ++ (q_wsX6_transmitOne_r2)) ++ (q_wsX20)) ++ (q_wsX50)) ++ (q_wsX60))
set_option maxRecDepth 100000 in
theorem e_wsX6_transmitOne : q_wsX6_transmitOne.map fe = wsX6_transmitOne := ce fw_3302 (ca (ca (ca (ca (e_wsX6_transmitOne_r1) (e_wsX6_transmitOne_r2)) (e_wsX20)) (e_wsX50)) (e_wsX60))
def q_wsX2_append : List Nat := 3310 :: (([2211, 2209]) ++ (q_wsX20))
set_option maxRecDepth 100000 in
theorem e_wsX2_append : q_wsX2_append.map fe = wsX2_append := ce fw_3310 (ca (ce fw_2211 (ce fw_2209 (cn))) (e_wsX20))
def q_wsX6_linkBit : List Nat := 4098 :: (([1203, 1205, 1202, 4099, 4101, 11, 1030, 4102]) ++ (q_wsX60))
set_option maxRecDepth 100000 in
theorem e_wsX6_linkBit : q_wsX6_linkBit.map fe = wsX6_linkBit := ce fw_4098 (ca (ce fw_1203 (ce fw_1205 (ce fw_1202 (ce fw_4099 (ce fw_4101 (ce fw_11 (ce fw_1030 (ce fw_4102 (cn))))))))) (e_wsX60))
def q_wsX6_dequeue : List Nat := 4102 :: (([1202, 1203, 1205]) ++ (q_wsX60))
set_option maxRecDepth 100000 in
theorem e_wsX6_dequeue : q_wsX6_dequeue.map fe = wsX6_dequeue := ce fw_4102 (ca (ce fw_1202 (ce fw_1203 (ce fw_1205 (cn)))) (e_wsX60))
def q_wsX7_dropOlder : List Nat := 4254 :: (([2057, 2055, 2058, 2056, 1258]) ++ (q_wsX70))
set_option maxRecDepth 100000 in
theorem e_wsX7_dropOlder : q_wsX7_dropOlder.map fe = wsX7_dropOlder := ce fw_4254 (ca (ce fw_2057 (ce fw_2055 (ce fw_2058 (ce fw_2056 (ce fw_1258 (cn)))))) (e_wsX70))
def q_wsX7_readOlder_r1 : List Nat := [2055, 2059, 2056, 2061, 1260, 1258, 2063, 2048, 2069, 2071, 2067, 2065, 4267, 3119, 1036, 3120, 4251, 4253, 22, 1033, 4254, 2057, 2058, 4263]
set_option maxRecDepth 100000 in
theorem e_wsX7_readOlder_r1 : q_wsX7_readOlder_r1.map fe = wsX7_readOlder_r1 := ce fw_2055 (ce fw_2059 (ce fw_2056 (ce fw_2061 (ce fw_1260 (ce fw_1258 (ce fw_2063 (ce fw_2048 (ce fw_2069 (ce fw_2071 (ce fw_2067 (ce fw_2065 (ce fw_4267 (ce fw_3119 (ce fw_1036 (ce fw_3120 (ce fw_4251 (ce fw_4253 (ce fw_22 (ce fw_1033 (ce fw_4254 (ce fw_2057 (ce fw_2058 (ce fw_4263 (cn))))))))))))))))))))))))
def q_wsX7_readOlder_r2 : List Nat := [4264, 4265, 1027, 4266, 1097]
set_option maxRecDepth 100000 in
theorem e_wsX7_readOlder_r2 : q_wsX7_readOlder_r2.map fe = wsX7_readOlder_r2 := ce fw_4264 (ce fw_4265 (ce fw_1027 (ce fw_4266 (ce fw_1097 (cn)))))
def q_wsX7_readOlder : List Nat := 4262 :: ((((q_wsX7_readOlder_r1) ++ (q_wsX7_readOlder_r2)) ++ (q_wsX70)) ++ (q_wsX50))
set_option maxRecDepth 100000 in
theorem e_wsX7_readOlder : q_wsX7_readOlder.map fe = wsX7_readOlder := ce fw_4262 (ca (ca (ca (e_wsX7_readOlder_r1) (e_wsX7_readOlder_r2)) (e_wsX70)) (e_wsX50))
def q_wsX5_isSignalPlace : List Nat := 4266 :: (([1097]) ++ (q_wsX50))
set_option maxRecDepth 100000 in
theorem e_wsX5_isSignalPlace : q_wsX5_isSignalPlace.map fe = wsX5_isSignalPlace := ce fw_4266 (ca (ce fw_1097 (cn)) (e_wsX50))
def q_wsX8_append : List Nat := 3102 :: (([1173, 1172, 3103, 3104, 1028, 3105]) ++ (q_wsX80))
set_option maxRecDepth 100000 in
theorem e_wsX8_append : q_wsX8_append.map fe = wsX8_append := ce fw_3102 (ca (ce fw_1173 (ce fw_1172 (ce fw_3103 (ce fw_3104 (ce fw_1028 (ce fw_3105 (cn))))))) (e_wsX80))
def q_wsX8_byteOf : List Nat := 3105 :: ([])
set_option maxRecDepth 100000 in
theorem e_wsX8_byteOf : q_wsX8_byteOf.map fe = wsX8_byteOf := ce fw_3105 (cn)
def q_wsX9_init_r1 : List Nat := [1195, 1055, 1056, 1196, 1197, 1030, 2221, 1217, 1218, 1031, 2223, 2200, 2201, 1035, 2219, 1199, 1200, 1201, 1165, 1202, 1219, 1220, 1221, 1222]
set_option maxRecDepth 100000 in
theorem e_wsX9_init_r1 : q_wsX9_init_r1.map fe = wsX9_init_r1 := ce fw_1195 (ce fw_1055 (ce fw_1056 (ce fw_1196 (ce fw_1197 (ce fw_1030 (ce fw_2221 (ce fw_1217 (ce fw_1218 (ce fw_1031 (ce fw_2223 (ce fw_2200 (ce fw_2201 (ce fw_1035 (ce fw_2219 (ce fw_1199 (ce fw_1200 (ce fw_1201 (ce fw_1165 (ce fw_1202 (ce fw_1219 (ce fw_1220 (ce fw_1221 (ce fw_1222 (cn))))))))))))))))))))))))
def q_wsX9_init_r2 : List Nat := [1223, 1224, 1032, 2156, 1252, 1253, 1033, 2158, 2108, 2109, 1034, 2160, 2132, 1064, 1027, 1226, 1227, 1228, 1229, 1255, 1256, 1257, 2111, 2112]
set_option maxRecDepth 100000 in
theorem e_wsX9_init_r2 : q_wsX9_init_r2.map fe = wsX9_init_r2 := ce fw_1223 (ce fw_1224 (ce fw_1032 (ce fw_2156 (ce fw_1252 (ce fw_1253 (ce fw_1033 (ce fw_2158 (ce fw_2108 (ce fw_2109 (ce fw_1034 (ce fw_2160 (ce fw_2132 (ce fw_1064 (ce fw_1027 (ce fw_1226 (ce fw_1227 (ce fw_1228 (ce fw_1229 (ce fw_1255 (ce fw_1256 (ce fw_1257 (ce fw_2111 (ce fw_2112 (cn))))))))))))))))))))))))
def q_wsX9_init_r3 : List Nat := [2113, 2114, 2133, 1066, 1067, 1068, 1084, 1069, 1070, 1071, 1072, 1077, 1086, 1091, 1094, 1097, 1100, 1104, 1108, 1112, 1073, 1074, 1075, 1076]
set_option maxRecDepth 100000 in
theorem e_wsX9_init_r3 : q_wsX9_init_r3.map fe = wsX9_init_r3 := ce fw_2113 (ce fw_2114 (ce fw_2133 (ce fw_1066 (ce fw_1067 (ce fw_1068 (ce fw_1084 (ce fw_1069 (ce fw_1070 (ce fw_1071 (ce fw_1072 (ce fw_1077 (ce fw_1086 (ce fw_1091 (ce fw_1094 (ce fw_1097 (ce fw_1100 (ce fw_1104 (ce fw_1108 (ce fw_1112 (ce fw_1073 (ce fw_1074 (ce fw_1075 (ce fw_1076 (cn))))))))))))))))))))))))
