def q_wsX11_from_r10 : List Nat := [3296, 3297, 1114, 1082, 3298, 3300, 15, 3301, 2058, 2060, 2062, 2066, 2067, 2065, 3306, 3106, 1036, 3107, 3302, 3303, 3304, 3305, 1097, 4099]
set_option maxRecDepth 100000 in
theorem e_wsX11_from_r10 : q_wsX11_from_r10.map fe = wsX11_from_r10 := ce fw_3296 (ce fw_3297 (ce fw_1114 (ce fw_1082 (ce fw_3298 (ce fw_3300 (ce fw_15 (ce fw_3301 (ce fw_2058 (ce fw_2060 (ce fw_2062 (ce fw_2066 (ce fw_2067 (ce fw_2065 (ce fw_3306 (ce fw_3106 (ce fw_1036 (ce fw_3107 (ce fw_3302 (ce fw_3303 (ce fw_3304 (ce fw_3305 (ce fw_1097 (ce fw_4099 (cn))))))))))))))))))))))))
def q_wsX11_from_r11 : List Nat := [4100, 4101, 4102, 1260, 1262, 2048, 2051, 1258, 2053, 2111, 2113]
set_option maxRecDepth 100000 in
theorem e_wsX11_from_r11 : q_wsX11_from_r11.map fe = wsX11_from_r11 := ce fw_4100 (ce fw_4101 (ce fw_4102 (ce fw_1260 (ce fw_1262 (ce fw_2048 (ce fw_2051 (ce fw_1258 (ce fw_2053 (ce fw_2111 (ce fw_2113 (cn)))))))))))
def q_wsX11_from : List Nat := 5196 :: (((((((((((q_wsX11_from_r1) ++ ((q_wsX11_from_r2) ++ ((q_wsX11_from_r3) ++ ((q_wsX11_from_r4) ++ ((q_wsX11_from_r5) ++ ((q_wsX11_from_r6) ++ ((q_wsX11_from_r7) ++ ((q_wsX11_from_r8) ++ ((q_wsX11_from_r9) ++ ((q_wsX11_from_r10) ++ (q_wsX11_from_r11))))))))))) ++ (q_wsX110)) ++ (q_wsX100)) ++ (q_wsX90)) ++ (q_wsX20)) ++ (q_wsX40)) ++ (q_wsX50)) ++ (q_wsX10)) ++ (q_wsX70)) ++ (q_wsX00))
set_option maxRecDepth 100000 in
theorem e_wsX11_from : q_wsX11_from.map fe = wsX11_from := ce fw_5196 (ca (ca (ca (ca (ca (ca (ca (ca (ca (ca (e_wsX11_from_r1) (ca (e_wsX11_from_r2) (ca (e_wsX11_from_r3) (ca (e_wsX11_from_r4) (ca (e_wsX11_from_r5) (ca (e_wsX11_from_r6) (ca (e_wsX11_from_r7) (ca (e_wsX11_from_r8) (ca (e_wsX11_from_r9) (ca (e_wsX11_from_r10) (e_wsX11_from_r11))))))))))) (e_wsX110)) (e_wsX100)) (e_wsX90)) (e_wsX20)) (e_wsX40)) (e_wsX50)) (e_wsX10)) (e_wsX70)) (e_wsX00))
def q_wsX11_fits_r1 : List Nat := [2283, 2235, 2214, 2207, 3072, 2218, 2152, 2231, 1232, 5178, 2134, 2135, 1032, 2136, 1078, 1229, 1130, 1116, 1230, 1233, 1235, 1236, 1237, 5160]
set_option maxRecDepth 100000 in
theorem e_wsX11_fits_r1 : q_wsX11_fits_r1.map fe = wsX11_fits_r1 := ce fw_2283 (ce fw_2235 (ce fw_2214 (ce fw_2207 (ce fw_3072 (ce fw_2218 (ce fw_2152 (ce fw_2231 (ce fw_1232 (ce fw_5178 (ce fw_2134 (ce fw_2135 (ce fw_1032 (ce fw_2136 (ce fw_1078 (ce fw_1229 (ce fw_1130 (ce fw_1116 (ce fw_1230 (ce fw_1233 (ce fw_1235 (ce fw_1236 (ce fw_1237 (ce fw_5160 (cn))))))))))))))))))))))))
def q_wsX11_fits_r2 : List Nat := [3173, 3174, 1035, 3175, 2205, 2203, 5179, 3194, 3195, 3196, 1128, 1126, 1087, 3197, 3198, 1039, 3199, 3200, 3201, 3202, 3203, 3204, 3205, 1027]
set_option maxRecDepth 100000 in
theorem e_wsX11_fits_r2 : q_wsX11_fits_r2.map fe = wsX11_fits_r2 := ce fw_3173 (ce fw_3174 (ce fw_1035 (ce fw_3175 (ce fw_2205 (ce fw_2203 (ce fw_5179 (ce fw_3194 (ce fw_3195 (ce fw_3196 (ce fw_1128 (ce fw_1126 (ce fw_1087 (ce fw_3197 (ce fw_3198 (ce fw_1039 (ce fw_3199 (ce fw_3200 (ce fw_3201 (ce fw_3202 (ce fw_3203 (ce fw_3204 (ce fw_3205 (ce fw_1027 (cn))))))))))))))))))))))))
def q_wsX11_fits_r3 : List Nat := [3206, 1086, 5173, 3220, 3221, 3222]
set_option maxRecDepth 100000 in
theorem e_wsX11_fits_r3 : q_wsX11_fits_r3.map fe = wsX11_fits_r3 := ce fw_3206 (ce fw_1086 (ce fw_5173 (ce fw_3220 (ce fw_3221 (ce fw_3222 (cn))))))
def q_wsX11_fits : List Nat := 5177 :: (((((((((q_wsX11_fits_r1) ++ ((q_wsX11_fits_r2) ++ (q_wsX11_fits_r3))) ++ (q_wsX110)) ++ (q_wsX100)) ++ (q_wsX90)) ++ (q_wsX20)) ++ (q_wsX40)) ++ (q_wsX10)) ++ (q_wsX50))
set_option maxRecDepth 100000 in
theorem e_wsX11_fits : q_wsX11_fits.map fe = wsX11_fits := ce fw_5177 (ca (ca (ca (ca (ca (ca (ca (ca (e_wsX11_fits_r1) (ca (e_wsX11_fits_r2) (e_wsX11_fits_r3))) (e_wsX110)) (e_wsX100)) (e_wsX90)) (e_wsX20)) (e_wsX40)) (e_wsX10)) (e_wsX50))
def q_wsJ0_coder_7d493 : List Nat := 4204 :: ([4205, 5243])
set_option maxRecDepth 100000 in
theorem e_wsJ0_coder_7d493 : q_wsJ0_coder_7d493.map fe = wsJ0_coder_7d493 := ce fw_4204 (ce fw_4205 (ce fw_5243 (cn)))
def q_wsJ0_isLatin1_aae02 : List Nat := 4214 :: ([4205, 5243])
set_option maxRecDepth 100000 in
theorem e_wsJ0_isLatin1_aae02 : q_wsJ0_isLatin1_aae02.map fe = wsJ0_isLatin1_aae02 := ce fw_4214 (ce fw_4205 (ce fw_5243 (cn)))
def q_wsJ1_charAt_3b067 : List Nat := 4217 :: ([4218, 4219, 1041, 4220, 4221, 4223, 4224, 1043, 4225])
set_option maxRecDepth 100000 in
theorem e_wsJ1_charAt_3b067 : q_wsJ1_charAt_3b067.map fe = wsJ1_charAt_3b067 := ce fw_4217 (ce fw_4218 (ce fw_4219 (ce fw_1041 (ce fw_4220 (ce fw_4221 (ce fw_4223 (ce fw_4224 (ce fw_1043 (ce fw_4225 (cn))))))))))
def q_wsJ2_charAt_3b067 : List Nat := 4228 :: ([4229, 4230, 1044, 4231, 4232, 4233, 4234, 4235, 4219, 1041, 4220, 4221, 4223, 4224, 1043, 4225, 4236, 4237, 4238, 4239, 4241, 4243])
set_option maxRecDepth 100000 in
theorem e_wsJ2_charAt_3b067 : q_wsJ2_charAt_3b067.map fe = wsJ2_charAt_3b067 := ce fw_4228 (ce fw_4229 (ce fw_4230 (ce fw_1044 (ce fw_4231 (ce fw_4232 (ce fw_4233 (ce fw_4234 (ce fw_4235 (ce fw_4219 (ce fw_1041 (ce fw_4220 (ce fw_4221 (ce fw_4223 (ce fw_4224 (ce fw_1043 (ce fw_4225 (ce fw_4236 (ce fw_4237 (ce fw_4238 (ce fw_4239 (ce fw_4241 (ce fw_4243 (cn)))))))))))))))))))))))
def q_wsJ0_checkIndex_df160 : List Nat := 4220 :: ([4221, 4223, 4224, 1043, 4225])
set_option maxRecDepth 100000 in
theorem e_wsJ0_checkIndex_df160 : q_wsJ0_checkIndex_df160.map fe = wsJ0_checkIndex_df160 := ce fw_4220 (ce fw_4221 (ce fw_4223 (ce fw_4224 (ce fw_1043 (ce fw_4225 (cn))))))
def q_wsJ3_checkIndex_8e157 : List Nat := 4225 :: ([])
set_option maxRecDepth 100000 in
theorem e_wsJ3_checkIndex_8e157 : q_wsJ3_checkIndex_8e157.map fe = wsJ3_checkIndex_8e157 := ce fw_4225 (cn)
def q_wsJ2_getChar_3b067 : List Nat := 4238 :: ([4239, 4241, 4243, 4232, 4233, 1044, 4234])
set_option maxRecDepth 100000 in
theorem e_wsJ2_getChar_3b067 : q_wsJ2_getChar_3b067.map fe = wsJ2_getChar_3b067 := ce fw_4238 (ce fw_4239 (ce fw_4241 (ce fw_4243 (ce fw_4232 (ce fw_4233 (ce fw_1044 (ce fw_4234 (cn))))))))
def q_wsJ2_length_9d52b : List Nat := 4234 :: ([])
set_option maxRecDepth 100000 in
theorem e_wsJ2_length_9d52b : q_wsJ2_length_9d52b.map fe = wsJ2_length_9d52b := ce fw_4234 (cn)
def q_wsJ2_checkIndex_2214a : List Nat := 4231 :: ([4232, 4233, 1044, 4234, 4235, 4219, 1041, 4220, 4221, 4223, 4224, 1043, 4225])
set_option maxRecDepth 100000 in
theorem e_wsJ2_checkIndex_2214a : q_wsJ2_checkIndex_2214a.map fe = wsJ2_checkIndex_2214a := ce fw_4231 (ce fw_4232 (ce fw_4233 (ce fw_1044 (ce fw_4234 (ce fw_4235 (ce fw_4219 (ce fw_1041 (ce fw_4220 (ce fw_4221 (ce fw_4223 (ce fw_4224 (ce fw_1043 (ce fw_4225 (cn))))))))))))))
def q_wsL_put : List Nat := 4128 :: (((([4129, 4130, 4131, 4132, 1025, 4133, 2283, 2233, 4134, 4135, 4136, 1028, 4137, 1173, 1172, 4138, 4139, 4140]) ++ (q_wsX110)) ++ (q_wsX100)) ++ (q_wsX80))
set_option maxRecDepth 100000 in
theorem e_wsL_put : q_wsL_put.map fe = wsL_put := ce fw_4128 (ca (ca (ca (ce fw_4129 (ce fw_4130 (ce fw_4131 (ce fw_4132 (ce fw_1025 (ce fw_4133 (ce fw_2283 (ce fw_2233 (ce fw_4134 (ce fw_4135 (ce fw_4136 (ce fw_1028 (ce fw_4137 (ce fw_1173 (ce fw_1172 (ce fw_4138 (ce fw_4139 (ce fw_4140 (cn))))))))))))))))))) (e_wsX110)) (e_wsX100)) (e_wsX80))
def q_wsL_ends : List Nat := 4154 :: (((([4129, 4130, 4131, 4132, 1025, 4133, 2283, 2233, 4134, 4135, 4136, 1028, 4137, 1173, 1172, 4138, 4139, 4140]) ++ (q_wsX110)) ++ (q_wsX100)) ++ (q_wsX80))
set_option maxRecDepth 100000 in
theorem e_wsL_ends : q_wsL_ends.map fe = wsL_ends := ce fw_4154 (ca (ca (ca (ce fw_4129 (ce fw_4130 (ce fw_4131 (ce fw_4132 (ce fw_1025 (ce fw_4133 (ce fw_2283 (ce fw_2233 (ce fw_4134 (ce fw_4135 (ce fw_4136 (ce fw_1028 (ce fw_4137 (ce fw_1173 (ce fw_1172 (ce fw_4138 (ce fw_4139 (ce fw_4140 (cn))))))))))))))))))) (e_wsX110)) (e_wsX100)) (e_wsX80))
def q_wsL_word : List Nat := 4124 :: (((([4125, 4126, 4127, 1024, 4128, 4129, 4130, 4131, 4132, 1025, 4133, 2283, 2233, 4134, 4135, 4136, 1028, 4137, 1173, 1172, 4138, 4139, 4140]) ++ (q_wsX110)) ++ (q_wsX100)) ++ (q_wsX80))
set_option maxRecDepth 100000 in
theorem e_wsL_word : q_wsL_word.map fe = wsL_word := ce fw_4124 (ca (ca (ca (ce fw_4125 (ce fw_4126 (ce fw_4127 (ce fw_1024 (ce fw_4128 (ce fw_4129 (ce fw_4130 (ce fw_4131 (ce fw_4132 (ce fw_1025 (ce fw_4133 (ce fw_2283 (ce fw_2233 (ce fw_4134 (ce fw_4135 (ce fw_4136 (ce fw_1028 (ce fw_4137 (ce fw_1173 (ce fw_1172 (ce fw_4138 (ce fw_4139 (ce fw_4140 (cn)))))))))))))))))))))))) (e_wsX110)) (e_wsX100)) (e_wsX80))
def q_wsL_more : List Nat := 4143 :: (((([4126, 4127, 1024, 4128, 4129, 4130, 4131, 4132, 1025, 4133, 2283, 2233, 4134, 4135, 4136, 1028, 4137, 1173, 1172, 4138, 4139, 4140]) ++ (q_wsX110)) ++ (q_wsX100)) ++ (q_wsX80))
set_option maxRecDepth 100000 in
theorem e_wsL_more : q_wsL_more.map fe = wsL_more := ce fw_4143 (ca (ca (ca (ce fw_4126 (ce fw_4127 (ce fw_1024 (ce fw_4128 (ce fw_4129 (ce fw_4130 (ce fw_4131 (ce fw_4132 (ce fw_1025 (ce fw_4133 (ce fw_2283 (ce fw_2233 (ce fw_4134 (ce fw_4135 (ce fw_4136 (ce fw_1028 (ce fw_4137 (ce fw_1173 (ce fw_1172 (ce fw_4138 (ce fw_4139 (ce fw_4140 (cn))))))))))))))))))))))) (e_wsX110)) (e_wsX100)) (e_wsX80))
def q_wsL_begins_r1 : List Nat := [4291, 4121, 4144, 4145, 4146, 4147, 4148, 4149, 4150, 4151, 4113, 4114, 4115, 1038, 4116, 4109, 4117, 4122, 4123, 1024, 4124, 4125, 4126, 4127]
set_option maxRecDepth 100000 in
theorem e_wsL_begins_r1 : q_wsL_begins_r1.map fe = wsL_begins_r1 := ce fw_4291 (ce fw_4121 (ce fw_4144 (ce fw_4145 (ce fw_4146 (ce fw_4147 (ce fw_4148 (ce fw_4149 (ce fw_4150 (ce fw_4151 (ce fw_4113 (ce fw_4114 (ce fw_4115 (ce fw_1038 (ce fw_4116 (ce fw_4109 (ce fw_4117 (ce fw_4122 (ce fw_4123 (ce fw_1024 (ce fw_4124 (ce fw_4125 (ce fw_4126 (ce fw_4127 (cn))))))))))))))))))))))))
def q_wsL_begins_r2 : List Nat := [4128, 4129, 4130, 4131, 4132, 1025, 4133, 2283, 2233, 4134, 4135, 4136, 1028, 4137, 1173, 1172, 4138, 4139, 4140, 4141, 4142, 4143, 4152, 4153]
set_option maxRecDepth 100000 in
theorem e_wsL_begins_r2 : q_wsL_begins_r2.map fe = wsL_begins_r2 := ce fw_4128 (ce fw_4129 (ce fw_4130 (ce fw_4131 (ce fw_4132 (ce fw_1025 (ce fw_4133 (ce fw_2283 (ce fw_2233 (ce fw_4134 (ce fw_4135 (ce fw_4136 (ce fw_1028 (ce fw_4137 (ce fw_1173 (ce fw_1172 (ce fw_4138 (ce fw_4139 (ce fw_4140 (ce fw_4141 (ce fw_4142 (ce fw_4143 (ce fw_4152 (ce fw_4153 (cn))))))))))))))))))))))))
def q_wsL_begins_r3 : List Nat := [4154, 4155, 4156, 4157, 4158, 3073, 1174, 2261, 1176, 2263, 1179, 2231, 2258, 2235, 2287, 1118, 4159, 4160, 4161, 1037, 4162, 2259, 2257, 2260]
set_option maxRecDepth 100000 in
theorem e_wsL_begins_r3 : q_wsL_begins_r3.map fe = wsL_begins_r3 := ce fw_4154 (ce fw_4155 (ce fw_4156 (ce fw_4157 (ce fw_4158 (ce fw_3073 (ce fw_1174 (ce fw_2261 (ce fw_1176 (ce fw_2263 (ce fw_1179 (ce fw_2231 (ce fw_2258 (ce fw_2235 (ce fw_2287 (ce fw_1118 (ce fw_4159 (ce fw_4160 (ce fw_4161 (ce fw_1037 (ce fw_4162 (ce fw_2259 (ce fw_2257 (ce fw_2260 (cn))))))))))))))))))))))))
def q_wsL_begins_r4 : List Nat := [2262, 2266, 2264, 4163, 4164, 4165, 4166, 4167, 3106, 1036, 3107, 4168, 2201, 2202, 4169, 3110, 3109, 1040, 1177, 1178, 4170, 1070, 1071, 1027]
set_option maxRecDepth 100000 in
theorem e_wsL_begins_r4 : q_wsL_begins_r4.map fe = wsL_begins_r4 := ce fw_2262 (ce fw_2266 (ce fw_2264 (ce fw_4163 (ce fw_4164 (ce fw_4165 (ce fw_4166 (ce fw_4167 (ce fw_3106 (ce fw_1036 (ce fw_3107 (ce fw_4168 (ce fw_2201 (ce fw_2202 (ce fw_4169 (ce fw_3110 (ce fw_3109 (ce fw_1040 (ce fw_1177 (ce fw_1178 (ce fw_4170 (ce fw_1070 (ce fw_1071 (ce fw_1027 (cn))))))))))))))))))))))))
def q_wsL_begins_r5 : List Nat := [1072, 1077, 1084, 1086, 1091, 1094, 1097, 1100, 1104, 1108, 1112, 1073, 1074, 1075, 1076, 1117, 1120, 1122, 1127, 1129, 1131, 4171, 4173, 16]
set_option maxRecDepth 100000 in
theorem e_wsL_begins_r5 : q_wsL_begins_r5.map fe = wsL_begins_r5 := ce fw_1072 (ce fw_1077 (ce fw_1084 (ce fw_1086 (ce fw_1091 (ce fw_1094 (ce fw_1097 (ce fw_1100 (ce fw_1104 (ce fw_1108 (ce fw_1112 (ce fw_1073 (ce fw_1074 (ce fw_1075 (ce fw_1076 (ce fw_1117 (ce fw_1120 (ce fw_1122 (ce fw_1127 (ce fw_1129 (ce fw_1131 (ce fw_4171 (ce fw_4173 (ce fw_16 (cn))))))))))))))))))))))))
def q_wsL_begins_r6 : List Nat := [4174, 2265, 1175, 4175, 4176, 4177, 4178, 4179, 4180, 4181, 4182, 4183, 4184, 4185, 4186, 4187, 4188, 4190, 17, 4191, 1105, 1109, 4193, 4195]
set_option maxRecDepth 100000 in
theorem e_wsL_begins_r6 : q_wsL_begins_r6.map fe = wsL_begins_r6 := ce fw_4174 (ce fw_2265 (ce fw_1175 (ce fw_4175 (ce fw_4176 (ce fw_4177 (ce fw_4178 (ce fw_4179 (ce fw_4180 (ce fw_4181 (ce fw_4182 (ce fw_4183 (ce fw_4184 (ce fw_4185 (ce fw_4186 (ce fw_4187 (ce fw_4188 (ce fw_4190 (ce fw_17 (ce fw_4191 (ce fw_1105 (ce fw_1109 (ce fw_4193 (ce fw_4195 (cn))))))))))))))))))))))))
def q_wsL_begins_r7 : List Nat := [18, 4196, 4197, 4198, 4199, 1041, 4200, 5242, 4201, 4202, 4203, 4204, 4205, 5243, 4207, 4208, 4209, 4210, 4211, 4212, 4213, 4214, 4215, 4216]
set_option maxRecDepth 100000 in
theorem e_wsL_begins_r7 : q_wsL_begins_r7.map fe = wsL_begins_r7 := ce fw_18 (ce fw_4196 (ce fw_4197 (ce fw_4198 (ce fw_4199 (ce fw_1041 (ce fw_4200 (ce fw_5242 (ce fw_4201 (ce fw_4202 (ce fw_4203 (ce fw_4204 (ce fw_4205 (ce fw_5243 (ce fw_4207 (ce fw_4208 (ce fw_4209 (ce fw_4210 (ce fw_4211 (ce fw_4212 (ce fw_4213 (ce fw_4214 (ce fw_4215 (ce fw_4216 (cn))))))))))))))))))))))))
def q_wsL_begins_r8 : List Nat := [1042, 4217, 4218, 4219, 4220, 4221, 4223, 4224, 1043, 4225, 4226, 4227, 1044, 4228, 4229, 4230, 4231, 4232, 4233, 4234, 4235, 4236, 4237, 4238]
set_option maxRecDepth 100000 in
theorem e_wsL_begins_r8 : q_wsL_begins_r8.map fe = wsL_begins_r8 := ce fw_1042 (ce fw_4217 (ce fw_4218 (ce fw_4219 (ce fw_4220 (ce fw_4221 (ce fw_4223 (ce fw_4224 (ce fw_1043 (ce fw_4225 (ce fw_4226 (ce fw_4227 (ce fw_1044 (ce fw_4228 (ce fw_4229 (ce fw_4230 (ce fw_4231 (ce fw_4232 (ce fw_4233 (ce fw_4234 (ce fw_4235 (ce fw_4236 (ce fw_4237 (ce fw_4238 (cn))))))))))))))))))))))))
def q_wsL_begins_r9 : List Nat := [4239, 4241, 4243, 4245, 4247, 19, 4248, 1085, 1089, 4249, 4251, 20, 4252, 4253, 4254, 4255, 4256, 4258, 21, 4259, 4261, 4263, 22, 4264]
set_option maxRecDepth 100000 in
theorem e_wsL_begins_r9 : q_wsL_begins_r9.map fe = wsL_begins_r9 := ce fw_4239 (ce fw_4241 (ce fw_4243 (ce fw_4245 (ce fw_4247 (ce fw_19 (ce fw_4248 (ce fw_1085 (ce fw_1089 (ce fw_4249 (ce fw_4251 (ce fw_20 (ce fw_4252 (ce fw_4253 (ce fw_4254 (ce fw_4255 (ce fw_4256 (ce fw_4258 (ce fw_21 (ce fw_4259 (ce fw_4261 (ce fw_4263 (ce fw_22 (ce fw_4264 (cn))))))))))))))))))))))))
def q_wsL_begins_r10 : List Nat := [4265, 4267, 23, 4268, 1079, 1092, 1095, 1098, 1102, 1113, 4276, 4277, 4278, 4279, 4280, 4281, 4282, 4283, 4284, 1029, 4285, 2213, 2204, 2219]
set_option maxRecDepth 100000 in
theorem e_wsL_begins_r10 : q_wsL_begins_r10.map fe = wsL_begins_r10 := ce fw_4265 (ce fw_4267 (ce fw_23 (ce fw_4268 (ce fw_1079 (ce fw_1092 (ce fw_1095 (ce fw_1098 (ce fw_1102 (ce fw_1113 (ce fw_4276 (ce fw_4277 (ce fw_4278 (ce fw_4279 (ce fw_4280 (ce fw_4281 (ce fw_4282 (ce fw_4283 (ce fw_4284 (ce fw_1029 (ce fw_4285 (ce fw_2213 (ce fw_2204 (ce fw_2219 (cn))))))))))))))))))))))))
def q_wsL_begins_r11 : List Nat := [2215, 1206, 2217, 4286, 2130, 2131, 1031, 2132, 2149, 2151, 2153, 2155, 2157, 2158, 2159, 2161, 2162, 2163, 2164, 2165, 2166, 2133, 2134, 2135]
set_option maxRecDepth 100000 in
theorem e_wsL_begins_r11 : q_wsL_begins_r11.map fe = wsL_begins_r11 := ce fw_2215 (ce fw_1206 (ce fw_2217 (ce fw_4286 (ce fw_2130 (ce fw_2131 (ce fw_1031 (ce fw_2132 (ce fw_2149 (ce fw_2151 (ce fw_2153 (ce fw_2155 (ce fw_2157 (ce fw_2158 (ce fw_2159 (ce fw_2161 (ce fw_2162 (ce fw_2163 (ce fw_2164 (ce fw_2165 (ce fw_2166 (ce fw_2133 (ce fw_2134 (ce fw_2135 (cn))))))))))))))))))))))))
def q_wsL_begins_r12 : List Nat := [1032, 2136, 1078, 1229, 1130, 1116, 1230, 1233, 1235, 1236, 1237, 2137, 2138, 2139, 1033, 2140, 1257, 1259, 1261, 1263, 2050, 2052, 2064, 2141]
set_option maxRecDepth 100000 in
theorem e_wsL_begins_r12 : q_wsL_begins_r12.map fe = wsL_begins_r12 := ce fw_1032 (ce fw_2136 (ce fw_1078 (ce fw_1229 (ce fw_1130 (ce fw_1116 (ce fw_1230 (ce fw_1233 (ce fw_1235 (ce fw_1236 (ce fw_1237 (ce fw_2137 (ce fw_2138 (ce fw_2139 (ce fw_1033 (ce fw_2140 (ce fw_1257 (ce fw_1259 (ce fw_1261 (ce fw_1263 (ce fw_2050 (ce fw_2052 (ce fw_2064 (ce fw_2141 (cn))))))))))))))))))))))))
def q_wsL_begins_r13 : List Nat := [2142, 2143, 1034, 2144, 2110, 2112, 2145, 2146, 2147, 2148, 2114, 2115, 4287, 4288, 4289, 4290, 3307, 3308, 3309, 3310, 1083, 1090, 1093, 1096]
set_option maxRecDepth 100000 in
theorem e_wsL_begins_r13 : q_wsL_begins_r13.map fe = wsL_begins_r13 := ce fw_2142 (ce fw_2143 (ce fw_1034 (ce fw_2144 (ce fw_2110 (ce fw_2112 (ce fw_2145 (ce fw_2146 (ce fw_2147 (ce fw_2148 (ce fw_2114 (ce fw_2115 (ce fw_4287 (ce fw_4288 (ce fw_4289 (ce fw_4290 (ce fw_3307 (ce fw_3308 (ce fw_3309 (ce fw_3310 (ce fw_1083 (ce fw_1090 (ce fw_1093 (ce fw_1096 (cn))))))))))))))))))))))))
def q_wsL_begins_r14 : List Nat := [1099, 1103, 1107, 1111, 1115, 1121, 1125, 2214, 2207, 2220, 2216, 1204, 3311, 4096, 4097, 4098, 2218, 4099, 4100, 4101, 4102, 1231, 1081, 1260]
set_option maxRecDepth 100000 in
theorem e_wsL_begins_r14 : q_wsL_begins_r14.map fe = wsL_begins_r14 := ce fw_1099 (ce fw_1103 (ce fw_1107 (ce fw_1111 (ce fw_1115 (ce fw_1121 (ce fw_1125 (ce fw_2214 (ce fw_2207 (ce fw_2220 (ce fw_2216 (ce fw_1204 (ce fw_3311 (ce fw_4096 (ce fw_4097 (ce fw_4098 (ce fw_2218 (ce fw_4099 (ce fw_4100 (ce fw_4101 (ce fw_4102 (ce fw_1231 (ce fw_1081 (ce fw_1260 (cn))))))))))))))))))))))))
def q_wsL_begins_r15 : List Nat := [1262, 2048, 2051, 1258, 2053, 2111, 2113, 3276, 3198, 1039, 3199, 3200, 3201, 3202]
set_option maxRecDepth 100000 in
theorem e_wsL_begins_r15 : q_wsL_begins_r15.map fe = wsL_begins_r15 := ce fw_1262 (ce fw_2048 (ce fw_2051 (ce fw_1258 (ce fw_2053 (ce fw_2111 (ce fw_2113 (ce fw_3276 (ce fw_3198 (ce fw_1039 (ce fw_3199 (ce fw_3200 (ce fw_3201 (ce fw_3202 (cn))))))))))))))
def q_wsX120 : List Nat := [4110]
theorem e_wsX120 : q_wsX120.map fe = wsX120 := by decide +kernel
def q_wsL_begins : List Nat := 4120 :: (((((((((((((((q_wsL_begins_r1) ++ ((q_wsL_begins_r2) ++ ((q_wsL_begins_r3) ++ ((q_wsL_begins_r4) ++ ((q_wsL_begins_r5) ++ ((q_wsL_begins_r6) ++ ((q_wsL_begins_r7) ++ ((q_wsL_begins_r8) ++ ((q_wsL_begins_r9) ++ ((q_wsL_begins_r10) ++ ((q_wsL_begins_r11) ++ ((q_wsL_begins_r12) ++ ((q_wsL_begins_r13) ++ ((q_wsL_begins_r14) ++ (q_wsL_begins_r15))))))))))))))) ++ (q_wsX120)) ++ (q_wsX110)) ++ (q_wsX100)) ++ (q_wsX80)) ++ (q_wsX30)) ++ (q_wsX50)) ++ (q_wsX90)) ++ (q_wsX20)) ++ (q_wsX60)) ++ (q_wsX40)) ++ (q_wsX10)) ++ (q_wsX70)) ++ (q_wsX00))
set_option maxRecDepth 100000 in
theorem e_wsL_begins : q_wsL_begins.map fe = wsL_begins := ce fw_4120 (ca (ca (ca (ca (ca (ca (ca (ca (ca (ca (ca (ca (ca (ca (e_wsL_begins_r1) (ca (e_wsL_begins_r2) (ca (e_wsL_begins_r3) (ca (e_wsL_begins_r4) (ca (e_wsL_begins_r5) (ca (e_wsL_begins_r6) (ca (e_wsL_begins_r7) (ca (e_wsL_begins_r8) (ca (e_wsL_begins_r9) (ca (e_wsL_begins_r10) (ca (e_wsL_begins_r11) (ca (e_wsL_begins_r12) (ca (e_wsL_begins_r13) (ca (e_wsL_begins_r14) (e_wsL_begins_r15))))))))))))))) (e_wsX120)) (e_wsX110)) (e_wsX100)) (e_wsX80)) (e_wsX30)) (e_wsX50)) (e_wsX90)) (e_wsX20)) (e_wsX60)) (e_wsX40)) (e_wsX10)) (e_wsX70)) (e_wsX00))
def q_wsX12_next : List Nat := 4116 :: (([4109, 4117]) ++ (q_wsX120))
set_option maxRecDepth 100000 in
theorem e_wsX12_next : q_wsX12_next.map fe = wsX12_next := ce fw_4116 (ca (ce fw_4109 (ce fw_4117 (cn))) (e_wsX120))
def q_wsX11_fault : List Nat := 4290 :: (((([2283, 2233, 1179, 1176]) ++ (q_wsX110)) ++ (q_wsX100)) ++ (q_wsX80))
set_option maxRecDepth 100000 in
theorem e_wsX11_fault : q_wsX11_fault.map fe = wsX11_fault := ce fw_4290 (ca (ca (ca (ce fw_2283 (ce fw_2233 (ce fw_1179 (ce fw_1176 (cn))))) (e_wsX110)) (e_wsX100)) (e_wsX80))
def q_wsX11_count : List Nat := 3310 :: (((((((([2283, 2231, 1083, 1090, 1093, 1096, 1099, 1103, 1107, 1111, 1115, 1121, 1125, 2235, 2214, 2207, 2220, 2287, 2233, 1174, 2216, 1204]) ++ (q_wsX110)) ++ (q_wsX100)) ++ (q_wsX50)) ++ (q_wsX90)) ++ (q_wsX20)) ++ (q_wsX80)) ++ (q_wsX60))
set_option maxRecDepth 100000 in
theorem e_wsX11_count : q_wsX11_count.map fe = wsX11_count := ce fw_3310 (ca (ca (ca (ca (ca (ca (ca (ce fw_2283 (ce fw_2231 (ce fw_1083 (ce fw_1090 (ce fw_1093 (ce fw_1096 (ce fw_1099 (ce fw_1103 (ce fw_1107 (ce fw_1111 (ce fw_1115 (ce fw_1121 (ce fw_1125 (ce fw_2235 (ce fw_2214 (ce fw_2207 (ce fw_2220 (ce fw_2287 (ce fw_2233 (ce fw_1174 (ce fw_2216 (ce fw_1204 (cn))))))))))))))))))))))) (e_wsX110)) (e_wsX100)) (e_wsX50)) (e_wsX90)) (e_wsX20)) (e_wsX80)) (e_wsX60))
def q_wsL_role : List Nat := 4294 :: ((((([4295, 4296, 4297, 4298, 1025, 4299, 4301, 1048, 2283, 2231, 4300, 3151, 3152, 1027, 3153, 1086, 1084]) ++ (q_wsX110)) ++ (q_wsX100)) ++ (q_wsX50)) ++ ([]))
set_option maxRecDepth 100000 in
theorem e_wsL_role : q_wsL_role.map fe = wsL_role := ce fw_4294 (ca (ca (ca (ca (ce fw_4295 (ce fw_4296 (ce fw_4297 (ce fw_4298 (ce fw_1025 (ce fw_4299 (ce fw_4301 (ce fw_1048 (ce fw_2283 (ce fw_2231 (ce fw_4300 (ce fw_3151 (ce fw_3152 (ce fw_1027 (ce fw_3153 (ce fw_1086 (ce fw_1084 (cn)))))))))))))))))) (e_wsX110)) (e_wsX100)) (e_wsX50)) (cn))
def q_wsL_fixed_r1 : List Nat := [3307, 3308, 3309, 1025, 3310, 2283, 2231, 1083, 1090, 1093, 1096, 1099, 1103, 1107, 1111, 1115, 1121, 1125, 2235, 2214, 2207, 2220, 2287, 2233]
set_option maxRecDepth 100000 in
theorem e_wsL_fixed_r1 : q_wsL_fixed_r1.map fe = wsL_fixed_r1 := ce fw_3307 (ce fw_3308 (ce fw_3309 (ce fw_1025 (ce fw_3310 (ce fw_2283 (ce fw_2231 (ce fw_1083 (ce fw_1090 (ce fw_1093 (ce fw_1096 (ce fw_1099 (ce fw_1103 (ce fw_1107 (ce fw_1111 (ce fw_1115 (ce fw_1121 (ce fw_1125 (ce fw_2235 (ce fw_2214 (ce fw_2207 (ce fw_2220 (ce fw_2287 (ce fw_2233 (cn))))))))))))))))))))))))
def q_wsL_fixed_r2 : List Nat := [1174, 2216, 1204, 4292, 4293, 1024, 4294, 4295, 4296, 4297, 4298, 4299, 4301, 1048, 4300, 3151, 3152, 1027, 3153, 1086, 1084]
set_option maxRecDepth 100000 in
theorem e_wsL_fixed_r2 : q_wsL_fixed_r2.map fe = wsL_fixed_r2 := ce fw_1174 (ce fw_2216 (ce fw_1204 (ce fw_4292 (ce fw_4293 (ce fw_1024 (ce fw_4294 (ce fw_4295 (ce fw_4296 (ce fw_4297 (ce fw_4298 (ce fw_4299 (ce fw_4301 (ce fw_1048 (ce fw_4300 (ce fw_3151 (ce fw_3152 (ce fw_1027 (ce fw_3153 (ce fw_1086 (ce fw_1084 (cn)))))))))))))))))))))
def q_wsL_fixed : List Nat := 5155 :: ((((((((((q_wsL_fixed_r1) ++ (q_wsL_fixed_r2)) ++ (q_wsX110)) ++ (q_wsX100)) ++ (q_wsX50)) ++ (q_wsX90)) ++ (q_wsX20)) ++ (q_wsX80)) ++ (q_wsX60)) ++ ([]))
set_option maxRecDepth 100000 in
theorem e_wsL_fixed : q_wsL_fixed.map fe = wsL_fixed := ce fw_5155 (ca (ca (ca (ca (ca (ca (ca (ca (ca (e_wsL_fixed_r1) (e_wsL_fixed_r2)) (e_wsX110)) (e_wsX100)) (e_wsX50)) (e_wsX90)) (e_wsX20)) (e_wsX80)) (e_wsX60)) (cn))
def q_wsL_isSent_r1 : List Nat := [3307, 3308, 3309, 1025, 3310, 2283, 2231, 1083, 1090, 1093, 1096, 1099, 1103, 1107, 1111, 1115, 1121, 1125, 2235, 2214, 2207, 2220, 2287, 2233]
set_option maxRecDepth 100000 in
theorem e_wsL_isSent_r1 : q_wsL_isSent_r1.map fe = wsL_isSent_r1 := ce fw_3307 (ce fw_3308 (ce fw_3309 (ce fw_1025 (ce fw_3310 (ce fw_2283 (ce fw_2231 (ce fw_1083 (ce fw_1090 (ce fw_1093 (ce fw_1096 (ce fw_1099 (ce fw_1103 (ce fw_1107 (ce fw_1111 (ce fw_1115 (ce fw_1121 (ce fw_1125 (ce fw_2235 (ce fw_2214 (ce fw_2207 (ce fw_2220 (ce fw_2287 (ce fw_2233 (cn))))))))))))))))))))))))
def q_wsL_isSent_r2 : List Nat := [1174, 2216, 1204, 5153, 5154, 1024, 5155, 4292, 4293, 4294, 4295, 4296, 4297, 4298, 4299, 4301, 1048, 4300, 3151, 3152, 1027, 3153, 1086, 1084]
set_option maxRecDepth 100000 in
theorem e_wsL_isSent_r2 : q_wsL_isSent_r2.map fe = wsL_isSent_r2 := ce fw_1174 (ce fw_2216 (ce fw_1204 (ce fw_5153 (ce fw_5154 (ce fw_1024 (ce fw_5155 (ce fw_4292 (ce fw_4293 (ce fw_4294 (ce fw_4295 (ce fw_4296 (ce fw_4297 (ce fw_4298 (ce fw_4299 (ce fw_4301 (ce fw_1048 (ce fw_4300 (ce fw_3151 (ce fw_3152 (ce fw_1027 (ce fw_3153 (ce fw_1086 (ce fw_1084 (cn))))))))))))))))))))))))
def q_wsL_isSent_r3 : List Nat := [5156, 5157, 5158, 5159, 5160, 3173, 3174, 1035, 3175, 2205, 2203, 5161, 5162, 5163, 5164, 1118, 5165, 3168, 3169, 3170, 1122, 1091, 1077, 3171]
set_option maxRecDepth 100000 in
theorem e_wsL_isSent_r3 : q_wsL_isSent_r3.map fe = wsL_isSent_r3 := ce fw_5156 (ce fw_5157 (ce fw_5158 (ce fw_5159 (ce fw_5160 (ce fw_3173 (ce fw_3174 (ce fw_1035 (ce fw_3175 (ce fw_2205 (ce fw_2203 (ce fw_5161 (ce fw_5162 (ce fw_5163 (ce fw_5164 (ce fw_1118 (ce fw_5165 (ce fw_3168 (ce fw_3169 (ce fw_3170 (ce fw_1122 (ce fw_1091 (ce fw_1077 (ce fw_3171 (cn))))))))))))))))))))))))
def q_wsL_isSent_r4 : List Nat := [3172]
set_option maxRecDepth 100000 in
theorem e_wsL_isSent_r4 : q_wsL_isSent_r4.map fe = wsL_isSent_r4 := ce fw_3172 (cn)
def q_wsL_isSent : List Nat := 5152 :: ((((((((((q_wsL_isSent_r1) ++ ((q_wsL_isSent_r2) ++ ((q_wsL_isSent_r3) ++ (q_wsL_isSent_r4)))) ++ (q_wsX110)) ++ (q_wsX100)) ++ (q_wsX50)) ++ (q_wsX90)) ++ (q_wsX20)) ++ (q_wsX80)) ++ (q_wsX60)) ++ ([]))
set_option maxRecDepth 100000 in
theorem e_wsL_isSent : q_wsL_isSent.map fe = wsL_isSent := ce fw_5152 (ca (ca (ca (ca (ca (ca (ca (ca (ca (e_wsL_isSent_r1) (ca (e_wsL_isSent_r2) (ca (e_wsL_isSent_r3) (e_wsL_isSent_r4)))) (e_wsX110)) (e_wsX100)) (e_wsX50)) (e_wsX90)) (e_wsX20)) (e_wsX80)) (e_wsX60)) (cn))
def q_wsL_isTrue_r1 : List Nat := [3307, 3308, 3309, 1025, 3310, 2283, 2231, 1083, 1090, 1093, 1096, 1099, 1103, 1107, 1111, 1115, 1121, 1125, 2235, 2214, 2207, 2220, 2287, 2233]
set_option maxRecDepth 100000 in
theorem e_wsL_isTrue_r1 : q_wsL_isTrue_r1.map fe = wsL_isTrue_r1 := ce fw_3307 (ce fw_3308 (ce fw_3309 (ce fw_1025 (ce fw_3310 (ce fw_2283 (ce fw_2231 (ce fw_1083 (ce fw_1090 (ce fw_1093 (ce fw_1096 (ce fw_1099 (ce fw_1103 (ce fw_1107 (ce fw_1111 (ce fw_1115 (ce fw_1121 (ce fw_1125 (ce fw_2235 (ce fw_2214 (ce fw_2207 (ce fw_2220 (ce fw_2287 (ce fw_2233 (cn))))))))))))))))))))))))
def q_wsL_isTrue_r2 : List Nat := [1174, 2216, 1204, 3311, 4096, 4097, 4098, 2218, 4099, 4100, 4101, 1031, 4102, 2149, 2151, 1231, 2157, 2158, 2159, 2161, 2162, 1081, 2163, 2164]
set_option maxRecDepth 100000 in
theorem e_wsL_isTrue_r2 : q_wsL_isTrue_r2.map fe = wsL_isTrue_r2 := ce fw_1174 (ce fw_2216 (ce fw_1204 (ce fw_3311 (ce fw_4096 (ce fw_4097 (ce fw_4098 (ce fw_2218 (ce fw_4099 (ce fw_4100 (ce fw_4101 (ce fw_1031 (ce fw_4102 (ce fw_2149 (ce fw_2151 (ce fw_1231 (ce fw_2157 (ce fw_2158 (ce fw_2159 (ce fw_2161 (ce fw_2162 (ce fw_1081 (ce fw_2163 (ce fw_2164 (cn))))))))))))))))))))))))
def q_wsL_isTrue_r3 : List Nat := [2165, 2166, 2153, 1260, 1262, 2048, 2051, 1258, 2053, 2155, 2111, 2113, 3276, 3198, 1039, 3199, 3200, 3201, 3202, 5169, 5170, 5171, 5172, 2150]
set_option maxRecDepth 100000 in
theorem e_wsL_isTrue_r3 : q_wsL_isTrue_r3.map fe = wsL_isTrue_r3 := ce fw_2165 (ce fw_2166 (ce fw_2153 (ce fw_1260 (ce fw_1262 (ce fw_2048 (ce fw_2051 (ce fw_1258 (ce fw_2053 (ce fw_2155 (ce fw_2111 (ce fw_2113 (ce fw_3276 (ce fw_3198 (ce fw_1039 (ce fw_3199 (ce fw_3200 (ce fw_3201 (ce fw_3202 (ce fw_5169 (ce fw_5170 (ce fw_5171 (ce fw_5172 (ce fw_2150 (cn))))))))))))))))))))))))
def q_wsL_isTrue_r4 : List Nat := [2152, 5173, 3220, 3221, 1032, 3222, 1230, 1087, 1078, 1229, 5174, 5175, 5176, 5177, 3072, 1232, 5178, 2134, 2135, 2136, 1130, 1116, 1233, 1235]
set_option maxRecDepth 100000 in
theorem e_wsL_isTrue_r4 : q_wsL_isTrue_r4.map fe = wsL_isTrue_r4 := ce fw_2152 (ce fw_5173 (ce fw_3220 (ce fw_3221 (ce fw_1032 (ce fw_3222 (ce fw_1230 (ce fw_1087 (ce fw_1078 (ce fw_1229 (ce fw_5174 (ce fw_5175 (ce fw_5176 (ce fw_5177 (ce fw_3072 (ce fw_1232 (ce fw_5178 (ce fw_2134 (ce fw_2135 (ce fw_2136 (ce fw_1130 (ce fw_1116 (ce fw_1233 (ce fw_1235 (cn))))))))))))))))))))))))
def q_wsL_isTrue_r5 : List Nat := [1236, 1237, 5160, 3173, 3174, 1035, 3175, 2205, 2203, 5179, 3194, 3195, 3196, 1128, 1126, 3197, 3203, 3204, 3205, 1027, 3206, 1086, 4113, 4114]
set_option maxRecDepth 100000 in
theorem e_wsL_isTrue_r5 : q_wsL_isTrue_r5.map fe = wsL_isTrue_r5 := ce fw_1236 (ce fw_1237 (ce fw_5160 (ce fw_3173 (ce fw_3174 (ce fw_1035 (ce fw_3175 (ce fw_2205 (ce fw_2203 (ce fw_5179 (ce fw_3194 (ce fw_3195 (ce fw_3196 (ce fw_1128 (ce fw_1126 (ce fw_3197 (ce fw_3203 (ce fw_3204 (ce fw_3205 (ce fw_1027 (ce fw_3206 (ce fw_1086 (ce fw_4113 (ce fw_4114 (cn))))))))))))))))))))))))
def q_wsL_isTrue_r6 : List Nat := [4115, 1038, 4116, 4109, 4117, 5180, 5181, 5182, 5183, 2160, 5184, 2130, 2131, 2132, 2133, 2137, 2138, 2139, 1033, 2140, 1257, 1259, 1261, 1263]
set_option maxRecDepth 100000 in
theorem e_wsL_isTrue_r6 : q_wsL_isTrue_r6.map fe = wsL_isTrue_r6 := ce fw_4115 (ce fw_1038 (ce fw_4116 (ce fw_4109 (ce fw_4117 (ce fw_5180 (ce fw_5181 (ce fw_5182 (ce fw_5183 (ce fw_2160 (ce fw_5184 (ce fw_2130 (ce fw_2131 (ce fw_2132 (ce fw_2133 (ce fw_2137 (ce fw_2138 (ce fw_2139 (ce fw_1033 (ce fw_2140 (ce fw_1257 (ce fw_1259 (ce fw_1261 (ce fw_1263 (cn))))))))))))))))))))))))
def q_wsL_isTrue_r7 : List Nat := [2050, 2052, 2064, 2141, 2142, 2143, 1034, 2144, 2110, 2112, 2145, 2146, 2147, 2148, 2114, 2115, 5185, 3185, 3186, 3187, 3188, 3189, 3191, 4]
set_option maxRecDepth 100000 in
theorem e_wsL_isTrue_r7 : q_wsL_isTrue_r7.map fe = wsL_isTrue_r7 := ce fw_2050 (ce fw_2052 (ce fw_2064 (ce fw_2141 (ce fw_2142 (ce fw_2143 (ce fw_1034 (ce fw_2144 (ce fw_2110 (ce fw_2112 (ce fw_2145 (ce fw_2146 (ce fw_2147 (ce fw_2148 (ce fw_2114 (ce fw_2115 (ce fw_5185 (ce fw_3185 (ce fw_3186 (ce fw_3187 (ce fw_3188 (ce fw_3189 (ce fw_3191 (ce fw_4 (cn))))))))))))))))))))))))
def q_wsL_isTrue_r8 : List Nat := [3192, 1101, 3193, 3207, 3209, 5, 3210, 3211, 3212, 3213, 3214, 3215, 3216, 3217, 3218, 3219, 3223, 3224, 3225, 3226, 1127, 1129, 3227, 3228]
set_option maxRecDepth 100000 in
theorem e_wsL_isTrue_r8 : q_wsL_isTrue_r8.map fe = wsL_isTrue_r8 := ce fw_3192 (ce fw_1101 (ce fw_3193 (ce fw_3207 (ce fw_3209 (ce fw_5 (ce fw_3210 (ce fw_3211 (ce fw_3212 (ce fw_3213 (ce fw_3214 (ce fw_3215 (ce fw_3216 (ce fw_3217 (ce fw_3218 (ce fw_3219 (ce fw_3223 (ce fw_3224 (ce fw_3225 (ce fw_3226 (ce fw_1127 (ce fw_1129 (ce fw_3227 (ce fw_3228 (cn))))))))))))))))))))))))
def q_wsL_isTrue_r9 : List Nat := [3229, 3230, 1077, 3231, 3232, 3234, 6, 3235, 1119, 1234, 1124, 3236, 3237, 3239, 7, 3240, 3241, 3242, 3244, 8, 3245, 3246, 3247, 3248]
set_option maxRecDepth 100000 in
theorem e_wsL_isTrue_r9 : q_wsL_isTrue_r9.map fe = wsL_isTrue_r9 := ce fw_3229 (ce fw_3230 (ce fw_1077 (ce fw_3231 (ce fw_3232 (ce fw_3234 (ce fw_6 (ce fw_3235 (ce fw_1119 (ce fw_1234 (ce fw_1124 (ce fw_3236 (ce fw_3237 (ce fw_3239 (ce fw_7 (ce fw_3240 (ce fw_3241 (ce fw_3242 (ce fw_3244 (ce fw_8 (ce fw_3245 (ce fw_3246 (ce fw_3247 (ce fw_3248 (cn))))))))))))))))))))))))
def q_wsL_isTrue_r10 : List Nat := [3249, 3250, 3252, 9, 3253, 3254, 3255, 3257, 10, 3258, 3259, 3260, 3261, 3262, 1117, 3171, 3151, 3152, 3153, 1084, 3172, 3263, 3168, 3169]
set_option maxRecDepth 100000 in
theorem e_wsL_isTrue_r10 : q_wsL_isTrue_r10.map fe = wsL_isTrue_r10 := ce fw_3249 (ce fw_3250 (ce fw_3252 (ce fw_9 (ce fw_3253 (ce fw_3254 (ce fw_3255 (ce fw_3257 (ce fw_10 (ce fw_3258 (ce fw_3259 (ce fw_3260 (ce fw_3261 (ce fw_3262 (ce fw_1117 (ce fw_3171 (ce fw_3151 (ce fw_3152 (ce fw_3153 (ce fw_1084 (ce fw_3172 (ce fw_3263 (ce fw_3168 (ce fw_3169 (cn))))))))))))))))))))))))
def q_wsL_isTrue_r11 : List Nat := [3170, 1122, 1091, 3264, 3266, 11, 3267, 3268, 3270, 12, 3271, 1110, 1106, 3272, 3273, 3274, 3275, 3277, 3278, 3279, 3280, 3281, 3282, 3284]
set_option maxRecDepth 100000 in
theorem e_wsL_isTrue_r11 : q_wsL_isTrue_r11.map fe = wsL_isTrue_r11 := ce fw_3170 (ce fw_1122 (ce fw_1091 (ce fw_3264 (ce fw_3266 (ce fw_11 (ce fw_3267 (ce fw_3268 (ce fw_3270 (ce fw_12 (ce fw_3271 (ce fw_1110 (ce fw_1106 (ce fw_3272 (ce fw_3273 (ce fw_3274 (ce fw_3275 (ce fw_3277 (ce fw_3278 (ce fw_3279 (ce fw_3280 (ce fw_3281 (ce fw_3282 (ce fw_3284 (cn))))))))))))))))))))))))
def q_wsL_isTrue_r12 : List Nat := [13, 3285, 2109, 3286, 3287, 3288, 3289, 2054, 2055, 2056, 2057, 3290, 3292, 14, 3293, 3294, 3295, 3296, 3297, 1114, 1082, 3298, 3300, 15]
set_option maxRecDepth 100000 in
theorem e_wsL_isTrue_r12 : q_wsL_isTrue_r12.map fe = wsL_isTrue_r12 := ce fw_13 (ce fw_3285 (ce fw_2109 (ce fw_3286 (ce fw_3287 (ce fw_3288 (ce fw_3289 (ce fw_2054 (ce fw_2055 (ce fw_2056 (ce fw_2057 (ce fw_3290 (ce fw_3292 (ce fw_14 (ce fw_3293 (ce fw_3294 (ce fw_3295 (ce fw_3296 (ce fw_3297 (ce fw_1114 (ce fw_1082 (ce fw_3298 (ce fw_3300 (ce fw_15 (cn))))))))))))))))))))))))
def q_wsL_isTrue_r13 : List Nat := [3301, 2058, 2060, 2062, 2066, 2067, 2065, 3306, 3106, 1036, 3107, 3302, 3303, 3304, 3305, 1097, 5186, 5187, 5188, 5189, 1118, 5190, 5191, 5192]
set_option maxRecDepth 100000 in
theorem e_wsL_isTrue_r13 : q_wsL_isTrue_r13.map fe = wsL_isTrue_r13 := ce fw_3301 (ce fw_2058 (ce fw_2060 (ce fw_2062 (ce fw_2066 (ce fw_2067 (ce fw_2065 (ce fw_3306 (ce fw_3106 (ce fw_1036 (ce fw_3107 (ce fw_3302 (ce fw_3303 (ce fw_3304 (ce fw_3305 (ce fw_1097 (ce fw_5186 (ce fw_5187 (ce fw_5188 (ce fw_5189 (ce fw_1118 (ce fw_5190 (ce fw_5191 (ce fw_5192 (cn))))))))))))))))))))))))
def q_wsL_isTrue_r14 : List Nat := [5193, 5194, 5195, 5196]
set_option maxRecDepth 100000 in
theorem e_wsL_isTrue_r14 : q_wsL_isTrue_r14.map fe = wsL_isTrue_r14 := ce fw_5193 (ce fw_5194 (ce fw_5195 (ce fw_5196 (cn))))
def q_wsL_isTrue : List Nat := 5168 :: ((((((((((((((q_wsL_isTrue_r1) ++ ((q_wsL_isTrue_r2) ++ ((q_wsL_isTrue_r3) ++ ((q_wsL_isTrue_r4) ++ ((q_wsL_isTrue_r5) ++ ((q_wsL_isTrue_r6) ++ ((q_wsL_isTrue_r7) ++ ((q_wsL_isTrue_r8) ++ ((q_wsL_isTrue_r9) ++ ((q_wsL_isTrue_r10) ++ ((q_wsL_isTrue_r11) ++ ((q_wsL_isTrue_r12) ++ ((q_wsL_isTrue_r13) ++ (q_wsL_isTrue_r14)))))))))))))) ++ (q_wsX110)) ++ (q_wsX100)) ++ (q_wsX50)) ++ (q_wsX90)) ++ (q_wsX20)) ++ (q_wsX80)) ++ (q_wsX60)) ++ (q_wsX40)) ++ (q_wsX10)) ++ (q_wsX70)) ++ (q_wsX00)) ++ (q_wsX120))
set_option maxRecDepth 100000 in
theorem e_wsL_isTrue : q_wsL_isTrue.map fe = wsL_isTrue := ce fw_5168 (ca (ca (ca (ca (ca (ca (ca (ca (ca (ca (ca (ca (ca (e_wsL_isTrue_r1) (ca (e_wsL_isTrue_r2) (ca (e_wsL_isTrue_r3) (ca (e_wsL_isTrue_r4) (ca (e_wsL_isTrue_r5) (ca (e_wsL_isTrue_r6) (ca (e_wsL_isTrue_r7) (ca (e_wsL_isTrue_r8) (ca (e_wsL_isTrue_r9) (ca (e_wsL_isTrue_r10) (ca (e_wsL_isTrue_r11) (ca (e_wsL_isTrue_r12) (ca (e_wsL_isTrue_r13) (e_wsL_isTrue_r14)))))))))))))) (e_wsX110)) (e_wsX100)) (e_wsX50)) (e_wsX90)) (e_wsX20)) (e_wsX80)) (e_wsX60)) (e_wsX40)) (e_wsX10)) (e_wsX70)) (e_wsX00)) (e_wsX120))
def q_wsL_areFrames_r1 : List Nat := [3307, 3308, 3309, 1025, 3310, 2283, 2231, 1083, 1090, 1093, 1096, 1099, 1103, 1107, 1111, 1115, 1121, 1125, 2235, 2214, 2207, 2220, 2287, 2233]
set_option maxRecDepth 100000 in
theorem e_wsL_areFrames_r1 : q_wsL_areFrames_r1.map fe = wsL_areFrames_r1 := ce fw_3307 (ce fw_3308 (ce fw_3309 (ce fw_1025 (ce fw_3310 (ce fw_2283 (ce fw_2231 (ce fw_1083 (ce fw_1090 (ce fw_1093 (ce fw_1096 (ce fw_1099 (ce fw_1103 (ce fw_1107 (ce fw_1111 (ce fw_1115 (ce fw_1121 (ce fw_1125 (ce fw_2235 (ce fw_2214 (ce fw_2207 (ce fw_2220 (ce fw_2287 (ce fw_2233 (cn))))))))))))))))))))))))
def q_wsL_areFrames_r2 : List Nat := [1174, 2216, 1204, 3311, 4096, 4097, 4098, 2218, 4099, 4100, 4101, 1031, 4102, 2149, 2151, 1231, 2157, 2158, 2159, 2161, 2162, 1081, 2163, 2164]
set_option maxRecDepth 100000 in
theorem e_wsL_areFrames_r2 : q_wsL_areFrames_r2.map fe = wsL_areFrames_r2 := ce fw_1174 (ce fw_2216 (ce fw_1204 (ce fw_3311 (ce fw_4096 (ce fw_4097 (ce fw_4098 (ce fw_2218 (ce fw_4099 (ce fw_4100 (ce fw_4101 (ce fw_1031 (ce fw_4102 (ce fw_2149 (ce fw_2151 (ce fw_1231 (ce fw_2157 (ce fw_2158 (ce fw_2159 (ce fw_2161 (ce fw_2162 (ce fw_1081 (ce fw_2163 (ce fw_2164 (cn))))))))))))))))))))))))
def q_wsL_areFrames_r3 : List Nat := [2165, 2166, 2153, 1260, 1262, 2048, 2051, 1258, 2053, 2155, 2111, 2113, 3276, 3198, 1039, 3199, 3200, 3201, 3202, 5200, 5201, 5202, 5203, 2154]
set_option maxRecDepth 100000 in
theorem e_wsL_areFrames_r3 : q_wsL_areFrames_r3.map fe = wsL_areFrames_r3 := ce fw_2165 (ce fw_2166 (ce fw_2153 (ce fw_1260 (ce fw_1262 (ce fw_2048 (ce fw_2051 (ce fw_1258 (ce fw_2053 (ce fw_2155 (ce fw_2111 (ce fw_2113 (ce fw_3276 (ce fw_3198 (ce fw_1039 (ce fw_3199 (ce fw_3200 (ce fw_3201 (ce fw_3202 (ce fw_5200 (ce fw_5201 (ce fw_5202 (ce fw_5203 (ce fw_2154 (cn))))))))))))))))))))))))
def q_wsL_areFrames_r4 : List Nat := [2049, 2063, 2061, 2059, 5204, 5206, 25, 5207, 5160, 3173, 3174, 1035, 3175, 2205, 2203, 5208, 5210, 26, 5211]
set_option maxRecDepth 100000 in
theorem e_wsL_areFrames_r4 : q_wsL_areFrames_r4.map fe = wsL_areFrames_r4 := ce fw_2049 (ce fw_2063 (ce fw_2061 (ce fw_2059 (ce fw_5204 (ce fw_5206 (ce fw_25 (ce fw_5207 (ce fw_5160 (ce fw_3173 (ce fw_3174 (ce fw_1035 (ce fw_3175 (ce fw_2205 (ce fw_2203 (ce fw_5208 (ce fw_5210 (ce fw_26 (ce fw_5211 (cn)))))))))))))))))))
def q_wsL_areFrames : List Nat := 5199 :: (((((((((((((q_wsL_areFrames_r1) ++ ((q_wsL_areFrames_r2) ++ ((q_wsL_areFrames_r3) ++ (q_wsL_areFrames_r4)))) ++ (q_wsX110)) ++ (q_wsX100)) ++ (q_wsX50)) ++ (q_wsX90)) ++ (q_wsX20)) ++ (q_wsX80)) ++ (q_wsX60)) ++ (q_wsX40)) ++ (q_wsX10)) ++ (q_wsX70)) ++ (q_wsX00))
set_option maxRecDepth 100000 in
theorem e_wsL_areFrames : q_wsL_areFrames.map fe = wsL_areFrames := ce fw_5199 (ca (ca (ca (ca (ca (ca (ca (ca (ca (ca (ca (ca (e_wsL_areFrames_r1) (ca (e_wsL_areFrames_r2) (ca (e_wsL_areFrames_r3) (e_wsL_areFrames_r4)))) (e_wsX110)) (e_wsX100)) (e_wsX50)) (e_wsX90)) (e_wsX20)) (e_wsX80)) (e_wsX60)) (e_wsX40)) (e_wsX10)) (e_wsX70)) (e_wsX00))
def q_wsL_isLinked_r1 : List Nat := [5223, 3106, 1036, 3107, 3311, 4096, 4097, 1025, 4098, 2283, 2235, 2218, 2231, 4099, 4100, 4101, 1031, 4102, 2149, 2151, 1231, 2157, 2158, 2159]
set_option maxRecDepth 100000 in
theorem e_wsL_isLinked_r1 : q_wsL_isLinked_r1.map fe = wsL_isLinked_r1 := ce fw_5223 (ce fw_3106 (ce fw_1036 (ce fw_3107 (ce fw_3311 (ce fw_4096 (ce fw_4097 (ce fw_1025 (ce fw_4098 (ce fw_2283 (ce fw_2235 (ce fw_2218 (ce fw_2231 (ce fw_4099 (ce fw_4100 (ce fw_4101 (ce fw_1031 (ce fw_4102 (ce fw_2149 (ce fw_2151 (ce fw_1231 (ce fw_2157 (ce fw_2158 (ce fw_2159 (cn))))))))))))))))))))))))
def q_wsL_isLinked_r2 : List Nat := [2161, 2162, 1081, 2163, 2164, 2165, 2166, 2153, 1260, 1262, 2048, 2051, 1258, 2053, 2155, 2111, 2113, 3276, 3198, 1039, 3199, 3200, 3201, 3202]
set_option maxRecDepth 100000 in
theorem e_wsL_isLinked_r2 : q_wsL_isLinked_r2.map fe = wsL_isLinked_r2 := ce fw_2161 (ce fw_2162 (ce fw_1081 (ce fw_2163 (ce fw_2164 (ce fw_2165 (ce fw_2166 (ce fw_2153 (ce fw_1260 (ce fw_1262 (ce fw_2048 (ce fw_2051 (ce fw_1258 (ce fw_2053 (ce fw_2155 (ce fw_2111 (ce fw_2113 (ce fw_3276 (ce fw_3198 (ce fw_1039 (ce fw_3199 (ce fw_3200 (ce fw_3201 (ce fw_3202 (cn))))))))))))))))))))))))
def q_wsL_isLinked_r3 : List Nat := [3307, 3308, 3309, 3310, 1083, 1090, 1093, 1096, 1099, 1103, 1107, 1111, 1115, 1121, 1125, 2214, 2207, 2220, 2287, 2233, 1174, 2216, 1204, 5215]
set_option maxRecDepth 100000 in
theorem e_wsL_isLinked_r3 : q_wsL_isLinked_r3.map fe = wsL_isLinked_r3 := ce fw_3307 (ce fw_3308 (ce fw_3309 (ce fw_3310 (ce fw_1083 (ce fw_1090 (ce fw_1093 (ce fw_1096 (ce fw_1099 (ce fw_1103 (ce fw_1107 (ce fw_1111 (ce fw_1115 (ce fw_1121 (ce fw_1125 (ce fw_2214 (ce fw_2207 (ce fw_2220 (ce fw_2287 (ce fw_2233 (ce fw_1174 (ce fw_2216 (ce fw_1204 (ce fw_5215 (cn))))))))))))))))))))))))
def q_wsL_isLinked_r4 : List Nat := [5216, 5217, 5218, 2156, 5219, 5220, 5221, 1034, 5222, 2110, 2109]
set_option maxRecDepth 100000 in
theorem e_wsL_isLinked_r4 : q_wsL_isLinked_r4.map fe = wsL_isLinked_r4 := ce fw_5216 (ce fw_5217 (ce fw_5218 (ce fw_2156 (ce fw_5219 (ce fw_5220 (ce fw_5221 (ce fw_1034 (ce fw_5222 (ce fw_2110 (ce fw_2109 (cn)))))))))))
def q_wsL_isLinked : List Nat := 5214 :: (((((((((((((q_wsL_isLinked_r1) ++ ((q_wsL_isLinked_r2) ++ ((q_wsL_isLinked_r3) ++ (q_wsL_isLinked_r4)))) ++ (q_wsX110)) ++ (q_wsX100)) ++ (q_wsX90)) ++ (q_wsX40)) ++ (q_wsX10)) ++ (q_wsX50)) ++ (q_wsX70)) ++ (q_wsX00)) ++ (q_wsX20)) ++ (q_wsX80)) ++ (q_wsX60))
set_option maxRecDepth 100000 in
theorem e_wsL_isLinked : q_wsL_isLinked.map fe = wsL_isLinked := ce fw_5214 (ca (ca (ca (ca (ca (ca (ca (ca (ca (ca (ca (ca (e_wsL_isLinked_r1) (ca (e_wsL_isLinked_r2) (ca (e_wsL_isLinked_r3) (e_wsL_isLinked_r4)))) (e_wsX110)) (e_wsX100)) (e_wsX90)) (e_wsX40)) (e_wsX10)) (e_wsX50)) (e_wsX70)) (e_wsX00)) (e_wsX20)) (e_wsX80)) (e_wsX60))
def q_wsX12_init : List Nat := 4107 :: (([4108, 1055, 1056, 4109]) ++ (q_wsX120))
set_option maxRecDepth 100000 in
theorem e_wsX12_init : q_wsX12_init.map fe = wsX12_init := ce fw_4107 (ca (ce fw_4108 (ce fw_1055 (ce fw_1056 (ce fw_4109 (cn))))) (e_wsX120))
