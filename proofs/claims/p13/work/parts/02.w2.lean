def q_wsX11_receiver_r2 : List Nat := [1263, 2049, 2052, 1259, 2054, 2160, 2116, 2118, 4237, 4159, 1044, 4160, 4161, 4162, 4163]
set_option maxRecDepth 100000 in
theorem e_wsX11_receiver_r2 : q_wsX11_receiver_r2.map fe = wsX11_receiver_r2 := ce fw_1263 (ce fw_2049 (ce fw_2052 (ce fw_1259 (ce fw_2054 (ce fw_2160 (ce fw_2116 (ce fw_2118 (ce fw_4237 (ce fw_4159 (ce fw_1044 (ce fw_4160 (ce fw_4161 (ce fw_4162 (ce fw_4163 (cn)))))))))))))))
def q_wsX11_receiver : List Nat := 4289 :: ((((((((((q_wsX11_receiver_r1) ++ (q_wsX11_receiver_r2)) ++ (q_wsX110)) ++ (q_wsX100)) ++ (q_wsX90)) ++ (q_wsX40)) ++ (q_wsX10)) ++ (q_wsX50)) ++ (q_wsX70)) ++ (q_wsX00))
set_option maxRecDepth 100000 in
theorem e_wsX11_receiver : q_wsX11_receiver.map fe = wsX11_receiver := ce fw_4289 (ca (ca (ca (ca (ca (ca (ca (ca (ca (e_wsX11_receiver_r1) (e_wsX11_receiver_r2)) (e_wsX110)) (e_wsX100)) (e_wsX90)) (e_wsX40)) (e_wsX10)) (e_wsX50)) (e_wsX70)) (e_wsX00))
def q_wsX11_candidate : List Nat := 4297 :: ((((((([3073, 2241, 2224, 2155, 2157, 2237, 4298, 4181, 4182, 1032, 4183, 1230, 1087, 1078, 1229]) ++ (q_wsX110)) ++ (q_wsX100)) ++ (q_wsX90)) ++ (q_wsX40)) ++ (q_wsX10)) ++ (q_wsX50))
set_option maxRecDepth 100000 in
theorem e_wsX11_candidate : q_wsX11_candidate.map fe = wsX11_candidate := ce fw_4297 (ca (ca (ca (ca (ca (ca (ce fw_3073 (ce fw_2241 (ce fw_2224 (ce fw_2155 (ce fw_2157 (ce fw_2237 (ce fw_4298 (ce fw_4181 (ce fw_4182 (ce fw_1032 (ce fw_4183 (ce fw_1230 (ce fw_1087 (ce fw_1078 (ce fw_1229 (cn)))))))))))))))) (e_wsX110)) (e_wsX100)) (e_wsX90)) (e_wsX40)) (e_wsX10)) (e_wsX50))
def q_wsX11_frame_r1 : List Nat := [3073, 2241, 2224, 2159, 2050, 2064, 2062, 2060, 4303, 4305, 24, 1025, 4306, 2237, 1121, 1096, 2220, 4280, 4110, 4111, 1035, 4112, 2211, 2209]
set_option maxRecDepth 100000 in
theorem e_wsX11_frame_r1 : q_wsX11_frame_r1.map fe = wsX11_frame_r1 := ce fw_3073 (ce fw_2241 (ce fw_2224 (ce fw_2159 (ce fw_2050 (ce fw_2064 (ce fw_2062 (ce fw_2060 (ce fw_4303 (ce fw_4305 (ce fw_24 (ce fw_1025 (ce fw_4306 (ce fw_2237 (ce fw_1121 (ce fw_1096 (ce fw_2220 (ce fw_4280 (ce fw_4110 (ce fw_4111 (ce fw_1035 (ce fw_4112 (ce fw_2211 (ce fw_2209 (cn))))))))))))))))))))))))
def q_wsX11_frame_r2 : List Nat := [4307, 4309, 25, 4310]
set_option maxRecDepth 100000 in
theorem e_wsX11_frame_r2 : q_wsX11_frame_r2.map fe = wsX11_frame_r2 := ce fw_4307 (ce fw_4309 (ce fw_25 (ce fw_4310 (cn))))
def q_wsX11_frame : List Nat := 4302 :: (((((((((q_wsX11_frame_r1) ++ (q_wsX11_frame_r2)) ++ (q_wsX110)) ++ (q_wsX100)) ++ (q_wsX90)) ++ (q_wsX40)) ++ (q_wsX70)) ++ (q_wsX50)) ++ (q_wsX20))
set_option maxRecDepth 100000 in
theorem e_wsX11_frame : q_wsX11_frame.map fe = wsX11_frame := ce fw_4302 (ca (ca (ca (ca (ca (ca (ca (ca (e_wsX11_frame_r1) (e_wsX11_frame_r2)) (e_wsX110)) (e_wsX100)) (e_wsX90)) (e_wsX40)) (e_wsX70)) (e_wsX50)) (e_wsX20))
def q_wsX11_channelOnes : List Nat := 4306 :: (((((([3073, 2237, 1121, 1096, 2241, 2220, 4280, 4110, 4111, 1035, 4112, 2211, 2209]) ++ (q_wsX110)) ++ (q_wsX100)) ++ (q_wsX50)) ++ (q_wsX90)) ++ (q_wsX20))
set_option maxRecDepth 100000 in
theorem e_wsX11_channelOnes : q_wsX11_channelOnes.map fe = wsX11_channelOnes := ce fw_4306 (ca (ca (ca (ca (ca (ce fw_3073 (ce fw_2237 (ce fw_1121 (ce fw_1096 (ce fw_2241 (ce fw_2220 (ce fw_4280 (ce fw_4110 (ce fw_4111 (ce fw_1035 (ce fw_4112 (ce fw_2211 (ce fw_2209 (cn)))))))))))))) (e_wsX110)) (e_wsX100)) (e_wsX50)) (e_wsX90)) (e_wsX20))
def q_wsX11_channelNumber : List Nat := 4310 :: (((((([3073, 2237, 1121, 1096, 2241, 2220, 4280, 4110, 4111, 1035, 4112, 2211, 2209]) ++ (q_wsX110)) ++ (q_wsX100)) ++ (q_wsX50)) ++ (q_wsX90)) ++ (q_wsX20))
set_option maxRecDepth 100000 in
theorem e_wsX11_channelNumber : q_wsX11_channelNumber.map fe = wsX11_channelNumber := ce fw_4310 (ca (ca (ca (ca (ca (ce fw_3073 (ce fw_2237 (ce fw_1121 (ce fw_1096 (ce fw_2241 (ce fw_2220 (ce fw_4280 (ce fw_4110 (ce fw_4111 (ce fw_1035 (ce fw_4112 (ce fw_2211 (ce fw_2209 (cn)))))))))))))) (e_wsX110)) (e_wsX100)) (e_wsX50)) (e_wsX90)) (e_wsX20))
def q_wsX11_signal : List Nat := 4314 :: (((((((([3073, 2241, 2224, 2159, 2237, 1121, 2066, 1096, 2220, 2068, 2070, 2072, 4280, 4110, 4111, 1035, 4112, 2211, 2209]) ++ (q_wsX110)) ++ (q_wsX100)) ++ (q_wsX90)) ++ (q_wsX40)) ++ (q_wsX50)) ++ (q_wsX70)) ++ (q_wsX20))
set_option maxRecDepth 100000 in
theorem e_wsX11_signal : q_wsX11_signal.map fe = wsX11_signal := ce fw_4314 (ca (ca (ca (ca (ca (ca (ca (ce fw_3073 (ce fw_2241 (ce fw_2224 (ce fw_2159 (ce fw_2237 (ce fw_1121 (ce fw_2066 (ce fw_1096 (ce fw_2220 (ce fw_2068 (ce fw_2070 (ce fw_2072 (ce fw_4280 (ce fw_4110 (ce fw_4111 (ce fw_1035 (ce fw_4112 (ce fw_2211 (ce fw_2209 (cn)))))))))))))))))))) (e_wsX110)) (e_wsX100)) (e_wsX90)) (e_wsX40)) (e_wsX50)) (e_wsX70)) (e_wsX20))
def q_wsX11_value : List Nat := 4318 :: (((((([3073, 2241, 2224, 2161, 4319, 4320, 4321, 1034, 4322, 2115, 2114]) ++ (q_wsX110)) ++ (q_wsX100)) ++ (q_wsX90)) ++ (q_wsX40)) ++ (q_wsX00))
set_option maxRecDepth 100000 in
theorem e_wsX11_value : q_wsX11_value.map fe = wsX11_value := ce fw_4318 (ca (ca (ca (ca (ca (ce fw_3073 (ce fw_2241 (ce fw_2224 (ce fw_2161 (ce fw_4319 (ce fw_4320 (ce fw_4321 (ce fw_1034 (ce fw_4322 (ce fw_2115 (ce fw_2114 (cn)))))))))))) (e_wsX110)) (e_wsX100)) (e_wsX90)) (e_wsX40)) (e_wsX00))
def q_wsX0_nth : List Nat := 4322 :: (([2115, 2114]) ++ (q_wsX00))
set_option maxRecDepth 100000 in
theorem e_wsX0_nth : q_wsX0_nth.map fe = wsX0_nth := ce fw_4322 (ca (ce fw_2115 (ce fw_2114 (cn))) (e_wsX00))
def q_wsX11_ahead_r1 : List Nat := [3078, 3073, 2241, 2222, 2237, 2220, 2213, 2224, 3254, 3255, 3256, 1029, 3257, 2219, 2221, 2223, 2225, 3258, 3259, 3260, 1035, 3261, 2211, 2209]
set_option maxRecDepth 100000 in
theorem e_wsX11_ahead_r1 : q_wsX11_ahead_r1.map fe = wsX11_ahead_r1 := ce fw_3078 (ce fw_3073 (ce fw_2241 (ce fw_2222 (ce fw_2237 (ce fw_2220 (ce fw_2213 (ce fw_2224 (ce fw_3254 (ce fw_3255 (ce fw_3256 (ce fw_1029 (ce fw_3257 (ce fw_2219 (ce fw_2221 (ce fw_2223 (ce fw_2225 (ce fw_3258 (ce fw_3259 (ce fw_3260 (ce fw_1035 (ce fw_3261 (ce fw_2211 (ce fw_2209 (cn))))))))))))))))))))))))
def q_wsX11_ahead_r2 : List Nat := [3262, 3119, 1036, 3120, 2206, 2207, 2208, 3263, 3124, 3123, 1039, 3264, 3265, 3266, 1030, 3267, 1202, 3268, 1203, 1205, 1207, 3269, 3270, 3271]
set_option maxRecDepth 100000 in
theorem e_wsX11_ahead_r2 : q_wsX11_ahead_r2.map fe = wsX11_ahead_r2 := ce fw_3262 (ce fw_3119 (ce fw_1036 (ce fw_3120 (ce fw_2206 (ce fw_2207 (ce fw_2208 (ce fw_3263 (ce fw_3124 (ce fw_3123 (ce fw_1039 (ce fw_3264 (ce fw_3265 (ce fw_3266 (ce fw_1030 (ce fw_3267 (ce fw_1202 (ce fw_3268 (ce fw_1203 (ce fw_1205 (ce fw_1207 (ce fw_3269 (ce fw_3270 (ce fw_3271 (cn))))))))))))))))))))))))
def q_wsX11_ahead_r3 : List Nat := [1031, 3272, 2154, 2156, 2158, 2160, 2162, 2163, 2164, 2166, 2168, 2169, 2170, 2171, 2172, 3273, 3274, 3275, 1032, 3276, 1229, 3277, 1230, 1233]
set_option maxRecDepth 100000 in
theorem e_wsX11_ahead_r3 : q_wsX11_ahead_r3.map fe = wsX11_ahead_r3 := ce fw_1031 (ce fw_3272 (ce fw_2154 (ce fw_2156 (ce fw_2158 (ce fw_2160 (ce fw_2162 (ce fw_2163 (ce fw_2164 (ce fw_2166 (ce fw_2168 (ce fw_2169 (ce fw_2170 (ce fw_2171 (ce fw_2172 (ce fw_3273 (ce fw_3274 (ce fw_3275 (ce fw_1032 (ce fw_3276 (ce fw_1229 (ce fw_3277 (ce fw_1230 (ce fw_1233 (cn))))))))))))))))))))))))
def q_wsX11_ahead_r4 : List Nat := [1236, 1237, 1238, 3278, 3279, 3280, 1033, 3281, 1258, 1260, 1262, 2048, 2051, 2053, 2055, 2056, 2057, 2058, 2059, 2061, 2063, 2065, 2067, 2069]
set_option maxRecDepth 100000 in
theorem e_wsX11_ahead_r4 : q_wsX11_ahead_r4.map fe = wsX11_ahead_r4 := ce fw_1236 (ce fw_1237 (ce fw_1238 (ce fw_3278 (ce fw_3279 (ce fw_3280 (ce fw_1033 (ce fw_3281 (ce fw_1258 (ce fw_1260 (ce fw_1262 (ce fw_2048 (ce fw_2051 (ce fw_2053 (ce fw_2055 (ce fw_2056 (ce fw_2057 (ce fw_2058 (ce fw_2059 (ce fw_2061 (ce fw_2063 (ce fw_2065 (ce fw_2067 (ce fw_2069 (cn))))))))))))))))))))))))
def q_wsX11_ahead_r5 : List Nat := [2071, 3282, 3283, 3284, 1034, 3285, 2114, 3286, 2115, 2117, 2119, 2120, 3295, 3296, 3297, 3298, 3299, 3301, 9, 3302, 2212, 1123, 1088, 1080]
set_option maxRecDepth 100000 in
theorem e_wsX11_ahead_r5 : q_wsX11_ahead_r5.map fe = wsX11_ahead_r5 := ce fw_2071 (ce fw_3282 (ce fw_3283 (ce fw_3284 (ce fw_1034 (ce fw_3285 (ce fw_2114 (ce fw_3286 (ce fw_2115 (ce fw_2117 (ce fw_2119 (ce fw_2120 (ce fw_3295 (ce fw_3296 (ce fw_3297 (ce fw_3298 (ce fw_3299 (ce fw_3301 (ce fw_9 (ce fw_3302 (ce fw_2212 (ce fw_1123 (ce fw_1088 (ce fw_1080 (cn))))))))))))))))))))))))
def q_wsX11_ahead_r6 : List Nat := [4103, 3303, 3304, 3305, 1027, 3306, 1086, 1084, 3307, 3308, 3309, 3310, 3311, 4097, 10, 4098, 4099, 4101, 11, 4102, 4104, 4105, 4106, 4107]
set_option maxRecDepth 100000 in
theorem e_wsX11_ahead_r6 : q_wsX11_ahead_r6.map fe = wsX11_ahead_r6 := ce fw_4103 (ce fw_3303 (ce fw_3304 (ce fw_3305 (ce fw_1027 (ce fw_3306 (ce fw_1086 (ce fw_1084 (ce fw_3307 (ce fw_3308 (ce fw_3309 (ce fw_3310 (ce fw_3311 (ce fw_4097 (ce fw_10 (ce fw_4098 (ce fw_4099 (ce fw_4101 (ce fw_11 (ce fw_4102 (ce fw_4104 (ce fw_4105 (ce fw_4106 (ce fw_4107 (cn))))))))))))))))))))))))
def q_wsX11_ahead_r7 : List Nat := [1122, 1091, 1077, 4108, 4109, 4110, 4111, 4112, 4141, 4142, 4143, 4144, 4145, 4146, 4147, 4148, 4149, 4150, 4152, 12, 4153, 1231, 1101, 4154]
set_option maxRecDepth 100000 in
theorem e_wsX11_ahead_r7 : q_wsX11_ahead_r7.map fe = wsX11_ahead_r7 := ce fw_1122 (ce fw_1091 (ce fw_1077 (ce fw_4108 (ce fw_4109 (ce fw_4110 (ce fw_4111 (ce fw_4112 (ce fw_4141 (ce fw_4142 (ce fw_4143 (ce fw_4144 (ce fw_4145 (ce fw_4146 (ce fw_4147 (ce fw_4148 (ce fw_4149 (ce fw_4150 (ce fw_4152 (ce fw_12 (ce fw_4153 (ce fw_1231 (ce fw_1101 (ce fw_4154 (cn))))))))))))))))))))))))
def q_wsX11_ahead_r8 : List Nat := [4155, 4156, 4157, 1128, 1126, 1087, 1078, 4158, 4159, 1044, 4160, 4161, 4162, 4163, 4164, 4165, 4166, 4167, 4168, 4170, 13, 4171, 2138, 2139]
set_option maxRecDepth 100000 in
theorem e_wsX11_ahead_r8 : q_wsX11_ahead_r8.map fe = wsX11_ahead_r8 := ce fw_4155 (ce fw_4156 (ce fw_4157 (ce fw_1128 (ce fw_1126 (ce fw_1087 (ce fw_1078 (ce fw_4158 (ce fw_4159 (ce fw_1044 (ce fw_4160 (ce fw_4161 (ce fw_4162 (ce fw_4163 (ce fw_4164 (ce fw_4165 (ce fw_4166 (ce fw_4167 (ce fw_4168 (ce fw_4170 (ce fw_13 (ce fw_4171 (ce fw_2138 (ce fw_2139 (cn))))))))))))))))))))))))
def q_wsX11_ahead_r9 : List Nat := [2140, 2141, 1130, 1116, 4172, 4173, 4174, 4175, 4176, 4177, 4178, 4179, 4180, 4181, 4182, 4183, 4184, 4185, 4186, 4187, 1127, 1129, 4188, 4189]
set_option maxRecDepth 100000 in
theorem e_wsX11_ahead_r9 : q_wsX11_ahead_r9.map fe = wsX11_ahead_r9 := ce fw_2140 (ce fw_2141 (ce fw_1130 (ce fw_1116 (ce fw_4172 (ce fw_4173 (ce fw_4174 (ce fw_4175 (ce fw_4176 (ce fw_4177 (ce fw_4178 (ce fw_4179 (ce fw_4180 (ce fw_4181 (ce fw_4182 (ce fw_4183 (ce fw_4184 (ce fw_4185 (ce fw_4186 (ce fw_4187 (ce fw_1127 (ce fw_1129 (ce fw_4188 (ce fw_4189 (cn))))))))))))))))))))))))
def q_wsX11_ahead_r10 : List Nat := [4190, 4191, 4192, 4193, 4195, 14, 4196, 1119, 1081, 1234, 1124, 4197, 4198, 4200, 15, 4201, 4202, 2151, 2152, 2153, 4203, 4205, 16, 4206]
set_option maxRecDepth 100000 in
theorem e_wsX11_ahead_r10 : q_wsX11_ahead_r10.map fe = wsX11_ahead_r10 := ce fw_4190 (ce fw_4191 (ce fw_4192 (ce fw_4193 (ce fw_4195 (ce fw_14 (ce fw_4196 (ce fw_1119 (ce fw_1081 (ce fw_1234 (ce fw_1124 (ce fw_4197 (ce fw_4198 (ce fw_4200 (ce fw_15 (ce fw_4201 (ce fw_4202 (ce fw_2151 (ce fw_2152 (ce fw_2153 (ce fw_4203 (ce fw_4205 (ce fw_16 (ce fw_4206 (cn))))))))))))))))))))))))
def q_wsX11_ahead_r11 : List Nat := [4207, 4208, 4209, 4210, 4211, 4213, 17, 4214, 4215, 4216, 4218, 18, 4219, 4220, 4221, 4222, 4223, 1117, 4224, 4225, 4227, 19, 4228, 4229]
set_option maxRecDepth 100000 in
theorem e_wsX11_ahead_r11 : q_wsX11_ahead_r11.map fe = wsX11_ahead_r11 := ce fw_4207 (ce fw_4208 (ce fw_4209 (ce fw_4210 (ce fw_4211 (ce fw_4213 (ce fw_17 (ce fw_4214 (ce fw_4215 (ce fw_4216 (ce fw_4218 (ce fw_18 (ce fw_4219 (ce fw_4220 (ce fw_4221 (ce fw_4222 (ce fw_4223 (ce fw_1117 (ce fw_4224 (ce fw_4225 (ce fw_4227 (ce fw_19 (ce fw_4228 (ce fw_4229 (cn))))))))))))))))))))))))
def q_wsX11_ahead_r12 : List Nat := [4231, 20, 4232, 1110, 1106, 4233, 4234, 4235, 4236, 4237, 4238, 4239, 4240, 4241, 4242, 4243, 4245, 21, 4246, 2150, 4247, 4248, 4249, 4250]
set_option maxRecDepth 100000 in
theorem e_wsX11_ahead_r12 : q_wsX11_ahead_r12.map fe = wsX11_ahead_r12 := ce fw_4231 (ce fw_20 (ce fw_4232 (ce fw_1110 (ce fw_1106 (ce fw_4233 (ce fw_4234 (ce fw_4235 (ce fw_4236 (ce fw_4237 (ce fw_4238 (ce fw_4239 (ce fw_4240 (ce fw_4241 (ce fw_4242 (ce fw_4243 (ce fw_4245 (ce fw_21 (ce fw_4246 (ce fw_2150 (ce fw_4247 (ce fw_4248 (ce fw_4249 (ce fw_4250 (cn))))))))))))))))))))))))
def q_wsX11_ahead_r13 : List Nat := [4251, 4253, 22, 4254, 4255, 4256, 4257, 4258, 1114, 1082, 4259, 4261, 23, 4262, 4267, 4263, 4264, 4265, 4266, 1097, 4290, 4291, 4292, 4293]
set_option maxRecDepth 100000 in
theorem e_wsX11_ahead_r13 : q_wsX11_ahead_r13.map fe = wsX11_ahead_r13 := ce fw_4251 (ce fw_4253 (ce fw_22 (ce fw_4254 (ce fw_4255 (ce fw_4256 (ce fw_4257 (ce fw_4258 (ce fw_1114 (ce fw_1082 (ce fw_4259 (ce fw_4261 (ce fw_23 (ce fw_4262 (ce fw_4267 (ce fw_4263 (ce fw_4264 (ce fw_4265 (ce fw_4266 (ce fw_1097 (ce fw_4290 (ce fw_4291 (ce fw_4292 (ce fw_4293 (cn))))))))))))))))))))))))
def q_wsX11_ahead_r14 : List Nat := [1261, 1263, 2049, 2052, 1259, 2054, 2116, 2118]
set_option maxRecDepth 100000 in
theorem e_wsX11_ahead_r14 : q_wsX11_ahead_r14.map fe = wsX11_ahead_r14 := ce fw_1261 (ce fw_1263 (ce fw_2049 (ce fw_2052 (ce fw_1259 (ce fw_2054 (ce fw_2116 (ce fw_2118 (cn))))))))
def q_wsX11_ahead : List Nat := 4326 :: ((((((((((((q_wsX11_ahead_r1) ++ ((q_wsX11_ahead_r2) ++ ((q_wsX11_ahead_r3) ++ ((q_wsX11_ahead_r4) ++ ((q_wsX11_ahead_r5) ++ ((q_wsX11_ahead_r6) ++ ((q_wsX11_ahead_r7) ++ ((q_wsX11_ahead_r8) ++ ((q_wsX11_ahead_r9) ++ ((q_wsX11_ahead_r10) ++ ((q_wsX11_ahead_r11) ++ ((q_wsX11_ahead_r12) ++ ((q_wsX11_ahead_r13) ++ (q_wsX11_ahead_r14)))))))))))))) ++ (q_wsX110)) ++ (q_wsX100)) ++ (q_wsX90)) ++ (q_wsX20)) ++ (q_wsX60)) ++ (q_wsX40)) ++ (q_wsX10)) ++ (q_wsX70)) ++ (q_wsX00)) ++ (q_wsX50))
set_option maxRecDepth 100000 in
theorem e_wsX11_ahead : q_wsX11_ahead.map fe = wsX11_ahead := ce fw_4326 (ca (ca (ca (ca (ca (ca (ca (ca (ca (ca (ca (e_wsX11_ahead_r1) (ca (e_wsX11_ahead_r2) (ca (e_wsX11_ahead_r3) (ca (e_wsX11_ahead_r4) (ca (e_wsX11_ahead_r5) (ca (e_wsX11_ahead_r6) (ca (e_wsX11_ahead_r7) (ca (e_wsX11_ahead_r8) (ca (e_wsX11_ahead_r9) (ca (e_wsX11_ahead_r10) (ca (e_wsX11_ahead_r11) (ca (e_wsX11_ahead_r12) (ca (e_wsX11_ahead_r13) (e_wsX11_ahead_r14)))))))))))))) (e_wsX110)) (e_wsX100)) (e_wsX90)) (e_wsX20)) (e_wsX60)) (e_wsX40)) (e_wsX10)) (e_wsX70)) (e_wsX00)) (e_wsX50))
def q_wsX11_struck_r1 : List Nat := [3073, 2237, 2241, 2220, 2213, 1118, 1083, 1090, 4331, 4189, 4190, 1027, 4191, 1077, 4280, 4110, 4111, 1035, 4112, 2211, 2209, 4332, 4208, 4209]
set_option maxRecDepth 100000 in
theorem e_wsX11_struck_r1 : q_wsX11_struck_r1.map fe = wsX11_struck_r1 := ce fw_3073 (ce fw_2237 (ce fw_2241 (ce fw_2220 (ce fw_2213 (ce fw_1118 (ce fw_1083 (ce fw_1090 (ce fw_4331 (ce fw_4189 (ce fw_4190 (ce fw_1027 (ce fw_4191 (ce fw_1077 (ce fw_4280 (ce fw_4110 (ce fw_4111 (ce fw_1035 (ce fw_4112 (ce fw_2211 (ce fw_2209 (ce fw_4332 (ce fw_4208 (ce fw_4209 (cn))))))))))))))))))))))))
def q_wsX11_struck_r2 : List Nat := [4210, 1129, 1127, 4333, 4165, 4166, 4167, 1086]
set_option maxRecDepth 100000 in
theorem e_wsX11_struck_r2 : q_wsX11_struck_r2.map fe = wsX11_struck_r2 := ce fw_4210 (ce fw_1129 (ce fw_1127 (ce fw_4333 (ce fw_4165 (ce fw_4166 (ce fw_4167 (ce fw_1086 (cn))))))))
def q_wsX11_struck : List Nat := 4330 :: (((((((q_wsX11_struck_r1) ++ (q_wsX11_struck_r2)) ++ (q_wsX110)) ++ (q_wsX100)) ++ (q_wsX90)) ++ (q_wsX20)) ++ (q_wsX50))
set_option maxRecDepth 100000 in
theorem e_wsX11_struck : q_wsX11_struck.map fe = wsX11_struck := ce fw_4330 (ca (ca (ca (ca (ca (ca (e_wsX11_struck_r1) (e_wsX11_struck_r2)) (e_wsX110)) (e_wsX100)) (e_wsX90)) (e_wsX20)) (e_wsX50))
def q_wsX11_locks_r1 : List Nat := [3073, 2241, 2220, 2213, 3078, 2224, 2237, 2165, 5122, 2135, 2136, 1031, 2137, 2154, 2156, 2158, 2160, 2162, 2163, 2164, 2166, 2168, 2169, 2170]
set_option maxRecDepth 100000 in
theorem e_wsX11_locks_r1 : q_wsX11_locks_r1.map fe = wsX11_locks_r1 := ce fw_3073 (ce fw_2241 (ce fw_2220 (ce fw_2213 (ce fw_3078 (ce fw_2224 (ce fw_2237 (ce fw_2165 (ce fw_5122 (ce fw_2135 (ce fw_2136 (ce fw_1031 (ce fw_2137 (ce fw_2154 (ce fw_2156 (ce fw_2158 (ce fw_2160 (ce fw_2162 (ce fw_2163 (ce fw_2164 (ce fw_2166 (ce fw_2168 (ce fw_2169 (ce fw_2170 (cn))))))))))))))))))))))))
def q_wsX11_locks_r2 : List Nat := [2171, 2172, 2138, 2139, 2140, 1032, 2141, 1078, 1229, 1130, 1116, 1230, 1233, 1236, 1237, 1238, 2142, 2143, 2144, 1033, 2145, 1258, 1260, 1262]
set_option maxRecDepth 100000 in
theorem e_wsX11_locks_r2 : q_wsX11_locks_r2.map fe = wsX11_locks_r2 := ce fw_2171 (ce fw_2172 (ce fw_2138 (ce fw_2139 (ce fw_2140 (ce fw_1032 (ce fw_2141 (ce fw_1078 (ce fw_1229 (ce fw_1130 (ce fw_1116 (ce fw_1230 (ce fw_1233 (ce fw_1236 (ce fw_1237 (ce fw_1238 (ce fw_2142 (ce fw_2143 (ce fw_2144 (ce fw_1033 (ce fw_2145 (ce fw_1258 (ce fw_1260 (ce fw_1262 (cn))))))))))))))))))))))))
def q_wsX11_locks_r3 : List Nat := [2048, 2051, 2053, 2065, 2146, 2147, 2148, 1034, 2149, 2115, 2117, 2150, 2151, 2152, 2153, 2119, 2120, 5123, 4146, 4147, 4148, 4149, 4110, 4111]
set_option maxRecDepth 100000 in
theorem e_wsX11_locks_r3 : q_wsX11_locks_r3.map fe = wsX11_locks_r3 := ce fw_2048 (ce fw_2051 (ce fw_2053 (ce fw_2065 (ce fw_2146 (ce fw_2147 (ce fw_2148 (ce fw_1034 (ce fw_2149 (ce fw_2115 (ce fw_2117 (ce fw_2150 (ce fw_2151 (ce fw_2152 (ce fw_2153 (ce fw_2119 (ce fw_2120 (ce fw_5123 (ce fw_4146 (ce fw_4147 (ce fw_4148 (ce fw_4149 (ce fw_4110 (ce fw_4111 (cn))))))))))))))))))))))))
def q_wsX11_locks_r4 : List Nat := [1035, 4112, 2211, 2209, 4150, 4152, 12, 4153, 1231, 1101, 4154, 4155, 4156, 4157, 1128, 1126, 1087, 4158, 4159, 1044, 4160, 4161, 4162, 4163]
set_option maxRecDepth 100000 in
theorem e_wsX11_locks_r4 : q_wsX11_locks_r4.map fe = wsX11_locks_r4 := ce fw_1035 (ce fw_4112 (ce fw_2211 (ce fw_2209 (ce fw_4150 (ce fw_4152 (ce fw_12 (ce fw_4153 (ce fw_1231 (ce fw_1101 (ce fw_4154 (ce fw_4155 (ce fw_4156 (ce fw_4157 (ce fw_1128 (ce fw_1126 (ce fw_1087 (ce fw_4158 (ce fw_4159 (ce fw_1044 (ce fw_4160 (ce fw_4161 (ce fw_4162 (ce fw_4163 (cn))))))))))))))))))))))))
def q_wsX11_locks_r5 : List Nat := [4164, 4165, 4166, 1027, 4167, 1086, 4168, 4170, 13, 4171, 4172, 4173, 4174, 4175, 4176, 4177, 4178, 4179, 4180, 4181, 4182, 4183, 4184, 4185]
set_option maxRecDepth 100000 in
theorem e_wsX11_locks_r5 : q_wsX11_locks_r5.map fe = wsX11_locks_r5 := ce fw_4164 (ce fw_4165 (ce fw_4166 (ce fw_1027 (ce fw_4167 (ce fw_1086 (ce fw_4168 (ce fw_4170 (ce fw_13 (ce fw_4171 (ce fw_4172 (ce fw_4173 (ce fw_4174 (ce fw_4175 (ce fw_4176 (ce fw_4177 (ce fw_4178 (ce fw_4179 (ce fw_4180 (ce fw_4181 (ce fw_4182 (ce fw_4183 (ce fw_4184 (ce fw_4185 (cn))))))))))))))))))))))))
def q_wsX11_locks_r6 : List Nat := [4186, 4187, 1127, 1129, 4188, 4189, 4190, 4191, 1077, 4192, 4193, 4195, 14, 4196, 1119, 1081, 1234, 1124, 4197, 4198, 4200, 15, 4201, 4202]
set_option maxRecDepth 100000 in
theorem e_wsX11_locks_r6 : q_wsX11_locks_r6.map fe = wsX11_locks_r6 := ce fw_4186 (ce fw_4187 (ce fw_1127 (ce fw_1129 (ce fw_4188 (ce fw_4189 (ce fw_4190 (ce fw_4191 (ce fw_1077 (ce fw_4192 (ce fw_4193 (ce fw_4195 (ce fw_14 (ce fw_4196 (ce fw_1119 (ce fw_1081 (ce fw_1234 (ce fw_1124 (ce fw_4197 (ce fw_4198 (ce fw_4200 (ce fw_15 (ce fw_4201 (ce fw_4202 (cn))))))))))))))))))))))))
def q_wsX11_locks_r7 : List Nat := [4203, 4205, 16, 4206, 4207, 4208, 4209, 4210, 4211, 4213, 17, 4214, 4215, 4216, 4218, 18, 4219, 4220, 4221, 4222, 4223, 1117, 4108, 3304]
set_option maxRecDepth 100000 in
theorem e_wsX11_locks_r7 : q_wsX11_locks_r7.map fe = wsX11_locks_r7 := ce fw_4203 (ce fw_4205 (ce fw_16 (ce fw_4206 (ce fw_4207 (ce fw_4208 (ce fw_4209 (ce fw_4210 (ce fw_4211 (ce fw_4213 (ce fw_17 (ce fw_4214 (ce fw_4215 (ce fw_4216 (ce fw_4218 (ce fw_18 (ce fw_4219 (ce fw_4220 (ce fw_4221 (ce fw_4222 (ce fw_4223 (ce fw_1117 (ce fw_4108 (ce fw_3304 (cn))))))))))))))))))))))))
def q_wsX11_locks_r8 : List Nat := [3305, 3306, 1084, 4109, 4224, 4105, 4106, 4107, 1122, 1091, 4225, 4227, 19, 4228, 4229, 4231, 20, 4232, 1110, 1106, 4233, 4234, 4235, 4236]
set_option maxRecDepth 100000 in
theorem e_wsX11_locks_r8 : q_wsX11_locks_r8.map fe = wsX11_locks_r8 := ce fw_3305 (ce fw_3306 (ce fw_1084 (ce fw_4109 (ce fw_4224 (ce fw_4105 (ce fw_4106 (ce fw_4107 (ce fw_1122 (ce fw_1091 (ce fw_4225 (ce fw_4227 (ce fw_19 (ce fw_4228 (ce fw_4229 (ce fw_4231 (ce fw_20 (ce fw_4232 (ce fw_1110 (ce fw_1106 (ce fw_4233 (ce fw_4234 (ce fw_4235 (ce fw_4236 (cn))))))))))))))))))))))))
def q_wsX11_locks_r9 : List Nat := [4237, 4238, 4239, 4240, 4241, 4242, 4243, 4245, 21, 4246, 2114, 4247, 4248, 4249, 4250, 2055, 2056, 2057, 2058, 4251, 4253, 22, 4254, 4255]
set_option maxRecDepth 100000 in
theorem e_wsX11_locks_r9 : q_wsX11_locks_r9.map fe = wsX11_locks_r9 := ce fw_4237 (ce fw_4238 (ce fw_4239 (ce fw_4240 (ce fw_4241 (ce fw_4242 (ce fw_4243 (ce fw_4245 (ce fw_21 (ce fw_4246 (ce fw_2114 (ce fw_4247 (ce fw_4248 (ce fw_4249 (ce fw_4250 (ce fw_2055 (ce fw_2056 (ce fw_2057 (ce fw_2058 (ce fw_4251 (ce fw_4253 (ce fw_22 (ce fw_4254 (ce fw_4255 (cn))))))))))))))))))))))))
def q_wsX11_locks_r10 : List Nat := [4256, 4257, 4258, 1114, 1082, 4259, 4261, 23, 4262, 2059, 2061, 2063, 2069, 2071, 2067, 4267, 3119, 1036, 3120, 4263, 4264, 4265, 4266, 1097]
set_option maxRecDepth 100000 in
theorem e_wsX11_locks_r10 : q_wsX11_locks_r10.map fe = wsX11_locks_r10 := ce fw_4256 (ce fw_4257 (ce fw_4258 (ce fw_1114 (ce fw_1082 (ce fw_4259 (ce fw_4261 (ce fw_23 (ce fw_4262 (ce fw_2059 (ce fw_2061 (ce fw_2063 (ce fw_2069 (ce fw_2071 (ce fw_2067 (ce fw_4267 (ce fw_3119 (ce fw_1036 (ce fw_3120 (ce fw_4263 (ce fw_4264 (ce fw_4265 (ce fw_4266 (ce fw_1097 (cn))))))))))))))))))))))))
def q_wsX11_locks : List Nat := 5121 :: (((((((((((q_wsX11_locks_r1) ++ ((q_wsX11_locks_r2) ++ ((q_wsX11_locks_r3) ++ ((q_wsX11_locks_r4) ++ ((q_wsX11_locks_r5) ++ ((q_wsX11_locks_r6) ++ ((q_wsX11_locks_r7) ++ ((q_wsX11_locks_r8) ++ ((q_wsX11_locks_r9) ++ (q_wsX11_locks_r10)))))))))) ++ (q_wsX110)) ++ (q_wsX100)) ++ (q_wsX90)) ++ (q_wsX20)) ++ (q_wsX40)) ++ (q_wsX50)) ++ (q_wsX10)) ++ (q_wsX70)) ++ (q_wsX00))
set_option maxRecDepth 100000 in
theorem e_wsX11_locks : q_wsX11_locks.map fe = wsX11_locks := ce fw_5121 (ca (ca (ca (ca (ca (ca (ca (ca (ca (ca (e_wsX11_locks_r1) (ca (e_wsX11_locks_r2) (ca (e_wsX11_locks_r3) (ca (e_wsX11_locks_r4) (ca (e_wsX11_locks_r5) (ca (e_wsX11_locks_r6) (ca (e_wsX11_locks_r7) (ca (e_wsX11_locks_r8) (ca (e_wsX11_locks_r9) (e_wsX11_locks_r10)))))))))) (e_wsX110)) (e_wsX100)) (e_wsX90)) (e_wsX20)) (e_wsX40)) (e_wsX50)) (e_wsX10)) (e_wsX70)) (e_wsX00))
def q_wsX11_from_r1 : List Nat := [3073, 2241, 2220, 2213, 3078, 2224, 2237, 5122, 2135, 2136, 1031, 2137, 2154, 2156, 2158, 2160, 2162, 2163, 2164, 2166, 2168, 2169, 2170, 2171]
set_option maxRecDepth 100000 in
theorem e_wsX11_from_r1 : q_wsX11_from_r1.map fe = wsX11_from_r1 := ce fw_3073 (ce fw_2241 (ce fw_2220 (ce fw_2213 (ce fw_3078 (ce fw_2224 (ce fw_2237 (ce fw_5122 (ce fw_2135 (ce fw_2136 (ce fw_1031 (ce fw_2137 (ce fw_2154 (ce fw_2156 (ce fw_2158 (ce fw_2160 (ce fw_2162 (ce fw_2163 (ce fw_2164 (ce fw_2166 (ce fw_2168 (ce fw_2169 (ce fw_2170 (ce fw_2171 (cn))))))))))))))))))))))))
def q_wsX11_from_r2 : List Nat := [2172, 2138, 2139, 2140, 1032, 2141, 1078, 1229, 1130, 1116, 1230, 1233, 1236, 1237, 1238, 2142, 2143, 2144, 1033, 2145, 1258, 1260, 1262, 2048]
set_option maxRecDepth 100000 in
theorem e_wsX11_from_r2 : q_wsX11_from_r2.map fe = wsX11_from_r2 := ce fw_2172 (ce fw_2138 (ce fw_2139 (ce fw_2140 (ce fw_1032 (ce fw_2141 (ce fw_1078 (ce fw_1229 (ce fw_1130 (ce fw_1116 (ce fw_1230 (ce fw_1233 (ce fw_1236 (ce fw_1237 (ce fw_1238 (ce fw_2142 (ce fw_2143 (ce fw_2144 (ce fw_1033 (ce fw_2145 (ce fw_1258 (ce fw_1260 (ce fw_1262 (ce fw_2048 (cn))))))))))))))))))))))))
def q_wsX11_from_r3 : List Nat := [2051, 2053, 2065, 2146, 2147, 2148, 1034, 2149, 2115, 2117, 2150, 2151, 2152, 2153, 2119, 2120, 5123, 4146, 4147, 4148, 4149, 4110, 4111, 1035]
set_option maxRecDepth 100000 in
theorem e_wsX11_from_r3 : q_wsX11_from_r3.map fe = wsX11_from_r3 := ce fw_2051 (ce fw_2053 (ce fw_2065 (ce fw_2146 (ce fw_2147 (ce fw_2148 (ce fw_1034 (ce fw_2149 (ce fw_2115 (ce fw_2117 (ce fw_2150 (ce fw_2151 (ce fw_2152 (ce fw_2153 (ce fw_2119 (ce fw_2120 (ce fw_5123 (ce fw_4146 (ce fw_4147 (ce fw_4148 (ce fw_4149 (ce fw_4110 (ce fw_4111 (ce fw_1035 (cn))))))))))))))))))))))))
def q_wsX11_from_r4 : List Nat := [4112, 2211, 2209, 4150, 4152, 12, 4153, 1231, 1101, 4154, 4155, 4156, 4157, 1128, 1126, 1087, 4158, 4159, 1044, 4160, 4161, 4162, 4163, 4164]
set_option maxRecDepth 100000 in
theorem e_wsX11_from_r4 : q_wsX11_from_r4.map fe = wsX11_from_r4 := ce fw_4112 (ce fw_2211 (ce fw_2209 (ce fw_4150 (ce fw_4152 (ce fw_12 (ce fw_4153 (ce fw_1231 (ce fw_1101 (ce fw_4154 (ce fw_4155 (ce fw_4156 (ce fw_4157 (ce fw_1128 (ce fw_1126 (ce fw_1087 (ce fw_4158 (ce fw_4159 (ce fw_1044 (ce fw_4160 (ce fw_4161 (ce fw_4162 (ce fw_4163 (ce fw_4164 (cn))))))))))))))))))))))))
def q_wsX11_from_r5 : List Nat := [4165, 4166, 1027, 4167, 1086, 4168, 4170, 13, 4171, 4172, 4173, 4174, 4175, 4176, 4177, 4178, 4179, 4180, 4181, 4182, 4183, 4184, 4185, 4186]
set_option maxRecDepth 100000 in
theorem e_wsX11_from_r5 : q_wsX11_from_r5.map fe = wsX11_from_r5 := ce fw_4165 (ce fw_4166 (ce fw_1027 (ce fw_4167 (ce fw_1086 (ce fw_4168 (ce fw_4170 (ce fw_13 (ce fw_4171 (ce fw_4172 (ce fw_4173 (ce fw_4174 (ce fw_4175 (ce fw_4176 (ce fw_4177 (ce fw_4178 (ce fw_4179 (ce fw_4180 (ce fw_4181 (ce fw_4182 (ce fw_4183 (ce fw_4184 (ce fw_4185 (ce fw_4186 (cn))))))))))))))))))))))))
def q_wsX11_from_r6 : List Nat := [4187, 1127, 1129, 4188, 4189, 4190, 4191, 1077, 4192, 4193, 4195, 14, 4196, 1119, 1081, 1234, 1124, 4197, 4198, 4200, 15, 4201, 4202, 4203]
set_option maxRecDepth 100000 in
theorem e_wsX11_from_r6 : q_wsX11_from_r6.map fe = wsX11_from_r6 := ce fw_4187 (ce fw_1127 (ce fw_1129 (ce fw_4188 (ce fw_4189 (ce fw_4190 (ce fw_4191 (ce fw_1077 (ce fw_4192 (ce fw_4193 (ce fw_4195 (ce fw_14 (ce fw_4196 (ce fw_1119 (ce fw_1081 (ce fw_1234 (ce fw_1124 (ce fw_4197 (ce fw_4198 (ce fw_4200 (ce fw_15 (ce fw_4201 (ce fw_4202 (ce fw_4203 (cn))))))))))))))))))))))))
def q_wsX11_from_r7 : List Nat := [4205, 16, 4206, 4207, 4208, 4209, 4210, 4211, 4213, 17, 4214, 4215, 4216, 4218, 18, 4219, 4220, 4221, 4222, 4223, 1117, 4108, 3304, 3305]
set_option maxRecDepth 100000 in
theorem e_wsX11_from_r7 : q_wsX11_from_r7.map fe = wsX11_from_r7 := ce fw_4205 (ce fw_16 (ce fw_4206 (ce fw_4207 (ce fw_4208 (ce fw_4209 (ce fw_4210 (ce fw_4211 (ce fw_4213 (ce fw_17 (ce fw_4214 (ce fw_4215 (ce fw_4216 (ce fw_4218 (ce fw_18 (ce fw_4219 (ce fw_4220 (ce fw_4221 (ce fw_4222 (ce fw_4223 (ce fw_1117 (ce fw_4108 (ce fw_3304 (ce fw_3305 (cn))))))))))))))))))))))))
def q_wsX11_from_r8 : List Nat := [3306, 1084, 4109, 4224, 4105, 4106, 4107, 1122, 1091, 4225, 4227, 19, 4228, 4229, 4231, 20, 4232, 1110, 1106, 4233, 4234, 4235, 4236, 4237]
set_option maxRecDepth 100000 in
theorem e_wsX11_from_r8 : q_wsX11_from_r8.map fe = wsX11_from_r8 := ce fw_3306 (ce fw_1084 (ce fw_4109 (ce fw_4224 (ce fw_4105 (ce fw_4106 (ce fw_4107 (ce fw_1122 (ce fw_1091 (ce fw_4225 (ce fw_4227 (ce fw_19 (ce fw_4228 (ce fw_4229 (ce fw_4231 (ce fw_20 (ce fw_4232 (ce fw_1110 (ce fw_1106 (ce fw_4233 (ce fw_4234 (ce fw_4235 (ce fw_4236 (ce fw_4237 (cn))))))))))))))))))))))))
def q_wsX11_from_r9 : List Nat := [4238, 4239, 4240, 4241, 4242, 4243, 4245, 21, 4246, 2114, 4247, 4248, 4249, 4250, 2055, 2056, 2057, 2058, 4251, 4253, 22, 4254, 4255, 4256]
set_option maxRecDepth 100000 in
theorem e_wsX11_from_r9 : q_wsX11_from_r9.map fe = wsX11_from_r9 := ce fw_4238 (ce fw_4239 (ce fw_4240 (ce fw_4241 (ce fw_4242 (ce fw_4243 (ce fw_4245 (ce fw_21 (ce fw_4246 (ce fw_2114 (ce fw_4247 (ce fw_4248 (ce fw_4249 (ce fw_4250 (ce fw_2055 (ce fw_2056 (ce fw_2057 (ce fw_2058 (ce fw_4251 (ce fw_4253 (ce fw_22 (ce fw_4254 (ce fw_4255 (ce fw_4256 (cn))))))))))))))))))))))))
def q_wsX11_from_r10 : List Nat := [4257, 4258, 1114, 1082, 4259, 4261, 23, 4262, 2059, 2061, 2063, 2069, 2071, 2067, 4267, 3119, 1036, 3120, 4263, 4264, 4265, 4266, 1097, 4290]
set_option maxRecDepth 100000 in
theorem e_wsX11_from_r10 : q_wsX11_from_r10.map fe = wsX11_from_r10 := ce fw_4257 (ce fw_4258 (ce fw_1114 (ce fw_1082 (ce fw_4259 (ce fw_4261 (ce fw_23 (ce fw_4262 (ce fw_2059 (ce fw_2061 (ce fw_2063 (ce fw_2069 (ce fw_2071 (ce fw_2067 (ce fw_4267 (ce fw_3119 (ce fw_1036 (ce fw_3120 (ce fw_4263 (ce fw_4264 (ce fw_4265 (ce fw_4266 (ce fw_1097 (ce fw_4290 (cn))))))))))))))))))))))))
def q_wsX11_from_r11 : List Nat := [4291, 4292, 4293, 1261, 1263, 2049, 2052, 1259, 2054, 2116, 2118]
set_option maxRecDepth 100000 in
theorem e_wsX11_from_r11 : q_wsX11_from_r11.map fe = wsX11_from_r11 := ce fw_4291 (ce fw_4292 (ce fw_4293 (ce fw_1261 (ce fw_1263 (ce fw_2049 (ce fw_2052 (ce fw_1259 (ce fw_2054 (ce fw_2116 (ce fw_2118 (cn)))))))))))
def q_wsX11_from : List Nat := 5127 :: (((((((((((q_wsX11_from_r1) ++ ((q_wsX11_from_r2) ++ ((q_wsX11_from_r3) ++ ((q_wsX11_from_r4) ++ ((q_wsX11_from_r5) ++ ((q_wsX11_from_r6) ++ ((q_wsX11_from_r7) ++ ((q_wsX11_from_r8) ++ ((q_wsX11_from_r9) ++ ((q_wsX11_from_r10) ++ (q_wsX11_from_r11))))))))))) ++ (q_wsX110)) ++ (q_wsX100)) ++ (q_wsX90)) ++ (q_wsX20)) ++ (q_wsX40)) ++ (q_wsX50)) ++ (q_wsX10)) ++ (q_wsX70)) ++ (q_wsX00))
set_option maxRecDepth 100000 in
theorem e_wsX11_from : q_wsX11_from.map fe = wsX11_from := ce fw_5127 (ca (ca (ca (ca (ca (ca (ca (ca (ca (ca (e_wsX11_from_r1) (ca (e_wsX11_from_r2) (ca (e_wsX11_from_r3) (ca (e_wsX11_from_r4) (ca (e_wsX11_from_r5) (ca (e_wsX11_from_r6) (ca (e_wsX11_from_r7) (ca (e_wsX11_from_r8) (ca (e_wsX11_from_r9) (ca (e_wsX11_from_r10) (e_wsX11_from_r11))))))))))) (e_wsX110)) (e_wsX100)) (e_wsX90)) (e_wsX20)) (e_wsX40)) (e_wsX50)) (e_wsX10)) (e_wsX70)) (e_wsX00))
def q_wsX11_fits_r1 : List Nat := [3073, 2241, 2220, 2213, 3078, 2224, 2157, 2237, 1232, 5132, 2139, 2140, 1032, 2141, 1078, 1229, 1130, 1116, 1230, 1233, 1236, 1237, 1238, 4280]
set_option maxRecDepth 100000 in
theorem e_wsX11_fits_r1 : q_wsX11_fits_r1.map fe = wsX11_fits_r1 := ce fw_3073 (ce fw_2241 (ce fw_2220 (ce fw_2213 (ce fw_3078 (ce fw_2224 (ce fw_2157 (ce fw_2237 (ce fw_1232 (ce fw_5132 (ce fw_2139 (ce fw_2140 (ce fw_1032 (ce fw_2141 (ce fw_1078 (ce fw_1229 (ce fw_1130 (ce fw_1116 (ce fw_1230 (ce fw_1233 (ce fw_1236 (ce fw_1237 (ce fw_1238 (ce fw_4280 (cn))))))))))))))))))))))))
def q_wsX11_fits_r2 : List Nat := [4110, 4111, 1035, 4112, 2211, 2209, 5133, 4155, 4156, 4157, 1128, 1126, 1087, 4158, 4159, 1044, 4160, 4161, 4162, 4163, 4164, 4165, 4166, 1027]
set_option maxRecDepth 100000 in
theorem e_wsX11_fits_r2 : q_wsX11_fits_r2.map fe = wsX11_fits_r2 := ce fw_4110 (ce fw_4111 (ce fw_1035 (ce fw_4112 (ce fw_2211 (ce fw_2209 (ce fw_5133 (ce fw_4155 (ce fw_4156 (ce fw_4157 (ce fw_1128 (ce fw_1126 (ce fw_1087 (ce fw_4158 (ce fw_4159 (ce fw_1044 (ce fw_4160 (ce fw_4161 (ce fw_4162 (ce fw_4163 (ce fw_4164 (ce fw_4165 (ce fw_4166 (ce fw_1027 (cn))))))))))))))))))))))))
def q_wsX11_fits_r3 : List Nat := [4167, 1086, 4298, 4181, 4182, 4183]
set_option maxRecDepth 100000 in
theorem e_wsX11_fits_r3 : q_wsX11_fits_r3.map fe = wsX11_fits_r3 := ce fw_4167 (ce fw_1086 (ce fw_4298 (ce fw_4181 (ce fw_4182 (ce fw_4183 (cn))))))
def q_wsX11_fits : List Nat := 5131 :: (((((((((q_wsX11_fits_r1) ++ ((q_wsX11_fits_r2) ++ (q_wsX11_fits_r3))) ++ (q_wsX110)) ++ (q_wsX100)) ++ (q_wsX90)) ++ (q_wsX20)) ++ (q_wsX40)) ++ (q_wsX10)) ++ (q_wsX50))
set_option maxRecDepth 100000 in
theorem e_wsX11_fits : q_wsX11_fits.map fe = wsX11_fits := ce fw_5131 (ca (ca (ca (ca (ca (ca (ca (ca (e_wsX11_fits_r1) (ca (e_wsX11_fits_r2) (e_wsX11_fits_r3))) (e_wsX110)) (e_wsX100)) (e_wsX90)) (e_wsX20)) (e_wsX40)) (e_wsX10)) (e_wsX50))
def q_wsX11_least_r1 : List Nat := [3073, 2241, 2220, 2213, 3078, 2224, 2157, 2237, 1232, 1235, 5132, 2139, 2140, 1032, 2141, 1078, 1229, 1130, 1116, 1230, 1233, 1236, 1237, 1238]
set_option maxRecDepth 100000 in
theorem e_wsX11_least_r1 : q_wsX11_least_r1.map fe = wsX11_least_r1 := ce fw_3073 (ce fw_2241 (ce fw_2220 (ce fw_2213 (ce fw_3078 (ce fw_2224 (ce fw_2157 (ce fw_2237 (ce fw_1232 (ce fw_1235 (ce fw_5132 (ce fw_2139 (ce fw_2140 (ce fw_1032 (ce fw_2141 (ce fw_1078 (ce fw_1229 (ce fw_1130 (ce fw_1116 (ce fw_1230 (ce fw_1233 (ce fw_1236 (ce fw_1237 (ce fw_1238 (cn))))))))))))))))))))))))
def q_wsX11_least_r2 : List Nat := [4280, 4110, 4111, 1035, 4112, 2211, 2209, 5133, 4155, 4156, 4157, 1128, 1126, 1087, 4158, 4159, 1044, 4160, 4161, 4162, 4163, 4164, 4165, 4166]
set_option maxRecDepth 100000 in
theorem e_wsX11_least_r2 : q_wsX11_least_r2.map fe = wsX11_least_r2 := ce fw_4280 (ce fw_4110 (ce fw_4111 (ce fw_1035 (ce fw_4112 (ce fw_2211 (ce fw_2209 (ce fw_5133 (ce fw_4155 (ce fw_4156 (ce fw_4157 (ce fw_1128 (ce fw_1126 (ce fw_1087 (ce fw_4158 (ce fw_4159 (ce fw_1044 (ce fw_4160 (ce fw_4161 (ce fw_4162 (ce fw_4163 (ce fw_4164 (ce fw_4165 (ce fw_4166 (cn))))))))))))))))))))))))
def q_wsX11_least_r3 : List Nat := [1027, 4167, 1086]
set_option maxRecDepth 100000 in
theorem e_wsX11_least_r3 : q_wsX11_least_r3.map fe = wsX11_least_r3 := ce fw_1027 (ce fw_4167 (ce fw_1086 (cn)))
def q_wsX11_least : List Nat := 5137 :: (((((((((q_wsX11_least_r1) ++ ((q_wsX11_least_r2) ++ (q_wsX11_least_r3))) ++ (q_wsX110)) ++ (q_wsX100)) ++ (q_wsX90)) ++ (q_wsX20)) ++ (q_wsX40)) ++ (q_wsX10)) ++ (q_wsX50))
set_option maxRecDepth 100000 in
theorem e_wsX11_least : q_wsX11_least.map fe = wsX11_least := ce fw_5137 (ca (ca (ca (ca (ca (ca (ca (ca (e_wsX11_least_r1) (ca (e_wsX11_least_r2) (e_wsX11_least_r3))) (e_wsX110)) (e_wsX100)) (e_wsX90)) (e_wsX20)) (e_wsX40)) (e_wsX10)) (e_wsX50))
def q_wsX11_weak_r1 : List Nat := [3078, 3073, 2241, 2226, 2220, 2213, 5142, 3119, 1036, 3120, 3254, 3255, 3256, 1029, 3257, 2219, 2221, 2223, 2225, 3258, 3259, 3260, 1035, 3261]
set_option maxRecDepth 100000 in
theorem e_wsX11_weak_r1 : q_wsX11_weak_r1.map fe = wsX11_weak_r1 := ce fw_3078 (ce fw_3073 (ce fw_2241 (ce fw_2226 (ce fw_2220 (ce fw_2213 (ce fw_5142 (ce fw_3119 (ce fw_1036 (ce fw_3120 (ce fw_3254 (ce fw_3255 (ce fw_3256 (ce fw_1029 (ce fw_3257 (ce fw_2219 (ce fw_2221 (ce fw_2223 (ce fw_2225 (ce fw_3258 (ce fw_3259 (ce fw_3260 (ce fw_1035 (ce fw_3261 (cn))))))))))))))))))))))))
def q_wsX11_weak_r2 : List Nat := [2211, 2209, 3262, 2206, 2207, 2208, 3263, 3124, 3123, 1039, 3264, 3265, 3266, 1030, 3267, 1202, 3268, 1203, 1205, 1207, 3269, 3270, 3271, 1031]
set_option maxRecDepth 100000 in
theorem e_wsX11_weak_r2 : q_wsX11_weak_r2.map fe = wsX11_weak_r2 := ce fw_2211 (ce fw_2209 (ce fw_3262 (ce fw_2206 (ce fw_2207 (ce fw_2208 (ce fw_3263 (ce fw_3124 (ce fw_3123 (ce fw_1039 (ce fw_3264 (ce fw_3265 (ce fw_3266 (ce fw_1030 (ce fw_3267 (ce fw_1202 (ce fw_3268 (ce fw_1203 (ce fw_1205 (ce fw_1207 (ce fw_3269 (ce fw_3270 (ce fw_3271 (ce fw_1031 (cn))))))))))))))))))))))))
def q_wsX11_weak_r3 : List Nat := [3272, 2154, 2156, 2158, 2160, 2162, 2163, 2164, 2166, 2168, 2169, 2170, 2171, 2172, 3273, 3274, 3275, 1032, 3276, 1229, 3277, 1230, 1233, 1236]
set_option maxRecDepth 100000 in
theorem e_wsX11_weak_r3 : q_wsX11_weak_r3.map fe = wsX11_weak_r3 := ce fw_3272 (ce fw_2154 (ce fw_2156 (ce fw_2158 (ce fw_2160 (ce fw_2162 (ce fw_2163 (ce fw_2164 (ce fw_2166 (ce fw_2168 (ce fw_2169 (ce fw_2170 (ce fw_2171 (ce fw_2172 (ce fw_3273 (ce fw_3274 (ce fw_3275 (ce fw_1032 (ce fw_3276 (ce fw_1229 (ce fw_3277 (ce fw_1230 (ce fw_1233 (ce fw_1236 (cn))))))))))))))))))))))))
def q_wsX11_weak_r4 : List Nat := [1237, 1238, 3278, 3279, 3280, 1033, 3281, 1258, 1260, 1262, 2048, 2051, 2053, 2055, 2056, 2057, 2058, 2059, 2061, 2063, 2065, 2067, 2069, 2071]
set_option maxRecDepth 100000 in
theorem e_wsX11_weak_r4 : q_wsX11_weak_r4.map fe = wsX11_weak_r4 := ce fw_1237 (ce fw_1238 (ce fw_3278 (ce fw_3279 (ce fw_3280 (ce fw_1033 (ce fw_3281 (ce fw_1258 (ce fw_1260 (ce fw_1262 (ce fw_2048 (ce fw_2051 (ce fw_2053 (ce fw_2055 (ce fw_2056 (ce fw_2057 (ce fw_2058 (ce fw_2059 (ce fw_2061 (ce fw_2063 (ce fw_2065 (ce fw_2067 (ce fw_2069 (ce fw_2071 (cn))))))))))))))))))))))))
def q_wsX11_weak_r5 : List Nat := [3282, 3283, 3284, 1034, 3285, 2114, 3286, 2115, 2117, 2119, 2120, 4117, 4118, 4119, 4120, 5143, 5145, 26, 1025, 5146, 2224, 2167, 2237, 5147]
set_option maxRecDepth 100000 in
theorem e_wsX11_weak_r5 : q_wsX11_weak_r5.map fe = wsX11_weak_r5 := ce fw_3282 (ce fw_3283 (ce fw_3284 (ce fw_1034 (ce fw_3285 (ce fw_2114 (ce fw_3286 (ce fw_2115 (ce fw_2117 (ce fw_2119 (ce fw_2120 (ce fw_4117 (ce fw_4118 (ce fw_4119 (ce fw_4120 (ce fw_5143 (ce fw_5145 (ce fw_26 (ce fw_1025 (ce fw_5146 (ce fw_2224 (ce fw_2167 (ce fw_2237 (ce fw_5147 (cn))))))))))))))))))))))))
def q_wsX11_weak_r6 : List Nat := [5123, 4146, 4147, 4148, 4149, 4110, 4111, 4112, 4150, 4152, 12, 4153, 1231, 1101, 4154, 4155, 4156, 4157, 1128, 1126, 1087, 1078, 4158, 4159]
set_option maxRecDepth 100000 in
theorem e_wsX11_weak_r6 : q_wsX11_weak_r6.map fe = wsX11_weak_r6 := ce fw_5123 (ce fw_4146 (ce fw_4147 (ce fw_4148 (ce fw_4149 (ce fw_4110 (ce fw_4111 (ce fw_4112 (ce fw_4150 (ce fw_4152 (ce fw_12 (ce fw_4153 (ce fw_1231 (ce fw_1101 (ce fw_4154 (ce fw_4155 (ce fw_4156 (ce fw_4157 (ce fw_1128 (ce fw_1126 (ce fw_1087 (ce fw_1078 (ce fw_4158 (ce fw_4159 (cn))))))))))))))))))))))))
def q_wsX11_weak_r7 : List Nat := [1044, 4160, 4161, 4162, 4163, 4164, 4165, 4166, 1027, 4167, 1086, 4168, 4170, 13, 4171, 2138, 2139, 2140, 2141, 1130, 1116, 4172, 4173, 4174]
set_option maxRecDepth 100000 in
theorem e_wsX11_weak_r7 : q_wsX11_weak_r7.map fe = wsX11_weak_r7 := ce fw_1044 (ce fw_4160 (ce fw_4161 (ce fw_4162 (ce fw_4163 (ce fw_4164 (ce fw_4165 (ce fw_4166 (ce fw_1027 (ce fw_4167 (ce fw_1086 (ce fw_4168 (ce fw_4170 (ce fw_13 (ce fw_4171 (ce fw_2138 (ce fw_2139 (ce fw_2140 (ce fw_2141 (ce fw_1130 (ce fw_1116 (ce fw_4172 (ce fw_4173 (ce fw_4174 (cn))))))))))))))))))))))))
def q_wsX11_weak_r8 : List Nat := [4175, 4176, 4177, 4178, 4179, 4180, 4181, 4182, 4183, 4184, 4185, 4186, 4187, 1127, 1129, 4188, 4189, 4190, 4191, 1077, 4192, 4193, 4195, 14]
set_option maxRecDepth 100000 in
theorem e_wsX11_weak_r8 : q_wsX11_weak_r8.map fe = wsX11_weak_r8 := ce fw_4175 (ce fw_4176 (ce fw_4177 (ce fw_4178 (ce fw_4179 (ce fw_4180 (ce fw_4181 (ce fw_4182 (ce fw_4183 (ce fw_4184 (ce fw_4185 (ce fw_4186 (ce fw_4187 (ce fw_1127 (ce fw_1129 (ce fw_4188 (ce fw_4189 (ce fw_4190 (ce fw_4191 (ce fw_1077 (ce fw_4192 (ce fw_4193 (ce fw_4195 (ce fw_14 (cn))))))))))))))))))))))))
def q_wsX11_weak_r9 : List Nat := [4196, 1119, 1081, 1234, 1124, 4197, 4198, 4200, 15, 4201, 4202, 2151, 2152, 2153, 4203, 4205, 16, 4206, 4207, 4208, 4209, 4210, 4211, 4213]
set_option maxRecDepth 100000 in
theorem e_wsX11_weak_r9 : q_wsX11_weak_r9.map fe = wsX11_weak_r9 := ce fw_4196 (ce fw_1119 (ce fw_1081 (ce fw_1234 (ce fw_1124 (ce fw_4197 (ce fw_4198 (ce fw_4200 (ce fw_15 (ce fw_4201 (ce fw_4202 (ce fw_2151 (ce fw_2152 (ce fw_2153 (ce fw_4203 (ce fw_4205 (ce fw_16 (ce fw_4206 (ce fw_4207 (ce fw_4208 (ce fw_4209 (ce fw_4210 (ce fw_4211 (ce fw_4213 (cn))))))))))))))))))))))))
def q_wsX11_weak_r10 : List Nat := [17, 4214, 4215, 4216, 4218, 18, 4219, 4220, 4221, 4222, 4223, 1117, 4108, 3304, 3305, 3306, 1084, 4109, 4224, 4105, 4106, 4107, 1122, 1091]
set_option maxRecDepth 100000 in
theorem e_wsX11_weak_r10 : q_wsX11_weak_r10.map fe = wsX11_weak_r10 := ce fw_17 (ce fw_4214 (ce fw_4215 (ce fw_4216 (ce fw_4218 (ce fw_18 (ce fw_4219 (ce fw_4220 (ce fw_4221 (ce fw_4222 (ce fw_4223 (ce fw_1117 (ce fw_4108 (ce fw_3304 (ce fw_3305 (ce fw_3306 (ce fw_1084 (ce fw_4109 (ce fw_4224 (ce fw_4105 (ce fw_4106 (ce fw_4107 (ce fw_1122 (ce fw_1091 (cn))))))))))))))))))))))))
def q_wsX11_weak_r11 : List Nat := [4225, 4227, 19, 4228, 4229, 4231, 20, 4232, 1110, 1106, 4233, 4234, 4235, 4236, 4237, 4238, 4239, 4240, 4241, 4242, 4243, 4245, 21, 4246]
set_option maxRecDepth 100000 in
theorem e_wsX11_weak_r11 : q_wsX11_weak_r11.map fe = wsX11_weak_r11 := ce fw_4225 (ce fw_4227 (ce fw_19 (ce fw_4228 (ce fw_4229 (ce fw_4231 (ce fw_20 (ce fw_4232 (ce fw_1110 (ce fw_1106 (ce fw_4233 (ce fw_4234 (ce fw_4235 (ce fw_4236 (ce fw_4237 (ce fw_4238 (ce fw_4239 (ce fw_4240 (ce fw_4241 (ce fw_4242 (ce fw_4243 (ce fw_4245 (ce fw_21 (ce fw_4246 (cn))))))))))))))))))))))))
def q_wsX11_weak_r12 : List Nat := [2150, 4247, 4248, 4249, 4250, 4251, 4253, 22, 4254, 4255, 4256, 4257, 4258, 1114, 1082, 4259, 4261, 23, 4262, 4267, 4263, 4264, 4265, 4266]
set_option maxRecDepth 100000 in
theorem e_wsX11_weak_r12 : q_wsX11_weak_r12.map fe = wsX11_weak_r12 := ce fw_2150 (ce fw_4247 (ce fw_4248 (ce fw_4249 (ce fw_4250 (ce fw_4251 (ce fw_4253 (ce fw_22 (ce fw_4254 (ce fw_4255 (ce fw_4256 (ce fw_4257 (ce fw_4258 (ce fw_1114 (ce fw_1082 (ce fw_4259 (ce fw_4261 (ce fw_23 (ce fw_4262 (ce fw_4267 (ce fw_4263 (ce fw_4264 (ce fw_4265 (ce fw_4266 (cn))))))))))))))))))))))))
def q_wsX11_weak_r13 : List Nat := [1097]
set_option maxRecDepth 100000 in
theorem e_wsX11_weak_r13 : q_wsX11_weak_r13.map fe = wsX11_weak_r13 := ce fw_1097 (cn)
def q_wsX11_weak : List Nat := 5141 :: ((((((((((((q_wsX11_weak_r1) ++ ((q_wsX11_weak_r2) ++ ((q_wsX11_weak_r3) ++ ((q_wsX11_weak_r4) ++ ((q_wsX11_weak_r5) ++ ((q_wsX11_weak_r6) ++ ((q_wsX11_weak_r7) ++ ((q_wsX11_weak_r8) ++ ((q_wsX11_weak_r9) ++ ((q_wsX11_weak_r10) ++ ((q_wsX11_weak_r11) ++ ((q_wsX11_weak_r12) ++ (q_wsX11_weak_r13))))))))))))) ++ (q_wsX110)) ++ (q_wsX100)) ++ (q_wsX90)) ++ (q_wsX20)) ++ (q_wsX60)) ++ (q_wsX40)) ++ (q_wsX10)) ++ (q_wsX70)) ++ (q_wsX00)) ++ (q_wsX50))
set_option maxRecDepth 100000 in
theorem e_wsX11_weak : q_wsX11_weak.map fe = wsX11_weak := ce fw_5141 (ca (ca (ca (ca (ca (ca (ca (ca (ca (ca (ca (e_wsX11_weak_r1) (ca (e_wsX11_weak_r2) (ca (e_wsX11_weak_r3) (ca (e_wsX11_weak_r4) (ca (e_wsX11_weak_r5) (ca (e_wsX11_weak_r6) (ca (e_wsX11_weak_r7) (ca (e_wsX11_weak_r8) (ca (e_wsX11_weak_r9) (ca (e_wsX11_weak_r10) (ca (e_wsX11_weak_r11) (ca (e_wsX11_weak_r12) (e_wsX11_weak_r13))))))))))))) (e_wsX110)) (e_wsX100)) (e_wsX90)) (e_wsX20)) (e_wsX60)) (e_wsX40)) (e_wsX10)) (e_wsX70)) (e_wsX00)) (e_wsX50))
def q_wsX11_firstLoss_r1 : List Nat := [3078, 2224, 3073, 2241, 2167, 2237, 2220, 5147, 3270, 3271, 1031, 3272, 2154, 2156, 2158, 2160, 2162, 2163, 2164, 2166, 2168, 2169, 2170, 2171]
set_option maxRecDepth 100000 in
theorem e_wsX11_firstLoss_r1 : q_wsX11_firstLoss_r1.map fe = wsX11_firstLoss_r1 := ce fw_3078 (ce fw_2224 (ce fw_3073 (ce fw_2241 (ce fw_2167 (ce fw_2237 (ce fw_2220 (ce fw_5147 (ce fw_3270 (ce fw_3271 (ce fw_1031 (ce fw_3272 (ce fw_2154 (ce fw_2156 (ce fw_2158 (ce fw_2160 (ce fw_2162 (ce fw_2163 (ce fw_2164 (ce fw_2166 (ce fw_2168 (ce fw_2169 (ce fw_2170 (ce fw_2171 (cn))))))))))))))))))))))))
def q_wsX11_firstLoss_r2 : List Nat := [2172, 3273, 3274, 3275, 1032, 3276, 1229, 3277, 3124, 3123, 1039, 1230, 1233, 1236, 1237, 1238, 3278, 3279, 3280, 1033, 3281, 1258, 1260, 1262]
set_option maxRecDepth 100000 in
theorem e_wsX11_firstLoss_r2 : q_wsX11_firstLoss_r2.map fe = wsX11_firstLoss_r2 := ce fw_2172 (ce fw_3273 (ce fw_3274 (ce fw_3275 (ce fw_1032 (ce fw_3276 (ce fw_1229 (ce fw_3277 (ce fw_3124 (ce fw_3123 (ce fw_1039 (ce fw_1230 (ce fw_1233 (ce fw_1236 (ce fw_1237 (ce fw_1238 (ce fw_3278 (ce fw_3279 (ce fw_3280 (ce fw_1033 (ce fw_3281 (ce fw_1258 (ce fw_1260 (ce fw_1262 (cn))))))))))))))))))))))))
def q_wsX11_firstLoss_r3 : List Nat := [2048, 2051, 2053, 2055, 2056, 2057, 2058, 2059, 2061, 2063, 2065, 2067, 2069, 2071, 3282, 3283, 3284, 1034, 3285, 2114, 3286, 2115, 2117, 2119]
set_option maxRecDepth 100000 in
theorem e_wsX11_firstLoss_r3 : q_wsX11_firstLoss_r3.map fe = wsX11_firstLoss_r3 := ce fw_2048 (ce fw_2051 (ce fw_2053 (ce fw_2055 (ce fw_2056 (ce fw_2057 (ce fw_2058 (ce fw_2059 (ce fw_2061 (ce fw_2063 (ce fw_2065 (ce fw_2067 (ce fw_2069 (ce fw_2071 (ce fw_3282 (ce fw_3283 (ce fw_3284 (ce fw_1034 (ce fw_3285 (ce fw_2114 (ce fw_3286 (ce fw_2115 (ce fw_2117 (ce fw_2119 (cn))))))))))))))))))))))))
def q_wsX11_firstLoss_r4 : List Nat := [2120, 5123, 4146, 4147, 4148, 4149, 4110, 4111, 1035, 4112, 2211, 2209, 4150, 4152, 12, 4153, 1231, 1101, 4154, 4155, 4156, 4157, 1128, 1126]
set_option maxRecDepth 100000 in
theorem e_wsX11_firstLoss_r4 : q_wsX11_firstLoss_r4.map fe = wsX11_firstLoss_r4 := ce fw_2120 (ce fw_5123 (ce fw_4146 (ce fw_4147 (ce fw_4148 (ce fw_4149 (ce fw_4110 (ce fw_4111 (ce fw_1035 (ce fw_4112 (ce fw_2211 (ce fw_2209 (ce fw_4150 (ce fw_4152 (ce fw_12 (ce fw_4153 (ce fw_1231 (ce fw_1101 (ce fw_4154 (ce fw_4155 (ce fw_4156 (ce fw_4157 (ce fw_1128 (ce fw_1126 (cn))))))))))))))))))))))))
def q_wsX11_firstLoss_r5 : List Nat := [1087, 1078, 4158, 4159, 1044, 4160, 4161, 4162, 4163, 4164, 4165, 4166, 1027, 4167, 1086, 4168, 4170, 13, 4171, 2138, 2139, 2140, 2141, 1130]
set_option maxRecDepth 100000 in
theorem e_wsX11_firstLoss_r5 : q_wsX11_firstLoss_r5.map fe = wsX11_firstLoss_r5 := ce fw_1087 (ce fw_1078 (ce fw_4158 (ce fw_4159 (ce fw_1044 (ce fw_4160 (ce fw_4161 (ce fw_4162 (ce fw_4163 (ce fw_4164 (ce fw_4165 (ce fw_4166 (ce fw_1027 (ce fw_4167 (ce fw_1086 (ce fw_4168 (ce fw_4170 (ce fw_13 (ce fw_4171 (ce fw_2138 (ce fw_2139 (ce fw_2140 (ce fw_2141 (ce fw_1130 (cn))))))))))))))))))))))))
def q_wsX11_firstLoss_r6 : List Nat := [1116, 4172, 4173, 4174, 4175, 4176, 4177, 4178, 4179, 4180, 4181, 4182, 4183, 4184, 4185, 4186, 4187, 1127, 1129, 4188, 4189, 4190, 4191, 1077]
set_option maxRecDepth 100000 in
theorem e_wsX11_firstLoss_r6 : q_wsX11_firstLoss_r6.map fe = wsX11_firstLoss_r6 := ce fw_1116 (ce fw_4172 (ce fw_4173 (ce fw_4174 (ce fw_4175 (ce fw_4176 (ce fw_4177 (ce fw_4178 (ce fw_4179 (ce fw_4180 (ce fw_4181 (ce fw_4182 (ce fw_4183 (ce fw_4184 (ce fw_4185 (ce fw_4186 (ce fw_4187 (ce fw_1127 (ce fw_1129 (ce fw_4188 (ce fw_4189 (ce fw_4190 (ce fw_4191 (ce fw_1077 (cn))))))))))))))))))))))))
def q_wsX11_firstLoss_r7 : List Nat := [4192, 4193, 4195, 14, 4196, 1119, 1081, 1234, 1124, 4197, 4198, 4200, 15, 4201, 4202, 2151, 2152, 2153, 4203, 4205, 16, 4206, 4207, 4208]
set_option maxRecDepth 100000 in
theorem e_wsX11_firstLoss_r7 : q_wsX11_firstLoss_r7.map fe = wsX11_firstLoss_r7 := ce fw_4192 (ce fw_4193 (ce fw_4195 (ce fw_14 (ce fw_4196 (ce fw_1119 (ce fw_1081 (ce fw_1234 (ce fw_1124 (ce fw_4197 (ce fw_4198 (ce fw_4200 (ce fw_15 (ce fw_4201 (ce fw_4202 (ce fw_2151 (ce fw_2152 (ce fw_2153 (ce fw_4203 (ce fw_4205 (ce fw_16 (ce fw_4206 (ce fw_4207 (ce fw_4208 (cn))))))))))))))))))))))))
def q_wsX11_firstLoss_r8 : List Nat := [4209, 4210, 4211, 4213, 17, 4214, 4215, 4216, 4218, 18, 4219, 4220, 4221, 4222, 4223, 1117, 4108, 3304, 3305, 3306, 1084, 4109, 4224, 4105]
set_option maxRecDepth 100000 in
theorem e_wsX11_firstLoss_r8 : q_wsX11_firstLoss_r8.map fe = wsX11_firstLoss_r8 := ce fw_4209 (ce fw_4210 (ce fw_4211 (ce fw_4213 (ce fw_17 (ce fw_4214 (ce fw_4215 (ce fw_4216 (ce fw_4218 (ce fw_18 (ce fw_4219 (ce fw_4220 (ce fw_4221 (ce fw_4222 (ce fw_4223 (ce fw_1117 (ce fw_4108 (ce fw_3304 (ce fw_3305 (ce fw_3306 (ce fw_1084 (ce fw_4109 (ce fw_4224 (ce fw_4105 (cn))))))))))))))))))))))))
def q_wsX11_firstLoss_r9 : List Nat := [4106, 4107, 1122, 1091, 4225, 4227, 19, 4228, 4229, 4231, 20, 4232, 1110, 1106, 4233, 4234, 4235, 4236, 4237, 4238, 4239, 4240, 4241, 4242]
set_option maxRecDepth 100000 in
theorem e_wsX11_firstLoss_r9 : q_wsX11_firstLoss_r9.map fe = wsX11_firstLoss_r9 := ce fw_4106 (ce fw_4107 (ce fw_1122 (ce fw_1091 (ce fw_4225 (ce fw_4227 (ce fw_19 (ce fw_4228 (ce fw_4229 (ce fw_4231 (ce fw_20 (ce fw_4232 (ce fw_1110 (ce fw_1106 (ce fw_4233 (ce fw_4234 (ce fw_4235 (ce fw_4236 (ce fw_4237 (ce fw_4238 (ce fw_4239 (ce fw_4240 (ce fw_4241 (ce fw_4242 (cn))))))))))))))))))))))))
def q_wsX11_firstLoss_r10 : List Nat := [4243, 4245, 21, 4246, 2150, 4247, 4248, 4249, 4250, 4251, 4253, 22, 4254, 4255, 4256, 4257, 4258, 1114, 1082, 4259, 4261, 23, 4262, 4267]
set_option maxRecDepth 100000 in
theorem e_wsX11_firstLoss_r10 : q_wsX11_firstLoss_r10.map fe = wsX11_firstLoss_r10 := ce fw_4243 (ce fw_4245 (ce fw_21 (ce fw_4246 (ce fw_2150 (ce fw_4247 (ce fw_4248 (ce fw_4249 (ce fw_4250 (ce fw_4251 (ce fw_4253 (ce fw_22 (ce fw_4254 (ce fw_4255 (ce fw_4256 (ce fw_4257 (ce fw_4258 (ce fw_1114 (ce fw_1082 (ce fw_4259 (ce fw_4261 (ce fw_23 (ce fw_4262 (ce fw_4267 (cn))))))))))))))))))))))))
def q_wsX11_firstLoss_r11 : List Nat := [3119, 1036, 3120, 4263, 4264, 4265, 4266, 1097]
set_option maxRecDepth 100000 in
theorem e_wsX11_firstLoss_r11 : q_wsX11_firstLoss_r11.map fe = wsX11_firstLoss_r11 := ce fw_3119 (ce fw_1036 (ce fw_3120 (ce fw_4263 (ce fw_4264 (ce fw_4265 (ce fw_4266 (ce fw_1097 (cn))))))))
def q_wsX11_firstLoss : List Nat := 5146 :: (((((((((((q_wsX11_firstLoss_r1) ++ ((q_wsX11_firstLoss_r2) ++ ((q_wsX11_firstLoss_r3) ++ ((q_wsX11_firstLoss_r4) ++ ((q_wsX11_firstLoss_r5) ++ ((q_wsX11_firstLoss_r6) ++ ((q_wsX11_firstLoss_r7) ++ ((q_wsX11_firstLoss_r8) ++ ((q_wsX11_firstLoss_r9) ++ ((q_wsX11_firstLoss_r10) ++ (q_wsX11_firstLoss_r11))))))))))) ++ (q_wsX110)) ++ (q_wsX90)) ++ (q_wsX100)) ++ (q_wsX40)) ++ (q_wsX10)) ++ (q_wsX70)) ++ (q_wsX00)) ++ (q_wsX20)) ++ (q_wsX50))
set_option maxRecDepth 100000 in
theorem e_wsX11_firstLoss : q_wsX11_firstLoss.map fe = wsX11_firstLoss := ce fw_5146 (ca (ca (ca (ca (ca (ca (ca (ca (ca (ca (e_wsX11_firstLoss_r1) (ca (e_wsX11_firstLoss_r2) (ca (e_wsX11_firstLoss_r3) (ca (e_wsX11_firstLoss_r4) (ca (e_wsX11_firstLoss_r5) (ca (e_wsX11_firstLoss_r6) (ca (e_wsX11_firstLoss_r7) (ca (e_wsX11_firstLoss_r8) (ca (e_wsX11_firstLoss_r9) (ca (e_wsX11_firstLoss_r10) (e_wsX11_firstLoss_r11))))))))))) (e_wsX110)) (e_wsX90)) (e_wsX100)) (e_wsX40)) (e_wsX10)) (e_wsX70)) (e_wsX00)) (e_wsX20)) (e_wsX50))
def q_wsX11_image_r1 : List Nat := [3074, 3073, 3075, 5152, 5153, 5154, 1026, 5155, 2236, 2238, 2240, 5156, 3233, 3234, 1027, 3235, 1077, 1084, 3236, 3124, 3123, 1039, 1086, 1091]
set_option maxRecDepth 100000 in
theorem e_wsX11_image_r1 : q_wsX11_image_r1.map fe = wsX11_image_r1 := ce fw_3074 (ce fw_3073 (ce fw_3075 (ce fw_5152 (ce fw_5153 (ce fw_5154 (ce fw_1026 (ce fw_5155 (ce fw_2236 (ce fw_2238 (ce fw_2240 (ce fw_5156 (ce fw_3233 (ce fw_3234 (ce fw_1027 (ce fw_3235 (ce fw_1077 (ce fw_1084 (ce fw_3236 (ce fw_3124 (ce fw_3123 (ce fw_1039 (ce fw_1086 (ce fw_1091 (cn))))))))))))))))))))))))
def q_wsX11_image_r2 : List Nat := [1094, 1097, 1100, 1104, 1108, 1112, 1117, 1120, 1122, 1127, 1129, 1131, 5157, 3115, 3116, 1028, 3117, 1173, 3118, 3119, 1036, 3120, 3121, 2207]
set_option maxRecDepth 100000 in
theorem e_wsX11_image_r2 : q_wsX11_image_r2.map fe = wsX11_image_r2 := ce fw_1094 (ce fw_1097 (ce fw_1100 (ce fw_1104 (ce fw_1108 (ce fw_1112 (ce fw_1117 (ce fw_1120 (ce fw_1122 (ce fw_1127 (ce fw_1129 (ce fw_1131 (ce fw_5157 (ce fw_3115 (ce fw_3116 (ce fw_1028 (ce fw_3117 (ce fw_1173 (ce fw_3118 (ce fw_3119 (ce fw_1036 (ce fw_3120 (ce fw_3121 (ce fw_2207 (cn))))))))))))))))))))))))
def q_wsX11_image_r3 : List Nat := [2208, 1172, 3122, 1177, 1178, 5158, 3255, 3256, 1029, 3257, 2219, 2221, 2223, 2225, 3258, 3259, 3260, 1035, 3261, 2211, 2209, 3262, 2206, 3263]
set_option maxRecDepth 100000 in
theorem e_wsX11_image_r3 : q_wsX11_image_r3.map fe = wsX11_image_r3 := ce fw_2208 (ce fw_1172 (ce fw_3122 (ce fw_1177 (ce fw_1178 (ce fw_5158 (ce fw_3255 (ce fw_3256 (ce fw_1029 (ce fw_3257 (ce fw_2219 (ce fw_2221 (ce fw_2223 (ce fw_2225 (ce fw_3258 (ce fw_3259 (ce fw_3260 (ce fw_1035 (ce fw_3261 (ce fw_2211 (ce fw_2209 (ce fw_3262 (ce fw_2206 (ce fw_3263 (cn))))))))))))))))))))))))
def q_wsX11_image_r4 : List Nat := [3264, 3265, 3266, 1030, 3267, 1202, 3268, 1203, 1205, 1207, 3269, 3270, 3271, 1031, 3272, 2154, 2156, 2158, 2160, 2162, 2163, 2164, 2166, 2168]
set_option maxRecDepth 100000 in
theorem e_wsX11_image_r4 : q_wsX11_image_r4.map fe = wsX11_image_r4 := ce fw_3264 (ce fw_3265 (ce fw_3266 (ce fw_1030 (ce fw_3267 (ce fw_1202 (ce fw_3268 (ce fw_1203 (ce fw_1205 (ce fw_1207 (ce fw_3269 (ce fw_3270 (ce fw_3271 (ce fw_1031 (ce fw_3272 (ce fw_2154 (ce fw_2156 (ce fw_2158 (ce fw_2160 (ce fw_2162 (ce fw_2163 (ce fw_2164 (ce fw_2166 (ce fw_2168 (cn))))))))))))))))))))))))
def q_wsX11_image_r5 : List Nat := [2169, 2170, 2171, 2172, 3273, 3274, 3275, 1032, 3276, 1229, 3277, 1230, 1233, 1236, 1237, 1238, 3278, 3279, 3280, 1033, 3281, 1258, 1260, 1262]
set_option maxRecDepth 100000 in
theorem e_wsX11_image_r5 : q_wsX11_image_r5.map fe = wsX11_image_r5 := ce fw_2169 (ce fw_2170 (ce fw_2171 (ce fw_2172 (ce fw_3273 (ce fw_3274 (ce fw_3275 (ce fw_1032 (ce fw_3276 (ce fw_1229 (ce fw_3277 (ce fw_1230 (ce fw_1233 (ce fw_1236 (ce fw_1237 (ce fw_1238 (ce fw_3278 (ce fw_3279 (ce fw_3280 (ce fw_1033 (ce fw_3281 (ce fw_1258 (ce fw_1260 (ce fw_1262 (cn))))))))))))))))))))))))
def q_wsX11_image_r6 : List Nat := [2048, 2051, 2053, 2055, 2056, 2057, 2058, 2059, 2061, 2063, 2065, 2067, 2069, 2071, 3282, 3283, 3284, 1034, 3285, 2114, 3286, 2115, 2117, 2119]
set_option maxRecDepth 100000 in
theorem e_wsX11_image_r6 : q_wsX11_image_r6.map fe = wsX11_image_r6 := ce fw_2048 (ce fw_2051 (ce fw_2053 (ce fw_2055 (ce fw_2056 (ce fw_2057 (ce fw_2058 (ce fw_2059 (ce fw_2061 (ce fw_2063 (ce fw_2065 (ce fw_2067 (ce fw_2069 (ce fw_2071 (ce fw_3282 (ce fw_3283 (ce fw_3284 (ce fw_1034 (ce fw_3285 (ce fw_2114 (ce fw_3286 (ce fw_2115 (ce fw_2117 (ce fw_2119 (cn))))))))))))))))))))))))
def q_wsX11_image_r7 : List Nat := [2120]
set_option maxRecDepth 100000 in
theorem e_wsX11_image_r7 : q_wsX11_image_r7.map fe = wsX11_image_r7 := ce fw_2120 (cn)
def q_wsX11_image : List Nat := 5151 :: (((((((((((((q_wsX11_image_r1) ++ ((q_wsX11_image_r2) ++ ((q_wsX11_image_r3) ++ ((q_wsX11_image_r4) ++ ((q_wsX11_image_r5) ++ ((q_wsX11_image_r6) ++ (q_wsX11_image_r7))))))) ++ (q_wsX110)) ++ (q_wsX100)) ++ (q_wsX50)) ++ (q_wsX80)) ++ (q_wsX90)) ++ (q_wsX20)) ++ (q_wsX60)) ++ (q_wsX40)) ++ (q_wsX10)) ++ (q_wsX70)) ++ (q_wsX00))
set_option maxRecDepth 100000 in
theorem e_wsX11_image : q_wsX11_image.map fe = wsX11_image := ce fw_5151 (ca (ca (ca (ca (ca (ca (ca (ca (ca (ca (ca (ca (e_wsX11_image_r1) (ca (e_wsX11_image_r2) (ca (e_wsX11_image_r3) (ca (e_wsX11_image_r4) (ca (e_wsX11_image_r5) (ca (e_wsX11_image_r6) (e_wsX11_image_r7))))))) (e_wsX110)) (e_wsX100)) (e_wsX50)) (e_wsX80)) (e_wsX90)) (e_wsX20)) (e_wsX60)) (e_wsX40)) (e_wsX10)) (e_wsX70)) (e_wsX00))
def q_wsX11_again_r1 : List Nat := [3075, 3073, 3074, 3077, 5152, 5153, 5154, 1026, 5155, 2236, 2238, 2240, 5156, 3233, 3234, 1027, 3235, 1077, 1084, 3236, 3124, 3123, 1039, 1086]
set_option maxRecDepth 100000 in
theorem e_wsX11_again_r1 : q_wsX11_again_r1.map fe = wsX11_again_r1 := ce fw_3075 (ce fw_3073 (ce fw_3074 (ce fw_3077 (ce fw_5152 (ce fw_5153 (ce fw_5154 (ce fw_1026 (ce fw_5155 (ce fw_2236 (ce fw_2238 (ce fw_2240 (ce fw_5156 (ce fw_3233 (ce fw_3234 (ce fw_1027 (ce fw_3235 (ce fw_1077 (ce fw_1084 (ce fw_3236 (ce fw_3124 (ce fw_3123 (ce fw_1039 (ce fw_1086 (cn))))))))))))))))))))))))
def q_wsX11_again_r2 : List Nat := [1091, 1094, 1097, 1100, 1104, 1108, 1112, 1117, 1120, 1122, 1127, 1129, 1131, 5157, 3115, 3116, 1028, 3117, 1173, 3118, 3119, 1036, 3120, 3121]
set_option maxRecDepth 100000 in
theorem e_wsX11_again_r2 : q_wsX11_again_r2.map fe = wsX11_again_r2 := ce fw_1091 (ce fw_1094 (ce fw_1097 (ce fw_1100 (ce fw_1104 (ce fw_1108 (ce fw_1112 (ce fw_1117 (ce fw_1120 (ce fw_1122 (ce fw_1127 (ce fw_1129 (ce fw_1131 (ce fw_5157 (ce fw_3115 (ce fw_3116 (ce fw_1028 (ce fw_3117 (ce fw_1173 (ce fw_3118 (ce fw_3119 (ce fw_1036 (ce fw_3120 (ce fw_3121 (cn))))))))))))))))))))))))
def q_wsX11_again_r3 : List Nat := [2207, 2208, 1172, 3122, 1177, 1178, 5158, 3255, 3256, 1029, 3257, 2219, 2221, 2223, 2225, 3258, 3259, 3260, 1035, 3261, 2211, 2209, 3262, 2206]
set_option maxRecDepth 100000 in
theorem e_wsX11_again_r3 : q_wsX11_again_r3.map fe = wsX11_again_r3 := ce fw_2207 (ce fw_2208 (ce fw_1172 (ce fw_3122 (ce fw_1177 (ce fw_1178 (ce fw_5158 (ce fw_3255 (ce fw_3256 (ce fw_1029 (ce fw_3257 (ce fw_2219 (ce fw_2221 (ce fw_2223 (ce fw_2225 (ce fw_3258 (ce fw_3259 (ce fw_3260 (ce fw_1035 (ce fw_3261 (ce fw_2211 (ce fw_2209 (ce fw_3262 (ce fw_2206 (cn))))))))))))))))))))))))
def q_wsX11_again_r4 : List Nat := [3263, 3264, 3265, 3266, 1030, 3267, 1202, 3268, 1203, 1205, 1207, 3269, 3270, 3271, 1031, 3272, 2154, 2156, 2158, 2160, 2162, 2163, 2164, 2166]
set_option maxRecDepth 100000 in
theorem e_wsX11_again_r4 : q_wsX11_again_r4.map fe = wsX11_again_r4 := ce fw_3263 (ce fw_3264 (ce fw_3265 (ce fw_3266 (ce fw_1030 (ce fw_3267 (ce fw_1202 (ce fw_3268 (ce fw_1203 (ce fw_1205 (ce fw_1207 (ce fw_3269 (ce fw_3270 (ce fw_3271 (ce fw_1031 (ce fw_3272 (ce fw_2154 (ce fw_2156 (ce fw_2158 (ce fw_2160 (ce fw_2162 (ce fw_2163 (ce fw_2164 (ce fw_2166 (cn))))))))))))))))))))))))
def q_wsX11_again_r5 : List Nat := [2168, 2169, 2170, 2171, 2172, 3273, 3274, 3275, 1032, 3276, 1229, 3277, 1230, 1233, 1236, 1237, 1238, 3278, 3279, 3280, 1033, 3281, 1258, 1260]
set_option maxRecDepth 100000 in
theorem e_wsX11_again_r5 : q_wsX11_again_r5.map fe = wsX11_again_r5 := ce fw_2168 (ce fw_2169 (ce fw_2170 (ce fw_2171 (ce fw_2172 (ce fw_3273 (ce fw_3274 (ce fw_3275 (ce fw_1032 (ce fw_3276 (ce fw_1229 (ce fw_3277 (ce fw_1230 (ce fw_1233 (ce fw_1236 (ce fw_1237 (ce fw_1238 (ce fw_3278 (ce fw_3279 (ce fw_3280 (ce fw_1033 (ce fw_3281 (ce fw_1258 (ce fw_1260 (cn))))))))))))))))))))))))
def q_wsX11_again_r6 : List Nat := [1262, 2048, 2051, 2053, 2055, 2056, 2057, 2058, 2059, 2061, 2063, 2065, 2067, 2069, 2071, 3282, 3283, 3284, 1034, 3285, 2114, 3286, 2115, 2117]
set_option maxRecDepth 100000 in
theorem e_wsX11_again_r6 : q_wsX11_again_r6.map fe = wsX11_again_r6 := ce fw_1262 (ce fw_2048 (ce fw_2051 (ce fw_2053 (ce fw_2055 (ce fw_2056 (ce fw_2057 (ce fw_2058 (ce fw_2059 (ce fw_2061 (ce fw_2063 (ce fw_2065 (ce fw_2067 (ce fw_2069 (ce fw_2071 (ce fw_3282 (ce fw_3283 (ce fw_3284 (ce fw_1034 (ce fw_3285 (ce fw_2114 (ce fw_3286 (ce fw_2115 (ce fw_2117 (cn))))))))))))))))))))))))
def q_wsX11_again_r7 : List Nat := [2119, 2120]
set_option maxRecDepth 100000 in
theorem e_wsX11_again_r7 : q_wsX11_again_r7.map fe = wsX11_again_r7 := ce fw_2119 (ce fw_2120 (cn))
def q_wsX11_again : List Nat := 5162 :: (((((((((((((q_wsX11_again_r1) ++ ((q_wsX11_again_r2) ++ ((q_wsX11_again_r3) ++ ((q_wsX11_again_r4) ++ ((q_wsX11_again_r5) ++ ((q_wsX11_again_r6) ++ (q_wsX11_again_r7))))))) ++ (q_wsX110)) ++ (q_wsX100)) ++ (q_wsX50)) ++ (q_wsX80)) ++ (q_wsX90)) ++ (q_wsX20)) ++ (q_wsX60)) ++ (q_wsX40)) ++ (q_wsX10)) ++ (q_wsX70)) ++ (q_wsX00))
set_option maxRecDepth 100000 in
theorem e_wsX11_again : q_wsX11_again.map fe = wsX11_again := ce fw_5162 (ca (ca (ca (ca (ca (ca (ca (ca (ca (ca (ca (ca (e_wsX11_again_r1) (ca (e_wsX11_again_r2) (ca (e_wsX11_again_r3) (ca (e_wsX11_again_r4) (ca (e_wsX11_again_r5) (ca (e_wsX11_again_r6) (e_wsX11_again_r7))))))) (e_wsX110)) (e_wsX100)) (e_wsX50)) (e_wsX80)) (e_wsX90)) (e_wsX20)) (e_wsX60)) (e_wsX40)) (e_wsX10)) (e_wsX70)) (e_wsX00))
def q_wsX12_init_r1 : List Nat := [5242, 1055, 1056, 1165, 5264, 1189, 5265, 5266, 3072, 5267, 5268, 5269, 5280, 5243, 5245, 28, 1038, 5246, 5279, 5271, 5247, 5249, 29, 5250]
set_option maxRecDepth 100000 in
theorem e_wsX12_init_r1 : q_wsX12_init_r1.map fe = wsX12_init_r1 := ce fw_5242 (ce fw_1055 (ce fw_1056 (ce fw_1165 (ce fw_5264 (ce fw_1189 (ce fw_5265 (ce fw_5266 (ce fw_3072 (ce fw_5267 (ce fw_5268 (ce fw_5269 (ce fw_5280 (ce fw_5243 (ce fw_5245 (ce fw_28 (ce fw_1038 (ce fw_5246 (ce fw_5279 (ce fw_5271 (ce fw_5247 (ce fw_5249 (ce fw_29 (ce fw_5250 (cn))))))))))))))))))))))))
def q_wsX12_init_r2 : List Nat := [5270, 5251, 5253, 30, 5254, 5255, 5257, 31, 5258, 5259, 5261, 32, 5262]
set_option maxRecDepth 100000 in
theorem e_wsX12_init_r2 : q_wsX12_init_r2.map fe = wsX12_init_r2 := ce fw_5270 (ce fw_5251 (ce fw_5253 (ce fw_30 (ce fw_5254 (ce fw_5255 (ce fw_5257 (ce fw_31 (ce fw_5258 (ce fw_5259 (ce fw_5261 (ce fw_32 (ce fw_5262 (cn)))))))))))))
def q_wsX120 : List Nat := [5282, 5284, 5286, 5288, 5290, 5292, 5294, 5296, 5298, 5300, 5302, 5304, 5306, 5308, 5310, 5312, 5314, 5316, 5318]
theorem e_wsX120 : q_wsX120.map fe = wsX120 := by decide +kernel
def q_wsX12_init : List Nat := 5241 :: (((q_wsX12_init_r1) ++ (q_wsX12_init_r2)) ++ (q_wsX120))
set_option maxRecDepth 100000 in
theorem e_wsX12_init : q_wsX12_init.map fe = wsX12_init := ce fw_5241 (ca (ca (e_wsX12_init_r1) (e_wsX12_init_r2)) (e_wsX120))
def q_wsX12_atFirst : List Nat := 5246 :: (([5280, 5279, 5271]) ++ (q_wsX120))
set_option maxRecDepth 100000 in
theorem e_wsX12_atFirst : q_wsX12_atFirst.map fe = wsX12_atFirst := ce fw_5246 (ca (ce fw_5280 (ce fw_5279 (ce fw_5271 (cn)))) (e_wsX120))
def q_wsX12_taken : List Nat := 5250 :: (([5264, 5280, 5270, 5251, 5253, 30, 1038, 5254, 5255, 5257, 31, 5258, 5259, 5261, 32, 5262]) ++ (q_wsX120))
set_option maxRecDepth 100000 in
theorem e_wsX12_taken : q_wsX12_taken.map fe = wsX12_taken := ce fw_5250 (ca (ce fw_5264 (ce fw_5280 (ce fw_5270 (ce fw_5251 (ce fw_5253 (ce fw_30 (ce fw_1038 (ce fw_5254 (ce fw_5255 (ce fw_5257 (ce fw_31 (ce fw_5258 (ce fw_5259 (ce fw_5261 (ce fw_32 (ce fw_5262 (cn))))))))))))))))) (e_wsX120))
def q_wsX12_checkMany : List Nat := 6188 :: (([5264, 6181, 6183, 43, 1038, 6184]) ++ (q_wsX120))
set_option maxRecDepth 100000 in
theorem e_wsX12_checkMany : q_wsX12_checkMany.map fe = wsX12_checkMany := ce fw_6188 (ca (ce fw_5264 (ce fw_6181 (ce fw_6183 (ce fw_43 (ce fw_1038 (ce fw_6184 (cn))))))) (e_wsX120))
def q_wsX12_roleAt : List Nat := 6184 :: (([5264]) ++ (q_wsX120))
set_option maxRecDepth 100000 in
theorem e_wsX12_roleAt : q_wsX12_roleAt.map fe = wsX12_roleAt := ce fw_6184 (ca (ce fw_5264 (cn)) (e_wsX120))
def q_wsX12_roleOf : List Nat := 6180 :: (([5264, 6181, 6183, 43, 1038, 6184]) ++ (q_wsX120))
set_option maxRecDepth 100000 in
theorem e_wsX12_roleOf : q_wsX12_roleOf.map fe = wsX12_roleOf := ce fw_6180 (ca (ce fw_5264 (ce fw_6181 (ce fw_6183 (ce fw_43 (ce fw_1038 (ce fw_6184 (cn))))))) (e_wsX120))
def q_wsX12_isFixed : List Nat := 6257 :: (([6177, 6179, 42, 1038, 6180, 5264, 6181, 6183, 43, 6184]) ++ (q_wsX120))
set_option maxRecDepth 100000 in
theorem e_wsX12_isFixed : q_wsX12_isFixed.map fe = wsX12_isFixed := ce fw_6257 (ca (ce fw_6177 (ce fw_6179 (ce fw_42 (ce fw_1038 (ce fw_6180 (ce fw_5264 (ce fw_6181 (ce fw_6183 (ce fw_43 (ce fw_6184 (cn))))))))))) (e_wsX120))
def q_wsX12_token : List Nat := 5337 :: (([5271, 5273, 5277, 5274, 5275, 5276, 5338, 5340, 34, 1038, 5341, 5272, 5266, 5342, 5343, 5344]) ++ (q_wsX120))
set_option maxRecDepth 100000 in
theorem e_wsX12_token : q_wsX12_token.map fe = wsX12_token := ce fw_5337 (ca (ce fw_5271 (ce fw_5273 (ce fw_5277 (ce fw_5274 (ce fw_5275 (ce fw_5276 (ce fw_5338 (ce fw_5340 (ce fw_34 (ce fw_1038 (ce fw_5341 (ce fw_5272 (ce fw_5266 (ce fw_5342 (ce fw_5343 (ce fw_5344 (cn))))))))))))))))) (e_wsX120))
def q_wsX12_see : List Nat := 5341 :: (([5271, 5272, 5266]) ++ (q_wsX120))
set_option maxRecDepth 100000 in
theorem e_wsX12_see : q_wsX12_see.map fe = wsX12_see := ce fw_5341 (ca (ce fw_5271 (ce fw_5272 (ce fw_5266 (cn)))) (e_wsX120))
def q_wsX12_in : List Nat := 5344 :: ([])
set_option maxRecDepth 100000 in
theorem e_wsX12_in : q_wsX12_in.map fe = wsX12_in := ce fw_5344 (cn)
def q_wsX12_takes_r1 : List Nat := [5274, 5275, 5273, 5280, 5358, 6144, 38, 1038, 6145, 5278, 5342, 5343, 5344, 6146, 6148, 39, 6149, 5279, 5334, 5336, 33, 5337, 5271, 5277]
set_option maxRecDepth 100000 in
theorem e_wsX12_takes_r1 : q_wsX12_takes_r1.map fe = wsX12_takes_r1 := ce fw_5274 (ce fw_5275 (ce fw_5273 (ce fw_5280 (ce fw_5358 (ce fw_6144 (ce fw_38 (ce fw_1038 (ce fw_6145 (ce fw_5278 (ce fw_5342 (ce fw_5343 (ce fw_5344 (ce fw_6146 (ce fw_6148 (ce fw_39 (ce fw_6149 (ce fw_5279 (ce fw_5334 (ce fw_5336 (ce fw_33 (ce fw_5337 (ce fw_5271 (ce fw_5277 (cn))))))))))))))))))))))))
def q_wsX12_takes_r2 : List Nat := [5276, 5338, 5340, 34, 5341, 5272, 5266]
set_option maxRecDepth 100000 in
theorem e_wsX12_takes_r2 : q_wsX12_takes_r2.map fe = wsX12_takes_r2 := ce fw_5276 (ce fw_5338 (ce fw_5340 (ce fw_34 (ce fw_5341 (ce fw_5272 (ce fw_5266 (cn)))))))
def q_wsX12_takes : List Nat := 6162 :: (((q_wsX12_takes_r1) ++ (q_wsX12_takes_r2)) ++ (q_wsX120))
set_option maxRecDepth 100000 in
theorem e_wsX12_takes : q_wsX12_takes.map fe = wsX12_takes := ce fw_6162 (ca (ca (e_wsX12_takes_r1) (e_wsX12_takes_r2)) (e_wsX120))
def q_wsX12_fails : List Nat := 6145 :: (([5273, 5278]) ++ (q_wsX120))
set_option maxRecDepth 100000 in
theorem e_wsX12_fails : q_wsX12_fails.map fe = wsX12_fails := ce fw_6145 (ca (ce fw_5273 (ce fw_5278 (cn))) (e_wsX120))
def q_wsX12_isBad : List Nat := 6149 :: (([5279]) ++ (q_wsX120))
set_option maxRecDepth 100000 in
theorem e_wsX12_isBad : q_wsX12_isBad.map fe = wsX12_isBad := ce fw_6149 (ca (ce fw_5279 (cn)) (e_wsX120))
def q_wsX12_rolesLine_r1 : List Nat := [5273, 5274, 5276, 5280, 5334, 5336, 33, 1038, 5337, 5271, 5277, 5275, 5338, 5340, 34, 5341, 5272, 5266, 5342, 5343, 5344, 5354, 5356, 37]
set_option maxRecDepth 100000 in
theorem e_wsX12_rolesLine_r1 : q_wsX12_rolesLine_r1.map fe = wsX12_rolesLine_r1 := ce fw_5273 (ce fw_5274 (ce fw_5276 (ce fw_5280 (ce fw_5334 (ce fw_5336 (ce fw_33 (ce fw_1038 (ce fw_5337 (ce fw_5271 (ce fw_5277 (ce fw_5275 (ce fw_5338 (ce fw_5340 (ce fw_34 (ce fw_5341 (ce fw_5272 (ce fw_5266 (ce fw_5342 (ce fw_5343 (ce fw_5344 (ce fw_5354 (ce fw_5356 (ce fw_37 (cn))))))))))))))))))))))))
def q_wsX12_rolesLine_r2 : List Nat := [5357, 5358, 6144, 38, 6145, 5278, 6146, 6148, 39, 6149, 5279, 6150, 6151, 6152]
set_option maxRecDepth 100000 in
theorem e_wsX12_rolesLine_r2 : q_wsX12_rolesLine_r2.map fe = wsX12_rolesLine_r2 := ce fw_5357 (ce fw_5358 (ce fw_6144 (ce fw_38 (ce fw_6145 (ce fw_5278 (ce fw_6146 (ce fw_6148 (ce fw_39 (ce fw_6149 (ce fw_5279 (ce fw_6150 (ce fw_6151 (ce fw_6152 (cn))))))))))))))
def q_wsX12_rolesLine : List Nat := 5353 :: (((q_wsX12_rolesLine_r1) ++ (q_wsX12_rolesLine_r2)) ++ (q_wsX120))
set_option maxRecDepth 100000 in
theorem e_wsX12_rolesLine : q_wsX12_rolesLine.map fe = wsX12_rolesLine := ce fw_5353 (ca (ca (e_wsX12_rolesLine_r1) (e_wsX12_rolesLine_r2)) (e_wsX120))
def q_wsX12_isRoleToken : List Nat := 5357 :: (([5276, 5266, 5273, 5274, 5280]) ++ (q_wsX120))
set_option maxRecDepth 100000 in
theorem e_wsX12_isRoleToken : q_wsX12_isRoleToken.map fe = wsX12_isRoleToken := ce fw_5357 (ca (ce fw_5276 (ce fw_5266 (ce fw_5273 (ce fw_5274 (ce fw_5280 (cn)))))) (e_wsX120))
def q_wsX12_lesser : List Nat := 6152 :: ([])
set_option maxRecDepth 100000 in
theorem e_wsX12_lesser : q_wsX12_lesser.map fe = wsX12_lesser := ce fw_6152 (cn)
def q_wsX12_driftLine_r1 : List Nat := [5280, 5334, 5336, 33, 1038, 5337, 5271, 5273, 5277, 5274, 5275, 5276, 5338, 5340, 34, 5341, 5272, 5266, 5342, 5343, 5344, 6159, 6161, 41]
set_option maxRecDepth 100000 in
theorem e_wsX12_driftLine_r1 : q_wsX12_driftLine_r1.map fe = wsX12_driftLine_r1 := ce fw_5280 (ce fw_5334 (ce fw_5336 (ce fw_33 (ce fw_1038 (ce fw_5337 (ce fw_5271 (ce fw_5273 (ce fw_5277 (ce fw_5274 (ce fw_5275 (ce fw_5276 (ce fw_5338 (ce fw_5340 (ce fw_34 (ce fw_5341 (ce fw_5272 (ce fw_5266 (ce fw_5342 (ce fw_5343 (ce fw_5344 (ce fw_6159 (ce fw_6161 (ce fw_41 (cn))))))))))))))))))))))))
def q_wsX12_driftLine_r2 : List Nat := [6162, 5358, 6144, 38, 6145, 5278, 6146, 6148, 39, 6149, 5279]
set_option maxRecDepth 100000 in
theorem e_wsX12_driftLine_r2 : q_wsX12_driftLine_r2.map fe = wsX12_driftLine_r2 := ce fw_6162 (ce fw_5358 (ce fw_6144 (ce fw_38 (ce fw_6145 (ce fw_5278 (ce fw_6146 (ce fw_6148 (ce fw_39 (ce fw_6149 (ce fw_5279 (cn)))))))))))
def q_wsX12_driftLine : List Nat := 6158 :: (((q_wsX12_driftLine_r1) ++ (q_wsX12_driftLine_r2)) ++ (q_wsX120))
set_option maxRecDepth 100000 in
theorem e_wsX12_driftLine : q_wsX12_driftLine.map fe = wsX12_driftLine := ce fw_6158 (ca (ca (e_wsX12_driftLine_r1) (e_wsX12_driftLine_r2)) (e_wsX120))
def q_wsX12_line_r1 : List Nat := [5274, 5277, 5349, 6153, 6154, 6163, 5280, 6164, 6165, 6166, 6167, 6168, 5350, 5352, 36, 1038, 5353, 5273, 5276, 5334, 5336, 33, 5337, 5271]
set_option maxRecDepth 100000 in
theorem e_wsX12_line_r1 : q_wsX12_line_r1.map fe = wsX12_line_r1 := ce fw_5274 (ce fw_5277 (ce fw_5349 (ce fw_6153 (ce fw_6154 (ce fw_6163 (ce fw_5280 (ce fw_6164 (ce fw_6165 (ce fw_6166 (ce fw_6167 (ce fw_6168 (ce fw_5350 (ce fw_5352 (ce fw_36 (ce fw_1038 (ce fw_5353 (ce fw_5273 (ce fw_5276 (ce fw_5334 (ce fw_5336 (ce fw_33 (ce fw_5337 (ce fw_5271 (cn))))))))))))))))))))))))
def q_wsX12_line_r2 : List Nat := [5275, 5338, 5340, 34, 5341, 5272, 5266, 5342, 5343, 5344, 5354, 5356, 37, 5357, 5358, 6144, 38, 6145, 5278, 6146, 6148, 39, 6149, 5279]
set_option maxRecDepth 100000 in
theorem e_wsX12_line_r2 : q_wsX12_line_r2.map fe = wsX12_line_r2 := ce fw_5275 (ce fw_5338 (ce fw_5340 (ce fw_34 (ce fw_5341 (ce fw_5272 (ce fw_5266 (ce fw_5342 (ce fw_5343 (ce fw_5344 (ce fw_5354 (ce fw_5356 (ce fw_37 (ce fw_5357 (ce fw_5358 (ce fw_6144 (ce fw_38 (ce fw_6145 (ce fw_5278 (ce fw_6146 (ce fw_6148 (ce fw_39 (ce fw_6149 (ce fw_5279 (cn))))))))))))))))))))))))
def q_wsX12_line_r3 : List Nat := [6150, 6151, 6152, 6155, 6157, 40, 6158, 6159, 6161, 41, 6162]
set_option maxRecDepth 100000 in
theorem e_wsX12_line_r3 : q_wsX12_line_r3.map fe = wsX12_line_r3 := ce fw_6150 (ce fw_6151 (ce fw_6152 (ce fw_6155 (ce fw_6157 (ce fw_40 (ce fw_6158 (ce fw_6159 (ce fw_6161 (ce fw_41 (ce fw_6162 (cn)))))))))))
def q_wsX12_line : List Nat := 5348 :: (((q_wsX12_line_r1) ++ ((q_wsX12_line_r2) ++ (q_wsX12_line_r3))) ++ (q_wsX120))
set_option maxRecDepth 100000 in
theorem e_wsX12_line : q_wsX12_line.map fe = wsX12_line := ce fw_5348 (ca (ca (e_wsX12_line_r1) (ca (e_wsX12_line_r2) (e_wsX12_line_r3))) (e_wsX120))
def q_wsX12_begins : List Nat := 5254 :: (([5264, 5255, 5257, 31, 1038, 5258, 5259, 5261, 32, 5262]) ++ (q_wsX120))
set_option maxRecDepth 100000 in
theorem e_wsX12_begins : q_wsX12_begins.map fe = wsX12_begins := ce fw_5254 (ca (ce fw_5264 (ce fw_5255 (ce fw_5257 (ce fw_31 (ce fw_1038 (ce fw_5258 (ce fw_5259 (ce fw_5261 (ce fw_32 (ce fw_5262 (cn))))))))))) (e_wsX120))
def q_wsX12_scheme_r1 : List Nat := [5263, 5264, 5272, 5274, 5279, 5278, 5243, 5245, 28, 1038, 5246, 5280, 5271, 5334, 5336, 33, 5337, 5273, 5277, 5275, 5276, 5338, 5340, 34]
set_option maxRecDepth 100000 in
theorem e_wsX12_scheme_r1 : q_wsX12_scheme_r1.map fe = wsX12_scheme_r1 := ce fw_5263 (ce fw_5264 (ce fw_5272 (ce fw_5274 (ce fw_5279 (ce fw_5278 (ce fw_5243 (ce fw_5245 (ce fw_28 (ce fw_1038 (ce fw_5246 (ce fw_5280 (ce fw_5271 (ce fw_5334 (ce fw_5336 (ce fw_33 (ce fw_5337 (ce fw_5273 (ce fw_5277 (ce fw_5275 (ce fw_5276 (ce fw_5338 (ce fw_5340 (ce fw_34 (cn))))))))))))))))))))))))
def q_wsX12_scheme_r2 : List Nat := [5341, 5266, 5342, 5343, 5344, 5345, 5347, 35, 5348, 5349, 6153, 6154, 6163, 6164, 6165, 6166, 6167, 6168, 5350, 5352, 36, 5353, 5354, 5356]
set_option maxRecDepth 100000 in
theorem e_wsX12_scheme_r2 : q_wsX12_scheme_r2.map fe = wsX12_scheme_r2 := ce fw_5341 (ce fw_5266 (ce fw_5342 (ce fw_5343 (ce fw_5344 (ce fw_5345 (ce fw_5347 (ce fw_35 (ce fw_5348 (ce fw_5349 (ce fw_6153 (ce fw_6154 (ce fw_6163 (ce fw_6164 (ce fw_6165 (ce fw_6166 (ce fw_6167 (ce fw_6168 (ce fw_5350 (ce fw_5352 (ce fw_36 (ce fw_5353 (ce fw_5354 (ce fw_5356 (cn))))))))))))))))))))))))
def q_wsX12_scheme_r3 : List Nat := [37, 5357, 5358, 6144, 38, 6145, 6146, 6148, 39, 6149, 6150, 6151, 6152, 6155, 6157, 40, 6158, 6159, 6161, 41, 6162, 5247, 5249, 29]
set_option maxRecDepth 100000 in
theorem e_wsX12_scheme_r3 : q_wsX12_scheme_r3.map fe = wsX12_scheme_r3 := ce fw_37 (ce fw_5357 (ce fw_5358 (ce fw_6144 (ce fw_38 (ce fw_6145 (ce fw_6146 (ce fw_6148 (ce fw_39 (ce fw_6149 (ce fw_6150 (ce fw_6151 (ce fw_6152 (ce fw_6155 (ce fw_6157 (ce fw_40 (ce fw_6158 (ce fw_6159 (ce fw_6161 (ce fw_41 (ce fw_6162 (ce fw_5247 (ce fw_5249 (ce fw_29 (cn))))))))))))))))))))))))
def q_wsX12_scheme_r4 : List Nat := [5250, 5270, 5251, 5253, 30, 5254, 5255, 5257, 31, 5258, 5259, 5261, 32, 5262]
set_option maxRecDepth 100000 in
theorem e_wsX12_scheme_r4 : q_wsX12_scheme_r4.map fe = wsX12_scheme_r4 := ce fw_5250 (ce fw_5270 (ce fw_5251 (ce fw_5253 (ce fw_30 (ce fw_5254 (ce fw_5255 (ce fw_5257 (ce fw_31 (ce fw_5258 (ce fw_5259 (ce fw_5261 (ce fw_32 (ce fw_5262 (cn))))))))))))))
def q_wsX12_scheme : List Nat := 5333 :: (((q_wsX12_scheme_r1) ++ ((q_wsX12_scheme_r2) ++ ((q_wsX12_scheme_r3) ++ (q_wsX12_scheme_r4)))) ++ (q_wsX120))
set_option maxRecDepth 100000 in
theorem e_wsX12_scheme : q_wsX12_scheme.map fe = wsX12_scheme := ce fw_5333 (ca (ca (e_wsX12_scheme_r1) (ca (e_wsX12_scheme_r2) (ca (e_wsX12_scheme_r3) (e_wsX12_scheme_r4)))) (e_wsX120))
def q_wsX12_round : List Nat := 5262 :: (([5264]) ++ (q_wsX120))
set_option maxRecDepth 100000 in
theorem e_wsX12_round : q_wsX12_round.map fe = wsX12_round := ce fw_5262 (ca (ce fw_5264 (cn)) (e_wsX120))
def q_wsX12_checks_r1 : List Nat := [5263, 5264, 5265, 5259, 5261, 32, 1038, 5262, 5342, 5343, 5344, 6177, 6179, 42, 6180, 6181, 6183, 43, 6184, 6185, 6187, 44, 6188, 6189]
set_option maxRecDepth 100000 in
theorem e_wsX12_checks_r1 : q_wsX12_checks_r1.map fe = wsX12_checks_r1 := ce fw_5263 (ce fw_5264 (ce fw_5265 (ce fw_5259 (ce fw_5261 (ce fw_32 (ce fw_1038 (ce fw_5262 (ce fw_5342 (ce fw_5343 (ce fw_5344 (ce fw_6177 (ce fw_6179 (ce fw_42 (ce fw_6180 (ce fw_6181 (ce fw_6183 (ce fw_43 (ce fw_6184 (ce fw_6185 (ce fw_6187 (ce fw_44 (ce fw_6188 (ce fw_6189 (cn))))))))))))))))))))))))
def q_wsX12_checks_r2 : List Nat := [6191, 45, 6192]
set_option maxRecDepth 100000 in
theorem e_wsX12_checks_r2 : q_wsX12_checks_r2.map fe = wsX12_checks_r2 := ce fw_6191 (ce fw_45 (ce fw_6192 (cn)))
def q_wsX12_checks : List Nat := 6176 :: (((q_wsX12_checks_r1) ++ (q_wsX12_checks_r2)) ++ (q_wsX120))
set_option maxRecDepth 100000 in
theorem e_wsX12_checks : q_wsX12_checks.map fe = wsX12_checks := ce fw_6176 (ca (ca (e_wsX12_checks_r1) (e_wsX12_checks_r2)) (e_wsX120))
def q_wsX12_goesOn : List Nat := 6192 :: (([5264]) ++ (q_wsX120))
set_option maxRecDepth 100000 in
theorem e_wsX12_goesOn : q_wsX12_goesOn.map fe = wsX12_goesOn := ce fw_6192 (ca (ce fw_5264 (cn)) (e_wsX120))
def q_wsX12_sendsOne_r1 : List Nat := [5264, 5265, 6185, 6187, 44, 1038, 6188, 6181, 6183, 43, 6184, 5259, 5261, 32, 5262, 6177, 6179, 42, 6180, 6213, 6215, 49, 6216, 5281]
set_option maxRecDepth 100000 in
theorem e_wsX12_sendsOne_r1 : q_wsX12_sendsOne_r1.map fe = wsX12_sendsOne_r1 := ce fw_5264 (ce fw_5265 (ce fw_6185 (ce fw_6187 (ce fw_44 (ce fw_1038 (ce fw_6188 (ce fw_6181 (ce fw_6183 (ce fw_43 (ce fw_6184 (ce fw_5259 (ce fw_5261 (ce fw_32 (ce fw_5262 (ce fw_6177 (ce fw_6179 (ce fw_42 (ce fw_6180 (ce fw_6213 (ce fw_6215 (ce fw_49 (ce fw_6216 (ce fw_5281 (cn))))))))))))))))))))))))
def q_wsX12_sendsOne_r2 : List Nat := [6217, 6218, 6220, 50, 6221, 6189, 6191, 45, 6192]
set_option maxRecDepth 100000 in
theorem e_wsX12_sendsOne_r2 : q_wsX12_sendsOne_r2.map fe = wsX12_sendsOne_r2 := ce fw_6217 (ce fw_6218 (ce fw_6220 (ce fw_50 (ce fw_6221 (ce fw_6189 (ce fw_6191 (ce fw_45 (ce fw_6192 (cn)))))))))
def q_wsX12_sendsOne : List Nat := 6212 :: (((q_wsX12_sendsOne_r1) ++ (q_wsX12_sendsOne_r2)) ++ (q_wsX120))
set_option maxRecDepth 100000 in
theorem e_wsX12_sendsOne : q_wsX12_sendsOne.map fe = wsX12_sendsOne := ce fw_6212 (ca (ca (e_wsX12_sendsOne_r1) (e_wsX12_sendsOne_r2)) (e_wsX120))
def q_wsX12_drawn : List Nat := 6216 :: (([5281, 6217]) ++ (q_wsX120))
set_option maxRecDepth 100000 in
theorem e_wsX12_drawn : q_wsX12_drawn.map fe = wsX12_drawn := ce fw_6216 (ca (ce fw_5281 (ce fw_6217 (cn))) (e_wsX120))
def q_wsX12_linked : List Nat := 6221 :: (([5264]) ++ (q_wsX120))
set_option maxRecDepth 100000 in
theorem e_wsX12_linked : q_wsX12_linked.map fe = wsX12_linked := ce fw_6221 (ca (ce fw_5264 (cn)) (e_wsX120))
def q_wsX12_sends_r1 : List Nat := [5281, 6209, 6211, 48, 1038, 6212, 5264, 5265, 6185, 6187, 44, 6188, 6181, 6183, 43, 6184, 5259, 5261, 32, 5262, 6177, 6179, 42, 6180]
set_option maxRecDepth 100000 in
theorem e_wsX12_sends_r1 : q_wsX12_sends_r1.map fe = wsX12_sends_r1 := ce fw_5281 (ce fw_6209 (ce fw_6211 (ce fw_48 (ce fw_1038 (ce fw_6212 (ce fw_5264 (ce fw_5265 (ce fw_6185 (ce fw_6187 (ce fw_44 (ce fw_6188 (ce fw_6181 (ce fw_6183 (ce fw_43 (ce fw_6184 (ce fw_5259 (ce fw_5261 (ce fw_32 (ce fw_5262 (ce fw_6177 (ce fw_6179 (ce fw_42 (ce fw_6180 (cn))))))))))))))))))))))))
def q_wsX12_sends_r2 : List Nat := [6213, 6215, 49, 6216, 6217, 6218, 6220, 50, 6221, 6189, 6191, 45, 6192]
set_option maxRecDepth 100000 in
theorem e_wsX12_sends_r2 : q_wsX12_sends_r2.map fe = wsX12_sends_r2 := ce fw_6213 (ce fw_6215 (ce fw_49 (ce fw_6216 (ce fw_6217 (ce fw_6218 (ce fw_6220 (ce fw_50 (ce fw_6221 (ce fw_6189 (ce fw_6191 (ce fw_45 (ce fw_6192 (cn)))))))))))))
def q_wsX12_sends : List Nat := 6208 :: (((q_wsX12_sends_r1) ++ (q_wsX12_sends_r2)) ++ (q_wsX120))
set_option maxRecDepth 100000 in
theorem e_wsX12_sends : q_wsX12_sends.map fe = wsX12_sends := ce fw_6208 (ca (ca (e_wsX12_sends_r1) (e_wsX12_sends_r2)) (e_wsX120))
def q_wsX12_hunts : List Nat := 5258 :: (([5264, 5259, 5261, 32, 1038, 5262]) ++ (q_wsX120))
set_option maxRecDepth 100000 in
theorem e_wsX12_hunts : q_wsX12_hunts.map fe = wsX12_hunts := ce fw_5258 (ca (ce fw_5264 (ce fw_5259 (ce fw_5261 (ce fw_32 (ce fw_1038 (ce fw_5262 (cn))))))) (e_wsX120))
def q_wsX12_leftMany : List Nat := 6261 :: (([5264, 6262, 6263, 1038, 6264]) ++ (q_wsX120))
set_option maxRecDepth 100000 in
theorem e_wsX12_leftMany : q_wsX12_leftMany.map fe = wsX12_leftMany := ce fw_6261 (ca (ce fw_5264 (ce fw_6262 (ce fw_6263 (ce fw_1038 (ce fw_6264 (cn)))))) (e_wsX120))
def q_wsX12_ones : List Nat := 6264 :: ([])
set_option maxRecDepth 100000 in
theorem e_wsX12_ones : q_wsX12_ones.map fe = wsX12_ones := ce fw_6264 (cn)
def q_wsX12_strikes : List Nat := 6249 :: (([5264, 5259, 5261, 32, 1038, 5262, 6250, 6252, 54, 6253, 6254, 6256, 55, 6257, 6177, 6179, 42, 6180, 6181, 6183, 43, 6184]) ++ (q_wsX120))
set_option maxRecDepth 100000 in
theorem e_wsX12_strikes : q_wsX12_strikes.map fe = wsX12_strikes := ce fw_6249 (ca (ce fw_5264 (ce fw_5259 (ce fw_5261 (ce fw_32 (ce fw_1038 (ce fw_5262 (ce fw_6250 (ce fw_6252 (ce fw_54 (ce fw_6253 (ce fw_6254 (ce fw_6256 (ce fw_55 (ce fw_6257 (ce fw_6177 (ce fw_6179 (ce fw_42 (ce fw_6180 (ce fw_6181 (ce fw_6183 (ce fw_43 (ce fw_6184 (cn))))))))))))))))))))))) (e_wsX120))
