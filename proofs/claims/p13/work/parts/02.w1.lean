def q_wsX9_init_r4 : List Nat := [1117, 1120, 1122, 1127, 1129, 1131, 2134, 2135, 2136, 2137, 2154, 2162, 2163, 2164, 2166, 2168, 2169, 2170, 2171, 2172, 2138, 2139, 2140, 2141]
set_option maxRecDepth 100000 in
theorem e_wsX9_init_r4 : q_wsX9_init_r4.map fe = wsX9_init_r4 := ce fw_1117 (ce fw_1120 (ce fw_1122 (ce fw_1127 (ce fw_1129 (ce fw_1131 (ce fw_2134 (ce fw_2135 (ce fw_2136 (ce fw_2137 (ce fw_2154 (ce fw_2162 (ce fw_2163 (ce fw_2164 (ce fw_2166 (ce fw_2168 (ce fw_2169 (ce fw_2170 (ce fw_2171 (ce fw_2172 (ce fw_2138 (ce fw_2139 (ce fw_2140 (ce fw_2141 (cn))))))))))))))))))))))))
def q_wsX9_init_r5 : List Nat := [1078, 1130, 1116, 1230, 1233, 1236, 1237, 1238, 2142, 2143, 2144, 2145, 1258, 1260, 1262, 2048, 2051, 2053, 2065, 2146, 2147, 2148, 2149, 2115]
set_option maxRecDepth 100000 in
theorem e_wsX9_init_r5 : q_wsX9_init_r5.map fe = wsX9_init_r5 := ce fw_1078 (ce fw_1130 (ce fw_1116 (ce fw_1230 (ce fw_1233 (ce fw_1236 (ce fw_1237 (ce fw_1238 (ce fw_2142 (ce fw_2143 (ce fw_2144 (ce fw_2145 (ce fw_1258 (ce fw_1260 (ce fw_1262 (ce fw_2048 (ce fw_2051 (ce fw_2053 (ce fw_2065 (ce fw_2146 (ce fw_2147 (ce fw_2148 (ce fw_2149 (ce fw_2115 (cn))))))))))))))))))))))))
def q_wsX9_init_r6 : List Nat := [2117, 2150, 2151, 2152, 2153, 2119, 2120, 2202, 2203, 2204, 2205, 2206, 2207, 1036, 2208, 1189, 2209]
set_option maxRecDepth 100000 in
theorem e_wsX9_init_r6 : q_wsX9_init_r6.map fe = wsX9_init_r6 := ce fw_2117 (ce fw_2150 (ce fw_2151 (ce fw_2152 (ce fw_2153 (ce fw_2119 (ce fw_2120 (ce fw_2202 (ce fw_2203 (ce fw_2204 (ce fw_2205 (ce fw_2206 (ce fw_2207 (ce fw_1036 (ce fw_2208 (ce fw_1189 (ce fw_2209 (cn)))))))))))))))))
def q_wsX90 : List Nat := [2227, 2229, 2231, 2233]
theorem e_wsX90 : q_wsX90.map fe = wsX90 := by decide +kernel
def q_wsX9_init : List Nat := 1194 :: ((((((((((q_wsX9_init_r1) ++ ((q_wsX9_init_r2) ++ ((q_wsX9_init_r3) ++ ((q_wsX9_init_r4) ++ ((q_wsX9_init_r5) ++ (q_wsX9_init_r6)))))) ++ (q_wsX60)) ++ (q_wsX90)) ++ (q_wsX40)) ++ (q_wsX20)) ++ (q_wsX10)) ++ (q_wsX70)) ++ (q_wsX00)) ++ (q_wsX50))
set_option maxRecDepth 100000 in
theorem e_wsX9_init : q_wsX9_init.map fe = wsX9_init := ce fw_1194 (ca (ca (ca (ca (ca (ca (ca (ca (ca (e_wsX9_init_r1) (ca (e_wsX9_init_r2) (ca (e_wsX9_init_r3) (ca (e_wsX9_init_r4) (ca (e_wsX9_init_r5) (e_wsX9_init_r6)))))) (e_wsX60)) (e_wsX90)) (e_wsX40)) (e_wsX20)) (e_wsX10)) (e_wsX70)) (e_wsX00)) (e_wsX50))
def q_wsX6_init : List Nat := 1200 :: (([1201, 1055, 1056, 1165, 1202]) ++ (q_wsX60))
set_option maxRecDepth 100000 in
theorem e_wsX6_init : q_wsX6_init.map fe = wsX6_init := ce fw_1200 (ca (ce fw_1201 (ce fw_1055 (ce fw_1056 (ce fw_1165 (ce fw_1202 (cn)))))) (e_wsX60))
def q_wsX2_init : List Nat := 2204 :: (([2205, 1055, 1056, 2206, 2207, 1036, 2208, 1189, 2209]) ++ (q_wsX20))
set_option maxRecDepth 100000 in
theorem e_wsX2_init : q_wsX2_init.map fe = wsX2_init := ce fw_2204 (ca (ce fw_2205 (ce fw_1055 (ce fw_1056 (ce fw_2206 (ce fw_2207 (ce fw_1036 (ce fw_2208 (ce fw_1189 (ce fw_2209 (cn)))))))))) (e_wsX20))
def q_wsX9_restart_r1 : List Nat := [2219, 2210, 2225, 2221, 1206, 2223, 3241, 2135, 2136, 1031, 2137, 2154, 2156, 2158, 2160, 2162, 2163, 2164, 2166, 2168, 2169, 2170, 2171, 2172]
set_option maxRecDepth 100000 in
theorem e_wsX9_restart_r1 : q_wsX9_restart_r1.map fe = wsX9_restart_r1 := ce fw_2219 (ce fw_2210 (ce fw_2225 (ce fw_2221 (ce fw_1206 (ce fw_2223 (ce fw_3241 (ce fw_2135 (ce fw_2136 (ce fw_1031 (ce fw_2137 (ce fw_2154 (ce fw_2156 (ce fw_2158 (ce fw_2160 (ce fw_2162 (ce fw_2163 (ce fw_2164 (ce fw_2166 (ce fw_2168 (ce fw_2169 (ce fw_2170 (ce fw_2171 (ce fw_2172 (cn))))))))))))))))))))))))
def q_wsX9_restart_r2 : List Nat := [2138, 2139, 2140, 1032, 2141, 1078, 1229, 1130, 1116, 1230, 1233, 1236, 1237, 1238, 2142, 2143, 2144, 1033, 2145, 1258, 1260, 1262, 2048, 2051]
set_option maxRecDepth 100000 in
theorem e_wsX9_restart_r2 : q_wsX9_restart_r2.map fe = wsX9_restart_r2 := ce fw_2138 (ce fw_2139 (ce fw_2140 (ce fw_1032 (ce fw_2141 (ce fw_1078 (ce fw_1229 (ce fw_1130 (ce fw_1116 (ce fw_1230 (ce fw_1233 (ce fw_1236 (ce fw_1237 (ce fw_1238 (ce fw_2142 (ce fw_2143 (ce fw_2144 (ce fw_1033 (ce fw_2145 (ce fw_1258 (ce fw_1260 (ce fw_1262 (ce fw_2048 (ce fw_2051 (cn))))))))))))))))))))))))
def q_wsX9_restart_r3 : List Nat := [2053, 2065, 2146, 2147, 2148, 1034, 2149, 2115, 2117, 2150, 2151, 2152, 2153, 2119, 2120]
set_option maxRecDepth 100000 in
theorem e_wsX9_restart_r3 : q_wsX9_restart_r3.map fe = wsX9_restart_r3 := ce fw_2053 (ce fw_2065 (ce fw_2146 (ce fw_2147 (ce fw_2148 (ce fw_1034 (ce fw_2149 (ce fw_2115 (ce fw_2117 (ce fw_2150 (ce fw_2151 (ce fw_2152 (ce fw_2153 (ce fw_2119 (ce fw_2120 (cn)))))))))))))))
def q_wsX9_restart : List Nat := 3240 :: ((((((((((q_wsX9_restart_r1) ++ ((q_wsX9_restart_r2) ++ (q_wsX9_restart_r3))) ++ (q_wsX90)) ++ (q_wsX20)) ++ (q_wsX60)) ++ (q_wsX40)) ++ (q_wsX50)) ++ (q_wsX10)) ++ (q_wsX70)) ++ (q_wsX00))
set_option maxRecDepth 100000 in
theorem e_wsX9_restart : q_wsX9_restart.map fe = wsX9_restart := ce fw_3240 (ca (ca (ca (ca (ca (ca (ca (ca (ca (e_wsX9_restart_r1) (ca (e_wsX9_restart_r2) (e_wsX9_restart_r3))) (e_wsX90)) (e_wsX20)) (e_wsX60)) (e_wsX40)) (e_wsX50)) (e_wsX10)) (e_wsX70)) (e_wsX00))
def q_wsX9_listen_r1 : List Nat := [2225, 2223, 2219, 4145, 4146, 4147, 1031, 4148, 2170, 2154, 2158, 4149, 4110, 4111, 1035, 4112, 2211, 2209, 4150, 4152, 12, 4153, 2156, 1231]
set_option maxRecDepth 100000 in
theorem e_wsX9_listen_r1 : q_wsX9_listen_r1.map fe = wsX9_listen_r1 := ce fw_2225 (ce fw_2223 (ce fw_2219 (ce fw_4145 (ce fw_4146 (ce fw_4147 (ce fw_1031 (ce fw_4148 (ce fw_2170 (ce fw_2154 (ce fw_2158 (ce fw_4149 (ce fw_4110 (ce fw_4111 (ce fw_1035 (ce fw_4112 (ce fw_2211 (ce fw_2209 (ce fw_4150 (ce fw_4152 (ce fw_12 (ce fw_4153 (ce fw_2156 (ce fw_1231 (cn))))))))))))))))))))))))
def q_wsX9_listen_r2 : List Nat := [1101, 4154, 4155, 4156, 1032, 4157, 1236, 1128, 1126, 1237, 1087, 1229, 1230, 1233, 1078, 4158, 4159, 1044, 4160, 4161, 4162, 4163, 4164, 4165]
set_option maxRecDepth 100000 in
theorem e_wsX9_listen_r2 : q_wsX9_listen_r2.map fe = wsX9_listen_r2 := ce fw_1101 (ce fw_4154 (ce fw_4155 (ce fw_4156 (ce fw_1032 (ce fw_4157 (ce fw_1236 (ce fw_1128 (ce fw_1126 (ce fw_1237 (ce fw_1087 (ce fw_1229 (ce fw_1230 (ce fw_1233 (ce fw_1078 (ce fw_4158 (ce fw_4159 (ce fw_1044 (ce fw_4160 (ce fw_4161 (ce fw_4162 (ce fw_4163 (ce fw_4164 (ce fw_4165 (cn))))))))))))))))))))))))
def q_wsX9_listen_r3 : List Nat := [4166, 1027, 4167, 1086, 4168, 4170, 13, 4171, 2162, 2138, 2139, 2140, 2141, 1130, 1116, 1238, 4172, 4173, 4174, 4175, 4176, 4177, 4178, 4179]
set_option maxRecDepth 100000 in
theorem e_wsX9_listen_r3 : q_wsX9_listen_r3.map fe = wsX9_listen_r3 := ce fw_4166 (ce fw_1027 (ce fw_4167 (ce fw_1086 (ce fw_4168 (ce fw_4170 (ce fw_13 (ce fw_4171 (ce fw_2162 (ce fw_2138 (ce fw_2139 (ce fw_2140 (ce fw_2141 (ce fw_1130 (ce fw_1116 (ce fw_1238 (ce fw_4172 (ce fw_4173 (ce fw_4174 (ce fw_4175 (ce fw_4176 (ce fw_4177 (ce fw_4178 (ce fw_4179 (cn))))))))))))))))))))))))
def q_wsX9_listen_r4 : List Nat := [4180, 4181, 4182, 4183, 4184, 4185, 4186, 4187, 1127, 1129, 4188, 4189, 4190, 4191, 1077, 4192, 4193, 4195, 14, 4196, 1119, 1081, 1234, 2168]
set_option maxRecDepth 100000 in
theorem e_wsX9_listen_r4 : q_wsX9_listen_r4.map fe = wsX9_listen_r4 := ce fw_4180 (ce fw_4181 (ce fw_4182 (ce fw_4183 (ce fw_4184 (ce fw_4185 (ce fw_4186 (ce fw_4187 (ce fw_1127 (ce fw_1129 (ce fw_4188 (ce fw_4189 (ce fw_4190 (ce fw_4191 (ce fw_1077 (ce fw_4192 (ce fw_4193 (ce fw_4195 (ce fw_14 (ce fw_4196 (ce fw_1119 (ce fw_1081 (ce fw_1234 (ce fw_2168 (cn))))))))))))))))))))))))
def q_wsX9_listen_r5 : List Nat := [2169, 1124, 4197, 4198, 4200, 15, 4201, 2164, 2171, 2160, 4202, 2151, 2152, 1034, 2153, 2119, 2120, 4203, 4205, 16, 4206, 2163, 4207, 4208]
set_option maxRecDepth 100000 in
theorem e_wsX9_listen_r5 : q_wsX9_listen_r5.map fe = wsX9_listen_r5 := ce fw_2169 (ce fw_1124 (ce fw_4197 (ce fw_4198 (ce fw_4200 (ce fw_15 (ce fw_4201 (ce fw_2164 (ce fw_2171 (ce fw_2160 (ce fw_4202 (ce fw_2151 (ce fw_2152 (ce fw_1034 (ce fw_2153 (ce fw_2119 (ce fw_2120 (ce fw_4203 (ce fw_4205 (ce fw_16 (ce fw_4206 (ce fw_2163 (ce fw_4207 (ce fw_4208 (cn))))))))))))))))))))))))
def q_wsX9_listen_r6 : List Nat := [4209, 4210, 4211, 4213, 17, 4214, 4215, 4216, 4218, 18, 4219, 4220, 4221, 4222, 4223, 1117, 4108, 3304, 3305, 3306, 1084, 4109, 4224, 4105]
set_option maxRecDepth 100000 in
theorem e_wsX9_listen_r6 : q_wsX9_listen_r6.map fe = wsX9_listen_r6 := ce fw_4209 (ce fw_4210 (ce fw_4211 (ce fw_4213 (ce fw_17 (ce fw_4214 (ce fw_4215 (ce fw_4216 (ce fw_4218 (ce fw_18 (ce fw_4219 (ce fw_4220 (ce fw_4221 (ce fw_4222 (ce fw_4223 (ce fw_1117 (ce fw_4108 (ce fw_3304 (ce fw_3305 (ce fw_3306 (ce fw_1084 (ce fw_4109 (ce fw_4224 (ce fw_4105 (cn))))))))))))))))))))))))
def q_wsX9_listen_r7 : List Nat := [4106, 4107, 1122, 1091, 4225, 4227, 19, 4228, 2172, 4229, 4231, 20, 4232, 1110, 1106, 2166, 4233, 4234, 4235, 4236, 4237, 4238, 4239, 4240]
set_option maxRecDepth 100000 in
theorem e_wsX9_listen_r7 : q_wsX9_listen_r7.map fe = wsX9_listen_r7 := ce fw_4106 (ce fw_4107 (ce fw_1122 (ce fw_1091 (ce fw_4225 (ce fw_4227 (ce fw_19 (ce fw_4228 (ce fw_2172 (ce fw_4229 (ce fw_4231 (ce fw_20 (ce fw_4232 (ce fw_1110 (ce fw_1106 (ce fw_2166 (ce fw_4233 (ce fw_4234 (ce fw_4235 (ce fw_4236 (ce fw_4237 (ce fw_4238 (ce fw_4239 (ce fw_4240 (cn))))))))))))))))))))))))
def q_wsX9_listen_r8 : List Nat := [4241, 4242, 2117, 4243, 4245, 21, 4246, 2114, 2115, 2150, 4247, 4248, 4249, 1033, 4250, 1258, 1262, 2055, 2056, 2057, 2058, 1260, 4251, 4253]
set_option maxRecDepth 100000 in
theorem e_wsX9_listen_r8 : q_wsX9_listen_r8.map fe = wsX9_listen_r8 := ce fw_4241 (ce fw_4242 (ce fw_2117 (ce fw_4243 (ce fw_4245 (ce fw_21 (ce fw_4246 (ce fw_2114 (ce fw_2115 (ce fw_2150 (ce fw_4247 (ce fw_4248 (ce fw_4249 (ce fw_1033 (ce fw_4250 (ce fw_1258 (ce fw_1262 (ce fw_2055 (ce fw_2056 (ce fw_2057 (ce fw_2058 (ce fw_1260 (ce fw_4251 (ce fw_4253 (cn))))))))))))))))))))))))
def q_wsX9_listen_r9 : List Nat := [22, 4254, 4255, 4256, 4257, 4258, 2053, 1114, 1082, 2048, 2051, 4259, 4261, 23, 4262, 2059, 2061, 2063, 2069, 2071, 2067, 2065, 4267, 3119]
set_option maxRecDepth 100000 in
theorem e_wsX9_listen_r9 : q_wsX9_listen_r9.map fe = wsX9_listen_r9 := ce fw_22 (ce fw_4254 (ce fw_4255 (ce fw_4256 (ce fw_4257 (ce fw_4258 (ce fw_2053 (ce fw_1114 (ce fw_1082 (ce fw_2048 (ce fw_2051 (ce fw_4259 (ce fw_4261 (ce fw_23 (ce fw_4262 (ce fw_2059 (ce fw_2061 (ce fw_2063 (ce fw_2069 (ce fw_2071 (ce fw_2067 (ce fw_2065 (ce fw_4267 (ce fw_3119 (cn))))))))))))))))))))))))
def q_wsX9_listen_r10 : List Nat := [1036, 3120, 4263, 4264, 4265, 4266, 1097]
set_option maxRecDepth 100000 in
theorem e_wsX9_listen_r10 : q_wsX9_listen_r10.map fe = wsX9_listen_r10 := ce fw_1036 (ce fw_3120 (ce fw_4263 (ce fw_4264 (ce fw_4265 (ce fw_4266 (ce fw_1097 (cn)))))))
def q_wsX9_listen : List Nat := 4144 :: (((((((((q_wsX9_listen_r1) ++ ((q_wsX9_listen_r2) ++ ((q_wsX9_listen_r3) ++ ((q_wsX9_listen_r4) ++ ((q_wsX9_listen_r5) ++ ((q_wsX9_listen_r6) ++ ((q_wsX9_listen_r7) ++ ((q_wsX9_listen_r8) ++ ((q_wsX9_listen_r9) ++ (q_wsX9_listen_r10)))))))))) ++ (q_wsX90)) ++ (q_wsX40)) ++ (q_wsX20)) ++ (q_wsX10)) ++ (q_wsX50)) ++ (q_wsX00)) ++ (q_wsX70))
set_option maxRecDepth 100000 in
theorem e_wsX9_listen : q_wsX9_listen.map fe = wsX9_listen := ce fw_4144 (ca (ca (ca (ca (ca (ca (ca (ca (e_wsX9_listen_r1) (ca (e_wsX9_listen_r2) (ca (e_wsX9_listen_r3) (ca (e_wsX9_listen_r4) (ca (e_wsX9_listen_r5) (ca (e_wsX9_listen_r6) (ca (e_wsX9_listen_r7) (ca (e_wsX9_listen_r8) (ca (e_wsX9_listen_r9) (e_wsX9_listen_r10)))))))))) (e_wsX90)) (e_wsX40)) (e_wsX20)) (e_wsX10)) (e_wsX50)) (e_wsX00)) (e_wsX70))
def q_wsX9_copyFrom_r1 : List Nat := [2219, 2221, 2223, 2225, 3258, 3259, 3260, 1035, 3261, 2211, 2209, 3262, 3119, 1036, 3120, 2206, 2207, 2208, 3263, 3124, 3123, 1039, 3264, 3265]
set_option maxRecDepth 100000 in
theorem e_wsX9_copyFrom_r1 : q_wsX9_copyFrom_r1.map fe = wsX9_copyFrom_r1 := ce fw_2219 (ce fw_2221 (ce fw_2223 (ce fw_2225 (ce fw_3258 (ce fw_3259 (ce fw_3260 (ce fw_1035 (ce fw_3261 (ce fw_2211 (ce fw_2209 (ce fw_3262 (ce fw_3119 (ce fw_1036 (ce fw_3120 (ce fw_2206 (ce fw_2207 (ce fw_2208 (ce fw_3263 (ce fw_3124 (ce fw_3123 (ce fw_1039 (ce fw_3264 (ce fw_3265 (cn))))))))))))))))))))))))
def q_wsX9_copyFrom_r2 : List Nat := [3266, 1030, 3267, 1202, 3268, 1203, 1205, 1207, 3269, 3270, 3271, 1031, 3272, 2154, 2156, 2158, 2160, 2162, 2163, 2164, 2166, 2168, 2169, 2170]
set_option maxRecDepth 100000 in
theorem e_wsX9_copyFrom_r2 : q_wsX9_copyFrom_r2.map fe = wsX9_copyFrom_r2 := ce fw_3266 (ce fw_1030 (ce fw_3267 (ce fw_1202 (ce fw_3268 (ce fw_1203 (ce fw_1205 (ce fw_1207 (ce fw_3269 (ce fw_3270 (ce fw_3271 (ce fw_1031 (ce fw_3272 (ce fw_2154 (ce fw_2156 (ce fw_2158 (ce fw_2160 (ce fw_2162 (ce fw_2163 (ce fw_2164 (ce fw_2166 (ce fw_2168 (ce fw_2169 (ce fw_2170 (cn))))))))))))))))))))))))
def q_wsX9_copyFrom_r3 : List Nat := [2171, 2172, 3273, 3274, 3275, 1032, 3276, 1229, 3277, 1230, 1233, 1236, 1237, 1238, 3278, 3279, 3280, 1033, 3281, 1258, 1260, 1262, 2048, 2051]
set_option maxRecDepth 100000 in
theorem e_wsX9_copyFrom_r3 : q_wsX9_copyFrom_r3.map fe = wsX9_copyFrom_r3 := ce fw_2171 (ce fw_2172 (ce fw_3273 (ce fw_3274 (ce fw_3275 (ce fw_1032 (ce fw_3276 (ce fw_1229 (ce fw_3277 (ce fw_1230 (ce fw_1233 (ce fw_1236 (ce fw_1237 (ce fw_1238 (ce fw_3278 (ce fw_3279 (ce fw_3280 (ce fw_1033 (ce fw_3281 (ce fw_1258 (ce fw_1260 (ce fw_1262 (ce fw_2048 (ce fw_2051 (cn))))))))))))))))))))))))
def q_wsX9_copyFrom_r4 : List Nat := [2053, 2055, 2056, 2057, 2058, 2059, 2061, 2063, 2065, 2067, 2069, 2071, 3282, 3283, 3284, 1034, 3285, 2114, 3286, 2115, 2117, 2119, 2120]
set_option maxRecDepth 100000 in
theorem e_wsX9_copyFrom_r4 : q_wsX9_copyFrom_r4.map fe = wsX9_copyFrom_r4 := ce fw_2053 (ce fw_2055 (ce fw_2056 (ce fw_2057 (ce fw_2058 (ce fw_2059 (ce fw_2061 (ce fw_2063 (ce fw_2065 (ce fw_2067 (ce fw_2069 (ce fw_2071 (ce fw_3282 (ce fw_3283 (ce fw_3284 (ce fw_1034 (ce fw_3285 (ce fw_2114 (ce fw_3286 (ce fw_2115 (ce fw_2117 (ce fw_2119 (ce fw_2120 (cn)))))))))))))))))))))))
def q_wsX9_copyFrom : List Nat := 3257 :: (((((((((q_wsX9_copyFrom_r1) ++ ((q_wsX9_copyFrom_r2) ++ ((q_wsX9_copyFrom_r3) ++ (q_wsX9_copyFrom_r4)))) ++ (q_wsX90)) ++ (q_wsX20)) ++ (q_wsX60)) ++ (q_wsX40)) ++ (q_wsX10)) ++ (q_wsX70)) ++ (q_wsX00))
set_option maxRecDepth 100000 in
theorem e_wsX9_copyFrom : q_wsX9_copyFrom.map fe = wsX9_copyFrom := ce fw_3257 (ca (ca (ca (ca (ca (ca (ca (ca (e_wsX9_copyFrom_r1) (ca (e_wsX9_copyFrom_r2) (ca (e_wsX9_copyFrom_r3) (e_wsX9_copyFrom_r4)))) (e_wsX90)) (e_wsX20)) (e_wsX60)) (e_wsX40)) (e_wsX10)) (e_wsX70)) (e_wsX00))
def q_wsX2_copyFrom : List Nat := 3261 :: (([2211, 2209, 3262, 3119, 1036, 3120, 2206, 2207, 2208, 3263, 3124, 3123, 1039]) ++ (q_wsX20))
set_option maxRecDepth 100000 in
theorem e_wsX2_copyFrom : q_wsX2_copyFrom.map fe = wsX2_copyFrom := ce fw_3261 (ca (ce fw_2211 (ce fw_2209 (ce fw_3262 (ce fw_3119 (ce fw_1036 (ce fw_3120 (ce fw_2206 (ce fw_2207 (ce fw_2208 (ce fw_3263 (ce fw_3124 (ce fw_3123 (ce fw_1039 (cn)))))))))))))) (e_wsX20))
def q_wsX6_copyFrom : List Nat := 3267 :: (([1202, 3268, 3124, 3123, 1039, 1203, 1205, 1207]) ++ (q_wsX60))
set_option maxRecDepth 100000 in
theorem e_wsX6_copyFrom : q_wsX6_copyFrom.map fe = wsX6_copyFrom := ce fw_3267 (ca (ce fw_1202 (ce fw_3268 (ce fw_3124 (ce fw_3123 (ce fw_1039 (ce fw_1203 (ce fw_1205 (ce fw_1207 (cn))))))))) (e_wsX60))
def q_wsX10_init_r1 : List Nat := [1062, 1055, 1056, 1063, 1064, 1027, 2236, 1166, 1167, 1028, 2238, 1190, 1191, 1029, 2240, 1065, 1066, 1067, 1068, 1165, 1084, 1069, 1070, 1071]
set_option maxRecDepth 100000 in
theorem e_wsX10_init_r1 : q_wsX10_init_r1.map fe = wsX10_init_r1 := ce fw_1062 (ce fw_1055 (ce fw_1056 (ce fw_1063 (ce fw_1064 (ce fw_1027 (ce fw_2236 (ce fw_1166 (ce fw_1167 (ce fw_1028 (ce fw_2238 (ce fw_1190 (ce fw_1191 (ce fw_1029 (ce fw_2240 (ce fw_1065 (ce fw_1066 (ce fw_1067 (ce fw_1068 (ce fw_1165 (ce fw_1084 (ce fw_1069 (ce fw_1070 (ce fw_1071 (cn))))))))))))))))))))))))
def q_wsX10_init_r2 : List Nat := [1072, 1077, 1086, 1091, 1094, 1097, 1100, 1104, 1108, 1112, 1073, 1074, 1075, 1076, 1117, 1120, 1122, 1127, 1129, 1131, 1169, 1170, 1171, 1189]
set_option maxRecDepth 100000 in
theorem e_wsX10_init_r2 : q_wsX10_init_r2.map fe = wsX10_init_r2 := ce fw_1072 (ce fw_1077 (ce fw_1086 (ce fw_1091 (ce fw_1094 (ce fw_1097 (ce fw_1100 (ce fw_1104 (ce fw_1108 (ce fw_1112 (ce fw_1073 (ce fw_1074 (ce fw_1075 (ce fw_1076 (ce fw_1117 (ce fw_1120 (ce fw_1122 (ce fw_1127 (ce fw_1129 (ce fw_1131 (ce fw_1169 (ce fw_1170 (ce fw_1171 (ce fw_1189 (cn))))))))))))))))))))))))
def q_wsX10_init_r3 : List Nat := [1172, 1178, 1192, 1193, 1194, 1195, 1196, 1197, 1030, 2221, 1217, 1218, 1031, 2223, 2200, 2201, 1035, 2219, 1199, 1200, 1201, 1202, 1219, 1220]
set_option maxRecDepth 100000 in
theorem e_wsX10_init_r3 : q_wsX10_init_r3.map fe = wsX10_init_r3 := ce fw_1172 (ce fw_1178 (ce fw_1192 (ce fw_1193 (ce fw_1194 (ce fw_1195 (ce fw_1196 (ce fw_1197 (ce fw_1030 (ce fw_2221 (ce fw_1217 (ce fw_1218 (ce fw_1031 (ce fw_2223 (ce fw_2200 (ce fw_2201 (ce fw_1035 (ce fw_2219 (ce fw_1199 (ce fw_1200 (ce fw_1201 (ce fw_1202 (ce fw_1219 (ce fw_1220 (cn))))))))))))))))))))))))
def q_wsX10_init_r4 : List Nat := [1221, 1222, 1223, 1224, 1032, 2156, 1252, 1253, 1033, 2158, 2108, 2109, 1034, 2160, 2132, 1226, 1227, 1228, 1229, 1255, 1256, 1257, 2111, 2112]
set_option maxRecDepth 100000 in
theorem e_wsX10_init_r4 : q_wsX10_init_r4.map fe = wsX10_init_r4 := ce fw_1221 (ce fw_1222 (ce fw_1223 (ce fw_1224 (ce fw_1032 (ce fw_2156 (ce fw_1252 (ce fw_1253 (ce fw_1033 (ce fw_2158 (ce fw_2108 (ce fw_2109 (ce fw_1034 (ce fw_2160 (ce fw_2132 (ce fw_1226 (ce fw_1227 (ce fw_1228 (ce fw_1229 (ce fw_1255 (ce fw_1256 (ce fw_1257 (ce fw_2111 (ce fw_2112 (cn))))))))))))))))))))))))
def q_wsX10_init_r5 : List Nat := [2113, 2114, 2133, 2134, 2135, 2136, 2137, 2154, 2162, 2163, 2164, 2166, 2168, 2169, 2170, 2171, 2172, 2138, 2139, 2140, 2141, 1078, 1130, 1116]
set_option maxRecDepth 100000 in
theorem e_wsX10_init_r5 : q_wsX10_init_r5.map fe = wsX10_init_r5 := ce fw_2113 (ce fw_2114 (ce fw_2133 (ce fw_2134 (ce fw_2135 (ce fw_2136 (ce fw_2137 (ce fw_2154 (ce fw_2162 (ce fw_2163 (ce fw_2164 (ce fw_2166 (ce fw_2168 (ce fw_2169 (ce fw_2170 (ce fw_2171 (ce fw_2172 (ce fw_2138 (ce fw_2139 (ce fw_2140 (ce fw_2141 (ce fw_1078 (ce fw_1130 (ce fw_1116 (cn))))))))))))))))))))))))
def q_wsX10_init_r6 : List Nat := [1230, 1233, 1236, 1237, 1238, 2142, 2143, 2144, 2145, 1258, 1260, 1262, 2048, 2051, 2053, 2065, 2146, 2147, 2148, 2149, 2115, 2117, 2150, 2151]
set_option maxRecDepth 100000 in
theorem e_wsX10_init_r6 : q_wsX10_init_r6.map fe = wsX10_init_r6 := ce fw_1230 (ce fw_1233 (ce fw_1236 (ce fw_1237 (ce fw_1238 (ce fw_2142 (ce fw_2143 (ce fw_2144 (ce fw_2145 (ce fw_1258 (ce fw_1260 (ce fw_1262 (ce fw_2048 (ce fw_2051 (ce fw_2053 (ce fw_2065 (ce fw_2146 (ce fw_2147 (ce fw_2148 (ce fw_2149 (ce fw_2115 (ce fw_2117 (ce fw_2150 (ce fw_2151 (cn))))))))))))))))))))))))
def q_wsX10_init_r7 : List Nat := [2152, 2153, 2119, 2120, 2202, 2203, 2204, 2205, 2206, 2207, 1036, 2208, 2209]
set_option maxRecDepth 100000 in
theorem e_wsX10_init_r7 : q_wsX10_init_r7.map fe = wsX10_init_r7 := ce fw_2152 (ce fw_2153 (ce fw_2119 (ce fw_2120 (ce fw_2202 (ce fw_2203 (ce fw_2204 (ce fw_2205 (ce fw_2206 (ce fw_2207 (ce fw_1036 (ce fw_2208 (ce fw_2209 (cn)))))))))))))
def q_wsX100 : List Nat := [2242, 2244, 2246]
theorem e_wsX100 : q_wsX100.map fe = wsX100 := by decide +kernel
def q_wsX10_init : List Nat := 1061 :: ((((((((((((q_wsX10_init_r1) ++ ((q_wsX10_init_r2) ++ ((q_wsX10_init_r3) ++ ((q_wsX10_init_r4) ++ ((q_wsX10_init_r5) ++ ((q_wsX10_init_r6) ++ (q_wsX10_init_r7))))))) ++ (q_wsX50)) ++ (q_wsX100)) ++ (q_wsX80)) ++ (q_wsX90)) ++ (q_wsX60)) ++ (q_wsX40)) ++ (q_wsX20)) ++ (q_wsX10)) ++ (q_wsX70)) ++ (q_wsX00))
set_option maxRecDepth 100000 in
theorem e_wsX10_init : q_wsX10_init.map fe = wsX10_init := ce fw_1061 (ca (ca (ca (ca (ca (ca (ca (ca (ca (ca (ca (e_wsX10_init_r1) (ca (e_wsX10_init_r2) (ca (e_wsX10_init_r3) (ca (e_wsX10_init_r4) (ca (e_wsX10_init_r5) (ca (e_wsX10_init_r6) (e_wsX10_init_r7))))))) (e_wsX50)) (e_wsX100)) (e_wsX80)) (e_wsX90)) (e_wsX60)) (e_wsX40)) (e_wsX20)) (e_wsX10)) (e_wsX70)) (e_wsX00))
def q_wsX10_copyFrom_r1 : List Nat := [2236, 2238, 2240, 5156, 3233, 3234, 1027, 3235, 1077, 1084, 3236, 3124, 3123, 1039, 1086, 1091, 1094, 1097, 1100, 1104, 1108, 1112, 1117, 1120]
set_option maxRecDepth 100000 in
theorem e_wsX10_copyFrom_r1 : q_wsX10_copyFrom_r1.map fe = wsX10_copyFrom_r1 := ce fw_2236 (ce fw_2238 (ce fw_2240 (ce fw_5156 (ce fw_3233 (ce fw_3234 (ce fw_1027 (ce fw_3235 (ce fw_1077 (ce fw_1084 (ce fw_3236 (ce fw_3124 (ce fw_3123 (ce fw_1039 (ce fw_1086 (ce fw_1091 (ce fw_1094 (ce fw_1097 (ce fw_1100 (ce fw_1104 (ce fw_1108 (ce fw_1112 (ce fw_1117 (ce fw_1120 (cn))))))))))))))))))))))))
def q_wsX10_copyFrom_r2 : List Nat := [1122, 1127, 1129, 1131, 5157, 3115, 3116, 1028, 3117, 1173, 3118, 3119, 1036, 3120, 3121, 2207, 2208, 1172, 3122, 1177, 1178, 5158, 3255, 3256]
set_option maxRecDepth 100000 in
theorem e_wsX10_copyFrom_r2 : q_wsX10_copyFrom_r2.map fe = wsX10_copyFrom_r2 := ce fw_1122 (ce fw_1127 (ce fw_1129 (ce fw_1131 (ce fw_5157 (ce fw_3115 (ce fw_3116 (ce fw_1028 (ce fw_3117 (ce fw_1173 (ce fw_3118 (ce fw_3119 (ce fw_1036 (ce fw_3120 (ce fw_3121 (ce fw_2207 (ce fw_2208 (ce fw_1172 (ce fw_3122 (ce fw_1177 (ce fw_1178 (ce fw_5158 (ce fw_3255 (ce fw_3256 (cn))))))))))))))))))))))))
def q_wsX10_copyFrom_r3 : List Nat := [1029, 3257, 2219, 2221, 2223, 2225, 3258, 3259, 3260, 1035, 3261, 2211, 2209, 3262, 2206, 3263, 3264, 3265, 3266, 1030, 3267, 1202, 3268, 1203]
set_option maxRecDepth 100000 in
theorem e_wsX10_copyFrom_r3 : q_wsX10_copyFrom_r3.map fe = wsX10_copyFrom_r3 := ce fw_1029 (ce fw_3257 (ce fw_2219 (ce fw_2221 (ce fw_2223 (ce fw_2225 (ce fw_3258 (ce fw_3259 (ce fw_3260 (ce fw_1035 (ce fw_3261 (ce fw_2211 (ce fw_2209 (ce fw_3262 (ce fw_2206 (ce fw_3263 (ce fw_3264 (ce fw_3265 (ce fw_3266 (ce fw_1030 (ce fw_3267 (ce fw_1202 (ce fw_3268 (ce fw_1203 (cn))))))))))))))))))))))))
def q_wsX10_copyFrom_r4 : List Nat := [1205, 1207, 3269, 3270, 3271, 1031, 3272, 2154, 2156, 2158, 2160, 2162, 2163, 2164, 2166, 2168, 2169, 2170, 2171, 2172, 3273, 3274, 3275, 1032]
set_option maxRecDepth 100000 in
theorem e_wsX10_copyFrom_r4 : q_wsX10_copyFrom_r4.map fe = wsX10_copyFrom_r4 := ce fw_1205 (ce fw_1207 (ce fw_3269 (ce fw_3270 (ce fw_3271 (ce fw_1031 (ce fw_3272 (ce fw_2154 (ce fw_2156 (ce fw_2158 (ce fw_2160 (ce fw_2162 (ce fw_2163 (ce fw_2164 (ce fw_2166 (ce fw_2168 (ce fw_2169 (ce fw_2170 (ce fw_2171 (ce fw_2172 (ce fw_3273 (ce fw_3274 (ce fw_3275 (ce fw_1032 (cn))))))))))))))))))))))))
def q_wsX10_copyFrom_r5 : List Nat := [3276, 1229, 3277, 1230, 1233, 1236, 1237, 1238, 3278, 3279, 3280, 1033, 3281, 1258, 1260, 1262, 2048, 2051, 2053, 2055, 2056, 2057, 2058, 2059]
set_option maxRecDepth 100000 in
theorem e_wsX10_copyFrom_r5 : q_wsX10_copyFrom_r5.map fe = wsX10_copyFrom_r5 := ce fw_3276 (ce fw_1229 (ce fw_3277 (ce fw_1230 (ce fw_1233 (ce fw_1236 (ce fw_1237 (ce fw_1238 (ce fw_3278 (ce fw_3279 (ce fw_3280 (ce fw_1033 (ce fw_3281 (ce fw_1258 (ce fw_1260 (ce fw_1262 (ce fw_2048 (ce fw_2051 (ce fw_2053 (ce fw_2055 (ce fw_2056 (ce fw_2057 (ce fw_2058 (ce fw_2059 (cn))))))))))))))))))))))))
def q_wsX10_copyFrom_r6 : List Nat := [2061, 2063, 2065, 2067, 2069, 2071, 3282, 3283, 3284, 1034, 3285, 2114, 3286, 2115, 2117, 2119, 2120]
set_option maxRecDepth 100000 in
theorem e_wsX10_copyFrom_r6 : q_wsX10_copyFrom_r6.map fe = wsX10_copyFrom_r6 := ce fw_2061 (ce fw_2063 (ce fw_2065 (ce fw_2067 (ce fw_2069 (ce fw_2071 (ce fw_3282 (ce fw_3283 (ce fw_3284 (ce fw_1034 (ce fw_3285 (ce fw_2114 (ce fw_3286 (ce fw_2115 (ce fw_2117 (ce fw_2119 (ce fw_2120 (cn)))))))))))))))))
def q_wsX10_copyFrom : List Nat := 5155 :: ((((((((((((q_wsX10_copyFrom_r1) ++ ((q_wsX10_copyFrom_r2) ++ ((q_wsX10_copyFrom_r3) ++ ((q_wsX10_copyFrom_r4) ++ ((q_wsX10_copyFrom_r5) ++ (q_wsX10_copyFrom_r6)))))) ++ (q_wsX100)) ++ (q_wsX50)) ++ (q_wsX80)) ++ (q_wsX90)) ++ (q_wsX20)) ++ (q_wsX60)) ++ (q_wsX40)) ++ (q_wsX10)) ++ (q_wsX70)) ++ (q_wsX00))
set_option maxRecDepth 100000 in
theorem e_wsX10_copyFrom : q_wsX10_copyFrom.map fe = wsX10_copyFrom := ce fw_5155 (ca (ca (ca (ca (ca (ca (ca (ca (ca (ca (ca (e_wsX10_copyFrom_r1) (ca (e_wsX10_copyFrom_r2) (ca (e_wsX10_copyFrom_r3) (ca (e_wsX10_copyFrom_r4) (ca (e_wsX10_copyFrom_r5) (e_wsX10_copyFrom_r6)))))) (e_wsX100)) (e_wsX50)) (e_wsX80)) (e_wsX90)) (e_wsX20)) (e_wsX60)) (e_wsX40)) (e_wsX10)) (e_wsX70)) (e_wsX00))
def q_wsX5_copyFrom : List Nat := 3235 :: (([1077, 1084, 3236, 3124, 3123, 1039, 1086, 1091, 1094, 1097, 1100, 1104, 1108, 1112, 1117, 1120, 1122, 1127, 1129, 1131]) ++ (q_wsX50))
set_option maxRecDepth 100000 in
theorem e_wsX5_copyFrom : q_wsX5_copyFrom.map fe = wsX5_copyFrom := ce fw_3235 (ca (ce fw_1077 (ce fw_1084 (ce fw_3236 (ce fw_3124 (ce fw_3123 (ce fw_1039 (ce fw_1086 (ce fw_1091 (ce fw_1094 (ce fw_1097 (ce fw_1100 (ce fw_1104 (ce fw_1108 (ce fw_1112 (ce fw_1117 (ce fw_1120 (ce fw_1122 (ce fw_1127 (ce fw_1129 (ce fw_1131 (cn))))))))))))))))))))) (e_wsX50))
def q_wsX11_init_r1 : List Nat := [1054, 1055, 1056, 1057, 1058, 1026, 3073, 3074, 3072, 3075, 2250, 3076, 1191, 1029, 3078, 2253, 2254, 1037, 3079, 1060, 1061, 1062, 1063, 1064]
set_option maxRecDepth 100000 in
theorem e_wsX11_init_r1 : q_wsX11_init_r1.map fe = wsX11_init_r1 := ce fw_1054 (ce fw_1055 (ce fw_1056 (ce fw_1057 (ce fw_1058 (ce fw_1026 (ce fw_3073 (ce fw_3074 (ce fw_3072 (ce fw_3075 (ce fw_2250 (ce fw_3076 (ce fw_1191 (ce fw_1029 (ce fw_3078 (ce fw_2253 (ce fw_2254 (ce fw_1037 (ce fw_3079 (ce fw_1060 (ce fw_1061 (ce fw_1062 (ce fw_1063 (ce fw_1064 (cn))))))))))))))))))))))))
def q_wsX11_init_r2 : List Nat := [1027, 2236, 1166, 1167, 1028, 2238, 1190, 2240, 1065, 1066, 1067, 1068, 1165, 1084, 1069, 1070, 1071, 1072, 1077, 1086, 1091, 1094, 1097, 1100]
set_option maxRecDepth 100000 in
theorem e_wsX11_init_r2 : q_wsX11_init_r2.map fe = wsX11_init_r2 := ce fw_1027 (ce fw_2236 (ce fw_1166 (ce fw_1167 (ce fw_1028 (ce fw_2238 (ce fw_1190 (ce fw_2240 (ce fw_1065 (ce fw_1066 (ce fw_1067 (ce fw_1068 (ce fw_1165 (ce fw_1084 (ce fw_1069 (ce fw_1070 (ce fw_1071 (ce fw_1072 (ce fw_1077 (ce fw_1086 (ce fw_1091 (ce fw_1094 (ce fw_1097 (ce fw_1100 (cn))))))))))))))))))))))))
def q_wsX11_init_r3 : List Nat := [1104, 1108, 1112, 1073, 1074, 1075, 1076, 1117, 1120, 1122, 1127, 1129, 1131, 1169, 1170, 1171, 1189, 1172, 1178, 1192, 1193, 1194, 1195, 1196]
set_option maxRecDepth 100000 in
theorem e_wsX11_init_r3 : q_wsX11_init_r3.map fe = wsX11_init_r3 := ce fw_1104 (ce fw_1108 (ce fw_1112 (ce fw_1073 (ce fw_1074 (ce fw_1075 (ce fw_1076 (ce fw_1117 (ce fw_1120 (ce fw_1122 (ce fw_1127 (ce fw_1129 (ce fw_1131 (ce fw_1169 (ce fw_1170 (ce fw_1171 (ce fw_1189 (ce fw_1172 (ce fw_1178 (ce fw_1192 (ce fw_1193 (ce fw_1194 (ce fw_1195 (ce fw_1196 (cn))))))))))))))))))))))))
def q_wsX11_init_r4 : List Nat := [1197, 1030, 2221, 1217, 1218, 1031, 2223, 2200, 2201, 1035, 2219, 1199, 1200, 1201, 1202, 1219, 1220, 1221, 1222, 1223, 1224, 1032, 2156, 1252]
set_option maxRecDepth 100000 in
theorem e_wsX11_init_r4 : q_wsX11_init_r4.map fe = wsX11_init_r4 := ce fw_1197 (ce fw_1030 (ce fw_2221 (ce fw_1217 (ce fw_1218 (ce fw_1031 (ce fw_2223 (ce fw_2200 (ce fw_2201 (ce fw_1035 (ce fw_2219 (ce fw_1199 (ce fw_1200 (ce fw_1201 (ce fw_1202 (ce fw_1219 (ce fw_1220 (ce fw_1221 (ce fw_1222 (ce fw_1223 (ce fw_1224 (ce fw_1032 (ce fw_2156 (ce fw_1252 (cn))))))))))))))))))))))))
def q_wsX11_init_r5 : List Nat := [1253, 1033, 2158, 2108, 2109, 1034, 2160, 2132, 1226, 1227, 1228, 1229, 1255, 1256, 1257, 2111, 2112, 2113, 2114, 2133, 2134, 2135, 2136, 2137]
set_option maxRecDepth 100000 in
theorem e_wsX11_init_r5 : q_wsX11_init_r5.map fe = wsX11_init_r5 := ce fw_1253 (ce fw_1033 (ce fw_2158 (ce fw_2108 (ce fw_2109 (ce fw_1034 (ce fw_2160 (ce fw_2132 (ce fw_1226 (ce fw_1227 (ce fw_1228 (ce fw_1229 (ce fw_1255 (ce fw_1256 (ce fw_1257 (ce fw_2111 (ce fw_2112 (ce fw_2113 (ce fw_2114 (ce fw_2133 (ce fw_2134 (ce fw_2135 (ce fw_2136 (ce fw_2137 (cn))))))))))))))))))))))))
def q_wsX11_init_r6 : List Nat := [2154, 2162, 2163, 2164, 2166, 2168, 2169, 2170, 2171, 2172, 2138, 2139, 2140, 2141, 1078, 1130, 1116, 1230, 1233, 1236, 1237, 1238, 2142, 2143]
set_option maxRecDepth 100000 in
theorem e_wsX11_init_r6 : q_wsX11_init_r6.map fe = wsX11_init_r6 := ce fw_2154 (ce fw_2162 (ce fw_2163 (ce fw_2164 (ce fw_2166 (ce fw_2168 (ce fw_2169 (ce fw_2170 (ce fw_2171 (ce fw_2172 (ce fw_2138 (ce fw_2139 (ce fw_2140 (ce fw_2141 (ce fw_1078 (ce fw_1130 (ce fw_1116 (ce fw_1230 (ce fw_1233 (ce fw_1236 (ce fw_1237 (ce fw_1238 (ce fw_2142 (ce fw_2143 (cn))))))))))))))))))))))))
def q_wsX11_init_r7 : List Nat := [2144, 2145, 1258, 1260, 1262, 2048, 2051, 2053, 2065, 2146, 2147, 2148, 2149, 2115, 2117, 2150, 2151, 2152, 2153, 2119, 2120, 2202, 2203, 2204]
set_option maxRecDepth 100000 in
theorem e_wsX11_init_r7 : q_wsX11_init_r7.map fe = wsX11_init_r7 := ce fw_2144 (ce fw_2145 (ce fw_1258 (ce fw_1260 (ce fw_1262 (ce fw_2048 (ce fw_2051 (ce fw_2053 (ce fw_2065 (ce fw_2146 (ce fw_2147 (ce fw_2148 (ce fw_2149 (ce fw_2115 (ce fw_2117 (ce fw_2150 (ce fw_2151 (ce fw_2152 (ce fw_2153 (ce fw_2119 (ce fw_2120 (ce fw_2202 (ce fw_2203 (ce fw_2204 (cn))))))))))))))))))))))))
def q_wsX11_init_r8 : List Nat := [2205, 2206, 2207, 1036, 2208, 2209, 2252, 2256, 2257, 2258, 2259, 2263, 2261, 2265, 2260]
set_option maxRecDepth 100000 in
theorem e_wsX11_init_r8 : q_wsX11_init_r8.map fe = wsX11_init_r8 := ce fw_2205 (ce fw_2206 (ce fw_2207 (ce fw_1036 (ce fw_2208 (ce fw_2209 (ce fw_2252 (ce fw_2256 (ce fw_2257 (ce fw_2258 (ce fw_2259 (ce fw_2263 (ce fw_2261 (ce fw_2265 (ce fw_2260 (cn)))))))))))))))
def q_wsX110 : List Nat := [3080, 3082, 3084, 3086, 3088, 3090, 3092]
theorem e_wsX110 : q_wsX110.map fe = wsX110 := by decide +kernel
def q_wsX11_init : List Nat := 1053 :: ((((((((((((((q_wsX11_init_r1) ++ ((q_wsX11_init_r2) ++ ((q_wsX11_init_r3) ++ ((q_wsX11_init_r4) ++ ((q_wsX11_init_r5) ++ ((q_wsX11_init_r6) ++ ((q_wsX11_init_r7) ++ (q_wsX11_init_r8)))))))) ++ (q_wsX100)) ++ (q_wsX110)) ++ (q_wsX90)) ++ (q_wsX30)) ++ (q_wsX50)) ++ (q_wsX80)) ++ (q_wsX60)) ++ (q_wsX40)) ++ (q_wsX20)) ++ (q_wsX10)) ++ (q_wsX70)) ++ (q_wsX00))
set_option maxRecDepth 100000 in
theorem e_wsX11_init : q_wsX11_init.map fe = wsX11_init := ce fw_1053 (ca (ca (ca (ca (ca (ca (ca (ca (ca (ca (ca (ca (ca (e_wsX11_init_r1) (ca (e_wsX11_init_r2) (ca (e_wsX11_init_r3) (ca (e_wsX11_init_r4) (ca (e_wsX11_init_r5) (ca (e_wsX11_init_r6) (ca (e_wsX11_init_r7) (e_wsX11_init_r8)))))))) (e_wsX100)) (e_wsX110)) (e_wsX90)) (e_wsX30)) (e_wsX50)) (e_wsX80)) (e_wsX60)) (e_wsX40)) (e_wsX20)) (e_wsX10)) (e_wsX70)) (e_wsX00))
def q_wsX11_key : List Nat := 3098 :: (((([3073, 2239, 3099, 3100, 3101, 1028, 3102, 1173, 1172, 3103, 3104, 3105]) ++ (q_wsX110)) ++ (q_wsX100)) ++ (q_wsX80))
set_option maxRecDepth 100000 in
theorem e_wsX11_key : q_wsX11_key.map fe = wsX11_key := ce fw_3098 (ca (ca (ca (ce fw_3073 (ce fw_2239 (ce fw_3099 (ce fw_3100 (ce fw_3101 (ce fw_1028 (ce fw_3102 (ce fw_1173 (ce fw_1172 (ce fw_3103 (ce fw_3104 (ce fw_3105 (cn))))))))))))) (e_wsX110)) (e_wsX100)) (e_wsX80))
def q_wsX11_scheme_r1 : List Nat := [3073, 2239, 3079, 1174, 2267, 1176, 2269, 1179, 2237, 2264, 2241, 3077, 1118, 3110, 3111, 3112, 1037, 3113, 2265, 2263, 2266, 2268, 2272, 2270]
set_option maxRecDepth 100000 in
theorem e_wsX11_scheme_r1 : q_wsX11_scheme_r1.map fe = wsX11_scheme_r1 := ce fw_3073 (ce fw_2239 (ce fw_3079 (ce fw_1174 (ce fw_2267 (ce fw_1176 (ce fw_2269 (ce fw_1179 (ce fw_2237 (ce fw_2264 (ce fw_2241 (ce fw_3077 (ce fw_1118 (ce fw_3110 (ce fw_3111 (ce fw_3112 (ce fw_1037 (ce fw_3113 (ce fw_2265 (ce fw_2263 (ce fw_2266 (ce fw_2268 (ce fw_2272 (ce fw_2270 (cn))))))))))))))))))))))))
def q_wsX11_scheme_r2 : List Nat := [3114, 3115, 3116, 1028, 3117, 1173, 3118, 3119, 1036, 3120, 3121, 2207, 2208, 1172, 3122, 3124, 3123, 1039, 1177, 1178, 3125, 1070, 1071, 1027]
set_option maxRecDepth 100000 in
theorem e_wsX11_scheme_r2 : q_wsX11_scheme_r2.map fe = wsX11_scheme_r2 := ce fw_3114 (ce fw_3115 (ce fw_3116 (ce fw_1028 (ce fw_3117 (ce fw_1173 (ce fw_3118 (ce fw_3119 (ce fw_1036 (ce fw_3120 (ce fw_3121 (ce fw_2207 (ce fw_2208 (ce fw_1172 (ce fw_3122 (ce fw_3124 (ce fw_3123 (ce fw_1039 (ce fw_1177 (ce fw_1178 (ce fw_3125 (ce fw_1070 (ce fw_1071 (ce fw_1027 (cn))))))))))))))))))))))))
def q_wsX11_scheme_r3 : List Nat := [1072, 1077, 1084, 1086, 1091, 1094, 1097, 1100, 1104, 1108, 1112, 1073, 1074, 1075, 1076, 1117, 1120, 1122, 1127, 1129, 1131, 3126, 3128, 0]
set_option maxRecDepth 100000 in
theorem e_wsX11_scheme_r3 : q_wsX11_scheme_r3.map fe = wsX11_scheme_r3 := ce fw_1072 (ce fw_1077 (ce fw_1084 (ce fw_1086 (ce fw_1091 (ce fw_1094 (ce fw_1097 (ce fw_1100 (ce fw_1104 (ce fw_1108 (ce fw_1112 (ce fw_1073 (ce fw_1074 (ce fw_1075 (ce fw_1076 (ce fw_1117 (ce fw_1120 (ce fw_1122 (ce fw_1127 (ce fw_1129 (ce fw_1131 (ce fw_3126 (ce fw_3128 (ce fw_0 (cn))))))))))))))))))))))))
def q_wsX11_scheme_r4 : List Nat := [3129, 2271, 1175, 3130, 3131, 3132, 3133, 3134, 3135, 3136, 3137, 3138, 3139, 3140, 3141, 3142, 3143, 3145, 1, 3146, 1105, 1109, 3148, 3150]
set_option maxRecDepth 100000 in
theorem e_wsX11_scheme_r4 : q_wsX11_scheme_r4.map fe = wsX11_scheme_r4 := ce fw_3129 (ce fw_2271 (ce fw_1175 (ce fw_3130 (ce fw_3131 (ce fw_3132 (ce fw_3133 (ce fw_3134 (ce fw_3135 (ce fw_3136 (ce fw_3137 (ce fw_3138 (ce fw_3139 (ce fw_3140 (ce fw_3141 (ce fw_3142 (ce fw_3143 (ce fw_3145 (ce fw_1 (ce fw_3146 (ce fw_1105 (ce fw_1109 (ce fw_3148 (ce fw_3150 (cn))))))))))))))))))))))))
def q_wsX11_scheme_r5 : List Nat := [2, 3151, 3152, 3153, 3154, 1040, 3155, 7224, 3156, 3157, 3158, 3159, 3160, 7225, 3162, 3163, 3164, 3165, 3166, 3167, 3168, 3169, 3170, 3171]
set_option maxRecDepth 100000 in
theorem e_wsX11_scheme_r5 : q_wsX11_scheme_r5.map fe = wsX11_scheme_r5 := ce fw_2 (ce fw_3151 (ce fw_3152 (ce fw_3153 (ce fw_3154 (ce fw_1040 (ce fw_3155 (ce fw_7224 (ce fw_3156 (ce fw_3157 (ce fw_3158 (ce fw_3159 (ce fw_3160 (ce fw_7225 (ce fw_3162 (ce fw_3163 (ce fw_3164 (ce fw_3165 (ce fw_3166 (ce fw_3167 (ce fw_3168 (ce fw_3169 (ce fw_3170 (ce fw_3171 (cn))))))))))))))))))))))))
def q_wsX11_scheme_r6 : List Nat := [1041, 3172, 3173, 3174, 3175, 3176, 3178, 3179, 1042, 3180, 3181, 3182, 1043, 3183, 3184, 3185, 3186, 3187, 3188, 3189, 3190, 3191, 3192, 3193]
set_option maxRecDepth 100000 in
theorem e_wsX11_scheme_r6 : q_wsX11_scheme_r6.map fe = wsX11_scheme_r6 := ce fw_1041 (ce fw_3172 (ce fw_3173 (ce fw_3174 (ce fw_3175 (ce fw_3176 (ce fw_3178 (ce fw_3179 (ce fw_1042 (ce fw_3180 (ce fw_3181 (ce fw_3182 (ce fw_1043 (ce fw_3183 (ce fw_3184 (ce fw_3185 (ce fw_3186 (ce fw_3187 (ce fw_3188 (ce fw_3189 (ce fw_3190 (ce fw_3191 (ce fw_3192 (ce fw_3193 (cn))))))))))))))))))))))))
def q_wsX11_scheme_r7 : List Nat := [3194, 3196, 3198, 3200, 3202, 3, 3203, 1085, 1089, 3204, 3206, 4, 3207, 3208, 3209, 3210, 3211, 3213, 5, 3214, 3216, 3218, 6, 3219]
set_option maxRecDepth 100000 in
theorem e_wsX11_scheme_r7 : q_wsX11_scheme_r7.map fe = wsX11_scheme_r7 := ce fw_3194 (ce fw_3196 (ce fw_3198 (ce fw_3200 (ce fw_3202 (ce fw_3 (ce fw_3203 (ce fw_1085 (ce fw_1089 (ce fw_3204 (ce fw_3206 (ce fw_4 (ce fw_3207 (ce fw_3208 (ce fw_3209 (ce fw_3210 (ce fw_3211 (ce fw_3213 (ce fw_5 (ce fw_3214 (ce fw_3216 (ce fw_3218 (ce fw_6 (ce fw_3219 (cn))))))))))))))))))))))))
def q_wsX11_scheme_r8 : List Nat := [3220, 3222, 7, 3223, 1079, 1092, 1095, 1098, 1102, 1113, 3231, 3232, 3233, 3234, 3235, 3236, 3237, 3238, 3239, 1029, 3240, 2219, 2210, 2225]
set_option maxRecDepth 100000 in
theorem e_wsX11_scheme_r8 : q_wsX11_scheme_r8.map fe = wsX11_scheme_r8 := ce fw_3220 (ce fw_3222 (ce fw_7 (ce fw_3223 (ce fw_1079 (ce fw_1092 (ce fw_1095 (ce fw_1098 (ce fw_1102 (ce fw_1113 (ce fw_3231 (ce fw_3232 (ce fw_3233 (ce fw_3234 (ce fw_3235 (ce fw_3236 (ce fw_3237 (ce fw_3238 (ce fw_3239 (ce fw_1029 (ce fw_3240 (ce fw_2219 (ce fw_2210 (ce fw_2225 (cn))))))))))))))))))))))))
def q_wsX11_scheme_r9 : List Nat := [2221, 1206, 2223, 3241, 2135, 2136, 1031, 2137, 2154, 2156, 2158, 2160, 2162, 2163, 2164, 2166, 2168, 2169, 2170, 2171, 2172, 2138, 2139, 2140]
set_option maxRecDepth 100000 in
theorem e_wsX11_scheme_r9 : q_wsX11_scheme_r9.map fe = wsX11_scheme_r9 := ce fw_2221 (ce fw_1206 (ce fw_2223 (ce fw_3241 (ce fw_2135 (ce fw_2136 (ce fw_1031 (ce fw_2137 (ce fw_2154 (ce fw_2156 (ce fw_2158 (ce fw_2160 (ce fw_2162 (ce fw_2163 (ce fw_2164 (ce fw_2166 (ce fw_2168 (ce fw_2169 (ce fw_2170 (ce fw_2171 (ce fw_2172 (ce fw_2138 (ce fw_2139 (ce fw_2140 (cn))))))))))))))))))))))))
def q_wsX11_scheme_r10 : List Nat := [1032, 2141, 1078, 1229, 1130, 1116, 1230, 1233, 1236, 1237, 1238, 2142, 2143, 2144, 1033, 2145, 1258, 1260, 1262, 2048, 2051, 2053, 2065, 2146]
set_option maxRecDepth 100000 in
theorem e_wsX11_scheme_r10 : q_wsX11_scheme_r10.map fe = wsX11_scheme_r10 := ce fw_1032 (ce fw_2141 (ce fw_1078 (ce fw_1229 (ce fw_1130 (ce fw_1116 (ce fw_1230 (ce fw_1233 (ce fw_1236 (ce fw_1237 (ce fw_1238 (ce fw_2142 (ce fw_2143 (ce fw_2144 (ce fw_1033 (ce fw_2145 (ce fw_1258 (ce fw_1260 (ce fw_1262 (ce fw_2048 (ce fw_2051 (ce fw_2053 (ce fw_2065 (ce fw_2146 (cn))))))))))))))))))))))))
def q_wsX11_scheme_r11 : List Nat := [2147, 2148, 1034, 2149, 2115, 2117, 2150, 2151, 2152, 2153, 2119, 2120]
set_option maxRecDepth 100000 in
theorem e_wsX11_scheme_r11 : q_wsX11_scheme_r11.map fe = wsX11_scheme_r11 := ce fw_2147 (ce fw_2148 (ce fw_1034 (ce fw_2149 (ce fw_2115 (ce fw_2117 (ce fw_2150 (ce fw_2151 (ce fw_2152 (ce fw_2153 (ce fw_2119 (ce fw_2120 (cn))))))))))))
def q_wsX11_scheme : List Nat := 3109 :: ((((((((((((((q_wsX11_scheme_r1) ++ ((q_wsX11_scheme_r2) ++ ((q_wsX11_scheme_r3) ++ ((q_wsX11_scheme_r4) ++ ((q_wsX11_scheme_r5) ++ ((q_wsX11_scheme_r6) ++ ((q_wsX11_scheme_r7) ++ ((q_wsX11_scheme_r8) ++ ((q_wsX11_scheme_r9) ++ ((q_wsX11_scheme_r10) ++ (q_wsX11_scheme_r11))))))))))) ++ (q_wsX110)) ++ (q_wsX100)) ++ (q_wsX80)) ++ (q_wsX30)) ++ (q_wsX50)) ++ (q_wsX90)) ++ (q_wsX20)) ++ (q_wsX60)) ++ (q_wsX40)) ++ (q_wsX10)) ++ (q_wsX70)) ++ (q_wsX00))
set_option maxRecDepth 100000 in
theorem e_wsX11_scheme : q_wsX11_scheme.map fe = wsX11_scheme := ce fw_3109 (ca (ca (ca (ca (ca (ca (ca (ca (ca (ca (ca (ca (ca (e_wsX11_scheme_r1) (ca (e_wsX11_scheme_r2) (ca (e_wsX11_scheme_r3) (ca (e_wsX11_scheme_r4) (ca (e_wsX11_scheme_r5) (ca (e_wsX11_scheme_r6) (ca (e_wsX11_scheme_r7) (ca (e_wsX11_scheme_r8) (ca (e_wsX11_scheme_r9) (ca (e_wsX11_scheme_r10) (e_wsX11_scheme_r11))))))))))) (e_wsX110)) (e_wsX100)) (e_wsX80)) (e_wsX30)) (e_wsX50)) (e_wsX90)) (e_wsX20)) (e_wsX60)) (e_wsX40)) (e_wsX10)) (e_wsX70)) (e_wsX00))
def q_wsX11_say_r1 : List Nat := [3073, 2241, 2222, 1204, 3250, 3252, 8, 1025, 3253, 3077, 3076, 3254, 3255, 3256, 1029, 3257, 2219, 2221, 2223, 2225, 3258, 3259, 3260, 1035]
set_option maxRecDepth 100000 in
theorem e_wsX11_say_r1 : q_wsX11_say_r1.map fe = wsX11_say_r1 := ce fw_3073 (ce fw_2241 (ce fw_2222 (ce fw_1204 (ce fw_3250 (ce fw_3252 (ce fw_8 (ce fw_1025 (ce fw_3253 (ce fw_3077 (ce fw_3076 (ce fw_3254 (ce fw_3255 (ce fw_3256 (ce fw_1029 (ce fw_3257 (ce fw_2219 (ce fw_2221 (ce fw_2223 (ce fw_2225 (ce fw_3258 (ce fw_3259 (ce fw_3260 (ce fw_1035 (cn))))))))))))))))))))))))
def q_wsX11_say_r2 : List Nat := [3261, 2211, 2209, 3262, 3119, 1036, 3120, 2206, 2207, 2208, 3263, 3124, 3123, 1039, 3264, 3265, 3266, 1030, 3267, 1202, 3268, 1203, 1205, 1207]
set_option maxRecDepth 100000 in
theorem e_wsX11_say_r2 : q_wsX11_say_r2.map fe = wsX11_say_r2 := ce fw_3261 (ce fw_2211 (ce fw_2209 (ce fw_3262 (ce fw_3119 (ce fw_1036 (ce fw_3120 (ce fw_2206 (ce fw_2207 (ce fw_2208 (ce fw_3263 (ce fw_3124 (ce fw_3123 (ce fw_1039 (ce fw_3264 (ce fw_3265 (ce fw_3266 (ce fw_1030 (ce fw_3267 (ce fw_1202 (ce fw_3268 (ce fw_1203 (ce fw_1205 (ce fw_1207 (cn))))))))))))))))))))))))
def q_wsX11_say_r3 : List Nat := [3269, 3270, 3271, 1031, 3272, 2154, 2156, 2158, 2160, 2162, 2163, 2164, 2166, 2168, 2169, 2170, 2171, 2172, 3273, 3274, 3275, 1032, 3276, 1229]
set_option maxRecDepth 100000 in
theorem e_wsX11_say_r3 : q_wsX11_say_r3.map fe = wsX11_say_r3 := ce fw_3269 (ce fw_3270 (ce fw_3271 (ce fw_1031 (ce fw_3272 (ce fw_2154 (ce fw_2156 (ce fw_2158 (ce fw_2160 (ce fw_2162 (ce fw_2163 (ce fw_2164 (ce fw_2166 (ce fw_2168 (ce fw_2169 (ce fw_2170 (ce fw_2171 (ce fw_2172 (ce fw_3273 (ce fw_3274 (ce fw_3275 (ce fw_1032 (ce fw_3276 (ce fw_1229 (cn))))))))))))))))))))))))
def q_wsX11_say_r4 : List Nat := [3277, 1230, 1233, 1236, 1237, 1238, 3278, 3279, 3280, 1033, 3281, 1258, 1260, 1262, 2048, 2051, 2053, 2055, 2056, 2057, 2058, 2059, 2061, 2063]
set_option maxRecDepth 100000 in
theorem e_wsX11_say_r4 : q_wsX11_say_r4.map fe = wsX11_say_r4 := ce fw_3277 (ce fw_1230 (ce fw_1233 (ce fw_1236 (ce fw_1237 (ce fw_1238 (ce fw_3278 (ce fw_3279 (ce fw_3280 (ce fw_1033 (ce fw_3281 (ce fw_1258 (ce fw_1260 (ce fw_1262 (ce fw_2048 (ce fw_2051 (ce fw_2053 (ce fw_2055 (ce fw_2056 (ce fw_2057 (ce fw_2058 (ce fw_2059 (ce fw_2061 (ce fw_2063 (cn))))))))))))))))))))))))
def q_wsX11_say_r5 : List Nat := [2065, 2067, 2069, 2071, 3282, 3283, 3284, 1034, 3285, 2114, 3286, 2115, 2117, 2119, 2120, 3287, 3288, 3289, 3290]
set_option maxRecDepth 100000 in
theorem e_wsX11_say_r5 : q_wsX11_say_r5.map fe = wsX11_say_r5 := ce fw_2065 (ce fw_2067 (ce fw_2069 (ce fw_2071 (ce fw_3282 (ce fw_3283 (ce fw_3284 (ce fw_1034 (ce fw_3285 (ce fw_2114 (ce fw_3286 (ce fw_2115 (ce fw_2117 (ce fw_2119 (ce fw_2120 (ce fw_3287 (ce fw_3288 (ce fw_3289 (ce fw_3290 (cn)))))))))))))))))))
def q_wsX11_say : List Nat := 3249 :: (((((((((((q_wsX11_say_r1) ++ ((q_wsX11_say_r2) ++ ((q_wsX11_say_r3) ++ ((q_wsX11_say_r4) ++ (q_wsX11_say_r5))))) ++ (q_wsX110)) ++ (q_wsX100)) ++ (q_wsX90)) ++ (q_wsX60)) ++ (q_wsX20)) ++ (q_wsX40)) ++ (q_wsX10)) ++ (q_wsX70)) ++ (q_wsX00))
set_option maxRecDepth 100000 in
theorem e_wsX11_say : q_wsX11_say.map fe = wsX11_say := ce fw_3249 (ca (ca (ca (ca (ca (ca (ca (ca (ca (ca (e_wsX11_say_r1) (ca (e_wsX11_say_r2) (ca (e_wsX11_say_r3) (ca (e_wsX11_say_r4) (e_wsX11_say_r5))))) (e_wsX110)) (e_wsX100)) (e_wsX90)) (e_wsX60)) (e_wsX20)) (e_wsX40)) (e_wsX10)) (e_wsX70)) (e_wsX00))
def q_wsX11_remember_r1 : List Nat := [3077, 3076, 3073, 2241, 3254, 3255, 3256, 1029, 3257, 2219, 2221, 2223, 2225, 3258, 3259, 3260, 1035, 3261, 2211, 2209, 3262, 3119, 1036, 3120]
set_option maxRecDepth 100000 in
theorem e_wsX11_remember_r1 : q_wsX11_remember_r1.map fe = wsX11_remember_r1 := ce fw_3077 (ce fw_3076 (ce fw_3073 (ce fw_2241 (ce fw_3254 (ce fw_3255 (ce fw_3256 (ce fw_1029 (ce fw_3257 (ce fw_2219 (ce fw_2221 (ce fw_2223 (ce fw_2225 (ce fw_3258 (ce fw_3259 (ce fw_3260 (ce fw_1035 (ce fw_3261 (ce fw_2211 (ce fw_2209 (ce fw_3262 (ce fw_3119 (ce fw_1036 (ce fw_3120 (cn))))))))))))))))))))))))
def q_wsX11_remember_r2 : List Nat := [2206, 2207, 2208, 3263, 3124, 3123, 1039, 3264, 3265, 3266, 1030, 3267, 1202, 3268, 1203, 1205, 1207, 3269, 3270, 3271, 1031, 3272, 2154, 2156]
set_option maxRecDepth 100000 in
theorem e_wsX11_remember_r2 : q_wsX11_remember_r2.map fe = wsX11_remember_r2 := ce fw_2206 (ce fw_2207 (ce fw_2208 (ce fw_3263 (ce fw_3124 (ce fw_3123 (ce fw_1039 (ce fw_3264 (ce fw_3265 (ce fw_3266 (ce fw_1030 (ce fw_3267 (ce fw_1202 (ce fw_3268 (ce fw_1203 (ce fw_1205 (ce fw_1207 (ce fw_3269 (ce fw_3270 (ce fw_3271 (ce fw_1031 (ce fw_3272 (ce fw_2154 (ce fw_2156 (cn))))))))))))))))))))))))
def q_wsX11_remember_r3 : List Nat := [2158, 2160, 2162, 2163, 2164, 2166, 2168, 2169, 2170, 2171, 2172, 3273, 3274, 3275, 1032, 3276, 1229, 3277, 1230, 1233, 1236, 1237, 1238, 3278]
set_option maxRecDepth 100000 in
theorem e_wsX11_remember_r3 : q_wsX11_remember_r3.map fe = wsX11_remember_r3 := ce fw_2158 (ce fw_2160 (ce fw_2162 (ce fw_2163 (ce fw_2164 (ce fw_2166 (ce fw_2168 (ce fw_2169 (ce fw_2170 (ce fw_2171 (ce fw_2172 (ce fw_3273 (ce fw_3274 (ce fw_3275 (ce fw_1032 (ce fw_3276 (ce fw_1229 (ce fw_3277 (ce fw_1230 (ce fw_1233 (ce fw_1236 (ce fw_1237 (ce fw_1238 (ce fw_3278 (cn))))))))))))))))))))))))
def q_wsX11_remember_r4 : List Nat := [3279, 3280, 1033, 3281, 1258, 1260, 1262, 2048, 2051, 2053, 2055, 2056, 2057, 2058, 2059, 2061, 2063, 2065, 2067, 2069, 2071, 3282, 3283, 3284]
set_option maxRecDepth 100000 in
theorem e_wsX11_remember_r4 : q_wsX11_remember_r4.map fe = wsX11_remember_r4 := ce fw_3279 (ce fw_3280 (ce fw_1033 (ce fw_3281 (ce fw_1258 (ce fw_1260 (ce fw_1262 (ce fw_2048 (ce fw_2051 (ce fw_2053 (ce fw_2055 (ce fw_2056 (ce fw_2057 (ce fw_2058 (ce fw_2059 (ce fw_2061 (ce fw_2063 (ce fw_2065 (ce fw_2067 (ce fw_2069 (ce fw_2071 (ce fw_3282 (ce fw_3283 (ce fw_3284 (cn))))))))))))))))))))))))
def q_wsX11_remember_r5 : List Nat := [1034, 3285, 2114, 3286, 2115, 2117, 2119, 2120]
set_option maxRecDepth 100000 in
theorem e_wsX11_remember_r5 : q_wsX11_remember_r5.map fe = wsX11_remember_r5 := ce fw_1034 (ce fw_3285 (ce fw_2114 (ce fw_3286 (ce fw_2115 (ce fw_2117 (ce fw_2119 (ce fw_2120 (cn))))))))
def q_wsX11_remember : List Nat := 3253 :: (((((((((((q_wsX11_remember_r1) ++ ((q_wsX11_remember_r2) ++ ((q_wsX11_remember_r3) ++ ((q_wsX11_remember_r4) ++ (q_wsX11_remember_r5))))) ++ (q_wsX110)) ++ (q_wsX100)) ++ (q_wsX90)) ++ (q_wsX20)) ++ (q_wsX60)) ++ (q_wsX40)) ++ (q_wsX10)) ++ (q_wsX70)) ++ (q_wsX00))
set_option maxRecDepth 100000 in
theorem e_wsX11_remember : q_wsX11_remember.map fe = wsX11_remember := ce fw_3253 (ca (ca (ca (ca (ca (ca (ca (ca (ca (ca (e_wsX11_remember_r1) (ca (e_wsX11_remember_r2) (ca (e_wsX11_remember_r3) (ca (e_wsX11_remember_r4) (e_wsX11_remember_r5))))) (e_wsX110)) (e_wsX100)) (e_wsX90)) (e_wsX20)) (e_wsX60)) (e_wsX40)) (e_wsX10)) (e_wsX70)) (e_wsX00))
def q_wsX6_enqueue : List Nat := 3290 :: (([1203, 1202]) ++ (q_wsX60))
set_option maxRecDepth 100000 in
theorem e_wsX6_enqueue : q_wsX6_enqueue.map fe = wsX6_enqueue := ce fw_3290 (ca (ce fw_1203 (ce fw_1202 (cn))) (e_wsX60))
def q_wsX11_send_r1 : List Nat := [3073, 2241, 2220, 2213, 2237, 1118, 2222, 3250, 3252, 8, 1025, 3253, 3077, 3076, 3254, 3255, 3256, 1029, 3257, 2219, 2221, 2223, 2225, 3258]
set_option maxRecDepth 100000 in
theorem e_wsX11_send_r1 : q_wsX11_send_r1.map fe = wsX11_send_r1 := ce fw_3073 (ce fw_2241 (ce fw_2220 (ce fw_2213 (ce fw_2237 (ce fw_1118 (ce fw_2222 (ce fw_3250 (ce fw_3252 (ce fw_8 (ce fw_1025 (ce fw_3253 (ce fw_3077 (ce fw_3076 (ce fw_3254 (ce fw_3255 (ce fw_3256 (ce fw_1029 (ce fw_3257 (ce fw_2219 (ce fw_2221 (ce fw_2223 (ce fw_2225 (ce fw_3258 (cn))))))))))))))))))))))))
def q_wsX11_send_r2 : List Nat := [3259, 3260, 1035, 3261, 2211, 2209, 3262, 3119, 1036, 3120, 2206, 2207, 2208, 3263, 3124, 3123, 1039, 3264, 3265, 3266, 1030, 3267, 1202, 3268]
set_option maxRecDepth 100000 in
theorem e_wsX11_send_r2 : q_wsX11_send_r2.map fe = wsX11_send_r2 := ce fw_3259 (ce fw_3260 (ce fw_1035 (ce fw_3261 (ce fw_2211 (ce fw_2209 (ce fw_3262 (ce fw_3119 (ce fw_1036 (ce fw_3120 (ce fw_2206 (ce fw_2207 (ce fw_2208 (ce fw_3263 (ce fw_3124 (ce fw_3123 (ce fw_1039 (ce fw_3264 (ce fw_3265 (ce fw_3266 (ce fw_1030 (ce fw_3267 (ce fw_1202 (ce fw_3268 (cn))))))))))))))))))))))))
def q_wsX11_send_r3 : List Nat := [1203, 1205, 1207, 3269, 3270, 3271, 1031, 3272, 2154, 2156, 2158, 2160, 2162, 2163, 2164, 2166, 2168, 2169, 2170, 2171, 2172, 3273, 3274, 3275]
set_option maxRecDepth 100000 in
theorem e_wsX11_send_r3 : q_wsX11_send_r3.map fe = wsX11_send_r3 := ce fw_1203 (ce fw_1205 (ce fw_1207 (ce fw_3269 (ce fw_3270 (ce fw_3271 (ce fw_1031 (ce fw_3272 (ce fw_2154 (ce fw_2156 (ce fw_2158 (ce fw_2160 (ce fw_2162 (ce fw_2163 (ce fw_2164 (ce fw_2166 (ce fw_2168 (ce fw_2169 (ce fw_2170 (ce fw_2171 (ce fw_2172 (ce fw_3273 (ce fw_3274 (ce fw_3275 (cn))))))))))))))))))))))))
def q_wsX11_send_r4 : List Nat := [1032, 3276, 1229, 3277, 1230, 1233, 1236, 1237, 1238, 3278, 3279, 3280, 1033, 3281, 1258, 1260, 1262, 2048, 2051, 2053, 2055, 2056, 2057, 2058]
set_option maxRecDepth 100000 in
theorem e_wsX11_send_r4 : q_wsX11_send_r4.map fe = wsX11_send_r4 := ce fw_1032 (ce fw_3276 (ce fw_1229 (ce fw_3277 (ce fw_1230 (ce fw_1233 (ce fw_1236 (ce fw_1237 (ce fw_1238 (ce fw_3278 (ce fw_3279 (ce fw_3280 (ce fw_1033 (ce fw_3281 (ce fw_1258 (ce fw_1260 (ce fw_1262 (ce fw_2048 (ce fw_2051 (ce fw_2053 (ce fw_2055 (ce fw_2056 (ce fw_2057 (ce fw_2058 (cn))))))))))))))))))))))))
def q_wsX11_send_r5 : List Nat := [2059, 2061, 2063, 2065, 2067, 2069, 2071, 3282, 3283, 3284, 1034, 3285, 2114, 3286, 2115, 2117, 2119, 2120, 3295, 3296, 3297, 3298, 3299, 3301]
set_option maxRecDepth 100000 in
theorem e_wsX11_send_r5 : q_wsX11_send_r5.map fe = wsX11_send_r5 := ce fw_2059 (ce fw_2061 (ce fw_2063 (ce fw_2065 (ce fw_2067 (ce fw_2069 (ce fw_2071 (ce fw_3282 (ce fw_3283 (ce fw_3284 (ce fw_1034 (ce fw_3285 (ce fw_2114 (ce fw_3286 (ce fw_2115 (ce fw_2117 (ce fw_2119 (ce fw_2120 (ce fw_3295 (ce fw_3296 (ce fw_3297 (ce fw_3298 (ce fw_3299 (ce fw_3301 (cn))))))))))))))))))))))))
def q_wsX11_send_r6 : List Nat := [9, 3302, 2212, 1123, 1088, 1080, 4103, 3303, 3304, 3305, 1027, 3306, 1086, 1084, 3307, 3308, 3309, 3310, 3311, 4097, 10, 4098, 4099, 4101]
set_option maxRecDepth 100000 in
theorem e_wsX11_send_r6 : q_wsX11_send_r6.map fe = wsX11_send_r6 := ce fw_9 (ce fw_3302 (ce fw_2212 (ce fw_1123 (ce fw_1088 (ce fw_1080 (ce fw_4103 (ce fw_3303 (ce fw_3304 (ce fw_3305 (ce fw_1027 (ce fw_3306 (ce fw_1086 (ce fw_1084 (ce fw_3307 (ce fw_3308 (ce fw_3309 (ce fw_3310 (ce fw_3311 (ce fw_4097 (ce fw_10 (ce fw_4098 (ce fw_4099 (ce fw_4101 (cn))))))))))))))))))))))))
def q_wsX11_send_r7 : List Nat := [11, 4102, 4104, 4105, 4106, 4107, 1122, 1091, 1077, 4108, 4109, 4110, 4111, 4112]
set_option maxRecDepth 100000 in
theorem e_wsX11_send_r7 : q_wsX11_send_r7.map fe = wsX11_send_r7 := ce fw_11 (ce fw_4102 (ce fw_4104 (ce fw_4105 (ce fw_4106 (ce fw_4107 (ce fw_1122 (ce fw_1091 (ce fw_1077 (ce fw_4108 (ce fw_4109 (ce fw_4110 (ce fw_4111 (ce fw_4112 (cn))))))))))))))
def q_wsX11_send : List Nat := 3294 :: ((((((((((((q_wsX11_send_r1) ++ ((q_wsX11_send_r2) ++ ((q_wsX11_send_r3) ++ ((q_wsX11_send_r4) ++ ((q_wsX11_send_r5) ++ ((q_wsX11_send_r6) ++ (q_wsX11_send_r7))))))) ++ (q_wsX110)) ++ (q_wsX100)) ++ (q_wsX90)) ++ (q_wsX20)) ++ (q_wsX50)) ++ (q_wsX60)) ++ (q_wsX40)) ++ (q_wsX10)) ++ (q_wsX70)) ++ (q_wsX00))
set_option maxRecDepth 100000 in
theorem e_wsX11_send : q_wsX11_send.map fe = wsX11_send := ce fw_3294 (ca (ca (ca (ca (ca (ca (ca (ca (ca (ca (ca (e_wsX11_send_r1) (ca (e_wsX11_send_r2) (ca (e_wsX11_send_r3) (ca (e_wsX11_send_r4) (ca (e_wsX11_send_r5) (ca (e_wsX11_send_r6) (e_wsX11_send_r7))))))) (e_wsX110)) (e_wsX100)) (e_wsX90)) (e_wsX20)) (e_wsX50)) (e_wsX60)) (e_wsX40)) (e_wsX10)) (e_wsX70)) (e_wsX00))
def q_wsX11_turn_r1 : List Nat := [3073, 2241, 2226, 2220, 2213, 3250, 3252, 8, 1025, 3253, 3077, 3076, 3254, 3255, 3256, 1029, 3257, 2219, 2221, 2223, 2225, 3258, 3259, 3260]
set_option maxRecDepth 100000 in
theorem e_wsX11_turn_r1 : q_wsX11_turn_r1.map fe = wsX11_turn_r1 := ce fw_3073 (ce fw_2241 (ce fw_2226 (ce fw_2220 (ce fw_2213 (ce fw_3250 (ce fw_3252 (ce fw_8 (ce fw_1025 (ce fw_3253 (ce fw_3077 (ce fw_3076 (ce fw_3254 (ce fw_3255 (ce fw_3256 (ce fw_1029 (ce fw_3257 (ce fw_2219 (ce fw_2221 (ce fw_2223 (ce fw_2225 (ce fw_3258 (ce fw_3259 (ce fw_3260 (cn))))))))))))))))))))))))
def q_wsX11_turn_r2 : List Nat := [1035, 3261, 2211, 2209, 3262, 3119, 1036, 3120, 2206, 2207, 2208, 3263, 3124, 3123, 1039, 3264, 3265, 3266, 1030, 3267, 1202, 3268, 1203, 1205]
set_option maxRecDepth 100000 in
theorem e_wsX11_turn_r2 : q_wsX11_turn_r2.map fe = wsX11_turn_r2 := ce fw_1035 (ce fw_3261 (ce fw_2211 (ce fw_2209 (ce fw_3262 (ce fw_3119 (ce fw_1036 (ce fw_3120 (ce fw_2206 (ce fw_2207 (ce fw_2208 (ce fw_3263 (ce fw_3124 (ce fw_3123 (ce fw_1039 (ce fw_3264 (ce fw_3265 (ce fw_3266 (ce fw_1030 (ce fw_3267 (ce fw_1202 (ce fw_3268 (ce fw_1203 (ce fw_1205 (cn))))))))))))))))))))))))
def q_wsX11_turn_r3 : List Nat := [1207, 3269, 3270, 3271, 1031, 3272, 2154, 2156, 2158, 2160, 2162, 2163, 2164, 2166, 2168, 2169, 2170, 2171, 2172, 3273, 3274, 3275, 1032, 3276]
set_option maxRecDepth 100000 in
theorem e_wsX11_turn_r3 : q_wsX11_turn_r3.map fe = wsX11_turn_r3 := ce fw_1207 (ce fw_3269 (ce fw_3270 (ce fw_3271 (ce fw_1031 (ce fw_3272 (ce fw_2154 (ce fw_2156 (ce fw_2158 (ce fw_2160 (ce fw_2162 (ce fw_2163 (ce fw_2164 (ce fw_2166 (ce fw_2168 (ce fw_2169 (ce fw_2170 (ce fw_2171 (ce fw_2172 (ce fw_3273 (ce fw_3274 (ce fw_3275 (ce fw_1032 (ce fw_3276 (cn))))))))))))))))))))))))
def q_wsX11_turn_r4 : List Nat := [1229, 3277, 1230, 1233, 1236, 1237, 1238, 3278, 3279, 3280, 1033, 3281, 1258, 1260, 1262, 2048, 2051, 2053, 2055, 2056, 2057, 2058, 2059, 2061]
set_option maxRecDepth 100000 in
theorem e_wsX11_turn_r4 : q_wsX11_turn_r4.map fe = wsX11_turn_r4 := ce fw_1229 (ce fw_3277 (ce fw_1230 (ce fw_1233 (ce fw_1236 (ce fw_1237 (ce fw_1238 (ce fw_3278 (ce fw_3279 (ce fw_3280 (ce fw_1033 (ce fw_3281 (ce fw_1258 (ce fw_1260 (ce fw_1262 (ce fw_2048 (ce fw_2051 (ce fw_2053 (ce fw_2055 (ce fw_2056 (ce fw_2057 (ce fw_2058 (ce fw_2059 (ce fw_2061 (cn))))))))))))))))))))))))
def q_wsX11_turn_r5 : List Nat := [2063, 2065, 2067, 2069, 2071, 3282, 3283, 3284, 1034, 3285, 2114, 3286, 2115, 2117, 2119, 2120, 4117, 4118, 4119, 4120]
set_option maxRecDepth 100000 in
theorem e_wsX11_turn_r5 : q_wsX11_turn_r5.map fe = wsX11_turn_r5 := ce fw_2063 (ce fw_2065 (ce fw_2067 (ce fw_2069 (ce fw_2071 (ce fw_3282 (ce fw_3283 (ce fw_3284 (ce fw_1034 (ce fw_3285 (ce fw_2114 (ce fw_3286 (ce fw_2115 (ce fw_2117 (ce fw_2119 (ce fw_2120 (ce fw_4117 (ce fw_4118 (ce fw_4119 (ce fw_4120 (cn))))))))))))))))))))
def q_wsX11_turn : List Nat := 4116 :: (((((((((((q_wsX11_turn_r1) ++ ((q_wsX11_turn_r2) ++ ((q_wsX11_turn_r3) ++ ((q_wsX11_turn_r4) ++ (q_wsX11_turn_r5))))) ++ (q_wsX110)) ++ (q_wsX100)) ++ (q_wsX90)) ++ (q_wsX20)) ++ (q_wsX60)) ++ (q_wsX40)) ++ (q_wsX10)) ++ (q_wsX70)) ++ (q_wsX00))
set_option maxRecDepth 100000 in
theorem e_wsX11_turn : q_wsX11_turn.map fe = wsX11_turn := ce fw_4116 (ca (ca (ca (ca (ca (ca (ca (ca (ca (ca (e_wsX11_turn_r1) (ca (e_wsX11_turn_r2) (ca (e_wsX11_turn_r3) (ca (e_wsX11_turn_r4) (e_wsX11_turn_r5))))) (e_wsX110)) (e_wsX100)) (e_wsX90)) (e_wsX20)) (e_wsX60)) (e_wsX40)) (e_wsX10)) (e_wsX70)) (e_wsX00))
def q_wsX2_flip : List Nat := 4120 :: (([2211, 2209]) ++ (q_wsX20))
set_option maxRecDepth 100000 in
theorem e_wsX2_flip : q_wsX2_flip.map fe = wsX2_flip := ce fw_4120 (ca (ce fw_2211 (ce fw_2209 (cn))) (e_wsX20))
def q_wsX11_lose_r1 : List Nat := [3073, 2241, 2226, 2220, 2213, 3250, 3252, 8, 1025, 3253, 3077, 3076, 3254, 3255, 3256, 1029, 3257, 2219, 2221, 2223, 2225, 3258, 3259, 3260]
set_option maxRecDepth 100000 in
theorem e_wsX11_lose_r1 : q_wsX11_lose_r1.map fe = wsX11_lose_r1 := ce fw_3073 (ce fw_2241 (ce fw_2226 (ce fw_2220 (ce fw_2213 (ce fw_3250 (ce fw_3252 (ce fw_8 (ce fw_1025 (ce fw_3253 (ce fw_3077 (ce fw_3076 (ce fw_3254 (ce fw_3255 (ce fw_3256 (ce fw_1029 (ce fw_3257 (ce fw_2219 (ce fw_2221 (ce fw_2223 (ce fw_2225 (ce fw_3258 (ce fw_3259 (ce fw_3260 (cn))))))))))))))))))))))))
def q_wsX11_lose_r2 : List Nat := [1035, 3261, 2211, 2209, 3262, 3119, 1036, 3120, 2206, 2207, 2208, 3263, 3124, 3123, 1039, 3264, 3265, 3266, 1030, 3267, 1202, 3268, 1203, 1205]
set_option maxRecDepth 100000 in
theorem e_wsX11_lose_r2 : q_wsX11_lose_r2.map fe = wsX11_lose_r2 := ce fw_1035 (ce fw_3261 (ce fw_2211 (ce fw_2209 (ce fw_3262 (ce fw_3119 (ce fw_1036 (ce fw_3120 (ce fw_2206 (ce fw_2207 (ce fw_2208 (ce fw_3263 (ce fw_3124 (ce fw_3123 (ce fw_1039 (ce fw_3264 (ce fw_3265 (ce fw_3266 (ce fw_1030 (ce fw_3267 (ce fw_1202 (ce fw_3268 (ce fw_1203 (ce fw_1205 (cn))))))))))))))))))))))))
def q_wsX11_lose_r3 : List Nat := [1207, 3269, 3270, 3271, 1031, 3272, 2154, 2156, 2158, 2160, 2162, 2163, 2164, 2166, 2168, 2169, 2170, 2171, 2172, 3273, 3274, 3275, 1032, 3276]
set_option maxRecDepth 100000 in
theorem e_wsX11_lose_r3 : q_wsX11_lose_r3.map fe = wsX11_lose_r3 := ce fw_1207 (ce fw_3269 (ce fw_3270 (ce fw_3271 (ce fw_1031 (ce fw_3272 (ce fw_2154 (ce fw_2156 (ce fw_2158 (ce fw_2160 (ce fw_2162 (ce fw_2163 (ce fw_2164 (ce fw_2166 (ce fw_2168 (ce fw_2169 (ce fw_2170 (ce fw_2171 (ce fw_2172 (ce fw_3273 (ce fw_3274 (ce fw_3275 (ce fw_1032 (ce fw_3276 (cn))))))))))))))))))))))))
def q_wsX11_lose_r4 : List Nat := [1229, 3277, 1230, 1233, 1236, 1237, 1238, 3278, 3279, 3280, 1033, 3281, 1258, 1260, 1262, 2048, 2051, 2053, 2055, 2056, 2057, 2058, 2059, 2061]
set_option maxRecDepth 100000 in
theorem e_wsX11_lose_r4 : q_wsX11_lose_r4.map fe = wsX11_lose_r4 := ce fw_1229 (ce fw_3277 (ce fw_1230 (ce fw_1233 (ce fw_1236 (ce fw_1237 (ce fw_1238 (ce fw_3278 (ce fw_3279 (ce fw_3280 (ce fw_1033 (ce fw_3281 (ce fw_1258 (ce fw_1260 (ce fw_1262 (ce fw_2048 (ce fw_2051 (ce fw_2053 (ce fw_2055 (ce fw_2056 (ce fw_2057 (ce fw_2058 (ce fw_2059 (ce fw_2061 (cn))))))))))))))))))))))))
def q_wsX11_lose_r5 : List Nat := [2063, 2065, 2067, 2069, 2071, 3282, 3283, 3284, 1034, 3285, 2114, 3286, 2115, 2117, 2119, 2120, 4125, 4126, 4127, 4128]
set_option maxRecDepth 100000 in
theorem e_wsX11_lose_r5 : q_wsX11_lose_r5.map fe = wsX11_lose_r5 := ce fw_2063 (ce fw_2065 (ce fw_2067 (ce fw_2069 (ce fw_2071 (ce fw_3282 (ce fw_3283 (ce fw_3284 (ce fw_1034 (ce fw_3285 (ce fw_2114 (ce fw_3286 (ce fw_2115 (ce fw_2117 (ce fw_2119 (ce fw_2120 (ce fw_4125 (ce fw_4126 (ce fw_4127 (ce fw_4128 (cn))))))))))))))))))))
def q_wsX11_lose : List Nat := 4124 :: (((((((((((q_wsX11_lose_r1) ++ ((q_wsX11_lose_r2) ++ ((q_wsX11_lose_r3) ++ ((q_wsX11_lose_r4) ++ (q_wsX11_lose_r5))))) ++ (q_wsX110)) ++ (q_wsX100)) ++ (q_wsX90)) ++ (q_wsX20)) ++ (q_wsX60)) ++ (q_wsX40)) ++ (q_wsX10)) ++ (q_wsX70)) ++ (q_wsX00))
set_option maxRecDepth 100000 in
theorem e_wsX11_lose : q_wsX11_lose.map fe = wsX11_lose := ce fw_4124 (ca (ca (ca (ca (ca (ca (ca (ca (ca (ca (e_wsX11_lose_r1) (ca (e_wsX11_lose_r2) (ca (e_wsX11_lose_r3) (ca (e_wsX11_lose_r4) (e_wsX11_lose_r5))))) (e_wsX110)) (e_wsX100)) (e_wsX90)) (e_wsX20)) (e_wsX60)) (e_wsX40)) (e_wsX10)) (e_wsX70)) (e_wsX00))
def q_wsX2_cut : List Nat := 4128 :: (([2211, 2209, 3263, 3124, 3123, 1039]) ++ (q_wsX20))
set_option maxRecDepth 100000 in
theorem e_wsX2_cut : q_wsX2_cut.map fe = wsX2_cut := ce fw_4128 (ca (ce fw_2211 (ce fw_2209 (ce fw_3263 (ce fw_3124 (ce fw_3123 (ce fw_1039 (cn))))))) (e_wsX20))
def q_wsX11_put_r1 : List Nat := [3073, 2241, 2226, 2220, 2213, 3250, 3252, 8, 1025, 3253, 3077, 3076, 3254, 3255, 3256, 1029, 3257, 2219, 2221, 2223, 2225, 3258, 3259, 3260]
set_option maxRecDepth 100000 in
theorem e_wsX11_put_r1 : q_wsX11_put_r1.map fe = wsX11_put_r1 := ce fw_3073 (ce fw_2241 (ce fw_2226 (ce fw_2220 (ce fw_2213 (ce fw_3250 (ce fw_3252 (ce fw_8 (ce fw_1025 (ce fw_3253 (ce fw_3077 (ce fw_3076 (ce fw_3254 (ce fw_3255 (ce fw_3256 (ce fw_1029 (ce fw_3257 (ce fw_2219 (ce fw_2221 (ce fw_2223 (ce fw_2225 (ce fw_3258 (ce fw_3259 (ce fw_3260 (cn))))))))))))))))))))))))
def q_wsX11_put_r2 : List Nat := [1035, 3261, 2211, 2209, 3262, 3119, 1036, 3120, 2206, 2207, 2208, 3263, 3124, 3123, 1039, 3264, 3265, 3266, 1030, 3267, 1202, 3268, 1203, 1205]
set_option maxRecDepth 100000 in
theorem e_wsX11_put_r2 : q_wsX11_put_r2.map fe = wsX11_put_r2 := ce fw_1035 (ce fw_3261 (ce fw_2211 (ce fw_2209 (ce fw_3262 (ce fw_3119 (ce fw_1036 (ce fw_3120 (ce fw_2206 (ce fw_2207 (ce fw_2208 (ce fw_3263 (ce fw_3124 (ce fw_3123 (ce fw_1039 (ce fw_3264 (ce fw_3265 (ce fw_3266 (ce fw_1030 (ce fw_3267 (ce fw_1202 (ce fw_3268 (ce fw_1203 (ce fw_1205 (cn))))))))))))))))))))))))
def q_wsX11_put_r3 : List Nat := [1207, 3269, 3270, 3271, 1031, 3272, 2154, 2156, 2158, 2160, 2162, 2163, 2164, 2166, 2168, 2169, 2170, 2171, 2172, 3273, 3274, 3275, 1032, 3276]
set_option maxRecDepth 100000 in
theorem e_wsX11_put_r3 : q_wsX11_put_r3.map fe = wsX11_put_r3 := ce fw_1207 (ce fw_3269 (ce fw_3270 (ce fw_3271 (ce fw_1031 (ce fw_3272 (ce fw_2154 (ce fw_2156 (ce fw_2158 (ce fw_2160 (ce fw_2162 (ce fw_2163 (ce fw_2164 (ce fw_2166 (ce fw_2168 (ce fw_2169 (ce fw_2170 (ce fw_2171 (ce fw_2172 (ce fw_3273 (ce fw_3274 (ce fw_3275 (ce fw_1032 (ce fw_3276 (cn))))))))))))))))))))))))
def q_wsX11_put_r4 : List Nat := [1229, 3277, 1230, 1233, 1236, 1237, 1238, 3278, 3279, 3280, 1033, 3281, 1258, 1260, 1262, 2048, 2051, 2053, 2055, 2056, 2057, 2058, 2059, 2061]
set_option maxRecDepth 100000 in
theorem e_wsX11_put_r4 : q_wsX11_put_r4.map fe = wsX11_put_r4 := ce fw_1229 (ce fw_3277 (ce fw_1230 (ce fw_1233 (ce fw_1236 (ce fw_1237 (ce fw_1238 (ce fw_3278 (ce fw_3279 (ce fw_3280 (ce fw_1033 (ce fw_3281 (ce fw_1258 (ce fw_1260 (ce fw_1262 (ce fw_2048 (ce fw_2051 (ce fw_2053 (ce fw_2055 (ce fw_2056 (ce fw_2057 (ce fw_2058 (ce fw_2059 (ce fw_2061 (cn))))))))))))))))))))))))
def q_wsX11_put_r5 : List Nat := [2063, 2065, 2067, 2069, 2071, 3282, 3283, 3284, 1034, 3285, 2114, 3286, 2115, 2117, 2119, 2120, 4133, 4134, 4135, 4136]
set_option maxRecDepth 100000 in
theorem e_wsX11_put_r5 : q_wsX11_put_r5.map fe = wsX11_put_r5 := ce fw_2063 (ce fw_2065 (ce fw_2067 (ce fw_2069 (ce fw_2071 (ce fw_3282 (ce fw_3283 (ce fw_3284 (ce fw_1034 (ce fw_3285 (ce fw_2114 (ce fw_3286 (ce fw_2115 (ce fw_2117 (ce fw_2119 (ce fw_2120 (ce fw_4133 (ce fw_4134 (ce fw_4135 (ce fw_4136 (cn))))))))))))))))))))
def q_wsX11_put : List Nat := 4132 :: (((((((((((q_wsX11_put_r1) ++ ((q_wsX11_put_r2) ++ ((q_wsX11_put_r3) ++ ((q_wsX11_put_r4) ++ (q_wsX11_put_r5))))) ++ (q_wsX110)) ++ (q_wsX100)) ++ (q_wsX90)) ++ (q_wsX20)) ++ (q_wsX60)) ++ (q_wsX40)) ++ (q_wsX10)) ++ (q_wsX70)) ++ (q_wsX00))
set_option maxRecDepth 100000 in
theorem e_wsX11_put : q_wsX11_put.map fe = wsX11_put := ce fw_4132 (ca (ca (ca (ca (ca (ca (ca (ca (ca (ca (e_wsX11_put_r1) (ca (e_wsX11_put_r2) (ca (e_wsX11_put_r3) (ca (e_wsX11_put_r4) (e_wsX11_put_r5))))) (e_wsX110)) (e_wsX100)) (e_wsX90)) (e_wsX20)) (e_wsX60)) (e_wsX40)) (e_wsX10)) (e_wsX70)) (e_wsX00))
def q_wsX2_insert : List Nat := 4136 :: (([2211, 2209, 3263, 3124, 3123, 1039]) ++ (q_wsX20))
set_option maxRecDepth 100000 in
theorem e_wsX2_insert : q_wsX2_insert.map fe = wsX2_insert := ce fw_4136 (ca (ce fw_2211 (ce fw_2209 (ce fw_3263 (ce fw_3124 (ce fw_3123 (ce fw_1039 (cn))))))) (e_wsX20))
def q_wsX11_hear_r1 : List Nat := [3073, 2241, 2220, 2213, 2226, 2237, 3250, 3252, 8, 1025, 3253, 3077, 3076, 3254, 3255, 3256, 1029, 3257, 2219, 2221, 2223, 2225, 3258, 3259]
set_option maxRecDepth 100000 in
theorem e_wsX11_hear_r1 : q_wsX11_hear_r1.map fe = wsX11_hear_r1 := ce fw_3073 (ce fw_2241 (ce fw_2220 (ce fw_2213 (ce fw_2226 (ce fw_2237 (ce fw_3250 (ce fw_3252 (ce fw_8 (ce fw_1025 (ce fw_3253 (ce fw_3077 (ce fw_3076 (ce fw_3254 (ce fw_3255 (ce fw_3256 (ce fw_1029 (ce fw_3257 (ce fw_2219 (ce fw_2221 (ce fw_2223 (ce fw_2225 (ce fw_3258 (ce fw_3259 (cn))))))))))))))))))))))))
def q_wsX11_hear_r2 : List Nat := [3260, 1035, 3261, 2211, 2209, 3262, 3119, 1036, 3120, 2206, 2207, 2208, 3263, 3124, 3123, 1039, 3264, 3265, 3266, 1030, 3267, 1202, 3268, 1203]
set_option maxRecDepth 100000 in
theorem e_wsX11_hear_r2 : q_wsX11_hear_r2.map fe = wsX11_hear_r2 := ce fw_3260 (ce fw_1035 (ce fw_3261 (ce fw_2211 (ce fw_2209 (ce fw_3262 (ce fw_3119 (ce fw_1036 (ce fw_3120 (ce fw_2206 (ce fw_2207 (ce fw_2208 (ce fw_3263 (ce fw_3124 (ce fw_3123 (ce fw_1039 (ce fw_3264 (ce fw_3265 (ce fw_3266 (ce fw_1030 (ce fw_3267 (ce fw_1202 (ce fw_3268 (ce fw_1203 (cn))))))))))))))))))))))))
def q_wsX11_hear_r3 : List Nat := [1205, 1207, 3269, 3270, 3271, 1031, 3272, 2154, 2156, 2158, 2160, 2162, 2163, 2164, 2166, 2168, 2169, 2170, 2171, 2172, 3273, 3274, 3275, 1032]
set_option maxRecDepth 100000 in
theorem e_wsX11_hear_r3 : q_wsX11_hear_r3.map fe = wsX11_hear_r3 := ce fw_1205 (ce fw_1207 (ce fw_3269 (ce fw_3270 (ce fw_3271 (ce fw_1031 (ce fw_3272 (ce fw_2154 (ce fw_2156 (ce fw_2158 (ce fw_2160 (ce fw_2162 (ce fw_2163 (ce fw_2164 (ce fw_2166 (ce fw_2168 (ce fw_2169 (ce fw_2170 (ce fw_2171 (ce fw_2172 (ce fw_3273 (ce fw_3274 (ce fw_3275 (ce fw_1032 (cn))))))))))))))))))))))))
def q_wsX11_hear_r4 : List Nat := [3276, 1229, 3277, 1230, 1233, 1236, 1237, 1238, 3278, 3279, 3280, 1033, 3281, 1258, 1260, 1262, 2048, 2051, 2053, 2055, 2056, 2057, 2058, 2059]
set_option maxRecDepth 100000 in
theorem e_wsX11_hear_r4 : q_wsX11_hear_r4.map fe = wsX11_hear_r4 := ce fw_3276 (ce fw_1229 (ce fw_3277 (ce fw_1230 (ce fw_1233 (ce fw_1236 (ce fw_1237 (ce fw_1238 (ce fw_3278 (ce fw_3279 (ce fw_3280 (ce fw_1033 (ce fw_3281 (ce fw_1258 (ce fw_1260 (ce fw_1262 (ce fw_2048 (ce fw_2051 (ce fw_2053 (ce fw_2055 (ce fw_2056 (ce fw_2057 (ce fw_2058 (ce fw_2059 (cn))))))))))))))))))))))))
def q_wsX11_hear_r5 : List Nat := [2061, 2063, 2065, 2067, 2069, 2071, 3282, 3283, 3284, 1034, 3285, 2114, 3286, 2115, 2117, 2119, 2120, 4141, 4142, 4143, 4144, 4145, 4146, 4147]
set_option maxRecDepth 100000 in
theorem e_wsX11_hear_r5 : q_wsX11_hear_r5.map fe = wsX11_hear_r5 := ce fw_2061 (ce fw_2063 (ce fw_2065 (ce fw_2067 (ce fw_2069 (ce fw_2071 (ce fw_3282 (ce fw_3283 (ce fw_3284 (ce fw_1034 (ce fw_3285 (ce fw_2114 (ce fw_3286 (ce fw_2115 (ce fw_2117 (ce fw_2119 (ce fw_2120 (ce fw_4141 (ce fw_4142 (ce fw_4143 (ce fw_4144 (ce fw_4145 (ce fw_4146 (ce fw_4147 (cn))))))))))))))))))))))))
def q_wsX11_hear_r6 : List Nat := [4148, 4149, 4110, 4111, 4112, 4150, 4152, 12, 4153, 1231, 1101, 4154, 4155, 4156, 4157, 1128, 1126, 1087, 1078, 4158, 4159, 1044, 4160, 4161]
set_option maxRecDepth 100000 in
theorem e_wsX11_hear_r6 : q_wsX11_hear_r6.map fe = wsX11_hear_r6 := ce fw_4148 (ce fw_4149 (ce fw_4110 (ce fw_4111 (ce fw_4112 (ce fw_4150 (ce fw_4152 (ce fw_12 (ce fw_4153 (ce fw_1231 (ce fw_1101 (ce fw_4154 (ce fw_4155 (ce fw_4156 (ce fw_4157 (ce fw_1128 (ce fw_1126 (ce fw_1087 (ce fw_1078 (ce fw_4158 (ce fw_4159 (ce fw_1044 (ce fw_4160 (ce fw_4161 (cn))))))))))))))))))))))))
def q_wsX11_hear_r7 : List Nat := [4162, 4163, 4164, 4165, 4166, 1027, 4167, 1086, 4168, 4170, 13, 4171, 2138, 2139, 2140, 2141, 1130, 1116, 4172, 4173, 4174, 4175, 4176, 4177]
set_option maxRecDepth 100000 in
theorem e_wsX11_hear_r7 : q_wsX11_hear_r7.map fe = wsX11_hear_r7 := ce fw_4162 (ce fw_4163 (ce fw_4164 (ce fw_4165 (ce fw_4166 (ce fw_1027 (ce fw_4167 (ce fw_1086 (ce fw_4168 (ce fw_4170 (ce fw_13 (ce fw_4171 (ce fw_2138 (ce fw_2139 (ce fw_2140 (ce fw_2141 (ce fw_1130 (ce fw_1116 (ce fw_4172 (ce fw_4173 (ce fw_4174 (ce fw_4175 (ce fw_4176 (ce fw_4177 (cn))))))))))))))))))))))))
def q_wsX11_hear_r8 : List Nat := [4178, 4179, 4180, 4181, 4182, 4183, 4184, 4185, 4186, 4187, 1127, 1129, 4188, 4189, 4190, 4191, 1077, 4192, 4193, 4195, 14, 4196, 1119, 1081]
set_option maxRecDepth 100000 in
theorem e_wsX11_hear_r8 : q_wsX11_hear_r8.map fe = wsX11_hear_r8 := ce fw_4178 (ce fw_4179 (ce fw_4180 (ce fw_4181 (ce fw_4182 (ce fw_4183 (ce fw_4184 (ce fw_4185 (ce fw_4186 (ce fw_4187 (ce fw_1127 (ce fw_1129 (ce fw_4188 (ce fw_4189 (ce fw_4190 (ce fw_4191 (ce fw_1077 (ce fw_4192 (ce fw_4193 (ce fw_4195 (ce fw_14 (ce fw_4196 (ce fw_1119 (ce fw_1081 (cn))))))))))))))))))))))))
def q_wsX11_hear_r9 : List Nat := [1234, 1124, 4197, 4198, 4200, 15, 4201, 4202, 2151, 2152, 2153, 4203, 4205, 16, 4206, 4207, 4208, 4209, 4210, 4211, 4213, 17, 4214, 4215]
set_option maxRecDepth 100000 in
theorem e_wsX11_hear_r9 : q_wsX11_hear_r9.map fe = wsX11_hear_r9 := ce fw_1234 (ce fw_1124 (ce fw_4197 (ce fw_4198 (ce fw_4200 (ce fw_15 (ce fw_4201 (ce fw_4202 (ce fw_2151 (ce fw_2152 (ce fw_2153 (ce fw_4203 (ce fw_4205 (ce fw_16 (ce fw_4206 (ce fw_4207 (ce fw_4208 (ce fw_4209 (ce fw_4210 (ce fw_4211 (ce fw_4213 (ce fw_17 (ce fw_4214 (ce fw_4215 (cn))))))))))))))))))))))))
def q_wsX11_hear_r10 : List Nat := [4216, 4218, 18, 4219, 4220, 4221, 4222, 4223, 1117, 4108, 3304, 3305, 3306, 1084, 4109, 4224, 4105, 4106, 4107, 1122, 1091, 4225, 4227, 19]
set_option maxRecDepth 100000 in
theorem e_wsX11_hear_r10 : q_wsX11_hear_r10.map fe = wsX11_hear_r10 := ce fw_4216 (ce fw_4218 (ce fw_18 (ce fw_4219 (ce fw_4220 (ce fw_4221 (ce fw_4222 (ce fw_4223 (ce fw_1117 (ce fw_4108 (ce fw_3304 (ce fw_3305 (ce fw_3306 (ce fw_1084 (ce fw_4109 (ce fw_4224 (ce fw_4105 (ce fw_4106 (ce fw_4107 (ce fw_1122 (ce fw_1091 (ce fw_4225 (ce fw_4227 (ce fw_19 (cn))))))))))))))))))))))))
def q_wsX11_hear_r11 : List Nat := [4228, 4229, 4231, 20, 4232, 1110, 1106, 4233, 4234, 4235, 4236, 4237, 4238, 4239, 4240, 4241, 4242, 4243, 4245, 21, 4246, 2150, 4247, 4248]
set_option maxRecDepth 100000 in
theorem e_wsX11_hear_r11 : q_wsX11_hear_r11.map fe = wsX11_hear_r11 := ce fw_4228 (ce fw_4229 (ce fw_4231 (ce fw_20 (ce fw_4232 (ce fw_1110 (ce fw_1106 (ce fw_4233 (ce fw_4234 (ce fw_4235 (ce fw_4236 (ce fw_4237 (ce fw_4238 (ce fw_4239 (ce fw_4240 (ce fw_4241 (ce fw_4242 (ce fw_4243 (ce fw_4245 (ce fw_21 (ce fw_4246 (ce fw_2150 (ce fw_4247 (ce fw_4248 (cn))))))))))))))))))))))))
def q_wsX11_hear_r12 : List Nat := [4249, 4250, 4251, 4253, 22, 4254, 4255, 4256, 4257, 4258, 1114, 1082, 4259, 4261, 23, 4262, 4267, 4263, 4264, 4265, 4266, 1097]
set_option maxRecDepth 100000 in
theorem e_wsX11_hear_r12 : q_wsX11_hear_r12.map fe = wsX11_hear_r12 := ce fw_4249 (ce fw_4250 (ce fw_4251 (ce fw_4253 (ce fw_22 (ce fw_4254 (ce fw_4255 (ce fw_4256 (ce fw_4257 (ce fw_4258 (ce fw_1114 (ce fw_1082 (ce fw_4259 (ce fw_4261 (ce fw_23 (ce fw_4262 (ce fw_4267 (ce fw_4263 (ce fw_4264 (ce fw_4265 (ce fw_4266 (ce fw_1097 (cn))))))))))))))))))))))
def q_wsX11_hear : List Nat := 4140 :: ((((((((((((q_wsX11_hear_r1) ++ ((q_wsX11_hear_r2) ++ ((q_wsX11_hear_r3) ++ ((q_wsX11_hear_r4) ++ ((q_wsX11_hear_r5) ++ ((q_wsX11_hear_r6) ++ ((q_wsX11_hear_r7) ++ ((q_wsX11_hear_r8) ++ ((q_wsX11_hear_r9) ++ ((q_wsX11_hear_r10) ++ ((q_wsX11_hear_r11) ++ (q_wsX11_hear_r12)))))))))))) ++ (q_wsX110)) ++ (q_wsX100)) ++ (q_wsX90)) ++ (q_wsX20)) ++ (q_wsX60)) ++ (q_wsX40)) ++ (q_wsX10)) ++ (q_wsX70)) ++ (q_wsX00)) ++ (q_wsX50))
set_option maxRecDepth 100000 in
theorem e_wsX11_hear : q_wsX11_hear.map fe = wsX11_hear := ce fw_4140 (ca (ca (ca (ca (ca (ca (ca (ca (ca (ca (ca (e_wsX11_hear_r1) (ca (e_wsX11_hear_r2) (ca (e_wsX11_hear_r3) (ca (e_wsX11_hear_r4) (ca (e_wsX11_hear_r5) (ca (e_wsX11_hear_r6) (ca (e_wsX11_hear_r7) (ca (e_wsX11_hear_r8) (ca (e_wsX11_hear_r9) (ca (e_wsX11_hear_r10) (ca (e_wsX11_hear_r11) (e_wsX11_hear_r12)))))))))))) (e_wsX110)) (e_wsX100)) (e_wsX90)) (e_wsX20)) (e_wsX60)) (e_wsX40)) (e_wsX10)) (e_wsX70)) (e_wsX00)) (e_wsX50))
def q_wsX11_undo_r1 : List Nat := [3077, 3073, 2241, 3076, 3254, 3255, 3256, 1029, 3257, 2219, 2221, 2223, 2225, 3258, 3259, 3260, 1035, 3261, 2211, 2209, 3262, 3119, 1036, 3120]
set_option maxRecDepth 100000 in
theorem e_wsX11_undo_r1 : q_wsX11_undo_r1.map fe = wsX11_undo_r1 := ce fw_3077 (ce fw_3073 (ce fw_2241 (ce fw_3076 (ce fw_3254 (ce fw_3255 (ce fw_3256 (ce fw_1029 (ce fw_3257 (ce fw_2219 (ce fw_2221 (ce fw_2223 (ce fw_2225 (ce fw_3258 (ce fw_3259 (ce fw_3260 (ce fw_1035 (ce fw_3261 (ce fw_2211 (ce fw_2209 (ce fw_3262 (ce fw_3119 (ce fw_1036 (ce fw_3120 (cn))))))))))))))))))))))))
def q_wsX11_undo_r2 : List Nat := [2206, 2207, 2208, 3263, 3124, 3123, 1039, 3264, 3265, 3266, 1030, 3267, 1202, 3268, 1203, 1205, 1207, 3269, 3270, 3271, 1031, 3272, 2154, 2156]
set_option maxRecDepth 100000 in
theorem e_wsX11_undo_r2 : q_wsX11_undo_r2.map fe = wsX11_undo_r2 := ce fw_2206 (ce fw_2207 (ce fw_2208 (ce fw_3263 (ce fw_3124 (ce fw_3123 (ce fw_1039 (ce fw_3264 (ce fw_3265 (ce fw_3266 (ce fw_1030 (ce fw_3267 (ce fw_1202 (ce fw_3268 (ce fw_1203 (ce fw_1205 (ce fw_1207 (ce fw_3269 (ce fw_3270 (ce fw_3271 (ce fw_1031 (ce fw_3272 (ce fw_2154 (ce fw_2156 (cn))))))))))))))))))))))))
def q_wsX11_undo_r3 : List Nat := [2158, 2160, 2162, 2163, 2164, 2166, 2168, 2169, 2170, 2171, 2172, 3273, 3274, 3275, 1032, 3276, 1229, 3277, 1230, 1233, 1236, 1237, 1238, 3278]
set_option maxRecDepth 100000 in
theorem e_wsX11_undo_r3 : q_wsX11_undo_r3.map fe = wsX11_undo_r3 := ce fw_2158 (ce fw_2160 (ce fw_2162 (ce fw_2163 (ce fw_2164 (ce fw_2166 (ce fw_2168 (ce fw_2169 (ce fw_2170 (ce fw_2171 (ce fw_2172 (ce fw_3273 (ce fw_3274 (ce fw_3275 (ce fw_1032 (ce fw_3276 (ce fw_1229 (ce fw_3277 (ce fw_1230 (ce fw_1233 (ce fw_1236 (ce fw_1237 (ce fw_1238 (ce fw_3278 (cn))))))))))))))))))))))))
def q_wsX11_undo_r4 : List Nat := [3279, 3280, 1033, 3281, 1258, 1260, 1262, 2048, 2051, 2053, 2055, 2056, 2057, 2058, 2059, 2061, 2063, 2065, 2067, 2069, 2071, 3282, 3283, 3284]
set_option maxRecDepth 100000 in
theorem e_wsX11_undo_r4 : q_wsX11_undo_r4.map fe = wsX11_undo_r4 := ce fw_3279 (ce fw_3280 (ce fw_1033 (ce fw_3281 (ce fw_1258 (ce fw_1260 (ce fw_1262 (ce fw_2048 (ce fw_2051 (ce fw_2053 (ce fw_2055 (ce fw_2056 (ce fw_2057 (ce fw_2058 (ce fw_2059 (ce fw_2061 (ce fw_2063 (ce fw_2065 (ce fw_2067 (ce fw_2069 (ce fw_2071 (ce fw_3282 (ce fw_3283 (ce fw_3284 (cn))))))))))))))))))))))))
def q_wsX11_undo_r5 : List Nat := [1034, 3285, 2114, 3286, 2115, 2117, 2119, 2120]
set_option maxRecDepth 100000 in
theorem e_wsX11_undo_r5 : q_wsX11_undo_r5.map fe = wsX11_undo_r5 := ce fw_1034 (ce fw_3285 (ce fw_2114 (ce fw_3286 (ce fw_2115 (ce fw_2117 (ce fw_2119 (ce fw_2120 (cn))))))))
def q_wsX11_undo : List Nat := 4271 :: (((((((((((q_wsX11_undo_r1) ++ ((q_wsX11_undo_r2) ++ ((q_wsX11_undo_r3) ++ ((q_wsX11_undo_r4) ++ (q_wsX11_undo_r5))))) ++ (q_wsX110)) ++ (q_wsX100)) ++ (q_wsX90)) ++ (q_wsX20)) ++ (q_wsX60)) ++ (q_wsX40)) ++ (q_wsX10)) ++ (q_wsX70)) ++ (q_wsX00))
set_option maxRecDepth 100000 in
theorem e_wsX11_undo : q_wsX11_undo.map fe = wsX11_undo := ce fw_4271 (ca (ca (ca (ca (ca (ca (ca (ca (ca (ca (e_wsX11_undo_r1) (ca (e_wsX11_undo_r2) (ca (e_wsX11_undo_r3) (ca (e_wsX11_undo_r4) (e_wsX11_undo_r5))))) (e_wsX110)) (e_wsX100)) (e_wsX90)) (e_wsX20)) (e_wsX60)) (e_wsX40)) (e_wsX10)) (e_wsX70)) (e_wsX00))
def q_wsX11_bit : List Nat := 4279 :: ((((([3073, 2241, 2220, 4280, 4110, 4111, 1035, 4112, 2211, 2209]) ++ (q_wsX110)) ++ (q_wsX100)) ++ (q_wsX90)) ++ (q_wsX20))
set_option maxRecDepth 100000 in
theorem e_wsX11_bit : q_wsX11_bit.map fe = wsX11_bit := ce fw_4279 (ca (ca (ca (ca (ce fw_3073 (ce fw_2241 (ce fw_2220 (ce fw_4280 (ce fw_4110 (ce fw_4111 (ce fw_1035 (ce fw_4112 (ce fw_2211 (ce fw_2209 (cn))))))))))) (e_wsX110)) (e_wsX100)) (e_wsX90)) (e_wsX20))
def q_wsX11_checks_r1 : List Nat := [3073, 2241, 2220, 2213, 2237, 1118, 4285, 4105, 4106, 1027, 4107, 1122, 1091, 1086, 1077, 4108, 3304, 3305, 3306, 1084, 4109, 4110, 4111, 1035]
set_option maxRecDepth 100000 in
theorem e_wsX11_checks_r1 : q_wsX11_checks_r1.map fe = wsX11_checks_r1 := ce fw_3073 (ce fw_2241 (ce fw_2220 (ce fw_2213 (ce fw_2237 (ce fw_1118 (ce fw_4285 (ce fw_4105 (ce fw_4106 (ce fw_1027 (ce fw_4107 (ce fw_1122 (ce fw_1091 (ce fw_1086 (ce fw_1077 (ce fw_4108 (ce fw_3304 (ce fw_3305 (ce fw_3306 (ce fw_1084 (ce fw_4109 (ce fw_4110 (ce fw_4111 (ce fw_1035 (cn))))))))))))))))))))))))
def q_wsX11_checks_r2 : List Nat := [4112, 2211, 2209]
set_option maxRecDepth 100000 in
theorem e_wsX11_checks_r2 : q_wsX11_checks_r2.map fe = wsX11_checks_r2 := ce fw_4112 (ce fw_2211 (ce fw_2209 (cn)))
def q_wsX11_checks : List Nat := 4284 :: (((((((q_wsX11_checks_r1) ++ (q_wsX11_checks_r2)) ++ (q_wsX110)) ++ (q_wsX100)) ++ (q_wsX90)) ++ (q_wsX20)) ++ (q_wsX50))
set_option maxRecDepth 100000 in
theorem e_wsX11_checks : q_wsX11_checks.map fe = wsX11_checks := ce fw_4284 (ca (ca (ca (ca (ca (ca (e_wsX11_checks_r1) (e_wsX11_checks_r2)) (e_wsX110)) (e_wsX100)) (e_wsX90)) (e_wsX20)) (e_wsX50))
def q_wsX11_receiver_r1 : List Nat := [3073, 2241, 2224, 2237, 4290, 4291, 4292, 1031, 4293, 2154, 2156, 1231, 2162, 2163, 2164, 2166, 2168, 1081, 2169, 2170, 2171, 2172, 2158, 1261]
set_option maxRecDepth 100000 in
theorem e_wsX11_receiver_r1 : q_wsX11_receiver_r1.map fe = wsX11_receiver_r1 := ce fw_3073 (ce fw_2241 (ce fw_2224 (ce fw_2237 (ce fw_4290 (ce fw_4291 (ce fw_4292 (ce fw_1031 (ce fw_4293 (ce fw_2154 (ce fw_2156 (ce fw_1231 (ce fw_2162 (ce fw_2163 (ce fw_2164 (ce fw_2166 (ce fw_2168 (ce fw_1081 (ce fw_2169 (ce fw_2170 (ce fw_2171 (ce fw_2172 (ce fw_2158 (ce fw_1261 (cn))))))))))))))))))))))))
