def q_wsX9_init_r4 : List Nat := [1117, 1120, 1122, 1127, 1129, 1131, 2129, 2130, 2131, 2132, 2149, 2157, 2158, 2159, 2161, 2162, 2163, 2164, 2165, 2166, 2133, 2134, 2135, 2136]
set_option maxRecDepth 100000 in
theorem e_wsX9_init_r4 : q_wsX9_init_r4.map fe = wsX9_init_r4 := ce fw_1117 (ce fw_1120 (ce fw_1122 (ce fw_1127 (ce fw_1129 (ce fw_1131 (ce fw_2129 (ce fw_2130 (ce fw_2131 (ce fw_2132 (ce fw_2149 (ce fw_2157 (ce fw_2158 (ce fw_2159 (ce fw_2161 (ce fw_2162 (ce fw_2163 (ce fw_2164 (ce fw_2165 (ce fw_2166 (ce fw_2133 (ce fw_2134 (ce fw_2135 (ce fw_2136 (cn))))))))))))))))))))))))
def q_wsX9_init_r5 : List Nat := [1078, 1130, 1116, 1230, 1233, 1235, 1236, 1237, 2137, 2138, 2139, 2140, 1257, 1259, 1261, 1263, 2050, 2052, 2064, 2141, 2142, 2143, 2144, 2110]
set_option maxRecDepth 100000 in
theorem e_wsX9_init_r5 : q_wsX9_init_r5.map fe = wsX9_init_r5 := ce fw_1078 (ce fw_1130 (ce fw_1116 (ce fw_1230 (ce fw_1233 (ce fw_1235 (ce fw_1236 (ce fw_1237 (ce fw_2137 (ce fw_2138 (ce fw_2139 (ce fw_2140 (ce fw_1257 (ce fw_1259 (ce fw_1261 (ce fw_1263 (ce fw_2050 (ce fw_2052 (ce fw_2064 (ce fw_2141 (ce fw_2142 (ce fw_2143 (ce fw_2144 (ce fw_2110 (cn))))))))))))))))))))))))
def q_wsX9_init_r6 : List Nat := [2112, 2145, 2146, 2147, 2148, 2114, 2115, 2196, 2197, 2198, 2199, 2200, 2201, 1036, 2202, 1189, 2203]
set_option maxRecDepth 100000 in
theorem e_wsX9_init_r6 : q_wsX9_init_r6.map fe = wsX9_init_r6 := ce fw_2112 (ce fw_2145 (ce fw_2146 (ce fw_2147 (ce fw_2148 (ce fw_2114 (ce fw_2115 (ce fw_2196 (ce fw_2197 (ce fw_2198 (ce fw_2199 (ce fw_2200 (ce fw_2201 (ce fw_1036 (ce fw_2202 (ce fw_1189 (ce fw_2203 (cn)))))))))))))))))
def q_wsX90 : List Nat := [2221, 2223, 2225, 2227]
theorem e_wsX90 : q_wsX90.map fe = wsX90 := by decide +kernel
def q_wsX9_init : List Nat := 1194 :: ((((((((((q_wsX9_init_r1) ++ ((q_wsX9_init_r2) ++ ((q_wsX9_init_r3) ++ ((q_wsX9_init_r4) ++ ((q_wsX9_init_r5) ++ (q_wsX9_init_r6)))))) ++ (q_wsX60)) ++ (q_wsX90)) ++ (q_wsX40)) ++ (q_wsX20)) ++ (q_wsX10)) ++ (q_wsX70)) ++ (q_wsX00)) ++ (q_wsX50))
set_option maxRecDepth 100000 in
theorem e_wsX9_init : q_wsX9_init.map fe = wsX9_init := ce fw_1194 (ca (ca (ca (ca (ca (ca (ca (ca (ca (e_wsX9_init_r1) (ca (e_wsX9_init_r2) (ca (e_wsX9_init_r3) (ca (e_wsX9_init_r4) (ca (e_wsX9_init_r5) (e_wsX9_init_r6)))))) (e_wsX60)) (e_wsX90)) (e_wsX40)) (e_wsX20)) (e_wsX10)) (e_wsX70)) (e_wsX00)) (e_wsX50))
def q_wsX6_init : List Nat := 1200 :: (([1201, 1055, 1056, 1165, 1202]) ++ (q_wsX60))
set_option maxRecDepth 100000 in
theorem e_wsX6_init : q_wsX6_init.map fe = wsX6_init := ce fw_1200 (ca (ce fw_1201 (ce fw_1055 (ce fw_1056 (ce fw_1165 (ce fw_1202 (cn)))))) (e_wsX60))
def q_wsX2_init : List Nat := 2198 :: (([2199, 1055, 1056, 2200, 2201, 1036, 2202, 1189, 2203]) ++ (q_wsX20))
set_option maxRecDepth 100000 in
theorem e_wsX2_init : q_wsX2_init.map fe = wsX2_init := ce fw_2198 (ca (ce fw_2199 (ce fw_1055 (ce fw_1056 (ce fw_2200 (ce fw_2201 (ce fw_1036 (ce fw_2202 (ce fw_1189 (ce fw_2203 (cn)))))))))) (e_wsX20))
def q_wsX9_restart_r1 : List Nat := [2213, 2204, 2219, 2215, 1206, 2217, 4286, 2130, 2131, 1031, 2132, 2149, 2151, 2153, 2155, 2157, 2158, 2159, 2161, 2162, 2163, 2164, 2165, 2166]
set_option maxRecDepth 100000 in
theorem e_wsX9_restart_r1 : q_wsX9_restart_r1.map fe = wsX9_restart_r1 := ce fw_2213 (ce fw_2204 (ce fw_2219 (ce fw_2215 (ce fw_1206 (ce fw_2217 (ce fw_4286 (ce fw_2130 (ce fw_2131 (ce fw_1031 (ce fw_2132 (ce fw_2149 (ce fw_2151 (ce fw_2153 (ce fw_2155 (ce fw_2157 (ce fw_2158 (ce fw_2159 (ce fw_2161 (ce fw_2162 (ce fw_2163 (ce fw_2164 (ce fw_2165 (ce fw_2166 (cn))))))))))))))))))))))))
def q_wsX9_restart_r2 : List Nat := [2133, 2134, 2135, 1032, 2136, 1078, 1229, 1130, 1116, 1230, 1233, 1235, 1236, 1237, 2137, 2138, 2139, 1033, 2140, 1257, 1259, 1261, 1263, 2050]
set_option maxRecDepth 100000 in
theorem e_wsX9_restart_r2 : q_wsX9_restart_r2.map fe = wsX9_restart_r2 := ce fw_2133 (ce fw_2134 (ce fw_2135 (ce fw_1032 (ce fw_2136 (ce fw_1078 (ce fw_1229 (ce fw_1130 (ce fw_1116 (ce fw_1230 (ce fw_1233 (ce fw_1235 (ce fw_1236 (ce fw_1237 (ce fw_2137 (ce fw_2138 (ce fw_2139 (ce fw_1033 (ce fw_2140 (ce fw_1257 (ce fw_1259 (ce fw_1261 (ce fw_1263 (ce fw_2050 (cn))))))))))))))))))))))))
def q_wsX9_restart_r3 : List Nat := [2052, 2064, 2141, 2142, 2143, 1034, 2144, 2110, 2112, 2145, 2146, 2147, 2148, 2114, 2115]
set_option maxRecDepth 100000 in
theorem e_wsX9_restart_r3 : q_wsX9_restart_r3.map fe = wsX9_restart_r3 := ce fw_2052 (ce fw_2064 (ce fw_2141 (ce fw_2142 (ce fw_2143 (ce fw_1034 (ce fw_2144 (ce fw_2110 (ce fw_2112 (ce fw_2145 (ce fw_2146 (ce fw_2147 (ce fw_2148 (ce fw_2114 (ce fw_2115 (cn)))))))))))))))
def q_wsX9_restart : List Nat := 4285 :: ((((((((((q_wsX9_restart_r1) ++ ((q_wsX9_restart_r2) ++ (q_wsX9_restart_r3))) ++ (q_wsX90)) ++ (q_wsX20)) ++ (q_wsX60)) ++ (q_wsX40)) ++ (q_wsX50)) ++ (q_wsX10)) ++ (q_wsX70)) ++ (q_wsX00))
set_option maxRecDepth 100000 in
theorem e_wsX9_restart : q_wsX9_restart.map fe = wsX9_restart := ce fw_4285 (ca (ca (ca (ca (ca (ca (ca (ca (ca (e_wsX9_restart_r1) (ca (e_wsX9_restart_r2) (e_wsX9_restart_r3))) (e_wsX90)) (e_wsX20)) (e_wsX60)) (e_wsX40)) (e_wsX50)) (e_wsX10)) (e_wsX70)) (e_wsX00))
def q_wsX9_listen_r1 : List Nat := [2219, 2217, 2213, 3184, 3185, 3186, 1031, 3187, 2164, 2149, 2153, 3188, 3173, 3174, 1035, 3175, 2205, 2203, 3189, 3191, 4, 3192, 2151, 1231]
set_option maxRecDepth 100000 in
theorem e_wsX9_listen_r1 : q_wsX9_listen_r1.map fe = wsX9_listen_r1 := ce fw_2219 (ce fw_2217 (ce fw_2213 (ce fw_3184 (ce fw_3185 (ce fw_3186 (ce fw_1031 (ce fw_3187 (ce fw_2164 (ce fw_2149 (ce fw_2153 (ce fw_3188 (ce fw_3173 (ce fw_3174 (ce fw_1035 (ce fw_3175 (ce fw_2205 (ce fw_2203 (ce fw_3189 (ce fw_3191 (ce fw_4 (ce fw_3192 (ce fw_2151 (ce fw_1231 (cn))))))))))))))))))))))))
def q_wsX9_listen_r2 : List Nat := [1101, 3193, 3194, 3195, 1032, 3196, 1235, 1128, 1126, 1236, 1087, 1229, 1230, 1233, 1078, 3197, 3198, 1039, 3199, 3200, 3201, 3202, 3203, 3204]
set_option maxRecDepth 100000 in
theorem e_wsX9_listen_r2 : q_wsX9_listen_r2.map fe = wsX9_listen_r2 := ce fw_1101 (ce fw_3193 (ce fw_3194 (ce fw_3195 (ce fw_1032 (ce fw_3196 (ce fw_1235 (ce fw_1128 (ce fw_1126 (ce fw_1236 (ce fw_1087 (ce fw_1229 (ce fw_1230 (ce fw_1233 (ce fw_1078 (ce fw_3197 (ce fw_3198 (ce fw_1039 (ce fw_3199 (ce fw_3200 (ce fw_3201 (ce fw_3202 (ce fw_3203 (ce fw_3204 (cn))))))))))))))))))))))))
def q_wsX9_listen_r3 : List Nat := [3205, 1027, 3206, 1086, 3207, 3209, 5, 3210, 2157, 2133, 2134, 2135, 2136, 1130, 1116, 1237, 3211, 3212, 3213, 3214, 3215, 3216, 3217, 3218]
set_option maxRecDepth 100000 in
theorem e_wsX9_listen_r3 : q_wsX9_listen_r3.map fe = wsX9_listen_r3 := ce fw_3205 (ce fw_1027 (ce fw_3206 (ce fw_1086 (ce fw_3207 (ce fw_3209 (ce fw_5 (ce fw_3210 (ce fw_2157 (ce fw_2133 (ce fw_2134 (ce fw_2135 (ce fw_2136 (ce fw_1130 (ce fw_1116 (ce fw_1237 (ce fw_3211 (ce fw_3212 (ce fw_3213 (ce fw_3214 (ce fw_3215 (ce fw_3216 (ce fw_3217 (ce fw_3218 (cn))))))))))))))))))))))))
def q_wsX9_listen_r4 : List Nat := [3219, 3220, 3221, 3222, 3223, 3224, 3225, 3226, 1127, 1129, 3227, 3228, 3229, 3230, 1077, 3231, 3232, 3234, 6, 3235, 1119, 1081, 1234, 2162]
set_option maxRecDepth 100000 in
theorem e_wsX9_listen_r4 : q_wsX9_listen_r4.map fe = wsX9_listen_r4 := ce fw_3219 (ce fw_3220 (ce fw_3221 (ce fw_3222 (ce fw_3223 (ce fw_3224 (ce fw_3225 (ce fw_3226 (ce fw_1127 (ce fw_1129 (ce fw_3227 (ce fw_3228 (ce fw_3229 (ce fw_3230 (ce fw_1077 (ce fw_3231 (ce fw_3232 (ce fw_3234 (ce fw_6 (ce fw_3235 (ce fw_1119 (ce fw_1081 (ce fw_1234 (ce fw_2162 (cn))))))))))))))))))))))))
def q_wsX9_listen_r5 : List Nat := [2163, 1124, 3236, 3237, 3239, 7, 3240, 2159, 2165, 2155, 3241, 2146, 2147, 1034, 2148, 2114, 2115, 3242, 3244, 8, 3245, 2158, 3246, 3247]
set_option maxRecDepth 100000 in
theorem e_wsX9_listen_r5 : q_wsX9_listen_r5.map fe = wsX9_listen_r5 := ce fw_2163 (ce fw_1124 (ce fw_3236 (ce fw_3237 (ce fw_3239 (ce fw_7 (ce fw_3240 (ce fw_2159 (ce fw_2165 (ce fw_2155 (ce fw_3241 (ce fw_2146 (ce fw_2147 (ce fw_1034 (ce fw_2148 (ce fw_2114 (ce fw_2115 (ce fw_3242 (ce fw_3244 (ce fw_8 (ce fw_3245 (ce fw_2158 (ce fw_3246 (ce fw_3247 (cn))))))))))))))))))))))))
def q_wsX9_listen_r6 : List Nat := [3248, 3249, 3250, 3252, 9, 3253, 3254, 3255, 3257, 10, 3258, 3259, 3260, 3261, 3262, 1117, 3171, 3151, 3152, 3153, 1084, 3172, 3263, 3168]
set_option maxRecDepth 100000 in
theorem e_wsX9_listen_r6 : q_wsX9_listen_r6.map fe = wsX9_listen_r6 := ce fw_3248 (ce fw_3249 (ce fw_3250 (ce fw_3252 (ce fw_9 (ce fw_3253 (ce fw_3254 (ce fw_3255 (ce fw_3257 (ce fw_10 (ce fw_3258 (ce fw_3259 (ce fw_3260 (ce fw_3261 (ce fw_3262 (ce fw_1117 (ce fw_3171 (ce fw_3151 (ce fw_3152 (ce fw_3153 (ce fw_1084 (ce fw_3172 (ce fw_3263 (ce fw_3168 (cn))))))))))))))))))))))))
def q_wsX9_listen_r7 : List Nat := [3169, 3170, 1122, 1091, 3264, 3266, 11, 3267, 2166, 3268, 3270, 12, 3271, 1110, 1106, 2161, 3272, 3273, 3274, 3275, 3276, 3277, 3278, 3279]
set_option maxRecDepth 100000 in
theorem e_wsX9_listen_r7 : q_wsX9_listen_r7.map fe = wsX9_listen_r7 := ce fw_3169 (ce fw_3170 (ce fw_1122 (ce fw_1091 (ce fw_3264 (ce fw_3266 (ce fw_11 (ce fw_3267 (ce fw_2166 (ce fw_3268 (ce fw_3270 (ce fw_12 (ce fw_3271 (ce fw_1110 (ce fw_1106 (ce fw_2161 (ce fw_3272 (ce fw_3273 (ce fw_3274 (ce fw_3275 (ce fw_3276 (ce fw_3277 (ce fw_3278 (ce fw_3279 (cn))))))))))))))))))))))))
def q_wsX9_listen_r8 : List Nat := [3280, 3281, 2112, 3282, 3284, 13, 3285, 2109, 2110, 2145, 3286, 3287, 3288, 1033, 3289, 1257, 1261, 2054, 2055, 2056, 2057, 1259, 3290, 3292]
set_option maxRecDepth 100000 in
theorem e_wsX9_listen_r8 : q_wsX9_listen_r8.map fe = wsX9_listen_r8 := ce fw_3280 (ce fw_3281 (ce fw_2112 (ce fw_3282 (ce fw_3284 (ce fw_13 (ce fw_3285 (ce fw_2109 (ce fw_2110 (ce fw_2145 (ce fw_3286 (ce fw_3287 (ce fw_3288 (ce fw_1033 (ce fw_3289 (ce fw_1257 (ce fw_1261 (ce fw_2054 (ce fw_2055 (ce fw_2056 (ce fw_2057 (ce fw_1259 (ce fw_3290 (ce fw_3292 (cn))))))))))))))))))))))))
def q_wsX9_listen_r9 : List Nat := [14, 3293, 3294, 3295, 3296, 3297, 2052, 1114, 1082, 1263, 2050, 3298, 3300, 15, 3301, 2058, 2060, 2062, 2066, 2067, 2065, 2064, 3306, 3106]
set_option maxRecDepth 100000 in
theorem e_wsX9_listen_r9 : q_wsX9_listen_r9.map fe = wsX9_listen_r9 := ce fw_14 (ce fw_3293 (ce fw_3294 (ce fw_3295 (ce fw_3296 (ce fw_3297 (ce fw_2052 (ce fw_1114 (ce fw_1082 (ce fw_1263 (ce fw_2050 (ce fw_3298 (ce fw_3300 (ce fw_15 (ce fw_3301 (ce fw_2058 (ce fw_2060 (ce fw_2062 (ce fw_2066 (ce fw_2067 (ce fw_2065 (ce fw_2064 (ce fw_3306 (ce fw_3106 (cn))))))))))))))))))))))))
def q_wsX9_listen_r10 : List Nat := [1036, 3107, 3302, 3303, 3304, 3305, 1097]
set_option maxRecDepth 100000 in
theorem e_wsX9_listen_r10 : q_wsX9_listen_r10.map fe = wsX9_listen_r10 := ce fw_1036 (ce fw_3107 (ce fw_3302 (ce fw_3303 (ce fw_3304 (ce fw_3305 (ce fw_1097 (cn)))))))
def q_wsX9_listen : List Nat := 3183 :: (((((((((q_wsX9_listen_r1) ++ ((q_wsX9_listen_r2) ++ ((q_wsX9_listen_r3) ++ ((q_wsX9_listen_r4) ++ ((q_wsX9_listen_r5) ++ ((q_wsX9_listen_r6) ++ ((q_wsX9_listen_r7) ++ ((q_wsX9_listen_r8) ++ ((q_wsX9_listen_r9) ++ (q_wsX9_listen_r10)))))))))) ++ (q_wsX90)) ++ (q_wsX40)) ++ (q_wsX20)) ++ (q_wsX10)) ++ (q_wsX50)) ++ (q_wsX00)) ++ (q_wsX70))
set_option maxRecDepth 100000 in
theorem e_wsX9_listen : q_wsX9_listen.map fe = wsX9_listen := ce fw_3183 (ca (ca (ca (ca (ca (ca (ca (ca (e_wsX9_listen_r1) (ca (e_wsX9_listen_r2) (ca (e_wsX9_listen_r3) (ca (e_wsX9_listen_r4) (ca (e_wsX9_listen_r5) (ca (e_wsX9_listen_r6) (ca (e_wsX9_listen_r7) (ca (e_wsX9_listen_r8) (ca (e_wsX9_listen_r9) (e_wsX9_listen_r10)))))))))) (e_wsX90)) (e_wsX40)) (e_wsX20)) (e_wsX10)) (e_wsX50)) (e_wsX00)) (e_wsX70))
def q_wsX9_copyFrom_r1 : List Nat := [2213, 2215, 2217, 2219, 3101, 3102, 3103, 1035, 3104, 2205, 2203, 3105, 3106, 1036, 3107, 2200, 2201, 2202, 3108, 3110, 3109, 1040, 3111, 3112]
set_option maxRecDepth 100000 in
theorem e_wsX9_copyFrom_r1 : q_wsX9_copyFrom_r1.map fe = wsX9_copyFrom_r1 := ce fw_2213 (ce fw_2215 (ce fw_2217 (ce fw_2219 (ce fw_3101 (ce fw_3102 (ce fw_3103 (ce fw_1035 (ce fw_3104 (ce fw_2205 (ce fw_2203 (ce fw_3105 (ce fw_3106 (ce fw_1036 (ce fw_3107 (ce fw_2200 (ce fw_2201 (ce fw_2202 (ce fw_3108 (ce fw_3110 (ce fw_3109 (ce fw_1040 (ce fw_3111 (ce fw_3112 (cn))))))))))))))))))))))))
def q_wsX9_copyFrom_r2 : List Nat := [3113, 1030, 3114, 1202, 3115, 1203, 1205, 1207, 3116, 3117, 3118, 1031, 3119, 2149, 2151, 2153, 2155, 2157, 2158, 2159, 2161, 2162, 2163, 2164]
set_option maxRecDepth 100000 in
theorem e_wsX9_copyFrom_r2 : q_wsX9_copyFrom_r2.map fe = wsX9_copyFrom_r2 := ce fw_3113 (ce fw_1030 (ce fw_3114 (ce fw_1202 (ce fw_3115 (ce fw_1203 (ce fw_1205 (ce fw_1207 (ce fw_3116 (ce fw_3117 (ce fw_3118 (ce fw_1031 (ce fw_3119 (ce fw_2149 (ce fw_2151 (ce fw_2153 (ce fw_2155 (ce fw_2157 (ce fw_2158 (ce fw_2159 (ce fw_2161 (ce fw_2162 (ce fw_2163 (ce fw_2164 (cn))))))))))))))))))))))))
def q_wsX9_copyFrom_r3 : List Nat := [2165, 2166, 3120, 3121, 3122, 1032, 3123, 1229, 3124, 1230, 1233, 1235, 1236, 1237, 3125, 3126, 3127, 1033, 3128, 1257, 1259, 1261, 1263, 2050]
set_option maxRecDepth 100000 in
theorem e_wsX9_copyFrom_r3 : q_wsX9_copyFrom_r3.map fe = wsX9_copyFrom_r3 := ce fw_2165 (ce fw_2166 (ce fw_3120 (ce fw_3121 (ce fw_3122 (ce fw_1032 (ce fw_3123 (ce fw_1229 (ce fw_3124 (ce fw_1230 (ce fw_1233 (ce fw_1235 (ce fw_1236 (ce fw_1237 (ce fw_3125 (ce fw_3126 (ce fw_3127 (ce fw_1033 (ce fw_3128 (ce fw_1257 (ce fw_1259 (ce fw_1261 (ce fw_1263 (ce fw_2050 (cn))))))))))))))))))))))))
def q_wsX9_copyFrom_r4 : List Nat := [2052, 2054, 2055, 2056, 2057, 2058, 2060, 2062, 2064, 2065, 2066, 2067, 3129, 3130, 3131, 1034, 3132, 2109, 3133, 2110, 2112, 2114, 2115]
set_option maxRecDepth 100000 in
theorem e_wsX9_copyFrom_r4 : q_wsX9_copyFrom_r4.map fe = wsX9_copyFrom_r4 := ce fw_2052 (ce fw_2054 (ce fw_2055 (ce fw_2056 (ce fw_2057 (ce fw_2058 (ce fw_2060 (ce fw_2062 (ce fw_2064 (ce fw_2065 (ce fw_2066 (ce fw_2067 (ce fw_3129 (ce fw_3130 (ce fw_3131 (ce fw_1034 (ce fw_3132 (ce fw_2109 (ce fw_3133 (ce fw_2110 (ce fw_2112 (ce fw_2114 (ce fw_2115 (cn)))))))))))))))))))))))
def q_wsX9_copyFrom : List Nat := 3100 :: (((((((((q_wsX9_copyFrom_r1) ++ ((q_wsX9_copyFrom_r2) ++ ((q_wsX9_copyFrom_r3) ++ (q_wsX9_copyFrom_r4)))) ++ (q_wsX90)) ++ (q_wsX20)) ++ (q_wsX60)) ++ (q_wsX40)) ++ (q_wsX10)) ++ (q_wsX70)) ++ (q_wsX00))
set_option maxRecDepth 100000 in
theorem e_wsX9_copyFrom : q_wsX9_copyFrom.map fe = wsX9_copyFrom := ce fw_3100 (ca (ca (ca (ca (ca (ca (ca (ca (e_wsX9_copyFrom_r1) (ca (e_wsX9_copyFrom_r2) (ca (e_wsX9_copyFrom_r3) (e_wsX9_copyFrom_r4)))) (e_wsX90)) (e_wsX20)) (e_wsX60)) (e_wsX40)) (e_wsX10)) (e_wsX70)) (e_wsX00))
def q_wsX2_copyFrom : List Nat := 3104 :: (([2205, 2203, 3105, 3106, 1036, 3107, 2200, 2201, 2202, 3108, 3110, 3109, 1040]) ++ (q_wsX20))
set_option maxRecDepth 100000 in
theorem e_wsX2_copyFrom : q_wsX2_copyFrom.map fe = wsX2_copyFrom := ce fw_3104 (ca (ce fw_2205 (ce fw_2203 (ce fw_3105 (ce fw_3106 (ce fw_1036 (ce fw_3107 (ce fw_2200 (ce fw_2201 (ce fw_2202 (ce fw_3108 (ce fw_3110 (ce fw_3109 (ce fw_1040 (cn)))))))))))))) (e_wsX20))
def q_wsX6_copyFrom : List Nat := 3114 :: (([1202, 3115, 3110, 3109, 1040, 1203, 1205, 1207]) ++ (q_wsX60))
set_option maxRecDepth 100000 in
theorem e_wsX6_copyFrom : q_wsX6_copyFrom.map fe = wsX6_copyFrom := ce fw_3114 (ca (ce fw_1202 (ce fw_3115 (ce fw_3110 (ce fw_3109 (ce fw_1040 (ce fw_1203 (ce fw_1205 (ce fw_1207 (cn))))))))) (e_wsX60))
def q_wsX10_init_r1 : List Nat := [1062, 1055, 1056, 1063, 1064, 1027, 2230, 1166, 1167, 1028, 2232, 1190, 1191, 1029, 2234, 1065, 1066, 1067, 1068, 1165, 1084, 1069, 1070, 1071]
set_option maxRecDepth 100000 in
theorem e_wsX10_init_r1 : q_wsX10_init_r1.map fe = wsX10_init_r1 := ce fw_1062 (ce fw_1055 (ce fw_1056 (ce fw_1063 (ce fw_1064 (ce fw_1027 (ce fw_2230 (ce fw_1166 (ce fw_1167 (ce fw_1028 (ce fw_2232 (ce fw_1190 (ce fw_1191 (ce fw_1029 (ce fw_2234 (ce fw_1065 (ce fw_1066 (ce fw_1067 (ce fw_1068 (ce fw_1165 (ce fw_1084 (ce fw_1069 (ce fw_1070 (ce fw_1071 (cn))))))))))))))))))))))))
def q_wsX10_init_r2 : List Nat := [1072, 1077, 1086, 1091, 1094, 1097, 1100, 1104, 1108, 1112, 1073, 1074, 1075, 1076, 1117, 1120, 1122, 1127, 1129, 1131, 1169, 1170, 1171, 1189]
set_option maxRecDepth 100000 in
theorem e_wsX10_init_r2 : q_wsX10_init_r2.map fe = wsX10_init_r2 := ce fw_1072 (ce fw_1077 (ce fw_1086 (ce fw_1091 (ce fw_1094 (ce fw_1097 (ce fw_1100 (ce fw_1104 (ce fw_1108 (ce fw_1112 (ce fw_1073 (ce fw_1074 (ce fw_1075 (ce fw_1076 (ce fw_1117 (ce fw_1120 (ce fw_1122 (ce fw_1127 (ce fw_1129 (ce fw_1131 (ce fw_1169 (ce fw_1170 (ce fw_1171 (ce fw_1189 (cn))))))))))))))))))))))))
def q_wsX10_init_r3 : List Nat := [1172, 1178, 1192, 1193, 1194, 1195, 1196, 1197, 1030, 2215, 1217, 1218, 1031, 2217, 2194, 2195, 1035, 2213, 1199, 1200, 1201, 1202, 1219, 1220]
set_option maxRecDepth 100000 in
theorem e_wsX10_init_r3 : q_wsX10_init_r3.map fe = wsX10_init_r3 := ce fw_1172 (ce fw_1178 (ce fw_1192 (ce fw_1193 (ce fw_1194 (ce fw_1195 (ce fw_1196 (ce fw_1197 (ce fw_1030 (ce fw_2215 (ce fw_1217 (ce fw_1218 (ce fw_1031 (ce fw_2217 (ce fw_2194 (ce fw_2195 (ce fw_1035 (ce fw_2213 (ce fw_1199 (ce fw_1200 (ce fw_1201 (ce fw_1202 (ce fw_1219 (ce fw_1220 (cn))))))))))))))))))))))))
def q_wsX10_init_r4 : List Nat := [1221, 1222, 1223, 1224, 1032, 2151, 1251, 1252, 1033, 2153, 2103, 2104, 1034, 2155, 2127, 1226, 1227, 1228, 1229, 1254, 1255, 1256, 2106, 2107]
set_option maxRecDepth 100000 in
theorem e_wsX10_init_r4 : q_wsX10_init_r4.map fe = wsX10_init_r4 := ce fw_1221 (ce fw_1222 (ce fw_1223 (ce fw_1224 (ce fw_1032 (ce fw_2151 (ce fw_1251 (ce fw_1252 (ce fw_1033 (ce fw_2153 (ce fw_2103 (ce fw_2104 (ce fw_1034 (ce fw_2155 (ce fw_2127 (ce fw_1226 (ce fw_1227 (ce fw_1228 (ce fw_1229 (ce fw_1254 (ce fw_1255 (ce fw_1256 (ce fw_2106 (ce fw_2107 (cn))))))))))))))))))))))))
def q_wsX10_init_r5 : List Nat := [2108, 2109, 2128, 2129, 2130, 2131, 2132, 2149, 2157, 2158, 2159, 2161, 2162, 2163, 2164, 2165, 2166, 2133, 2134, 2135, 2136, 1078, 1130, 1116]
set_option maxRecDepth 100000 in
theorem e_wsX10_init_r5 : q_wsX10_init_r5.map fe = wsX10_init_r5 := ce fw_2108 (ce fw_2109 (ce fw_2128 (ce fw_2129 (ce fw_2130 (ce fw_2131 (ce fw_2132 (ce fw_2149 (ce fw_2157 (ce fw_2158 (ce fw_2159 (ce fw_2161 (ce fw_2162 (ce fw_2163 (ce fw_2164 (ce fw_2165 (ce fw_2166 (ce fw_2133 (ce fw_2134 (ce fw_2135 (ce fw_2136 (ce fw_1078 (ce fw_1130 (ce fw_1116 (cn))))))))))))))))))))))))
def q_wsX10_init_r6 : List Nat := [1230, 1233, 1235, 1236, 1237, 2137, 2138, 2139, 2140, 1257, 1259, 1261, 1263, 2050, 2052, 2064, 2141, 2142, 2143, 2144, 2110, 2112, 2145, 2146]
set_option maxRecDepth 100000 in
theorem e_wsX10_init_r6 : q_wsX10_init_r6.map fe = wsX10_init_r6 := ce fw_1230 (ce fw_1233 (ce fw_1235 (ce fw_1236 (ce fw_1237 (ce fw_2137 (ce fw_2138 (ce fw_2139 (ce fw_2140 (ce fw_1257 (ce fw_1259 (ce fw_1261 (ce fw_1263 (ce fw_2050 (ce fw_2052 (ce fw_2064 (ce fw_2141 (ce fw_2142 (ce fw_2143 (ce fw_2144 (ce fw_2110 (ce fw_2112 (ce fw_2145 (ce fw_2146 (cn))))))))))))))))))))))))
def q_wsX10_init_r7 : List Nat := [2147, 2148, 2114, 2115, 2196, 2197, 2198, 2199, 2200, 2201, 1036, 2202, 2203]
set_option maxRecDepth 100000 in
theorem e_wsX10_init_r7 : q_wsX10_init_r7.map fe = wsX10_init_r7 := ce fw_2147 (ce fw_2148 (ce fw_2114 (ce fw_2115 (ce fw_2196 (ce fw_2197 (ce fw_2198 (ce fw_2199 (ce fw_2200 (ce fw_2201 (ce fw_1036 (ce fw_2202 (ce fw_2203 (cn)))))))))))))
def q_wsX100 : List Nat := [2236, 2238, 2240]
theorem e_wsX100 : q_wsX100.map fe = wsX100 := by decide +kernel
def q_wsX10_init : List Nat := 1061 :: ((((((((((((q_wsX10_init_r1) ++ ((q_wsX10_init_r2) ++ ((q_wsX10_init_r3) ++ ((q_wsX10_init_r4) ++ ((q_wsX10_init_r5) ++ ((q_wsX10_init_r6) ++ (q_wsX10_init_r7))))))) ++ (q_wsX50)) ++ (q_wsX100)) ++ (q_wsX80)) ++ (q_wsX90)) ++ (q_wsX60)) ++ (q_wsX40)) ++ (q_wsX20)) ++ (q_wsX10)) ++ (q_wsX70)) ++ (q_wsX00))
set_option maxRecDepth 100000 in
theorem e_wsX10_init : q_wsX10_init.map fe = wsX10_init := ce fw_1061 (ca (ca (ca (ca (ca (ca (ca (ca (ca (ca (ca (e_wsX10_init_r1) (ca (e_wsX10_init_r2) (ca (e_wsX10_init_r3) (ca (e_wsX10_init_r4) (ca (e_wsX10_init_r5) (ca (e_wsX10_init_r6) (e_wsX10_init_r7))))))) (e_wsX50)) (e_wsX100)) (e_wsX80)) (e_wsX90)) (e_wsX60)) (e_wsX40)) (e_wsX20)) (e_wsX10)) (e_wsX70)) (e_wsX00))
def q_wsX11_init_r1 : List Nat := [1054, 1055, 1056, 1057, 1058, 1026, 2283, 2284, 2282, 2285, 2244, 2286, 1191, 1029, 3072, 2247, 2248, 1037, 3073, 1060, 1061, 1062, 1063, 1064]
set_option maxRecDepth 100000 in
theorem e_wsX11_init_r1 : q_wsX11_init_r1.map fe = wsX11_init_r1 := ce fw_1054 (ce fw_1055 (ce fw_1056 (ce fw_1057 (ce fw_1058 (ce fw_1026 (ce fw_2283 (ce fw_2284 (ce fw_2282 (ce fw_2285 (ce fw_2244 (ce fw_2286 (ce fw_1191 (ce fw_1029 (ce fw_3072 (ce fw_2247 (ce fw_2248 (ce fw_1037 (ce fw_3073 (ce fw_1060 (ce fw_1061 (ce fw_1062 (ce fw_1063 (ce fw_1064 (cn))))))))))))))))))))))))
def q_wsX11_init_r2 : List Nat := [1027, 2230, 1166, 1167, 1028, 2232, 1190, 2234, 1065, 1066, 1067, 1068, 1165, 1084, 1069, 1070, 1071, 1072, 1077, 1086, 1091, 1094, 1097, 1100]
set_option maxRecDepth 100000 in
theorem e_wsX11_init_r2 : q_wsX11_init_r2.map fe = wsX11_init_r2 := ce fw_1027 (ce fw_2230 (ce fw_1166 (ce fw_1167 (ce fw_1028 (ce fw_2232 (ce fw_1190 (ce fw_2234 (ce fw_1065 (ce fw_1066 (ce fw_1067 (ce fw_1068 (ce fw_1165 (ce fw_1084 (ce fw_1069 (ce fw_1070 (ce fw_1071 (ce fw_1072 (ce fw_1077 (ce fw_1086 (ce fw_1091 (ce fw_1094 (ce fw_1097 (ce fw_1100 (cn))))))))))))))))))))))))
def q_wsX11_init_r3 : List Nat := [1104, 1108, 1112, 1073, 1074, 1075, 1076, 1117, 1120, 1122, 1127, 1129, 1131, 1169, 1170, 1171, 1189, 1172, 1178, 1192, 1193, 1194, 1195, 1196]
set_option maxRecDepth 100000 in
theorem e_wsX11_init_r3 : q_wsX11_init_r3.map fe = wsX11_init_r3 := ce fw_1104 (ce fw_1108 (ce fw_1112 (ce fw_1073 (ce fw_1074 (ce fw_1075 (ce fw_1076 (ce fw_1117 (ce fw_1120 (ce fw_1122 (ce fw_1127 (ce fw_1129 (ce fw_1131 (ce fw_1169 (ce fw_1170 (ce fw_1171 (ce fw_1189 (ce fw_1172 (ce fw_1178 (ce fw_1192 (ce fw_1193 (ce fw_1194 (ce fw_1195 (ce fw_1196 (cn))))))))))))))))))))))))
def q_wsX11_init_r4 : List Nat := [1197, 1030, 2215, 1217, 1218, 1031, 2217, 2194, 2195, 1035, 2213, 1199, 1200, 1201, 1202, 1219, 1220, 1221, 1222, 1223, 1224, 1032, 2151, 1251]
set_option maxRecDepth 100000 in
theorem e_wsX11_init_r4 : q_wsX11_init_r4.map fe = wsX11_init_r4 := ce fw_1197 (ce fw_1030 (ce fw_2215 (ce fw_1217 (ce fw_1218 (ce fw_1031 (ce fw_2217 (ce fw_2194 (ce fw_2195 (ce fw_1035 (ce fw_2213 (ce fw_1199 (ce fw_1200 (ce fw_1201 (ce fw_1202 (ce fw_1219 (ce fw_1220 (ce fw_1221 (ce fw_1222 (ce fw_1223 (ce fw_1224 (ce fw_1032 (ce fw_2151 (ce fw_1251 (cn))))))))))))))))))))))))
def q_wsX11_init_r5 : List Nat := [1252, 1033, 2153, 2103, 2104, 1034, 2155, 2127, 1226, 1227, 1228, 1229, 1254, 1255, 1256, 2106, 2107, 2108, 2109, 2128, 2129, 2130, 2131, 2132]
set_option maxRecDepth 100000 in
theorem e_wsX11_init_r5 : q_wsX11_init_r5.map fe = wsX11_init_r5 := ce fw_1252 (ce fw_1033 (ce fw_2153 (ce fw_2103 (ce fw_2104 (ce fw_1034 (ce fw_2155 (ce fw_2127 (ce fw_1226 (ce fw_1227 (ce fw_1228 (ce fw_1229 (ce fw_1254 (ce fw_1255 (ce fw_1256 (ce fw_2106 (ce fw_2107 (ce fw_2108 (ce fw_2109 (ce fw_2128 (ce fw_2129 (ce fw_2130 (ce fw_2131 (ce fw_2132 (cn))))))))))))))))))))))))
def q_wsX11_init_r6 : List Nat := [2149, 2157, 2158, 2159, 2161, 2162, 2163, 2164, 2165, 2166, 2133, 2134, 2135, 2136, 1078, 1130, 1116, 1230, 1233, 1235, 1236, 1237, 2137, 2138]
set_option maxRecDepth 100000 in
theorem e_wsX11_init_r6 : q_wsX11_init_r6.map fe = wsX11_init_r6 := ce fw_2149 (ce fw_2157 (ce fw_2158 (ce fw_2159 (ce fw_2161 (ce fw_2162 (ce fw_2163 (ce fw_2164 (ce fw_2165 (ce fw_2166 (ce fw_2133 (ce fw_2134 (ce fw_2135 (ce fw_2136 (ce fw_1078 (ce fw_1130 (ce fw_1116 (ce fw_1230 (ce fw_1233 (ce fw_1235 (ce fw_1236 (ce fw_1237 (ce fw_2137 (ce fw_2138 (cn))))))))))))))))))))))))
def q_wsX11_init_r7 : List Nat := [2139, 2140, 1257, 1259, 1261, 1263, 2050, 2052, 2064, 2141, 2142, 2143, 2144, 2110, 2112, 2145, 2146, 2147, 2148, 2114, 2115, 2196, 2197, 2198]
set_option maxRecDepth 100000 in
theorem e_wsX11_init_r7 : q_wsX11_init_r7.map fe = wsX11_init_r7 := ce fw_2139 (ce fw_2140 (ce fw_1257 (ce fw_1259 (ce fw_1261 (ce fw_1263 (ce fw_2050 (ce fw_2052 (ce fw_2064 (ce fw_2141 (ce fw_2142 (ce fw_2143 (ce fw_2144 (ce fw_2110 (ce fw_2112 (ce fw_2145 (ce fw_2146 (ce fw_2147 (ce fw_2148 (ce fw_2114 (ce fw_2115 (ce fw_2196 (ce fw_2197 (ce fw_2198 (cn))))))))))))))))))))))))
def q_wsX11_init_r8 : List Nat := [2199, 2200, 2201, 1036, 2202, 2203, 2246, 2250, 2251, 2252, 2253, 2257, 2255, 2259, 2254]
set_option maxRecDepth 100000 in
theorem e_wsX11_init_r8 : q_wsX11_init_r8.map fe = wsX11_init_r8 := ce fw_2199 (ce fw_2200 (ce fw_2201 (ce fw_1036 (ce fw_2202 (ce fw_2203 (ce fw_2246 (ce fw_2250 (ce fw_2251 (ce fw_2252 (ce fw_2253 (ce fw_2257 (ce fw_2255 (ce fw_2259 (ce fw_2254 (cn)))))))))))))))
def q_wsX110 : List Nat := [3074, 3076, 3078, 3080, 3082, 3084, 3086]
theorem e_wsX110 : q_wsX110.map fe = wsX110 := by decide +kernel
def q_wsX11_init : List Nat := 1053 :: ((((((((((((((q_wsX11_init_r1) ++ ((q_wsX11_init_r2) ++ ((q_wsX11_init_r3) ++ ((q_wsX11_init_r4) ++ ((q_wsX11_init_r5) ++ ((q_wsX11_init_r6) ++ ((q_wsX11_init_r7) ++ (q_wsX11_init_r8)))))))) ++ (q_wsX100)) ++ (q_wsX110)) ++ (q_wsX90)) ++ (q_wsX30)) ++ (q_wsX50)) ++ (q_wsX80)) ++ (q_wsX60)) ++ (q_wsX40)) ++ (q_wsX20)) ++ (q_wsX10)) ++ (q_wsX70)) ++ (q_wsX00))
set_option maxRecDepth 100000 in
theorem e_wsX11_init : q_wsX11_init.map fe = wsX11_init := ce fw_1053 (ca (ca (ca (ca (ca (ca (ca (ca (ca (ca (ca (ca (ca (e_wsX11_init_r1) (ca (e_wsX11_init_r2) (ca (e_wsX11_init_r3) (ca (e_wsX11_init_r4) (ca (e_wsX11_init_r5) (ca (e_wsX11_init_r6) (ca (e_wsX11_init_r7) (e_wsX11_init_r8)))))))) (e_wsX100)) (e_wsX110)) (e_wsX90)) (e_wsX30)) (e_wsX50)) (e_wsX80)) (e_wsX60)) (e_wsX40)) (e_wsX20)) (e_wsX10)) (e_wsX70)) (e_wsX00))
def q_wsX11_key : List Nat := 4133 :: (((([2283, 2233, 4134, 4135, 4136, 1028, 4137, 1173, 1172, 4138, 4139, 4140]) ++ (q_wsX110)) ++ (q_wsX100)) ++ (q_wsX80))
set_option maxRecDepth 100000 in
theorem e_wsX11_key : q_wsX11_key.map fe = wsX11_key := ce fw_4133 (ca (ca (ca (ce fw_2283 (ce fw_2233 (ce fw_4134 (ce fw_4135 (ce fw_4136 (ce fw_1028 (ce fw_4137 (ce fw_1173 (ce fw_1172 (ce fw_4138 (ce fw_4139 (ce fw_4140 (cn))))))))))))) (e_wsX110)) (e_wsX100)) (e_wsX80))
def q_wsX11_scheme_r1 : List Nat := [2283, 2233, 3073, 1174, 2261, 1176, 2263, 1179, 2231, 2258, 2235, 2287, 1118, 4159, 4160, 4161, 1037, 4162, 2259, 2257, 2260, 2262, 2266, 2264]
set_option maxRecDepth 100000 in
theorem e_wsX11_scheme_r1 : q_wsX11_scheme_r1.map fe = wsX11_scheme_r1 := ce fw_2283 (ce fw_2233 (ce fw_3073 (ce fw_1174 (ce fw_2261 (ce fw_1176 (ce fw_2263 (ce fw_1179 (ce fw_2231 (ce fw_2258 (ce fw_2235 (ce fw_2287 (ce fw_1118 (ce fw_4159 (ce fw_4160 (ce fw_4161 (ce fw_1037 (ce fw_4162 (ce fw_2259 (ce fw_2257 (ce fw_2260 (ce fw_2262 (ce fw_2266 (ce fw_2264 (cn))))))))))))))))))))))))
def q_wsX11_scheme_r2 : List Nat := [4163, 4164, 4165, 1028, 4166, 1173, 4167, 3106, 1036, 3107, 4168, 2201, 2202, 1172, 4169, 3110, 3109, 1040, 1177, 1178, 4170, 1070, 1071, 1027]
set_option maxRecDepth 100000 in
theorem e_wsX11_scheme_r2 : q_wsX11_scheme_r2.map fe = wsX11_scheme_r2 := ce fw_4163 (ce fw_4164 (ce fw_4165 (ce fw_1028 (ce fw_4166 (ce fw_1173 (ce fw_4167 (ce fw_3106 (ce fw_1036 (ce fw_3107 (ce fw_4168 (ce fw_2201 (ce fw_2202 (ce fw_1172 (ce fw_4169 (ce fw_3110 (ce fw_3109 (ce fw_1040 (ce fw_1177 (ce fw_1178 (ce fw_4170 (ce fw_1070 (ce fw_1071 (ce fw_1027 (cn))))))))))))))))))))))))
def q_wsX11_scheme_r3 : List Nat := [1072, 1077, 1084, 1086, 1091, 1094, 1097, 1100, 1104, 1108, 1112, 1073, 1074, 1075, 1076, 1117, 1120, 1122, 1127, 1129, 1131, 4171, 4173, 16]
set_option maxRecDepth 100000 in
theorem e_wsX11_scheme_r3 : q_wsX11_scheme_r3.map fe = wsX11_scheme_r3 := ce fw_1072 (ce fw_1077 (ce fw_1084 (ce fw_1086 (ce fw_1091 (ce fw_1094 (ce fw_1097 (ce fw_1100 (ce fw_1104 (ce fw_1108 (ce fw_1112 (ce fw_1073 (ce fw_1074 (ce fw_1075 (ce fw_1076 (ce fw_1117 (ce fw_1120 (ce fw_1122 (ce fw_1127 (ce fw_1129 (ce fw_1131 (ce fw_4171 (ce fw_4173 (ce fw_16 (cn))))))))))))))))))))))))
def q_wsX11_scheme_r4 : List Nat := [4174, 2265, 1175, 4175, 4176, 4177, 4178, 4179, 4180, 4181, 4182, 4183, 4184, 4185, 4186, 4187, 4188, 4190, 17, 4191, 1105, 1109, 4193, 4195]
set_option maxRecDepth 100000 in
theorem e_wsX11_scheme_r4 : q_wsX11_scheme_r4.map fe = wsX11_scheme_r4 := ce fw_4174 (ce fw_2265 (ce fw_1175 (ce fw_4175 (ce fw_4176 (ce fw_4177 (ce fw_4178 (ce fw_4179 (ce fw_4180 (ce fw_4181 (ce fw_4182 (ce fw_4183 (ce fw_4184 (ce fw_4185 (ce fw_4186 (ce fw_4187 (ce fw_4188 (ce fw_4190 (ce fw_17 (ce fw_4191 (ce fw_1105 (ce fw_1109 (ce fw_4193 (ce fw_4195 (cn))))))))))))))))))))))))
def q_wsX11_scheme_r5 : List Nat := [18, 4196, 4197, 4198, 4199, 1041, 4200, 5242, 4201, 4202, 4203, 4204, 4205, 5243, 4207, 4208, 4209, 4210, 4211, 4212, 4213, 4214, 4215, 4216]
set_option maxRecDepth 100000 in
theorem e_wsX11_scheme_r5 : q_wsX11_scheme_r5.map fe = wsX11_scheme_r5 := ce fw_18 (ce fw_4196 (ce fw_4197 (ce fw_4198 (ce fw_4199 (ce fw_1041 (ce fw_4200 (ce fw_5242 (ce fw_4201 (ce fw_4202 (ce fw_4203 (ce fw_4204 (ce fw_4205 (ce fw_5243 (ce fw_4207 (ce fw_4208 (ce fw_4209 (ce fw_4210 (ce fw_4211 (ce fw_4212 (ce fw_4213 (ce fw_4214 (ce fw_4215 (ce fw_4216 (cn))))))))))))))))))))))))
def q_wsX11_scheme_r6 : List Nat := [1042, 4217, 4218, 4219, 4220, 4221, 4223, 4224, 1043, 4225, 4226, 4227, 1044, 4228, 4229, 4230, 4231, 4232, 4233, 4234, 4235, 4236, 4237, 4238]
set_option maxRecDepth 100000 in
theorem e_wsX11_scheme_r6 : q_wsX11_scheme_r6.map fe = wsX11_scheme_r6 := ce fw_1042 (ce fw_4217 (ce fw_4218 (ce fw_4219 (ce fw_4220 (ce fw_4221 (ce fw_4223 (ce fw_4224 (ce fw_1043 (ce fw_4225 (ce fw_4226 (ce fw_4227 (ce fw_1044 (ce fw_4228 (ce fw_4229 (ce fw_4230 (ce fw_4231 (ce fw_4232 (ce fw_4233 (ce fw_4234 (ce fw_4235 (ce fw_4236 (ce fw_4237 (ce fw_4238 (cn))))))))))))))))))))))))
def q_wsX11_scheme_r7 : List Nat := [4239, 4241, 4243, 4245, 4247, 19, 4248, 1085, 1089, 4249, 4251, 20, 4252, 4253, 4254, 4255, 4256, 4258, 21, 4259, 4261, 4263, 22, 4264]
set_option maxRecDepth 100000 in
theorem e_wsX11_scheme_r7 : q_wsX11_scheme_r7.map fe = wsX11_scheme_r7 := ce fw_4239 (ce fw_4241 (ce fw_4243 (ce fw_4245 (ce fw_4247 (ce fw_19 (ce fw_4248 (ce fw_1085 (ce fw_1089 (ce fw_4249 (ce fw_4251 (ce fw_20 (ce fw_4252 (ce fw_4253 (ce fw_4254 (ce fw_4255 (ce fw_4256 (ce fw_4258 (ce fw_21 (ce fw_4259 (ce fw_4261 (ce fw_4263 (ce fw_22 (ce fw_4264 (cn))))))))))))))))))))))))
def q_wsX11_scheme_r8 : List Nat := [4265, 4267, 23, 4268, 1079, 1092, 1095, 1098, 1102, 1113, 4276, 4277, 4278, 4279, 4280, 4281, 4282, 4283, 4284, 1029, 4285, 2213, 2204, 2219]
set_option maxRecDepth 100000 in
theorem e_wsX11_scheme_r8 : q_wsX11_scheme_r8.map fe = wsX11_scheme_r8 := ce fw_4265 (ce fw_4267 (ce fw_23 (ce fw_4268 (ce fw_1079 (ce fw_1092 (ce fw_1095 (ce fw_1098 (ce fw_1102 (ce fw_1113 (ce fw_4276 (ce fw_4277 (ce fw_4278 (ce fw_4279 (ce fw_4280 (ce fw_4281 (ce fw_4282 (ce fw_4283 (ce fw_4284 (ce fw_1029 (ce fw_4285 (ce fw_2213 (ce fw_2204 (ce fw_2219 (cn))))))))))))))))))))))))
def q_wsX11_scheme_r9 : List Nat := [2215, 1206, 2217, 4286, 2130, 2131, 1031, 2132, 2149, 2151, 2153, 2155, 2157, 2158, 2159, 2161, 2162, 2163, 2164, 2165, 2166, 2133, 2134, 2135]
set_option maxRecDepth 100000 in
theorem e_wsX11_scheme_r9 : q_wsX11_scheme_r9.map fe = wsX11_scheme_r9 := ce fw_2215 (ce fw_1206 (ce fw_2217 (ce fw_4286 (ce fw_2130 (ce fw_2131 (ce fw_1031 (ce fw_2132 (ce fw_2149 (ce fw_2151 (ce fw_2153 (ce fw_2155 (ce fw_2157 (ce fw_2158 (ce fw_2159 (ce fw_2161 (ce fw_2162 (ce fw_2163 (ce fw_2164 (ce fw_2165 (ce fw_2166 (ce fw_2133 (ce fw_2134 (ce fw_2135 (cn))))))))))))))))))))))))
def q_wsX11_scheme_r10 : List Nat := [1032, 2136, 1078, 1229, 1130, 1116, 1230, 1233, 1235, 1236, 1237, 2137, 2138, 2139, 1033, 2140, 1257, 1259, 1261, 1263, 2050, 2052, 2064, 2141]
set_option maxRecDepth 100000 in
theorem e_wsX11_scheme_r10 : q_wsX11_scheme_r10.map fe = wsX11_scheme_r10 := ce fw_1032 (ce fw_2136 (ce fw_1078 (ce fw_1229 (ce fw_1130 (ce fw_1116 (ce fw_1230 (ce fw_1233 (ce fw_1235 (ce fw_1236 (ce fw_1237 (ce fw_2137 (ce fw_2138 (ce fw_2139 (ce fw_1033 (ce fw_2140 (ce fw_1257 (ce fw_1259 (ce fw_1261 (ce fw_1263 (ce fw_2050 (ce fw_2052 (ce fw_2064 (ce fw_2141 (cn))))))))))))))))))))))))
def q_wsX11_scheme_r11 : List Nat := [2142, 2143, 1034, 2144, 2110, 2112, 2145, 2146, 2147, 2148, 2114, 2115]
set_option maxRecDepth 100000 in
theorem e_wsX11_scheme_r11 : q_wsX11_scheme_r11.map fe = wsX11_scheme_r11 := ce fw_2142 (ce fw_2143 (ce fw_1034 (ce fw_2144 (ce fw_2110 (ce fw_2112 (ce fw_2145 (ce fw_2146 (ce fw_2147 (ce fw_2148 (ce fw_2114 (ce fw_2115 (cn))))))))))))
def q_wsX11_scheme : List Nat := 4158 :: ((((((((((((((q_wsX11_scheme_r1) ++ ((q_wsX11_scheme_r2) ++ ((q_wsX11_scheme_r3) ++ ((q_wsX11_scheme_r4) ++ ((q_wsX11_scheme_r5) ++ ((q_wsX11_scheme_r6) ++ ((q_wsX11_scheme_r7) ++ ((q_wsX11_scheme_r8) ++ ((q_wsX11_scheme_r9) ++ ((q_wsX11_scheme_r10) ++ (q_wsX11_scheme_r11))))))))))) ++ (q_wsX110)) ++ (q_wsX100)) ++ (q_wsX80)) ++ (q_wsX30)) ++ (q_wsX50)) ++ (q_wsX90)) ++ (q_wsX20)) ++ (q_wsX60)) ++ (q_wsX40)) ++ (q_wsX10)) ++ (q_wsX70)) ++ (q_wsX00))
set_option maxRecDepth 100000 in
theorem e_wsX11_scheme : q_wsX11_scheme.map fe = wsX11_scheme := ce fw_4158 (ca (ca (ca (ca (ca (ca (ca (ca (ca (ca (ca (ca (ca (e_wsX11_scheme_r1) (ca (e_wsX11_scheme_r2) (ca (e_wsX11_scheme_r3) (ca (e_wsX11_scheme_r4) (ca (e_wsX11_scheme_r5) (ca (e_wsX11_scheme_r6) (ca (e_wsX11_scheme_r7) (ca (e_wsX11_scheme_r8) (ca (e_wsX11_scheme_r9) (ca (e_wsX11_scheme_r10) (e_wsX11_scheme_r11))))))))))) (e_wsX110)) (e_wsX100)) (e_wsX80)) (e_wsX30)) (e_wsX50)) (e_wsX90)) (e_wsX20)) (e_wsX60)) (e_wsX40)) (e_wsX10)) (e_wsX70)) (e_wsX00))
def q_wsX5_copyFrom : List Nat := 4280 :: (([1077, 1084, 4281, 3110, 3109, 1040, 1086, 1091, 1094, 1097, 1100, 1104, 1108, 1112, 1117, 1120, 1122, 1127, 1129, 1131]) ++ (q_wsX50))
set_option maxRecDepth 100000 in
theorem e_wsX5_copyFrom : q_wsX5_copyFrom.map fe = wsX5_copyFrom := ce fw_4280 (ca (ce fw_1077 (ce fw_1084 (ce fw_4281 (ce fw_3110 (ce fw_3109 (ce fw_1040 (ce fw_1086 (ce fw_1091 (ce fw_1094 (ce fw_1097 (ce fw_1100 (ce fw_1104 (ce fw_1108 (ce fw_1112 (ce fw_1117 (ce fw_1120 (ce fw_1122 (ce fw_1127 (ce fw_1129 (ce fw_1131 (cn))))))))))))))))))))) (e_wsX50))
def q_wsX11_say_r1 : List Nat := [2283, 2235, 2216, 1204, 3093, 3095, 0, 1025, 3096, 2287, 2286, 3097, 3098, 3099, 1029, 3100, 2213, 2215, 2217, 2219, 3101, 3102, 3103, 1035]
set_option maxRecDepth 100000 in
theorem e_wsX11_say_r1 : q_wsX11_say_r1.map fe = wsX11_say_r1 := ce fw_2283 (ce fw_2235 (ce fw_2216 (ce fw_1204 (ce fw_3093 (ce fw_3095 (ce fw_0 (ce fw_1025 (ce fw_3096 (ce fw_2287 (ce fw_2286 (ce fw_3097 (ce fw_3098 (ce fw_3099 (ce fw_1029 (ce fw_3100 (ce fw_2213 (ce fw_2215 (ce fw_2217 (ce fw_2219 (ce fw_3101 (ce fw_3102 (ce fw_3103 (ce fw_1035 (cn))))))))))))))))))))))))
def q_wsX11_say_r2 : List Nat := [3104, 2205, 2203, 3105, 3106, 1036, 3107, 2200, 2201, 2202, 3108, 3110, 3109, 1040, 3111, 3112, 3113, 1030, 3114, 1202, 3115, 1203, 1205, 1207]
set_option maxRecDepth 100000 in
theorem e_wsX11_say_r2 : q_wsX11_say_r2.map fe = wsX11_say_r2 := ce fw_3104 (ce fw_2205 (ce fw_2203 (ce fw_3105 (ce fw_3106 (ce fw_1036 (ce fw_3107 (ce fw_2200 (ce fw_2201 (ce fw_2202 (ce fw_3108 (ce fw_3110 (ce fw_3109 (ce fw_1040 (ce fw_3111 (ce fw_3112 (ce fw_3113 (ce fw_1030 (ce fw_3114 (ce fw_1202 (ce fw_3115 (ce fw_1203 (ce fw_1205 (ce fw_1207 (cn))))))))))))))))))))))))
def q_wsX11_say_r3 : List Nat := [3116, 3117, 3118, 1031, 3119, 2149, 2151, 2153, 2155, 2157, 2158, 2159, 2161, 2162, 2163, 2164, 2165, 2166, 3120, 3121, 3122, 1032, 3123, 1229]
set_option maxRecDepth 100000 in
theorem e_wsX11_say_r3 : q_wsX11_say_r3.map fe = wsX11_say_r3 := ce fw_3116 (ce fw_3117 (ce fw_3118 (ce fw_1031 (ce fw_3119 (ce fw_2149 (ce fw_2151 (ce fw_2153 (ce fw_2155 (ce fw_2157 (ce fw_2158 (ce fw_2159 (ce fw_2161 (ce fw_2162 (ce fw_2163 (ce fw_2164 (ce fw_2165 (ce fw_2166 (ce fw_3120 (ce fw_3121 (ce fw_3122 (ce fw_1032 (ce fw_3123 (ce fw_1229 (cn))))))))))))))))))))))))
def q_wsX11_say_r4 : List Nat := [3124, 1230, 1233, 1235, 1236, 1237, 3125, 3126, 3127, 1033, 3128, 1257, 1259, 1261, 1263, 2050, 2052, 2054, 2055, 2056, 2057, 2058, 2060, 2062]
set_option maxRecDepth 100000 in
theorem e_wsX11_say_r4 : q_wsX11_say_r4.map fe = wsX11_say_r4 := ce fw_3124 (ce fw_1230 (ce fw_1233 (ce fw_1235 (ce fw_1236 (ce fw_1237 (ce fw_3125 (ce fw_3126 (ce fw_3127 (ce fw_1033 (ce fw_3128 (ce fw_1257 (ce fw_1259 (ce fw_1261 (ce fw_1263 (ce fw_2050 (ce fw_2052 (ce fw_2054 (ce fw_2055 (ce fw_2056 (ce fw_2057 (ce fw_2058 (ce fw_2060 (ce fw_2062 (cn))))))))))))))))))))))))
def q_wsX11_say_r5 : List Nat := [2064, 2065, 2066, 2067, 3129, 3130, 3131, 1034, 3132, 2109, 3133, 2110, 2112, 2114, 2115, 3134, 3135, 3136, 3137]
set_option maxRecDepth 100000 in
theorem e_wsX11_say_r5 : q_wsX11_say_r5.map fe = wsX11_say_r5 := ce fw_2064 (ce fw_2065 (ce fw_2066 (ce fw_2067 (ce fw_3129 (ce fw_3130 (ce fw_3131 (ce fw_1034 (ce fw_3132 (ce fw_2109 (ce fw_3133 (ce fw_2110 (ce fw_2112 (ce fw_2114 (ce fw_2115 (ce fw_3134 (ce fw_3135 (ce fw_3136 (ce fw_3137 (cn)))))))))))))))))))
def q_wsX11_say : List Nat := 3092 :: (((((((((((q_wsX11_say_r1) ++ ((q_wsX11_say_r2) ++ ((q_wsX11_say_r3) ++ ((q_wsX11_say_r4) ++ (q_wsX11_say_r5))))) ++ (q_wsX110)) ++ (q_wsX100)) ++ (q_wsX90)) ++ (q_wsX60)) ++ (q_wsX20)) ++ (q_wsX40)) ++ (q_wsX10)) ++ (q_wsX70)) ++ (q_wsX00))
set_option maxRecDepth 100000 in
theorem e_wsX11_say : q_wsX11_say.map fe = wsX11_say := ce fw_3092 (ca (ca (ca (ca (ca (ca (ca (ca (ca (ca (e_wsX11_say_r1) (ca (e_wsX11_say_r2) (ca (e_wsX11_say_r3) (ca (e_wsX11_say_r4) (e_wsX11_say_r5))))) (e_wsX110)) (e_wsX100)) (e_wsX90)) (e_wsX60)) (e_wsX20)) (e_wsX40)) (e_wsX10)) (e_wsX70)) (e_wsX00))
def q_wsX11_remember_r1 : List Nat := [2287, 2286, 2283, 2235, 3097, 3098, 3099, 1029, 3100, 2213, 2215, 2217, 2219, 3101, 3102, 3103, 1035, 3104, 2205, 2203, 3105, 3106, 1036, 3107]
set_option maxRecDepth 100000 in
theorem e_wsX11_remember_r1 : q_wsX11_remember_r1.map fe = wsX11_remember_r1 := ce fw_2287 (ce fw_2286 (ce fw_2283 (ce fw_2235 (ce fw_3097 (ce fw_3098 (ce fw_3099 (ce fw_1029 (ce fw_3100 (ce fw_2213 (ce fw_2215 (ce fw_2217 (ce fw_2219 (ce fw_3101 (ce fw_3102 (ce fw_3103 (ce fw_1035 (ce fw_3104 (ce fw_2205 (ce fw_2203 (ce fw_3105 (ce fw_3106 (ce fw_1036 (ce fw_3107 (cn))))))))))))))))))))))))
def q_wsX11_remember_r2 : List Nat := [2200, 2201, 2202, 3108, 3110, 3109, 1040, 3111, 3112, 3113, 1030, 3114, 1202, 3115, 1203, 1205, 1207, 3116, 3117, 3118, 1031, 3119, 2149, 2151]
set_option maxRecDepth 100000 in
theorem e_wsX11_remember_r2 : q_wsX11_remember_r2.map fe = wsX11_remember_r2 := ce fw_2200 (ce fw_2201 (ce fw_2202 (ce fw_3108 (ce fw_3110 (ce fw_3109 (ce fw_1040 (ce fw_3111 (ce fw_3112 (ce fw_3113 (ce fw_1030 (ce fw_3114 (ce fw_1202 (ce fw_3115 (ce fw_1203 (ce fw_1205 (ce fw_1207 (ce fw_3116 (ce fw_3117 (ce fw_3118 (ce fw_1031 (ce fw_3119 (ce fw_2149 (ce fw_2151 (cn))))))))))))))))))))))))
def q_wsX11_remember_r3 : List Nat := [2153, 2155, 2157, 2158, 2159, 2161, 2162, 2163, 2164, 2165, 2166, 3120, 3121, 3122, 1032, 3123, 1229, 3124, 1230, 1233, 1235, 1236, 1237, 3125]
set_option maxRecDepth 100000 in
theorem e_wsX11_remember_r3 : q_wsX11_remember_r3.map fe = wsX11_remember_r3 := ce fw_2153 (ce fw_2155 (ce fw_2157 (ce fw_2158 (ce fw_2159 (ce fw_2161 (ce fw_2162 (ce fw_2163 (ce fw_2164 (ce fw_2165 (ce fw_2166 (ce fw_3120 (ce fw_3121 (ce fw_3122 (ce fw_1032 (ce fw_3123 (ce fw_1229 (ce fw_3124 (ce fw_1230 (ce fw_1233 (ce fw_1235 (ce fw_1236 (ce fw_1237 (ce fw_3125 (cn))))))))))))))))))))))))
def q_wsX11_remember_r4 : List Nat := [3126, 3127, 1033, 3128, 1257, 1259, 1261, 1263, 2050, 2052, 2054, 2055, 2056, 2057, 2058, 2060, 2062, 2064, 2065, 2066, 2067, 3129, 3130, 3131]
set_option maxRecDepth 100000 in
theorem e_wsX11_remember_r4 : q_wsX11_remember_r4.map fe = wsX11_remember_r4 := ce fw_3126 (ce fw_3127 (ce fw_1033 (ce fw_3128 (ce fw_1257 (ce fw_1259 (ce fw_1261 (ce fw_1263 (ce fw_2050 (ce fw_2052 (ce fw_2054 (ce fw_2055 (ce fw_2056 (ce fw_2057 (ce fw_2058 (ce fw_2060 (ce fw_2062 (ce fw_2064 (ce fw_2065 (ce fw_2066 (ce fw_2067 (ce fw_3129 (ce fw_3130 (ce fw_3131 (cn))))))))))))))))))))))))
def q_wsX11_remember_r5 : List Nat := [1034, 3132, 2109, 3133, 2110, 2112, 2114, 2115]
set_option maxRecDepth 100000 in
theorem e_wsX11_remember_r5 : q_wsX11_remember_r5.map fe = wsX11_remember_r5 := ce fw_1034 (ce fw_3132 (ce fw_2109 (ce fw_3133 (ce fw_2110 (ce fw_2112 (ce fw_2114 (ce fw_2115 (cn))))))))
def q_wsX11_remember : List Nat := 3096 :: (((((((((((q_wsX11_remember_r1) ++ ((q_wsX11_remember_r2) ++ ((q_wsX11_remember_r3) ++ ((q_wsX11_remember_r4) ++ (q_wsX11_remember_r5))))) ++ (q_wsX110)) ++ (q_wsX100)) ++ (q_wsX90)) ++ (q_wsX20)) ++ (q_wsX60)) ++ (q_wsX40)) ++ (q_wsX10)) ++ (q_wsX70)) ++ (q_wsX00))
set_option maxRecDepth 100000 in
theorem e_wsX11_remember : q_wsX11_remember.map fe = wsX11_remember := ce fw_3096 (ca (ca (ca (ca (ca (ca (ca (ca (ca (ca (e_wsX11_remember_r1) (ca (e_wsX11_remember_r2) (ca (e_wsX11_remember_r3) (ca (e_wsX11_remember_r4) (e_wsX11_remember_r5))))) (e_wsX110)) (e_wsX100)) (e_wsX90)) (e_wsX20)) (e_wsX60)) (e_wsX40)) (e_wsX10)) (e_wsX70)) (e_wsX00))
def q_wsX6_enqueue : List Nat := 3137 :: (([1203, 1202]) ++ (q_wsX60))
set_option maxRecDepth 100000 in
theorem e_wsX6_enqueue : q_wsX6_enqueue.map fe = wsX6_enqueue := ce fw_3137 (ca (ce fw_1203 (ce fw_1202 (cn))) (e_wsX60))
def q_wsX11_send_r1 : List Nat := [2283, 2235, 2214, 2207, 2231, 1118, 2216, 3093, 3095, 0, 1025, 3096, 2287, 2286, 3097, 3098, 3099, 1029, 3100, 2213, 2215, 2217, 2219, 3101]
set_option maxRecDepth 100000 in
theorem e_wsX11_send_r1 : q_wsX11_send_r1.map fe = wsX11_send_r1 := ce fw_2283 (ce fw_2235 (ce fw_2214 (ce fw_2207 (ce fw_2231 (ce fw_1118 (ce fw_2216 (ce fw_3093 (ce fw_3095 (ce fw_0 (ce fw_1025 (ce fw_3096 (ce fw_2287 (ce fw_2286 (ce fw_3097 (ce fw_3098 (ce fw_3099 (ce fw_1029 (ce fw_3100 (ce fw_2213 (ce fw_2215 (ce fw_2217 (ce fw_2219 (ce fw_3101 (cn))))))))))))))))))))))))
def q_wsX11_send_r2 : List Nat := [3102, 3103, 1035, 3104, 2205, 2203, 3105, 3106, 1036, 3107, 2200, 2201, 2202, 3108, 3110, 3109, 1040, 3111, 3112, 3113, 1030, 3114, 1202, 3115]
set_option maxRecDepth 100000 in
theorem e_wsX11_send_r2 : q_wsX11_send_r2.map fe = wsX11_send_r2 := ce fw_3102 (ce fw_3103 (ce fw_1035 (ce fw_3104 (ce fw_2205 (ce fw_2203 (ce fw_3105 (ce fw_3106 (ce fw_1036 (ce fw_3107 (ce fw_2200 (ce fw_2201 (ce fw_2202 (ce fw_3108 (ce fw_3110 (ce fw_3109 (ce fw_1040 (ce fw_3111 (ce fw_3112 (ce fw_3113 (ce fw_1030 (ce fw_3114 (ce fw_1202 (ce fw_3115 (cn))))))))))))))))))))))))
def q_wsX11_send_r3 : List Nat := [1203, 1205, 1207, 3116, 3117, 3118, 1031, 3119, 2149, 2151, 2153, 2155, 2157, 2158, 2159, 2161, 2162, 2163, 2164, 2165, 2166, 3120, 3121, 3122]
set_option maxRecDepth 100000 in
theorem e_wsX11_send_r3 : q_wsX11_send_r3.map fe = wsX11_send_r3 := ce fw_1203 (ce fw_1205 (ce fw_1207 (ce fw_3116 (ce fw_3117 (ce fw_3118 (ce fw_1031 (ce fw_3119 (ce fw_2149 (ce fw_2151 (ce fw_2153 (ce fw_2155 (ce fw_2157 (ce fw_2158 (ce fw_2159 (ce fw_2161 (ce fw_2162 (ce fw_2163 (ce fw_2164 (ce fw_2165 (ce fw_2166 (ce fw_3120 (ce fw_3121 (ce fw_3122 (cn))))))))))))))))))))))))
def q_wsX11_send_r4 : List Nat := [1032, 3123, 1229, 3124, 1230, 1233, 1235, 1236, 1237, 3125, 3126, 3127, 1033, 3128, 1257, 1259, 1261, 1263, 2050, 2052, 2054, 2055, 2056, 2057]
set_option maxRecDepth 100000 in
theorem e_wsX11_send_r4 : q_wsX11_send_r4.map fe = wsX11_send_r4 := ce fw_1032 (ce fw_3123 (ce fw_1229 (ce fw_3124 (ce fw_1230 (ce fw_1233 (ce fw_1235 (ce fw_1236 (ce fw_1237 (ce fw_3125 (ce fw_3126 (ce fw_3127 (ce fw_1033 (ce fw_3128 (ce fw_1257 (ce fw_1259 (ce fw_1261 (ce fw_1263 (ce fw_2050 (ce fw_2052 (ce fw_2054 (ce fw_2055 (ce fw_2056 (ce fw_2057 (cn))))))))))))))))))))))))
def q_wsX11_send_r5 : List Nat := [2058, 2060, 2062, 2064, 2065, 2066, 2067, 3129, 3130, 3131, 1034, 3132, 2109, 3133, 2110, 2112, 2114, 2115, 3142, 3143, 3144, 3145, 3146, 3148]
set_option maxRecDepth 100000 in
theorem e_wsX11_send_r5 : q_wsX11_send_r5.map fe = wsX11_send_r5 := ce fw_2058 (ce fw_2060 (ce fw_2062 (ce fw_2064 (ce fw_2065 (ce fw_2066 (ce fw_2067 (ce fw_3129 (ce fw_3130 (ce fw_3131 (ce fw_1034 (ce fw_3132 (ce fw_2109 (ce fw_3133 (ce fw_2110 (ce fw_2112 (ce fw_2114 (ce fw_2115 (ce fw_3142 (ce fw_3143 (ce fw_3144 (ce fw_3145 (ce fw_3146 (ce fw_3148 (cn))))))))))))))))))))))))
def q_wsX11_send_r6 : List Nat := [1, 3149, 2206, 1123, 1088, 1080, 3166, 3150, 3151, 3152, 1027, 3153, 1086, 1084, 3154, 3155, 3156, 3157, 3158, 3160, 2, 3161, 3162, 3164]
set_option maxRecDepth 100000 in
theorem e_wsX11_send_r6 : q_wsX11_send_r6.map fe = wsX11_send_r6 := ce fw_1 (ce fw_3149 (ce fw_2206 (ce fw_1123 (ce fw_1088 (ce fw_1080 (ce fw_3166 (ce fw_3150 (ce fw_3151 (ce fw_3152 (ce fw_1027 (ce fw_3153 (ce fw_1086 (ce fw_1084 (ce fw_3154 (ce fw_3155 (ce fw_3156 (ce fw_3157 (ce fw_3158 (ce fw_3160 (ce fw_2 (ce fw_3161 (ce fw_3162 (ce fw_3164 (cn))))))))))))))))))))))))
def q_wsX11_send_r7 : List Nat := [3, 3165, 3167, 3168, 3169, 3170, 1122, 1091, 1077, 3171, 3172, 3173, 3174, 3175]
set_option maxRecDepth 100000 in
theorem e_wsX11_send_r7 : q_wsX11_send_r7.map fe = wsX11_send_r7 := ce fw_3 (ce fw_3165 (ce fw_3167 (ce fw_3168 (ce fw_3169 (ce fw_3170 (ce fw_1122 (ce fw_1091 (ce fw_1077 (ce fw_3171 (ce fw_3172 (ce fw_3173 (ce fw_3174 (ce fw_3175 (cn))))))))))))))
def q_wsX11_send : List Nat := 3141 :: ((((((((((((q_wsX11_send_r1) ++ ((q_wsX11_send_r2) ++ ((q_wsX11_send_r3) ++ ((q_wsX11_send_r4) ++ ((q_wsX11_send_r5) ++ ((q_wsX11_send_r6) ++ (q_wsX11_send_r7))))))) ++ (q_wsX110)) ++ (q_wsX100)) ++ (q_wsX90)) ++ (q_wsX20)) ++ (q_wsX50)) ++ (q_wsX60)) ++ (q_wsX40)) ++ (q_wsX10)) ++ (q_wsX70)) ++ (q_wsX00))
set_option maxRecDepth 100000 in
theorem e_wsX11_send : q_wsX11_send.map fe = wsX11_send := ce fw_3141 (ca (ca (ca (ca (ca (ca (ca (ca (ca (ca (ca (e_wsX11_send_r1) (ca (e_wsX11_send_r2) (ca (e_wsX11_send_r3) (ca (e_wsX11_send_r4) (ca (e_wsX11_send_r5) (ca (e_wsX11_send_r6) (e_wsX11_send_r7))))))) (e_wsX110)) (e_wsX100)) (e_wsX90)) (e_wsX20)) (e_wsX50)) (e_wsX60)) (e_wsX40)) (e_wsX10)) (e_wsX70)) (e_wsX00))
def q_wsX11_hear_r1 : List Nat := [2283, 2235, 2214, 2207, 2220, 2231, 3093, 3095, 0, 1025, 3096, 2287, 2286, 3097, 3098, 3099, 1029, 3100, 2213, 2215, 2217, 2219, 3101, 3102]
set_option maxRecDepth 100000 in
theorem e_wsX11_hear_r1 : q_wsX11_hear_r1.map fe = wsX11_hear_r1 := ce fw_2283 (ce fw_2235 (ce fw_2214 (ce fw_2207 (ce fw_2220 (ce fw_2231 (ce fw_3093 (ce fw_3095 (ce fw_0 (ce fw_1025 (ce fw_3096 (ce fw_2287 (ce fw_2286 (ce fw_3097 (ce fw_3098 (ce fw_3099 (ce fw_1029 (ce fw_3100 (ce fw_2213 (ce fw_2215 (ce fw_2217 (ce fw_2219 (ce fw_3101 (ce fw_3102 (cn))))))))))))))))))))))))
def q_wsX11_hear_r2 : List Nat := [3103, 1035, 3104, 2205, 2203, 3105, 3106, 1036, 3107, 2200, 2201, 2202, 3108, 3110, 3109, 1040, 3111, 3112, 3113, 1030, 3114, 1202, 3115, 1203]
set_option maxRecDepth 100000 in
theorem e_wsX11_hear_r2 : q_wsX11_hear_r2.map fe = wsX11_hear_r2 := ce fw_3103 (ce fw_1035 (ce fw_3104 (ce fw_2205 (ce fw_2203 (ce fw_3105 (ce fw_3106 (ce fw_1036 (ce fw_3107 (ce fw_2200 (ce fw_2201 (ce fw_2202 (ce fw_3108 (ce fw_3110 (ce fw_3109 (ce fw_1040 (ce fw_3111 (ce fw_3112 (ce fw_3113 (ce fw_1030 (ce fw_3114 (ce fw_1202 (ce fw_3115 (ce fw_1203 (cn))))))))))))))))))))))))
def q_wsX11_hear_r3 : List Nat := [1205, 1207, 3116, 3117, 3118, 1031, 3119, 2149, 2151, 2153, 2155, 2157, 2158, 2159, 2161, 2162, 2163, 2164, 2165, 2166, 3120, 3121, 3122, 1032]
set_option maxRecDepth 100000 in
theorem e_wsX11_hear_r3 : q_wsX11_hear_r3.map fe = wsX11_hear_r3 := ce fw_1205 (ce fw_1207 (ce fw_3116 (ce fw_3117 (ce fw_3118 (ce fw_1031 (ce fw_3119 (ce fw_2149 (ce fw_2151 (ce fw_2153 (ce fw_2155 (ce fw_2157 (ce fw_2158 (ce fw_2159 (ce fw_2161 (ce fw_2162 (ce fw_2163 (ce fw_2164 (ce fw_2165 (ce fw_2166 (ce fw_3120 (ce fw_3121 (ce fw_3122 (ce fw_1032 (cn))))))))))))))))))))))))
def q_wsX11_hear_r4 : List Nat := [3123, 1229, 3124, 1230, 1233, 1235, 1236, 1237, 3125, 3126, 3127, 1033, 3128, 1257, 1259, 1261, 1263, 2050, 2052, 2054, 2055, 2056, 2057, 2058]
set_option maxRecDepth 100000 in
theorem e_wsX11_hear_r4 : q_wsX11_hear_r4.map fe = wsX11_hear_r4 := ce fw_3123 (ce fw_1229 (ce fw_3124 (ce fw_1230 (ce fw_1233 (ce fw_1235 (ce fw_1236 (ce fw_1237 (ce fw_3125 (ce fw_3126 (ce fw_3127 (ce fw_1033 (ce fw_3128 (ce fw_1257 (ce fw_1259 (ce fw_1261 (ce fw_1263 (ce fw_2050 (ce fw_2052 (ce fw_2054 (ce fw_2055 (ce fw_2056 (ce fw_2057 (ce fw_2058 (cn))))))))))))))))))))))))
def q_wsX11_hear_r5 : List Nat := [2060, 2062, 2064, 2065, 2066, 2067, 3129, 3130, 3131, 1034, 3132, 2109, 3133, 2110, 2112, 2114, 2115, 3180, 3181, 3182, 3183, 3184, 3185, 3186]
set_option maxRecDepth 100000 in
theorem e_wsX11_hear_r5 : q_wsX11_hear_r5.map fe = wsX11_hear_r5 := ce fw_2060 (ce fw_2062 (ce fw_2064 (ce fw_2065 (ce fw_2066 (ce fw_2067 (ce fw_3129 (ce fw_3130 (ce fw_3131 (ce fw_1034 (ce fw_3132 (ce fw_2109 (ce fw_3133 (ce fw_2110 (ce fw_2112 (ce fw_2114 (ce fw_2115 (ce fw_3180 (ce fw_3181 (ce fw_3182 (ce fw_3183 (ce fw_3184 (ce fw_3185 (ce fw_3186 (cn))))))))))))))))))))))))
def q_wsX11_hear_r6 : List Nat := [3187, 3188, 3173, 3174, 3175, 3189, 3191, 4, 3192, 1231, 1101, 3193, 3194, 3195, 3196, 1128, 1126, 1087, 1078, 3197, 3198, 1039, 3199, 3200]
set_option maxRecDepth 100000 in
theorem e_wsX11_hear_r6 : q_wsX11_hear_r6.map fe = wsX11_hear_r6 := ce fw_3187 (ce fw_3188 (ce fw_3173 (ce fw_3174 (ce fw_3175 (ce fw_3189 (ce fw_3191 (ce fw_4 (ce fw_3192 (ce fw_1231 (ce fw_1101 (ce fw_3193 (ce fw_3194 (ce fw_3195 (ce fw_3196 (ce fw_1128 (ce fw_1126 (ce fw_1087 (ce fw_1078 (ce fw_3197 (ce fw_3198 (ce fw_1039 (ce fw_3199 (ce fw_3200 (cn))))))))))))))))))))))))
def q_wsX11_hear_r7 : List Nat := [3201, 3202, 3203, 3204, 3205, 1027, 3206, 1086, 3207, 3209, 5, 3210, 2133, 2134, 2135, 2136, 1130, 1116, 3211, 3212, 3213, 3214, 3215, 3216]
set_option maxRecDepth 100000 in
theorem e_wsX11_hear_r7 : q_wsX11_hear_r7.map fe = wsX11_hear_r7 := ce fw_3201 (ce fw_3202 (ce fw_3203 (ce fw_3204 (ce fw_3205 (ce fw_1027 (ce fw_3206 (ce fw_1086 (ce fw_3207 (ce fw_3209 (ce fw_5 (ce fw_3210 (ce fw_2133 (ce fw_2134 (ce fw_2135 (ce fw_2136 (ce fw_1130 (ce fw_1116 (ce fw_3211 (ce fw_3212 (ce fw_3213 (ce fw_3214 (ce fw_3215 (ce fw_3216 (cn))))))))))))))))))))))))
def q_wsX11_hear_r8 : List Nat := [3217, 3218, 3219, 3220, 3221, 3222, 3223, 3224, 3225, 3226, 1127, 1129, 3227, 3228, 3229, 3230, 1077, 3231, 3232, 3234, 6, 3235, 1119, 1081]
set_option maxRecDepth 100000 in
theorem e_wsX11_hear_r8 : q_wsX11_hear_r8.map fe = wsX11_hear_r8 := ce fw_3217 (ce fw_3218 (ce fw_3219 (ce fw_3220 (ce fw_3221 (ce fw_3222 (ce fw_3223 (ce fw_3224 (ce fw_3225 (ce fw_3226 (ce fw_1127 (ce fw_1129 (ce fw_3227 (ce fw_3228 (ce fw_3229 (ce fw_3230 (ce fw_1077 (ce fw_3231 (ce fw_3232 (ce fw_3234 (ce fw_6 (ce fw_3235 (ce fw_1119 (ce fw_1081 (cn))))))))))))))))))))))))
def q_wsX11_hear_r9 : List Nat := [1234, 1124, 3236, 3237, 3239, 7, 3240, 3241, 2146, 2147, 2148, 3242, 3244, 8, 3245, 3246, 3247, 3248, 3249, 3250, 3252, 9, 3253, 3254]
set_option maxRecDepth 100000 in
theorem e_wsX11_hear_r9 : q_wsX11_hear_r9.map fe = wsX11_hear_r9 := ce fw_1234 (ce fw_1124 (ce fw_3236 (ce fw_3237 (ce fw_3239 (ce fw_7 (ce fw_3240 (ce fw_3241 (ce fw_2146 (ce fw_2147 (ce fw_2148 (ce fw_3242 (ce fw_3244 (ce fw_8 (ce fw_3245 (ce fw_3246 (ce fw_3247 (ce fw_3248 (ce fw_3249 (ce fw_3250 (ce fw_3252 (ce fw_9 (ce fw_3253 (ce fw_3254 (cn))))))))))))))))))))))))
def q_wsX11_hear_r10 : List Nat := [3255, 3257, 10, 3258, 3259, 3260, 3261, 3262, 1117, 3171, 3151, 3152, 3153, 1084, 3172, 3263, 3168, 3169, 3170, 1122, 1091, 3264, 3266, 11]
set_option maxRecDepth 100000 in
theorem e_wsX11_hear_r10 : q_wsX11_hear_r10.map fe = wsX11_hear_r10 := ce fw_3255 (ce fw_3257 (ce fw_10 (ce fw_3258 (ce fw_3259 (ce fw_3260 (ce fw_3261 (ce fw_3262 (ce fw_1117 (ce fw_3171 (ce fw_3151 (ce fw_3152 (ce fw_3153 (ce fw_1084 (ce fw_3172 (ce fw_3263 (ce fw_3168 (ce fw_3169 (ce fw_3170 (ce fw_1122 (ce fw_1091 (ce fw_3264 (ce fw_3266 (ce fw_11 (cn))))))))))))))))))))))))
def q_wsX11_hear_r11 : List Nat := [3267, 3268, 3270, 12, 3271, 1110, 1106, 3272, 3273, 3274, 3275, 3276, 3277, 3278, 3279, 3280, 3281, 3282, 3284, 13, 3285, 2145, 3286, 3287]
set_option maxRecDepth 100000 in
theorem e_wsX11_hear_r11 : q_wsX11_hear_r11.map fe = wsX11_hear_r11 := ce fw_3267 (ce fw_3268 (ce fw_3270 (ce fw_12 (ce fw_3271 (ce fw_1110 (ce fw_1106 (ce fw_3272 (ce fw_3273 (ce fw_3274 (ce fw_3275 (ce fw_3276 (ce fw_3277 (ce fw_3278 (ce fw_3279 (ce fw_3280 (ce fw_3281 (ce fw_3282 (ce fw_3284 (ce fw_13 (ce fw_3285 (ce fw_2145 (ce fw_3286 (ce fw_3287 (cn))))))))))))))))))))))))
def q_wsX11_hear_r12 : List Nat := [3288, 3289, 3290, 3292, 14, 3293, 3294, 3295, 3296, 3297, 1114, 1082, 3298, 3300, 15, 3301, 3306, 3302, 3303, 3304, 3305, 1097]
set_option maxRecDepth 100000 in
theorem e_wsX11_hear_r12 : q_wsX11_hear_r12.map fe = wsX11_hear_r12 := ce fw_3288 (ce fw_3289 (ce fw_3290 (ce fw_3292 (ce fw_14 (ce fw_3293 (ce fw_3294 (ce fw_3295 (ce fw_3296 (ce fw_3297 (ce fw_1114 (ce fw_1082 (ce fw_3298 (ce fw_3300 (ce fw_15 (ce fw_3301 (ce fw_3306 (ce fw_3302 (ce fw_3303 (ce fw_3304 (ce fw_3305 (ce fw_1097 (cn))))))))))))))))))))))
def q_wsX11_hear : List Nat := 3179 :: ((((((((((((q_wsX11_hear_r1) ++ ((q_wsX11_hear_r2) ++ ((q_wsX11_hear_r3) ++ ((q_wsX11_hear_r4) ++ ((q_wsX11_hear_r5) ++ ((q_wsX11_hear_r6) ++ ((q_wsX11_hear_r7) ++ ((q_wsX11_hear_r8) ++ ((q_wsX11_hear_r9) ++ ((q_wsX11_hear_r10) ++ ((q_wsX11_hear_r11) ++ (q_wsX11_hear_r12)))))))))))) ++ (q_wsX110)) ++ (q_wsX100)) ++ (q_wsX90)) ++ (q_wsX20)) ++ (q_wsX60)) ++ (q_wsX40)) ++ (q_wsX10)) ++ (q_wsX70)) ++ (q_wsX00)) ++ (q_wsX50))
set_option maxRecDepth 100000 in
theorem e_wsX11_hear : q_wsX11_hear.map fe = wsX11_hear := ce fw_3179 (ca (ca (ca (ca (ca (ca (ca (ca (ca (ca (ca (e_wsX11_hear_r1) (ca (e_wsX11_hear_r2) (ca (e_wsX11_hear_r3) (ca (e_wsX11_hear_r4) (ca (e_wsX11_hear_r5) (ca (e_wsX11_hear_r6) (ca (e_wsX11_hear_r7) (ca (e_wsX11_hear_r8) (ca (e_wsX11_hear_r9) (ca (e_wsX11_hear_r10) (ca (e_wsX11_hear_r11) (e_wsX11_hear_r12)))))))))))) (e_wsX110)) (e_wsX100)) (e_wsX90)) (e_wsX20)) (e_wsX60)) (e_wsX40)) (e_wsX10)) (e_wsX70)) (e_wsX00)) (e_wsX50))
def q_wsX11_role : List Nat := 4299 :: ((((([4301, 1048, 2283, 2231, 4300, 3151, 3152, 1027, 3153, 1086, 1084]) ++ (q_wsX110)) ++ (q_wsX100)) ++ (q_wsX50)) ++ ([]))
set_option maxRecDepth 100000 in
theorem e_wsX11_role : q_wsX11_role.map fe = wsX11_role := ce fw_4299 (ca (ca (ca (ca (ce fw_4301 (ce fw_1048 (ce fw_2283 (ce fw_2231 (ce fw_4300 (ce fw_3151 (ce fw_3152 (ce fw_1027 (ce fw_3153 (ce fw_1086 (ce fw_1084 (cn)))))))))))) (e_wsX110)) (e_wsX100)) (e_wsX50)) (cn))
def q_wsX11_bit : List Nat := 5159 :: ((((([2283, 2235, 2214, 5160, 3173, 3174, 1035, 3175, 2205, 2203]) ++ (q_wsX110)) ++ (q_wsX100)) ++ (q_wsX90)) ++ (q_wsX20))
set_option maxRecDepth 100000 in
theorem e_wsX11_bit : q_wsX11_bit.map fe = wsX11_bit := ce fw_5159 (ca (ca (ca (ca (ce fw_2283 (ce fw_2235 (ce fw_2214 (ce fw_5160 (ce fw_3173 (ce fw_3174 (ce fw_1035 (ce fw_3175 (ce fw_2205 (ce fw_2203 (cn))))))))))) (e_wsX110)) (e_wsX100)) (e_wsX90)) (e_wsX20))
def q_wsX11_checks_r1 : List Nat := [2283, 2235, 2214, 2207, 2231, 1118, 5165, 3168, 3169, 1027, 3170, 1122, 1091, 1086, 1077, 3171, 3151, 3152, 3153, 1084, 3172, 3173, 3174, 1035]
set_option maxRecDepth 100000 in
theorem e_wsX11_checks_r1 : q_wsX11_checks_r1.map fe = wsX11_checks_r1 := ce fw_2283 (ce fw_2235 (ce fw_2214 (ce fw_2207 (ce fw_2231 (ce fw_1118 (ce fw_5165 (ce fw_3168 (ce fw_3169 (ce fw_1027 (ce fw_3170 (ce fw_1122 (ce fw_1091 (ce fw_1086 (ce fw_1077 (ce fw_3171 (ce fw_3151 (ce fw_3152 (ce fw_3153 (ce fw_1084 (ce fw_3172 (ce fw_3173 (ce fw_3174 (ce fw_1035 (cn))))))))))))))))))))))))
def q_wsX11_checks_r2 : List Nat := [3175, 2205, 2203]
set_option maxRecDepth 100000 in
theorem e_wsX11_checks_r2 : q_wsX11_checks_r2.map fe = wsX11_checks_r2 := ce fw_3175 (ce fw_2205 (ce fw_2203 (cn)))
def q_wsX11_checks : List Nat := 5164 :: (((((((q_wsX11_checks_r1) ++ (q_wsX11_checks_r2)) ++ (q_wsX110)) ++ (q_wsX100)) ++ (q_wsX90)) ++ (q_wsX20)) ++ (q_wsX50))
set_option maxRecDepth 100000 in
theorem e_wsX11_checks : q_wsX11_checks.map fe = wsX11_checks := ce fw_5164 (ca (ca (ca (ca (ca (ca (e_wsX11_checks_r1) (e_wsX11_checks_r2)) (e_wsX110)) (e_wsX100)) (e_wsX90)) (e_wsX20)) (e_wsX50))
def q_wsX11_receiver_r1 : List Nat := [2283, 2235, 2218, 2231, 4099, 4100, 4101, 1031, 4102, 2149, 2151, 1231, 2157, 2158, 2159, 2161, 2162, 1081, 2163, 2164, 2165, 2166, 2153, 1260]
set_option maxRecDepth 100000 in
theorem e_wsX11_receiver_r1 : q_wsX11_receiver_r1.map fe = wsX11_receiver_r1 := ce fw_2283 (ce fw_2235 (ce fw_2218 (ce fw_2231 (ce fw_4099 (ce fw_4100 (ce fw_4101 (ce fw_1031 (ce fw_4102 (ce fw_2149 (ce fw_2151 (ce fw_1231 (ce fw_2157 (ce fw_2158 (ce fw_2159 (ce fw_2161 (ce fw_2162 (ce fw_1081 (ce fw_2163 (ce fw_2164 (ce fw_2165 (ce fw_2166 (ce fw_2153 (ce fw_1260 (cn))))))))))))))))))))))))
def q_wsX11_receiver_r2 : List Nat := [1262, 2048, 2051, 1258, 2053, 2155, 2111, 2113, 3276, 3198, 1039, 3199, 3200, 3201, 3202]
set_option maxRecDepth 100000 in
theorem e_wsX11_receiver_r2 : q_wsX11_receiver_r2.map fe = wsX11_receiver_r2 := ce fw_1262 (ce fw_2048 (ce fw_2051 (ce fw_1258 (ce fw_2053 (ce fw_2155 (ce fw_2111 (ce fw_2113 (ce fw_3276 (ce fw_3198 (ce fw_1039 (ce fw_3199 (ce fw_3200 (ce fw_3201 (ce fw_3202 (cn)))))))))))))))
def q_wsX11_receiver : List Nat := 4098 :: ((((((((((q_wsX11_receiver_r1) ++ (q_wsX11_receiver_r2)) ++ (q_wsX110)) ++ (q_wsX100)) ++ (q_wsX90)) ++ (q_wsX40)) ++ (q_wsX10)) ++ (q_wsX50)) ++ (q_wsX70)) ++ (q_wsX00))
set_option maxRecDepth 100000 in
theorem e_wsX11_receiver : q_wsX11_receiver.map fe = wsX11_receiver := ce fw_4098 (ca (ca (ca (ca (ca (ca (ca (ca (ca (e_wsX11_receiver_r1) (e_wsX11_receiver_r2)) (e_wsX110)) (e_wsX100)) (e_wsX90)) (e_wsX40)) (e_wsX10)) (e_wsX50)) (e_wsX70)) (e_wsX00))
def q_wsX11_candidate : List Nat := 5172 :: ((((((([2283, 2235, 2218, 2150, 2152, 2231, 5173, 3220, 3221, 1032, 3222, 1230, 1087, 1078, 1229]) ++ (q_wsX110)) ++ (q_wsX100)) ++ (q_wsX90)) ++ (q_wsX40)) ++ (q_wsX10)) ++ (q_wsX50))
set_option maxRecDepth 100000 in
theorem e_wsX11_candidate : q_wsX11_candidate.map fe = wsX11_candidate := ce fw_5172 (ca (ca (ca (ca (ca (ca (ce fw_2283 (ce fw_2235 (ce fw_2218 (ce fw_2150 (ce fw_2152 (ce fw_2231 (ce fw_5173 (ce fw_3220 (ce fw_3221 (ce fw_1032 (ce fw_3222 (ce fw_1230 (ce fw_1087 (ce fw_1078 (ce fw_1229 (cn)))))))))))))))) (e_wsX110)) (e_wsX100)) (e_wsX90)) (e_wsX40)) (e_wsX10)) (e_wsX50))
def q_wsX11_frame_r1 : List Nat := [2283, 2235, 2218, 2154, 2049, 2063, 2061, 2059, 5204, 5206, 25, 1025, 5207, 2231, 1121, 1096, 2214, 5160, 3173, 3174, 1035, 3175, 2205, 2203]
set_option maxRecDepth 100000 in
theorem e_wsX11_frame_r1 : q_wsX11_frame_r1.map fe = wsX11_frame_r1 := ce fw_2283 (ce fw_2235 (ce fw_2218 (ce fw_2154 (ce fw_2049 (ce fw_2063 (ce fw_2061 (ce fw_2059 (ce fw_5204 (ce fw_5206 (ce fw_25 (ce fw_1025 (ce fw_5207 (ce fw_2231 (ce fw_1121 (ce fw_1096 (ce fw_2214 (ce fw_5160 (ce fw_3173 (ce fw_3174 (ce fw_1035 (ce fw_3175 (ce fw_2205 (ce fw_2203 (cn))))))))))))))))))))))))
def q_wsX11_frame_r2 : List Nat := [5208, 5210, 26, 5211]
set_option maxRecDepth 100000 in
theorem e_wsX11_frame_r2 : q_wsX11_frame_r2.map fe = wsX11_frame_r2 := ce fw_5208 (ce fw_5210 (ce fw_26 (ce fw_5211 (cn))))
def q_wsX11_frame : List Nat := 5203 :: (((((((((q_wsX11_frame_r1) ++ (q_wsX11_frame_r2)) ++ (q_wsX110)) ++ (q_wsX100)) ++ (q_wsX90)) ++ (q_wsX40)) ++ (q_wsX70)) ++ (q_wsX50)) ++ (q_wsX20))
set_option maxRecDepth 100000 in
theorem e_wsX11_frame : q_wsX11_frame.map fe = wsX11_frame := ce fw_5203 (ca (ca (ca (ca (ca (ca (ca (ca (e_wsX11_frame_r1) (e_wsX11_frame_r2)) (e_wsX110)) (e_wsX100)) (e_wsX90)) (e_wsX40)) (e_wsX70)) (e_wsX50)) (e_wsX20))
def q_wsX11_channelOnes : List Nat := 5207 :: (((((([2283, 2231, 1121, 1096, 2235, 2214, 5160, 3173, 3174, 1035, 3175, 2205, 2203]) ++ (q_wsX110)) ++ (q_wsX100)) ++ (q_wsX50)) ++ (q_wsX90)) ++ (q_wsX20))
set_option maxRecDepth 100000 in
theorem e_wsX11_channelOnes : q_wsX11_channelOnes.map fe = wsX11_channelOnes := ce fw_5207 (ca (ca (ca (ca (ca (ce fw_2283 (ce fw_2231 (ce fw_1121 (ce fw_1096 (ce fw_2235 (ce fw_2214 (ce fw_5160 (ce fw_3173 (ce fw_3174 (ce fw_1035 (ce fw_3175 (ce fw_2205 (ce fw_2203 (cn)))))))))))))) (e_wsX110)) (e_wsX100)) (e_wsX50)) (e_wsX90)) (e_wsX20))
def q_wsX11_channelNumber : List Nat := 5211 :: (((((([2283, 2231, 1121, 1096, 2235, 2214, 5160, 3173, 3174, 1035, 3175, 2205, 2203]) ++ (q_wsX110)) ++ (q_wsX100)) ++ (q_wsX50)) ++ (q_wsX90)) ++ (q_wsX20))
set_option maxRecDepth 100000 in
theorem e_wsX11_channelNumber : q_wsX11_channelNumber.map fe = wsX11_channelNumber := ce fw_5211 (ca (ca (ca (ca (ca (ce fw_2283 (ce fw_2231 (ce fw_1121 (ce fw_1096 (ce fw_2235 (ce fw_2214 (ce fw_5160 (ce fw_3173 (ce fw_3174 (ce fw_1035 (ce fw_3175 (ce fw_2205 (ce fw_2203 (cn)))))))))))))) (e_wsX110)) (e_wsX100)) (e_wsX50)) (e_wsX90)) (e_wsX20))
def q_wsX11_value : List Nat := 5218 :: (((((([2283, 2235, 2218, 2156, 5219, 5220, 5221, 1034, 5222, 2110, 2109]) ++ (q_wsX110)) ++ (q_wsX100)) ++ (q_wsX90)) ++ (q_wsX40)) ++ (q_wsX00))
set_option maxRecDepth 100000 in
theorem e_wsX11_value : q_wsX11_value.map fe = wsX11_value := ce fw_5218 (ca (ca (ca (ca (ca (ce fw_2283 (ce fw_2235 (ce fw_2218 (ce fw_2156 (ce fw_5219 (ce fw_5220 (ce fw_5221 (ce fw_1034 (ce fw_5222 (ce fw_2110 (ce fw_2109 (cn)))))))))))) (e_wsX110)) (e_wsX100)) (e_wsX90)) (e_wsX40)) (e_wsX00))
def q_wsX0_nth : List Nat := 5222 :: (([2110, 2109]) ++ (q_wsX00))
set_option maxRecDepth 100000 in
theorem e_wsX0_nth : q_wsX0_nth.map fe = wsX0_nth := ce fw_5222 (ca (ce fw_2110 (ce fw_2109 (cn))) (e_wsX00))
def q_wsX11_struck_r1 : List Nat := [2283, 2231, 2235, 2214, 2207, 1118, 1083, 1090, 5190, 3228, 3229, 1027, 3230, 1077, 5160, 3173, 3174, 1035, 3175, 2205, 2203, 5191, 3247, 3248]
set_option maxRecDepth 100000 in
theorem e_wsX11_struck_r1 : q_wsX11_struck_r1.map fe = wsX11_struck_r1 := ce fw_2283 (ce fw_2231 (ce fw_2235 (ce fw_2214 (ce fw_2207 (ce fw_1118 (ce fw_1083 (ce fw_1090 (ce fw_5190 (ce fw_3228 (ce fw_3229 (ce fw_1027 (ce fw_3230 (ce fw_1077 (ce fw_5160 (ce fw_3173 (ce fw_3174 (ce fw_1035 (ce fw_3175 (ce fw_2205 (ce fw_2203 (ce fw_5191 (ce fw_3247 (ce fw_3248 (cn))))))))))))))))))))))))
def q_wsX11_struck_r2 : List Nat := [3249, 1129, 1127, 5192, 3204, 3205, 3206, 1086]
set_option maxRecDepth 100000 in
theorem e_wsX11_struck_r2 : q_wsX11_struck_r2.map fe = wsX11_struck_r2 := ce fw_3249 (ce fw_1129 (ce fw_1127 (ce fw_5192 (ce fw_3204 (ce fw_3205 (ce fw_3206 (ce fw_1086 (cn))))))))
def q_wsX11_struck : List Nat := 5189 :: (((((((q_wsX11_struck_r1) ++ (q_wsX11_struck_r2)) ++ (q_wsX110)) ++ (q_wsX100)) ++ (q_wsX90)) ++ (q_wsX20)) ++ (q_wsX50))
set_option maxRecDepth 100000 in
theorem e_wsX11_struck : q_wsX11_struck.map fe = wsX11_struck := ce fw_5189 (ca (ca (ca (ca (ca (ca (e_wsX11_struck_r1) (e_wsX11_struck_r2)) (e_wsX110)) (e_wsX100)) (e_wsX90)) (e_wsX20)) (e_wsX50))
def q_wsX11_locks_r1 : List Nat := [2283, 2235, 2214, 2207, 3072, 2218, 2231, 2160, 5184, 2130, 2131, 1031, 2132, 2149, 2151, 2153, 2155, 2157, 2158, 2159, 2161, 2162, 2163, 2164]
set_option maxRecDepth 100000 in
theorem e_wsX11_locks_r1 : q_wsX11_locks_r1.map fe = wsX11_locks_r1 := ce fw_2283 (ce fw_2235 (ce fw_2214 (ce fw_2207 (ce fw_3072 (ce fw_2218 (ce fw_2231 (ce fw_2160 (ce fw_5184 (ce fw_2130 (ce fw_2131 (ce fw_1031 (ce fw_2132 (ce fw_2149 (ce fw_2151 (ce fw_2153 (ce fw_2155 (ce fw_2157 (ce fw_2158 (ce fw_2159 (ce fw_2161 (ce fw_2162 (ce fw_2163 (ce fw_2164 (cn))))))))))))))))))))))))
def q_wsX11_locks_r2 : List Nat := [2165, 2166, 2133, 2134, 2135, 1032, 2136, 1078, 1229, 1130, 1116, 1230, 1233, 1235, 1236, 1237, 2137, 2138, 2139, 1033, 2140, 1257, 1259, 1261]
set_option maxRecDepth 100000 in
theorem e_wsX11_locks_r2 : q_wsX11_locks_r2.map fe = wsX11_locks_r2 := ce fw_2165 (ce fw_2166 (ce fw_2133 (ce fw_2134 (ce fw_2135 (ce fw_1032 (ce fw_2136 (ce fw_1078 (ce fw_1229 (ce fw_1130 (ce fw_1116 (ce fw_1230 (ce fw_1233 (ce fw_1235 (ce fw_1236 (ce fw_1237 (ce fw_2137 (ce fw_2138 (ce fw_2139 (ce fw_1033 (ce fw_2140 (ce fw_1257 (ce fw_1259 (ce fw_1261 (cn))))))))))))))))))))))))
def q_wsX11_locks_r3 : List Nat := [1263, 2050, 2052, 2064, 2141, 2142, 2143, 1034, 2144, 2110, 2112, 2145, 2146, 2147, 2148, 2114, 2115, 5185, 3185, 3186, 3187, 3188, 3173, 3174]
set_option maxRecDepth 100000 in
theorem e_wsX11_locks_r3 : q_wsX11_locks_r3.map fe = wsX11_locks_r3 := ce fw_1263 (ce fw_2050 (ce fw_2052 (ce fw_2064 (ce fw_2141 (ce fw_2142 (ce fw_2143 (ce fw_1034 (ce fw_2144 (ce fw_2110 (ce fw_2112 (ce fw_2145 (ce fw_2146 (ce fw_2147 (ce fw_2148 (ce fw_2114 (ce fw_2115 (ce fw_5185 (ce fw_3185 (ce fw_3186 (ce fw_3187 (ce fw_3188 (ce fw_3173 (ce fw_3174 (cn))))))))))))))))))))))))
def q_wsX11_locks_r4 : List Nat := [1035, 3175, 2205, 2203, 3189, 3191, 4, 3192, 1231, 1101, 3193, 3194, 3195, 3196, 1128, 1126, 1087, 3197, 3198, 1039, 3199, 3200, 3201, 3202]
set_option maxRecDepth 100000 in
theorem e_wsX11_locks_r4 : q_wsX11_locks_r4.map fe = wsX11_locks_r4 := ce fw_1035 (ce fw_3175 (ce fw_2205 (ce fw_2203 (ce fw_3189 (ce fw_3191 (ce fw_4 (ce fw_3192 (ce fw_1231 (ce fw_1101 (ce fw_3193 (ce fw_3194 (ce fw_3195 (ce fw_3196 (ce fw_1128 (ce fw_1126 (ce fw_1087 (ce fw_3197 (ce fw_3198 (ce fw_1039 (ce fw_3199 (ce fw_3200 (ce fw_3201 (ce fw_3202 (cn))))))))))))))))))))))))
def q_wsX11_locks_r5 : List Nat := [3203, 3204, 3205, 1027, 3206, 1086, 3207, 3209, 5, 3210, 3211, 3212, 3213, 3214, 3215, 3216, 3217, 3218, 3219, 3220, 3221, 3222, 3223, 3224]
set_option maxRecDepth 100000 in
theorem e_wsX11_locks_r5 : q_wsX11_locks_r5.map fe = wsX11_locks_r5 := ce fw_3203 (ce fw_3204 (ce fw_3205 (ce fw_1027 (ce fw_3206 (ce fw_1086 (ce fw_3207 (ce fw_3209 (ce fw_5 (ce fw_3210 (ce fw_3211 (ce fw_3212 (ce fw_3213 (ce fw_3214 (ce fw_3215 (ce fw_3216 (ce fw_3217 (ce fw_3218 (ce fw_3219 (ce fw_3220 (ce fw_3221 (ce fw_3222 (ce fw_3223 (ce fw_3224 (cn))))))))))))))))))))))))
def q_wsX11_locks_r6 : List Nat := [3225, 3226, 1127, 1129, 3227, 3228, 3229, 3230, 1077, 3231, 3232, 3234, 6, 3235, 1119, 1081, 1234, 1124, 3236, 3237, 3239, 7, 3240, 3241]
set_option maxRecDepth 100000 in
theorem e_wsX11_locks_r6 : q_wsX11_locks_r6.map fe = wsX11_locks_r6 := ce fw_3225 (ce fw_3226 (ce fw_1127 (ce fw_1129 (ce fw_3227 (ce fw_3228 (ce fw_3229 (ce fw_3230 (ce fw_1077 (ce fw_3231 (ce fw_3232 (ce fw_3234 (ce fw_6 (ce fw_3235 (ce fw_1119 (ce fw_1081 (ce fw_1234 (ce fw_1124 (ce fw_3236 (ce fw_3237 (ce fw_3239 (ce fw_7 (ce fw_3240 (ce fw_3241 (cn))))))))))))))))))))))))
def q_wsX11_locks_r7 : List Nat := [3242, 3244, 8, 3245, 3246, 3247, 3248, 3249, 3250, 3252, 9, 3253, 3254, 3255, 3257, 10, 3258, 3259, 3260, 3261, 3262, 1117, 3171, 3151]
set_option maxRecDepth 100000 in
theorem e_wsX11_locks_r7 : q_wsX11_locks_r7.map fe = wsX11_locks_r7 := ce fw_3242 (ce fw_3244 (ce fw_8 (ce fw_3245 (ce fw_3246 (ce fw_3247 (ce fw_3248 (ce fw_3249 (ce fw_3250 (ce fw_3252 (ce fw_9 (ce fw_3253 (ce fw_3254 (ce fw_3255 (ce fw_3257 (ce fw_10 (ce fw_3258 (ce fw_3259 (ce fw_3260 (ce fw_3261 (ce fw_3262 (ce fw_1117 (ce fw_3171 (ce fw_3151 (cn))))))))))))))))))))))))
def q_wsX11_locks_r8 : List Nat := [3152, 3153, 1084, 3172, 3263, 3168, 3169, 3170, 1122, 1091, 3264, 3266, 11, 3267, 3268, 3270, 12, 3271, 1110, 1106, 3272, 3273, 3274, 3275]
set_option maxRecDepth 100000 in
theorem e_wsX11_locks_r8 : q_wsX11_locks_r8.map fe = wsX11_locks_r8 := ce fw_3152 (ce fw_3153 (ce fw_1084 (ce fw_3172 (ce fw_3263 (ce fw_3168 (ce fw_3169 (ce fw_3170 (ce fw_1122 (ce fw_1091 (ce fw_3264 (ce fw_3266 (ce fw_11 (ce fw_3267 (ce fw_3268 (ce fw_3270 (ce fw_12 (ce fw_3271 (ce fw_1110 (ce fw_1106 (ce fw_3272 (ce fw_3273 (ce fw_3274 (ce fw_3275 (cn))))))))))))))))))))))))
def q_wsX11_locks_r9 : List Nat := [3276, 3277, 3278, 3279, 3280, 3281, 3282, 3284, 13, 3285, 2109, 3286, 3287, 3288, 3289, 2054, 2055, 2056, 2057, 3290, 3292, 14, 3293, 3294]
set_option maxRecDepth 100000 in
theorem e_wsX11_locks_r9 : q_wsX11_locks_r9.map fe = wsX11_locks_r9 := ce fw_3276 (ce fw_3277 (ce fw_3278 (ce fw_3279 (ce fw_3280 (ce fw_3281 (ce fw_3282 (ce fw_3284 (ce fw_13 (ce fw_3285 (ce fw_2109 (ce fw_3286 (ce fw_3287 (ce fw_3288 (ce fw_3289 (ce fw_2054 (ce fw_2055 (ce fw_2056 (ce fw_2057 (ce fw_3290 (ce fw_3292 (ce fw_14 (ce fw_3293 (ce fw_3294 (cn))))))))))))))))))))))))
def q_wsX11_locks_r10 : List Nat := [3295, 3296, 3297, 1114, 1082, 3298, 3300, 15, 3301, 2058, 2060, 2062, 2066, 2067, 2065, 3306, 3106, 1036, 3107, 3302, 3303, 3304, 3305, 1097]
set_option maxRecDepth 100000 in
theorem e_wsX11_locks_r10 : q_wsX11_locks_r10.map fe = wsX11_locks_r10 := ce fw_3295 (ce fw_3296 (ce fw_3297 (ce fw_1114 (ce fw_1082 (ce fw_3298 (ce fw_3300 (ce fw_15 (ce fw_3301 (ce fw_2058 (ce fw_2060 (ce fw_2062 (ce fw_2066 (ce fw_2067 (ce fw_2065 (ce fw_3306 (ce fw_3106 (ce fw_1036 (ce fw_3107 (ce fw_3302 (ce fw_3303 (ce fw_3304 (ce fw_3305 (ce fw_1097 (cn))))))))))))))))))))))))
def q_wsX11_locks : List Nat := 5183 :: (((((((((((q_wsX11_locks_r1) ++ ((q_wsX11_locks_r2) ++ ((q_wsX11_locks_r3) ++ ((q_wsX11_locks_r4) ++ ((q_wsX11_locks_r5) ++ ((q_wsX11_locks_r6) ++ ((q_wsX11_locks_r7) ++ ((q_wsX11_locks_r8) ++ ((q_wsX11_locks_r9) ++ (q_wsX11_locks_r10)))))))))) ++ (q_wsX110)) ++ (q_wsX100)) ++ (q_wsX90)) ++ (q_wsX20)) ++ (q_wsX40)) ++ (q_wsX50)) ++ (q_wsX10)) ++ (q_wsX70)) ++ (q_wsX00))
set_option maxRecDepth 100000 in
theorem e_wsX11_locks : q_wsX11_locks.map fe = wsX11_locks := ce fw_5183 (ca (ca (ca (ca (ca (ca (ca (ca (ca (ca (e_wsX11_locks_r1) (ca (e_wsX11_locks_r2) (ca (e_wsX11_locks_r3) (ca (e_wsX11_locks_r4) (ca (e_wsX11_locks_r5) (ca (e_wsX11_locks_r6) (ca (e_wsX11_locks_r7) (ca (e_wsX11_locks_r8) (ca (e_wsX11_locks_r9) (e_wsX11_locks_r10)))))))))) (e_wsX110)) (e_wsX100)) (e_wsX90)) (e_wsX20)) (e_wsX40)) (e_wsX50)) (e_wsX10)) (e_wsX70)) (e_wsX00))
def q_wsX11_from_r1 : List Nat := [2283, 2235, 2214, 2207, 3072, 2218, 2231, 5184, 2130, 2131, 1031, 2132, 2149, 2151, 2153, 2155, 2157, 2158, 2159, 2161, 2162, 2163, 2164, 2165]
set_option maxRecDepth 100000 in
theorem e_wsX11_from_r1 : q_wsX11_from_r1.map fe = wsX11_from_r1 := ce fw_2283 (ce fw_2235 (ce fw_2214 (ce fw_2207 (ce fw_3072 (ce fw_2218 (ce fw_2231 (ce fw_5184 (ce fw_2130 (ce fw_2131 (ce fw_1031 (ce fw_2132 (ce fw_2149 (ce fw_2151 (ce fw_2153 (ce fw_2155 (ce fw_2157 (ce fw_2158 (ce fw_2159 (ce fw_2161 (ce fw_2162 (ce fw_2163 (ce fw_2164 (ce fw_2165 (cn))))))))))))))))))))))))
def q_wsX11_from_r2 : List Nat := [2166, 2133, 2134, 2135, 1032, 2136, 1078, 1229, 1130, 1116, 1230, 1233, 1235, 1236, 1237, 2137, 2138, 2139, 1033, 2140, 1257, 1259, 1261, 1263]
set_option maxRecDepth 100000 in
theorem e_wsX11_from_r2 : q_wsX11_from_r2.map fe = wsX11_from_r2 := ce fw_2166 (ce fw_2133 (ce fw_2134 (ce fw_2135 (ce fw_1032 (ce fw_2136 (ce fw_1078 (ce fw_1229 (ce fw_1130 (ce fw_1116 (ce fw_1230 (ce fw_1233 (ce fw_1235 (ce fw_1236 (ce fw_1237 (ce fw_2137 (ce fw_2138 (ce fw_2139 (ce fw_1033 (ce fw_2140 (ce fw_1257 (ce fw_1259 (ce fw_1261 (ce fw_1263 (cn))))))))))))))))))))))))
def q_wsX11_from_r3 : List Nat := [2050, 2052, 2064, 2141, 2142, 2143, 1034, 2144, 2110, 2112, 2145, 2146, 2147, 2148, 2114, 2115, 5185, 3185, 3186, 3187, 3188, 3173, 3174, 1035]
set_option maxRecDepth 100000 in
theorem e_wsX11_from_r3 : q_wsX11_from_r3.map fe = wsX11_from_r3 := ce fw_2050 (ce fw_2052 (ce fw_2064 (ce fw_2141 (ce fw_2142 (ce fw_2143 (ce fw_1034 (ce fw_2144 (ce fw_2110 (ce fw_2112 (ce fw_2145 (ce fw_2146 (ce fw_2147 (ce fw_2148 (ce fw_2114 (ce fw_2115 (ce fw_5185 (ce fw_3185 (ce fw_3186 (ce fw_3187 (ce fw_3188 (ce fw_3173 (ce fw_3174 (ce fw_1035 (cn))))))))))))))))))))))))
def q_wsX11_from_r4 : List Nat := [3175, 2205, 2203, 3189, 3191, 4, 3192, 1231, 1101, 3193, 3194, 3195, 3196, 1128, 1126, 1087, 3197, 3198, 1039, 3199, 3200, 3201, 3202, 3203]
set_option maxRecDepth 100000 in
theorem e_wsX11_from_r4 : q_wsX11_from_r4.map fe = wsX11_from_r4 := ce fw_3175 (ce fw_2205 (ce fw_2203 (ce fw_3189 (ce fw_3191 (ce fw_4 (ce fw_3192 (ce fw_1231 (ce fw_1101 (ce fw_3193 (ce fw_3194 (ce fw_3195 (ce fw_3196 (ce fw_1128 (ce fw_1126 (ce fw_1087 (ce fw_3197 (ce fw_3198 (ce fw_1039 (ce fw_3199 (ce fw_3200 (ce fw_3201 (ce fw_3202 (ce fw_3203 (cn))))))))))))))))))))))))
def q_wsX11_from_r5 : List Nat := [3204, 3205, 1027, 3206, 1086, 3207, 3209, 5, 3210, 3211, 3212, 3213, 3214, 3215, 3216, 3217, 3218, 3219, 3220, 3221, 3222, 3223, 3224, 3225]
set_option maxRecDepth 100000 in
theorem e_wsX11_from_r5 : q_wsX11_from_r5.map fe = wsX11_from_r5 := ce fw_3204 (ce fw_3205 (ce fw_1027 (ce fw_3206 (ce fw_1086 (ce fw_3207 (ce fw_3209 (ce fw_5 (ce fw_3210 (ce fw_3211 (ce fw_3212 (ce fw_3213 (ce fw_3214 (ce fw_3215 (ce fw_3216 (ce fw_3217 (ce fw_3218 (ce fw_3219 (ce fw_3220 (ce fw_3221 (ce fw_3222 (ce fw_3223 (ce fw_3224 (ce fw_3225 (cn))))))))))))))))))))))))
def q_wsX11_from_r6 : List Nat := [3226, 1127, 1129, 3227, 3228, 3229, 3230, 1077, 3231, 3232, 3234, 6, 3235, 1119, 1081, 1234, 1124, 3236, 3237, 3239, 7, 3240, 3241, 3242]
set_option maxRecDepth 100000 in
theorem e_wsX11_from_r6 : q_wsX11_from_r6.map fe = wsX11_from_r6 := ce fw_3226 (ce fw_1127 (ce fw_1129 (ce fw_3227 (ce fw_3228 (ce fw_3229 (ce fw_3230 (ce fw_1077 (ce fw_3231 (ce fw_3232 (ce fw_3234 (ce fw_6 (ce fw_3235 (ce fw_1119 (ce fw_1081 (ce fw_1234 (ce fw_1124 (ce fw_3236 (ce fw_3237 (ce fw_3239 (ce fw_7 (ce fw_3240 (ce fw_3241 (ce fw_3242 (cn))))))))))))))))))))))))
def q_wsX11_from_r7 : List Nat := [3244, 8, 3245, 3246, 3247, 3248, 3249, 3250, 3252, 9, 3253, 3254, 3255, 3257, 10, 3258, 3259, 3260, 3261, 3262, 1117, 3171, 3151, 3152]
set_option maxRecDepth 100000 in
theorem e_wsX11_from_r7 : q_wsX11_from_r7.map fe = wsX11_from_r7 := ce fw_3244 (ce fw_8 (ce fw_3245 (ce fw_3246 (ce fw_3247 (ce fw_3248 (ce fw_3249 (ce fw_3250 (ce fw_3252 (ce fw_9 (ce fw_3253 (ce fw_3254 (ce fw_3255 (ce fw_3257 (ce fw_10 (ce fw_3258 (ce fw_3259 (ce fw_3260 (ce fw_3261 (ce fw_3262 (ce fw_1117 (ce fw_3171 (ce fw_3151 (ce fw_3152 (cn))))))))))))))))))))))))
def q_wsX11_from_r8 : List Nat := [3153, 1084, 3172, 3263, 3168, 3169, 3170, 1122, 1091, 3264, 3266, 11, 3267, 3268, 3270, 12, 3271, 1110, 1106, 3272, 3273, 3274, 3275, 3276]
set_option maxRecDepth 100000 in
theorem e_wsX11_from_r8 : q_wsX11_from_r8.map fe = wsX11_from_r8 := ce fw_3153 (ce fw_1084 (ce fw_3172 (ce fw_3263 (ce fw_3168 (ce fw_3169 (ce fw_3170 (ce fw_1122 (ce fw_1091 (ce fw_3264 (ce fw_3266 (ce fw_11 (ce fw_3267 (ce fw_3268 (ce fw_3270 (ce fw_12 (ce fw_3271 (ce fw_1110 (ce fw_1106 (ce fw_3272 (ce fw_3273 (ce fw_3274 (ce fw_3275 (ce fw_3276 (cn))))))))))))))))))))))))
def q_wsX11_from_r9 : List Nat := [3277, 3278, 3279, 3280, 3281, 3282, 3284, 13, 3285, 2109, 3286, 3287, 3288, 3289, 2054, 2055, 2056, 2057, 3290, 3292, 14, 3293, 3294, 3295]
set_option maxRecDepth 100000 in
theorem e_wsX11_from_r9 : q_wsX11_from_r9.map fe = wsX11_from_r9 := ce fw_3277 (ce fw_3278 (ce fw_3279 (ce fw_3280 (ce fw_3281 (ce fw_3282 (ce fw_3284 (ce fw_13 (ce fw_3285 (ce fw_2109 (ce fw_3286 (ce fw_3287 (ce fw_3288 (ce fw_3289 (ce fw_2054 (ce fw_2055 (ce fw_2056 (ce fw_2057 (ce fw_3290 (ce fw_3292 (ce fw_14 (ce fw_3293 (ce fw_3294 (ce fw_3295 (cn))))))))))))))))))))))))
