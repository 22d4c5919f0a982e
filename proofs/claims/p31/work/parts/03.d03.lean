theorem dL_more_25 : decode cL_more 25 = .ok (.aload_n 0, 1) := by decide +kernel
theorem dL_more_26 : decode cL_more 26 = .ok (.aload_n 1, 1) := by decide +kernel
theorem dL_more_27 : decode cL_more 27 = .ok (.bipush 48, 2) := by decide +kernel
theorem dL_more_29 : decode cL_more 29 = .ok (.iload_n 2, 1) := by decide +kernel
theorem dL_more_30 : decode cL_more 30 = .ok (.bipush 10, 2) := by decide +kernel
theorem dL_more_32 : decode cL_more 32 = .ok (.irem, 1) := by decide +kernel
theorem dL_more_33 : decode cL_more 33 = .ok (.iadd, 1) := by decide +kernel
theorem dL_more_34 : decode cL_more 34 = .ok (.invokestatic 17, 3) := by decide +kernel
theorem dL_more_37 : decode cL_more 37 = .ok (.return_, 1) := by decide +kernel
set_option maxRecDepth 20000 in
theorem ggL_begins_X12_next : GoodIn wsL_begins wsX12_next := gi_e e_wsL_begins e_wsX12_next (by decide +kernel)
set_option maxRecDepth 20000 in
theorem gL_begins_X12_next : GoodIn wsL_begins (wsV RL 23 RX12 yX12_next wsX12_next) := goodIn_app (gi_e e_wsL_begins (ce fw_4113 (ce fw_4114 (ce fw_4115 (ce fw_1038 (cn))))) (by decide +kernel)) ggL_begins_X12_next
set_option maxRecDepth 20000 in
theorem ggL_begins_L_word : GoodIn wsL_begins wsL_word := gi_e e_wsL_begins e_wsL_word (by decide +kernel)
set_option maxRecDepth 20000 in
theorem gL_begins_L_word : GoodIn wsL_begins (va_wsS RL 31 yL_word wsL_word) := goodIn_app (gi_e e_wsL_begins (ce fw_4122 (ce fw_4123 (ce fw_1024 (cn)))) (by decide +kernel)) ggL_begins_L_word
set_option maxRecDepth 20000 in
theorem ggL_begins_L_more : GoodIn wsL_begins wsL_more := gi_e e_wsL_begins e_wsL_more (by decide +kernel)
set_option maxRecDepth 20000 in
theorem gL_begins_L_more : GoodIn wsL_begins (va_wsS RL 35 yL_more wsL_more) := goodIn_app (gi_e e_wsL_begins (ce fw_4141 (ce fw_4142 (ce fw_1024 (cn)))) (by decide +kernel)) ggL_begins_L_more
set_option maxRecDepth 20000 in
theorem ggL_begins_L_put : GoodIn wsL_begins wsL_put := gi_e e_wsL_begins e_wsL_put (by decide +kernel)
set_option maxRecDepth 20000 in
theorem gL_begins_L_put : GoodIn wsL_begins (va_wsS RL 17 yL_put wsL_put) := goodIn_app (gi_e e_wsL_begins (ce fw_4126 (ce fw_4127 (ce fw_1024 (cn)))) (by decide +kernel)) ggL_begins_L_put
set_option maxRecDepth 20000 in
theorem ggL_begins_L_ends : GoodIn wsL_begins wsL_ends := gi_e e_wsL_begins e_wsL_ends (by decide +kernel)
set_option maxRecDepth 20000 in
theorem gL_begins_L_ends : GoodIn wsL_begins (va_wsS RL 54 yL_ends wsL_ends) := goodIn_app (gi_e e_wsL_begins (ce fw_4152 (ce fw_4153 (ce fw_1024 (cn)))) (by decide +kernel)) ggL_begins_L_ends
set_option maxRecDepth 20000 in
theorem ggL_begins_X11_scheme : GoodIn wsL_begins wsX11_scheme := gi_e e_wsL_begins e_wsX11_scheme (by decide +kernel)
set_option maxRecDepth 20000 in
theorem gL_begins_X11_scheme : GoodIn wsL_begins (wsV RL 58 RX11 yX11_scheme wsX11_scheme) := goodIn_app (gi_e e_wsL_begins (ce fw_4155 (ce fw_4156 (ce fw_4157 (ce fw_1025 (cn))))) (by decide +kernel)) ggL_begins_X11_scheme
set_option maxRecDepth 20000 in
theorem ggL_begins_X11_fault : GoodIn wsL_begins wsX11_fault := gi_e e_wsL_begins e_wsX11_fault (by decide +kernel)
set_option maxRecDepth 20000 in
theorem gL_begins_X11_fault : GoodIn wsL_begins (wsV RL 62 RX11 yX11_fault wsX11_fault) := goodIn_app (gi_e e_wsL_begins (ce fw_4287 (ce fw_4288 (ce fw_4289 (ce fw_1025 (cn))))) (by decide +kernel)) ggL_begins_X11_fault
set_option maxRecDepth 20000 in
theorem ggL_begins_X11_count : GoodIn wsL_begins wsX11_count := gi_e e_wsL_begins e_wsX11_count (by decide +kernel)
set_option maxRecDepth 20000 in
theorem gL_begins_X11_count : GoodIn wsL_begins (wsV RL 66 RX11 yX11_count wsX11_count) := goodIn_app (gi_e e_wsL_begins (ce fw_3307 (ce fw_3308 (ce fw_3309 (ce fw_1025 (cn))))) (by decide +kernel)) ggL_begins_X11_count
set_option maxRecDepth 20000 in
theorem ggL_begins_X11_receiver : GoodIn wsL_begins wsX11_receiver := gi_e e_wsL_begins e_wsX11_receiver (by decide +kernel)
set_option maxRecDepth 20000 in
theorem gL_begins_X11_receiver : GoodIn wsL_begins (wsV RL 69 RX11 yX11_receiver wsX11_receiver) := goodIn_app (gi_e e_wsL_begins (ce fw_3311 (ce fw_4096 (ce fw_4097 (ce fw_1025 (cn))))) (by decide +kernel)) ggL_begins_X11_receiver
theorem dL_begins_0 : decode cL_begins 0 = .ok (.iconst 2, 1) := by decide +kernel
theorem dL_begins_1 : decode cL_begins 1 = .ok (.newarray .long, 2) := by decide +kernel
theorem dL_begins_3 : decode cL_begins 3 = .ok (.astore_n 2, 1) := by decide +kernel
theorem dL_begins_4 : decode cL_begins 4 = .ok (.iconst 4, 1) := by decide +kernel
theorem dL_begins_5 : decode cL_begins 5 = .ok (.aload_n 1, 1) := by decide +kernel
theorem dL_begins_6 : decode cL_begins 6 = .ok (.aload_n 1, 1) := by decide +kernel
theorem dL_begins_7 : decode cL_begins 7 = .ok (.iconst 3, 1) := by decide +kernel
theorem dL_begins_8 : decode cL_begins 8 = .ok (.invokevirtual 23, 3) := by decide +kernel
theorem dL_begins_11 : decode cL_begins 11 = .ok (.ifCond .ne 8, 3) := by decide +kernel
theorem dL_begins_14 : decode cL_begins 14 = .ok (.bipush 21, 2) := by decide +kernel
theorem dL_begins_16 : decode cL_begins 16 = .ok (.goto 5, 3) := by decide +kernel
theorem dL_begins_19 : decode cL_begins 19 = .ok (.bipush 8, 2) := by decide +kernel
theorem dL_begins_21 : decode cL_begins 21 = .ok (.invokevirtual 23, 3) := by decide +kernel
theorem dL_begins_24 : decode cL_begins 24 = .ok (.iadd, 1) := by decide +kernel
theorem dL_begins_25 : decode cL_begins 25 = .ok (.istore_n 3, 1) := by decide +kernel
theorem dL_begins_26 : decode cL_begins 26 = .ok (.iconst 4, 1) := by decide +kernel
theorem dL_begins_27 : decode cL_begins 27 = .ok (.aload_n 1, 1) := by decide +kernel
theorem dL_begins_28 : decode cL_begins 28 = .ok (.bipush 9, 2) := by decide +kernel
theorem dL_begins_30 : decode cL_begins 30 = .ok (.invokevirtual 23, 3) := by decide +kernel
theorem dL_begins_33 : decode cL_begins 33 = .ok (.iadd, 1) := by decide +kernel
theorem dL_begins_34 : decode cL_begins 34 = .ok (.istore 4, 2) := by decide +kernel
theorem dL_begins_36 : decode cL_begins 36 = .ok (.aload_n 0, 1) := by decide +kernel
theorem dL_begins_37 : decode cL_begins 37 = .ok (.aload_n 2, 1) := by decide +kernel
theorem dL_begins_38 : decode cL_begins 38 = .ok (.ldc2_w 29, 3) := by decide +kernel
theorem dL_begins_41 : decode cL_begins 41 = .ok (.invokestatic 31, 3) := by decide +kernel
theorem dL_begins_44 : decode cL_begins 44 = .ok (.aload_n 0, 1) := by decide +kernel
theorem dL_begins_45 : decode cL_begins 45 = .ok (.aload_n 2, 1) := by decide +kernel
theorem dL_begins_46 : decode cL_begins 46 = .ok (.iload_n 3, 1) := by decide +kernel
theorem dL_begins_47 : decode cL_begins 47 = .ok (.invokestatic 35, 3) := by decide +kernel
theorem dL_begins_50 : decode cL_begins 50 = .ok (.aload_n 0, 1) := by decide +kernel
theorem dL_begins_51 : decode cL_begins 51 = .ok (.aload_n 2, 1) := by decide +kernel
theorem dL_begins_52 : decode cL_begins 52 = .ok (.ldc2_w 38, 3) := by decide +kernel
theorem dL_begins_55 : decode cL_begins 55 = .ok (.invokestatic 31, 3) := by decide +kernel
theorem dL_begins_58 : decode cL_begins 58 = .ok (.iconst 0, 1) := by decide +kernel
theorem dL_begins_59 : decode cL_begins 59 = .ok (.istore 5, 2) := by decide +kernel
theorem dL_begins_61 : decode cL_begins 61 = .ok (.aload_n 1, 1) := by decide +kernel
theorem dL_begins_62 : decode cL_begins 62 = .ok (.iconst 3, 1) := by decide +kernel
theorem dL_begins_63 : decode cL_begins 63 = .ok (.invokevirtual 23, 3) := by decide +kernel
theorem dL_begins_66 : decode cL_begins 66 = .ok (.istore 6, 2) := by decide +kernel
theorem dL_begins_68 : decode cL_begins 68 = .ok (.iconst 0, 1) := by decide +kernel
theorem dL_begins_69 : decode cL_begins 69 = .ok (.istore 7, 2) := by decide +kernel
theorem dL_begins_71 : decode cL_begins 71 = .ok (.iload 7, 2) := by decide +kernel
theorem dL_begins_73 : decode cL_begins 73 = .ok (.iload 4, 2) := by decide +kernel
theorem dL_begins_75 : decode cL_begins 75 = .ok (.if_icmp .ge 148, 3) := by decide +kernel
theorem dL_begins_78 : decode cL_begins 78 = .ok (.aload_n 0, 1) := by decide +kernel
theorem dL_begins_79 : decode cL_begins 79 = .ok (.aload_n 2, 1) := by decide +kernel
theorem dL_begins_80 : decode cL_begins 80 = .ok (.bipush 32, 2) := by decide +kernel
theorem dL_begins_82 : decode cL_begins 82 = .ok (.invokestatic 17, 3) := by decide +kernel
theorem dL_begins_85 : decode cL_begins 85 = .ok (.iload 7, 2) := by decide +kernel
theorem dL_begins_87 : decode cL_begins 87 = .ok (.iconst 3, 1) := by decide +kernel
theorem dL_begins_88 : decode cL_begins 88 = .ok (.if_icmp .ge 17, 3) := by decide +kernel
theorem dL_begins_91 : decode cL_begins 91 = .ok (.iload 7, 2) := by decide +kernel
theorem dL_begins_93 : decode cL_begins 93 = .ok (.iconst 2, 1) := by decide +kernel
theorem dL_begins_94 : decode cL_begins 94 = .ok (.if_icmp .ne 7, 3) := by decide +kernel
theorem dL_begins_97 : decode cL_begins 97 = .ok (.iconst 1, 1) := by decide +kernel
theorem dL_begins_98 : decode cL_begins 98 = .ok (.goto 12, 3) := by decide +kernel
theorem dL_begins_101 : decode cL_begins 101 = .ok (.iconst 0, 1) := by decide +kernel
theorem dL_begins_102 : decode cL_begins 102 = .ok (.goto 8, 3) := by decide +kernel
theorem dL_begins_105 : decode cL_begins 105 = .ok (.aload_n 1, 1) := by decide +kernel
theorem dL_begins_106 : decode cL_begins 106 = .ok (.iconst 5, 1) := by decide +kernel
theorem dL_begins_107 : decode cL_begins 107 = .ok (.invokevirtual 23, 3) := by decide +kernel
theorem dL_begins_110 : decode cL_begins 110 = .ok (.istore 8, 2) := by decide +kernel
theorem dL_begins_112 : decode cL_begins 112 = .ok (.iload 8, 2) := by decide +kernel
theorem dL_begins_114 : decode cL_begins 114 = .ok (.iconst 1, 1) := by decide +kernel
theorem dL_begins_115 : decode cL_begins 115 = .ok (.if_icmp .le 20, 3) := by decide +kernel
theorem dL_begins_118 : decode cL_begins 118 = .ok (.iload 6, 2) := by decide +kernel
theorem dL_begins_120 : decode cL_begins 120 = .ok (.iconst 1, 1) := by decide +kernel
theorem dL_begins_121 : decode cL_begins 121 = .ok (.if_icmp .eq 14, 3) := by decide +kernel
theorem dL_begins_124 : decode cL_begins 124 = .ok (.iload 5, 2) := by decide +kernel
theorem dL_begins_126 : decode cL_begins 126 = .ok (.bipush 6, 2) := by decide +kernel
theorem dL_begins_128 : decode cL_begins 128 = .ok (.if_icmp .ge 7, 3) := by decide +kernel
theorem dL_begins_131 : decode cL_begins 131 = .ok (.iconst 1, 1) := by decide +kernel
theorem dL_begins_132 : decode cL_begins 132 = .ok (.goto 4, 3) := by decide +kernel
theorem dL_begins_135 : decode cL_begins 135 = .ok (.iconst 0, 1) := by decide +kernel
theorem dL_begins_136 : decode cL_begins 136 = .ok (.istore 9, 2) := by decide +kernel
theorem dL_begins_138 : decode cL_begins 138 = .ok (.iload 5, 2) := by decide +kernel
theorem dL_begins_140 : decode cL_begins 140 = .ok (.iload 9, 2) := by decide +kernel
theorem dL_begins_142 : decode cL_begins 142 = .ok (.ifCond .eq 13, 3) := by decide +kernel
theorem dL_begins_145 : decode cL_begins 145 = .ok (.iload 8, 2) := by decide +kernel
theorem dL_begins_147 : decode cL_begins 147 = .ok (.iconst 2, 1) := by decide +kernel
theorem dL_begins_148 : decode cL_begins 148 = .ok (.if_icmp .ne 7, 3) := by decide +kernel
theorem dL_begins_151 : decode cL_begins 151 = .ok (.iconst 1, 1) := by decide +kernel
theorem dL_begins_152 : decode cL_begins 152 = .ok (.goto 4, 3) := by decide +kernel
theorem dL_begins_155 : decode cL_begins 155 = .ok (.iconst 0, 1) := by decide +kernel
theorem dL_begins_156 : decode cL_begins 156 = .ok (.iadd, 1) := by decide +kernel
theorem dL_begins_157 : decode cL_begins 157 = .ok (.istore 5, 2) := by decide +kernel
theorem dL_begins_159 : decode cL_begins 159 = .ok (.aload_n 0, 1) := by decide +kernel
theorem dL_begins_160 : decode cL_begins 160 = .ok (.aload_n 2, 1) := by decide +kernel
theorem dL_begins_161 : decode cL_begins 161 = .ok (.iload 8, 2) := by decide +kernel
theorem dL_begins_163 : decode cL_begins 163 = .ok (.ifCond .eq 9, 3) := by decide +kernel
theorem dL_begins_166 : decode cL_begins 166 = .ok (.iload 8, 2) := by decide +kernel
theorem dL_begins_168 : decode cL_begins 168 = .ok (.iconst 1, 1) := by decide +kernel
theorem dL_begins_169 : decode cL_begins 169 = .ok (.if_icmp .ne 11, 3) := by decide +kernel
theorem dL_begins_172 : decode cL_begins 172 = .ok (.bipush 48, 2) := by decide +kernel
theorem dL_begins_174 : decode cL_begins 174 = .ok (.iload 8, 2) := by decide +kernel
theorem dL_begins_176 : decode cL_begins 176 = .ok (.iadd, 1) := by decide +kernel
theorem dL_begins_177 : decode cL_begins 177 = .ok (.goto 37, 3) := by decide +kernel
theorem dL_begins_180 : decode cL_begins 180 = .ok (.iload 8, 2) := by decide +kernel
theorem dL_begins_182 : decode cL_begins 182 = .ok (.iconst 2, 1) := by decide +kernel
theorem dL_begins_183 : decode cL_begins 183 = .ok (.if_icmp .ne 13, 3) := by decide +kernel
theorem dL_begins_186 : decode cL_begins 186 = .ok (.iload 9, 2) := by decide +kernel
theorem dL_begins_188 : decode cL_begins 188 = .ok (.ifCond .eq 8, 3) := by decide +kernel
theorem dL_begins_191 : decode cL_begins 191 = .ok (.bipush 99, 2) := by decide +kernel
theorem dL_begins_193 : decode cL_begins 193 = .ok (.goto 21, 3) := by decide +kernel
theorem dL_begins_196 : decode cL_begins 196 = .ok (.iload 8, 2) := by decide +kernel
theorem dL_begins_198 : decode cL_begins 198 = .ok (.iconst 3, 1) := by decide +kernel
theorem dL_begins_199 : decode cL_begins 199 = .ok (.if_icmp .ne 13, 3) := by decide +kernel
theorem dL_begins_202 : decode cL_begins 202 = .ok (.iload 6, 2) := by decide +kernel
theorem dL_begins_204 : decode cL_begins 204 = .ok (.ifCond .le 8, 3) := by decide +kernel
theorem dL_begins_207 : decode cL_begins 207 = .ok (.bipush 100, 2) := by decide +kernel
theorem dL_begins_209 : decode cL_begins 209 = .ok (.goto 5, 3) := by decide +kernel
theorem dL_begins_212 : decode cL_begins 212 = .ok (.bipush 49, 2) := by decide +kernel
theorem dL_begins_214 : decode cL_begins 214 = .ok (.invokestatic 17, 3) := by decide +kernel
theorem dL_begins_217 : decode cL_begins 217 = .ok (.iinc 7 1, 3) := by decide +kernel
theorem dL_begins_220 : decode cL_begins 220 = .ok (.goto (-149), 3) := by decide +kernel
theorem dL_begins_223 : decode cL_begins 223 = .ok (.aload_n 0, 1) := by decide +kernel
theorem dL_begins_224 : decode cL_begins 224 = .ok (.aload_n 2, 1) := by decide +kernel
theorem dL_begins_225 : decode cL_begins 225 = .ok (.ldc2_w 40, 3) := by decide +kernel
theorem dL_begins_228 : decode cL_begins 228 = .ok (.invokestatic 31, 3) := by decide +kernel
theorem dL_begins_231 : decode cL_begins 231 = .ok (.aload_n 0, 1) := by decide +kernel
theorem dL_begins_232 : decode cL_begins 232 = .ok (.aload_n 2, 1) := by decide +kernel
theorem dL_begins_233 : decode cL_begins 233 = .ok (.aload_n 1, 1) := by decide +kernel
theorem dL_begins_234 : decode cL_begins 234 = .ok (.bipush 64, 2) := by decide +kernel
theorem dL_begins_236 : decode cL_begins 236 = .ok (.invokevirtual 23, 3) := by decide +kernel
theorem dL_begins_239 : decode cL_begins 239 = .ok (.invokestatic 35, 3) := by decide +kernel
theorem dL_begins_242 : decode cL_begins 242 = .ok (.aload_n 0, 1) := by decide +kernel
theorem dL_begins_243 : decode cL_begins 243 = .ok (.aload_n 2, 1) := by decide +kernel
theorem dL_begins_244 : decode cL_begins 244 = .ok (.ldc2_w 42, 3) := by decide +kernel
theorem dL_begins_247 : decode cL_begins 247 = .ok (.invokestatic 31, 3) := by decide +kernel
theorem dL_begins_250 : decode cL_begins 250 = .ok (.aload_n 0, 1) := by decide +kernel
theorem dL_begins_251 : decode cL_begins 251 = .ok (.aload_n 2, 1) := by decide +kernel
theorem dL_begins_252 : decode cL_begins 252 = .ok (.iconst 1, 1) := by decide +kernel
theorem dL_begins_253 : decode cL_begins 253 = .ok (.aload_n 1, 1) := by decide +kernel
theorem dL_begins_254 : decode cL_begins 254 = .ok (.bipush 8, 2) := by decide +kernel
theorem dL_begins_256 : decode cL_begins 256 = .ok (.invokevirtual 23, 3) := by decide +kernel
theorem dL_begins_259 : decode cL_begins 259 = .ok (.iadd, 1) := by decide +kernel
theorem dL_begins_260 : decode cL_begins 260 = .ok (.invokestatic 35, 3) := by decide +kernel
theorem dL_begins_263 : decode cL_begins 263 = .ok (.aload_n 0, 1) := by decide +kernel
theorem dL_begins_264 : decode cL_begins 264 = .ok (.aload_n 2, 1) := by decide +kernel
theorem dL_begins_265 : decode cL_begins 265 = .ok (.ldc2_w 44, 3) := by decide +kernel
theorem dL_begins_268 : decode cL_begins 268 = .ok (.invokestatic 31, 3) := by decide +kernel
theorem dL_begins_271 : decode cL_begins 271 = .ok (.aload_n 0, 1) := by decide +kernel
theorem dL_begins_272 : decode cL_begins 272 = .ok (.aload_n 2, 1) := by decide +kernel
theorem dL_begins_273 : decode cL_begins 273 = .ok (.aload_n 1, 1) := by decide +kernel
theorem dL_begins_274 : decode cL_begins 274 = .ok (.bipush 8, 2) := by decide +kernel
theorem dL_begins_276 : decode cL_begins 276 = .ok (.invokevirtual 23, 3) := by decide +kernel
theorem dL_begins_279 : decode cL_begins 279 = .ok (.invokestatic 35, 3) := by decide +kernel
theorem dL_begins_282 : decode cL_begins 282 = .ok (.aload_n 0, 1) := by decide +kernel
theorem dL_begins_283 : decode cL_begins 283 = .ok (.aload_n 2, 1) := by decide +kernel
theorem dL_begins_284 : decode cL_begins 284 = .ok (.ldc2_w 46, 3) := by decide +kernel
theorem dL_begins_287 : decode cL_begins 287 = .ok (.invokestatic 31, 3) := by decide +kernel
theorem dL_begins_290 : decode cL_begins 290 = .ok (.aload_n 0, 1) := by decide +kernel
theorem dL_begins_291 : decode cL_begins 291 = .ok (.aload_n 2, 1) := by decide +kernel
theorem dL_begins_292 : decode cL_begins 292 = .ok (.iconst 2, 1) := by decide +kernel
theorem dL_begins_293 : decode cL_begins 293 = .ok (.aload_n 1, 1) := by decide +kernel
theorem dL_begins_294 : decode cL_begins 294 = .ok (.bipush 6, 2) := by decide +kernel
theorem dL_begins_296 : decode cL_begins 296 = .ok (.invokevirtual 23, 3) := by decide +kernel
theorem dL_begins_299 : decode cL_begins 299 = .ok (.iadd, 1) := by decide +kernel
theorem dL_begins_300 : decode cL_begins 300 = .ok (.invokestatic 35, 3) := by decide +kernel
theorem dL_begins_303 : decode cL_begins 303 = .ok (.aload_n 0, 1) := by decide +kernel
theorem dL_begins_304 : decode cL_begins 304 = .ok (.aload_n 2, 1) := by decide +kernel
theorem dL_begins_305 : decode cL_begins 305 = .ok (.aload_n 1, 1) := by decide +kernel
theorem dL_begins_306 : decode cL_begins 306 = .ok (.iconst 2, 1) := by decide +kernel
theorem dL_begins_307 : decode cL_begins 307 = .ok (.invokevirtual 23, 3) := by decide +kernel
theorem dL_begins_310 : decode cL_begins 310 = .ok (.ifCond .ne 9, 3) := by decide +kernel
theorem dL_begins_313 : decode cL_begins 313 = .ok (.ldc2_w 48, 3) := by decide +kernel
theorem dL_begins_316 : decode cL_begins 316 = .ok (.goto 6, 3) := by decide +kernel
theorem dL_begins_319 : decode cL_begins 319 = .ok (.ldc2_w 50, 3) := by decide +kernel
theorem dL_begins_322 : decode cL_begins 322 = .ok (.invokestatic 31, 3) := by decide +kernel
theorem dL_begins_325 : decode cL_begins 325 = .ok (.aload_n 0, 1) := by decide +kernel
theorem dL_begins_326 : decode cL_begins 326 = .ok (.aload_n 2, 1) := by decide +kernel
theorem dL_begins_327 : decode cL_begins 327 = .ok (.aload_n 1, 1) := by decide +kernel
theorem dL_begins_328 : decode cL_begins 328 = .ok (.bipush 51, 2) := by decide +kernel
theorem dL_begins_330 : decode cL_begins 330 = .ok (.invokevirtual 23, 3) := by decide +kernel
theorem dL_begins_333 : decode cL_begins 333 = .ok (.invokestatic 35, 3) := by decide +kernel
theorem dL_begins_336 : decode cL_begins 336 = .ok (.aload_n 0, 1) := by decide +kernel
theorem dL_begins_337 : decode cL_begins 337 = .ok (.aload_n 2, 1) := by decide +kernel
theorem dL_begins_338 : decode cL_begins 338 = .ok (.ldc2_w 52, 3) := by decide +kernel
theorem dL_begins_341 : decode cL_begins 341 = .ok (.invokestatic 31, 3) := by decide +kernel
theorem dL_begins_344 : decode cL_begins 344 = .ok (.iconst 1, 1) := by decide +kernel
theorem dL_begins_345 : decode cL_begins 345 = .ok (.aload_n 1, 1) := by decide +kernel
theorem dL_begins_346 : decode cL_begins 346 = .ok (.iconst 3, 1) := by decide +kernel
theorem dL_begins_347 : decode cL_begins 347 = .ok (.invokevirtual 23, 3) := by decide +kernel
theorem dL_begins_350 : decode cL_begins 350 = .ok (.iadd, 1) := by decide +kernel
theorem dL_begins_351 : decode cL_begins 351 = .ok (.istore 7, 2) := by decide +kernel
theorem dL_begins_353 : decode cL_begins 353 = .ok (.aload_n 0, 1) := by decide +kernel
theorem dL_begins_354 : decode cL_begins 354 = .ok (.aload_n 2, 1) := by decide +kernel
theorem dL_begins_355 : decode cL_begins 355 = .ok (.iload 7, 2) := by decide +kernel
theorem dL_begins_357 : decode cL_begins 357 = .ok (.invokestatic 35, 3) := by decide +kernel
theorem dL_begins_360 : decode cL_begins 360 = .ok (.aload_n 0, 1) := by decide +kernel
theorem dL_begins_361 : decode cL_begins 361 = .ok (.aload_n 2, 1) := by decide +kernel
theorem dL_begins_362 : decode cL_begins 362 = .ok (.iload 7, 2) := by decide +kernel
theorem dL_begins_364 : decode cL_begins 364 = .ok (.aload_n 1, 1) := by decide +kernel
theorem dL_begins_365 : decode cL_begins 365 = .ok (.bipush 9, 2) := by decide +kernel
theorem dL_begins_367 : decode cL_begins 367 = .ok (.iload 7, 2) := by decide +kernel
theorem dL_begins_369 : decode cL_begins 369 = .ok (.isub, 1) := by decide +kernel
theorem dL_begins_370 : decode cL_begins 370 = .ok (.invokevirtual 23, 3) := by decide +kernel
theorem dL_begins_373 : decode cL_begins 373 = .ok (.iadd, 1) := by decide +kernel
theorem dL_begins_374 : decode cL_begins 374 = .ok (.invokestatic 35, 3) := by decide +kernel
theorem dL_begins_377 : decode cL_begins 377 = .ok (.aload_n 0, 1) := by decide +kernel
theorem dL_begins_378 : decode cL_begins 378 = .ok (.aload_n 2, 1) := by decide +kernel
theorem dL_begins_379 : decode cL_begins 379 = .ok (.bipush 59, 2) := by decide +kernel
theorem dL_begins_381 : decode cL_begins 381 = .ok (.invokestatic 17, 3) := by decide +kernel
theorem dL_begins_384 : decode cL_begins 384 = .ok (.aload_n 0, 1) := by decide +kernel
theorem dL_begins_385 : decode cL_begins 385 = .ok (.aload_n 2, 1) := by decide +kernel
theorem dL_begins_386 : decode cL_begins 386 = .ok (.invokestatic 54, 3) := by decide +kernel
theorem dL_begins_389 : decode cL_begins 389 = .ok (.aload_n 0, 1) := by decide +kernel
theorem dL_begins_390 : decode cL_begins 390 = .ok (.invokevirtual 58, 3) := by decide +kernel
theorem dL_begins_393 : decode cL_begins 393 = .ok (.istore 8, 2) := by decide +kernel
theorem dL_begins_395 : decode cL_begins 395 = .ok (.iload 8, 2) := by decide +kernel
theorem dL_begins_397 : decode cL_begins 397 = .ok (.iload_n 3, 1) := by decide +kernel
theorem dL_begins_398 : decode cL_begins 398 = .ok (.iload 4, 2) := by decide +kernel
theorem dL_begins_400 : decode cL_begins 400 = .ok (.imul, 1) := by decide +kernel
theorem dL_begins_401 : decode cL_begins 401 = .ok (.if_icmp .ne 45, 3) := by decide +kernel
theorem dL_begins_404 : decode cL_begins 404 = .ok (.aload_n 0, 1) := by decide +kernel
theorem dL_begins_405 : decode cL_begins 405 = .ok (.iconst 0, 1) := by decide +kernel
theorem dL_begins_406 : decode cL_begins 406 = .ok (.invokevirtual 62, 3) := by decide +kernel
theorem dL_begins_409 : decode cL_begins 409 = .ok (.ifCond .ne 37, 3) := by decide +kernel
theorem dL_begins_412 : decode cL_begins 412 = .ok (.aload_n 0, 1) := by decide +kernel
theorem dL_begins_413 : decode cL_begins 413 = .ok (.iconst 0, 1) := by decide +kernel
theorem dL_begins_414 : decode cL_begins 414 = .ok (.invokevirtual 66, 3) := by decide +kernel
theorem dL_begins_417 : decode cL_begins 417 = .ok (.iload_n 3, 1) := by decide +kernel
theorem dL_begins_418 : decode cL_begins 418 = .ok (.if_icmp .ne 28, 3) := by decide +kernel
theorem dL_begins_421 : decode cL_begins 421 = .ok (.aload_n 0, 1) := by decide +kernel
theorem dL_begins_422 : decode cL_begins 422 = .ok (.iconst 1, 1) := by decide +kernel
theorem dL_begins_423 : decode cL_begins 423 = .ok (.invokevirtual 66, 3) := by decide +kernel
theorem dL_begins_426 : decode cL_begins 426 = .ok (.iload 4, 2) := by decide +kernel
theorem dL_begins_428 : decode cL_begins 428 = .ok (.if_icmp .ne 18, 3) := by decide +kernel
theorem dL_begins_431 : decode cL_begins 431 = .ok (.aload_n 0, 1) := by decide +kernel
theorem dL_begins_432 : decode cL_begins 432 = .ok (.iconst 1, 1) := by decide +kernel
theorem dL_begins_433 : decode cL_begins 433 = .ok (.invokevirtual 69, 3) := by decide +kernel
theorem dL_begins_436 : decode cL_begins 436 = .ok (.iload 8, 2) := by decide +kernel
theorem dL_begins_438 : decode cL_begins 438 = .ok (.if_icmp .ne 8, 3) := by decide +kernel
theorem dL_begins_441 : decode cL_begins 441 = .ok (.iload 8, 2) := by decide +kernel
theorem dL_begins_443 : decode cL_begins 443 = .ok (.goto 4, 3) := by decide +kernel
theorem dL_begins_446 : decode cL_begins 446 = .ok (.iconst (-1), 1) := by decide +kernel
theorem dL_begins_447 : decode cL_begins 447 = .ok (.ireturn, 1) := by decide +kernel
set_option maxRecDepth 20000 in
theorem ggL_role_X11_role : GoodIn wsL_role wsX11_role := gi_e e_wsL_role e_wsX11_role (by decide +kernel)
set_option maxRecDepth 20000 in
theorem gL_role_X11_role : GoodIn wsL_role (wsV RL 72 RX11 yX11_role wsX11_role) := goodIn_app (gi_e e_wsL_role (ce fw_4296 (ce fw_4297 (ce fw_4298 (ce fw_1025 (cn))))) (by decide +kernel)) ggL_role_X11_role
theorem dL_role_0 : decode cL_role 0 = .ok (.aload_n 0, 1) := by decide +kernel
theorem dL_role_1 : decode cL_role 1 = .ok (.iload_n 1, 1) := by decide +kernel
theorem dL_role_2 : decode cL_role 2 = .ok (.invokevirtual 72, 3) := by decide +kernel
theorem dL_role_5 : decode cL_role 5 = .ok (.ireturn, 1) := by decide +kernel
theorem dL_role_6 : decode cL_role 6 = .ok (.astore_n 2, 1) := by decide +kernel
theorem dL_role_7 : decode cL_role 7 = .ok (.sipush (-777), 3) := by decide +kernel
theorem dL_role_10 : decode cL_role 10 = .ok (.ireturn, 1) := by decide +kernel
set_option maxRecDepth 20000 in
theorem ggL_fixed_X11_count : GoodIn wsL_fixed wsX11_count := gi_e e_wsL_fixed e_wsX11_count (by decide +kernel)
set_option maxRecDepth 20000 in
theorem gL_fixed_X11_count : GoodIn wsL_fixed (wsV RL 66 RX11 yX11_count wsX11_count) := goodIn_app (gi_e e_wsL_fixed (ce fw_3307 (ce fw_3308 (ce fw_3309 (ce fw_1025 (cn))))) (by decide +kernel)) ggL_fixed_X11_count
set_option maxRecDepth 20000 in
theorem ggL_fixed_L_role : GoodIn wsL_fixed wsL_role := gi_e e_wsL_fixed e_wsL_role (by decide +kernel)
set_option maxRecDepth 20000 in
theorem gL_fixed_L_role : GoodIn wsL_fixed (va_wsS RL 77 yL_role wsL_role) := goodIn_app (gi_e e_wsL_fixed (ce fw_4292 (ce fw_4293 (ce fw_1024 (cn)))) (by decide +kernel)) ggL_fixed_L_role
theorem dL_fixed_0 : decode cL_fixed 0 = .ok (.iload_n 1, 1) := by decide +kernel
theorem dL_fixed_1 : decode cL_fixed 1 = .ok (.aload_n 0, 1) := by decide +kernel
theorem dL_fixed_2 : decode cL_fixed 2 = .ok (.iconst 0, 1) := by decide +kernel
theorem dL_fixed_3 : decode cL_fixed 3 = .ok (.invokevirtual 66, 3) := by decide +kernel
theorem dL_fixed_6 : decode cL_fixed 6 = .ok (.irem, 1) := by decide +kernel
theorem dL_fixed_7 : decode cL_fixed 7 = .ok (.ifCond .ne 17, 3) := by decide +kernel
theorem dL_fixed_10 : decode cL_fixed 10 = .ok (.aload_n 0, 1) := by decide +kernel
theorem dL_fixed_11 : decode cL_fixed 11 = .ok (.iload_n 1, 1) := by decide +kernel
theorem dL_fixed_12 : decode cL_fixed 12 = .ok (.aload_n 0, 1) := by decide +kernel
theorem dL_fixed_13 : decode cL_fixed 13 = .ok (.iconst 0, 1) := by decide +kernel
theorem dL_fixed_14 : decode cL_fixed 14 = .ok (.invokevirtual 66, 3) := by decide +kernel
theorem dL_fixed_17 : decode cL_fixed 17 = .ok (.idiv, 1) := by decide +kernel
theorem dL_fixed_18 : decode cL_fixed 18 = .ok (.invokestatic 77, 3) := by decide +kernel
theorem dL_fixed_21 : decode cL_fixed 21 = .ok (.goto 4, 3) := by decide +kernel
theorem dL_fixed_24 : decode cL_fixed 24 = .ok (.iconst (-1), 1) := by decide +kernel
theorem dL_fixed_25 : decode cL_fixed 25 = .ok (.istore_n 2, 1) := by decide +kernel
theorem dL_fixed_26 : decode cL_fixed 26 = .ok (.iload_n 2, 1) := by decide +kernel
theorem dL_fixed_27 : decode cL_fixed 27 = .ok (.ifCond .eq 8, 3) := by decide +kernel
theorem dL_fixed_30 : decode cL_fixed 30 = .ok (.iload_n 2, 1) := by decide +kernel
theorem dL_fixed_31 : decode cL_fixed 31 = .ok (.iconst 1, 1) := by decide +kernel
theorem dL_fixed_32 : decode cL_fixed 32 = .ok (.if_icmp .ne 7, 3) := by decide +kernel
theorem dL_fixed_35 : decode cL_fixed 35 = .ok (.iload_n 2, 1) := by decide +kernel
theorem dL_fixed_36 : decode cL_fixed 36 = .ok (.goto 4, 3) := by decide +kernel
theorem dL_fixed_39 : decode cL_fixed 39 = .ok (.iconst (-1), 1) := by decide +kernel
theorem dL_fixed_40 : decode cL_fixed 40 = .ok (.ireturn, 1) := by decide +kernel
set_option maxRecDepth 20000 in
theorem ggL_isSent_X11_count : GoodIn wsL_isSent wsX11_count := gi_e e_wsL_isSent e_wsX11_count (by decide +kernel)
set_option maxRecDepth 20000 in
theorem gL_isSent_X11_count : GoodIn wsL_isSent (wsV RL 66 RX11 yX11_count wsX11_count) := goodIn_app (gi_e e_wsL_isSent (ce fw_3307 (ce fw_3308 (ce fw_3309 (ce fw_1025 (cn))))) (by decide +kernel)) ggL_isSent_X11_count
set_option maxRecDepth 20000 in
theorem ggL_isSent_L_fixed : GoodIn wsL_isSent wsL_fixed := gi_e e_wsL_isSent e_wsL_fixed (by decide +kernel)
set_option maxRecDepth 20000 in
theorem gL_isSent_L_fixed : GoodIn wsL_isSent (va_wsS RL 80 yL_fixed wsL_fixed) := goodIn_app (gi_e e_wsL_isSent (ce fw_5153 (ce fw_5154 (ce fw_1024 (cn)))) (by decide +kernel)) ggL_isSent_L_fixed
set_option maxRecDepth 20000 in
theorem ggL_isSent_X11_bit : GoodIn wsL_isSent wsX11_bit := gi_e e_wsL_isSent e_wsX11_bit (by decide +kernel)
set_option maxRecDepth 20000 in
theorem gL_isSent_X11_bit : GoodIn wsL_isSent (wsV RL 83 RX11 yX11_bit wsX11_bit) := goodIn_app (gi_e e_wsL_isSent (ce fw_5156 (ce fw_5157 (ce fw_5158 (ce fw_1025 (cn))))) (by decide +kernel)) ggL_isSent_X11_bit
set_option maxRecDepth 20000 in
theorem ggL_isSent_X11_checks : GoodIn wsL_isSent wsX11_checks := gi_e e_wsL_isSent e_wsX11_checks (by decide +kernel)
set_option maxRecDepth 20000 in
theorem gL_isSent_X11_checks : GoodIn wsL_isSent (wsV RL 86 RX11 yX11_checks wsX11_checks) := goodIn_app (gi_e e_wsL_isSent (ce fw_5161 (ce fw_5162 (ce fw_5163 (ce fw_1025 (cn))))) (by decide +kernel)) ggL_isSent_X11_checks
set_option maxRecDepth 20000 in
theorem ggL_isSent_L_role : GoodIn wsL_isSent wsL_role := gi_e e_wsL_isSent e_wsL_role (by decide +kernel)
set_option maxRecDepth 20000 in
theorem gL_isSent_L_role : GoodIn wsL_isSent (va_wsS RL 77 yL_role wsL_role) := goodIn_app (gi_e e_wsL_isSent (ce fw_4292 (ce fw_4293 (ce fw_1024 (cn)))) (by decide +kernel)) ggL_isSent_L_role
theorem dL_isSent_0 : decode cL_isSent 0 = .ok (.aload_n 0, 1) := by decide +kernel
theorem dL_isSent_1 : decode cL_isSent 1 = .ok (.bipush 10, 2) := by decide +kernel
theorem dL_isSent_3 : decode cL_isSent 3 = .ok (.invokevirtual 66, 3) := by decide +kernel
theorem dL_isSent_6 : decode cL_isSent 6 = .ok (.istore_n 2, 1) := by decide +kernel
theorem dL_isSent_7 : decode cL_isSent 7 = .ok (.iconst 0, 1) := by decide +kernel
theorem dL_isSent_8 : decode cL_isSent 8 = .ok (.istore_n 3, 1) := by decide +kernel
theorem dL_isSent_9 : decode cL_isSent 9 = .ok (.iconst 0, 1) := by decide +kernel
theorem dL_isSent_10 : decode cL_isSent 10 = .ok (.istore 4, 2) := by decide +kernel
theorem dL_isSent_12 : decode cL_isSent 12 = .ok (.iconst 0, 1) := by decide +kernel
theorem dL_isSent_13 : decode cL_isSent 13 = .ok (.istore 5, 2) := by decide +kernel
theorem dL_isSent_15 : decode cL_isSent 15 = .ok (.iload 5, 2) := by decide +kernel
theorem dL_isSent_17 : decode cL_isSent 17 = .ok (.aload_n 0, 1) := by decide +kernel
theorem dL_isSent_18 : decode cL_isSent 18 = .ok (.bipush 11, 2) := by decide +kernel
theorem dL_isSent_20 : decode cL_isSent 20 = .ok (.invokevirtual 66, 3) := by decide +kernel
theorem dL_isSent_23 : decode cL_isSent 23 = .ok (.if_icmp .ge 112, 3) := by decide +kernel
theorem dL_isSent_26 : decode cL_isSent 26 = .ok (.iload 5, 2) := by decide +kernel
theorem dL_isSent_28 : decode cL_isSent 28 = .ok (.iload_n 1, 1) := by decide +kernel
theorem dL_isSent_29 : decode cL_isSent 29 = .ok (.irem, 1) := by decide +kernel
theorem dL_isSent_30 : decode cL_isSent 30 = .ok (.istore 6, 2) := by decide +kernel
theorem dL_isSent_32 : decode cL_isSent 32 = .ok (.aload_n 0, 1) := by decide +kernel
theorem dL_isSent_33 : decode cL_isSent 33 = .ok (.iload 6, 2) := by decide +kernel
theorem dL_isSent_35 : decode cL_isSent 35 = .ok (.invokestatic 80, 3) := by decide +kernel
theorem dL_isSent_38 : decode cL_isSent 38 = .ok (.istore 7, 2) := by decide +kernel
theorem dL_isSent_40 : decode cL_isSent 40 = .ok (.iload 7, 2) := by decide +kernel
theorem dL_isSent_42 : decode cL_isSent 42 = .ok (.ifCond .lt 16, 3) := by decide +kernel
theorem dL_isSent_45 : decode cL_isSent 45 = .ok (.aload_n 0, 1) := by decide +kernel
theorem dL_isSent_46 : decode cL_isSent 46 = .ok (.iload 5, 2) := by decide +kernel
theorem dL_isSent_48 : decode cL_isSent 48 = .ok (.invokevirtual 83, 3) := by decide +kernel
theorem dL_isSent_51 : decode cL_isSent 51 = .ok (.iload 7, 2) := by decide +kernel
theorem dL_isSent_53 : decode cL_isSent 53 = .ok (.if_icmp .eq 5, 3) := by decide +kernel
theorem dL_isSent_56 : decode cL_isSent 56 = .ok (.iconst 0, 1) := by decide +kernel
theorem dL_isSent_57 : decode cL_isSent 57 = .ok (.ireturn, 1) := by decide +kernel
theorem dL_isSent_58 : decode cL_isSent 58 = .ok (.iload 6, 2) := by decide +kernel
theorem dL_isSent_60 : decode cL_isSent 60 = .ok (.ifCond .ne 20, 3) := by decide +kernel
theorem dL_isSent_63 : decode cL_isSent 63 = .ok (.iload 5, 2) := by decide +kernel
theorem dL_isSent_65 : decode cL_isSent 65 = .ok (.ifCond .le 15, 3) := by decide +kernel
theorem dL_isSent_68 : decode cL_isSent 68 = .ok (.aload_n 0, 1) := by decide +kernel
theorem dL_isSent_69 : decode cL_isSent 69 = .ok (.iload 5, 2) := by decide +kernel
theorem dL_isSent_71 : decode cL_isSent 71 = .ok (.iload_n 1, 1) := by decide +kernel
theorem dL_isSent_72 : decode cL_isSent 72 = .ok (.isub, 1) := by decide +kernel
theorem dL_isSent_73 : decode cL_isSent 73 = .ok (.invokevirtual 86, 3) := by decide +kernel
theorem dL_isSent_76 : decode cL_isSent 76 = .ok (.istore 4, 2) := by decide +kernel
theorem dL_isSent_78 : decode cL_isSent 78 = .ok (.iconst 0, 1) := by decide +kernel
theorem dL_isSent_79 : decode cL_isSent 79 = .ok (.istore_n 3, 1) := by decide +kernel
theorem dL_isSent_80 : decode cL_isSent 80 = .ok (.iload 6, 2) := by decide +kernel
theorem dL_isSent_82 : decode cL_isSent 82 = .ok (.aload_n 0, 1) := by decide +kernel
theorem dL_isSent_83 : decode cL_isSent 83 = .ok (.iconst 0, 1) := by decide +kernel
theorem dL_isSent_84 : decode cL_isSent 84 = .ok (.invokevirtual 66, 3) := by decide +kernel
theorem dL_isSent_87 : decode cL_isSent 87 = .ok (.irem, 1) := by decide +kernel
theorem dL_isSent_88 : decode cL_isSent 88 = .ok (.ifCond .ne 41, 3) := by decide +kernel
theorem dL_isSent_91 : decode cL_isSent 91 = .ok (.aload_n 0, 1) := by decide +kernel
theorem dL_isSent_92 : decode cL_isSent 92 = .ok (.iload 6, 2) := by decide +kernel
theorem dL_isSent_94 : decode cL_isSent 94 = .ok (.aload_n 0, 1) := by decide +kernel
theorem dL_isSent_95 : decode cL_isSent 95 = .ok (.iconst 0, 1) := by decide +kernel
theorem dL_isSent_96 : decode cL_isSent 96 = .ok (.invokevirtual 66, 3) := by decide +kernel
theorem dL_isSent_99 : decode cL_isSent 99 = .ok (.idiv, 1) := by decide +kernel
theorem dL_isSent_100 : decode cL_isSent 100 = .ok (.invokestatic 77, 3) := by decide +kernel
theorem dL_isSent_103 : decode cL_isSent 103 = .ok (.iconst 2, 1) := by decide +kernel
theorem dL_isSent_104 : decode cL_isSent 104 = .ok (.if_icmp .ne 25, 3) := by decide +kernel
theorem dL_isSent_107 : decode cL_isSent 107 = .ok (.iinc 3 1, 3) := by decide +kernel
theorem dL_isSent_110 : decode cL_isSent 110 = .ok (.aload_n 0, 1) := by decide +kernel
theorem dL_isSent_111 : decode cL_isSent 111 = .ok (.iload 5, 2) := by decide +kernel
theorem dL_isSent_113 : decode cL_isSent 113 = .ok (.invokevirtual 83, 3) := by decide +kernel
theorem dL_isSent_116 : decode cL_isSent 116 = .ok (.iload 4, 2) := by decide +kernel
theorem dL_isSent_118 : decode cL_isSent 118 = .ok (.iload_n 2, 1) := by decide +kernel
theorem dL_isSent_119 : decode cL_isSent 119 = .ok (.iload_n 3, 1) := by decide +kernel
theorem dL_isSent_120 : decode cL_isSent 120 = .ok (.isub, 1) := by decide +kernel
theorem dL_isSent_121 : decode cL_isSent 121 = .ok (.ishr, 1) := by decide +kernel
theorem dL_isSent_122 : decode cL_isSent 122 = .ok (.iconst 1, 1) := by decide +kernel
theorem dL_isSent_123 : decode cL_isSent 123 = .ok (.iand, 1) := by decide +kernel
theorem dL_isSent_124 : decode cL_isSent 124 = .ok (.if_icmp .eq 5, 3) := by decide +kernel
theorem dL_isSent_127 : decode cL_isSent 127 = .ok (.iconst 0, 1) := by decide +kernel
theorem dL_isSent_128 : decode cL_isSent 128 = .ok (.ireturn, 1) := by decide +kernel
theorem dL_isSent_129 : decode cL_isSent 129 = .ok (.iinc 5 1, 3) := by decide +kernel
theorem dL_isSent_132 : decode cL_isSent 132 = .ok (.goto (-117), 3) := by decide +kernel
theorem dL_isSent_135 : decode cL_isSent 135 = .ok (.aload_n 0, 1) := by decide +kernel
theorem dL_isSent_136 : decode cL_isSent 136 = .ok (.aload_n 0, 1) := by decide +kernel
theorem dL_isSent_137 : decode cL_isSent 137 = .ok (.bipush 11, 2) := by decide +kernel
theorem dL_isSent_139 : decode cL_isSent 139 = .ok (.invokevirtual 66, 3) := by decide +kernel
theorem dL_isSent_142 : decode cL_isSent 142 = .ok (.invokevirtual 83, 3) := by decide +kernel
theorem dL_isSent_145 : decode cL_isSent 145 = .ok (.iconst (-1), 1) := by decide +kernel
theorem dL_isSent_146 : decode cL_isSent 146 = .ok (.if_icmp .ne 25, 3) := by decide +kernel
theorem dL_isSent_149 : decode cL_isSent 149 = .ok (.aload_n 0, 1) := by decide +kernel
theorem dL_isSent_150 : decode cL_isSent 150 = .ok (.aload_n 0, 1) := by decide +kernel
theorem dL_isSent_151 : decode cL_isSent 151 = .ok (.bipush 11, 2) := by decide +kernel
theorem dL_isSent_153 : decode cL_isSent 153 = .ok (.invokevirtual 66, 3) := by decide +kernel
theorem dL_isSent_156 : decode cL_isSent 156 = .ok (.iload_n 1, 1) := by decide +kernel
theorem dL_isSent_157 : decode cL_isSent 157 = .ok (.isub, 1) := by decide +kernel
theorem dL_isSent_158 : decode cL_isSent 158 = .ok (.iconst 1, 1) := by decide +kernel
theorem dL_isSent_159 : decode cL_isSent 159 = .ok (.iadd, 1) := by decide +kernel
theorem dL_isSent_160 : decode cL_isSent 160 = .ok (.invokevirtual 86, 3) := by decide +kernel
theorem dL_isSent_163 : decode cL_isSent 163 = .ok (.iconst (-1), 1) := by decide +kernel
theorem dL_isSent_164 : decode cL_isSent 164 = .ok (.if_icmp .ne 7, 3) := by decide +kernel
theorem dL_isSent_167 : decode cL_isSent 167 = .ok (.iconst 1, 1) := by decide +kernel
theorem dL_isSent_168 : decode cL_isSent 168 = .ok (.goto 4, 3) := by decide +kernel
theorem dL_isSent_171 : decode cL_isSent 171 = .ok (.iconst 0, 1) := by decide +kernel
theorem dL_isSent_172 : decode cL_isSent 172 = .ok (.ireturn, 1) := by decide +kernel
set_option maxRecDepth 20000 in
theorem ggL_isTrue_X11_count : GoodIn wsL_isTrue wsX11_count := gi_e e_wsL_isTrue e_wsX11_count (by decide +kernel)
set_option maxRecDepth 20000 in
theorem gL_isTrue_X11_count : GoodIn wsL_isTrue (wsV RL 66 RX11 yX11_count wsX11_count) := goodIn_app (gi_e e_wsL_isTrue (ce fw_3307 (ce fw_3308 (ce fw_3309 (ce fw_1025 (cn))))) (by decide +kernel)) ggL_isTrue_X11_count
set_option maxRecDepth 20000 in
theorem ggL_isTrue_X11_receiver : GoodIn wsL_isTrue wsX11_receiver := gi_e e_wsL_isTrue e_wsX11_receiver (by decide +kernel)
set_option maxRecDepth 20000 in
theorem gL_isTrue_X11_receiver : GoodIn wsL_isTrue (wsV RL 69 RX11 yX11_receiver wsX11_receiver) := goodIn_app (gi_e e_wsL_isTrue (ce fw_3311 (ce fw_4096 (ce fw_4097 (ce fw_1025 (cn))))) (by decide +kernel)) ggL_isTrue_X11_receiver
set_option maxRecDepth 20000 in
theorem ggL_isTrue_X11_candidate : GoodIn wsL_isTrue wsX11_candidate := gi_e e_wsL_isTrue e_wsX11_candidate (by decide +kernel)
set_option maxRecDepth 20000 in
theorem gL_isTrue_X11_candidate : GoodIn wsL_isTrue (wsV RL 89 RX11 yX11_candidate wsX11_candidate) := goodIn_app (gi_e e_wsL_isTrue (ce fw_5169 (ce fw_5170 (ce fw_5171 (ce fw_1025 (cn))))) (by decide +kernel)) ggL_isTrue_X11_candidate
set_option maxRecDepth 20000 in
theorem ggL_isTrue_X11_fits : GoodIn wsL_isTrue wsX11_fits := gi_e e_wsL_isTrue e_wsX11_fits (by decide +kernel)
set_option maxRecDepth 20000 in
theorem gL_isTrue_X11_fits : GoodIn wsL_isTrue (wsV RL 92 RX11 yX11_fits wsX11_fits) := goodIn_app (gi_e e_wsL_isTrue (ce fw_5174 (ce fw_5175 (ce fw_5176 (ce fw_1025 (cn))))) (by decide +kernel)) ggL_isTrue_X11_fits
set_option maxRecDepth 20000 in
theorem ggL_isTrue_X12_next : GoodIn wsL_isTrue wsX12_next := gi_e e_wsL_isTrue e_wsX12_next (by decide +kernel)
set_option maxRecDepth 20000 in
theorem gL_isTrue_X12_next : GoodIn wsL_isTrue (wsV RL 23 RX12 yX12_next wsX12_next) := goodIn_app (gi_e e_wsL_isTrue (ce fw_4113 (ce fw_4114 (ce fw_4115 (ce fw_1038 (cn))))) (by decide +kernel)) ggL_isTrue_X12_next
set_option maxRecDepth 20000 in
theorem ggL_isTrue_X11_locks : GoodIn wsL_isTrue wsX11_locks := gi_e e_wsL_isTrue e_wsX11_locks (by decide +kernel)
set_option maxRecDepth 20000 in
theorem gL_isTrue_X11_locks : GoodIn wsL_isTrue (wsV RL 96 RX11 yX11_locks wsX11_locks) := goodIn_app (gi_e e_wsL_isTrue (ce fw_5180 (ce fw_5181 (ce fw_5182 (ce fw_1025 (cn))))) (by decide +kernel)) ggL_isTrue_X11_locks
set_option maxRecDepth 20000 in
theorem ggL_isTrue_X11_struck : GoodIn wsL_isTrue wsX11_struck := gi_e e_wsL_isTrue e_wsX11_struck (by decide +kernel)
set_option maxRecDepth 20000 in
theorem gL_isTrue_X11_struck : GoodIn wsL_isTrue (wsV RL 99 RX11 yX11_struck wsX11_struck) := goodIn_app (gi_e e_wsL_isTrue (ce fw_5186 (ce fw_5187 (ce fw_5188 (ce fw_1025 (cn))))) (by decide +kernel)) ggL_isTrue_X11_struck
set_option maxRecDepth 20000 in
theorem ggL_isTrue_X11_from : GoodIn wsL_isTrue wsX11_from := gi_e e_wsL_isTrue e_wsX11_from (by decide +kernel)
set_option maxRecDepth 20000 in
theorem gL_isTrue_X11_from : GoodIn wsL_isTrue (wsV RL 102 RX11 yX11_from wsX11_from) := goodIn_app (gi_e e_wsL_isTrue (ce fw_5193 (ce fw_5194 (ce fw_5195 (ce fw_1025 (cn))))) (by decide +kernel)) ggL_isTrue_X11_from
theorem dL_isTrue_0 : decode cL_isTrue 0 = .ok (.aload_n 0, 1) := by decide +kernel
theorem dL_isTrue_1 : decode cL_isTrue 1 = .ok (.bipush 12, 2) := by decide +kernel
theorem dL_isTrue_3 : decode cL_isTrue 3 = .ok (.invokevirtual 66, 3) := by decide +kernel
theorem dL_isTrue_6 : decode cL_isTrue 6 = .ok (.istore_n 3, 1) := by decide +kernel
theorem dL_isTrue_7 : decode cL_isTrue 7 = .ok (.aload_n 0, 1) := by decide +kernel
theorem dL_isTrue_8 : decode cL_isTrue 8 = .ok (.bipush 11, 2) := by decide +kernel
theorem dL_isTrue_10 : decode cL_isTrue 10 = .ok (.invokevirtual 66, 3) := by decide +kernel
theorem dL_isTrue_13 : decode cL_isTrue 13 = .ok (.istore 4, 2) := by decide +kernel
theorem dL_isTrue_15 : decode cL_isTrue 15 = .ok (.aload_n 0, 1) := by decide +kernel
theorem dL_isTrue_16 : decode cL_isTrue 16 = .ok (.iconst 2, 1) := by decide +kernel
theorem dL_isTrue_17 : decode cL_isTrue 17 = .ok (.invokevirtual 69, 3) := by decide +kernel
theorem dL_isTrue_20 : decode cL_isTrue 20 = .ok (.iconst 1, 1) := by decide +kernel
theorem dL_isTrue_21 : decode cL_isTrue 21 = .ok (.if_icmp .ne 46, 3) := by decide +kernel
theorem dL_isTrue_24 : decode cL_isTrue 24 = .ok (.aload_n 0, 1) := by decide +kernel
theorem dL_isTrue_25 : decode cL_isTrue 25 = .ok (.iconst 3, 1) := by decide +kernel
theorem dL_isTrue_26 : decode cL_isTrue 26 = .ok (.invokevirtual 69, 3) := by decide +kernel
theorem dL_isTrue_29 : decode cL_isTrue 29 = .ok (.ifCond .ne 38, 3) := by decide +kernel
theorem dL_isTrue_32 : decode cL_isTrue 32 = .ok (.aload_n 0, 1) := by decide +kernel
theorem dL_isTrue_33 : decode cL_isTrue 33 = .ok (.iconst 5, 1) := by decide +kernel
theorem dL_isTrue_34 : decode cL_isTrue 34 = .ok (.invokevirtual 69, 3) := by decide +kernel
theorem dL_isTrue_37 : decode cL_isTrue 37 = .ok (.ifCond .ne 30, 3) := by decide +kernel
theorem dL_isTrue_40 : decode cL_isTrue 40 = .ok (.aload_n 0, 1) := by decide +kernel
theorem dL_isTrue_41 : decode cL_isTrue 41 = .ok (.bipush 9, 2) := by decide +kernel
theorem dL_isTrue_43 : decode cL_isTrue 43 = .ok (.invokevirtual 69, 3) := by decide +kernel
theorem dL_isTrue_46 : decode cL_isTrue 46 = .ok (.ifCond .ne 21, 3) := by decide +kernel
theorem dL_isTrue_49 : decode cL_isTrue 49 = .ok (.aload_n 0, 1) := by decide +kernel
theorem dL_isTrue_50 : decode cL_isTrue 50 = .ok (.bipush 8, 2) := by decide +kernel
theorem dL_isTrue_52 : decode cL_isTrue 52 = .ok (.invokevirtual 69, 3) := by decide +kernel
theorem dL_isTrue_55 : decode cL_isTrue 55 = .ok (.ifCond .ne 12, 3) := by decide +kernel
theorem dL_isTrue_58 : decode cL_isTrue 58 = .ok (.aload_n 0, 1) := by decide +kernel
theorem dL_isTrue_59 : decode cL_isTrue 59 = .ok (.iconst 4, 1) := by decide +kernel
theorem dL_isTrue_60 : decode cL_isTrue 60 = .ok (.invokevirtual 69, 3) := by decide +kernel
theorem dL_isTrue_63 : decode cL_isTrue 63 = .ok (.iconst 1, 1) := by decide +kernel
theorem dL_isTrue_64 : decode cL_isTrue 64 = .ok (.if_icmp .le 5, 3) := by decide +kernel
theorem dL_isTrue_67 : decode cL_isTrue 67 = .ok (.iconst 0, 1) := by decide +kernel
theorem dL_isTrue_68 : decode cL_isTrue 68 = .ok (.ireturn, 1) := by decide +kernel
theorem dL_isTrue_69 : decode cL_isTrue 69 = .ok (.aload_n 0, 1) := by decide +kernel
theorem dL_isTrue_70 : decode cL_isTrue 70 = .ok (.iconst 0, 1) := by decide +kernel
theorem dL_isTrue_71 : decode cL_isTrue 71 = .ok (.invokevirtual 69, 3) := by decide +kernel
theorem dL_isTrue_74 : decode cL_isTrue 74 = .ok (.ifCond .le 35, 3) := by decide +kernel
theorem dL_isTrue_77 : decode cL_isTrue 77 = .ok (.aload_n 0, 1) := by decide +kernel
theorem dL_isTrue_78 : decode cL_isTrue 78 = .ok (.bipush 6, 2) := by decide +kernel
theorem dL_isTrue_80 : decode cL_isTrue 80 = .ok (.invokevirtual 69, 3) := by decide +kernel
theorem dL_isTrue_83 : decode cL_isTrue 83 = .ok (.iload_n 3, 1) := by decide +kernel
theorem dL_isTrue_84 : decode cL_isTrue 84 = .ok (.iload_n 1, 1) := by decide +kernel
theorem dL_isTrue_85 : decode cL_isTrue 85 = .ok (.irem, 1) := by decide +kernel
theorem dL_isTrue_86 : decode cL_isTrue 86 = .ok (.if_icmp .ne 21, 3) := by decide +kernel
theorem dL_isTrue_89 : decode cL_isTrue 89 = .ok (.aload_n 0, 1) := by decide +kernel
theorem dL_isTrue_90 : decode cL_isTrue 90 = .ok (.iconst 1, 1) := by decide +kernel
theorem dL_isTrue_91 : decode cL_isTrue 91 = .ok (.invokevirtual 69, 3) := by decide +kernel
theorem dL_isTrue_94 : decode cL_isTrue 94 = .ok (.iconst 1, 1) := by decide +kernel
theorem dL_isTrue_95 : decode cL_isTrue 95 = .ok (.if_icmp .ne 12, 3) := by decide +kernel
theorem dL_isTrue_98 : decode cL_isTrue 98 = .ok (.aload_n 0, 1) := by decide +kernel
theorem dL_isTrue_99 : decode cL_isTrue 99 = .ok (.iconst 0, 1) := by decide +kernel
theorem dL_isTrue_100 : decode cL_isTrue 100 = .ok (.invokevirtual 89, 3) := by decide +kernel
theorem dL_isTrue_103 : decode cL_isTrue 103 = .ok (.iconst (-1), 1) := by decide +kernel
theorem dL_isTrue_104 : decode cL_isTrue 104 = .ok (.if_icmp .eq 62, 3) := by decide +kernel
theorem dL_isTrue_107 : decode cL_isTrue 107 = .ok (.iconst 0, 1) := by decide +kernel
theorem dL_isTrue_108 : decode cL_isTrue 108 = .ok (.ireturn, 1) := by decide +kernel
theorem dL_isTrue_109 : decode cL_isTrue 109 = .ok (.aload_n 0, 1) := by decide +kernel
theorem dL_isTrue_110 : decode cL_isTrue 110 = .ok (.iconst 0, 1) := by decide +kernel
theorem dL_isTrue_111 : decode cL_isTrue 111 = .ok (.invokevirtual 89, 3) := by decide +kernel
theorem dL_isTrue_114 : decode cL_isTrue 114 = .ok (.ifCond .ne 50, 3) := by decide +kernel
theorem dL_isTrue_117 : decode cL_isTrue 117 = .ok (.aload_n 0, 1) := by decide +kernel
theorem dL_isTrue_118 : decode cL_isTrue 118 = .ok (.bipush 6, 2) := by decide +kernel
theorem dL_isTrue_120 : decode cL_isTrue 120 = .ok (.invokevirtual 69, 3) := by decide +kernel
theorem dL_isTrue_123 : decode cL_isTrue 123 = .ok (.iconst (-1), 1) := by decide +kernel
theorem dL_isTrue_124 : decode cL_isTrue 124 = .ok (.if_icmp .ne 40, 3) := by decide +kernel
theorem dL_isTrue_127 : decode cL_isTrue 127 = .ok (.aload_n 0, 1) := by decide +kernel
theorem dL_isTrue_128 : decode cL_isTrue 128 = .ok (.bipush 7, 2) := by decide +kernel
theorem dL_isTrue_130 : decode cL_isTrue 130 = .ok (.invokevirtual 69, 3) := by decide +kernel
theorem dL_isTrue_133 : decode cL_isTrue 133 = .ok (.iload_n 3, 1) := by decide +kernel
theorem dL_isTrue_134 : decode cL_isTrue 134 = .ok (.if_icmp .ne 30, 3) := by decide +kernel
theorem dL_isTrue_137 : decode cL_isTrue 137 = .ok (.aload_n 0, 1) := by decide +kernel
theorem dL_isTrue_138 : decode cL_isTrue 138 = .ok (.aload_n 0, 1) := by decide +kernel
theorem dL_isTrue_139 : decode cL_isTrue 139 = .ok (.iconst 1, 1) := by decide +kernel
theorem dL_isTrue_140 : decode cL_isTrue 140 = .ok (.invokevirtual 69, 3) := by decide +kernel
theorem dL_isTrue_143 : decode cL_isTrue 143 = .ok (.invokevirtual 89, 3) := by decide +kernel
theorem dL_isTrue_146 : decode cL_isTrue 146 = .ok (.iconst (-1), 1) := by decide +kernel
theorem dL_isTrue_147 : decode cL_isTrue 147 = .ok (.if_icmp .ne 17, 3) := by decide +kernel
theorem dL_isTrue_150 : decode cL_isTrue 150 = .ok (.aload_n 0, 1) := by decide +kernel
theorem dL_isTrue_151 : decode cL_isTrue 151 = .ok (.iconst 1, 1) := by decide +kernel
theorem dL_isTrue_152 : decode cL_isTrue 152 = .ok (.invokevirtual 69, 3) := by decide +kernel
theorem dL_isTrue_155 : decode cL_isTrue 155 = .ok (.aload_n 0, 1) := by decide +kernel
theorem dL_isTrue_156 : decode cL_isTrue 156 = .ok (.iload_n 3, 1) := by decide +kernel
theorem dL_isTrue_157 : decode cL_isTrue 157 = .ok (.iconst (-1), 1) := by decide +kernel
theorem dL_isTrue_158 : decode cL_isTrue 158 = .ok (.invokevirtual 92, 3) := by decide +kernel
theorem dL_isTrue_161 : decode cL_isTrue 161 = .ok (.if_icmp .eq 5, 3) := by decide +kernel
theorem dL_isTrue_164 : decode cL_isTrue 164 = .ok (.iconst 0, 1) := by decide +kernel
theorem dL_isTrue_165 : decode cL_isTrue 165 = .ok (.ireturn, 1) := by decide +kernel
theorem dL_isTrue_166 : decode cL_isTrue 166 = .ok (.iconst 0, 1) := by decide +kernel
theorem dL_isTrue_167 : decode cL_isTrue 167 = .ok (.istore 5, 2) := by decide +kernel
theorem dL_isTrue_169 : decode cL_isTrue 169 = .ok (.iload 5, 2) := by decide +kernel
theorem dL_isTrue_171 : decode cL_isTrue 171 = .ok (.iconst 5, 1) := by decide +kernel
theorem dL_isTrue_172 : decode cL_isTrue 172 = .ok (.if_icmp .ge 120, 3) := by decide +kernel
theorem dL_isTrue_175 : decode cL_isTrue 175 = .ok (.iload 4, 2) := by decide +kernel
theorem dL_isTrue_177 : decode cL_isTrue 177 = .ok (.ifCond .le 115, 3) := by decide +kernel
theorem dL_isTrue_180 : decode cL_isTrue 180 = .ok (.aload_n 2, 1) := by decide +kernel
theorem dL_isTrue_181 : decode cL_isTrue 181 = .ok (.iload 4, 2) := by decide +kernel
theorem dL_isTrue_183 : decode cL_isTrue 183 = .ok (.invokevirtual 23, 3) := by decide +kernel
theorem dL_isTrue_186 : decode cL_isTrue 186 = .ok (.istore 6, 2) := by decide +kernel
theorem dL_isTrue_188 : decode cL_isTrue 188 = .ok (.aload_n 0, 1) := by decide +kernel
theorem dL_isTrue_189 : decode cL_isTrue 189 = .ok (.iload 6, 2) := by decide +kernel
theorem dL_isTrue_191 : decode cL_isTrue 191 = .ok (.invokevirtual 96, 3) := by decide +kernel
theorem dL_isTrue_194 : decode cL_isTrue 194 = .ok (.istore 7, 2) := by decide +kernel
theorem dL_isTrue_196 : decode cL_isTrue 196 = .ok (.aload_n 0, 1) := by decide +kernel
theorem dL_isTrue_197 : decode cL_isTrue 197 = .ok (.iload 6, 2) := by decide +kernel
theorem dL_isTrue_199 : decode cL_isTrue 199 = .ok (.iload 6, 2) := by decide +kernel
theorem dL_isTrue_201 : decode cL_isTrue 201 = .ok (.iload_n 1, 1) := by decide +kernel
theorem dL_isTrue_202 : decode cL_isTrue 202 = .ok (.irem, 1) := by decide +kernel
theorem dL_isTrue_203 : decode cL_isTrue 203 = .ok (.invokevirtual 99, 3) := by decide +kernel
theorem dL_isTrue_206 : decode cL_isTrue 206 = .ok (.iconst (-1), 1) := by decide +kernel
theorem dL_isTrue_207 : decode cL_isTrue 207 = .ok (.if_icmp .ne 77, 3) := by decide +kernel
theorem dL_isTrue_210 : decode cL_isTrue 210 = .ok (.iload 7, 2) := by decide +kernel
theorem dL_isTrue_212 : decode cL_isTrue 212 = .ok (.ifCond .lt 46, 3) := by decide +kernel
theorem dL_isTrue_215 : decode cL_isTrue 215 = .ok (.iload 7, 2) := by decide +kernel
theorem dL_isTrue_217 : decode cL_isTrue 217 = .ok (.iconst 1, 1) := by decide +kernel
theorem dL_isTrue_218 : decode cL_isTrue 218 = .ok (.if_icmp .lt 66, 3) := by decide +kernel
theorem dL_isTrue_221 : decode cL_isTrue 221 = .ok (.aload_n 0, 1) := by decide +kernel
theorem dL_isTrue_222 : decode cL_isTrue 222 = .ok (.iload 6, 2) := by decide +kernel
theorem dL_isTrue_224 : decode cL_isTrue 224 = .ok (.iconst 0, 1) := by decide +kernel
theorem dL_isTrue_225 : decode cL_isTrue 225 = .ok (.invokevirtual 102, 3) := by decide +kernel
theorem dL_isTrue_228 : decode cL_isTrue 228 = .ok (.iconst 2, 1) := by decide +kernel
theorem dL_isTrue_229 : decode cL_isTrue 229 = .ok (.if_icmp .ne 55, 3) := by decide +kernel
theorem dL_isTrue_232 : decode cL_isTrue 232 = .ok (.aload_n 0, 1) := by decide +kernel
theorem dL_isTrue_233 : decode cL_isTrue 233 = .ok (.iload 6, 2) := by decide +kernel
theorem dL_isTrue_235 : decode cL_isTrue 235 = .ok (.bipush 6, 2) := by decide +kernel
theorem dL_isTrue_237 : decode cL_isTrue 237 = .ok (.invokevirtual 102, 3) := by decide +kernel
theorem dL_isTrue_240 : decode cL_isTrue 240 = .ok (.iload 4, 2) := by decide +kernel
theorem dL_isTrue_242 : decode cL_isTrue 242 = .ok (.iload_n 1, 1) := by decide +kernel
theorem dL_isTrue_243 : decode cL_isTrue 243 = .ok (.irem, 1) := by decide +kernel
theorem dL_isTrue_244 : decode cL_isTrue 244 = .ok (.if_icmp .ne 40, 3) := by decide +kernel
theorem dL_isTrue_247 : decode cL_isTrue 247 = .ok (.aload_n 0, 1) := by decide +kernel
theorem dL_isTrue_248 : decode cL_isTrue 248 = .ok (.iload 6, 2) := by decide +kernel
theorem dL_isTrue_250 : decode cL_isTrue 250 = .ok (.iconst 2, 1) := by decide +kernel
theorem dL_isTrue_251 : decode cL_isTrue 251 = .ok (.invokevirtual 102, 3) := by decide +kernel
theorem dL_isTrue_254 : decode cL_isTrue 254 = .ok (.iconst 1, 1) := by decide +kernel
theorem dL_isTrue_255 : decode cL_isTrue 255 = .ok (.if_icmp .ne 29, 3) := by decide +kernel
theorem dL_isTrue_258 : decode cL_isTrue 258 = .ok (.iload 7, 2) := by decide +kernel
theorem dL_isTrue_260 : decode cL_isTrue 260 = .ok (.ifCond .ge 14, 3) := by decide +kernel
theorem dL_isTrue_263 : decode cL_isTrue 263 = .ok (.aload_n 0, 1) := by decide +kernel
theorem dL_isTrue_264 : decode cL_isTrue 264 = .ok (.iload 6, 2) := by decide +kernel
theorem dL_isTrue_266 : decode cL_isTrue 266 = .ok (.iconst 0, 1) := by decide +kernel
theorem dL_isTrue_267 : decode cL_isTrue 267 = .ok (.invokevirtual 102, 3) := by decide +kernel
theorem dL_isTrue_270 : decode cL_isTrue 270 = .ok (.iconst 2, 1) := by decide +kernel
theorem dL_isTrue_271 : decode cL_isTrue 271 = .ok (.if_icmp .eq 13, 3) := by decide +kernel
theorem dL_isTrue_274 : decode cL_isTrue 274 = .ok (.aload_n 0, 1) := by decide +kernel
theorem dL_isTrue_275 : decode cL_isTrue 275 = .ok (.iload 6, 2) := by decide +kernel
theorem dL_isTrue_277 : decode cL_isTrue 277 = .ok (.iconst 5, 1) := by decide +kernel
theorem dL_isTrue_278 : decode cL_isTrue 278 = .ok (.invokevirtual 102, 3) := by decide +kernel
theorem dL_isTrue_281 : decode cL_isTrue 281 = .ok (.ifCond .eq 5, 3) := by decide +kernel
theorem dL_isTrue_284 : decode cL_isTrue 284 = .ok (.iconst 0, 1) := by decide +kernel
theorem dL_isTrue_285 : decode cL_isTrue 285 = .ok (.ireturn, 1) := by decide +kernel
theorem dL_isTrue_286 : decode cL_isTrue 286 = .ok (.iinc 5 1, 3) := by decide +kernel
theorem dL_isTrue_289 : decode cL_isTrue 289 = .ok (.goto (-120), 3) := by decide +kernel
theorem dL_isTrue_292 : decode cL_isTrue 292 = .ok (.aload_n 0, 1) := by decide +kernel
theorem dL_isTrue_293 : decode cL_isTrue 293 = .ok (.iload_n 3, 1) := by decide +kernel
theorem dL_isTrue_294 : decode cL_isTrue 294 = .ok (.iconst 0, 1) := by decide +kernel
theorem dL_isTrue_295 : decode cL_isTrue 295 = .ok (.invokevirtual 92, 3) := by decide +kernel
theorem dL_isTrue_298 : decode cL_isTrue 298 = .ok (.ifCond .ne 17, 3) := by decide +kernel
theorem dL_isTrue_301 : decode cL_isTrue 301 = .ok (.aload_n 0, 1) := by decide +kernel
theorem dL_isTrue_302 : decode cL_isTrue 302 = .ok (.iconst 0, 1) := by decide +kernel
theorem dL_isTrue_303 : decode cL_isTrue 303 = .ok (.iconst (-1), 1) := by decide +kernel
theorem dL_isTrue_304 : decode cL_isTrue 304 = .ok (.invokevirtual 92, 3) := by decide +kernel
theorem dL_isTrue_307 : decode cL_isTrue 307 = .ok (.iload_n 1, 1) := by decide +kernel
theorem dL_isTrue_308 : decode cL_isTrue 308 = .ok (.if_icmp .ne 7, 3) := by decide +kernel
theorem dL_isTrue_311 : decode cL_isTrue 311 = .ok (.iconst 1, 1) := by decide +kernel
theorem dL_isTrue_312 : decode cL_isTrue 312 = .ok (.goto 4, 3) := by decide +kernel
theorem dL_isTrue_315 : decode cL_isTrue 315 = .ok (.iconst 0, 1) := by decide +kernel
theorem dL_isTrue_316 : decode cL_isTrue 316 = .ok (.ireturn, 1) := by decide +kernel
set_option maxRecDepth 20000 in
theorem ggL_areFrames_X11_count : GoodIn wsL_areFrames wsX11_count := gi_e e_wsL_areFrames e_wsX11_count (by decide +kernel)
set_option maxRecDepth 20000 in
theorem gL_areFrames_X11_count : GoodIn wsL_areFrames (wsV RL 66 RX11 yX11_count wsX11_count) := goodIn_app (gi_e e_wsL_areFrames (ce fw_3307 (ce fw_3308 (ce fw_3309 (ce fw_1025 (cn))))) (by decide +kernel)) ggL_areFrames_X11_count
set_option maxRecDepth 20000 in
theorem ggL_areFrames_X11_receiver : GoodIn wsL_areFrames wsX11_receiver := gi_e e_wsL_areFrames e_wsX11_receiver (by decide +kernel)
set_option maxRecDepth 20000 in
theorem gL_areFrames_X11_receiver : GoodIn wsL_areFrames (wsV RL 69 RX11 yX11_receiver wsX11_receiver) := goodIn_app (gi_e e_wsL_areFrames (ce fw_3311 (ce fw_4096 (ce fw_4097 (ce fw_1025 (cn))))) (by decide +kernel)) ggL_areFrames_X11_receiver
set_option maxRecDepth 20000 in
theorem ggL_areFrames_X11_frame : GoodIn wsL_areFrames wsX11_frame := gi_e e_wsL_areFrames e_wsX11_frame (by decide +kernel)
set_option maxRecDepth 20000 in
theorem gL_areFrames_X11_frame : GoodIn wsL_areFrames (wsV RL 105 RX11 yX11_frame wsX11_frame) := goodIn_app (gi_e e_wsL_areFrames (ce fw_5200 (ce fw_5201 (ce fw_5202 (ce fw_1025 (cn))))) (by decide +kernel)) ggL_areFrames_X11_frame
theorem dL_areFrames_0 : decode cL_areFrames 0 = .ok (.aload_n 0, 1) := by decide +kernel
theorem dL_areFrames_1 : decode cL_areFrames 1 = .ok (.bipush 12, 2) := by decide +kernel
theorem dL_areFrames_3 : decode cL_areFrames 3 = .ok (.invokevirtual 66, 3) := by decide +kernel
theorem dL_areFrames_6 : decode cL_areFrames 6 = .ok (.sipush 1000, 3) := by decide +kernel
theorem dL_areFrames_9 : decode cL_areFrames 9 = .ok (.aload_n 0, 1) := by decide +kernel
theorem dL_areFrames_10 : decode cL_areFrames 10 = .ok (.bipush 8, 2) := by decide +kernel
theorem dL_areFrames_12 : decode cL_areFrames 12 = .ok (.invokevirtual 66, 3) := by decide +kernel
theorem dL_areFrames_15 : decode cL_areFrames 15 = .ok (.iadd, 1) := by decide +kernel
theorem dL_areFrames_16 : decode cL_areFrames 16 = .ok (.imul, 1) := by decide +kernel
theorem dL_areFrames_17 : decode cL_areFrames 17 = .ok (.istore_n 1, 1) := by decide +kernel
theorem dL_areFrames_18 : decode cL_areFrames 18 = .ok (.aload_n 0, 1) := by decide +kernel
theorem dL_areFrames_19 : decode cL_areFrames 19 = .ok (.bipush 10, 2) := by decide +kernel
theorem dL_areFrames_21 : decode cL_areFrames 21 = .ok (.invokevirtual 69, 3) := by decide +kernel
theorem dL_areFrames_24 : decode cL_areFrames 24 = .ok (.aload_n 0, 1) := by decide +kernel
theorem dL_areFrames_25 : decode cL_areFrames 25 = .ok (.bipush 11, 2) := by decide +kernel
theorem dL_areFrames_27 : decode cL_areFrames 27 = .ok (.invokevirtual 69, 3) := by decide +kernel
theorem dL_areFrames_30 : decode cL_areFrames 30 = .ok (.aload_n 0, 1) := by decide +kernel
theorem dL_areFrames_31 : decode cL_areFrames 31 = .ok (.bipush 12, 2) := by decide +kernel
theorem dL_areFrames_33 : decode cL_areFrames 33 = .ok (.invokevirtual 69, 3) := by decide +kernel
theorem dL_areFrames_36 : decode cL_areFrames 36 = .ok (.iadd, 1) := by decide +kernel
theorem dL_areFrames_37 : decode cL_areFrames 37 = .ok (.aload_n 0, 1) := by decide +kernel
theorem dL_areFrames_38 : decode cL_areFrames 38 = .ok (.bipush 14, 2) := by decide +kernel
theorem dL_areFrames_40 : decode cL_areFrames 40 = .ok (.invokevirtual 69, 3) := by decide +kernel
theorem dL_areFrames_43 : decode cL_areFrames 43 = .ok (.iadd, 1) := by decide +kernel
theorem dL_areFrames_44 : decode cL_areFrames 44 = .ok (.if_icmp .ne 95, 3) := by decide +kernel
theorem dL_areFrames_47 : decode cL_areFrames 47 = .ok (.aload_n 0, 1) := by decide +kernel
theorem dL_areFrames_48 : decode cL_areFrames 48 = .ok (.bipush 14, 2) := by decide +kernel
theorem dL_areFrames_50 : decode cL_areFrames 50 = .ok (.invokevirtual 69, 3) := by decide +kernel
theorem dL_areFrames_53 : decode cL_areFrames 53 = .ok (.iconst 2, 1) := by decide +kernel
theorem dL_areFrames_54 : decode cL_areFrames 54 = .ok (.if_icmp .gt 85, 3) := by decide +kernel
theorem dL_areFrames_57 : decode cL_areFrames 57 = .ok (.aload_n 0, 1) := by decide +kernel
theorem dL_areFrames_58 : decode cL_areFrames 58 = .ok (.bipush 15, 2) := by decide +kernel
theorem dL_areFrames_60 : decode cL_areFrames 60 = .ok (.invokevirtual 69, 3) := by decide +kernel
theorem dL_areFrames_63 : decode cL_areFrames 63 = .ok (.iload_n 1, 1) := by decide +kernel
theorem dL_areFrames_64 : decode cL_areFrames 64 = .ok (.sipush 1000, 3) := by decide +kernel
theorem dL_areFrames_67 : decode cL_areFrames 67 = .ok (.aload_n 0, 1) := by decide +kernel
theorem dL_areFrames_68 : decode cL_areFrames 68 = .ok (.iconst 0, 1) := by decide +kernel
theorem dL_areFrames_69 : decode cL_areFrames 69 = .ok (.invokevirtual 66, 3) := by decide +kernel
theorem dL_areFrames_72 : decode cL_areFrames 72 = .ok (.imul, 1) := by decide +kernel
theorem dL_areFrames_73 : decode cL_areFrames 73 = .ok (.irem, 1) := by decide +kernel
theorem dL_areFrames_74 : decode cL_areFrames 74 = .ok (.if_icmp .ne 65, 3) := by decide +kernel
theorem dL_areFrames_77 : decode cL_areFrames 77 = .ok (.aload_n 0, 1) := by decide +kernel
theorem dL_areFrames_78 : decode cL_areFrames 78 = .ok (.bipush 12, 2) := by decide +kernel
theorem dL_areFrames_80 : decode cL_areFrames 80 = .ok (.invokevirtual 69, 3) := by decide +kernel
theorem dL_areFrames_83 : decode cL_areFrames 83 = .ok (.aload_n 0, 1) := by decide +kernel
theorem dL_areFrames_84 : decode cL_areFrames 84 = .ok (.bipush 13, 2) := by decide +kernel
theorem dL_areFrames_86 : decode cL_areFrames 86 = .ok (.invokevirtual 69, 3) := by decide +kernel
theorem dL_areFrames_89 : decode cL_areFrames 89 = .ok (.iadd, 1) := by decide +kernel
theorem dL_areFrames_90 : decode cL_areFrames 90 = .ok (.iload_n 1, 1) := by decide +kernel
theorem dL_areFrames_91 : decode cL_areFrames 91 = .ok (.sipush 1000, 3) := by decide +kernel
theorem dL_areFrames_94 : decode cL_areFrames 94 = .ok (.aload_n 0, 1) := by decide +kernel
theorem dL_areFrames_95 : decode cL_areFrames 95 = .ok (.iconst 0, 1) := by decide +kernel
theorem dL_areFrames_96 : decode cL_areFrames 96 = .ok (.invokevirtual 66, 3) := by decide +kernel
theorem dL_areFrames_99 : decode cL_areFrames 99 = .ok (.imul, 1) := by decide +kernel
theorem dL_areFrames_100 : decode cL_areFrames 100 = .ok (.idiv, 1) := by decide +kernel
theorem dL_areFrames_101 : decode cL_areFrames 101 = .ok (.if_icmp .gt 38, 3) := by decide +kernel
theorem dL_areFrames_104 : decode cL_areFrames 104 = .ok (.aload_n 0, 1) := by decide +kernel
theorem dL_areFrames_105 : decode cL_areFrames 105 = .ok (.iconst 0, 1) := by decide +kernel
theorem dL_areFrames_106 : decode cL_areFrames 106 = .ok (.invokevirtual 105, 3) := by decide +kernel
theorem dL_areFrames_109 : decode cL_areFrames 109 = .ok (.iconst (-1), 1) := by decide +kernel
theorem dL_areFrames_110 : decode cL_areFrames 110 = .ok (.if_icmp .ne 7, 3) := by decide +kernel
theorem dL_areFrames_113 : decode cL_areFrames 113 = .ok (.iconst 1, 1) := by decide +kernel
theorem dL_areFrames_114 : decode cL_areFrames 114 = .ok (.goto 4, 3) := by decide +kernel
theorem dL_areFrames_117 : decode cL_areFrames 117 = .ok (.iconst 0, 1) := by decide +kernel
theorem dL_areFrames_118 : decode cL_areFrames 118 = .ok (.aload_n 0, 1) := by decide +kernel
theorem dL_areFrames_119 : decode cL_areFrames 119 = .ok (.bipush 12, 2) := by decide +kernel
theorem dL_areFrames_121 : decode cL_areFrames 121 = .ok (.invokevirtual 69, 3) := by decide +kernel
theorem dL_areFrames_124 : decode cL_areFrames 124 = .ok (.ifCond .ne 7, 3) := by decide +kernel
theorem dL_areFrames_127 : decode cL_areFrames 127 = .ok (.iconst 1, 1) := by decide +kernel
theorem dL_areFrames_128 : decode cL_areFrames 128 = .ok (.goto 4, 3) := by decide +kernel
theorem dL_areFrames_131 : decode cL_areFrames 131 = .ok (.iconst 0, 1) := by decide +kernel
theorem dL_areFrames_132 : decode cL_areFrames 132 = .ok (.if_icmp .ne 7, 3) := by decide +kernel
theorem dL_areFrames_135 : decode cL_areFrames 135 = .ok (.iconst 1, 1) := by decide +kernel
theorem dL_areFrames_136 : decode cL_areFrames 136 = .ok (.goto 4, 3) := by decide +kernel
theorem dL_areFrames_139 : decode cL_areFrames 139 = .ok (.iconst 0, 1) := by decide +kernel
theorem dL_areFrames_140 : decode cL_areFrames 140 = .ok (.ireturn, 1) := by decide +kernel
set_option maxRecDepth 20000 in
theorem ggL_isLinked_X11_receiver : GoodIn wsL_isLinked wsX11_receiver := gi_e e_wsL_isLinked e_wsX11_receiver (by decide +kernel)
set_option maxRecDepth 20000 in
theorem gL_isLinked_X11_receiver : GoodIn wsL_isLinked (wsV RL 69 RX11 yX11_receiver wsX11_receiver) := goodIn_app (gi_e e_wsL_isLinked (ce fw_3311 (ce fw_4096 (ce fw_4097 (ce fw_1025 (cn))))) (by decide +kernel)) ggL_isLinked_X11_receiver
set_option maxRecDepth 20000 in
theorem ggL_isLinked_X11_count : GoodIn wsL_isLinked wsX11_count := gi_e e_wsL_isLinked e_wsX11_count (by decide +kernel)
set_option maxRecDepth 20000 in
theorem gL_isLinked_X11_count : GoodIn wsL_isLinked (wsV RL 66 RX11 yX11_count wsX11_count) := goodIn_app (gi_e e_wsL_isLinked (ce fw_3307 (ce fw_3308 (ce fw_3309 (ce fw_1025 (cn))))) (by decide +kernel)) ggL_isLinked_X11_count
set_option maxRecDepth 20000 in
theorem ggL_isLinked_X11_value : GoodIn wsL_isLinked wsX11_value := gi_e e_wsL_isLinked e_wsX11_value (by decide +kernel)
set_option maxRecDepth 20000 in
theorem gL_isLinked_X11_value : GoodIn wsL_isLinked (wsV RL 108 RX11 yX11_value wsX11_value) := goodIn_app (gi_e e_wsL_isLinked (ce fw_5215 (ce fw_5216 (ce fw_5217 (ce fw_1025 (cn))))) (by decide +kernel)) ggL_isLinked_X11_value
theorem dL_isLinked_0 : decode cL_isLinked 0 = .ok (.aload_n 0, 1) := by decide +kernel
theorem dL_isLinked_1 : decode cL_isLinked 1 = .ok (.bipush 16, 2) := by decide +kernel
theorem dL_isLinked_3 : decode cL_isLinked 3 = .ok (.invokevirtual 69, 3) := by decide +kernel
theorem dL_isLinked_6 : decode cL_isLinked 6 = .ok (.istore_n 3, 1) := by decide +kernel
theorem dL_isLinked_7 : decode cL_isLinked 7 = .ok (.iload_n 2, 1) := by decide +kernel
theorem dL_isLinked_8 : decode cL_isLinked 8 = .ok (.aload_n 0, 1) := by decide +kernel
theorem dL_isLinked_9 : decode cL_isLinked 9 = .ok (.bipush 15, 2) := by decide +kernel
theorem dL_isLinked_11 : decode cL_isLinked 11 = .ok (.invokevirtual 66, 3) := by decide +kernel
theorem dL_isLinked_14 : decode cL_isLinked 14 = .ok (.isub, 1) := by decide +kernel
theorem dL_isLinked_15 : decode cL_isLinked 15 = .ok (.istore 4, 2) := by decide +kernel
theorem dL_isLinked_17 : decode cL_isLinked 17 = .ok (.aload_n 0, 1) := by decide +kernel
theorem dL_isLinked_18 : decode cL_isLinked 18 = .ok (.bipush 17, 2) := by decide +kernel
theorem dL_isLinked_20 : decode cL_isLinked 20 = .ok (.invokevirtual 69, 3) := by decide +kernel
theorem dL_isLinked_23 : decode cL_isLinked 23 = .ok (.ifCond .ne 30, 3) := by decide +kernel
theorem dL_isLinked_26 : decode cL_isLinked 26 = .ok (.iload_n 3, 1) := by decide +kernel
theorem dL_isLinked_27 : decode cL_isLinked 27 = .ok (.iload 4, 2) := by decide +kernel
theorem dL_isLinked_29 : decode cL_isLinked 29 = .ok (.if_icmp .gt 24, 3) := by decide +kernel
theorem dL_isLinked_32 : decode cL_isLinked 32 = .ok (.aload_n 0, 1) := by decide +kernel
theorem dL_isLinked_33 : decode cL_isLinked 33 = .ok (.bipush 12, 2) := by decide +kernel
theorem dL_isLinked_35 : decode cL_isLinked 35 = .ok (.invokevirtual 66, 3) := by decide +kernel
theorem dL_isLinked_38 : decode cL_isLinked 38 = .ok (.aload_n 0, 1) := by decide +kernel
theorem dL_isLinked_39 : decode cL_isLinked 39 = .ok (.bipush 11, 2) := by decide +kernel
theorem dL_isLinked_41 : decode cL_isLinked 41 = .ok (.invokevirtual 66, 3) := by decide +kernel
theorem dL_isLinked_44 : decode cL_isLinked 44 = .ok (.if_icmp .ne 11, 3) := by decide +kernel
theorem dL_isLinked_47 : decode cL_isLinked 47 = .ok (.iload_n 3, 1) := by decide +kernel
theorem dL_isLinked_48 : decode cL_isLinked 48 = .ok (.iload 4, 2) := by decide +kernel
theorem dL_isLinked_50 : decode cL_isLinked 50 = .ok (.if_icmp .eq 5, 3) := by decide +kernel
theorem dL_isLinked_53 : decode cL_isLinked 53 = .ok (.iconst 0, 1) := by decide +kernel
theorem dL_isLinked_54 : decode cL_isLinked 54 = .ok (.ireturn, 1) := by decide +kernel
theorem dL_isLinked_55 : decode cL_isLinked 55 = .ok (.iconst 0, 1) := by decide +kernel
theorem dL_isLinked_56 : decode cL_isLinked 56 = .ok (.istore 5, 2) := by decide +kernel
theorem dL_isLinked_58 : decode cL_isLinked 58 = .ok (.iload 5, 2) := by decide +kernel
theorem dL_isLinked_60 : decode cL_isLinked 60 = .ok (.iload_n 3, 1) := by decide +kernel
theorem dL_isLinked_61 : decode cL_isLinked 61 = .ok (.if_icmp .ge 35, 3) := by decide +kernel
theorem dL_isLinked_64 : decode cL_isLinked 64 = .ok (.iload 5, 2) := by decide +kernel
theorem dL_isLinked_66 : decode cL_isLinked 66 = .ok (.bipush 8, 2) := by decide +kernel
theorem dL_isLinked_68 : decode cL_isLinked 68 = .ok (.if_icmp .ge 28, 3) := by decide +kernel
theorem dL_isLinked_71 : decode cL_isLinked 71 = .ok (.aload_n 0, 1) := by decide +kernel
theorem dL_isLinked_72 : decode cL_isLinked 72 = .ok (.iload 5, 2) := by decide +kernel
theorem dL_isLinked_74 : decode cL_isLinked 74 = .ok (.invokevirtual 108, 3) := by decide +kernel
theorem dL_isLinked_77 : decode cL_isLinked 77 = .ok (.aload_n 1, 1) := by decide +kernel
theorem dL_isLinked_78 : decode cL_isLinked 78 = .ok (.iload_n 3, 1) := by decide +kernel
theorem dL_isLinked_79 : decode cL_isLinked 79 = .ok (.iconst 1, 1) := by decide +kernel
theorem dL_isLinked_80 : decode cL_isLinked 80 = .ok (.isub, 1) := by decide +kernel
theorem dL_isLinked_81 : decode cL_isLinked 81 = .ok (.iload 5, 2) := by decide +kernel
theorem dL_isLinked_83 : decode cL_isLinked 83 = .ok (.isub, 1) := by decide +kernel
theorem dL_isLinked_84 : decode cL_isLinked 84 = .ok (.iaload, 1) := by decide +kernel
theorem dL_isLinked_85 : decode cL_isLinked 85 = .ok (.if_icmp .eq 5, 3) := by decide +kernel
theorem dL_isLinked_88 : decode cL_isLinked 88 = .ok (.iconst 0, 1) := by decide +kernel
theorem dL_isLinked_89 : decode cL_isLinked 89 = .ok (.ireturn, 1) := by decide +kernel
theorem dL_isLinked_90 : decode cL_isLinked 90 = .ok (.iinc 5 1, 3) := by decide +kernel
theorem dL_isLinked_93 : decode cL_isLinked 93 = .ok (.goto (-35), 3) := by decide +kernel
theorem dL_isLinked_96 : decode cL_isLinked 96 = .ok (.aload_n 0, 1) := by decide +kernel
theorem dL_isLinked_97 : decode cL_isLinked 97 = .ok (.bipush 8, 2) := by decide +kernel
theorem dL_isLinked_99 : decode cL_isLinked 99 = .ok (.iload_n 3, 1) := by decide +kernel
theorem dL_isLinked_100 : decode cL_isLinked 100 = .ok (.invokestatic 111, 3) := by decide +kernel
theorem dL_isLinked_103 : decode cL_isLinked 103 = .ok (.invokevirtual 108, 3) := by decide +kernel
theorem dL_isLinked_106 : decode cL_isLinked 106 = .ok (.iconst (-1), 1) := by decide +kernel
theorem dL_isLinked_107 : decode cL_isLinked 107 = .ok (.if_icmp .ne 7, 3) := by decide +kernel
theorem dL_isLinked_110 : decode cL_isLinked 110 = .ok (.iconst 1, 1) := by decide +kernel
theorem dL_isLinked_111 : decode cL_isLinked 111 = .ok (.goto 4, 3) := by decide +kernel
theorem dL_isLinked_114 : decode cL_isLinked 114 = .ok (.iconst 0, 1) := by decide +kernel
theorem dL_isLinked_115 : decode cL_isLinked 115 = .ok (.ireturn, 1) := by decide +kernel
theorem dL_law_0 : decode cL_law 0 = .ok (.new 10, 3) := by decide +kernel
theorem dL_law_3 : decode cL_law 3 = .ok (.dup, 1) := by decide +kernel
theorem dL_law_4 : decode cL_law 4 = .ok (.invokespecial 116, 3) := by decide +kernel
theorem dL_law_7 : decode cL_law 7 = .ok (.astore_n 1, 1) := by decide +kernel
theorem dL_law_8 : decode cL_law 8 = .ok (.new 24, 3) := by decide +kernel
theorem dL_law_11 : decode cL_law 11 = .ok (.dup, 1) := by decide +kernel
theorem dL_law_12 : decode cL_law 12 = .ok (.aload_n 0, 1) := by decide +kernel
theorem dL_law_13 : decode cL_law 13 = .ok (.arraylength, 1) := by decide +kernel
theorem dL_law_14 : decode cL_law 14 = .ok (.ifCond .le 9, 3) := by decide +kernel
theorem dL_law_17 : decode cL_law 17 = .ok (.aload_n 0, 1) := by decide +kernel
theorem dL_law_18 : decode cL_law 18 = .ok (.iconst 0, 1) := by decide +kernel
theorem dL_law_19 : decode cL_law 19 = .ok (.iaload, 1) := by decide +kernel
theorem dL_law_20 : decode cL_law 20 = .ok (.goto 5, 3) := by decide +kernel
theorem dL_law_23 : decode cL_law 23 = .ok (.bipush 7, 2) := by decide +kernel
theorem dL_law_25 : decode cL_law 25 = .ok (.invokespecial 117, 3) := by decide +kernel
theorem dL_law_28 : decode cL_law 28 = .ok (.astore_n 2, 1) := by decide +kernel
theorem dL_law_29 : decode cL_law 29 = .ok (.aload_n 1, 1) := by decide +kernel
theorem dL_law_30 : decode cL_law 30 = .ok (.iconst 2, 1) := by decide +kernel
theorem dL_law_31 : decode cL_law 31 = .ok (.invokevirtual 69, 3) := by decide +kernel
theorem dL_law_34 : decode cL_law 34 = .ok (.iconst 1, 1) := by decide +kernel
theorem dL_law_35 : decode cL_law 35 = .ok (.if_icmp .ne 25, 3) := by decide +kernel
theorem dL_law_38 : decode cL_law 38 = .ok (.aload_n 1, 1) := by decide +kernel
theorem dL_law_39 : decode cL_law 39 = .ok (.iconst 1, 1) := by decide +kernel
theorem dL_law_40 : decode cL_law 40 = .ok (.invokevirtual 69, 3) := by decide +kernel
theorem dL_law_43 : decode cL_law 43 = .ok (.bipush 48, 2) := by decide +kernel
theorem dL_law_45 : decode cL_law 45 = .ok (.if_icmp .ne 15, 3) := by decide +kernel
theorem dL_law_48 : decode cL_law 48 = .ok (.aload_n 1, 1) := by decide +kernel
theorem dL_law_49 : decode cL_law 49 = .ok (.bipush 16, 2) := by decide +kernel
theorem dL_law_51 : decode cL_law 51 = .ok (.invokevirtual 66, 3) := by decide +kernel
theorem dL_law_54 : decode cL_law 54 = .ok (.sipush (-1000), 3) := by decide +kernel
theorem dL_law_57 : decode cL_law 57 = .ok (.if_icmp .eq 5, 3) := by decide +kernel
theorem dL_law_60 : decode cL_law 60 = .ok (.iconst 0, 1) := by decide +kernel
theorem dL_law_61 : decode cL_law 61 = .ok (.ireturn, 1) := by decide +kernel
theorem dL_law_62 : decode cL_law 62 = .ok (.aload_n 1, 1) := by decide +kernel
theorem dL_law_63 : decode cL_law 63 = .ok (.aload_n 2, 1) := by decide +kernel
theorem dL_law_64 : decode cL_law 64 = .ok (.invokestatic 120, 3) := by decide +kernel
theorem dL_law_67 : decode cL_law 67 = .ok (.istore_n 3, 1) := by decide +kernel
theorem dL_law_68 : decode cL_law 68 = .ok (.iload_n 3, 1) := by decide +kernel
theorem dL_law_69 : decode cL_law 69 = .ok (.ifCond .ge 5, 3) := by decide +kernel
theorem dL_law_72 : decode cL_law 72 = .ok (.iconst 0, 1) := by decide +kernel
theorem dL_law_73 : decode cL_law 73 = .ok (.ireturn, 1) := by decide +kernel
theorem dL_law_74 : decode cL_law 74 = .ok (.iconst 0, 1) := by decide +kernel
theorem dL_law_75 : decode cL_law 75 = .ok (.istore 4, 2) := by decide +kernel
theorem dL_law_77 : decode cL_law 77 = .ok (.iconst 0, 1) := by decide +kernel
theorem dL_law_78 : decode cL_law 78 = .ok (.istore 5, 2) := by decide +kernel
theorem dL_law_80 : decode cL_law 80 = .ok (.iload 5, 2) := by decide +kernel
theorem dL_law_82 : decode cL_law 82 = .ok (.aload_n 1, 1) := by decide +kernel
theorem dL_law_83 : decode cL_law 83 = .ok (.iconst 1, 1) := by decide +kernel
theorem dL_law_84 : decode cL_law 84 = .ok (.invokevirtual 66, 3) := by decide +kernel
theorem dL_law_87 : decode cL_law 87 = .ok (.if_icmp .ge 29, 3) := by decide +kernel
theorem dL_law_90 : decode cL_law 90 = .ok (.iload 4, 2) := by decide +kernel
theorem dL_law_92 : decode cL_law 92 = .ok (.aload_n 1, 1) := by decide +kernel
theorem dL_law_93 : decode cL_law 93 = .ok (.iload 5, 2) := by decide +kernel
theorem dL_law_95 : decode cL_law 95 = .ok (.invokestatic 77, 3) := by decide +kernel
theorem dL_law_98 : decode cL_law 98 = .ok (.iconst 3, 1) := by decide +kernel
theorem dL_law_99 : decode cL_law 99 = .ok (.if_icmp .ne 7, 3) := by decide +kernel
theorem dL_law_102 : decode cL_law 102 = .ok (.iconst 1, 1) := by decide +kernel
theorem dL_law_103 : decode cL_law 103 = .ok (.goto 4, 3) := by decide +kernel
theorem dL_law_106 : decode cL_law 106 = .ok (.iconst 0, 1) := by decide +kernel
theorem dL_law_107 : decode cL_law 107 = .ok (.iadd, 1) := by decide +kernel
theorem dL_law_108 : decode cL_law 108 = .ok (.istore 4, 2) := by decide +kernel
theorem dL_law_110 : decode cL_law 110 = .ok (.iinc 5 1, 3) := by decide +kernel
theorem dL_law_113 : decode cL_law 113 = .ok (.goto (-33), 3) := by decide +kernel
theorem dL_law_116 : decode cL_law 116 = .ok (.sipush 200, 3) := by decide +kernel
theorem dL_law_119 : decode cL_law 119 = .ok (.newarray .int, 2) := by decide +kernel
theorem dL_law_121 : decode cL_law 121 = .ok (.astore 5, 2) := by decide +kernel
theorem dL_law_123 : decode cL_law 123 = .ok (.iconst 0, 1) := by decide +kernel
theorem dL_law_124 : decode cL_law 124 = .ok (.istore 6, 2) := by decide +kernel
theorem dL_law_126 : decode cL_law 126 = .ok (.iconst 1, 1) := by decide +kernel
theorem dL_law_127 : decode cL_law 127 = .ok (.istore 7, 2) := by decide +kernel
theorem dL_law_129 : decode cL_law 129 = .ok (.iload 7, 2) := by decide +kernel
theorem dL_law_131 : decode cL_law 131 = .ok (.bipush 9, 2) := by decide +kernel
theorem dL_law_133 : decode cL_law 133 = .ok (.if_icmp .ge 280, 3) := by decide +kernel
theorem dL_law_136 : decode cL_law 136 = .ok (.new 24, 3) := by decide +kernel
theorem dL_law_139 : decode cL_law 139 = .ok (.dup, 1) := by decide +kernel
theorem dL_law_140 : decode cL_law 140 = .ok (.iload 7, 2) := by decide +kernel
theorem dL_law_142 : decode cL_law 142 = .ok (.aload_n 0, 1) := by decide +kernel
theorem dL_law_143 : decode cL_law 143 = .ok (.arraylength, 1) := by decide +kernel
theorem dL_law_144 : decode cL_law 144 = .ok (.if_icmp .ge 10, 3) := by decide +kernel
theorem dL_law_147 : decode cL_law 147 = .ok (.aload_n 0, 1) := by decide +kernel
theorem dL_law_148 : decode cL_law 148 = .ok (.iload 7, 2) := by decide +kernel
theorem dL_law_150 : decode cL_law 150 = .ok (.iaload, 1) := by decide +kernel
theorem dL_law_151 : decode cL_law 151 = .ok (.goto 8, 3) := by decide +kernel
theorem dL_law_154 : decode cL_law 154 = .ok (.bipush 37, 2) := by decide +kernel
theorem dL_law_156 : decode cL_law 156 = .ok (.iload 7, 2) := by decide +kernel
theorem dL_law_158 : decode cL_law 158 = .ok (.imul, 1) := by decide +kernel
theorem dL_law_159 : decode cL_law 159 = .ok (.invokespecial 117, 3) := by decide +kernel
theorem dL_law_162 : decode cL_law 162 = .ok (.astore 8, 2) := by decide +kernel
theorem dL_law_164 : decode cL_law 164 = .ok (.aload_n 1, 1) := by decide +kernel
theorem dL_law_165 : decode cL_law 165 = .ok (.iconst 0, 1) := by decide +kernel
theorem dL_law_166 : decode cL_law 166 = .ok (.invokevirtual 69, 3) := by decide +kernel
theorem dL_law_169 : decode cL_law 169 = .ok (.iconst 2, 1) := by decide +kernel
theorem dL_law_170 : decode cL_law 170 = .ok (.if_icmp .ne 7, 3) := by decide +kernel
theorem dL_law_173 : decode cL_law 173 = .ok (.iconst 1, 1) := by decide +kernel
theorem dL_law_174 : decode cL_law 174 = .ok (.goto 4, 3) := by decide +kernel
theorem dL_law_177 : decode cL_law 177 = .ok (.iconst 0, 1) := by decide +kernel
theorem dL_law_178 : decode cL_law 178 = .ok (.istore 9, 2) := by decide +kernel
theorem dL_law_180 : decode cL_law 180 = .ok (.iload 9, 2) := by decide +kernel
theorem dL_law_182 : decode cL_law 182 = .ok (.ifCond .eq 56, 3) := by decide +kernel
theorem dL_law_185 : decode cL_law 185 = .ok (.aload_n 1, 1) := by decide +kernel
theorem dL_law_186 : decode cL_law 186 = .ok (.bipush 12, 2) := by decide +kernel
theorem dL_law_188 : decode cL_law 188 = .ok (.invokevirtual 66, 3) := by decide +kernel
theorem dL_law_191 : decode cL_law 191 = .ok (.aload_n 1, 1) := by decide +kernel
theorem dL_law_192 : decode cL_law 192 = .ok (.bipush 11, 2) := by decide +kernel
theorem dL_law_194 : decode cL_law 194 = .ok (.invokevirtual 66, 3) := by decide +kernel
theorem dL_law_197 : decode cL_law 197 = .ok (.if_icmp .ne 41, 3) := by decide +kernel
theorem dL_law_200 : decode cL_law 200 = .ok (.aload 8, 2) := by decide +kernel
theorem dL_law_202 : decode cL_law 202 = .ok (.iconst 2, 1) := by decide +kernel
theorem dL_law_203 : decode cL_law 203 = .ok (.invokevirtual 23, 3) := by decide +kernel
theorem dL_law_206 : decode cL_law 206 = .ok (.ifCond .ne 32, 3) := by decide +kernel
theorem dL_law_209 : decode cL_law 209 = .ok (.aload 8, 2) := by decide +kernel
theorem dL_law_211 : decode cL_law 211 = .ok (.sipush 256, 3) := by decide +kernel
theorem dL_law_214 : decode cL_law 214 = .ok (.invokevirtual 23, 3) := by decide +kernel
theorem dL_law_217 : decode cL_law 217 = .ok (.istore 10, 2) := by decide +kernel
theorem dL_law_219 : decode cL_law 219 = .ok (.aload_n 1, 1) := by decide +kernel
theorem dL_law_220 : decode cL_law 220 = .ok (.iload 10, 2) := by decide +kernel
theorem dL_law_222 : decode cL_law 222 = .ok (.invokevirtual 124, 3) := by decide +kernel
theorem dL_law_225 : decode cL_law 225 = .ok (.ifCond .le 13, 3) := by decide +kernel
theorem dL_law_228 : decode cL_law 228 = .ok (.aload 5, 2) := by decide +kernel
theorem dL_law_230 : decode cL_law 230 = .ok (.iload 6, 2) := by decide +kernel
theorem dL_law_232 : decode cL_law 232 = .ok (.iload 10, 2) := by decide +kernel
theorem dL_law_234 : decode cL_law 234 = .ok (.iastore, 1) := by decide +kernel
theorem dL_law_235 : decode cL_law 235 = .ok (.iinc 6 1, 3) := by decide +kernel
theorem dL_law_238 : decode cL_law 238 = .ok (.iconst 1, 1) := by decide +kernel
theorem dL_law_239 : decode cL_law 239 = .ok (.aload 8, 2) := by decide +kernel
theorem dL_law_241 : decode cL_law 241 = .ok (.iconst 2, 1) := by decide +kernel
theorem dL_law_242 : decode cL_law 242 = .ok (.invokevirtual 23, 3) := by decide +kernel
theorem dL_law_245 : decode cL_law 245 = .ok (.iadd, 1) := by decide +kernel
theorem dL_law_246 : decode cL_law 246 = .ok (.istore 10, 2) := by decide +kernel
theorem dL_law_248 : decode cL_law 248 = .ok (.aload_n 1, 1) := by decide +kernel
theorem dL_law_249 : decode cL_law 249 = .ok (.bipush 11, 2) := by decide +kernel
theorem dL_law_251 : decode cL_law 251 = .ok (.invokevirtual 66, 3) := by decide +kernel
theorem dL_law_254 : decode cL_law 254 = .ok (.istore 11, 2) := by decide +kernel
theorem dL_law_256 : decode cL_law 256 = .ok (.aload_n 1, 1) := by decide +kernel
theorem dL_law_257 : decode cL_law 257 = .ok (.iload 10, 2) := by decide +kernel
theorem dL_law_259 : decode cL_law 259 = .ok (.aload 8, 2) := by decide +kernel
theorem dL_law_261 : decode cL_law 261 = .ok (.sipush 30000, 3) := by decide +kernel
theorem dL_law_264 : decode cL_law 264 = .ok (.invokevirtual 23, 3) := by decide +kernel
theorem dL_law_267 : decode cL_law 267 = .ok (.invokevirtual 127, 3) := by decide +kernel
theorem dL_law_270 : decode cL_law 270 = .ok (.istore 12, 2) := by decide +kernel
theorem dL_law_272 : decode cL_law 272 = .ok (.iload 12, 2) := by decide +kernel
theorem dL_law_274 : decode cL_law 274 = .ok (.iload 11, 2) := by decide +kernel
theorem dL_law_276 : decode cL_law 276 = .ok (.iload 10, 2) := by decide +kernel
theorem dL_law_278 : decode cL_law 278 = .ok (.iload_n 3, 1) := by decide +kernel
theorem dL_law_279 : decode cL_law 279 = .ok (.imul, 1) := by decide +kernel
theorem dL_law_280 : decode cL_law 280 = .ok (.iadd, 1) := by decide +kernel
theorem dL_law_281 : decode cL_law 281 = .ok (.sipush 4000, 3) := by decide +kernel
theorem dL_law_284 : decode cL_law 284 = .ok (.if_icmp .le 7, 3) := by decide +kernel
theorem dL_law_287 : decode cL_law 287 = .ok (.iconst (-1), 1) := by decide +kernel
theorem dL_law_288 : decode cL_law 288 = .ok (.goto 10, 3) := by decide +kernel
theorem dL_law_291 : decode cL_law 291 = .ok (.iload 11, 2) := by decide +kernel
theorem dL_law_293 : decode cL_law 293 = .ok (.iload 10, 2) := by decide +kernel
theorem dL_law_295 : decode cL_law 295 = .ok (.iload_n 3, 1) := by decide +kernel
theorem dL_law_296 : decode cL_law 296 = .ok (.imul, 1) := by decide +kernel
theorem dL_law_297 : decode cL_law 297 = .ok (.iadd, 1) := by decide +kernel
theorem dL_law_298 : decode cL_law 298 = .ok (.if_icmp .eq 5, 3) := by decide +kernel
theorem dL_law_301 : decode cL_law 301 = .ok (.iconst 0, 1) := by decide +kernel
theorem dL_law_302 : decode cL_law 302 = .ok (.ireturn, 1) := by decide +kernel
theorem dL_law_303 : decode cL_law 303 = .ok (.aload_n 1, 1) := by decide +kernel
theorem dL_law_304 : decode cL_law 304 = .ok (.bipush 11, 2) := by decide +kernel
theorem dL_law_306 : decode cL_law 306 = .ok (.invokevirtual 66, 3) := by decide +kernel
theorem dL_law_309 : decode cL_law 309 = .ok (.aload_n 1, 1) := by decide +kernel
theorem dL_law_310 : decode cL_law 310 = .ok (.bipush 12, 2) := by decide +kernel
theorem dL_law_312 : decode cL_law 312 = .ok (.invokevirtual 66, 3) := by decide +kernel
theorem dL_law_315 : decode cL_law 315 = .ok (.isub, 1) := by decide +kernel
theorem dL_law_316 : decode cL_law 316 = .ok (.istore 13, 2) := by decide +kernel
theorem dL_law_318 : decode cL_law 318 = .ok (.iload 6, 2) := by decide +kernel
theorem dL_law_320 : decode cL_law 320 = .ok (.ifCond .gt 12, 3) := by decide +kernel
theorem dL_law_323 : decode cL_law 323 = .ok (.aload 8, 2) := by decide +kernel
theorem dL_law_325 : decode cL_law 325 = .ok (.iconst 2, 1) := by decide +kernel
theorem dL_law_326 : decode cL_law 326 = .ok (.invokevirtual 23, 3) := by decide +kernel
theorem dL_law_329 : decode cL_law 329 = .ok (.ifCond .ne 8, 3) := by decide +kernel
theorem dL_law_332 : decode cL_law 332 = .ok (.iload 13, 2) := by decide +kernel
theorem dL_law_334 : decode cL_law 334 = .ok (.goto 16, 3) := by decide +kernel
theorem dL_law_337 : decode cL_law 337 = .ok (.iconst 1, 1) := by decide +kernel
theorem dL_law_338 : decode cL_law 338 = .ok (.aload 8, 2) := by decide +kernel
theorem dL_law_340 : decode cL_law 340 = .ok (.iconst 1, 1) := by decide +kernel
theorem dL_law_341 : decode cL_law 341 = .ok (.iload 13, 2) := by decide +kernel
theorem dL_law_343 : decode cL_law 343 = .ok (.invokestatic 130, 3) := by decide +kernel
theorem dL_law_346 : decode cL_law 346 = .ok (.invokevirtual 23, 3) := by decide +kernel
theorem dL_law_349 : decode cL_law 349 = .ok (.iadd, 1) := by decide +kernel
theorem dL_law_350 : decode cL_law 350 = .ok (.istore 14, 2) := by decide +kernel
theorem dL_law_352 : decode cL_law 352 = .ok (.iload 13, 2) := by decide +kernel
theorem dL_law_354 : decode cL_law 354 = .ok (.ifCond .le 12, 3) := by decide +kernel
theorem dL_law_357 : decode cL_law 357 = .ok (.aload_n 1, 1) := by decide +kernel
theorem dL_law_358 : decode cL_law 358 = .ok (.iload 14, 2) := by decide +kernel
theorem dL_law_360 : decode cL_law 360 = .ok (.invokevirtual 133, 3) := by decide +kernel
theorem dL_law_363 : decode cL_law 363 = .ok (.goto 4, 3) := by decide +kernel
theorem dL_law_366 : decode cL_law 366 = .ok (.iconst 0, 1) := by decide +kernel
theorem dL_law_367 : decode cL_law 367 = .ok (.istore 15, 2) := by decide +kernel
theorem dL_law_369 : decode cL_law 369 = .ok (.aload_n 1, 1) := by decide +kernel
theorem dL_law_370 : decode cL_law 370 = .ok (.iload_n 3, 1) := by decide +kernel
theorem dL_law_371 : decode cL_law 371 = .ok (.invokestatic 136, 3) := by decide +kernel
theorem dL_law_374 : decode cL_law 374 = .ok (.ifCond .eq 31, 3) := by decide +kernel
theorem dL_law_377 : decode cL_law 377 = .ok (.aload_n 1, 1) := by decide +kernel
theorem dL_law_378 : decode cL_law 378 = .ok (.iload_n 3, 1) := by decide +kernel
theorem dL_law_379 : decode cL_law 379 = .ok (.aload 8, 2) := by decide +kernel
theorem dL_law_381 : decode cL_law 381 = .ok (.invokestatic 140, 3) := by decide +kernel
theorem dL_law_384 : decode cL_law 384 = .ok (.ifCond .eq 21, 3) := by decide +kernel
theorem dL_law_387 : decode cL_law 387 = .ok (.aload_n 1, 1) := by decide +kernel
theorem dL_law_388 : decode cL_law 388 = .ok (.invokestatic 144, 3) := by decide +kernel
theorem dL_law_391 : decode cL_law 391 = .ok (.ifCond .eq 14, 3) := by decide +kernel
theorem dL_law_394 : decode cL_law 394 = .ok (.aload_n 1, 1) := by decide +kernel
theorem dL_law_395 : decode cL_law 395 = .ok (.aload 5, 2) := by decide +kernel
theorem dL_law_397 : decode cL_law 397 = .ok (.iload 6, 2) := by decide +kernel
theorem dL_law_399 : decode cL_law 399 = .ok (.invokestatic 148, 3) := by decide +kernel
theorem dL_law_402 : decode cL_law 402 = .ok (.ifCond .ne 5, 3) := by decide +kernel
theorem dL_law_405 : decode cL_law 405 = .ok (.iconst 0, 1) := by decide +kernel
theorem dL_law_406 : decode cL_law 406 = .ok (.ireturn, 1) := by decide +kernel
theorem dL_law_407 : decode cL_law 407 = .ok (.iinc 7 1, 3) := by decide +kernel
theorem dL_law_410 : decode cL_law 410 = .ok (.goto (-281), 3) := by decide +kernel
theorem dL_law_413 : decode cL_law 413 = .ok (.aload_n 1, 1) := by decide +kernel
theorem dL_law_414 : decode cL_law 414 = .ok (.aload_n 1, 1) := by decide +kernel
theorem dL_law_415 : decode cL_law 415 = .ok (.bipush 11, 2) := by decide +kernel
theorem dL_law_417 : decode cL_law 417 = .ok (.invokevirtual 66, 3) := by decide +kernel
theorem dL_law_420 : decode cL_law 420 = .ok (.aload_n 1, 1) := by decide +kernel
theorem dL_law_421 : decode cL_law 421 = .ok (.bipush 12, 2) := by decide +kernel
theorem dL_law_423 : decode cL_law 423 = .ok (.invokevirtual 66, 3) := by decide +kernel
theorem dL_law_426 : decode cL_law 426 = .ok (.isub, 1) := by decide +kernel
theorem dL_law_427 : decode cL_law 427 = .ok (.iconst 1, 1) := by decide +kernel
theorem dL_law_428 : decode cL_law 428 = .ok (.iadd, 1) := by decide +kernel
theorem dL_law_429 : decode cL_law 429 = .ok (.invokevirtual 133, 3) := by decide +kernel
theorem dL_law_432 : decode cL_law 432 = .ok (.iconst (-1), 1) := by decide +kernel
theorem dL_law_433 : decode cL_law 433 = .ok (.if_icmp .ne 33, 3) := by decide +kernel
theorem dL_law_436 : decode cL_law 436 = .ok (.aload_n 1, 1) := by decide +kernel
theorem dL_law_437 : decode cL_law 437 = .ok (.sipush 256, 3) := by decide +kernel
theorem dL_law_440 : decode cL_law 440 = .ok (.invokevirtual 124, 3) := by decide +kernel
theorem dL_law_443 : decode cL_law 443 = .ok (.iconst (-1), 1) := by decide +kernel
theorem dL_law_444 : decode cL_law 444 = .ok (.if_icmp .ne 22, 3) := by decide +kernel
theorem dL_law_447 : decode cL_law 447 = .ok (.aload_n 1, 1) := by decide +kernel
theorem dL_law_448 : decode cL_law 448 = .ok (.aload_n 1, 1) := by decide +kernel
theorem dL_law_449 : decode cL_law 449 = .ok (.iconst 1, 1) := by decide +kernel
theorem dL_law_450 : decode cL_law 450 = .ok (.invokevirtual 66, 3) := by decide +kernel
theorem dL_law_453 : decode cL_law 453 = .ok (.invokestatic 77, 3) := by decide +kernel
theorem dL_law_456 : decode cL_law 456 = .ok (.sipush (-777), 3) := by decide +kernel
theorem dL_law_459 : decode cL_law 459 = .ok (.if_icmp .ne 7, 3) := by decide +kernel
theorem dL_law_462 : decode cL_law 462 = .ok (.iconst 1, 1) := by decide +kernel
theorem dL_law_463 : decode cL_law 463 = .ok (.goto 4, 3) := by decide +kernel
theorem dL_law_466 : decode cL_law 466 = .ok (.iconst 0, 1) := by decide +kernel
theorem dL_law_467 : decode cL_law 467 = .ok (.ireturn, 1) := by decide +kernel
