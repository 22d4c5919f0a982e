theorem dX4_takeVerifying_7 : decode cX4_takeVerifying 7 = .ok (.aload_n 1, 1) := by decide +kernel
theorem dX4_takeVerifying_8 : decode cX4_takeVerifying 8 = .ok (.aload_n 0, 1) := by decide +kernel
theorem dX4_takeVerifying_9 : decode cX4_takeVerifying 9 = .ok (.getfield 59, 3) := by decide +kernel
theorem dX4_takeVerifying_12 : decode cX4_takeVerifying 12 = .ok (.aload_n 2, 1) := by decide +kernel
theorem dX4_takeVerifying_13 : decode cX4_takeVerifying 13 = .ok (.iload_n 3, 1) := by decide +kernel
theorem dX4_takeVerifying_14 : decode cX4_takeVerifying 14 = .ok (.invokevirtual 74, 3) := by decide +kernel
theorem dX4_takeVerifying_17 : decode cX4_takeVerifying 17 = .ok (.invokevirtual 131, 3) := by decide +kernel
theorem dX4_takeVerifying_20 : decode cX4_takeVerifying 20 = .ok (.ifCond .eq 9, 3) := by decide +kernel
theorem dX4_takeVerifying_23 : decode cX4_takeVerifying 23 = .ok (.aload_n 0, 1) := by decide +kernel
theorem dX4_takeVerifying_24 : decode cX4_takeVerifying 24 = .ok (.aload_n 1, 1) := by decide +kernel
theorem dX4_takeVerifying_25 : decode cX4_takeVerifying 25 = .ok (.invokevirtual 100, 3) := by decide +kernel
theorem dX4_takeVerifying_28 : decode cX4_takeVerifying 28 = .ok (.return_, 1) := by decide +kernel
theorem dX4_takeVerifying_29 : decode cX4_takeVerifying 29 = .ok (.aload_n 0, 1) := by decide +kernel
theorem dX4_takeVerifying_30 : decode cX4_takeVerifying 30 = .ok (.aload_n 1, 1) := by decide +kernel
theorem dX4_takeVerifying_31 : decode cX4_takeVerifying 31 = .ok (.invokevirtual 135, 3) := by decide +kernel
theorem dX4_takeVerifying_34 : decode cX4_takeVerifying 34 = .ok (.aload_n 0, 1) := by decide +kernel
theorem dX4_takeVerifying_35 : decode cX4_takeVerifying 35 = .ok (.aload_n 1, 1) := by decide +kernel
theorem dX4_takeVerifying_36 : decode cX4_takeVerifying 36 = .ok (.invokevirtual 138, 3) := by decide +kernel
theorem dX4_takeVerifying_39 : decode cX4_takeVerifying 39 = .ok (.ifCond .ne 4, 3) := by decide +kernel
theorem dX4_takeVerifying_42 : decode cX4_takeVerifying 42 = .ok (.return_, 1) := by decide +kernel
theorem dX4_takeVerifying_43 : decode cX4_takeVerifying 43 = .ok (.aload_n 1, 1) := by decide +kernel
theorem dX4_takeVerifying_44 : decode cX4_takeVerifying 44 = .ok (.aload_n 2, 1) := by decide +kernel
theorem dX4_takeVerifying_45 : decode cX4_takeVerifying 45 = .ok (.iload_n 3, 1) := by decide +kernel
theorem dX4_takeVerifying_46 : decode cX4_takeVerifying 46 = .ok (.iconst 1, 1) := by decide +kernel
theorem dX4_takeVerifying_47 : decode cX4_takeVerifying 47 = .ok (.iadd, 1) := by decide +kernel
theorem dX4_takeVerifying_48 : decode cX4_takeVerifying 48 = .ok (.aload_n 1, 1) := by decide +kernel
theorem dX4_takeVerifying_49 : decode cX4_takeVerifying 49 = .ok (.getfield 113, 3) := by decide +kernel
theorem dX4_takeVerifying_52 : decode cX4_takeVerifying 52 = .ok (.isub, 1) := by decide +kernel
theorem dX4_takeVerifying_53 : decode cX4_takeVerifying 53 = .ok (.invokevirtual 142, 3) := by decide +kernel
theorem dX4_takeVerifying_56 : decode cX4_takeVerifying 56 = .ok (.ifCond .eq 10, 3) := by decide +kernel
theorem dX4_takeVerifying_59 : decode cX4_takeVerifying 59 = .ok (.aload_n 0, 1) := by decide +kernel
theorem dX4_takeVerifying_60 : decode cX4_takeVerifying 60 = .ok (.invokevirtual 128, 3) := by decide +kernel
theorem dX4_takeVerifying_63 : decode cX4_takeVerifying 63 = .ok (.goto 18, 3) := by decide +kernel
theorem dX4_takeVerifying_66 : decode cX4_takeVerifying 66 = .ok (.aload_n 0, 1) := by decide +kernel
theorem dX4_takeVerifying_67 : decode cX4_takeVerifying 67 = .ok (.dup, 1) := by decide +kernel
theorem dX4_takeVerifying_68 : decode cX4_takeVerifying 68 = .ok (.getfield 50, 3) := by decide +kernel
theorem dX4_takeVerifying_71 : decode cX4_takeVerifying 71 = .ok (.iconst 1, 1) := by decide +kernel
theorem dX4_takeVerifying_72 : decode cX4_takeVerifying 72 = .ok (.iadd, 1) := by decide +kernel
theorem dX4_takeVerifying_73 : decode cX4_takeVerifying 73 = .ok (.putfield 50, 3) := by decide +kernel
theorem dX4_takeVerifying_76 : decode cX4_takeVerifying 76 = .ok (.aload_n 0, 1) := by decide +kernel
theorem dX4_takeVerifying_77 : decode cX4_takeVerifying 77 = .ok (.aload_n 1, 1) := by decide +kernel
theorem dX4_takeVerifying_78 : decode cX4_takeVerifying 78 = .ok (.invokevirtual 100, 3) := by decide +kernel
theorem dX4_takeVerifying_81 : decode cX4_takeVerifying 81 = .ok (.return_, 1) := by decide +kernel
set_option maxRecDepth 20000 in
theorem ggX4_takeLocked_X2_at : GoodIn wsX4_takeLocked wsX2_at := gi_e e_wsX4_takeLocked e_wsX2_at (by decide +kernel)
set_option maxRecDepth 20000 in
theorem gX4_takeLocked_X2_at : GoodIn wsX4_takeLocked (wsV RX4 74 RX2 yX2_at wsX2_at) := goodIn_app (gi_e e_wsX4_takeLocked (ce fw_3188 (ce fw_3173 (ce fw_3174 (ce fw_1035 (cn))))) (by decide +kernel)) ggX4_takeLocked_X2_at
set_option maxRecDepth 20000 in
theorem ggX4_takeLocked_X4_takeFirst : GoodIn wsX4_takeLocked wsX4_takeFirst := gi_e e_wsX4_takeLocked e_wsX4_takeFirst (by decide +kernel)
set_option maxRecDepth 20000 in
theorem gX4_takeLocked_X4_takeFirst : GoodIn wsX4_takeLocked (wsV RX4 146 RX4 yX4_takeFirst wsX4_takeFirst) := goodIn_app (gi_e e_wsX4_takeLocked (ce fw_3268 (ce fw_3270 (ce fw_12 (ce fw_1031 (cn))))) (by decide +kernel)) ggX4_takeLocked_X4_takeFirst
set_option maxRecDepth 20000 in
theorem ggX4_takeLocked_X4_advance : GoodIn wsX4_takeLocked wsX4_advance := gi_e e_wsX4_takeLocked e_wsX4_advance (by decide +kernel)
set_option maxRecDepth 20000 in
theorem gX4_takeLocked_X4_advance : GoodIn wsX4_takeLocked (wsV RX4 135 RX4 yX4_advance wsX4_advance) := goodIn_app (gi_e e_wsX4_takeLocked (ce fw_3250 (ce fw_3252 (ce fw_9 (ce fw_1031 (cn))))) (by decide +kernel)) ggX4_takeLocked_X4_advance
set_option maxRecDepth 20000 in
theorem ggX4_takeLocked_X7_come : GoodIn wsX4_takeLocked wsX7_come := gi_e e_wsX4_takeLocked e_wsX7_come (by decide +kernel)
set_option maxRecDepth 20000 in
theorem gX4_takeLocked_X7_come : GoodIn wsX4_takeLocked (wsV RX4 149 RX7 yX7_come wsX7_come) := goodIn_app (gi_e e_wsX4_takeLocked (ce fw_3286 (ce fw_3287 (ce fw_3288 (ce fw_1033 (cn))))) (by decide +kernel)) ggX4_takeLocked_X7_come
set_option maxRecDepth 20000 in
theorem ggX4_takeLocked_X4_isJudged : GoodIn wsX4_takeLocked wsX4_isJudged := gi_e e_wsX4_takeLocked e_wsX4_isJudged (by decide +kernel)
set_option maxRecDepth 20000 in
theorem gX4_takeLocked_X4_isJudged : GoodIn wsX4_takeLocked (wsV RX4 138 RX4 yX4_isJudged wsX4_isJudged) := goodIn_app (gi_e e_wsX4_takeLocked (ce fw_3255 (ce fw_3257 (ce fw_10 (ce fw_1031 (cn))))) (by decide +kernel)) ggX4_takeLocked_X4_isJudged
set_option maxRecDepth 20000 in
theorem ggX4_takeLocked_X5_checksHold : GoodIn wsX4_takeLocked wsX5_checksHold := gi_e e_wsX4_takeLocked e_wsX5_checksHold (by decide +kernel)
set_option maxRecDepth 20000 in
theorem gX4_takeLocked_X5_checksHold : GoodIn wsX4_takeLocked (wsV RX4 142 RX5 yX5_checksHold wsX5_checksHold) := goodIn_app (gi_e e_wsX4_takeLocked (ce fw_3259 (ce fw_3260 (ce fw_3261 (ce fw_1027 (cn))))) (by decide +kernel)) ggX4_takeLocked_X5_checksHold
theorem dX4_takeLocked_0 : decode cX4_takeLocked 0 = .ok (.aload_n 0, 1) := by decide +kernel
theorem dX4_takeLocked_1 : decode cX4_takeLocked 1 = .ok (.getfield 62, 3) := by decide +kernel
theorem dX4_takeLocked_4 : decode cX4_takeLocked 4 = .ok (.ifCond .ne 22, 3) := by decide +kernel
theorem dX4_takeLocked_7 : decode cX4_takeLocked 7 = .ok (.aload_n 0, 1) := by decide +kernel
theorem dX4_takeLocked_8 : decode cX4_takeLocked 8 = .ok (.aload_n 1, 1) := by decide +kernel
theorem dX4_takeLocked_9 : decode cX4_takeLocked 9 = .ok (.aload_n 2, 1) := by decide +kernel
theorem dX4_takeLocked_10 : decode cX4_takeLocked 10 = .ok (.iload_n 3, 1) := by decide +kernel
theorem dX4_takeLocked_11 : decode cX4_takeLocked 11 = .ok (.invokevirtual 74, 3) := by decide +kernel
theorem dX4_takeLocked_14 : decode cX4_takeLocked 14 = .ok (.invokevirtual 146, 3) := by decide +kernel
theorem dX4_takeLocked_17 : decode cX4_takeLocked 17 = .ok (.aload_n 0, 1) := by decide +kernel
theorem dX4_takeLocked_18 : decode cX4_takeLocked 18 = .ok (.getfield 39, 3) := by decide +kernel
theorem dX4_takeLocked_21 : decode cX4_takeLocked 21 = .ok (.iconst 2, 1) := by decide +kernel
theorem dX4_takeLocked_22 : decode cX4_takeLocked 22 = .ok (.if_icmp .eq 4, 3) := by decide +kernel
theorem dX4_takeLocked_25 : decode cX4_takeLocked 25 = .ok (.return_, 1) := by decide +kernel
theorem dX4_takeLocked_26 : decode cX4_takeLocked 26 = .ok (.aload_n 0, 1) := by decide +kernel
theorem dX4_takeLocked_27 : decode cX4_takeLocked 27 = .ok (.getfield 59, 3) := by decide +kernel
theorem dX4_takeLocked_30 : decode cX4_takeLocked 30 = .ok (.istore 4, 2) := by decide +kernel
theorem dX4_takeLocked_32 : decode cX4_takeLocked 32 = .ok (.aload_n 0, 1) := by decide +kernel
theorem dX4_takeLocked_33 : decode cX4_takeLocked 33 = .ok (.aload_n 1, 1) := by decide +kernel
theorem dX4_takeLocked_34 : decode cX4_takeLocked 34 = .ok (.invokevirtual 135, 3) := by decide +kernel
theorem dX4_takeLocked_37 : decode cX4_takeLocked 37 = .ok (.aload_n 0, 1) := by decide +kernel
theorem dX4_takeLocked_38 : decode cX4_takeLocked 38 = .ok (.getfield 62, 3) := by decide +kernel
theorem dX4_takeLocked_41 : decode cX4_takeLocked 41 = .ok (.ifCond .eq 4, 3) := by decide +kernel
theorem dX4_takeLocked_44 : decode cX4_takeLocked 44 = .ok (.return_, 1) := by decide +kernel
theorem dX4_takeLocked_45 : decode cX4_takeLocked 45 = .ok (.aload_n 0, 1) := by decide +kernel
theorem dX4_takeLocked_46 : decode cX4_takeLocked 46 = .ok (.getfield 65, 3) := by decide +kernel
theorem dX4_takeLocked_49 : decode cX4_takeLocked 49 = .ok (.aload_n 1, 1) := by decide +kernel
theorem dX4_takeLocked_50 : decode cX4_takeLocked 50 = .ok (.getfield 116, 3) := by decide +kernel
theorem dX4_takeLocked_53 : decode cX4_takeLocked 53 = .ok (.if_icmp .lt 20, 3) := by decide +kernel
theorem dX4_takeLocked_56 : decode cX4_takeLocked 56 = .ok (.aload_n 0, 1) := by decide +kernel
theorem dX4_takeLocked_57 : decode cX4_takeLocked 57 = .ok (.getfield 21, 3) := by decide +kernel
theorem dX4_takeLocked_60 : decode cX4_takeLocked 60 = .ok (.iload_n 3, 1) := by decide +kernel
theorem dX4_takeLocked_61 : decode cX4_takeLocked 61 = .ok (.iconst 1, 1) := by decide +kernel
theorem dX4_takeLocked_62 : decode cX4_takeLocked 62 = .ok (.iadd, 1) := by decide +kernel
theorem dX4_takeLocked_63 : decode cX4_takeLocked 63 = .ok (.aload_n 1, 1) := by decide +kernel
theorem dX4_takeLocked_64 : decode cX4_takeLocked 64 = .ok (.getfield 116, 3) := by decide +kernel
theorem dX4_takeLocked_67 : decode cX4_takeLocked 67 = .ok (.isub, 1) := by decide +kernel
theorem dX4_takeLocked_68 : decode cX4_takeLocked 68 = .ok (.iload 4, 2) := by decide +kernel
theorem dX4_takeLocked_70 : decode cX4_takeLocked 70 = .ok (.invokevirtual 149, 3) := by decide +kernel
theorem dX4_takeLocked_73 : decode cX4_takeLocked 73 = .ok (.aload_n 0, 1) := by decide +kernel
theorem dX4_takeLocked_74 : decode cX4_takeLocked 74 = .ok (.aload_n 1, 1) := by decide +kernel
theorem dX4_takeLocked_75 : decode cX4_takeLocked 75 = .ok (.invokevirtual 138, 3) := by decide +kernel
theorem dX4_takeLocked_78 : decode cX4_takeLocked 78 = .ok (.ifCond .eq 29, 3) := by decide +kernel
theorem dX4_takeLocked_81 : decode cX4_takeLocked 81 = .ok (.aload_n 1, 1) := by decide +kernel
theorem dX4_takeLocked_82 : decode cX4_takeLocked 82 = .ok (.aload_n 2, 1) := by decide +kernel
theorem dX4_takeLocked_83 : decode cX4_takeLocked 83 = .ok (.iload_n 3, 1) := by decide +kernel
theorem dX4_takeLocked_84 : decode cX4_takeLocked 84 = .ok (.iconst 1, 1) := by decide +kernel
theorem dX4_takeLocked_85 : decode cX4_takeLocked 85 = .ok (.iadd, 1) := by decide +kernel
theorem dX4_takeLocked_86 : decode cX4_takeLocked 86 = .ok (.aload_n 1, 1) := by decide +kernel
theorem dX4_takeLocked_87 : decode cX4_takeLocked 87 = .ok (.getfield 113, 3) := by decide +kernel
theorem dX4_takeLocked_90 : decode cX4_takeLocked 90 = .ok (.isub, 1) := by decide +kernel
theorem dX4_takeLocked_91 : decode cX4_takeLocked 91 = .ok (.invokevirtual 142, 3) := by decide +kernel
theorem dX4_takeLocked_94 : decode cX4_takeLocked 94 = .ok (.ifCond .ne 13, 3) := by decide +kernel
theorem dX4_takeLocked_97 : decode cX4_takeLocked 97 = .ok (.aload_n 0, 1) := by decide +kernel
theorem dX4_takeLocked_98 : decode cX4_takeLocked 98 = .ok (.dup, 1) := by decide +kernel
theorem dX4_takeLocked_99 : decode cX4_takeLocked 99 = .ok (.getfield 71, 3) := by decide +kernel
theorem dX4_takeLocked_102 : decode cX4_takeLocked 102 = .ok (.iconst 1, 1) := by decide +kernel
theorem dX4_takeLocked_103 : decode cX4_takeLocked 103 = .ok (.iadd, 1) := by decide +kernel
theorem dX4_takeLocked_104 : decode cX4_takeLocked 104 = .ok (.putfield 71, 3) := by decide +kernel
theorem dX4_takeLocked_107 : decode cX4_takeLocked 107 = .ok (.return_, 1) := by decide +kernel
set_option maxRecDepth 20000 in
theorem ggX4_takeFirst_X5_isFixed : GoodIn wsX4_takeFirst wsX5_isFixed := gi_e e_wsX4_takeFirst e_wsX5_isFixed (by decide +kernel)
set_option maxRecDepth 20000 in
theorem gX4_takeFirst_X5_isFixed : GoodIn wsX4_takeFirst (wsV RX4 153 RX5 yX5_isFixed wsX5_isFixed) := goodIn_app (gi_e e_wsX4_takeFirst (ce fw_3272 (ce fw_3273 (ce fw_3274 (ce fw_1027 (cn))))) (by decide +kernel)) ggX4_takeFirst_X5_isFixed
set_option maxRecDepth 20000 in
theorem ggX4_takeFirst_X5_isOther : GoodIn wsX4_takeFirst wsX5_isOther := gi_e e_wsX4_takeFirst e_wsX5_isOther (by decide +kernel)
set_option maxRecDepth 20000 in
theorem gX4_takeFirst_X5_isOther : GoodIn wsX4_takeFirst (wsV RX4 131 RX5 yX5_isOther wsX5_isOther) := goodIn_app (gi_e e_wsX4_takeFirst (ce fw_3246 (ce fw_3247 (ce fw_3248 (ce fw_1027 (cn))))) (by decide +kernel)) ggX4_takeFirst_X5_isOther
set_option maxRecDepth 20000 in
theorem ggX4_takeFirst_J6_bitCount_0f7a4 : GoodIn wsX4_takeFirst wsJ6_bitCount_0f7a4 := gi_e e_wsX4_takeFirst e_wsJ6_bitCount_0f7a4 (by decide +kernel)
set_option maxRecDepth 20000 in
theorem gX4_takeFirst_J6_bitCount_0f7a4 : GoodIn wsX4_takeFirst (va_wsS RX4 160 yJ6_bitCount_0f7a4 wsJ6_bitCount_0f7a4) := goodIn_app (gi_e e_wsX4_takeFirst (ce fw_3276 (ce fw_3198 (ce fw_1039 (cn)))) (by decide +kernel)) ggX4_takeFirst_J6_bitCount_0f7a4
set_option maxRecDepth 20000 in
theorem ggX4_takeFirst_X4_huntAnew : GoodIn wsX4_takeFirst wsX4_huntAnew := gi_e e_wsX4_takeFirst e_wsX4_huntAnew (by decide +kernel)
set_option maxRecDepth 20000 in
theorem gX4_takeFirst_X4_huntAnew : GoodIn wsX4_takeFirst (wsV RX4 100 RX4 yX4_huntAnew wsX4_huntAnew) := goodIn_app (gi_e e_wsX4_takeFirst (ce fw_3207 (ce fw_3209 (ce fw_5 (ce fw_1031 (cn))))) (by decide +kernel)) ggX4_takeFirst_X4_huntAnew
set_option maxRecDepth 20000 in
theorem ggX4_takeFirst_X5_roleAt : GoodIn wsX4_takeFirst wsX5_roleAt := gi_e e_wsX4_takeFirst e_wsX5_roleAt (by decide +kernel)
set_option maxRecDepth 20000 in
theorem gX4_takeFirst_X5_roleAt : GoodIn wsX4_takeFirst (wsV RX4 168 RX5 yX5_roleAt wsX5_roleAt) := goodIn_app (gi_e e_wsX4_takeFirst (ce fw_3277 (ce fw_3151 (ce fw_3152 (ce fw_1027 (cn))))) (by decide +kernel)) ggX4_takeFirst_X5_roleAt
set_option maxRecDepth 20000 in
theorem ggX4_takeFirst_X0_take : GoodIn wsX4_takeFirst wsX0_take := gi_e e_wsX4_takeFirst e_wsX0_take (by decide +kernel)
set_option maxRecDepth 20000 in
theorem gX4_takeFirst_X0_take : GoodIn wsX4_takeFirst (wsV RX4 171 RX0 yX0_take wsX0_take) := goodIn_app (gi_e e_wsX4_takeFirst (ce fw_3278 (ce fw_3279 (ce fw_3280 (ce fw_1034 (cn))))) (by decide +kernel)) ggX4_takeFirst_X0_take
theorem dX4_takeFirst_0 : decode cX4_takeFirst 0 = .ok (.aload_n 1, 1) := by decide +kernel
theorem dX4_takeFirst_1 : decode cX4_takeFirst 1 = .ok (.aload_n 0, 1) := by decide +kernel
theorem dX4_takeFirst_2 : decode cX4_takeFirst 2 = .ok (.getfield 59, 3) := by decide +kernel
theorem dX4_takeFirst_5 : decode cX4_takeFirst 5 = .ok (.invokevirtual 153, 3) := by decide +kernel
theorem dX4_takeFirst_8 : decode cX4_takeFirst 8 = .ok (.ifCond .eq 74, 3) := by decide +kernel
theorem dX4_takeFirst_11 : decode cX4_takeFirst 11 = .ok (.aload_n 1, 1) := by decide +kernel
theorem dX4_takeFirst_12 : decode cX4_takeFirst 12 = .ok (.aload_n 0, 1) := by decide +kernel
theorem dX4_takeFirst_13 : decode cX4_takeFirst 13 = .ok (.getfield 59, 3) := by decide +kernel
theorem dX4_takeFirst_16 : decode cX4_takeFirst 16 = .ok (.iload_n 2, 1) := by decide +kernel
theorem dX4_takeFirst_17 : decode cX4_takeFirst 17 = .ok (.invokevirtual 131, 3) := by decide +kernel
theorem dX4_takeFirst_20 : decode cX4_takeFirst 20 = .ok (.ifCond .eq 7, 3) := by decide +kernel
theorem dX4_takeFirst_23 : decode cX4_takeFirst 23 = .ok (.iconst 1, 1) := by decide +kernel
theorem dX4_takeFirst_24 : decode cX4_takeFirst 24 = .ok (.goto 4, 3) := by decide +kernel
theorem dX4_takeFirst_27 : decode cX4_takeFirst 27 = .ok (.iconst 0, 1) := by decide +kernel
theorem dX4_takeFirst_28 : decode cX4_takeFirst 28 = .ok (.istore_n 3, 1) := by decide +kernel
theorem dX4_takeFirst_29 : decode cX4_takeFirst 29 = .ok (.aload_n 0, 1) := by decide +kernel
theorem dX4_takeFirst_30 : decode cX4_takeFirst 30 = .ok (.aload_n 0, 1) := by decide +kernel
theorem dX4_takeFirst_31 : decode cX4_takeFirst 31 = .ok (.getfield 68, 3) := by decide +kernel
theorem dX4_takeFirst_34 : decode cX4_takeFirst 34 = .ok (.iconst 1, 1) := by decide +kernel
theorem dX4_takeFirst_35 : decode cX4_takeFirst 35 = .ok (.ishl, 1) := by decide +kernel
theorem dX4_takeFirst_36 : decode cX4_takeFirst 36 = .ok (.iload_n 3, 1) := by decide +kernel
theorem dX4_takeFirst_37 : decode cX4_takeFirst 37 = .ok (.ior, 1) := by decide +kernel
theorem dX4_takeFirst_38 : decode cX4_takeFirst 38 = .ok (.iconst 1, 1) := by decide +kernel
theorem dX4_takeFirst_39 : decode cX4_takeFirst 39 = .ok (.aload_n 1, 1) := by decide +kernel
theorem dX4_takeFirst_40 : decode cX4_takeFirst 40 = .ok (.getfield 157, 3) := by decide +kernel
theorem dX4_takeFirst_43 : decode cX4_takeFirst 43 = .ok (.ishl, 1) := by decide +kernel
theorem dX4_takeFirst_44 : decode cX4_takeFirst 44 = .ok (.iconst 1, 1) := by decide +kernel
theorem dX4_takeFirst_45 : decode cX4_takeFirst 45 = .ok (.isub, 1) := by decide +kernel
theorem dX4_takeFirst_46 : decode cX4_takeFirst 46 = .ok (.iand, 1) := by decide +kernel
theorem dX4_takeFirst_47 : decode cX4_takeFirst 47 = .ok (.putfield 68, 3) := by decide +kernel
theorem dX4_takeFirst_50 : decode cX4_takeFirst 50 = .ok (.aload_n 0, 1) := by decide +kernel
theorem dX4_takeFirst_51 : decode cX4_takeFirst 51 = .ok (.getfield 68, 3) := by decide +kernel
theorem dX4_takeFirst_54 : decode cX4_takeFirst 54 = .ok (.invokestatic 160, 3) := by decide +kernel
theorem dX4_takeFirst_57 : decode cX4_takeFirst 57 = .ok (.aload_n 1, 1) := by decide +kernel
theorem dX4_takeFirst_58 : decode cX4_takeFirst 58 = .ok (.getfield 165, 3) := by decide +kernel
theorem dX4_takeFirst_61 : decode cX4_takeFirst 61 = .ok (.if_icmp .lt 18, 3) := by decide +kernel
theorem dX4_takeFirst_64 : decode cX4_takeFirst 64 = .ok (.aload_n 0, 1) := by decide +kernel
theorem dX4_takeFirst_65 : decode cX4_takeFirst 65 = .ok (.dup, 1) := by decide +kernel
theorem dX4_takeFirst_66 : decode cX4_takeFirst 66 = .ok (.getfield 56, 3) := by decide +kernel
theorem dX4_takeFirst_69 : decode cX4_takeFirst 69 = .ok (.iconst 1, 1) := by decide +kernel
theorem dX4_takeFirst_70 : decode cX4_takeFirst 70 = .ok (.iadd, 1) := by decide +kernel
theorem dX4_takeFirst_71 : decode cX4_takeFirst 71 = .ok (.putfield 56, 3) := by decide +kernel
theorem dX4_takeFirst_74 : decode cX4_takeFirst 74 = .ok (.aload_n 0, 1) := by decide +kernel
theorem dX4_takeFirst_75 : decode cX4_takeFirst 75 = .ok (.aload_n 1, 1) := by decide +kernel
theorem dX4_takeFirst_76 : decode cX4_takeFirst 76 = .ok (.invokevirtual 100, 3) := by decide +kernel
theorem dX4_takeFirst_79 : decode cX4_takeFirst 79 = .ok (.goto 23, 3) := by decide +kernel
theorem dX4_takeFirst_82 : decode cX4_takeFirst 82 = .ok (.aload_n 1, 1) := by decide +kernel
theorem dX4_takeFirst_83 : decode cX4_takeFirst 83 = .ok (.aload_n 0, 1) := by decide +kernel
theorem dX4_takeFirst_84 : decode cX4_takeFirst 84 = .ok (.getfield 59, 3) := by decide +kernel
theorem dX4_takeFirst_87 : decode cX4_takeFirst 87 = .ok (.invokevirtual 168, 3) := by decide +kernel
theorem dX4_takeFirst_90 : decode cX4_takeFirst 90 = .ok (.iconst 3, 1) := by decide +kernel
theorem dX4_takeFirst_91 : decode cX4_takeFirst 91 = .ok (.if_icmp .ne 11, 3) := by decide +kernel
theorem dX4_takeFirst_94 : decode cX4_takeFirst 94 = .ok (.aload_n 0, 1) := by decide +kernel
theorem dX4_takeFirst_95 : decode cX4_takeFirst 95 = .ok (.getfield 28, 3) := by decide +kernel
theorem dX4_takeFirst_98 : decode cX4_takeFirst 98 = .ok (.iload_n 2, 1) := by decide +kernel
theorem dX4_takeFirst_99 : decode cX4_takeFirst 99 = .ok (.invokevirtual 171, 3) := by decide +kernel
theorem dX4_takeFirst_102 : decode cX4_takeFirst 102 = .ok (.return_, 1) := by decide +kernel
theorem dX4_isJudged_0 : decode cX4_isJudged 0 = .ok (.aload_n 0, 1) := by decide +kernel
theorem dX4_isJudged_1 : decode cX4_isJudged 1 = .ok (.getfield 59, 3) := by decide +kernel
theorem dX4_isJudged_4 : decode cX4_isJudged 4 = .ok (.ifCond .ne 34, 3) := by decide +kernel
theorem dX4_isJudged_7 : decode cX4_isJudged 7 = .ok (.aload_n 0, 1) := by decide +kernel
theorem dX4_isJudged_8 : decode cX4_isJudged 8 = .ok (.getfield 62, 3) := by decide +kernel
theorem dX4_isJudged_11 : decode cX4_isJudged 11 = .ok (.ifCond .ne 27, 3) := by decide +kernel
theorem dX4_isJudged_14 : decode cX4_isJudged 14 = .ok (.aload_n 1, 1) := by decide +kernel
theorem dX4_isJudged_15 : decode cX4_isJudged 15 = .ok (.getfield 125, 3) := by decide +kernel
theorem dX4_isJudged_18 : decode cX4_isJudged 18 = .ok (.ifCond .le 20, 3) := by decide +kernel
theorem dX4_isJudged_21 : decode cX4_isJudged 21 = .ok (.aload_n 0, 1) := by decide +kernel
theorem dX4_isJudged_22 : decode cX4_isJudged 22 = .ok (.getfield 65, 3) := by decide +kernel
theorem dX4_isJudged_25 : decode cX4_isJudged 25 = .ok (.iconst 2, 1) := by decide +kernel
theorem dX4_isJudged_26 : decode cX4_isJudged 26 = .ok (.aload_n 1, 1) := by decide +kernel
theorem dX4_isJudged_27 : decode cX4_isJudged 27 = .ok (.getfield 113, 3) := by decide +kernel
theorem dX4_isJudged_30 : decode cX4_isJudged 30 = .ok (.imul, 1) := by decide +kernel
theorem dX4_isJudged_31 : decode cX4_isJudged 31 = .ok (.if_icmp .lt 7, 3) := by decide +kernel
theorem dX4_isJudged_34 : decode cX4_isJudged 34 = .ok (.iconst 1, 1) := by decide +kernel
theorem dX4_isJudged_35 : decode cX4_isJudged 35 = .ok (.goto 4, 3) := by decide +kernel
theorem dX4_isJudged_38 : decode cX4_isJudged 38 = .ok (.iconst 0, 1) := by decide +kernel
theorem dX4_isJudged_39 : decode cX4_isJudged 39 = .ok (.ireturn, 1) := by decide +kernel
set_option maxRecDepth 20000 in
theorem ggX4_advance_X5_placeBehind : GoodIn wsX4_advance wsX5_placeBehind := gi_e e_wsX4_advance e_wsX5_placeBehind (by decide +kernel)
set_option maxRecDepth 20000 in
theorem gX4_advance_X5_placeBehind : GoodIn wsX4_advance (wsV RX4 175 RX5 yX5_placeBehind wsX5_placeBehind) := goodIn_app (gi_e e_wsX4_advance (ce fw_3254 (ce fw_3204 (ce fw_3205 (ce fw_1027 (cn))))) (by decide +kernel)) ggX4_advance_X5_placeBehind
theorem dX4_advance_0 : decode cX4_advance 0 = .ok (.aload_n 0, 1) := by decide +kernel
theorem dX4_advance_1 : decode cX4_advance 1 = .ok (.dup, 1) := by decide +kernel
theorem dX4_advance_2 : decode cX4_advance 2 = .ok (.getfield 62, 3) := by decide +kernel
theorem dX4_advance_5 : decode cX4_advance 5 = .ok (.iconst 1, 1) := by decide +kernel
theorem dX4_advance_6 : decode cX4_advance 6 = .ok (.iadd, 1) := by decide +kernel
theorem dX4_advance_7 : decode cX4_advance 7 = .ok (.putfield 62, 3) := by decide +kernel
theorem dX4_advance_10 : decode cX4_advance 10 = .ok (.aload_n 0, 1) := by decide +kernel
theorem dX4_advance_11 : decode cX4_advance 11 = .ok (.getfield 62, 3) := by decide +kernel
theorem dX4_advance_14 : decode cX4_advance 14 = .ok (.aload_n 1, 1) := by decide +kernel
theorem dX4_advance_15 : decode cX4_advance 15 = .ok (.getfield 116, 3) := by decide +kernel
theorem dX4_advance_18 : decode cX4_advance 18 = .ok (.if_icmp .lt 20, 3) := by decide +kernel
theorem dX4_advance_21 : decode cX4_advance 21 = .ok (.aload_n 0, 1) := by decide +kernel
theorem dX4_advance_22 : decode cX4_advance 22 = .ok (.iconst 0, 1) := by decide +kernel
theorem dX4_advance_23 : decode cX4_advance 23 = .ok (.putfield 62, 3) := by decide +kernel
theorem dX4_advance_26 : decode cX4_advance 26 = .ok (.aload_n 0, 1) := by decide +kernel
theorem dX4_advance_27 : decode cX4_advance 27 = .ok (.aload_n 1, 1) := by decide +kernel
theorem dX4_advance_28 : decode cX4_advance 28 = .ok (.aload_n 0, 1) := by decide +kernel
theorem dX4_advance_29 : decode cX4_advance 29 = .ok (.getfield 59, 3) := by decide +kernel
theorem dX4_advance_32 : decode cX4_advance 32 = .ok (.invokevirtual 175, 3) := by decide +kernel
theorem dX4_advance_35 : decode cX4_advance 35 = .ok (.putfield 59, 3) := by decide +kernel
theorem dX4_advance_38 : decode cX4_advance 38 = .ok (.return_, 1) := by decide +kernel
set_option maxRecDepth 20000 in
theorem ggX4_lock_X0_forget : GoodIn wsX4_lock wsX0_forget := gi_e e_wsX4_lock e_wsX0_forget (by decide +kernel)
set_option maxRecDepth 20000 in
theorem gX4_lock_X0_forget : GoodIn wsX4_lock (wsV RX4 178 RX0 yX0_forget wsX0_forget) := goodIn_app (gi_e e_wsX4_lock (ce fw_3241 (ce fw_2146 (ce fw_2147 (ce fw_1034 (cn))))) (by decide +kernel)) ggX4_lock_X0_forget
theorem dX4_lock_0 : decode cX4_lock 0 = .ok (.aload_n 0, 1) := by decide +kernel
theorem dX4_lock_1 : decode cX4_lock 1 = .ok (.iconst 2, 1) := by decide +kernel
theorem dX4_lock_2 : decode cX4_lock 2 = .ok (.putfield 39, 3) := by decide +kernel
theorem dX4_lock_5 : decode cX4_lock 5 = .ok (.aload_n 0, 1) := by decide +kernel
theorem dX4_lock_6 : decode cX4_lock 6 = .ok (.dup, 1) := by decide +kernel
theorem dX4_lock_7 : decode cX4_lock 7 = .ok (.getfield 53, 3) := by decide +kernel
theorem dX4_lock_10 : decode cX4_lock 10 = .ok (.iconst 1, 1) := by decide +kernel
theorem dX4_lock_11 : decode cX4_lock 11 = .ok (.iadd, 1) := by decide +kernel
theorem dX4_lock_12 : decode cX4_lock 12 = .ok (.putfield 53, 3) := by decide +kernel
theorem dX4_lock_15 : decode cX4_lock 15 = .ok (.aload_n 0, 1) := by decide +kernel
theorem dX4_lock_16 : decode cX4_lock 16 = .ok (.iconst 0, 1) := by decide +kernel
theorem dX4_lock_17 : decode cX4_lock 17 = .ok (.putfield 65, 3) := by decide +kernel
theorem dX4_lock_20 : decode cX4_lock 20 = .ok (.aload_n 0, 1) := by decide +kernel
theorem dX4_lock_21 : decode cX4_lock 21 = .ok (.iconst 0, 1) := by decide +kernel
theorem dX4_lock_22 : decode cX4_lock 22 = .ok (.putfield 68, 3) := by decide +kernel
theorem dX4_lock_25 : decode cX4_lock 25 = .ok (.aload_n 0, 1) := by decide +kernel
theorem dX4_lock_26 : decode cX4_lock 26 = .ok (.getfield 28, 3) := by decide +kernel
theorem dX4_lock_29 : decode cX4_lock 29 = .ok (.invokevirtual 178, 3) := by decide +kernel
theorem dX4_lock_32 : decode cX4_lock 32 = .ok (.return_, 1) := by decide +kernel
set_option maxRecDepth 20000 in
theorem ggX4_huntAnew_X1_begin : GoodIn wsX4_huntAnew wsX1_begin := gi_e e_wsX4_huntAnew e_wsX1_begin (by decide +kernel)
set_option maxRecDepth 20000 in
theorem gX4_huntAnew_X1_begin : GoodIn wsX4_huntAnew (wsV RX4 43 RX1 yX1_begin wsX1_begin) := goodIn_app (gi_e e_wsX4_huntAnew (ce fw_2133 (ce fw_2134 (ce fw_2135 (ce fw_1032 (cn))))) (by decide +kernel)) ggX4_huntAnew_X1_begin
theorem dX4_huntAnew_0 : decode cX4_huntAnew 0 = .ok (.aload_n 0, 1) := by decide +kernel
theorem dX4_huntAnew_1 : decode cX4_huntAnew 1 = .ok (.iconst 0, 1) := by decide +kernel
theorem dX4_huntAnew_2 : decode cX4_huntAnew 2 = .ok (.putfield 39, 3) := by decide +kernel
theorem dX4_huntAnew_5 : decode cX4_huntAnew 5 = .ok (.aload_n 0, 1) := by decide +kernel
theorem dX4_huntAnew_6 : decode cX4_huntAnew 6 = .ok (.dup, 1) := by decide +kernel
theorem dX4_huntAnew_7 : decode cX4_huntAnew 7 = .ok (.getfield 47, 3) := by decide +kernel
theorem dX4_huntAnew_10 : decode cX4_huntAnew 10 = .ok (.iconst 1, 1) := by decide +kernel
theorem dX4_huntAnew_11 : decode cX4_huntAnew 11 = .ok (.iadd, 1) := by decide +kernel
theorem dX4_huntAnew_12 : decode cX4_huntAnew 12 = .ok (.putfield 47, 3) := by decide +kernel
theorem dX4_huntAnew_15 : decode cX4_huntAnew 15 = .ok (.aload_n 0, 1) := by decide +kernel
theorem dX4_huntAnew_16 : decode cX4_huntAnew 16 = .ok (.iconst 0, 1) := by decide +kernel
theorem dX4_huntAnew_17 : decode cX4_huntAnew 17 = .ok (.putfield 65, 3) := by decide +kernel
theorem dX4_huntAnew_20 : decode cX4_huntAnew 20 = .ok (.aload_n 0, 1) := by decide +kernel
theorem dX4_huntAnew_21 : decode cX4_huntAnew 21 = .ok (.getfield 12, 3) := by decide +kernel
theorem dX4_huntAnew_24 : decode cX4_huntAnew 24 = .ok (.aload_n 1, 1) := by decide +kernel
theorem dX4_huntAnew_25 : decode cX4_huntAnew 25 = .ok (.invokevirtual 43, 3) := by decide +kernel
theorem dX4_huntAnew_28 : decode cX4_huntAnew 28 = .ok (.return_, 1) := by decide +kernel
set_option maxRecDepth 20000 in
theorem ggX4_tell_J6_bitCount_0f7a4 : GoodIn wsX4_tell wsJ6_bitCount_0f7a4 := gi_e e_wsX4_tell e_wsJ6_bitCount_0f7a4 (by decide +kernel)
set_option maxRecDepth 20000 in
theorem gX4_tell_J6_bitCount_0f7a4 : GoodIn wsX4_tell (va_wsS RX4 160 yJ6_bitCount_0f7a4 wsJ6_bitCount_0f7a4) := goodIn_app (gi_e e_wsX4_tell (ce fw_3276 (ce fw_3198 (ce fw_1039 (cn)))) (by decide +kernel)) ggX4_tell_J6_bitCount_0f7a4
theorem dX4_tell_0 : decode cX4_tell 0 = .ok (.iload_n 2, 1) := by decide +kernel
theorem dX4_tell_1 : decode cX4_tell 1 = .ok (.tableswitch 251 0 17 #[87, 92, 111, 116, 121, 126, 131, 157, 162, 182, 187, 195, 203, 211, 219, 227, 235, 243], 87) := by decide +kernel
theorem dX4_tell_88 : decode cX4_tell 88 = .ok (.aload_n 0, 1) := by decide +kernel
theorem dX4_tell_89 : decode cX4_tell 89 = .ok (.getfield 39, 3) := by decide +kernel
theorem dX4_tell_92 : decode cX4_tell 92 = .ok (.ireturn, 1) := by decide +kernel
theorem dX4_tell_93 : decode cX4_tell 93 = .ok (.aload_n 0, 1) := by decide +kernel
theorem dX4_tell_94 : decode cX4_tell 94 = .ok (.getfield 39, 3) := by decide +kernel
theorem dX4_tell_97 : decode cX4_tell 97 = .ok (.ifCond .ne 13, 3) := by decide +kernel
theorem dX4_tell_100 : decode cX4_tell 100 = .ok (.aload_n 0, 1) := by decide +kernel
theorem dX4_tell_101 : decode cX4_tell 101 = .ok (.getfield 12, 3) := by decide +kernel
theorem dX4_tell_104 : decode cX4_tell 104 = .ok (.getfield 97, 3) := by decide +kernel
theorem dX4_tell_107 : decode cX4_tell 107 = .ok (.goto 4, 3) := by decide +kernel
theorem dX4_tell_110 : decode cX4_tell 110 = .ok (.iconst 1, 1) := by decide +kernel
theorem dX4_tell_111 : decode cX4_tell 111 = .ok (.ireturn, 1) := by decide +kernel
theorem dX4_tell_112 : decode cX4_tell 112 = .ok (.aload_n 0, 1) := by decide +kernel
theorem dX4_tell_113 : decode cX4_tell 113 = .ok (.getfield 47, 3) := by decide +kernel
theorem dX4_tell_116 : decode cX4_tell 116 = .ok (.ireturn, 1) := by decide +kernel
theorem dX4_tell_117 : decode cX4_tell 117 = .ok (.aload_n 0, 1) := by decide +kernel
theorem dX4_tell_118 : decode cX4_tell 118 = .ok (.getfield 50, 3) := by decide +kernel
theorem dX4_tell_121 : decode cX4_tell 121 = .ok (.ireturn, 1) := by decide +kernel
theorem dX4_tell_122 : decode cX4_tell 122 = .ok (.aload_n 0, 1) := by decide +kernel
theorem dX4_tell_123 : decode cX4_tell 123 = .ok (.getfield 53, 3) := by decide +kernel
theorem dX4_tell_126 : decode cX4_tell 126 = .ok (.ireturn, 1) := by decide +kernel
theorem dX4_tell_127 : decode cX4_tell 127 = .ok (.aload_n 0, 1) := by decide +kernel
theorem dX4_tell_128 : decode cX4_tell 128 = .ok (.getfield 56, 3) := by decide +kernel
theorem dX4_tell_131 : decode cX4_tell 131 = .ok (.ireturn, 1) := by decide +kernel
theorem dX4_tell_132 : decode cX4_tell 132 = .ok (.aload_n 0, 1) := by decide +kernel
theorem dX4_tell_133 : decode cX4_tell 133 = .ok (.getfield 39, 3) := by decide +kernel
theorem dX4_tell_136 : decode cX4_tell 136 = .ok (.ifCond .ne 7, 3) := by decide +kernel
theorem dX4_tell_139 : decode cX4_tell 139 = .ok (.iconst (-1), 1) := by decide +kernel
theorem dX4_tell_140 : decode cX4_tell 140 = .ok (.goto 17, 3) := by decide +kernel
theorem dX4_tell_143 : decode cX4_tell 143 = .ok (.aload_n 0, 1) := by decide +kernel
theorem dX4_tell_144 : decode cX4_tell 144 = .ok (.getfield 59, 3) := by decide +kernel
theorem dX4_tell_147 : decode cX4_tell 147 = .ok (.aload_n 1, 1) := by decide +kernel
theorem dX4_tell_148 : decode cX4_tell 148 = .ok (.getfield 116, 3) := by decide +kernel
theorem dX4_tell_151 : decode cX4_tell 151 = .ok (.imul, 1) := by decide +kernel
theorem dX4_tell_152 : decode cX4_tell 152 = .ok (.aload_n 0, 1) := by decide +kernel
theorem dX4_tell_153 : decode cX4_tell 153 = .ok (.getfield 62, 3) := by decide +kernel
theorem dX4_tell_156 : decode cX4_tell 156 = .ok (.iadd, 1) := by decide +kernel
theorem dX4_tell_157 : decode cX4_tell 157 = .ok (.ireturn, 1) := by decide +kernel
theorem dX4_tell_158 : decode cX4_tell 158 = .ok (.aload_n 0, 1) := by decide +kernel
theorem dX4_tell_159 : decode cX4_tell 159 = .ok (.getfield 65, 3) := by decide +kernel
theorem dX4_tell_162 : decode cX4_tell 162 = .ok (.ireturn, 1) := by decide +kernel
theorem dX4_tell_163 : decode cX4_tell 163 = .ok (.aload_n 0, 1) := by decide +kernel
theorem dX4_tell_164 : decode cX4_tell 164 = .ok (.getfield 39, 3) := by decide +kernel
theorem dX4_tell_167 : decode cX4_tell 167 = .ok (.iconst 2, 1) := by decide +kernel
theorem dX4_tell_168 : decode cX4_tell 168 = .ok (.if_icmp .ne 13, 3) := by decide +kernel
theorem dX4_tell_171 : decode cX4_tell 171 = .ok (.aload_n 0, 1) := by decide +kernel
theorem dX4_tell_172 : decode cX4_tell 172 = .ok (.getfield 68, 3) := by decide +kernel
theorem dX4_tell_175 : decode cX4_tell 175 = .ok (.invokestatic 160, 3) := by decide +kernel
theorem dX4_tell_178 : decode cX4_tell 178 = .ok (.goto 4, 3) := by decide +kernel
theorem dX4_tell_181 : decode cX4_tell 181 = .ok (.iconst 0, 1) := by decide +kernel
theorem dX4_tell_182 : decode cX4_tell 182 = .ok (.ireturn, 1) := by decide +kernel
theorem dX4_tell_183 : decode cX4_tell 183 = .ok (.aload_n 0, 1) := by decide +kernel
theorem dX4_tell_184 : decode cX4_tell 184 = .ok (.getfield 71, 3) := by decide +kernel
theorem dX4_tell_187 : decode cX4_tell 187 = .ok (.ireturn, 1) := by decide +kernel
theorem dX4_tell_188 : decode cX4_tell 188 = .ok (.aload_n 0, 1) := by decide +kernel
theorem dX4_tell_189 : decode cX4_tell 189 = .ok (.getfield 21, 3) := by decide +kernel
theorem dX4_tell_192 : decode cX4_tell 192 = .ok (.getfield 181, 3) := by decide +kernel
theorem dX4_tell_195 : decode cX4_tell 195 = .ok (.ireturn, 1) := by decide +kernel
theorem dX4_tell_196 : decode cX4_tell 196 = .ok (.aload_n 0, 1) := by decide +kernel
theorem dX4_tell_197 : decode cX4_tell 197 = .ok (.getfield 21, 3) := by decide +kernel
theorem dX4_tell_200 : decode cX4_tell 200 = .ok (.getfield 184, 3) := by decide +kernel
theorem dX4_tell_203 : decode cX4_tell 203 = .ok (.ireturn, 1) := by decide +kernel
theorem dX4_tell_204 : decode cX4_tell 204 = .ok (.aload_n 0, 1) := by decide +kernel
theorem dX4_tell_205 : decode cX4_tell 205 = .ok (.getfield 21, 3) := by decide +kernel
theorem dX4_tell_208 : decode cX4_tell 208 = .ok (.getfield 187, 3) := by decide +kernel
theorem dX4_tell_211 : decode cX4_tell 211 = .ok (.ireturn, 1) := by decide +kernel
theorem dX4_tell_212 : decode cX4_tell 212 = .ok (.aload_n 0, 1) := by decide +kernel
theorem dX4_tell_213 : decode cX4_tell 213 = .ok (.getfield 21, 3) := by decide +kernel
theorem dX4_tell_216 : decode cX4_tell 216 = .ok (.getfield 190, 3) := by decide +kernel
theorem dX4_tell_219 : decode cX4_tell 219 = .ok (.ireturn, 1) := by decide +kernel
theorem dX4_tell_220 : decode cX4_tell 220 = .ok (.aload_n 0, 1) := by decide +kernel
theorem dX4_tell_221 : decode cX4_tell 221 = .ok (.getfield 21, 3) := by decide +kernel
theorem dX4_tell_224 : decode cX4_tell 224 = .ok (.getfield 193, 3) := by decide +kernel
theorem dX4_tell_227 : decode cX4_tell 227 = .ok (.ireturn, 1) := by decide +kernel
theorem dX4_tell_228 : decode cX4_tell 228 = .ok (.aload_n 0, 1) := by decide +kernel
theorem dX4_tell_229 : decode cX4_tell 229 = .ok (.getfield 21, 3) := by decide +kernel
theorem dX4_tell_232 : decode cX4_tell 232 = .ok (.getfield 196, 3) := by decide +kernel
theorem dX4_tell_235 : decode cX4_tell 235 = .ok (.ireturn, 1) := by decide +kernel
theorem dX4_tell_236 : decode cX4_tell 236 = .ok (.aload_n 0, 1) := by decide +kernel
theorem dX4_tell_237 : decode cX4_tell 237 = .ok (.getfield 28, 3) := by decide +kernel
theorem dX4_tell_240 : decode cX4_tell 240 = .ok (.getfield 199, 3) := by decide +kernel
theorem dX4_tell_243 : decode cX4_tell 243 = .ok (.ireturn, 1) := by decide +kernel
theorem dX4_tell_244 : decode cX4_tell 244 = .ok (.aload_n 0, 1) := by decide +kernel
theorem dX4_tell_245 : decode cX4_tell 245 = .ok (.getfield 28, 3) := by decide +kernel
theorem dX4_tell_248 : decode cX4_tell 248 = .ok (.getfield 202, 3) := by decide +kernel
theorem dX4_tell_251 : decode cX4_tell 251 = .ok (.ireturn, 1) := by decide +kernel
theorem dX4_tell_252 : decode cX4_tell 252 = .ok (.iconst (-1), 1) := by decide +kernel
theorem dX4_tell_253 : decode cX4_tell 253 = .ok (.ireturn, 1) := by decide +kernel
set_option maxRecDepth 20000 in
theorem ggX4_copyFrom_X1_copyFrom : GoodIn wsX4_copyFrom wsX1_copyFrom := gi_e e_wsX4_copyFrom e_wsX1_copyFrom (by decide +kernel)
set_option maxRecDepth 20000 in
theorem gX4_copyFrom_X1_copyFrom : GoodIn wsX4_copyFrom (wsV RX4 205 RX1 yX1_copyFrom wsX1_copyFrom) := goodIn_app (gi_e e_wsX4_copyFrom (ce fw_3120 (ce fw_3121 (ce fw_3122 (ce fw_1032 (cn))))) (by decide +kernel)) ggX4_copyFrom_X1_copyFrom
set_option maxRecDepth 20000 in
theorem ggX4_copyFrom_X7_copyFrom : GoodIn wsX4_copyFrom wsX7_copyFrom := gi_e e_wsX4_copyFrom e_wsX7_copyFrom (by decide +kernel)
set_option maxRecDepth 20000 in
theorem gX4_copyFrom_X7_copyFrom : GoodIn wsX4_copyFrom (wsV RX4 209 RX7 yX7_copyFrom wsX7_copyFrom) := goodIn_app (gi_e e_wsX4_copyFrom (ce fw_3125 (ce fw_3126 (ce fw_3127 (ce fw_1033 (cn))))) (by decide +kernel)) ggX4_copyFrom_X7_copyFrom
set_option maxRecDepth 20000 in
theorem ggX4_copyFrom_X0_copyFrom : GoodIn wsX4_copyFrom wsX0_copyFrom := gi_e e_wsX4_copyFrom e_wsX0_copyFrom (by decide +kernel)
set_option maxRecDepth 20000 in
theorem gX4_copyFrom_X0_copyFrom : GoodIn wsX4_copyFrom (wsV RX4 212 RX0 yX0_copyFrom wsX0_copyFrom) := goodIn_app (gi_e e_wsX4_copyFrom (ce fw_3129 (ce fw_3130 (ce fw_3131 (ce fw_1034 (cn))))) (by decide +kernel)) ggX4_copyFrom_X0_copyFrom
theorem dX4_copyFrom_0 : decode cX4_copyFrom 0 = .ok (.aload_n 0, 1) := by decide +kernel
theorem dX4_copyFrom_1 : decode cX4_copyFrom 1 = .ok (.aload_n 1, 1) := by decide +kernel
theorem dX4_copyFrom_2 : decode cX4_copyFrom 2 = .ok (.getfield 39, 3) := by decide +kernel
theorem dX4_copyFrom_5 : decode cX4_copyFrom 5 = .ok (.putfield 39, 3) := by decide +kernel
theorem dX4_copyFrom_8 : decode cX4_copyFrom 8 = .ok (.aload_n 0, 1) := by decide +kernel
theorem dX4_copyFrom_9 : decode cX4_copyFrom 9 = .ok (.getfield 12, 3) := by decide +kernel
theorem dX4_copyFrom_12 : decode cX4_copyFrom 12 = .ok (.aload_n 1, 1) := by decide +kernel
theorem dX4_copyFrom_13 : decode cX4_copyFrom 13 = .ok (.getfield 12, 3) := by decide +kernel
theorem dX4_copyFrom_16 : decode cX4_copyFrom 16 = .ok (.invokevirtual 205, 3) := by decide +kernel
theorem dX4_copyFrom_19 : decode cX4_copyFrom 19 = .ok (.aload_n 0, 1) := by decide +kernel
theorem dX4_copyFrom_20 : decode cX4_copyFrom 20 = .ok (.getfield 21, 3) := by decide +kernel
theorem dX4_copyFrom_23 : decode cX4_copyFrom 23 = .ok (.aload_n 1, 1) := by decide +kernel
theorem dX4_copyFrom_24 : decode cX4_copyFrom 24 = .ok (.getfield 21, 3) := by decide +kernel
theorem dX4_copyFrom_27 : decode cX4_copyFrom 27 = .ok (.invokevirtual 209, 3) := by decide +kernel
theorem dX4_copyFrom_30 : decode cX4_copyFrom 30 = .ok (.aload_n 0, 1) := by decide +kernel
theorem dX4_copyFrom_31 : decode cX4_copyFrom 31 = .ok (.getfield 28, 3) := by decide +kernel
theorem dX4_copyFrom_34 : decode cX4_copyFrom 34 = .ok (.aload_n 1, 1) := by decide +kernel
theorem dX4_copyFrom_35 : decode cX4_copyFrom 35 = .ok (.getfield 28, 3) := by decide +kernel
theorem dX4_copyFrom_38 : decode cX4_copyFrom 38 = .ok (.invokevirtual 212, 3) := by decide +kernel
theorem dX4_copyFrom_41 : decode cX4_copyFrom 41 = .ok (.aload_n 0, 1) := by decide +kernel
theorem dX4_copyFrom_42 : decode cX4_copyFrom 42 = .ok (.aload_n 1, 1) := by decide +kernel
theorem dX4_copyFrom_43 : decode cX4_copyFrom 43 = .ok (.getfield 47, 3) := by decide +kernel
theorem dX4_copyFrom_46 : decode cX4_copyFrom 46 = .ok (.putfield 47, 3) := by decide +kernel
theorem dX4_copyFrom_49 : decode cX4_copyFrom 49 = .ok (.aload_n 0, 1) := by decide +kernel
theorem dX4_copyFrom_50 : decode cX4_copyFrom 50 = .ok (.aload_n 1, 1) := by decide +kernel
theorem dX4_copyFrom_51 : decode cX4_copyFrom 51 = .ok (.getfield 50, 3) := by decide +kernel
theorem dX4_copyFrom_54 : decode cX4_copyFrom 54 = .ok (.putfield 50, 3) := by decide +kernel
theorem dX4_copyFrom_57 : decode cX4_copyFrom 57 = .ok (.aload_n 0, 1) := by decide +kernel
theorem dX4_copyFrom_58 : decode cX4_copyFrom 58 = .ok (.aload_n 1, 1) := by decide +kernel
theorem dX4_copyFrom_59 : decode cX4_copyFrom 59 = .ok (.getfield 53, 3) := by decide +kernel
theorem dX4_copyFrom_62 : decode cX4_copyFrom 62 = .ok (.putfield 53, 3) := by decide +kernel
theorem dX4_copyFrom_65 : decode cX4_copyFrom 65 = .ok (.aload_n 0, 1) := by decide +kernel
theorem dX4_copyFrom_66 : decode cX4_copyFrom 66 = .ok (.aload_n 1, 1) := by decide +kernel
theorem dX4_copyFrom_67 : decode cX4_copyFrom 67 = .ok (.getfield 56, 3) := by decide +kernel
theorem dX4_copyFrom_70 : decode cX4_copyFrom 70 = .ok (.putfield 56, 3) := by decide +kernel
theorem dX4_copyFrom_73 : decode cX4_copyFrom 73 = .ok (.aload_n 0, 1) := by decide +kernel
theorem dX4_copyFrom_74 : decode cX4_copyFrom 74 = .ok (.aload_n 1, 1) := by decide +kernel
theorem dX4_copyFrom_75 : decode cX4_copyFrom 75 = .ok (.getfield 59, 3) := by decide +kernel
theorem dX4_copyFrom_78 : decode cX4_copyFrom 78 = .ok (.putfield 59, 3) := by decide +kernel
theorem dX4_copyFrom_81 : decode cX4_copyFrom 81 = .ok (.aload_n 0, 1) := by decide +kernel
theorem dX4_copyFrom_82 : decode cX4_copyFrom 82 = .ok (.aload_n 1, 1) := by decide +kernel
theorem dX4_copyFrom_83 : decode cX4_copyFrom 83 = .ok (.getfield 62, 3) := by decide +kernel
theorem dX4_copyFrom_86 : decode cX4_copyFrom 86 = .ok (.putfield 62, 3) := by decide +kernel
theorem dX4_copyFrom_89 : decode cX4_copyFrom 89 = .ok (.aload_n 0, 1) := by decide +kernel
theorem dX4_copyFrom_90 : decode cX4_copyFrom 90 = .ok (.aload_n 1, 1) := by decide +kernel
theorem dX4_copyFrom_91 : decode cX4_copyFrom 91 = .ok (.getfield 65, 3) := by decide +kernel
theorem dX4_copyFrom_94 : decode cX4_copyFrom 94 = .ok (.putfield 65, 3) := by decide +kernel
theorem dX4_copyFrom_97 : decode cX4_copyFrom 97 = .ok (.aload_n 0, 1) := by decide +kernel
theorem dX4_copyFrom_98 : decode cX4_copyFrom 98 = .ok (.aload_n 1, 1) := by decide +kernel
theorem dX4_copyFrom_99 : decode cX4_copyFrom 99 = .ok (.getfield 68, 3) := by decide +kernel
theorem dX4_copyFrom_102 : decode cX4_copyFrom 102 = .ok (.putfield 68, 3) := by decide +kernel
theorem dX4_copyFrom_105 : decode cX4_copyFrom 105 = .ok (.aload_n 0, 1) := by decide +kernel
theorem dX4_copyFrom_106 : decode cX4_copyFrom 106 = .ok (.aload_n 1, 1) := by decide +kernel
theorem dX4_copyFrom_107 : decode cX4_copyFrom 107 = .ok (.getfield 71, 3) := by decide +kernel
theorem dX4_copyFrom_110 : decode cX4_copyFrom 110 = .ok (.putfield 71, 3) := by decide +kernel
theorem dX4_copyFrom_113 : decode cX4_copyFrom 113 = .ok (.return_, 1) := by decide +kernel
set_option maxRecDepth 20000 in
theorem ggX5_init_X5_begin : GoodIn wsX5_init wsX5_begin := gi_e e_wsX5_init e_wsX5_begin (by decide +kernel)
set_option maxRecDepth 20000 in
theorem gX5_init_X5_begin : GoodIn wsX5_init (wsV RX5 15 RX5 yX5_begin wsX5_begin) := goodIn_app (gi_e e_wsX5_init (ce fw_1069 (ce fw_1070 (ce fw_1071 (ce fw_1027 (cn))))) (by decide +kernel)) ggX5_init_X5_begin
theorem dX5_init_0 : decode cX5_init 0 = .ok (.aload_n 0, 1) := by decide +kernel
theorem dX5_init_1 : decode cX5_init 1 = .ok (.invokespecial 3, 3) := by decide +kernel
theorem dX5_init_4 : decode cX5_init 4 = .ok (.aload_n 0, 1) := by decide +kernel
theorem dX5_init_5 : decode cX5_init 5 = .ok (.bipush 12, 2) := by decide +kernel
theorem dX5_init_7 : decode cX5_init 7 = .ok (.newarray .int, 2) := by decide +kernel
theorem dX5_init_9 : decode cX5_init 9 = .ok (.putfield 9, 3) := by decide +kernel
theorem dX5_init_12 : decode cX5_init 12 = .ok (.aload_n 0, 1) := by decide +kernel
theorem dX5_init_13 : decode cX5_init 13 = .ok (.invokevirtual 15, 3) := by decide +kernel
theorem dX5_init_16 : decode cX5_init 16 = .ok (.return_, 1) := by decide +kernel
set_option maxRecDepth 20000 in
theorem ggX5_begin_X5_derive : GoodIn wsX5_begin wsX5_derive := gi_e e_wsX5_begin e_wsX5_derive (by decide +kernel)
set_option maxRecDepth 20000 in
theorem gX5_begin_X5_derive : GoodIn wsX5_begin (wsV RX5 46 RX5 yX5_derive wsX5_derive) := goodIn_app (gi_e e_wsX5_begin (ce fw_1073 (ce fw_1074 (ce fw_1075 (ce fw_1027 (cn))))) (by decide +kernel)) ggX5_begin_X5_derive
theorem dX5_begin_0 : decode cX5_begin 0 = .ok (.aload_n 0, 1) := by decide +kernel
theorem dX5_begin_1 : decode cX5_begin 1 = .ok (.bipush 8, 2) := by decide +kernel
theorem dX5_begin_3 : decode cX5_begin 3 = .ok (.putfield 18, 3) := by decide +kernel
theorem dX5_begin_6 : decode cX5_begin 6 = .ok (.aload_n 0, 1) := by decide +kernel
theorem dX5_begin_7 : decode cX5_begin 7 = .ok (.getfield 9, 3) := by decide +kernel
theorem dX5_begin_10 : decode cX5_begin 10 = .ok (.iconst 0, 1) := by decide +kernel
theorem dX5_begin_11 : decode cX5_begin 11 = .ok (.iconst 0, 1) := by decide +kernel
theorem dX5_begin_12 : decode cX5_begin 12 = .ok (.iastore, 1) := by decide +kernel
theorem dX5_begin_13 : decode cX5_begin 13 = .ok (.aload_n 0, 1) := by decide +kernel
theorem dX5_begin_14 : decode cX5_begin 14 = .ok (.getfield 9, 3) := by decide +kernel
theorem dX5_begin_17 : decode cX5_begin 17 = .ok (.iconst 1, 1) := by decide +kernel
theorem dX5_begin_18 : decode cX5_begin 18 = .ok (.iconst 0, 1) := by decide +kernel
theorem dX5_begin_19 : decode cX5_begin 19 = .ok (.iastore, 1) := by decide +kernel
theorem dX5_begin_20 : decode cX5_begin 20 = .ok (.aload_n 0, 1) := by decide +kernel
theorem dX5_begin_21 : decode cX5_begin 21 = .ok (.getfield 9, 3) := by decide +kernel
theorem dX5_begin_24 : decode cX5_begin 24 = .ok (.iconst 2, 1) := by decide +kernel
theorem dX5_begin_25 : decode cX5_begin 25 = .ok (.iconst 1, 1) := by decide +kernel
theorem dX5_begin_26 : decode cX5_begin 26 = .ok (.iastore, 1) := by decide +kernel
theorem dX5_begin_27 : decode cX5_begin 27 = .ok (.aload_n 0, 1) := by decide +kernel
theorem dX5_begin_28 : decode cX5_begin 28 = .ok (.getfield 9, 3) := by decide +kernel
theorem dX5_begin_31 : decode cX5_begin 31 = .ok (.iconst 3, 1) := by decide +kernel
theorem dX5_begin_32 : decode cX5_begin 32 = .ok (.iconst 0, 1) := by decide +kernel
theorem dX5_begin_33 : decode cX5_begin 33 = .ok (.iastore, 1) := by decide +kernel
theorem dX5_begin_34 : decode cX5_begin 34 = .ok (.aload_n 0, 1) := by decide +kernel
theorem dX5_begin_35 : decode cX5_begin 35 = .ok (.getfield 9, 3) := by decide +kernel
theorem dX5_begin_38 : decode cX5_begin 38 = .ok (.iconst 4, 1) := by decide +kernel
theorem dX5_begin_39 : decode cX5_begin 39 = .ok (.iconst 1, 1) := by decide +kernel
theorem dX5_begin_40 : decode cX5_begin 40 = .ok (.iastore, 1) := by decide +kernel
theorem dX5_begin_41 : decode cX5_begin 41 = .ok (.aload_n 0, 1) := by decide +kernel
theorem dX5_begin_42 : decode cX5_begin 42 = .ok (.getfield 9, 3) := by decide +kernel
theorem dX5_begin_45 : decode cX5_begin 45 = .ok (.iconst 5, 1) := by decide +kernel
theorem dX5_begin_46 : decode cX5_begin 46 = .ok (.iconst 1, 1) := by decide +kernel
theorem dX5_begin_47 : decode cX5_begin 47 = .ok (.iastore, 1) := by decide +kernel
theorem dX5_begin_48 : decode cX5_begin 48 = .ok (.aload_n 0, 1) := by decide +kernel
theorem dX5_begin_49 : decode cX5_begin 49 = .ok (.bipush 6, 2) := by decide +kernel
theorem dX5_begin_51 : decode cX5_begin 51 = .ok (.putfield 22, 3) := by decide +kernel
theorem dX5_begin_54 : decode cX5_begin 54 = .ok (.aload_n 0, 1) := by decide +kernel
theorem dX5_begin_55 : decode cX5_begin 55 = .ok (.iconst 0, 1) := by decide +kernel
theorem dX5_begin_56 : decode cX5_begin 56 = .ok (.putfield 25, 3) := by decide +kernel
theorem dX5_begin_59 : decode cX5_begin 59 = .ok (.aload_n 0, 1) := by decide +kernel
theorem dX5_begin_60 : decode cX5_begin 60 = .ok (.bipush 7, 2) := by decide +kernel
theorem dX5_begin_62 : decode cX5_begin 62 = .ok (.putfield 28, 3) := by decide +kernel
theorem dX5_begin_65 : decode cX5_begin 65 = .ok (.aload_n 0, 1) := by decide +kernel
theorem dX5_begin_66 : decode cX5_begin 66 = .ok (.iconst 0, 1) := by decide +kernel
theorem dX5_begin_67 : decode cX5_begin 67 = .ok (.putfield 31, 3) := by decide +kernel
theorem dX5_begin_70 : decode cX5_begin 70 = .ok (.aload_n 0, 1) := by decide +kernel
theorem dX5_begin_71 : decode cX5_begin 71 = .ok (.iconst 4, 1) := by decide +kernel
theorem dX5_begin_72 : decode cX5_begin 72 = .ok (.putfield 34, 3) := by decide +kernel
theorem dX5_begin_75 : decode cX5_begin 75 = .ok (.aload_n 0, 1) := by decide +kernel
theorem dX5_begin_76 : decode cX5_begin 76 = .ok (.iconst 2, 1) := by decide +kernel
theorem dX5_begin_77 : decode cX5_begin 77 = .ok (.putfield 37, 3) := by decide +kernel
theorem dX5_begin_80 : decode cX5_begin 80 = .ok (.aload_n 0, 1) := by decide +kernel
theorem dX5_begin_81 : decode cX5_begin 81 = .ok (.iconst 4, 1) := by decide +kernel
theorem dX5_begin_82 : decode cX5_begin 82 = .ok (.putfield 40, 3) := by decide +kernel
theorem dX5_begin_85 : decode cX5_begin 85 = .ok (.aload_n 0, 1) := by decide +kernel
theorem dX5_begin_86 : decode cX5_begin 86 = .ok (.iconst 0, 1) := by decide +kernel
theorem dX5_begin_87 : decode cX5_begin 87 = .ok (.putfield 43, 3) := by decide +kernel
theorem dX5_begin_90 : decode cX5_begin 90 = .ok (.aload_n 0, 1) := by decide +kernel
theorem dX5_begin_91 : decode cX5_begin 91 = .ok (.invokevirtual 46, 3) := by decide +kernel
theorem dX5_begin_94 : decode cX5_begin 94 = .ok (.return_, 1) := by decide +kernel
theorem dX5_derive_0 : decode cX5_derive 0 = .ok (.aload_n 0, 1) := by decide +kernel
theorem dX5_derive_1 : decode cX5_derive 1 = .ok (.aload_n 0, 1) := by decide +kernel
theorem dX5_derive_2 : decode cX5_derive 2 = .ok (.getfield 18, 3) := by decide +kernel
theorem dX5_derive_5 : decode cX5_derive 5 = .ok (.aload_n 0, 1) := by decide +kernel
theorem dX5_derive_6 : decode cX5_derive 6 = .ok (.getfield 22, 3) := by decide +kernel
theorem dX5_derive_9 : decode cX5_derive 9 = .ok (.imul, 1) := by decide +kernel
theorem dX5_derive_10 : decode cX5_derive 10 = .ok (.putfield 49, 3) := by decide +kernel
theorem dX5_derive_13 : decode cX5_derive 13 = .ok (.aload_n 0, 1) := by decide +kernel
theorem dX5_derive_14 : decode cX5_derive 14 = .ok (.aload_n 0, 1) := by decide +kernel
theorem dX5_derive_15 : decode cX5_derive 15 = .ok (.getfield 28, 3) := by decide +kernel
theorem dX5_derive_18 : decode cX5_derive 18 = .ok (.ifCond .le 17, 3) := by decide +kernel
theorem dX5_derive_21 : decode cX5_derive 21 = .ok (.aload_n 0, 1) := by decide +kernel
theorem dX5_derive_22 : decode cX5_derive 22 = .ok (.getfield 18, 3) := by decide +kernel
theorem dX5_derive_25 : decode cX5_derive 25 = .ok (.iconst 1, 1) := by decide +kernel
theorem dX5_derive_26 : decode cX5_derive 26 = .ok (.isub, 1) := by decide +kernel
theorem dX5_derive_27 : decode cX5_derive 27 = .ok (.aload_n 0, 1) := by decide +kernel
theorem dX5_derive_28 : decode cX5_derive 28 = .ok (.getfield 28, 3) := by decide +kernel
theorem dX5_derive_31 : decode cX5_derive 31 = .ok (.idiv, 1) := by decide +kernel
theorem dX5_derive_32 : decode cX5_derive 32 = .ok (.goto 4, 3) := by decide +kernel
theorem dX5_derive_35 : decode cX5_derive 35 = .ok (.iconst 0, 1) := by decide +kernel
theorem dX5_derive_36 : decode cX5_derive 36 = .ok (.putfield 52, 3) := by decide +kernel
theorem dX5_derive_39 : decode cX5_derive 39 = .ok (.aload_n 0, 1) := by decide +kernel
theorem dX5_derive_40 : decode cX5_derive 40 = .ok (.iconst 0, 1) := by decide +kernel
theorem dX5_derive_41 : decode cX5_derive 41 = .ok (.putfield 55, 3) := by decide +kernel
theorem dX5_derive_44 : decode cX5_derive 44 = .ok (.aload_n 0, 1) := by decide +kernel
theorem dX5_derive_45 : decode cX5_derive 45 = .ok (.iconst 0, 1) := by decide +kernel
theorem dX5_derive_46 : decode cX5_derive 46 = .ok (.putfield 58, 3) := by decide +kernel
theorem dX5_derive_49 : decode cX5_derive 49 = .ok (.aload_n 0, 1) := by decide +kernel
theorem dX5_derive_50 : decode cX5_derive 50 = .ok (.iconst 0, 1) := by decide +kernel
theorem dX5_derive_51 : decode cX5_derive 51 = .ok (.putfield 61, 3) := by decide +kernel
theorem dX5_derive_54 : decode cX5_derive 54 = .ok (.aload_n 0, 1) := by decide +kernel
theorem dX5_derive_55 : decode cX5_derive 55 = .ok (.iconst 1, 1) := by decide +kernel
theorem dX5_derive_56 : decode cX5_derive 56 = .ok (.aload_n 0, 1) := by decide +kernel
theorem dX5_derive_57 : decode cX5_derive 57 = .ok (.getfield 22, 3) := by decide +kernel
theorem dX5_derive_60 : decode cX5_derive 60 = .ok (.ishl, 1) := by decide +kernel
theorem dX5_derive_61 : decode cX5_derive 61 = .ok (.iconst 1, 1) := by decide +kernel
theorem dX5_derive_62 : decode cX5_derive 62 = .ok (.isub, 1) := by decide +kernel
theorem dX5_derive_63 : decode cX5_derive 63 = .ok (.putfield 64, 3) := by decide +kernel
theorem dX5_derive_66 : decode cX5_derive 66 = .ok (.iconst 0, 1) := by decide +kernel
theorem dX5_derive_67 : decode cX5_derive 67 = .ok (.istore_n 1, 1) := by decide +kernel
theorem dX5_derive_68 : decode cX5_derive 68 = .ok (.iload_n 1, 1) := by decide +kernel
theorem dX5_derive_69 : decode cX5_derive 69 = .ok (.aload_n 0, 1) := by decide +kernel
theorem dX5_derive_70 : decode cX5_derive 70 = .ok (.getfield 22, 3) := by decide +kernel
theorem dX5_derive_73 : decode cX5_derive 73 = .ok (.if_icmp .ge 84, 3) := by decide +kernel
theorem dX5_derive_76 : decode cX5_derive 76 = .ok (.iload_n 1, 1) := by decide +kernel
theorem dX5_derive_77 : decode cX5_derive 77 = .ok (.bipush 12, 2) := by decide +kernel
theorem dX5_derive_79 : decode cX5_derive 79 = .ok (.if_icmp .ge 78, 3) := by decide +kernel
theorem dX5_derive_82 : decode cX5_derive 82 = .ok (.aload_n 0, 1) := by decide +kernel
theorem dX5_derive_83 : decode cX5_derive 83 = .ok (.getfield 9, 3) := by decide +kernel
theorem dX5_derive_86 : decode cX5_derive 86 = .ok (.iload_n 1, 1) := by decide +kernel
theorem dX5_derive_87 : decode cX5_derive 87 = .ok (.iaload, 1) := by decide +kernel
theorem dX5_derive_88 : decode cX5_derive 88 = .ok (.iconst 2, 1) := by decide +kernel
theorem dX5_derive_89 : decode cX5_derive 89 = .ok (.if_icmp .ne 16, 3) := by decide +kernel
theorem dX5_derive_92 : decode cX5_derive 92 = .ok (.aload_n 0, 1) := by decide +kernel
theorem dX5_derive_93 : decode cX5_derive 93 = .ok (.dup, 1) := by decide +kernel
theorem dX5_derive_94 : decode cX5_derive 94 = .ok (.getfield 55, 3) := by decide +kernel
theorem dX5_derive_97 : decode cX5_derive 97 = .ok (.iconst 1, 1) := by decide +kernel
theorem dX5_derive_98 : decode cX5_derive 98 = .ok (.iadd, 1) := by decide +kernel
theorem dX5_derive_99 : decode cX5_derive 99 = .ok (.putfield 55, 3) := by decide +kernel
theorem dX5_derive_102 : decode cX5_derive 102 = .ok (.goto 49, 3) := by decide +kernel
theorem dX5_derive_105 : decode cX5_derive 105 = .ok (.aload_n 0, 1) := by decide +kernel
theorem dX5_derive_106 : decode cX5_derive 106 = .ok (.getfield 9, 3) := by decide +kernel
theorem dX5_derive_109 : decode cX5_derive 109 = .ok (.iload_n 1, 1) := by decide +kernel
theorem dX5_derive_110 : decode cX5_derive 110 = .ok (.iaload, 1) := by decide +kernel
theorem dX5_derive_111 : decode cX5_derive 111 = .ok (.ifCond .ne 18, 3) := by decide +kernel
theorem dX5_derive_114 : decode cX5_derive 114 = .ok (.aload_n 0, 1) := by decide +kernel
theorem dX5_derive_115 : decode cX5_derive 115 = .ok (.dup, 1) := by decide +kernel
theorem dX5_derive_116 : decode cX5_derive 116 = .ok (.getfield 58, 3) := by decide +kernel
theorem dX5_derive_119 : decode cX5_derive 119 = .ok (.iconst 1, 1) := by decide +kernel
theorem dX5_derive_120 : decode cX5_derive 120 = .ok (.iload_n 1, 1) := by decide +kernel
theorem dX5_derive_121 : decode cX5_derive 121 = .ok (.ishl, 1) := by decide +kernel
theorem dX5_derive_122 : decode cX5_derive 122 = .ok (.ior, 1) := by decide +kernel
theorem dX5_derive_123 : decode cX5_derive 123 = .ok (.putfield 58, 3) := by decide +kernel
theorem dX5_derive_126 : decode cX5_derive 126 = .ok (.goto 25, 3) := by decide +kernel
theorem dX5_derive_129 : decode cX5_derive 129 = .ok (.aload_n 0, 1) := by decide +kernel
theorem dX5_derive_130 : decode cX5_derive 130 = .ok (.getfield 9, 3) := by decide +kernel
theorem dX5_derive_133 : decode cX5_derive 133 = .ok (.iload_n 1, 1) := by decide +kernel
theorem dX5_derive_134 : decode cX5_derive 134 = .ok (.iaload, 1) := by decide +kernel
theorem dX5_derive_135 : decode cX5_derive 135 = .ok (.iconst 1, 1) := by decide +kernel
theorem dX5_derive_136 : decode cX5_derive 136 = .ok (.if_icmp .ne 15, 3) := by decide +kernel
theorem dX5_derive_139 : decode cX5_derive 139 = .ok (.aload_n 0, 1) := by decide +kernel
theorem dX5_derive_140 : decode cX5_derive 140 = .ok (.dup, 1) := by decide +kernel
theorem dX5_derive_141 : decode cX5_derive 141 = .ok (.getfield 61, 3) := by decide +kernel
theorem dX5_derive_144 : decode cX5_derive 144 = .ok (.iconst 1, 1) := by decide +kernel
theorem dX5_derive_145 : decode cX5_derive 145 = .ok (.iload_n 1, 1) := by decide +kernel
theorem dX5_derive_146 : decode cX5_derive 146 = .ok (.ishl, 1) := by decide +kernel
theorem dX5_derive_147 : decode cX5_derive 147 = .ok (.ior, 1) := by decide +kernel
theorem dX5_derive_148 : decode cX5_derive 148 = .ok (.putfield 61, 3) := by decide +kernel
theorem dX5_derive_151 : decode cX5_derive 151 = .ok (.iinc 1 1, 3) := by decide +kernel
theorem dX5_derive_154 : decode cX5_derive 154 = .ok (.goto (-86), 3) := by decide +kernel
theorem dX5_derive_157 : decode cX5_derive 157 = .ok (.return_, 1) := by decide +kernel
theorem dX5_copyFrom_0 : decode cX5_copyFrom 0 = .ok (.aload_n 0, 1) := by decide +kernel
theorem dX5_copyFrom_1 : decode cX5_copyFrom 1 = .ok (.aload_n 1, 1) := by decide +kernel
theorem dX5_copyFrom_2 : decode cX5_copyFrom 2 = .ok (.getfield 18, 3) := by decide +kernel
theorem dX5_copyFrom_5 : decode cX5_copyFrom 5 = .ok (.putfield 18, 3) := by decide +kernel
theorem dX5_copyFrom_8 : decode cX5_copyFrom 8 = .ok (.aload_n 1, 1) := by decide +kernel
theorem dX5_copyFrom_9 : decode cX5_copyFrom 9 = .ok (.getfield 9, 3) := by decide +kernel
theorem dX5_copyFrom_12 : decode cX5_copyFrom 12 = .ok (.iconst 0, 1) := by decide +kernel
theorem dX5_copyFrom_13 : decode cX5_copyFrom 13 = .ok (.aload_n 0, 1) := by decide +kernel
theorem dX5_copyFrom_14 : decode cX5_copyFrom 14 = .ok (.getfield 9, 3) := by decide +kernel
theorem dX5_copyFrom_17 : decode cX5_copyFrom 17 = .ok (.iconst 0, 1) := by decide +kernel
theorem dX5_copyFrom_18 : decode cX5_copyFrom 18 = .ok (.bipush 12, 2) := by decide +kernel
theorem dX5_copyFrom_20 : decode cX5_copyFrom 20 = .ok (.invokestatic 67, 3) := by decide +kernel
theorem dX5_copyFrom_23 : decode cX5_copyFrom 23 = .ok (.aload_n 0, 1) := by decide +kernel
theorem dX5_copyFrom_24 : decode cX5_copyFrom 24 = .ok (.aload_n 1, 1) := by decide +kernel
theorem dX5_copyFrom_25 : decode cX5_copyFrom 25 = .ok (.getfield 22, 3) := by decide +kernel
theorem dX5_copyFrom_28 : decode cX5_copyFrom 28 = .ok (.putfield 22, 3) := by decide +kernel
theorem dX5_copyFrom_31 : decode cX5_copyFrom 31 = .ok (.aload_n 0, 1) := by decide +kernel
theorem dX5_copyFrom_32 : decode cX5_copyFrom 32 = .ok (.aload_n 1, 1) := by decide +kernel
theorem dX5_copyFrom_33 : decode cX5_copyFrom 33 = .ok (.getfield 25, 3) := by decide +kernel
theorem dX5_copyFrom_36 : decode cX5_copyFrom 36 = .ok (.putfield 25, 3) := by decide +kernel
theorem dX5_copyFrom_39 : decode cX5_copyFrom 39 = .ok (.aload_n 0, 1) := by decide +kernel
theorem dX5_copyFrom_40 : decode cX5_copyFrom 40 = .ok (.aload_n 1, 1) := by decide +kernel
theorem dX5_copyFrom_41 : decode cX5_copyFrom 41 = .ok (.getfield 28, 3) := by decide +kernel
theorem dX5_copyFrom_44 : decode cX5_copyFrom 44 = .ok (.putfield 28, 3) := by decide +kernel
theorem dX5_copyFrom_47 : decode cX5_copyFrom 47 = .ok (.aload_n 0, 1) := by decide +kernel
theorem dX5_copyFrom_48 : decode cX5_copyFrom 48 = .ok (.aload_n 1, 1) := by decide +kernel
theorem dX5_copyFrom_49 : decode cX5_copyFrom 49 = .ok (.getfield 31, 3) := by decide +kernel
theorem dX5_copyFrom_52 : decode cX5_copyFrom 52 = .ok (.putfield 31, 3) := by decide +kernel
theorem dX5_copyFrom_55 : decode cX5_copyFrom 55 = .ok (.aload_n 0, 1) := by decide +kernel
theorem dX5_copyFrom_56 : decode cX5_copyFrom 56 = .ok (.aload_n 1, 1) := by decide +kernel
theorem dX5_copyFrom_57 : decode cX5_copyFrom 57 = .ok (.getfield 34, 3) := by decide +kernel
theorem dX5_copyFrom_60 : decode cX5_copyFrom 60 = .ok (.putfield 34, 3) := by decide +kernel
theorem dX5_copyFrom_63 : decode cX5_copyFrom 63 = .ok (.aload_n 0, 1) := by decide +kernel
theorem dX5_copyFrom_64 : decode cX5_copyFrom 64 = .ok (.aload_n 1, 1) := by decide +kernel
theorem dX5_copyFrom_65 : decode cX5_copyFrom 65 = .ok (.getfield 37, 3) := by decide +kernel
theorem dX5_copyFrom_68 : decode cX5_copyFrom 68 = .ok (.putfield 37, 3) := by decide +kernel
theorem dX5_copyFrom_71 : decode cX5_copyFrom 71 = .ok (.aload_n 0, 1) := by decide +kernel
theorem dX5_copyFrom_72 : decode cX5_copyFrom 72 = .ok (.aload_n 1, 1) := by decide +kernel
theorem dX5_copyFrom_73 : decode cX5_copyFrom 73 = .ok (.getfield 40, 3) := by decide +kernel
theorem dX5_copyFrom_76 : decode cX5_copyFrom 76 = .ok (.putfield 40, 3) := by decide +kernel
theorem dX5_copyFrom_79 : decode cX5_copyFrom 79 = .ok (.aload_n 0, 1) := by decide +kernel
theorem dX5_copyFrom_80 : decode cX5_copyFrom 80 = .ok (.aload_n 1, 1) := by decide +kernel
theorem dX5_copyFrom_81 : decode cX5_copyFrom 81 = .ok (.getfield 43, 3) := by decide +kernel
theorem dX5_copyFrom_84 : decode cX5_copyFrom 84 = .ok (.putfield 43, 3) := by decide +kernel
theorem dX5_copyFrom_87 : decode cX5_copyFrom 87 = .ok (.aload_n 0, 1) := by decide +kernel
theorem dX5_copyFrom_88 : decode cX5_copyFrom 88 = .ok (.aload_n 1, 1) := by decide +kernel
theorem dX5_copyFrom_89 : decode cX5_copyFrom 89 = .ok (.getfield 49, 3) := by decide +kernel
theorem dX5_copyFrom_92 : decode cX5_copyFrom 92 = .ok (.putfield 49, 3) := by decide +kernel
theorem dX5_copyFrom_95 : decode cX5_copyFrom 95 = .ok (.aload_n 0, 1) := by decide +kernel
theorem dX5_copyFrom_96 : decode cX5_copyFrom 96 = .ok (.aload_n 1, 1) := by decide +kernel
theorem dX5_copyFrom_97 : decode cX5_copyFrom 97 = .ok (.getfield 52, 3) := by decide +kernel
theorem dX5_copyFrom_100 : decode cX5_copyFrom 100 = .ok (.putfield 52, 3) := by decide +kernel
theorem dX5_copyFrom_103 : decode cX5_copyFrom 103 = .ok (.aload_n 0, 1) := by decide +kernel
theorem dX5_copyFrom_104 : decode cX5_copyFrom 104 = .ok (.aload_n 1, 1) := by decide +kernel
theorem dX5_copyFrom_105 : decode cX5_copyFrom 105 = .ok (.getfield 55, 3) := by decide +kernel
theorem dX5_copyFrom_108 : decode cX5_copyFrom 108 = .ok (.putfield 55, 3) := by decide +kernel
theorem dX5_copyFrom_111 : decode cX5_copyFrom 111 = .ok (.aload_n 0, 1) := by decide +kernel
theorem dX5_copyFrom_112 : decode cX5_copyFrom 112 = .ok (.aload_n 1, 1) := by decide +kernel
theorem dX5_copyFrom_113 : decode cX5_copyFrom 113 = .ok (.getfield 58, 3) := by decide +kernel
theorem dX5_copyFrom_116 : decode cX5_copyFrom 116 = .ok (.putfield 58, 3) := by decide +kernel
theorem dX5_copyFrom_119 : decode cX5_copyFrom 119 = .ok (.aload_n 0, 1) := by decide +kernel
theorem dX5_copyFrom_120 : decode cX5_copyFrom 120 = .ok (.aload_n 1, 1) := by decide +kernel
theorem dX5_copyFrom_121 : decode cX5_copyFrom 121 = .ok (.getfield 61, 3) := by decide +kernel
theorem dX5_copyFrom_124 : decode cX5_copyFrom 124 = .ok (.putfield 61, 3) := by decide +kernel
theorem dX5_copyFrom_127 : decode cX5_copyFrom 127 = .ok (.aload_n 0, 1) := by decide +kernel
theorem dX5_copyFrom_128 : decode cX5_copyFrom 128 = .ok (.aload_n 1, 1) := by decide +kernel
theorem dX5_copyFrom_129 : decode cX5_copyFrom 129 = .ok (.getfield 64, 3) := by decide +kernel
theorem dX5_copyFrom_132 : decode cX5_copyFrom 132 = .ok (.putfield 64, 3) := by decide +kernel
theorem dX5_copyFrom_135 : decode cX5_copyFrom 135 = .ok (.return_, 1) := by decide +kernel
theorem dX5_roleAt_0 : decode cX5_roleAt 0 = .ok (.iload_n 1, 1) := by decide +kernel
theorem dX5_roleAt_1 : decode cX5_roleAt 1 = .ok (.ifCond .lt 26, 3) := by decide +kernel
theorem dX5_roleAt_4 : decode cX5_roleAt 4 = .ok (.iload_n 1, 1) := by decide +kernel
theorem dX5_roleAt_5 : decode cX5_roleAt 5 = .ok (.aload_n 0, 1) := by decide +kernel
theorem dX5_roleAt_6 : decode cX5_roleAt 6 = .ok (.getfield 22, 3) := by decide +kernel
theorem dX5_roleAt_9 : decode cX5_roleAt 9 = .ok (.if_icmp .ge 18, 3) := by decide +kernel
theorem dX5_roleAt_12 : decode cX5_roleAt 12 = .ok (.iload_n 1, 1) := by decide +kernel
theorem dX5_roleAt_13 : decode cX5_roleAt 13 = .ok (.bipush 12, 2) := by decide +kernel
theorem dX5_roleAt_15 : decode cX5_roleAt 15 = .ok (.if_icmp .ge 12, 3) := by decide +kernel
theorem dX5_roleAt_18 : decode cX5_roleAt 18 = .ok (.aload_n 0, 1) := by decide +kernel
theorem dX5_roleAt_19 : decode cX5_roleAt 19 = .ok (.getfield 9, 3) := by decide +kernel
theorem dX5_roleAt_22 : decode cX5_roleAt 22 = .ok (.iload_n 1, 1) := by decide +kernel
theorem dX5_roleAt_23 : decode cX5_roleAt 23 = .ok (.iaload, 1) := by decide +kernel
theorem dX5_roleAt_24 : decode cX5_roleAt 24 = .ok (.goto 4, 3) := by decide +kernel
theorem dX5_roleAt_27 : decode cX5_roleAt 27 = .ok (.iconst (-1), 1) := by decide +kernel
theorem dX5_roleAt_28 : decode cX5_roleAt 28 = .ok (.ireturn, 1) := by decide +kernel
theorem dX5_placeBehind_0 : decode cX5_placeBehind 0 = .ok (.iload_n 1, 1) := by decide +kernel
theorem dX5_placeBehind_1 : decode cX5_placeBehind 1 = .ok (.iconst 1, 1) := by decide +kernel
theorem dX5_placeBehind_2 : decode cX5_placeBehind 2 = .ok (.iadd, 1) := by decide +kernel
theorem dX5_placeBehind_3 : decode cX5_placeBehind 3 = .ok (.aload_n 0, 1) := by decide +kernel
theorem dX5_placeBehind_4 : decode cX5_placeBehind 4 = .ok (.getfield 22, 3) := by decide +kernel
theorem dX5_placeBehind_7 : decode cX5_placeBehind 7 = .ok (.if_icmp .lt 7, 3) := by decide +kernel
theorem dX5_placeBehind_10 : decode cX5_placeBehind 10 = .ok (.iconst 0, 1) := by decide +kernel
theorem dX5_placeBehind_11 : decode cX5_placeBehind 11 = .ok (.goto 6, 3) := by decide +kernel
theorem dX5_placeBehind_14 : decode cX5_placeBehind 14 = .ok (.iload_n 1, 1) := by decide +kernel
theorem dX5_placeBehind_15 : decode cX5_placeBehind 15 = .ok (.iconst 1, 1) := by decide +kernel
theorem dX5_placeBehind_16 : decode cX5_placeBehind 16 = .ok (.iadd, 1) := by decide +kernel
theorem dX5_placeBehind_17 : decode cX5_placeBehind 17 = .ok (.ireturn, 1) := by decide +kernel
theorem dX5_isFixed_0 : decode cX5_isFixed 0 = .ok (.aload_n 0, 1) := by decide +kernel
theorem dX5_isFixed_1 : decode cX5_isFixed 1 = .ok (.getfield 58, 3) := by decide +kernel
theorem dX5_isFixed_4 : decode cX5_isFixed 4 = .ok (.aload_n 0, 1) := by decide +kernel
theorem dX5_isFixed_5 : decode cX5_isFixed 5 = .ok (.getfield 61, 3) := by decide +kernel
theorem dX5_isFixed_8 : decode cX5_isFixed 8 = .ok (.ior, 1) := by decide +kernel
theorem dX5_isFixed_9 : decode cX5_isFixed 9 = .ok (.iload_n 1, 1) := by decide +kernel
theorem dX5_isFixed_10 : decode cX5_isFixed 10 = .ok (.ishr, 1) := by decide +kernel
theorem dX5_isFixed_11 : decode cX5_isFixed 11 = .ok (.iconst 1, 1) := by decide +kernel
theorem dX5_isFixed_12 : decode cX5_isFixed 12 = .ok (.iand, 1) := by decide +kernel
theorem dX5_isFixed_13 : decode cX5_isFixed 13 = .ok (.iconst 1, 1) := by decide +kernel
theorem dX5_isFixed_14 : decode cX5_isFixed 14 = .ok (.if_icmp .ne 7, 3) := by decide +kernel
theorem dX5_isFixed_17 : decode cX5_isFixed 17 = .ok (.iconst 1, 1) := by decide +kernel
theorem dX5_isFixed_18 : decode cX5_isFixed 18 = .ok (.goto 4, 3) := by decide +kernel
theorem dX5_isFixed_21 : decode cX5_isFixed 21 = .ok (.iconst 0, 1) := by decide +kernel
theorem dX5_isFixed_22 : decode cX5_isFixed 22 = .ok (.ireturn, 1) := by decide +kernel
theorem dX5_isOther_0 : decode cX5_isOther 0 = .ok (.iload_n 2, 1) := by decide +kernel
theorem dX5_isOther_1 : decode cX5_isOther 1 = .ok (.ifCond .ne 10, 3) := by decide +kernel
theorem dX5_isOther_4 : decode cX5_isOther 4 = .ok (.aload_n 0, 1) := by decide +kernel
theorem dX5_isOther_5 : decode cX5_isOther 5 = .ok (.getfield 61, 3) := by decide +kernel
theorem dX5_isOther_8 : decode cX5_isOther 8 = .ok (.goto 7, 3) := by decide +kernel
theorem dX5_isOther_11 : decode cX5_isOther 11 = .ok (.aload_n 0, 1) := by decide +kernel
theorem dX5_isOther_12 : decode cX5_isOther 12 = .ok (.getfield 58, 3) := by decide +kernel
theorem dX5_isOther_15 : decode cX5_isOther 15 = .ok (.iload_n 1, 1) := by decide +kernel
theorem dX5_isOther_16 : decode cX5_isOther 16 = .ok (.ishr, 1) := by decide +kernel
theorem dX5_isOther_17 : decode cX5_isOther 17 = .ok (.iconst 1, 1) := by decide +kernel
theorem dX5_isOther_18 : decode cX5_isOther 18 = .ok (.iand, 1) := by decide +kernel
theorem dX5_isOther_19 : decode cX5_isOther 19 = .ok (.iconst 1, 1) := by decide +kernel
theorem dX5_isOther_20 : decode cX5_isOther 20 = .ok (.if_icmp .ne 7, 3) := by decide +kernel
theorem dX5_isOther_23 : decode cX5_isOther 23 = .ok (.iconst 1, 1) := by decide +kernel
theorem dX5_isOther_24 : decode cX5_isOther 24 = .ok (.goto 4, 3) := by decide +kernel
theorem dX5_isOther_27 : decode cX5_isOther 27 = .ok (.iconst 0, 1) := by decide +kernel
theorem dX5_isOther_28 : decode cX5_isOther 28 = .ok (.ireturn, 1) := by decide +kernel
theorem dX5_isSignalPlace_0 : decode cX5_isSignalPlace 0 = .ok (.aload_n 0, 1) := by decide +kernel
theorem dX5_isSignalPlace_1 : decode cX5_isSignalPlace 1 = .ok (.getfield 31, 3) := by decide +kernel
theorem dX5_isSignalPlace_4 : decode cX5_isSignalPlace 4 = .ok (.ifCond .le 18, 3) := by decide +kernel
theorem dX5_isSignalPlace_7 : decode cX5_isSignalPlace 7 = .ok (.iload_n 1, 1) := by decide +kernel
theorem dX5_isSignalPlace_8 : decode cX5_isSignalPlace 8 = .ok (.iconst 1, 1) := by decide +kernel
theorem dX5_isSignalPlace_9 : decode cX5_isSignalPlace 9 = .ok (.iadd, 1) := by decide +kernel
theorem dX5_isSignalPlace_10 : decode cX5_isSignalPlace 10 = .ok (.aload_n 0, 1) := by decide +kernel
theorem dX5_isSignalPlace_11 : decode cX5_isSignalPlace 11 = .ok (.getfield 31, 3) := by decide +kernel
theorem dX5_isSignalPlace_14 : decode cX5_isSignalPlace 14 = .ok (.irem, 1) := by decide +kernel
theorem dX5_isSignalPlace_15 : decode cX5_isSignalPlace 15 = .ok (.ifCond .ne 7, 3) := by decide +kernel
theorem dX5_isSignalPlace_18 : decode cX5_isSignalPlace 18 = .ok (.iconst 1, 1) := by decide +kernel
theorem dX5_isSignalPlace_19 : decode cX5_isSignalPlace 19 = .ok (.goto 4, 3) := by decide +kernel
theorem dX5_isSignalPlace_22 : decode cX5_isSignalPlace 22 = .ok (.iconst 0, 1) := by decide +kernel
theorem dX5_isSignalPlace_23 : decode cX5_isSignalPlace 23 = .ok (.ireturn, 1) := by decide +kernel
theorem dX5_framesStarted_0 : decode cX5_framesStarted 0 = .ok (.aload_n 0, 1) := by decide +kernel
theorem dX5_framesStarted_1 : decode cX5_framesStarted 1 = .ok (.getfield 18, 3) := by decide +kernel
theorem dX5_framesStarted_4 : decode cX5_framesStarted 4 = .ok (.ifCond .le 19, 3) := by decide +kernel
theorem dX5_framesStarted_7 : decode cX5_framesStarted 7 = .ok (.iload_n 1, 1) := by decide +kernel
theorem dX5_framesStarted_8 : decode cX5_framesStarted 8 = .ok (.aload_n 0, 1) := by decide +kernel
theorem dX5_framesStarted_9 : decode cX5_framesStarted 9 = .ok (.getfield 18, 3) := by decide +kernel
theorem dX5_framesStarted_12 : decode cX5_framesStarted 12 = .ok (.iadd, 1) := by decide +kernel
theorem dX5_framesStarted_13 : decode cX5_framesStarted 13 = .ok (.iconst 1, 1) := by decide +kernel
theorem dX5_framesStarted_14 : decode cX5_framesStarted 14 = .ok (.isub, 1) := by decide +kernel
theorem dX5_framesStarted_15 : decode cX5_framesStarted 15 = .ok (.aload_n 0, 1) := by decide +kernel
theorem dX5_framesStarted_16 : decode cX5_framesStarted 16 = .ok (.getfield 18, 3) := by decide +kernel
theorem dX5_framesStarted_19 : decode cX5_framesStarted 19 = .ok (.idiv, 1) := by decide +kernel
theorem dX5_framesStarted_20 : decode cX5_framesStarted 20 = .ok (.goto 4, 3) := by decide +kernel
theorem dX5_framesStarted_23 : decode cX5_framesStarted 23 = .ok (.iconst 0, 1) := by decide +kernel
theorem dX5_framesStarted_24 : decode cX5_framesStarted 24 = .ok (.ireturn, 1) := by decide +kernel
set_option maxRecDepth 20000 in
theorem ggX5_fixedStarted_X5_framesStarted : GoodIn wsX5_fixedStarted wsX5_framesStarted := gi_e e_wsX5_fixedStarted e_wsX5_framesStarted (by decide +kernel)
set_option maxRecDepth 20000 in
theorem gX5_fixedStarted_X5_framesStarted : GoodIn wsX5_fixedStarted (wsV RX5 73 RX5 yX5_framesStarted wsX5_framesStarted) := goodIn_app (gi_e e_wsX5_fixedStarted (ce fw_3227 (ce fw_3228 (ce fw_3229 (ce fw_1027 (cn))))) (by decide +kernel)) ggX5_fixedStarted_X5_framesStarted
set_option maxRecDepth 20000 in
theorem ggX5_fixedStarted_J6_bitCount_0f7a4 : GoodIn wsX5_fixedStarted wsJ6_bitCount_0f7a4 := gi_e e_wsX5_fixedStarted e_wsJ6_bitCount_0f7a4 (by decide +kernel)
set_option maxRecDepth 20000 in
theorem gX5_fixedStarted_J6_bitCount_0f7a4 : GoodIn wsX5_fixedStarted (va_wsS RX5 77 yJ6_bitCount_0f7a4 wsJ6_bitCount_0f7a4) := goodIn_app (gi_e e_wsX5_fixedStarted (ce fw_3231 (ce fw_3198 (ce fw_1039 (cn)))) (by decide +kernel)) ggX5_fixedStarted_J6_bitCount_0f7a4
theorem dX5_fixedStarted_0 : decode cX5_fixedStarted 0 = .ok (.aload_n 0, 1) := by decide +kernel
theorem dX5_fixedStarted_1 : decode cX5_fixedStarted 1 = .ok (.getfield 22, 3) := by decide +kernel
theorem dX5_fixedStarted_4 : decode cX5_fixedStarted 4 = .ok (.iconst 1, 1) := by decide +kernel
theorem dX5_fixedStarted_5 : decode cX5_fixedStarted 5 = .ok (.if_icmp .ge 5, 3) := by decide +kernel
theorem dX5_fixedStarted_8 : decode cX5_fixedStarted 8 = .ok (.iconst 0, 1) := by decide +kernel
theorem dX5_fixedStarted_9 : decode cX5_fixedStarted 9 = .ok (.ireturn, 1) := by decide +kernel
theorem dX5_fixedStarted_10 : decode cX5_fixedStarted 10 = .ok (.aload_n 0, 1) := by decide +kernel
theorem dX5_fixedStarted_11 : decode cX5_fixedStarted 11 = .ok (.iload_n 1, 1) := by decide +kernel
theorem dX5_fixedStarted_12 : decode cX5_fixedStarted 12 = .ok (.invokevirtual 73, 3) := by decide +kernel
theorem dX5_fixedStarted_15 : decode cX5_fixedStarted 15 = .ok (.istore_n 2, 1) := by decide +kernel
theorem dX5_fixedStarted_16 : decode cX5_fixedStarted 16 = .ok (.iload_n 2, 1) := by decide +kernel
theorem dX5_fixedStarted_17 : decode cX5_fixedStarted 17 = .ok (.aload_n 0, 1) := by decide +kernel
theorem dX5_fixedStarted_18 : decode cX5_fixedStarted 18 = .ok (.getfield 22, 3) := by decide +kernel
theorem dX5_fixedStarted_21 : decode cX5_fixedStarted 21 = .ok (.idiv, 1) := by decide +kernel
theorem dX5_fixedStarted_22 : decode cX5_fixedStarted 22 = .ok (.istore_n 3, 1) := by decide +kernel
theorem dX5_fixedStarted_23 : decode cX5_fixedStarted 23 = .ok (.iload_n 2, 1) := by decide +kernel
theorem dX5_fixedStarted_24 : decode cX5_fixedStarted 24 = .ok (.iload_n 3, 1) := by decide +kernel
theorem dX5_fixedStarted_25 : decode cX5_fixedStarted 25 = .ok (.aload_n 0, 1) := by decide +kernel
theorem dX5_fixedStarted_26 : decode cX5_fixedStarted 26 = .ok (.getfield 22, 3) := by decide +kernel
theorem dX5_fixedStarted_29 : decode cX5_fixedStarted 29 = .ok (.imul, 1) := by decide +kernel
theorem dX5_fixedStarted_30 : decode cX5_fixedStarted 30 = .ok (.isub, 1) := by decide +kernel
theorem dX5_fixedStarted_31 : decode cX5_fixedStarted 31 = .ok (.istore 4, 2) := by decide +kernel
theorem dX5_fixedStarted_33 : decode cX5_fixedStarted 33 = .ok (.aload_n 0, 1) := by decide +kernel
theorem dX5_fixedStarted_34 : decode cX5_fixedStarted 34 = .ok (.getfield 58, 3) := by decide +kernel
theorem dX5_fixedStarted_37 : decode cX5_fixedStarted 37 = .ok (.aload_n 0, 1) := by decide +kernel
theorem dX5_fixedStarted_38 : decode cX5_fixedStarted 38 = .ok (.getfield 61, 3) := by decide +kernel
theorem dX5_fixedStarted_41 : decode cX5_fixedStarted 41 = .ok (.ior, 1) := by decide +kernel
theorem dX5_fixedStarted_42 : decode cX5_fixedStarted 42 = .ok (.istore 5, 2) := by decide +kernel
theorem dX5_fixedStarted_44 : decode cX5_fixedStarted 44 = .ok (.iload_n 3, 1) := by decide +kernel
theorem dX5_fixedStarted_45 : decode cX5_fixedStarted 45 = .ok (.iload 5, 2) := by decide +kernel
theorem dX5_fixedStarted_47 : decode cX5_fixedStarted 47 = .ok (.invokestatic 77, 3) := by decide +kernel
theorem dX5_fixedStarted_50 : decode cX5_fixedStarted 50 = .ok (.imul, 1) := by decide +kernel
theorem dX5_fixedStarted_51 : decode cX5_fixedStarted 51 = .ok (.iload 5, 2) := by decide +kernel
theorem dX5_fixedStarted_53 : decode cX5_fixedStarted 53 = .ok (.iconst 1, 1) := by decide +kernel
theorem dX5_fixedStarted_54 : decode cX5_fixedStarted 54 = .ok (.iload 4, 2) := by decide +kernel
theorem dX5_fixedStarted_56 : decode cX5_fixedStarted 56 = .ok (.ishl, 1) := by decide +kernel
theorem dX5_fixedStarted_57 : decode cX5_fixedStarted 57 = .ok (.iconst 1, 1) := by decide +kernel
theorem dX5_fixedStarted_58 : decode cX5_fixedStarted 58 = .ok (.isub, 1) := by decide +kernel
theorem dX5_fixedStarted_59 : decode cX5_fixedStarted 59 = .ok (.iand, 1) := by decide +kernel
theorem dX5_fixedStarted_60 : decode cX5_fixedStarted 60 = .ok (.invokestatic 77, 3) := by decide +kernel
theorem dX5_fixedStarted_63 : decode cX5_fixedStarted 63 = .ok (.iadd, 1) := by decide +kernel
theorem dX5_fixedStarted_64 : decode cX5_fixedStarted 64 = .ok (.ireturn, 1) := by decide +kernel
set_option maxRecDepth 20000 in
theorem ggX5_checksOf_X5_roleAt : GoodIn wsX5_checksOf wsX5_roleAt := gi_e e_wsX5_checksOf e_wsX5_roleAt (by decide +kernel)
set_option maxRecDepth 20000 in
theorem gX5_checksOf_X5_roleAt : GoodIn wsX5_checksOf (wsV RX5 82 RX5 yX5_roleAt wsX5_roleAt) := goodIn_app (gi_e e_wsX5_checksOf (ce fw_3171 (ce fw_3151 (ce fw_3152 (ce fw_1027 (cn))))) (by decide +kernel)) ggX5_checksOf_X5_roleAt
set_option maxRecDepth 20000 in
theorem ggX5_checksOf_X2_at : GoodIn wsX5_checksOf wsX2_at := gi_e e_wsX5_checksOf e_wsX2_at (by decide +kernel)
set_option maxRecDepth 20000 in
theorem gX5_checksOf_X2_at : GoodIn wsX5_checksOf (wsV RX5 85 RX2 yX2_at wsX2_at) := goodIn_app (gi_e e_wsX5_checksOf (ce fw_3172 (ce fw_3173 (ce fw_3174 (ce fw_1035 (cn))))) (by decide +kernel)) ggX5_checksOf_X2_at
theorem dX5_checksOf_0 : decode cX5_checksOf 0 = .ok (.aload_n 0, 1) := by decide +kernel
theorem dX5_checksOf_1 : decode cX5_checksOf 1 = .ok (.getfield 55, 3) := by decide +kernel
theorem dX5_checksOf_4 : decode cX5_checksOf 4 = .ok (.iconst 1, 1) := by decide +kernel
theorem dX5_checksOf_5 : decode cX5_checksOf 5 = .ok (.if_icmp .ge 5, 3) := by decide +kernel
theorem dX5_checksOf_8 : decode cX5_checksOf 8 = .ok (.iconst 0, 1) := by decide +kernel
theorem dX5_checksOf_9 : decode cX5_checksOf 9 = .ok (.ireturn, 1) := by decide +kernel
theorem dX5_checksOf_10 : decode cX5_checksOf 10 = .ok (.iconst 1, 1) := by decide +kernel
theorem dX5_checksOf_11 : decode cX5_checksOf 11 = .ok (.aload_n 0, 1) := by decide +kernel
theorem dX5_checksOf_12 : decode cX5_checksOf 12 = .ok (.getfield 55, 3) := by decide +kernel
theorem dX5_checksOf_15 : decode cX5_checksOf 15 = .ok (.ishl, 1) := by decide +kernel
theorem dX5_checksOf_16 : decode cX5_checksOf 16 = .ok (.iconst 1, 1) := by decide +kernel
theorem dX5_checksOf_17 : decode cX5_checksOf 17 = .ok (.isub, 1) := by decide +kernel
theorem dX5_checksOf_18 : decode cX5_checksOf 18 = .ok (.istore_n 3, 1) := by decide +kernel
theorem dX5_checksOf_19 : decode cX5_checksOf 19 = .ok (.aload_n 0, 1) := by decide +kernel
theorem dX5_checksOf_20 : decode cX5_checksOf 20 = .ok (.getfield 25, 3) := by decide +kernel
theorem dX5_checksOf_23 : decode cX5_checksOf 23 = .ok (.iload_n 3, 1) := by decide +kernel
theorem dX5_checksOf_24 : decode cX5_checksOf 24 = .ok (.iand, 1) := by decide +kernel
theorem dX5_checksOf_25 : decode cX5_checksOf 25 = .ok (.istore 4, 2) := by decide +kernel
theorem dX5_checksOf_27 : decode cX5_checksOf 27 = .ok (.aload_n 0, 1) := by decide +kernel
theorem dX5_checksOf_28 : decode cX5_checksOf 28 = .ok (.getfield 55, 3) := by decide +kernel
theorem dX5_checksOf_31 : decode cX5_checksOf 31 = .ok (.iconst 1, 1) := by decide +kernel
theorem dX5_checksOf_32 : decode cX5_checksOf 32 = .ok (.isub, 1) := by decide +kernel
theorem dX5_checksOf_33 : decode cX5_checksOf 33 = .ok (.istore 5, 2) := by decide +kernel
theorem dX5_checksOf_35 : decode cX5_checksOf 35 = .ok (.iconst 0, 1) := by decide +kernel
theorem dX5_checksOf_36 : decode cX5_checksOf 36 = .ok (.istore 6, 2) := by decide +kernel
theorem dX5_checksOf_38 : decode cX5_checksOf 38 = .ok (.iload_n 2, 1) := by decide +kernel
theorem dX5_checksOf_39 : decode cX5_checksOf 39 = .ok (.istore 7, 2) := by decide +kernel
theorem dX5_checksOf_41 : decode cX5_checksOf 41 = .ok (.iconst 0, 1) := by decide +kernel
theorem dX5_checksOf_42 : decode cX5_checksOf 42 = .ok (.istore 8, 2) := by decide +kernel
theorem dX5_checksOf_44 : decode cX5_checksOf 44 = .ok (.iload 8, 2) := by decide +kernel
theorem dX5_checksOf_46 : decode cX5_checksOf 46 = .ok (.aload_n 0, 1) := by decide +kernel
theorem dX5_checksOf_47 : decode cX5_checksOf 47 = .ok (.getfield 22, 3) := by decide +kernel
theorem dX5_checksOf_50 : decode cX5_checksOf 50 = .ok (.if_icmp .ge 108, 3) := by decide +kernel
theorem dX5_checksOf_53 : decode cX5_checksOf 53 = .ok (.aload_n 0, 1) := by decide +kernel
theorem dX5_checksOf_54 : decode cX5_checksOf 54 = .ok (.iload 8, 2) := by decide +kernel
theorem dX5_checksOf_56 : decode cX5_checksOf 56 = .ok (.invokevirtual 82, 3) := by decide +kernel
theorem dX5_checksOf_59 : decode cX5_checksOf 59 = .ok (.iconst 2, 1) := by decide +kernel
theorem dX5_checksOf_60 : decode cX5_checksOf 60 = .ok (.if_icmp .ne 7, 3) := by decide +kernel
theorem dX5_checksOf_63 : decode cX5_checksOf 63 = .ok (.iconst 1, 1) := by decide +kernel
theorem dX5_checksOf_64 : decode cX5_checksOf 64 = .ok (.goto 4, 3) := by decide +kernel
theorem dX5_checksOf_67 : decode cX5_checksOf 67 = .ok (.iconst 0, 1) := by decide +kernel
theorem dX5_checksOf_68 : decode cX5_checksOf 68 = .ok (.istore 9, 2) := by decide +kernel
theorem dX5_checksOf_70 : decode cX5_checksOf 70 = .ok (.iconst 0, 1) := by decide +kernel
theorem dX5_checksOf_71 : decode cX5_checksOf 71 = .ok (.istore 10, 2) := by decide +kernel
theorem dX5_checksOf_73 : decode cX5_checksOf 73 = .ok (.iload 10, 2) := by decide +kernel
theorem dX5_checksOf_75 : decode cX5_checksOf 75 = .ok (.aload_n 0, 1) := by decide +kernel
theorem dX5_checksOf_76 : decode cX5_checksOf 76 = .ok (.getfield 18, 3) := by decide +kernel
theorem dX5_checksOf_79 : decode cX5_checksOf 79 = .ok (.if_icmp .ge 73, 3) := by decide +kernel
theorem dX5_checksOf_82 : decode cX5_checksOf 82 = .ok (.iload 9, 2) := by decide +kernel
theorem dX5_checksOf_84 : decode cX5_checksOf 84 = .ok (.ifCond .eq 12, 3) := by decide +kernel
theorem dX5_checksOf_87 : decode cX5_checksOf 87 = .ok (.iload 10, 2) := by decide +kernel
theorem dX5_checksOf_89 : decode cX5_checksOf 89 = .ok (.ifCond .ne 7, 3) := by decide +kernel
theorem dX5_checksOf_92 : decode cX5_checksOf 92 = .ok (.iconst 1, 1) := by decide +kernel
theorem dX5_checksOf_93 : decode cX5_checksOf 93 = .ok (.goto 9, 3) := by decide +kernel
theorem dX5_checksOf_96 : decode cX5_checksOf 96 = .ok (.aload_n 1, 1) := by decide +kernel
theorem dX5_checksOf_97 : decode cX5_checksOf 97 = .ok (.iload 7, 2) := by decide +kernel
theorem dX5_checksOf_99 : decode cX5_checksOf 99 = .ok (.invokevirtual 85, 3) := by decide +kernel
theorem dX5_checksOf_102 : decode cX5_checksOf 102 = .ok (.istore 11, 2) := by decide +kernel
theorem dX5_checksOf_104 : decode cX5_checksOf 104 = .ok (.iload 6, 2) := by decide +kernel
theorem dX5_checksOf_106 : decode cX5_checksOf 106 = .ok (.iload 5, 2) := by decide +kernel
theorem dX5_checksOf_108 : decode cX5_checksOf 108 = .ok (.ishr, 1) := by decide +kernel
theorem dX5_checksOf_109 : decode cX5_checksOf 109 = .ok (.iconst 1, 1) := by decide +kernel
theorem dX5_checksOf_110 : decode cX5_checksOf 110 = .ok (.iand, 1) := by decide +kernel
theorem dX5_checksOf_111 : decode cX5_checksOf 111 = .ok (.iload 11, 2) := by decide +kernel
theorem dX5_checksOf_113 : decode cX5_checksOf 113 = .ok (.if_icmp .eq 7, 3) := by decide +kernel
theorem dX5_checksOf_116 : decode cX5_checksOf 116 = .ok (.iconst 1, 1) := by decide +kernel
theorem dX5_checksOf_117 : decode cX5_checksOf 117 = .ok (.goto 4, 3) := by decide +kernel
theorem dX5_checksOf_120 : decode cX5_checksOf 120 = .ok (.iconst 0, 1) := by decide +kernel
theorem dX5_checksOf_121 : decode cX5_checksOf 121 = .ok (.istore 12, 2) := by decide +kernel
theorem dX5_checksOf_123 : decode cX5_checksOf 123 = .ok (.iload 6, 2) := by decide +kernel
theorem dX5_checksOf_125 : decode cX5_checksOf 125 = .ok (.iconst 1, 1) := by decide +kernel
theorem dX5_checksOf_126 : decode cX5_checksOf 126 = .ok (.ishl, 1) := by decide +kernel
theorem dX5_checksOf_127 : decode cX5_checksOf 127 = .ok (.iload_n 3, 1) := by decide +kernel
theorem dX5_checksOf_128 : decode cX5_checksOf 128 = .ok (.iand, 1) := by decide +kernel
theorem dX5_checksOf_129 : decode cX5_checksOf 129 = .ok (.istore 6, 2) := by decide +kernel
theorem dX5_checksOf_131 : decode cX5_checksOf 131 = .ok (.iload 12, 2) := by decide +kernel
theorem dX5_checksOf_133 : decode cX5_checksOf 133 = .ok (.ifCond .eq 10, 3) := by decide +kernel
theorem dX5_checksOf_136 : decode cX5_checksOf 136 = .ok (.iload 6, 2) := by decide +kernel
theorem dX5_checksOf_138 : decode cX5_checksOf 138 = .ok (.iload 4, 2) := by decide +kernel
theorem dX5_checksOf_140 : decode cX5_checksOf 140 = .ok (.ixor, 1) := by decide +kernel
theorem dX5_checksOf_141 : decode cX5_checksOf 141 = .ok (.istore 6, 2) := by decide +kernel
theorem dX5_checksOf_143 : decode cX5_checksOf 143 = .ok (.iinc 7 1, 3) := by decide +kernel
theorem dX5_checksOf_146 : decode cX5_checksOf 146 = .ok (.iinc 10 1, 3) := by decide +kernel
theorem dX5_checksOf_149 : decode cX5_checksOf 149 = .ok (.goto (-76), 3) := by decide +kernel
theorem dX5_checksOf_152 : decode cX5_checksOf 152 = .ok (.iinc 8 1, 3) := by decide +kernel
theorem dX5_checksOf_155 : decode cX5_checksOf 155 = .ok (.goto (-111), 3) := by decide +kernel
theorem dX5_checksOf_158 : decode cX5_checksOf 158 = .ok (.iload 6, 2) := by decide +kernel
theorem dX5_checksOf_160 : decode cX5_checksOf 160 = .ok (.ireturn, 1) := by decide +kernel
set_option maxRecDepth 20000 in
theorem ggX5_checksHold_X5_roleAt : GoodIn wsX5_checksHold wsX5_roleAt := gi_e e_wsX5_checksHold e_wsX5_roleAt (by decide +kernel)
set_option maxRecDepth 20000 in
theorem gX5_checksHold_X5_roleAt : GoodIn wsX5_checksHold (wsV RX5 82 RX5 yX5_roleAt wsX5_roleAt) := goodIn_app (gi_e e_wsX5_checksHold (ce fw_3171 (ce fw_3151 (ce fw_3152 (ce fw_1027 (cn))))) (by decide +kernel)) ggX5_checksHold_X5_roleAt
set_option maxRecDepth 20000 in
theorem ggX5_checksHold_X2_at : GoodIn wsX5_checksHold wsX2_at := gi_e e_wsX5_checksHold e_wsX2_at (by decide +kernel)
set_option maxRecDepth 20000 in
theorem gX5_checksHold_X2_at : GoodIn wsX5_checksHold (wsV RX5 85 RX2 yX2_at wsX2_at) := goodIn_app (gi_e e_wsX5_checksHold (ce fw_3172 (ce fw_3173 (ce fw_3174 (ce fw_1035 (cn))))) (by decide +kernel)) ggX5_checksHold_X2_at
set_option maxRecDepth 20000 in
theorem ggX5_checksHold_X5_checksOf : GoodIn wsX5_checksHold wsX5_checksOf := gi_e e_wsX5_checksHold e_wsX5_checksOf (by decide +kernel)
set_option maxRecDepth 20000 in
theorem gX5_checksHold_X5_checksOf : GoodIn wsX5_checksHold (wsV RX5 90 RX5 yX5_checksOf wsX5_checksOf) := goodIn_app (gi_e e_wsX5_checksHold (ce fw_3263 (ce fw_3168 (ce fw_3169 (ce fw_1027 (cn))))) (by decide +kernel)) ggX5_checksHold_X5_checksOf
theorem dX5_checksHold_0 : decode cX5_checksHold 0 = .ok (.iconst 0, 1) := by decide +kernel
theorem dX5_checksHold_1 : decode cX5_checksHold 1 = .ok (.istore_n 3, 1) := by decide +kernel
theorem dX5_checksHold_2 : decode cX5_checksHold 2 = .ok (.iconst 0, 1) := by decide +kernel
theorem dX5_checksHold_3 : decode cX5_checksHold 3 = .ok (.istore 4, 2) := by decide +kernel
theorem dX5_checksHold_5 : decode cX5_checksHold 5 = .ok (.iload 4, 2) := by decide +kernel
theorem dX5_checksHold_7 : decode cX5_checksHold 7 = .ok (.aload_n 0, 1) := by decide +kernel
theorem dX5_checksHold_8 : decode cX5_checksHold 8 = .ok (.getfield 22, 3) := by decide +kernel
theorem dX5_checksHold_11 : decode cX5_checksHold 11 = .ok (.if_icmp .ge 37, 3) := by decide +kernel
theorem dX5_checksHold_14 : decode cX5_checksHold 14 = .ok (.aload_n 0, 1) := by decide +kernel
theorem dX5_checksHold_15 : decode cX5_checksHold 15 = .ok (.iload 4, 2) := by decide +kernel
theorem dX5_checksHold_17 : decode cX5_checksHold 17 = .ok (.invokevirtual 82, 3) := by decide +kernel
theorem dX5_checksHold_20 : decode cX5_checksHold 20 = .ok (.iconst 2, 1) := by decide +kernel
theorem dX5_checksHold_21 : decode cX5_checksHold 21 = .ok (.if_icmp .ne 21, 3) := by decide +kernel
theorem dX5_checksHold_24 : decode cX5_checksHold 24 = .ok (.iload_n 3, 1) := by decide +kernel
theorem dX5_checksHold_25 : decode cX5_checksHold 25 = .ok (.iconst 2, 1) := by decide +kernel
theorem dX5_checksHold_26 : decode cX5_checksHold 26 = .ok (.imul, 1) := by decide +kernel
theorem dX5_checksHold_27 : decode cX5_checksHold 27 = .ok (.aload_n 1, 1) := by decide +kernel
theorem dX5_checksHold_28 : decode cX5_checksHold 28 = .ok (.iload_n 2, 1) := by decide +kernel
theorem dX5_checksHold_29 : decode cX5_checksHold 29 = .ok (.iload 4, 2) := by decide +kernel
theorem dX5_checksHold_31 : decode cX5_checksHold 31 = .ok (.aload_n 0, 1) := by decide +kernel
theorem dX5_checksHold_32 : decode cX5_checksHold 32 = .ok (.getfield 18, 3) := by decide +kernel
theorem dX5_checksHold_35 : decode cX5_checksHold 35 = .ok (.imul, 1) := by decide +kernel
theorem dX5_checksHold_36 : decode cX5_checksHold 36 = .ok (.iadd, 1) := by decide +kernel
theorem dX5_checksHold_37 : decode cX5_checksHold 37 = .ok (.invokevirtual 85, 3) := by decide +kernel
theorem dX5_checksHold_40 : decode cX5_checksHold 40 = .ok (.iadd, 1) := by decide +kernel
theorem dX5_checksHold_41 : decode cX5_checksHold 41 = .ok (.istore_n 3, 1) := by decide +kernel
theorem dX5_checksHold_42 : decode cX5_checksHold 42 = .ok (.iinc 4 1, 3) := by decide +kernel
theorem dX5_checksHold_45 : decode cX5_checksHold 45 = .ok (.goto (-40), 3) := by decide +kernel
theorem dX5_checksHold_48 : decode cX5_checksHold 48 = .ok (.iload_n 3, 1) := by decide +kernel
theorem dX5_checksHold_49 : decode cX5_checksHold 49 = .ok (.aload_n 0, 1) := by decide +kernel
theorem dX5_checksHold_50 : decode cX5_checksHold 50 = .ok (.aload_n 1, 1) := by decide +kernel
theorem dX5_checksHold_51 : decode cX5_checksHold 51 = .ok (.iload_n 2, 1) := by decide +kernel
theorem dX5_checksHold_52 : decode cX5_checksHold 52 = .ok (.aload_n 0, 1) := by decide +kernel
theorem dX5_checksHold_53 : decode cX5_checksHold 53 = .ok (.getfield 49, 3) := by decide +kernel
theorem dX5_checksHold_56 : decode cX5_checksHold 56 = .ok (.isub, 1) := by decide +kernel
theorem dX5_checksHold_57 : decode cX5_checksHold 57 = .ok (.invokevirtual 90, 3) := by decide +kernel
theorem dX5_checksHold_60 : decode cX5_checksHold 60 = .ok (.if_icmp .ne 7, 3) := by decide +kernel
theorem dX5_checksHold_63 : decode cX5_checksHold 63 = .ok (.iconst 1, 1) := by decide +kernel
theorem dX5_checksHold_64 : decode cX5_checksHold 64 = .ok (.goto 4, 3) := by decide +kernel
theorem dX5_checksHold_67 : decode cX5_checksHold 67 = .ok (.iconst 0, 1) := by decide +kernel
theorem dX5_checksHold_68 : decode cX5_checksHold 68 = .ok (.ireturn, 1) := by decide +kernel
theorem dX6_init_0 : decode cX6_init 0 = .ok (.aload_n 0, 1) := by decide +kernel
theorem dX6_init_1 : decode cX6_init 1 = .ok (.invokespecial 3, 3) := by decide +kernel
theorem dX6_init_4 : decode cX6_init 4 = .ok (.aload_n 0, 1) := by decide +kernel
theorem dX6_init_5 : decode cX6_init 5 = .ok (.bipush 8, 2) := by decide +kernel
theorem dX6_init_7 : decode cX6_init 7 = .ok (.newarray .int, 2) := by decide +kernel
theorem dX6_init_9 : decode cX6_init 9 = .ok (.putfield 9, 3) := by decide +kernel
theorem dX6_init_12 : decode cX6_init 12 = .ok (.return_, 1) := by decide +kernel
theorem dX6_enqueue_0 : decode cX6_enqueue 0 = .ok (.aload_n 0, 1) := by decide +kernel
theorem dX6_enqueue_1 : decode cX6_enqueue 1 = .ok (.getfield 15, 3) := by decide +kernel
theorem dX6_enqueue_4 : decode cX6_enqueue 4 = .ok (.ifCond .lt 32, 3) := by decide +kernel
theorem dX6_enqueue_7 : decode cX6_enqueue 7 = .ok (.aload_n 0, 1) := by decide +kernel
theorem dX6_enqueue_8 : decode cX6_enqueue 8 = .ok (.getfield 15, 3) := by decide +kernel
theorem dX6_enqueue_11 : decode cX6_enqueue 11 = .ok (.bipush 8, 2) := by decide +kernel
theorem dX6_enqueue_13 : decode cX6_enqueue 13 = .ok (.if_icmp .ge 23, 3) := by decide +kernel
theorem dX6_enqueue_16 : decode cX6_enqueue 16 = .ok (.aload_n 0, 1) := by decide +kernel
theorem dX6_enqueue_17 : decode cX6_enqueue 17 = .ok (.getfield 9, 3) := by decide +kernel
theorem dX6_enqueue_20 : decode cX6_enqueue 20 = .ok (.aload_n 0, 1) := by decide +kernel
theorem dX6_enqueue_21 : decode cX6_enqueue 21 = .ok (.getfield 15, 3) := by decide +kernel
theorem dX6_enqueue_24 : decode cX6_enqueue 24 = .ok (.iload_n 1, 1) := by decide +kernel
theorem dX6_enqueue_25 : decode cX6_enqueue 25 = .ok (.iastore, 1) := by decide +kernel
theorem dX6_enqueue_26 : decode cX6_enqueue 26 = .ok (.aload_n 0, 1) := by decide +kernel
theorem dX6_enqueue_27 : decode cX6_enqueue 27 = .ok (.dup, 1) := by decide +kernel
theorem dX6_enqueue_28 : decode cX6_enqueue 28 = .ok (.getfield 15, 3) := by decide +kernel
theorem dX6_enqueue_31 : decode cX6_enqueue 31 = .ok (.iconst 1, 1) := by decide +kernel
theorem dX6_enqueue_32 : decode cX6_enqueue 32 = .ok (.iadd, 1) := by decide +kernel
theorem dX6_enqueue_33 : decode cX6_enqueue 33 = .ok (.putfield 15, 3) := by decide +kernel
theorem dX6_enqueue_36 : decode cX6_enqueue 36 = .ok (.return_, 1) := by decide +kernel
set_option maxRecDepth 20000 in
theorem ggX6_transmit_X6_transmitOne : GoodIn wsX6_transmit wsX6_transmitOne := gi_e e_wsX6_transmit e_wsX6_transmitOne (by decide +kernel)
set_option maxRecDepth 20000 in
theorem gX6_transmit_X6_transmitOne : GoodIn wsX6_transmit (wsV RX6 19 RX6 yX6_transmitOne wsX6_transmitOne) := goodIn_app (gi_e e_wsX6_transmit (ce fw_3146 (ce fw_3148 (ce fw_1 (ce fw_1030 (cn))))) (by decide +kernel)) ggX6_transmit_X6_transmitOne
theorem dX6_transmit_0 : decode cX6_transmit 0 = .ok (.iload 4, 2) := by decide +kernel
theorem dX6_transmit_2 : decode cX6_transmit 2 = .ok (.istore 5, 2) := by decide +kernel
theorem dX6_transmit_4 : decode cX6_transmit 4 = .ok (.iconst 0, 1) := by decide +kernel
theorem dX6_transmit_5 : decode cX6_transmit 5 = .ok (.istore 6, 2) := by decide +kernel
theorem dX6_transmit_7 : decode cX6_transmit 7 = .ok (.iload 6, 2) := by decide +kernel
theorem dX6_transmit_9 : decode cX6_transmit 9 = .ok (.iload_n 3, 1) := by decide +kernel
theorem dX6_transmit_10 : decode cX6_transmit 10 = .ok (.if_icmp .ge 19, 3) := by decide +kernel
theorem dX6_transmit_13 : decode cX6_transmit 13 = .ok (.aload_n 0, 1) := by decide +kernel
theorem dX6_transmit_14 : decode cX6_transmit 14 = .ok (.aload_n 1, 1) := by decide +kernel
theorem dX6_transmit_15 : decode cX6_transmit 15 = .ok (.aload_n 2, 1) := by decide +kernel
theorem dX6_transmit_16 : decode cX6_transmit 16 = .ok (.iload 5, 2) := by decide +kernel
theorem dX6_transmit_18 : decode cX6_transmit 18 = .ok (.invokevirtual 19, 3) := by decide +kernel
theorem dX6_transmit_21 : decode cX6_transmit 21 = .ok (.istore 5, 2) := by decide +kernel
theorem dX6_transmit_23 : decode cX6_transmit 23 = .ok (.iinc 6 1, 3) := by decide +kernel
theorem dX6_transmit_26 : decode cX6_transmit 26 = .ok (.goto (-19), 3) := by decide +kernel
theorem dX6_transmit_29 : decode cX6_transmit 29 = .ok (.return_, 1) := by decide +kernel
set_option maxRecDepth 20000 in
theorem ggX6_transmitOne_X5_roleAt : GoodIn wsX6_transmitOne wsX5_roleAt := gi_e e_wsX6_transmitOne e_wsX5_roleAt (by decide +kernel)
set_option maxRecDepth 20000 in
theorem gX6_transmitOne_X5_roleAt : GoodIn wsX6_transmitOne (wsV RX6 36 RX5 yX5_roleAt wsX5_roleAt) := goodIn_app (gi_e e_wsX6_transmitOne (ce fw_3150 (ce fw_3151 (ce fw_3152 (ce fw_1027 (cn))))) (by decide +kernel)) ggX6_transmitOne_X5_roleAt
set_option maxRecDepth 20000 in
theorem ggX6_transmitOne_X2_append : GoodIn wsX6_transmitOne wsX2_append := gi_e e_wsX6_transmitOne e_wsX2_append (by decide +kernel)
set_option maxRecDepth 20000 in
theorem gX6_transmitOne_X2_append : GoodIn wsX6_transmitOne (wsV RX6 43 RX2 yX2_append wsX2_append) := goodIn_app (gi_e e_wsX6_transmitOne (ce fw_3154 (ce fw_3155 (ce fw_3156 (ce fw_1035 (cn))))) (by decide +kernel)) ggX6_transmitOne_X2_append
set_option maxRecDepth 20000 in
theorem ggX6_transmitOne_X6_linkBit : GoodIn wsX6_transmitOne wsX6_linkBit := gi_e e_wsX6_transmitOne e_wsX6_linkBit (by decide +kernel)
set_option maxRecDepth 20000 in
theorem gX6_transmitOne_X6_linkBit : GoodIn wsX6_transmitOne (wsV RX6 47 RX6 yX6_linkBit wsX6_linkBit) := goodIn_app (gi_e e_wsX6_transmitOne (ce fw_3158 (ce fw_3160 (ce fw_2 (ce fw_1030 (cn))))) (by decide +kernel)) ggX6_transmitOne_X6_linkBit
set_option maxRecDepth 20000 in
theorem ggX6_transmitOne_X5_checksOf : GoodIn wsX6_transmitOne wsX5_checksOf := gi_e e_wsX6_transmitOne e_wsX5_checksOf (by decide +kernel)
set_option maxRecDepth 20000 in
theorem gX6_transmitOne_X5_checksOf : GoodIn wsX6_transmitOne (wsV RX6 55 RX5 yX5_checksOf wsX5_checksOf) := goodIn_app (gi_e e_wsX6_transmitOne (ce fw_3167 (ce fw_3168 (ce fw_3169 (ce fw_1027 (cn))))) (by decide +kernel)) ggX6_transmitOne_X5_checksOf
theorem dX6_transmitOne_0 : decode cX6_transmitOne 0 = .ok (.iload_n 3, 1) := by decide +kernel
theorem dX6_transmitOne_1 : decode cX6_transmitOne 1 = .ok (.istore 4, 2) := by decide +kernel
theorem dX6_transmitOne_3 : decode cX6_transmitOne 3 = .ok (.aload_n 2, 1) := by decide +kernel
theorem dX6_transmitOne_4 : decode cX6_transmitOne 4 = .ok (.getfield 23, 3) := by decide +kernel
theorem dX6_transmitOne_7 : decode cX6_transmitOne 7 = .ok (.istore 5, 2) := by decide +kernel
theorem dX6_transmitOne_9 : decode cX6_transmitOne 9 = .ok (.aload_n 1, 1) := by decide +kernel
theorem dX6_transmitOne_10 : decode cX6_transmitOne 10 = .ok (.getfield 28, 3) := by decide +kernel
theorem dX6_transmitOne_13 : decode cX6_transmitOne 13 = .ok (.istore 6, 2) := by decide +kernel
theorem dX6_transmitOne_15 : decode cX6_transmitOne 15 = .ok (.iconst 0, 1) := by decide +kernel
theorem dX6_transmitOne_16 : decode cX6_transmitOne 16 = .ok (.istore 7, 2) := by decide +kernel
theorem dX6_transmitOne_18 : decode cX6_transmitOne 18 = .ok (.iload 7, 2) := by decide +kernel
theorem dX6_transmitOne_20 : decode cX6_transmitOne 20 = .ok (.aload_n 1, 1) := by decide +kernel
theorem dX6_transmitOne_21 : decode cX6_transmitOne 21 = .ok (.getfield 33, 3) := by decide +kernel
theorem dX6_transmitOne_24 : decode cX6_transmitOne 24 = .ok (.if_icmp .ge 101, 3) := by decide +kernel
theorem dX6_transmitOne_27 : decode cX6_transmitOne 27 = .ok (.aload_n 1, 1) := by decide +kernel
theorem dX6_transmitOne_28 : decode cX6_transmitOne 28 = .ok (.iload 7, 2) := by decide +kernel
theorem dX6_transmitOne_30 : decode cX6_transmitOne 30 = .ok (.invokevirtual 36, 3) := by decide +kernel
theorem dX6_transmitOne_33 : decode cX6_transmitOne 33 = .ok (.istore 8, 2) := by decide +kernel
theorem dX6_transmitOne_35 : decode cX6_transmitOne 35 = .ok (.iload 8, 2) := by decide +kernel
theorem dX6_transmitOne_37 : decode cX6_transmitOne 37 = .ok (.iconst 2, 1) := by decide +kernel
theorem dX6_transmitOne_38 : decode cX6_transmitOne 38 = .ok (.if_icmp .ne 22, 3) := by decide +kernel
theorem dX6_transmitOne_41 : decode cX6_transmitOne 41 = .ok (.iinc 6 (-1), 3) := by decide +kernel
theorem dX6_transmitOne_44 : decode cX6_transmitOne 44 = .ok (.aload_n 2, 1) := by decide +kernel
theorem dX6_transmitOne_45 : decode cX6_transmitOne 45 = .ok (.aload_n 0, 1) := by decide +kernel
theorem dX6_transmitOne_46 : decode cX6_transmitOne 46 = .ok (.getfield 40, 3) := by decide +kernel
theorem dX6_transmitOne_49 : decode cX6_transmitOne 49 = .ok (.iload 6, 2) := by decide +kernel
theorem dX6_transmitOne_51 : decode cX6_transmitOne 51 = .ok (.ishr, 1) := by decide +kernel
theorem dX6_transmitOne_52 : decode cX6_transmitOne 52 = .ok (.iconst 1, 1) := by decide +kernel
theorem dX6_transmitOne_53 : decode cX6_transmitOne 53 = .ok (.iand, 1) := by decide +kernel
theorem dX6_transmitOne_54 : decode cX6_transmitOne 54 = .ok (.invokevirtual 43, 3) := by decide +kernel
theorem dX6_transmitOne_57 : decode cX6_transmitOne 57 = .ok (.goto 22, 3) := by decide +kernel
theorem dX6_transmitOne_60 : decode cX6_transmitOne 60 = .ok (.aload_n 2, 1) := by decide +kernel
theorem dX6_transmitOne_61 : decode cX6_transmitOne 61 = .ok (.iload 8, 2) := by decide +kernel
theorem dX6_transmitOne_63 : decode cX6_transmitOne 63 = .ok (.iconst 3, 1) := by decide +kernel
theorem dX6_transmitOne_64 : decode cX6_transmitOne 64 = .ok (.if_icmp .ne 10, 3) := by decide +kernel
theorem dX6_transmitOne_67 : decode cX6_transmitOne 67 = .ok (.aload_n 0, 1) := by decide +kernel
theorem dX6_transmitOne_68 : decode cX6_transmitOne 68 = .ok (.invokevirtual 47, 3) := by decide +kernel
theorem dX6_transmitOne_71 : decode cX6_transmitOne 71 = .ok (.goto 5, 3) := by decide +kernel
theorem dX6_transmitOne_74 : decode cX6_transmitOne 74 = .ok (.iload 8, 2) := by decide +kernel
theorem dX6_transmitOne_76 : decode cX6_transmitOne 76 = .ok (.invokevirtual 43, 3) := by decide +kernel
theorem dX6_transmitOne_79 : decode cX6_transmitOne 79 = .ok (.iconst 1, 1) := by decide +kernel
theorem dX6_transmitOne_80 : decode cX6_transmitOne 80 = .ok (.istore 9, 2) := by decide +kernel
theorem dX6_transmitOne_82 : decode cX6_transmitOne 82 = .ok (.iload 9, 2) := by decide +kernel
theorem dX6_transmitOne_84 : decode cX6_transmitOne 84 = .ok (.aload_n 1, 1) := by decide +kernel
theorem dX6_transmitOne_85 : decode cX6_transmitOne 85 = .ok (.getfield 51, 3) := by decide +kernel
theorem dX6_transmitOne_88 : decode cX6_transmitOne 88 = .ok (.if_icmp .ge 31, 3) := by decide +kernel
theorem dX6_transmitOne_91 : decode cX6_transmitOne 91 = .ok (.iload 4, 2) := by decide +kernel
theorem dX6_transmitOne_93 : decode cX6_transmitOne 93 = .ok (.ldc 54, 2) := by decide +kernel
theorem dX6_transmitOne_95 : decode cX6_transmitOne 95 = .ok (.imul, 1) := by decide +kernel
theorem dX6_transmitOne_96 : decode cX6_transmitOne 96 = .ok (.sipush 12345, 3) := by decide +kernel
theorem dX6_transmitOne_99 : decode cX6_transmitOne 99 = .ok (.iadd, 1) := by decide +kernel
theorem dX6_transmitOne_100 : decode cX6_transmitOne 100 = .ok (.istore 4, 2) := by decide +kernel
theorem dX6_transmitOne_102 : decode cX6_transmitOne 102 = .ok (.aload_n 2, 1) := by decide +kernel
theorem dX6_transmitOne_103 : decode cX6_transmitOne 103 = .ok (.iload 4, 2) := by decide +kernel
theorem dX6_transmitOne_105 : decode cX6_transmitOne 105 = .ok (.bipush 16, 2) := by decide +kernel
theorem dX6_transmitOne_107 : decode cX6_transmitOne 107 = .ok (.iushr, 1) := by decide +kernel
theorem dX6_transmitOne_108 : decode cX6_transmitOne 108 = .ok (.iconst 1, 1) := by decide +kernel
theorem dX6_transmitOne_109 : decode cX6_transmitOne 109 = .ok (.iand, 1) := by decide +kernel
theorem dX6_transmitOne_110 : decode cX6_transmitOne 110 = .ok (.invokevirtual 43, 3) := by decide +kernel
theorem dX6_transmitOne_113 : decode cX6_transmitOne 113 = .ok (.iinc 9 1, 3) := by decide +kernel
theorem dX6_transmitOne_116 : decode cX6_transmitOne 116 = .ok (.goto (-34), 3) := by decide +kernel
theorem dX6_transmitOne_119 : decode cX6_transmitOne 119 = .ok (.iinc 7 1, 3) := by decide +kernel
theorem dX6_transmitOne_122 : decode cX6_transmitOne 122 = .ok (.goto (-104), 3) := by decide +kernel
theorem dX6_transmitOne_125 : decode cX6_transmitOne 125 = .ok (.aload_n 0, 1) := by decide +kernel
theorem dX6_transmitOne_126 : decode cX6_transmitOne 126 = .ok (.aload_n 1, 1) := by decide +kernel
theorem dX6_transmitOne_127 : decode cX6_transmitOne 127 = .ok (.aload_n 2, 1) := by decide +kernel
theorem dX6_transmitOne_128 : decode cX6_transmitOne 128 = .ok (.iload 5, 2) := by decide +kernel
theorem dX6_transmitOne_130 : decode cX6_transmitOne 130 = .ok (.invokevirtual 55, 3) := by decide +kernel
theorem dX6_transmitOne_133 : decode cX6_transmitOne 133 = .ok (.putfield 40, 3) := by decide +kernel
theorem dX6_transmitOne_136 : decode cX6_transmitOne 136 = .ok (.iload 4, 2) := by decide +kernel
theorem dX6_transmitOne_138 : decode cX6_transmitOne 138 = .ok (.ireturn, 1) := by decide +kernel
set_option maxRecDepth 20000 in
theorem ggX6_linkBit_X6_dequeue : GoodIn wsX6_linkBit wsX6_dequeue := gi_e e_wsX6_linkBit e_wsX6_dequeue (by decide +kernel)
set_option maxRecDepth 20000 in
theorem gX6_linkBit_X6_dequeue : GoodIn wsX6_linkBit (wsV RX6 62 RX6 yX6_dequeue wsX6_dequeue) := goodIn_app (gi_e e_wsX6_linkBit (ce fw_3162 (ce fw_3164 (ce fw_3 (ce fw_1030 (cn))))) (by decide +kernel)) ggX6_linkBit_X6_dequeue
theorem dX6_linkBit_0 : decode cX6_linkBit 0 = .ok (.aload_n 0, 1) := by decide +kernel
theorem dX6_linkBit_1 : decode cX6_linkBit 1 = .ok (.getfield 15, 3) := by decide +kernel
theorem dX6_linkBit_4 : decode cX6_linkBit 4 = .ok (.ifCond .ne 5, 3) := by decide +kernel
theorem dX6_linkBit_7 : decode cX6_linkBit 7 = .ok (.iconst 1, 1) := by decide +kernel
theorem dX6_linkBit_8 : decode cX6_linkBit 8 = .ok (.ireturn, 1) := by decide +kernel
theorem dX6_linkBit_9 : decode cX6_linkBit 9 = .ok (.aload_n 0, 1) := by decide +kernel
theorem dX6_linkBit_10 : decode cX6_linkBit 10 = .ok (.getfield 59, 3) := by decide +kernel
theorem dX6_linkBit_13 : decode cX6_linkBit 13 = .ok (.bipush 8, 2) := by decide +kernel
theorem dX6_linkBit_15 : decode cX6_linkBit 15 = .ok (.if_icmp .le 9, 3) := by decide +kernel
theorem dX6_linkBit_18 : decode cX6_linkBit 18 = .ok (.aload_n 0, 1) := by decide +kernel
theorem dX6_linkBit_19 : decode cX6_linkBit 19 = .ok (.invokevirtual 62, 3) := by decide +kernel
theorem dX6_linkBit_22 : decode cX6_linkBit 22 = .ok (.iconst 1, 1) := by decide +kernel
theorem dX6_linkBit_23 : decode cX6_linkBit 23 = .ok (.ireturn, 1) := by decide +kernel
theorem dX6_linkBit_24 : decode cX6_linkBit 24 = .ok (.aload_n 0, 1) := by decide +kernel
theorem dX6_linkBit_25 : decode cX6_linkBit 25 = .ok (.getfield 59, 3) := by decide +kernel
theorem dX6_linkBit_28 : decode cX6_linkBit 28 = .ok (.ifCond .ne 7, 3) := by decide +kernel
theorem dX6_linkBit_31 : decode cX6_linkBit 31 = .ok (.iconst 0, 1) := by decide +kernel
theorem dX6_linkBit_32 : decode cX6_linkBit 32 = .ok (.goto 19, 3) := by decide +kernel
theorem dX6_linkBit_35 : decode cX6_linkBit 35 = .ok (.aload_n 0, 1) := by decide +kernel
theorem dX6_linkBit_36 : decode cX6_linkBit 36 = .ok (.getfield 9, 3) := by decide +kernel
theorem dX6_linkBit_39 : decode cX6_linkBit 39 = .ok (.iconst 0, 1) := by decide +kernel
theorem dX6_linkBit_40 : decode cX6_linkBit 40 = .ok (.iaload, 1) := by decide +kernel
theorem dX6_linkBit_41 : decode cX6_linkBit 41 = .ok (.bipush 8, 2) := by decide +kernel
theorem dX6_linkBit_43 : decode cX6_linkBit 43 = .ok (.aload_n 0, 1) := by decide +kernel
theorem dX6_linkBit_44 : decode cX6_linkBit 44 = .ok (.getfield 59, 3) := by decide +kernel
theorem dX6_linkBit_47 : decode cX6_linkBit 47 = .ok (.isub, 1) := by decide +kernel
theorem dX6_linkBit_48 : decode cX6_linkBit 48 = .ok (.ishr, 1) := by decide +kernel
theorem dX6_linkBit_49 : decode cX6_linkBit 49 = .ok (.iconst 1, 1) := by decide +kernel
theorem dX6_linkBit_50 : decode cX6_linkBit 50 = .ok (.iand, 1) := by decide +kernel
theorem dX6_linkBit_51 : decode cX6_linkBit 51 = .ok (.istore_n 1, 1) := by decide +kernel
theorem dX6_linkBit_52 : decode cX6_linkBit 52 = .ok (.aload_n 0, 1) := by decide +kernel
theorem dX6_linkBit_53 : decode cX6_linkBit 53 = .ok (.dup, 1) := by decide +kernel
theorem dX6_linkBit_54 : decode cX6_linkBit 54 = .ok (.getfield 59, 3) := by decide +kernel
theorem dX6_linkBit_57 : decode cX6_linkBit 57 = .ok (.iconst 1, 1) := by decide +kernel
theorem dX6_linkBit_58 : decode cX6_linkBit 58 = .ok (.iadd, 1) := by decide +kernel
theorem dX6_linkBit_59 : decode cX6_linkBit 59 = .ok (.putfield 59, 3) := by decide +kernel
theorem dX6_linkBit_62 : decode cX6_linkBit 62 = .ok (.iload_n 1, 1) := by decide +kernel
theorem dX6_linkBit_63 : decode cX6_linkBit 63 = .ok (.ireturn, 1) := by decide +kernel
theorem dX6_dequeue_0 : decode cX6_dequeue 0 = .ok (.iconst 1, 1) := by decide +kernel
theorem dX6_dequeue_1 : decode cX6_dequeue 1 = .ok (.istore_n 1, 1) := by decide +kernel
theorem dX6_dequeue_2 : decode cX6_dequeue 2 = .ok (.iload_n 1, 1) := by decide +kernel
theorem dX6_dequeue_3 : decode cX6_dequeue 3 = .ok (.bipush 8, 2) := by decide +kernel
theorem dX6_dequeue_5 : decode cX6_dequeue 5 = .ok (.if_icmp .ge 23, 3) := by decide +kernel
theorem dX6_dequeue_8 : decode cX6_dequeue 8 = .ok (.aload_n 0, 1) := by decide +kernel
theorem dX6_dequeue_9 : decode cX6_dequeue 9 = .ok (.getfield 9, 3) := by decide +kernel
theorem dX6_dequeue_12 : decode cX6_dequeue 12 = .ok (.iload_n 1, 1) := by decide +kernel
theorem dX6_dequeue_13 : decode cX6_dequeue 13 = .ok (.iconst 1, 1) := by decide +kernel
theorem dX6_dequeue_14 : decode cX6_dequeue 14 = .ok (.isub, 1) := by decide +kernel
theorem dX6_dequeue_15 : decode cX6_dequeue 15 = .ok (.aload_n 0, 1) := by decide +kernel
theorem dX6_dequeue_16 : decode cX6_dequeue 16 = .ok (.getfield 9, 3) := by decide +kernel
theorem dX6_dequeue_19 : decode cX6_dequeue 19 = .ok (.iload_n 1, 1) := by decide +kernel
theorem dX6_dequeue_20 : decode cX6_dequeue 20 = .ok (.iaload, 1) := by decide +kernel
theorem dX6_dequeue_21 : decode cX6_dequeue 21 = .ok (.iastore, 1) := by decide +kernel
theorem dX6_dequeue_22 : decode cX6_dequeue 22 = .ok (.iinc 1 1, 3) := by decide +kernel
theorem dX6_dequeue_25 : decode cX6_dequeue 25 = .ok (.goto (-23), 3) := by decide +kernel
theorem dX6_dequeue_28 : decode cX6_dequeue 28 = .ok (.aload_n 0, 1) := by decide +kernel
theorem dX6_dequeue_29 : decode cX6_dequeue 29 = .ok (.dup, 1) := by decide +kernel
theorem dX6_dequeue_30 : decode cX6_dequeue 30 = .ok (.getfield 15, 3) := by decide +kernel
theorem dX6_dequeue_33 : decode cX6_dequeue 33 = .ok (.iconst 1, 1) := by decide +kernel
theorem dX6_dequeue_34 : decode cX6_dequeue 34 = .ok (.isub, 1) := by decide +kernel
theorem dX6_dequeue_35 : decode cX6_dequeue 35 = .ok (.putfield 15, 3) := by decide +kernel
theorem dX6_dequeue_38 : decode cX6_dequeue 38 = .ok (.aload_n 0, 1) := by decide +kernel
theorem dX6_dequeue_39 : decode cX6_dequeue 39 = .ok (.iconst 0, 1) := by decide +kernel
theorem dX6_dequeue_40 : decode cX6_dequeue 40 = .ok (.putfield 59, 3) := by decide +kernel
theorem dX6_dequeue_43 : decode cX6_dequeue 43 = .ok (.return_, 1) := by decide +kernel
theorem dX6_copyFrom_0 : decode cX6_copyFrom 0 = .ok (.aload_n 1, 1) := by decide +kernel
theorem dX6_copyFrom_1 : decode cX6_copyFrom 1 = .ok (.getfield 9, 3) := by decide +kernel
theorem dX6_copyFrom_4 : decode cX6_copyFrom 4 = .ok (.iconst 0, 1) := by decide +kernel
theorem dX6_copyFrom_5 : decode cX6_copyFrom 5 = .ok (.aload_n 0, 1) := by decide +kernel
theorem dX6_copyFrom_6 : decode cX6_copyFrom 6 = .ok (.getfield 9, 3) := by decide +kernel
theorem dX6_copyFrom_9 : decode cX6_copyFrom 9 = .ok (.iconst 0, 1) := by decide +kernel
theorem dX6_copyFrom_10 : decode cX6_copyFrom 10 = .ok (.bipush 8, 2) := by decide +kernel
theorem dX6_copyFrom_12 : decode cX6_copyFrom 12 = .ok (.invokestatic 65, 3) := by decide +kernel
theorem dX6_copyFrom_15 : decode cX6_copyFrom 15 = .ok (.aload_n 0, 1) := by decide +kernel
theorem dX6_copyFrom_16 : decode cX6_copyFrom 16 = .ok (.aload_n 1, 1) := by decide +kernel
theorem dX6_copyFrom_17 : decode cX6_copyFrom 17 = .ok (.getfield 15, 3) := by decide +kernel
theorem dX6_copyFrom_20 : decode cX6_copyFrom 20 = .ok (.putfield 15, 3) := by decide +kernel
theorem dX6_copyFrom_23 : decode cX6_copyFrom 23 = .ok (.aload_n 0, 1) := by decide +kernel
theorem dX6_copyFrom_24 : decode cX6_copyFrom 24 = .ok (.aload_n 1, 1) := by decide +kernel
theorem dX6_copyFrom_25 : decode cX6_copyFrom 25 = .ok (.getfield 59, 3) := by decide +kernel
theorem dX6_copyFrom_28 : decode cX6_copyFrom 28 = .ok (.putfield 59, 3) := by decide +kernel
theorem dX6_copyFrom_31 : decode cX6_copyFrom 31 = .ok (.aload_n 0, 1) := by decide +kernel
theorem dX6_copyFrom_32 : decode cX6_copyFrom 32 = .ok (.aload_n 1, 1) := by decide +kernel
theorem dX6_copyFrom_33 : decode cX6_copyFrom 33 = .ok (.getfield 40, 3) := by decide +kernel
theorem dX6_copyFrom_36 : decode cX6_copyFrom 36 = .ok (.putfield 40, 3) := by decide +kernel
theorem dX6_copyFrom_39 : decode cX6_copyFrom 39 = .ok (.return_, 1) := by decide +kernel
theorem dX7_init_0 : decode cX7_init 0 = .ok (.aload_n 0, 1) := by decide +kernel
theorem dX7_init_1 : decode cX7_init 1 = .ok (.invokespecial 1, 3) := by decide +kernel
theorem dX7_init_4 : decode cX7_init 4 = .ok (.return_, 1) := by decide +kernel
theorem dX7_begin_0 : decode cX7_begin 0 = .ok (.aload_n 0, 1) := by decide +kernel
theorem dX7_begin_1 : decode cX7_begin 1 = .ok (.iconst 0, 1) := by decide +kernel
theorem dX7_begin_2 : decode cX7_begin 2 = .ok (.putfield 7, 3) := by decide +kernel
theorem dX7_begin_5 : decode cX7_begin 5 = .ok (.aload_n 0, 1) := by decide +kernel
theorem dX7_begin_6 : decode cX7_begin 6 = .ok (.iconst 0, 1) := by decide +kernel
theorem dX7_begin_7 : decode cX7_begin 7 = .ok (.putfield 13, 3) := by decide +kernel
theorem dX7_begin_10 : decode cX7_begin 10 = .ok (.aload_n 0, 1) := by decide +kernel
theorem dX7_begin_11 : decode cX7_begin 11 = .ok (.iconst 0, 1) := by decide +kernel
theorem dX7_begin_12 : decode cX7_begin 12 = .ok (.putfield 16, 3) := by decide +kernel
theorem dX7_begin_15 : decode cX7_begin 15 = .ok (.aload_n 0, 1) := by decide +kernel
theorem dX7_begin_16 : decode cX7_begin 16 = .ok (.iconst 0, 1) := by decide +kernel
theorem dX7_begin_17 : decode cX7_begin 17 = .ok (.putfield 19, 3) := by decide +kernel
theorem dX7_begin_20 : decode cX7_begin 20 = .ok (.aload_n 0, 1) := by decide +kernel
theorem dX7_begin_21 : decode cX7_begin 21 = .ok (.iconst 0, 1) := by decide +kernel
theorem dX7_begin_22 : decode cX7_begin 22 = .ok (.putfield 22, 3) := by decide +kernel
theorem dX7_begin_25 : decode cX7_begin 25 = .ok (.aload_n 0, 1) := by decide +kernel
theorem dX7_begin_26 : decode cX7_begin 26 = .ok (.iconst 0, 1) := by decide +kernel
theorem dX7_begin_27 : decode cX7_begin 27 = .ok (.putfield 25, 3) := by decide +kernel
theorem dX7_begin_30 : decode cX7_begin 30 = .ok (.aload_n 0, 1) := by decide +kernel
theorem dX7_begin_31 : decode cX7_begin 31 = .ok (.iconst 0, 1) := by decide +kernel
theorem dX7_begin_32 : decode cX7_begin 32 = .ok (.putfield 28, 3) := by decide +kernel
theorem dX7_begin_35 : decode cX7_begin 35 = .ok (.return_, 1) := by decide +kernel
set_option maxRecDepth 20000 in
theorem ggX7_come_X7_dropOlder : GoodIn wsX7_come wsX7_dropOlder := gi_e e_wsX7_come e_wsX7_dropOlder (by decide +kernel)
set_option maxRecDepth 20000 in
theorem gX7_come_X7_dropOlder : GoodIn wsX7_come (wsV RX7 31 RX7 yX7_dropOlder wsX7_dropOlder) := goodIn_app (gi_e e_wsX7_come (ce fw_3290 (ce fw_3292 (ce fw_14 (ce fw_1033 (cn))))) (by decide +kernel)) ggX7_come_X7_dropOlder
theorem dX7_come_0 : decode cX7_come 0 = .ok (.aload_n 0, 1) := by decide +kernel
theorem dX7_come_1 : decode cX7_come 1 = .ok (.getfield 7, 3) := by decide +kernel
theorem dX7_come_4 : decode cX7_come 4 = .ok (.iconst 2, 1) := by decide +kernel
theorem dX7_come_5 : decode cX7_come 5 = .ok (.if_icmp .lt 17, 3) := by decide +kernel
theorem dX7_come_8 : decode cX7_come 8 = .ok (.aload_n 0, 1) := by decide +kernel
theorem dX7_come_9 : decode cX7_come 9 = .ok (.dup, 1) := by decide +kernel
theorem dX7_come_10 : decode cX7_come 10 = .ok (.getfield 16, 3) := by decide +kernel
theorem dX7_come_13 : decode cX7_come 13 = .ok (.iconst 1, 1) := by decide +kernel
theorem dX7_come_14 : decode cX7_come 14 = .ok (.iadd, 1) := by decide +kernel
theorem dX7_come_15 : decode cX7_come 15 = .ok (.putfield 16, 3) := by decide +kernel
theorem dX7_come_18 : decode cX7_come 18 = .ok (.aload_n 0, 1) := by decide +kernel
theorem dX7_come_19 : decode cX7_come 19 = .ok (.invokevirtual 31, 3) := by decide +kernel
theorem dX7_come_22 : decode cX7_come 22 = .ok (.aload_n 0, 1) := by decide +kernel
theorem dX7_come_23 : decode cX7_come 23 = .ok (.getfield 7, 3) := by decide +kernel
theorem dX7_come_26 : decode cX7_come 26 = .ok (.ifCond .ne 16, 3) := by decide +kernel
theorem dX7_come_29 : decode cX7_come 29 = .ok (.aload_n 0, 1) := by decide +kernel
theorem dX7_come_30 : decode cX7_come 30 = .ok (.iload_n 1, 1) := by decide +kernel
theorem dX7_come_31 : decode cX7_come 31 = .ok (.putfield 34, 3) := by decide +kernel
theorem dX7_come_34 : decode cX7_come 34 = .ok (.aload_n 0, 1) := by decide +kernel
theorem dX7_come_35 : decode cX7_come 35 = .ok (.iload_n 2, 1) := by decide +kernel
theorem dX7_come_36 : decode cX7_come 36 = .ok (.putfield 37, 3) := by decide +kernel
theorem dX7_come_39 : decode cX7_come 39 = .ok (.goto 13, 3) := by decide +kernel
theorem dX7_come_42 : decode cX7_come 42 = .ok (.aload_n 0, 1) := by decide +kernel
theorem dX7_come_43 : decode cX7_come 43 = .ok (.iload_n 1, 1) := by decide +kernel
theorem dX7_come_44 : decode cX7_come 44 = .ok (.putfield 40, 3) := by decide +kernel
theorem dX7_come_47 : decode cX7_come 47 = .ok (.aload_n 0, 1) := by decide +kernel
theorem dX7_come_48 : decode cX7_come 48 = .ok (.iload_n 2, 1) := by decide +kernel
theorem dX7_come_49 : decode cX7_come 49 = .ok (.putfield 43, 3) := by decide +kernel
theorem dX7_come_52 : decode cX7_come 52 = .ok (.aload_n 0, 1) := by decide +kernel
theorem dX7_come_53 : decode cX7_come 53 = .ok (.dup, 1) := by decide +kernel
theorem dX7_come_54 : decode cX7_come 54 = .ok (.getfield 7, 3) := by decide +kernel
theorem dX7_come_57 : decode cX7_come 57 = .ok (.iconst 1, 1) := by decide +kernel
theorem dX7_come_58 : decode cX7_come 58 = .ok (.iadd, 1) := by decide +kernel
theorem dX7_come_59 : decode cX7_come 59 = .ok (.putfield 7, 3) := by decide +kernel
theorem dX7_come_62 : decode cX7_come 62 = .ok (.aload_n 0, 1) := by decide +kernel
theorem dX7_come_63 : decode cX7_come 63 = .ok (.dup, 1) := by decide +kernel
theorem dX7_come_64 : decode cX7_come 64 = .ok (.getfield 13, 3) := by decide +kernel
theorem dX7_come_67 : decode cX7_come 67 = .ok (.iconst 1, 1) := by decide +kernel
theorem dX7_come_68 : decode cX7_come 68 = .ok (.iadd, 1) := by decide +kernel
theorem dX7_come_69 : decode cX7_come 69 = .ok (.putfield 13, 3) := by decide +kernel
theorem dX7_come_72 : decode cX7_come 72 = .ok (.return_, 1) := by decide +kernel
theorem dX7_dropOlder_0 : decode cX7_dropOlder 0 = .ok (.aload_n 0, 1) := by decide +kernel
theorem dX7_dropOlder_1 : decode cX7_dropOlder 1 = .ok (.aload_n 0, 1) := by decide +kernel
theorem dX7_dropOlder_2 : decode cX7_dropOlder 2 = .ok (.getfield 40, 3) := by decide +kernel
theorem dX7_dropOlder_5 : decode cX7_dropOlder 5 = .ok (.putfield 34, 3) := by decide +kernel
theorem dX7_dropOlder_8 : decode cX7_dropOlder 8 = .ok (.aload_n 0, 1) := by decide +kernel
theorem dX7_dropOlder_9 : decode cX7_dropOlder 9 = .ok (.aload_n 0, 1) := by decide +kernel
theorem dX7_dropOlder_10 : decode cX7_dropOlder 10 = .ok (.getfield 43, 3) := by decide +kernel
theorem dX7_dropOlder_13 : decode cX7_dropOlder 13 = .ok (.putfield 37, 3) := by decide +kernel
theorem dX7_dropOlder_16 : decode cX7_dropOlder 16 = .ok (.aload_n 0, 1) := by decide +kernel
theorem dX7_dropOlder_17 : decode cX7_dropOlder 17 = .ok (.dup, 1) := by decide +kernel
theorem dX7_dropOlder_18 : decode cX7_dropOlder 18 = .ok (.getfield 7, 3) := by decide +kernel
theorem dX7_dropOlder_21 : decode cX7_dropOlder 21 = .ok (.iconst 1, 1) := by decide +kernel
theorem dX7_dropOlder_22 : decode cX7_dropOlder 22 = .ok (.isub, 1) := by decide +kernel
theorem dX7_dropOlder_23 : decode cX7_dropOlder 23 = .ok (.putfield 7, 3) := by decide +kernel
theorem dX7_dropOlder_26 : decode cX7_dropOlder 26 = .ok (.return_, 1) := by decide +kernel
set_option maxRecDepth 20000 in
theorem ggX7_tick_X7_readOlder : GoodIn wsX7_tick wsX7_readOlder := gi_e e_wsX7_tick e_wsX7_readOlder (by decide +kernel)
set_option maxRecDepth 20000 in
theorem gX7_tick_X7_readOlder : GoodIn wsX7_tick (wsV RX7 54 RX7 yX7_readOlder wsX7_readOlder) := goodIn_app (gi_e e_wsX7_tick (ce fw_3298 (ce fw_3300 (ce fw_15 (ce fw_1033 (cn))))) (by decide +kernel)) ggX7_tick_X7_readOlder
theorem dX7_tick_0 : decode cX7_tick 0 = .ok (.aload_n 0, 1) := by decide +kernel
theorem dX7_tick_1 : decode cX7_tick 1 = .ok (.dup, 1) := by decide +kernel
theorem dX7_tick_2 : decode cX7_tick 2 = .ok (.getfield 25, 3) := by decide +kernel
theorem dX7_tick_5 : decode cX7_tick 5 = .ok (.sipush 1000, 3) := by decide +kernel
theorem dX7_tick_8 : decode cX7_tick 8 = .ok (.aload_n 1, 1) := by decide +kernel
theorem dX7_tick_9 : decode cX7_tick 9 = .ok (.getfield 46, 3) := by decide +kernel
theorem dX7_tick_12 : decode cX7_tick 12 = .ok (.iadd, 1) := by decide +kernel
theorem dX7_tick_13 : decode cX7_tick 13 = .ok (.iadd, 1) := by decide +kernel
theorem dX7_tick_14 : decode cX7_tick 14 = .ok (.putfield 25, 3) := by decide +kernel
theorem dX7_tick_17 : decode cX7_tick 17 = .ok (.aload_n 0, 1) := by decide +kernel
theorem dX7_tick_18 : decode cX7_tick 18 = .ok (.getfield 25, 3) := by decide +kernel
theorem dX7_tick_21 : decode cX7_tick 21 = .ok (.sipush 1000, 3) := by decide +kernel
theorem dX7_tick_24 : decode cX7_tick 24 = .ok (.aload_n 1, 1) := by decide +kernel
theorem dX7_tick_25 : decode cX7_tick 25 = .ok (.getfield 51, 3) := by decide +kernel
theorem dX7_tick_28 : decode cX7_tick 28 = .ok (.imul, 1) := by decide +kernel
theorem dX7_tick_29 : decode cX7_tick 29 = .ok (.if_icmp .ge 4, 3) := by decide +kernel
theorem dX7_tick_32 : decode cX7_tick 32 = .ok (.return_, 1) := by decide +kernel
theorem dX7_tick_33 : decode cX7_tick 33 = .ok (.aload_n 0, 1) := by decide +kernel
theorem dX7_tick_34 : decode cX7_tick 34 = .ok (.dup, 1) := by decide +kernel
theorem dX7_tick_35 : decode cX7_tick 35 = .ok (.getfield 25, 3) := by decide +kernel
theorem dX7_tick_38 : decode cX7_tick 38 = .ok (.sipush 1000, 3) := by decide +kernel
theorem dX7_tick_41 : decode cX7_tick 41 = .ok (.aload_n 1, 1) := by decide +kernel
theorem dX7_tick_42 : decode cX7_tick 42 = .ok (.getfield 51, 3) := by decide +kernel
theorem dX7_tick_45 : decode cX7_tick 45 = .ok (.imul, 1) := by decide +kernel
theorem dX7_tick_46 : decode cX7_tick 46 = .ok (.isub, 1) := by decide +kernel
theorem dX7_tick_47 : decode cX7_tick 47 = .ok (.putfield 25, 3) := by decide +kernel
theorem dX7_tick_50 : decode cX7_tick 50 = .ok (.aload_n 0, 1) := by decide +kernel
theorem dX7_tick_51 : decode cX7_tick 51 = .ok (.getfield 7, 3) := by decide +kernel
theorem dX7_tick_54 : decode cX7_tick 54 = .ok (.ifCond .le 11, 3) := by decide +kernel
theorem dX7_tick_57 : decode cX7_tick 57 = .ok (.aload_n 0, 1) := by decide +kernel
theorem dX7_tick_58 : decode cX7_tick 58 = .ok (.aload_n 1, 1) := by decide +kernel
theorem dX7_tick_59 : decode cX7_tick 59 = .ok (.invokevirtual 54, 3) := by decide +kernel
theorem dX7_tick_62 : decode cX7_tick 62 = .ok (.goto 20, 3) := by decide +kernel
theorem dX7_tick_65 : decode cX7_tick 65 = .ok (.aload_n 0, 1) := by decide +kernel
theorem dX7_tick_66 : decode cX7_tick 66 = .ok (.getfield 19, 3) := by decide +kernel
theorem dX7_tick_69 : decode cX7_tick 69 = .ok (.ifCond .le 13, 3) := by decide +kernel
theorem dX7_tick_72 : decode cX7_tick 72 = .ok (.aload_n 0, 1) := by decide +kernel
theorem dX7_tick_73 : decode cX7_tick 73 = .ok (.dup, 1) := by decide +kernel
theorem dX7_tick_74 : decode cX7_tick 74 = .ok (.getfield 22, 3) := by decide +kernel
theorem dX7_tick_77 : decode cX7_tick 77 = .ok (.iconst 1, 1) := by decide +kernel
theorem dX7_tick_78 : decode cX7_tick 78 = .ok (.iadd, 1) := by decide +kernel
theorem dX7_tick_79 : decode cX7_tick 79 = .ok (.putfield 22, 3) := by decide +kernel
theorem dX7_tick_82 : decode cX7_tick 82 = .ok (.return_, 1) := by decide +kernel
set_option maxRecDepth 20000 in
theorem ggX7_readOlder_X7_dropOlder : GoodIn wsX7_readOlder wsX7_dropOlder := gi_e e_wsX7_readOlder e_wsX7_dropOlder (by decide +kernel)
set_option maxRecDepth 20000 in
theorem gX7_readOlder_X7_dropOlder : GoodIn wsX7_readOlder (wsV RX7 31 RX7 yX7_dropOlder wsX7_dropOlder) := goodIn_app (gi_e e_wsX7_readOlder (ce fw_3290 (ce fw_3292 (ce fw_14 (ce fw_1033 (cn))))) (by decide +kernel)) ggX7_readOlder_X7_dropOlder
set_option maxRecDepth 20000 in
theorem ggX7_readOlder_X5_isSignalPlace : GoodIn wsX7_readOlder wsX5_isSignalPlace := gi_e e_wsX7_readOlder e_wsX5_isSignalPlace (by decide +kernel)
set_option maxRecDepth 20000 in
theorem gX7_readOlder_X5_isSignalPlace : GoodIn wsX7_readOlder (wsV RX7 67 RX5 yX5_isSignalPlace wsX5_isSignalPlace) := goodIn_app (gi_e e_wsX7_readOlder (ce fw_3302 (ce fw_3303 (ce fw_3304 (ce fw_1027 (cn))))) (by decide +kernel)) ggX7_readOlder_X5_isSignalPlace
theorem dX7_readOlder_0 : decode cX7_readOlder 0 = .ok (.aload_n 0, 1) := by decide +kernel
theorem dX7_readOlder_1 : decode cX7_readOlder 1 = .ok (.aload_n 0, 1) := by decide +kernel
theorem dX7_readOlder_2 : decode cX7_readOlder 2 = .ok (.getfield 34, 3) := by decide +kernel
theorem dX7_readOlder_5 : decode cX7_readOlder 5 = .ok (.putfield 58, 3) := by decide +kernel
theorem dX7_readOlder_8 : decode cX7_readOlder 8 = .ok (.aload_n 0, 1) := by decide +kernel
theorem dX7_readOlder_9 : decode cX7_readOlder 9 = .ok (.aload_n 0, 1) := by decide +kernel
theorem dX7_readOlder_10 : decode cX7_readOlder 10 = .ok (.getfield 37, 3) := by decide +kernel
theorem dX7_readOlder_13 : decode cX7_readOlder 13 = .ok (.putfield 61, 3) := by decide +kernel
theorem dX7_readOlder_16 : decode cX7_readOlder 16 = .ok (.aload_n 0, 1) := by decide +kernel
theorem dX7_readOlder_17 : decode cX7_readOlder 17 = .ok (.aload_n 0, 1) := by decide +kernel
theorem dX7_readOlder_18 : decode cX7_readOlder 18 = .ok (.getfield 13, 3) := by decide +kernel
theorem dX7_readOlder_21 : decode cX7_readOlder 21 = .ok (.aload_n 0, 1) := by decide +kernel
theorem dX7_readOlder_22 : decode cX7_readOlder 22 = .ok (.getfield 7, 3) := by decide +kernel
theorem dX7_readOlder_25 : decode cX7_readOlder 25 = .ok (.isub, 1) := by decide +kernel
theorem dX7_readOlder_26 : decode cX7_readOlder 26 = .ok (.putfield 64, 3) := by decide +kernel
theorem dX7_readOlder_29 : decode cX7_readOlder 29 = .ok (.aload_n 0, 1) := by decide +kernel
theorem dX7_readOlder_30 : decode cX7_readOlder 30 = .ok (.dup, 1) := by decide +kernel
theorem dX7_readOlder_31 : decode cX7_readOlder 31 = .ok (.getfield 19, 3) := by decide +kernel
theorem dX7_readOlder_34 : decode cX7_readOlder 34 = .ok (.iconst 1, 1) := by decide +kernel
theorem dX7_readOlder_35 : decode cX7_readOlder 35 = .ok (.iadd, 1) := by decide +kernel
theorem dX7_readOlder_36 : decode cX7_readOlder 36 = .ok (.putfield 19, 3) := by decide +kernel
theorem dX7_readOlder_39 : decode cX7_readOlder 39 = .ok (.aload_n 0, 1) := by decide +kernel
theorem dX7_readOlder_40 : decode cX7_readOlder 40 = .ok (.invokevirtual 31, 3) := by decide +kernel
theorem dX7_readOlder_43 : decode cX7_readOlder 43 = .ok (.aload_n 1, 1) := by decide +kernel
theorem dX7_readOlder_44 : decode cX7_readOlder 44 = .ok (.aload_n 0, 1) := by decide +kernel
theorem dX7_readOlder_45 : decode cX7_readOlder 45 = .ok (.getfield 61, 3) := by decide +kernel
theorem dX7_readOlder_48 : decode cX7_readOlder 48 = .ok (.invokevirtual 67, 3) := by decide +kernel
theorem dX7_readOlder_51 : decode cX7_readOlder 51 = .ok (.ifCond .eq 41, 3) := by decide +kernel
theorem dX7_readOlder_54 : decode cX7_readOlder 54 = .ok (.aload_n 0, 1) := by decide +kernel
theorem dX7_readOlder_55 : decode cX7_readOlder 55 = .ok (.aload_n 0, 1) := by decide +kernel
theorem dX7_readOlder_56 : decode cX7_readOlder 56 = .ok (.getfield 71, 3) := by decide +kernel
theorem dX7_readOlder_59 : decode cX7_readOlder 59 = .ok (.putfield 74, 3) := by decide +kernel
theorem dX7_readOlder_62 : decode cX7_readOlder 62 = .ok (.aload_n 0, 1) := by decide +kernel
theorem dX7_readOlder_63 : decode cX7_readOlder 63 = .ok (.aload_n 0, 1) := by decide +kernel
theorem dX7_readOlder_64 : decode cX7_readOlder 64 = .ok (.getfield 77, 3) := by decide +kernel
theorem dX7_readOlder_67 : decode cX7_readOlder 67 = .ok (.putfield 71, 3) := by decide +kernel
theorem dX7_readOlder_70 : decode cX7_readOlder 70 = .ok (.aload_n 0, 1) := by decide +kernel
theorem dX7_readOlder_71 : decode cX7_readOlder 71 = .ok (.aload_n 0, 1) := by decide +kernel
theorem dX7_readOlder_72 : decode cX7_readOlder 72 = .ok (.getfield 58, 3) := by decide +kernel
theorem dX7_readOlder_75 : decode cX7_readOlder 75 = .ok (.putfield 77, 3) := by decide +kernel
theorem dX7_readOlder_78 : decode cX7_readOlder 78 = .ok (.aload_n 0, 1) := by decide +kernel
theorem dX7_readOlder_79 : decode cX7_readOlder 79 = .ok (.iconst 3, 1) := by decide +kernel
theorem dX7_readOlder_80 : decode cX7_readOlder 80 = .ok (.aload_n 0, 1) := by decide +kernel
theorem dX7_readOlder_81 : decode cX7_readOlder 81 = .ok (.getfield 28, 3) := by decide +kernel
theorem dX7_readOlder_84 : decode cX7_readOlder 84 = .ok (.iconst 1, 1) := by decide +kernel
theorem dX7_readOlder_85 : decode cX7_readOlder 85 = .ok (.iadd, 1) := by decide +kernel
theorem dX7_readOlder_86 : decode cX7_readOlder 86 = .ok (.invokestatic 80, 3) := by decide +kernel
theorem dX7_readOlder_89 : decode cX7_readOlder 89 = .ok (.putfield 28, 3) := by decide +kernel
theorem dX7_readOlder_92 : decode cX7_readOlder 92 = .ok (.return_, 1) := by decide +kernel
theorem dX7_copyFrom_0 : decode cX7_copyFrom 0 = .ok (.aload_n 0, 1) := by decide +kernel
theorem dX7_copyFrom_1 : decode cX7_copyFrom 1 = .ok (.aload_n 1, 1) := by decide +kernel
theorem dX7_copyFrom_2 : decode cX7_copyFrom 2 = .ok (.getfield 7, 3) := by decide +kernel
theorem dX7_copyFrom_5 : decode cX7_copyFrom 5 = .ok (.putfield 7, 3) := by decide +kernel
theorem dX7_copyFrom_8 : decode cX7_copyFrom 8 = .ok (.aload_n 0, 1) := by decide +kernel
theorem dX7_copyFrom_9 : decode cX7_copyFrom 9 = .ok (.aload_n 1, 1) := by decide +kernel
theorem dX7_copyFrom_10 : decode cX7_copyFrom 10 = .ok (.getfield 13, 3) := by decide +kernel
theorem dX7_copyFrom_13 : decode cX7_copyFrom 13 = .ok (.putfield 13, 3) := by decide +kernel
theorem dX7_copyFrom_16 : decode cX7_copyFrom 16 = .ok (.aload_n 0, 1) := by decide +kernel
theorem dX7_copyFrom_17 : decode cX7_copyFrom 17 = .ok (.aload_n 1, 1) := by decide +kernel
theorem dX7_copyFrom_18 : decode cX7_copyFrom 18 = .ok (.getfield 16, 3) := by decide +kernel
theorem dX7_copyFrom_21 : decode cX7_copyFrom 21 = .ok (.putfield 16, 3) := by decide +kernel
theorem dX7_copyFrom_24 : decode cX7_copyFrom 24 = .ok (.aload_n 0, 1) := by decide +kernel
theorem dX7_copyFrom_25 : decode cX7_copyFrom 25 = .ok (.aload_n 1, 1) := by decide +kernel
theorem dX7_copyFrom_26 : decode cX7_copyFrom 26 = .ok (.getfield 19, 3) := by decide +kernel
theorem dX7_copyFrom_29 : decode cX7_copyFrom 29 = .ok (.putfield 19, 3) := by decide +kernel
theorem dX7_copyFrom_32 : decode cX7_copyFrom 32 = .ok (.aload_n 0, 1) := by decide +kernel
theorem dX7_copyFrom_33 : decode cX7_copyFrom 33 = .ok (.aload_n 1, 1) := by decide +kernel
theorem dX7_copyFrom_34 : decode cX7_copyFrom 34 = .ok (.getfield 22, 3) := by decide +kernel
theorem dX7_copyFrom_37 : decode cX7_copyFrom 37 = .ok (.putfield 22, 3) := by decide +kernel
theorem dX7_copyFrom_40 : decode cX7_copyFrom 40 = .ok (.aload_n 0, 1) := by decide +kernel
theorem dX7_copyFrom_41 : decode cX7_copyFrom 41 = .ok (.aload_n 1, 1) := by decide +kernel
theorem dX7_copyFrom_42 : decode cX7_copyFrom 42 = .ok (.getfield 25, 3) := by decide +kernel
theorem dX7_copyFrom_45 : decode cX7_copyFrom 45 = .ok (.putfield 25, 3) := by decide +kernel
theorem dX7_copyFrom_48 : decode cX7_copyFrom 48 = .ok (.aload_n 0, 1) := by decide +kernel
theorem dX7_copyFrom_49 : decode cX7_copyFrom 49 = .ok (.aload_n 1, 1) := by decide +kernel
theorem dX7_copyFrom_50 : decode cX7_copyFrom 50 = .ok (.getfield 34, 3) := by decide +kernel
theorem dX7_copyFrom_53 : decode cX7_copyFrom 53 = .ok (.putfield 34, 3) := by decide +kernel
theorem dX7_copyFrom_56 : decode cX7_copyFrom 56 = .ok (.aload_n 0, 1) := by decide +kernel
theorem dX7_copyFrom_57 : decode cX7_copyFrom 57 = .ok (.aload_n 1, 1) := by decide +kernel
theorem dX7_copyFrom_58 : decode cX7_copyFrom 58 = .ok (.getfield 37, 3) := by decide +kernel
theorem dX7_copyFrom_61 : decode cX7_copyFrom 61 = .ok (.putfield 37, 3) := by decide +kernel
theorem dX7_copyFrom_64 : decode cX7_copyFrom 64 = .ok (.aload_n 0, 1) := by decide +kernel
theorem dX7_copyFrom_65 : decode cX7_copyFrom 65 = .ok (.aload_n 1, 1) := by decide +kernel
theorem dX7_copyFrom_66 : decode cX7_copyFrom 66 = .ok (.getfield 40, 3) := by decide +kernel
theorem dX7_copyFrom_69 : decode cX7_copyFrom 69 = .ok (.putfield 40, 3) := by decide +kernel
theorem dX7_copyFrom_72 : decode cX7_copyFrom 72 = .ok (.aload_n 0, 1) := by decide +kernel
theorem dX7_copyFrom_73 : decode cX7_copyFrom 73 = .ok (.aload_n 1, 1) := by decide +kernel
theorem dX7_copyFrom_74 : decode cX7_copyFrom 74 = .ok (.getfield 43, 3) := by decide +kernel
theorem dX7_copyFrom_77 : decode cX7_copyFrom 77 = .ok (.putfield 43, 3) := by decide +kernel
theorem dX7_copyFrom_80 : decode cX7_copyFrom 80 = .ok (.aload_n 0, 1) := by decide +kernel
theorem dX7_copyFrom_81 : decode cX7_copyFrom 81 = .ok (.aload_n 1, 1) := by decide +kernel
theorem dX7_copyFrom_82 : decode cX7_copyFrom 82 = .ok (.getfield 58, 3) := by decide +kernel
theorem dX7_copyFrom_85 : decode cX7_copyFrom 85 = .ok (.putfield 58, 3) := by decide +kernel
theorem dX7_copyFrom_88 : decode cX7_copyFrom 88 = .ok (.aload_n 0, 1) := by decide +kernel
theorem dX7_copyFrom_89 : decode cX7_copyFrom 89 = .ok (.aload_n 1, 1) := by decide +kernel
theorem dX7_copyFrom_90 : decode cX7_copyFrom 90 = .ok (.getfield 61, 3) := by decide +kernel
theorem dX7_copyFrom_93 : decode cX7_copyFrom 93 = .ok (.putfield 61, 3) := by decide +kernel
theorem dX7_copyFrom_96 : decode cX7_copyFrom 96 = .ok (.aload_n 0, 1) := by decide +kernel
theorem dX7_copyFrom_97 : decode cX7_copyFrom 97 = .ok (.aload_n 1, 1) := by decide +kernel
theorem dX7_copyFrom_98 : decode cX7_copyFrom 98 = .ok (.getfield 64, 3) := by decide +kernel
theorem dX7_copyFrom_101 : decode cX7_copyFrom 101 = .ok (.putfield 64, 3) := by decide +kernel
theorem dX7_copyFrom_104 : decode cX7_copyFrom 104 = .ok (.aload_n 0, 1) := by decide +kernel
theorem dX7_copyFrom_105 : decode cX7_copyFrom 105 = .ok (.aload_n 1, 1) := by decide +kernel
theorem dX7_copyFrom_106 : decode cX7_copyFrom 106 = .ok (.getfield 28, 3) := by decide +kernel
theorem dX7_copyFrom_109 : decode cX7_copyFrom 109 = .ok (.putfield 28, 3) := by decide +kernel
theorem dX7_copyFrom_112 : decode cX7_copyFrom 112 = .ok (.aload_n 0, 1) := by decide +kernel
theorem dX7_copyFrom_113 : decode cX7_copyFrom 113 = .ok (.aload_n 1, 1) := by decide +kernel
theorem dX7_copyFrom_114 : decode cX7_copyFrom 114 = .ok (.getfield 77, 3) := by decide +kernel
theorem dX7_copyFrom_117 : decode cX7_copyFrom 117 = .ok (.putfield 77, 3) := by decide +kernel
theorem dX7_copyFrom_120 : decode cX7_copyFrom 120 = .ok (.aload_n 0, 1) := by decide +kernel
theorem dX7_copyFrom_121 : decode cX7_copyFrom 121 = .ok (.aload_n 1, 1) := by decide +kernel
theorem dX7_copyFrom_122 : decode cX7_copyFrom 122 = .ok (.getfield 71, 3) := by decide +kernel
theorem dX7_copyFrom_125 : decode cX7_copyFrom 125 = .ok (.putfield 71, 3) := by decide +kernel
theorem dX7_copyFrom_128 : decode cX7_copyFrom 128 = .ok (.aload_n 0, 1) := by decide +kernel
theorem dX7_copyFrom_129 : decode cX7_copyFrom 129 = .ok (.aload_n 1, 1) := by decide +kernel
theorem dX7_copyFrom_130 : decode cX7_copyFrom 130 = .ok (.getfield 74, 3) := by decide +kernel
theorem dX7_copyFrom_133 : decode cX7_copyFrom 133 = .ok (.putfield 74, 3) := by decide +kernel
theorem dX7_copyFrom_136 : decode cX7_copyFrom 136 = .ok (.return_, 1) := by decide +kernel
theorem dX8_init_0 : decode cX8_init 0 = .ok (.aload_n 0, 1) := by decide +kernel
theorem dX8_init_1 : decode cX8_init 1 = .ok (.invokespecial 3, 3) := by decide +kernel
theorem dX8_init_4 : decode cX8_init 4 = .ok (.aload_n 0, 1) := by decide +kernel
theorem dX8_init_5 : decode cX8_init 5 = .ok (.sipush 300, 3) := by decide +kernel
theorem dX8_init_8 : decode cX8_init 8 = .ok (.newarray .byte, 2) := by decide +kernel
theorem dX8_init_10 : decode cX8_init 10 = .ok (.putfield 9, 3) := by decide +kernel
theorem dX8_init_13 : decode cX8_init 13 = .ok (.aload_n 0, 1) := by decide +kernel
theorem dX8_init_14 : decode cX8_init 14 = .ok (.iconst (-1), 1) := by decide +kernel
theorem dX8_init_15 : decode cX8_init 15 = .ok (.putfield 15, 3) := by decide +kernel
theorem dX8_init_18 : decode cX8_init 18 = .ok (.return_, 1) := by decide +kernel
set_option maxRecDepth 20000 in
theorem ggX8_append_X8_byteOf : GoodIn wsX8_append wsX8_byteOf := gi_e e_wsX8_append e_wsX8_byteOf (by decide +kernel)
set_option maxRecDepth 20000 in
theorem gX8_append_X8_byteOf : GoodIn wsX8_append (va_wsS RX8 19 yX8_byteOf wsX8_byteOf) := goodIn_app (gi_e e_wsX8_append (ce fw_4138 (ce fw_4139 (ce fw_1028 (cn)))) (by decide +kernel)) ggX8_append_X8_byteOf
theorem dX8_append_0 : decode cX8_append 0 = .ok (.iconst 0, 1) := by decide +kernel
theorem dX8_append_1 : decode cX8_append 1 = .ok (.istore_n 3, 1) := by decide +kernel
theorem dX8_append_2 : decode cX8_append 2 = .ok (.iload_n 3, 1) := by decide +kernel
theorem dX8_append_3 : decode cX8_append 3 = .ok (.bipush 8, 2) := by decide +kernel
theorem dX8_append_5 : decode cX8_append 5 = .ok (.if_icmp .ge 17, 3) := by decide +kernel
theorem dX8_append_8 : decode cX8_append 8 = .ok (.lload_n 1, 1) := by decide +kernel
theorem dX8_append_9 : decode cX8_append 9 = .ok (.iload_n 3, 1) := by decide +kernel
theorem dX8_append_10 : decode cX8_append 10 = .ok (.invokestatic 19, 3) := by decide +kernel
theorem dX8_append_13 : decode cX8_append 13 = .ok (.ifCond .eq 9, 3) := by decide +kernel
theorem dX8_append_16 : decode cX8_append 16 = .ok (.iinc 3 1, 3) := by decide +kernel
theorem dX8_append_19 : decode cX8_append 19 = .ok (.goto (-17), 3) := by decide +kernel
theorem dX8_append_22 : decode cX8_append 22 = .ok (.aload_n 0, 1) := by decide +kernel
theorem dX8_append_23 : decode cX8_append 23 = .ok (.getfield 23, 3) := by decide +kernel
theorem dX8_append_26 : decode cX8_append 26 = .ok (.iload_n 3, 1) := by decide +kernel
theorem dX8_append_27 : decode cX8_append 27 = .ok (.iadd, 1) := by decide +kernel
theorem dX8_append_28 : decode cX8_append 28 = .ok (.sipush 300, 3) := by decide +kernel
theorem dX8_append_31 : decode cX8_append 31 = .ok (.if_icmp .le 5, 3) := by decide +kernel
theorem dX8_append_34 : decode cX8_append 34 = .ok (.iconst (-1), 1) := by decide +kernel
theorem dX8_append_35 : decode cX8_append 35 = .ok (.ireturn, 1) := by decide +kernel
theorem dX8_append_36 : decode cX8_append 36 = .ok (.iconst 0, 1) := by decide +kernel
