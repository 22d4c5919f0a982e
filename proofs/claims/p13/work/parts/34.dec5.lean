theorem dX12_leftMany_31 : decode cX12_leftMany 31 = .ok (.iload_n 1, 1) := by decide +kernel
theorem dX12_leftMany_32 : decode cX12_leftMany 32 = .ok (.ireturn, 1) := by decide +kernel
theorem dX12_follows_0 : decode cX12_follows 0 = .ok (.aload_n 0, 1) := by decide +kernel
theorem dX12_follows_1 : decode cX12_follows 1 = .ok (.getfield 7, 3) := by decide +kernel
theorem dX12_follows_4 : decode cX12_follows 4 = .ok (.bipush 34, 2) := by decide +kernel
theorem dX12_follows_6 : decode cX12_follows 6 = .ok (.iload_n 1, 1) := by decide +kernel
theorem dX12_follows_7 : decode cX12_follows 7 = .ok (.iastore, 1) := by decide +kernel
theorem dX12_follows_8 : decode cX12_follows 8 = .ok (.aload_n 0, 1) := by decide +kernel
theorem dX12_follows_9 : decode cX12_follows 9 = .ok (.getfield 7, 3) := by decide +kernel
theorem dX12_follows_12 : decode cX12_follows 12 = .ok (.bipush 40, 2) := by decide +kernel
theorem dX12_follows_14 : decode cX12_follows 14 = .ok (.iconst 0, 1) := by decide +kernel
theorem dX12_follows_15 : decode cX12_follows 15 = .ok (.iastore, 1) := by decide +kernel
theorem dX12_follows_16 : decode cX12_follows 16 = .ok (.aload_n 0, 1) := by decide +kernel
theorem dX12_follows_17 : decode cX12_follows 17 = .ok (.getfield 7, 3) := by decide +kernel
theorem dX12_follows_20 : decode cX12_follows 20 = .ok (.bipush 41, 2) := by decide +kernel
theorem dX12_follows_22 : decode cX12_follows 22 = .ok (.iconst 0, 1) := by decide +kernel
theorem dX12_follows_23 : decode cX12_follows 23 = .ok (.iastore, 1) := by decide +kernel
theorem dX12_follows_24 : decode cX12_follows 24 = .ok (.aload_n 0, 1) := by decide +kernel
theorem dX12_follows_25 : decode cX12_follows 25 = .ok (.getfield 7, 3) := by decide +kernel
theorem dX12_follows_28 : decode cX12_follows 28 = .ok (.bipush 42, 2) := by decide +kernel
theorem dX12_follows_30 : decode cX12_follows 30 = .ok (.iconst 0, 1) := by decide +kernel
theorem dX12_follows_31 : decode cX12_follows 31 = .ok (.iastore, 1) := by decide +kernel
theorem dX12_follows_32 : decode cX12_follows 32 = .ok (.aload_n 0, 1) := by decide +kernel
theorem dX12_follows_33 : decode cX12_follows 33 = .ok (.getfield 7, 3) := by decide +kernel
theorem dX12_follows_36 : decode cX12_follows 36 = .ok (.bipush 63, 2) := by decide +kernel
theorem dX12_follows_38 : decode cX12_follows 38 = .ok (.iconst 0, 1) := by decide +kernel
theorem dX12_follows_39 : decode cX12_follows 39 = .ok (.iastore, 1) := by decide +kernel
theorem dX12_follows_40 : decode cX12_follows 40 = .ok (.aload_n 0, 1) := by decide +kernel
theorem dX12_follows_41 : decode cX12_follows 41 = .ok (.getfield 7, 3) := by decide +kernel
theorem dX12_follows_44 : decode cX12_follows 44 = .ok (.bipush 65, 2) := by decide +kernel
theorem dX12_follows_46 : decode cX12_follows 46 = .ok (.iconst 0, 1) := by decide +kernel
theorem dX12_follows_47 : decode cX12_follows 47 = .ok (.iastore, 1) := by decide +kernel
theorem dX12_follows_48 : decode cX12_follows 48 = .ok (.aload_n 0, 1) := by decide +kernel
theorem dX12_follows_49 : decode cX12_follows 49 = .ok (.getfield 7, 3) := by decide +kernel
theorem dX12_follows_52 : decode cX12_follows 52 = .ok (.bipush 67, 2) := by decide +kernel
theorem dX12_follows_54 : decode cX12_follows 54 = .ok (.iconst 0, 1) := by decide +kernel
theorem dX12_follows_55 : decode cX12_follows 55 = .ok (.iastore, 1) := by decide +kernel
theorem dX12_follows_56 : decode cX12_follows 56 = .ok (.aload_n 0, 1) := by decide +kernel
theorem dX12_follows_57 : decode cX12_follows 57 = .ok (.getfield 7, 3) := by decide +kernel
theorem dX12_follows_60 : decode cX12_follows 60 = .ok (.bipush 52, 2) := by decide +kernel
theorem dX12_follows_62 : decode cX12_follows 62 = .ok (.iconst (-1), 1) := by decide +kernel
theorem dX12_follows_63 : decode cX12_follows 63 = .ok (.iastore, 1) := by decide +kernel
theorem dX12_follows_64 : decode cX12_follows 64 = .ok (.aload_n 0, 1) := by decide +kernel
theorem dX12_follows_65 : decode cX12_follows 65 = .ok (.getfield 7, 3) := by decide +kernel
theorem dX12_follows_68 : decode cX12_follows 68 = .ok (.bipush 37, 2) := by decide +kernel
theorem dX12_follows_70 : decode cX12_follows 70 = .ok (.dup2, 1) := by decide +kernel
theorem dX12_follows_71 : decode cX12_follows 71 = .ok (.iaload, 1) := by decide +kernel
theorem dX12_follows_72 : decode cX12_follows 72 = .ok (.iload_n 1, 1) := by decide +kernel
theorem dX12_follows_73 : decode cX12_follows 73 = .ok (.iconst 2, 1) := by decide +kernel
theorem dX12_follows_74 : decode cX12_follows 74 = .ok (.if_icmp .ne 7, 3) := by decide +kernel
theorem dX12_follows_77 : decode cX12_follows 77 = .ok (.iconst 1, 1) := by decide +kernel
theorem dX12_follows_78 : decode cX12_follows 78 = .ok (.goto 4, 3) := by decide +kernel
theorem dX12_follows_81 : decode cX12_follows 81 = .ok (.iconst 0, 1) := by decide +kernel
theorem dX12_follows_82 : decode cX12_follows 82 = .ok (.iadd, 1) := by decide +kernel
theorem dX12_follows_83 : decode cX12_follows 83 = .ok (.iastore, 1) := by decide +kernel
theorem dX12_follows_84 : decode cX12_follows 84 = .ok (.return_, 1) := by decide +kernel
set_option maxRecDepth 20000 in
theorem ggX12_strikes_X12_round : GoodIn wsX12_strikes wsX12_round := gi_e e_wsX12_strikes e_wsX12_round (by decide +kernel)
set_option maxRecDepth 20000 in
theorem gX12_strikes_X12_round : GoodIn wsX12_strikes (wsV RX12 142 RX12 yX12_round wsX12_round) := goodIn_app (gi_e e_wsX12_strikes (ce fw_5259 (ce fw_5261 (ce fw_32 (ce fw_1038 (cn))))) (by decide +kernel)) ggX12_strikes_X12_round
set_option maxRecDepth 20000 in
theorem ggX12_strikes_X12_isLeft : GoodIn wsX12_strikes wsX12_isLeft := gi_e e_wsX12_strikes e_wsX12_isLeft (by decide +kernel)
set_option maxRecDepth 20000 in
theorem gX12_strikes_X12_isLeft : GoodIn wsX12_strikes (wsV RX12 171 RX12 yX12_isLeft wsX12_isLeft) := goodIn_app (gi_e e_wsX12_strikes (ce fw_6250 (ce fw_6252 (ce fw_54 (ce fw_1038 (cn))))) (by decide +kernel)) ggX12_strikes_X12_isLeft
set_option maxRecDepth 20000 in
theorem ggX12_strikes_X12_isFixed : GoodIn wsX12_strikes wsX12_isFixed := gi_e e_wsX12_strikes e_wsX12_isFixed (by decide +kernel)
set_option maxRecDepth 20000 in
theorem gX12_strikes_X12_isFixed : GoodIn wsX12_strikes (wsV RX12 174 RX12 yX12_isFixed wsX12_isFixed) := goodIn_app (gi_e e_wsX12_strikes (ce fw_6254 (ce fw_6256 (ce fw_55 (ce fw_1038 (cn))))) (by decide +kernel)) ggX12_strikes_X12_isFixed
set_option maxRecDepth 20000 in
theorem ggX12_strikes_X12_roleOf : GoodIn wsX12_strikes wsX12_roleOf := gi_e e_wsX12_strikes e_wsX12_roleOf (by decide +kernel)
set_option maxRecDepth 20000 in
theorem gX12_strikes_X12_roleOf : GoodIn wsX12_strikes (wsV RX12 47 RX12 yX12_roleOf wsX12_roleOf) := goodIn_app (gi_e e_wsX12_strikes (ce fw_6177 (ce fw_6179 (ce fw_42 (ce fw_1038 (cn))))) (by decide +kernel)) ggX12_strikes_X12_roleOf
theorem dX12_strikes_0 : decode cX12_strikes 0 = .ok (.iconst 0, 1) := by decide +kernel
theorem dX12_strikes_1 : decode cX12_strikes 1 = .ok (.istore_n 2, 1) := by decide +kernel
theorem dX12_strikes_2 : decode cX12_strikes 2 = .ok (.iload_n 2, 1) := by decide +kernel
theorem dX12_strikes_3 : decode cX12_strikes 3 = .ok (.aload_n 0, 1) := by decide +kernel
theorem dX12_strikes_4 : decode cX12_strikes 4 = .ok (.invokevirtual 142, 3) := by decide +kernel
theorem dX12_strikes_7 : decode cX12_strikes 7 = .ok (.if_icmp .ge 72, 3) := by decide +kernel
theorem dX12_strikes_10 : decode cX12_strikes 10 = .ok (.iload_n 2, 1) := by decide +kernel
theorem dX12_strikes_11 : decode cX12_strikes 11 = .ok (.aload_n 0, 1) := by decide +kernel
theorem dX12_strikes_12 : decode cX12_strikes 12 = .ok (.getfield 7, 3) := by decide +kernel
theorem dX12_strikes_15 : decode cX12_strikes 15 = .ok (.bipush 40, 2) := by decide +kernel
theorem dX12_strikes_17 : decode cX12_strikes 17 = .ok (.iaload, 1) := by decide +kernel
theorem dX12_strikes_18 : decode cX12_strikes 18 = .ok (.iadd, 1) := by decide +kernel
theorem dX12_strikes_19 : decode cX12_strikes 19 = .ok (.aload_n 0, 1) := by decide +kernel
theorem dX12_strikes_20 : decode cX12_strikes 20 = .ok (.invokevirtual 142, 3) := by decide +kernel
theorem dX12_strikes_23 : decode cX12_strikes 23 = .ok (.irem, 1) := by decide +kernel
theorem dX12_strikes_24 : decode cX12_strikes 24 = .ok (.istore_n 3, 1) := by decide +kernel
theorem dX12_strikes_25 : decode cX12_strikes 25 = .ok (.aload_n 0, 1) := by decide +kernel
theorem dX12_strikes_26 : decode cX12_strikes 26 = .ok (.iload_n 2, 1) := by decide +kernel
theorem dX12_strikes_27 : decode cX12_strikes 27 = .ok (.invokevirtual 171, 3) := by decide +kernel
theorem dX12_strikes_30 : decode cX12_strikes 30 = .ok (.ifCond .eq 43, 3) := by decide +kernel
theorem dX12_strikes_33 : decode cX12_strikes 33 = .ok (.aload_n 0, 1) := by decide +kernel
theorem dX12_strikes_34 : decode cX12_strikes 34 = .ok (.iload_n 3, 1) := by decide +kernel
theorem dX12_strikes_35 : decode cX12_strikes 35 = .ok (.invokevirtual 174, 3) := by decide +kernel
theorem dX12_strikes_38 : decode cX12_strikes 38 = .ok (.ifCond .eq 35, 3) := by decide +kernel
theorem dX12_strikes_41 : decode cX12_strikes 41 = .ok (.aload_n 0, 1) := by decide +kernel
theorem dX12_strikes_42 : decode cX12_strikes 42 = .ok (.iload_n 3, 1) := by decide +kernel
theorem dX12_strikes_43 : decode cX12_strikes 43 = .ok (.invokevirtual 47, 3) := by decide +kernel
theorem dX12_strikes_46 : decode cX12_strikes 46 = .ok (.iload_n 1, 1) := by decide +kernel
theorem dX12_strikes_47 : decode cX12_strikes 47 = .ok (.if_icmp .eq 26, 3) := by decide +kernel
theorem dX12_strikes_50 : decode cX12_strikes 50 = .ok (.aload_n 0, 1) := by decide +kernel
theorem dX12_strikes_51 : decode cX12_strikes 51 = .ok (.getfield 7, 3) := by decide +kernel
theorem dX12_strikes_54 : decode cX12_strikes 54 = .ok (.bipush 124, 2) := by decide +kernel
theorem dX12_strikes_56 : decode cX12_strikes 56 = .ok (.iload_n 2, 1) := by decide +kernel
theorem dX12_strikes_57 : decode cX12_strikes 57 = .ok (.bipush 32, 2) := by decide +kernel
theorem dX12_strikes_59 : decode cX12_strikes 59 = .ok (.idiv, 1) := by decide +kernel
theorem dX12_strikes_60 : decode cX12_strikes 60 = .ok (.iadd, 1) := by decide +kernel
theorem dX12_strikes_61 : decode cX12_strikes 61 = .ok (.dup2, 1) := by decide +kernel
theorem dX12_strikes_62 : decode cX12_strikes 62 = .ok (.iaload, 1) := by decide +kernel
theorem dX12_strikes_63 : decode cX12_strikes 63 = .ok (.iconst 1, 1) := by decide +kernel
theorem dX12_strikes_64 : decode cX12_strikes 64 = .ok (.iload_n 2, 1) := by decide +kernel
theorem dX12_strikes_65 : decode cX12_strikes 65 = .ok (.bipush 32, 2) := by decide +kernel
theorem dX12_strikes_67 : decode cX12_strikes 67 = .ok (.irem, 1) := by decide +kernel
theorem dX12_strikes_68 : decode cX12_strikes 68 = .ok (.ishl, 1) := by decide +kernel
theorem dX12_strikes_69 : decode cX12_strikes 69 = .ok (.iconst (-1), 1) := by decide +kernel
theorem dX12_strikes_70 : decode cX12_strikes 70 = .ok (.ixor, 1) := by decide +kernel
theorem dX12_strikes_71 : decode cX12_strikes 71 = .ok (.iand, 1) := by decide +kernel
theorem dX12_strikes_72 : decode cX12_strikes 72 = .ok (.iastore, 1) := by decide +kernel
theorem dX12_strikes_73 : decode cX12_strikes 73 = .ok (.iinc 2 1, 3) := by decide +kernel
theorem dX12_strikes_76 : decode cX12_strikes 76 = .ok (.goto (-74), 3) := by decide +kernel
theorem dX12_strikes_79 : decode cX12_strikes 79 = .ok (.aload_n 0, 1) := by decide +kernel
theorem dX12_strikes_80 : decode cX12_strikes 80 = .ok (.getfield 7, 3) := by decide +kernel
theorem dX12_strikes_83 : decode cX12_strikes 83 = .ok (.bipush 40, 2) := by decide +kernel
theorem dX12_strikes_85 : decode cX12_strikes 85 = .ok (.dup2, 1) := by decide +kernel
theorem dX12_strikes_86 : decode cX12_strikes 86 = .ok (.iaload, 1) := by decide +kernel
theorem dX12_strikes_87 : decode cX12_strikes 87 = .ok (.iconst 1, 1) := by decide +kernel
theorem dX12_strikes_88 : decode cX12_strikes 88 = .ok (.iadd, 1) := by decide +kernel
theorem dX12_strikes_89 : decode cX12_strikes 89 = .ok (.iastore, 1) := by decide +kernel
theorem dX12_strikes_90 : decode cX12_strikes 90 = .ok (.return_, 1) := by decide +kernel
set_option maxRecDepth 20000 in
theorem ggX12_leftAt_X12_round : GoodIn wsX12_leftAt wsX12_round := gi_e e_wsX12_leftAt e_wsX12_round (by decide +kernel)
set_option maxRecDepth 20000 in
theorem gX12_leftAt_X12_round : GoodIn wsX12_leftAt (wsV RX12 142 RX12 yX12_round wsX12_round) := goodIn_app (gi_e e_wsX12_leftAt (ce fw_5259 (ce fw_5261 (ce fw_32 (ce fw_1038 (cn))))) (by decide +kernel)) ggX12_leftAt_X12_round
set_option maxRecDepth 20000 in
theorem ggX12_leftAt_X12_isLeft : GoodIn wsX12_leftAt wsX12_isLeft := gi_e e_wsX12_leftAt e_wsX12_isLeft (by decide +kernel)
set_option maxRecDepth 20000 in
theorem gX12_leftAt_X12_isLeft : GoodIn wsX12_leftAt (wsV RX12 171 RX12 yX12_isLeft wsX12_isLeft) := goodIn_app (gi_e e_wsX12_leftAt (ce fw_6250 (ce fw_6252 (ce fw_54 (ce fw_1038 (cn))))) (by decide +kernel)) ggX12_leftAt_X12_isLeft
theorem dX12_leftAt_0 : decode cX12_leftAt 0 = .ok (.iconst 0, 1) := by decide +kernel
theorem dX12_leftAt_1 : decode cX12_leftAt 1 = .ok (.istore_n 2, 1) := by decide +kernel
theorem dX12_leftAt_2 : decode cX12_leftAt 2 = .ok (.iconst 0, 1) := by decide +kernel
theorem dX12_leftAt_3 : decode cX12_leftAt 3 = .ok (.istore_n 3, 1) := by decide +kernel
theorem dX12_leftAt_4 : decode cX12_leftAt 4 = .ok (.iload_n 3, 1) := by decide +kernel
theorem dX12_leftAt_5 : decode cX12_leftAt 5 = .ok (.aload_n 0, 1) := by decide +kernel
theorem dX12_leftAt_6 : decode cX12_leftAt 6 = .ok (.invokevirtual 142, 3) := by decide +kernel
theorem dX12_leftAt_9 : decode cX12_leftAt 9 = .ok (.if_icmp .ge 27, 3) := by decide +kernel
theorem dX12_leftAt_12 : decode cX12_leftAt 12 = .ok (.aload_n 0, 1) := by decide +kernel
theorem dX12_leftAt_13 : decode cX12_leftAt 13 = .ok (.iload_n 3, 1) := by decide +kernel
theorem dX12_leftAt_14 : decode cX12_leftAt 14 = .ok (.invokevirtual 171, 3) := by decide +kernel
theorem dX12_leftAt_17 : decode cX12_leftAt 17 = .ok (.ifCond .eq 13, 3) := by decide +kernel
theorem dX12_leftAt_20 : decode cX12_leftAt 20 = .ok (.iload_n 2, 1) := by decide +kernel
theorem dX12_leftAt_21 : decode cX12_leftAt 21 = .ok (.iload_n 1, 1) := by decide +kernel
theorem dX12_leftAt_22 : decode cX12_leftAt 22 = .ok (.if_icmp .ne 5, 3) := by decide +kernel
theorem dX12_leftAt_25 : decode cX12_leftAt 25 = .ok (.iload_n 3, 1) := by decide +kernel
theorem dX12_leftAt_26 : decode cX12_leftAt 26 = .ok (.ireturn, 1) := by decide +kernel
theorem dX12_leftAt_27 : decode cX12_leftAt 27 = .ok (.iinc 2 1, 3) := by decide +kernel
theorem dX12_leftAt_30 : decode cX12_leftAt 30 = .ok (.iinc 3 1, 3) := by decide +kernel
theorem dX12_leftAt_33 : decode cX12_leftAt 33 = .ok (.goto (-29), 3) := by decide +kernel
theorem dX12_leftAt_36 : decode cX12_leftAt 36 = .ok (.iconst (-1), 1) := by decide +kernel
theorem dX12_leftAt_37 : decode cX12_leftAt 37 = .ok (.ireturn, 1) := by decide +kernel
set_option maxRecDepth 20000 in
theorem ggX12_fixedFrom_X12_round : GoodIn wsX12_fixedFrom wsX12_round := gi_e e_wsX12_fixedFrom e_wsX12_round (by decide +kernel)
set_option maxRecDepth 20000 in
theorem gX12_fixedFrom_X12_round : GoodIn wsX12_fixedFrom (wsV RX12 142 RX12 yX12_round wsX12_round) := goodIn_app (gi_e e_wsX12_fixedFrom (ce fw_5259 (ce fw_5261 (ce fw_32 (ce fw_1038 (cn))))) (by decide +kernel)) ggX12_fixedFrom_X12_round
set_option maxRecDepth 20000 in
theorem ggX12_fixedFrom_X12_isFixed : GoodIn wsX12_fixedFrom wsX12_isFixed := gi_e e_wsX12_fixedFrom e_wsX12_isFixed (by decide +kernel)
set_option maxRecDepth 20000 in
theorem gX12_fixedFrom_X12_isFixed : GoodIn wsX12_fixedFrom (wsV RX12 174 RX12 yX12_isFixed wsX12_isFixed) := goodIn_app (gi_e e_wsX12_fixedFrom (ce fw_6254 (ce fw_6256 (ce fw_55 (ce fw_1038 (cn))))) (by decide +kernel)) ggX12_fixedFrom_X12_isFixed
theorem dX12_fixedFrom_0 : decode cX12_fixedFrom 0 = .ok (.iconst 0, 1) := by decide +kernel
theorem dX12_fixedFrom_1 : decode cX12_fixedFrom 1 = .ok (.istore_n 3, 1) := by decide +kernel
theorem dX12_fixedFrom_2 : decode cX12_fixedFrom 2 = .ok (.iconst 0, 1) := by decide +kernel
theorem dX12_fixedFrom_3 : decode cX12_fixedFrom 3 = .ok (.istore 4, 2) := by decide +kernel
theorem dX12_fixedFrom_5 : decode cX12_fixedFrom 5 = .ok (.iload 4, 2) := by decide +kernel
theorem dX12_fixedFrom_7 : decode cX12_fixedFrom 7 = .ok (.iload_n 2, 1) := by decide +kernel
theorem dX12_fixedFrom_8 : decode cX12_fixedFrom 8 = .ok (.if_icmp .ge 33, 3) := by decide +kernel
theorem dX12_fixedFrom_11 : decode cX12_fixedFrom 11 = .ok (.iload_n 3, 1) := by decide +kernel
theorem dX12_fixedFrom_12 : decode cX12_fixedFrom 12 = .ok (.aload_n 0, 1) := by decide +kernel
theorem dX12_fixedFrom_13 : decode cX12_fixedFrom 13 = .ok (.iload_n 1, 1) := by decide +kernel
theorem dX12_fixedFrom_14 : decode cX12_fixedFrom 14 = .ok (.iload 4, 2) := by decide +kernel
theorem dX12_fixedFrom_16 : decode cX12_fixedFrom 16 = .ok (.iadd, 1) := by decide +kernel
theorem dX12_fixedFrom_17 : decode cX12_fixedFrom 17 = .ok (.aload_n 0, 1) := by decide +kernel
theorem dX12_fixedFrom_18 : decode cX12_fixedFrom 18 = .ok (.invokevirtual 142, 3) := by decide +kernel
theorem dX12_fixedFrom_21 : decode cX12_fixedFrom 21 = .ok (.irem, 1) := by decide +kernel
theorem dX12_fixedFrom_22 : decode cX12_fixedFrom 22 = .ok (.invokevirtual 174, 3) := by decide +kernel
theorem dX12_fixedFrom_25 : decode cX12_fixedFrom 25 = .ok (.ifCond .eq 7, 3) := by decide +kernel
theorem dX12_fixedFrom_28 : decode cX12_fixedFrom 28 = .ok (.iconst 1, 1) := by decide +kernel
theorem dX12_fixedFrom_29 : decode cX12_fixedFrom 29 = .ok (.goto 4, 3) := by decide +kernel
theorem dX12_fixedFrom_32 : decode cX12_fixedFrom 32 = .ok (.iconst 0, 1) := by decide +kernel
theorem dX12_fixedFrom_33 : decode cX12_fixedFrom 33 = .ok (.iadd, 1) := by decide +kernel
theorem dX12_fixedFrom_34 : decode cX12_fixedFrom 34 = .ok (.istore_n 3, 1) := by decide +kernel
theorem dX12_fixedFrom_35 : decode cX12_fixedFrom 35 = .ok (.iinc 4 1, 3) := by decide +kernel
theorem dX12_fixedFrom_38 : decode cX12_fixedFrom 38 = .ok (.goto (-33), 3) := by decide +kernel
theorem dX12_fixedFrom_41 : decode cX12_fixedFrom 41 = .ok (.iload_n 3, 1) := by decide +kernel
theorem dX12_fixedFrom_42 : decode cX12_fixedFrom 42 = .ok (.ireturn, 1) := by decide +kernel
set_option maxRecDepth 20000 in
theorem ggX12_hunted_X12_strikes : GoodIn wsX12_hunted wsX12_strikes := gi_e e_wsX12_hunted e_wsX12_strikes (by decide +kernel)
set_option maxRecDepth 20000 in
theorem gX12_hunted_X12_strikes : GoodIn wsX12_hunted (wsV RX12 177 RX12 yX12_strikes wsX12_strikes) := goodIn_app (gi_e e_wsX12_hunted (ce fw_6246 (ce fw_6248 (ce fw_53 (ce fw_1038 (cn))))) (by decide +kernel)) ggX12_hunted_X12_strikes
set_option maxRecDepth 20000 in
theorem ggX12_hunted_X12_leftMany : GoodIn wsX12_hunted wsX12_leftMany := gi_e e_wsX12_hunted e_wsX12_leftMany (by decide +kernel)
set_option maxRecDepth 20000 in
theorem gX12_hunted_X12_leftMany : GoodIn wsX12_hunted (wsV RX12 180 RX12 yX12_leftMany wsX12_leftMany) := goodIn_app (gi_e e_wsX12_hunted (ce fw_6258 (ce fw_6260 (ce fw_56 (ce fw_1038 (cn))))) (by decide +kernel)) ggX12_hunted_X12_leftMany
set_option maxRecDepth 20000 in
theorem ggX12_hunted_X12_hunts : GoodIn wsX12_hunted wsX12_hunts := gi_e e_wsX12_hunted e_wsX12_hunts (by decide +kernel)
set_option maxRecDepth 20000 in
theorem gX12_hunted_X12_hunts : GoodIn wsX12_hunted (wsV RX12 165 RX12 yX12_hunts wsX12_hunts) := goodIn_app (gi_e e_wsX12_hunted (ce fw_5255 (ce fw_5257 (ce fw_31 (ce fw_1038 (cn))))) (by decide +kernel)) ggX12_hunted_X12_hunts
set_option maxRecDepth 20000 in
theorem ggX12_hunted_X12_leftAt : GoodIn wsX12_hunted wsX12_leftAt := gi_e e_wsX12_hunted e_wsX12_leftAt (by decide +kernel)
set_option maxRecDepth 20000 in
theorem gX12_hunted_X12_leftAt : GoodIn wsX12_hunted (wsV RX12 183 RX12 yX12_leftAt wsX12_leftAt) := goodIn_app (gi_e e_wsX12_hunted (ce fw_6265 (ce fw_6267 (ce fw_57 (ce fw_1038 (cn))))) (by decide +kernel)) ggX12_hunted_X12_leftAt
set_option maxRecDepth 20000 in
theorem ggX12_hunted_X12_fixedFrom : GoodIn wsX12_hunted wsX12_fixedFrom := gi_e e_wsX12_hunted e_wsX12_fixedFrom (by decide +kernel)
set_option maxRecDepth 20000 in
theorem gX12_hunted_X12_fixedFrom : GoodIn wsX12_hunted (wsV RX12 186 RX12 yX12_fixedFrom wsX12_fixedFrom) := goodIn_app (gi_e e_wsX12_hunted (ce fw_6269 (ce fw_6271 (ce fw_58 (ce fw_1038 (cn))))) (by decide +kernel)) ggX12_hunted_X12_fixedFrom
set_option maxRecDepth 20000 in
theorem ggX12_hunted_X12_round : GoodIn wsX12_hunted wsX12_round := gi_e e_wsX12_hunted e_wsX12_round (by decide +kernel)
set_option maxRecDepth 20000 in
theorem gX12_hunted_X12_round : GoodIn wsX12_hunted (wsV RX12 142 RX12 yX12_round wsX12_round) := goodIn_app (gi_e e_wsX12_hunted (ce fw_5259 (ce fw_5261 (ce fw_32 (ce fw_1038 (cn))))) (by decide +kernel)) ggX12_hunted_X12_round
set_option maxRecDepth 20000 in
theorem ggX12_hunted_X12_checkMany : GoodIn wsX12_hunted wsX12_checkMany := gi_e e_wsX12_hunted e_wsX12_checkMany (by decide +kernel)
set_option maxRecDepth 20000 in
theorem gX12_hunted_X12_checkMany : GoodIn wsX12_hunted (wsV RX12 145 RX12 yX12_checkMany wsX12_checkMany) := goodIn_app (gi_e e_wsX12_hunted (ce fw_6185 (ce fw_6187 (ce fw_44 (ce fw_1038 (cn))))) (by decide +kernel)) ggX12_hunted_X12_checkMany
set_option maxRecDepth 20000 in
theorem ggX12_hunted_X12_follows : GoodIn wsX12_hunted wsX12_follows := gi_e e_wsX12_hunted e_wsX12_follows (by decide +kernel)
set_option maxRecDepth 20000 in
theorem gX12_hunted_X12_follows : GoodIn wsX12_hunted (wsV RX12 189 RX12 yX12_follows wsX12_follows) := goodIn_app (gi_e e_wsX12_hunted (ce fw_6273 (ce fw_6275 (ce fw_59 (ce fw_1038 (cn))))) (by decide +kernel)) ggX12_hunted_X12_follows
theorem dX12_hunted_0 : decode cX12_hunted 0 = .ok (.aload_n 0, 1) := by decide +kernel
theorem dX12_hunted_1 : decode cX12_hunted 1 = .ok (.iload_n 1, 1) := by decide +kernel
theorem dX12_hunted_2 : decode cX12_hunted 2 = .ok (.invokevirtual 177, 3) := by decide +kernel
theorem dX12_hunted_5 : decode cX12_hunted 5 = .ok (.aload_n 0, 1) := by decide +kernel
theorem dX12_hunted_6 : decode cX12_hunted 6 = .ok (.invokevirtual 180, 3) := by decide +kernel
theorem dX12_hunted_9 : decode cX12_hunted 9 = .ok (.istore_n 2, 1) := by decide +kernel
theorem dX12_hunted_10 : decode cX12_hunted 10 = .ok (.iload_n 2, 1) := by decide +kernel
theorem dX12_hunted_11 : decode cX12_hunted 11 = .ok (.ifCond .ne 8, 3) := by decide +kernel
theorem dX12_hunted_14 : decode cX12_hunted 14 = .ok (.aload_n 0, 1) := by decide +kernel
theorem dX12_hunted_15 : decode cX12_hunted 15 = .ok (.invokevirtual 165, 3) := by decide +kernel
theorem dX12_hunted_18 : decode cX12_hunted 18 = .ok (.return_, 1) := by decide +kernel
theorem dX12_hunted_19 : decode cX12_hunted 19 = .ok (.iload_n 2, 1) := by decide +kernel
theorem dX12_hunted_20 : decode cX12_hunted 20 = .ok (.iconst 1, 1) := by decide +kernel
theorem dX12_hunted_21 : decode cX12_hunted 21 = .ok (.if_icmp .ne 11, 3) := by decide +kernel
theorem dX12_hunted_24 : decode cX12_hunted 24 = .ok (.aload_n 0, 1) := by decide +kernel
theorem dX12_hunted_25 : decode cX12_hunted 25 = .ok (.iconst 0, 1) := by decide +kernel
theorem dX12_hunted_26 : decode cX12_hunted 26 = .ok (.invokevirtual 183, 3) := by decide +kernel
theorem dX12_hunted_29 : decode cX12_hunted 29 = .ok (.goto 4, 3) := by decide +kernel
theorem dX12_hunted_32 : decode cX12_hunted 32 = .ok (.iconst (-1), 1) := by decide +kernel
theorem dX12_hunted_33 : decode cX12_hunted 33 = .ok (.istore_n 3, 1) := by decide +kernel
theorem dX12_hunted_34 : decode cX12_hunted 34 = .ok (.iload_n 3, 1) := by decide +kernel
theorem dX12_hunted_35 : decode cX12_hunted 35 = .ok (.iconst (-1), 1) := by decide +kernel
theorem dX12_hunted_36 : decode cX12_hunted 36 = .ok (.if_icmp .eq 61, 3) := by decide +kernel
theorem dX12_hunted_39 : decode cX12_hunted 39 = .ok (.aload_n 0, 1) := by decide +kernel
theorem dX12_hunted_40 : decode cX12_hunted 40 = .ok (.iload_n 3, 1) := by decide +kernel
theorem dX12_hunted_41 : decode cX12_hunted 41 = .ok (.aload_n 0, 1) := by decide +kernel
theorem dX12_hunted_42 : decode cX12_hunted 42 = .ok (.getfield 7, 3) := by decide +kernel
theorem dX12_hunted_45 : decode cX12_hunted 45 = .ok (.bipush 40, 2) := by decide +kernel
theorem dX12_hunted_47 : decode cX12_hunted 47 = .ok (.iaload, 1) := by decide +kernel
theorem dX12_hunted_48 : decode cX12_hunted 48 = .ok (.invokevirtual 186, 3) := by decide +kernel
theorem dX12_hunted_51 : decode cX12_hunted 51 = .ok (.aload_n 0, 1) := by decide +kernel
theorem dX12_hunted_52 : decode cX12_hunted 52 = .ok (.getfield 7, 3) := by decide +kernel
theorem dX12_hunted_55 : decode cX12_hunted 55 = .ok (.iconst 4, 1) := by decide +kernel
theorem dX12_hunted_56 : decode cX12_hunted 56 = .ok (.iaload, 1) := by decide +kernel
theorem dX12_hunted_57 : decode cX12_hunted 57 = .ok (.if_icmp .lt 40, 3) := by decide +kernel
theorem dX12_hunted_60 : decode cX12_hunted 60 = .ok (.aload_n 0, 1) := by decide +kernel
theorem dX12_hunted_61 : decode cX12_hunted 61 = .ok (.getfield 7, 3) := by decide +kernel
theorem dX12_hunted_64 : decode cX12_hunted 64 = .ok (.bipush 39, 2) := by decide +kernel
theorem dX12_hunted_66 : decode cX12_hunted 66 = .ok (.iload_n 3, 1) := by decide +kernel
theorem dX12_hunted_67 : decode cX12_hunted 67 = .ok (.aload_n 0, 1) := by decide +kernel
theorem dX12_hunted_68 : decode cX12_hunted 68 = .ok (.getfield 7, 3) := by decide +kernel
theorem dX12_hunted_71 : decode cX12_hunted 71 = .ok (.bipush 40, 2) := by decide +kernel
theorem dX12_hunted_73 : decode cX12_hunted 73 = .ok (.iaload, 1) := by decide +kernel
theorem dX12_hunted_74 : decode cX12_hunted 74 = .ok (.iadd, 1) := by decide +kernel
theorem dX12_hunted_75 : decode cX12_hunted 75 = .ok (.aload_n 0, 1) := by decide +kernel
theorem dX12_hunted_76 : decode cX12_hunted 76 = .ok (.invokevirtual 142, 3) := by decide +kernel
theorem dX12_hunted_79 : decode cX12_hunted 79 = .ok (.irem, 1) := by decide +kernel
theorem dX12_hunted_80 : decode cX12_hunted 80 = .ok (.iastore, 1) := by decide +kernel
theorem dX12_hunted_81 : decode cX12_hunted 81 = .ok (.aload_n 0, 1) := by decide +kernel
theorem dX12_hunted_82 : decode cX12_hunted 82 = .ok (.aload_n 0, 1) := by decide +kernel
theorem dX12_hunted_83 : decode cX12_hunted 83 = .ok (.invokevirtual 145, 3) := by decide +kernel
theorem dX12_hunted_86 : decode cX12_hunted 86 = .ok (.ifCond .le 7, 3) := by decide +kernel
theorem dX12_hunted_89 : decode cX12_hunted 89 = .ok (.iconst 1, 1) := by decide +kernel
theorem dX12_hunted_90 : decode cX12_hunted 90 = .ok (.goto 4, 3) := by decide +kernel
theorem dX12_hunted_93 : decode cX12_hunted 93 = .ok (.iconst 2, 1) := by decide +kernel
theorem dX12_hunted_94 : decode cX12_hunted 94 = .ok (.invokevirtual 189, 3) := by decide +kernel
theorem dX12_hunted_97 : decode cX12_hunted 97 = .ok (.return_, 1) := by decide +kernel
set_option maxRecDepth 20000 in
theorem ggX12_checked_X12_roleOf : GoodIn wsX12_checked wsX12_roleOf := gi_e e_wsX12_checked e_wsX12_roleOf (by decide +kernel)
set_option maxRecDepth 20000 in
theorem gX12_checked_X12_roleOf : GoodIn wsX12_checked (wsV RX12 47 RX12 yX12_roleOf wsX12_roleOf) := goodIn_app (gi_e e_wsX12_checked (ce fw_6177 (ce fw_6179 (ce fw_42 (ce fw_1038 (cn))))) (by decide +kernel)) ggX12_checked_X12_roleOf
set_option maxRecDepth 20000 in
theorem ggX12_checked_X12_checkMany : GoodIn wsX12_checked wsX12_checkMany := gi_e e_wsX12_checked e_wsX12_checkMany (by decide +kernel)
set_option maxRecDepth 20000 in
theorem gX12_checked_X12_checkMany : GoodIn wsX12_checked (wsV RX12 145 RX12 yX12_checkMany wsX12_checkMany) := goodIn_app (gi_e e_wsX12_checked (ce fw_6185 (ce fw_6187 (ce fw_44 (ce fw_1038 (cn))))) (by decide +kernel)) ggX12_checked_X12_checkMany
set_option maxRecDepth 20000 in
theorem ggX12_checked_X12_goesOn : GoodIn wsX12_checked wsX12_goesOn := gi_e e_wsX12_checked e_wsX12_goesOn (by decide +kernel)
set_option maxRecDepth 20000 in
theorem gX12_checked_X12_goesOn : GoodIn wsX12_checked (wsV RX12 148 RX12 yX12_goesOn wsX12_goesOn) := goodIn_app (gi_e e_wsX12_checked (ce fw_6189 (ce fw_6191 (ce fw_45 (ce fw_1038 (cn))))) (by decide +kernel)) ggX12_checked_X12_goesOn
set_option maxRecDepth 20000 in
theorem ggX12_checked_X12_round : GoodIn wsX12_checked wsX12_round := gi_e e_wsX12_checked e_wsX12_round (by decide +kernel)
set_option maxRecDepth 20000 in
theorem gX12_checked_X12_round : GoodIn wsX12_checked (wsV RX12 142 RX12 yX12_round wsX12_round) := goodIn_app (gi_e e_wsX12_checked (ce fw_5259 (ce fw_5261 (ce fw_32 (ce fw_1038 (cn))))) (by decide +kernel)) ggX12_checked_X12_round
theorem dX12_checked_0 : decode cX12_checked 0 = .ok (.iload_n 1, 1) := by decide +kernel
theorem dX12_checked_1 : decode cX12_checked 1 = .ok (.ifCond .ne 27, 3) := by decide +kernel
theorem dX12_checked_4 : decode cX12_checked 4 = .ok (.aload_n 0, 1) := by decide +kernel
theorem dX12_checked_5 : decode cX12_checked 5 = .ok (.getfield 7, 3) := by decide +kernel
theorem dX12_checked_8 : decode cX12_checked 8 = .ok (.bipush 62, 2) := by decide +kernel
theorem dX12_checked_10 : decode cX12_checked 10 = .ok (.iconst 0, 1) := by decide +kernel
theorem dX12_checked_11 : decode cX12_checked 11 = .ok (.iastore, 1) := by decide +kernel
theorem dX12_checked_12 : decode cX12_checked 12 = .ok (.aload_n 0, 1) := by decide +kernel
theorem dX12_checked_13 : decode cX12_checked 13 = .ok (.getfield 7, 3) := by decide +kernel
theorem dX12_checked_16 : decode cX12_checked 16 = .ok (.bipush 64, 2) := by decide +kernel
theorem dX12_checked_18 : decode cX12_checked 18 = .ok (.iconst 0, 1) := by decide +kernel
theorem dX12_checked_19 : decode cX12_checked 19 = .ok (.iastore, 1) := by decide +kernel
theorem dX12_checked_20 : decode cX12_checked 20 = .ok (.aload_n 0, 1) := by decide +kernel
theorem dX12_checked_21 : decode cX12_checked 21 = .ok (.getfield 7, 3) := by decide +kernel
theorem dX12_checked_24 : decode cX12_checked 24 = .ok (.bipush 63, 2) := by decide +kernel
theorem dX12_checked_26 : decode cX12_checked 26 = .ok (.iconst 1, 1) := by decide +kernel
theorem dX12_checked_27 : decode cX12_checked 27 = .ok (.iastore, 1) := by decide +kernel
theorem dX12_checked_28 : decode cX12_checked 28 = .ok (.aload_n 0, 1) := by decide +kernel
theorem dX12_checked_29 : decode cX12_checked 29 = .ok (.iload_n 1, 1) := by decide +kernel
theorem dX12_checked_30 : decode cX12_checked 30 = .ok (.invokevirtual 47, 3) := by decide +kernel
theorem dX12_checked_33 : decode cX12_checked 33 = .ok (.iconst 2, 1) := by decide +kernel
theorem dX12_checked_34 : decode cX12_checked 34 = .ok (.if_icmp .ne 7, 3) := by decide +kernel
theorem dX12_checked_37 : decode cX12_checked 37 = .ok (.iconst 1, 1) := by decide +kernel
theorem dX12_checked_38 : decode cX12_checked 38 = .ok (.goto 4, 3) := by decide +kernel
theorem dX12_checked_41 : decode cX12_checked 41 = .ok (.iconst 0, 1) := by decide +kernel
theorem dX12_checked_42 : decode cX12_checked 42 = .ok (.istore_n 3, 1) := by decide +kernel
theorem dX12_checked_43 : decode cX12_checked 43 = .ok (.aload_n 0, 1) := by decide +kernel
theorem dX12_checked_44 : decode cX12_checked 44 = .ok (.getfield 7, 3) := by decide +kernel
theorem dX12_checked_47 : decode cX12_checked 47 = .ok (.bipush 62, 2) := by decide +kernel
theorem dX12_checked_49 : decode cX12_checked 49 = .ok (.aload_n 0, 1) := by decide +kernel
theorem dX12_checked_50 : decode cX12_checked 50 = .ok (.aload_n 0, 1) := by decide +kernel
theorem dX12_checked_51 : decode cX12_checked 51 = .ok (.getfield 7, 3) := by decide +kernel
theorem dX12_checked_54 : decode cX12_checked 54 = .ok (.bipush 62, 2) := by decide +kernel
theorem dX12_checked_56 : decode cX12_checked 56 = .ok (.iaload, 1) := by decide +kernel
theorem dX12_checked_57 : decode cX12_checked 57 = .ok (.iload_n 3, 1) := by decide +kernel
theorem dX12_checked_58 : decode cX12_checked 58 = .ok (.ifCond .eq 7, 3) := by decide +kernel
theorem dX12_checked_61 : decode cX12_checked 61 = .ok (.iconst 1, 1) := by decide +kernel
theorem dX12_checked_62 : decode cX12_checked 62 = .ok (.goto 4, 3) := by decide +kernel
theorem dX12_checked_65 : decode cX12_checked 65 = .ok (.iload_n 2, 1) := by decide +kernel
theorem dX12_checked_66 : decode cX12_checked 66 = .ok (.aload_n 0, 1) := by decide +kernel
theorem dX12_checked_67 : decode cX12_checked 67 = .ok (.invokevirtual 145, 3) := by decide +kernel
theorem dX12_checked_70 : decode cX12_checked 70 = .ok (.invokevirtual 148, 3) := by decide +kernel
theorem dX12_checked_73 : decode cX12_checked 73 = .ok (.iastore, 1) := by decide +kernel
theorem dX12_checked_74 : decode cX12_checked 74 = .ok (.aload_n 0, 1) := by decide +kernel
theorem dX12_checked_75 : decode cX12_checked 75 = .ok (.getfield 7, 3) := by decide +kernel
theorem dX12_checked_78 : decode cX12_checked 78 = .ok (.bipush 64, 2) := by decide +kernel
theorem dX12_checked_80 : decode cX12_checked 80 = .ok (.iload_n 3, 1) := by decide +kernel
theorem dX12_checked_81 : decode cX12_checked 81 = .ok (.ifCond .eq 17, 3) := by decide +kernel
theorem dX12_checked_84 : decode cX12_checked 84 = .ok (.aload_n 0, 1) := by decide +kernel
theorem dX12_checked_85 : decode cX12_checked 85 = .ok (.getfield 7, 3) := by decide +kernel
theorem dX12_checked_88 : decode cX12_checked 88 = .ok (.bipush 64, 2) := by decide +kernel
theorem dX12_checked_90 : decode cX12_checked 90 = .ok (.iaload, 1) := by decide +kernel
theorem dX12_checked_91 : decode cX12_checked 91 = .ok (.iconst 1, 1) := by decide +kernel
theorem dX12_checked_92 : decode cX12_checked 92 = .ok (.ishl, 1) := by decide +kernel
theorem dX12_checked_93 : decode cX12_checked 93 = .ok (.iload_n 2, 1) := by decide +kernel
theorem dX12_checked_94 : decode cX12_checked 94 = .ok (.ior, 1) := by decide +kernel
theorem dX12_checked_95 : decode cX12_checked 95 = .ok (.goto 10, 3) := by decide +kernel
theorem dX12_checked_98 : decode cX12_checked 98 = .ok (.aload_n 0, 1) := by decide +kernel
theorem dX12_checked_99 : decode cX12_checked 99 = .ok (.getfield 7, 3) := by decide +kernel
theorem dX12_checked_102 : decode cX12_checked 102 = .ok (.bipush 64, 2) := by decide +kernel
theorem dX12_checked_104 : decode cX12_checked 104 = .ok (.iaload, 1) := by decide +kernel
theorem dX12_checked_105 : decode cX12_checked 105 = .ok (.iastore, 1) := by decide +kernel
theorem dX12_checked_106 : decode cX12_checked 106 = .ok (.iload_n 1, 1) := by decide +kernel
theorem dX12_checked_107 : decode cX12_checked 107 = .ok (.aload_n 0, 1) := by decide +kernel
theorem dX12_checked_108 : decode cX12_checked 108 = .ok (.invokevirtual 142, 3) := by decide +kernel
theorem dX12_checked_111 : decode cX12_checked 111 = .ok (.iconst 1, 1) := by decide +kernel
theorem dX12_checked_112 : decode cX12_checked 112 = .ok (.isub, 1) := by decide +kernel
theorem dX12_checked_113 : decode cX12_checked 113 = .ok (.if_icmp .ge 5, 3) := by decide +kernel
theorem dX12_checked_116 : decode cX12_checked 116 = .ok (.iconst 0, 1) := by decide +kernel
theorem dX12_checked_117 : decode cX12_checked 117 = .ok (.ireturn, 1) := by decide +kernel
theorem dX12_checked_118 : decode cX12_checked 118 = .ok (.aload_n 0, 1) := by decide +kernel
theorem dX12_checked_119 : decode cX12_checked 119 = .ok (.getfield 7, 3) := by decide +kernel
theorem dX12_checked_122 : decode cX12_checked 122 = .ok (.bipush 63, 2) := by decide +kernel
theorem dX12_checked_124 : decode cX12_checked 124 = .ok (.iaload, 1) := by decide +kernel
theorem dX12_checked_125 : decode cX12_checked 125 = .ok (.iconst 1, 1) := by decide +kernel
theorem dX12_checked_126 : decode cX12_checked 126 = .ok (.if_icmp .ne 25, 3) := by decide +kernel
theorem dX12_checked_129 : decode cX12_checked 129 = .ok (.aload_n 0, 1) := by decide +kernel
theorem dX12_checked_130 : decode cX12_checked 130 = .ok (.getfield 7, 3) := by decide +kernel
theorem dX12_checked_133 : decode cX12_checked 133 = .ok (.bipush 65, 2) := by decide +kernel
theorem dX12_checked_135 : decode cX12_checked 135 = .ok (.iaload, 1) := by decide +kernel
theorem dX12_checked_136 : decode cX12_checked 136 = .ok (.iconst 1, 1) := by decide +kernel
theorem dX12_checked_137 : decode cX12_checked 137 = .ok (.if_icmp .ne 14, 3) := by decide +kernel
theorem dX12_checked_140 : decode cX12_checked 140 = .ok (.aload_n 0, 1) := by decide +kernel
theorem dX12_checked_141 : decode cX12_checked 141 = .ok (.invokevirtual 145, 3) := by decide +kernel
theorem dX12_checked_144 : decode cX12_checked 144 = .ok (.ifCond .le 7, 3) := by decide +kernel
theorem dX12_checked_147 : decode cX12_checked 147 = .ok (.iconst 1, 1) := by decide +kernel
theorem dX12_checked_148 : decode cX12_checked 148 = .ok (.goto 4, 3) := by decide +kernel
theorem dX12_checked_151 : decode cX12_checked 151 = .ok (.iconst 0, 1) := by decide +kernel
theorem dX12_checked_152 : decode cX12_checked 152 = .ok (.istore 4, 2) := by decide +kernel
theorem dX12_checked_154 : decode cX12_checked 154 = .ok (.iload 4, 2) := by decide +kernel
theorem dX12_checked_156 : decode cX12_checked 156 = .ok (.ifCond .ne 7, 3) := by decide +kernel
theorem dX12_checked_159 : decode cX12_checked 159 = .ok (.iconst 1, 1) := by decide +kernel
theorem dX12_checked_160 : decode cX12_checked 160 = .ok (.goto 25, 3) := by decide +kernel
theorem dX12_checked_163 : decode cX12_checked 163 = .ok (.aload_n 0, 1) := by decide +kernel
theorem dX12_checked_164 : decode cX12_checked 164 = .ok (.getfield 7, 3) := by decide +kernel
theorem dX12_checked_167 : decode cX12_checked 167 = .ok (.bipush 64, 2) := by decide +kernel
theorem dX12_checked_169 : decode cX12_checked 169 = .ok (.iaload, 1) := by decide +kernel
theorem dX12_checked_170 : decode cX12_checked 170 = .ok (.aload_n 0, 1) := by decide +kernel
theorem dX12_checked_171 : decode cX12_checked 171 = .ok (.getfield 7, 3) := by decide +kernel
theorem dX12_checked_174 : decode cX12_checked 174 = .ok (.bipush 66, 2) := by decide +kernel
theorem dX12_checked_176 : decode cX12_checked 176 = .ok (.iaload, 1) := by decide +kernel
theorem dX12_checked_177 : decode cX12_checked 177 = .ok (.if_icmp .ne 7, 3) := by decide +kernel
theorem dX12_checked_180 : decode cX12_checked 180 = .ok (.iconst 2, 1) := by decide +kernel
theorem dX12_checked_181 : decode cX12_checked 181 = .ok (.goto 4, 3) := by decide +kernel
theorem dX12_checked_184 : decode cX12_checked 184 = .ok (.iconst 3, 1) := by decide +kernel
theorem dX12_checked_185 : decode cX12_checked 185 = .ok (.istore 5, 2) := by decide +kernel
theorem dX12_checked_187 : decode cX12_checked 187 = .ok (.aload_n 0, 1) := by decide +kernel
theorem dX12_checked_188 : decode cX12_checked 188 = .ok (.getfield 7, 3) := by decide +kernel
theorem dX12_checked_191 : decode cX12_checked 191 = .ok (.bipush 65, 2) := by decide +kernel
theorem dX12_checked_193 : decode cX12_checked 193 = .ok (.aload_n 0, 1) := by decide +kernel
theorem dX12_checked_194 : decode cX12_checked 194 = .ok (.getfield 7, 3) := by decide +kernel
theorem dX12_checked_197 : decode cX12_checked 197 = .ok (.bipush 63, 2) := by decide +kernel
theorem dX12_checked_199 : decode cX12_checked 199 = .ok (.iaload, 1) := by decide +kernel
theorem dX12_checked_200 : decode cX12_checked 200 = .ok (.iastore, 1) := by decide +kernel
theorem dX12_checked_201 : decode cX12_checked 201 = .ok (.aload_n 0, 1) := by decide +kernel
theorem dX12_checked_202 : decode cX12_checked 202 = .ok (.getfield 7, 3) := by decide +kernel
theorem dX12_checked_205 : decode cX12_checked 205 = .ok (.bipush 66, 2) := by decide +kernel
theorem dX12_checked_207 : decode cX12_checked 207 = .ok (.aload_n 0, 1) := by decide +kernel
theorem dX12_checked_208 : decode cX12_checked 208 = .ok (.getfield 7, 3) := by decide +kernel
theorem dX12_checked_211 : decode cX12_checked 211 = .ok (.bipush 62, 2) := by decide +kernel
theorem dX12_checked_213 : decode cX12_checked 213 = .ok (.iaload, 1) := by decide +kernel
theorem dX12_checked_214 : decode cX12_checked 214 = .ok (.iastore, 1) := by decide +kernel
theorem dX12_checked_215 : decode cX12_checked 215 = .ok (.iload 5, 2) := by decide +kernel
theorem dX12_checked_217 : decode cX12_checked 217 = .ok (.ireturn, 1) := by decide +kernel
set_option maxRecDepth 20000 in
theorem ggX12_verified_X12_isFixed : GoodIn wsX12_verified wsX12_isFixed := gi_e e_wsX12_verified e_wsX12_isFixed (by decide +kernel)
set_option maxRecDepth 20000 in
theorem gX12_verified_X12_isFixed : GoodIn wsX12_verified (wsV RX12 174 RX12 yX12_isFixed wsX12_isFixed) := goodIn_app (gi_e e_wsX12_verified (ce fw_6254 (ce fw_6256 (ce fw_55 (ce fw_1038 (cn))))) (by decide +kernel)) ggX12_verified_X12_isFixed
set_option maxRecDepth 20000 in
theorem ggX12_verified_X12_roleOf : GoodIn wsX12_verified wsX12_roleOf := gi_e e_wsX12_verified e_wsX12_roleOf (by decide +kernel)
set_option maxRecDepth 20000 in
theorem gX12_verified_X12_roleOf : GoodIn wsX12_verified (wsV RX12 47 RX12 yX12_roleOf wsX12_roleOf) := goodIn_app (gi_e e_wsX12_verified (ce fw_6177 (ce fw_6179 (ce fw_42 (ce fw_1038 (cn))))) (by decide +kernel)) ggX12_verified_X12_roleOf
set_option maxRecDepth 20000 in
theorem ggX12_verified_X12_hunts : GoodIn wsX12_verified wsX12_hunts := gi_e e_wsX12_verified e_wsX12_hunts (by decide +kernel)
set_option maxRecDepth 20000 in
theorem gX12_verified_X12_hunts : GoodIn wsX12_verified (wsV RX12 165 RX12 yX12_hunts wsX12_hunts) := goodIn_app (gi_e e_wsX12_verified (ce fw_5255 (ce fw_5257 (ce fw_31 (ce fw_1038 (cn))))) (by decide +kernel)) ggX12_verified_X12_hunts
set_option maxRecDepth 20000 in
theorem ggX12_verified_X12_checked : GoodIn wsX12_verified wsX12_checked := gi_e e_wsX12_verified e_wsX12_checked (by decide +kernel)
set_option maxRecDepth 20000 in
theorem gX12_verified_X12_checked : GoodIn wsX12_verified (wsV RX12 192 RX12 yX12_checked wsX12_checked) := goodIn_app (gi_e e_wsX12_verified (ce fw_6281 (ce fw_6283 (ce fw_61 (ce fw_1038 (cn))))) (by decide +kernel)) ggX12_verified_X12_checked
set_option maxRecDepth 20000 in
theorem ggX12_verified_X12_follows : GoodIn wsX12_verified wsX12_follows := gi_e e_wsX12_verified e_wsX12_follows (by decide +kernel)
set_option maxRecDepth 20000 in
theorem gX12_verified_X12_follows : GoodIn wsX12_verified (wsV RX12 189 RX12 yX12_follows wsX12_follows) := goodIn_app (gi_e e_wsX12_verified (ce fw_6273 (ce fw_6275 (ce fw_59 (ce fw_1038 (cn))))) (by decide +kernel)) ggX12_verified_X12_follows
theorem dX12_verified_0 : decode cX12_verified 0 = .ok (.aload_n 0, 1) := by decide +kernel
theorem dX12_verified_1 : decode cX12_verified 1 = .ok (.iload_n 1, 1) := by decide +kernel
theorem dX12_verified_2 : decode cX12_verified 2 = .ok (.invokevirtual 174, 3) := by decide +kernel
theorem dX12_verified_5 : decode cX12_verified 5 = .ok (.ifCond .eq 17, 3) := by decide +kernel
theorem dX12_verified_8 : decode cX12_verified 8 = .ok (.aload_n 0, 1) := by decide +kernel
theorem dX12_verified_9 : decode cX12_verified 9 = .ok (.iload_n 1, 1) := by decide +kernel
theorem dX12_verified_10 : decode cX12_verified 10 = .ok (.invokevirtual 47, 3) := by decide +kernel
theorem dX12_verified_13 : decode cX12_verified 13 = .ok (.iload_n 2, 1) := by decide +kernel
theorem dX12_verified_14 : decode cX12_verified 14 = .ok (.if_icmp .eq 8, 3) := by decide +kernel
theorem dX12_verified_17 : decode cX12_verified 17 = .ok (.aload_n 0, 1) := by decide +kernel
theorem dX12_verified_18 : decode cX12_verified 18 = .ok (.invokevirtual 165, 3) := by decide +kernel
theorem dX12_verified_21 : decode cX12_verified 21 = .ok (.return_, 1) := by decide +kernel
theorem dX12_verified_22 : decode cX12_verified 22 = .ok (.aload_n 0, 1) := by decide +kernel
theorem dX12_verified_23 : decode cX12_verified 23 = .ok (.iload_n 1, 1) := by decide +kernel
theorem dX12_verified_24 : decode cX12_verified 24 = .ok (.iload_n 2, 1) := by decide +kernel
theorem dX12_verified_25 : decode cX12_verified 25 = .ok (.invokevirtual 192, 3) := by decide +kernel
theorem dX12_verified_28 : decode cX12_verified 28 = .ok (.istore_n 3, 1) := by decide +kernel
theorem dX12_verified_29 : decode cX12_verified 29 = .ok (.iload_n 3, 1) := by decide +kernel
theorem dX12_verified_30 : decode cX12_verified 30 = .ok (.iconst 2, 1) := by decide +kernel
theorem dX12_verified_31 : decode cX12_verified 31 = .ok (.if_icmp .ne 11, 3) := by decide +kernel
theorem dX12_verified_34 : decode cX12_verified 34 = .ok (.aload_n 0, 1) := by decide +kernel
theorem dX12_verified_35 : decode cX12_verified 35 = .ok (.iconst 2, 1) := by decide +kernel
theorem dX12_verified_36 : decode cX12_verified 36 = .ok (.invokevirtual 189, 3) := by decide +kernel
theorem dX12_verified_39 : decode cX12_verified 39 = .ok (.goto 23, 3) := by decide +kernel
theorem dX12_verified_42 : decode cX12_verified 42 = .ok (.iload_n 3, 1) := by decide +kernel
theorem dX12_verified_43 : decode cX12_verified 43 = .ok (.iconst 3, 1) := by decide +kernel
theorem dX12_verified_44 : decode cX12_verified 44 = .ok (.if_icmp .ne 18, 3) := by decide +kernel
theorem dX12_verified_47 : decode cX12_verified 47 = .ok (.aload_n 0, 1) := by decide +kernel
theorem dX12_verified_48 : decode cX12_verified 48 = .ok (.getfield 7, 3) := by decide +kernel
theorem dX12_verified_51 : decode cX12_verified 51 = .ok (.bipush 36, 2) := by decide +kernel
theorem dX12_verified_53 : decode cX12_verified 53 = .ok (.dup2, 1) := by decide +kernel
theorem dX12_verified_54 : decode cX12_verified 54 = .ok (.iaload, 1) := by decide +kernel
theorem dX12_verified_55 : decode cX12_verified 55 = .ok (.iconst 1, 1) := by decide +kernel
theorem dX12_verified_56 : decode cX12_verified 56 = .ok (.iadd, 1) := by decide +kernel
theorem dX12_verified_57 : decode cX12_verified 57 = .ok (.iastore, 1) := by decide +kernel
theorem dX12_verified_58 : decode cX12_verified 58 = .ok (.aload_n 0, 1) := by decide +kernel
theorem dX12_verified_59 : decode cX12_verified 59 = .ok (.invokevirtual 165, 3) := by decide +kernel
theorem dX12_verified_62 : decode cX12_verified 62 = .ok (.return_, 1) := by decide +kernel
theorem dX12_linkHears_0 : decode cX12_linkHears 0 = .ok (.aload_n 0, 1) := by decide +kernel
theorem dX12_linkHears_1 : decode cX12_linkHears 1 = .ok (.getfield 7, 3) := by decide +kernel
theorem dX12_linkHears_4 : decode cX12_linkHears 4 = .ok (.bipush 52, 2) := by decide +kernel
theorem dX12_linkHears_6 : decode cX12_linkHears 6 = .ok (.iaload, 1) := by decide +kernel
theorem dX12_linkHears_7 : decode cX12_linkHears 7 = .ok (.iconst (-1), 1) := by decide +kernel
theorem dX12_linkHears_8 : decode cX12_linkHears 8 = .ok (.if_icmp .ne 30, 3) := by decide +kernel
theorem dX12_linkHears_11 : decode cX12_linkHears 11 = .ok (.aload_n 0, 1) := by decide +kernel
theorem dX12_linkHears_12 : decode cX12_linkHears 12 = .ok (.getfield 7, 3) := by decide +kernel
theorem dX12_linkHears_15 : decode cX12_linkHears 15 = .ok (.bipush 52, 2) := by decide +kernel
theorem dX12_linkHears_17 : decode cX12_linkHears 17 = .ok (.iload_n 1, 1) := by decide +kernel
theorem dX12_linkHears_18 : decode cX12_linkHears 18 = .ok (.ifCond .ne 7, 3) := by decide +kernel
theorem dX12_linkHears_21 : decode cX12_linkHears 21 = .ok (.iconst 0, 1) := by decide +kernel
theorem dX12_linkHears_22 : decode cX12_linkHears 22 = .ok (.goto 4, 3) := by decide +kernel
theorem dX12_linkHears_25 : decode cX12_linkHears 25 = .ok (.iconst (-1), 1) := by decide +kernel
theorem dX12_linkHears_26 : decode cX12_linkHears 26 = .ok (.iastore, 1) := by decide +kernel
theorem dX12_linkHears_27 : decode cX12_linkHears 27 = .ok (.aload_n 0, 1) := by decide +kernel
theorem dX12_linkHears_28 : decode cX12_linkHears 28 = .ok (.getfield 7, 3) := by decide +kernel
theorem dX12_linkHears_31 : decode cX12_linkHears 31 = .ok (.bipush 53, 2) := by decide +kernel
theorem dX12_linkHears_33 : decode cX12_linkHears 33 = .ok (.iconst 0, 1) := by decide +kernel
theorem dX12_linkHears_34 : decode cX12_linkHears 34 = .ok (.iastore, 1) := by decide +kernel
theorem dX12_linkHears_35 : decode cX12_linkHears 35 = .ok (.goto 129, 3) := by decide +kernel
theorem dX12_linkHears_38 : decode cX12_linkHears 38 = .ok (.aload_n 0, 1) := by decide +kernel
theorem dX12_linkHears_39 : decode cX12_linkHears 39 = .ok (.getfield 7, 3) := by decide +kernel
theorem dX12_linkHears_42 : decode cX12_linkHears 42 = .ok (.bipush 52, 2) := by decide +kernel
theorem dX12_linkHears_44 : decode cX12_linkHears 44 = .ok (.iaload, 1) := by decide +kernel
theorem dX12_linkHears_45 : decode cX12_linkHears 45 = .ok (.bipush 8, 2) := by decide +kernel
theorem dX12_linkHears_47 : decode cX12_linkHears 47 = .ok (.if_icmp .ge 35, 3) := by decide +kernel
theorem dX12_linkHears_50 : decode cX12_linkHears 50 = .ok (.aload_n 0, 1) := by decide +kernel
theorem dX12_linkHears_51 : decode cX12_linkHears 51 = .ok (.getfield 7, 3) := by decide +kernel
theorem dX12_linkHears_54 : decode cX12_linkHears 54 = .ok (.bipush 53, 2) := by decide +kernel
theorem dX12_linkHears_56 : decode cX12_linkHears 56 = .ok (.aload_n 0, 1) := by decide +kernel
theorem dX12_linkHears_57 : decode cX12_linkHears 57 = .ok (.getfield 7, 3) := by decide +kernel
theorem dX12_linkHears_60 : decode cX12_linkHears 60 = .ok (.bipush 53, 2) := by decide +kernel
theorem dX12_linkHears_62 : decode cX12_linkHears 62 = .ok (.iaload, 1) := by decide +kernel
theorem dX12_linkHears_63 : decode cX12_linkHears 63 = .ok (.iconst 1, 1) := by decide +kernel
theorem dX12_linkHears_64 : decode cX12_linkHears 64 = .ok (.ishl, 1) := by decide +kernel
theorem dX12_linkHears_65 : decode cX12_linkHears 65 = .ok (.iload_n 1, 1) := by decide +kernel
theorem dX12_linkHears_66 : decode cX12_linkHears 66 = .ok (.ior, 1) := by decide +kernel
theorem dX12_linkHears_67 : decode cX12_linkHears 67 = .ok (.iastore, 1) := by decide +kernel
theorem dX12_linkHears_68 : decode cX12_linkHears 68 = .ok (.aload_n 0, 1) := by decide +kernel
theorem dX12_linkHears_69 : decode cX12_linkHears 69 = .ok (.getfield 7, 3) := by decide +kernel
theorem dX12_linkHears_72 : decode cX12_linkHears 72 = .ok (.bipush 52, 2) := by decide +kernel
theorem dX12_linkHears_74 : decode cX12_linkHears 74 = .ok (.dup2, 1) := by decide +kernel
theorem dX12_linkHears_75 : decode cX12_linkHears 75 = .ok (.iaload, 1) := by decide +kernel
theorem dX12_linkHears_76 : decode cX12_linkHears 76 = .ok (.iconst 1, 1) := by decide +kernel
theorem dX12_linkHears_77 : decode cX12_linkHears 77 = .ok (.iadd, 1) := by decide +kernel
theorem dX12_linkHears_78 : decode cX12_linkHears 78 = .ok (.iastore, 1) := by decide +kernel
theorem dX12_linkHears_79 : decode cX12_linkHears 79 = .ok (.goto 85, 3) := by decide +kernel
theorem dX12_linkHears_82 : decode cX12_linkHears 82 = .ok (.aload_n 0, 1) := by decide +kernel
theorem dX12_linkHears_83 : decode cX12_linkHears 83 = .ok (.getfield 7, 3) := by decide +kernel
theorem dX12_linkHears_86 : decode cX12_linkHears 86 = .ok (.bipush 52, 2) := by decide +kernel
theorem dX12_linkHears_88 : decode cX12_linkHears 88 = .ok (.iconst (-1), 1) := by decide +kernel
theorem dX12_linkHears_89 : decode cX12_linkHears 89 = .ok (.iastore, 1) := by decide +kernel
theorem dX12_linkHears_90 : decode cX12_linkHears 90 = .ok (.iload_n 1, 1) := by decide +kernel
theorem dX12_linkHears_91 : decode cX12_linkHears 91 = .ok (.ifCond .ne 15, 3) := by decide +kernel
theorem dX12_linkHears_94 : decode cX12_linkHears 94 = .ok (.aload_n 0, 1) := by decide +kernel
theorem dX12_linkHears_95 : decode cX12_linkHears 95 = .ok (.getfield 7, 3) := by decide +kernel
theorem dX12_linkHears_98 : decode cX12_linkHears 98 = .ok (.bipush 51, 2) := by decide +kernel
theorem dX12_linkHears_100 : decode cX12_linkHears 100 = .ok (.dup2, 1) := by decide +kernel
theorem dX12_linkHears_101 : decode cX12_linkHears 101 = .ok (.iaload, 1) := by decide +kernel
theorem dX12_linkHears_102 : decode cX12_linkHears 102 = .ok (.iconst 1, 1) := by decide +kernel
theorem dX12_linkHears_103 : decode cX12_linkHears 103 = .ok (.iadd, 1) := by decide +kernel
theorem dX12_linkHears_104 : decode cX12_linkHears 104 = .ok (.iastore, 1) := by decide +kernel
theorem dX12_linkHears_105 : decode cX12_linkHears 105 = .ok (.return_, 1) := by decide +kernel
theorem dX12_linkHears_106 : decode cX12_linkHears 106 = .ok (.bipush 7, 2) := by decide +kernel
theorem dX12_linkHears_108 : decode cX12_linkHears 108 = .ok (.istore_n 2, 1) := by decide +kernel
theorem dX12_linkHears_109 : decode cX12_linkHears 109 = .ok (.iload_n 2, 1) := by decide +kernel
theorem dX12_linkHears_110 : decode cX12_linkHears 110 = .ok (.ifCond .le 29, 3) := by decide +kernel
theorem dX12_linkHears_113 : decode cX12_linkHears 113 = .ok (.aload_n 0, 1) := by decide +kernel
theorem dX12_linkHears_114 : decode cX12_linkHears 114 = .ok (.getfield 7, 3) := by decide +kernel
theorem dX12_linkHears_117 : decode cX12_linkHears 117 = .ok (.bipush 54, 2) := by decide +kernel
theorem dX12_linkHears_119 : decode cX12_linkHears 119 = .ok (.iload_n 2, 1) := by decide +kernel
theorem dX12_linkHears_120 : decode cX12_linkHears 120 = .ok (.iadd, 1) := by decide +kernel
theorem dX12_linkHears_121 : decode cX12_linkHears 121 = .ok (.aload_n 0, 1) := by decide +kernel
theorem dX12_linkHears_122 : decode cX12_linkHears 122 = .ok (.getfield 7, 3) := by decide +kernel
theorem dX12_linkHears_125 : decode cX12_linkHears 125 = .ok (.bipush 54, 2) := by decide +kernel
theorem dX12_linkHears_127 : decode cX12_linkHears 127 = .ok (.iload_n 2, 1) := by decide +kernel
theorem dX12_linkHears_128 : decode cX12_linkHears 128 = .ok (.iadd, 1) := by decide +kernel
theorem dX12_linkHears_129 : decode cX12_linkHears 129 = .ok (.iconst 1, 1) := by decide +kernel
theorem dX12_linkHears_130 : decode cX12_linkHears 130 = .ok (.isub, 1) := by decide +kernel
theorem dX12_linkHears_131 : decode cX12_linkHears 131 = .ok (.iaload, 1) := by decide +kernel
theorem dX12_linkHears_132 : decode cX12_linkHears 132 = .ok (.iastore, 1) := by decide +kernel
theorem dX12_linkHears_133 : decode cX12_linkHears 133 = .ok (.iinc 2 (-1), 3) := by decide +kernel
theorem dX12_linkHears_136 : decode cX12_linkHears 136 = .ok (.goto (-27), 3) := by decide +kernel
theorem dX12_linkHears_139 : decode cX12_linkHears 139 = .ok (.aload_n 0, 1) := by decide +kernel
theorem dX12_linkHears_140 : decode cX12_linkHears 140 = .ok (.getfield 7, 3) := by decide +kernel
theorem dX12_linkHears_143 : decode cX12_linkHears 143 = .ok (.bipush 54, 2) := by decide +kernel
theorem dX12_linkHears_145 : decode cX12_linkHears 145 = .ok (.aload_n 0, 1) := by decide +kernel
theorem dX12_linkHears_146 : decode cX12_linkHears 146 = .ok (.getfield 7, 3) := by decide +kernel
theorem dX12_linkHears_149 : decode cX12_linkHears 149 = .ok (.bipush 53, 2) := by decide +kernel
theorem dX12_linkHears_151 : decode cX12_linkHears 151 = .ok (.iaload, 1) := by decide +kernel
theorem dX12_linkHears_152 : decode cX12_linkHears 152 = .ok (.iastore, 1) := by decide +kernel
theorem dX12_linkHears_153 : decode cX12_linkHears 153 = .ok (.aload_n 0, 1) := by decide +kernel
theorem dX12_linkHears_154 : decode cX12_linkHears 154 = .ok (.getfield 7, 3) := by decide +kernel
theorem dX12_linkHears_157 : decode cX12_linkHears 157 = .ok (.bipush 50, 2) := by decide +kernel
theorem dX12_linkHears_159 : decode cX12_linkHears 159 = .ok (.dup2, 1) := by decide +kernel
theorem dX12_linkHears_160 : decode cX12_linkHears 160 = .ok (.iaload, 1) := by decide +kernel
theorem dX12_linkHears_161 : decode cX12_linkHears 161 = .ok (.iconst 1, 1) := by decide +kernel
theorem dX12_linkHears_162 : decode cX12_linkHears 162 = .ok (.iadd, 1) := by decide +kernel
theorem dX12_linkHears_163 : decode cX12_linkHears 163 = .ok (.iastore, 1) := by decide +kernel
theorem dX12_linkHears_164 : decode cX12_linkHears 164 = .ok (.return_, 1) := by decide +kernel
theorem dX12_stores_0 : decode cX12_stores 0 = .ok (.aload_n 0, 1) := by decide +kernel
theorem dX12_stores_1 : decode cX12_stores 1 = .ok (.getfield 7, 3) := by decide +kernel
theorem dX12_stores_4 : decode cX12_stores 4 = .ok (.bipush 48, 2) := by decide +kernel
theorem dX12_stores_6 : decode cX12_stores 6 = .ok (.iaload, 1) := by decide +kernel
theorem dX12_stores_7 : decode cX12_stores 7 = .ok (.iconst 2, 1) := by decide +kernel
theorem dX12_stores_8 : decode cX12_stores 8 = .ok (.if_icmp .ne 56, 3) := by decide +kernel
theorem dX12_stores_11 : decode cX12_stores 11 = .ok (.aload_n 0, 1) := by decide +kernel
theorem dX12_stores_12 : decode cX12_stores 12 = .ok (.getfield 7, 3) := by decide +kernel
theorem dX12_stores_15 : decode cX12_stores 15 = .ok (.bipush 45, 2) := by decide +kernel
theorem dX12_stores_17 : decode cX12_stores 17 = .ok (.dup2, 1) := by decide +kernel
theorem dX12_stores_18 : decode cX12_stores 18 = .ok (.iaload, 1) := by decide +kernel
theorem dX12_stores_19 : decode cX12_stores 19 = .ok (.iconst 1, 1) := by decide +kernel
theorem dX12_stores_20 : decode cX12_stores 20 = .ok (.iadd, 1) := by decide +kernel
theorem dX12_stores_21 : decode cX12_stores 21 = .ok (.iastore, 1) := by decide +kernel
theorem dX12_stores_22 : decode cX12_stores 22 = .ok (.iconst 0, 1) := by decide +kernel
theorem dX12_stores_23 : decode cX12_stores 23 = .ok (.istore_n 2, 1) := by decide +kernel
theorem dX12_stores_24 : decode cX12_stores 24 = .ok (.iload_n 2, 1) := by decide +kernel
theorem dX12_stores_25 : decode cX12_stores 25 = .ok (.iconst 3, 1) := by decide +kernel
theorem dX12_stores_26 : decode cX12_stores 26 = .ok (.if_icmp .ge 27, 3) := by decide +kernel
theorem dX12_stores_29 : decode cX12_stores 29 = .ok (.aload_n 0, 1) := by decide +kernel
theorem dX12_stores_30 : decode cX12_stores 30 = .ok (.getfield 7, 3) := by decide +kernel
theorem dX12_stores_33 : decode cX12_stores 33 = .ok (.bipush 69, 2) := by decide +kernel
theorem dX12_stores_35 : decode cX12_stores 35 = .ok (.iload_n 2, 1) := by decide +kernel
theorem dX12_stores_36 : decode cX12_stores 36 = .ok (.iadd, 1) := by decide +kernel
theorem dX12_stores_37 : decode cX12_stores 37 = .ok (.aload_n 0, 1) := by decide +kernel
theorem dX12_stores_38 : decode cX12_stores 38 = .ok (.getfield 7, 3) := by decide +kernel
theorem dX12_stores_41 : decode cX12_stores 41 = .ok (.bipush 72, 2) := by decide +kernel
theorem dX12_stores_43 : decode cX12_stores 43 = .ok (.iload_n 2, 1) := by decide +kernel
theorem dX12_stores_44 : decode cX12_stores 44 = .ok (.iadd, 1) := by decide +kernel
theorem dX12_stores_45 : decode cX12_stores 45 = .ok (.iaload, 1) := by decide +kernel
theorem dX12_stores_46 : decode cX12_stores 46 = .ok (.iastore, 1) := by decide +kernel
theorem dX12_stores_47 : decode cX12_stores 47 = .ok (.iinc 2 1, 3) := by decide +kernel
theorem dX12_stores_50 : decode cX12_stores 50 = .ok (.goto (-26), 3) := by decide +kernel
theorem dX12_stores_53 : decode cX12_stores 53 = .ok (.aload_n 0, 1) := by decide +kernel
theorem dX12_stores_54 : decode cX12_stores 54 = .ok (.getfield 7, 3) := by decide +kernel
theorem dX12_stores_57 : decode cX12_stores 57 = .ok (.bipush 48, 2) := by decide +kernel
theorem dX12_stores_59 : decode cX12_stores 59 = .ok (.dup2, 1) := by decide +kernel
theorem dX12_stores_60 : decode cX12_stores 60 = .ok (.iaload, 1) := by decide +kernel
theorem dX12_stores_61 : decode cX12_stores 61 = .ok (.iconst 1, 1) := by decide +kernel
theorem dX12_stores_62 : decode cX12_stores 62 = .ok (.isub, 1) := by decide +kernel
theorem dX12_stores_63 : decode cX12_stores 63 = .ok (.iastore, 1) := by decide +kernel
theorem dX12_stores_64 : decode cX12_stores 64 = .ok (.bipush 69, 2) := by decide +kernel
theorem dX12_stores_66 : decode cX12_stores 66 = .ok (.iconst 3, 1) := by decide +kernel
theorem dX12_stores_67 : decode cX12_stores 67 = .ok (.aload_n 0, 1) := by decide +kernel
theorem dX12_stores_68 : decode cX12_stores 68 = .ok (.getfield 7, 3) := by decide +kernel
theorem dX12_stores_71 : decode cX12_stores 71 = .ok (.bipush 48, 2) := by decide +kernel
theorem dX12_stores_73 : decode cX12_stores 73 = .ok (.iaload, 1) := by decide +kernel
theorem dX12_stores_74 : decode cX12_stores 74 = .ok (.imul, 1) := by decide +kernel
theorem dX12_stores_75 : decode cX12_stores 75 = .ok (.iadd, 1) := by decide +kernel
theorem dX12_stores_76 : decode cX12_stores 76 = .ok (.istore_n 2, 1) := by decide +kernel
theorem dX12_stores_77 : decode cX12_stores 77 = .ok (.aload_n 0, 1) := by decide +kernel
theorem dX12_stores_78 : decode cX12_stores 78 = .ok (.getfield 7, 3) := by decide +kernel
theorem dX12_stores_81 : decode cX12_stores 81 = .ok (.iload_n 2, 1) := by decide +kernel
theorem dX12_stores_82 : decode cX12_stores 82 = .ok (.aload_n 0, 1) := by decide +kernel
theorem dX12_stores_83 : decode cX12_stores 83 = .ok (.getfield 7, 3) := by decide +kernel
theorem dX12_stores_86 : decode cX12_stores 86 = .ok (.bipush 68, 2) := by decide +kernel
theorem dX12_stores_88 : decode cX12_stores 88 = .ok (.iaload, 1) := by decide +kernel
theorem dX12_stores_89 : decode cX12_stores 89 = .ok (.iastore, 1) := by decide +kernel
theorem dX12_stores_90 : decode cX12_stores 90 = .ok (.aload_n 0, 1) := by decide +kernel
theorem dX12_stores_91 : decode cX12_stores 91 = .ok (.getfield 7, 3) := by decide +kernel
theorem dX12_stores_94 : decode cX12_stores 94 = .ok (.iload_n 2, 1) := by decide +kernel
theorem dX12_stores_95 : decode cX12_stores 95 = .ok (.iconst 1, 1) := by decide +kernel
theorem dX12_stores_96 : decode cX12_stores 96 = .ok (.iadd, 1) := by decide +kernel
theorem dX12_stores_97 : decode cX12_stores 97 = .ok (.aload_n 0, 1) := by decide +kernel
theorem dX12_stores_98 : decode cX12_stores 98 = .ok (.getfield 7, 3) := by decide +kernel
theorem dX12_stores_101 : decode cX12_stores 101 = .ok (.bipush 44, 2) := by decide +kernel
theorem dX12_stores_103 : decode cX12_stores 103 = .ok (.iaload, 1) := by decide +kernel
theorem dX12_stores_104 : decode cX12_stores 104 = .ok (.iastore, 1) := by decide +kernel
theorem dX12_stores_105 : decode cX12_stores 105 = .ok (.aload_n 0, 1) := by decide +kernel
theorem dX12_stores_106 : decode cX12_stores 106 = .ok (.getfield 7, 3) := by decide +kernel
theorem dX12_stores_109 : decode cX12_stores 109 = .ok (.iload_n 2, 1) := by decide +kernel
theorem dX12_stores_110 : decode cX12_stores 110 = .ok (.iconst 2, 1) := by decide +kernel
theorem dX12_stores_111 : decode cX12_stores 111 = .ok (.iadd, 1) := by decide +kernel
theorem dX12_stores_112 : decode cX12_stores 112 = .ok (.iload_n 1, 1) := by decide +kernel
theorem dX12_stores_113 : decode cX12_stores 113 = .ok (.iastore, 1) := by decide +kernel
theorem dX12_stores_114 : decode cX12_stores 114 = .ok (.aload_n 0, 1) := by decide +kernel
theorem dX12_stores_115 : decode cX12_stores 115 = .ok (.getfield 7, 3) := by decide +kernel
theorem dX12_stores_118 : decode cX12_stores 118 = .ok (.bipush 48, 2) := by decide +kernel
theorem dX12_stores_120 : decode cX12_stores 120 = .ok (.dup2, 1) := by decide +kernel
theorem dX12_stores_121 : decode cX12_stores 121 = .ok (.iaload, 1) := by decide +kernel
theorem dX12_stores_122 : decode cX12_stores 122 = .ok (.iconst 1, 1) := by decide +kernel
theorem dX12_stores_123 : decode cX12_stores 123 = .ok (.iadd, 1) := by decide +kernel
theorem dX12_stores_124 : decode cX12_stores 124 = .ok (.iastore, 1) := by decide +kernel
theorem dX12_stores_125 : decode cX12_stores 125 = .ok (.aload_n 0, 1) := by decide +kernel
theorem dX12_stores_126 : decode cX12_stores 126 = .ok (.getfield 7, 3) := by decide +kernel
theorem dX12_stores_129 : decode cX12_stores 129 = .ok (.bipush 44, 2) := by decide +kernel
theorem dX12_stores_131 : decode cX12_stores 131 = .ok (.dup2, 1) := by decide +kernel
theorem dX12_stores_132 : decode cX12_stores 132 = .ok (.iaload, 1) := by decide +kernel
theorem dX12_stores_133 : decode cX12_stores 133 = .ok (.iconst 1, 1) := by decide +kernel
theorem dX12_stores_134 : decode cX12_stores 134 = .ok (.iadd, 1) := by decide +kernel
theorem dX12_stores_135 : decode cX12_stores 135 = .ok (.iastore, 1) := by decide +kernel
theorem dX12_stores_136 : decode cX12_stores 136 = .ok (.return_, 1) := by decide +kernel
set_option maxRecDepth 20000 in
theorem ggX12_framed_X12_stores : GoodIn wsX12_framed wsX12_stores := gi_e e_wsX12_framed e_wsX12_stores (by decide +kernel)
set_option maxRecDepth 20000 in
theorem gX12_framed_X12_stores : GoodIn wsX12_framed (wsV RX12 195 RX12 yX12_stores wsX12_stores) := goodIn_app (gi_e e_wsX12_framed (ce fw_6297 (ce fw_6299 (ce fw_65 (ce fw_1038 (cn))))) (by decide +kernel)) ggX12_framed_X12_stores
theorem dX12_framed_0 : decode cX12_framed 0 = .ok (.iload_n 1, 1) := by decide +kernel
theorem dX12_framed_1 : decode cX12_framed 1 = .ok (.aload_n 0, 1) := by decide +kernel
theorem dX12_framed_2 : decode cX12_framed 2 = .ok (.getfield 7, 3) := by decide +kernel
theorem dX12_framed_5 : decode cX12_framed 5 = .ok (.iconst 0, 1) := by decide +kernel
theorem dX12_framed_6 : decode cX12_framed 6 = .ok (.iaload, 1) := by decide +kernel
theorem dX12_framed_7 : decode cX12_framed 7 = .ok (.irem, 1) := by decide +kernel
theorem dX12_framed_8 : decode cX12_framed 8 = .ok (.istore_n 3, 1) := by decide +kernel
theorem dX12_framed_9 : decode cX12_framed 9 = .ok (.iload_n 3, 1) := by decide +kernel
theorem dX12_framed_10 : decode cX12_framed 10 = .ok (.ifCond .ne 20, 3) := by decide +kernel
theorem dX12_framed_13 : decode cX12_framed 13 = .ok (.aload_n 0, 1) := by decide +kernel
theorem dX12_framed_14 : decode cX12_framed 14 = .ok (.getfield 7, 3) := by decide +kernel
theorem dX12_framed_17 : decode cX12_framed 17 = .ok (.bipush 67, 2) := by decide +kernel
theorem dX12_framed_19 : decode cX12_framed 19 = .ok (.iconst 1, 1) := by decide +kernel
theorem dX12_framed_20 : decode cX12_framed 20 = .ok (.iastore, 1) := by decide +kernel
theorem dX12_framed_21 : decode cX12_framed 21 = .ok (.aload_n 0, 1) := by decide +kernel
theorem dX12_framed_22 : decode cX12_framed 22 = .ok (.getfield 7, 3) := by decide +kernel
theorem dX12_framed_25 : decode cX12_framed 25 = .ok (.bipush 68, 2) := by decide +kernel
theorem dX12_framed_27 : decode cX12_framed 27 = .ok (.iconst 0, 1) := by decide +kernel
theorem dX12_framed_28 : decode cX12_framed 28 = .ok (.iastore, 1) := by decide +kernel
theorem dX12_framed_29 : decode cX12_framed 29 = .ok (.return_, 1) := by decide +kernel
theorem dX12_framed_30 : decode cX12_framed 30 = .ok (.aload_n 0, 1) := by decide +kernel
theorem dX12_framed_31 : decode cX12_framed 31 = .ok (.getfield 7, 3) := by decide +kernel
theorem dX12_framed_34 : decode cX12_framed 34 = .ok (.bipush 68, 2) := by decide +kernel
theorem dX12_framed_36 : decode cX12_framed 36 = .ok (.aload_n 0, 1) := by decide +kernel
theorem dX12_framed_37 : decode cX12_framed 37 = .ok (.getfield 7, 3) := by decide +kernel
theorem dX12_framed_40 : decode cX12_framed 40 = .ok (.bipush 68, 2) := by decide +kernel
theorem dX12_framed_42 : decode cX12_framed 42 = .ok (.iaload, 1) := by decide +kernel
theorem dX12_framed_43 : decode cX12_framed 43 = .ok (.iconst 1, 1) := by decide +kernel
theorem dX12_framed_44 : decode cX12_framed 44 = .ok (.ishl, 1) := by decide +kernel
theorem dX12_framed_45 : decode cX12_framed 45 = .ok (.iload_n 2, 1) := by decide +kernel
theorem dX12_framed_46 : decode cX12_framed 46 = .ok (.ior, 1) := by decide +kernel
theorem dX12_framed_47 : decode cX12_framed 47 = .ok (.iastore, 1) := by decide +kernel
theorem dX12_framed_48 : decode cX12_framed 48 = .ok (.iload_n 3, 1) := by decide +kernel
theorem dX12_framed_49 : decode cX12_framed 49 = .ok (.aload_n 0, 1) := by decide +kernel
theorem dX12_framed_50 : decode cX12_framed 50 = .ok (.getfield 7, 3) := by decide +kernel
theorem dX12_framed_53 : decode cX12_framed 53 = .ok (.iconst 0, 1) := by decide +kernel
theorem dX12_framed_54 : decode cX12_framed 54 = .ok (.iaload, 1) := by decide +kernel
theorem dX12_framed_55 : decode cX12_framed 55 = .ok (.iconst 1, 1) := by decide +kernel
theorem dX12_framed_56 : decode cX12_framed 56 = .ok (.isub, 1) := by decide +kernel
theorem dX12_framed_57 : decode cX12_framed 57 = .ok (.if_icmp .ne 26, 3) := by decide +kernel
theorem dX12_framed_60 : decode cX12_framed 60 = .ok (.aload_n 0, 1) := by decide +kernel
theorem dX12_framed_61 : decode cX12_framed 61 = .ok (.getfield 7, 3) := by decide +kernel
theorem dX12_framed_64 : decode cX12_framed 64 = .ok (.bipush 67, 2) := by decide +kernel
theorem dX12_framed_66 : decode cX12_framed 66 = .ok (.iaload, 1) := by decide +kernel
theorem dX12_framed_67 : decode cX12_framed 67 = .ok (.iconst 1, 1) := by decide +kernel
theorem dX12_framed_68 : decode cX12_framed 68 = .ok (.if_icmp .ne 15, 3) := by decide +kernel
theorem dX12_framed_71 : decode cX12_framed 71 = .ok (.aload_n 0, 1) := by decide +kernel
theorem dX12_framed_72 : decode cX12_framed 72 = .ok (.iload_n 1, 1) := by decide +kernel
theorem dX12_framed_73 : decode cX12_framed 73 = .ok (.aload_n 0, 1) := by decide +kernel
theorem dX12_framed_74 : decode cX12_framed 74 = .ok (.getfield 7, 3) := by decide +kernel
theorem dX12_framed_77 : decode cX12_framed 77 = .ok (.iconst 0, 1) := by decide +kernel
theorem dX12_framed_78 : decode cX12_framed 78 = .ok (.iaload, 1) := by decide +kernel
theorem dX12_framed_79 : decode cX12_framed 79 = .ok (.idiv, 1) := by decide +kernel
theorem dX12_framed_80 : decode cX12_framed 80 = .ok (.invokevirtual 195, 3) := by decide +kernel
theorem dX12_framed_83 : decode cX12_framed 83 = .ok (.return_, 1) := by decide +kernel
set_option maxRecDepth 20000 in
theorem ggX12_locked_X12_isFixed : GoodIn wsX12_locked wsX12_isFixed := gi_e e_wsX12_locked e_wsX12_isFixed (by decide +kernel)
set_option maxRecDepth 20000 in
theorem gX12_locked_X12_isFixed : GoodIn wsX12_locked (wsV RX12 174 RX12 yX12_isFixed wsX12_isFixed) := goodIn_app (gi_e e_wsX12_locked (ce fw_6254 (ce fw_6256 (ce fw_55 (ce fw_1038 (cn))))) (by decide +kernel)) ggX12_locked_X12_isFixed
set_option maxRecDepth 20000 in
theorem ggX12_locked_X12_roleOf : GoodIn wsX12_locked wsX12_roleOf := gi_e e_wsX12_locked e_wsX12_roleOf (by decide +kernel)
set_option maxRecDepth 20000 in
theorem gX12_locked_X12_roleOf : GoodIn wsX12_locked (wsV RX12 47 RX12 yX12_roleOf wsX12_roleOf) := goodIn_app (gi_e e_wsX12_locked (ce fw_6177 (ce fw_6179 (ce fw_42 (ce fw_1038 (cn))))) (by decide +kernel)) ggX12_locked_X12_roleOf
set_option maxRecDepth 20000 in
theorem ggX12_locked_X12_lesser : GoodIn wsX12_locked wsX12_lesser := gi_e e_wsX12_locked e_wsX12_lesser (by decide +kernel)
set_option maxRecDepth 20000 in
theorem gX12_locked_X12_lesser : GoodIn wsX12_locked (va_wsS RX12 103 yX12_lesser wsX12_lesser) := goodIn_app (gi_e e_wsX12_locked (ce fw_6150 (ce fw_6151 (ce fw_1038 (cn)))) (by decide +kernel)) ggX12_locked_X12_lesser
set_option maxRecDepth 20000 in
theorem ggX12_locked_X12_ones : GoodIn wsX12_locked wsX12_ones := gi_e e_wsX12_locked e_wsX12_ones (by decide +kernel)
set_option maxRecDepth 20000 in
theorem gX12_locked_X12_ones : GoodIn wsX12_locked (va_wsS RX12 168 yX12_ones wsX12_ones) := goodIn_app (gi_e e_wsX12_locked (ce fw_6262 (ce fw_6263 (ce fw_1038 (cn)))) (by decide +kernel)) ggX12_locked_X12_ones
set_option maxRecDepth 20000 in
theorem ggX12_locked_X12_hunts : GoodIn wsX12_locked wsX12_hunts := gi_e e_wsX12_locked e_wsX12_hunts (by decide +kernel)
set_option maxRecDepth 20000 in
theorem gX12_locked_X12_hunts : GoodIn wsX12_locked (wsV RX12 165 RX12 yX12_hunts wsX12_hunts) := goodIn_app (gi_e e_wsX12_locked (ce fw_5255 (ce fw_5257 (ce fw_31 (ce fw_1038 (cn))))) (by decide +kernel)) ggX12_locked_X12_hunts
set_option maxRecDepth 20000 in
theorem ggX12_locked_X12_checked : GoodIn wsX12_locked wsX12_checked := gi_e e_wsX12_locked e_wsX12_checked (by decide +kernel)
set_option maxRecDepth 20000 in
theorem gX12_locked_X12_checked : GoodIn wsX12_locked (wsV RX12 192 RX12 yX12_checked wsX12_checked) := goodIn_app (gi_e e_wsX12_locked (ce fw_6281 (ce fw_6283 (ce fw_61 (ce fw_1038 (cn))))) (by decide +kernel)) ggX12_locked_X12_checked
set_option maxRecDepth 20000 in
theorem ggX12_locked_X12_linkHears : GoodIn wsX12_locked wsX12_linkHears := gi_e e_wsX12_locked e_wsX12_linkHears (by decide +kernel)
set_option maxRecDepth 20000 in
theorem gX12_locked_X12_linkHears : GoodIn wsX12_locked (wsV RX12 198 RX12 yX12_linkHears wsX12_linkHears) := goodIn_app (gi_e e_wsX12_locked (ce fw_6289 (ce fw_6291 (ce fw_63 (ce fw_1038 (cn))))) (by decide +kernel)) ggX12_locked_X12_linkHears
set_option maxRecDepth 20000 in
theorem ggX12_locked_X12_framed : GoodIn wsX12_locked wsX12_framed := gi_e e_wsX12_locked e_wsX12_framed (by decide +kernel)
set_option maxRecDepth 20000 in
theorem gX12_locked_X12_framed : GoodIn wsX12_locked (wsV RX12 201 RX12 yX12_framed wsX12_framed) := goodIn_app (gi_e e_wsX12_locked (ce fw_6293 (ce fw_6295 (ce fw_64 (ce fw_1038 (cn))))) (by decide +kernel)) ggX12_locked_X12_framed
theorem dX12_locked_0 : decode cX12_locked 0 = .ok (.aload_n 0, 1) := by decide +kernel
theorem dX12_locked_1 : decode cX12_locked 1 = .ok (.iload_n 1, 1) := by decide +kernel
theorem dX12_locked_2 : decode cX12_locked 2 = .ok (.invokevirtual 174, 3) := by decide +kernel
theorem dX12_locked_5 : decode cX12_locked 5 = .ok (.ifCond .eq 117, 3) := by decide +kernel
theorem dX12_locked_8 : decode cX12_locked 8 = .ok (.aload_n 0, 1) := by decide +kernel
theorem dX12_locked_9 : decode cX12_locked 9 = .ok (.iload_n 1, 1) := by decide +kernel
theorem dX12_locked_10 : decode cX12_locked 10 = .ok (.invokevirtual 47, 3) := by decide +kernel
theorem dX12_locked_13 : decode cX12_locked 13 = .ok (.iload_n 2, 1) := by decide +kernel
theorem dX12_locked_14 : decode cX12_locked 14 = .ok (.if_icmp .eq 7, 3) := by decide +kernel
theorem dX12_locked_17 : decode cX12_locked 17 = .ok (.iconst 1, 1) := by decide +kernel
theorem dX12_locked_18 : decode cX12_locked 18 = .ok (.goto 4, 3) := by decide +kernel
theorem dX12_locked_21 : decode cX12_locked 21 = .ok (.iconst 0, 1) := by decide +kernel
theorem dX12_locked_22 : decode cX12_locked 22 = .ok (.istore_n 3, 1) := by decide +kernel
theorem dX12_locked_23 : decode cX12_locked 23 = .ok (.aload_n 0, 1) := by decide +kernel
theorem dX12_locked_24 : decode cX12_locked 24 = .ok (.getfield 7, 3) := by decide +kernel
theorem dX12_locked_27 : decode cX12_locked 27 = .ok (.bipush 41, 2) := by decide +kernel
theorem dX12_locked_29 : decode cX12_locked 29 = .ok (.aload_n 0, 1) := by decide +kernel
theorem dX12_locked_30 : decode cX12_locked 30 = .ok (.getfield 7, 3) := by decide +kernel
theorem dX12_locked_33 : decode cX12_locked 33 = .ok (.bipush 41, 2) := by decide +kernel
theorem dX12_locked_35 : decode cX12_locked 35 = .ok (.iaload, 1) := by decide +kernel
theorem dX12_locked_36 : decode cX12_locked 36 = .ok (.iconst 1, 1) := by decide +kernel
theorem dX12_locked_37 : decode cX12_locked 37 = .ok (.ishl, 1) := by decide +kernel
theorem dX12_locked_38 : decode cX12_locked 38 = .ok (.iload_n 3, 1) := by decide +kernel
theorem dX12_locked_39 : decode cX12_locked 39 = .ok (.ifCond .eq 7, 3) := by decide +kernel
theorem dX12_locked_42 : decode cX12_locked 42 = .ok (.iconst 1, 1) := by decide +kernel
theorem dX12_locked_43 : decode cX12_locked 43 = .ok (.goto 4, 3) := by decide +kernel
theorem dX12_locked_46 : decode cX12_locked 46 = .ok (.iconst 0, 1) := by decide +kernel
theorem dX12_locked_47 : decode cX12_locked 47 = .ok (.ior, 1) := by decide +kernel
theorem dX12_locked_48 : decode cX12_locked 48 = .ok (.iconst 1, 1) := by decide +kernel
theorem dX12_locked_49 : decode cX12_locked 49 = .ok (.aload_n 0, 1) := by decide +kernel
theorem dX12_locked_50 : decode cX12_locked 50 = .ok (.getfield 7, 3) := by decide +kernel
theorem dX12_locked_53 : decode cX12_locked 53 = .ok (.bipush 6, 2) := by decide +kernel
theorem dX12_locked_55 : decode cX12_locked 55 = .ok (.iaload, 1) := by decide +kernel
theorem dX12_locked_56 : decode cX12_locked 56 = .ok (.ishl, 1) := by decide +kernel
theorem dX12_locked_57 : decode cX12_locked 57 = .ok (.iconst 1, 1) := by decide +kernel
theorem dX12_locked_58 : decode cX12_locked 58 = .ok (.isub, 1) := by decide +kernel
theorem dX12_locked_59 : decode cX12_locked 59 = .ok (.iand, 1) := by decide +kernel
theorem dX12_locked_60 : decode cX12_locked 60 = .ok (.iastore, 1) := by decide +kernel
theorem dX12_locked_61 : decode cX12_locked 61 = .ok (.aload_n 0, 1) := by decide +kernel
theorem dX12_locked_62 : decode cX12_locked 62 = .ok (.getfield 7, 3) := by decide +kernel
theorem dX12_locked_65 : decode cX12_locked 65 = .ok (.bipush 42, 2) := by decide +kernel
theorem dX12_locked_67 : decode cX12_locked 67 = .ok (.aload_n 0, 1) := by decide +kernel
theorem dX12_locked_68 : decode cX12_locked 68 = .ok (.getfield 7, 3) := by decide +kernel
theorem dX12_locked_71 : decode cX12_locked 71 = .ok (.bipush 6, 2) := by decide +kernel
theorem dX12_locked_73 : decode cX12_locked 73 = .ok (.iaload, 1) := by decide +kernel
theorem dX12_locked_74 : decode cX12_locked 74 = .ok (.aload_n 0, 1) := by decide +kernel
theorem dX12_locked_75 : decode cX12_locked 75 = .ok (.getfield 7, 3) := by decide +kernel
theorem dX12_locked_78 : decode cX12_locked 78 = .ok (.bipush 42, 2) := by decide +kernel
theorem dX12_locked_80 : decode cX12_locked 80 = .ok (.iaload, 1) := by decide +kernel
theorem dX12_locked_81 : decode cX12_locked 81 = .ok (.iconst 1, 1) := by decide +kernel
theorem dX12_locked_82 : decode cX12_locked 82 = .ok (.iadd, 1) := by decide +kernel
theorem dX12_locked_83 : decode cX12_locked 83 = .ok (.invokestatic 103, 3) := by decide +kernel
theorem dX12_locked_86 : decode cX12_locked 86 = .ok (.iastore, 1) := by decide +kernel
theorem dX12_locked_87 : decode cX12_locked 87 = .ok (.aload_n 0, 1) := by decide +kernel
theorem dX12_locked_88 : decode cX12_locked 88 = .ok (.getfield 7, 3) := by decide +kernel
theorem dX12_locked_91 : decode cX12_locked 91 = .ok (.bipush 41, 2) := by decide +kernel
theorem dX12_locked_93 : decode cX12_locked 93 = .ok (.iaload, 1) := by decide +kernel
theorem dX12_locked_94 : decode cX12_locked 94 = .ok (.invokestatic 168, 3) := by decide +kernel
theorem dX12_locked_97 : decode cX12_locked 97 = .ok (.aload_n 0, 1) := by decide +kernel
theorem dX12_locked_98 : decode cX12_locked 98 = .ok (.getfield 7, 3) := by decide +kernel
theorem dX12_locked_101 : decode cX12_locked 101 = .ok (.iconst 5, 1) := by decide +kernel
theorem dX12_locked_102 : decode cX12_locked 102 = .ok (.iaload, 1) := by decide +kernel
theorem dX12_locked_103 : decode cX12_locked 103 = .ok (.if_icmp .lt 19, 3) := by decide +kernel
theorem dX12_locked_106 : decode cX12_locked 106 = .ok (.aload_n 0, 1) := by decide +kernel
theorem dX12_locked_107 : decode cX12_locked 107 = .ok (.getfield 7, 3) := by decide +kernel
theorem dX12_locked_110 : decode cX12_locked 110 = .ok (.bipush 38, 2) := by decide +kernel
theorem dX12_locked_112 : decode cX12_locked 112 = .ok (.dup2, 1) := by decide +kernel
theorem dX12_locked_113 : decode cX12_locked 113 = .ok (.iaload, 1) := by decide +kernel
theorem dX12_locked_114 : decode cX12_locked 114 = .ok (.iconst 1, 1) := by decide +kernel
theorem dX12_locked_115 : decode cX12_locked 115 = .ok (.iadd, 1) := by decide +kernel
theorem dX12_locked_116 : decode cX12_locked 116 = .ok (.iastore, 1) := by decide +kernel
theorem dX12_locked_117 : decode cX12_locked 117 = .ok (.aload_n 0, 1) := by decide +kernel
theorem dX12_locked_118 : decode cX12_locked 118 = .ok (.invokevirtual 165, 3) := by decide +kernel
theorem dX12_locked_121 : decode cX12_locked 121 = .ok (.return_, 1) := by decide +kernel
theorem dX12_locked_122 : decode cX12_locked 122 = .ok (.aload_n 0, 1) := by decide +kernel
theorem dX12_locked_123 : decode cX12_locked 123 = .ok (.getfield 7, 3) := by decide +kernel
theorem dX12_locked_126 : decode cX12_locked 126 = .ok (.bipush 43, 2) := by decide +kernel
theorem dX12_locked_128 : decode cX12_locked 128 = .ok (.dup2, 1) := by decide +kernel
theorem dX12_locked_129 : decode cX12_locked 129 = .ok (.iaload, 1) := by decide +kernel
theorem dX12_locked_130 : decode cX12_locked 130 = .ok (.aload_n 0, 1) := by decide +kernel
theorem dX12_locked_131 : decode cX12_locked 131 = .ok (.iload_n 1, 1) := by decide +kernel
theorem dX12_locked_132 : decode cX12_locked 132 = .ok (.iload_n 2, 1) := by decide +kernel
theorem dX12_locked_133 : decode cX12_locked 133 = .ok (.invokevirtual 192, 3) := by decide +kernel
theorem dX12_locked_136 : decode cX12_locked 136 = .ok (.iconst 3, 1) := by decide +kernel
theorem dX12_locked_137 : decode cX12_locked 137 = .ok (.if_icmp .ne 7, 3) := by decide +kernel
theorem dX12_locked_140 : decode cX12_locked 140 = .ok (.iconst 1, 1) := by decide +kernel
theorem dX12_locked_141 : decode cX12_locked 141 = .ok (.goto 4, 3) := by decide +kernel
theorem dX12_locked_144 : decode cX12_locked 144 = .ok (.iconst 0, 1) := by decide +kernel
theorem dX12_locked_145 : decode cX12_locked 145 = .ok (.iadd, 1) := by decide +kernel
theorem dX12_locked_146 : decode cX12_locked 146 = .ok (.iastore, 1) := by decide +kernel
theorem dX12_locked_147 : decode cX12_locked 147 = .ok (.aload_n 0, 1) := by decide +kernel
theorem dX12_locked_148 : decode cX12_locked 148 = .ok (.iload_n 1, 1) := by decide +kernel
theorem dX12_locked_149 : decode cX12_locked 149 = .ok (.invokevirtual 47, 3) := by decide +kernel
theorem dX12_locked_152 : decode cX12_locked 152 = .ok (.iconst 3, 1) := by decide +kernel
theorem dX12_locked_153 : decode cX12_locked 153 = .ok (.if_icmp .ne 8, 3) := by decide +kernel
theorem dX12_locked_156 : decode cX12_locked 156 = .ok (.aload_n 0, 1) := by decide +kernel
theorem dX12_locked_157 : decode cX12_locked 157 = .ok (.iload_n 2, 1) := by decide +kernel
theorem dX12_locked_158 : decode cX12_locked 158 = .ok (.invokevirtual 198, 3) := by decide +kernel
theorem dX12_locked_161 : decode cX12_locked 161 = .ok (.aload_n 0, 1) := by decide +kernel
theorem dX12_locked_162 : decode cX12_locked 162 = .ok (.iload_n 1, 1) := by decide +kernel
theorem dX12_locked_163 : decode cX12_locked 163 = .ok (.iload_n 2, 1) := by decide +kernel
theorem dX12_locked_164 : decode cX12_locked 164 = .ok (.invokevirtual 201, 3) := by decide +kernel
theorem dX12_locked_167 : decode cX12_locked 167 = .ok (.return_, 1) := by decide +kernel
set_option maxRecDepth 20000 in
theorem ggX12_ticks_X12_signals : GoodIn wsX12_ticks wsX12_signals := gi_e e_wsX12_ticks e_wsX12_signals (by decide +kernel)
set_option maxRecDepth 20000 in
theorem gX12_ticks_X12_signals : GoodIn wsX12_ticks (wsV RX12 205 RX12 yX12_signals wsX12_signals) := goodIn_app (gi_e e_wsX12_ticks (ce fw_6305 (ce fw_6307 (ce fw_67 (ce fw_1038 (cn))))) (by decide +kernel)) ggX12_ticks_X12_signals
theorem dX12_ticks_0 : decode cX12_ticks 0 = .ok (.aload_n 0, 1) := by decide +kernel
theorem dX12_ticks_1 : decode cX12_ticks 1 = .ok (.getfield 7, 3) := by decide +kernel
theorem dX12_ticks_4 : decode cX12_ticks 4 = .ok (.bipush 49, 2) := by decide +kernel
theorem dX12_ticks_6 : decode cX12_ticks 6 = .ok (.dup2, 1) := by decide +kernel
theorem dX12_ticks_7 : decode cX12_ticks 7 = .ok (.iaload, 1) := by decide +kernel
theorem dX12_ticks_8 : decode cX12_ticks 8 = .ok (.sipush 1000, 3) := by decide +kernel
theorem dX12_ticks_11 : decode cX12_ticks 11 = .ok (.aload_n 0, 1) := by decide +kernel
theorem dX12_ticks_12 : decode cX12_ticks 12 = .ok (.getfield 7, 3) := by decide +kernel
theorem dX12_ticks_15 : decode cX12_ticks 15 = .ok (.bipush 7, 2) := by decide +kernel
theorem dX12_ticks_17 : decode cX12_ticks 17 = .ok (.iaload, 1) := by decide +kernel
theorem dX12_ticks_18 : decode cX12_ticks 18 = .ok (.iadd, 1) := by decide +kernel
theorem dX12_ticks_19 : decode cX12_ticks 19 = .ok (.iadd, 1) := by decide +kernel
theorem dX12_ticks_20 : decode cX12_ticks 20 = .ok (.iastore, 1) := by decide +kernel
theorem dX12_ticks_21 : decode cX12_ticks 21 = .ok (.aload_n 0, 1) := by decide +kernel
theorem dX12_ticks_22 : decode cX12_ticks 22 = .ok (.getfield 7, 3) := by decide +kernel
theorem dX12_ticks_25 : decode cX12_ticks 25 = .ok (.bipush 49, 2) := by decide +kernel
theorem dX12_ticks_27 : decode cX12_ticks 27 = .ok (.iaload, 1) := by decide +kernel
theorem dX12_ticks_28 : decode cX12_ticks 28 = .ok (.sipush 1000, 3) := by decide +kernel
theorem dX12_ticks_31 : decode cX12_ticks 31 = .ok (.aload_n 0, 1) := by decide +kernel
theorem dX12_ticks_32 : decode cX12_ticks 32 = .ok (.getfield 7, 3) := by decide +kernel
theorem dX12_ticks_35 : decode cX12_ticks 35 = .ok (.iconst 0, 1) := by decide +kernel
theorem dX12_ticks_36 : decode cX12_ticks 36 = .ok (.iaload, 1) := by decide +kernel
theorem dX12_ticks_37 : decode cX12_ticks 37 = .ok (.imul, 1) := by decide +kernel
theorem dX12_ticks_38 : decode cX12_ticks 38 = .ok (.if_icmp .ge 4, 3) := by decide +kernel
theorem dX12_ticks_41 : decode cX12_ticks 41 = .ok (.return_, 1) := by decide +kernel
theorem dX12_ticks_42 : decode cX12_ticks 42 = .ok (.aload_n 0, 1) := by decide +kernel
theorem dX12_ticks_43 : decode cX12_ticks 43 = .ok (.getfield 7, 3) := by decide +kernel
theorem dX12_ticks_46 : decode cX12_ticks 46 = .ok (.bipush 49, 2) := by decide +kernel
theorem dX12_ticks_48 : decode cX12_ticks 48 = .ok (.dup2, 1) := by decide +kernel
theorem dX12_ticks_49 : decode cX12_ticks 49 = .ok (.iaload, 1) := by decide +kernel
theorem dX12_ticks_50 : decode cX12_ticks 50 = .ok (.sipush 1000, 3) := by decide +kernel
theorem dX12_ticks_53 : decode cX12_ticks 53 = .ok (.aload_n 0, 1) := by decide +kernel
theorem dX12_ticks_54 : decode cX12_ticks 54 = .ok (.getfield 7, 3) := by decide +kernel
theorem dX12_ticks_57 : decode cX12_ticks 57 = .ok (.iconst 0, 1) := by decide +kernel
theorem dX12_ticks_58 : decode cX12_ticks 58 = .ok (.iaload, 1) := by decide +kernel
theorem dX12_ticks_59 : decode cX12_ticks 59 = .ok (.imul, 1) := by decide +kernel
theorem dX12_ticks_60 : decode cX12_ticks 60 = .ok (.isub, 1) := by decide +kernel
theorem dX12_ticks_61 : decode cX12_ticks 61 = .ok (.iastore, 1) := by decide +kernel
theorem dX12_ticks_62 : decode cX12_ticks 62 = .ok (.aload_n 0, 1) := by decide +kernel
theorem dX12_ticks_63 : decode cX12_ticks 63 = .ok (.getfield 7, 3) := by decide +kernel
theorem dX12_ticks_66 : decode cX12_ticks 66 = .ok (.bipush 48, 2) := by decide +kernel
theorem dX12_ticks_68 : decode cX12_ticks 68 = .ok (.iaload, 1) := by decide +kernel
theorem dX12_ticks_69 : decode cX12_ticks 69 = .ok (.ifCond .ne 29, 3) := by decide +kernel
theorem dX12_ticks_72 : decode cX12_ticks 72 = .ok (.aload_n 0, 1) := by decide +kernel
theorem dX12_ticks_73 : decode cX12_ticks 73 = .ok (.getfield 7, 3) := by decide +kernel
theorem dX12_ticks_76 : decode cX12_ticks 76 = .ok (.bipush 47, 2) := by decide +kernel
theorem dX12_ticks_78 : decode cX12_ticks 78 = .ok (.dup2, 1) := by decide +kernel
theorem dX12_ticks_79 : decode cX12_ticks 79 = .ok (.iaload, 1) := by decide +kernel
theorem dX12_ticks_80 : decode cX12_ticks 80 = .ok (.aload_n 0, 1) := by decide +kernel
theorem dX12_ticks_81 : decode cX12_ticks 81 = .ok (.getfield 7, 3) := by decide +kernel
theorem dX12_ticks_84 : decode cX12_ticks 84 = .ok (.bipush 46, 2) := by decide +kernel
theorem dX12_ticks_86 : decode cX12_ticks 86 = .ok (.iaload, 1) := by decide +kernel
theorem dX12_ticks_87 : decode cX12_ticks 87 = .ok (.ifCond .le 7, 3) := by decide +kernel
theorem dX12_ticks_90 : decode cX12_ticks 90 = .ok (.iconst 1, 1) := by decide +kernel
theorem dX12_ticks_91 : decode cX12_ticks 91 = .ok (.goto 4, 3) := by decide +kernel
theorem dX12_ticks_94 : decode cX12_ticks 94 = .ok (.iconst 0, 1) := by decide +kernel
theorem dX12_ticks_95 : decode cX12_ticks 95 = .ok (.iadd, 1) := by decide +kernel
theorem dX12_ticks_96 : decode cX12_ticks 96 = .ok (.iastore, 1) := by decide +kernel
theorem dX12_ticks_97 : decode cX12_ticks 97 = .ok (.return_, 1) := by decide +kernel
theorem dX12_ticks_98 : decode cX12_ticks 98 = .ok (.iconst 0, 1) := by decide +kernel
theorem dX12_ticks_99 : decode cX12_ticks 99 = .ok (.istore_n 1, 1) := by decide +kernel
theorem dX12_ticks_100 : decode cX12_ticks 100 = .ok (.iload_n 1, 1) := by decide +kernel
theorem dX12_ticks_101 : decode cX12_ticks 101 = .ok (.iconst 3, 1) := by decide +kernel
theorem dX12_ticks_102 : decode cX12_ticks 102 = .ok (.if_icmp .ge 45, 3) := by decide +kernel
theorem dX12_ticks_105 : decode cX12_ticks 105 = .ok (.aload_n 0, 1) := by decide +kernel
theorem dX12_ticks_106 : decode cX12_ticks 106 = .ok (.getfield 7, 3) := by decide +kernel
theorem dX12_ticks_109 : decode cX12_ticks 109 = .ok (.bipush 75, 2) := by decide +kernel
theorem dX12_ticks_111 : decode cX12_ticks 111 = .ok (.iload_n 1, 1) := by decide +kernel
theorem dX12_ticks_112 : decode cX12_ticks 112 = .ok (.iadd, 1) := by decide +kernel
theorem dX12_ticks_113 : decode cX12_ticks 113 = .ok (.aload_n 0, 1) := by decide +kernel
theorem dX12_ticks_114 : decode cX12_ticks 114 = .ok (.getfield 7, 3) := by decide +kernel
theorem dX12_ticks_117 : decode cX12_ticks 117 = .ok (.bipush 69, 2) := by decide +kernel
theorem dX12_ticks_119 : decode cX12_ticks 119 = .ok (.iload_n 1, 1) := by decide +kernel
theorem dX12_ticks_120 : decode cX12_ticks 120 = .ok (.iadd, 1) := by decide +kernel
theorem dX12_ticks_121 : decode cX12_ticks 121 = .ok (.iaload, 1) := by decide +kernel
theorem dX12_ticks_122 : decode cX12_ticks 122 = .ok (.iastore, 1) := by decide +kernel
theorem dX12_ticks_123 : decode cX12_ticks 123 = .ok (.aload_n 0, 1) := by decide +kernel
theorem dX12_ticks_124 : decode cX12_ticks 124 = .ok (.getfield 7, 3) := by decide +kernel
theorem dX12_ticks_127 : decode cX12_ticks 127 = .ok (.bipush 69, 2) := by decide +kernel
theorem dX12_ticks_129 : decode cX12_ticks 129 = .ok (.iload_n 1, 1) := by decide +kernel
theorem dX12_ticks_130 : decode cX12_ticks 130 = .ok (.iadd, 1) := by decide +kernel
theorem dX12_ticks_131 : decode cX12_ticks 131 = .ok (.aload_n 0, 1) := by decide +kernel
theorem dX12_ticks_132 : decode cX12_ticks 132 = .ok (.getfield 7, 3) := by decide +kernel
theorem dX12_ticks_135 : decode cX12_ticks 135 = .ok (.bipush 72, 2) := by decide +kernel
theorem dX12_ticks_137 : decode cX12_ticks 137 = .ok (.iload_n 1, 1) := by decide +kernel
theorem dX12_ticks_138 : decode cX12_ticks 138 = .ok (.iadd, 1) := by decide +kernel
theorem dX12_ticks_139 : decode cX12_ticks 139 = .ok (.iaload, 1) := by decide +kernel
theorem dX12_ticks_140 : decode cX12_ticks 140 = .ok (.iastore, 1) := by decide +kernel
theorem dX12_ticks_141 : decode cX12_ticks 141 = .ok (.iinc 1 1, 3) := by decide +kernel
theorem dX12_ticks_144 : decode cX12_ticks 144 = .ok (.goto (-44), 3) := by decide +kernel
theorem dX12_ticks_147 : decode cX12_ticks 147 = .ok (.aload_n 0, 1) := by decide +kernel
theorem dX12_ticks_148 : decode cX12_ticks 148 = .ok (.getfield 7, 3) := by decide +kernel
theorem dX12_ticks_151 : decode cX12_ticks 151 = .ok (.bipush 48, 2) := by decide +kernel
theorem dX12_ticks_153 : decode cX12_ticks 153 = .ok (.dup2, 1) := by decide +kernel
theorem dX12_ticks_154 : decode cX12_ticks 154 = .ok (.iaload, 1) := by decide +kernel
theorem dX12_ticks_155 : decode cX12_ticks 155 = .ok (.iconst 1, 1) := by decide +kernel
theorem dX12_ticks_156 : decode cX12_ticks 156 = .ok (.isub, 1) := by decide +kernel
theorem dX12_ticks_157 : decode cX12_ticks 157 = .ok (.iastore, 1) := by decide +kernel
theorem dX12_ticks_158 : decode cX12_ticks 158 = .ok (.aload_n 0, 1) := by decide +kernel
theorem dX12_ticks_159 : decode cX12_ticks 159 = .ok (.getfield 7, 3) := by decide +kernel
theorem dX12_ticks_162 : decode cX12_ticks 162 = .ok (.bipush 46, 2) := by decide +kernel
theorem dX12_ticks_164 : decode cX12_ticks 164 = .ok (.dup2, 1) := by decide +kernel
theorem dX12_ticks_165 : decode cX12_ticks 165 = .ok (.iaload, 1) := by decide +kernel
theorem dX12_ticks_166 : decode cX12_ticks 166 = .ok (.iconst 1, 1) := by decide +kernel
theorem dX12_ticks_167 : decode cX12_ticks 167 = .ok (.iadd, 1) := by decide +kernel
theorem dX12_ticks_168 : decode cX12_ticks 168 = .ok (.iastore, 1) := by decide +kernel
theorem dX12_ticks_169 : decode cX12_ticks 169 = .ok (.aload_n 0, 1) := by decide +kernel
theorem dX12_ticks_170 : decode cX12_ticks 170 = .ok (.invokevirtual 205, 3) := by decide +kernel
theorem dX12_ticks_173 : decode cX12_ticks 173 = .ok (.return_, 1) := by decide +kernel
theorem dX12_bitOf_0 : decode cX12_bitOf 0 = .ok (.iload_n 1, 1) := by decide +kernel
theorem dX12_bitOf_1 : decode cX12_bitOf 1 = .ok (.aload_n 0, 1) := by decide +kernel
theorem dX12_bitOf_2 : decode cX12_bitOf 2 = .ok (.getfield 7, 3) := by decide +kernel
theorem dX12_bitOf_5 : decode cX12_bitOf 5 = .ok (.iconst 0, 1) := by decide +kernel
theorem dX12_bitOf_6 : decode cX12_bitOf 6 = .ok (.iaload, 1) := by decide +kernel
theorem dX12_bitOf_7 : decode cX12_bitOf 7 = .ok (.iconst 1, 1) := by decide +kernel
theorem dX12_bitOf_8 : decode cX12_bitOf 8 = .ok (.isub, 1) := by decide +kernel
theorem dX12_bitOf_9 : decode cX12_bitOf 9 = .ok (.iload_n 2, 1) := by decide +kernel
theorem dX12_bitOf_10 : decode cX12_bitOf 10 = .ok (.isub, 1) := by decide +kernel
theorem dX12_bitOf_11 : decode cX12_bitOf 11 = .ok (.ishr, 1) := by decide +kernel
theorem dX12_bitOf_12 : decode cX12_bitOf 12 = .ok (.iconst 1, 1) := by decide +kernel
theorem dX12_bitOf_13 : decode cX12_bitOf 13 = .ok (.iand, 1) := by decide +kernel
theorem dX12_bitOf_14 : decode cX12_bitOf 14 = .ok (.ireturn, 1) := by decide +kernel
set_option maxRecDepth 20000 in
theorem ggX12_signals_X12_channels : GoodIn wsX12_signals wsX12_channels := gi_e e_wsX12_signals e_wsX12_channels (by decide +kernel)
set_option maxRecDepth 20000 in
theorem gX12_signals_X12_channels : GoodIn wsX12_signals (wsV RX12 208 RX12 yX12_channels wsX12_channels) := goodIn_app (gi_e e_wsX12_signals (ce fw_6309 (ce fw_6311 (ce fw_68 (ce fw_1038 (cn))))) (by decide +kernel)) ggX12_signals_X12_channels
set_option maxRecDepth 20000 in
theorem ggX12_signals_X12_bitOf : GoodIn wsX12_signals wsX12_bitOf := gi_e e_wsX12_signals e_wsX12_bitOf (by decide +kernel)
set_option maxRecDepth 20000 in
theorem gX12_signals_X12_bitOf : GoodIn wsX12_signals (wsV RX12 211 RX12 yX12_bitOf wsX12_bitOf) := goodIn_app (gi_e e_wsX12_signals (ce fw_6313 (ce fw_6315 (ce fw_69 (ce fw_1038 (cn))))) (by decide +kernel)) ggX12_signals_X12_bitOf
set_option maxRecDepth 20000 in
theorem ggX12_signals_X12_lesser : GoodIn wsX12_signals wsX12_lesser := gi_e e_wsX12_signals e_wsX12_lesser (by decide +kernel)
set_option maxRecDepth 20000 in
theorem gX12_signals_X12_lesser : GoodIn wsX12_signals (va_wsS RX12 103 yX12_lesser wsX12_lesser) := goodIn_app (gi_e e_wsX12_signals (ce fw_6150 (ce fw_6151 (ce fw_1038 (cn)))) (by decide +kernel)) ggX12_signals_X12_lesser
theorem dX12_signals_0 : decode cX12_signals 0 = .ok (.aload_n 0, 1) := by decide +kernel
theorem dX12_signals_1 : decode cX12_signals 1 = .ok (.getfield 7, 3) := by decide +kernel
theorem dX12_signals_4 : decode cX12_signals 4 = .ok (.iconst 3, 1) := by decide +kernel
theorem dX12_signals_5 : decode cX12_signals 5 = .ok (.iaload, 1) := by decide +kernel
theorem dX12_signals_6 : decode cX12_signals 6 = .ok (.ifCond .eq 22, 3) := by decide +kernel
theorem dX12_signals_9 : decode cX12_signals 9 = .ok (.aload_n 0, 1) := by decide +kernel
theorem dX12_signals_10 : decode cX12_signals 10 = .ok (.getfield 7, 3) := by decide +kernel
theorem dX12_signals_13 : decode cX12_signals 13 = .ok (.bipush 77, 2) := by decide +kernel
theorem dX12_signals_15 : decode cX12_signals 15 = .ok (.iaload, 1) := by decide +kernel
theorem dX12_signals_16 : decode cX12_signals 16 = .ok (.iconst 1, 1) := by decide +kernel
theorem dX12_signals_17 : decode cX12_signals 17 = .ok (.iadd, 1) := by decide +kernel
theorem dX12_signals_18 : decode cX12_signals 18 = .ok (.aload_n 0, 1) := by decide +kernel
theorem dX12_signals_19 : decode cX12_signals 19 = .ok (.getfield 7, 3) := by decide +kernel
theorem dX12_signals_22 : decode cX12_signals 22 = .ok (.iconst 3, 1) := by decide +kernel
theorem dX12_signals_23 : decode cX12_signals 23 = .ok (.iaload, 1) := by decide +kernel
theorem dX12_signals_24 : decode cX12_signals 24 = .ok (.irem, 1) := by decide +kernel
theorem dX12_signals_25 : decode cX12_signals 25 = .ok (.ifCond .eq 4, 3) := by decide +kernel
theorem dX12_signals_28 : decode cX12_signals 28 = .ok (.return_, 1) := by decide +kernel
theorem dX12_signals_29 : decode cX12_signals 29 = .ok (.iconst 0, 1) := by decide +kernel
theorem dX12_signals_30 : decode cX12_signals 30 = .ok (.istore_n 1, 1) := by decide +kernel
theorem dX12_signals_31 : decode cX12_signals 31 = .ok (.iload_n 1, 1) := by decide +kernel
theorem dX12_signals_32 : decode cX12_signals 32 = .ok (.aload_n 0, 1) := by decide +kernel
theorem dX12_signals_33 : decode cX12_signals 33 = .ok (.invokevirtual 208, 3) := by decide +kernel
theorem dX12_signals_36 : decode cX12_signals 36 = .ok (.if_icmp .ge 77, 3) := by decide +kernel
theorem dX12_signals_39 : decode cX12_signals 39 = .ok (.bipush 78, 2) := by decide +kernel
theorem dX12_signals_41 : decode cX12_signals 41 = .ok (.iconst 2, 1) := by decide +kernel
theorem dX12_signals_42 : decode cX12_signals 42 = .ok (.iload_n 1, 1) := by decide +kernel
theorem dX12_signals_43 : decode cX12_signals 43 = .ok (.imul, 1) := by decide +kernel
theorem dX12_signals_44 : decode cX12_signals 44 = .ok (.iadd, 1) := by decide +kernel
theorem dX12_signals_45 : decode cX12_signals 45 = .ok (.istore_n 2, 1) := by decide +kernel
theorem dX12_signals_46 : decode cX12_signals 46 = .ok (.aload_n 0, 1) := by decide +kernel
theorem dX12_signals_47 : decode cX12_signals 47 = .ok (.getfield 7, 3) := by decide +kernel
theorem dX12_signals_50 : decode cX12_signals 50 = .ok (.iload_n 2, 1) := by decide +kernel
theorem dX12_signals_51 : decode cX12_signals 51 = .ok (.aload_n 0, 1) := by decide +kernel
theorem dX12_signals_52 : decode cX12_signals 52 = .ok (.getfield 7, 3) := by decide +kernel
theorem dX12_signals_55 : decode cX12_signals 55 = .ok (.iload_n 2, 1) := by decide +kernel
theorem dX12_signals_56 : decode cX12_signals 56 = .ok (.iaload, 1) := by decide +kernel
theorem dX12_signals_57 : decode cX12_signals 57 = .ok (.iconst 1, 1) := by decide +kernel
theorem dX12_signals_58 : decode cX12_signals 58 = .ok (.ishl, 1) := by decide +kernel
theorem dX12_signals_59 : decode cX12_signals 59 = .ok (.aload_n 0, 1) := by decide +kernel
theorem dX12_signals_60 : decode cX12_signals 60 = .ok (.aload_n 0, 1) := by decide +kernel
theorem dX12_signals_61 : decode cX12_signals 61 = .ok (.getfield 7, 3) := by decide +kernel
theorem dX12_signals_64 : decode cX12_signals 64 = .ok (.bipush 75, 2) := by decide +kernel
theorem dX12_signals_66 : decode cX12_signals 66 = .ok (.iaload, 1) := by decide +kernel
theorem dX12_signals_67 : decode cX12_signals 67 = .ok (.iload_n 1, 1) := by decide +kernel
theorem dX12_signals_68 : decode cX12_signals 68 = .ok (.iconst 1, 1) := by decide +kernel
theorem dX12_signals_69 : decode cX12_signals 69 = .ok (.iadd, 1) := by decide +kernel
theorem dX12_signals_70 : decode cX12_signals 70 = .ok (.aload_n 0, 1) := by decide +kernel
theorem dX12_signals_71 : decode cX12_signals 71 = .ok (.getfield 7, 3) := by decide +kernel
theorem dX12_signals_74 : decode cX12_signals 74 = .ok (.iconst 2, 1) := by decide +kernel
theorem dX12_signals_75 : decode cX12_signals 75 = .ok (.iaload, 1) := by decide +kernel
theorem dX12_signals_76 : decode cX12_signals 76 = .ok (.imul, 1) := by decide +kernel
theorem dX12_signals_77 : decode cX12_signals 77 = .ok (.invokevirtual 211, 3) := by decide +kernel
theorem dX12_signals_80 : decode cX12_signals 80 = .ok (.ior, 1) := by decide +kernel
theorem dX12_signals_81 : decode cX12_signals 81 = .ok (.bipush 7, 2) := by decide +kernel
theorem dX12_signals_83 : decode cX12_signals 83 = .ok (.iand, 1) := by decide +kernel
theorem dX12_signals_84 : decode cX12_signals 84 = .ok (.iastore, 1) := by decide +kernel
theorem dX12_signals_85 : decode cX12_signals 85 = .ok (.aload_n 0, 1) := by decide +kernel
theorem dX12_signals_86 : decode cX12_signals 86 = .ok (.getfield 7, 3) := by decide +kernel
theorem dX12_signals_89 : decode cX12_signals 89 = .ok (.iload_n 2, 1) := by decide +kernel
theorem dX12_signals_90 : decode cX12_signals 90 = .ok (.iconst 1, 1) := by decide +kernel
theorem dX12_signals_91 : decode cX12_signals 91 = .ok (.iadd, 1) := by decide +kernel
theorem dX12_signals_92 : decode cX12_signals 92 = .ok (.iconst 3, 1) := by decide +kernel
theorem dX12_signals_93 : decode cX12_signals 93 = .ok (.aload_n 0, 1) := by decide +kernel
theorem dX12_signals_94 : decode cX12_signals 94 = .ok (.getfield 7, 3) := by decide +kernel
theorem dX12_signals_97 : decode cX12_signals 97 = .ok (.iload_n 2, 1) := by decide +kernel
theorem dX12_signals_98 : decode cX12_signals 98 = .ok (.iconst 1, 1) := by decide +kernel
theorem dX12_signals_99 : decode cX12_signals 99 = .ok (.iadd, 1) := by decide +kernel
theorem dX12_signals_100 : decode cX12_signals 100 = .ok (.iaload, 1) := by decide +kernel
theorem dX12_signals_101 : decode cX12_signals 101 = .ok (.iconst 1, 1) := by decide +kernel
theorem dX12_signals_102 : decode cX12_signals 102 = .ok (.iadd, 1) := by decide +kernel
theorem dX12_signals_103 : decode cX12_signals 103 = .ok (.invokestatic 103, 3) := by decide +kernel
theorem dX12_signals_106 : decode cX12_signals 106 = .ok (.iastore, 1) := by decide +kernel
theorem dX12_signals_107 : decode cX12_signals 107 = .ok (.iinc 1 1, 3) := by decide +kernel
theorem dX12_signals_110 : decode cX12_signals 110 = .ok (.goto (-79), 3) := by decide +kernel
theorem dX12_signals_113 : decode cX12_signals 113 = .ok (.return_, 1) := by decide +kernel
set_option maxRecDepth 20000 in
theorem ggX12_hears_X12_hunted : GoodIn wsX12_hears wsX12_hunted := gi_e e_wsX12_hears e_wsX12_hunted (by decide +kernel)
set_option maxRecDepth 20000 in
theorem gX12_hears_X12_hunted : GoodIn wsX12_hears (wsV RX12 214 RX12 yX12_hunted wsX12_hunted) := goodIn_app (gi_e e_wsX12_hears (ce fw_6242 (ce fw_6244 (ce fw_52 (ce fw_1038 (cn))))) (by decide +kernel)) ggX12_hears_X12_hunted
set_option maxRecDepth 20000 in
theorem ggX12_hears_X12_round : GoodIn wsX12_hears wsX12_round := gi_e e_wsX12_hears e_wsX12_round (by decide +kernel)
set_option maxRecDepth 20000 in
theorem gX12_hears_X12_round : GoodIn wsX12_hears (wsV RX12 142 RX12 yX12_round wsX12_round) := goodIn_app (gi_e e_wsX12_hears (ce fw_5259 (ce fw_5261 (ce fw_32 (ce fw_1038 (cn))))) (by decide +kernel)) ggX12_hears_X12_round
set_option maxRecDepth 20000 in
theorem ggX12_hears_X12_verified : GoodIn wsX12_hears wsX12_verified := gi_e e_wsX12_hears e_wsX12_verified (by decide +kernel)
set_option maxRecDepth 20000 in
theorem gX12_hears_X12_verified : GoodIn wsX12_hears (wsV RX12 217 RX12 yX12_verified wsX12_verified) := goodIn_app (gi_e e_wsX12_hears (ce fw_6277 (ce fw_6279 (ce fw_60 (ce fw_1038 (cn))))) (by decide +kernel)) ggX12_hears_X12_verified
set_option maxRecDepth 20000 in
theorem ggX12_hears_X12_locked : GoodIn wsX12_hears wsX12_locked := gi_e e_wsX12_hears e_wsX12_locked (by decide +kernel)
set_option maxRecDepth 20000 in
theorem gX12_hears_X12_locked : GoodIn wsX12_hears (wsV RX12 220 RX12 yX12_locked wsX12_locked) := goodIn_app (gi_e e_wsX12_hears (ce fw_6285 (ce fw_6287 (ce fw_62 (ce fw_1038 (cn))))) (by decide +kernel)) ggX12_hears_X12_locked
set_option maxRecDepth 20000 in
theorem ggX12_hears_X12_ticks : GoodIn wsX12_hears wsX12_ticks := gi_e e_wsX12_hears e_wsX12_ticks (by decide +kernel)
set_option maxRecDepth 20000 in
theorem gX12_hears_X12_ticks : GoodIn wsX12_hears (wsV RX12 223 RX12 yX12_ticks wsX12_ticks) := goodIn_app (gi_e e_wsX12_hears (ce fw_6301 (ce fw_6303 (ce fw_66 (ce fw_1038 (cn))))) (by decide +kernel)) ggX12_hears_X12_ticks
theorem dX12_hears_0 : decode cX12_hears 0 = .ok (.aload_n 0, 1) := by decide +kernel
theorem dX12_hears_1 : decode cX12_hears 1 = .ok (.getfield 7, 3) := by decide +kernel
theorem dX12_hears_4 : decode cX12_hears 4 = .ok (.bipush 34, 2) := by decide +kernel
theorem dX12_hears_6 : decode cX12_hears 6 = .ok (.iaload, 1) := by decide +kernel
theorem dX12_hears_7 : decode cX12_hears 7 = .ok (.ifCond .ne 11, 3) := by decide +kernel
theorem dX12_hears_10 : decode cX12_hears 10 = .ok (.aload_n 0, 1) := by decide +kernel
theorem dX12_hears_11 : decode cX12_hears 11 = .ok (.iload_n 1, 1) := by decide +kernel
theorem dX12_hears_12 : decode cX12_hears 12 = .ok (.invokevirtual 214, 3) := by decide +kernel
theorem dX12_hears_15 : decode cX12_hears 15 = .ok (.goto 63, 3) := by decide +kernel
theorem dX12_hears_18 : decode cX12_hears 18 = .ok (.aload_n 0, 1) := by decide +kernel
theorem dX12_hears_19 : decode cX12_hears 19 = .ok (.getfield 7, 3) := by decide +kernel
theorem dX12_hears_22 : decode cX12_hears 22 = .ok (.bipush 39, 2) := by decide +kernel
theorem dX12_hears_24 : decode cX12_hears 24 = .ok (.iaload, 1) := by decide +kernel
theorem dX12_hears_25 : decode cX12_hears 25 = .ok (.istore_n 2, 1) := by decide +kernel
theorem dX12_hears_26 : decode cX12_hears 26 = .ok (.aload_n 0, 1) := by decide +kernel
theorem dX12_hears_27 : decode cX12_hears 27 = .ok (.getfield 7, 3) := by decide +kernel
theorem dX12_hears_30 : decode cX12_hears 30 = .ok (.bipush 39, 2) := by decide +kernel
theorem dX12_hears_32 : decode cX12_hears 32 = .ok (.iload_n 2, 1) := by decide +kernel
theorem dX12_hears_33 : decode cX12_hears 33 = .ok (.iconst 1, 1) := by decide +kernel
theorem dX12_hears_34 : decode cX12_hears 34 = .ok (.iadd, 1) := by decide +kernel
theorem dX12_hears_35 : decode cX12_hears 35 = .ok (.aload_n 0, 1) := by decide +kernel
theorem dX12_hears_36 : decode cX12_hears 36 = .ok (.invokevirtual 142, 3) := by decide +kernel
theorem dX12_hears_39 : decode cX12_hears 39 = .ok (.irem, 1) := by decide +kernel
theorem dX12_hears_40 : decode cX12_hears 40 = .ok (.iastore, 1) := by decide +kernel
theorem dX12_hears_41 : decode cX12_hears 41 = .ok (.aload_n 0, 1) := by decide +kernel
theorem dX12_hears_42 : decode cX12_hears 42 = .ok (.getfield 7, 3) := by decide +kernel
theorem dX12_hears_45 : decode cX12_hears 45 = .ok (.bipush 40, 2) := by decide +kernel
theorem dX12_hears_47 : decode cX12_hears 47 = .ok (.dup2, 1) := by decide +kernel
theorem dX12_hears_48 : decode cX12_hears 48 = .ok (.iaload, 1) := by decide +kernel
theorem dX12_hears_49 : decode cX12_hears 49 = .ok (.iconst 1, 1) := by decide +kernel
theorem dX12_hears_50 : decode cX12_hears 50 = .ok (.iadd, 1) := by decide +kernel
theorem dX12_hears_51 : decode cX12_hears 51 = .ok (.iastore, 1) := by decide +kernel
theorem dX12_hears_52 : decode cX12_hears 52 = .ok (.aload_n 0, 1) := by decide +kernel
theorem dX12_hears_53 : decode cX12_hears 53 = .ok (.getfield 7, 3) := by decide +kernel
theorem dX12_hears_56 : decode cX12_hears 56 = .ok (.bipush 34, 2) := by decide +kernel
theorem dX12_hears_58 : decode cX12_hears 58 = .ok (.iaload, 1) := by decide +kernel
theorem dX12_hears_59 : decode cX12_hears 59 = .ok (.iconst 1, 1) := by decide +kernel
theorem dX12_hears_60 : decode cX12_hears 60 = .ok (.if_icmp .ne 12, 3) := by decide +kernel
theorem dX12_hears_63 : decode cX12_hears 63 = .ok (.aload_n 0, 1) := by decide +kernel
theorem dX12_hears_64 : decode cX12_hears 64 = .ok (.iload_n 2, 1) := by decide +kernel
theorem dX12_hears_65 : decode cX12_hears 65 = .ok (.iload_n 1, 1) := by decide +kernel
theorem dX12_hears_66 : decode cX12_hears 66 = .ok (.invokevirtual 217, 3) := by decide +kernel
theorem dX12_hears_69 : decode cX12_hears 69 = .ok (.goto 9, 3) := by decide +kernel
theorem dX12_hears_72 : decode cX12_hears 72 = .ok (.aload_n 0, 1) := by decide +kernel
theorem dX12_hears_73 : decode cX12_hears 73 = .ok (.iload_n 2, 1) := by decide +kernel
theorem dX12_hears_74 : decode cX12_hears 74 = .ok (.iload_n 1, 1) := by decide +kernel
theorem dX12_hears_75 : decode cX12_hears 75 = .ok (.invokevirtual 220, 3) := by decide +kernel
theorem dX12_hears_78 : decode cX12_hears 78 = .ok (.aload_n 0, 1) := by decide +kernel
theorem dX12_hears_79 : decode cX12_hears 79 = .ok (.invokevirtual 223, 3) := by decide +kernel
theorem dX12_hears_82 : decode cX12_hears 82 = .ok (.return_, 1) := by decide +kernel
theorem dX12_keeps_0 : decode cX12_keeps 0 = .ok (.aload_n 0, 1) := by decide +kernel
theorem dX12_keeps_1 : decode cX12_keeps 1 = .ok (.getfield 137, 3) := by decide +kernel
theorem dX12_keeps_4 : decode cX12_keeps 4 = .ok (.bipush 6, 2) := by decide +kernel
theorem dX12_keeps_6 : decode cX12_keeps 6 = .ok (.if_icmp .ne 75, 3) := by decide +kernel
theorem dX12_keeps_9 : decode cX12_keeps 9 = .ok (.iconst 0, 1) := by decide +kernel
theorem dX12_keeps_10 : decode cX12_keeps 10 = .ok (.istore_n 1, 1) := by decide +kernel
theorem dX12_keeps_11 : decode cX12_keeps 11 = .ok (.iload_n 1, 1) := by decide +kernel
theorem dX12_keeps_12 : decode cX12_keeps 12 = .ok (.sipush 665, 3) := by decide +kernel
theorem dX12_keeps_15 : decode cX12_keeps 15 = .ok (.if_icmp .ge 25, 3) := by decide +kernel
theorem dX12_keeps_18 : decode cX12_keeps 18 = .ok (.aload_n 0, 1) := by decide +kernel
theorem dX12_keeps_19 : decode cX12_keeps 19 = .ok (.getfield 24, 3) := by decide +kernel
theorem dX12_keeps_22 : decode cX12_keeps 22 = .ok (.iload_n 1, 1) := by decide +kernel
theorem dX12_keeps_23 : decode cX12_keeps 23 = .ok (.aload_n 0, 1) := by decide +kernel
theorem dX12_keeps_24 : decode cX12_keeps 24 = .ok (.getfield 24, 3) := by decide +kernel
theorem dX12_keeps_27 : decode cX12_keeps 27 = .ok (.iload_n 1, 1) := by decide +kernel
theorem dX12_keeps_28 : decode cX12_keeps 28 = .ok (.sipush 133, 3) := by decide +kernel
theorem dX12_keeps_31 : decode cX12_keeps 31 = .ok (.iadd, 1) := by decide +kernel
theorem dX12_keeps_32 : decode cX12_keeps 32 = .ok (.iaload, 1) := by decide +kernel
theorem dX12_keeps_33 : decode cX12_keeps 33 = .ok (.iastore, 1) := by decide +kernel
theorem dX12_keeps_34 : decode cX12_keeps 34 = .ok (.iinc 1 1, 3) := by decide +kernel
theorem dX12_keeps_37 : decode cX12_keeps 37 = .ok (.goto (-26), 3) := by decide +kernel
theorem dX12_keeps_40 : decode cX12_keeps 40 = .ok (.iconst 0, 1) := by decide +kernel
theorem dX12_keeps_41 : decode cX12_keeps 41 = .ok (.istore_n 1, 1) := by decide +kernel
theorem dX12_keeps_42 : decode cX12_keeps 42 = .ok (.iload_n 1, 1) := by decide +kernel
theorem dX12_keeps_43 : decode cX12_keeps 43 = .ok (.sipush 20000, 3) := by decide +kernel
theorem dX12_keeps_46 : decode cX12_keeps 46 = .ok (.if_icmp .ge 25, 3) := by decide +kernel
theorem dX12_keeps_49 : decode cX12_keeps 49 = .ok (.aload_n 0, 1) := by decide +kernel
theorem dX12_keeps_50 : decode cX12_keeps 50 = .ok (.getfield 27, 3) := by decide +kernel
theorem dX12_keeps_53 : decode cX12_keeps 53 = .ok (.iload_n 1, 1) := by decide +kernel
theorem dX12_keeps_54 : decode cX12_keeps 54 = .ok (.aload_n 0, 1) := by decide +kernel
theorem dX12_keeps_55 : decode cX12_keeps 55 = .ok (.getfield 27, 3) := by decide +kernel
theorem dX12_keeps_58 : decode cX12_keeps 58 = .ok (.iload_n 1, 1) := by decide +kernel
theorem dX12_keeps_59 : decode cX12_keeps 59 = .ok (.sipush 4000, 3) := by decide +kernel
theorem dX12_keeps_62 : decode cX12_keeps 62 = .ok (.iadd, 1) := by decide +kernel
theorem dX12_keeps_63 : decode cX12_keeps 63 = .ok (.baload, 1) := by decide +kernel
theorem dX12_keeps_64 : decode cX12_keeps 64 = .ok (.bastore, 1) := by decide +kernel
theorem dX12_keeps_65 : decode cX12_keeps 65 = .ok (.iinc 1 1, 3) := by decide +kernel
theorem dX12_keeps_68 : decode cX12_keeps 68 = .ok (.goto (-26), 3) := by decide +kernel
theorem dX12_keeps_71 : decode cX12_keeps 71 = .ok (.aload_n 0, 1) := by decide +kernel
theorem dX12_keeps_72 : decode cX12_keeps 72 = .ok (.dup, 1) := by decide +kernel
theorem dX12_keeps_73 : decode cX12_keeps 73 = .ok (.getfield 137, 3) := by decide +kernel
theorem dX12_keeps_76 : decode cX12_keeps 76 = .ok (.iconst 1, 1) := by decide +kernel
theorem dX12_keeps_77 : decode cX12_keeps 77 = .ok (.isub, 1) := by decide +kernel
theorem dX12_keeps_78 : decode cX12_keeps 78 = .ok (.putfield 137, 3) := by decide +kernel
theorem dX12_keeps_81 : decode cX12_keeps 81 = .ok (.iconst 0, 1) := by decide +kernel
theorem dX12_keeps_82 : decode cX12_keeps 82 = .ok (.istore_n 1, 1) := by decide +kernel
theorem dX12_keeps_83 : decode cX12_keeps 83 = .ok (.iload_n 1, 1) := by decide +kernel
theorem dX12_keeps_84 : decode cX12_keeps 84 = .ok (.sipush 133, 3) := by decide +kernel
theorem dX12_keeps_87 : decode cX12_keeps 87 = .ok (.if_icmp .ge 30, 3) := by decide +kernel
theorem dX12_keeps_90 : decode cX12_keeps 90 = .ok (.aload_n 0, 1) := by decide +kernel
theorem dX12_keeps_91 : decode cX12_keeps 91 = .ok (.getfield 24, 3) := by decide +kernel
theorem dX12_keeps_94 : decode cX12_keeps 94 = .ok (.sipush 133, 3) := by decide +kernel
theorem dX12_keeps_97 : decode cX12_keeps 97 = .ok (.aload_n 0, 1) := by decide +kernel
theorem dX12_keeps_98 : decode cX12_keeps 98 = .ok (.getfield 137, 3) := by decide +kernel
theorem dX12_keeps_101 : decode cX12_keeps 101 = .ok (.imul, 1) := by decide +kernel
theorem dX12_keeps_102 : decode cX12_keeps 102 = .ok (.iload_n 1, 1) := by decide +kernel
theorem dX12_keeps_103 : decode cX12_keeps 103 = .ok (.iadd, 1) := by decide +kernel
theorem dX12_keeps_104 : decode cX12_keeps 104 = .ok (.aload_n 0, 1) := by decide +kernel
theorem dX12_keeps_105 : decode cX12_keeps 105 = .ok (.getfield 7, 3) := by decide +kernel
theorem dX12_keeps_108 : decode cX12_keeps 108 = .ok (.iload_n 1, 1) := by decide +kernel
theorem dX12_keeps_109 : decode cX12_keeps 109 = .ok (.iaload, 1) := by decide +kernel
theorem dX12_keeps_110 : decode cX12_keeps 110 = .ok (.iastore, 1) := by decide +kernel
theorem dX12_keeps_111 : decode cX12_keeps 111 = .ok (.iinc 1 1, 3) := by decide +kernel
theorem dX12_keeps_114 : decode cX12_keeps 114 = .ok (.goto (-31), 3) := by decide +kernel
theorem dX12_keeps_117 : decode cX12_keeps 117 = .ok (.iconst 0, 1) := by decide +kernel
theorem dX12_keeps_118 : decode cX12_keeps 118 = .ok (.istore_n 1, 1) := by decide +kernel
theorem dX12_keeps_119 : decode cX12_keeps 119 = .ok (.iload_n 1, 1) := by decide +kernel
theorem dX12_keeps_120 : decode cX12_keeps 120 = .ok (.sipush 4000, 3) := by decide +kernel
theorem dX12_keeps_123 : decode cX12_keeps 123 = .ok (.if_icmp .ge 30, 3) := by decide +kernel
theorem dX12_keeps_126 : decode cX12_keeps 126 = .ok (.aload_n 0, 1) := by decide +kernel
theorem dX12_keeps_127 : decode cX12_keeps 127 = .ok (.getfield 27, 3) := by decide +kernel
theorem dX12_keeps_130 : decode cX12_keeps 130 = .ok (.sipush 4000, 3) := by decide +kernel
theorem dX12_keeps_133 : decode cX12_keeps 133 = .ok (.aload_n 0, 1) := by decide +kernel
theorem dX12_keeps_134 : decode cX12_keeps 134 = .ok (.getfield 137, 3) := by decide +kernel
theorem dX12_keeps_137 : decode cX12_keeps 137 = .ok (.imul, 1) := by decide +kernel
theorem dX12_keeps_138 : decode cX12_keeps 138 = .ok (.iload_n 1, 1) := by decide +kernel
theorem dX12_keeps_139 : decode cX12_keeps 139 = .ok (.iadd, 1) := by decide +kernel
theorem dX12_keeps_140 : decode cX12_keeps 140 = .ok (.aload_n 0, 1) := by decide +kernel
theorem dX12_keeps_141 : decode cX12_keeps 141 = .ok (.getfield 13, 3) := by decide +kernel
theorem dX12_keeps_144 : decode cX12_keeps 144 = .ok (.iload_n 1, 1) := by decide +kernel
theorem dX12_keeps_145 : decode cX12_keeps 145 = .ok (.baload, 1) := by decide +kernel
theorem dX12_keeps_146 : decode cX12_keeps 146 = .ok (.bastore, 1) := by decide +kernel
theorem dX12_keeps_147 : decode cX12_keeps 147 = .ok (.iinc 1 1, 3) := by decide +kernel
theorem dX12_keeps_150 : decode cX12_keeps 150 = .ok (.goto (-31), 3) := by decide +kernel
theorem dX12_keeps_153 : decode cX12_keeps 153 = .ok (.aload_n 0, 1) := by decide +kernel
theorem dX12_keeps_154 : decode cX12_keeps 154 = .ok (.dup, 1) := by decide +kernel
theorem dX12_keeps_155 : decode cX12_keeps 155 = .ok (.getfield 137, 3) := by decide +kernel
theorem dX12_keeps_158 : decode cX12_keeps 158 = .ok (.iconst 1, 1) := by decide +kernel
theorem dX12_keeps_159 : decode cX12_keeps 159 = .ok (.iadd, 1) := by decide +kernel
theorem dX12_keeps_160 : decode cX12_keeps 160 = .ok (.putfield 137, 3) := by decide +kernel
theorem dX12_keeps_163 : decode cX12_keeps 163 = .ok (.return_, 1) := by decide +kernel
set_option maxRecDepth 20000 in
theorem ggX12_say_X12_in : GoodIn wsX12_say wsX12_in := gi_e e_wsX12_say e_wsX12_in (by decide +kernel)
set_option maxRecDepth 20000 in
theorem gX12_say_X12_in : GoodIn wsX12_say (va_wsS RX12 72 yX12_in wsX12_in) := goodIn_app (gi_e e_wsX12_say (ce fw_5342 (ce fw_5343 (ce fw_1038 (cn)))) (by decide +kernel)) ggX12_say_X12_in
set_option maxRecDepth 20000 in
theorem ggX12_say_X12_keeps : GoodIn wsX12_say wsX12_keeps := gi_e e_wsX12_say e_wsX12_keeps (by decide +kernel)
set_option maxRecDepth 20000 in
theorem gX12_say_X12_keeps : GoodIn wsX12_say (wsV RX12 226 RX12 yX12_keeps wsX12_keeps) := goodIn_app (gi_e e_wsX12_say (ce fw_6197 (ce fw_6199 (ce fw_46 (ce fw_1038 (cn))))) (by decide +kernel)) ggX12_say_X12_keeps
theorem dX12_say_0 : decode cX12_say 0 = .ok (.aload_n 0, 1) := by decide +kernel
theorem dX12_say_1 : decode cX12_say 1 = .ok (.iconst 0, 1) := by decide +kernel
theorem dX12_say_2 : decode cX12_say 2 = .ok (.putfield 39, 3) := by decide +kernel
theorem dX12_say_5 : decode cX12_say 5 = .ok (.iload_n 1, 1) := by decide +kernel
theorem dX12_say_6 : decode cX12_say 6 = .ok (.iconst 0, 1) := by decide +kernel
theorem dX12_say_7 : decode cX12_say 7 = .ok (.sipush 255, 3) := by decide +kernel
theorem dX12_say_10 : decode cX12_say 10 = .ok (.invokestatic 72, 3) := by decide +kernel
theorem dX12_say_13 : decode cX12_say 13 = .ok (.ifCond .eq 15, 3) := by decide +kernel
theorem dX12_say_16 : decode cX12_say 16 = .ok (.aload_n 0, 1) := by decide +kernel
theorem dX12_say_17 : decode cX12_say 17 = .ok (.getfield 7, 3) := by decide +kernel
theorem dX12_say_20 : decode cX12_say 20 = .ok (.bipush 21, 2) := by decide +kernel
theorem dX12_say_22 : decode cX12_say 22 = .ok (.iaload, 1) := by decide +kernel
theorem dX12_say_23 : decode cX12_say 23 = .ok (.bipush 8, 2) := by decide +kernel
theorem dX12_say_25 : decode cX12_say 25 = .ok (.if_icmp .ne 5, 3) := by decide +kernel
theorem dX12_say_28 : decode cX12_say 28 = .ok (.iconst (-1), 1) := by decide +kernel
theorem dX12_say_29 : decode cX12_say 29 = .ok (.ireturn, 1) := by decide +kernel
theorem dX12_say_30 : decode cX12_say 30 = .ok (.aload_n 0, 1) := by decide +kernel
theorem dX12_say_31 : decode cX12_say 31 = .ok (.invokevirtual 226, 3) := by decide +kernel
theorem dX12_say_34 : decode cX12_say 34 = .ok (.aload_n 0, 1) := by decide +kernel
theorem dX12_say_35 : decode cX12_say 35 = .ok (.getfield 7, 3) := by decide +kernel
theorem dX12_say_38 : decode cX12_say 38 = .ok (.bipush 22, 2) := by decide +kernel
theorem dX12_say_40 : decode cX12_say 40 = .ok (.aload_n 0, 1) := by decide +kernel
theorem dX12_say_41 : decode cX12_say 41 = .ok (.getfield 7, 3) := by decide +kernel
theorem dX12_say_44 : decode cX12_say 44 = .ok (.bipush 21, 2) := by decide +kernel
theorem dX12_say_46 : decode cX12_say 46 = .ok (.iaload, 1) := by decide +kernel
theorem dX12_say_47 : decode cX12_say 47 = .ok (.iadd, 1) := by decide +kernel
theorem dX12_say_48 : decode cX12_say 48 = .ok (.iload_n 1, 1) := by decide +kernel
theorem dX12_say_49 : decode cX12_say 49 = .ok (.iastore, 1) := by decide +kernel
theorem dX12_say_50 : decode cX12_say 50 = .ok (.aload_n 0, 1) := by decide +kernel
theorem dX12_say_51 : decode cX12_say 51 = .ok (.getfield 7, 3) := by decide +kernel
theorem dX12_say_54 : decode cX12_say 54 = .ok (.bipush 21, 2) := by decide +kernel
theorem dX12_say_56 : decode cX12_say 56 = .ok (.dup2, 1) := by decide +kernel
theorem dX12_say_57 : decode cX12_say 57 = .ok (.iaload, 1) := by decide +kernel
theorem dX12_say_58 : decode cX12_say 58 = .ok (.iconst 1, 1) := by decide +kernel
theorem dX12_say_59 : decode cX12_say 59 = .ok (.iadd, 1) := by decide +kernel
theorem dX12_say_60 : decode cX12_say 60 = .ok (.iastore, 1) := by decide +kernel
theorem dX12_say_61 : decode cX12_say 61 = .ok (.aload_n 0, 1) := by decide +kernel
theorem dX12_say_62 : decode cX12_say 62 = .ok (.getfield 7, 3) := by decide +kernel
theorem dX12_say_65 : decode cX12_say 65 = .ok (.bipush 21, 2) := by decide +kernel
theorem dX12_say_67 : decode cX12_say 67 = .ok (.iaload, 1) := by decide +kernel
theorem dX12_say_68 : decode cX12_say 68 = .ok (.ireturn, 1) := by decide +kernel
set_option maxRecDepth 20000 in
theorem ggX12_send_X12_in : GoodIn wsX12_send wsX12_in := gi_e e_wsX12_send e_wsX12_in (by decide +kernel)
set_option maxRecDepth 20000 in
theorem gX12_send_X12_in : GoodIn wsX12_send (va_wsS RX12 72 yX12_in wsX12_in) := goodIn_app (gi_e e_wsX12_send (ce fw_5342 (ce fw_5343 (ce fw_1038 (cn)))) (by decide +kernel)) ggX12_send_X12_in
set_option maxRecDepth 20000 in
theorem ggX12_send_X12_round : GoodIn wsX12_send wsX12_round := gi_e e_wsX12_send e_wsX12_round (by decide +kernel)
set_option maxRecDepth 20000 in
theorem gX12_send_X12_round : GoodIn wsX12_send (wsV RX12 142 RX12 yX12_round wsX12_round) := goodIn_app (gi_e e_wsX12_send (ce fw_5259 (ce fw_5261 (ce fw_32 (ce fw_1038 (cn))))) (by decide +kernel)) ggX12_send_X12_round
set_option maxRecDepth 20000 in
theorem ggX12_send_X12_keeps : GoodIn wsX12_send wsX12_keeps := gi_e e_wsX12_send e_wsX12_keeps (by decide +kernel)
set_option maxRecDepth 20000 in
theorem gX12_send_X12_keeps : GoodIn wsX12_send (wsV RX12 226 RX12 yX12_keeps wsX12_keeps) := goodIn_app (gi_e e_wsX12_send (ce fw_6197 (ce fw_6199 (ce fw_46 (ce fw_1038 (cn))))) (by decide +kernel)) ggX12_send_X12_keeps
set_option maxRecDepth 20000 in
theorem ggX12_send_X12_sends : GoodIn wsX12_send wsX12_sends := gi_e e_wsX12_send e_wsX12_sends (by decide +kernel)
set_option maxRecDepth 20000 in
theorem gX12_send_X12_sends : GoodIn wsX12_send (wsV RX12 229 RX12 yX12_sends wsX12_sends) := goodIn_app (gi_e e_wsX12_send (ce fw_6205 (ce fw_6207 (ce fw_47 (ce fw_1038 (cn))))) (by decide +kernel)) ggX12_send_X12_sends
theorem dX12_send_0 : decode cX12_send 0 = .ok (.aload_n 0, 1) := by decide +kernel
theorem dX12_send_1 : decode cX12_send 1 = .ok (.iconst 0, 1) := by decide +kernel
theorem dX12_send_2 : decode cX12_send 2 = .ok (.putfield 39, 3) := by decide +kernel
theorem dX12_send_5 : decode cX12_send 5 = .ok (.iload_n 1, 1) := by decide +kernel
theorem dX12_send_6 : decode cX12_send 6 = .ok (.iconst 1, 1) := by decide +kernel
theorem dX12_send_7 : decode cX12_send 7 = .ok (.bipush 8, 2) := by decide +kernel
theorem dX12_send_9 : decode cX12_send 9 = .ok (.invokestatic 72, 3) := by decide +kernel
theorem dX12_send_12 : decode cX12_send 12 = .ok (.ifCond .eq 23, 3) := by decide +kernel
theorem dX12_send_15 : decode cX12_send 15 = .ok (.aload_n 0, 1) := by decide +kernel
theorem dX12_send_16 : decode cX12_send 16 = .ok (.getfield 7, 3) := by decide +kernel
theorem dX12_send_19 : decode cX12_send 19 = .ok (.bipush 32, 2) := by decide +kernel
theorem dX12_send_21 : decode cX12_send 21 = .ok (.iaload, 1) := by decide +kernel
theorem dX12_send_22 : decode cX12_send 22 = .ok (.iload_n 1, 1) := by decide +kernel
theorem dX12_send_23 : decode cX12_send 23 = .ok (.aload_n 0, 1) := by decide +kernel
theorem dX12_send_24 : decode cX12_send 24 = .ok (.invokevirtual 142, 3) := by decide +kernel
theorem dX12_send_27 : decode cX12_send 27 = .ok (.imul, 1) := by decide +kernel
theorem dX12_send_28 : decode cX12_send 28 = .ok (.iadd, 1) := by decide +kernel
theorem dX12_send_29 : decode cX12_send 29 = .ok (.sipush 4000, 3) := by decide +kernel
theorem dX12_send_32 : decode cX12_send 32 = .ok (.if_icmp .le 5, 3) := by decide +kernel
theorem dX12_send_35 : decode cX12_send 35 = .ok (.iconst (-1), 1) := by decide +kernel
theorem dX12_send_36 : decode cX12_send 36 = .ok (.ireturn, 1) := by decide +kernel
theorem dX12_send_37 : decode cX12_send 37 = .ok (.aload_n 0, 1) := by decide +kernel
theorem dX12_send_38 : decode cX12_send 38 = .ok (.invokevirtual 226, 3) := by decide +kernel
theorem dX12_send_41 : decode cX12_send 41 = .ok (.aload_n 0, 1) := by decide +kernel
theorem dX12_send_42 : decode cX12_send 42 = .ok (.iload_n 1, 1) := by decide +kernel
theorem dX12_send_43 : decode cX12_send 43 = .ok (.iload_n 2, 1) := by decide +kernel
theorem dX12_send_44 : decode cX12_send 44 = .ok (.invokevirtual 229, 3) := by decide +kernel
theorem dX12_send_47 : decode cX12_send 47 = .ok (.aload_n 0, 1) := by decide +kernel
theorem dX12_send_48 : decode cX12_send 48 = .ok (.getfield 7, 3) := by decide +kernel
theorem dX12_send_51 : decode cX12_send 51 = .ok (.bipush 32, 2) := by decide +kernel
theorem dX12_send_53 : decode cX12_send 53 = .ok (.iaload, 1) := by decide +kernel
theorem dX12_send_54 : decode cX12_send 54 = .ok (.ireturn, 1) := by decide +kernel
set_option maxRecDepth 20000 in
theorem ggX12_turn_X12_in : GoodIn wsX12_turn wsX12_in := gi_e e_wsX12_turn e_wsX12_in (by decide +kernel)
set_option maxRecDepth 20000 in
theorem gX12_turn_X12_in : GoodIn wsX12_turn (va_wsS RX12 72 yX12_in wsX12_in) := goodIn_app (gi_e e_wsX12_turn (ce fw_5342 (ce fw_5343 (ce fw_1038 (cn)))) (by decide +kernel)) ggX12_turn_X12_in
set_option maxRecDepth 20000 in
theorem ggX12_turn_X12_keeps : GoodIn wsX12_turn wsX12_keeps := gi_e e_wsX12_turn e_wsX12_keeps (by decide +kernel)
set_option maxRecDepth 20000 in
theorem gX12_turn_X12_keeps : GoodIn wsX12_turn (wsV RX12 226 RX12 yX12_keeps wsX12_keeps) := goodIn_app (gi_e e_wsX12_turn (ce fw_6197 (ce fw_6199 (ce fw_46 (ce fw_1038 (cn))))) (by decide +kernel)) ggX12_turn_X12_keeps
theorem dX12_turn_0 : decode cX12_turn 0 = .ok (.aload_n 0, 1) := by decide +kernel
theorem dX12_turn_1 : decode cX12_turn 1 = .ok (.iconst 0, 1) := by decide +kernel
theorem dX12_turn_2 : decode cX12_turn 2 = .ok (.putfield 39, 3) := by decide +kernel
theorem dX12_turn_5 : decode cX12_turn 5 = .ok (.iload_n 1, 1) := by decide +kernel
theorem dX12_turn_6 : decode cX12_turn 6 = .ok (.aload_n 0, 1) := by decide +kernel
theorem dX12_turn_7 : decode cX12_turn 7 = .ok (.getfield 7, 3) := by decide +kernel
theorem dX12_turn_10 : decode cX12_turn 10 = .ok (.bipush 33, 2) := by decide +kernel
theorem dX12_turn_12 : decode cX12_turn 12 = .ok (.iaload, 1) := by decide +kernel
theorem dX12_turn_13 : decode cX12_turn 13 = .ok (.aload_n 0, 1) := by decide +kernel
theorem dX12_turn_14 : decode cX12_turn 14 = .ok (.getfield 7, 3) := by decide +kernel
theorem dX12_turn_17 : decode cX12_turn 17 = .ok (.bipush 32, 2) := by decide +kernel
theorem dX12_turn_19 : decode cX12_turn 19 = .ok (.iaload, 1) := by decide +kernel
theorem dX12_turn_20 : decode cX12_turn 20 = .ok (.iconst 1, 1) := by decide +kernel
theorem dX12_turn_21 : decode cX12_turn 21 = .ok (.isub, 1) := by decide +kernel
theorem dX12_turn_22 : decode cX12_turn 22 = .ok (.invokestatic 72, 3) := by decide +kernel
theorem dX12_turn_25 : decode cX12_turn 25 = .ok (.ifCond .ne 5, 3) := by decide +kernel
theorem dX12_turn_28 : decode cX12_turn 28 = .ok (.iconst 0, 1) := by decide +kernel
theorem dX12_turn_29 : decode cX12_turn 29 = .ok (.ireturn, 1) := by decide +kernel
theorem dX12_turn_30 : decode cX12_turn 30 = .ok (.aload_n 0, 1) := by decide +kernel
theorem dX12_turn_31 : decode cX12_turn 31 = .ok (.invokevirtual 226, 3) := by decide +kernel
theorem dX12_turn_34 : decode cX12_turn 34 = .ok (.aload_n 0, 1) := by decide +kernel
theorem dX12_turn_35 : decode cX12_turn 35 = .ok (.getfield 13, 3) := by decide +kernel
theorem dX12_turn_38 : decode cX12_turn 38 = .ok (.iload_n 1, 1) := by decide +kernel
theorem dX12_turn_39 : decode cX12_turn 39 = .ok (.iconst 1, 1) := by decide +kernel
theorem dX12_turn_40 : decode cX12_turn 40 = .ok (.aload_n 0, 1) := by decide +kernel
theorem dX12_turn_41 : decode cX12_turn 41 = .ok (.getfield 13, 3) := by decide +kernel
theorem dX12_turn_44 : decode cX12_turn 44 = .ok (.iload_n 1, 1) := by decide +kernel
theorem dX12_turn_45 : decode cX12_turn 45 = .ok (.baload, 1) := by decide +kernel
theorem dX12_turn_46 : decode cX12_turn 46 = .ok (.isub, 1) := by decide +kernel
theorem dX12_turn_47 : decode cX12_turn 47 = .ok (.i2b, 1) := by decide +kernel
theorem dX12_turn_48 : decode cX12_turn 48 = .ok (.bastore, 1) := by decide +kernel
theorem dX12_turn_49 : decode cX12_turn 49 = .ok (.iconst 1, 1) := by decide +kernel
theorem dX12_turn_50 : decode cX12_turn 50 = .ok (.ireturn, 1) := by decide +kernel
set_option maxRecDepth 20000 in
theorem ggX12_lose_X12_in : GoodIn wsX12_lose wsX12_in := gi_e e_wsX12_lose e_wsX12_in (by decide +kernel)
set_option maxRecDepth 20000 in
theorem gX12_lose_X12_in : GoodIn wsX12_lose (va_wsS RX12 72 yX12_in wsX12_in) := goodIn_app (gi_e e_wsX12_lose (ce fw_5342 (ce fw_5343 (ce fw_1038 (cn)))) (by decide +kernel)) ggX12_lose_X12_in
set_option maxRecDepth 20000 in
theorem ggX12_lose_X12_keeps : GoodIn wsX12_lose wsX12_keeps := gi_e e_wsX12_lose e_wsX12_keeps (by decide +kernel)
set_option maxRecDepth 20000 in
theorem gX12_lose_X12_keeps : GoodIn wsX12_lose (wsV RX12 226 RX12 yX12_keeps wsX12_keeps) := goodIn_app (gi_e e_wsX12_lose (ce fw_6197 (ce fw_6199 (ce fw_46 (ce fw_1038 (cn))))) (by decide +kernel)) ggX12_lose_X12_keeps
theorem dX12_lose_0 : decode cX12_lose 0 = .ok (.aload_n 0, 1) := by decide +kernel
theorem dX12_lose_1 : decode cX12_lose 1 = .ok (.iconst 0, 1) := by decide +kernel
theorem dX12_lose_2 : decode cX12_lose 2 = .ok (.putfield 39, 3) := by decide +kernel
theorem dX12_lose_5 : decode cX12_lose 5 = .ok (.iload_n 2, 1) := by decide +kernel
theorem dX12_lose_6 : decode cX12_lose 6 = .ok (.iconst 1, 1) := by decide +kernel
theorem dX12_lose_7 : decode cX12_lose 7 = .ok (.sipush 500, 3) := by decide +kernel
theorem dX12_lose_10 : decode cX12_lose 10 = .ok (.invokestatic 72, 3) := by decide +kernel
theorem dX12_lose_13 : decode cX12_lose 13 = .ok (.ifCond .eq 26, 3) := by decide +kernel
theorem dX12_lose_16 : decode cX12_lose 16 = .ok (.iload_n 1, 1) := by decide +kernel
theorem dX12_lose_17 : decode cX12_lose 17 = .ok (.aload_n 0, 1) := by decide +kernel
theorem dX12_lose_18 : decode cX12_lose 18 = .ok (.getfield 7, 3) := by decide +kernel
theorem dX12_lose_21 : decode cX12_lose 21 = .ok (.bipush 33, 2) := by decide +kernel
theorem dX12_lose_23 : decode cX12_lose 23 = .ok (.iaload, 1) := by decide +kernel
theorem dX12_lose_24 : decode cX12_lose 24 = .ok (.aload_n 0, 1) := by decide +kernel
theorem dX12_lose_25 : decode cX12_lose 25 = .ok (.getfield 7, 3) := by decide +kernel
theorem dX12_lose_28 : decode cX12_lose 28 = .ok (.bipush 32, 2) := by decide +kernel
theorem dX12_lose_30 : decode cX12_lose 30 = .ok (.iaload, 1) := by decide +kernel
theorem dX12_lose_31 : decode cX12_lose 31 = .ok (.iload_n 2, 1) := by decide +kernel
theorem dX12_lose_32 : decode cX12_lose 32 = .ok (.isub, 1) := by decide +kernel
theorem dX12_lose_33 : decode cX12_lose 33 = .ok (.invokestatic 72, 3) := by decide +kernel
theorem dX12_lose_36 : decode cX12_lose 36 = .ok (.ifCond .ne 5, 3) := by decide +kernel
theorem dX12_lose_39 : decode cX12_lose 39 = .ok (.iconst (-1), 1) := by decide +kernel
theorem dX12_lose_40 : decode cX12_lose 40 = .ok (.ireturn, 1) := by decide +kernel
theorem dX12_lose_41 : decode cX12_lose 41 = .ok (.aload_n 0, 1) := by decide +kernel
theorem dX12_lose_42 : decode cX12_lose 42 = .ok (.invokevirtual 226, 3) := by decide +kernel
theorem dX12_lose_45 : decode cX12_lose 45 = .ok (.iload_n 1, 1) := by decide +kernel
theorem dX12_lose_46 : decode cX12_lose 46 = .ok (.istore_n 3, 1) := by decide +kernel
theorem dX12_lose_47 : decode cX12_lose 47 = .ok (.iload_n 3, 1) := by decide +kernel
theorem dX12_lose_48 : decode cX12_lose 48 = .ok (.iload_n 2, 1) := by decide +kernel
theorem dX12_lose_49 : decode cX12_lose 49 = .ok (.iadd, 1) := by decide +kernel
theorem dX12_lose_50 : decode cX12_lose 50 = .ok (.aload_n 0, 1) := by decide +kernel
theorem dX12_lose_51 : decode cX12_lose 51 = .ok (.getfield 7, 3) := by decide +kernel
theorem dX12_lose_54 : decode cX12_lose 54 = .ok (.bipush 32, 2) := by decide +kernel
theorem dX12_lose_56 : decode cX12_lose 56 = .ok (.iaload, 1) := by decide +kernel
theorem dX12_lose_57 : decode cX12_lose 57 = .ok (.if_icmp .ge 23, 3) := by decide +kernel
theorem dX12_lose_60 : decode cX12_lose 60 = .ok (.aload_n 0, 1) := by decide +kernel
theorem dX12_lose_61 : decode cX12_lose 61 = .ok (.getfield 13, 3) := by decide +kernel
theorem dX12_lose_64 : decode cX12_lose 64 = .ok (.iload_n 3, 1) := by decide +kernel
theorem dX12_lose_65 : decode cX12_lose 65 = .ok (.aload_n 0, 1) := by decide +kernel
theorem dX12_lose_66 : decode cX12_lose 66 = .ok (.getfield 13, 3) := by decide +kernel
theorem dX12_lose_69 : decode cX12_lose 69 = .ok (.iload_n 3, 1) := by decide +kernel
theorem dX12_lose_70 : decode cX12_lose 70 = .ok (.iload_n 2, 1) := by decide +kernel
theorem dX12_lose_71 : decode cX12_lose 71 = .ok (.iadd, 1) := by decide +kernel
theorem dX12_lose_72 : decode cX12_lose 72 = .ok (.baload, 1) := by decide +kernel
theorem dX12_lose_73 : decode cX12_lose 73 = .ok (.bastore, 1) := by decide +kernel
theorem dX12_lose_74 : decode cX12_lose 74 = .ok (.iinc 3 1, 3) := by decide +kernel
theorem dX12_lose_77 : decode cX12_lose 77 = .ok (.goto (-30), 3) := by decide +kernel
theorem dX12_lose_80 : decode cX12_lose 80 = .ok (.aload_n 0, 1) := by decide +kernel
theorem dX12_lose_81 : decode cX12_lose 81 = .ok (.getfield 7, 3) := by decide +kernel
theorem dX12_lose_84 : decode cX12_lose 84 = .ok (.bipush 32, 2) := by decide +kernel
theorem dX12_lose_86 : decode cX12_lose 86 = .ok (.dup2, 1) := by decide +kernel
theorem dX12_lose_87 : decode cX12_lose 87 = .ok (.iaload, 1) := by decide +kernel
theorem dX12_lose_88 : decode cX12_lose 88 = .ok (.iload_n 2, 1) := by decide +kernel
theorem dX12_lose_89 : decode cX12_lose 89 = .ok (.isub, 1) := by decide +kernel
theorem dX12_lose_90 : decode cX12_lose 90 = .ok (.iastore, 1) := by decide +kernel
theorem dX12_lose_91 : decode cX12_lose 91 = .ok (.aload_n 0, 1) := by decide +kernel
theorem dX12_lose_92 : decode cX12_lose 92 = .ok (.getfield 7, 3) := by decide +kernel
theorem dX12_lose_95 : decode cX12_lose 95 = .ok (.bipush 32, 2) := by decide +kernel
theorem dX12_lose_97 : decode cX12_lose 97 = .ok (.iaload, 1) := by decide +kernel
theorem dX12_lose_98 : decode cX12_lose 98 = .ok (.ireturn, 1) := by decide +kernel
set_option maxRecDepth 20000 in
theorem ggX12_put_X12_in : GoodIn wsX12_put wsX12_in := gi_e e_wsX12_put e_wsX12_in (by decide +kernel)
set_option maxRecDepth 20000 in
theorem gX12_put_X12_in : GoodIn wsX12_put (va_wsS RX12 72 yX12_in wsX12_in) := goodIn_app (gi_e e_wsX12_put (ce fw_5342 (ce fw_5343 (ce fw_1038 (cn)))) (by decide +kernel)) ggX12_put_X12_in
set_option maxRecDepth 20000 in
theorem ggX12_put_X12_keeps : GoodIn wsX12_put wsX12_keeps := gi_e e_wsX12_put e_wsX12_keeps (by decide +kernel)
set_option maxRecDepth 20000 in
theorem gX12_put_X12_keeps : GoodIn wsX12_put (wsV RX12 226 RX12 yX12_keeps wsX12_keeps) := goodIn_app (gi_e e_wsX12_put (ce fw_6197 (ce fw_6199 (ce fw_46 (ce fw_1038 (cn))))) (by decide +kernel)) ggX12_put_X12_keeps
theorem dX12_put_0 : decode cX12_put 0 = .ok (.aload_n 0, 1) := by decide +kernel
theorem dX12_put_1 : decode cX12_put 1 = .ok (.iconst 0, 1) := by decide +kernel
theorem dX12_put_2 : decode cX12_put 2 = .ok (.putfield 39, 3) := by decide +kernel
theorem dX12_put_5 : decode cX12_put 5 = .ok (.iload_n 1, 1) := by decide +kernel
theorem dX12_put_6 : decode cX12_put 6 = .ok (.aload_n 0, 1) := by decide +kernel
theorem dX12_put_7 : decode cX12_put 7 = .ok (.getfield 7, 3) := by decide +kernel
theorem dX12_put_10 : decode cX12_put 10 = .ok (.bipush 33, 2) := by decide +kernel
theorem dX12_put_12 : decode cX12_put 12 = .ok (.iaload, 1) := by decide +kernel
theorem dX12_put_13 : decode cX12_put 13 = .ok (.aload_n 0, 1) := by decide +kernel
theorem dX12_put_14 : decode cX12_put 14 = .ok (.getfield 7, 3) := by decide +kernel
theorem dX12_put_17 : decode cX12_put 17 = .ok (.bipush 32, 2) := by decide +kernel
theorem dX12_put_19 : decode cX12_put 19 = .ok (.iaload, 1) := by decide +kernel
theorem dX12_put_20 : decode cX12_put 20 = .ok (.invokestatic 72, 3) := by decide +kernel
theorem dX12_put_23 : decode cX12_put 23 = .ok (.ifCond .eq 16, 3) := by decide +kernel
theorem dX12_put_26 : decode cX12_put 26 = .ok (.aload_n 0, 1) := by decide +kernel
theorem dX12_put_27 : decode cX12_put 27 = .ok (.getfield 7, 3) := by decide +kernel
theorem dX12_put_30 : decode cX12_put 30 = .ok (.bipush 32, 2) := by decide +kernel
theorem dX12_put_32 : decode cX12_put 32 = .ok (.iaload, 1) := by decide +kernel
theorem dX12_put_33 : decode cX12_put 33 = .ok (.sipush 4000, 3) := by decide +kernel
theorem dX12_put_36 : decode cX12_put 36 = .ok (.if_icmp .ne 5, 3) := by decide +kernel
theorem dX12_put_39 : decode cX12_put 39 = .ok (.iconst (-1), 1) := by decide +kernel
theorem dX12_put_40 : decode cX12_put 40 = .ok (.ireturn, 1) := by decide +kernel
theorem dX12_put_41 : decode cX12_put 41 = .ok (.aload_n 0, 1) := by decide +kernel
theorem dX12_put_42 : decode cX12_put 42 = .ok (.invokevirtual 226, 3) := by decide +kernel
theorem dX12_put_45 : decode cX12_put 45 = .ok (.aload_n 0, 1) := by decide +kernel
theorem dX12_put_46 : decode cX12_put 46 = .ok (.getfield 7, 3) := by decide +kernel
theorem dX12_put_49 : decode cX12_put 49 = .ok (.bipush 32, 2) := by decide +kernel
theorem dX12_put_51 : decode cX12_put 51 = .ok (.iaload, 1) := by decide +kernel
theorem dX12_put_52 : decode cX12_put 52 = .ok (.istore_n 3, 1) := by decide +kernel
theorem dX12_put_53 : decode cX12_put 53 = .ok (.iload_n 3, 1) := by decide +kernel
theorem dX12_put_54 : decode cX12_put 54 = .ok (.iload_n 1, 1) := by decide +kernel
theorem dX12_put_55 : decode cX12_put 55 = .ok (.if_icmp .le 23, 3) := by decide +kernel
theorem dX12_put_58 : decode cX12_put 58 = .ok (.aload_n 0, 1) := by decide +kernel
theorem dX12_put_59 : decode cX12_put 59 = .ok (.getfield 13, 3) := by decide +kernel
theorem dX12_put_62 : decode cX12_put 62 = .ok (.iload_n 3, 1) := by decide +kernel
theorem dX12_put_63 : decode cX12_put 63 = .ok (.aload_n 0, 1) := by decide +kernel
theorem dX12_put_64 : decode cX12_put 64 = .ok (.getfield 13, 3) := by decide +kernel
theorem dX12_put_67 : decode cX12_put 67 = .ok (.iload_n 3, 1) := by decide +kernel
theorem dX12_put_68 : decode cX12_put 68 = .ok (.iconst 1, 1) := by decide +kernel
theorem dX12_put_69 : decode cX12_put 69 = .ok (.isub, 1) := by decide +kernel
theorem dX12_put_70 : decode cX12_put 70 = .ok (.baload, 1) := by decide +kernel
theorem dX12_put_71 : decode cX12_put 71 = .ok (.bastore, 1) := by decide +kernel
theorem dX12_put_72 : decode cX12_put 72 = .ok (.iinc 3 (-1), 3) := by decide +kernel
