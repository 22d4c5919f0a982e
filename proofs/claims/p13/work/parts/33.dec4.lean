set_option maxRecDepth 20000 in
theorem ggX12_init_X12_atFirst : GoodIn wsX12_init wsX12_atFirst := gi_e e_wsX12_init e_wsX12_atFirst (by decide +kernel)
set_option maxRecDepth 20000 in
theorem gX12_init_X12_atFirst : GoodIn wsX12_init (wsV RX12 33 RX12 yX12_atFirst wsX12_atFirst) := goodIn_app (gi_e e_wsX12_init (ce fw_5243 (ce fw_5245 (ce fw_28 (ce fw_1038 (cn))))) (by decide +kernel)) ggX12_init_X12_atFirst
set_option maxRecDepth 20000 in
theorem ggX12_init_X12_taken : GoodIn wsX12_init wsX12_taken := gi_e e_wsX12_init e_wsX12_taken (by decide +kernel)
set_option maxRecDepth 20000 in
theorem gX12_init_X12_taken : GoodIn wsX12_init (wsV RX12 36 RX12 yX12_taken wsX12_taken) := goodIn_app (gi_e e_wsX12_init (ce fw_5247 (ce fw_5249 (ce fw_29 (ce fw_1038 (cn))))) (by decide +kernel)) ggX12_init_X12_taken
theorem dX12_init_0 : decode cX12_init 0 = .ok (.aload_n 0, 1) := by decide +kernel
theorem dX12_init_1 : decode cX12_init 1 = .ok (.invokespecial 1, 3) := by decide +kernel
theorem dX12_init_4 : decode cX12_init 4 = .ok (.aload_n 0, 1) := by decide +kernel
theorem dX12_init_5 : decode cX12_init 5 = .ok (.sipush 680, 3) := by decide +kernel
theorem dX12_init_8 : decode cX12_init 8 = .ok (.newarray .int, 2) := by decide +kernel
theorem dX12_init_10 : decode cX12_init 10 = .ok (.putfield 7, 3) := by decide +kernel
theorem dX12_init_13 : decode cX12_init 13 = .ok (.aload_n 0, 1) := by decide +kernel
theorem dX12_init_14 : decode cX12_init 14 = .ok (.sipush 32000, 3) := by decide +kernel
theorem dX12_init_17 : decode cX12_init 17 = .ok (.newarray .byte, 2) := by decide +kernel
theorem dX12_init_19 : decode cX12_init 19 = .ok (.putfield 13, 3) := by decide +kernel
theorem dX12_init_22 : decode cX12_init 22 = .ok (.aload_n 0, 1) := by decide +kernel
theorem dX12_init_23 : decode cX12_init 23 = .ok (.sipush 1200, 3) := by decide +kernel
theorem dX12_init_26 : decode cX12_init 26 = .ok (.newarray .byte, 2) := by decide +kernel
theorem dX12_init_28 : decode cX12_init 28 = .ok (.putfield 17, 3) := by decide +kernel
theorem dX12_init_31 : decode cX12_init 31 = .ok (.aload_n 0, 1) := by decide +kernel
theorem dX12_init_32 : decode cX12_init 32 = .ok (.iconst 3, 1) := by decide +kernel
theorem dX12_init_33 : decode cX12_init 33 = .ok (.newarray .boolean, 2) := by decide +kernel
theorem dX12_init_35 : decode cX12_init 35 = .ok (.putfield 20, 3) := by decide +kernel
theorem dX12_init_38 : decode cX12_init 38 = .ok (.aload_n 0, 1) := by decide +kernel
theorem dX12_init_39 : decode cX12_init 39 = .ok (.sipush 798, 3) := by decide +kernel
theorem dX12_init_42 : decode cX12_init 42 = .ok (.newarray .int, 2) := by decide +kernel
theorem dX12_init_44 : decode cX12_init 44 = .ok (.putfield 24, 3) := by decide +kernel
theorem dX12_init_47 : decode cX12_init 47 = .ok (.aload_n 0, 1) := by decide +kernel
theorem dX12_init_48 : decode cX12_init 48 = .ok (.sipush 24000, 3) := by decide +kernel
theorem dX12_init_51 : decode cX12_init 51 = .ok (.newarray .byte, 2) := by decide +kernel
theorem dX12_init_53 : decode cX12_init 53 = .ok (.putfield 27, 3) := by decide +kernel
theorem dX12_init_56 : decode cX12_init 56 = .ok (.aload_n 0, 1) := by decide +kernel
theorem dX12_init_57 : decode cX12_init 57 = .ok (.bipush 21, 2) := by decide +kernel
theorem dX12_init_59 : decode cX12_init 59 = .ok (.newarray .int, 2) := by decide +kernel
theorem dX12_init_61 : decode cX12_init 61 = .ok (.putfield 30, 3) := by decide +kernel
theorem dX12_init_64 : decode cX12_init 64 = .ok (.aload_n 0, 1) := by decide +kernel
theorem dX12_init_65 : decode cX12_init 65 = .ok (.getfield 7, 3) := by decide +kernel
theorem dX12_init_68 : decode cX12_init 68 = .ok (.sipush 135, 3) := by decide +kernel
theorem dX12_init_71 : decode cX12_init 71 = .ok (.iconst (-1), 1) := by decide +kernel
theorem dX12_init_72 : decode cX12_init 72 = .ok (.iastore, 1) := by decide +kernel
theorem dX12_init_73 : decode cX12_init 73 = .ok (.aload_n 0, 1) := by decide +kernel
theorem dX12_init_74 : decode cX12_init 74 = .ok (.invokevirtual 33, 3) := by decide +kernel
theorem dX12_init_77 : decode cX12_init 77 = .ok (.aload_n 0, 1) := by decide +kernel
theorem dX12_init_78 : decode cX12_init 78 = .ok (.invokevirtual 36, 3) := by decide +kernel
theorem dX12_init_81 : decode cX12_init 81 = .ok (.return_, 1) := by decide +kernel
theorem dX12_thrown_0 : decode cX12_thrown 0 = .ok (.aload_n 0, 1) := by decide +kernel
theorem dX12_thrown_1 : decode cX12_thrown 1 = .ok (.getfield 39, 3) := by decide +kernel
theorem dX12_thrown_4 : decode cX12_thrown 4 = .ok (.ireturn, 1) := by decide +kernel
theorem dX12_in_0 : decode cX12_in 0 = .ok (.iload_n 0, 1) := by decide +kernel
theorem dX12_in_1 : decode cX12_in 1 = .ok (.iload_n 1, 1) := by decide +kernel
theorem dX12_in_2 : decode cX12_in 2 = .ok (.if_icmp .lt 12, 3) := by decide +kernel
theorem dX12_in_5 : decode cX12_in 5 = .ok (.iload_n 0, 1) := by decide +kernel
theorem dX12_in_6 : decode cX12_in 6 = .ok (.iload_n 2, 1) := by decide +kernel
theorem dX12_in_7 : decode cX12_in 7 = .ok (.if_icmp .gt 7, 3) := by decide +kernel
theorem dX12_in_10 : decode cX12_in 10 = .ok (.iconst 1, 1) := by decide +kernel
theorem dX12_in_11 : decode cX12_in 11 = .ok (.goto 4, 3) := by decide +kernel
theorem dX12_in_14 : decode cX12_in 14 = .ok (.iconst 0, 1) := by decide +kernel
theorem dX12_in_15 : decode cX12_in 15 = .ok (.ireturn, 1) := by decide +kernel
theorem dX12_lesser_0 : decode cX12_lesser 0 = .ok (.iload_n 0, 1) := by decide +kernel
theorem dX12_lesser_1 : decode cX12_lesser 1 = .ok (.iload_n 1, 1) := by decide +kernel
theorem dX12_lesser_2 : decode cX12_lesser 2 = .ok (.if_icmp .ge 7, 3) := by decide +kernel
theorem dX12_lesser_5 : decode cX12_lesser 5 = .ok (.iload_n 0, 1) := by decide +kernel
theorem dX12_lesser_6 : decode cX12_lesser 6 = .ok (.goto 4, 3) := by decide +kernel
theorem dX12_lesser_9 : decode cX12_lesser 9 = .ok (.iload_n 1, 1) := by decide +kernel
theorem dX12_lesser_10 : decode cX12_lesser 10 = .ok (.ireturn, 1) := by decide +kernel
theorem dX12_ones_0 : decode cX12_ones 0 = .ok (.iconst 0, 1) := by decide +kernel
theorem dX12_ones_1 : decode cX12_ones 1 = .ok (.istore_n 1, 1) := by decide +kernel
theorem dX12_ones_2 : decode cX12_ones 2 = .ok (.iconst 0, 1) := by decide +kernel
theorem dX12_ones_3 : decode cX12_ones 3 = .ok (.istore_n 2, 1) := by decide +kernel
theorem dX12_ones_4 : decode cX12_ones 4 = .ok (.iload_n 2, 1) := by decide +kernel
theorem dX12_ones_5 : decode cX12_ones 5 = .ok (.bipush 32, 2) := by decide +kernel
theorem dX12_ones_7 : decode cX12_ones 7 = .ok (.if_icmp .ge 17, 3) := by decide +kernel
theorem dX12_ones_10 : decode cX12_ones 10 = .ok (.iload_n 1, 1) := by decide +kernel
theorem dX12_ones_11 : decode cX12_ones 11 = .ok (.iload_n 0, 1) := by decide +kernel
theorem dX12_ones_12 : decode cX12_ones 12 = .ok (.iload_n 2, 1) := by decide +kernel
theorem dX12_ones_13 : decode cX12_ones 13 = .ok (.ishr, 1) := by decide +kernel
theorem dX12_ones_14 : decode cX12_ones 14 = .ok (.iconst 1, 1) := by decide +kernel
theorem dX12_ones_15 : decode cX12_ones 15 = .ok (.iand, 1) := by decide +kernel
theorem dX12_ones_16 : decode cX12_ones 16 = .ok (.iadd, 1) := by decide +kernel
theorem dX12_ones_17 : decode cX12_ones 17 = .ok (.istore_n 1, 1) := by decide +kernel
theorem dX12_ones_18 : decode cX12_ones 18 = .ok (.iinc 2 1, 3) := by decide +kernel
theorem dX12_ones_21 : decode cX12_ones 21 = .ok (.goto (-17), 3) := by decide +kernel
theorem dX12_ones_24 : decode cX12_ones 24 = .ok (.iload_n 1, 1) := by decide +kernel
theorem dX12_ones_25 : decode cX12_ones 25 = .ok (.ireturn, 1) := by decide +kernel
theorem dX12_roleAt_0 : decode cX12_roleAt 0 = .ok (.aload_n 0, 1) := by decide +kernel
theorem dX12_roleAt_1 : decode cX12_roleAt 1 = .ok (.getfield 7, 3) := by decide +kernel
theorem dX12_roleAt_4 : decode cX12_roleAt 4 = .ok (.bipush 9, 2) := by decide +kernel
theorem dX12_roleAt_6 : decode cX12_roleAt 6 = .ok (.iload_n 1, 1) := by decide +kernel
theorem dX12_roleAt_7 : decode cX12_roleAt 7 = .ok (.iadd, 1) := by decide +kernel
theorem dX12_roleAt_8 : decode cX12_roleAt 8 = .ok (.iaload, 1) := by decide +kernel
theorem dX12_roleAt_9 : decode cX12_roleAt 9 = .ok (.ireturn, 1) := by decide +kernel
theorem dX12_round_0 : decode cX12_round 0 = .ok (.aload_n 0, 1) := by decide +kernel
theorem dX12_round_1 : decode cX12_round 1 = .ok (.getfield 7, 3) := by decide +kernel
theorem dX12_round_4 : decode cX12_round 4 = .ok (.iconst 0, 1) := by decide +kernel
theorem dX12_round_5 : decode cX12_round 5 = .ok (.iaload, 1) := by decide +kernel
theorem dX12_round_6 : decode cX12_round 6 = .ok (.aload_n 0, 1) := by decide +kernel
theorem dX12_round_7 : decode cX12_round 7 = .ok (.getfield 7, 3) := by decide +kernel
theorem dX12_round_10 : decode cX12_round 10 = .ok (.bipush 8, 2) := by decide +kernel
theorem dX12_round_12 : decode cX12_round 12 = .ok (.iaload, 1) := by decide +kernel
theorem dX12_round_13 : decode cX12_round 13 = .ok (.imul, 1) := by decide +kernel
theorem dX12_round_14 : decode cX12_round 14 = .ok (.ireturn, 1) := by decide +kernel
set_option maxRecDepth 20000 in
theorem ggX12_checkMany_X12_roleAt : GoodIn wsX12_checkMany wsX12_roleAt := gi_e e_wsX12_checkMany e_wsX12_roleAt (by decide +kernel)
set_option maxRecDepth 20000 in
theorem gX12_checkMany_X12_roleAt : GoodIn wsX12_checkMany (wsV RX12 43 RX12 yX12_roleAt wsX12_roleAt) := goodIn_app (gi_e e_wsX12_checkMany (ce fw_6181 (ce fw_6183 (ce fw_43 (ce fw_1038 (cn))))) (by decide +kernel)) ggX12_checkMany_X12_roleAt
theorem dX12_checkMany_0 : decode cX12_checkMany 0 = .ok (.iconst 0, 1) := by decide +kernel
theorem dX12_checkMany_1 : decode cX12_checkMany 1 = .ok (.istore_n 1, 1) := by decide +kernel
theorem dX12_checkMany_2 : decode cX12_checkMany 2 = .ok (.iconst 0, 1) := by decide +kernel
theorem dX12_checkMany_3 : decode cX12_checkMany 3 = .ok (.istore_n 2, 1) := by decide +kernel
theorem dX12_checkMany_4 : decode cX12_checkMany 4 = .ok (.iload_n 2, 1) := by decide +kernel
theorem dX12_checkMany_5 : decode cX12_checkMany 5 = .ok (.aload_n 0, 1) := by decide +kernel
theorem dX12_checkMany_6 : decode cX12_checkMany 6 = .ok (.getfield 7, 3) := by decide +kernel
theorem dX12_checkMany_9 : decode cX12_checkMany 9 = .ok (.bipush 8, 2) := by decide +kernel
theorem dX12_checkMany_11 : decode cX12_checkMany 11 = .ok (.iaload, 1) := by decide +kernel
theorem dX12_checkMany_12 : decode cX12_checkMany 12 = .ok (.if_icmp .ge 26, 3) := by decide +kernel
theorem dX12_checkMany_15 : decode cX12_checkMany 15 = .ok (.iload_n 1, 1) := by decide +kernel
theorem dX12_checkMany_16 : decode cX12_checkMany 16 = .ok (.aload_n 0, 1) := by decide +kernel
theorem dX12_checkMany_17 : decode cX12_checkMany 17 = .ok (.iload_n 2, 1) := by decide +kernel
theorem dX12_checkMany_18 : decode cX12_checkMany 18 = .ok (.invokevirtual 43, 3) := by decide +kernel
theorem dX12_checkMany_21 : decode cX12_checkMany 21 = .ok (.iconst 2, 1) := by decide +kernel
theorem dX12_checkMany_22 : decode cX12_checkMany 22 = .ok (.if_icmp .ne 7, 3) := by decide +kernel
theorem dX12_checkMany_25 : decode cX12_checkMany 25 = .ok (.iconst 1, 1) := by decide +kernel
theorem dX12_checkMany_26 : decode cX12_checkMany 26 = .ok (.goto 4, 3) := by decide +kernel
theorem dX12_checkMany_29 : decode cX12_checkMany 29 = .ok (.iconst 0, 1) := by decide +kernel
theorem dX12_checkMany_30 : decode cX12_checkMany 30 = .ok (.iadd, 1) := by decide +kernel
theorem dX12_checkMany_31 : decode cX12_checkMany 31 = .ok (.istore_n 1, 1) := by decide +kernel
theorem dX12_checkMany_32 : decode cX12_checkMany 32 = .ok (.iinc 2 1, 3) := by decide +kernel
theorem dX12_checkMany_35 : decode cX12_checkMany 35 = .ok (.goto (-31), 3) := by decide +kernel
theorem dX12_checkMany_38 : decode cX12_checkMany 38 = .ok (.iload_n 1, 1) := by decide +kernel
theorem dX12_checkMany_39 : decode cX12_checkMany 39 = .ok (.ireturn, 1) := by decide +kernel
set_option maxRecDepth 20000 in
theorem ggX12_roleOf_X12_roleAt : GoodIn wsX12_roleOf wsX12_roleAt := gi_e e_wsX12_roleOf e_wsX12_roleAt (by decide +kernel)
set_option maxRecDepth 20000 in
theorem gX12_roleOf_X12_roleAt : GoodIn wsX12_roleOf (wsV RX12 43 RX12 yX12_roleAt wsX12_roleAt) := goodIn_app (gi_e e_wsX12_roleOf (ce fw_6181 (ce fw_6183 (ce fw_43 (ce fw_1038 (cn))))) (by decide +kernel)) ggX12_roleOf_X12_roleAt
theorem dX12_roleOf_0 : decode cX12_roleOf 0 = .ok (.iload_n 1, 1) := by decide +kernel
theorem dX12_roleOf_1 : decode cX12_roleOf 1 = .ok (.aload_n 0, 1) := by decide +kernel
theorem dX12_roleOf_2 : decode cX12_roleOf 2 = .ok (.getfield 7, 3) := by decide +kernel
theorem dX12_roleOf_5 : decode cX12_roleOf 5 = .ok (.iconst 0, 1) := by decide +kernel
theorem dX12_roleOf_6 : decode cX12_roleOf 6 = .ok (.iaload, 1) := by decide +kernel
theorem dX12_roleOf_7 : decode cX12_roleOf 7 = .ok (.irem, 1) := by decide +kernel
theorem dX12_roleOf_8 : decode cX12_roleOf 8 = .ok (.ifCond .ne 18, 3) := by decide +kernel
theorem dX12_roleOf_11 : decode cX12_roleOf 11 = .ok (.aload_n 0, 1) := by decide +kernel
theorem dX12_roleOf_12 : decode cX12_roleOf 12 = .ok (.iload_n 1, 1) := by decide +kernel
theorem dX12_roleOf_13 : decode cX12_roleOf 13 = .ok (.aload_n 0, 1) := by decide +kernel
theorem dX12_roleOf_14 : decode cX12_roleOf 14 = .ok (.getfield 7, 3) := by decide +kernel
theorem dX12_roleOf_17 : decode cX12_roleOf 17 = .ok (.iconst 0, 1) := by decide +kernel
theorem dX12_roleOf_18 : decode cX12_roleOf 18 = .ok (.iaload, 1) := by decide +kernel
theorem dX12_roleOf_19 : decode cX12_roleOf 19 = .ok (.idiv, 1) := by decide +kernel
theorem dX12_roleOf_20 : decode cX12_roleOf 20 = .ok (.invokevirtual 43, 3) := by decide +kernel
theorem dX12_roleOf_23 : decode cX12_roleOf 23 = .ok (.goto 4, 3) := by decide +kernel
theorem dX12_roleOf_26 : decode cX12_roleOf 26 = .ok (.iconst (-1), 1) := by decide +kernel
theorem dX12_roleOf_27 : decode cX12_roleOf 27 = .ok (.ireturn, 1) := by decide +kernel
set_option maxRecDepth 20000 in
theorem ggX12_isFixed_X12_roleOf : GoodIn wsX12_isFixed wsX12_roleOf := gi_e e_wsX12_isFixed e_wsX12_roleOf (by decide +kernel)
set_option maxRecDepth 20000 in
theorem gX12_isFixed_X12_roleOf : GoodIn wsX12_isFixed (wsV RX12 47 RX12 yX12_roleOf wsX12_roleOf) := goodIn_app (gi_e e_wsX12_isFixed (ce fw_6177 (ce fw_6179 (ce fw_42 (ce fw_1038 (cn))))) (by decide +kernel)) ggX12_isFixed_X12_roleOf
theorem dX12_isFixed_0 : decode cX12_isFixed 0 = .ok (.aload_n 0, 1) := by decide +kernel
theorem dX12_isFixed_1 : decode cX12_isFixed 1 = .ok (.iload_n 1, 1) := by decide +kernel
theorem dX12_isFixed_2 : decode cX12_isFixed 2 = .ok (.invokevirtual 47, 3) := by decide +kernel
theorem dX12_isFixed_5 : decode cX12_isFixed 5 = .ok (.istore_n 2, 1) := by decide +kernel
theorem dX12_isFixed_6 : decode cX12_isFixed 6 = .ok (.iload_n 2, 1) := by decide +kernel
theorem dX12_isFixed_7 : decode cX12_isFixed 7 = .ok (.ifCond .eq 8, 3) := by decide +kernel
theorem dX12_isFixed_10 : decode cX12_isFixed 10 = .ok (.iload_n 2, 1) := by decide +kernel
theorem dX12_isFixed_11 : decode cX12_isFixed 11 = .ok (.iconst 1, 1) := by decide +kernel
theorem dX12_isFixed_12 : decode cX12_isFixed 12 = .ok (.if_icmp .ne 7, 3) := by decide +kernel
theorem dX12_isFixed_15 : decode cX12_isFixed 15 = .ok (.iconst 1, 1) := by decide +kernel
theorem dX12_isFixed_16 : decode cX12_isFixed 16 = .ok (.goto 4, 3) := by decide +kernel
theorem dX12_isFixed_19 : decode cX12_isFixed 19 = .ok (.iconst 0, 1) := by decide +kernel
theorem dX12_isFixed_20 : decode cX12_isFixed 20 = .ok (.ireturn, 1) := by decide +kernel
theorem dX12_channels_0 : decode cX12_channels 0 = .ok (.aload_n 0, 1) := by decide +kernel
theorem dX12_channels_1 : decode cX12_channels 1 = .ok (.getfield 7, 3) := by decide +kernel
theorem dX12_channels_4 : decode cX12_channels 4 = .ok (.iconst 0, 1) := by decide +kernel
theorem dX12_channels_5 : decode cX12_channels 5 = .ok (.iaload, 1) := by decide +kernel
theorem dX12_channels_6 : decode cX12_channels 6 = .ok (.iconst 1, 1) := by decide +kernel
theorem dX12_channels_7 : decode cX12_channels 7 = .ok (.isub, 1) := by decide +kernel
theorem dX12_channels_8 : decode cX12_channels 8 = .ok (.aload_n 0, 1) := by decide +kernel
theorem dX12_channels_9 : decode cX12_channels 9 = .ok (.getfield 7, 3) := by decide +kernel
theorem dX12_channels_12 : decode cX12_channels 12 = .ok (.iconst 2, 1) := by decide +kernel
theorem dX12_channels_13 : decode cX12_channels 13 = .ok (.iaload, 1) := by decide +kernel
theorem dX12_channels_14 : decode cX12_channels 14 = .ok (.idiv, 1) := by decide +kernel
theorem dX12_channels_15 : decode cX12_channels 15 = .ok (.ireturn, 1) := by decide +kernel
theorem dX12_key_0 : decode cX12_key 0 = .ok (.aload_n 0, 1) := by decide +kernel
theorem dX12_key_1 : decode cX12_key 1 = .ok (.iconst 0, 1) := by decide +kernel
theorem dX12_key_2 : decode cX12_key 2 = .ok (.putfield 39, 3) := by decide +kernel
theorem dX12_key_5 : decode cX12_key 5 = .ok (.iconst 0, 1) := by decide +kernel
theorem dX12_key_6 : decode cX12_key 6 = .ok (.istore_n 3, 1) := by decide +kernel
theorem dX12_key_7 : decode cX12_key 7 = .ok (.iload_n 3, 1) := by decide +kernel
theorem dX12_key_8 : decode cX12_key 8 = .ok (.bipush 8, 2) := by decide +kernel
theorem dX12_key_10 : decode cX12_key 10 = .ok (.if_icmp .ge 27, 3) := by decide +kernel
theorem dX12_key_13 : decode cX12_key 13 = .ok (.lload_n 1, 1) := by decide +kernel
theorem dX12_key_14 : decode cX12_key 14 = .ok (.bipush 56, 2) := by decide +kernel
theorem dX12_key_16 : decode cX12_key 16 = .ok (.bipush 8, 2) := by decide +kernel
theorem dX12_key_18 : decode cX12_key 18 = .ok (.iload_n 3, 1) := by decide +kernel
theorem dX12_key_19 : decode cX12_key 19 = .ok (.imul, 1) := by decide +kernel
theorem dX12_key_20 : decode cX12_key 20 = .ok (.isub, 1) := by decide +kernel
theorem dX12_key_21 : decode cX12_key 21 = .ok (.lshr, 1) := by decide +kernel
theorem dX12_key_22 : decode cX12_key 22 = .ok (.ldc2_w 50, 3) := by decide +kernel
theorem dX12_key_25 : decode cX12_key 25 = .ok (.land, 1) := by decide +kernel
theorem dX12_key_26 : decode cX12_key 26 = .ok (.lconst 0, 1) := by decide +kernel
theorem dX12_key_27 : decode cX12_key 27 = .ok (.lcmp, 1) := by decide +kernel
theorem dX12_key_28 : decode cX12_key 28 = .ok (.ifCond .eq 9, 3) := by decide +kernel
theorem dX12_key_31 : decode cX12_key 31 = .ok (.iinc 3 1, 3) := by decide +kernel
theorem dX12_key_34 : decode cX12_key 34 = .ok (.goto (-27), 3) := by decide +kernel
theorem dX12_key_37 : decode cX12_key 37 = .ok (.aload_n 0, 1) := by decide +kernel
theorem dX12_key_38 : decode cX12_key 38 = .ok (.getfield 7, 3) := by decide +kernel
theorem dX12_key_41 : decode cX12_key 41 = .ok (.sipush 133, 3) := by decide +kernel
theorem dX12_key_44 : decode cX12_key 44 = .ok (.iaload, 1) := by decide +kernel
theorem dX12_key_45 : decode cX12_key 45 = .ok (.iload_n 3, 1) := by decide +kernel
theorem dX12_key_46 : decode cX12_key 46 = .ok (.iadd, 1) := by decide +kernel
theorem dX12_key_47 : decode cX12_key 47 = .ok (.sipush 300, 3) := by decide +kernel
theorem dX12_key_50 : decode cX12_key 50 = .ok (.if_icmp .le 5, 3) := by decide +kernel
theorem dX12_key_53 : decode cX12_key 53 = .ok (.iconst (-1), 1) := by decide +kernel
theorem dX12_key_54 : decode cX12_key 54 = .ok (.ireturn, 1) := by decide +kernel
theorem dX12_key_55 : decode cX12_key 55 = .ok (.iconst 0, 1) := by decide +kernel
theorem dX12_key_56 : decode cX12_key 56 = .ok (.istore 4, 2) := by decide +kernel
theorem dX12_key_58 : decode cX12_key 58 = .ok (.iload 4, 2) := by decide +kernel
theorem dX12_key_60 : decode cX12_key 60 = .ok (.iload_n 3, 1) := by decide +kernel
theorem dX12_key_61 : decode cX12_key 61 = .ok (.if_icmp .ge 46, 3) := by decide +kernel
theorem dX12_key_64 : decode cX12_key 64 = .ok (.aload_n 0, 1) := by decide +kernel
theorem dX12_key_65 : decode cX12_key 65 = .ok (.getfield 17, 3) := by decide +kernel
theorem dX12_key_68 : decode cX12_key 68 = .ok (.aload_n 0, 1) := by decide +kernel
theorem dX12_key_69 : decode cX12_key 69 = .ok (.getfield 7, 3) := by decide +kernel
theorem dX12_key_72 : decode cX12_key 72 = .ok (.sipush 133, 3) := by decide +kernel
theorem dX12_key_75 : decode cX12_key 75 = .ok (.iaload, 1) := by decide +kernel
theorem dX12_key_76 : decode cX12_key 76 = .ok (.lload_n 1, 1) := by decide +kernel
theorem dX12_key_77 : decode cX12_key 77 = .ok (.bipush 56, 2) := by decide +kernel
theorem dX12_key_79 : decode cX12_key 79 = .ok (.bipush 8, 2) := by decide +kernel
theorem dX12_key_81 : decode cX12_key 81 = .ok (.iload 4, 2) := by decide +kernel
theorem dX12_key_83 : decode cX12_key 83 = .ok (.imul, 1) := by decide +kernel
theorem dX12_key_84 : decode cX12_key 84 = .ok (.isub, 1) := by decide +kernel
theorem dX12_key_85 : decode cX12_key 85 = .ok (.lshr, 1) := by decide +kernel
theorem dX12_key_86 : decode cX12_key 86 = .ok (.l2i, 1) := by decide +kernel
theorem dX12_key_87 : decode cX12_key 87 = .ok (.i2b, 1) := by decide +kernel
theorem dX12_key_88 : decode cX12_key 88 = .ok (.bastore, 1) := by decide +kernel
theorem dX12_key_89 : decode cX12_key 89 = .ok (.aload_n 0, 1) := by decide +kernel
theorem dX12_key_90 : decode cX12_key 90 = .ok (.getfield 7, 3) := by decide +kernel
theorem dX12_key_93 : decode cX12_key 93 = .ok (.sipush 133, 3) := by decide +kernel
theorem dX12_key_96 : decode cX12_key 96 = .ok (.dup2, 1) := by decide +kernel
theorem dX12_key_97 : decode cX12_key 97 = .ok (.iaload, 1) := by decide +kernel
theorem dX12_key_98 : decode cX12_key 98 = .ok (.iconst 1, 1) := by decide +kernel
theorem dX12_key_99 : decode cX12_key 99 = .ok (.iadd, 1) := by decide +kernel
theorem dX12_key_100 : decode cX12_key 100 = .ok (.iastore, 1) := by decide +kernel
theorem dX12_key_101 : decode cX12_key 101 = .ok (.iinc 4 1, 3) := by decide +kernel
theorem dX12_key_104 : decode cX12_key 104 = .ok (.goto (-46), 3) := by decide +kernel
theorem dX12_key_107 : decode cX12_key 107 = .ok (.aload_n 0, 1) := by decide +kernel
theorem dX12_key_108 : decode cX12_key 108 = .ok (.getfield 7, 3) := by decide +kernel
theorem dX12_key_111 : decode cX12_key 111 = .ok (.sipush 133, 3) := by decide +kernel
theorem dX12_key_114 : decode cX12_key 114 = .ok (.iaload, 1) := by decide +kernel
theorem dX12_key_115 : decode cX12_key 115 = .ok (.ireturn, 1) := by decide +kernel
theorem dX12_see_0 : decode cX12_see 0 = .ok (.aload_n 0, 1) := by decide +kernel
theorem dX12_see_1 : decode cX12_see 1 = .ok (.getfield 52, 3) := by decide +kernel
theorem dX12_see_4 : decode cX12_see 4 = .ok (.aload_n 0, 1) := by decide +kernel
theorem dX12_see_5 : decode cX12_see 5 = .ok (.getfield 55, 3) := by decide +kernel
theorem dX12_see_8 : decode cX12_see 8 = .ok (.if_icmp .ge 19, 3) := by decide +kernel
theorem dX12_see_11 : decode cX12_see 11 = .ok (.aload_n 0, 1) := by decide +kernel
theorem dX12_see_12 : decode cX12_see 12 = .ok (.getfield 17, 3) := by decide +kernel
theorem dX12_see_15 : decode cX12_see 15 = .ok (.aload_n 0, 1) := by decide +kernel
theorem dX12_see_16 : decode cX12_see 16 = .ok (.getfield 52, 3) := by decide +kernel
theorem dX12_see_19 : decode cX12_see 19 = .ok (.baload, 1) := by decide +kernel
theorem dX12_see_20 : decode cX12_see 20 = .ok (.sipush 255, 3) := by decide +kernel
theorem dX12_see_23 : decode cX12_see 23 = .ok (.iand, 1) := by decide +kernel
theorem dX12_see_24 : decode cX12_see 24 = .ok (.goto 4, 3) := by decide +kernel
theorem dX12_see_27 : decode cX12_see 27 = .ok (.iconst (-1), 1) := by decide +kernel
theorem dX12_see_28 : decode cX12_see 28 = .ok (.ireturn, 1) := by decide +kernel
set_option maxRecDepth 20000 in
theorem ggX12_token_X12_see : GoodIn wsX12_token wsX12_see := gi_e e_wsX12_token e_wsX12_see (by decide +kernel)
set_option maxRecDepth 20000 in
theorem gX12_token_X12_see : GoodIn wsX12_token (wsV RX12 58 RX12 yX12_see wsX12_see) := goodIn_app (gi_e e_wsX12_token (ce fw_5338 (ce fw_5340 (ce fw_34 (ce fw_1038 (cn))))) (by decide +kernel)) ggX12_token_X12_see
set_option maxRecDepth 20000 in
theorem ggX12_token_X12_in : GoodIn wsX12_token wsX12_in := gi_e e_wsX12_token e_wsX12_in (by decide +kernel)
set_option maxRecDepth 20000 in
theorem gX12_token_X12_in : GoodIn wsX12_token (va_wsS RX12 72 yX12_in wsX12_in) := goodIn_app (gi_e e_wsX12_token (ce fw_5342 (ce fw_5343 (ce fw_1038 (cn)))) (by decide +kernel)) ggX12_token_X12_in
theorem dX12_token_0 : decode cX12_token 0 = .ok (.aload_n 0, 1) := by decide +kernel
theorem dX12_token_1 : decode cX12_token 1 = .ok (.invokevirtual 58, 3) := by decide +kernel
theorem dX12_token_4 : decode cX12_token 4 = .ok (.bipush 10, 2) := by decide +kernel
theorem dX12_token_6 : decode cX12_token 6 = .ok (.if_icmp .eq 12, 3) := by decide +kernel
theorem dX12_token_9 : decode cX12_token 9 = .ok (.aload_n 0, 1) := by decide +kernel
theorem dX12_token_10 : decode cX12_token 10 = .ok (.invokevirtual 58, 3) := by decide +kernel
theorem dX12_token_13 : decode cX12_token 13 = .ok (.bipush 32, 2) := by decide +kernel
theorem dX12_token_15 : decode cX12_token 15 = .ok (.if_icmp .ne 16, 3) := by decide +kernel
theorem dX12_token_18 : decode cX12_token 18 = .ok (.aload_n 0, 1) := by decide +kernel
theorem dX12_token_19 : decode cX12_token 19 = .ok (.dup, 1) := by decide +kernel
theorem dX12_token_20 : decode cX12_token 20 = .ok (.getfield 52, 3) := by decide +kernel
theorem dX12_token_23 : decode cX12_token 23 = .ok (.iconst 1, 1) := by decide +kernel
theorem dX12_token_24 : decode cX12_token 24 = .ok (.iadd, 1) := by decide +kernel
theorem dX12_token_25 : decode cX12_token 25 = .ok (.putfield 52, 3) := by decide +kernel
theorem dX12_token_28 : decode cX12_token 28 = .ok (.goto (-28), 3) := by decide +kernel
theorem dX12_token_31 : decode cX12_token 31 = .ok (.aload_n 0, 1) := by decide +kernel
theorem dX12_token_32 : decode cX12_token 32 = .ok (.aload_n 0, 1) := by decide +kernel
theorem dX12_token_33 : decode cX12_token 33 = .ok (.getfield 52, 3) := by decide +kernel
theorem dX12_token_36 : decode cX12_token 36 = .ok (.putfield 62, 3) := by decide +kernel
theorem dX12_token_39 : decode cX12_token 39 = .ok (.aload_n 0, 1) := by decide +kernel
theorem dX12_token_40 : decode cX12_token 40 = .ok (.invokevirtual 58, 3) := by decide +kernel
theorem dX12_token_43 : decode cX12_token 43 = .ok (.istore_n 1, 1) := by decide +kernel
theorem dX12_token_44 : decode cX12_token 44 = .ok (.aload_n 0, 1) := by decide +kernel
theorem dX12_token_45 : decode cX12_token 45 = .ok (.lconst 0, 1) := by decide +kernel
theorem dX12_token_46 : decode cX12_token 46 = .ok (.putfield 65, 3) := by decide +kernel
theorem dX12_token_49 : decode cX12_token 49 = .ok (.iconst 0, 1) := by decide +kernel
theorem dX12_token_50 : decode cX12_token 50 = .ok (.istore_n 2, 1) := by decide +kernel
theorem dX12_token_51 : decode cX12_token 51 = .ok (.iload_n 1, 1) := by decide +kernel
theorem dX12_token_52 : decode cX12_token 52 = .ok (.ifCond .ge 11, 3) := by decide +kernel
theorem dX12_token_55 : decode cX12_token 55 = .ok (.aload_n 0, 1) := by decide +kernel
theorem dX12_token_56 : decode cX12_token 56 = .ok (.iconst 0, 1) := by decide +kernel
theorem dX12_token_57 : decode cX12_token 57 = .ok (.putfield 69, 3) := by decide +kernel
theorem dX12_token_60 : decode cX12_token 60 = .ok (.goto 206, 3) := by decide +kernel
theorem dX12_token_63 : decode cX12_token 63 = .ok (.iload_n 1, 1) := by decide +kernel
theorem dX12_token_64 : decode cX12_token 64 = .ok (.bipush 97, 2) := by decide +kernel
theorem dX12_token_66 : decode cX12_token 66 = .ok (.bipush 122, 2) := by decide +kernel
theorem dX12_token_68 : decode cX12_token 68 = .ok (.invokestatic 72, 3) := by decide +kernel
theorem dX12_token_71 : decode cX12_token 71 = .ok (.ifCond .eq 76, 3) := by decide +kernel
theorem dX12_token_74 : decode cX12_token 74 = .ok (.aload_n 0, 1) := by decide +kernel
theorem dX12_token_75 : decode cX12_token 75 = .ok (.invokevirtual 58, 3) := by decide +kernel
theorem dX12_token_78 : decode cX12_token 78 = .ok (.bipush 97, 2) := by decide +kernel
theorem dX12_token_80 : decode cX12_token 80 = .ok (.bipush 122, 2) := by decide +kernel
theorem dX12_token_82 : decode cX12_token 82 = .ok (.invokestatic 72, 3) := by decide +kernel
theorem dX12_token_85 : decode cX12_token 85 = .ok (.ifCond .eq 36, 3) := by decide +kernel
theorem dX12_token_88 : decode cX12_token 88 = .ok (.aload_n 0, 1) := by decide +kernel
theorem dX12_token_89 : decode cX12_token 89 = .ok (.aload_n 0, 1) := by decide +kernel
theorem dX12_token_90 : decode cX12_token 90 = .ok (.getfield 65, 3) := by decide +kernel
theorem dX12_token_93 : decode cX12_token 93 = .ok (.bipush 8, 2) := by decide +kernel
theorem dX12_token_95 : decode cX12_token 95 = .ok (.lshl, 1) := by decide +kernel
theorem dX12_token_96 : decode cX12_token 96 = .ok (.aload_n 0, 1) := by decide +kernel
theorem dX12_token_97 : decode cX12_token 97 = .ok (.invokevirtual 58, 3) := by decide +kernel
theorem dX12_token_100 : decode cX12_token 100 = .ok (.i2l, 1) := by decide +kernel
theorem dX12_token_101 : decode cX12_token 101 = .ok (.lor, 1) := by decide +kernel
theorem dX12_token_102 : decode cX12_token 102 = .ok (.putfield 65, 3) := by decide +kernel
theorem dX12_token_105 : decode cX12_token 105 = .ok (.aload_n 0, 1) := by decide +kernel
theorem dX12_token_106 : decode cX12_token 106 = .ok (.dup, 1) := by decide +kernel
theorem dX12_token_107 : decode cX12_token 107 = .ok (.getfield 52, 3) := by decide +kernel
theorem dX12_token_110 : decode cX12_token 110 = .ok (.iconst 1, 1) := by decide +kernel
theorem dX12_token_111 : decode cX12_token 111 = .ok (.iadd, 1) := by decide +kernel
theorem dX12_token_112 : decode cX12_token 112 = .ok (.putfield 52, 3) := by decide +kernel
theorem dX12_token_115 : decode cX12_token 115 = .ok (.iinc 2 1, 3) := by decide +kernel
theorem dX12_token_118 : decode cX12_token 118 = .ok (.goto (-44), 3) := by decide +kernel
theorem dX12_token_121 : decode cX12_token 121 = .ok (.aload_n 0, 1) := by decide +kernel
theorem dX12_token_122 : decode cX12_token 122 = .ok (.iload_n 2, 1) := by decide +kernel
theorem dX12_token_123 : decode cX12_token 123 = .ok (.bipush 8, 2) := by decide +kernel
theorem dX12_token_125 : decode cX12_token 125 = .ok (.if_icmp .le 7, 3) := by decide +kernel
theorem dX12_token_128 : decode cX12_token 128 = .ok (.lconst 0, 1) := by decide +kernel
theorem dX12_token_129 : decode cX12_token 129 = .ok (.goto 7, 3) := by decide +kernel
theorem dX12_token_132 : decode cX12_token 132 = .ok (.aload_n 0, 1) := by decide +kernel
theorem dX12_token_133 : decode cX12_token 133 = .ok (.getfield 65, 3) := by decide +kernel
theorem dX12_token_136 : decode cX12_token 136 = .ok (.putfield 65, 3) := by decide +kernel
theorem dX12_token_139 : decode cX12_token 139 = .ok (.aload_n 0, 1) := by decide +kernel
theorem dX12_token_140 : decode cX12_token 140 = .ok (.iconst 2, 1) := by decide +kernel
theorem dX12_token_141 : decode cX12_token 141 = .ok (.putfield 69, 3) := by decide +kernel
theorem dX12_token_144 : decode cX12_token 144 = .ok (.goto 122, 3) := by decide +kernel
theorem dX12_token_147 : decode cX12_token 147 = .ok (.iload_n 1, 1) := by decide +kernel
theorem dX12_token_148 : decode cX12_token 148 = .ok (.bipush 48, 2) := by decide +kernel
theorem dX12_token_150 : decode cX12_token 150 = .ok (.bipush 57, 2) := by decide +kernel
theorem dX12_token_152 : decode cX12_token 152 = .ok (.invokestatic 72, 3) := by decide +kernel
theorem dX12_token_155 : decode cX12_token 155 = .ok (.ifCond .eq 86, 3) := by decide +kernel
theorem dX12_token_158 : decode cX12_token 158 = .ok (.aload_n 0, 1) := by decide +kernel
theorem dX12_token_159 : decode cX12_token 159 = .ok (.iconst 0, 1) := by decide +kernel
theorem dX12_token_160 : decode cX12_token 160 = .ok (.putfield 76, 3) := by decide +kernel
theorem dX12_token_163 : decode cX12_token 163 = .ok (.aload_n 0, 1) := by decide +kernel
theorem dX12_token_164 : decode cX12_token 164 = .ok (.invokevirtual 58, 3) := by decide +kernel
theorem dX12_token_167 : decode cX12_token 167 = .ok (.bipush 48, 2) := by decide +kernel
theorem dX12_token_169 : decode cX12_token 169 = .ok (.bipush 57, 2) := by decide +kernel
theorem dX12_token_171 : decode cX12_token 171 = .ok (.invokestatic 72, 3) := by decide +kernel
theorem dX12_token_174 : decode cX12_token 174 = .ok (.ifCond .eq 49, 3) := by decide +kernel
theorem dX12_token_177 : decode cX12_token 177 = .ok (.aload_n 0, 1) := by decide +kernel
theorem dX12_token_178 : decode cX12_token 178 = .ok (.iload_n 2, 1) := by decide +kernel
theorem dX12_token_179 : decode cX12_token 179 = .ok (.iconst 3, 1) := by decide +kernel
theorem dX12_token_180 : decode cX12_token 180 = .ok (.if_icmp .ge 21, 3) := by decide +kernel
theorem dX12_token_183 : decode cX12_token 183 = .ok (.bipush 10, 2) := by decide +kernel
theorem dX12_token_185 : decode cX12_token 185 = .ok (.aload_n 0, 1) := by decide +kernel
theorem dX12_token_186 : decode cX12_token 186 = .ok (.getfield 76, 3) := by decide +kernel
theorem dX12_token_189 : decode cX12_token 189 = .ok (.imul, 1) := by decide +kernel
theorem dX12_token_190 : decode cX12_token 190 = .ok (.aload_n 0, 1) := by decide +kernel
theorem dX12_token_191 : decode cX12_token 191 = .ok (.invokevirtual 58, 3) := by decide +kernel
theorem dX12_token_194 : decode cX12_token 194 = .ok (.iadd, 1) := by decide +kernel
theorem dX12_token_195 : decode cX12_token 195 = .ok (.bipush 48, 2) := by decide +kernel
theorem dX12_token_197 : decode cX12_token 197 = .ok (.isub, 1) := by decide +kernel
theorem dX12_token_198 : decode cX12_token 198 = .ok (.goto 6, 3) := by decide +kernel
theorem dX12_token_201 : decode cX12_token 201 = .ok (.sipush 1000, 3) := by decide +kernel
theorem dX12_token_204 : decode cX12_token 204 = .ok (.putfield 76, 3) := by decide +kernel
theorem dX12_token_207 : decode cX12_token 207 = .ok (.aload_n 0, 1) := by decide +kernel
theorem dX12_token_208 : decode cX12_token 208 = .ok (.dup, 1) := by decide +kernel
theorem dX12_token_209 : decode cX12_token 209 = .ok (.getfield 52, 3) := by decide +kernel
theorem dX12_token_212 : decode cX12_token 212 = .ok (.iconst 1, 1) := by decide +kernel
theorem dX12_token_213 : decode cX12_token 213 = .ok (.iadd, 1) := by decide +kernel
theorem dX12_token_214 : decode cX12_token 214 = .ok (.putfield 52, 3) := by decide +kernel
theorem dX12_token_217 : decode cX12_token 217 = .ok (.iinc 2 1, 3) := by decide +kernel
theorem dX12_token_220 : decode cX12_token 220 = .ok (.goto (-57), 3) := by decide +kernel
theorem dX12_token_223 : decode cX12_token 223 = .ok (.aload_n 0, 1) := by decide +kernel
theorem dX12_token_224 : decode cX12_token 224 = .ok (.iload_n 2, 1) := by decide +kernel
theorem dX12_token_225 : decode cX12_token 225 = .ok (.bipush 12, 2) := by decide +kernel
theorem dX12_token_227 : decode cX12_token 227 = .ok (.if_icmp .le 7, 3) := by decide +kernel
theorem dX12_token_230 : decode cX12_token 230 = .ok (.iconst 1, 1) := by decide +kernel
theorem dX12_token_231 : decode cX12_token 231 = .ok (.goto 4, 3) := by decide +kernel
theorem dX12_token_234 : decode cX12_token 234 = .ok (.iconst 3, 1) := by decide +kernel
theorem dX12_token_235 : decode cX12_token 235 = .ok (.putfield 69, 3) := by decide +kernel
theorem dX12_token_238 : decode cX12_token 238 = .ok (.goto 28, 3) := by decide +kernel
theorem dX12_token_241 : decode cX12_token 241 = .ok (.aload_n 0, 1) := by decide +kernel
theorem dX12_token_242 : decode cX12_token 242 = .ok (.dup, 1) := by decide +kernel
theorem dX12_token_243 : decode cX12_token 243 = .ok (.getfield 52, 3) := by decide +kernel
theorem dX12_token_246 : decode cX12_token 246 = .ok (.iconst 1, 1) := by decide +kernel
theorem dX12_token_247 : decode cX12_token 247 = .ok (.iadd, 1) := by decide +kernel
theorem dX12_token_248 : decode cX12_token 248 = .ok (.putfield 52, 3) := by decide +kernel
theorem dX12_token_251 : decode cX12_token 251 = .ok (.aload_n 0, 1) := by decide +kernel
theorem dX12_token_252 : decode cX12_token 252 = .ok (.iload_n 1, 1) := by decide +kernel
theorem dX12_token_253 : decode cX12_token 253 = .ok (.bipush 59, 2) := by decide +kernel
theorem dX12_token_255 : decode cX12_token 255 = .ok (.if_icmp .ne 7, 3) := by decide +kernel
theorem dX12_token_258 : decode cX12_token 258 = .ok (.iconst 4, 1) := by decide +kernel
theorem dX12_token_259 : decode cX12_token 259 = .ok (.goto 4, 3) := by decide +kernel
theorem dX12_token_262 : decode cX12_token 262 = .ok (.iconst 1, 1) := by decide +kernel
theorem dX12_token_263 : decode cX12_token 263 = .ok (.putfield 69, 3) := by decide +kernel
theorem dX12_token_266 : decode cX12_token 266 = .ok (.aload_n 0, 1) := by decide +kernel
theorem dX12_token_267 : decode cX12_token 267 = .ok (.iload_n 2, 1) := by decide +kernel
theorem dX12_token_268 : decode cX12_token 268 = .ok (.putfield 79, 3) := by decide +kernel
theorem dX12_token_271 : decode cX12_token 271 = .ok (.return_, 1) := by decide +kernel
theorem dX12_fails_0 : decode cX12_fails 0 = .ok (.aload_n 0, 1) := by decide +kernel
theorem dX12_fails_1 : decode cX12_fails 1 = .ok (.aload_n 0, 1) := by decide +kernel
theorem dX12_fails_2 : decode cX12_fails 2 = .ok (.getfield 62, 3) := by decide +kernel
theorem dX12_fails_5 : decode cX12_fails 5 = .ok (.putfield 82, 3) := by decide +kernel
theorem dX12_fails_8 : decode cX12_fails 8 = .ok (.iconst 0, 1) := by decide +kernel
theorem dX12_fails_9 : decode cX12_fails 9 = .ok (.ireturn, 1) := by decide +kernel
theorem dX12_isBad_0 : decode cX12_isBad 0 = .ok (.aload_n 0, 1) := by decide +kernel
theorem dX12_isBad_1 : decode cX12_isBad 1 = .ok (.aload_n 0, 1) := by decide +kernel
theorem dX12_isBad_2 : decode cX12_isBad 2 = .ok (.getfield 85, 3) := by decide +kernel
theorem dX12_isBad_5 : decode cX12_isBad 5 = .ok (.iconst (-1), 1) := by decide +kernel
theorem dX12_isBad_6 : decode cX12_isBad 6 = .ok (.if_icmp .eq 11, 3) := by decide +kernel
theorem dX12_isBad_9 : decode cX12_isBad 9 = .ok (.iload_n 1, 1) := by decide +kernel
theorem dX12_isBad_10 : decode cX12_isBad 10 = .ok (.aload_n 0, 1) := by decide +kernel
theorem dX12_isBad_11 : decode cX12_isBad 11 = .ok (.getfield 85, 3) := by decide +kernel
theorem dX12_isBad_14 : decode cX12_isBad 14 = .ok (.if_icmp .ge 7, 3) := by decide +kernel
theorem dX12_isBad_17 : decode cX12_isBad 17 = .ok (.iload_n 1, 1) := by decide +kernel
theorem dX12_isBad_18 : decode cX12_isBad 18 = .ok (.goto 7, 3) := by decide +kernel
theorem dX12_isBad_21 : decode cX12_isBad 21 = .ok (.aload_n 0, 1) := by decide +kernel
theorem dX12_isBad_22 : decode cX12_isBad 22 = .ok (.getfield 85, 3) := by decide +kernel
theorem dX12_isBad_25 : decode cX12_isBad 25 = .ok (.putfield 85, 3) := by decide +kernel
theorem dX12_isBad_28 : decode cX12_isBad 28 = .ok (.return_, 1) := by decide +kernel
set_option maxRecDepth 20000 in
theorem ggX12_takes_X12_fails : GoodIn wsX12_takes wsX12_fails := gi_e e_wsX12_takes e_wsX12_fails (by decide +kernel)
set_option maxRecDepth 20000 in
theorem gX12_takes_X12_fails : GoodIn wsX12_takes (wsV RX12 88 RX12 yX12_fails wsX12_fails) := goodIn_app (gi_e e_wsX12_takes (ce fw_5358 (ce fw_6144 (ce fw_38 (ce fw_1038 (cn))))) (by decide +kernel)) ggX12_takes_X12_fails
set_option maxRecDepth 20000 in
theorem ggX12_takes_X12_in : GoodIn wsX12_takes wsX12_in := gi_e e_wsX12_takes e_wsX12_in (by decide +kernel)
set_option maxRecDepth 20000 in
theorem gX12_takes_X12_in : GoodIn wsX12_takes (va_wsS RX12 72 yX12_in wsX12_in) := goodIn_app (gi_e e_wsX12_takes (ce fw_5342 (ce fw_5343 (ce fw_1038 (cn)))) (by decide +kernel)) ggX12_takes_X12_in
set_option maxRecDepth 20000 in
theorem ggX12_takes_X12_isBad : GoodIn wsX12_takes wsX12_isBad := gi_e e_wsX12_takes e_wsX12_isBad (by decide +kernel)
set_option maxRecDepth 20000 in
theorem gX12_takes_X12_isBad : GoodIn wsX12_takes (wsV RX12 92 RX12 yX12_isBad wsX12_isBad) := goodIn_app (gi_e e_wsX12_takes (ce fw_6146 (ce fw_6148 (ce fw_39 (ce fw_1038 (cn))))) (by decide +kernel)) ggX12_takes_X12_isBad
set_option maxRecDepth 20000 in
theorem ggX12_takes_X12_token : GoodIn wsX12_takes wsX12_token := gi_e e_wsX12_takes e_wsX12_token (by decide +kernel)
set_option maxRecDepth 20000 in
theorem gX12_takes_X12_token : GoodIn wsX12_takes (wsV RX12 96 RX12 yX12_token wsX12_token) := goodIn_app (gi_e e_wsX12_takes (ce fw_5334 (ce fw_5336 (ce fw_33 (ce fw_1038 (cn))))) (by decide +kernel)) ggX12_takes_X12_token
theorem dX12_takes_0 : decode cX12_takes 0 = .ok (.aload_n 0, 1) := by decide +kernel
theorem dX12_takes_1 : decode cX12_takes 1 = .ok (.getfield 69, 3) := by decide +kernel
theorem dX12_takes_4 : decode cX12_takes 4 = .ok (.iconst 3, 1) := by decide +kernel
theorem dX12_takes_5 : decode cX12_takes 5 = .ok (.if_icmp .eq 8, 3) := by decide +kernel
theorem dX12_takes_8 : decode cX12_takes 8 = .ok (.aload_n 0, 1) := by decide +kernel
theorem dX12_takes_9 : decode cX12_takes 9 = .ok (.invokevirtual 88, 3) := by decide +kernel
theorem dX12_takes_12 : decode cX12_takes 12 = .ok (.ireturn, 1) := by decide +kernel
theorem dX12_takes_13 : decode cX12_takes 13 = .ok (.aload_n 0, 1) := by decide +kernel
theorem dX12_takes_14 : decode cX12_takes 14 = .ok (.getfield 76, 3) := by decide +kernel
theorem dX12_takes_17 : decode cX12_takes 17 = .ok (.iload_n 2, 1) := by decide +kernel
theorem dX12_takes_18 : decode cX12_takes 18 = .ok (.iload_n 3, 1) := by decide +kernel
theorem dX12_takes_19 : decode cX12_takes 19 = .ok (.invokestatic 72, 3) := by decide +kernel
theorem dX12_takes_22 : decode cX12_takes 22 = .ok (.ifCond .ne 11, 3) := by decide +kernel
theorem dX12_takes_25 : decode cX12_takes 25 = .ok (.aload_n 0, 1) := by decide +kernel
theorem dX12_takes_26 : decode cX12_takes 26 = .ok (.aload_n 0, 1) := by decide +kernel
theorem dX12_takes_27 : decode cX12_takes 27 = .ok (.getfield 62, 3) := by decide +kernel
theorem dX12_takes_30 : decode cX12_takes 30 = .ok (.invokevirtual 92, 3) := by decide +kernel
theorem dX12_takes_33 : decode cX12_takes 33 = .ok (.aload_n 0, 1) := by decide +kernel
theorem dX12_takes_34 : decode cX12_takes 34 = .ok (.getfield 30, 3) := by decide +kernel
theorem dX12_takes_37 : decode cX12_takes 37 = .ok (.iload_n 1, 1) := by decide +kernel
theorem dX12_takes_38 : decode cX12_takes 38 = .ok (.aload_n 0, 1) := by decide +kernel
theorem dX12_takes_39 : decode cX12_takes 39 = .ok (.getfield 76, 3) := by decide +kernel
theorem dX12_takes_42 : decode cX12_takes 42 = .ok (.iastore, 1) := by decide +kernel
theorem dX12_takes_43 : decode cX12_takes 43 = .ok (.aload_n 0, 1) := by decide +kernel
theorem dX12_takes_44 : decode cX12_takes 44 = .ok (.invokevirtual 96, 3) := by decide +kernel
theorem dX12_takes_47 : decode cX12_takes 47 = .ok (.iconst 1, 1) := by decide +kernel
theorem dX12_takes_48 : decode cX12_takes 48 = .ok (.ireturn, 1) := by decide +kernel
theorem dX12_isRoleToken_0 : decode cX12_isRoleToken 0 = .ok (.iconst 0, 1) := by decide +kernel
theorem dX12_isRoleToken_1 : decode cX12_isRoleToken 1 = .ok (.istore_n 2, 1) := by decide +kernel
theorem dX12_isRoleToken_2 : decode cX12_isRoleToken 2 = .ok (.iload_n 2, 1) := by decide +kernel
theorem dX12_isRoleToken_3 : decode cX12_isRoleToken 3 = .ok (.aload_n 0, 1) := by decide +kernel
theorem dX12_isRoleToken_4 : decode cX12_isRoleToken 4 = .ok (.getfield 79, 3) := by decide +kernel
theorem dX12_isRoleToken_7 : decode cX12_isRoleToken 7 = .ok (.if_icmp .ge 125, 3) := by decide +kernel
theorem dX12_isRoleToken_10 : decode cX12_isRoleToken 10 = .ok (.aload_n 0, 1) := by decide +kernel
theorem dX12_isRoleToken_11 : decode cX12_isRoleToken 11 = .ok (.getfield 17, 3) := by decide +kernel
theorem dX12_isRoleToken_14 : decode cX12_isRoleToken 14 = .ok (.aload_n 0, 1) := by decide +kernel
theorem dX12_isRoleToken_15 : decode cX12_isRoleToken 15 = .ok (.getfield 62, 3) := by decide +kernel
theorem dX12_isRoleToken_18 : decode cX12_isRoleToken 18 = .ok (.iload_n 2, 1) := by decide +kernel
theorem dX12_isRoleToken_19 : decode cX12_isRoleToken 19 = .ok (.iadd, 1) := by decide +kernel
theorem dX12_isRoleToken_20 : decode cX12_isRoleToken 20 = .ok (.baload, 1) := by decide +kernel
theorem dX12_isRoleToken_21 : decode cX12_isRoleToken 21 = .ok (.istore_n 3, 1) := by decide +kernel
theorem dX12_isRoleToken_22 : decode cX12_isRoleToken 22 = .ok (.aload_n 0, 1) := by decide +kernel
theorem dX12_isRoleToken_23 : decode cX12_isRoleToken 23 = .ok (.getfield 69, 3) := by decide +kernel
theorem dX12_isRoleToken_26 : decode cX12_isRoleToken 26 = .ok (.iconst 3, 1) := by decide +kernel
theorem dX12_isRoleToken_27 : decode cX12_isRoleToken 27 = .ok (.if_icmp .ne 23, 3) := by decide +kernel
theorem dX12_isRoleToken_30 : decode cX12_isRoleToken 30 = .ok (.iload_n 3, 1) := by decide +kernel
theorem dX12_isRoleToken_31 : decode cX12_isRoleToken 31 = .ok (.bipush 48, 2) := by decide +kernel
theorem dX12_isRoleToken_33 : decode cX12_isRoleToken 33 = .ok (.if_icmp .eq 9, 3) := by decide +kernel
theorem dX12_isRoleToken_36 : decode cX12_isRoleToken 36 = .ok (.iload_n 3, 1) := by decide +kernel
theorem dX12_isRoleToken_37 : decode cX12_isRoleToken 37 = .ok (.bipush 49, 2) := by decide +kernel
theorem dX12_isRoleToken_39 : decode cX12_isRoleToken 39 = .ok (.if_icmp .ne 7, 3) := by decide +kernel
theorem dX12_isRoleToken_42 : decode cX12_isRoleToken 42 = .ok (.iconst 1, 1) := by decide +kernel
theorem dX12_isRoleToken_43 : decode cX12_isRoleToken 43 = .ok (.goto 24, 3) := by decide +kernel
theorem dX12_isRoleToken_46 : decode cX12_isRoleToken 46 = .ok (.iconst 0, 1) := by decide +kernel
theorem dX12_isRoleToken_47 : decode cX12_isRoleToken 47 = .ok (.goto 20, 3) := by decide +kernel
theorem dX12_isRoleToken_50 : decode cX12_isRoleToken 50 = .ok (.iload_n 3, 1) := by decide +kernel
theorem dX12_isRoleToken_51 : decode cX12_isRoleToken 51 = .ok (.bipush 99, 2) := by decide +kernel
theorem dX12_isRoleToken_53 : decode cX12_isRoleToken 53 = .ok (.if_icmp .eq 9, 3) := by decide +kernel
theorem dX12_isRoleToken_56 : decode cX12_isRoleToken 56 = .ok (.iload_n 3, 1) := by decide +kernel
theorem dX12_isRoleToken_57 : decode cX12_isRoleToken 57 = .ok (.bipush 100, 2) := by decide +kernel
theorem dX12_isRoleToken_59 : decode cX12_isRoleToken 59 = .ok (.if_icmp .ne 7, 3) := by decide +kernel
theorem dX12_isRoleToken_62 : decode cX12_isRoleToken 62 = .ok (.iconst 1, 1) := by decide +kernel
theorem dX12_isRoleToken_63 : decode cX12_isRoleToken 63 = .ok (.goto 4, 3) := by decide +kernel
theorem dX12_isRoleToken_66 : decode cX12_isRoleToken 66 = .ok (.iconst 0, 1) := by decide +kernel
theorem dX12_isRoleToken_67 : decode cX12_isRoleToken 67 = .ok (.istore 4, 2) := by decide +kernel
theorem dX12_isRoleToken_69 : decode cX12_isRoleToken 69 = .ok (.iload 4, 2) := by decide +kernel
theorem dX12_isRoleToken_71 : decode cX12_isRoleToken 71 = .ok (.ifCond .ne 5, 3) := by decide +kernel
theorem dX12_isRoleToken_74 : decode cX12_isRoleToken 74 = .ok (.iconst 0, 1) := by decide +kernel
theorem dX12_isRoleToken_75 : decode cX12_isRoleToken 75 = .ok (.ireturn, 1) := by decide +kernel
theorem dX12_isRoleToken_76 : decode cX12_isRoleToken 76 = .ok (.iload_n 1, 1) := by decide +kernel
theorem dX12_isRoleToken_77 : decode cX12_isRoleToken 77 = .ok (.iload_n 2, 1) := by decide +kernel
theorem dX12_isRoleToken_78 : decode cX12_isRoleToken 78 = .ok (.iadd, 1) := by decide +kernel
theorem dX12_isRoleToken_79 : decode cX12_isRoleToken 79 = .ok (.bipush 12, 2) := by decide +kernel
theorem dX12_isRoleToken_81 : decode cX12_isRoleToken 81 = .ok (.if_icmp .ge 45, 3) := by decide +kernel
theorem dX12_isRoleToken_84 : decode cX12_isRoleToken 84 = .ok (.aload_n 0, 1) := by decide +kernel
theorem dX12_isRoleToken_85 : decode cX12_isRoleToken 85 = .ok (.getfield 30, 3) := by decide +kernel
theorem dX12_isRoleToken_88 : decode cX12_isRoleToken 88 = .ok (.bipush 9, 2) := by decide +kernel
theorem dX12_isRoleToken_90 : decode cX12_isRoleToken 90 = .ok (.iload_n 1, 1) := by decide +kernel
theorem dX12_isRoleToken_91 : decode cX12_isRoleToken 91 = .ok (.iadd, 1) := by decide +kernel
theorem dX12_isRoleToken_92 : decode cX12_isRoleToken 92 = .ok (.iload_n 2, 1) := by decide +kernel
theorem dX12_isRoleToken_93 : decode cX12_isRoleToken 93 = .ok (.iadd, 1) := by decide +kernel
theorem dX12_isRoleToken_94 : decode cX12_isRoleToken 94 = .ok (.iload_n 3, 1) := by decide +kernel
theorem dX12_isRoleToken_95 : decode cX12_isRoleToken 95 = .ok (.bipush 48, 2) := by decide +kernel
theorem dX12_isRoleToken_97 : decode cX12_isRoleToken 97 = .ok (.if_icmp .ne 7, 3) := by decide +kernel
theorem dX12_isRoleToken_100 : decode cX12_isRoleToken 100 = .ok (.iconst 0, 1) := by decide +kernel
theorem dX12_isRoleToken_101 : decode cX12_isRoleToken 101 = .ok (.goto 24, 3) := by decide +kernel
theorem dX12_isRoleToken_104 : decode cX12_isRoleToken 104 = .ok (.iload_n 3, 1) := by decide +kernel
theorem dX12_isRoleToken_105 : decode cX12_isRoleToken 105 = .ok (.bipush 49, 2) := by decide +kernel
theorem dX12_isRoleToken_107 : decode cX12_isRoleToken 107 = .ok (.if_icmp .ne 7, 3) := by decide +kernel
theorem dX12_isRoleToken_110 : decode cX12_isRoleToken 110 = .ok (.iconst 1, 1) := by decide +kernel
theorem dX12_isRoleToken_111 : decode cX12_isRoleToken 111 = .ok (.goto 14, 3) := by decide +kernel
theorem dX12_isRoleToken_114 : decode cX12_isRoleToken 114 = .ok (.iload_n 3, 1) := by decide +kernel
theorem dX12_isRoleToken_115 : decode cX12_isRoleToken 115 = .ok (.bipush 99, 2) := by decide +kernel
theorem dX12_isRoleToken_117 : decode cX12_isRoleToken 117 = .ok (.if_icmp .ne 7, 3) := by decide +kernel
theorem dX12_isRoleToken_120 : decode cX12_isRoleToken 120 = .ok (.iconst 2, 1) := by decide +kernel
theorem dX12_isRoleToken_121 : decode cX12_isRoleToken 121 = .ok (.goto 4, 3) := by decide +kernel
theorem dX12_isRoleToken_124 : decode cX12_isRoleToken 124 = .ok (.iconst 3, 1) := by decide +kernel
theorem dX12_isRoleToken_125 : decode cX12_isRoleToken 125 = .ok (.iastore, 1) := by decide +kernel
theorem dX12_isRoleToken_126 : decode cX12_isRoleToken 126 = .ok (.iinc 2 1, 3) := by decide +kernel
theorem dX12_isRoleToken_129 : decode cX12_isRoleToken 129 = .ok (.goto (-127), 3) := by decide +kernel
theorem dX12_isRoleToken_132 : decode cX12_isRoleToken 132 = .ok (.iconst 1, 1) := by decide +kernel
theorem dX12_isRoleToken_133 : decode cX12_isRoleToken 133 = .ok (.ireturn, 1) := by decide +kernel
set_option maxRecDepth 20000 in
theorem ggX12_rolesLine_X12_token : GoodIn wsX12_rolesLine wsX12_token := gi_e e_wsX12_rolesLine e_wsX12_token (by decide +kernel)
set_option maxRecDepth 20000 in
theorem gX12_rolesLine_X12_token : GoodIn wsX12_rolesLine (wsV RX12 96 RX12 yX12_token wsX12_token) := goodIn_app (gi_e e_wsX12_rolesLine (ce fw_5334 (ce fw_5336 (ce fw_33 (ce fw_1038 (cn))))) (by decide +kernel)) ggX12_rolesLine_X12_token
set_option maxRecDepth 20000 in
theorem ggX12_rolesLine_X12_isRoleToken : GoodIn wsX12_rolesLine wsX12_isRoleToken := gi_e e_wsX12_rolesLine e_wsX12_isRoleToken (by decide +kernel)
set_option maxRecDepth 20000 in
theorem gX12_rolesLine_X12_isRoleToken : GoodIn wsX12_rolesLine (wsV RX12 99 RX12 yX12_isRoleToken wsX12_isRoleToken) := goodIn_app (gi_e e_wsX12_rolesLine (ce fw_5354 (ce fw_5356 (ce fw_37 (ce fw_1038 (cn))))) (by decide +kernel)) ggX12_rolesLine_X12_isRoleToken
set_option maxRecDepth 20000 in
theorem ggX12_rolesLine_X12_fails : GoodIn wsX12_rolesLine wsX12_fails := gi_e e_wsX12_rolesLine e_wsX12_fails (by decide +kernel)
set_option maxRecDepth 20000 in
theorem gX12_rolesLine_X12_fails : GoodIn wsX12_rolesLine (wsV RX12 88 RX12 yX12_fails wsX12_fails) := goodIn_app (gi_e e_wsX12_rolesLine (ce fw_5358 (ce fw_6144 (ce fw_38 (ce fw_1038 (cn))))) (by decide +kernel)) ggX12_rolesLine_X12_fails
set_option maxRecDepth 20000 in
theorem ggX12_rolesLine_X12_in : GoodIn wsX12_rolesLine wsX12_in := gi_e e_wsX12_rolesLine e_wsX12_in (by decide +kernel)
set_option maxRecDepth 20000 in
theorem gX12_rolesLine_X12_in : GoodIn wsX12_rolesLine (va_wsS RX12 72 yX12_in wsX12_in) := goodIn_app (gi_e e_wsX12_rolesLine (ce fw_5342 (ce fw_5343 (ce fw_1038 (cn)))) (by decide +kernel)) ggX12_rolesLine_X12_in
set_option maxRecDepth 20000 in
theorem ggX12_rolesLine_X12_isBad : GoodIn wsX12_rolesLine wsX12_isBad := gi_e e_wsX12_rolesLine e_wsX12_isBad (by decide +kernel)
set_option maxRecDepth 20000 in
theorem gX12_rolesLine_X12_isBad : GoodIn wsX12_rolesLine (wsV RX12 92 RX12 yX12_isBad wsX12_isBad) := goodIn_app (gi_e e_wsX12_rolesLine (ce fw_6146 (ce fw_6148 (ce fw_39 (ce fw_1038 (cn))))) (by decide +kernel)) ggX12_rolesLine_X12_isBad
set_option maxRecDepth 20000 in
theorem ggX12_rolesLine_X12_lesser : GoodIn wsX12_rolesLine wsX12_lesser := gi_e e_wsX12_rolesLine e_wsX12_lesser (by decide +kernel)
set_option maxRecDepth 20000 in
theorem gX12_rolesLine_X12_lesser : GoodIn wsX12_rolesLine (va_wsS RX12 103 yX12_lesser wsX12_lesser) := goodIn_app (gi_e e_wsX12_rolesLine (ce fw_6150 (ce fw_6151 (ce fw_1038 (cn)))) (by decide +kernel)) ggX12_rolesLine_X12_lesser
theorem dX12_rolesLine_0 : decode cX12_rolesLine 0 = .ok (.aload_n 0, 1) := by decide +kernel
theorem dX12_rolesLine_1 : decode cX12_rolesLine 1 = .ok (.getfield 62, 3) := by decide +kernel
theorem dX12_rolesLine_4 : decode cX12_rolesLine 4 = .ok (.istore_n 1, 1) := by decide +kernel
theorem dX12_rolesLine_5 : decode cX12_rolesLine 5 = .ok (.aload_n 0, 1) := by decide +kernel
theorem dX12_rolesLine_6 : decode cX12_rolesLine 6 = .ok (.invokevirtual 96, 3) := by decide +kernel
theorem dX12_rolesLine_9 : decode cX12_rolesLine 9 = .ok (.iconst 0, 1) := by decide +kernel
theorem dX12_rolesLine_10 : decode cX12_rolesLine 10 = .ok (.istore_n 2, 1) := by decide +kernel
theorem dX12_rolesLine_11 : decode cX12_rolesLine 11 = .ok (.aload_n 0, 1) := by decide +kernel
theorem dX12_rolesLine_12 : decode cX12_rolesLine 12 = .ok (.getfield 69, 3) := by decide +kernel
theorem dX12_rolesLine_15 : decode cX12_rolesLine 15 = .ok (.iconst 3, 1) := by decide +kernel
theorem dX12_rolesLine_16 : decode cX12_rolesLine 16 = .ok (.if_icmp .eq 11, 3) := by decide +kernel
theorem dX12_rolesLine_19 : decode cX12_rolesLine 19 = .ok (.aload_n 0, 1) := by decide +kernel
theorem dX12_rolesLine_20 : decode cX12_rolesLine 20 = .ok (.getfield 69, 3) := by decide +kernel
theorem dX12_rolesLine_23 : decode cX12_rolesLine 23 = .ok (.iconst 2, 1) := by decide +kernel
theorem dX12_rolesLine_24 : decode cX12_rolesLine 24 = .ok (.if_icmp .ne 30, 3) := by decide +kernel
theorem dX12_rolesLine_27 : decode cX12_rolesLine 27 = .ok (.aload_n 0, 1) := by decide +kernel
theorem dX12_rolesLine_28 : decode cX12_rolesLine 28 = .ok (.iload_n 2, 1) := by decide +kernel
theorem dX12_rolesLine_29 : decode cX12_rolesLine 29 = .ok (.invokevirtual 99, 3) := by decide +kernel
theorem dX12_rolesLine_32 : decode cX12_rolesLine 32 = .ok (.ifCond .ne 8, 3) := by decide +kernel
theorem dX12_rolesLine_35 : decode cX12_rolesLine 35 = .ok (.aload_n 0, 1) := by decide +kernel
theorem dX12_rolesLine_36 : decode cX12_rolesLine 36 = .ok (.invokevirtual 88, 3) := by decide +kernel
theorem dX12_rolesLine_39 : decode cX12_rolesLine 39 = .ok (.ireturn, 1) := by decide +kernel
theorem dX12_rolesLine_40 : decode cX12_rolesLine 40 = .ok (.iload_n 2, 1) := by decide +kernel
theorem dX12_rolesLine_41 : decode cX12_rolesLine 41 = .ok (.aload_n 0, 1) := by decide +kernel
theorem dX12_rolesLine_42 : decode cX12_rolesLine 42 = .ok (.getfield 79, 3) := by decide +kernel
theorem dX12_rolesLine_45 : decode cX12_rolesLine 45 = .ok (.iadd, 1) := by decide +kernel
theorem dX12_rolesLine_46 : decode cX12_rolesLine 46 = .ok (.istore_n 2, 1) := by decide +kernel
theorem dX12_rolesLine_47 : decode cX12_rolesLine 47 = .ok (.aload_n 0, 1) := by decide +kernel
theorem dX12_rolesLine_48 : decode cX12_rolesLine 48 = .ok (.invokevirtual 96, 3) := by decide +kernel
theorem dX12_rolesLine_51 : decode cX12_rolesLine 51 = .ok (.goto (-40), 3) := by decide +kernel
theorem dX12_rolesLine_54 : decode cX12_rolesLine 54 = .ok (.iload_n 2, 1) := by decide +kernel
theorem dX12_rolesLine_55 : decode cX12_rolesLine 55 = .ok (.ifCond .ne 8, 3) := by decide +kernel
theorem dX12_rolesLine_58 : decode cX12_rolesLine 58 = .ok (.aload_n 0, 1) := by decide +kernel
theorem dX12_rolesLine_59 : decode cX12_rolesLine 59 = .ok (.invokevirtual 88, 3) := by decide +kernel
theorem dX12_rolesLine_62 : decode cX12_rolesLine 62 = .ok (.ireturn, 1) := by decide +kernel
theorem dX12_rolesLine_63 : decode cX12_rolesLine 63 = .ok (.iconst 0, 1) := by decide +kernel
theorem dX12_rolesLine_64 : decode cX12_rolesLine 64 = .ok (.istore_n 3, 1) := by decide +kernel
theorem dX12_rolesLine_65 : decode cX12_rolesLine 65 = .ok (.iconst 0, 1) := by decide +kernel
theorem dX12_rolesLine_66 : decode cX12_rolesLine 66 = .ok (.istore 4, 2) := by decide +kernel
theorem dX12_rolesLine_68 : decode cX12_rolesLine 68 = .ok (.iconst 0, 1) := by decide +kernel
theorem dX12_rolesLine_69 : decode cX12_rolesLine 69 = .ok (.istore 5, 2) := by decide +kernel
theorem dX12_rolesLine_71 : decode cX12_rolesLine 71 = .ok (.iload 5, 2) := by decide +kernel
theorem dX12_rolesLine_73 : decode cX12_rolesLine 73 = .ok (.iload_n 2, 1) := by decide +kernel
theorem dX12_rolesLine_74 : decode cX12_rolesLine 74 = .ok (.if_icmp .ge 62, 3) := by decide +kernel
theorem dX12_rolesLine_77 : decode cX12_rolesLine 77 = .ok (.iload 5, 2) := by decide +kernel
theorem dX12_rolesLine_79 : decode cX12_rolesLine 79 = .ok (.bipush 12, 2) := by decide +kernel
theorem dX12_rolesLine_81 : decode cX12_rolesLine 81 = .ok (.if_icmp .ge 55, 3) := by decide +kernel
theorem dX12_rolesLine_84 : decode cX12_rolesLine 84 = .ok (.iload_n 3, 1) := by decide +kernel
theorem dX12_rolesLine_85 : decode cX12_rolesLine 85 = .ok (.aload_n 0, 1) := by decide +kernel
theorem dX12_rolesLine_86 : decode cX12_rolesLine 86 = .ok (.getfield 30, 3) := by decide +kernel
theorem dX12_rolesLine_89 : decode cX12_rolesLine 89 = .ok (.bipush 9, 2) := by decide +kernel
theorem dX12_rolesLine_91 : decode cX12_rolesLine 91 = .ok (.iload 5, 2) := by decide +kernel
theorem dX12_rolesLine_93 : decode cX12_rolesLine 93 = .ok (.iadd, 1) := by decide +kernel
theorem dX12_rolesLine_94 : decode cX12_rolesLine 94 = .ok (.iaload, 1) := by decide +kernel
theorem dX12_rolesLine_95 : decode cX12_rolesLine 95 = .ok (.iconst 2, 1) := by decide +kernel
theorem dX12_rolesLine_96 : decode cX12_rolesLine 96 = .ok (.if_icmp .ge 7, 3) := by decide +kernel
theorem dX12_rolesLine_99 : decode cX12_rolesLine 99 = .ok (.iconst 1, 1) := by decide +kernel
theorem dX12_rolesLine_100 : decode cX12_rolesLine 100 = .ok (.goto 4, 3) := by decide +kernel
theorem dX12_rolesLine_103 : decode cX12_rolesLine 103 = .ok (.iconst 0, 1) := by decide +kernel
theorem dX12_rolesLine_104 : decode cX12_rolesLine 104 = .ok (.iadd, 1) := by decide +kernel
theorem dX12_rolesLine_105 : decode cX12_rolesLine 105 = .ok (.istore_n 3, 1) := by decide +kernel
theorem dX12_rolesLine_106 : decode cX12_rolesLine 106 = .ok (.iload 4, 2) := by decide +kernel
theorem dX12_rolesLine_108 : decode cX12_rolesLine 108 = .ok (.aload_n 0, 1) := by decide +kernel
theorem dX12_rolesLine_109 : decode cX12_rolesLine 109 = .ok (.getfield 30, 3) := by decide +kernel
theorem dX12_rolesLine_112 : decode cX12_rolesLine 112 = .ok (.bipush 9, 2) := by decide +kernel
theorem dX12_rolesLine_114 : decode cX12_rolesLine 114 = .ok (.iload 5, 2) := by decide +kernel
theorem dX12_rolesLine_116 : decode cX12_rolesLine 116 = .ok (.iadd, 1) := by decide +kernel
theorem dX12_rolesLine_117 : decode cX12_rolesLine 117 = .ok (.iaload, 1) := by decide +kernel
theorem dX12_rolesLine_118 : decode cX12_rolesLine 118 = .ok (.iconst 2, 1) := by decide +kernel
theorem dX12_rolesLine_119 : decode cX12_rolesLine 119 = .ok (.if_icmp .ne 7, 3) := by decide +kernel
theorem dX12_rolesLine_122 : decode cX12_rolesLine 122 = .ok (.iconst 1, 1) := by decide +kernel
theorem dX12_rolesLine_123 : decode cX12_rolesLine 123 = .ok (.goto 4, 3) := by decide +kernel
theorem dX12_rolesLine_126 : decode cX12_rolesLine 126 = .ok (.iconst 0, 1) := by decide +kernel
theorem dX12_rolesLine_127 : decode cX12_rolesLine 127 = .ok (.iadd, 1) := by decide +kernel
theorem dX12_rolesLine_128 : decode cX12_rolesLine 128 = .ok (.istore 4, 2) := by decide +kernel
theorem dX12_rolesLine_130 : decode cX12_rolesLine 130 = .ok (.iinc 5 1, 3) := by decide +kernel
theorem dX12_rolesLine_133 : decode cX12_rolesLine 133 = .ok (.goto (-62), 3) := by decide +kernel
theorem dX12_rolesLine_136 : decode cX12_rolesLine 136 = .ok (.iload_n 2, 1) := by decide +kernel
theorem dX12_rolesLine_137 : decode cX12_rolesLine 137 = .ok (.iconst 2, 1) := by decide +kernel
theorem dX12_rolesLine_138 : decode cX12_rolesLine 138 = .ok (.bipush 12, 2) := by decide +kernel
theorem dX12_rolesLine_140 : decode cX12_rolesLine 140 = .ok (.invokestatic 72, 3) := by decide +kernel
theorem dX12_rolesLine_143 : decode cX12_rolesLine 143 = .ok (.ifCond .eq 15, 3) := by decide +kernel
theorem dX12_rolesLine_146 : decode cX12_rolesLine 146 = .ok (.iload_n 3, 1) := by decide +kernel
theorem dX12_rolesLine_147 : decode cX12_rolesLine 147 = .ok (.iconst 2, 1) := by decide +kernel
theorem dX12_rolesLine_148 : decode cX12_rolesLine 148 = .ok (.if_icmp .lt 10, 3) := by decide +kernel
theorem dX12_rolesLine_151 : decode cX12_rolesLine 151 = .ok (.iload 4, 2) := by decide +kernel
theorem dX12_rolesLine_153 : decode cX12_rolesLine 153 = .ok (.bipush 6, 2) := by decide +kernel
theorem dX12_rolesLine_155 : decode cX12_rolesLine 155 = .ok (.if_icmp .le 8, 3) := by decide +kernel
theorem dX12_rolesLine_158 : decode cX12_rolesLine 158 = .ok (.aload_n 0, 1) := by decide +kernel
theorem dX12_rolesLine_159 : decode cX12_rolesLine 159 = .ok (.iload_n 1, 1) := by decide +kernel
theorem dX12_rolesLine_160 : decode cX12_rolesLine 160 = .ok (.invokevirtual 92, 3) := by decide +kernel
theorem dX12_rolesLine_163 : decode cX12_rolesLine 163 = .ok (.aload_n 0, 1) := by decide +kernel
theorem dX12_rolesLine_164 : decode cX12_rolesLine 164 = .ok (.getfield 30, 3) := by decide +kernel
theorem dX12_rolesLine_167 : decode cX12_rolesLine 167 = .ok (.bipush 8, 2) := by decide +kernel
theorem dX12_rolesLine_169 : decode cX12_rolesLine 169 = .ok (.iload_n 2, 1) := by decide +kernel
theorem dX12_rolesLine_170 : decode cX12_rolesLine 170 = .ok (.bipush 12, 2) := by decide +kernel
theorem dX12_rolesLine_172 : decode cX12_rolesLine 172 = .ok (.invokestatic 103, 3) := by decide +kernel
theorem dX12_rolesLine_175 : decode cX12_rolesLine 175 = .ok (.iastore, 1) := by decide +kernel
theorem dX12_rolesLine_176 : decode cX12_rolesLine 176 = .ok (.iconst 1, 1) := by decide +kernel
theorem dX12_rolesLine_177 : decode cX12_rolesLine 177 = .ok (.ireturn, 1) := by decide +kernel
set_option maxRecDepth 20000 in
theorem ggX12_driftLine_X12_token : GoodIn wsX12_driftLine wsX12_token := gi_e e_wsX12_driftLine e_wsX12_token (by decide +kernel)
set_option maxRecDepth 20000 in
theorem gX12_driftLine_X12_token : GoodIn wsX12_driftLine (wsV RX12 96 RX12 yX12_token wsX12_token) := goodIn_app (gi_e e_wsX12_driftLine (ce fw_5334 (ce fw_5336 (ce fw_33 (ce fw_1038 (cn))))) (by decide +kernel)) ggX12_driftLine_X12_token
set_option maxRecDepth 20000 in
theorem ggX12_driftLine_X12_takes : GoodIn wsX12_driftLine wsX12_takes := gi_e e_wsX12_driftLine e_wsX12_takes (by decide +kernel)
set_option maxRecDepth 20000 in
theorem gX12_driftLine_X12_takes : GoodIn wsX12_driftLine (wsV RX12 107 RX12 yX12_takes wsX12_takes) := goodIn_app (gi_e e_wsX12_driftLine (ce fw_6159 (ce fw_6161 (ce fw_41 (ce fw_1038 (cn))))) (by decide +kernel)) ggX12_driftLine_X12_takes
theorem dX12_driftLine_0 : decode cX12_driftLine 0 = .ok (.aload_n 0, 1) := by decide +kernel
theorem dX12_driftLine_1 : decode cX12_driftLine 1 = .ok (.invokevirtual 96, 3) := by decide +kernel
theorem dX12_driftLine_4 : decode cX12_driftLine 4 = .ok (.aload_n 0, 1) := by decide +kernel
theorem dX12_driftLine_5 : decode cX12_driftLine 5 = .ok (.bipush 7, 2) := by decide +kernel
theorem dX12_driftLine_7 : decode cX12_driftLine 7 = .ok (.iconst 0, 1) := by decide +kernel
theorem dX12_driftLine_8 : decode cX12_driftLine 8 = .ok (.bipush 50, 2) := by decide +kernel
theorem dX12_driftLine_10 : decode cX12_driftLine 10 = .ok (.invokevirtual 107, 3) := by decide +kernel
theorem dX12_driftLine_13 : decode cX12_driftLine 13 = .ok (.ifCond .ne 5, 3) := by decide +kernel
theorem dX12_driftLine_16 : decode cX12_driftLine 16 = .ok (.iconst 0, 1) := by decide +kernel
theorem dX12_driftLine_17 : decode cX12_driftLine 17 = .ok (.ireturn, 1) := by decide +kernel
theorem dX12_driftLine_18 : decode cX12_driftLine 18 = .ok (.aload_n 0, 1) := by decide +kernel
theorem dX12_driftLine_19 : decode cX12_driftLine 19 = .ok (.getfield 30, 3) := by decide +kernel
theorem dX12_driftLine_22 : decode cX12_driftLine 22 = .ok (.bipush 7, 2) := by decide +kernel
theorem dX12_driftLine_24 : decode cX12_driftLine 24 = .ok (.dup2, 1) := by decide +kernel
theorem dX12_driftLine_25 : decode cX12_driftLine 25 = .ok (.iaload, 1) := by decide +kernel
theorem dX12_driftLine_26 : decode cX12_driftLine 26 = .ok (.iload_n 1, 1) := by decide +kernel
theorem dX12_driftLine_27 : decode cX12_driftLine 27 = .ok (.imul, 1) := by decide +kernel
theorem dX12_driftLine_28 : decode cX12_driftLine 28 = .ok (.iastore, 1) := by decide +kernel
theorem dX12_driftLine_29 : decode cX12_driftLine 29 = .ok (.iconst 1, 1) := by decide +kernel
theorem dX12_driftLine_30 : decode cX12_driftLine 30 = .ok (.ireturn, 1) := by decide +kernel
set_option maxRecDepth 20000 in
theorem ggX12_line_X12_rolesLine : GoodIn wsX12_line wsX12_rolesLine := gi_e e_wsX12_line e_wsX12_rolesLine (by decide +kernel)
set_option maxRecDepth 20000 in
theorem gX12_line_X12_rolesLine : GoodIn wsX12_line (wsV RX12 112 RX12 yX12_rolesLine wsX12_rolesLine) := goodIn_app (gi_e e_wsX12_line (ce fw_5350 (ce fw_5352 (ce fw_36 (ce fw_1038 (cn))))) (by decide +kernel)) ggX12_line_X12_rolesLine
set_option maxRecDepth 20000 in
theorem ggX12_line_X12_driftLine : GoodIn wsX12_line wsX12_driftLine := gi_e e_wsX12_line e_wsX12_driftLine (by decide +kernel)
set_option maxRecDepth 20000 in
theorem gX12_line_X12_driftLine : GoodIn wsX12_line (wsV RX12 119 RX12 yX12_driftLine wsX12_driftLine) := goodIn_app (gi_e e_wsX12_line (ce fw_6155 (ce fw_6157 (ce fw_40 (ce fw_1038 (cn))))) (by decide +kernel)) ggX12_line_X12_driftLine
set_option maxRecDepth 20000 in
theorem ggX12_line_X12_token : GoodIn wsX12_line wsX12_token := gi_e e_wsX12_line e_wsX12_token (by decide +kernel)
set_option maxRecDepth 20000 in
theorem gX12_line_X12_token : GoodIn wsX12_line (wsV RX12 96 RX12 yX12_token wsX12_token) := goodIn_app (gi_e e_wsX12_line (ce fw_5334 (ce fw_5336 (ce fw_33 (ce fw_1038 (cn))))) (by decide +kernel)) ggX12_line_X12_token
set_option maxRecDepth 20000 in
theorem ggX12_line_X12_takes : GoodIn wsX12_line wsX12_takes := gi_e e_wsX12_line e_wsX12_takes (by decide +kernel)
set_option maxRecDepth 20000 in
theorem gX12_line_X12_takes : GoodIn wsX12_line (wsV RX12 107 RX12 yX12_takes wsX12_takes) := goodIn_app (gi_e e_wsX12_line (ce fw_6159 (ce fw_6161 (ce fw_41 (ce fw_1038 (cn))))) (by decide +kernel)) ggX12_line_X12_takes
set_option maxRecDepth 20000 in
theorem ggX12_line_X12_fails : GoodIn wsX12_line wsX12_fails := gi_e e_wsX12_line e_wsX12_fails (by decide +kernel)
set_option maxRecDepth 20000 in
theorem gX12_line_X12_fails : GoodIn wsX12_line (wsV RX12 88 RX12 yX12_fails wsX12_fails) := goodIn_app (gi_e e_wsX12_line (ce fw_5358 (ce fw_6144 (ce fw_38 (ce fw_1038 (cn))))) (by decide +kernel)) ggX12_line_X12_fails
theorem dX12_line_0 : decode cX12_line 0 = .ok (.aload_n 0, 1) := by decide +kernel
theorem dX12_line_1 : decode cX12_line 1 = .ok (.getfield 69, 3) := by decide +kernel
theorem dX12_line_4 : decode cX12_line 4 = .ok (.iconst 2, 1) := by decide +kernel
theorem dX12_line_5 : decode cX12_line 5 = .ok (.if_icmp .ne 10, 3) := by decide +kernel
theorem dX12_line_8 : decode cX12_line 8 = .ok (.aload_n 0, 1) := by decide +kernel
theorem dX12_line_9 : decode cX12_line 9 = .ok (.getfield 65, 3) := by decide +kernel
theorem dX12_line_12 : decode cX12_line 12 = .ok (.goto 4, 3) := by decide +kernel
theorem dX12_line_15 : decode cX12_line 15 = .ok (.lconst 0, 1) := by decide +kernel
theorem dX12_line_16 : decode cX12_line 16 = .ok (.lstore_n 1, 1) := by decide +kernel
theorem dX12_line_17 : decode cX12_line 17 = .ok (.lload_n 1, 1) := by decide +kernel
theorem dX12_line_18 : decode cX12_line 18 = .ok (.ldc2_w 110, 3) := by decide +kernel
theorem dX12_line_21 : decode cX12_line 21 = .ok (.lcmp, 1) := by decide +kernel
theorem dX12_line_22 : decode cX12_line 22 = .ok (.ifCond .ne 8, 3) := by decide +kernel
theorem dX12_line_25 : decode cX12_line 25 = .ok (.aload_n 0, 1) := by decide +kernel
theorem dX12_line_26 : decode cX12_line 26 = .ok (.invokevirtual 112, 3) := by decide +kernel
theorem dX12_line_29 : decode cX12_line 29 = .ok (.ireturn, 1) := by decide +kernel
theorem dX12_line_30 : decode cX12_line 30 = .ok (.lload_n 1, 1) := by decide +kernel
theorem dX12_line_31 : decode cX12_line 31 = .ok (.ldc2_w 115, 3) := by decide +kernel
theorem dX12_line_34 : decode cX12_line 34 = .ok (.lcmp, 1) := by decide +kernel
theorem dX12_line_35 : decode cX12_line 35 = .ok (.ifCond .eq 11, 3) := by decide +kernel
theorem dX12_line_38 : decode cX12_line 38 = .ok (.lload_n 1, 1) := by decide +kernel
theorem dX12_line_39 : decode cX12_line 39 = .ok (.ldc2_w 117, 3) := by decide +kernel
theorem dX12_line_42 : decode cX12_line 42 = .ok (.lcmp, 1) := by decide +kernel
theorem dX12_line_43 : decode cX12_line 43 = .ok (.ifCond .ne 21, 3) := by decide +kernel
theorem dX12_line_46 : decode cX12_line 46 = .ok (.aload_n 0, 1) := by decide +kernel
theorem dX12_line_47 : decode cX12_line 47 = .ok (.lload_n 1, 1) := by decide +kernel
theorem dX12_line_48 : decode cX12_line 48 = .ok (.ldc2_w 117, 3) := by decide +kernel
theorem dX12_line_51 : decode cX12_line 51 = .ok (.lcmp, 1) := by decide +kernel
theorem dX12_line_52 : decode cX12_line 52 = .ok (.ifCond .ne 7, 3) := by decide +kernel
theorem dX12_line_55 : decode cX12_line 55 = .ok (.iconst (-1), 1) := by decide +kernel
theorem dX12_line_56 : decode cX12_line 56 = .ok (.goto 4, 3) := by decide +kernel
theorem dX12_line_59 : decode cX12_line 59 = .ok (.iconst 1, 1) := by decide +kernel
theorem dX12_line_60 : decode cX12_line 60 = .ok (.invokevirtual 119, 3) := by decide +kernel
theorem dX12_line_63 : decode cX12_line 63 = .ok (.ireturn, 1) := by decide +kernel
theorem dX12_line_64 : decode cX12_line 64 = .ok (.lload_n 1, 1) := by decide +kernel
theorem dX12_line_65 : decode cX12_line 65 = .ok (.ldc2_w 122, 3) := by decide +kernel
theorem dX12_line_68 : decode cX12_line 68 = .ok (.lcmp, 1) := by decide +kernel
theorem dX12_line_69 : decode cX12_line 69 = .ok (.ifCond .ne 40, 3) := by decide +kernel
theorem dX12_line_72 : decode cX12_line 72 = .ok (.aload_n 0, 1) := by decide +kernel
theorem dX12_line_73 : decode cX12_line 73 = .ok (.invokevirtual 96, 3) := by decide +kernel
theorem dX12_line_76 : decode cX12_line 76 = .ok (.aload_n 0, 1) := by decide +kernel
theorem dX12_line_77 : decode cX12_line 77 = .ok (.iconst 5, 1) := by decide +kernel
theorem dX12_line_78 : decode cX12_line 78 = .ok (.iconst 1, 1) := by decide +kernel
theorem dX12_line_79 : decode cX12_line 79 = .ok (.iconst 4, 1) := by decide +kernel
theorem dX12_line_80 : decode cX12_line 80 = .ok (.invokevirtual 107, 3) := by decide +kernel
theorem dX12_line_83 : decode cX12_line 83 = .ok (.ifCond .eq 24, 3) := by decide +kernel
theorem dX12_line_86 : decode cX12_line 86 = .ok (.aload_n 0, 1) := by decide +kernel
theorem dX12_line_87 : decode cX12_line 87 = .ok (.bipush 6, 2) := by decide +kernel
theorem dX12_line_89 : decode cX12_line 89 = .ok (.aload_n 0, 1) := by decide +kernel
theorem dX12_line_90 : decode cX12_line 90 = .ok (.getfield 30, 3) := by decide +kernel
theorem dX12_line_93 : decode cX12_line 93 = .ok (.iconst 5, 1) := by decide +kernel
theorem dX12_line_94 : decode cX12_line 94 = .ok (.iaload, 1) := by decide +kernel
theorem dX12_line_95 : decode cX12_line 95 = .ok (.bipush 8, 2) := by decide +kernel
theorem dX12_line_97 : decode cX12_line 97 = .ok (.invokevirtual 107, 3) := by decide +kernel
theorem dX12_line_100 : decode cX12_line 100 = .ok (.ifCond .eq 7, 3) := by decide +kernel
theorem dX12_line_103 : decode cX12_line 103 = .ok (.iconst 1, 1) := by decide +kernel
theorem dX12_line_104 : decode cX12_line 104 = .ok (.goto 4, 3) := by decide +kernel
theorem dX12_line_107 : decode cX12_line 107 = .ok (.iconst 0, 1) := by decide +kernel
theorem dX12_line_108 : decode cX12_line 108 = .ok (.ireturn, 1) := by decide +kernel
theorem dX12_line_109 : decode cX12_line 109 = .ok (.lload_n 1, 1) := by decide +kernel
theorem dX12_line_110 : decode cX12_line 110 = .ok (.ldc2_w 124, 3) := by decide +kernel
theorem dX12_line_113 : decode cX12_line 113 = .ok (.lcmp, 1) := by decide +kernel
theorem dX12_line_114 : decode cX12_line 114 = .ok (.ifCond .eq 40, 3) := by decide +kernel
theorem dX12_line_117 : decode cX12_line 117 = .ok (.lload_n 1, 1) := by decide +kernel
theorem dX12_line_118 : decode cX12_line 118 = .ok (.ldc2_w 126, 3) := by decide +kernel
theorem dX12_line_121 : decode cX12_line 121 = .ok (.lcmp, 1) := by decide +kernel
theorem dX12_line_122 : decode cX12_line 122 = .ok (.ifCond .eq 32, 3) := by decide +kernel
theorem dX12_line_125 : decode cX12_line 125 = .ok (.lload_n 1, 1) := by decide +kernel
theorem dX12_line_126 : decode cX12_line 126 = .ok (.ldc2_w 128, 3) := by decide +kernel
theorem dX12_line_129 : decode cX12_line 129 = .ok (.lcmp, 1) := by decide +kernel
theorem dX12_line_130 : decode cX12_line 130 = .ok (.ifCond .eq 24, 3) := by decide +kernel
theorem dX12_line_133 : decode cX12_line 133 = .ok (.lload_n 1, 1) := by decide +kernel
theorem dX12_line_134 : decode cX12_line 134 = .ok (.ldc2_w 130, 3) := by decide +kernel
theorem dX12_line_137 : decode cX12_line 137 = .ok (.lcmp, 1) := by decide +kernel
theorem dX12_line_138 : decode cX12_line 138 = .ok (.ifCond .eq 16, 3) := by decide +kernel
theorem dX12_line_141 : decode cX12_line 141 = .ok (.lload_n 1, 1) := by decide +kernel
theorem dX12_line_142 : decode cX12_line 142 = .ok (.ldc2_w 132, 3) := by decide +kernel
theorem dX12_line_145 : decode cX12_line 145 = .ok (.lcmp, 1) := by decide +kernel
theorem dX12_line_146 : decode cX12_line 146 = .ok (.ifCond .eq 8, 3) := by decide +kernel
theorem dX12_line_149 : decode cX12_line 149 = .ok (.aload_n 0, 1) := by decide +kernel
theorem dX12_line_150 : decode cX12_line 150 = .ok (.invokevirtual 88, 3) := by decide +kernel
theorem dX12_line_153 : decode cX12_line 153 = .ok (.ireturn, 1) := by decide +kernel
theorem dX12_line_154 : decode cX12_line 154 = .ok (.aload_n 0, 1) := by decide +kernel
theorem dX12_line_155 : decode cX12_line 155 = .ok (.invokevirtual 96, 3) := by decide +kernel
theorem dX12_line_158 : decode cX12_line 158 = .ok (.lload_n 1, 1) := by decide +kernel
theorem dX12_line_159 : decode cX12_line 159 = .ok (.ldc2_w 124, 3) := by decide +kernel
theorem dX12_line_162 : decode cX12_line 162 = .ok (.lcmp, 1) := by decide +kernel
theorem dX12_line_163 : decode cX12_line 163 = .ok (.ifCond .ne 12, 3) := by decide +kernel
theorem dX12_line_166 : decode cX12_line 166 = .ok (.aload_n 0, 1) := by decide +kernel
theorem dX12_line_167 : decode cX12_line 167 = .ok (.iconst 0, 1) := by decide +kernel
theorem dX12_line_168 : decode cX12_line 168 = .ok (.iconst 4, 1) := by decide +kernel
theorem dX12_line_169 : decode cX12_line 169 = .ok (.bipush 24, 2) := by decide +kernel
theorem dX12_line_171 : decode cX12_line 171 = .ok (.invokevirtual 107, 3) := by decide +kernel
theorem dX12_line_174 : decode cX12_line 174 = .ok (.ireturn, 1) := by decide +kernel
theorem dX12_line_175 : decode cX12_line 175 = .ok (.lload_n 1, 1) := by decide +kernel
theorem dX12_line_176 : decode cX12_line 176 = .ok (.ldc2_w 126, 3) := by decide +kernel
theorem dX12_line_179 : decode cX12_line 179 = .ok (.lcmp, 1) := by decide +kernel
theorem dX12_line_180 : decode cX12_line 180 = .ok (.ifCond .ne 14, 3) := by decide +kernel
theorem dX12_line_183 : decode cX12_line 183 = .ok (.aload_n 0, 1) := by decide +kernel
theorem dX12_line_184 : decode cX12_line 184 = .ok (.iconst 1, 1) := by decide +kernel
theorem dX12_line_185 : decode cX12_line 185 = .ok (.iconst 0, 1) := by decide +kernel
theorem dX12_line_186 : decode cX12_line 186 = .ok (.bipush 63, 2) := by decide +kernel
theorem dX12_line_188 : decode cX12_line 188 = .ok (.invokevirtual 107, 3) := by decide +kernel
theorem dX12_line_191 : decode cX12_line 191 = .ok (.goto 49, 3) := by decide +kernel
theorem dX12_line_194 : decode cX12_line 194 = .ok (.lload_n 1, 1) := by decide +kernel
theorem dX12_line_195 : decode cX12_line 195 = .ok (.ldc2_w 128, 3) := by decide +kernel
theorem dX12_line_198 : decode cX12_line 198 = .ok (.lcmp, 1) := by decide +kernel
theorem dX12_line_199 : decode cX12_line 199 = .ok (.ifCond .ne 14, 3) := by decide +kernel
theorem dX12_line_202 : decode cX12_line 202 = .ok (.aload_n 0, 1) := by decide +kernel
theorem dX12_line_203 : decode cX12_line 203 = .ok (.iconst 2, 1) := by decide +kernel
theorem dX12_line_204 : decode cX12_line 204 = .ok (.iconst 1, 1) := by decide +kernel
theorem dX12_line_205 : decode cX12_line 205 = .ok (.bipush 8, 2) := by decide +kernel
theorem dX12_line_207 : decode cX12_line 207 = .ok (.invokevirtual 107, 3) := by decide +kernel
theorem dX12_line_210 : decode cX12_line 210 = .ok (.goto 30, 3) := by decide +kernel
theorem dX12_line_213 : decode cX12_line 213 = .ok (.lload_n 1, 1) := by decide +kernel
theorem dX12_line_214 : decode cX12_line 214 = .ok (.ldc2_w 130, 3) := by decide +kernel
theorem dX12_line_217 : decode cX12_line 217 = .ok (.lcmp, 1) := by decide +kernel
theorem dX12_line_218 : decode cX12_line 218 = .ok (.ifCond .ne 14, 3) := by decide +kernel
theorem dX12_line_221 : decode cX12_line 221 = .ok (.aload_n 0, 1) := by decide +kernel
theorem dX12_line_222 : decode cX12_line 222 = .ok (.iconst 3, 1) := by decide +kernel
theorem dX12_line_223 : decode cX12_line 223 = .ok (.iconst 0, 1) := by decide +kernel
theorem dX12_line_224 : decode cX12_line 224 = .ok (.bipush 12, 2) := by decide +kernel
theorem dX12_line_226 : decode cX12_line 226 = .ok (.invokevirtual 107, 3) := by decide +kernel
theorem dX12_line_229 : decode cX12_line 229 = .ok (.goto 11, 3) := by decide +kernel
theorem dX12_line_232 : decode cX12_line 232 = .ok (.aload_n 0, 1) := by decide +kernel
theorem dX12_line_233 : decode cX12_line 233 = .ok (.iconst 4, 1) := by decide +kernel
theorem dX12_line_234 : decode cX12_line 234 = .ok (.iconst 2, 1) := by decide +kernel
theorem dX12_line_235 : decode cX12_line 235 = .ok (.bipush 24, 2) := by decide +kernel
theorem dX12_line_237 : decode cX12_line 237 = .ok (.invokevirtual 107, 3) := by decide +kernel
theorem dX12_line_240 : decode cX12_line 240 = .ok (.ireturn, 1) := by decide +kernel
theorem dX12_atFirst_0 : decode cX12_atFirst 0 = .ok (.iconst 0, 1) := by decide +kernel
theorem dX12_atFirst_1 : decode cX12_atFirst 1 = .ok (.istore_n 1, 1) := by decide +kernel
theorem dX12_atFirst_2 : decode cX12_atFirst 2 = .ok (.iload_n 1, 1) := by decide +kernel
theorem dX12_atFirst_3 : decode cX12_atFirst 3 = .ok (.bipush 21, 2) := by decide +kernel
theorem dX12_atFirst_5 : decode cX12_atFirst 5 = .ok (.if_icmp .ge 16, 3) := by decide +kernel
theorem dX12_atFirst_8 : decode cX12_atFirst 8 = .ok (.aload_n 0, 1) := by decide +kernel
theorem dX12_atFirst_9 : decode cX12_atFirst 9 = .ok (.getfield 30, 3) := by decide +kernel
theorem dX12_atFirst_12 : decode cX12_atFirst 12 = .ok (.iload_n 1, 1) := by decide +kernel
theorem dX12_atFirst_13 : decode cX12_atFirst 13 = .ok (.iconst 0, 1) := by decide +kernel
theorem dX12_atFirst_14 : decode cX12_atFirst 14 = .ok (.iastore, 1) := by decide +kernel
theorem dX12_atFirst_15 : decode cX12_atFirst 15 = .ok (.iinc 1 1, 3) := by decide +kernel
theorem dX12_atFirst_18 : decode cX12_atFirst 18 = .ok (.goto (-16), 3) := by decide +kernel
theorem dX12_atFirst_21 : decode cX12_atFirst 21 = .ok (.aload_n 0, 1) := by decide +kernel
theorem dX12_atFirst_22 : decode cX12_atFirst 22 = .ok (.getfield 30, 3) := by decide +kernel
theorem dX12_atFirst_25 : decode cX12_atFirst 25 = .ok (.iconst 0, 1) := by decide +kernel
theorem dX12_atFirst_26 : decode cX12_atFirst 26 = .ok (.bipush 8, 2) := by decide +kernel
theorem dX12_atFirst_28 : decode cX12_atFirst 28 = .ok (.iastore, 1) := by decide +kernel
theorem dX12_atFirst_29 : decode cX12_atFirst 29 = .ok (.aload_n 0, 1) := by decide +kernel
theorem dX12_atFirst_30 : decode cX12_atFirst 30 = .ok (.getfield 30, 3) := by decide +kernel
theorem dX12_atFirst_33 : decode cX12_atFirst 33 = .ok (.iconst 2, 1) := by decide +kernel
theorem dX12_atFirst_34 : decode cX12_atFirst 34 = .ok (.bipush 7, 2) := by decide +kernel
theorem dX12_atFirst_36 : decode cX12_atFirst 36 = .ok (.iastore, 1) := by decide +kernel
theorem dX12_atFirst_37 : decode cX12_atFirst 37 = .ok (.aload_n 0, 1) := by decide +kernel
theorem dX12_atFirst_38 : decode cX12_atFirst 38 = .ok (.getfield 30, 3) := by decide +kernel
theorem dX12_atFirst_41 : decode cX12_atFirst 41 = .ok (.iconst 4, 1) := by decide +kernel
theorem dX12_atFirst_42 : decode cX12_atFirst 42 = .ok (.iconst 4, 1) := by decide +kernel
theorem dX12_atFirst_43 : decode cX12_atFirst 43 = .ok (.iastore, 1) := by decide +kernel
theorem dX12_atFirst_44 : decode cX12_atFirst 44 = .ok (.aload_n 0, 1) := by decide +kernel
theorem dX12_atFirst_45 : decode cX12_atFirst 45 = .ok (.getfield 30, 3) := by decide +kernel
theorem dX12_atFirst_48 : decode cX12_atFirst 48 = .ok (.iconst 5, 1) := by decide +kernel
theorem dX12_atFirst_49 : decode cX12_atFirst 49 = .ok (.iconst 2, 1) := by decide +kernel
theorem dX12_atFirst_50 : decode cX12_atFirst 50 = .ok (.iastore, 1) := by decide +kernel
theorem dX12_atFirst_51 : decode cX12_atFirst 51 = .ok (.aload_n 0, 1) := by decide +kernel
theorem dX12_atFirst_52 : decode cX12_atFirst 52 = .ok (.getfield 30, 3) := by decide +kernel
theorem dX12_atFirst_55 : decode cX12_atFirst 55 = .ok (.bipush 6, 2) := by decide +kernel
theorem dX12_atFirst_57 : decode cX12_atFirst 57 = .ok (.iconst 4, 1) := by decide +kernel
theorem dX12_atFirst_58 : decode cX12_atFirst 58 = .ok (.iastore, 1) := by decide +kernel
theorem dX12_atFirst_59 : decode cX12_atFirst 59 = .ok (.aload_n 0, 1) := by decide +kernel
theorem dX12_atFirst_60 : decode cX12_atFirst 60 = .ok (.getfield 30, 3) := by decide +kernel
theorem dX12_atFirst_63 : decode cX12_atFirst 63 = .ok (.bipush 8, 2) := by decide +kernel
theorem dX12_atFirst_65 : decode cX12_atFirst 65 = .ok (.bipush 6, 2) := by decide +kernel
theorem dX12_atFirst_67 : decode cX12_atFirst 67 = .ok (.iastore, 1) := by decide +kernel
theorem dX12_atFirst_68 : decode cX12_atFirst 68 = .ok (.aload_n 0, 1) := by decide +kernel
theorem dX12_atFirst_69 : decode cX12_atFirst 69 = .ok (.getfield 30, 3) := by decide +kernel
theorem dX12_atFirst_72 : decode cX12_atFirst 72 = .ok (.bipush 11, 2) := by decide +kernel
theorem dX12_atFirst_74 : decode cX12_atFirst 74 = .ok (.iconst 1, 1) := by decide +kernel
theorem dX12_atFirst_75 : decode cX12_atFirst 75 = .ok (.iastore, 1) := by decide +kernel
theorem dX12_atFirst_76 : decode cX12_atFirst 76 = .ok (.aload_n 0, 1) := by decide +kernel
theorem dX12_atFirst_77 : decode cX12_atFirst 77 = .ok (.getfield 30, 3) := by decide +kernel
theorem dX12_atFirst_80 : decode cX12_atFirst 80 = .ok (.bipush 13, 2) := by decide +kernel
theorem dX12_atFirst_82 : decode cX12_atFirst 82 = .ok (.iconst 1, 1) := by decide +kernel
theorem dX12_atFirst_83 : decode cX12_atFirst 83 = .ok (.iastore, 1) := by decide +kernel
theorem dX12_atFirst_84 : decode cX12_atFirst 84 = .ok (.aload_n 0, 1) := by decide +kernel
theorem dX12_atFirst_85 : decode cX12_atFirst 85 = .ok (.getfield 30, 3) := by decide +kernel
theorem dX12_atFirst_88 : decode cX12_atFirst 88 = .ok (.bipush 14, 2) := by decide +kernel
theorem dX12_atFirst_90 : decode cX12_atFirst 90 = .ok (.iconst 1, 1) := by decide +kernel
theorem dX12_atFirst_91 : decode cX12_atFirst 91 = .ok (.iastore, 1) := by decide +kernel
theorem dX12_atFirst_92 : decode cX12_atFirst 92 = .ok (.aload_n 0, 1) := by decide +kernel
theorem dX12_atFirst_93 : decode cX12_atFirst 93 = .ok (.iconst (-1), 1) := by decide +kernel
theorem dX12_atFirst_94 : decode cX12_atFirst 94 = .ok (.putfield 85, 3) := by decide +kernel
theorem dX12_atFirst_97 : decode cX12_atFirst 97 = .ok (.aload_n 0, 1) := by decide +kernel
theorem dX12_atFirst_98 : decode cX12_atFirst 98 = .ok (.iconst 0, 1) := by decide +kernel
theorem dX12_atFirst_99 : decode cX12_atFirst 99 = .ok (.putfield 52, 3) := by decide +kernel
theorem dX12_atFirst_102 : decode cX12_atFirst 102 = .ok (.return_, 1) := by decide +kernel
set_option maxRecDepth 20000 in
theorem ggX12_taken_X12_begins : GoodIn wsX12_taken wsX12_begins := gi_e e_wsX12_taken e_wsX12_begins (by decide +kernel)
set_option maxRecDepth 20000 in
theorem gX12_taken_X12_begins : GoodIn wsX12_taken (wsV RX12 134 RX12 yX12_begins wsX12_begins) := goodIn_app (gi_e e_wsX12_taken (ce fw_5251 (ce fw_5253 (ce fw_30 (ce fw_1038 (cn))))) (by decide +kernel)) ggX12_taken_X12_begins
theorem dX12_taken_0 : decode cX12_taken 0 = .ok (.iconst 0, 1) := by decide +kernel
theorem dX12_taken_1 : decode cX12_taken 1 = .ok (.istore_n 1, 1) := by decide +kernel
theorem dX12_taken_2 : decode cX12_taken 2 = .ok (.iload_n 1, 1) := by decide +kernel
theorem dX12_taken_3 : decode cX12_taken 3 = .ok (.sipush 133, 3) := by decide +kernel
theorem dX12_taken_6 : decode cX12_taken 6 = .ok (.if_icmp .ge 31, 3) := by decide +kernel
theorem dX12_taken_9 : decode cX12_taken 9 = .ok (.aload_n 0, 1) := by decide +kernel
theorem dX12_taken_10 : decode cX12_taken 10 = .ok (.getfield 7, 3) := by decide +kernel
theorem dX12_taken_13 : decode cX12_taken 13 = .ok (.iload_n 1, 1) := by decide +kernel
theorem dX12_taken_14 : decode cX12_taken 14 = .ok (.iload_n 1, 1) := by decide +kernel
theorem dX12_taken_15 : decode cX12_taken 15 = .ok (.bipush 21, 2) := by decide +kernel
theorem dX12_taken_17 : decode cX12_taken 17 = .ok (.if_icmp .ge 12, 3) := by decide +kernel
theorem dX12_taken_20 : decode cX12_taken 20 = .ok (.aload_n 0, 1) := by decide +kernel
theorem dX12_taken_21 : decode cX12_taken 21 = .ok (.getfield 30, 3) := by decide +kernel
theorem dX12_taken_24 : decode cX12_taken 24 = .ok (.iload_n 1, 1) := by decide +kernel
theorem dX12_taken_25 : decode cX12_taken 25 = .ok (.iaload, 1) := by decide +kernel
theorem dX12_taken_26 : decode cX12_taken 26 = .ok (.goto 4, 3) := by decide +kernel
theorem dX12_taken_29 : decode cX12_taken 29 = .ok (.iconst 0, 1) := by decide +kernel
theorem dX12_taken_30 : decode cX12_taken 30 = .ok (.iastore, 1) := by decide +kernel
theorem dX12_taken_31 : decode cX12_taken 31 = .ok (.iinc 1 1, 3) := by decide +kernel
theorem dX12_taken_34 : decode cX12_taken 34 = .ok (.goto (-32), 3) := by decide +kernel
theorem dX12_taken_37 : decode cX12_taken 37 = .ok (.aload_n 0, 1) := by decide +kernel
theorem dX12_taken_38 : decode cX12_taken 38 = .ok (.invokevirtual 134, 3) := by decide +kernel
theorem dX12_taken_41 : decode cX12_taken 41 = .ok (.aload_n 0, 1) := by decide +kernel
theorem dX12_taken_42 : decode cX12_taken 42 = .ok (.iconst 0, 1) := by decide +kernel
theorem dX12_taken_43 : decode cX12_taken 43 = .ok (.putfield 137, 3) := by decide +kernel
theorem dX12_taken_46 : decode cX12_taken 46 = .ok (.return_, 1) := by decide +kernel
set_option maxRecDepth 20000 in
theorem ggX12_scheme_X12_atFirst : GoodIn wsX12_scheme wsX12_atFirst := gi_e e_wsX12_scheme e_wsX12_atFirst (by decide +kernel)
set_option maxRecDepth 20000 in
theorem gX12_scheme_X12_atFirst : GoodIn wsX12_scheme (wsV RX12 33 RX12 yX12_atFirst wsX12_atFirst) := goodIn_app (gi_e e_wsX12_scheme (ce fw_5243 (ce fw_5245 (ce fw_28 (ce fw_1038 (cn))))) (by decide +kernel)) ggX12_scheme_X12_atFirst
set_option maxRecDepth 20000 in
theorem ggX12_scheme_X12_token : GoodIn wsX12_scheme wsX12_token := gi_e e_wsX12_scheme e_wsX12_token (by decide +kernel)
set_option maxRecDepth 20000 in
theorem gX12_scheme_X12_token : GoodIn wsX12_scheme (wsV RX12 96 RX12 yX12_token wsX12_token) := goodIn_app (gi_e e_wsX12_scheme (ce fw_5334 (ce fw_5336 (ce fw_33 (ce fw_1038 (cn))))) (by decide +kernel)) ggX12_scheme_X12_token
set_option maxRecDepth 20000 in
theorem ggX12_scheme_X12_line : GoodIn wsX12_scheme wsX12_line := gi_e e_wsX12_scheme e_wsX12_line (by decide +kernel)
set_option maxRecDepth 20000 in
theorem gX12_scheme_X12_line : GoodIn wsX12_scheme (wsV RX12 140 RX12 yX12_line wsX12_line) := goodIn_app (gi_e e_wsX12_scheme (ce fw_5345 (ce fw_5347 (ce fw_35 (ce fw_1038 (cn))))) (by decide +kernel)) ggX12_scheme_X12_line
set_option maxRecDepth 20000 in
theorem ggX12_scheme_X12_fails : GoodIn wsX12_scheme wsX12_fails := gi_e e_wsX12_scheme e_wsX12_fails (by decide +kernel)
set_option maxRecDepth 20000 in
theorem gX12_scheme_X12_fails : GoodIn wsX12_scheme (wsV RX12 88 RX12 yX12_fails wsX12_fails) := goodIn_app (gi_e e_wsX12_scheme (ce fw_5358 (ce fw_6144 (ce fw_38 (ce fw_1038 (cn))))) (by decide +kernel)) ggX12_scheme_X12_fails
set_option maxRecDepth 20000 in
theorem ggX12_scheme_X12_taken : GoodIn wsX12_scheme wsX12_taken := gi_e e_wsX12_scheme e_wsX12_taken (by decide +kernel)
set_option maxRecDepth 20000 in
theorem gX12_scheme_X12_taken : GoodIn wsX12_scheme (wsV RX12 36 RX12 yX12_taken wsX12_taken) := goodIn_app (gi_e e_wsX12_scheme (ce fw_5247 (ce fw_5249 (ce fw_29 (ce fw_1038 (cn))))) (by decide +kernel)) ggX12_scheme_X12_taken
set_option maxRecDepth 20000 in
theorem ggX12_scheme_X12_round : GoodIn wsX12_scheme wsX12_round := gi_e e_wsX12_scheme e_wsX12_round (by decide +kernel)
set_option maxRecDepth 20000 in
theorem gX12_scheme_X12_round : GoodIn wsX12_scheme (wsV RX12 142 RX12 yX12_round wsX12_round) := goodIn_app (gi_e e_wsX12_scheme (ce fw_5259 (ce fw_5261 (ce fw_32 (ce fw_1038 (cn))))) (by decide +kernel)) ggX12_scheme_X12_round
theorem dX12_scheme_0 : decode cX12_scheme 0 = .ok (.aload_n 0, 1) := by decide +kernel
theorem dX12_scheme_1 : decode cX12_scheme 1 = .ok (.iconst 0, 1) := by decide +kernel
theorem dX12_scheme_2 : decode cX12_scheme 2 = .ok (.putfield 39, 3) := by decide +kernel
theorem dX12_scheme_5 : decode cX12_scheme 5 = .ok (.aload_n 0, 1) := by decide +kernel
theorem dX12_scheme_6 : decode cX12_scheme 6 = .ok (.aload_n 0, 1) := by decide +kernel
theorem dX12_scheme_7 : decode cX12_scheme 7 = .ok (.getfield 7, 3) := by decide +kernel
theorem dX12_scheme_10 : decode cX12_scheme 10 = .ok (.sipush 133, 3) := by decide +kernel
theorem dX12_scheme_13 : decode cX12_scheme 13 = .ok (.iaload, 1) := by decide +kernel
theorem dX12_scheme_14 : decode cX12_scheme 14 = .ok (.putfield 55, 3) := by decide +kernel
theorem dX12_scheme_17 : decode cX12_scheme 17 = .ok (.aload_n 0, 1) := by decide +kernel
theorem dX12_scheme_18 : decode cX12_scheme 18 = .ok (.getfield 7, 3) := by decide +kernel
theorem dX12_scheme_21 : decode cX12_scheme 21 = .ok (.sipush 133, 3) := by decide +kernel
theorem dX12_scheme_24 : decode cX12_scheme 24 = .ok (.iconst 0, 1) := by decide +kernel
theorem dX12_scheme_25 : decode cX12_scheme 25 = .ok (.iastore, 1) := by decide +kernel
theorem dX12_scheme_26 : decode cX12_scheme 26 = .ok (.aload_n 0, 1) := by decide +kernel
theorem dX12_scheme_27 : decode cX12_scheme 27 = .ok (.invokevirtual 33, 3) := by decide +kernel
theorem dX12_scheme_30 : decode cX12_scheme 30 = .ok (.aload_n 0, 1) := by decide +kernel
theorem dX12_scheme_31 : decode cX12_scheme 31 = .ok (.invokevirtual 96, 3) := by decide +kernel
theorem dX12_scheme_34 : decode cX12_scheme 34 = .ok (.iconst 1, 1) := by decide +kernel
theorem dX12_scheme_35 : decode cX12_scheme 35 = .ok (.istore_n 1, 1) := by decide +kernel
theorem dX12_scheme_36 : decode cX12_scheme 36 = .ok (.iload_n 1, 1) := by decide +kernel
theorem dX12_scheme_37 : decode cX12_scheme 37 = .ok (.ifCond .eq 43, 3) := by decide +kernel
theorem dX12_scheme_40 : decode cX12_scheme 40 = .ok (.aload_n 0, 1) := by decide +kernel
theorem dX12_scheme_41 : decode cX12_scheme 41 = .ok (.getfield 69, 3) := by decide +kernel
theorem dX12_scheme_44 : decode cX12_scheme 44 = .ok (.ifCond .eq 36, 3) := by decide +kernel
theorem dX12_scheme_47 : decode cX12_scheme 47 = .ok (.aload_n 0, 1) := by decide +kernel
theorem dX12_scheme_48 : decode cX12_scheme 48 = .ok (.invokevirtual 140, 3) := by decide +kernel
theorem dX12_scheme_51 : decode cX12_scheme 51 = .ok (.istore_n 1, 1) := by decide +kernel
theorem dX12_scheme_52 : decode cX12_scheme 52 = .ok (.iload_n 1, 1) := by decide +kernel
theorem dX12_scheme_53 : decode cX12_scheme 53 = .ok (.ifCond .eq 16, 3) := by decide +kernel
theorem dX12_scheme_56 : decode cX12_scheme 56 = .ok (.aload_n 0, 1) := by decide +kernel
theorem dX12_scheme_57 : decode cX12_scheme 57 = .ok (.getfield 69, 3) := by decide +kernel
theorem dX12_scheme_60 : decode cX12_scheme 60 = .ok (.iconst 4, 1) := by decide +kernel
theorem dX12_scheme_61 : decode cX12_scheme 61 = .ok (.if_icmp .eq 8, 3) := by decide +kernel
theorem dX12_scheme_64 : decode cX12_scheme 64 = .ok (.aload_n 0, 1) := by decide +kernel
theorem dX12_scheme_65 : decode cX12_scheme 65 = .ok (.invokevirtual 88, 3) := by decide +kernel
theorem dX12_scheme_68 : decode cX12_scheme 68 = .ok (.istore_n 1, 1) := by decide +kernel
theorem dX12_scheme_69 : decode cX12_scheme 69 = .ok (.iload_n 1, 1) := by decide +kernel
theorem dX12_scheme_70 : decode cX12_scheme 70 = .ok (.ifCond .eq (-34), 3) := by decide +kernel
theorem dX12_scheme_73 : decode cX12_scheme 73 = .ok (.aload_n 0, 1) := by decide +kernel
theorem dX12_scheme_74 : decode cX12_scheme 74 = .ok (.invokevirtual 96, 3) := by decide +kernel
theorem dX12_scheme_77 : decode cX12_scheme 77 = .ok (.goto (-41), 3) := by decide +kernel
theorem dX12_scheme_80 : decode cX12_scheme 80 = .ok (.aload_n 0, 1) := by decide +kernel
theorem dX12_scheme_81 : decode cX12_scheme 81 = .ok (.getfield 7, 3) := by decide +kernel
theorem dX12_scheme_84 : decode cX12_scheme 84 = .ok (.sipush 134, 3) := by decide +kernel
theorem dX12_scheme_87 : decode cX12_scheme 87 = .ok (.iload_n 1, 1) := by decide +kernel
theorem dX12_scheme_88 : decode cX12_scheme 88 = .ok (.ifCond .ne 7, 3) := by decide +kernel
theorem dX12_scheme_91 : decode cX12_scheme 91 = .ok (.iconst 1, 1) := by decide +kernel
theorem dX12_scheme_92 : decode cX12_scheme 92 = .ok (.goto 16, 3) := by decide +kernel
theorem dX12_scheme_95 : decode cX12_scheme 95 = .ok (.aload_n 0, 1) := by decide +kernel
theorem dX12_scheme_96 : decode cX12_scheme 96 = .ok (.getfield 85, 3) := by decide +kernel
theorem dX12_scheme_99 : decode cX12_scheme 99 = .ok (.iconst (-1), 1) := by decide +kernel
theorem dX12_scheme_100 : decode cX12_scheme 100 = .ok (.if_icmp .eq 7, 3) := by decide +kernel
theorem dX12_scheme_103 : decode cX12_scheme 103 = .ok (.iconst 2, 1) := by decide +kernel
theorem dX12_scheme_104 : decode cX12_scheme 104 = .ok (.goto 4, 3) := by decide +kernel
theorem dX12_scheme_107 : decode cX12_scheme 107 = .ok (.iconst 0, 1) := by decide +kernel
theorem dX12_scheme_108 : decode cX12_scheme 108 = .ok (.iastore, 1) := by decide +kernel
theorem dX12_scheme_109 : decode cX12_scheme 109 = .ok (.aload_n 0, 1) := by decide +kernel
theorem dX12_scheme_110 : decode cX12_scheme 110 = .ok (.getfield 7, 3) := by decide +kernel
theorem dX12_scheme_113 : decode cX12_scheme 113 = .ok (.sipush 135, 3) := by decide +kernel
theorem dX12_scheme_116 : decode cX12_scheme 116 = .ok (.iload_n 1, 1) := by decide +kernel
theorem dX12_scheme_117 : decode cX12_scheme 117 = .ok (.ifCond .ne 10, 3) := by decide +kernel
theorem dX12_scheme_120 : decode cX12_scheme 120 = .ok (.aload_n 0, 1) := by decide +kernel
theorem dX12_scheme_121 : decode cX12_scheme 121 = .ok (.getfield 82, 3) := by decide +kernel
theorem dX12_scheme_124 : decode cX12_scheme 124 = .ok (.goto 7, 3) := by decide +kernel
theorem dX12_scheme_127 : decode cX12_scheme 127 = .ok (.aload_n 0, 1) := by decide +kernel
theorem dX12_scheme_128 : decode cX12_scheme 128 = .ok (.getfield 85, 3) := by decide +kernel
theorem dX12_scheme_131 : decode cX12_scheme 131 = .ok (.iastore, 1) := by decide +kernel
theorem dX12_scheme_132 : decode cX12_scheme 132 = .ok (.aload_n 0, 1) := by decide +kernel
theorem dX12_scheme_133 : decode cX12_scheme 133 = .ok (.getfield 7, 3) := by decide +kernel
theorem dX12_scheme_136 : decode cX12_scheme 136 = .ok (.sipush 134, 3) := by decide +kernel
theorem dX12_scheme_139 : decode cX12_scheme 139 = .ok (.iaload, 1) := by decide +kernel
theorem dX12_scheme_140 : decode cX12_scheme 140 = .ok (.ifCond .eq 5, 3) := by decide +kernel
theorem dX12_scheme_143 : decode cX12_scheme 143 = .ok (.iconst (-1), 1) := by decide +kernel
theorem dX12_scheme_144 : decode cX12_scheme 144 = .ok (.ireturn, 1) := by decide +kernel
theorem dX12_scheme_145 : decode cX12_scheme 145 = .ok (.aload_n 0, 1) := by decide +kernel
theorem dX12_scheme_146 : decode cX12_scheme 146 = .ok (.invokevirtual 36, 3) := by decide +kernel
theorem dX12_scheme_149 : decode cX12_scheme 149 = .ok (.aload_n 0, 1) := by decide +kernel
theorem dX12_scheme_150 : decode cX12_scheme 150 = .ok (.invokevirtual 142, 3) := by decide +kernel
theorem dX12_scheme_153 : decode cX12_scheme 153 = .ok (.ireturn, 1) := by decide +kernel
theorem dX12_fault_0 : decode cX12_fault 0 = .ok (.aload_n 0, 1) := by decide +kernel
theorem dX12_fault_1 : decode cX12_fault 1 = .ok (.iconst 0, 1) := by decide +kernel
theorem dX12_fault_2 : decode cX12_fault 2 = .ok (.putfield 39, 3) := by decide +kernel
theorem dX12_fault_5 : decode cX12_fault 5 = .ok (.iload_n 1, 1) := by decide +kernel
theorem dX12_fault_6 : decode cX12_fault 6 = .ok (.ifCond .eq 14, 3) := by decide +kernel
theorem dX12_fault_9 : decode cX12_fault 9 = .ok (.aload_n 0, 1) := by decide +kernel
theorem dX12_fault_10 : decode cX12_fault 10 = .ok (.getfield 7, 3) := by decide +kernel
theorem dX12_fault_13 : decode cX12_fault 13 = .ok (.sipush 135, 3) := by decide +kernel
theorem dX12_fault_16 : decode cX12_fault 16 = .ok (.iaload, 1) := by decide +kernel
theorem dX12_fault_17 : decode cX12_fault 17 = .ok (.goto 11, 3) := by decide +kernel
theorem dX12_fault_20 : decode cX12_fault 20 = .ok (.aload_n 0, 1) := by decide +kernel
theorem dX12_fault_21 : decode cX12_fault 21 = .ok (.getfield 7, 3) := by decide +kernel
theorem dX12_fault_24 : decode cX12_fault 24 = .ok (.sipush 134, 3) := by decide +kernel
theorem dX12_fault_27 : decode cX12_fault 27 = .ok (.iaload, 1) := by decide +kernel
theorem dX12_fault_28 : decode cX12_fault 28 = .ok (.ireturn, 1) := by decide +kernel
theorem dX12_goesOn_0 : decode cX12_goesOn 0 = .ok (.iload_n 3, 1) := by decide +kernel
theorem dX12_goesOn_1 : decode cX12_goesOn 1 = .ok (.ifCond .ne 5, 3) := by decide +kernel
theorem dX12_goesOn_4 : decode cX12_goesOn 4 = .ok (.iconst 0, 1) := by decide +kernel
theorem dX12_goesOn_5 : decode cX12_goesOn 5 = .ok (.ireturn, 1) := by decide +kernel
theorem dX12_goesOn_6 : decode cX12_goesOn 6 = .ok (.iconst 1, 1) := by decide +kernel
theorem dX12_goesOn_7 : decode cX12_goesOn 7 = .ok (.iload_n 3, 1) := by decide +kernel
theorem dX12_goesOn_8 : decode cX12_goesOn 8 = .ok (.ishl, 1) := by decide +kernel
theorem dX12_goesOn_9 : decode cX12_goesOn 9 = .ok (.iconst 1, 1) := by decide +kernel
theorem dX12_goesOn_10 : decode cX12_goesOn 10 = .ok (.isub, 1) := by decide +kernel
theorem dX12_goesOn_11 : decode cX12_goesOn 11 = .ok (.istore 4, 2) := by decide +kernel
theorem dX12_goesOn_13 : decode cX12_goesOn 13 = .ok (.iload_n 1, 1) := by decide +kernel
theorem dX12_goesOn_14 : decode cX12_goesOn 14 = .ok (.iload_n 3, 1) := by decide +kernel
theorem dX12_goesOn_15 : decode cX12_goesOn 15 = .ok (.iconst 1, 1) := by decide +kernel
theorem dX12_goesOn_16 : decode cX12_goesOn 16 = .ok (.isub, 1) := by decide +kernel
theorem dX12_goesOn_17 : decode cX12_goesOn 17 = .ok (.ishr, 1) := by decide +kernel
theorem dX12_goesOn_18 : decode cX12_goesOn 18 = .ok (.iconst 1, 1) := by decide +kernel
theorem dX12_goesOn_19 : decode cX12_goesOn 19 = .ok (.iand, 1) := by decide +kernel
theorem dX12_goesOn_20 : decode cX12_goesOn 20 = .ok (.iload_n 2, 1) := by decide +kernel
theorem dX12_goesOn_21 : decode cX12_goesOn 21 = .ok (.if_icmp .eq 7, 3) := by decide +kernel
theorem dX12_goesOn_24 : decode cX12_goesOn 24 = .ok (.iconst 1, 1) := by decide +kernel
theorem dX12_goesOn_25 : decode cX12_goesOn 25 = .ok (.goto 4, 3) := by decide +kernel
theorem dX12_goesOn_28 : decode cX12_goesOn 28 = .ok (.iconst 0, 1) := by decide +kernel
theorem dX12_goesOn_29 : decode cX12_goesOn 29 = .ok (.istore 5, 2) := by decide +kernel
theorem dX12_goesOn_31 : decode cX12_goesOn 31 = .ok (.iload_n 1, 1) := by decide +kernel
theorem dX12_goesOn_32 : decode cX12_goesOn 32 = .ok (.iconst 1, 1) := by decide +kernel
theorem dX12_goesOn_33 : decode cX12_goesOn 33 = .ok (.ishl, 1) := by decide +kernel
theorem dX12_goesOn_34 : decode cX12_goesOn 34 = .ok (.iload 4, 2) := by decide +kernel
theorem dX12_goesOn_36 : decode cX12_goesOn 36 = .ok (.iand, 1) := by decide +kernel
theorem dX12_goesOn_37 : decode cX12_goesOn 37 = .ok (.istore 6, 2) := by decide +kernel
theorem dX12_goesOn_39 : decode cX12_goesOn 39 = .ok (.iload 5, 2) := by decide +kernel
theorem dX12_goesOn_41 : decode cX12_goesOn 41 = .ok (.ifCond .eq 18, 3) := by decide +kernel
theorem dX12_goesOn_44 : decode cX12_goesOn 44 = .ok (.iload 6, 2) := by decide +kernel
theorem dX12_goesOn_46 : decode cX12_goesOn 46 = .ok (.aload_n 0, 1) := by decide +kernel
theorem dX12_goesOn_47 : decode cX12_goesOn 47 = .ok (.getfield 7, 3) := by decide +kernel
theorem dX12_goesOn_50 : decode cX12_goesOn 50 = .ok (.iconst 1, 1) := by decide +kernel
theorem dX12_goesOn_51 : decode cX12_goesOn 51 = .ok (.iaload, 1) := by decide +kernel
theorem dX12_goesOn_52 : decode cX12_goesOn 52 = .ok (.iload 4, 2) := by decide +kernel
theorem dX12_goesOn_54 : decode cX12_goesOn 54 = .ok (.iand, 1) := by decide +kernel
theorem dX12_goesOn_55 : decode cX12_goesOn 55 = .ok (.ixor, 1) := by decide +kernel
theorem dX12_goesOn_56 : decode cX12_goesOn 56 = .ok (.goto 5, 3) := by decide +kernel
theorem dX12_goesOn_59 : decode cX12_goesOn 59 = .ok (.iload 6, 2) := by decide +kernel
theorem dX12_goesOn_61 : decode cX12_goesOn 61 = .ok (.ireturn, 1) := by decide +kernel
set_option maxRecDepth 20000 in
theorem ggX12_checks_X12_round : GoodIn wsX12_checks wsX12_round := gi_e e_wsX12_checks e_wsX12_round (by decide +kernel)
set_option maxRecDepth 20000 in
theorem gX12_checks_X12_round : GoodIn wsX12_checks (wsV RX12 142 RX12 yX12_round wsX12_round) := goodIn_app (gi_e e_wsX12_checks (ce fw_5259 (ce fw_5261 (ce fw_32 (ce fw_1038 (cn))))) (by decide +kernel)) ggX12_checks_X12_round
set_option maxRecDepth 20000 in
theorem ggX12_checks_X12_in : GoodIn wsX12_checks wsX12_in := gi_e e_wsX12_checks e_wsX12_in (by decide +kernel)
set_option maxRecDepth 20000 in
theorem gX12_checks_X12_in : GoodIn wsX12_checks (va_wsS RX12 72 yX12_in wsX12_in) := goodIn_app (gi_e e_wsX12_checks (ce fw_5342 (ce fw_5343 (ce fw_1038 (cn)))) (by decide +kernel)) ggX12_checks_X12_in
set_option maxRecDepth 20000 in
theorem ggX12_checks_X12_roleOf : GoodIn wsX12_checks wsX12_roleOf := gi_e e_wsX12_checks e_wsX12_roleOf (by decide +kernel)
set_option maxRecDepth 20000 in
theorem gX12_checks_X12_roleOf : GoodIn wsX12_checks (wsV RX12 47 RX12 yX12_roleOf wsX12_roleOf) := goodIn_app (gi_e e_wsX12_checks (ce fw_6177 (ce fw_6179 (ce fw_42 (ce fw_1038 (cn))))) (by decide +kernel)) ggX12_checks_X12_roleOf
set_option maxRecDepth 20000 in
theorem ggX12_checks_X12_checkMany : GoodIn wsX12_checks wsX12_checkMany := gi_e e_wsX12_checks e_wsX12_checkMany (by decide +kernel)
set_option maxRecDepth 20000 in
theorem gX12_checks_X12_checkMany : GoodIn wsX12_checks (wsV RX12 145 RX12 yX12_checkMany wsX12_checkMany) := goodIn_app (gi_e e_wsX12_checks (ce fw_6185 (ce fw_6187 (ce fw_44 (ce fw_1038 (cn))))) (by decide +kernel)) ggX12_checks_X12_checkMany
set_option maxRecDepth 20000 in
theorem ggX12_checks_X12_goesOn : GoodIn wsX12_checks wsX12_goesOn := gi_e e_wsX12_checks e_wsX12_goesOn (by decide +kernel)
set_option maxRecDepth 20000 in
theorem gX12_checks_X12_goesOn : GoodIn wsX12_checks (wsV RX12 148 RX12 yX12_goesOn wsX12_goesOn) := goodIn_app (gi_e e_wsX12_checks (ce fw_6189 (ce fw_6191 (ce fw_45 (ce fw_1038 (cn))))) (by decide +kernel)) ggX12_checks_X12_goesOn
theorem dX12_checks_0 : decode cX12_checks 0 = .ok (.aload_n 0, 1) := by decide +kernel
theorem dX12_checks_1 : decode cX12_checks 1 = .ok (.iconst 0, 1) := by decide +kernel
theorem dX12_checks_2 : decode cX12_checks 2 = .ok (.putfield 39, 3) := by decide +kernel
theorem dX12_checks_5 : decode cX12_checks 5 = .ok (.iload_n 1, 1) := by decide +kernel
theorem dX12_checks_6 : decode cX12_checks 6 = .ok (.iconst 0, 1) := by decide +kernel
theorem dX12_checks_7 : decode cX12_checks 7 = .ok (.aload_n 0, 1) := by decide +kernel
theorem dX12_checks_8 : decode cX12_checks 8 = .ok (.getfield 7, 3) := by decide +kernel
theorem dX12_checks_11 : decode cX12_checks 11 = .ok (.bipush 32, 2) := by decide +kernel
theorem dX12_checks_13 : decode cX12_checks 13 = .ok (.iaload, 1) := by decide +kernel
theorem dX12_checks_14 : decode cX12_checks 14 = .ok (.aload_n 0, 1) := by decide +kernel
theorem dX12_checks_15 : decode cX12_checks 15 = .ok (.invokevirtual 142, 3) := by decide +kernel
theorem dX12_checks_18 : decode cX12_checks 18 = .ok (.isub, 1) := by decide +kernel
theorem dX12_checks_19 : decode cX12_checks 19 = .ok (.invokestatic 72, 3) := by decide +kernel
theorem dX12_checks_22 : decode cX12_checks 22 = .ok (.ifCond .ne 5, 3) := by decide +kernel
theorem dX12_checks_25 : decode cX12_checks 25 = .ok (.iconst (-1), 1) := by decide +kernel
theorem dX12_checks_26 : decode cX12_checks 26 = .ok (.ireturn, 1) := by decide +kernel
theorem dX12_checks_27 : decode cX12_checks 27 = .ok (.iconst 0, 1) := by decide +kernel
theorem dX12_checks_28 : decode cX12_checks 28 = .ok (.istore_n 2, 1) := by decide +kernel
theorem dX12_checks_29 : decode cX12_checks 29 = .ok (.iconst 0, 1) := by decide +kernel
theorem dX12_checks_30 : decode cX12_checks 30 = .ok (.istore_n 3, 1) := by decide +kernel
theorem dX12_checks_31 : decode cX12_checks 31 = .ok (.iload_n 3, 1) := by decide +kernel
theorem dX12_checks_32 : decode cX12_checks 32 = .ok (.aload_n 0, 1) := by decide +kernel
theorem dX12_checks_33 : decode cX12_checks 33 = .ok (.invokevirtual 142, 3) := by decide +kernel
theorem dX12_checks_36 : decode cX12_checks 36 = .ok (.if_icmp .ge 40, 3) := by decide +kernel
theorem dX12_checks_39 : decode cX12_checks 39 = .ok (.aload_n 0, 1) := by decide +kernel
theorem dX12_checks_40 : decode cX12_checks 40 = .ok (.iload_n 2, 1) := by decide +kernel
theorem dX12_checks_41 : decode cX12_checks 41 = .ok (.aload_n 0, 1) := by decide +kernel
theorem dX12_checks_42 : decode cX12_checks 42 = .ok (.iload_n 3, 1) := by decide +kernel
theorem dX12_checks_43 : decode cX12_checks 43 = .ok (.invokevirtual 47, 3) := by decide +kernel
theorem dX12_checks_46 : decode cX12_checks 46 = .ok (.iconst 2, 1) := by decide +kernel
theorem dX12_checks_47 : decode cX12_checks 47 = .ok (.if_icmp .ne 7, 3) := by decide +kernel
theorem dX12_checks_50 : decode cX12_checks 50 = .ok (.iconst 1, 1) := by decide +kernel
theorem dX12_checks_51 : decode cX12_checks 51 = .ok (.goto 11, 3) := by decide +kernel
theorem dX12_checks_54 : decode cX12_checks 54 = .ok (.aload_n 0, 1) := by decide +kernel
theorem dX12_checks_55 : decode cX12_checks 55 = .ok (.getfield 13, 3) := by decide +kernel
theorem dX12_checks_58 : decode cX12_checks 58 = .ok (.iload_n 1, 1) := by decide +kernel
theorem dX12_checks_59 : decode cX12_checks 59 = .ok (.iload_n 3, 1) := by decide +kernel
theorem dX12_checks_60 : decode cX12_checks 60 = .ok (.iadd, 1) := by decide +kernel
theorem dX12_checks_61 : decode cX12_checks 61 = .ok (.baload, 1) := by decide +kernel
theorem dX12_checks_62 : decode cX12_checks 62 = .ok (.aload_n 0, 1) := by decide +kernel
theorem dX12_checks_63 : decode cX12_checks 63 = .ok (.invokevirtual 145, 3) := by decide +kernel
theorem dX12_checks_66 : decode cX12_checks 66 = .ok (.invokevirtual 148, 3) := by decide +kernel
theorem dX12_checks_69 : decode cX12_checks 69 = .ok (.istore_n 2, 1) := by decide +kernel
theorem dX12_checks_70 : decode cX12_checks 70 = .ok (.iinc 3 1, 3) := by decide +kernel
theorem dX12_checks_73 : decode cX12_checks 73 = .ok (.goto (-42), 3) := by decide +kernel
theorem dX12_checks_76 : decode cX12_checks 76 = .ok (.iload_n 2, 1) := by decide +kernel
theorem dX12_checks_77 : decode cX12_checks 77 = .ok (.ireturn, 1) := by decide +kernel
theorem dX12_linked_0 : decode cX12_linked 0 = .ok (.aload_n 0, 1) := by decide +kernel
theorem dX12_linked_1 : decode cX12_linked 1 = .ok (.getfield 7, 3) := by decide +kernel
theorem dX12_linked_4 : decode cX12_linked 4 = .ok (.bipush 21, 2) := by decide +kernel
theorem dX12_linked_6 : decode cX12_linked 6 = .ok (.iaload, 1) := by decide +kernel
theorem dX12_linked_7 : decode cX12_linked 7 = .ok (.ifCond .ne 5, 3) := by decide +kernel
theorem dX12_linked_10 : decode cX12_linked 10 = .ok (.iconst 1, 1) := by decide +kernel
theorem dX12_linked_11 : decode cX12_linked 11 = .ok (.ireturn, 1) := by decide +kernel
theorem dX12_linked_12 : decode cX12_linked 12 = .ok (.aload_n 0, 1) := by decide +kernel
theorem dX12_linked_13 : decode cX12_linked 13 = .ok (.getfield 7, 3) := by decide +kernel
theorem dX12_linked_16 : decode cX12_linked 16 = .ok (.bipush 30, 2) := by decide +kernel
theorem dX12_linked_18 : decode cX12_linked 18 = .ok (.iaload, 1) := by decide +kernel
theorem dX12_linked_19 : decode cX12_linked 19 = .ok (.istore_n 1, 1) := by decide +kernel
theorem dX12_linked_20 : decode cX12_linked 20 = .ok (.iload_n 1, 1) := by decide +kernel
theorem dX12_linked_21 : decode cX12_linked 21 = .ok (.ifCond .ne 7, 3) := by decide +kernel
theorem dX12_linked_24 : decode cX12_linked 24 = .ok (.iconst 0, 1) := by decide +kernel
theorem dX12_linked_25 : decode cX12_linked 25 = .ok (.goto 27, 3) := by decide +kernel
theorem dX12_linked_28 : decode cX12_linked 28 = .ok (.iload_n 1, 1) := by decide +kernel
theorem dX12_linked_29 : decode cX12_linked 29 = .ok (.bipush 9, 2) := by decide +kernel
theorem dX12_linked_31 : decode cX12_linked 31 = .ok (.if_icmp .ne 7, 3) := by decide +kernel
theorem dX12_linked_34 : decode cX12_linked 34 = .ok (.iconst 1, 1) := by decide +kernel
theorem dX12_linked_35 : decode cX12_linked 35 = .ok (.goto 17, 3) := by decide +kernel
theorem dX12_linked_38 : decode cX12_linked 38 = .ok (.aload_n 0, 1) := by decide +kernel
theorem dX12_linked_39 : decode cX12_linked 39 = .ok (.getfield 7, 3) := by decide +kernel
theorem dX12_linked_42 : decode cX12_linked 42 = .ok (.bipush 22, 2) := by decide +kernel
theorem dX12_linked_44 : decode cX12_linked 44 = .ok (.iaload, 1) := by decide +kernel
theorem dX12_linked_45 : decode cX12_linked 45 = .ok (.bipush 8, 2) := by decide +kernel
theorem dX12_linked_47 : decode cX12_linked 47 = .ok (.iload_n 1, 1) := by decide +kernel
theorem dX12_linked_48 : decode cX12_linked 48 = .ok (.isub, 1) := by decide +kernel
theorem dX12_linked_49 : decode cX12_linked 49 = .ok (.ishr, 1) := by decide +kernel
theorem dX12_linked_50 : decode cX12_linked 50 = .ok (.iconst 1, 1) := by decide +kernel
theorem dX12_linked_51 : decode cX12_linked 51 = .ok (.iand, 1) := by decide +kernel
theorem dX12_linked_52 : decode cX12_linked 52 = .ok (.istore_n 2, 1) := by decide +kernel
theorem dX12_linked_53 : decode cX12_linked 53 = .ok (.aload_n 0, 1) := by decide +kernel
theorem dX12_linked_54 : decode cX12_linked 54 = .ok (.getfield 7, 3) := by decide +kernel
theorem dX12_linked_57 : decode cX12_linked 57 = .ok (.bipush 30, 2) := by decide +kernel
theorem dX12_linked_59 : decode cX12_linked 59 = .ok (.dup2, 1) := by decide +kernel
theorem dX12_linked_60 : decode cX12_linked 60 = .ok (.iaload, 1) := by decide +kernel
theorem dX12_linked_61 : decode cX12_linked 61 = .ok (.iconst 1, 1) := by decide +kernel
theorem dX12_linked_62 : decode cX12_linked 62 = .ok (.iadd, 1) := by decide +kernel
theorem dX12_linked_63 : decode cX12_linked 63 = .ok (.iastore, 1) := by decide +kernel
theorem dX12_linked_64 : decode cX12_linked 64 = .ok (.iload_n 1, 1) := by decide +kernel
theorem dX12_linked_65 : decode cX12_linked 65 = .ok (.bipush 9, 2) := by decide +kernel
theorem dX12_linked_67 : decode cX12_linked 67 = .ok (.if_icmp .ne 61, 3) := by decide +kernel
theorem dX12_linked_70 : decode cX12_linked 70 = .ok (.aload_n 0, 1) := by decide +kernel
theorem dX12_linked_71 : decode cX12_linked 71 = .ok (.getfield 7, 3) := by decide +kernel
theorem dX12_linked_74 : decode cX12_linked 74 = .ok (.bipush 30, 2) := by decide +kernel
theorem dX12_linked_76 : decode cX12_linked 76 = .ok (.iconst 0, 1) := by decide +kernel
theorem dX12_linked_77 : decode cX12_linked 77 = .ok (.iastore, 1) := by decide +kernel
theorem dX12_linked_78 : decode cX12_linked 78 = .ok (.aload_n 0, 1) := by decide +kernel
theorem dX12_linked_79 : decode cX12_linked 79 = .ok (.getfield 7, 3) := by decide +kernel
theorem dX12_linked_82 : decode cX12_linked 82 = .ok (.bipush 21, 2) := by decide +kernel
theorem dX12_linked_84 : decode cX12_linked 84 = .ok (.dup2, 1) := by decide +kernel
theorem dX12_linked_85 : decode cX12_linked 85 = .ok (.iaload, 1) := by decide +kernel
theorem dX12_linked_86 : decode cX12_linked 86 = .ok (.iconst 1, 1) := by decide +kernel
theorem dX12_linked_87 : decode cX12_linked 87 = .ok (.isub, 1) := by decide +kernel
theorem dX12_linked_88 : decode cX12_linked 88 = .ok (.iastore, 1) := by decide +kernel
theorem dX12_linked_89 : decode cX12_linked 89 = .ok (.iconst 0, 1) := by decide +kernel
theorem dX12_linked_90 : decode cX12_linked 90 = .ok (.istore_n 3, 1) := by decide +kernel
theorem dX12_linked_91 : decode cX12_linked 91 = .ok (.iload_n 3, 1) := by decide +kernel
theorem dX12_linked_92 : decode cX12_linked 92 = .ok (.aload_n 0, 1) := by decide +kernel
theorem dX12_linked_93 : decode cX12_linked 93 = .ok (.getfield 7, 3) := by decide +kernel
theorem dX12_linked_96 : decode cX12_linked 96 = .ok (.bipush 21, 2) := by decide +kernel
theorem dX12_linked_98 : decode cX12_linked 98 = .ok (.iaload, 1) := by decide +kernel
theorem dX12_linked_99 : decode cX12_linked 99 = .ok (.if_icmp .ge 29, 3) := by decide +kernel
theorem dX12_linked_102 : decode cX12_linked 102 = .ok (.aload_n 0, 1) := by decide +kernel
theorem dX12_linked_103 : decode cX12_linked 103 = .ok (.getfield 7, 3) := by decide +kernel
theorem dX12_linked_106 : decode cX12_linked 106 = .ok (.bipush 22, 2) := by decide +kernel
theorem dX12_linked_108 : decode cX12_linked 108 = .ok (.iload_n 3, 1) := by decide +kernel
theorem dX12_linked_109 : decode cX12_linked 109 = .ok (.iadd, 1) := by decide +kernel
theorem dX12_linked_110 : decode cX12_linked 110 = .ok (.aload_n 0, 1) := by decide +kernel
theorem dX12_linked_111 : decode cX12_linked 111 = .ok (.getfield 7, 3) := by decide +kernel
theorem dX12_linked_114 : decode cX12_linked 114 = .ok (.bipush 22, 2) := by decide +kernel
theorem dX12_linked_116 : decode cX12_linked 116 = .ok (.iload_n 3, 1) := by decide +kernel
theorem dX12_linked_117 : decode cX12_linked 117 = .ok (.iadd, 1) := by decide +kernel
theorem dX12_linked_118 : decode cX12_linked 118 = .ok (.iconst 1, 1) := by decide +kernel
theorem dX12_linked_119 : decode cX12_linked 119 = .ok (.iadd, 1) := by decide +kernel
theorem dX12_linked_120 : decode cX12_linked 120 = .ok (.iaload, 1) := by decide +kernel
theorem dX12_linked_121 : decode cX12_linked 121 = .ok (.iastore, 1) := by decide +kernel
theorem dX12_linked_122 : decode cX12_linked 122 = .ok (.iinc 3 1, 3) := by decide +kernel
theorem dX12_linked_125 : decode cX12_linked 125 = .ok (.goto (-34), 3) := by decide +kernel
theorem dX12_linked_128 : decode cX12_linked 128 = .ok (.iload_n 2, 1) := by decide +kernel
theorem dX12_linked_129 : decode cX12_linked 129 = .ok (.ireturn, 1) := by decide +kernel
theorem dX12_drawn_0 : decode cX12_drawn 0 = .ok (.aload_n 0, 1) := by decide +kernel
theorem dX12_drawn_1 : decode cX12_drawn 1 = .ok (.aload_n 0, 1) := by decide +kernel
theorem dX12_drawn_2 : decode cX12_drawn 2 = .ok (.getfield 152, 3) := by decide +kernel
theorem dX12_drawn_5 : decode cX12_drawn 5 = .ok (.ldc 155, 2) := by decide +kernel
theorem dX12_drawn_7 : decode cX12_drawn 7 = .ok (.imul, 1) := by decide +kernel
theorem dX12_drawn_8 : decode cX12_drawn 8 = .ok (.sipush 12345, 3) := by decide +kernel
theorem dX12_drawn_11 : decode cX12_drawn 11 = .ok (.iadd, 1) := by decide +kernel
theorem dX12_drawn_12 : decode cX12_drawn 12 = .ok (.putfield 152, 3) := by decide +kernel
theorem dX12_drawn_15 : decode cX12_drawn 15 = .ok (.aload_n 0, 1) := by decide +kernel
theorem dX12_drawn_16 : decode cX12_drawn 16 = .ok (.getfield 152, 3) := by decide +kernel
theorem dX12_drawn_19 : decode cX12_drawn 19 = .ok (.bipush 16, 2) := by decide +kernel
theorem dX12_drawn_21 : decode cX12_drawn 21 = .ok (.iushr, 1) := by decide +kernel
theorem dX12_drawn_22 : decode cX12_drawn 22 = .ok (.iconst 2, 1) := by decide +kernel
theorem dX12_drawn_23 : decode cX12_drawn 23 = .ok (.irem, 1) := by decide +kernel
theorem dX12_drawn_24 : decode cX12_drawn 24 = .ok (.ireturn, 1) := by decide +kernel
set_option maxRecDepth 20000 in
theorem ggX12_sendsOne_X12_checkMany : GoodIn wsX12_sendsOne wsX12_checkMany := gi_e e_wsX12_sendsOne e_wsX12_checkMany (by decide +kernel)
set_option maxRecDepth 20000 in
theorem gX12_sendsOne_X12_checkMany : GoodIn wsX12_sendsOne (wsV RX12 145 RX12 yX12_checkMany wsX12_checkMany) := goodIn_app (gi_e e_wsX12_sendsOne (ce fw_6185 (ce fw_6187 (ce fw_44 (ce fw_1038 (cn))))) (by decide +kernel)) ggX12_sendsOne_X12_checkMany
set_option maxRecDepth 20000 in
theorem ggX12_sendsOne_X12_round : GoodIn wsX12_sendsOne wsX12_round := gi_e e_wsX12_sendsOne e_wsX12_round (by decide +kernel)
set_option maxRecDepth 20000 in
theorem gX12_sendsOne_X12_round : GoodIn wsX12_sendsOne (wsV RX12 142 RX12 yX12_round wsX12_round) := goodIn_app (gi_e e_wsX12_sendsOne (ce fw_5259 (ce fw_5261 (ce fw_32 (ce fw_1038 (cn))))) (by decide +kernel)) ggX12_sendsOne_X12_round
set_option maxRecDepth 20000 in
theorem ggX12_sendsOne_X12_roleOf : GoodIn wsX12_sendsOne wsX12_roleOf := gi_e e_wsX12_sendsOne e_wsX12_roleOf (by decide +kernel)
set_option maxRecDepth 20000 in
theorem gX12_sendsOne_X12_roleOf : GoodIn wsX12_sendsOne (wsV RX12 47 RX12 yX12_roleOf wsX12_roleOf) := goodIn_app (gi_e e_wsX12_sendsOne (ce fw_6177 (ce fw_6179 (ce fw_42 (ce fw_1038 (cn))))) (by decide +kernel)) ggX12_sendsOne_X12_roleOf
set_option maxRecDepth 20000 in
theorem ggX12_sendsOne_X12_drawn : GoodIn wsX12_sendsOne wsX12_drawn := gi_e e_wsX12_sendsOne e_wsX12_drawn (by decide +kernel)
set_option maxRecDepth 20000 in
theorem gX12_sendsOne_X12_drawn : GoodIn wsX12_sendsOne (wsV RX12 156 RX12 yX12_drawn wsX12_drawn) := goodIn_app (gi_e e_wsX12_sendsOne (ce fw_6213 (ce fw_6215 (ce fw_49 (ce fw_1038 (cn))))) (by decide +kernel)) ggX12_sendsOne_X12_drawn
set_option maxRecDepth 20000 in
theorem ggX12_sendsOne_X12_linked : GoodIn wsX12_sendsOne wsX12_linked := gi_e e_wsX12_sendsOne e_wsX12_linked (by decide +kernel)
set_option maxRecDepth 20000 in
theorem gX12_sendsOne_X12_linked : GoodIn wsX12_sendsOne (wsV RX12 159 RX12 yX12_linked wsX12_linked) := goodIn_app (gi_e e_wsX12_sendsOne (ce fw_6218 (ce fw_6220 (ce fw_50 (ce fw_1038 (cn))))) (by decide +kernel)) ggX12_sendsOne_X12_linked
set_option maxRecDepth 20000 in
theorem ggX12_sendsOne_X12_goesOn : GoodIn wsX12_sendsOne wsX12_goesOn := gi_e e_wsX12_sendsOne e_wsX12_goesOn (by decide +kernel)
set_option maxRecDepth 20000 in
theorem gX12_sendsOne_X12_goesOn : GoodIn wsX12_sendsOne (wsV RX12 148 RX12 yX12_goesOn wsX12_goesOn) := goodIn_app (gi_e e_wsX12_sendsOne (ce fw_6189 (ce fw_6191 (ce fw_45 (ce fw_1038 (cn))))) (by decide +kernel)) ggX12_sendsOne_X12_goesOn
theorem dX12_sendsOne_0 : decode cX12_sendsOne 0 = .ok (.aload_n 0, 1) := by decide +kernel
theorem dX12_sendsOne_1 : decode cX12_sendsOne 1 = .ok (.invokevirtual 145, 3) := by decide +kernel
theorem dX12_sendsOne_4 : decode cX12_sendsOne 4 = .ok (.istore_n 1, 1) := by decide +kernel
theorem dX12_sendsOne_5 : decode cX12_sendsOne 5 = .ok (.iconst 0, 1) := by decide +kernel
theorem dX12_sendsOne_6 : decode cX12_sendsOne 6 = .ok (.istore_n 2, 1) := by decide +kernel
theorem dX12_sendsOne_7 : decode cX12_sendsOne 7 = .ok (.iconst 0, 1) := by decide +kernel
theorem dX12_sendsOne_8 : decode cX12_sendsOne 8 = .ok (.istore_n 3, 1) := by decide +kernel
theorem dX12_sendsOne_9 : decode cX12_sendsOne 9 = .ok (.iconst 0, 1) := by decide +kernel
theorem dX12_sendsOne_10 : decode cX12_sendsOne 10 = .ok (.istore 4, 2) := by decide +kernel
theorem dX12_sendsOne_12 : decode cX12_sendsOne 12 = .ok (.iload 4, 2) := by decide +kernel
theorem dX12_sendsOne_14 : decode cX12_sendsOne 14 = .ok (.aload_n 0, 1) := by decide +kernel
theorem dX12_sendsOne_15 : decode cX12_sendsOne 15 = .ok (.invokevirtual 142, 3) := by decide +kernel
theorem dX12_sendsOne_18 : decode cX12_sendsOne 18 = .ok (.if_icmp .ge 124, 3) := by decide +kernel
theorem dX12_sendsOne_21 : decode cX12_sendsOne 21 = .ok (.aload_n 0, 1) := by decide +kernel
theorem dX12_sendsOne_22 : decode cX12_sendsOne 22 = .ok (.iload 4, 2) := by decide +kernel
theorem dX12_sendsOne_24 : decode cX12_sendsOne 24 = .ok (.invokevirtual 47, 3) := by decide +kernel
theorem dX12_sendsOne_27 : decode cX12_sendsOne 27 = .ok (.istore 5, 2) := by decide +kernel
theorem dX12_sendsOne_29 : decode cX12_sendsOne 29 = .ok (.iconst 0, 1) := by decide +kernel
theorem dX12_sendsOne_30 : decode cX12_sendsOne 30 = .ok (.istore 6, 2) := by decide +kernel
theorem dX12_sendsOne_32 : decode cX12_sendsOne 32 = .ok (.iload 5, 2) := by decide +kernel
theorem dX12_sendsOne_34 : decode cX12_sendsOne 34 = .ok (.iconst (-1), 1) := by decide +kernel
theorem dX12_sendsOne_35 : decode cX12_sendsOne 35 = .ok (.if_icmp .ne 12, 3) := by decide +kernel
theorem dX12_sendsOne_38 : decode cX12_sendsOne 38 = .ok (.aload_n 0, 1) := by decide +kernel
theorem dX12_sendsOne_39 : decode cX12_sendsOne 39 = .ok (.invokevirtual 156, 3) := by decide +kernel
theorem dX12_sendsOne_42 : decode cX12_sendsOne 42 = .ok (.istore 6, 2) := by decide +kernel
theorem dX12_sendsOne_44 : decode cX12_sendsOne 44 = .ok (.goto 47, 3) := by decide +kernel
theorem dX12_sendsOne_47 : decode cX12_sendsOne 47 = .ok (.iload 5, 2) := by decide +kernel
theorem dX12_sendsOne_49 : decode cX12_sendsOne 49 = .ok (.iconst 2, 1) := by decide +kernel
theorem dX12_sendsOne_50 : decode cX12_sendsOne 50 = .ok (.if_icmp .ne 24, 3) := by decide +kernel
theorem dX12_sendsOne_53 : decode cX12_sendsOne 53 = .ok (.iinc 3 1, 3) := by decide +kernel
theorem dX12_sendsOne_56 : decode cX12_sendsOne 56 = .ok (.aload_n 0, 1) := by decide +kernel
theorem dX12_sendsOne_57 : decode cX12_sendsOne 57 = .ok (.getfield 7, 3) := by decide +kernel
theorem dX12_sendsOne_60 : decode cX12_sendsOne 60 = .ok (.bipush 31, 2) := by decide +kernel
theorem dX12_sendsOne_62 : decode cX12_sendsOne 62 = .ok (.iaload, 1) := by decide +kernel
theorem dX12_sendsOne_63 : decode cX12_sendsOne 63 = .ok (.iload_n 1, 1) := by decide +kernel
theorem dX12_sendsOne_64 : decode cX12_sendsOne 64 = .ok (.iload_n 3, 1) := by decide +kernel
theorem dX12_sendsOne_65 : decode cX12_sendsOne 65 = .ok (.isub, 1) := by decide +kernel
theorem dX12_sendsOne_66 : decode cX12_sendsOne 66 = .ok (.ishr, 1) := by decide +kernel
theorem dX12_sendsOne_67 : decode cX12_sendsOne 67 = .ok (.iconst 1, 1) := by decide +kernel
theorem dX12_sendsOne_68 : decode cX12_sendsOne 68 = .ok (.iand, 1) := by decide +kernel
theorem dX12_sendsOne_69 : decode cX12_sendsOne 69 = .ok (.istore 6, 2) := by decide +kernel
theorem dX12_sendsOne_71 : decode cX12_sendsOne 71 = .ok (.goto 20, 3) := by decide +kernel
theorem dX12_sendsOne_74 : decode cX12_sendsOne 74 = .ok (.iload 5, 2) := by decide +kernel
theorem dX12_sendsOne_76 : decode cX12_sendsOne 76 = .ok (.iconst 3, 1) := by decide +kernel
theorem dX12_sendsOne_77 : decode cX12_sendsOne 77 = .ok (.if_icmp .ne 10, 3) := by decide +kernel
theorem dX12_sendsOne_80 : decode cX12_sendsOne 80 = .ok (.aload_n 0, 1) := by decide +kernel
theorem dX12_sendsOne_81 : decode cX12_sendsOne 81 = .ok (.invokevirtual 159, 3) := by decide +kernel
theorem dX12_sendsOne_84 : decode cX12_sendsOne 84 = .ok (.goto 5, 3) := by decide +kernel
theorem dX12_sendsOne_87 : decode cX12_sendsOne 87 = .ok (.iload 5, 2) := by decide +kernel
theorem dX12_sendsOne_89 : decode cX12_sendsOne 89 = .ok (.istore 6, 2) := by decide +kernel
theorem dX12_sendsOne_91 : decode cX12_sendsOne 91 = .ok (.aload_n 0, 1) := by decide +kernel
theorem dX12_sendsOne_92 : decode cX12_sendsOne 92 = .ok (.getfield 13, 3) := by decide +kernel
theorem dX12_sendsOne_95 : decode cX12_sendsOne 95 = .ok (.aload_n 0, 1) := by decide +kernel
theorem dX12_sendsOne_96 : decode cX12_sendsOne 96 = .ok (.getfield 7, 3) := by decide +kernel
theorem dX12_sendsOne_99 : decode cX12_sendsOne 99 = .ok (.bipush 32, 2) := by decide +kernel
theorem dX12_sendsOne_101 : decode cX12_sendsOne 101 = .ok (.iaload, 1) := by decide +kernel
theorem dX12_sendsOne_102 : decode cX12_sendsOne 102 = .ok (.iload 6, 2) := by decide +kernel
theorem dX12_sendsOne_104 : decode cX12_sendsOne 104 = .ok (.i2b, 1) := by decide +kernel
theorem dX12_sendsOne_105 : decode cX12_sendsOne 105 = .ok (.bastore, 1) := by decide +kernel
theorem dX12_sendsOne_106 : decode cX12_sendsOne 106 = .ok (.aload_n 0, 1) := by decide +kernel
theorem dX12_sendsOne_107 : decode cX12_sendsOne 107 = .ok (.getfield 7, 3) := by decide +kernel
theorem dX12_sendsOne_110 : decode cX12_sendsOne 110 = .ok (.bipush 32, 2) := by decide +kernel
theorem dX12_sendsOne_112 : decode cX12_sendsOne 112 = .ok (.dup2, 1) := by decide +kernel
theorem dX12_sendsOne_113 : decode cX12_sendsOne 113 = .ok (.iaload, 1) := by decide +kernel
theorem dX12_sendsOne_114 : decode cX12_sendsOne 114 = .ok (.iconst 1, 1) := by decide +kernel
theorem dX12_sendsOne_115 : decode cX12_sendsOne 115 = .ok (.iadd, 1) := by decide +kernel
theorem dX12_sendsOne_116 : decode cX12_sendsOne 116 = .ok (.iastore, 1) := by decide +kernel
theorem dX12_sendsOne_117 : decode cX12_sendsOne 117 = .ok (.aload_n 0, 1) := by decide +kernel
theorem dX12_sendsOne_118 : decode cX12_sendsOne 118 = .ok (.iload_n 2, 1) := by decide +kernel
theorem dX12_sendsOne_119 : decode cX12_sendsOne 119 = .ok (.iload 5, 2) := by decide +kernel
theorem dX12_sendsOne_121 : decode cX12_sendsOne 121 = .ok (.iconst 2, 1) := by decide +kernel
theorem dX12_sendsOne_122 : decode cX12_sendsOne 122 = .ok (.if_icmp .ne 7, 3) := by decide +kernel
theorem dX12_sendsOne_125 : decode cX12_sendsOne 125 = .ok (.iconst 1, 1) := by decide +kernel
theorem dX12_sendsOne_126 : decode cX12_sendsOne 126 = .ok (.goto 5, 3) := by decide +kernel
theorem dX12_sendsOne_129 : decode cX12_sendsOne 129 = .ok (.iload 6, 2) := by decide +kernel
theorem dX12_sendsOne_131 : decode cX12_sendsOne 131 = .ok (.iload_n 1, 1) := by decide +kernel
theorem dX12_sendsOne_132 : decode cX12_sendsOne 132 = .ok (.invokevirtual 148, 3) := by decide +kernel
theorem dX12_sendsOne_135 : decode cX12_sendsOne 135 = .ok (.istore_n 2, 1) := by decide +kernel
theorem dX12_sendsOne_136 : decode cX12_sendsOne 136 = .ok (.iinc 4 1, 3) := by decide +kernel
theorem dX12_sendsOne_139 : decode cX12_sendsOne 139 = .ok (.goto (-127), 3) := by decide +kernel
theorem dX12_sendsOne_142 : decode cX12_sendsOne 142 = .ok (.aload_n 0, 1) := by decide +kernel
theorem dX12_sendsOne_143 : decode cX12_sendsOne 143 = .ok (.getfield 7, 3) := by decide +kernel
theorem dX12_sendsOne_146 : decode cX12_sendsOne 146 = .ok (.bipush 31, 2) := by decide +kernel
theorem dX12_sendsOne_148 : decode cX12_sendsOne 148 = .ok (.iload_n 2, 1) := by decide +kernel
theorem dX12_sendsOne_149 : decode cX12_sendsOne 149 = .ok (.iastore, 1) := by decide +kernel
theorem dX12_sendsOne_150 : decode cX12_sendsOne 150 = .ok (.return_, 1) := by decide +kernel
set_option maxRecDepth 20000 in
theorem ggX12_sends_X12_sendsOne : GoodIn wsX12_sends wsX12_sendsOne := gi_e e_wsX12_sends e_wsX12_sendsOne (by decide +kernel)
set_option maxRecDepth 20000 in
theorem gX12_sends_X12_sendsOne : GoodIn wsX12_sends (wsV RX12 162 RX12 yX12_sendsOne wsX12_sendsOne) := goodIn_app (gi_e e_wsX12_sends (ce fw_6209 (ce fw_6211 (ce fw_48 (ce fw_1038 (cn))))) (by decide +kernel)) ggX12_sends_X12_sendsOne
theorem dX12_sends_0 : decode cX12_sends 0 = .ok (.aload_n 0, 1) := by decide +kernel
theorem dX12_sends_1 : decode cX12_sends 1 = .ok (.iload_n 2, 1) := by decide +kernel
theorem dX12_sends_2 : decode cX12_sends 2 = .ok (.putfield 152, 3) := by decide +kernel
theorem dX12_sends_5 : decode cX12_sends 5 = .ok (.iconst 0, 1) := by decide +kernel
theorem dX12_sends_6 : decode cX12_sends 6 = .ok (.istore_n 3, 1) := by decide +kernel
theorem dX12_sends_7 : decode cX12_sends 7 = .ok (.iload_n 3, 1) := by decide +kernel
theorem dX12_sends_8 : decode cX12_sends 8 = .ok (.iload_n 1, 1) := by decide +kernel
theorem dX12_sends_9 : decode cX12_sends 9 = .ok (.if_icmp .ge 13, 3) := by decide +kernel
theorem dX12_sends_12 : decode cX12_sends 12 = .ok (.aload_n 0, 1) := by decide +kernel
theorem dX12_sends_13 : decode cX12_sends 13 = .ok (.invokevirtual 162, 3) := by decide +kernel
theorem dX12_sends_16 : decode cX12_sends 16 = .ok (.iinc 3 1, 3) := by decide +kernel
theorem dX12_sends_19 : decode cX12_sends 19 = .ok (.goto (-12), 3) := by decide +kernel
theorem dX12_sends_22 : decode cX12_sends 22 = .ok (.return_, 1) := by decide +kernel
set_option maxRecDepth 20000 in
theorem ggX12_begins_X12_hunts : GoodIn wsX12_begins wsX12_hunts := gi_e e_wsX12_begins e_wsX12_hunts (by decide +kernel)
set_option maxRecDepth 20000 in
theorem gX12_begins_X12_hunts : GoodIn wsX12_begins (wsV RX12 165 RX12 yX12_hunts wsX12_hunts) := goodIn_app (gi_e e_wsX12_begins (ce fw_5255 (ce fw_5257 (ce fw_31 (ce fw_1038 (cn))))) (by decide +kernel)) ggX12_begins_X12_hunts
theorem dX12_begins_0 : decode cX12_begins 0 = .ok (.bipush 34, 2) := by decide +kernel
theorem dX12_begins_2 : decode cX12_begins 2 = .ok (.istore_n 1, 1) := by decide +kernel
theorem dX12_begins_3 : decode cX12_begins 3 = .ok (.iload_n 1, 1) := by decide +kernel
theorem dX12_begins_4 : decode cX12_begins 4 = .ok (.sipush 133, 3) := by decide +kernel
theorem dX12_begins_7 : decode cX12_begins 7 = .ok (.if_icmp .ge 16, 3) := by decide +kernel
theorem dX12_begins_10 : decode cX12_begins 10 = .ok (.aload_n 0, 1) := by decide +kernel
theorem dX12_begins_11 : decode cX12_begins 11 = .ok (.getfield 7, 3) := by decide +kernel
theorem dX12_begins_14 : decode cX12_begins 14 = .ok (.iload_n 1, 1) := by decide +kernel
theorem dX12_begins_15 : decode cX12_begins 15 = .ok (.iconst 0, 1) := by decide +kernel
theorem dX12_begins_16 : decode cX12_begins 16 = .ok (.iastore, 1) := by decide +kernel
theorem dX12_begins_17 : decode cX12_begins 17 = .ok (.iinc 1 1, 3) := by decide +kernel
theorem dX12_begins_20 : decode cX12_begins 20 = .ok (.goto (-17), 3) := by decide +kernel
theorem dX12_begins_23 : decode cX12_begins 23 = .ok (.aload_n 0, 1) := by decide +kernel
theorem dX12_begins_24 : decode cX12_begins 24 = .ok (.getfield 7, 3) := by decide +kernel
theorem dX12_begins_27 : decode cX12_begins 27 = .ok (.bipush 52, 2) := by decide +kernel
theorem dX12_begins_29 : decode cX12_begins 29 = .ok (.iconst (-1), 1) := by decide +kernel
theorem dX12_begins_30 : decode cX12_begins 30 = .ok (.iastore, 1) := by decide +kernel
theorem dX12_begins_31 : decode cX12_begins 31 = .ok (.aload_n 0, 1) := by decide +kernel
theorem dX12_begins_32 : decode cX12_begins 32 = .ok (.getfield 7, 3) := by decide +kernel
theorem dX12_begins_35 : decode cX12_begins 35 = .ok (.bipush 33, 2) := by decide +kernel
theorem dX12_begins_37 : decode cX12_begins 37 = .ok (.iconst 0, 1) := by decide +kernel
theorem dX12_begins_38 : decode cX12_begins 38 = .ok (.iastore, 1) := by decide +kernel
theorem dX12_begins_39 : decode cX12_begins 39 = .ok (.aload_n 0, 1) := by decide +kernel
theorem dX12_begins_40 : decode cX12_begins 40 = .ok (.invokevirtual 165, 3) := by decide +kernel
theorem dX12_begins_43 : decode cX12_begins 43 = .ok (.return_, 1) := by decide +kernel
set_option maxRecDepth 20000 in
theorem ggX12_hunts_X12_round : GoodIn wsX12_hunts wsX12_round := gi_e e_wsX12_hunts e_wsX12_round (by decide +kernel)
set_option maxRecDepth 20000 in
theorem gX12_hunts_X12_round : GoodIn wsX12_hunts (wsV RX12 142 RX12 yX12_round wsX12_round) := goodIn_app (gi_e e_wsX12_hunts (ce fw_5259 (ce fw_5261 (ce fw_32 (ce fw_1038 (cn))))) (by decide +kernel)) ggX12_hunts_X12_round
theorem dX12_hunts_0 : decode cX12_hunts 0 = .ok (.aload_n 0, 1) := by decide +kernel
theorem dX12_hunts_1 : decode cX12_hunts 1 = .ok (.getfield 7, 3) := by decide +kernel
theorem dX12_hunts_4 : decode cX12_hunts 4 = .ok (.bipush 34, 2) := by decide +kernel
theorem dX12_hunts_6 : decode cX12_hunts 6 = .ok (.iconst 0, 1) := by decide +kernel
theorem dX12_hunts_7 : decode cX12_hunts 7 = .ok (.iastore, 1) := by decide +kernel
theorem dX12_hunts_8 : decode cX12_hunts 8 = .ok (.aload_n 0, 1) := by decide +kernel
theorem dX12_hunts_9 : decode cX12_hunts 9 = .ok (.getfield 7, 3) := by decide +kernel
theorem dX12_hunts_12 : decode cX12_hunts 12 = .ok (.bipush 35, 2) := by decide +kernel
theorem dX12_hunts_14 : decode cX12_hunts 14 = .ok (.dup2, 1) := by decide +kernel
theorem dX12_hunts_15 : decode cX12_hunts 15 = .ok (.iaload, 1) := by decide +kernel
theorem dX12_hunts_16 : decode cX12_hunts 16 = .ok (.iconst 1, 1) := by decide +kernel
theorem dX12_hunts_17 : decode cX12_hunts 17 = .ok (.iadd, 1) := by decide +kernel
theorem dX12_hunts_18 : decode cX12_hunts 18 = .ok (.iastore, 1) := by decide +kernel
theorem dX12_hunts_19 : decode cX12_hunts 19 = .ok (.aload_n 0, 1) := by decide +kernel
theorem dX12_hunts_20 : decode cX12_hunts 20 = .ok (.getfield 7, 3) := by decide +kernel
theorem dX12_hunts_23 : decode cX12_hunts 23 = .ok (.bipush 40, 2) := by decide +kernel
theorem dX12_hunts_25 : decode cX12_hunts 25 = .ok (.iconst 0, 1) := by decide +kernel
theorem dX12_hunts_26 : decode cX12_hunts 26 = .ok (.iastore, 1) := by decide +kernel
theorem dX12_hunts_27 : decode cX12_hunts 27 = .ok (.aload_n 0, 1) := by decide +kernel
theorem dX12_hunts_28 : decode cX12_hunts 28 = .ok (.getfield 7, 3) := by decide +kernel
theorem dX12_hunts_31 : decode cX12_hunts 31 = .ok (.bipush 52, 2) := by decide +kernel
theorem dX12_hunts_33 : decode cX12_hunts 33 = .ok (.iconst (-1), 1) := by decide +kernel
theorem dX12_hunts_34 : decode cX12_hunts 34 = .ok (.iastore, 1) := by decide +kernel
theorem dX12_hunts_35 : decode cX12_hunts 35 = .ok (.iconst 0, 1) := by decide +kernel
theorem dX12_hunts_36 : decode cX12_hunts 36 = .ok (.istore_n 1, 1) := by decide +kernel
theorem dX12_hunts_37 : decode cX12_hunts 37 = .ok (.iload_n 1, 1) := by decide +kernel
theorem dX12_hunts_38 : decode cX12_hunts 38 = .ok (.bipush 9, 2) := by decide +kernel
theorem dX12_hunts_40 : decode cX12_hunts 40 = .ok (.if_icmp .ge 19, 3) := by decide +kernel
theorem dX12_hunts_43 : decode cX12_hunts 43 = .ok (.aload_n 0, 1) := by decide +kernel
theorem dX12_hunts_44 : decode cX12_hunts 44 = .ok (.getfield 7, 3) := by decide +kernel
theorem dX12_hunts_47 : decode cX12_hunts 47 = .ok (.bipush 124, 2) := by decide +kernel
theorem dX12_hunts_49 : decode cX12_hunts 49 = .ok (.iload_n 1, 1) := by decide +kernel
theorem dX12_hunts_50 : decode cX12_hunts 50 = .ok (.iadd, 1) := by decide +kernel
theorem dX12_hunts_51 : decode cX12_hunts 51 = .ok (.iconst 0, 1) := by decide +kernel
theorem dX12_hunts_52 : decode cX12_hunts 52 = .ok (.iastore, 1) := by decide +kernel
theorem dX12_hunts_53 : decode cX12_hunts 53 = .ok (.iinc 1 1, 3) := by decide +kernel
theorem dX12_hunts_56 : decode cX12_hunts 56 = .ok (.goto (-19), 3) := by decide +kernel
theorem dX12_hunts_59 : decode cX12_hunts 59 = .ok (.iconst 0, 1) := by decide +kernel
theorem dX12_hunts_60 : decode cX12_hunts 60 = .ok (.istore_n 1, 1) := by decide +kernel
theorem dX12_hunts_61 : decode cX12_hunts 61 = .ok (.iload_n 1, 1) := by decide +kernel
theorem dX12_hunts_62 : decode cX12_hunts 62 = .ok (.aload_n 0, 1) := by decide +kernel
theorem dX12_hunts_63 : decode cX12_hunts 63 = .ok (.invokevirtual 142, 3) := by decide +kernel
theorem dX12_hunts_66 : decode cX12_hunts 66 = .ok (.if_icmp .ge 30, 3) := by decide +kernel
theorem dX12_hunts_69 : decode cX12_hunts 69 = .ok (.aload_n 0, 1) := by decide +kernel
theorem dX12_hunts_70 : decode cX12_hunts 70 = .ok (.getfield 7, 3) := by decide +kernel
theorem dX12_hunts_73 : decode cX12_hunts 73 = .ok (.bipush 124, 2) := by decide +kernel
theorem dX12_hunts_75 : decode cX12_hunts 75 = .ok (.iload_n 1, 1) := by decide +kernel
theorem dX12_hunts_76 : decode cX12_hunts 76 = .ok (.bipush 32, 2) := by decide +kernel
theorem dX12_hunts_78 : decode cX12_hunts 78 = .ok (.idiv, 1) := by decide +kernel
theorem dX12_hunts_79 : decode cX12_hunts 79 = .ok (.iadd, 1) := by decide +kernel
theorem dX12_hunts_80 : decode cX12_hunts 80 = .ok (.dup2, 1) := by decide +kernel
theorem dX12_hunts_81 : decode cX12_hunts 81 = .ok (.iaload, 1) := by decide +kernel
theorem dX12_hunts_82 : decode cX12_hunts 82 = .ok (.iconst 1, 1) := by decide +kernel
theorem dX12_hunts_83 : decode cX12_hunts 83 = .ok (.iload_n 1, 1) := by decide +kernel
theorem dX12_hunts_84 : decode cX12_hunts 84 = .ok (.bipush 32, 2) := by decide +kernel
theorem dX12_hunts_86 : decode cX12_hunts 86 = .ok (.irem, 1) := by decide +kernel
theorem dX12_hunts_87 : decode cX12_hunts 87 = .ok (.ishl, 1) := by decide +kernel
theorem dX12_hunts_88 : decode cX12_hunts 88 = .ok (.ior, 1) := by decide +kernel
theorem dX12_hunts_89 : decode cX12_hunts 89 = .ok (.iastore, 1) := by decide +kernel
theorem dX12_hunts_90 : decode cX12_hunts 90 = .ok (.iinc 1 1, 3) := by decide +kernel
theorem dX12_hunts_93 : decode cX12_hunts 93 = .ok (.goto (-32), 3) := by decide +kernel
theorem dX12_hunts_96 : decode cX12_hunts 96 = .ok (.return_, 1) := by decide +kernel
theorem dX12_isLeft_0 : decode cX12_isLeft 0 = .ok (.aload_n 0, 1) := by decide +kernel
theorem dX12_isLeft_1 : decode cX12_isLeft 1 = .ok (.getfield 7, 3) := by decide +kernel
theorem dX12_isLeft_4 : decode cX12_isLeft 4 = .ok (.bipush 124, 2) := by decide +kernel
theorem dX12_isLeft_6 : decode cX12_isLeft 6 = .ok (.iload_n 1, 1) := by decide +kernel
theorem dX12_isLeft_7 : decode cX12_isLeft 7 = .ok (.bipush 32, 2) := by decide +kernel
theorem dX12_isLeft_9 : decode cX12_isLeft 9 = .ok (.idiv, 1) := by decide +kernel
theorem dX12_isLeft_10 : decode cX12_isLeft 10 = .ok (.iadd, 1) := by decide +kernel
theorem dX12_isLeft_11 : decode cX12_isLeft 11 = .ok (.iaload, 1) := by decide +kernel
theorem dX12_isLeft_12 : decode cX12_isLeft 12 = .ok (.iload_n 1, 1) := by decide +kernel
theorem dX12_isLeft_13 : decode cX12_isLeft 13 = .ok (.bipush 32, 2) := by decide +kernel
theorem dX12_isLeft_15 : decode cX12_isLeft 15 = .ok (.irem, 1) := by decide +kernel
theorem dX12_isLeft_16 : decode cX12_isLeft 16 = .ok (.ishr, 1) := by decide +kernel
theorem dX12_isLeft_17 : decode cX12_isLeft 17 = .ok (.iconst 1, 1) := by decide +kernel
theorem dX12_isLeft_18 : decode cX12_isLeft 18 = .ok (.iand, 1) := by decide +kernel
theorem dX12_isLeft_19 : decode cX12_isLeft 19 = .ok (.iconst 1, 1) := by decide +kernel
theorem dX12_isLeft_20 : decode cX12_isLeft 20 = .ok (.if_icmp .ne 7, 3) := by decide +kernel
theorem dX12_isLeft_23 : decode cX12_isLeft 23 = .ok (.iconst 1, 1) := by decide +kernel
theorem dX12_isLeft_24 : decode cX12_isLeft 24 = .ok (.goto 4, 3) := by decide +kernel
theorem dX12_isLeft_27 : decode cX12_isLeft 27 = .ok (.iconst 0, 1) := by decide +kernel
theorem dX12_isLeft_28 : decode cX12_isLeft 28 = .ok (.ireturn, 1) := by decide +kernel
set_option maxRecDepth 20000 in
theorem ggX12_leftMany_X12_ones : GoodIn wsX12_leftMany wsX12_ones := gi_e e_wsX12_leftMany e_wsX12_ones (by decide +kernel)
set_option maxRecDepth 20000 in
theorem gX12_leftMany_X12_ones : GoodIn wsX12_leftMany (va_wsS RX12 168 yX12_ones wsX12_ones) := goodIn_app (gi_e e_wsX12_leftMany (ce fw_6262 (ce fw_6263 (ce fw_1038 (cn)))) (by decide +kernel)) ggX12_leftMany_X12_ones
theorem dX12_leftMany_0 : decode cX12_leftMany 0 = .ok (.iconst 0, 1) := by decide +kernel
theorem dX12_leftMany_1 : decode cX12_leftMany 1 = .ok (.istore_n 1, 1) := by decide +kernel
theorem dX12_leftMany_2 : decode cX12_leftMany 2 = .ok (.iconst 0, 1) := by decide +kernel
theorem dX12_leftMany_3 : decode cX12_leftMany 3 = .ok (.istore_n 2, 1) := by decide +kernel
theorem dX12_leftMany_4 : decode cX12_leftMany 4 = .ok (.iload_n 2, 1) := by decide +kernel
theorem dX12_leftMany_5 : decode cX12_leftMany 5 = .ok (.bipush 9, 2) := by decide +kernel
theorem dX12_leftMany_7 : decode cX12_leftMany 7 = .ok (.if_icmp .ge 24, 3) := by decide +kernel
theorem dX12_leftMany_10 : decode cX12_leftMany 10 = .ok (.iload_n 1, 1) := by decide +kernel
theorem dX12_leftMany_11 : decode cX12_leftMany 11 = .ok (.aload_n 0, 1) := by decide +kernel
theorem dX12_leftMany_12 : decode cX12_leftMany 12 = .ok (.getfield 7, 3) := by decide +kernel
theorem dX12_leftMany_15 : decode cX12_leftMany 15 = .ok (.bipush 124, 2) := by decide +kernel
theorem dX12_leftMany_17 : decode cX12_leftMany 17 = .ok (.iload_n 2, 1) := by decide +kernel
theorem dX12_leftMany_18 : decode cX12_leftMany 18 = .ok (.iadd, 1) := by decide +kernel
theorem dX12_leftMany_19 : decode cX12_leftMany 19 = .ok (.iaload, 1) := by decide +kernel
theorem dX12_leftMany_20 : decode cX12_leftMany 20 = .ok (.invokestatic 168, 3) := by decide +kernel
theorem dX12_leftMany_23 : decode cX12_leftMany 23 = .ok (.iadd, 1) := by decide +kernel
theorem dX12_leftMany_24 : decode cX12_leftMany 24 = .ok (.istore_n 1, 1) := by decide +kernel
theorem dX12_leftMany_25 : decode cX12_leftMany 25 = .ok (.iinc 2 1, 3) := by decide +kernel
theorem dX12_leftMany_28 : decode cX12_leftMany 28 = .ok (.goto (-24), 3) := by decide +kernel
