theorem dX0_init_0 : decode cX0_init 0 = .ok (.aload_n 0, 1) := by decide +kernel
theorem dX0_init_1 : decode cX0_init 1 = .ok (.invokespecial 3, 3) := by decide +kernel
theorem dX0_init_4 : decode cX0_init 4 = .ok (.aload_n 0, 1) := by decide +kernel
theorem dX0_init_5 : decode cX0_init 5 = .ok (.bipush 8, 2) := by decide +kernel
theorem dX0_init_7 : decode cX0_init 7 = .ok (.newarray .int, 2) := by decide +kernel
theorem dX0_init_9 : decode cX0_init 9 = .ok (.putfield 9, 3) := by decide +kernel
theorem dX0_init_12 : decode cX0_init 12 = .ok (.return_, 1) := by decide +kernel
set_option maxRecDepth 20000 in
theorem ggX0_begin_X0_forget : GoodIn wsX0_begin wsX0_forget := gi_e e_wsX0_begin e_wsX0_forget (by decide +kernel)
set_option maxRecDepth 20000 in
theorem gX0_begin_X0_forget : GoodIn wsX0_begin (wsV RX0 22 RX0 yX0_forget wsX0_forget) := goodIn_app (gi_e e_wsX0_begin (ce fw_2145 (ce fw_2146 (ce fw_2147 (ce fw_1034 (cn))))) (by decide +kernel)) ggX0_begin_X0_forget
theorem dX0_begin_0 : decode cX0_begin 0 = .ok (.aload_n 0, 1) := by decide +kernel
theorem dX0_begin_1 : decode cX0_begin 1 = .ok (.iconst 0, 1) := by decide +kernel
theorem dX0_begin_2 : decode cX0_begin 2 = .ok (.putfield 15, 3) := by decide +kernel
theorem dX0_begin_5 : decode cX0_begin 5 = .ok (.aload_n 0, 1) := by decide +kernel
theorem dX0_begin_6 : decode cX0_begin 6 = .ok (.iconst 0, 1) := by decide +kernel
theorem dX0_begin_7 : decode cX0_begin 7 = .ok (.putfield 19, 3) := by decide +kernel
theorem dX0_begin_10 : decode cX0_begin 10 = .ok (.aload_n 0, 1) := by decide +kernel
theorem dX0_begin_11 : decode cX0_begin 11 = .ok (.invokevirtual 22, 3) := by decide +kernel
theorem dX0_begin_14 : decode cX0_begin 14 = .ok (.return_, 1) := by decide +kernel
theorem dX0_forget_0 : decode cX0_forget 0 = .ok (.aload_n 0, 1) := by decide +kernel
theorem dX0_forget_1 : decode cX0_forget 1 = .ok (.iconst 0, 1) := by decide +kernel
theorem dX0_forget_2 : decode cX0_forget 2 = .ok (.putfield 25, 3) := by decide +kernel
theorem dX0_forget_5 : decode cX0_forget 5 = .ok (.aload_n 0, 1) := by decide +kernel
theorem dX0_forget_6 : decode cX0_forget 6 = .ok (.iconst 0, 1) := by decide +kernel
theorem dX0_forget_7 : decode cX0_forget 7 = .ok (.putfield 28, 3) := by decide +kernel
theorem dX0_forget_10 : decode cX0_forget 10 = .ok (.return_, 1) := by decide +kernel
set_option maxRecDepth 20000 in
theorem ggX0_take_X0_keep : GoodIn wsX0_take wsX0_keep := gi_e e_wsX0_take e_wsX0_keep (by decide +kernel)
set_option maxRecDepth 20000 in
theorem gX0_take_X0_keep : GoodIn wsX0_take (wsV RX0 31 RX0 yX0_keep wsX0_keep) := goodIn_app (gi_e e_wsX0_take (ce fw_3282 (ce fw_3284 (ce fw_13 (ce fw_1034 (cn))))) (by decide +kernel)) ggX0_take_X0_keep
set_option maxRecDepth 20000 in
theorem ggX0_take_X0_forget : GoodIn wsX0_take wsX0_forget := gi_e e_wsX0_take e_wsX0_forget (by decide +kernel)
set_option maxRecDepth 20000 in
theorem gX0_take_X0_forget : GoodIn wsX0_take (wsV RX0 22 RX0 yX0_forget wsX0_forget) := goodIn_app (gi_e e_wsX0_take (ce fw_2145 (ce fw_2146 (ce fw_2147 (ce fw_1034 (cn))))) (by decide +kernel)) ggX0_take_X0_forget
theorem dX0_take_0 : decode cX0_take 0 = .ok (.aload_n 0, 1) := by decide +kernel
theorem dX0_take_1 : decode cX0_take 1 = .ok (.getfield 25, 3) := by decide +kernel
theorem dX0_take_4 : decode cX0_take 4 = .ok (.ifCond .ne 19, 3) := by decide +kernel
theorem dX0_take_7 : decode cX0_take 7 = .ok (.aload_n 0, 1) := by decide +kernel
theorem dX0_take_8 : decode cX0_take 8 = .ok (.iload_n 1, 1) := by decide +kernel
theorem dX0_take_9 : decode cX0_take 9 = .ok (.ifCond .ne 7, 3) := by decide +kernel
theorem dX0_take_12 : decode cX0_take 12 = .ok (.iconst 1, 1) := by decide +kernel
theorem dX0_take_13 : decode cX0_take 13 = .ok (.goto 4, 3) := by decide +kernel
theorem dX0_take_16 : decode cX0_take 16 = .ok (.iconst 0, 1) := by decide +kernel
theorem dX0_take_17 : decode cX0_take 17 = .ok (.putfield 25, 3) := by decide +kernel
theorem dX0_take_20 : decode cX0_take 20 = .ok (.goto 67, 3) := by decide +kernel
theorem dX0_take_23 : decode cX0_take 23 = .ok (.aload_n 0, 1) := by decide +kernel
theorem dX0_take_24 : decode cX0_take 24 = .ok (.getfield 25, 3) := by decide +kernel
theorem dX0_take_27 : decode cX0_take 27 = .ok (.bipush 8, 2) := by decide +kernel
theorem dX0_take_29 : decode cX0_take 29 = .ok (.if_icmp .gt 28, 3) := by decide +kernel
theorem dX0_take_32 : decode cX0_take 32 = .ok (.aload_n 0, 1) := by decide +kernel
theorem dX0_take_33 : decode cX0_take 33 = .ok (.aload_n 0, 1) := by decide +kernel
theorem dX0_take_34 : decode cX0_take 34 = .ok (.getfield 28, 3) := by decide +kernel
theorem dX0_take_37 : decode cX0_take 37 = .ok (.iconst 2, 1) := by decide +kernel
theorem dX0_take_38 : decode cX0_take 38 = .ok (.imul, 1) := by decide +kernel
theorem dX0_take_39 : decode cX0_take 39 = .ok (.iload_n 1, 1) := by decide +kernel
theorem dX0_take_40 : decode cX0_take 40 = .ok (.iadd, 1) := by decide +kernel
theorem dX0_take_41 : decode cX0_take 41 = .ok (.putfield 28, 3) := by decide +kernel
theorem dX0_take_44 : decode cX0_take 44 = .ok (.aload_n 0, 1) := by decide +kernel
theorem dX0_take_45 : decode cX0_take 45 = .ok (.dup, 1) := by decide +kernel
theorem dX0_take_46 : decode cX0_take 46 = .ok (.getfield 25, 3) := by decide +kernel
theorem dX0_take_49 : decode cX0_take 49 = .ok (.iconst 1, 1) := by decide +kernel
theorem dX0_take_50 : decode cX0_take 50 = .ok (.iadd, 1) := by decide +kernel
theorem dX0_take_51 : decode cX0_take 51 = .ok (.putfield 25, 3) := by decide +kernel
theorem dX0_take_54 : decode cX0_take 54 = .ok (.goto 33, 3) := by decide +kernel
theorem dX0_take_57 : decode cX0_take 57 = .ok (.iload_n 1, 1) := by decide +kernel
theorem dX0_take_58 : decode cX0_take 58 = .ok (.iconst 1, 1) := by decide +kernel
theorem dX0_take_59 : decode cX0_take 59 = .ok (.if_icmp .ne 14, 3) := by decide +kernel
theorem dX0_take_62 : decode cX0_take 62 = .ok (.aload_n 0, 1) := by decide +kernel
theorem dX0_take_63 : decode cX0_take 63 = .ok (.aload_n 0, 1) := by decide +kernel
theorem dX0_take_64 : decode cX0_take 64 = .ok (.getfield 28, 3) := by decide +kernel
theorem dX0_take_67 : decode cX0_take 67 = .ok (.invokevirtual 31, 3) := by decide +kernel
theorem dX0_take_70 : decode cX0_take 70 = .ok (.goto 13, 3) := by decide +kernel
theorem dX0_take_73 : decode cX0_take 73 = .ok (.aload_n 0, 1) := by decide +kernel
theorem dX0_take_74 : decode cX0_take 74 = .ok (.dup, 1) := by decide +kernel
theorem dX0_take_75 : decode cX0_take 75 = .ok (.getfield 19, 3) := by decide +kernel
theorem dX0_take_78 : decode cX0_take 78 = .ok (.iconst 1, 1) := by decide +kernel
theorem dX0_take_79 : decode cX0_take 79 = .ok (.iadd, 1) := by decide +kernel
theorem dX0_take_80 : decode cX0_take 80 = .ok (.putfield 19, 3) := by decide +kernel
theorem dX0_take_83 : decode cX0_take 83 = .ok (.aload_n 0, 1) := by decide +kernel
theorem dX0_take_84 : decode cX0_take 84 = .ok (.invokevirtual 22, 3) := by decide +kernel
theorem dX0_take_87 : decode cX0_take 87 = .ok (.return_, 1) := by decide +kernel
theorem dX0_keep_0 : decode cX0_keep 0 = .ok (.bipush 7, 2) := by decide +kernel
theorem dX0_keep_2 : decode cX0_keep 2 = .ok (.istore_n 2, 1) := by decide +kernel
theorem dX0_keep_3 : decode cX0_keep 3 = .ok (.iload_n 2, 1) := by decide +kernel
theorem dX0_keep_4 : decode cX0_keep 4 = .ok (.ifCond .le 23, 3) := by decide +kernel
theorem dX0_keep_7 : decode cX0_keep 7 = .ok (.aload_n 0, 1) := by decide +kernel
theorem dX0_keep_8 : decode cX0_keep 8 = .ok (.getfield 9, 3) := by decide +kernel
theorem dX0_keep_11 : decode cX0_keep 11 = .ok (.iload_n 2, 1) := by decide +kernel
theorem dX0_keep_12 : decode cX0_keep 12 = .ok (.aload_n 0, 1) := by decide +kernel
theorem dX0_keep_13 : decode cX0_keep 13 = .ok (.getfield 9, 3) := by decide +kernel
theorem dX0_keep_16 : decode cX0_keep 16 = .ok (.iload_n 2, 1) := by decide +kernel
theorem dX0_keep_17 : decode cX0_keep 17 = .ok (.iconst 1, 1) := by decide +kernel
theorem dX0_keep_18 : decode cX0_keep 18 = .ok (.isub, 1) := by decide +kernel
theorem dX0_keep_19 : decode cX0_keep 19 = .ok (.iaload, 1) := by decide +kernel
theorem dX0_keep_20 : decode cX0_keep 20 = .ok (.iastore, 1) := by decide +kernel
theorem dX0_keep_21 : decode cX0_keep 21 = .ok (.iinc 2 (-1), 3) := by decide +kernel
theorem dX0_keep_24 : decode cX0_keep 24 = .ok (.goto (-21), 3) := by decide +kernel
theorem dX0_keep_27 : decode cX0_keep 27 = .ok (.aload_n 0, 1) := by decide +kernel
theorem dX0_keep_28 : decode cX0_keep 28 = .ok (.getfield 9, 3) := by decide +kernel
theorem dX0_keep_31 : decode cX0_keep 31 = .ok (.iconst 0, 1) := by decide +kernel
theorem dX0_keep_32 : decode cX0_keep 32 = .ok (.iload_n 1, 1) := by decide +kernel
theorem dX0_keep_33 : decode cX0_keep 33 = .ok (.iastore, 1) := by decide +kernel
theorem dX0_keep_34 : decode cX0_keep 34 = .ok (.aload_n 0, 1) := by decide +kernel
theorem dX0_keep_35 : decode cX0_keep 35 = .ok (.dup, 1) := by decide +kernel
theorem dX0_keep_36 : decode cX0_keep 36 = .ok (.getfield 15, 3) := by decide +kernel
theorem dX0_keep_39 : decode cX0_keep 39 = .ok (.iconst 1, 1) := by decide +kernel
theorem dX0_keep_40 : decode cX0_keep 40 = .ok (.iadd, 1) := by decide +kernel
theorem dX0_keep_41 : decode cX0_keep 41 = .ok (.putfield 15, 3) := by decide +kernel
theorem dX0_keep_44 : decode cX0_keep 44 = .ok (.return_, 1) := by decide +kernel
theorem dX0_nth_0 : decode cX0_nth 0 = .ok (.iload_n 1, 1) := by decide +kernel
theorem dX0_nth_1 : decode cX0_nth 1 = .ok (.ifCond .lt 26, 3) := by decide +kernel
theorem dX0_nth_4 : decode cX0_nth 4 = .ok (.iload_n 1, 1) := by decide +kernel
theorem dX0_nth_5 : decode cX0_nth 5 = .ok (.aload_n 0, 1) := by decide +kernel
theorem dX0_nth_6 : decode cX0_nth 6 = .ok (.getfield 15, 3) := by decide +kernel
theorem dX0_nth_9 : decode cX0_nth 9 = .ok (.if_icmp .ge 18, 3) := by decide +kernel
theorem dX0_nth_12 : decode cX0_nth 12 = .ok (.iload_n 1, 1) := by decide +kernel
theorem dX0_nth_13 : decode cX0_nth 13 = .ok (.bipush 8, 2) := by decide +kernel
theorem dX0_nth_15 : decode cX0_nth 15 = .ok (.if_icmp .ge 12, 3) := by decide +kernel
theorem dX0_nth_18 : decode cX0_nth 18 = .ok (.aload_n 0, 1) := by decide +kernel
theorem dX0_nth_19 : decode cX0_nth 19 = .ok (.getfield 9, 3) := by decide +kernel
theorem dX0_nth_22 : decode cX0_nth 22 = .ok (.iload_n 1, 1) := by decide +kernel
theorem dX0_nth_23 : decode cX0_nth 23 = .ok (.iaload, 1) := by decide +kernel
theorem dX0_nth_24 : decode cX0_nth 24 = .ok (.goto 4, 3) := by decide +kernel
theorem dX0_nth_27 : decode cX0_nth 27 = .ok (.iconst (-1), 1) := by decide +kernel
theorem dX0_nth_28 : decode cX0_nth 28 = .ok (.ireturn, 1) := by decide +kernel
theorem dX0_copyFrom_0 : decode cX0_copyFrom 0 = .ok (.aload_n 1, 1) := by decide +kernel
theorem dX0_copyFrom_1 : decode cX0_copyFrom 1 = .ok (.getfield 9, 3) := by decide +kernel
theorem dX0_copyFrom_4 : decode cX0_copyFrom 4 = .ok (.iconst 0, 1) := by decide +kernel
theorem dX0_copyFrom_5 : decode cX0_copyFrom 5 = .ok (.aload_n 0, 1) := by decide +kernel
theorem dX0_copyFrom_6 : decode cX0_copyFrom 6 = .ok (.getfield 9, 3) := by decide +kernel
theorem dX0_copyFrom_9 : decode cX0_copyFrom 9 = .ok (.iconst 0, 1) := by decide +kernel
theorem dX0_copyFrom_10 : decode cX0_copyFrom 10 = .ok (.bipush 8, 2) := by decide +kernel
theorem dX0_copyFrom_12 : decode cX0_copyFrom 12 = .ok (.invokestatic 35, 3) := by decide +kernel
theorem dX0_copyFrom_15 : decode cX0_copyFrom 15 = .ok (.aload_n 0, 1) := by decide +kernel
theorem dX0_copyFrom_16 : decode cX0_copyFrom 16 = .ok (.aload_n 1, 1) := by decide +kernel
theorem dX0_copyFrom_17 : decode cX0_copyFrom 17 = .ok (.getfield 15, 3) := by decide +kernel
theorem dX0_copyFrom_20 : decode cX0_copyFrom 20 = .ok (.putfield 15, 3) := by decide +kernel
theorem dX0_copyFrom_23 : decode cX0_copyFrom 23 = .ok (.aload_n 0, 1) := by decide +kernel
theorem dX0_copyFrom_24 : decode cX0_copyFrom 24 = .ok (.aload_n 1, 1) := by decide +kernel
theorem dX0_copyFrom_25 : decode cX0_copyFrom 25 = .ok (.getfield 19, 3) := by decide +kernel
theorem dX0_copyFrom_28 : decode cX0_copyFrom 28 = .ok (.putfield 19, 3) := by decide +kernel
theorem dX0_copyFrom_31 : decode cX0_copyFrom 31 = .ok (.aload_n 0, 1) := by decide +kernel
theorem dX0_copyFrom_32 : decode cX0_copyFrom 32 = .ok (.aload_n 1, 1) := by decide +kernel
theorem dX0_copyFrom_33 : decode cX0_copyFrom 33 = .ok (.getfield 25, 3) := by decide +kernel
theorem dX0_copyFrom_36 : decode cX0_copyFrom 36 = .ok (.putfield 25, 3) := by decide +kernel
theorem dX0_copyFrom_39 : decode cX0_copyFrom 39 = .ok (.aload_n 0, 1) := by decide +kernel
theorem dX0_copyFrom_40 : decode cX0_copyFrom 40 = .ok (.aload_n 1, 1) := by decide +kernel
theorem dX0_copyFrom_41 : decode cX0_copyFrom 41 = .ok (.getfield 28, 3) := by decide +kernel
theorem dX0_copyFrom_44 : decode cX0_copyFrom 44 = .ok (.putfield 28, 3) := by decide +kernel
theorem dX0_copyFrom_47 : decode cX0_copyFrom 47 = .ok (.return_, 1) := by decide +kernel
theorem dX1_init_0 : decode cX1_init 0 = .ok (.aload_n 0, 1) := by decide +kernel
theorem dX1_init_1 : decode cX1_init 1 = .ok (.invokespecial 3, 3) := by decide +kernel
theorem dX1_init_4 : decode cX1_init 4 = .ok (.aload_n 0, 1) := by decide +kernel
theorem dX1_init_5 : decode cX1_init 5 = .ok (.bipush 24, 2) := by decide +kernel
theorem dX1_init_7 : decode cX1_init 7 = .ok (.newarray .int, 2) := by decide +kernel
theorem dX1_init_9 : decode cX1_init 9 = .ok (.putfield 9, 3) := by decide +kernel
theorem dX1_init_12 : decode cX1_init 12 = .ok (.return_, 1) := by decide +kernel
theorem dX1_begin_0 : decode cX1_begin 0 = .ok (.iconst 0, 1) := by decide +kernel
theorem dX1_begin_1 : decode cX1_begin 1 = .ok (.istore_n 2, 1) := by decide +kernel
theorem dX1_begin_2 : decode cX1_begin 2 = .ok (.iload_n 2, 1) := by decide +kernel
theorem dX1_begin_3 : decode cX1_begin 3 = .ok (.aload_n 1, 1) := by decide +kernel
theorem dX1_begin_4 : decode cX1_begin 4 = .ok (.getfield 15, 3) := by decide +kernel
theorem dX1_begin_7 : decode cX1_begin 7 = .ok (.if_icmp .ge 25, 3) := by decide +kernel
theorem dX1_begin_10 : decode cX1_begin 10 = .ok (.iload_n 2, 1) := by decide +kernel
theorem dX1_begin_11 : decode cX1_begin 11 = .ok (.bipush 24, 2) := by decide +kernel
theorem dX1_begin_13 : decode cX1_begin 13 = .ok (.if_icmp .ge 19, 3) := by decide +kernel
theorem dX1_begin_16 : decode cX1_begin 16 = .ok (.aload_n 0, 1) := by decide +kernel
theorem dX1_begin_17 : decode cX1_begin 17 = .ok (.getfield 9, 3) := by decide +kernel
theorem dX1_begin_20 : decode cX1_begin 20 = .ok (.iload_n 2, 1) := by decide +kernel
theorem dX1_begin_21 : decode cX1_begin 21 = .ok (.aload_n 1, 1) := by decide +kernel
theorem dX1_begin_22 : decode cX1_begin 22 = .ok (.getfield 21, 3) := by decide +kernel
theorem dX1_begin_25 : decode cX1_begin 25 = .ok (.iastore, 1) := by decide +kernel
theorem dX1_begin_26 : decode cX1_begin 26 = .ok (.iinc 2 1, 3) := by decide +kernel
theorem dX1_begin_29 : decode cX1_begin 29 = .ok (.goto (-27), 3) := by decide +kernel
theorem dX1_begin_32 : decode cX1_begin 32 = .ok (.aload_n 0, 1) := by decide +kernel
theorem dX1_begin_33 : decode cX1_begin 33 = .ok (.aload_n 1, 1) := by decide +kernel
theorem dX1_begin_34 : decode cX1_begin 34 = .ok (.getfield 24, 3) := by decide +kernel
theorem dX1_begin_37 : decode cX1_begin 37 = .ok (.putfield 27, 3) := by decide +kernel
theorem dX1_begin_40 : decode cX1_begin 40 = .ok (.aload_n 0, 1) := by decide +kernel
theorem dX1_begin_41 : decode cX1_begin 41 = .ok (.iconst 0, 1) := by decide +kernel
theorem dX1_begin_42 : decode cX1_begin 42 = .ok (.putfield 30, 3) := by decide +kernel
theorem dX1_begin_45 : decode cX1_begin 45 = .ok (.aload_n 0, 1) := by decide +kernel
theorem dX1_begin_46 : decode cX1_begin 46 = .ok (.iconst 0, 1) := by decide +kernel
theorem dX1_begin_47 : decode cX1_begin 47 = .ok (.putfield 33, 3) := by decide +kernel
theorem dX1_begin_50 : decode cX1_begin 50 = .ok (.aload_n 0, 1) := by decide +kernel
theorem dX1_begin_51 : decode cX1_begin 51 = .ok (.iconst 0, 1) := by decide +kernel
theorem dX1_begin_52 : decode cX1_begin 52 = .ok (.putfield 36, 3) := by decide +kernel
theorem dX1_begin_55 : decode cX1_begin 55 = .ok (.aload_n 0, 1) := by decide +kernel
theorem dX1_begin_56 : decode cX1_begin 56 = .ok (.iconst (-1), 1) := by decide +kernel
theorem dX1_begin_57 : decode cX1_begin 57 = .ok (.putfield 39, 3) := by decide +kernel
theorem dX1_begin_60 : decode cX1_begin 60 = .ok (.return_, 1) := by decide +kernel
set_option maxRecDepth 20000 in
theorem ggX1_follow_J6_bitCount_0f7a4 : GoodIn wsX1_follow wsJ6_bitCount_0f7a4 := gi_e e_wsX1_follow e_wsJ6_bitCount_0f7a4 (by decide +kernel)
set_option maxRecDepth 20000 in
theorem gX1_follow_J6_bitCount_0f7a4 : GoodIn wsX1_follow (va_wsS RX1 51 yJ6_bitCount_0f7a4 wsJ6_bitCount_0f7a4) := goodIn_app (gi_e e_wsX1_follow (ce fw_3197 (ce fw_3198 (ce fw_1039 (cn)))) (by decide +kernel)) ggX1_follow_J6_bitCount_0f7a4
set_option maxRecDepth 20000 in
theorem ggX1_follow_X5_placeBehind : GoodIn wsX1_follow wsX5_placeBehind := gi_e e_wsX1_follow e_wsX5_placeBehind (by decide +kernel)
set_option maxRecDepth 20000 in
theorem gX1_follow_X5_placeBehind : GoodIn wsX1_follow (wsV RX1 57 RX5 yX5_placeBehind wsX5_placeBehind) := goodIn_app (gi_e e_wsX1_follow (ce fw_3203 (ce fw_3204 (ce fw_3205 (ce fw_1027 (cn))))) (by decide +kernel)) ggX1_follow_X5_placeBehind
theorem dX1_follow_0 : decode cX1_follow 0 = .ok (.aload_n 0, 1) := by decide +kernel
theorem dX1_follow_1 : decode cX1_follow 1 = .ok (.getfield 33, 3) := by decide +kernel
theorem dX1_follow_4 : decode cX1_follow 4 = .ok (.ifCond .lt 12, 3) := by decide +kernel
theorem dX1_follow_7 : decode cX1_follow 7 = .ok (.aload_n 0, 1) := by decide +kernel
theorem dX1_follow_8 : decode cX1_follow 8 = .ok (.getfield 33, 3) := by decide +kernel
theorem dX1_follow_11 : decode cX1_follow 11 = .ok (.bipush 24, 2) := by decide +kernel
theorem dX1_follow_13 : decode cX1_follow 13 = .ok (.if_icmp .lt 4, 3) := by decide +kernel
theorem dX1_follow_16 : decode cX1_follow 16 = .ok (.return_, 1) := by decide +kernel
theorem dX1_follow_17 : decode cX1_follow 17 = .ok (.iload_n 2, 1) := by decide +kernel
theorem dX1_follow_18 : decode cX1_follow 18 = .ok (.ifCond .ne 10, 3) := by decide +kernel
theorem dX1_follow_21 : decode cX1_follow 21 = .ok (.aload_n 1, 1) := by decide +kernel
theorem dX1_follow_22 : decode cX1_follow 22 = .ok (.getfield 42, 3) := by decide +kernel
theorem dX1_follow_25 : decode cX1_follow 25 = .ok (.goto 7, 3) := by decide +kernel
theorem dX1_follow_28 : decode cX1_follow 28 = .ok (.aload_n 1, 1) := by decide +kernel
theorem dX1_follow_29 : decode cX1_follow 29 = .ok (.getfield 45, 3) := by decide +kernel
theorem dX1_follow_32 : decode cX1_follow 32 = .ok (.istore_n 3, 1) := by decide +kernel
theorem dX1_follow_33 : decode cX1_follow 33 = .ok (.iload_n 3, 1) := by decide +kernel
theorem dX1_follow_34 : decode cX1_follow 34 = .ok (.aload_n 0, 1) := by decide +kernel
theorem dX1_follow_35 : decode cX1_follow 35 = .ok (.getfield 36, 3) := by decide +kernel
theorem dX1_follow_38 : decode cX1_follow 38 = .ok (.ishr, 1) := by decide +kernel
theorem dX1_follow_39 : decode cX1_follow 39 = .ok (.iload_n 3, 1) := by decide +kernel
theorem dX1_follow_40 : decode cX1_follow 40 = .ok (.aload_n 1, 1) := by decide +kernel
theorem dX1_follow_41 : decode cX1_follow 41 = .ok (.getfield 48, 3) := by decide +kernel
theorem dX1_follow_44 : decode cX1_follow 44 = .ok (.aload_n 0, 1) := by decide +kernel
theorem dX1_follow_45 : decode cX1_follow 45 = .ok (.getfield 36, 3) := by decide +kernel
theorem dX1_follow_48 : decode cX1_follow 48 = .ok (.isub, 1) := by decide +kernel
theorem dX1_follow_49 : decode cX1_follow 49 = .ok (.ishl, 1) := by decide +kernel
theorem dX1_follow_50 : decode cX1_follow 50 = .ok (.ior, 1) := by decide +kernel
theorem dX1_follow_51 : decode cX1_follow 51 = .ok (.istore 4, 2) := by decide +kernel
theorem dX1_follow_53 : decode cX1_follow 53 = .ok (.aload_n 0, 1) := by decide +kernel
theorem dX1_follow_54 : decode cX1_follow 54 = .ok (.getfield 9, 3) := by decide +kernel
theorem dX1_follow_57 : decode cX1_follow 57 = .ok (.aload_n 0, 1) := by decide +kernel
theorem dX1_follow_58 : decode cX1_follow 58 = .ok (.getfield 33, 3) := by decide +kernel
theorem dX1_follow_61 : decode cX1_follow 61 = .ok (.iaload, 1) := by decide +kernel
theorem dX1_follow_62 : decode cX1_follow 62 = .ok (.iload 4, 2) := by decide +kernel
theorem dX1_follow_64 : decode cX1_follow 64 = .ok (.iand, 1) := by decide +kernel
theorem dX1_follow_65 : decode cX1_follow 65 = .ok (.istore 5, 2) := by decide +kernel
theorem dX1_follow_67 : decode cX1_follow 67 = .ok (.aload_n 0, 1) := by decide +kernel
theorem dX1_follow_68 : decode cX1_follow 68 = .ok (.getfield 9, 3) := by decide +kernel
theorem dX1_follow_71 : decode cX1_follow 71 = .ok (.aload_n 0, 1) := by decide +kernel
theorem dX1_follow_72 : decode cX1_follow 72 = .ok (.getfield 33, 3) := by decide +kernel
theorem dX1_follow_75 : decode cX1_follow 75 = .ok (.dup2, 1) := by decide +kernel
theorem dX1_follow_76 : decode cX1_follow 76 = .ok (.iaload, 1) := by decide +kernel
theorem dX1_follow_77 : decode cX1_follow 77 = .ok (.iload 5, 2) := by decide +kernel
theorem dX1_follow_79 : decode cX1_follow 79 = .ok (.ixor, 1) := by decide +kernel
theorem dX1_follow_80 : decode cX1_follow 80 = .ok (.iastore, 1) := by decide +kernel
theorem dX1_follow_81 : decode cX1_follow 81 = .ok (.aload_n 0, 1) := by decide +kernel
theorem dX1_follow_82 : decode cX1_follow 82 = .ok (.dup, 1) := by decide +kernel
theorem dX1_follow_83 : decode cX1_follow 83 = .ok (.getfield 27, 3) := by decide +kernel
theorem dX1_follow_86 : decode cX1_follow 86 = .ok (.iload 5, 2) := by decide +kernel
theorem dX1_follow_88 : decode cX1_follow 88 = .ok (.invokestatic 51, 3) := by decide +kernel
theorem dX1_follow_91 : decode cX1_follow 91 = .ok (.isub, 1) := by decide +kernel
theorem dX1_follow_92 : decode cX1_follow 92 = .ok (.putfield 27, 3) := by decide +kernel
theorem dX1_follow_95 : decode cX1_follow 95 = .ok (.aload_n 0, 1) := by decide +kernel
theorem dX1_follow_96 : decode cX1_follow 96 = .ok (.dup, 1) := by decide +kernel
theorem dX1_follow_97 : decode cX1_follow 97 = .ok (.getfield 30, 3) := by decide +kernel
theorem dX1_follow_100 : decode cX1_follow 100 = .ok (.iconst 1, 1) := by decide +kernel
theorem dX1_follow_101 : decode cX1_follow 101 = .ok (.iadd, 1) := by decide +kernel
theorem dX1_follow_102 : decode cX1_follow 102 = .ok (.putfield 30, 3) := by decide +kernel
theorem dX1_follow_105 : decode cX1_follow 105 = .ok (.aload_n 0, 1) := by decide +kernel
theorem dX1_follow_106 : decode cX1_follow 106 = .ok (.getfield 33, 3) := by decide +kernel
theorem dX1_follow_109 : decode cX1_follow 109 = .ok (.ifCond .le 16, 3) := by decide +kernel
theorem dX1_follow_112 : decode cX1_follow 112 = .ok (.aload_n 0, 1) := by decide +kernel
theorem dX1_follow_113 : decode cX1_follow 113 = .ok (.dup, 1) := by decide +kernel
theorem dX1_follow_114 : decode cX1_follow 114 = .ok (.getfield 33, 3) := by decide +kernel
theorem dX1_follow_117 : decode cX1_follow 117 = .ok (.iconst 1, 1) := by decide +kernel
theorem dX1_follow_118 : decode cX1_follow 118 = .ok (.isub, 1) := by decide +kernel
theorem dX1_follow_119 : decode cX1_follow 119 = .ok (.putfield 33, 3) := by decide +kernel
theorem dX1_follow_122 : decode cX1_follow 122 = .ok (.goto 25, 3) := by decide +kernel
theorem dX1_follow_125 : decode cX1_follow 125 = .ok (.aload_n 0, 1) := by decide +kernel
theorem dX1_follow_126 : decode cX1_follow 126 = .ok (.aload_n 1, 1) := by decide +kernel
theorem dX1_follow_127 : decode cX1_follow 127 = .ok (.getfield 15, 3) := by decide +kernel
theorem dX1_follow_130 : decode cX1_follow 130 = .ok (.iconst 1, 1) := by decide +kernel
theorem dX1_follow_131 : decode cX1_follow 131 = .ok (.isub, 1) := by decide +kernel
theorem dX1_follow_132 : decode cX1_follow 132 = .ok (.putfield 33, 3) := by decide +kernel
theorem dX1_follow_135 : decode cX1_follow 135 = .ok (.aload_n 0, 1) := by decide +kernel
theorem dX1_follow_136 : decode cX1_follow 136 = .ok (.aload_n 1, 1) := by decide +kernel
theorem dX1_follow_137 : decode cX1_follow 137 = .ok (.aload_n 0, 1) := by decide +kernel
theorem dX1_follow_138 : decode cX1_follow 138 = .ok (.getfield 36, 3) := by decide +kernel
theorem dX1_follow_141 : decode cX1_follow 141 = .ok (.invokevirtual 57, 3) := by decide +kernel
theorem dX1_follow_144 : decode cX1_follow 144 = .ok (.putfield 36, 3) := by decide +kernel
theorem dX1_follow_147 : decode cX1_follow 147 = .ok (.return_, 1) := by decide +kernel
theorem dX1_nth_0 : decode cX1_nth 0 = .ok (.iload_n 2, 1) := by decide +kernel
theorem dX1_nth_1 : decode cX1_nth 1 = .ok (.ifCond .lt 11, 3) := by decide +kernel
theorem dX1_nth_4 : decode cX1_nth 4 = .ok (.iload_n 2, 1) := by decide +kernel
theorem dX1_nth_5 : decode cX1_nth 5 = .ok (.aload_n 0, 1) := by decide +kernel
theorem dX1_nth_6 : decode cX1_nth 6 = .ok (.getfield 27, 3) := by decide +kernel
theorem dX1_nth_9 : decode cX1_nth 9 = .ok (.if_icmp .lt 5, 3) := by decide +kernel
theorem dX1_nth_12 : decode cX1_nth 12 = .ok (.iconst (-1), 1) := by decide +kernel
theorem dX1_nth_13 : decode cX1_nth 13 = .ok (.ireturn, 1) := by decide +kernel
theorem dX1_nth_14 : decode cX1_nth 14 = .ok (.iconst 0, 1) := by decide +kernel
theorem dX1_nth_15 : decode cX1_nth 15 = .ok (.istore_n 3, 1) := by decide +kernel
theorem dX1_nth_16 : decode cX1_nth 16 = .ok (.iconst 0, 1) := by decide +kernel
theorem dX1_nth_17 : decode cX1_nth 17 = .ok (.istore 4, 2) := by decide +kernel
theorem dX1_nth_19 : decode cX1_nth 19 = .ok (.iload 4, 2) := by decide +kernel
theorem dX1_nth_21 : decode cX1_nth 21 = .ok (.aload_n 1, 1) := by decide +kernel
theorem dX1_nth_22 : decode cX1_nth 22 = .ok (.getfield 48, 3) := by decide +kernel
theorem dX1_nth_25 : decode cX1_nth 25 = .ok (.if_icmp .ge 65, 3) := by decide +kernel
theorem dX1_nth_28 : decode cX1_nth 28 = .ok (.iconst 0, 1) := by decide +kernel
theorem dX1_nth_29 : decode cX1_nth 29 = .ok (.istore 5, 2) := by decide +kernel
theorem dX1_nth_31 : decode cX1_nth 31 = .ok (.iload 5, 2) := by decide +kernel
theorem dX1_nth_33 : decode cX1_nth 33 = .ok (.aload_n 1, 1) := by decide +kernel
theorem dX1_nth_34 : decode cX1_nth 34 = .ok (.getfield 15, 3) := by decide +kernel
theorem dX1_nth_37 : decode cX1_nth 37 = .ok (.if_icmp .ge 47, 3) := by decide +kernel
theorem dX1_nth_40 : decode cX1_nth 40 = .ok (.iload 5, 2) := by decide +kernel
theorem dX1_nth_42 : decode cX1_nth 42 = .ok (.bipush 24, 2) := by decide +kernel
theorem dX1_nth_44 : decode cX1_nth 44 = .ok (.if_icmp .ge 40, 3) := by decide +kernel
theorem dX1_nth_47 : decode cX1_nth 47 = .ok (.iload_n 3, 1) := by decide +kernel
theorem dX1_nth_48 : decode cX1_nth 48 = .ok (.aload_n 0, 1) := by decide +kernel
theorem dX1_nth_49 : decode cX1_nth 49 = .ok (.getfield 9, 3) := by decide +kernel
theorem dX1_nth_52 : decode cX1_nth 52 = .ok (.iload 5, 2) := by decide +kernel
theorem dX1_nth_54 : decode cX1_nth 54 = .ok (.iaload, 1) := by decide +kernel
theorem dX1_nth_55 : decode cX1_nth 55 = .ok (.iload 4, 2) := by decide +kernel
theorem dX1_nth_57 : decode cX1_nth 57 = .ok (.ishr, 1) := by decide +kernel
theorem dX1_nth_58 : decode cX1_nth 58 = .ok (.iconst 1, 1) := by decide +kernel
theorem dX1_nth_59 : decode cX1_nth 59 = .ok (.iand, 1) := by decide +kernel
theorem dX1_nth_60 : decode cX1_nth 60 = .ok (.iadd, 1) := by decide +kernel
theorem dX1_nth_61 : decode cX1_nth 61 = .ok (.istore_n 3, 1) := by decide +kernel
theorem dX1_nth_62 : decode cX1_nth 62 = .ok (.iload_n 3, 1) := by decide +kernel
theorem dX1_nth_63 : decode cX1_nth 63 = .ok (.iload_n 2, 1) := by decide +kernel
theorem dX1_nth_64 : decode cX1_nth 64 = .ok (.if_icmp .le 14, 3) := by decide +kernel
theorem dX1_nth_67 : decode cX1_nth 67 = .ok (.iload 4, 2) := by decide +kernel
theorem dX1_nth_69 : decode cX1_nth 69 = .ok (.aload_n 1, 1) := by decide +kernel
theorem dX1_nth_70 : decode cX1_nth 70 = .ok (.getfield 15, 3) := by decide +kernel
theorem dX1_nth_73 : decode cX1_nth 73 = .ok (.imul, 1) := by decide +kernel
theorem dX1_nth_74 : decode cX1_nth 74 = .ok (.iload 5, 2) := by decide +kernel
theorem dX1_nth_76 : decode cX1_nth 76 = .ok (.iadd, 1) := by decide +kernel
theorem dX1_nth_77 : decode cX1_nth 77 = .ok (.ireturn, 1) := by decide +kernel
theorem dX1_nth_78 : decode cX1_nth 78 = .ok (.iinc 5 1, 3) := by decide +kernel
theorem dX1_nth_81 : decode cX1_nth 81 = .ok (.goto (-50), 3) := by decide +kernel
theorem dX1_nth_84 : decode cX1_nth 84 = .ok (.iinc 4 1, 3) := by decide +kernel
theorem dX1_nth_87 : decode cX1_nth 87 = .ok (.goto (-68), 3) := by decide +kernel
theorem dX1_nth_90 : decode cX1_nth 90 = .ok (.iconst (-1), 1) := by decide +kernel
theorem dX1_nth_91 : decode cX1_nth 91 = .ok (.ireturn, 1) := by decide +kernel
set_option maxRecDepth 20000 in
theorem ggX1_lone_X1_nth : GoodIn wsX1_lone wsX1_nth := gi_e e_wsX1_lone e_wsX1_nth (by decide +kernel)
set_option maxRecDepth 20000 in
theorem gX1_lone_X1_nth : GoodIn wsX1_lone (wsV RX1 60 RX1 yX1_nth wsX1_nth) := goodIn_app (gi_e e_wsX1_lone (ce fw_3219 (ce fw_3220 (ce fw_3221 (ce fw_1032 (cn))))) (by decide +kernel)) ggX1_lone_X1_nth
theorem dX1_lone_0 : decode cX1_lone 0 = .ok (.aload_n 0, 1) := by decide +kernel
theorem dX1_lone_1 : decode cX1_lone 1 = .ok (.getfield 39, 3) := by decide +kernel
theorem dX1_lone_4 : decode cX1_lone 4 = .ok (.iconst (-1), 1) := by decide +kernel
theorem dX1_lone_5 : decode cX1_lone 5 = .ok (.if_icmp .ne 13, 3) := by decide +kernel
theorem dX1_lone_8 : decode cX1_lone 8 = .ok (.aload_n 0, 1) := by decide +kernel
theorem dX1_lone_9 : decode cX1_lone 9 = .ok (.aload_n 0, 1) := by decide +kernel
theorem dX1_lone_10 : decode cX1_lone 10 = .ok (.aload_n 1, 1) := by decide +kernel
theorem dX1_lone_11 : decode cX1_lone 11 = .ok (.iconst 0, 1) := by decide +kernel
theorem dX1_lone_12 : decode cX1_lone 12 = .ok (.invokevirtual 60, 3) := by decide +kernel
theorem dX1_lone_15 : decode cX1_lone 15 = .ok (.putfield 39, 3) := by decide +kernel
theorem dX1_lone_18 : decode cX1_lone 18 = .ok (.aload_n 0, 1) := by decide +kernel
theorem dX1_lone_19 : decode cX1_lone 19 = .ok (.getfield 39, 3) := by decide +kernel
theorem dX1_lone_22 : decode cX1_lone 22 = .ok (.ireturn, 1) := by decide +kernel
set_option maxRecDepth 20000 in
theorem ggX1_fixedHeard_X1_lone : GoodIn wsX1_fixedHeard wsX1_lone := gi_e e_wsX1_fixedHeard e_wsX1_lone (by decide +kernel)
set_option maxRecDepth 20000 in
theorem gX1_fixedHeard_X1_lone : GoodIn wsX1_fixedHeard (wsV RX1 64 RX1 yX1_lone wsX1_lone) := goodIn_app (gi_e e_wsX1_fixedHeard (ce fw_3215 (ce fw_3216 (ce fw_3217 (ce fw_1032 (cn))))) (by decide +kernel)) ggX1_fixedHeard_X1_lone
set_option maxRecDepth 20000 in
theorem ggX1_fixedHeard_X5_fixedStarted : GoodIn wsX1_fixedHeard wsX5_fixedStarted := gi_e e_wsX1_fixedHeard e_wsX5_fixedStarted (by decide +kernel)
set_option maxRecDepth 20000 in
theorem gX1_fixedHeard_X5_fixedStarted : GoodIn wsX1_fixedHeard (wsV RX1 68 RX5 yX5_fixedStarted wsX5_fixedStarted) := goodIn_app (gi_e e_wsX1_fixedHeard (ce fw_3223 (ce fw_3224 (ce fw_3225 (ce fw_1027 (cn))))) (by decide +kernel)) ggX1_fixedHeard_X5_fixedStarted
theorem dX1_fixedHeard_0 : decode cX1_fixedHeard 0 = .ok (.aload_n 0, 1) := by decide +kernel
theorem dX1_fixedHeard_1 : decode cX1_fixedHeard 1 = .ok (.aload_n 1, 1) := by decide +kernel
theorem dX1_fixedHeard_2 : decode cX1_fixedHeard 2 = .ok (.invokevirtual 64, 3) := by decide +kernel
theorem dX1_fixedHeard_5 : decode cX1_fixedHeard 5 = .ok (.istore_n 2, 1) := by decide +kernel
theorem dX1_fixedHeard_6 : decode cX1_fixedHeard 6 = .ok (.aload_n 1, 1) := by decide +kernel
theorem dX1_fixedHeard_7 : decode cX1_fixedHeard 7 = .ok (.iload_n 2, 1) := by decide +kernel
theorem dX1_fixedHeard_8 : decode cX1_fixedHeard 8 = .ok (.aload_n 0, 1) := by decide +kernel
theorem dX1_fixedHeard_9 : decode cX1_fixedHeard 9 = .ok (.getfield 30, 3) := by decide +kernel
theorem dX1_fixedHeard_12 : decode cX1_fixedHeard 12 = .ok (.iadd, 1) := by decide +kernel
theorem dX1_fixedHeard_13 : decode cX1_fixedHeard 13 = .ok (.invokevirtual 68, 3) := by decide +kernel
theorem dX1_fixedHeard_16 : decode cX1_fixedHeard 16 = .ok (.aload_n 1, 1) := by decide +kernel
theorem dX1_fixedHeard_17 : decode cX1_fixedHeard 17 = .ok (.iload_n 2, 1) := by decide +kernel
theorem dX1_fixedHeard_18 : decode cX1_fixedHeard 18 = .ok (.invokevirtual 68, 3) := by decide +kernel
theorem dX1_fixedHeard_21 : decode cX1_fixedHeard 21 = .ok (.isub, 1) := by decide +kernel
theorem dX1_fixedHeard_22 : decode cX1_fixedHeard 22 = .ok (.ireturn, 1) := by decide +kernel
theorem dX1_copyFrom_0 : decode cX1_copyFrom 0 = .ok (.aload_n 1, 1) := by decide +kernel
theorem dX1_copyFrom_1 : decode cX1_copyFrom 1 = .ok (.getfield 9, 3) := by decide +kernel
theorem dX1_copyFrom_4 : decode cX1_copyFrom 4 = .ok (.iconst 0, 1) := by decide +kernel
theorem dX1_copyFrom_5 : decode cX1_copyFrom 5 = .ok (.aload_n 0, 1) := by decide +kernel
theorem dX1_copyFrom_6 : decode cX1_copyFrom 6 = .ok (.getfield 9, 3) := by decide +kernel
theorem dX1_copyFrom_9 : decode cX1_copyFrom 9 = .ok (.iconst 0, 1) := by decide +kernel
theorem dX1_copyFrom_10 : decode cX1_copyFrom 10 = .ok (.bipush 24, 2) := by decide +kernel
theorem dX1_copyFrom_12 : decode cX1_copyFrom 12 = .ok (.invokestatic 71, 3) := by decide +kernel
theorem dX1_copyFrom_15 : decode cX1_copyFrom 15 = .ok (.aload_n 0, 1) := by decide +kernel
theorem dX1_copyFrom_16 : decode cX1_copyFrom 16 = .ok (.aload_n 1, 1) := by decide +kernel
theorem dX1_copyFrom_17 : decode cX1_copyFrom 17 = .ok (.getfield 27, 3) := by decide +kernel
theorem dX1_copyFrom_20 : decode cX1_copyFrom 20 = .ok (.putfield 27, 3) := by decide +kernel
theorem dX1_copyFrom_23 : decode cX1_copyFrom 23 = .ok (.aload_n 0, 1) := by decide +kernel
theorem dX1_copyFrom_24 : decode cX1_copyFrom 24 = .ok (.aload_n 1, 1) := by decide +kernel
theorem dX1_copyFrom_25 : decode cX1_copyFrom 25 = .ok (.getfield 30, 3) := by decide +kernel
theorem dX1_copyFrom_28 : decode cX1_copyFrom 28 = .ok (.putfield 30, 3) := by decide +kernel
theorem dX1_copyFrom_31 : decode cX1_copyFrom 31 = .ok (.aload_n 0, 1) := by decide +kernel
theorem dX1_copyFrom_32 : decode cX1_copyFrom 32 = .ok (.aload_n 1, 1) := by decide +kernel
theorem dX1_copyFrom_33 : decode cX1_copyFrom 33 = .ok (.getfield 33, 3) := by decide +kernel
theorem dX1_copyFrom_36 : decode cX1_copyFrom 36 = .ok (.putfield 33, 3) := by decide +kernel
theorem dX1_copyFrom_39 : decode cX1_copyFrom 39 = .ok (.aload_n 0, 1) := by decide +kernel
theorem dX1_copyFrom_40 : decode cX1_copyFrom 40 = .ok (.aload_n 1, 1) := by decide +kernel
theorem dX1_copyFrom_41 : decode cX1_copyFrom 41 = .ok (.getfield 36, 3) := by decide +kernel
theorem dX1_copyFrom_44 : decode cX1_copyFrom 44 = .ok (.putfield 36, 3) := by decide +kernel
theorem dX1_copyFrom_47 : decode cX1_copyFrom 47 = .ok (.aload_n 0, 1) := by decide +kernel
theorem dX1_copyFrom_48 : decode cX1_copyFrom 48 = .ok (.aload_n 1, 1) := by decide +kernel
theorem dX1_copyFrom_49 : decode cX1_copyFrom 49 = .ok (.getfield 39, 3) := by decide +kernel
theorem dX1_copyFrom_52 : decode cX1_copyFrom 52 = .ok (.putfield 39, 3) := by decide +kernel
theorem dX1_copyFrom_55 : decode cX1_copyFrom 55 = .ok (.return_, 1) := by decide +kernel
theorem dX2_init_0 : decode cX2_init 0 = .ok (.aload_n 0, 1) := by decide +kernel
theorem dX2_init_1 : decode cX2_init 1 = .ok (.invokespecial 3, 3) := by decide +kernel
theorem dX2_init_4 : decode cX2_init 4 = .ok (.aload_n 0, 1) := by decide +kernel
theorem dX2_init_5 : decode cX2_init 5 = .ok (.iconst 0, 1) := by decide +kernel
theorem dX2_init_6 : decode cX2_init 6 = .ok (.iload_n 1, 1) := by decide +kernel
theorem dX2_init_7 : decode cX2_init 7 = .ok (.invokestatic 9, 3) := by decide +kernel
theorem dX2_init_10 : decode cX2_init 10 = .ok (.newarray .byte, 2) := by decide +kernel
theorem dX2_init_12 : decode cX2_init 12 = .ok (.putfield 15, 3) := by decide +kernel
theorem dX2_init_15 : decode cX2_init 15 = .ok (.return_, 1) := by decide +kernel
theorem dX2_at_0 : decode cX2_at 0 = .ok (.iload_n 1, 1) := by decide +kernel
theorem dX2_at_1 : decode cX2_at 1 = .ok (.ifCond .lt 29, 3) := by decide +kernel
theorem dX2_at_4 : decode cX2_at 4 = .ok (.iload_n 1, 1) := by decide +kernel
theorem dX2_at_5 : decode cX2_at 5 = .ok (.aload_n 0, 1) := by decide +kernel
theorem dX2_at_6 : decode cX2_at 6 = .ok (.getfield 21, 3) := by decide +kernel
theorem dX2_at_9 : decode cX2_at 9 = .ok (.if_icmp .ge 21, 3) := by decide +kernel
theorem dX2_at_12 : decode cX2_at 12 = .ok (.iload_n 1, 1) := by decide +kernel
theorem dX2_at_13 : decode cX2_at 13 = .ok (.aload_n 0, 1) := by decide +kernel
theorem dX2_at_14 : decode cX2_at 14 = .ok (.getfield 15, 3) := by decide +kernel
theorem dX2_at_17 : decode cX2_at 17 = .ok (.arraylength, 1) := by decide +kernel
theorem dX2_at_18 : decode cX2_at 18 = .ok (.if_icmp .ge 12, 3) := by decide +kernel
theorem dX2_at_21 : decode cX2_at 21 = .ok (.aload_n 0, 1) := by decide +kernel
theorem dX2_at_22 : decode cX2_at 22 = .ok (.getfield 15, 3) := by decide +kernel
theorem dX2_at_25 : decode cX2_at 25 = .ok (.iload_n 1, 1) := by decide +kernel
theorem dX2_at_26 : decode cX2_at 26 = .ok (.baload, 1) := by decide +kernel
theorem dX2_at_27 : decode cX2_at 27 = .ok (.goto 4, 3) := by decide +kernel
theorem dX2_at_30 : decode cX2_at 30 = .ok (.iconst (-1), 1) := by decide +kernel
theorem dX2_at_31 : decode cX2_at 31 = .ok (.ireturn, 1) := by decide +kernel
theorem dX2_append_0 : decode cX2_append 0 = .ok (.aload_n 0, 1) := by decide +kernel
theorem dX2_append_1 : decode cX2_append 1 = .ok (.getfield 21, 3) := by decide +kernel
theorem dX2_append_4 : decode cX2_append 4 = .ok (.ifCond .lt 36, 3) := by decide +kernel
theorem dX2_append_7 : decode cX2_append 7 = .ok (.aload_n 0, 1) := by decide +kernel
theorem dX2_append_8 : decode cX2_append 8 = .ok (.getfield 21, 3) := by decide +kernel
theorem dX2_append_11 : decode cX2_append 11 = .ok (.aload_n 0, 1) := by decide +kernel
theorem dX2_append_12 : decode cX2_append 12 = .ok (.getfield 15, 3) := by decide +kernel
theorem dX2_append_15 : decode cX2_append 15 = .ok (.arraylength, 1) := by decide +kernel
theorem dX2_append_16 : decode cX2_append 16 = .ok (.if_icmp .ge 24, 3) := by decide +kernel
theorem dX2_append_19 : decode cX2_append 19 = .ok (.aload_n 0, 1) := by decide +kernel
theorem dX2_append_20 : decode cX2_append 20 = .ok (.getfield 15, 3) := by decide +kernel
theorem dX2_append_23 : decode cX2_append 23 = .ok (.aload_n 0, 1) := by decide +kernel
theorem dX2_append_24 : decode cX2_append 24 = .ok (.getfield 21, 3) := by decide +kernel
theorem dX2_append_27 : decode cX2_append 27 = .ok (.iload_n 1, 1) := by decide +kernel
theorem dX2_append_28 : decode cX2_append 28 = .ok (.i2b, 1) := by decide +kernel
theorem dX2_append_29 : decode cX2_append 29 = .ok (.bastore, 1) := by decide +kernel
theorem dX2_append_30 : decode cX2_append 30 = .ok (.aload_n 0, 1) := by decide +kernel
theorem dX2_append_31 : decode cX2_append 31 = .ok (.dup, 1) := by decide +kernel
theorem dX2_append_32 : decode cX2_append 32 = .ok (.getfield 21, 3) := by decide +kernel
theorem dX2_append_35 : decode cX2_append 35 = .ok (.iconst 1, 1) := by decide +kernel
theorem dX2_append_36 : decode cX2_append 36 = .ok (.iadd, 1) := by decide +kernel
theorem dX2_append_37 : decode cX2_append 37 = .ok (.putfield 21, 3) := by decide +kernel
theorem dX2_append_40 : decode cX2_append 40 = .ok (.return_, 1) := by decide +kernel
theorem dX2_copyFrom_0 : decode cX2_copyFrom 0 = .ok (.aload_n 0, 1) := by decide +kernel
theorem dX2_copyFrom_1 : decode cX2_copyFrom 1 = .ok (.iconst 0, 1) := by decide +kernel
theorem dX2_copyFrom_2 : decode cX2_copyFrom 2 = .ok (.aload_n 1, 1) := by decide +kernel
theorem dX2_copyFrom_3 : decode cX2_copyFrom 3 = .ok (.getfield 21, 3) := by decide +kernel
theorem dX2_copyFrom_6 : decode cX2_copyFrom 6 = .ok (.aload_n 1, 1) := by decide +kernel
theorem dX2_copyFrom_7 : decode cX2_copyFrom 7 = .ok (.getfield 15, 3) := by decide +kernel
theorem dX2_copyFrom_10 : decode cX2_copyFrom 10 = .ok (.arraylength, 1) := by decide +kernel
theorem dX2_copyFrom_11 : decode cX2_copyFrom 11 = .ok (.aload_n 0, 1) := by decide +kernel
theorem dX2_copyFrom_12 : decode cX2_copyFrom 12 = .ok (.getfield 15, 3) := by decide +kernel
theorem dX2_copyFrom_15 : decode cX2_copyFrom 15 = .ok (.arraylength, 1) := by decide +kernel
theorem dX2_copyFrom_16 : decode cX2_copyFrom 16 = .ok (.invokestatic 31, 3) := by decide +kernel
theorem dX2_copyFrom_19 : decode cX2_copyFrom 19 = .ok (.invokestatic 31, 3) := by decide +kernel
theorem dX2_copyFrom_22 : decode cX2_copyFrom 22 = .ok (.invokestatic 9, 3) := by decide +kernel
theorem dX2_copyFrom_25 : decode cX2_copyFrom 25 = .ok (.putfield 21, 3) := by decide +kernel
theorem dX2_copyFrom_28 : decode cX2_copyFrom 28 = .ok (.aload_n 1, 1) := by decide +kernel
theorem dX2_copyFrom_29 : decode cX2_copyFrom 29 = .ok (.getfield 15, 3) := by decide +kernel
theorem dX2_copyFrom_32 : decode cX2_copyFrom 32 = .ok (.iconst 0, 1) := by decide +kernel
theorem dX2_copyFrom_33 : decode cX2_copyFrom 33 = .ok (.aload_n 0, 1) := by decide +kernel
theorem dX2_copyFrom_34 : decode cX2_copyFrom 34 = .ok (.getfield 15, 3) := by decide +kernel
theorem dX2_copyFrom_37 : decode cX2_copyFrom 37 = .ok (.iconst 0, 1) := by decide +kernel
theorem dX2_copyFrom_38 : decode cX2_copyFrom 38 = .ok (.aload_n 0, 1) := by decide +kernel
theorem dX2_copyFrom_39 : decode cX2_copyFrom 39 = .ok (.getfield 21, 3) := by decide +kernel
theorem dX2_copyFrom_42 : decode cX2_copyFrom 42 = .ok (.invokestatic 25, 3) := by decide +kernel
theorem dX2_copyFrom_45 : decode cX2_copyFrom 45 = .ok (.return_, 1) := by decide +kernel
set_option maxRecDepth 20000 in
theorem ggX3_init_X5_init : GoodIn wsX3_init wsX5_init := gi_e e_wsX3_init e_wsX5_init (by decide +kernel)
set_option maxRecDepth 20000 in
theorem gX3_init_X5_init : GoodIn wsX3_init (wsX5_init) := ggX3_init_X5_init
set_option maxRecDepth 20000 in
theorem ggX3_init_X8_init : GoodIn wsX3_init wsX8_init := gi_e e_wsX3_init e_wsX8_init (by decide +kernel)
set_option maxRecDepth 20000 in
theorem gX3_init_X8_init_n20 : GoodIn wsX3_init (wsX8_init) := ggX3_init_X8_init
theorem dX3_init_0 : decode cX3_init 0 = .ok (.aload_n 0, 1) := by decide +kernel
theorem dX3_init_1 : decode cX3_init 1 = .ok (.invokespecial 3, 3) := by decide +kernel
theorem dX3_init_4 : decode cX3_init 4 = .ok (.aload_n 0, 1) := by decide +kernel
theorem dX3_init_5 : decode cX3_init 5 = .ok (.new 9, 3) := by decide +kernel
theorem dX3_init_8 : decode cX3_init 8 = .ok (.dup, 1) := by decide +kernel
theorem dX3_init_9 : decode cX3_init 9 = .ok (.invokespecial 11, 3) := by decide +kernel
theorem dX3_init_12 : decode cX3_init 12 = .ok (.putfield 12, 3) := by decide +kernel
theorem dX3_init_15 : decode cX3_init 15 = .ok (.aload_n 0, 1) := by decide +kernel
theorem dX3_init_16 : decode cX3_init 16 = .ok (.new 18, 3) := by decide +kernel
theorem dX3_init_19 : decode cX3_init 19 = .ok (.dup, 1) := by decide +kernel
theorem dX3_init_20 : decode cX3_init 20 = .ok (.invokespecial 20, 3) := by decide +kernel
theorem dX3_init_23 : decode cX3_init 23 = .ok (.putfield 21, 3) := by decide +kernel
theorem dX3_init_26 : decode cX3_init 26 = .ok (.return_, 1) := by decide +kernel
set_option maxRecDepth 20000 in
theorem ggX3_readWhole_X8_copyFrom : GoodIn wsX3_readWhole wsX8_copyFrom := gi_e e_wsX3_readWhole e_wsX8_copyFrom (by decide +kernel)
set_option maxRecDepth 20000 in
theorem gX3_readWhole_X8_copyFrom : GoodIn wsX3_readWhole (wsV RX3 25 RX8 yX8_copyFrom wsX8_copyFrom) := goodIn_app (gi_e e_wsX3_readWhole (ce fw_4163 (ce fw_4164 (ce fw_4165 (ce fw_1028 (cn))))) (by decide +kernel)) ggX3_readWhole_X8_copyFrom
set_option maxRecDepth 20000 in
theorem ggX3_readWhole_X5_begin : GoodIn wsX3_readWhole wsX5_begin := gi_e e_wsX3_readWhole e_wsX5_begin (by decide +kernel)
set_option maxRecDepth 20000 in
theorem gX3_readWhole_X5_begin : GoodIn wsX3_readWhole (wsV RX3 29 RX5 yX5_begin wsX5_begin) := goodIn_app (gi_e e_wsX3_readWhole (ce fw_4170 (ce fw_1070 (ce fw_1071 (ce fw_1027 (cn))))) (by decide +kernel)) ggX3_readWhole_X5_begin
set_option maxRecDepth 20000 in
theorem ggX3_readWhole_X3_step : GoodIn wsX3_readWhole wsX3_step := gi_e e_wsX3_readWhole e_wsX3_step (by decide +kernel)
set_option maxRecDepth 20000 in
theorem gX3_readWhole_X3_step : GoodIn wsX3_readWhole (wsV RX3 42 RX3 yX3_step wsX3_step) := goodIn_app (gi_e e_wsX3_readWhole (ce fw_4171 (ce fw_4173 (ce fw_16 (ce fw_1037 (cn))))) (by decide +kernel)) ggX3_readWhole_X3_step
set_option maxRecDepth 20000 in
theorem ggX3_readWhole_X3_readStatement : GoodIn wsX3_readWhole wsX3_readStatement := gi_e e_wsX3_readWhole e_wsX3_readStatement (by decide +kernel)
set_option maxRecDepth 20000 in
theorem gX3_readWhole_X3_readStatement : GoodIn wsX3_readWhole (wsV RX3 48 RX3 yX3_readStatement wsX3_readStatement) := goodIn_app (gi_e e_wsX3_readWhole (ce fw_4188 (ce fw_4190 (ce fw_17 (ce fw_1037 (cn))))) (by decide +kernel)) ggX3_readWhole_X3_readStatement
set_option maxRecDepth 20000 in
theorem ggX3_readWhole_X5_derive : GoodIn wsX3_readWhole wsX5_derive := gi_e e_wsX3_readWhole e_wsX5_derive (by decide +kernel)
set_option maxRecDepth 20000 in
theorem gX3_readWhole_X5_derive : GoodIn wsX3_readWhole (wsV RX3 51 RX5 yX5_derive wsX5_derive) := goodIn_app (gi_e e_wsX3_readWhole (ce fw_4276 (ce fw_1074 (ce fw_1075 (ce fw_1027 (cn))))) (by decide +kernel)) ggX3_readWhole_X5_derive
theorem dX3_readWhole_0 : decode cX3_readWhole 0 = .ok (.aload_n 0, 1) := by decide +kernel
theorem dX3_readWhole_1 : decode cX3_readWhole 1 = .ok (.getfield 21, 3) := by decide +kernel
theorem dX3_readWhole_4 : decode cX3_readWhole 4 = .ok (.aload_n 1, 1) := by decide +kernel
theorem dX3_readWhole_5 : decode cX3_readWhole 5 = .ok (.invokevirtual 25, 3) := by decide +kernel
theorem dX3_readWhole_8 : decode cX3_readWhole 8 = .ok (.aload_n 0, 1) := by decide +kernel
theorem dX3_readWhole_9 : decode cX3_readWhole 9 = .ok (.getfield 12, 3) := by decide +kernel
theorem dX3_readWhole_12 : decode cX3_readWhole 12 = .ok (.invokevirtual 29, 3) := by decide +kernel
theorem dX3_readWhole_15 : decode cX3_readWhole 15 = .ok (.aload_n 0, 1) := by decide +kernel
theorem dX3_readWhole_16 : decode cX3_readWhole 16 = .ok (.iconst 0, 1) := by decide +kernel
theorem dX3_readWhole_17 : decode cX3_readWhole 17 = .ok (.putfield 32, 3) := by decide +kernel
theorem dX3_readWhole_20 : decode cX3_readWhole 20 = .ok (.aload_n 0, 1) := by decide +kernel
theorem dX3_readWhole_21 : decode cX3_readWhole 21 = .ok (.iconst (-1), 1) := by decide +kernel
theorem dX3_readWhole_22 : decode cX3_readWhole 22 = .ok (.putfield 36, 3) := by decide +kernel
theorem dX3_readWhole_25 : decode cX3_readWhole 25 = .ok (.aload_n 0, 1) := by decide +kernel
theorem dX3_readWhole_26 : decode cX3_readWhole 26 = .ok (.iconst 0, 1) := by decide +kernel
theorem dX3_readWhole_27 : decode cX3_readWhole 27 = .ok (.putfield 39, 3) := by decide +kernel
theorem dX3_readWhole_30 : decode cX3_readWhole 30 = .ok (.aload_n 0, 1) := by decide +kernel
theorem dX3_readWhole_31 : decode cX3_readWhole 31 = .ok (.invokevirtual 42, 3) := by decide +kernel
theorem dX3_readWhole_34 : decode cX3_readWhole 34 = .ok (.iconst 0, 1) := by decide +kernel
theorem dX3_readWhole_35 : decode cX3_readWhole 35 = .ok (.istore_n 2, 1) := by decide +kernel
theorem dX3_readWhole_36 : decode cX3_readWhole 36 = .ok (.iload_n 2, 1) := by decide +kernel
theorem dX3_readWhole_37 : decode cX3_readWhole 37 = .ok (.sipush 300, 3) := by decide +kernel
theorem dX3_readWhole_40 : decode cX3_readWhole 40 = .ok (.if_icmp .gt 28, 3) := by decide +kernel
theorem dX3_readWhole_43 : decode cX3_readWhole 43 = .ok (.aload_n 0, 1) := by decide +kernel
theorem dX3_readWhole_44 : decode cX3_readWhole 44 = .ok (.getfield 45, 3) := by decide +kernel
theorem dX3_readWhole_47 : decode cX3_readWhole 47 = .ok (.ifCond .eq 21, 3) := by decide +kernel
theorem dX3_readWhole_50 : decode cX3_readWhole 50 = .ok (.aload_n 0, 1) := by decide +kernel
theorem dX3_readWhole_51 : decode cX3_readWhole 51 = .ok (.getfield 32, 3) := by decide +kernel
theorem dX3_readWhole_54 : decode cX3_readWhole 54 = .ok (.iconst 1, 1) := by decide +kernel
theorem dX3_readWhole_55 : decode cX3_readWhole 55 = .ok (.if_icmp .eq 13, 3) := by decide +kernel
theorem dX3_readWhole_58 : decode cX3_readWhole 58 = .ok (.aload_n 0, 1) := by decide +kernel
theorem dX3_readWhole_59 : decode cX3_readWhole 59 = .ok (.invokevirtual 48, 3) := by decide +kernel
theorem dX3_readWhole_62 : decode cX3_readWhole 62 = .ok (.iinc 2 1, 3) := by decide +kernel
theorem dX3_readWhole_65 : decode cX3_readWhole 65 = .ok (.goto (-29), 3) := by decide +kernel
theorem dX3_readWhole_68 : decode cX3_readWhole 68 = .ok (.aload_n 0, 1) := by decide +kernel
theorem dX3_readWhole_69 : decode cX3_readWhole 69 = .ok (.getfield 32, 3) := by decide +kernel
theorem dX3_readWhole_72 : decode cX3_readWhole 72 = .ok (.ifCond .ne 10, 3) := by decide +kernel
theorem dX3_readWhole_75 : decode cX3_readWhole 75 = .ok (.aload_n 0, 1) := by decide +kernel
theorem dX3_readWhole_76 : decode cX3_readWhole 76 = .ok (.getfield 12, 3) := by decide +kernel
theorem dX3_readWhole_79 : decode cX3_readWhole 79 = .ok (.invokevirtual 51, 3) := by decide +kernel
theorem dX3_readWhole_82 : decode cX3_readWhole 82 = .ok (.return_, 1) := by decide +kernel
set_option maxRecDepth 20000 in
theorem ggX3_readStatement_X3_isWord : GoodIn wsX3_readStatement wsX3_isWord := gi_e e_wsX3_readStatement e_wsX3_isWord (by decide +kernel)
set_option maxRecDepth 20000 in
theorem gX3_readStatement_X3_isWord : GoodIn wsX3_readStatement (wsV RX3 59 RX3 yX3_isWord wsX3_isWord) := goodIn_app (gi_e e_wsX3_readStatement (ce fw_4193 (ce fw_4195 (ce fw_18 (ce fw_1037 (cn))))) (by decide +kernel)) ggX3_readStatement_X3_isWord
set_option maxRecDepth 20000 in
theorem ggX3_readStatement_X3_step : GoodIn wsX3_readStatement wsX3_step := gi_e e_wsX3_readStatement e_wsX3_step (by decide +kernel)
set_option maxRecDepth 20000 in
theorem gX3_readStatement_X3_step : GoodIn wsX3_readStatement (wsV RX3 42 RX3 yX3_step wsX3_step) := goodIn_app (gi_e e_wsX3_readStatement (ce fw_4171 (ce fw_4173 (ce fw_16 (ce fw_1037 (cn))))) (by decide +kernel)) ggX3_readStatement_X3_step
set_option maxRecDepth 20000 in
theorem ggX3_readStatement_X3_readRow : GoodIn wsX3_readStatement wsX3_readRow := gi_e e_wsX3_readStatement e_wsX3_readRow (by decide +kernel)
set_option maxRecDepth 20000 in
theorem gX3_readStatement_X3_readRow : GoodIn wsX3_readStatement (wsV RX3 63 RX3 yX3_readRow wsX3_readRow) := goodIn_app (gi_e e_wsX3_readStatement (ce fw_4245 (ce fw_4247 (ce fw_19 (ce fw_1037 (cn))))) (by decide +kernel)) ggX3_readStatement_X3_readRow
set_option maxRecDepth 20000 in
theorem ggX3_readStatement_X3_readNumber : GoodIn wsX3_readStatement wsX3_readNumber := gi_e e_wsX3_readStatement e_wsX3_readNumber (by decide +kernel)
set_option maxRecDepth 20000 in
theorem gX3_readStatement_X3_readNumber : GoodIn wsX3_readStatement (wsV RX3 69 RX3 yX3_readNumber wsX3_readNumber) := goodIn_app (gi_e e_wsX3_readStatement (ce fw_4261 (ce fw_4263 (ce fw_22 (ce fw_1037 (cn))))) (by decide +kernel)) ggX3_readStatement_X3_readNumber
set_option maxRecDepth 20000 in
theorem ggX3_readStatement_X3_readSingle : GoodIn wsX3_readStatement wsX3_readSingle := gi_e e_wsX3_readStatement e_wsX3_readSingle (by decide +kernel)
set_option maxRecDepth 20000 in
theorem gX3_readStatement_X3_readSingle : GoodIn wsX3_readStatement (wsV RX3 78 RX3 yX3_readSingle wsX3_readSingle) := goodIn_app (gi_e e_wsX3_readStatement (ce fw_4265 (ce fw_4267 (ce fw_23 (ce fw_1037 (cn))))) (by decide +kernel)) ggX3_readStatement_X3_readSingle
set_option maxRecDepth 20000 in
theorem ggX3_readStatement_X3_misplace : GoodIn wsX3_readStatement wsX3_misplace := gi_e e_wsX3_readStatement e_wsX3_misplace (by decide +kernel)
set_option maxRecDepth 20000 in
theorem gX3_readStatement_X3_misplace : GoodIn wsX3_readStatement (wsV RX3 81 RX3 yX3_misplace wsX3_misplace) := goodIn_app (gi_e e_wsX3_readStatement (ce fw_4249 (ce fw_4251 (ce fw_20 (ce fw_1037 (cn))))) (by decide +kernel)) ggX3_readStatement_X3_misplace
theorem dX3_readStatement_0 : decode cX3_readStatement 0 = .ok (.aload_n 0, 1) := by decide +kernel
theorem dX3_readStatement_1 : decode cX3_readStatement 1 = .ok (.getfield 54, 3) := by decide +kernel
theorem dX3_readStatement_4 : decode cX3_readStatement 4 = .ok (.istore_n 1, 1) := by decide +kernel
theorem dX3_readStatement_5 : decode cX3_readStatement 5 = .ok (.aload_n 0, 1) := by decide +kernel
theorem dX3_readStatement_6 : decode cX3_readStatement 6 = .ok (.ldc 57, 2) := by decide +kernel
theorem dX3_readStatement_8 : decode cX3_readStatement 8 = .ok (.invokevirtual 59, 3) := by decide +kernel
theorem dX3_readStatement_11 : decode cX3_readStatement 11 = .ok (.ifCond .eq 15, 3) := by decide +kernel
theorem dX3_readStatement_14 : decode cX3_readStatement 14 = .ok (.aload_n 0, 1) := by decide +kernel
theorem dX3_readStatement_15 : decode cX3_readStatement 15 = .ok (.invokevirtual 42, 3) := by decide +kernel
theorem dX3_readStatement_18 : decode cX3_readStatement 18 = .ok (.aload_n 0, 1) := by decide +kernel
theorem dX3_readStatement_19 : decode cX3_readStatement 19 = .ok (.iload_n 1, 1) := by decide +kernel
theorem dX3_readStatement_20 : decode cX3_readStatement 20 = .ok (.invokevirtual 63, 3) := by decide +kernel
theorem dX3_readStatement_23 : decode cX3_readStatement 23 = .ok (.goto 56, 3) := by decide +kernel
theorem dX3_readStatement_26 : decode cX3_readStatement 26 = .ok (.aload_n 0, 1) := by decide +kernel
theorem dX3_readStatement_27 : decode cX3_readStatement 27 = .ok (.ldc 67, 2) := by decide +kernel
theorem dX3_readStatement_29 : decode cX3_readStatement 29 = .ok (.invokevirtual 59, 3) := by decide +kernel
theorem dX3_readStatement_32 : decode cX3_readStatement 32 = .ok (.ifCond .eq 43, 3) := by decide +kernel
theorem dX3_readStatement_35 : decode cX3_readStatement 35 = .ok (.aload_n 0, 1) := by decide +kernel
theorem dX3_readStatement_36 : decode cX3_readStatement 36 = .ok (.invokevirtual 42, 3) := by decide +kernel
theorem dX3_readStatement_39 : decode cX3_readStatement 39 = .ok (.aload_n 0, 1) := by decide +kernel
theorem dX3_readStatement_40 : decode cX3_readStatement 40 = .ok (.getfield 12, 3) := by decide +kernel
theorem dX3_readStatement_43 : decode cX3_readStatement 43 = .ok (.aload_n 0, 1) := by decide +kernel
theorem dX3_readStatement_44 : decode cX3_readStatement 44 = .ok (.iconst 1, 1) := by decide +kernel
theorem dX3_readStatement_45 : decode cX3_readStatement 45 = .ok (.iconst 4, 1) := by decide +kernel
theorem dX3_readStatement_46 : decode cX3_readStatement 46 = .ok (.invokevirtual 69, 3) := by decide +kernel
theorem dX3_readStatement_49 : decode cX3_readStatement 49 = .ok (.putfield 73, 3) := by decide +kernel
theorem dX3_readStatement_52 : decode cX3_readStatement 52 = .ok (.aload_n 0, 1) := by decide +kernel
theorem dX3_readStatement_53 : decode cX3_readStatement 53 = .ok (.getfield 12, 3) := by decide +kernel
theorem dX3_readStatement_56 : decode cX3_readStatement 56 = .ok (.aload_n 0, 1) := by decide +kernel
theorem dX3_readStatement_57 : decode cX3_readStatement 57 = .ok (.aload_n 0, 1) := by decide +kernel
theorem dX3_readStatement_58 : decode cX3_readStatement 58 = .ok (.getfield 12, 3) := by decide +kernel
theorem dX3_readStatement_61 : decode cX3_readStatement 61 = .ok (.getfield 73, 3) := by decide +kernel
theorem dX3_readStatement_64 : decode cX3_readStatement 64 = .ok (.bipush 8, 2) := by decide +kernel
theorem dX3_readStatement_66 : decode cX3_readStatement 66 = .ok (.invokevirtual 69, 3) := by decide +kernel
theorem dX3_readStatement_69 : decode cX3_readStatement 69 = .ok (.putfield 75, 3) := by decide +kernel
theorem dX3_readStatement_72 : decode cX3_readStatement 72 = .ok (.goto 7, 3) := by decide +kernel
theorem dX3_readStatement_75 : decode cX3_readStatement 75 = .ok (.aload_n 0, 1) := by decide +kernel
theorem dX3_readStatement_76 : decode cX3_readStatement 76 = .ok (.invokevirtual 78, 3) := by decide +kernel
theorem dX3_readStatement_79 : decode cX3_readStatement 79 = .ok (.aload_n 0, 1) := by decide +kernel
theorem dX3_readStatement_80 : decode cX3_readStatement 80 = .ok (.getfield 32, 3) := by decide +kernel
theorem dX3_readStatement_83 : decode cX3_readStatement 83 = .ok (.iconst 1, 1) := by decide +kernel
theorem dX3_readStatement_84 : decode cX3_readStatement 84 = .ok (.if_icmp .ne 4, 3) := by decide +kernel
theorem dX3_readStatement_87 : decode cX3_readStatement 87 = .ok (.return_, 1) := by decide +kernel
theorem dX3_readStatement_88 : decode cX3_readStatement 88 = .ok (.aload_n 0, 1) := by decide +kernel
theorem dX3_readStatement_89 : decode cX3_readStatement 89 = .ok (.getfield 45, 3) := by decide +kernel
theorem dX3_readStatement_92 : decode cX3_readStatement 92 = .ok (.iconst 3, 1) := by decide +kernel
theorem dX3_readStatement_93 : decode cX3_readStatement 93 = .ok (.if_icmp .eq 8, 3) := by decide +kernel
theorem dX3_readStatement_96 : decode cX3_readStatement 96 = .ok (.aload_n 0, 1) := by decide +kernel
theorem dX3_readStatement_97 : decode cX3_readStatement 97 = .ok (.invokevirtual 81, 3) := by decide +kernel
theorem dX3_readStatement_100 : decode cX3_readStatement 100 = .ok (.return_, 1) := by decide +kernel
theorem dX3_readStatement_101 : decode cX3_readStatement 101 = .ok (.aload_n 0, 1) := by decide +kernel
theorem dX3_readStatement_102 : decode cX3_readStatement 102 = .ok (.invokevirtual 42, 3) := by decide +kernel
theorem dX3_readStatement_105 : decode cX3_readStatement 105 = .ok (.return_, 1) := by decide +kernel
set_option maxRecDepth 20000 in
theorem ggX3_readSingle_X3_isWord : GoodIn wsX3_readSingle wsX3_isWord := gi_e e_wsX3_readSingle e_wsX3_isWord (by decide +kernel)
set_option maxRecDepth 20000 in
theorem gX3_readSingle_X3_isWord : GoodIn wsX3_readSingle (wsV RX3 59 RX3 yX3_isWord wsX3_isWord) := goodIn_app (gi_e e_wsX3_readSingle (ce fw_4193 (ce fw_4195 (ce fw_18 (ce fw_1037 (cn))))) (by decide +kernel)) ggX3_readSingle_X3_isWord
set_option maxRecDepth 20000 in
theorem ggX3_readSingle_X3_step : GoodIn wsX3_readSingle wsX3_step := gi_e e_wsX3_readSingle e_wsX3_step (by decide +kernel)
set_option maxRecDepth 20000 in
theorem gX3_readSingle_X3_step : GoodIn wsX3_readSingle (wsV RX3 42 RX3 yX3_step wsX3_step) := goodIn_app (gi_e e_wsX3_readSingle (ce fw_4171 (ce fw_4173 (ce fw_16 (ce fw_1037 (cn))))) (by decide +kernel)) ggX3_readSingle_X3_step
set_option maxRecDepth 20000 in
theorem ggX3_readSingle_X3_readNumber : GoodIn wsX3_readSingle wsX3_readNumber := gi_e e_wsX3_readSingle e_wsX3_readNumber (by decide +kernel)
set_option maxRecDepth 20000 in
theorem gX3_readSingle_X3_readNumber : GoodIn wsX3_readSingle (wsV RX3 69 RX3 yX3_readNumber wsX3_readNumber) := goodIn_app (gi_e e_wsX3_readSingle (ce fw_4261 (ce fw_4263 (ce fw_22 (ce fw_1037 (cn))))) (by decide +kernel)) ggX3_readSingle_X3_readNumber
set_option maxRecDepth 20000 in
theorem ggX3_readSingle_X3_misplace : GoodIn wsX3_readSingle wsX3_misplace := gi_e e_wsX3_readSingle e_wsX3_misplace (by decide +kernel)
set_option maxRecDepth 20000 in
theorem gX3_readSingle_X3_misplace : GoodIn wsX3_readSingle (wsV RX3 81 RX3 yX3_misplace wsX3_misplace) := goodIn_app (gi_e e_wsX3_readSingle (ce fw_4249 (ce fw_4251 (ce fw_20 (ce fw_1037 (cn))))) (by decide +kernel)) ggX3_readSingle_X3_misplace
theorem dX3_readSingle_0 : decode cX3_readSingle 0 = .ok (.aload_n 0, 1) := by decide +kernel
theorem dX3_readSingle_1 : decode cX3_readSingle 1 = .ok (.ldc 84, 2) := by decide +kernel
theorem dX3_readSingle_3 : decode cX3_readSingle 3 = .ok (.invokevirtual 59, 3) := by decide +kernel
theorem dX3_readSingle_6 : decode cX3_readSingle 6 = .ok (.ifCond .eq 24, 3) := by decide +kernel
theorem dX3_readSingle_9 : decode cX3_readSingle 9 = .ok (.aload_n 0, 1) := by decide +kernel
theorem dX3_readSingle_10 : decode cX3_readSingle 10 = .ok (.invokevirtual 42, 3) := by decide +kernel
theorem dX3_readSingle_13 : decode cX3_readSingle 13 = .ok (.aload_n 0, 1) := by decide +kernel
theorem dX3_readSingle_14 : decode cX3_readSingle 14 = .ok (.getfield 12, 3) := by decide +kernel
theorem dX3_readSingle_17 : decode cX3_readSingle 17 = .ok (.aload_n 0, 1) := by decide +kernel
theorem dX3_readSingle_18 : decode cX3_readSingle 18 = .ok (.iconst 4, 1) := by decide +kernel
theorem dX3_readSingle_19 : decode cX3_readSingle 19 = .ok (.bipush 24, 2) := by decide +kernel
theorem dX3_readSingle_21 : decode cX3_readSingle 21 = .ok (.invokevirtual 69, 3) := by decide +kernel
theorem dX3_readSingle_24 : decode cX3_readSingle 24 = .ok (.putfield 86, 3) := by decide +kernel
theorem dX3_readSingle_27 : decode cX3_readSingle 27 = .ok (.goto 188, 3) := by decide +kernel
theorem dX3_readSingle_30 : decode cX3_readSingle 30 = .ok (.aload_n 0, 1) := by decide +kernel
theorem dX3_readSingle_31 : decode cX3_readSingle 31 = .ok (.ldc 88, 2) := by decide +kernel
theorem dX3_readSingle_33 : decode cX3_readSingle 33 = .ok (.invokevirtual 59, 3) := by decide +kernel
theorem dX3_readSingle_36 : decode cX3_readSingle 36 = .ok (.ifCond .eq 24, 3) := by decide +kernel
theorem dX3_readSingle_39 : decode cX3_readSingle 39 = .ok (.aload_n 0, 1) := by decide +kernel
theorem dX3_readSingle_40 : decode cX3_readSingle 40 = .ok (.invokevirtual 42, 3) := by decide +kernel
theorem dX3_readSingle_43 : decode cX3_readSingle 43 = .ok (.aload_n 0, 1) := by decide +kernel
theorem dX3_readSingle_44 : decode cX3_readSingle 44 = .ok (.getfield 12, 3) := by decide +kernel
theorem dX3_readSingle_47 : decode cX3_readSingle 47 = .ok (.aload_n 0, 1) := by decide +kernel
theorem dX3_readSingle_48 : decode cX3_readSingle 48 = .ok (.iconst 0, 1) := by decide +kernel
theorem dX3_readSingle_49 : decode cX3_readSingle 49 = .ok (.bipush 63, 2) := by decide +kernel
theorem dX3_readSingle_51 : decode cX3_readSingle 51 = .ok (.invokevirtual 69, 3) := by decide +kernel
theorem dX3_readSingle_54 : decode cX3_readSingle 54 = .ok (.putfield 90, 3) := by decide +kernel
theorem dX3_readSingle_57 : decode cX3_readSingle 57 = .ok (.goto 158, 3) := by decide +kernel
theorem dX3_readSingle_60 : decode cX3_readSingle 60 = .ok (.aload_n 0, 1) := by decide +kernel
theorem dX3_readSingle_61 : decode cX3_readSingle 61 = .ok (.ldc 92, 2) := by decide +kernel
theorem dX3_readSingle_63 : decode cX3_readSingle 63 = .ok (.invokevirtual 59, 3) := by decide +kernel
theorem dX3_readSingle_66 : decode cX3_readSingle 66 = .ok (.ifCond .eq 24, 3) := by decide +kernel
theorem dX3_readSingle_69 : decode cX3_readSingle 69 = .ok (.aload_n 0, 1) := by decide +kernel
theorem dX3_readSingle_70 : decode cX3_readSingle 70 = .ok (.invokevirtual 42, 3) := by decide +kernel
theorem dX3_readSingle_73 : decode cX3_readSingle 73 = .ok (.aload_n 0, 1) := by decide +kernel
theorem dX3_readSingle_74 : decode cX3_readSingle 74 = .ok (.getfield 12, 3) := by decide +kernel
theorem dX3_readSingle_77 : decode cX3_readSingle 77 = .ok (.aload_n 0, 1) := by decide +kernel
theorem dX3_readSingle_78 : decode cX3_readSingle 78 = .ok (.iconst 1, 1) := by decide +kernel
theorem dX3_readSingle_79 : decode cX3_readSingle 79 = .ok (.bipush 8, 2) := by decide +kernel
theorem dX3_readSingle_81 : decode cX3_readSingle 81 = .ok (.invokevirtual 69, 3) := by decide +kernel
theorem dX3_readSingle_84 : decode cX3_readSingle 84 = .ok (.putfield 94, 3) := by decide +kernel
theorem dX3_readSingle_87 : decode cX3_readSingle 87 = .ok (.goto 128, 3) := by decide +kernel
theorem dX3_readSingle_90 : decode cX3_readSingle 90 = .ok (.aload_n 0, 1) := by decide +kernel
theorem dX3_readSingle_91 : decode cX3_readSingle 91 = .ok (.ldc 96, 2) := by decide +kernel
theorem dX3_readSingle_93 : decode cX3_readSingle 93 = .ok (.invokevirtual 59, 3) := by decide +kernel
theorem dX3_readSingle_96 : decode cX3_readSingle 96 = .ok (.ifCond .eq 24, 3) := by decide +kernel
theorem dX3_readSingle_99 : decode cX3_readSingle 99 = .ok (.aload_n 0, 1) := by decide +kernel
theorem dX3_readSingle_100 : decode cX3_readSingle 100 = .ok (.invokevirtual 42, 3) := by decide +kernel
theorem dX3_readSingle_103 : decode cX3_readSingle 103 = .ok (.aload_n 0, 1) := by decide +kernel
theorem dX3_readSingle_104 : decode cX3_readSingle 104 = .ok (.getfield 12, 3) := by decide +kernel
theorem dX3_readSingle_107 : decode cX3_readSingle 107 = .ok (.aload_n 0, 1) := by decide +kernel
theorem dX3_readSingle_108 : decode cX3_readSingle 108 = .ok (.iconst 0, 1) := by decide +kernel
theorem dX3_readSingle_109 : decode cX3_readSingle 109 = .ok (.bipush 12, 2) := by decide +kernel
theorem dX3_readSingle_111 : decode cX3_readSingle 111 = .ok (.invokevirtual 69, 3) := by decide +kernel
theorem dX3_readSingle_114 : decode cX3_readSingle 114 = .ok (.putfield 98, 3) := by decide +kernel
theorem dX3_readSingle_117 : decode cX3_readSingle 117 = .ok (.goto 98, 3) := by decide +kernel
theorem dX3_readSingle_120 : decode cX3_readSingle 120 = .ok (.aload_n 0, 1) := by decide +kernel
theorem dX3_readSingle_121 : decode cX3_readSingle 121 = .ok (.ldc 100, 2) := by decide +kernel
theorem dX3_readSingle_123 : decode cX3_readSingle 123 = .ok (.invokevirtual 59, 3) := by decide +kernel
theorem dX3_readSingle_126 : decode cX3_readSingle 126 = .ok (.ifCond .eq 24, 3) := by decide +kernel
theorem dX3_readSingle_129 : decode cX3_readSingle 129 = .ok (.aload_n 0, 1) := by decide +kernel
theorem dX3_readSingle_130 : decode cX3_readSingle 130 = .ok (.invokevirtual 42, 3) := by decide +kernel
theorem dX3_readSingle_133 : decode cX3_readSingle 133 = .ok (.aload_n 0, 1) := by decide +kernel
theorem dX3_readSingle_134 : decode cX3_readSingle 134 = .ok (.getfield 12, 3) := by decide +kernel
theorem dX3_readSingle_137 : decode cX3_readSingle 137 = .ok (.aload_n 0, 1) := by decide +kernel
theorem dX3_readSingle_138 : decode cX3_readSingle 138 = .ok (.iconst 2, 1) := by decide +kernel
theorem dX3_readSingle_139 : decode cX3_readSingle 139 = .ok (.bipush 24, 2) := by decide +kernel
theorem dX3_readSingle_141 : decode cX3_readSingle 141 = .ok (.invokevirtual 69, 3) := by decide +kernel
theorem dX3_readSingle_144 : decode cX3_readSingle 144 = .ok (.putfield 102, 3) := by decide +kernel
theorem dX3_readSingle_147 : decode cX3_readSingle 147 = .ok (.goto 68, 3) := by decide +kernel
theorem dX3_readSingle_150 : decode cX3_readSingle 150 = .ok (.aload_n 0, 1) := by decide +kernel
theorem dX3_readSingle_151 : decode cX3_readSingle 151 = .ok (.ldc 105, 2) := by decide +kernel
theorem dX3_readSingle_153 : decode cX3_readSingle 153 = .ok (.invokevirtual 59, 3) := by decide +kernel
theorem dX3_readSingle_156 : decode cX3_readSingle 156 = .ok (.ifCond .eq 24, 3) := by decide +kernel
theorem dX3_readSingle_159 : decode cX3_readSingle 159 = .ok (.aload_n 0, 1) := by decide +kernel
theorem dX3_readSingle_160 : decode cX3_readSingle 160 = .ok (.invokevirtual 42, 3) := by decide +kernel
theorem dX3_readSingle_163 : decode cX3_readSingle 163 = .ok (.aload_n 0, 1) := by decide +kernel
theorem dX3_readSingle_164 : decode cX3_readSingle 164 = .ok (.getfield 12, 3) := by decide +kernel
theorem dX3_readSingle_167 : decode cX3_readSingle 167 = .ok (.aload_n 0, 1) := by decide +kernel
theorem dX3_readSingle_168 : decode cX3_readSingle 168 = .ok (.iconst 0, 1) := by decide +kernel
theorem dX3_readSingle_169 : decode cX3_readSingle 169 = .ok (.bipush 50, 2) := by decide +kernel
theorem dX3_readSingle_171 : decode cX3_readSingle 171 = .ok (.invokevirtual 69, 3) := by decide +kernel
theorem dX3_readSingle_174 : decode cX3_readSingle 174 = .ok (.putfield 107, 3) := by decide +kernel
theorem dX3_readSingle_177 : decode cX3_readSingle 177 = .ok (.goto 38, 3) := by decide +kernel
theorem dX3_readSingle_180 : decode cX3_readSingle 180 = .ok (.aload_n 0, 1) := by decide +kernel
theorem dX3_readSingle_181 : decode cX3_readSingle 181 = .ok (.ldc 109, 2) := by decide +kernel
theorem dX3_readSingle_183 : decode cX3_readSingle 183 = .ok (.invokevirtual 59, 3) := by decide +kernel
theorem dX3_readSingle_186 : decode cX3_readSingle 186 = .ok (.ifCond .eq 25, 3) := by decide +kernel
theorem dX3_readSingle_189 : decode cX3_readSingle 189 = .ok (.aload_n 0, 1) := by decide +kernel
theorem dX3_readSingle_190 : decode cX3_readSingle 190 = .ok (.invokevirtual 42, 3) := by decide +kernel
theorem dX3_readSingle_193 : decode cX3_readSingle 193 = .ok (.aload_n 0, 1) := by decide +kernel
theorem dX3_readSingle_194 : decode cX3_readSingle 194 = .ok (.getfield 12, 3) := by decide +kernel
theorem dX3_readSingle_197 : decode cX3_readSingle 197 = .ok (.aload_n 0, 1) := by decide +kernel
theorem dX3_readSingle_198 : decode cX3_readSingle 198 = .ok (.iconst 0, 1) := by decide +kernel
theorem dX3_readSingle_199 : decode cX3_readSingle 199 = .ok (.bipush 50, 2) := by decide +kernel
theorem dX3_readSingle_201 : decode cX3_readSingle 201 = .ok (.invokevirtual 69, 3) := by decide +kernel
theorem dX3_readSingle_204 : decode cX3_readSingle 204 = .ok (.ineg, 1) := by decide +kernel
theorem dX3_readSingle_205 : decode cX3_readSingle 205 = .ok (.putfield 107, 3) := by decide +kernel
theorem dX3_readSingle_208 : decode cX3_readSingle 208 = .ok (.goto 7, 3) := by decide +kernel
theorem dX3_readSingle_211 : decode cX3_readSingle 211 = .ok (.aload_n 0, 1) := by decide +kernel
theorem dX3_readSingle_212 : decode cX3_readSingle 212 = .ok (.invokevirtual 81, 3) := by decide +kernel
theorem dX3_readSingle_215 : decode cX3_readSingle 215 = .ok (.return_, 1) := by decide +kernel
set_option maxRecDepth 20000 in
theorem ggX3_readNumber_X3_misplace : GoodIn wsX3_readNumber wsX3_misplace := gi_e e_wsX3_readNumber e_wsX3_misplace (by decide +kernel)
set_option maxRecDepth 20000 in
theorem gX3_readNumber_X3_misplace : GoodIn wsX3_readNumber (wsV RX3 81 RX3 yX3_misplace wsX3_misplace) := goodIn_app (gi_e e_wsX3_readNumber (ce fw_4249 (ce fw_4251 (ce fw_20 (ce fw_1037 (cn))))) (by decide +kernel)) ggX3_readNumber_X3_misplace
set_option maxRecDepth 20000 in
theorem ggX3_readNumber_X8_at : GoodIn wsX3_readNumber wsX8_at := gi_e e_wsX3_readNumber e_wsX8_at (by decide +kernel)
set_option maxRecDepth 20000 in
theorem gX3_readNumber_X8_at : GoodIn wsX3_readNumber (wsV RX3 111 RX8 yX8_at wsX8_at) := goodIn_app (gi_e e_wsX3_readNumber (ce fw_4175 (ce fw_4176 (ce fw_4177 (ce fw_1028 (cn))))) (by decide +kernel)) ggX3_readNumber_X8_at
set_option maxRecDepth 20000 in
theorem ggX3_readNumber_X3_impossible : GoodIn wsX3_readNumber wsX3_impossible := gi_e e_wsX3_readNumber e_wsX3_impossible (by decide +kernel)
set_option maxRecDepth 20000 in
theorem gX3_readNumber_X3_impossible : GoodIn wsX3_readNumber (wsV RX3 115 RX3 yX3_impossible wsX3_impossible) := goodIn_app (gi_e e_wsX3_readNumber (ce fw_4256 (ce fw_4258 (ce fw_21 (ce fw_1037 (cn))))) (by decide +kernel)) ggX3_readNumber_X3_impossible
set_option maxRecDepth 20000 in
theorem ggX3_readNumber_X3_step : GoodIn wsX3_readNumber wsX3_step := gi_e e_wsX3_readNumber e_wsX3_step (by decide +kernel)
set_option maxRecDepth 20000 in
theorem gX3_readNumber_X3_step : GoodIn wsX3_readNumber (wsV RX3 42 RX3 yX3_step wsX3_step) := goodIn_app (gi_e e_wsX3_readNumber (ce fw_4171 (ce fw_4173 (ce fw_16 (ce fw_1037 (cn))))) (by decide +kernel)) ggX3_readNumber_X3_step
theorem dX3_readNumber_0 : decode cX3_readNumber 0 = .ok (.aload_n 0, 1) := by decide +kernel
theorem dX3_readNumber_1 : decode cX3_readNumber 1 = .ok (.getfield 32, 3) := by decide +kernel
theorem dX3_readNumber_4 : decode cX3_readNumber 4 = .ok (.iconst 1, 1) := by decide +kernel
theorem dX3_readNumber_5 : decode cX3_readNumber 5 = .ok (.if_icmp .ne 5, 3) := by decide +kernel
theorem dX3_readNumber_8 : decode cX3_readNumber 8 = .ok (.iload_n 1, 1) := by decide +kernel
theorem dX3_readNumber_9 : decode cX3_readNumber 9 = .ok (.ireturn, 1) := by decide +kernel
theorem dX3_readNumber_10 : decode cX3_readNumber 10 = .ok (.aload_n 0, 1) := by decide +kernel
theorem dX3_readNumber_11 : decode cX3_readNumber 11 = .ok (.getfield 45, 3) := by decide +kernel
theorem dX3_readNumber_14 : decode cX3_readNumber 14 = .ok (.iconst 2, 1) := by decide +kernel
theorem dX3_readNumber_15 : decode cX3_readNumber 15 = .ok (.if_icmp .eq 9, 3) := by decide +kernel
theorem dX3_readNumber_18 : decode cX3_readNumber 18 = .ok (.aload_n 0, 1) := by decide +kernel
theorem dX3_readNumber_19 : decode cX3_readNumber 19 = .ok (.invokevirtual 81, 3) := by decide +kernel
theorem dX3_readNumber_22 : decode cX3_readNumber 22 = .ok (.iload_n 1, 1) := by decide +kernel
theorem dX3_readNumber_23 : decode cX3_readNumber 23 = .ok (.ireturn, 1) := by decide +kernel
theorem dX3_readNumber_24 : decode cX3_readNumber 24 = .ok (.iconst 0, 1) := by decide +kernel
theorem dX3_readNumber_25 : decode cX3_readNumber 25 = .ok (.istore_n 3, 1) := by decide +kernel
theorem dX3_readNumber_26 : decode cX3_readNumber 26 = .ok (.aload_n 0, 1) := by decide +kernel
theorem dX3_readNumber_27 : decode cX3_readNumber 27 = .ok (.getfield 39, 3) := by decide +kernel
theorem dX3_readNumber_30 : decode cX3_readNumber 30 = .ok (.aload_n 0, 1) := by decide +kernel
theorem dX3_readNumber_31 : decode cX3_readNumber 31 = .ok (.getfield 54, 3) := by decide +kernel
theorem dX3_readNumber_34 : decode cX3_readNumber 34 = .ok (.isub, 1) := by decide +kernel
theorem dX3_readNumber_35 : decode cX3_readNumber 35 = .ok (.iconst 3, 1) := by decide +kernel
theorem dX3_readNumber_36 : decode cX3_readNumber 36 = .ok (.if_icmp .gt 7, 3) := by decide +kernel
theorem dX3_readNumber_39 : decode cX3_readNumber 39 = .ok (.iconst 1, 1) := by decide +kernel
theorem dX3_readNumber_40 : decode cX3_readNumber 40 = .ok (.goto 4, 3) := by decide +kernel
theorem dX3_readNumber_43 : decode cX3_readNumber 43 = .ok (.iconst 0, 1) := by decide +kernel
theorem dX3_readNumber_44 : decode cX3_readNumber 44 = .ok (.istore 4, 2) := by decide +kernel
theorem dX3_readNumber_46 : decode cX3_readNumber 46 = .ok (.aload_n 0, 1) := by decide +kernel
theorem dX3_readNumber_47 : decode cX3_readNumber 47 = .ok (.getfield 54, 3) := by decide +kernel
theorem dX3_readNumber_50 : decode cX3_readNumber 50 = .ok (.istore 5, 2) := by decide +kernel
theorem dX3_readNumber_52 : decode cX3_readNumber 52 = .ok (.iload 4, 2) := by decide +kernel
theorem dX3_readNumber_54 : decode cX3_readNumber 54 = .ok (.ifCond .eq 36, 3) := by decide +kernel
theorem dX3_readNumber_57 : decode cX3_readNumber 57 = .ok (.iload 5, 2) := by decide +kernel
theorem dX3_readNumber_59 : decode cX3_readNumber 59 = .ok (.aload_n 0, 1) := by decide +kernel
theorem dX3_readNumber_60 : decode cX3_readNumber 60 = .ok (.getfield 39, 3) := by decide +kernel
theorem dX3_readNumber_63 : decode cX3_readNumber 63 = .ok (.if_icmp .ge 27, 3) := by decide +kernel
theorem dX3_readNumber_66 : decode cX3_readNumber 66 = .ok (.iload_n 3, 1) := by decide +kernel
theorem dX3_readNumber_67 : decode cX3_readNumber 67 = .ok (.bipush 10, 2) := by decide +kernel
theorem dX3_readNumber_69 : decode cX3_readNumber 69 = .ok (.imul, 1) := by decide +kernel
theorem dX3_readNumber_70 : decode cX3_readNumber 70 = .ok (.aload_n 0, 1) := by decide +kernel
theorem dX3_readNumber_71 : decode cX3_readNumber 71 = .ok (.getfield 21, 3) := by decide +kernel
theorem dX3_readNumber_74 : decode cX3_readNumber 74 = .ok (.iload 5, 2) := by decide +kernel
theorem dX3_readNumber_76 : decode cX3_readNumber 76 = .ok (.invokevirtual 111, 3) := by decide +kernel
theorem dX3_readNumber_79 : decode cX3_readNumber 79 = .ok (.iadd, 1) := by decide +kernel
theorem dX3_readNumber_80 : decode cX3_readNumber 80 = .ok (.bipush 48, 2) := by decide +kernel
theorem dX3_readNumber_82 : decode cX3_readNumber 82 = .ok (.isub, 1) := by decide +kernel
theorem dX3_readNumber_83 : decode cX3_readNumber 83 = .ok (.istore_n 3, 1) := by decide +kernel
theorem dX3_readNumber_84 : decode cX3_readNumber 84 = .ok (.iinc 5 1, 3) := by decide +kernel
theorem dX3_readNumber_87 : decode cX3_readNumber 87 = .ok (.goto (-35), 3) := by decide +kernel
theorem dX3_readNumber_90 : decode cX3_readNumber 90 = .ok (.iload 4, 2) := by decide +kernel
theorem dX3_readNumber_92 : decode cX3_readNumber 92 = .ok (.ifCond .eq 13, 3) := by decide +kernel
theorem dX3_readNumber_95 : decode cX3_readNumber 95 = .ok (.iload_n 3, 1) := by decide +kernel
theorem dX3_readNumber_96 : decode cX3_readNumber 96 = .ok (.iload_n 1, 1) := by decide +kernel
theorem dX3_readNumber_97 : decode cX3_readNumber 97 = .ok (.if_icmp .lt 8, 3) := by decide +kernel
theorem dX3_readNumber_100 : decode cX3_readNumber 100 = .ok (.iload_n 3, 1) := by decide +kernel
theorem dX3_readNumber_101 : decode cX3_readNumber 101 = .ok (.iload_n 2, 1) := by decide +kernel
theorem dX3_readNumber_102 : decode cX3_readNumber 102 = .ok (.if_icmp .le 13, 3) := by decide +kernel
theorem dX3_readNumber_105 : decode cX3_readNumber 105 = .ok (.aload_n 0, 1) := by decide +kernel
theorem dX3_readNumber_106 : decode cX3_readNumber 106 = .ok (.aload_n 0, 1) := by decide +kernel
theorem dX3_readNumber_107 : decode cX3_readNumber 107 = .ok (.getfield 54, 3) := by decide +kernel
theorem dX3_readNumber_110 : decode cX3_readNumber 110 = .ok (.invokevirtual 115, 3) := by decide +kernel
theorem dX3_readNumber_113 : decode cX3_readNumber 113 = .ok (.iload_n 1, 1) := by decide +kernel
theorem dX3_readNumber_114 : decode cX3_readNumber 114 = .ok (.istore_n 3, 1) := by decide +kernel
theorem dX3_readNumber_115 : decode cX3_readNumber 115 = .ok (.aload_n 0, 1) := by decide +kernel
theorem dX3_readNumber_116 : decode cX3_readNumber 116 = .ok (.invokevirtual 42, 3) := by decide +kernel
theorem dX3_readNumber_119 : decode cX3_readNumber 119 = .ok (.iload_n 3, 1) := by decide +kernel
theorem dX3_readNumber_120 : decode cX3_readNumber 120 = .ok (.ireturn, 1) := by decide +kernel
set_option maxRecDepth 20000 in
theorem ggX3_readRow_X3_misplace : GoodIn wsX3_readRow wsX3_misplace := gi_e e_wsX3_readRow e_wsX3_misplace (by decide +kernel)
set_option maxRecDepth 20000 in
theorem gX3_readRow_X3_misplace : GoodIn wsX3_readRow (wsV RX3 81 RX3 yX3_misplace wsX3_misplace) := goodIn_app (gi_e e_wsX3_readRow (ce fw_4249 (ce fw_4251 (ce fw_20 (ce fw_1037 (cn))))) (by decide +kernel)) ggX3_readRow_X3_misplace
set_option maxRecDepth 20000 in
theorem ggX3_readRow_X8_at : GoodIn wsX3_readRow wsX8_at := gi_e e_wsX3_readRow e_wsX8_at (by decide +kernel)
set_option maxRecDepth 20000 in
theorem gX3_readRow_X8_at : GoodIn wsX3_readRow (wsV RX3 111 RX8 yX8_at wsX8_at) := goodIn_app (gi_e e_wsX3_readRow (ce fw_4175 (ce fw_4176 (ce fw_4177 (ce fw_1028 (cn))))) (by decide +kernel)) ggX3_readRow_X8_at
set_option maxRecDepth 20000 in
theorem ggX3_readRow_X3_roleOf : GoodIn wsX3_readRow wsX3_roleOf := gi_e e_wsX3_readRow e_wsX3_roleOf (by decide +kernel)
set_option maxRecDepth 20000 in
theorem gX3_readRow_X3_roleOf : GoodIn wsX3_readRow (va_wsS RX3 118 yX3_roleOf wsX3_roleOf) := goodIn_app (gi_e e_wsX3_readRow (ce fw_4253 (ce fw_4254 (ce fw_1037 (cn)))) (by decide +kernel)) ggX3_readRow_X3_roleOf
set_option maxRecDepth 20000 in
theorem ggX3_readRow_X3_step : GoodIn wsX3_readRow wsX3_step := gi_e e_wsX3_readRow e_wsX3_step (by decide +kernel)
set_option maxRecDepth 20000 in
theorem gX3_readRow_X3_step : GoodIn wsX3_readRow (wsV RX3 42 RX3 yX3_step wsX3_step) := goodIn_app (gi_e e_wsX3_readRow (ce fw_4171 (ce fw_4173 (ce fw_16 (ce fw_1037 (cn))))) (by decide +kernel)) ggX3_readRow_X3_step
set_option maxRecDepth 20000 in
theorem ggX3_readRow_X3_impossible : GoodIn wsX3_readRow wsX3_impossible := gi_e e_wsX3_readRow e_wsX3_impossible (by decide +kernel)
set_option maxRecDepth 20000 in
theorem gX3_readRow_X3_impossible : GoodIn wsX3_readRow (wsV RX3 115 RX3 yX3_impossible wsX3_impossible) := goodIn_app (gi_e e_wsX3_readRow (ce fw_4256 (ce fw_4258 (ce fw_21 (ce fw_1037 (cn))))) (by decide +kernel)) ggX3_readRow_X3_impossible
theorem dX3_readRow_0 : decode cX3_readRow 0 = .ok (.iconst 0, 1) := by decide +kernel
theorem dX3_readRow_1 : decode cX3_readRow 1 = .ok (.istore_n 2, 1) := by decide +kernel
theorem dX3_readRow_2 : decode cX3_readRow 2 = .ok (.iconst 0, 1) := by decide +kernel
theorem dX3_readRow_3 : decode cX3_readRow 3 = .ok (.istore_n 3, 1) := by decide +kernel
theorem dX3_readRow_4 : decode cX3_readRow 4 = .ok (.iconst 0, 1) := by decide +kernel
theorem dX3_readRow_5 : decode cX3_readRow 5 = .ok (.istore 4, 2) := by decide +kernel
theorem dX3_readRow_7 : decode cX3_readRow 7 = .ok (.aload_n 0, 1) := by decide +kernel
theorem dX3_readRow_8 : decode cX3_readRow 8 = .ok (.getfield 45, 3) := by decide +kernel
theorem dX3_readRow_11 : decode cX3_readRow 11 = .ok (.iconst 1, 1) := by decide +kernel
theorem dX3_readRow_12 : decode cX3_readRow 12 = .ok (.if_icmp .eq 16, 3) := by decide +kernel
theorem dX3_readRow_15 : decode cX3_readRow 15 = .ok (.aload_n 0, 1) := by decide +kernel
theorem dX3_readRow_16 : decode cX3_readRow 16 = .ok (.getfield 45, 3) := by decide +kernel
theorem dX3_readRow_19 : decode cX3_readRow 19 = .ok (.iconst 2, 1) := by decide +kernel
theorem dX3_readRow_20 : decode cX3_readRow 20 = .ok (.if_icmp .eq 8, 3) := by decide +kernel
theorem dX3_readRow_23 : decode cX3_readRow 23 = .ok (.aload_n 0, 1) := by decide +kernel
theorem dX3_readRow_24 : decode cX3_readRow 24 = .ok (.invokevirtual 81, 3) := by decide +kernel
theorem dX3_readRow_27 : decode cX3_readRow 27 = .ok (.return_, 1) := by decide +kernel
theorem dX3_readRow_28 : decode cX3_readRow 28 = .ok (.iconst 0, 1) := by decide +kernel
theorem dX3_readRow_29 : decode cX3_readRow 29 = .ok (.istore 5, 2) := by decide +kernel
theorem dX3_readRow_31 : decode cX3_readRow 31 = .ok (.iload 5, 2) := by decide +kernel
theorem dX3_readRow_33 : decode cX3_readRow 33 = .ok (.sipush 300, 3) := by decide +kernel
theorem dX3_readRow_36 : decode cX3_readRow 36 = .ok (.if_icmp .gt 125, 3) := by decide +kernel
theorem dX3_readRow_39 : decode cX3_readRow 39 = .ok (.aload_n 0, 1) := by decide +kernel
theorem dX3_readRow_40 : decode cX3_readRow 40 = .ok (.getfield 45, 3) := by decide +kernel
theorem dX3_readRow_43 : decode cX3_readRow 43 = .ok (.iconst 1, 1) := by decide +kernel
theorem dX3_readRow_44 : decode cX3_readRow 44 = .ok (.if_icmp .eq 11, 3) := by decide +kernel
theorem dX3_readRow_47 : decode cX3_readRow 47 = .ok (.aload_n 0, 1) := by decide +kernel
theorem dX3_readRow_48 : decode cX3_readRow 48 = .ok (.getfield 45, 3) := by decide +kernel
theorem dX3_readRow_51 : decode cX3_readRow 51 = .ok (.iconst 2, 1) := by decide +kernel
theorem dX3_readRow_52 : decode cX3_readRow 52 = .ok (.if_icmp .ne 109, 3) := by decide +kernel
theorem dX3_readRow_55 : decode cX3_readRow 55 = .ok (.aload_n 0, 1) := by decide +kernel
theorem dX3_readRow_56 : decode cX3_readRow 56 = .ok (.getfield 54, 3) := by decide +kernel
theorem dX3_readRow_59 : decode cX3_readRow 59 = .ok (.istore 6, 2) := by decide +kernel
theorem dX3_readRow_61 : decode cX3_readRow 61 = .ok (.iload 6, 2) := by decide +kernel
theorem dX3_readRow_63 : decode cX3_readRow 63 = .ok (.aload_n 0, 1) := by decide +kernel
theorem dX3_readRow_64 : decode cX3_readRow 64 = .ok (.getfield 39, 3) := by decide +kernel
theorem dX3_readRow_67 : decode cX3_readRow 67 = .ok (.if_icmp .ge 84, 3) := by decide +kernel
theorem dX3_readRow_70 : decode cX3_readRow 70 = .ok (.aload_n 0, 1) := by decide +kernel
theorem dX3_readRow_71 : decode cX3_readRow 71 = .ok (.getfield 21, 3) := by decide +kernel
theorem dX3_readRow_74 : decode cX3_readRow 74 = .ok (.iload 6, 2) := by decide +kernel
theorem dX3_readRow_76 : decode cX3_readRow 76 = .ok (.invokevirtual 111, 3) := by decide +kernel
theorem dX3_readRow_79 : decode cX3_readRow 79 = .ok (.invokestatic 118, 3) := by decide +kernel
theorem dX3_readRow_82 : decode cX3_readRow 82 = .ok (.istore 7, 2) := by decide +kernel
theorem dX3_readRow_84 : decode cX3_readRow 84 = .ok (.iload 7, 2) := by decide +kernel
theorem dX3_readRow_86 : decode cX3_readRow 86 = .ok (.iconst (-1), 1) := by decide +kernel
theorem dX3_readRow_87 : decode cX3_readRow 87 = .ok (.if_icmp .ne 8, 3) := by decide +kernel
theorem dX3_readRow_90 : decode cX3_readRow 90 = .ok (.aload_n 0, 1) := by decide +kernel
theorem dX3_readRow_91 : decode cX3_readRow 91 = .ok (.invokevirtual 81, 3) := by decide +kernel
theorem dX3_readRow_94 : decode cX3_readRow 94 = .ok (.return_, 1) := by decide +kernel
theorem dX3_readRow_95 : decode cX3_readRow 95 = .ok (.iload_n 2, 1) := by decide +kernel
theorem dX3_readRow_96 : decode cX3_readRow 96 = .ok (.bipush 12, 2) := by decide +kernel
theorem dX3_readRow_98 : decode cX3_readRow 98 = .ok (.if_icmp .ge 14, 3) := by decide +kernel
theorem dX3_readRow_101 : decode cX3_readRow 101 = .ok (.aload_n 0, 1) := by decide +kernel
theorem dX3_readRow_102 : decode cX3_readRow 102 = .ok (.getfield 12, 3) := by decide +kernel
theorem dX3_readRow_105 : decode cX3_readRow 105 = .ok (.getfield 121, 3) := by decide +kernel
theorem dX3_readRow_108 : decode cX3_readRow 108 = .ok (.iload_n 2, 1) := by decide +kernel
theorem dX3_readRow_109 : decode cX3_readRow 109 = .ok (.iload 7, 2) := by decide +kernel
theorem dX3_readRow_111 : decode cX3_readRow 111 = .ok (.iastore, 1) := by decide +kernel
theorem dX3_readRow_112 : decode cX3_readRow 112 = .ok (.iinc 2 1, 3) := by decide +kernel
theorem dX3_readRow_115 : decode cX3_readRow 115 = .ok (.iload_n 3, 1) := by decide +kernel
theorem dX3_readRow_116 : decode cX3_readRow 116 = .ok (.iload 7, 2) := by decide +kernel
theorem dX3_readRow_118 : decode cX3_readRow 118 = .ok (.iconst 2, 1) := by decide +kernel
theorem dX3_readRow_119 : decode cX3_readRow 119 = .ok (.if_icmp .ge 7, 3) := by decide +kernel
theorem dX3_readRow_122 : decode cX3_readRow 122 = .ok (.iconst 1, 1) := by decide +kernel
theorem dX3_readRow_123 : decode cX3_readRow 123 = .ok (.goto 4, 3) := by decide +kernel
theorem dX3_readRow_126 : decode cX3_readRow 126 = .ok (.iconst 0, 1) := by decide +kernel
theorem dX3_readRow_127 : decode cX3_readRow 127 = .ok (.iadd, 1) := by decide +kernel
theorem dX3_readRow_128 : decode cX3_readRow 128 = .ok (.istore_n 3, 1) := by decide +kernel
theorem dX3_readRow_129 : decode cX3_readRow 129 = .ok (.iload 4, 2) := by decide +kernel
theorem dX3_readRow_131 : decode cX3_readRow 131 = .ok (.iload 7, 2) := by decide +kernel
theorem dX3_readRow_133 : decode cX3_readRow 133 = .ok (.iconst 2, 1) := by decide +kernel
theorem dX3_readRow_134 : decode cX3_readRow 134 = .ok (.if_icmp .ne 7, 3) := by decide +kernel
theorem dX3_readRow_137 : decode cX3_readRow 137 = .ok (.iconst 1, 1) := by decide +kernel
theorem dX3_readRow_138 : decode cX3_readRow 138 = .ok (.goto 4, 3) := by decide +kernel
theorem dX3_readRow_141 : decode cX3_readRow 141 = .ok (.iconst 0, 1) := by decide +kernel
theorem dX3_readRow_142 : decode cX3_readRow 142 = .ok (.iadd, 1) := by decide +kernel
theorem dX3_readRow_143 : decode cX3_readRow 143 = .ok (.istore 4, 2) := by decide +kernel
theorem dX3_readRow_145 : decode cX3_readRow 145 = .ok (.iinc 6 1, 3) := by decide +kernel
theorem dX3_readRow_148 : decode cX3_readRow 148 = .ok (.goto (-87), 3) := by decide +kernel
theorem dX3_readRow_151 : decode cX3_readRow 151 = .ok (.aload_n 0, 1) := by decide +kernel
theorem dX3_readRow_152 : decode cX3_readRow 152 = .ok (.invokevirtual 42, 3) := by decide +kernel
theorem dX3_readRow_155 : decode cX3_readRow 155 = .ok (.iinc 5 1, 3) := by decide +kernel
theorem dX3_readRow_158 : decode cX3_readRow 158 = .ok (.goto (-127), 3) := by decide +kernel
theorem dX3_readRow_161 : decode cX3_readRow 161 = .ok (.iload_n 2, 1) := by decide +kernel
theorem dX3_readRow_162 : decode cX3_readRow 162 = .ok (.iconst 2, 1) := by decide +kernel
theorem dX3_readRow_163 : decode cX3_readRow 163 = .ok (.if_icmp .lt 21, 3) := by decide +kernel
theorem dX3_readRow_166 : decode cX3_readRow 166 = .ok (.iload_n 2, 1) := by decide +kernel
theorem dX3_readRow_167 : decode cX3_readRow 167 = .ok (.bipush 12, 2) := by decide +kernel
theorem dX3_readRow_169 : decode cX3_readRow 169 = .ok (.if_icmp .gt 15, 3) := by decide +kernel
theorem dX3_readRow_172 : decode cX3_readRow 172 = .ok (.iload_n 3, 1) := by decide +kernel
theorem dX3_readRow_173 : decode cX3_readRow 173 = .ok (.iconst 2, 1) := by decide +kernel
theorem dX3_readRow_174 : decode cX3_readRow 174 = .ok (.if_icmp .lt 10, 3) := by decide +kernel
theorem dX3_readRow_177 : decode cX3_readRow 177 = .ok (.iload 4, 2) := by decide +kernel
theorem dX3_readRow_179 : decode cX3_readRow 179 = .ok (.bipush 6, 2) := by decide +kernel
theorem dX3_readRow_181 : decode cX3_readRow 181 = .ok (.if_icmp .le 11, 3) := by decide +kernel
theorem dX3_readRow_184 : decode cX3_readRow 184 = .ok (.aload_n 0, 1) := by decide +kernel
theorem dX3_readRow_185 : decode cX3_readRow 185 = .ok (.iload_n 1, 1) := by decide +kernel
theorem dX3_readRow_186 : decode cX3_readRow 186 = .ok (.invokevirtual 115, 3) := by decide +kernel
theorem dX3_readRow_189 : decode cX3_readRow 189 = .ok (.goto 11, 3) := by decide +kernel
theorem dX3_readRow_192 : decode cX3_readRow 192 = .ok (.aload_n 0, 1) := by decide +kernel
theorem dX3_readRow_193 : decode cX3_readRow 193 = .ok (.getfield 12, 3) := by decide +kernel
theorem dX3_readRow_196 : decode cX3_readRow 196 = .ok (.iload_n 2, 1) := by decide +kernel
theorem dX3_readRow_197 : decode cX3_readRow 197 = .ok (.putfield 124, 3) := by decide +kernel
theorem dX3_readRow_200 : decode cX3_readRow 200 = .ok (.return_, 1) := by decide +kernel
theorem dX3_roleOf_0 : decode cX3_roleOf 0 = .ok (.iload_n 0, 1) := by decide +kernel
theorem dX3_roleOf_1 : decode cX3_roleOf 1 = .ok (.lookupswitch 51 #[(48, 43), (49, 45), (99, 47), (100, 49)], 43) := by decide +kernel
theorem dX3_roleOf_44 : decode cX3_roleOf 44 = .ok (.iconst 0, 1) := by decide +kernel
theorem dX3_roleOf_45 : decode cX3_roleOf 45 = .ok (.ireturn, 1) := by decide +kernel
theorem dX3_roleOf_46 : decode cX3_roleOf 46 = .ok (.iconst 1, 1) := by decide +kernel
theorem dX3_roleOf_47 : decode cX3_roleOf 47 = .ok (.ireturn, 1) := by decide +kernel
theorem dX3_roleOf_48 : decode cX3_roleOf 48 = .ok (.iconst 2, 1) := by decide +kernel
theorem dX3_roleOf_49 : decode cX3_roleOf 49 = .ok (.ireturn, 1) := by decide +kernel
theorem dX3_roleOf_50 : decode cX3_roleOf 50 = .ok (.iconst 3, 1) := by decide +kernel
theorem dX3_roleOf_51 : decode cX3_roleOf 51 = .ok (.ireturn, 1) := by decide +kernel
theorem dX3_roleOf_52 : decode cX3_roleOf 52 = .ok (.iconst (-1), 1) := by decide +kernel
theorem dX3_roleOf_53 : decode cX3_roleOf 53 = .ok (.ireturn, 1) := by decide +kernel
theorem dX3_misplace_0 : decode cX3_misplace 0 = .ok (.aload_n 0, 1) := by decide +kernel
theorem dX3_misplace_1 : decode cX3_misplace 1 = .ok (.iconst 1, 1) := by decide +kernel
theorem dX3_misplace_2 : decode cX3_misplace 2 = .ok (.putfield 32, 3) := by decide +kernel
theorem dX3_misplace_5 : decode cX3_misplace 5 = .ok (.aload_n 0, 1) := by decide +kernel
theorem dX3_misplace_6 : decode cX3_misplace 6 = .ok (.aload_n 0, 1) := by decide +kernel
theorem dX3_misplace_7 : decode cX3_misplace 7 = .ok (.getfield 54, 3) := by decide +kernel
theorem dX3_misplace_10 : decode cX3_misplace 10 = .ok (.putfield 36, 3) := by decide +kernel
theorem dX3_misplace_13 : decode cX3_misplace 13 = .ok (.return_, 1) := by decide +kernel
theorem dX3_impossible_0 : decode cX3_impossible 0 = .ok (.aload_n 0, 1) := by decide +kernel
theorem dX3_impossible_1 : decode cX3_impossible 1 = .ok (.getfield 32, 3) := by decide +kernel
theorem dX3_impossible_4 : decode cX3_impossible 4 = .ok (.ifCond .ne 13, 3) := by decide +kernel
theorem dX3_impossible_7 : decode cX3_impossible 7 = .ok (.aload_n 0, 1) := by decide +kernel
theorem dX3_impossible_8 : decode cX3_impossible 8 = .ok (.iconst 2, 1) := by decide +kernel
theorem dX3_impossible_9 : decode cX3_impossible 9 = .ok (.putfield 32, 3) := by decide +kernel
theorem dX3_impossible_12 : decode cX3_impossible 12 = .ok (.aload_n 0, 1) := by decide +kernel
theorem dX3_impossible_13 : decode cX3_impossible 13 = .ok (.iload_n 1, 1) := by decide +kernel
theorem dX3_impossible_14 : decode cX3_impossible 14 = .ok (.putfield 36, 3) := by decide +kernel
theorem dX3_impossible_17 : decode cX3_impossible 17 = .ok (.return_, 1) := by decide +kernel
set_option maxRecDepth 20000 in
theorem ggX3_isWord_J0_length_8abf5 : GoodIn wsX3_isWord wsJ0_length_8abf5 := gi_e e_wsX3_isWord e_wsJ0_length_8abf5 (by decide +kernel)
set_option maxRecDepth 20000 in
theorem gX3_isWord_J0_length_8abf5 : GoodIn wsX3_isWord (wsV RX3 127 RJ0 yJ0_length_8abf5 wsJ0_length_8abf5) := goodIn_app (gi_e e_wsX3_isWord (ce fw_4197 (ce fw_4198 (ce fw_4199 (ce fw_1041 (cn))))) (by decide +kernel)) ggX3_isWord_J0_length_8abf5
set_option maxRecDepth 20000 in
theorem ggX3_isWord_X8_at : GoodIn wsX3_isWord wsX8_at := gi_e e_wsX3_isWord e_wsX8_at (by decide +kernel)
set_option maxRecDepth 20000 in
theorem gX3_isWord_X8_at : GoodIn wsX3_isWord (wsV RX3 111 RX8 yX8_at wsX8_at) := goodIn_app (gi_e e_wsX3_isWord (ce fw_4175 (ce fw_4176 (ce fw_4177 (ce fw_1028 (cn))))) (by decide +kernel)) ggX3_isWord_X8_at
set_option maxRecDepth 20000 in
theorem ggX3_isWord_J0_charAt_5068e : GoodIn wsX3_isWord wsJ0_charAt_5068e := gi_e e_wsX3_isWord e_wsJ0_charAt_5068e (by decide +kernel)
set_option maxRecDepth 20000 in
theorem gX3_isWord_J0_charAt_5068e : GoodIn wsX3_isWord (wsV RX3 132 RJ0 yJ0_charAt_5068e wsJ0_charAt_5068e) := goodIn_app (gi_e e_wsX3_isWord (ce fw_4207 (ce fw_4208 (ce fw_4209 (ce fw_1041 (cn))))) (by decide +kernel)) ggX3_isWord_J0_charAt_5068e
theorem dX3_isWord_0 : decode cX3_isWord 0 = .ok (.aload_n 0, 1) := by decide +kernel
theorem dX3_isWord_1 : decode cX3_isWord 1 = .ok (.getfield 45, 3) := by decide +kernel
theorem dX3_isWord_4 : decode cX3_isWord 4 = .ok (.iconst 1, 1) := by decide +kernel
theorem dX3_isWord_5 : decode cX3_isWord 5 = .ok (.if_icmp .ne 19, 3) := by decide +kernel
theorem dX3_isWord_8 : decode cX3_isWord 8 = .ok (.aload_n 0, 1) := by decide +kernel
theorem dX3_isWord_9 : decode cX3_isWord 9 = .ok (.getfield 39, 3) := by decide +kernel
theorem dX3_isWord_12 : decode cX3_isWord 12 = .ok (.aload_n 0, 1) := by decide +kernel
theorem dX3_isWord_13 : decode cX3_isWord 13 = .ok (.getfield 54, 3) := by decide +kernel
theorem dX3_isWord_16 : decode cX3_isWord 16 = .ok (.isub, 1) := by decide +kernel
theorem dX3_isWord_17 : decode cX3_isWord 17 = .ok (.aload_n 1, 1) := by decide +kernel
theorem dX3_isWord_18 : decode cX3_isWord 18 = .ok (.invokevirtual 127, 3) := by decide +kernel
theorem dX3_isWord_21 : decode cX3_isWord 21 = .ok (.if_icmp .eq 5, 3) := by decide +kernel
theorem dX3_isWord_24 : decode cX3_isWord 24 = .ok (.iconst 0, 1) := by decide +kernel
theorem dX3_isWord_25 : decode cX3_isWord 25 = .ok (.ireturn, 1) := by decide +kernel
theorem dX3_isWord_26 : decode cX3_isWord 26 = .ok (.iconst 0, 1) := by decide +kernel
theorem dX3_isWord_27 : decode cX3_isWord 27 = .ok (.istore_n 2, 1) := by decide +kernel
theorem dX3_isWord_28 : decode cX3_isWord 28 = .ok (.iload_n 2, 1) := by decide +kernel
theorem dX3_isWord_29 : decode cX3_isWord 29 = .ok (.aload_n 1, 1) := by decide +kernel
theorem dX3_isWord_30 : decode cX3_isWord 30 = .ok (.invokevirtual 127, 3) := by decide +kernel
theorem dX3_isWord_33 : decode cX3_isWord 33 = .ok (.if_icmp .ge 32, 3) := by decide +kernel
theorem dX3_isWord_36 : decode cX3_isWord 36 = .ok (.aload_n 0, 1) := by decide +kernel
theorem dX3_isWord_37 : decode cX3_isWord 37 = .ok (.getfield 21, 3) := by decide +kernel
theorem dX3_isWord_40 : decode cX3_isWord 40 = .ok (.aload_n 0, 1) := by decide +kernel
theorem dX3_isWord_41 : decode cX3_isWord 41 = .ok (.getfield 54, 3) := by decide +kernel
theorem dX3_isWord_44 : decode cX3_isWord 44 = .ok (.iload_n 2, 1) := by decide +kernel
theorem dX3_isWord_45 : decode cX3_isWord 45 = .ok (.iadd, 1) := by decide +kernel
theorem dX3_isWord_46 : decode cX3_isWord 46 = .ok (.invokevirtual 111, 3) := by decide +kernel
theorem dX3_isWord_49 : decode cX3_isWord 49 = .ok (.aload_n 1, 1) := by decide +kernel
theorem dX3_isWord_50 : decode cX3_isWord 50 = .ok (.iload_n 2, 1) := by decide +kernel
theorem dX3_isWord_51 : decode cX3_isWord 51 = .ok (.invokevirtual 132, 3) := by decide +kernel
theorem dX3_isWord_54 : decode cX3_isWord 54 = .ok (.if_icmp .eq 5, 3) := by decide +kernel
theorem dX3_isWord_57 : decode cX3_isWord 57 = .ok (.iconst 0, 1) := by decide +kernel
theorem dX3_isWord_58 : decode cX3_isWord 58 = .ok (.ireturn, 1) := by decide +kernel
theorem dX3_isWord_59 : decode cX3_isWord 59 = .ok (.iinc 2 1, 3) := by decide +kernel
theorem dX3_isWord_62 : decode cX3_isWord 62 = .ok (.goto (-34), 3) := by decide +kernel
theorem dX3_isWord_65 : decode cX3_isWord 65 = .ok (.iconst 1, 1) := by decide +kernel
theorem dX3_isWord_66 : decode cX3_isWord 66 = .ok (.ireturn, 1) := by decide +kernel
set_option maxRecDepth 20000 in
theorem ggX3_step_X8_at : GoodIn wsX3_step wsX8_at := gi_e e_wsX3_step e_wsX8_at (by decide +kernel)
set_option maxRecDepth 20000 in
theorem gX3_step_X8_at : GoodIn wsX3_step (wsV RX3 111 RX8 yX8_at wsX8_at) := goodIn_app (gi_e e_wsX3_step (ce fw_4175 (ce fw_4176 (ce fw_4177 (ce fw_1028 (cn))))) (by decide +kernel)) ggX3_step_X8_at
set_option maxRecDepth 20000 in
theorem ggX3_step_X3_isBlank : GoodIn wsX3_step wsX3_isBlank := gi_e e_wsX3_step e_wsX3_isBlank (by decide +kernel)
set_option maxRecDepth 20000 in
theorem gX3_step_X3_isBlank : GoodIn wsX3_step (va_wsS RX3 139 yX3_isBlank wsX3_isBlank) := goodIn_app (gi_e e_wsX3_step (ce fw_4179 (ce fw_4180 (ce fw_1037 (cn)))) (by decide +kernel)) ggX3_step_X3_isBlank
set_option maxRecDepth 20000 in
theorem ggX3_step_X3_isLetter : GoodIn wsX3_step wsX3_isLetter := gi_e e_wsX3_step e_wsX3_isLetter (by decide +kernel)
set_option maxRecDepth 20000 in
theorem gX3_step_X3_isLetter : GoodIn wsX3_step (va_wsS RX3 143 yX3_isLetter wsX3_isLetter) := goodIn_app (gi_e e_wsX3_step (ce fw_4182 (ce fw_4183 (ce fw_1037 (cn)))) (by decide +kernel)) ggX3_step_X3_isLetter
set_option maxRecDepth 20000 in
theorem ggX3_step_X3_isDigit : GoodIn wsX3_step wsX3_isDigit := gi_e e_wsX3_step e_wsX3_isDigit (by decide +kernel)
set_option maxRecDepth 20000 in
theorem gX3_step_X3_isDigit : GoodIn wsX3_step (va_wsS RX3 146 yX3_isDigit wsX3_isDigit) := goodIn_app (gi_e e_wsX3_step (ce fw_4185 (ce fw_4186 (ce fw_1037 (cn)))) (by decide +kernel)) ggX3_step_X3_isDigit
theorem dX3_step_0 : decode cX3_step 0 = .ok (.aload_n 0, 1) := by decide +kernel
theorem dX3_step_1 : decode cX3_step 1 = .ok (.aload_n 0, 1) := by decide +kernel
theorem dX3_step_2 : decode cX3_step 2 = .ok (.getfield 39, 3) := by decide +kernel
theorem dX3_step_5 : decode cX3_step 5 = .ok (.putfield 54, 3) := by decide +kernel
theorem dX3_step_8 : decode cX3_step 8 = .ok (.aload_n 0, 1) := by decide +kernel
theorem dX3_step_9 : decode cX3_step 9 = .ok (.getfield 54, 3) := by decide +kernel
theorem dX3_step_12 : decode cX3_step 12 = .ok (.aload_n 0, 1) := by decide +kernel
theorem dX3_step_13 : decode cX3_step 13 = .ok (.getfield 21, 3) := by decide +kernel
theorem dX3_step_16 : decode cX3_step 16 = .ok (.getfield 136, 3) := by decide +kernel
theorem dX3_step_19 : decode cX3_step 19 = .ok (.if_icmp .ge 33, 3) := by decide +kernel
theorem dX3_step_22 : decode cX3_step 22 = .ok (.aload_n 0, 1) := by decide +kernel
theorem dX3_step_23 : decode cX3_step 23 = .ok (.getfield 21, 3) := by decide +kernel
theorem dX3_step_26 : decode cX3_step 26 = .ok (.aload_n 0, 1) := by decide +kernel
theorem dX3_step_27 : decode cX3_step 27 = .ok (.getfield 54, 3) := by decide +kernel
theorem dX3_step_30 : decode cX3_step 30 = .ok (.invokevirtual 111, 3) := by decide +kernel
theorem dX3_step_33 : decode cX3_step 33 = .ok (.invokestatic 139, 3) := by decide +kernel
theorem dX3_step_36 : decode cX3_step 36 = .ok (.ifCond .eq 16, 3) := by decide +kernel
theorem dX3_step_39 : decode cX3_step 39 = .ok (.aload_n 0, 1) := by decide +kernel
theorem dX3_step_40 : decode cX3_step 40 = .ok (.dup, 1) := by decide +kernel
theorem dX3_step_41 : decode cX3_step 41 = .ok (.getfield 54, 3) := by decide +kernel
theorem dX3_step_44 : decode cX3_step 44 = .ok (.iconst 1, 1) := by decide +kernel
theorem dX3_step_45 : decode cX3_step 45 = .ok (.iadd, 1) := by decide +kernel
theorem dX3_step_46 : decode cX3_step 46 = .ok (.putfield 54, 3) := by decide +kernel
theorem dX3_step_49 : decode cX3_step 49 = .ok (.goto (-41), 3) := by decide +kernel
theorem dX3_step_52 : decode cX3_step 52 = .ok (.aload_n 0, 1) := by decide +kernel
theorem dX3_step_53 : decode cX3_step 53 = .ok (.aload_n 0, 1) := by decide +kernel
theorem dX3_step_54 : decode cX3_step 54 = .ok (.getfield 54, 3) := by decide +kernel
theorem dX3_step_57 : decode cX3_step 57 = .ok (.putfield 39, 3) := by decide +kernel
theorem dX3_step_60 : decode cX3_step 60 = .ok (.aload_n 0, 1) := by decide +kernel
theorem dX3_step_61 : decode cX3_step 61 = .ok (.getfield 54, 3) := by decide +kernel
theorem dX3_step_64 : decode cX3_step 64 = .ok (.aload_n 0, 1) := by decide +kernel
theorem dX3_step_65 : decode cX3_step 65 = .ok (.getfield 21, 3) := by decide +kernel
theorem dX3_step_68 : decode cX3_step 68 = .ok (.getfield 136, 3) := by decide +kernel
theorem dX3_step_71 : decode cX3_step 71 = .ok (.if_icmp .lt 11, 3) := by decide +kernel
theorem dX3_step_74 : decode cX3_step 74 = .ok (.aload_n 0, 1) := by decide +kernel
theorem dX3_step_75 : decode cX3_step 75 = .ok (.iconst 0, 1) := by decide +kernel
theorem dX3_step_76 : decode cX3_step 76 = .ok (.putfield 45, 3) := by decide +kernel
theorem dX3_step_79 : decode cX3_step 79 = .ok (.goto 191, 3) := by decide +kernel
theorem dX3_step_82 : decode cX3_step 82 = .ok (.aload_n 0, 1) := by decide +kernel
theorem dX3_step_83 : decode cX3_step 83 = .ok (.getfield 21, 3) := by decide +kernel
theorem dX3_step_86 : decode cX3_step 86 = .ok (.aload_n 0, 1) := by decide +kernel
theorem dX3_step_87 : decode cX3_step 87 = .ok (.getfield 54, 3) := by decide +kernel
theorem dX3_step_90 : decode cX3_step 90 = .ok (.invokevirtual 111, 3) := by decide +kernel
theorem dX3_step_93 : decode cX3_step 93 = .ok (.invokestatic 143, 3) := by decide +kernel
theorem dX3_step_96 : decode cX3_step 96 = .ok (.ifCond .eq 52, 3) := by decide +kernel
theorem dX3_step_99 : decode cX3_step 99 = .ok (.aload_n 0, 1) := by decide +kernel
theorem dX3_step_100 : decode cX3_step 100 = .ok (.iconst 1, 1) := by decide +kernel
theorem dX3_step_101 : decode cX3_step 101 = .ok (.putfield 45, 3) := by decide +kernel
theorem dX3_step_104 : decode cX3_step 104 = .ok (.aload_n 0, 1) := by decide +kernel
theorem dX3_step_105 : decode cX3_step 105 = .ok (.getfield 39, 3) := by decide +kernel
theorem dX3_step_108 : decode cX3_step 108 = .ok (.aload_n 0, 1) := by decide +kernel
theorem dX3_step_109 : decode cX3_step 109 = .ok (.getfield 21, 3) := by decide +kernel
theorem dX3_step_112 : decode cX3_step 112 = .ok (.getfield 136, 3) := by decide +kernel
theorem dX3_step_115 : decode cX3_step 115 = .ok (.if_icmp .ge 155, 3) := by decide +kernel
theorem dX3_step_118 : decode cX3_step 118 = .ok (.aload_n 0, 1) := by decide +kernel
theorem dX3_step_119 : decode cX3_step 119 = .ok (.getfield 21, 3) := by decide +kernel
theorem dX3_step_122 : decode cX3_step 122 = .ok (.aload_n 0, 1) := by decide +kernel
theorem dX3_step_123 : decode cX3_step 123 = .ok (.getfield 39, 3) := by decide +kernel
theorem dX3_step_126 : decode cX3_step 126 = .ok (.invokevirtual 111, 3) := by decide +kernel
theorem dX3_step_129 : decode cX3_step 129 = .ok (.invokestatic 143, 3) := by decide +kernel
theorem dX3_step_132 : decode cX3_step 132 = .ok (.ifCond .eq 138, 3) := by decide +kernel
theorem dX3_step_135 : decode cX3_step 135 = .ok (.aload_n 0, 1) := by decide +kernel
theorem dX3_step_136 : decode cX3_step 136 = .ok (.dup, 1) := by decide +kernel
theorem dX3_step_137 : decode cX3_step 137 = .ok (.getfield 39, 3) := by decide +kernel
theorem dX3_step_140 : decode cX3_step 140 = .ok (.iconst 1, 1) := by decide +kernel
theorem dX3_step_141 : decode cX3_step 141 = .ok (.iadd, 1) := by decide +kernel
theorem dX3_step_142 : decode cX3_step 142 = .ok (.putfield 39, 3) := by decide +kernel
theorem dX3_step_145 : decode cX3_step 145 = .ok (.goto (-41), 3) := by decide +kernel
theorem dX3_step_148 : decode cX3_step 148 = .ok (.aload_n 0, 1) := by decide +kernel
theorem dX3_step_149 : decode cX3_step 149 = .ok (.getfield 21, 3) := by decide +kernel
theorem dX3_step_152 : decode cX3_step 152 = .ok (.aload_n 0, 1) := by decide +kernel
theorem dX3_step_153 : decode cX3_step 153 = .ok (.getfield 54, 3) := by decide +kernel
theorem dX3_step_156 : decode cX3_step 156 = .ok (.invokevirtual 111, 3) := by decide +kernel
theorem dX3_step_159 : decode cX3_step 159 = .ok (.invokestatic 146, 3) := by decide +kernel
theorem dX3_step_162 : decode cX3_step 162 = .ok (.ifCond .eq 73, 3) := by decide +kernel
theorem dX3_step_165 : decode cX3_step 165 = .ok (.aload_n 0, 1) := by decide +kernel
theorem dX3_step_166 : decode cX3_step 166 = .ok (.getfield 39, 3) := by decide +kernel
theorem dX3_step_169 : decode cX3_step 169 = .ok (.aload_n 0, 1) := by decide +kernel
theorem dX3_step_170 : decode cX3_step 170 = .ok (.getfield 21, 3) := by decide +kernel
theorem dX3_step_173 : decode cX3_step 173 = .ok (.getfield 136, 3) := by decide +kernel
theorem dX3_step_176 : decode cX3_step 176 = .ok (.if_icmp .ge 33, 3) := by decide +kernel
theorem dX3_step_179 : decode cX3_step 179 = .ok (.aload_n 0, 1) := by decide +kernel
theorem dX3_step_180 : decode cX3_step 180 = .ok (.getfield 21, 3) := by decide +kernel
theorem dX3_step_183 : decode cX3_step 183 = .ok (.aload_n 0, 1) := by decide +kernel
theorem dX3_step_184 : decode cX3_step 184 = .ok (.getfield 39, 3) := by decide +kernel
theorem dX3_step_187 : decode cX3_step 187 = .ok (.invokevirtual 111, 3) := by decide +kernel
theorem dX3_step_190 : decode cX3_step 190 = .ok (.invokestatic 146, 3) := by decide +kernel
theorem dX3_step_193 : decode cX3_step 193 = .ok (.ifCond .eq 16, 3) := by decide +kernel
theorem dX3_step_196 : decode cX3_step 196 = .ok (.aload_n 0, 1) := by decide +kernel
theorem dX3_step_197 : decode cX3_step 197 = .ok (.dup, 1) := by decide +kernel
theorem dX3_step_198 : decode cX3_step 198 = .ok (.getfield 39, 3) := by decide +kernel
theorem dX3_step_201 : decode cX3_step 201 = .ok (.iconst 1, 1) := by decide +kernel
theorem dX3_step_202 : decode cX3_step 202 = .ok (.iadd, 1) := by decide +kernel
theorem dX3_step_203 : decode cX3_step 203 = .ok (.putfield 39, 3) := by decide +kernel
theorem dX3_step_206 : decode cX3_step 206 = .ok (.goto (-41), 3) := by decide +kernel
theorem dX3_step_209 : decode cX3_step 209 = .ok (.aload_n 0, 1) := by decide +kernel
theorem dX3_step_210 : decode cX3_step 210 = .ok (.aload_n 0, 1) := by decide +kernel
theorem dX3_step_211 : decode cX3_step 211 = .ok (.getfield 39, 3) := by decide +kernel
theorem dX3_step_214 : decode cX3_step 214 = .ok (.aload_n 0, 1) := by decide +kernel
theorem dX3_step_215 : decode cX3_step 215 = .ok (.getfield 54, 3) := by decide +kernel
theorem dX3_step_218 : decode cX3_step 218 = .ok (.isub, 1) := by decide +kernel
theorem dX3_step_219 : decode cX3_step 219 = .ok (.bipush 12, 2) := by decide +kernel
theorem dX3_step_221 : decode cX3_step 221 = .ok (.if_icmp .gt 7, 3) := by decide +kernel
theorem dX3_step_224 : decode cX3_step 224 = .ok (.iconst 2, 1) := by decide +kernel
theorem dX3_step_225 : decode cX3_step 225 = .ok (.goto 4, 3) := by decide +kernel
theorem dX3_step_228 : decode cX3_step 228 = .ok (.iconst 4, 1) := by decide +kernel
theorem dX3_step_229 : decode cX3_step 229 = .ok (.putfield 45, 3) := by decide +kernel
theorem dX3_step_232 : decode cX3_step 232 = .ok (.goto 38, 3) := by decide +kernel
theorem dX3_step_235 : decode cX3_step 235 = .ok (.aload_n 0, 1) := by decide +kernel
theorem dX3_step_236 : decode cX3_step 236 = .ok (.aload_n 0, 1) := by decide +kernel
theorem dX3_step_237 : decode cX3_step 237 = .ok (.getfield 21, 3) := by decide +kernel
theorem dX3_step_240 : decode cX3_step 240 = .ok (.aload_n 0, 1) := by decide +kernel
theorem dX3_step_241 : decode cX3_step 241 = .ok (.getfield 54, 3) := by decide +kernel
theorem dX3_step_244 : decode cX3_step 244 = .ok (.invokevirtual 111, 3) := by decide +kernel
theorem dX3_step_247 : decode cX3_step 247 = .ok (.bipush 59, 2) := by decide +kernel
theorem dX3_step_249 : decode cX3_step 249 = .ok (.if_icmp .ne 7, 3) := by decide +kernel
theorem dX3_step_252 : decode cX3_step 252 = .ok (.iconst 3, 1) := by decide +kernel
theorem dX3_step_253 : decode cX3_step 253 = .ok (.goto 4, 3) := by decide +kernel
theorem dX3_step_256 : decode cX3_step 256 = .ok (.iconst 4, 1) := by decide +kernel
theorem dX3_step_257 : decode cX3_step 257 = .ok (.putfield 45, 3) := by decide +kernel
theorem dX3_step_260 : decode cX3_step 260 = .ok (.aload_n 0, 1) := by decide +kernel
theorem dX3_step_261 : decode cX3_step 261 = .ok (.dup, 1) := by decide +kernel
theorem dX3_step_262 : decode cX3_step 262 = .ok (.getfield 39, 3) := by decide +kernel
theorem dX3_step_265 : decode cX3_step 265 = .ok (.iconst 1, 1) := by decide +kernel
theorem dX3_step_266 : decode cX3_step 266 = .ok (.iadd, 1) := by decide +kernel
theorem dX3_step_267 : decode cX3_step 267 = .ok (.putfield 39, 3) := by decide +kernel
theorem dX3_step_270 : decode cX3_step 270 = .ok (.return_, 1) := by decide +kernel
theorem dX3_isBlank_0 : decode cX3_isBlank 0 = .ok (.iload_n 0, 1) := by decide +kernel
theorem dX3_isBlank_1 : decode cX3_isBlank 1 = .ok (.bipush 32, 2) := by decide +kernel
theorem dX3_isBlank_3 : decode cX3_isBlank 3 = .ok (.if_icmp .eq 9, 3) := by decide +kernel
theorem dX3_isBlank_6 : decode cX3_isBlank 6 = .ok (.iload_n 0, 1) := by decide +kernel
theorem dX3_isBlank_7 : decode cX3_isBlank 7 = .ok (.bipush 10, 2) := by decide +kernel
theorem dX3_isBlank_9 : decode cX3_isBlank 9 = .ok (.if_icmp .ne 7, 3) := by decide +kernel
theorem dX3_isBlank_12 : decode cX3_isBlank 12 = .ok (.iconst 1, 1) := by decide +kernel
theorem dX3_isBlank_13 : decode cX3_isBlank 13 = .ok (.goto 4, 3) := by decide +kernel
theorem dX3_isBlank_16 : decode cX3_isBlank 16 = .ok (.iconst 0, 1) := by decide +kernel
theorem dX3_isBlank_17 : decode cX3_isBlank 17 = .ok (.ireturn, 1) := by decide +kernel
theorem dX3_isLetter_0 : decode cX3_isLetter 0 = .ok (.iload_n 0, 1) := by decide +kernel
theorem dX3_isLetter_1 : decode cX3_isLetter 1 = .ok (.bipush 97, 2) := by decide +kernel
theorem dX3_isLetter_3 : decode cX3_isLetter 3 = .ok (.if_icmp .lt 13, 3) := by decide +kernel
theorem dX3_isLetter_6 : decode cX3_isLetter 6 = .ok (.iload_n 0, 1) := by decide +kernel
theorem dX3_isLetter_7 : decode cX3_isLetter 7 = .ok (.bipush 122, 2) := by decide +kernel
theorem dX3_isLetter_9 : decode cX3_isLetter 9 = .ok (.if_icmp .gt 7, 3) := by decide +kernel
theorem dX3_isLetter_12 : decode cX3_isLetter 12 = .ok (.iconst 1, 1) := by decide +kernel
theorem dX3_isLetter_13 : decode cX3_isLetter 13 = .ok (.goto 4, 3) := by decide +kernel
theorem dX3_isLetter_16 : decode cX3_isLetter 16 = .ok (.iconst 0, 1) := by decide +kernel
theorem dX3_isLetter_17 : decode cX3_isLetter 17 = .ok (.ireturn, 1) := by decide +kernel
theorem dX3_isDigit_0 : decode cX3_isDigit 0 = .ok (.iload_n 0, 1) := by decide +kernel
theorem dX3_isDigit_1 : decode cX3_isDigit 1 = .ok (.bipush 48, 2) := by decide +kernel
theorem dX3_isDigit_3 : decode cX3_isDigit 3 = .ok (.if_icmp .lt 13, 3) := by decide +kernel
theorem dX3_isDigit_6 : decode cX3_isDigit 6 = .ok (.iload_n 0, 1) := by decide +kernel
theorem dX3_isDigit_7 : decode cX3_isDigit 7 = .ok (.bipush 57, 2) := by decide +kernel
theorem dX3_isDigit_9 : decode cX3_isDigit 9 = .ok (.if_icmp .gt 7, 3) := by decide +kernel
theorem dX3_isDigit_12 : decode cX3_isDigit 12 = .ok (.iconst 1, 1) := by decide +kernel
theorem dX3_isDigit_13 : decode cX3_isDigit 13 = .ok (.goto 4, 3) := by decide +kernel
theorem dX3_isDigit_16 : decode cX3_isDigit 16 = .ok (.iconst 0, 1) := by decide +kernel
theorem dX3_isDigit_17 : decode cX3_isDigit 17 = .ok (.ireturn, 1) := by decide +kernel
set_option maxRecDepth 20000 in
theorem ggX4_init_X1_init : GoodIn wsX4_init wsX1_init := gi_e e_wsX4_init e_wsX1_init (by decide +kernel)
set_option maxRecDepth 20000 in
theorem gX4_init_X1_init_n11 : GoodIn wsX4_init (wsX1_init) := ggX4_init_X1_init
set_option maxRecDepth 20000 in
theorem ggX4_init_X7_init : GoodIn wsX4_init wsX7_init := gi_e e_wsX4_init e_wsX7_init (by decide +kernel)
set_option maxRecDepth 20000 in
theorem gX4_init_X7_init_n20 : GoodIn wsX4_init (wsX7_init) := ggX4_init_X7_init
set_option maxRecDepth 20000 in
theorem ggX4_init_X0_init : GoodIn wsX4_init wsX0_init := gi_e e_wsX4_init e_wsX0_init (by decide +kernel)
set_option maxRecDepth 20000 in
theorem gX4_init_X0_init_n27 : GoodIn wsX4_init (wsX0_init) := ggX4_init_X0_init
set_option maxRecDepth 20000 in
theorem ggX4_init_X5_init : GoodIn wsX4_init wsX5_init := gi_e e_wsX4_init e_wsX5_init (by decide +kernel)
set_option maxRecDepth 20000 in
theorem gX4_init_X5_init : GoodIn wsX4_init (wsX5_init) := ggX4_init_X5_init
set_option maxRecDepth 20000 in
theorem ggX4_init_X4_begin : GoodIn wsX4_init wsX4_begin := gi_e e_wsX4_init e_wsX4_begin (by decide +kernel)
set_option maxRecDepth 20000 in
theorem gX4_init_X4_begin : GoodIn wsX4_init (wsV RX4 35 RX4 yX4_begin wsX4_begin) := goodIn_app (gi_e e_wsX4_init (ce fw_2129 (ce fw_2130 (ce fw_2131 (ce fw_1031 (cn))))) (by decide +kernel)) ggX4_init_X4_begin
theorem dX4_init_0 : decode cX4_init 0 = .ok (.aload_n 0, 1) := by decide +kernel
theorem dX4_init_1 : decode cX4_init 1 = .ok (.invokespecial 3, 3) := by decide +kernel
theorem dX4_init_4 : decode cX4_init 4 = .ok (.aload_n 0, 1) := by decide +kernel
theorem dX4_init_5 : decode cX4_init 5 = .ok (.new 9, 3) := by decide +kernel
theorem dX4_init_8 : decode cX4_init 8 = .ok (.dup, 1) := by decide +kernel
theorem dX4_init_9 : decode cX4_init 9 = .ok (.invokespecial 11, 3) := by decide +kernel
theorem dX4_init_12 : decode cX4_init 12 = .ok (.putfield 12, 3) := by decide +kernel
theorem dX4_init_15 : decode cX4_init 15 = .ok (.aload_n 0, 1) := by decide +kernel
theorem dX4_init_16 : decode cX4_init 16 = .ok (.new 18, 3) := by decide +kernel
theorem dX4_init_19 : decode cX4_init 19 = .ok (.dup, 1) := by decide +kernel
theorem dX4_init_20 : decode cX4_init 20 = .ok (.invokespecial 20, 3) := by decide +kernel
theorem dX4_init_23 : decode cX4_init 23 = .ok (.putfield 21, 3) := by decide +kernel
theorem dX4_init_26 : decode cX4_init 26 = .ok (.aload_n 0, 1) := by decide +kernel
theorem dX4_init_27 : decode cX4_init 27 = .ok (.new 25, 3) := by decide +kernel
theorem dX4_init_30 : decode cX4_init 30 = .ok (.dup, 1) := by decide +kernel
theorem dX4_init_31 : decode cX4_init 31 = .ok (.invokespecial 27, 3) := by decide +kernel
theorem dX4_init_34 : decode cX4_init 34 = .ok (.putfield 28, 3) := by decide +kernel
theorem dX4_init_37 : decode cX4_init 37 = .ok (.aload_n 0, 1) := by decide +kernel
theorem dX4_init_38 : decode cX4_init 38 = .ok (.new 32, 3) := by decide +kernel
theorem dX4_init_41 : decode cX4_init 41 = .ok (.dup, 1) := by decide +kernel
theorem dX4_init_42 : decode cX4_init 42 = .ok (.invokespecial 34, 3) := by decide +kernel
theorem dX4_init_45 : decode cX4_init 45 = .ok (.invokevirtual 35, 3) := by decide +kernel
theorem dX4_init_48 : decode cX4_init 48 = .ok (.return_, 1) := by decide +kernel
set_option maxRecDepth 20000 in
theorem ggX4_begin_X1_begin : GoodIn wsX4_begin wsX1_begin := gi_e e_wsX4_begin e_wsX1_begin (by decide +kernel)
set_option maxRecDepth 20000 in
theorem gX4_begin_X1_begin : GoodIn wsX4_begin (wsV RX4 43 RX1 yX1_begin wsX1_begin) := goodIn_app (gi_e e_wsX4_begin (ce fw_2133 (ce fw_2134 (ce fw_2135 (ce fw_1032 (cn))))) (by decide +kernel)) ggX4_begin_X1_begin
set_option maxRecDepth 20000 in
theorem ggX4_begin_X7_begin : GoodIn wsX4_begin wsX7_begin := gi_e e_wsX4_begin e_wsX7_begin (by decide +kernel)
set_option maxRecDepth 20000 in
theorem gX4_begin_X7_begin : GoodIn wsX4_begin (wsV RX4 44 RX7 yX7_begin wsX7_begin) := goodIn_app (gi_e e_wsX4_begin (ce fw_2137 (ce fw_2138 (ce fw_2139 (ce fw_1033 (cn))))) (by decide +kernel)) ggX4_begin_X7_begin
set_option maxRecDepth 20000 in
theorem ggX4_begin_X0_begin : GoodIn wsX4_begin wsX0_begin := gi_e e_wsX4_begin e_wsX0_begin (by decide +kernel)
set_option maxRecDepth 20000 in
theorem gX4_begin_X0_begin : GoodIn wsX4_begin (wsV RX4 46 RX0 yX0_begin wsX0_begin) := goodIn_app (gi_e e_wsX4_begin (ce fw_2141 (ce fw_2142 (ce fw_2143 (ce fw_1034 (cn))))) (by decide +kernel)) ggX4_begin_X0_begin
theorem dX4_begin_0 : decode cX4_begin 0 = .ok (.aload_n 0, 1) := by decide +kernel
theorem dX4_begin_1 : decode cX4_begin 1 = .ok (.iconst 0, 1) := by decide +kernel
theorem dX4_begin_2 : decode cX4_begin 2 = .ok (.putfield 39, 3) := by decide +kernel
theorem dX4_begin_5 : decode cX4_begin 5 = .ok (.aload_n 0, 1) := by decide +kernel
theorem dX4_begin_6 : decode cX4_begin 6 = .ok (.getfield 12, 3) := by decide +kernel
theorem dX4_begin_9 : decode cX4_begin 9 = .ok (.aload_n 1, 1) := by decide +kernel
theorem dX4_begin_10 : decode cX4_begin 10 = .ok (.invokevirtual 43, 3) := by decide +kernel
theorem dX4_begin_13 : decode cX4_begin 13 = .ok (.aload_n 0, 1) := by decide +kernel
theorem dX4_begin_14 : decode cX4_begin 14 = .ok (.getfield 21, 3) := by decide +kernel
theorem dX4_begin_17 : decode cX4_begin 17 = .ok (.invokevirtual 44, 3) := by decide +kernel
theorem dX4_begin_20 : decode cX4_begin 20 = .ok (.aload_n 0, 1) := by decide +kernel
theorem dX4_begin_21 : decode cX4_begin 21 = .ok (.getfield 28, 3) := by decide +kernel
theorem dX4_begin_24 : decode cX4_begin 24 = .ok (.invokevirtual 46, 3) := by decide +kernel
theorem dX4_begin_27 : decode cX4_begin 27 = .ok (.aload_n 0, 1) := by decide +kernel
theorem dX4_begin_28 : decode cX4_begin 28 = .ok (.iconst 1, 1) := by decide +kernel
theorem dX4_begin_29 : decode cX4_begin 29 = .ok (.putfield 47, 3) := by decide +kernel
theorem dX4_begin_32 : decode cX4_begin 32 = .ok (.aload_n 0, 1) := by decide +kernel
theorem dX4_begin_33 : decode cX4_begin 33 = .ok (.iconst 0, 1) := by decide +kernel
theorem dX4_begin_34 : decode cX4_begin 34 = .ok (.putfield 50, 3) := by decide +kernel
theorem dX4_begin_37 : decode cX4_begin 37 = .ok (.aload_n 0, 1) := by decide +kernel
theorem dX4_begin_38 : decode cX4_begin 38 = .ok (.iconst 0, 1) := by decide +kernel
theorem dX4_begin_39 : decode cX4_begin 39 = .ok (.putfield 53, 3) := by decide +kernel
theorem dX4_begin_42 : decode cX4_begin 42 = .ok (.aload_n 0, 1) := by decide +kernel
theorem dX4_begin_43 : decode cX4_begin 43 = .ok (.iconst 0, 1) := by decide +kernel
theorem dX4_begin_44 : decode cX4_begin 44 = .ok (.putfield 56, 3) := by decide +kernel
theorem dX4_begin_47 : decode cX4_begin 47 = .ok (.aload_n 0, 1) := by decide +kernel
theorem dX4_begin_48 : decode cX4_begin 48 = .ok (.iconst 0, 1) := by decide +kernel
theorem dX4_begin_49 : decode cX4_begin 49 = .ok (.putfield 59, 3) := by decide +kernel
theorem dX4_begin_52 : decode cX4_begin 52 = .ok (.aload_n 0, 1) := by decide +kernel
theorem dX4_begin_53 : decode cX4_begin 53 = .ok (.iconst 0, 1) := by decide +kernel
theorem dX4_begin_54 : decode cX4_begin 54 = .ok (.putfield 62, 3) := by decide +kernel
theorem dX4_begin_57 : decode cX4_begin 57 = .ok (.aload_n 0, 1) := by decide +kernel
theorem dX4_begin_58 : decode cX4_begin 58 = .ok (.iconst 0, 1) := by decide +kernel
theorem dX4_begin_59 : decode cX4_begin 59 = .ok (.putfield 65, 3) := by decide +kernel
theorem dX4_begin_62 : decode cX4_begin 62 = .ok (.aload_n 0, 1) := by decide +kernel
theorem dX4_begin_63 : decode cX4_begin 63 = .ok (.iconst 0, 1) := by decide +kernel
theorem dX4_begin_64 : decode cX4_begin 64 = .ok (.putfield 68, 3) := by decide +kernel
theorem dX4_begin_67 : decode cX4_begin 67 = .ok (.aload_n 0, 1) := by decide +kernel
theorem dX4_begin_68 : decode cX4_begin 68 = .ok (.iconst 0, 1) := by decide +kernel
theorem dX4_begin_69 : decode cX4_begin 69 = .ok (.putfield 71, 3) := by decide +kernel
theorem dX4_begin_72 : decode cX4_begin 72 = .ok (.return_, 1) := by decide +kernel
set_option maxRecDepth 20000 in
theorem ggX4_take_X2_at : GoodIn wsX4_take wsX2_at := gi_e e_wsX4_take e_wsX2_at (by decide +kernel)
set_option maxRecDepth 20000 in
theorem gX4_take_X2_at : GoodIn wsX4_take (wsV RX4 74 RX2 yX2_at wsX2_at) := goodIn_app (gi_e e_wsX4_take (ce fw_3188 (ce fw_3173 (ce fw_3174 (ce fw_1035 (cn))))) (by decide +kernel)) ggX4_take_X2_at
set_option maxRecDepth 20000 in
theorem ggX4_take_X4_takeHunting : GoodIn wsX4_take wsX4_takeHunting := gi_e e_wsX4_take e_wsX4_takeHunting (by decide +kernel)
set_option maxRecDepth 20000 in
theorem gX4_take_X4_takeHunting : GoodIn wsX4_take (wsV RX4 80 RX4 yX4_takeHunting wsX4_takeHunting) := goodIn_app (gi_e e_wsX4_take (ce fw_3189 (ce fw_3191 (ce fw_4 (ce fw_1031 (cn))))) (by decide +kernel)) ggX4_take_X4_takeHunting
set_option maxRecDepth 20000 in
theorem ggX4_take_X4_takeVerifying : GoodIn wsX4_take wsX4_takeVerifying := gi_e e_wsX4_take e_wsX4_takeVerifying (by decide +kernel)
set_option maxRecDepth 20000 in
theorem gX4_take_X4_takeVerifying : GoodIn wsX4_take (wsV RX4 84 RX4 yX4_takeVerifying wsX4_takeVerifying) := goodIn_app (gi_e e_wsX4_take (ce fw_3242 (ce fw_3244 (ce fw_8 (ce fw_1031 (cn))))) (by decide +kernel)) ggX4_take_X4_takeVerifying
set_option maxRecDepth 20000 in
theorem ggX4_take_X4_takeLocked : GoodIn wsX4_take wsX4_takeLocked := gi_e e_wsX4_take e_wsX4_takeLocked (by decide +kernel)
set_option maxRecDepth 20000 in
theorem gX4_take_X4_takeLocked : GoodIn wsX4_take (wsV RX4 88 RX4 yX4_takeLocked wsX4_takeLocked) := goodIn_app (gi_e e_wsX4_take (ce fw_3264 (ce fw_3266 (ce fw_11 (ce fw_1031 (cn))))) (by decide +kernel)) ggX4_take_X4_takeLocked
set_option maxRecDepth 20000 in
theorem ggX4_take_X7_tick : GoodIn wsX4_take wsX7_tick := gi_e e_wsX4_take e_wsX7_tick (by decide +kernel)
set_option maxRecDepth 20000 in
theorem gX4_take_X7_tick : GoodIn wsX4_take (wsV RX4 91 RX7 yX7_tick wsX7_tick) := goodIn_app (gi_e e_wsX4_take (ce fw_3294 (ce fw_3295 (ce fw_3296 (ce fw_1033 (cn))))) (by decide +kernel)) ggX4_take_X7_tick
theorem dX4_take_0 : decode cX4_take 0 = .ok (.aload_n 2, 1) := by decide +kernel
theorem dX4_take_1 : decode cX4_take 1 = .ok (.iload_n 3, 1) := by decide +kernel
theorem dX4_take_2 : decode cX4_take 2 = .ok (.invokevirtual 74, 3) := by decide +kernel
theorem dX4_take_5 : decode cX4_take 5 = .ok (.istore 4, 2) := by decide +kernel
theorem dX4_take_7 : decode cX4_take 7 = .ok (.aload_n 0, 1) := by decide +kernel
theorem dX4_take_8 : decode cX4_take 8 = .ok (.dup, 1) := by decide +kernel
theorem dX4_take_9 : decode cX4_take 9 = .ok (.getfield 65, 3) := by decide +kernel
theorem dX4_take_12 : decode cX4_take 12 = .ok (.iconst 1, 1) := by decide +kernel
theorem dX4_take_13 : decode cX4_take 13 = .ok (.iadd, 1) := by decide +kernel
theorem dX4_take_14 : decode cX4_take 14 = .ok (.putfield 65, 3) := by decide +kernel
theorem dX4_take_17 : decode cX4_take 17 = .ok (.aload_n 0, 1) := by decide +kernel
theorem dX4_take_18 : decode cX4_take 18 = .ok (.getfield 39, 3) := by decide +kernel
theorem dX4_take_21 : decode cX4_take 21 = .ok (.ifCond .ne 13, 3) := by decide +kernel
theorem dX4_take_24 : decode cX4_take 24 = .ok (.aload_n 0, 1) := by decide +kernel
theorem dX4_take_25 : decode cX4_take 25 = .ok (.aload_n 1, 1) := by decide +kernel
theorem dX4_take_26 : decode cX4_take 26 = .ok (.iload 4, 2) := by decide +kernel
theorem dX4_take_28 : decode cX4_take 28 = .ok (.invokevirtual 80, 3) := by decide +kernel
theorem dX4_take_31 : decode cX4_take 31 = .ok (.goto 28, 3) := by decide +kernel
theorem dX4_take_34 : decode cX4_take 34 = .ok (.aload_n 0, 1) := by decide +kernel
theorem dX4_take_35 : decode cX4_take 35 = .ok (.getfield 39, 3) := by decide +kernel
theorem dX4_take_38 : decode cX4_take 38 = .ok (.iconst 1, 1) := by decide +kernel
theorem dX4_take_39 : decode cX4_take 39 = .ok (.if_icmp .ne 13, 3) := by decide +kernel
theorem dX4_take_42 : decode cX4_take 42 = .ok (.aload_n 0, 1) := by decide +kernel
theorem dX4_take_43 : decode cX4_take 43 = .ok (.aload_n 1, 1) := by decide +kernel
theorem dX4_take_44 : decode cX4_take 44 = .ok (.aload_n 2, 1) := by decide +kernel
theorem dX4_take_45 : decode cX4_take 45 = .ok (.iload_n 3, 1) := by decide +kernel
theorem dX4_take_46 : decode cX4_take 46 = .ok (.invokevirtual 84, 3) := by decide +kernel
theorem dX4_take_49 : decode cX4_take 49 = .ok (.goto 10, 3) := by decide +kernel
theorem dX4_take_52 : decode cX4_take 52 = .ok (.aload_n 0, 1) := by decide +kernel
theorem dX4_take_53 : decode cX4_take 53 = .ok (.aload_n 1, 1) := by decide +kernel
theorem dX4_take_54 : decode cX4_take 54 = .ok (.aload_n 2, 1) := by decide +kernel
theorem dX4_take_55 : decode cX4_take 55 = .ok (.iload_n 3, 1) := by decide +kernel
theorem dX4_take_56 : decode cX4_take 56 = .ok (.invokevirtual 88, 3) := by decide +kernel
theorem dX4_take_59 : decode cX4_take 59 = .ok (.aload_n 0, 1) := by decide +kernel
theorem dX4_take_60 : decode cX4_take 60 = .ok (.getfield 21, 3) := by decide +kernel
theorem dX4_take_63 : decode cX4_take 63 = .ok (.aload_n 1, 1) := by decide +kernel
theorem dX4_take_64 : decode cX4_take 64 = .ok (.invokevirtual 91, 3) := by decide +kernel
theorem dX4_take_67 : decode cX4_take 67 = .ok (.return_, 1) := by decide +kernel
set_option maxRecDepth 20000 in
theorem ggX4_takeHunting_X1_follow : GoodIn wsX4_takeHunting wsX1_follow := gi_e e_wsX4_takeHunting e_wsX1_follow (by decide +kernel)
set_option maxRecDepth 20000 in
theorem gX4_takeHunting_X1_follow : GoodIn wsX4_takeHunting (wsV RX4 94 RX1 yX1_follow wsX1_follow) := goodIn_app (gi_e e_wsX4_takeHunting (ce fw_3193 (ce fw_3194 (ce fw_3195 (ce fw_1032 (cn))))) (by decide +kernel)) ggX4_takeHunting_X1_follow
set_option maxRecDepth 20000 in
theorem ggX4_takeHunting_X4_huntAnew : GoodIn wsX4_takeHunting wsX4_huntAnew := gi_e e_wsX4_takeHunting e_wsX4_huntAnew (by decide +kernel)
set_option maxRecDepth 20000 in
theorem gX4_takeHunting_X4_huntAnew : GoodIn wsX4_takeHunting (wsV RX4 100 RX4 yX4_huntAnew wsX4_huntAnew) := goodIn_app (gi_e e_wsX4_takeHunting (ce fw_3207 (ce fw_3209 (ce fw_5 (ce fw_1031 (cn))))) (by decide +kernel)) ggX4_takeHunting_X4_huntAnew
set_option maxRecDepth 20000 in
theorem ggX4_takeHunting_X1_fixedHeard : GoodIn wsX4_takeHunting wsX1_fixedHeard := gi_e e_wsX4_takeHunting e_wsX1_fixedHeard (by decide +kernel)
set_option maxRecDepth 20000 in
theorem gX4_takeHunting_X1_fixedHeard : GoodIn wsX4_takeHunting (wsV RX4 103 RX1 yX1_fixedHeard wsX1_fixedHeard) := goodIn_app (gi_e e_wsX4_takeHunting (ce fw_3211 (ce fw_3212 (ce fw_3213 (ce fw_1032 (cn))))) (by decide +kernel)) ggX4_takeHunting_X1_fixedHeard
set_option maxRecDepth 20000 in
theorem ggX4_takeHunting_X4_followLone : GoodIn wsX4_takeHunting wsX4_followLone := gi_e e_wsX4_takeHunting e_wsX4_followLone (by decide +kernel)
set_option maxRecDepth 20000 in
theorem gX4_takeHunting_X4_followLone : GoodIn wsX4_takeHunting (wsV RX4 110 RX4 yX4_followLone wsX4_followLone) := goodIn_app (gi_e e_wsX4_takeHunting (ce fw_3232 (ce fw_3234 (ce fw_6 (ce fw_1031 (cn))))) (by decide +kernel)) ggX4_takeHunting_X4_followLone
theorem dX4_takeHunting_0 : decode cX4_takeHunting 0 = .ok (.aload_n 0, 1) := by decide +kernel
theorem dX4_takeHunting_1 : decode cX4_takeHunting 1 = .ok (.getfield 12, 3) := by decide +kernel
theorem dX4_takeHunting_4 : decode cX4_takeHunting 4 = .ok (.aload_n 1, 1) := by decide +kernel
theorem dX4_takeHunting_5 : decode cX4_takeHunting 5 = .ok (.iload_n 2, 1) := by decide +kernel
theorem dX4_takeHunting_6 : decode cX4_takeHunting 6 = .ok (.invokevirtual 94, 3) := by decide +kernel
theorem dX4_takeHunting_9 : decode cX4_takeHunting 9 = .ok (.aload_n 0, 1) := by decide +kernel
theorem dX4_takeHunting_10 : decode cX4_takeHunting 10 = .ok (.getfield 12, 3) := by decide +kernel
theorem dX4_takeHunting_13 : decode cX4_takeHunting 13 = .ok (.getfield 97, 3) := by decide +kernel
theorem dX4_takeHunting_16 : decode cX4_takeHunting 16 = .ok (.ifCond .ne 11, 3) := by decide +kernel
theorem dX4_takeHunting_19 : decode cX4_takeHunting 19 = .ok (.aload_n 0, 1) := by decide +kernel
theorem dX4_takeHunting_20 : decode cX4_takeHunting 20 = .ok (.aload_n 1, 1) := by decide +kernel
theorem dX4_takeHunting_21 : decode cX4_takeHunting 21 = .ok (.invokevirtual 100, 3) := by decide +kernel
theorem dX4_takeHunting_24 : decode cX4_takeHunting 24 = .ok (.goto 34, 3) := by decide +kernel
theorem dX4_takeHunting_27 : decode cX4_takeHunting 27 = .ok (.aload_n 0, 1) := by decide +kernel
theorem dX4_takeHunting_28 : decode cX4_takeHunting 28 = .ok (.getfield 12, 3) := by decide +kernel
theorem dX4_takeHunting_31 : decode cX4_takeHunting 31 = .ok (.getfield 97, 3) := by decide +kernel
theorem dX4_takeHunting_34 : decode cX4_takeHunting 34 = .ok (.iconst 1, 1) := by decide +kernel
theorem dX4_takeHunting_35 : decode cX4_takeHunting 35 = .ok (.if_icmp .ne 23, 3) := by decide +kernel
theorem dX4_takeHunting_38 : decode cX4_takeHunting 38 = .ok (.aload_n 0, 1) := by decide +kernel
theorem dX4_takeHunting_39 : decode cX4_takeHunting 39 = .ok (.getfield 12, 3) := by decide +kernel
theorem dX4_takeHunting_42 : decode cX4_takeHunting 42 = .ok (.aload_n 1, 1) := by decide +kernel
theorem dX4_takeHunting_43 : decode cX4_takeHunting 43 = .ok (.invokevirtual 103, 3) := by decide +kernel
theorem dX4_takeHunting_46 : decode cX4_takeHunting 46 = .ok (.aload_n 1, 1) := by decide +kernel
theorem dX4_takeHunting_47 : decode cX4_takeHunting 47 = .ok (.getfield 107, 3) := by decide +kernel
theorem dX4_takeHunting_50 : decode cX4_takeHunting 50 = .ok (.if_icmp .lt 8, 3) := by decide +kernel
theorem dX4_takeHunting_53 : decode cX4_takeHunting 53 = .ok (.aload_n 0, 1) := by decide +kernel
theorem dX4_takeHunting_54 : decode cX4_takeHunting 54 = .ok (.aload_n 1, 1) := by decide +kernel
theorem dX4_takeHunting_55 : decode cX4_takeHunting 55 = .ok (.invokevirtual 110, 3) := by decide +kernel
theorem dX4_takeHunting_58 : decode cX4_takeHunting 58 = .ok (.return_, 1) := by decide +kernel
set_option maxRecDepth 20000 in
theorem ggX4_followLone_X1_lone : GoodIn wsX4_followLone wsX1_lone := gi_e e_wsX4_followLone e_wsX1_lone (by decide +kernel)
set_option maxRecDepth 20000 in
theorem gX4_followLone_X1_lone : GoodIn wsX4_followLone (wsV RX4 119 RX1 yX1_lone wsX1_lone) := goodIn_app (gi_e e_wsX4_followLone (ce fw_3236 (ce fw_3216 (ce fw_3217 (ce fw_1032 (cn))))) (by decide +kernel)) ggX4_followLone_X1_lone
set_option maxRecDepth 20000 in
theorem ggX4_followLone_X4_lock : GoodIn wsX4_followLone wsX4_lock := gi_e e_wsX4_followLone e_wsX4_lock (by decide +kernel)
set_option maxRecDepth 20000 in
theorem gX4_followLone_X4_lock : GoodIn wsX4_followLone (wsV RX4 128 RX4 yX4_lock wsX4_lock) := goodIn_app (gi_e e_wsX4_followLone (ce fw_3237 (ce fw_3239 (ce fw_7 (ce fw_1031 (cn))))) (by decide +kernel)) ggX4_followLone_X4_lock
theorem dX4_followLone_0 : decode cX4_followLone 0 = .ok (.aload_n 1, 1) := by decide +kernel
theorem dX4_followLone_1 : decode cX4_followLone 1 = .ok (.getfield 113, 3) := by decide +kernel
theorem dX4_followLone_4 : decode cX4_followLone 4 = .ok (.iconst 1, 1) := by decide +kernel
theorem dX4_followLone_5 : decode cX4_followLone 5 = .ok (.if_icmp .lt 11, 3) := by decide +kernel
theorem dX4_followLone_8 : decode cX4_followLone 8 = .ok (.aload_n 1, 1) := by decide +kernel
theorem dX4_followLone_9 : decode cX4_followLone 9 = .ok (.getfield 116, 3) := by decide +kernel
theorem dX4_followLone_12 : decode cX4_followLone 12 = .ok (.iconst 1, 1) := by decide +kernel
theorem dX4_followLone_13 : decode cX4_followLone 13 = .ok (.if_icmp .ge 4, 3) := by decide +kernel
theorem dX4_followLone_16 : decode cX4_followLone 16 = .ok (.return_, 1) := by decide +kernel
theorem dX4_followLone_17 : decode cX4_followLone 17 = .ok (.aload_n 0, 1) := by decide +kernel
theorem dX4_followLone_18 : decode cX4_followLone 18 = .ok (.getfield 12, 3) := by decide +kernel
theorem dX4_followLone_21 : decode cX4_followLone 21 = .ok (.aload_n 1, 1) := by decide +kernel
theorem dX4_followLone_22 : decode cX4_followLone 22 = .ok (.invokevirtual 119, 3) := by decide +kernel
theorem dX4_followLone_25 : decode cX4_followLone 25 = .ok (.aload_n 0, 1) := by decide +kernel
theorem dX4_followLone_26 : decode cX4_followLone 26 = .ok (.getfield 12, 3) := by decide +kernel
theorem dX4_followLone_29 : decode cX4_followLone 29 = .ok (.getfield 122, 3) := by decide +kernel
theorem dX4_followLone_32 : decode cX4_followLone 32 = .ok (.iadd, 1) := by decide +kernel
theorem dX4_followLone_33 : decode cX4_followLone 33 = .ok (.aload_n 1, 1) := by decide +kernel
theorem dX4_followLone_34 : decode cX4_followLone 34 = .ok (.getfield 113, 3) := by decide +kernel
theorem dX4_followLone_37 : decode cX4_followLone 37 = .ok (.irem, 1) := by decide +kernel
theorem dX4_followLone_38 : decode cX4_followLone 38 = .ok (.istore_n 2, 1) := by decide +kernel
theorem dX4_followLone_39 : decode cX4_followLone 39 = .ok (.aload_n 0, 1) := by decide +kernel
theorem dX4_followLone_40 : decode cX4_followLone 40 = .ok (.iload_n 2, 1) := by decide +kernel
theorem dX4_followLone_41 : decode cX4_followLone 41 = .ok (.aload_n 1, 1) := by decide +kernel
theorem dX4_followLone_42 : decode cX4_followLone 42 = .ok (.getfield 116, 3) := by decide +kernel
theorem dX4_followLone_45 : decode cX4_followLone 45 = .ok (.idiv, 1) := by decide +kernel
theorem dX4_followLone_46 : decode cX4_followLone 46 = .ok (.putfield 59, 3) := by decide +kernel
theorem dX4_followLone_49 : decode cX4_followLone 49 = .ok (.aload_n 0, 1) := by decide +kernel
theorem dX4_followLone_50 : decode cX4_followLone 50 = .ok (.iload_n 2, 1) := by decide +kernel
theorem dX4_followLone_51 : decode cX4_followLone 51 = .ok (.aload_n 0, 1) := by decide +kernel
theorem dX4_followLone_52 : decode cX4_followLone 52 = .ok (.getfield 59, 3) := by decide +kernel
theorem dX4_followLone_55 : decode cX4_followLone 55 = .ok (.aload_n 1, 1) := by decide +kernel
theorem dX4_followLone_56 : decode cX4_followLone 56 = .ok (.getfield 116, 3) := by decide +kernel
theorem dX4_followLone_59 : decode cX4_followLone 59 = .ok (.imul, 1) := by decide +kernel
theorem dX4_followLone_60 : decode cX4_followLone 60 = .ok (.isub, 1) := by decide +kernel
theorem dX4_followLone_61 : decode cX4_followLone 61 = .ok (.putfield 62, 3) := by decide +kernel
theorem dX4_followLone_64 : decode cX4_followLone 64 = .ok (.aload_n 1, 1) := by decide +kernel
theorem dX4_followLone_65 : decode cX4_followLone 65 = .ok (.getfield 125, 3) := by decide +kernel
theorem dX4_followLone_68 : decode cX4_followLone 68 = .ok (.ifCond .le 16, 3) := by decide +kernel
theorem dX4_followLone_71 : decode cX4_followLone 71 = .ok (.aload_n 0, 1) := by decide +kernel
theorem dX4_followLone_72 : decode cX4_followLone 72 = .ok (.iconst 1, 1) := by decide +kernel
theorem dX4_followLone_73 : decode cX4_followLone 73 = .ok (.putfield 39, 3) := by decide +kernel
theorem dX4_followLone_76 : decode cX4_followLone 76 = .ok (.aload_n 0, 1) := by decide +kernel
theorem dX4_followLone_77 : decode cX4_followLone 77 = .ok (.iconst 0, 1) := by decide +kernel
theorem dX4_followLone_78 : decode cX4_followLone 78 = .ok (.putfield 65, 3) := by decide +kernel
theorem dX4_followLone_81 : decode cX4_followLone 81 = .ok (.goto 7, 3) := by decide +kernel
theorem dX4_followLone_84 : decode cX4_followLone 84 = .ok (.aload_n 0, 1) := by decide +kernel
theorem dX4_followLone_85 : decode cX4_followLone 85 = .ok (.invokevirtual 128, 3) := by decide +kernel
theorem dX4_followLone_88 : decode cX4_followLone 88 = .ok (.return_, 1) := by decide +kernel
set_option maxRecDepth 20000 in
theorem ggX4_takeVerifying_X2_at : GoodIn wsX4_takeVerifying wsX2_at := gi_e e_wsX4_takeVerifying e_wsX2_at (by decide +kernel)
set_option maxRecDepth 20000 in
theorem gX4_takeVerifying_X2_at : GoodIn wsX4_takeVerifying (wsV RX4 74 RX2 yX2_at wsX2_at) := goodIn_app (gi_e e_wsX4_takeVerifying (ce fw_3188 (ce fw_3173 (ce fw_3174 (ce fw_1035 (cn))))) (by decide +kernel)) ggX4_takeVerifying_X2_at
set_option maxRecDepth 20000 in
theorem ggX4_takeVerifying_X5_isOther : GoodIn wsX4_takeVerifying wsX5_isOther := gi_e e_wsX4_takeVerifying e_wsX5_isOther (by decide +kernel)
set_option maxRecDepth 20000 in
theorem gX4_takeVerifying_X5_isOther : GoodIn wsX4_takeVerifying (wsV RX4 131 RX5 yX5_isOther wsX5_isOther) := goodIn_app (gi_e e_wsX4_takeVerifying (ce fw_3246 (ce fw_3247 (ce fw_3248 (ce fw_1027 (cn))))) (by decide +kernel)) ggX4_takeVerifying_X5_isOther
set_option maxRecDepth 20000 in
theorem ggX4_takeVerifying_X4_huntAnew : GoodIn wsX4_takeVerifying wsX4_huntAnew := gi_e e_wsX4_takeVerifying e_wsX4_huntAnew (by decide +kernel)
set_option maxRecDepth 20000 in
theorem gX4_takeVerifying_X4_huntAnew : GoodIn wsX4_takeVerifying (wsV RX4 100 RX4 yX4_huntAnew wsX4_huntAnew) := goodIn_app (gi_e e_wsX4_takeVerifying (ce fw_3207 (ce fw_3209 (ce fw_5 (ce fw_1031 (cn))))) (by decide +kernel)) ggX4_takeVerifying_X4_huntAnew
set_option maxRecDepth 20000 in
theorem ggX4_takeVerifying_X4_advance : GoodIn wsX4_takeVerifying wsX4_advance := gi_e e_wsX4_takeVerifying e_wsX4_advance (by decide +kernel)
set_option maxRecDepth 20000 in
theorem gX4_takeVerifying_X4_advance : GoodIn wsX4_takeVerifying (wsV RX4 135 RX4 yX4_advance wsX4_advance) := goodIn_app (gi_e e_wsX4_takeVerifying (ce fw_3250 (ce fw_3252 (ce fw_9 (ce fw_1031 (cn))))) (by decide +kernel)) ggX4_takeVerifying_X4_advance
set_option maxRecDepth 20000 in
theorem ggX4_takeVerifying_X4_isJudged : GoodIn wsX4_takeVerifying wsX4_isJudged := gi_e e_wsX4_takeVerifying e_wsX4_isJudged (by decide +kernel)
set_option maxRecDepth 20000 in
theorem gX4_takeVerifying_X4_isJudged : GoodIn wsX4_takeVerifying (wsV RX4 138 RX4 yX4_isJudged wsX4_isJudged) := goodIn_app (gi_e e_wsX4_takeVerifying (ce fw_3255 (ce fw_3257 (ce fw_10 (ce fw_1031 (cn))))) (by decide +kernel)) ggX4_takeVerifying_X4_isJudged
set_option maxRecDepth 20000 in
theorem ggX4_takeVerifying_X5_checksHold : GoodIn wsX4_takeVerifying wsX5_checksHold := gi_e e_wsX4_takeVerifying e_wsX5_checksHold (by decide +kernel)
set_option maxRecDepth 20000 in
theorem gX4_takeVerifying_X5_checksHold : GoodIn wsX4_takeVerifying (wsV RX4 142 RX5 yX5_checksHold wsX5_checksHold) := goodIn_app (gi_e e_wsX4_takeVerifying (ce fw_3259 (ce fw_3260 (ce fw_3261 (ce fw_1027 (cn))))) (by decide +kernel)) ggX4_takeVerifying_X5_checksHold
set_option maxRecDepth 20000 in
theorem ggX4_takeVerifying_X4_lock : GoodIn wsX4_takeVerifying wsX4_lock := gi_e e_wsX4_takeVerifying e_wsX4_lock (by decide +kernel)
set_option maxRecDepth 20000 in
theorem gX4_takeVerifying_X4_lock : GoodIn wsX4_takeVerifying (wsV RX4 128 RX4 yX4_lock wsX4_lock) := goodIn_app (gi_e e_wsX4_takeVerifying (ce fw_3237 (ce fw_3239 (ce fw_7 (ce fw_1031 (cn))))) (by decide +kernel)) ggX4_takeVerifying_X4_lock
theorem dX4_takeVerifying_0 : decode cX4_takeVerifying 0 = .ok (.aload_n 0, 1) := by decide +kernel
theorem dX4_takeVerifying_1 : decode cX4_takeVerifying 1 = .ok (.getfield 62, 3) := by decide +kernel
theorem dX4_takeVerifying_4 : decode cX4_takeVerifying 4 = .ok (.ifCond .ne 25, 3) := by decide +kernel
