theorem dX8_append_37 : decode cX8_append 37 = .ok (.istore 4, 2) := by decide +kernel
theorem dX8_append_39 : decode cX8_append 39 = .ok (.iload 4, 2) := by decide +kernel
theorem dX8_append_41 : decode cX8_append 41 = .ok (.iload_n 3, 1) := by decide +kernel
theorem dX8_append_42 : decode cX8_append 42 = .ok (.if_icmp .ge 28, 3) := by decide +kernel
theorem dX8_append_45 : decode cX8_append 45 = .ok (.aload_n 0, 1) := by decide +kernel
theorem dX8_append_46 : decode cX8_append 46 = .ok (.getfield 9, 3) := by decide +kernel
theorem dX8_append_49 : decode cX8_append 49 = .ok (.aload_n 0, 1) := by decide +kernel
theorem dX8_append_50 : decode cX8_append 50 = .ok (.getfield 23, 3) := by decide +kernel
theorem dX8_append_53 : decode cX8_append 53 = .ok (.iload 4, 2) := by decide +kernel
theorem dX8_append_55 : decode cX8_append 55 = .ok (.iadd, 1) := by decide +kernel
theorem dX8_append_56 : decode cX8_append 56 = .ok (.lload_n 1, 1) := by decide +kernel
theorem dX8_append_57 : decode cX8_append 57 = .ok (.iload 4, 2) := by decide +kernel
theorem dX8_append_59 : decode cX8_append 59 = .ok (.invokestatic 19, 3) := by decide +kernel
theorem dX8_append_62 : decode cX8_append 62 = .ok (.i2b, 1) := by decide +kernel
theorem dX8_append_63 : decode cX8_append 63 = .ok (.bastore, 1) := by decide +kernel
theorem dX8_append_64 : decode cX8_append 64 = .ok (.iinc 4 1, 3) := by decide +kernel
theorem dX8_append_67 : decode cX8_append 67 = .ok (.goto (-28), 3) := by decide +kernel
theorem dX8_append_70 : decode cX8_append 70 = .ok (.aload_n 0, 1) := by decide +kernel
theorem dX8_append_71 : decode cX8_append 71 = .ok (.dup, 1) := by decide +kernel
theorem dX8_append_72 : decode cX8_append 72 = .ok (.getfield 23, 3) := by decide +kernel
theorem dX8_append_75 : decode cX8_append 75 = .ok (.iload_n 3, 1) := by decide +kernel
theorem dX8_append_76 : decode cX8_append 76 = .ok (.iadd, 1) := by decide +kernel
theorem dX8_append_77 : decode cX8_append 77 = .ok (.putfield 23, 3) := by decide +kernel
theorem dX8_append_80 : decode cX8_append 80 = .ok (.aload_n 0, 1) := by decide +kernel
theorem dX8_append_81 : decode cX8_append 81 = .ok (.getfield 23, 3) := by decide +kernel
theorem dX8_append_84 : decode cX8_append 84 = .ok (.ireturn, 1) := by decide +kernel
theorem dX8_byteOf_0 : decode cX8_byteOf 0 = .ok (.lload_n 0, 1) := by decide +kernel
theorem dX8_byteOf_1 : decode cX8_byteOf 1 = .ok (.bipush 56, 2) := by decide +kernel
theorem dX8_byteOf_3 : decode cX8_byteOf 3 = .ok (.bipush 8, 2) := by decide +kernel
theorem dX8_byteOf_5 : decode cX8_byteOf 5 = .ok (.iload_n 2, 1) := by decide +kernel
theorem dX8_byteOf_6 : decode cX8_byteOf 6 = .ok (.imul, 1) := by decide +kernel
theorem dX8_byteOf_7 : decode cX8_byteOf 7 = .ok (.isub, 1) := by decide +kernel
theorem dX8_byteOf_8 : decode cX8_byteOf 8 = .ok (.lushr, 1) := by decide +kernel
theorem dX8_byteOf_9 : decode cX8_byteOf 9 = .ok (.l2i, 1) := by decide +kernel
theorem dX8_byteOf_10 : decode cX8_byteOf 10 = .ok (.sipush 255, 3) := by decide +kernel
theorem dX8_byteOf_13 : decode cX8_byteOf 13 = .ok (.iand, 1) := by decide +kernel
theorem dX8_byteOf_14 : decode cX8_byteOf 14 = .ok (.ireturn, 1) := by decide +kernel
theorem dX8_at_0 : decode cX8_at 0 = .ok (.iload_n 1, 1) := by decide +kernel
theorem dX8_at_1 : decode cX8_at 1 = .ok (.ifCond .lt 31, 3) := by decide +kernel
theorem dX8_at_4 : decode cX8_at 4 = .ok (.iload_n 1, 1) := by decide +kernel
theorem dX8_at_5 : decode cX8_at 5 = .ok (.aload_n 0, 1) := by decide +kernel
theorem dX8_at_6 : decode cX8_at 6 = .ok (.getfield 23, 3) := by decide +kernel
theorem dX8_at_9 : decode cX8_at 9 = .ok (.if_icmp .ge 23, 3) := by decide +kernel
theorem dX8_at_12 : decode cX8_at 12 = .ok (.iload_n 1, 1) := by decide +kernel
theorem dX8_at_13 : decode cX8_at 13 = .ok (.sipush 300, 3) := by decide +kernel
theorem dX8_at_16 : decode cX8_at 16 = .ok (.if_icmp .ge 16, 3) := by decide +kernel
theorem dX8_at_19 : decode cX8_at 19 = .ok (.aload_n 0, 1) := by decide +kernel
theorem dX8_at_20 : decode cX8_at 20 = .ok (.getfield 9, 3) := by decide +kernel
theorem dX8_at_23 : decode cX8_at 23 = .ok (.iload_n 1, 1) := by decide +kernel
theorem dX8_at_24 : decode cX8_at 24 = .ok (.baload, 1) := by decide +kernel
theorem dX8_at_25 : decode cX8_at 25 = .ok (.sipush 255, 3) := by decide +kernel
theorem dX8_at_28 : decode cX8_at 28 = .ok (.iand, 1) := by decide +kernel
theorem dX8_at_29 : decode cX8_at 29 = .ok (.goto 4, 3) := by decide +kernel
theorem dX8_at_32 : decode cX8_at 32 = .ok (.iconst (-1), 1) := by decide +kernel
theorem dX8_at_33 : decode cX8_at 33 = .ok (.ireturn, 1) := by decide +kernel
theorem dX8_copyFrom_0 : decode cX8_copyFrom 0 = .ok (.aload_n 0, 1) := by decide +kernel
theorem dX8_copyFrom_1 : decode cX8_copyFrom 1 = .ok (.iconst 0, 1) := by decide +kernel
theorem dX8_copyFrom_2 : decode cX8_copyFrom 2 = .ok (.aload_n 1, 1) := by decide +kernel
theorem dX8_copyFrom_3 : decode cX8_copyFrom 3 = .ok (.getfield 23, 3) := by decide +kernel
theorem dX8_copyFrom_6 : decode cX8_copyFrom 6 = .ok (.sipush 300, 3) := by decide +kernel
theorem dX8_copyFrom_9 : decode cX8_copyFrom 9 = .ok (.invokestatic 26, 3) := by decide +kernel
theorem dX8_copyFrom_12 : decode cX8_copyFrom 12 = .ok (.invokestatic 32, 3) := by decide +kernel
theorem dX8_copyFrom_15 : decode cX8_copyFrom 15 = .ok (.putfield 23, 3) := by decide +kernel
theorem dX8_copyFrom_18 : decode cX8_copyFrom 18 = .ok (.aload_n 1, 1) := by decide +kernel
theorem dX8_copyFrom_19 : decode cX8_copyFrom 19 = .ok (.getfield 9, 3) := by decide +kernel
theorem dX8_copyFrom_22 : decode cX8_copyFrom 22 = .ok (.iconst 0, 1) := by decide +kernel
theorem dX8_copyFrom_23 : decode cX8_copyFrom 23 = .ok (.aload_n 0, 1) := by decide +kernel
theorem dX8_copyFrom_24 : decode cX8_copyFrom 24 = .ok (.getfield 9, 3) := by decide +kernel
theorem dX8_copyFrom_27 : decode cX8_copyFrom 27 = .ok (.iconst 0, 1) := by decide +kernel
theorem dX8_copyFrom_28 : decode cX8_copyFrom 28 = .ok (.aload_n 0, 1) := by decide +kernel
theorem dX8_copyFrom_29 : decode cX8_copyFrom 29 = .ok (.getfield 23, 3) := by decide +kernel
theorem dX8_copyFrom_32 : decode cX8_copyFrom 32 = .ok (.invokestatic 35, 3) := by decide +kernel
theorem dX8_copyFrom_35 : decode cX8_copyFrom 35 = .ok (.aload_n 0, 1) := by decide +kernel
theorem dX8_copyFrom_36 : decode cX8_copyFrom 36 = .ok (.aload_n 1, 1) := by decide +kernel
theorem dX8_copyFrom_37 : decode cX8_copyFrom 37 = .ok (.getfield 41, 3) := by decide +kernel
theorem dX8_copyFrom_40 : decode cX8_copyFrom 40 = .ok (.putfield 41, 3) := by decide +kernel
theorem dX8_copyFrom_43 : decode cX8_copyFrom 43 = .ok (.aload_n 0, 1) := by decide +kernel
theorem dX8_copyFrom_44 : decode cX8_copyFrom 44 = .ok (.aload_n 1, 1) := by decide +kernel
theorem dX8_copyFrom_45 : decode cX8_copyFrom 45 = .ok (.getfield 15, 3) := by decide +kernel
theorem dX8_copyFrom_48 : decode cX8_copyFrom 48 = .ok (.putfield 15, 3) := by decide +kernel
theorem dX8_copyFrom_51 : decode cX8_copyFrom 51 = .ok (.return_, 1) := by decide +kernel
set_option maxRecDepth 20000 in
theorem ggX9_init_X6_init : GoodIn wsX9_init wsX6_init := gi_e e_wsX9_init e_wsX6_init (by decide +kernel)
set_option maxRecDepth 20000 in
theorem gX9_init_X6_init_n9 : GoodIn wsX9_init (wsX6_init) := ggX9_init_X6_init
set_option maxRecDepth 20000 in
theorem ggX9_init_X4_init : GoodIn wsX9_init wsX4_init := gi_e e_wsX9_init e_wsX4_init (by decide +kernel)
set_option maxRecDepth 20000 in
theorem gX9_init_X4_init : GoodIn wsX9_init (wsX4_init) := ggX9_init_X4_init
set_option maxRecDepth 20000 in
theorem ggX9_init_X2_init : GoodIn wsX9_init wsX2_init := gi_e e_wsX9_init e_wsX2_init (by decide +kernel)
set_option maxRecDepth 20000 in
theorem gX9_init_X2_init : GoodIn wsX9_init (wsX2_init) := ggX9_init_X2_init
theorem dX9_init_0 : decode cX9_init 0 = .ok (.aload_n 0, 1) := by decide +kernel
theorem dX9_init_1 : decode cX9_init 1 = .ok (.invokespecial 1, 3) := by decide +kernel
theorem dX9_init_4 : decode cX9_init 4 = .ok (.aload_n 0, 1) := by decide +kernel
theorem dX9_init_5 : decode cX9_init 5 = .ok (.new 7, 3) := by decide +kernel
theorem dX9_init_8 : decode cX9_init 8 = .ok (.dup, 1) := by decide +kernel
theorem dX9_init_9 : decode cX9_init 9 = .ok (.invokespecial 9, 3) := by decide +kernel
theorem dX9_init_12 : decode cX9_init 12 = .ok (.putfield 10, 3) := by decide +kernel
theorem dX9_init_15 : decode cX9_init 15 = .ok (.aload_n 0, 1) := by decide +kernel
theorem dX9_init_16 : decode cX9_init 16 = .ok (.new 16, 3) := by decide +kernel
theorem dX9_init_19 : decode cX9_init 19 = .ok (.dup, 1) := by decide +kernel
theorem dX9_init_20 : decode cX9_init 20 = .ok (.invokespecial 18, 3) := by decide +kernel
theorem dX9_init_23 : decode cX9_init 23 = .ok (.putfield 19, 3) := by decide +kernel
theorem dX9_init_26 : decode cX9_init 26 = .ok (.aload_n 0, 1) := by decide +kernel
theorem dX9_init_27 : decode cX9_init 27 = .ok (.new 23, 3) := by decide +kernel
theorem dX9_init_30 : decode cX9_init 30 = .ok (.dup, 1) := by decide +kernel
theorem dX9_init_31 : decode cX9_init 31 = .ok (.iload_n 1, 1) := by decide +kernel
theorem dX9_init_32 : decode cX9_init 32 = .ok (.invokespecial 25, 3) := by decide +kernel
theorem dX9_init_35 : decode cX9_init 35 = .ok (.putfield 28, 3) := by decide +kernel
theorem dX9_init_38 : decode cX9_init 38 = .ok (.return_, 1) := by decide +kernel
set_option maxRecDepth 20000 in
theorem ggX9_restart_X4_begin : GoodIn wsX9_restart wsX4_begin := gi_e e_wsX9_restart e_wsX4_begin (by decide +kernel)
set_option maxRecDepth 20000 in
theorem gX9_restart_X4_begin : GoodIn wsX9_restart (wsV RX9 42 RX4 yX4_begin wsX4_begin) := goodIn_app (gi_e e_wsX9_restart (ce fw_4286 (ce fw_2130 (ce fw_2131 (ce fw_1031 (cn))))) (by decide +kernel)) ggX9_restart_X4_begin
theorem dX9_restart_0 : decode cX9_restart 0 = .ok (.aload_n 0, 1) := by decide +kernel
theorem dX9_restart_1 : decode cX9_restart 1 = .ok (.getfield 28, 3) := by decide +kernel
theorem dX9_restart_4 : decode cX9_restart 4 = .ok (.iconst 0, 1) := by decide +kernel
theorem dX9_restart_5 : decode cX9_restart 5 = .ok (.putfield 32, 3) := by decide +kernel
theorem dX9_restart_8 : decode cX9_restart 8 = .ok (.aload_n 0, 1) := by decide +kernel
theorem dX9_restart_9 : decode cX9_restart 9 = .ok (.iconst 0, 1) := by decide +kernel
theorem dX9_restart_10 : decode cX9_restart 10 = .ok (.putfield 36, 3) := by decide +kernel
theorem dX9_restart_13 : decode cX9_restart 13 = .ok (.aload_n 0, 1) := by decide +kernel
theorem dX9_restart_14 : decode cX9_restart 14 = .ok (.getfield 10, 3) := by decide +kernel
theorem dX9_restart_17 : decode cX9_restart 17 = .ok (.iconst 0, 1) := by decide +kernel
theorem dX9_restart_18 : decode cX9_restart 18 = .ok (.putfield 39, 3) := by decide +kernel
theorem dX9_restart_21 : decode cX9_restart 21 = .ok (.aload_n 0, 1) := by decide +kernel
theorem dX9_restart_22 : decode cX9_restart 22 = .ok (.getfield 19, 3) := by decide +kernel
theorem dX9_restart_25 : decode cX9_restart 25 = .ok (.aload_n 1, 1) := by decide +kernel
theorem dX9_restart_26 : decode cX9_restart 26 = .ok (.invokevirtual 42, 3) := by decide +kernel
theorem dX9_restart_29 : decode cX9_restart 29 = .ok (.return_, 1) := by decide +kernel
set_option maxRecDepth 20000 in
theorem ggX9_listen_X4_take : GoodIn wsX9_listen wsX4_take := gi_e e_wsX9_listen e_wsX4_take (by decide +kernel)
set_option maxRecDepth 20000 in
theorem gX9_listen_X4_take : GoodIn wsX9_listen (wsV RX9 46 RX4 yX4_take wsX4_take) := goodIn_app (gi_e e_wsX9_listen (ce fw_3184 (ce fw_3185 (ce fw_3186 (ce fw_1031 (cn))))) (by decide +kernel)) ggX9_listen_X4_take
theorem dX9_listen_0 : decode cX9_listen 0 = .ok (.aload_n 0, 1) := by decide +kernel
theorem dX9_listen_1 : decode cX9_listen 1 = .ok (.getfield 36, 3) := by decide +kernel
theorem dX9_listen_4 : decode cX9_listen 4 = .ok (.istore_n 3, 1) := by decide +kernel
theorem dX9_listen_5 : decode cX9_listen 5 = .ok (.iload_n 3, 1) := by decide +kernel
theorem dX9_listen_6 : decode cX9_listen 6 = .ok (.iload_n 2, 1) := by decide +kernel
theorem dX9_listen_7 : decode cX9_listen 7 = .ok (.if_icmp .ge 22, 3) := by decide +kernel
theorem dX9_listen_10 : decode cX9_listen 10 = .ok (.aload_n 0, 1) := by decide +kernel
theorem dX9_listen_11 : decode cX9_listen 11 = .ok (.getfield 19, 3) := by decide +kernel
theorem dX9_listen_14 : decode cX9_listen 14 = .ok (.aload_n 1, 1) := by decide +kernel
theorem dX9_listen_15 : decode cX9_listen 15 = .ok (.aload_n 0, 1) := by decide +kernel
theorem dX9_listen_16 : decode cX9_listen 16 = .ok (.getfield 28, 3) := by decide +kernel
theorem dX9_listen_19 : decode cX9_listen 19 = .ok (.iload_n 3, 1) := by decide +kernel
theorem dX9_listen_20 : decode cX9_listen 20 = .ok (.invokevirtual 46, 3) := by decide +kernel
theorem dX9_listen_23 : decode cX9_listen 23 = .ok (.iinc 3 1, 3) := by decide +kernel
theorem dX9_listen_26 : decode cX9_listen 26 = .ok (.goto (-21), 3) := by decide +kernel
theorem dX9_listen_29 : decode cX9_listen 29 = .ok (.aload_n 0, 1) := by decide +kernel
theorem dX9_listen_30 : decode cX9_listen 30 = .ok (.iload_n 2, 1) := by decide +kernel
theorem dX9_listen_31 : decode cX9_listen 31 = .ok (.putfield 36, 3) := by decide +kernel
theorem dX9_listen_34 : decode cX9_listen 34 = .ok (.return_, 1) := by decide +kernel
set_option maxRecDepth 20000 in
theorem ggX9_copyFrom_X2_copyFrom : GoodIn wsX9_copyFrom wsX2_copyFrom := gi_e e_wsX9_copyFrom e_wsX2_copyFrom (by decide +kernel)
set_option maxRecDepth 20000 in
theorem gX9_copyFrom_X2_copyFrom : GoodIn wsX9_copyFrom (wsV RX9 50 RX2 yX2_copyFrom wsX2_copyFrom) := goodIn_app (gi_e e_wsX9_copyFrom (ce fw_3101 (ce fw_3102 (ce fw_3103 (ce fw_1035 (cn))))) (by decide +kernel)) ggX9_copyFrom_X2_copyFrom
set_option maxRecDepth 20000 in
theorem ggX9_copyFrom_X6_copyFrom : GoodIn wsX9_copyFrom wsX6_copyFrom := gi_e e_wsX9_copyFrom e_wsX6_copyFrom (by decide +kernel)
set_option maxRecDepth 20000 in
theorem gX9_copyFrom_X6_copyFrom : GoodIn wsX9_copyFrom (wsV RX9 54 RX6 yX6_copyFrom wsX6_copyFrom) := goodIn_app (gi_e e_wsX9_copyFrom (ce fw_3111 (ce fw_3112 (ce fw_3113 (ce fw_1030 (cn))))) (by decide +kernel)) ggX9_copyFrom_X6_copyFrom
set_option maxRecDepth 20000 in
theorem ggX9_copyFrom_X4_copyFrom : GoodIn wsX9_copyFrom wsX4_copyFrom := gi_e e_wsX9_copyFrom e_wsX4_copyFrom (by decide +kernel)
set_option maxRecDepth 20000 in
theorem gX9_copyFrom_X4_copyFrom : GoodIn wsX9_copyFrom (wsV RX9 57 RX4 yX4_copyFrom wsX4_copyFrom) := goodIn_app (gi_e e_wsX9_copyFrom (ce fw_3116 (ce fw_3117 (ce fw_3118 (ce fw_1031 (cn))))) (by decide +kernel)) ggX9_copyFrom_X4_copyFrom
theorem dX9_copyFrom_0 : decode cX9_copyFrom 0 = .ok (.aload_n 0, 1) := by decide +kernel
theorem dX9_copyFrom_1 : decode cX9_copyFrom 1 = .ok (.getfield 28, 3) := by decide +kernel
theorem dX9_copyFrom_4 : decode cX9_copyFrom 4 = .ok (.aload_n 1, 1) := by decide +kernel
theorem dX9_copyFrom_5 : decode cX9_copyFrom 5 = .ok (.getfield 28, 3) := by decide +kernel
theorem dX9_copyFrom_8 : decode cX9_copyFrom 8 = .ok (.invokevirtual 50, 3) := by decide +kernel
theorem dX9_copyFrom_11 : decode cX9_copyFrom 11 = .ok (.aload_n 0, 1) := by decide +kernel
theorem dX9_copyFrom_12 : decode cX9_copyFrom 12 = .ok (.getfield 10, 3) := by decide +kernel
theorem dX9_copyFrom_15 : decode cX9_copyFrom 15 = .ok (.aload_n 1, 1) := by decide +kernel
theorem dX9_copyFrom_16 : decode cX9_copyFrom 16 = .ok (.getfield 10, 3) := by decide +kernel
theorem dX9_copyFrom_19 : decode cX9_copyFrom 19 = .ok (.invokevirtual 54, 3) := by decide +kernel
theorem dX9_copyFrom_22 : decode cX9_copyFrom 22 = .ok (.aload_n 0, 1) := by decide +kernel
theorem dX9_copyFrom_23 : decode cX9_copyFrom 23 = .ok (.getfield 19, 3) := by decide +kernel
theorem dX9_copyFrom_26 : decode cX9_copyFrom 26 = .ok (.aload_n 1, 1) := by decide +kernel
theorem dX9_copyFrom_27 : decode cX9_copyFrom 27 = .ok (.getfield 19, 3) := by decide +kernel
theorem dX9_copyFrom_30 : decode cX9_copyFrom 30 = .ok (.invokevirtual 57, 3) := by decide +kernel
theorem dX9_copyFrom_33 : decode cX9_copyFrom 33 = .ok (.aload_n 0, 1) := by decide +kernel
theorem dX9_copyFrom_34 : decode cX9_copyFrom 34 = .ok (.aload_n 1, 1) := by decide +kernel
theorem dX9_copyFrom_35 : decode cX9_copyFrom 35 = .ok (.getfield 36, 3) := by decide +kernel
theorem dX9_copyFrom_38 : decode cX9_copyFrom 38 = .ok (.putfield 36, 3) := by decide +kernel
theorem dX9_copyFrom_41 : decode cX9_copyFrom 41 = .ok (.return_, 1) := by decide +kernel
set_option maxRecDepth 20000 in
theorem ggX10_init_X5_init : GoodIn wsX10_init wsX5_init := gi_e e_wsX10_init e_wsX5_init (by decide +kernel)
set_option maxRecDepth 20000 in
theorem gX10_init_X5_init : GoodIn wsX10_init (wsX5_init) := ggX10_init_X5_init
set_option maxRecDepth 20000 in
theorem ggX10_init_X8_init : GoodIn wsX10_init wsX8_init := gi_e e_wsX10_init e_wsX8_init (by decide +kernel)
set_option maxRecDepth 20000 in
theorem gX10_init_X8_init_n20 : GoodIn wsX10_init (wsX8_init) := ggX10_init_X8_init
set_option maxRecDepth 20000 in
theorem ggX10_init_X9_init : GoodIn wsX10_init wsX9_init := gi_e e_wsX10_init e_wsX9_init (by decide +kernel)
set_option maxRecDepth 20000 in
theorem gX10_init_X9_init : GoodIn wsX10_init (wsX9_init) := ggX10_init_X9_init
theorem dX10_init_0 : decode cX10_init 0 = .ok (.aload_n 0, 1) := by decide +kernel
theorem dX10_init_1 : decode cX10_init 1 = .ok (.invokespecial 3, 3) := by decide +kernel
theorem dX10_init_4 : decode cX10_init 4 = .ok (.aload_n 0, 1) := by decide +kernel
theorem dX10_init_5 : decode cX10_init 5 = .ok (.new 9, 3) := by decide +kernel
theorem dX10_init_8 : decode cX10_init 8 = .ok (.dup, 1) := by decide +kernel
theorem dX10_init_9 : decode cX10_init 9 = .ok (.invokespecial 11, 3) := by decide +kernel
theorem dX10_init_12 : decode cX10_init 12 = .ok (.putfield 12, 3) := by decide +kernel
theorem dX10_init_15 : decode cX10_init 15 = .ok (.aload_n 0, 1) := by decide +kernel
theorem dX10_init_16 : decode cX10_init 16 = .ok (.new 18, 3) := by decide +kernel
theorem dX10_init_19 : decode cX10_init 19 = .ok (.dup, 1) := by decide +kernel
theorem dX10_init_20 : decode cX10_init 20 = .ok (.invokespecial 20, 3) := by decide +kernel
theorem dX10_init_23 : decode cX10_init 23 = .ok (.putfield 21, 3) := by decide +kernel
theorem dX10_init_26 : decode cX10_init 26 = .ok (.aload_n 0, 1) := by decide +kernel
theorem dX10_init_27 : decode cX10_init 27 = .ok (.new 25, 3) := by decide +kernel
theorem dX10_init_30 : decode cX10_init 30 = .ok (.dup, 1) := by decide +kernel
theorem dX10_init_31 : decode cX10_init 31 = .ok (.sipush 4000, 3) := by decide +kernel
theorem dX10_init_34 : decode cX10_init 34 = .ok (.invokespecial 27, 3) := by decide +kernel
theorem dX10_init_37 : decode cX10_init 37 = .ok (.putfield 30, 3) := by decide +kernel
theorem dX10_init_40 : decode cX10_init 40 = .ok (.return_, 1) := by decide +kernel
set_option maxRecDepth 20000 in
theorem ggX11_init_X10_init : GoodIn wsX11_init wsX10_init := gi_e e_wsX11_init e_wsX10_init (by decide +kernel)
set_option maxRecDepth 20000 in
theorem gX11_init_X10_init_n11 : GoodIn wsX11_init (wsX10_init) := ggX11_init_X10_init
set_option maxRecDepth 20000 in
theorem ggX11_init_X9_init : GoodIn wsX11_init wsX9_init := gi_e e_wsX11_init e_wsX9_init (by decide +kernel)
set_option maxRecDepth 20000 in
theorem gX11_init_X9_init : GoodIn wsX11_init (wsX9_init) := ggX11_init_X9_init
set_option maxRecDepth 20000 in
theorem ggX11_init_X3_init : GoodIn wsX11_init wsX3_init := gi_e e_wsX11_init e_wsX3_init (by decide +kernel)
set_option maxRecDepth 20000 in
theorem gX11_init_X3_init_n39 : GoodIn wsX11_init (wsX3_init) := ggX11_init_X3_init
theorem dX11_init_0 : decode cX11_init 0 = .ok (.aload_n 0, 1) := by decide +kernel
theorem dX11_init_1 : decode cX11_init 1 = .ok (.invokespecial 3, 3) := by decide +kernel
theorem dX11_init_4 : decode cX11_init 4 = .ok (.aload_n 0, 1) := by decide +kernel
theorem dX11_init_5 : decode cX11_init 5 = .ok (.new 9, 3) := by decide +kernel
theorem dX11_init_8 : decode cX11_init 8 = .ok (.dup, 1) := by decide +kernel
theorem dX11_init_9 : decode cX11_init 9 = .ok (.invokespecial 11, 3) := by decide +kernel
theorem dX11_init_12 : decode cX11_init 12 = .ok (.putfield 12, 3) := by decide +kernel
theorem dX11_init_15 : decode cX11_init 15 = .ok (.aload_n 0, 1) := by decide +kernel
theorem dX11_init_16 : decode cX11_init 16 = .ok (.iconst 3, 1) := by decide +kernel
theorem dX11_init_17 : decode cX11_init 17 = .ok (.anewarray 9, 3) := by decide +kernel
theorem dX11_init_20 : decode cX11_init 20 = .ok (.putfield 16, 3) := by decide +kernel
theorem dX11_init_23 : decode cX11_init 23 = .ok (.aload_n 0, 1) := by decide +kernel
theorem dX11_init_24 : decode cX11_init 24 = .ok (.iconst 3, 1) := by decide +kernel
theorem dX11_init_25 : decode cX11_init 25 = .ok (.newarray .boolean, 2) := by decide +kernel
theorem dX11_init_27 : decode cX11_init 27 = .ok (.putfield 20, 3) := by decide +kernel
theorem dX11_init_30 : decode cX11_init 30 = .ok (.iconst 0, 1) := by decide +kernel
theorem dX11_init_31 : decode cX11_init 31 = .ok (.istore_n 1, 1) := by decide +kernel
theorem dX11_init_32 : decode cX11_init 32 = .ok (.iload_n 1, 1) := by decide +kernel
theorem dX11_init_33 : decode cX11_init 33 = .ok (.iconst 3, 1) := by decide +kernel
theorem dX11_init_34 : decode cX11_init 34 = .ok (.if_icmp .ge 22, 3) := by decide +kernel
theorem dX11_init_37 : decode cX11_init 37 = .ok (.aload_n 0, 1) := by decide +kernel
theorem dX11_init_38 : decode cX11_init 38 = .ok (.getfield 16, 3) := by decide +kernel
theorem dX11_init_41 : decode cX11_init 41 = .ok (.iload_n 1, 1) := by decide +kernel
theorem dX11_init_42 : decode cX11_init 42 = .ok (.new 9, 3) := by decide +kernel
theorem dX11_init_45 : decode cX11_init 45 = .ok (.dup, 1) := by decide +kernel
theorem dX11_init_46 : decode cX11_init 46 = .ok (.invokespecial 11, 3) := by decide +kernel
theorem dX11_init_49 : decode cX11_init 49 = .ok (.aastore, 1) := by decide +kernel
theorem dX11_init_50 : decode cX11_init 50 = .ok (.iinc 1 1, 3) := by decide +kernel
theorem dX11_init_53 : decode cX11_init 53 = .ok (.goto (-21), 3) := by decide +kernel
theorem dX11_init_56 : decode cX11_init 56 = .ok (.aload_n 0, 1) := by decide +kernel
theorem dX11_init_57 : decode cX11_init 57 = .ok (.bipush 6, 2) := by decide +kernel
theorem dX11_init_59 : decode cX11_init 59 = .ok (.anewarray 24, 3) := by decide +kernel
theorem dX11_init_62 : decode cX11_init 62 = .ok (.putfield 26, 3) := by decide +kernel
theorem dX11_init_65 : decode cX11_init 65 = .ok (.iconst 0, 1) := by decide +kernel
theorem dX11_init_66 : decode cX11_init 66 = .ok (.istore_n 1, 1) := by decide +kernel
theorem dX11_init_67 : decode cX11_init 67 = .ok (.iload_n 1, 1) := by decide +kernel
theorem dX11_init_68 : decode cX11_init 68 = .ok (.bipush 6, 2) := by decide +kernel
theorem dX11_init_70 : decode cX11_init 70 = .ok (.if_icmp .ge 25, 3) := by decide +kernel
theorem dX11_init_73 : decode cX11_init 73 = .ok (.aload_n 0, 1) := by decide +kernel
theorem dX11_init_74 : decode cX11_init 74 = .ok (.getfield 26, 3) := by decide +kernel
theorem dX11_init_77 : decode cX11_init 77 = .ok (.iload_n 1, 1) := by decide +kernel
theorem dX11_init_78 : decode cX11_init 78 = .ok (.new 24, 3) := by decide +kernel
theorem dX11_init_81 : decode cX11_init 81 = .ok (.dup, 1) := by decide +kernel
theorem dX11_init_82 : decode cX11_init 82 = .ok (.sipush 4000, 3) := by decide +kernel
theorem dX11_init_85 : decode cX11_init 85 = .ok (.invokespecial 30, 3) := by decide +kernel
theorem dX11_init_88 : decode cX11_init 88 = .ok (.aastore, 1) := by decide +kernel
theorem dX11_init_89 : decode cX11_init 89 = .ok (.iinc 1 1, 3) := by decide +kernel
theorem dX11_init_92 : decode cX11_init 92 = .ok (.goto (-25), 3) := by decide +kernel
theorem dX11_init_95 : decode cX11_init 95 = .ok (.aload_n 0, 1) := by decide +kernel
theorem dX11_init_96 : decode cX11_init 96 = .ok (.new 24, 3) := by decide +kernel
theorem dX11_init_99 : decode cX11_init 99 = .ok (.dup, 1) := by decide +kernel
theorem dX11_init_100 : decode cX11_init 100 = .ok (.sipush 6304, 3) := by decide +kernel
theorem dX11_init_103 : decode cX11_init 103 = .ok (.invokespecial 30, 3) := by decide +kernel
theorem dX11_init_106 : decode cX11_init 106 = .ok (.putfield 33, 3) := by decide +kernel
theorem dX11_init_109 : decode cX11_init 109 = .ok (.aload_n 0, 1) := by decide +kernel
theorem dX11_init_110 : decode cX11_init 110 = .ok (.new 37, 3) := by decide +kernel
theorem dX11_init_113 : decode cX11_init 113 = .ok (.dup, 1) := by decide +kernel
theorem dX11_init_114 : decode cX11_init 114 = .ok (.invokespecial 39, 3) := by decide +kernel
theorem dX11_init_117 : decode cX11_init 117 = .ok (.putfield 40, 3) := by decide +kernel
theorem dX11_init_120 : decode cX11_init 120 = .ok (.return_, 1) := by decide +kernel
set_option maxRecDepth 20000 in
theorem ggX11_key_X8_append : GoodIn wsX11_key wsX8_append := gi_e e_wsX11_key e_wsX8_append (by decide +kernel)
set_option maxRecDepth 20000 in
theorem gX11_key_X8_append : GoodIn wsX11_key (wsV RX11 48 RX8 yX8_append wsX8_append) := goodIn_app (gi_e e_wsX11_key (ce fw_4134 (ce fw_4135 (ce fw_4136 (ce fw_1028 (cn))))) (by decide +kernel)) ggX11_key_X8_append
theorem dX11_key_0 : decode cX11_key 0 = .ok (.aload_n 0, 1) := by decide +kernel
theorem dX11_key_1 : decode cX11_key 1 = .ok (.getfield 12, 3) := by decide +kernel
theorem dX11_key_4 : decode cX11_key 4 = .ok (.getfield 44, 3) := by decide +kernel
theorem dX11_key_7 : decode cX11_key 7 = .ok (.lload_n 1, 1) := by decide +kernel
theorem dX11_key_8 : decode cX11_key 8 = .ok (.invokevirtual 48, 3) := by decide +kernel
theorem dX11_key_11 : decode cX11_key 11 = .ok (.ireturn, 1) := by decide +kernel
set_option maxRecDepth 20000 in
theorem ggX11_scheme_X3_readWhole : GoodIn wsX11_scheme wsX3_readWhole := gi_e e_wsX11_scheme e_wsX3_readWhole (by decide +kernel)
set_option maxRecDepth 20000 in
theorem gX11_scheme_X3_readWhole : GoodIn wsX11_scheme (wsV RX11 54 RX3 yX3_readWhole wsX3_readWhole) := goodIn_app (gi_e e_wsX11_scheme (ce fw_4159 (ce fw_4160 (ce fw_4161 (ce fw_1037 (cn))))) (by decide +kernel)) ggX11_scheme_X3_readWhole
set_option maxRecDepth 20000 in
theorem ggX11_scheme_X5_copyFrom : GoodIn wsX11_scheme wsX5_copyFrom := gi_e e_wsX11_scheme e_wsX5_copyFrom (by decide +kernel)
set_option maxRecDepth 20000 in
theorem gX11_scheme_X5_copyFrom : GoodIn wsX11_scheme (wsV RX11 77 RX5 yX5_copyFrom wsX5_copyFrom) := goodIn_app (gi_e e_wsX11_scheme (ce fw_4277 (ce fw_4278 (ce fw_4279 (ce fw_1027 (cn))))) (by decide +kernel)) ggX11_scheme_X5_copyFrom
set_option maxRecDepth 20000 in
theorem ggX11_scheme_X9_restart : GoodIn wsX11_scheme wsX9_restart := gi_e e_wsX11_scheme e_wsX9_restart (by decide +kernel)
set_option maxRecDepth 20000 in
theorem gX11_scheme_X9_restart : GoodIn wsX11_scheme (wsV RX11 86 RX9 yX9_restart wsX9_restart) := goodIn_app (gi_e e_wsX11_scheme (ce fw_4282 (ce fw_4283 (ce fw_4284 (ce fw_1029 (cn))))) (by decide +kernel)) ggX11_scheme_X9_restart
theorem dX11_scheme_0 : decode cX11_scheme 0 = .ok (.aload_n 0, 1) := by decide +kernel
theorem dX11_scheme_1 : decode cX11_scheme 1 = .ok (.getfield 12, 3) := by decide +kernel
theorem dX11_scheme_4 : decode cX11_scheme 4 = .ok (.getfield 44, 3) := by decide +kernel
theorem dX11_scheme_7 : decode cX11_scheme 7 = .ok (.astore_n 1, 1) := by decide +kernel
theorem dX11_scheme_8 : decode cX11_scheme 8 = .ok (.aload_n 0, 1) := by decide +kernel
theorem dX11_scheme_9 : decode cX11_scheme 9 = .ok (.getfield 40, 3) := by decide +kernel
theorem dX11_scheme_12 : decode cX11_scheme 12 = .ok (.aload_n 1, 1) := by decide +kernel
theorem dX11_scheme_13 : decode cX11_scheme 13 = .ok (.invokevirtual 54, 3) := by decide +kernel
theorem dX11_scheme_16 : decode cX11_scheme 16 = .ok (.aload_n 1, 1) := by decide +kernel
theorem dX11_scheme_17 : decode cX11_scheme 17 = .ok (.iconst 0, 1) := by decide +kernel
theorem dX11_scheme_18 : decode cX11_scheme 18 = .ok (.putfield 58, 3) := by decide +kernel
theorem dX11_scheme_21 : decode cX11_scheme 21 = .ok (.aload_n 1, 1) := by decide +kernel
theorem dX11_scheme_22 : decode cX11_scheme 22 = .ok (.aload_n 0, 1) := by decide +kernel
theorem dX11_scheme_23 : decode cX11_scheme 23 = .ok (.getfield 40, 3) := by decide +kernel
theorem dX11_scheme_26 : decode cX11_scheme 26 = .ok (.getfield 62, 3) := by decide +kernel
theorem dX11_scheme_29 : decode cX11_scheme 29 = .ok (.putfield 65, 3) := by decide +kernel
theorem dX11_scheme_32 : decode cX11_scheme 32 = .ok (.aload_n 1, 1) := by decide +kernel
theorem dX11_scheme_33 : decode cX11_scheme 33 = .ok (.aload_n 0, 1) := by decide +kernel
theorem dX11_scheme_34 : decode cX11_scheme 34 = .ok (.getfield 40, 3) := by decide +kernel
theorem dX11_scheme_37 : decode cX11_scheme 37 = .ok (.getfield 66, 3) := by decide +kernel
theorem dX11_scheme_40 : decode cX11_scheme 40 = .ok (.putfield 69, 3) := by decide +kernel
theorem dX11_scheme_43 : decode cX11_scheme 43 = .ok (.aload_n 0, 1) := by decide +kernel
theorem dX11_scheme_44 : decode cX11_scheme 44 = .ok (.getfield 40, 3) := by decide +kernel
theorem dX11_scheme_47 : decode cX11_scheme 47 = .ok (.getfield 62, 3) := by decide +kernel
theorem dX11_scheme_50 : decode cX11_scheme 50 = .ok (.ifCond .eq 5, 3) := by decide +kernel
theorem dX11_scheme_53 : decode cX11_scheme 53 = .ok (.iconst (-1), 1) := by decide +kernel
theorem dX11_scheme_54 : decode cX11_scheme 54 = .ok (.ireturn, 1) := by decide +kernel
theorem dX11_scheme_55 : decode cX11_scheme 55 = .ok (.aload_n 0, 1) := by decide +kernel
theorem dX11_scheme_56 : decode cX11_scheme 56 = .ok (.getfield 12, 3) := by decide +kernel
theorem dX11_scheme_59 : decode cX11_scheme 59 = .ok (.getfield 70, 3) := by decide +kernel
theorem dX11_scheme_62 : decode cX11_scheme 62 = .ok (.aload_n 0, 1) := by decide +kernel
theorem dX11_scheme_63 : decode cX11_scheme 63 = .ok (.getfield 40, 3) := by decide +kernel
theorem dX11_scheme_66 : decode cX11_scheme 66 = .ok (.getfield 74, 3) := by decide +kernel
theorem dX11_scheme_69 : decode cX11_scheme 69 = .ok (.invokevirtual 77, 3) := by decide +kernel
theorem dX11_scheme_72 : decode cX11_scheme 72 = .ok (.aload_n 0, 1) := by decide +kernel
theorem dX11_scheme_73 : decode cX11_scheme 73 = .ok (.getfield 12, 3) := by decide +kernel
theorem dX11_scheme_76 : decode cX11_scheme 76 = .ok (.getfield 83, 3) := by decide +kernel
theorem dX11_scheme_79 : decode cX11_scheme 79 = .ok (.aload_n 0, 1) := by decide +kernel
theorem dX11_scheme_80 : decode cX11_scheme 80 = .ok (.getfield 12, 3) := by decide +kernel
theorem dX11_scheme_83 : decode cX11_scheme 83 = .ok (.getfield 70, 3) := by decide +kernel
theorem dX11_scheme_86 : decode cX11_scheme 86 = .ok (.invokevirtual 86, 3) := by decide +kernel
theorem dX11_scheme_89 : decode cX11_scheme 89 = .ok (.aload_n 0, 1) := by decide +kernel
theorem dX11_scheme_90 : decode cX11_scheme 90 = .ok (.iconst 0, 1) := by decide +kernel
theorem dX11_scheme_91 : decode cX11_scheme 91 = .ok (.putfield 89, 3) := by decide +kernel
theorem dX11_scheme_94 : decode cX11_scheme 94 = .ok (.aload_n 0, 1) := by decide +kernel
theorem dX11_scheme_95 : decode cX11_scheme 95 = .ok (.getfield 12, 3) := by decide +kernel
theorem dX11_scheme_98 : decode cX11_scheme 98 = .ok (.getfield 70, 3) := by decide +kernel
theorem dX11_scheme_101 : decode cX11_scheme 101 = .ok (.getfield 92, 3) := by decide +kernel
theorem dX11_scheme_104 : decode cX11_scheme 104 = .ok (.ireturn, 1) := by decide +kernel
theorem dX11_fault_0 : decode cX11_fault 0 = .ok (.iload_n 1, 1) := by decide +kernel
theorem dX11_fault_1 : decode cX11_fault 1 = .ok (.ifCond .eq 16, 3) := by decide +kernel
theorem dX11_fault_4 : decode cX11_fault 4 = .ok (.aload_n 0, 1) := by decide +kernel
theorem dX11_fault_5 : decode cX11_fault 5 = .ok (.getfield 12, 3) := by decide +kernel
theorem dX11_fault_8 : decode cX11_fault 8 = .ok (.getfield 44, 3) := by decide +kernel
theorem dX11_fault_11 : decode cX11_fault 11 = .ok (.getfield 69, 3) := by decide +kernel
theorem dX11_fault_14 : decode cX11_fault 14 = .ok (.goto 13, 3) := by decide +kernel
theorem dX11_fault_17 : decode cX11_fault 17 = .ok (.aload_n 0, 1) := by decide +kernel
theorem dX11_fault_18 : decode cX11_fault 18 = .ok (.getfield 12, 3) := by decide +kernel
theorem dX11_fault_21 : decode cX11_fault 21 = .ok (.getfield 44, 3) := by decide +kernel
theorem dX11_fault_24 : decode cX11_fault 24 = .ok (.getfield 65, 3) := by decide +kernel
theorem dX11_fault_27 : decode cX11_fault 27 = .ok (.ireturn, 1) := by decide +kernel
set_option maxRecDepth 20000 in
theorem ggX11_say_X11_remember : GoodIn wsX11_say wsX11_remember := gi_e e_wsX11_say e_wsX11_remember (by decide +kernel)
set_option maxRecDepth 20000 in
theorem gX11_say_X11_remember : GoodIn wsX11_say (wsV RX11 104 RX11 yX11_remember wsX11_remember) := goodIn_app (gi_e e_wsX11_say (ce fw_3093 (ce fw_3095 (ce fw_0 (ce fw_1025 (cn))))) (by decide +kernel)) ggX11_say_X11_remember
set_option maxRecDepth 20000 in
theorem ggX11_say_X6_enqueue : GoodIn wsX11_say wsX6_enqueue := gi_e e_wsX11_say e_wsX6_enqueue (by decide +kernel)
set_option maxRecDepth 20000 in
theorem gX11_say_X6_enqueue : GoodIn wsX11_say (wsV RX11 107 RX6 yX6_enqueue wsX6_enqueue) := goodIn_app (gi_e e_wsX11_say (ce fw_3134 (ce fw_3135 (ce fw_3136 (ce fw_1030 (cn))))) (by decide +kernel)) ggX11_say_X6_enqueue
theorem dX11_say_0 : decode cX11_say 0 = .ok (.aload_n 0, 1) := by decide +kernel
theorem dX11_say_1 : decode cX11_say 1 = .ok (.getfield 12, 3) := by decide +kernel
theorem dX11_say_4 : decode cX11_say 4 = .ok (.getfield 83, 3) := by decide +kernel
theorem dX11_say_7 : decode cX11_say 7 = .ok (.getfield 95, 3) := by decide +kernel
theorem dX11_say_10 : decode cX11_say 10 = .ok (.astore_n 2, 1) := by decide +kernel
theorem dX11_say_11 : decode cX11_say 11 = .ok (.iload_n 1, 1) := by decide +kernel
theorem dX11_say_12 : decode cX11_say 12 = .ok (.ifCond .lt 19, 3) := by decide +kernel
theorem dX11_say_15 : decode cX11_say 15 = .ok (.iload_n 1, 1) := by decide +kernel
theorem dX11_say_16 : decode cX11_say 16 = .ok (.sipush 255, 3) := by decide +kernel
theorem dX11_say_19 : decode cX11_say 19 = .ok (.if_icmp .gt 12, 3) := by decide +kernel
theorem dX11_say_22 : decode cX11_say 22 = .ok (.aload_n 2, 1) := by decide +kernel
theorem dX11_say_23 : decode cX11_say 23 = .ok (.getfield 99, 3) := by decide +kernel
theorem dX11_say_26 : decode cX11_say 26 = .ok (.bipush 8, 2) := by decide +kernel
theorem dX11_say_28 : decode cX11_say 28 = .ok (.if_icmp .lt 5, 3) := by decide +kernel
theorem dX11_say_31 : decode cX11_say 31 = .ok (.iconst (-1), 1) := by decide +kernel
theorem dX11_say_32 : decode cX11_say 32 = .ok (.ireturn, 1) := by decide +kernel
theorem dX11_say_33 : decode cX11_say 33 = .ok (.aload_n 0, 1) := by decide +kernel
theorem dX11_say_34 : decode cX11_say 34 = .ok (.invokevirtual 104, 3) := by decide +kernel
theorem dX11_say_37 : decode cX11_say 37 = .ok (.aload_n 2, 1) := by decide +kernel
theorem dX11_say_38 : decode cX11_say 38 = .ok (.iload_n 1, 1) := by decide +kernel
theorem dX11_say_39 : decode cX11_say 39 = .ok (.invokevirtual 107, 3) := by decide +kernel
theorem dX11_say_42 : decode cX11_say 42 = .ok (.aload_n 2, 1) := by decide +kernel
theorem dX11_say_43 : decode cX11_say 43 = .ok (.getfield 99, 3) := by decide +kernel
theorem dX11_say_46 : decode cX11_say 46 = .ok (.ireturn, 1) := by decide +kernel
set_option maxRecDepth 20000 in
theorem ggX11_send_X11_remember : GoodIn wsX11_send wsX11_remember := gi_e e_wsX11_send e_wsX11_remember (by decide +kernel)
set_option maxRecDepth 20000 in
theorem gX11_send_X11_remember : GoodIn wsX11_send (wsV RX11 104 RX11 yX11_remember wsX11_remember) := goodIn_app (gi_e e_wsX11_send (ce fw_3093 (ce fw_3095 (ce fw_0 (ce fw_1025 (cn))))) (by decide +kernel)) ggX11_send_X11_remember
set_option maxRecDepth 20000 in
theorem ggX11_send_X6_transmit : GoodIn wsX11_send wsX6_transmit := gi_e e_wsX11_send e_wsX6_transmit (by decide +kernel)
set_option maxRecDepth 20000 in
theorem gX11_send_X6_transmit : GoodIn wsX11_send (wsV RX11 117 RX6 yX6_transmit wsX6_transmit) := goodIn_app (gi_e e_wsX11_send (ce fw_3142 (ce fw_3143 (ce fw_3144 (ce fw_1030 (cn))))) (by decide +kernel)) ggX11_send_X6_transmit
theorem dX11_send_0 : decode cX11_send 0 = .ok (.aload_n 0, 1) := by decide +kernel
theorem dX11_send_1 : decode cX11_send 1 = .ok (.getfield 12, 3) := by decide +kernel
theorem dX11_send_4 : decode cX11_send 4 = .ok (.getfield 83, 3) := by decide +kernel
theorem dX11_send_7 : decode cX11_send 7 = .ok (.astore_n 3, 1) := by decide +kernel
theorem dX11_send_8 : decode cX11_send 8 = .ok (.iload_n 1, 1) := by decide +kernel
theorem dX11_send_9 : decode cX11_send 9 = .ok (.iconst 1, 1) := by decide +kernel
theorem dX11_send_10 : decode cX11_send 10 = .ok (.if_icmp .lt 35, 3) := by decide +kernel
theorem dX11_send_13 : decode cX11_send 13 = .ok (.iload_n 1, 1) := by decide +kernel
theorem dX11_send_14 : decode cX11_send 14 = .ok (.bipush 8, 2) := by decide +kernel
theorem dX11_send_16 : decode cX11_send 16 = .ok (.if_icmp .gt 29, 3) := by decide +kernel
theorem dX11_send_19 : decode cX11_send 19 = .ok (.aload_n 3, 1) := by decide +kernel
theorem dX11_send_20 : decode cX11_send 20 = .ok (.getfield 110, 3) := by decide +kernel
theorem dX11_send_23 : decode cX11_send 23 = .ok (.getfield 114, 3) := by decide +kernel
theorem dX11_send_26 : decode cX11_send 26 = .ok (.iload_n 1, 1) := by decide +kernel
theorem dX11_send_27 : decode cX11_send 27 = .ok (.aload_n 0, 1) := by decide +kernel
theorem dX11_send_28 : decode cX11_send 28 = .ok (.getfield 12, 3) := by decide +kernel
theorem dX11_send_31 : decode cX11_send 31 = .ok (.getfield 70, 3) := by decide +kernel
theorem dX11_send_34 : decode cX11_send 34 = .ok (.getfield 92, 3) := by decide +kernel
theorem dX11_send_37 : decode cX11_send 37 = .ok (.imul, 1) := by decide +kernel
theorem dX11_send_38 : decode cX11_send 38 = .ok (.iadd, 1) := by decide +kernel
theorem dX11_send_39 : decode cX11_send 39 = .ok (.sipush 4000, 3) := by decide +kernel
theorem dX11_send_42 : decode cX11_send 42 = .ok (.if_icmp .le 5, 3) := by decide +kernel
theorem dX11_send_45 : decode cX11_send 45 = .ok (.iconst (-1), 1) := by decide +kernel
theorem dX11_send_46 : decode cX11_send 46 = .ok (.ireturn, 1) := by decide +kernel
theorem dX11_send_47 : decode cX11_send 47 = .ok (.aload_n 0, 1) := by decide +kernel
theorem dX11_send_48 : decode cX11_send 48 = .ok (.invokevirtual 104, 3) := by decide +kernel
theorem dX11_send_51 : decode cX11_send 51 = .ok (.aload_n 3, 1) := by decide +kernel
theorem dX11_send_52 : decode cX11_send 52 = .ok (.getfield 95, 3) := by decide +kernel
theorem dX11_send_55 : decode cX11_send 55 = .ok (.aload_n 0, 1) := by decide +kernel
theorem dX11_send_56 : decode cX11_send 56 = .ok (.getfield 12, 3) := by decide +kernel
theorem dX11_send_59 : decode cX11_send 59 = .ok (.getfield 70, 3) := by decide +kernel
theorem dX11_send_62 : decode cX11_send 62 = .ok (.aload_n 3, 1) := by decide +kernel
theorem dX11_send_63 : decode cX11_send 63 = .ok (.getfield 110, 3) := by decide +kernel
theorem dX11_send_66 : decode cX11_send 66 = .ok (.iload_n 1, 1) := by decide +kernel
theorem dX11_send_67 : decode cX11_send 67 = .ok (.iload_n 2, 1) := by decide +kernel
theorem dX11_send_68 : decode cX11_send 68 = .ok (.invokevirtual 117, 3) := by decide +kernel
theorem dX11_send_71 : decode cX11_send 71 = .ok (.aload_n 3, 1) := by decide +kernel
theorem dX11_send_72 : decode cX11_send 72 = .ok (.getfield 110, 3) := by decide +kernel
theorem dX11_send_75 : decode cX11_send 75 = .ok (.getfield 114, 3) := by decide +kernel
theorem dX11_send_78 : decode cX11_send 78 = .ok (.ireturn, 1) := by decide +kernel
set_option maxRecDepth 20000 in
theorem ggX11_hear_X11_remember : GoodIn wsX11_hear wsX11_remember := gi_e e_wsX11_hear e_wsX11_remember (by decide +kernel)
set_option maxRecDepth 20000 in
theorem gX11_hear_X11_remember : GoodIn wsX11_hear (wsV RX11 104 RX11 yX11_remember wsX11_remember) := goodIn_app (gi_e e_wsX11_hear (ce fw_3093 (ce fw_3095 (ce fw_0 (ce fw_1025 (cn))))) (by decide +kernel)) ggX11_hear_X11_remember
set_option maxRecDepth 20000 in
theorem ggX11_hear_X9_listen : GoodIn wsX11_hear wsX9_listen := gi_e e_wsX11_hear e_wsX9_listen (by decide +kernel)
set_option maxRecDepth 20000 in
theorem gX11_hear_X9_listen : GoodIn wsX11_hear (wsV RX11 134 RX9 yX9_listen wsX9_listen) := goodIn_app (gi_e e_wsX11_hear (ce fw_3180 (ce fw_3181 (ce fw_3182 (ce fw_1029 (cn))))) (by decide +kernel)) ggX11_hear_X9_listen
theorem dX11_hear_0 : decode cX11_hear 0 = .ok (.aload_n 0, 1) := by decide +kernel
theorem dX11_hear_1 : decode cX11_hear 1 = .ok (.getfield 12, 3) := by decide +kernel
theorem dX11_hear_4 : decode cX11_hear 4 = .ok (.getfield 83, 3) := by decide +kernel
theorem dX11_hear_7 : decode cX11_hear 7 = .ok (.astore_n 2, 1) := by decide +kernel
theorem dX11_hear_8 : decode cX11_hear 8 = .ok (.iload_n 1, 1) := by decide +kernel
theorem dX11_hear_9 : decode cX11_hear 9 = .ok (.iconst 1, 1) := by decide +kernel
theorem dX11_hear_10 : decode cX11_hear 10 = .ok (.if_icmp .lt 26, 3) := by decide +kernel
theorem dX11_hear_13 : decode cX11_hear 13 = .ok (.iload_n 1, 1) := by decide +kernel
theorem dX11_hear_14 : decode cX11_hear 14 = .ok (.sipush 4000, 3) := by decide +kernel
theorem dX11_hear_17 : decode cX11_hear 17 = .ok (.if_icmp .gt 19, 3) := by decide +kernel
theorem dX11_hear_20 : decode cX11_hear 20 = .ok (.iload_n 1, 1) := by decide +kernel
theorem dX11_hear_21 : decode cX11_hear 21 = .ok (.aload_n 2, 1) := by decide +kernel
theorem dX11_hear_22 : decode cX11_hear 22 = .ok (.getfield 110, 3) := by decide +kernel
theorem dX11_hear_25 : decode cX11_hear 25 = .ok (.getfield 114, 3) := by decide +kernel
theorem dX11_hear_28 : decode cX11_hear 28 = .ok (.aload_n 2, 1) := by decide +kernel
theorem dX11_hear_29 : decode cX11_hear 29 = .ok (.getfield 121, 3) := by decide +kernel
theorem dX11_hear_32 : decode cX11_hear 32 = .ok (.isub, 1) := by decide +kernel
theorem dX11_hear_33 : decode cX11_hear 33 = .ok (.if_icmp .le 5, 3) := by decide +kernel
theorem dX11_hear_36 : decode cX11_hear 36 = .ok (.iconst (-1), 1) := by decide +kernel
theorem dX11_hear_37 : decode cX11_hear 37 = .ok (.ireturn, 1) := by decide +kernel
theorem dX11_hear_38 : decode cX11_hear 38 = .ok (.aload_n 0, 1) := by decide +kernel
theorem dX11_hear_39 : decode cX11_hear 39 = .ok (.invokevirtual 104, 3) := by decide +kernel
theorem dX11_hear_42 : decode cX11_hear 42 = .ok (.aload_n 2, 1) := by decide +kernel
theorem dX11_hear_43 : decode cX11_hear 43 = .ok (.aload_n 0, 1) := by decide +kernel
theorem dX11_hear_44 : decode cX11_hear 44 = .ok (.getfield 12, 3) := by decide +kernel
theorem dX11_hear_47 : decode cX11_hear 47 = .ok (.getfield 70, 3) := by decide +kernel
theorem dX11_hear_50 : decode cX11_hear 50 = .ok (.aload_n 2, 1) := by decide +kernel
theorem dX11_hear_51 : decode cX11_hear 51 = .ok (.getfield 121, 3) := by decide +kernel
theorem dX11_hear_54 : decode cX11_hear 54 = .ok (.iload_n 1, 1) := by decide +kernel
theorem dX11_hear_55 : decode cX11_hear 55 = .ok (.iadd, 1) := by decide +kernel
theorem dX11_hear_56 : decode cX11_hear 56 = .ok (.invokevirtual 134, 3) := by decide +kernel
theorem dX11_hear_59 : decode cX11_hear 59 = .ok (.aload_n 2, 1) := by decide +kernel
theorem dX11_hear_60 : decode cX11_hear 60 = .ok (.getfield 121, 3) := by decide +kernel
theorem dX11_hear_63 : decode cX11_hear 63 = .ok (.ireturn, 1) := by decide +kernel
theorem dX11_count_0 : decode cX11_count 0 = .ok (.aload_n 0, 1) := by decide +kernel
theorem dX11_count_1 : decode cX11_count 1 = .ok (.getfield 12, 3) := by decide +kernel
theorem dX11_count_4 : decode cX11_count 4 = .ok (.getfield 70, 3) := by decide +kernel
theorem dX11_count_7 : decode cX11_count 7 = .ok (.astore_n 2, 1) := by decide +kernel
theorem dX11_count_8 : decode cX11_count 8 = .ok (.iload_n 1, 1) := by decide +kernel
theorem dX11_count_9 : decode cX11_count 9 = .ok (.tableswitch 189 0 15 #[79, 84, 89, 94, 99, 104, 109, 114, 119, 124, 129, 134, 148, 159, 164, 175], 79) := by decide +kernel
theorem dX11_count_88 : decode cX11_count 88 = .ok (.aload_n 2, 1) := by decide +kernel
theorem dX11_count_89 : decode cX11_count 89 = .ok (.getfield 141, 3) := by decide +kernel
theorem dX11_count_92 : decode cX11_count 92 = .ok (.ireturn, 1) := by decide +kernel
theorem dX11_count_93 : decode cX11_count 93 = .ok (.aload_n 2, 1) := by decide +kernel
theorem dX11_count_94 : decode cX11_count 94 = .ok (.getfield 144, 3) := by decide +kernel
theorem dX11_count_97 : decode cX11_count 97 = .ok (.ireturn, 1) := by decide +kernel
theorem dX11_count_98 : decode cX11_count 98 = .ok (.aload_n 2, 1) := by decide +kernel
theorem dX11_count_99 : decode cX11_count 99 = .ok (.getfield 147, 3) := by decide +kernel
theorem dX11_count_102 : decode cX11_count 102 = .ok (.ireturn, 1) := by decide +kernel
theorem dX11_count_103 : decode cX11_count 103 = .ok (.aload_n 2, 1) := by decide +kernel
theorem dX11_count_104 : decode cX11_count 104 = .ok (.getfield 150, 3) := by decide +kernel
theorem dX11_count_107 : decode cX11_count 107 = .ok (.ireturn, 1) := by decide +kernel
theorem dX11_count_108 : decode cX11_count 108 = .ok (.aload_n 2, 1) := by decide +kernel
theorem dX11_count_109 : decode cX11_count 109 = .ok (.getfield 153, 3) := by decide +kernel
theorem dX11_count_112 : decode cX11_count 112 = .ok (.ireturn, 1) := by decide +kernel
theorem dX11_count_113 : decode cX11_count 113 = .ok (.aload_n 2, 1) := by decide +kernel
theorem dX11_count_114 : decode cX11_count 114 = .ok (.getfield 156, 3) := by decide +kernel
theorem dX11_count_117 : decode cX11_count 117 = .ok (.ireturn, 1) := by decide +kernel
theorem dX11_count_118 : decode cX11_count 118 = .ok (.aload_n 2, 1) := by decide +kernel
theorem dX11_count_119 : decode cX11_count 119 = .ok (.getfield 159, 3) := by decide +kernel
theorem dX11_count_122 : decode cX11_count 122 = .ok (.ireturn, 1) := by decide +kernel
theorem dX11_count_123 : decode cX11_count 123 = .ok (.aload_n 2, 1) := by decide +kernel
theorem dX11_count_124 : decode cX11_count 124 = .ok (.getfield 162, 3) := by decide +kernel
theorem dX11_count_127 : decode cX11_count 127 = .ok (.ireturn, 1) := by decide +kernel
theorem dX11_count_128 : decode cX11_count 128 = .ok (.aload_n 2, 1) := by decide +kernel
theorem dX11_count_129 : decode cX11_count 129 = .ok (.getfield 165, 3) := by decide +kernel
theorem dX11_count_132 : decode cX11_count 132 = .ok (.ireturn, 1) := by decide +kernel
theorem dX11_count_133 : decode cX11_count 133 = .ok (.aload_n 2, 1) := by decide +kernel
theorem dX11_count_134 : decode cX11_count 134 = .ok (.getfield 168, 3) := by decide +kernel
theorem dX11_count_137 : decode cX11_count 137 = .ok (.ireturn, 1) := by decide +kernel
theorem dX11_count_138 : decode cX11_count 138 = .ok (.aload_n 2, 1) := by decide +kernel
theorem dX11_count_139 : decode cX11_count 139 = .ok (.getfield 171, 3) := by decide +kernel
theorem dX11_count_142 : decode cX11_count 142 = .ok (.ireturn, 1) := by decide +kernel
theorem dX11_count_143 : decode cX11_count 143 = .ok (.aload_n 0, 1) := by decide +kernel
theorem dX11_count_144 : decode cX11_count 144 = .ok (.getfield 12, 3) := by decide +kernel
theorem dX11_count_147 : decode cX11_count 147 = .ok (.getfield 83, 3) := by decide +kernel
theorem dX11_count_150 : decode cX11_count 150 = .ok (.getfield 110, 3) := by decide +kernel
theorem dX11_count_153 : decode cX11_count 153 = .ok (.getfield 114, 3) := by decide +kernel
theorem dX11_count_156 : decode cX11_count 156 = .ok (.ireturn, 1) := by decide +kernel
theorem dX11_count_157 : decode cX11_count 157 = .ok (.aload_n 0, 1) := by decide +kernel
theorem dX11_count_158 : decode cX11_count 158 = .ok (.getfield 12, 3) := by decide +kernel
theorem dX11_count_161 : decode cX11_count 161 = .ok (.getfield 83, 3) := by decide +kernel
theorem dX11_count_164 : decode cX11_count 164 = .ok (.getfield 121, 3) := by decide +kernel
theorem dX11_count_167 : decode cX11_count 167 = .ok (.ireturn, 1) := by decide +kernel
theorem dX11_count_168 : decode cX11_count 168 = .ok (.aload_n 0, 1) := by decide +kernel
theorem dX11_count_169 : decode cX11_count 169 = .ok (.getfield 89, 3) := by decide +kernel
theorem dX11_count_172 : decode cX11_count 172 = .ok (.ireturn, 1) := by decide +kernel
theorem dX11_count_173 : decode cX11_count 173 = .ok (.aload_n 0, 1) := by decide +kernel
theorem dX11_count_174 : decode cX11_count 174 = .ok (.getfield 12, 3) := by decide +kernel
theorem dX11_count_177 : decode cX11_count 177 = .ok (.getfield 44, 3) := by decide +kernel
theorem dX11_count_180 : decode cX11_count 180 = .ok (.getfield 58, 3) := by decide +kernel
theorem dX11_count_183 : decode cX11_count 183 = .ok (.ireturn, 1) := by decide +kernel
theorem dX11_count_184 : decode cX11_count 184 = .ok (.aload_n 0, 1) := by decide +kernel
theorem dX11_count_185 : decode cX11_count 185 = .ok (.getfield 12, 3) := by decide +kernel
theorem dX11_count_188 : decode cX11_count 188 = .ok (.getfield 83, 3) := by decide +kernel
theorem dX11_count_191 : decode cX11_count 191 = .ok (.getfield 95, 3) := by decide +kernel
theorem dX11_count_194 : decode cX11_count 194 = .ok (.getfield 99, 3) := by decide +kernel
theorem dX11_count_197 : decode cX11_count 197 = .ok (.ireturn, 1) := by decide +kernel
theorem dX11_count_198 : decode cX11_count 198 = .ok (.sipush (-1000), 3) := by decide +kernel
theorem dX11_count_201 : decode cX11_count 201 = .ok (.ireturn, 1) := by decide +kernel
set_option maxRecDepth 20000 in
theorem ggX11_role_X5_roleAt : GoodIn wsX11_role wsX5_roleAt := gi_e e_wsX11_role e_wsX5_roleAt (by decide +kernel)
set_option maxRecDepth 20000 in
theorem gX11_role_X5_roleAt : GoodIn wsX11_role (wsV RX11 174 RX5 yX5_roleAt wsX5_roleAt) := goodIn_app (gi_e e_wsX11_role (ce fw_4300 (ce fw_3151 (ce fw_3152 (ce fw_1027 (cn))))) (by decide +kernel)) ggX11_role_X5_roleAt
theorem dX11_role_0 : decode cX11_role 0 = .ok (.aload_n 0, 1) := by decide +kernel
theorem dX11_role_1 : decode cX11_role 1 = .ok (.getfield 12, 3) := by decide +kernel
theorem dX11_role_4 : decode cX11_role 4 = .ok (.getfield 70, 3) := by decide +kernel
theorem dX11_role_7 : decode cX11_role 7 = .ok (.iload_n 1, 1) := by decide +kernel
theorem dX11_role_8 : decode cX11_role 8 = .ok (.invokevirtual 174, 3) := by decide +kernel
theorem dX11_role_11 : decode cX11_role 11 = .ok (.istore_n 2, 1) := by decide +kernel
theorem dX11_role_12 : decode cX11_role 12 = .ok (.iload_n 2, 1) := by decide +kernel
theorem dX11_role_13 : decode cX11_role 13 = .ok (.iconst (-1), 1) := by decide +kernel
theorem dX11_role_14 : decode cX11_role 14 = .ok (.if_icmp .ne 13, 3) := by decide +kernel
theorem dX11_role_17 : decode cX11_role 17 = .ok (.new 178, 3) := by decide +kernel
theorem dX11_role_20 : decode cX11_role 20 = .ok (.dup, 1) := by decide +kernel
theorem dX11_role_21 : decode cX11_role 21 = .ok (.ldc 180, 2) := by decide +kernel
theorem dX11_role_23 : decode cX11_role 23 = .ok (.invokespecial 182, 3) := by decide +kernel
theorem dX11_role_26 : decode cX11_role 26 = .ok (.athrow, 1) := by decide +kernel
theorem dX11_role_27 : decode cX11_role 27 = .ok (.iload_n 2, 1) := by decide +kernel
theorem dX11_role_28 : decode cX11_role 28 = .ok (.ireturn, 1) := by decide +kernel
set_option maxRecDepth 20000 in
theorem ggX11_bit_X2_at : GoodIn wsX11_bit wsX2_at := gi_e e_wsX11_bit e_wsX2_at (by decide +kernel)
set_option maxRecDepth 20000 in
theorem gX11_bit_X2_at : GoodIn wsX11_bit (wsV RX11 185 RX2 yX2_at wsX2_at) := goodIn_app (gi_e e_wsX11_bit (ce fw_5160 (ce fw_3173 (ce fw_3174 (ce fw_1035 (cn))))) (by decide +kernel)) ggX11_bit_X2_at
theorem dX11_bit_0 : decode cX11_bit 0 = .ok (.aload_n 0, 1) := by decide +kernel
theorem dX11_bit_1 : decode cX11_bit 1 = .ok (.getfield 12, 3) := by decide +kernel
theorem dX11_bit_4 : decode cX11_bit 4 = .ok (.getfield 83, 3) := by decide +kernel
theorem dX11_bit_7 : decode cX11_bit 7 = .ok (.getfield 110, 3) := by decide +kernel
theorem dX11_bit_10 : decode cX11_bit 10 = .ok (.iload_n 1, 1) := by decide +kernel
theorem dX11_bit_11 : decode cX11_bit 11 = .ok (.invokevirtual 185, 3) := by decide +kernel
theorem dX11_bit_14 : decode cX11_bit 14 = .ok (.ireturn, 1) := by decide +kernel
set_option maxRecDepth 20000 in
theorem ggX11_checks_X5_checksOf : GoodIn wsX11_checks wsX5_checksOf := gi_e e_wsX11_checks e_wsX5_checksOf (by decide +kernel)
set_option maxRecDepth 20000 in
theorem gX11_checks_X5_checksOf : GoodIn wsX11_checks (wsV RX11 188 RX5 yX5_checksOf wsX5_checksOf) := goodIn_app (gi_e e_wsX11_checks (ce fw_5165 (ce fw_3168 (ce fw_3169 (ce fw_1027 (cn))))) (by decide +kernel)) ggX11_checks_X5_checksOf
theorem dX11_checks_0 : decode cX11_checks 0 = .ok (.aload_n 0, 1) := by decide +kernel
theorem dX11_checks_1 : decode cX11_checks 1 = .ok (.getfield 12, 3) := by decide +kernel
theorem dX11_checks_4 : decode cX11_checks 4 = .ok (.getfield 83, 3) := by decide +kernel
theorem dX11_checks_7 : decode cX11_checks 7 = .ok (.getfield 110, 3) := by decide +kernel
theorem dX11_checks_10 : decode cX11_checks 10 = .ok (.astore_n 2, 1) := by decide +kernel
theorem dX11_checks_11 : decode cX11_checks 11 = .ok (.iload_n 1, 1) := by decide +kernel
theorem dX11_checks_12 : decode cX11_checks 12 = .ok (.ifCond .lt 22, 3) := by decide +kernel
theorem dX11_checks_15 : decode cX11_checks 15 = .ok (.iload_n 1, 1) := by decide +kernel
theorem dX11_checks_16 : decode cX11_checks 16 = .ok (.aload_n 2, 1) := by decide +kernel
theorem dX11_checks_17 : decode cX11_checks 17 = .ok (.getfield 114, 3) := by decide +kernel
theorem dX11_checks_20 : decode cX11_checks 20 = .ok (.aload_n 0, 1) := by decide +kernel
theorem dX11_checks_21 : decode cX11_checks 21 = .ok (.getfield 12, 3) := by decide +kernel
theorem dX11_checks_24 : decode cX11_checks 24 = .ok (.getfield 70, 3) := by decide +kernel
theorem dX11_checks_27 : decode cX11_checks 27 = .ok (.getfield 92, 3) := by decide +kernel
theorem dX11_checks_30 : decode cX11_checks 30 = .ok (.isub, 1) := by decide +kernel
theorem dX11_checks_31 : decode cX11_checks 31 = .ok (.if_icmp .le 5, 3) := by decide +kernel
theorem dX11_checks_34 : decode cX11_checks 34 = .ok (.iconst (-1), 1) := by decide +kernel
theorem dX11_checks_35 : decode cX11_checks 35 = .ok (.ireturn, 1) := by decide +kernel
theorem dX11_checks_36 : decode cX11_checks 36 = .ok (.aload_n 0, 1) := by decide +kernel
theorem dX11_checks_37 : decode cX11_checks 37 = .ok (.getfield 12, 3) := by decide +kernel
theorem dX11_checks_40 : decode cX11_checks 40 = .ok (.getfield 70, 3) := by decide +kernel
theorem dX11_checks_43 : decode cX11_checks 43 = .ok (.aload_n 2, 1) := by decide +kernel
theorem dX11_checks_44 : decode cX11_checks 44 = .ok (.iload_n 1, 1) := by decide +kernel
theorem dX11_checks_45 : decode cX11_checks 45 = .ok (.invokevirtual 188, 3) := by decide +kernel
theorem dX11_checks_48 : decode cX11_checks 48 = .ok (.ireturn, 1) := by decide +kernel
set_option maxRecDepth 20000 in
theorem ggX11_receiver_X4_tell : GoodIn wsX11_receiver wsX4_tell := gi_e e_wsX11_receiver e_wsX4_tell (by decide +kernel)
set_option maxRecDepth 20000 in
theorem gX11_receiver_X4_tell : GoodIn wsX11_receiver (wsV RX11 196 RX4 yX4_tell wsX4_tell) := goodIn_app (gi_e e_wsX11_receiver (ce fw_4099 (ce fw_4100 (ce fw_4101 (ce fw_1031 (cn))))) (by decide +kernel)) ggX11_receiver_X4_tell
theorem dX11_receiver_0 : decode cX11_receiver 0 = .ok (.aload_n 0, 1) := by decide +kernel
theorem dX11_receiver_1 : decode cX11_receiver 1 = .ok (.getfield 12, 3) := by decide +kernel
theorem dX11_receiver_4 : decode cX11_receiver 4 = .ok (.getfield 83, 3) := by decide +kernel
theorem dX11_receiver_7 : decode cX11_receiver 7 = .ok (.getfield 192, 3) := by decide +kernel
theorem dX11_receiver_10 : decode cX11_receiver 10 = .ok (.aload_n 0, 1) := by decide +kernel
theorem dX11_receiver_11 : decode cX11_receiver 11 = .ok (.getfield 12, 3) := by decide +kernel
theorem dX11_receiver_14 : decode cX11_receiver 14 = .ok (.getfield 70, 3) := by decide +kernel
theorem dX11_receiver_17 : decode cX11_receiver 17 = .ok (.iload_n 1, 1) := by decide +kernel
theorem dX11_receiver_18 : decode cX11_receiver 18 = .ok (.invokevirtual 196, 3) := by decide +kernel
theorem dX11_receiver_21 : decode cX11_receiver 21 = .ok (.ireturn, 1) := by decide +kernel
set_option maxRecDepth 20000 in
theorem ggX11_candidate_X1_nth : GoodIn wsX11_candidate wsX1_nth := gi_e e_wsX11_candidate e_wsX1_nth (by decide +kernel)
set_option maxRecDepth 20000 in
theorem gX11_candidate_X1_nth : GoodIn wsX11_candidate (wsV RX11 209 RX1 yX1_nth wsX1_nth) := goodIn_app (gi_e e_wsX11_candidate (ce fw_5173 (ce fw_3220 (ce fw_3221 (ce fw_1032 (cn))))) (by decide +kernel)) ggX11_candidate_X1_nth
theorem dX11_candidate_0 : decode cX11_candidate 0 = .ok (.aload_n 0, 1) := by decide +kernel
theorem dX11_candidate_1 : decode cX11_candidate 1 = .ok (.getfield 12, 3) := by decide +kernel
theorem dX11_candidate_4 : decode cX11_candidate 4 = .ok (.getfield 83, 3) := by decide +kernel
theorem dX11_candidate_7 : decode cX11_candidate 7 = .ok (.getfield 192, 3) := by decide +kernel
theorem dX11_candidate_10 : decode cX11_candidate 10 = .ok (.astore_n 2, 1) := by decide +kernel
theorem dX11_candidate_11 : decode cX11_candidate 11 = .ok (.aload_n 2, 1) := by decide +kernel
theorem dX11_candidate_12 : decode cX11_candidate 12 = .ok (.getfield 202, 3) := by decide +kernel
theorem dX11_candidate_15 : decode cX11_candidate 15 = .ok (.ifCond .ne 21, 3) := by decide +kernel
theorem dX11_candidate_18 : decode cX11_candidate 18 = .ok (.aload_n 2, 1) := by decide +kernel
theorem dX11_candidate_19 : decode cX11_candidate 19 = .ok (.getfield 205, 3) := by decide +kernel
theorem dX11_candidate_22 : decode cX11_candidate 22 = .ok (.aload_n 0, 1) := by decide +kernel
theorem dX11_candidate_23 : decode cX11_candidate 23 = .ok (.getfield 12, 3) := by decide +kernel
theorem dX11_candidate_26 : decode cX11_candidate 26 = .ok (.getfield 70, 3) := by decide +kernel
theorem dX11_candidate_29 : decode cX11_candidate 29 = .ok (.iload_n 1, 1) := by decide +kernel
theorem dX11_candidate_30 : decode cX11_candidate 30 = .ok (.invokevirtual 209, 3) := by decide +kernel
theorem dX11_candidate_33 : decode cX11_candidate 33 = .ok (.goto 4, 3) := by decide +kernel
theorem dX11_candidate_36 : decode cX11_candidate 36 = .ok (.iconst (-1), 1) := by decide +kernel
theorem dX11_candidate_37 : decode cX11_candidate 37 = .ok (.ireturn, 1) := by decide +kernel
set_option maxRecDepth 20000 in
theorem ggX11_frame_X11_channelOnes : GoodIn wsX11_frame wsX11_channelOnes := gi_e e_wsX11_frame e_wsX11_channelOnes (by decide +kernel)
set_option maxRecDepth 20000 in
theorem gX11_frame_X11_channelOnes : GoodIn wsX11_frame (wsV RX11 232 RX11 yX11_channelOnes wsX11_channelOnes) := goodIn_app (gi_e e_wsX11_frame (ce fw_5204 (ce fw_5206 (ce fw_25 (ce fw_1025 (cn))))) (by decide +kernel)) ggX11_frame_X11_channelOnes
set_option maxRecDepth 20000 in
theorem ggX11_frame_X11_channelNumber : GoodIn wsX11_frame wsX11_channelNumber := gi_e e_wsX11_frame e_wsX11_channelNumber (by decide +kernel)
set_option maxRecDepth 20000 in
theorem gX11_frame_X11_channelNumber : GoodIn wsX11_frame (wsV RX11 235 RX11 yX11_channelNumber wsX11_channelNumber) := goodIn_app (gi_e e_wsX11_frame (ce fw_5208 (ce fw_5210 (ce fw_26 (ce fw_1025 (cn))))) (by decide +kernel)) ggX11_frame_X11_channelNumber
theorem dX11_frame_0 : decode cX11_frame 0 = .ok (.aload_n 0, 1) := by decide +kernel
theorem dX11_frame_1 : decode cX11_frame 1 = .ok (.getfield 12, 3) := by decide +kernel
theorem dX11_frame_4 : decode cX11_frame 4 = .ok (.getfield 83, 3) := by decide +kernel
theorem dX11_frame_7 : decode cX11_frame 7 = .ok (.getfield 192, 3) := by decide +kernel
theorem dX11_frame_10 : decode cX11_frame 10 = .ok (.getfield 214, 3) := by decide +kernel
theorem dX11_frame_13 : decode cX11_frame 13 = .ok (.astore_n 2, 1) := by decide +kernel
theorem dX11_frame_14 : decode cX11_frame 14 = .ok (.aload_n 2, 1) := by decide +kernel
theorem dX11_frame_15 : decode cX11_frame 15 = .ok (.getfield 218, 3) := by decide +kernel
theorem dX11_frame_18 : decode cX11_frame 18 = .ok (.ifCond .ne 5, 3) := by decide +kernel
theorem dX11_frame_21 : decode cX11_frame 21 = .ok (.iconst (-1), 1) := by decide +kernel
theorem dX11_frame_22 : decode cX11_frame 22 = .ok (.ireturn, 1) := by decide +kernel
theorem dX11_frame_23 : decode cX11_frame 23 = .ok (.iload_n 1, 1) := by decide +kernel
theorem dX11_frame_24 : decode cX11_frame 24 = .ok (.ifCond .ne 8, 3) := by decide +kernel
theorem dX11_frame_27 : decode cX11_frame 27 = .ok (.aload_n 2, 1) := by decide +kernel
theorem dX11_frame_28 : decode cX11_frame 28 = .ok (.getfield 223, 3) := by decide +kernel
theorem dX11_frame_31 : decode cX11_frame 31 = .ok (.ireturn, 1) := by decide +kernel
theorem dX11_frame_32 : decode cX11_frame 32 = .ok (.iload_n 1, 1) := by decide +kernel
theorem dX11_frame_33 : decode cX11_frame 33 = .ok (.iconst 1, 1) := by decide +kernel
theorem dX11_frame_34 : decode cX11_frame 34 = .ok (.if_icmp .ne 8, 3) := by decide +kernel
theorem dX11_frame_37 : decode cX11_frame 37 = .ok (.aload_n 2, 1) := by decide +kernel
theorem dX11_frame_38 : decode cX11_frame 38 = .ok (.getfield 226, 3) := by decide +kernel
theorem dX11_frame_41 : decode cX11_frame 41 = .ok (.ireturn, 1) := by decide +kernel
theorem dX11_frame_42 : decode cX11_frame 42 = .ok (.iload_n 1, 1) := by decide +kernel
theorem dX11_frame_43 : decode cX11_frame 43 = .ok (.iconst 2, 1) := by decide +kernel
theorem dX11_frame_44 : decode cX11_frame 44 = .ok (.if_icmp .ne 12, 3) := by decide +kernel
theorem dX11_frame_47 : decode cX11_frame 47 = .ok (.aload_n 0, 1) := by decide +kernel
theorem dX11_frame_48 : decode cX11_frame 48 = .ok (.aload_n 2, 1) := by decide +kernel
theorem dX11_frame_49 : decode cX11_frame 49 = .ok (.getfield 229, 3) := by decide +kernel
theorem dX11_frame_52 : decode cX11_frame 52 = .ok (.invokevirtual 232, 3) := by decide +kernel
theorem dX11_frame_55 : decode cX11_frame 55 = .ok (.ireturn, 1) := by decide +kernel
theorem dX11_frame_56 : decode cX11_frame 56 = .ok (.iload_n 1, 1) := by decide +kernel
theorem dX11_frame_57 : decode cX11_frame 57 = .ok (.bipush 10, 2) := by decide +kernel
theorem dX11_frame_59 : decode cX11_frame 59 = .ok (.if_icmp .ge 7, 3) := by decide +kernel
theorem dX11_frame_62 : decode cX11_frame 62 = .ok (.iconst (-1), 1) := by decide +kernel
theorem dX11_frame_63 : decode cX11_frame 63 = .ok (.goto 15, 3) := by decide +kernel
theorem dX11_frame_66 : decode cX11_frame 66 = .ok (.aload_n 0, 1) := by decide +kernel
theorem dX11_frame_67 : decode cX11_frame 67 = .ok (.aload_n 2, 1) := by decide +kernel
theorem dX11_frame_68 : decode cX11_frame 68 = .ok (.getfield 229, 3) := by decide +kernel
theorem dX11_frame_71 : decode cX11_frame 71 = .ok (.iload_n 1, 1) := by decide +kernel
theorem dX11_frame_72 : decode cX11_frame 72 = .ok (.bipush 10, 2) := by decide +kernel
theorem dX11_frame_74 : decode cX11_frame 74 = .ok (.isub, 1) := by decide +kernel
theorem dX11_frame_75 : decode cX11_frame 75 = .ok (.invokevirtual 235, 3) := by decide +kernel
theorem dX11_frame_78 : decode cX11_frame 78 = .ok (.ireturn, 1) := by decide +kernel
set_option maxRecDepth 20000 in
theorem ggX11_value_X0_nth : GoodIn wsX11_value wsX0_nth := gi_e e_wsX11_value e_wsX0_nth (by decide +kernel)
set_option maxRecDepth 20000 in
theorem gX11_value_X0_nth : GoodIn wsX11_value (wsV RX11 255 RX0 yX0_nth wsX0_nth) := goodIn_app (gi_e e_wsX11_value (ce fw_5219 (ce fw_5220 (ce fw_5221 (ce fw_1034 (cn))))) (by decide +kernel)) ggX11_value_X0_nth
theorem dX11_value_0 : decode cX11_value 0 = .ok (.aload_n 0, 1) := by decide +kernel
theorem dX11_value_1 : decode cX11_value 1 = .ok (.getfield 12, 3) := by decide +kernel
theorem dX11_value_4 : decode cX11_value 4 = .ok (.getfield 83, 3) := by decide +kernel
theorem dX11_value_7 : decode cX11_value 7 = .ok (.getfield 192, 3) := by decide +kernel
theorem dX11_value_10 : decode cX11_value 10 = .ok (.getfield 251, 3) := by decide +kernel
theorem dX11_value_13 : decode cX11_value 13 = .ok (.iload_n 1, 1) := by decide +kernel
theorem dX11_value_14 : decode cX11_value 14 = .ok (.invokevirtual 255, 3) := by decide +kernel
theorem dX11_value_17 : decode cX11_value 17 = .ok (.ireturn, 1) := by decide +kernel
set_option maxRecDepth 20000 in
theorem ggX11_struck_X5_framesStarted : GoodIn wsX11_struck wsX5_framesStarted := gi_e e_wsX11_struck e_wsX5_framesStarted (by decide +kernel)
set_option maxRecDepth 20000 in
theorem gX11_struck_X5_framesStarted : GoodIn wsX11_struck (wsV RX11 259 RX5 yX5_framesStarted wsX5_framesStarted) := goodIn_app (gi_e e_wsX11_struck (ce fw_5190 (ce fw_3228 (ce fw_3229 (ce fw_1027 (cn))))) (by decide +kernel)) ggX11_struck_X5_framesStarted
set_option maxRecDepth 20000 in
theorem ggX11_struck_X2_at : GoodIn wsX11_struck wsX2_at := gi_e e_wsX11_struck e_wsX2_at (by decide +kernel)
set_option maxRecDepth 20000 in
theorem gX11_struck_X2_at : GoodIn wsX11_struck (wsV RX11 185 RX2 yX2_at wsX2_at) := goodIn_app (gi_e e_wsX11_struck (ce fw_5160 (ce fw_3173 (ce fw_3174 (ce fw_1035 (cn))))) (by decide +kernel)) ggX11_struck_X2_at
set_option maxRecDepth 20000 in
theorem ggX11_struck_X5_isOther : GoodIn wsX11_struck wsX5_isOther := gi_e e_wsX11_struck e_wsX5_isOther (by decide +kernel)
set_option maxRecDepth 20000 in
theorem gX11_struck_X5_isOther : GoodIn wsX11_struck (wsV RX11 262 RX5 yX5_isOther wsX5_isOther) := goodIn_app (gi_e e_wsX11_struck (ce fw_5191 (ce fw_3247 (ce fw_3248 (ce fw_1027 (cn))))) (by decide +kernel)) ggX11_struck_X5_isOther
set_option maxRecDepth 20000 in
theorem ggX11_struck_X5_placeBehind : GoodIn wsX11_struck wsX5_placeBehind := gi_e e_wsX11_struck e_wsX5_placeBehind (by decide +kernel)
set_option maxRecDepth 20000 in
theorem gX11_struck_X5_placeBehind : GoodIn wsX11_struck (wsV RX11 266 RX5 yX5_placeBehind wsX5_placeBehind) := goodIn_app (gi_e e_wsX11_struck (ce fw_5192 (ce fw_3204 (ce fw_3205 (ce fw_1027 (cn))))) (by decide +kernel)) ggX11_struck_X5_placeBehind
theorem dX11_struck_0 : decode cX11_struck 0 = .ok (.aload_n 0, 1) := by decide +kernel
theorem dX11_struck_1 : decode cX11_struck 1 = .ok (.getfield 12, 3) := by decide +kernel
theorem dX11_struck_4 : decode cX11_struck 4 = .ok (.getfield 70, 3) := by decide +kernel
theorem dX11_struck_7 : decode cX11_struck 7 = .ok (.astore_n 3, 1) := by decide +kernel
theorem dX11_struck_8 : decode cX11_struck 8 = .ok (.aload_n 0, 1) := by decide +kernel
theorem dX11_struck_9 : decode cX11_struck 9 = .ok (.getfield 12, 3) := by decide +kernel
theorem dX11_struck_12 : decode cX11_struck 12 = .ok (.getfield 83, 3) := by decide +kernel
theorem dX11_struck_15 : decode cX11_struck 15 = .ok (.getfield 110, 3) := by decide +kernel
theorem dX11_struck_18 : decode cX11_struck 18 = .ok (.astore 4, 2) := by decide +kernel
theorem dX11_struck_20 : decode cX11_struck 20 = .ok (.iload_n 1, 1) := by decide +kernel
theorem dX11_struck_21 : decode cX11_struck 21 = .ok (.ifCond .lt 32, 3) := by decide +kernel
theorem dX11_struck_24 : decode cX11_struck 24 = .ok (.iload_n 1, 1) := by decide +kernel
theorem dX11_struck_25 : decode cX11_struck 25 = .ok (.aload 4, 2) := by decide +kernel
theorem dX11_struck_27 : decode cX11_struck 27 = .ok (.getfield 114, 3) := by decide +kernel
theorem dX11_struck_30 : decode cX11_struck 30 = .ok (.if_icmp .ge 23, 3) := by decide +kernel
theorem dX11_struck_33 : decode cX11_struck 33 = .ok (.iload_n 2, 1) := by decide +kernel
theorem dX11_struck_34 : decode cX11_struck 34 = .ok (.ifCond .lt 19, 3) := by decide +kernel
theorem dX11_struck_37 : decode cX11_struck 37 = .ok (.iload_n 2, 1) := by decide +kernel
theorem dX11_struck_38 : decode cX11_struck 38 = .ok (.aload_n 3, 1) := by decide +kernel
theorem dX11_struck_39 : decode cX11_struck 39 = .ok (.getfield 92, 3) := by decide +kernel
theorem dX11_struck_42 : decode cX11_struck 42 = .ok (.if_icmp .ge 11, 3) := by decide +kernel
theorem dX11_struck_45 : decode cX11_struck 45 = .ok (.aload_n 3, 1) := by decide +kernel
theorem dX11_struck_46 : decode cX11_struck 46 = .ok (.getfield 141, 3) := by decide +kernel
theorem dX11_struck_49 : decode cX11_struck 49 = .ok (.iconst 1, 1) := by decide +kernel
theorem dX11_struck_50 : decode cX11_struck 50 = .ok (.if_icmp .ge 5, 3) := by decide +kernel
theorem dX11_struck_53 : decode cX11_struck 53 = .ok (.iconst (-1), 1) := by decide +kernel
theorem dX11_struck_54 : decode cX11_struck 54 = .ok (.ireturn, 1) := by decide +kernel
theorem dX11_struck_55 : decode cX11_struck 55 = .ok (.aload_n 3, 1) := by decide +kernel
theorem dX11_struck_56 : decode cX11_struck 56 = .ok (.iload_n 2, 1) := by decide +kernel
theorem dX11_struck_57 : decode cX11_struck 57 = .ok (.invokevirtual 259, 3) := by decide +kernel
theorem dX11_struck_60 : decode cX11_struck 60 = .ok (.istore 5, 2) := by decide +kernel
theorem dX11_struck_62 : decode cX11_struck 62 = .ok (.iload 5, 2) := by decide +kernel
theorem dX11_struck_64 : decode cX11_struck 64 = .ok (.aload_n 3, 1) := by decide +kernel
theorem dX11_struck_65 : decode cX11_struck 65 = .ok (.getfield 144, 3) := by decide +kernel
theorem dX11_struck_68 : decode cX11_struck 68 = .ok (.if_icmp .lt 7, 3) := by decide +kernel
theorem dX11_struck_71 : decode cX11_struck 71 = .ok (.iconst 0, 1) := by decide +kernel
theorem dX11_struck_72 : decode cX11_struck 72 = .ok (.goto 5, 3) := by decide +kernel
theorem dX11_struck_75 : decode cX11_struck 75 = .ok (.iload 5, 2) := by decide +kernel
theorem dX11_struck_77 : decode cX11_struck 77 = .ok (.istore 6, 2) := by decide +kernel
theorem dX11_struck_79 : decode cX11_struck 79 = .ok (.iload_n 1, 1) := by decide +kernel
theorem dX11_struck_80 : decode cX11_struck 80 = .ok (.iload 5, 2) := by decide +kernel
theorem dX11_struck_82 : decode cX11_struck 82 = .ok (.aload_n 3, 1) := by decide +kernel
theorem dX11_struck_83 : decode cX11_struck 83 = .ok (.getfield 141, 3) := by decide +kernel
theorem dX11_struck_86 : decode cX11_struck 86 = .ok (.imul, 1) := by decide +kernel
theorem dX11_struck_87 : decode cX11_struck 87 = .ok (.iadd, 1) := by decide +kernel
theorem dX11_struck_88 : decode cX11_struck 88 = .ok (.iload_n 2, 1) := by decide +kernel
theorem dX11_struck_89 : decode cX11_struck 89 = .ok (.isub, 1) := by decide +kernel
theorem dX11_struck_90 : decode cX11_struck 90 = .ok (.istore 7, 2) := by decide +kernel
theorem dX11_struck_92 : decode cX11_struck 92 = .ok (.iload 7, 2) := by decide +kernel
theorem dX11_struck_94 : decode cX11_struck 94 = .ok (.aload 4, 2) := by decide +kernel
theorem dX11_struck_96 : decode cX11_struck 96 = .ok (.getfield 114, 3) := by decide +kernel
theorem dX11_struck_99 : decode cX11_struck 99 = .ok (.if_icmp .ge 42, 3) := by decide +kernel
theorem dX11_struck_102 : decode cX11_struck 102 = .ok (.aload_n 3, 1) := by decide +kernel
theorem dX11_struck_103 : decode cX11_struck 103 = .ok (.iload 6, 2) := by decide +kernel
theorem dX11_struck_105 : decode cX11_struck 105 = .ok (.aload 4, 2) := by decide +kernel
theorem dX11_struck_107 : decode cX11_struck 107 = .ok (.iload 7, 2) := by decide +kernel
theorem dX11_struck_109 : decode cX11_struck 109 = .ok (.invokevirtual 185, 3) := by decide +kernel
theorem dX11_struck_112 : decode cX11_struck 112 = .ok (.invokevirtual 262, 3) := by decide +kernel
theorem dX11_struck_115 : decode cX11_struck 115 = .ok (.ifCond .eq 6, 3) := by decide +kernel
theorem dX11_struck_118 : decode cX11_struck 118 = .ok (.iload 7, 2) := by decide +kernel
theorem dX11_struck_120 : decode cX11_struck 120 = .ok (.ireturn, 1) := by decide +kernel
theorem dX11_struck_121 : decode cX11_struck 121 = .ok (.aload_n 3, 1) := by decide +kernel
theorem dX11_struck_122 : decode cX11_struck 122 = .ok (.iload 6, 2) := by decide +kernel
theorem dX11_struck_124 : decode cX11_struck 124 = .ok (.invokevirtual 266, 3) := by decide +kernel
theorem dX11_struck_127 : decode cX11_struck 127 = .ok (.istore 6, 2) := by decide +kernel
theorem dX11_struck_129 : decode cX11_struck 129 = .ok (.iload 7, 2) := by decide +kernel
theorem dX11_struck_131 : decode cX11_struck 131 = .ok (.aload_n 3, 1) := by decide +kernel
theorem dX11_struck_132 : decode cX11_struck 132 = .ok (.getfield 141, 3) := by decide +kernel
theorem dX11_struck_135 : decode cX11_struck 135 = .ok (.iadd, 1) := by decide +kernel
theorem dX11_struck_136 : decode cX11_struck 136 = .ok (.istore 7, 2) := by decide +kernel
theorem dX11_struck_138 : decode cX11_struck 138 = .ok (.goto (-46), 3) := by decide +kernel
theorem dX11_struck_141 : decode cX11_struck 141 = .ok (.iconst (-1), 1) := by decide +kernel
theorem dX11_struck_142 : decode cX11_struck 142 = .ok (.ireturn, 1) := by decide +kernel
set_option maxRecDepth 20000 in
theorem ggX11_locks_X4_begin : GoodIn wsX11_locks wsX4_begin := gi_e e_wsX11_locks e_wsX4_begin (by decide +kernel)
set_option maxRecDepth 20000 in
theorem gX11_locks_X4_begin : GoodIn wsX11_locks (wsV RX11 269 RX4 yX4_begin wsX4_begin) := goodIn_app (gi_e e_wsX11_locks (ce fw_5184 (ce fw_2130 (ce fw_2131 (ce fw_1031 (cn))))) (by decide +kernel)) ggX11_locks_X4_begin
set_option maxRecDepth 20000 in
theorem ggX11_locks_X4_take : GoodIn wsX11_locks wsX4_take := gi_e e_wsX11_locks e_wsX4_take (by decide +kernel)
set_option maxRecDepth 20000 in
theorem gX11_locks_X4_take : GoodIn wsX11_locks (wsV RX11 272 RX4 yX4_take wsX4_take) := goodIn_app (gi_e e_wsX11_locks (ce fw_5185 (ce fw_3185 (ce fw_3186 (ce fw_1031 (cn))))) (by decide +kernel)) ggX11_locks_X4_take
theorem dX11_locks_0 : decode cX11_locks 0 = .ok (.aload_n 0, 1) := by decide +kernel
theorem dX11_locks_1 : decode cX11_locks 1 = .ok (.getfield 12, 3) := by decide +kernel
theorem dX11_locks_4 : decode cX11_locks 4 = .ok (.getfield 83, 3) := by decide +kernel
theorem dX11_locks_7 : decode cX11_locks 7 = .ok (.getfield 110, 3) := by decide +kernel
theorem dX11_locks_10 : decode cX11_locks 10 = .ok (.astore_n 2, 1) := by decide +kernel
theorem dX11_locks_11 : decode cX11_locks 11 = .ok (.iload_n 1, 1) := by decide +kernel
theorem dX11_locks_12 : decode cX11_locks 12 = .ok (.ifCond .lt 11, 3) := by decide +kernel
theorem dX11_locks_15 : decode cX11_locks 15 = .ok (.iload_n 1, 1) := by decide +kernel
theorem dX11_locks_16 : decode cX11_locks 16 = .ok (.aload_n 2, 1) := by decide +kernel
theorem dX11_locks_17 : decode cX11_locks 17 = .ok (.getfield 114, 3) := by decide +kernel
theorem dX11_locks_20 : decode cX11_locks 20 = .ok (.if_icmp .lt 5, 3) := by decide +kernel
theorem dX11_locks_23 : decode cX11_locks 23 = .ok (.iconst (-1), 1) := by decide +kernel
theorem dX11_locks_24 : decode cX11_locks 24 = .ok (.ireturn, 1) := by decide +kernel
theorem dX11_locks_25 : decode cX11_locks 25 = .ok (.aload_n 0, 1) := by decide +kernel
theorem dX11_locks_26 : decode cX11_locks 26 = .ok (.getfield 33, 3) := by decide +kernel
theorem dX11_locks_29 : decode cX11_locks 29 = .ok (.getfield 192, 3) := by decide +kernel
theorem dX11_locks_32 : decode cX11_locks 32 = .ok (.astore_n 3, 1) := by decide +kernel
theorem dX11_locks_33 : decode cX11_locks 33 = .ok (.aload_n 3, 1) := by decide +kernel
theorem dX11_locks_34 : decode cX11_locks 34 = .ok (.aload_n 0, 1) := by decide +kernel
theorem dX11_locks_35 : decode cX11_locks 35 = .ok (.getfield 12, 3) := by decide +kernel
theorem dX11_locks_38 : decode cX11_locks 38 = .ok (.getfield 70, 3) := by decide +kernel
theorem dX11_locks_41 : decode cX11_locks 41 = .ok (.invokevirtual 269, 3) := by decide +kernel
theorem dX11_locks_44 : decode cX11_locks 44 = .ok (.iload_n 1, 1) := by decide +kernel
theorem dX11_locks_45 : decode cX11_locks 45 = .ok (.istore 4, 2) := by decide +kernel
theorem dX11_locks_47 : decode cX11_locks 47 = .ok (.iload 4, 2) := by decide +kernel
theorem dX11_locks_49 : decode cX11_locks 49 = .ok (.aload_n 2, 1) := by decide +kernel
theorem dX11_locks_50 : decode cX11_locks 50 = .ok (.getfield 114, 3) := by decide +kernel
theorem dX11_locks_53 : decode cX11_locks 53 = .ok (.if_icmp .ge 37, 3) := by decide +kernel
theorem dX11_locks_56 : decode cX11_locks 56 = .ok (.aload_n 3, 1) := by decide +kernel
theorem dX11_locks_57 : decode cX11_locks 57 = .ok (.aload_n 0, 1) := by decide +kernel
theorem dX11_locks_58 : decode cX11_locks 58 = .ok (.getfield 12, 3) := by decide +kernel
theorem dX11_locks_61 : decode cX11_locks 61 = .ok (.getfield 70, 3) := by decide +kernel
theorem dX11_locks_64 : decode cX11_locks 64 = .ok (.aload_n 2, 1) := by decide +kernel
theorem dX11_locks_65 : decode cX11_locks 65 = .ok (.iload 4, 2) := by decide +kernel
theorem dX11_locks_67 : decode cX11_locks 67 = .ok (.invokevirtual 272, 3) := by decide +kernel
theorem dX11_locks_70 : decode cX11_locks 70 = .ok (.aload_n 3, 1) := by decide +kernel
theorem dX11_locks_71 : decode cX11_locks 71 = .ok (.getfield 276, 3) := by decide +kernel
theorem dX11_locks_74 : decode cX11_locks 74 = .ok (.ifCond .le 10, 3) := by decide +kernel
theorem dX11_locks_77 : decode cX11_locks 77 = .ok (.iload 4, 2) := by decide +kernel
theorem dX11_locks_79 : decode cX11_locks 79 = .ok (.iconst 1, 1) := by decide +kernel
theorem dX11_locks_80 : decode cX11_locks 80 = .ok (.iadd, 1) := by decide +kernel
theorem dX11_locks_81 : decode cX11_locks 81 = .ok (.iload_n 1, 1) := by decide +kernel
theorem dX11_locks_82 : decode cX11_locks 82 = .ok (.isub, 1) := by decide +kernel
theorem dX11_locks_83 : decode cX11_locks 83 = .ok (.ireturn, 1) := by decide +kernel
theorem dX11_locks_84 : decode cX11_locks 84 = .ok (.iinc 4 1, 3) := by decide +kernel
theorem dX11_locks_87 : decode cX11_locks 87 = .ok (.goto (-40), 3) := by decide +kernel
theorem dX11_locks_90 : decode cX11_locks 90 = .ok (.iconst (-1), 1) := by decide +kernel
theorem dX11_locks_91 : decode cX11_locks 91 = .ok (.ireturn, 1) := by decide +kernel
set_option maxRecDepth 20000 in
theorem ggX11_from_X4_begin : GoodIn wsX11_from wsX4_begin := gi_e e_wsX11_from e_wsX4_begin (by decide +kernel)
set_option maxRecDepth 20000 in
theorem gX11_from_X4_begin : GoodIn wsX11_from (wsV RX11 269 RX4 yX4_begin wsX4_begin) := goodIn_app (gi_e e_wsX11_from (ce fw_5184 (ce fw_2130 (ce fw_2131 (ce fw_1031 (cn))))) (by decide +kernel)) ggX11_from_X4_begin
set_option maxRecDepth 20000 in
theorem ggX11_from_X4_take : GoodIn wsX11_from wsX4_take := gi_e e_wsX11_from e_wsX4_take (by decide +kernel)
set_option maxRecDepth 20000 in
theorem gX11_from_X4_take : GoodIn wsX11_from (wsV RX11 272 RX4 yX4_take wsX4_take) := goodIn_app (gi_e e_wsX11_from (ce fw_5185 (ce fw_3185 (ce fw_3186 (ce fw_1031 (cn))))) (by decide +kernel)) ggX11_from_X4_take
set_option maxRecDepth 20000 in
theorem ggX11_from_X4_tell : GoodIn wsX11_from wsX4_tell := gi_e e_wsX11_from e_wsX4_tell (by decide +kernel)
set_option maxRecDepth 20000 in
theorem gX11_from_X4_tell : GoodIn wsX11_from (wsV RX11 196 RX4 yX4_tell wsX4_tell) := goodIn_app (gi_e e_wsX11_from (ce fw_4099 (ce fw_4100 (ce fw_4101 (ce fw_1031 (cn))))) (by decide +kernel)) ggX11_from_X4_tell
theorem dX11_from_0 : decode cX11_from 0 = .ok (.aload_n 0, 1) := by decide +kernel
theorem dX11_from_1 : decode cX11_from 1 = .ok (.getfield 12, 3) := by decide +kernel
theorem dX11_from_4 : decode cX11_from 4 = .ok (.getfield 83, 3) := by decide +kernel
theorem dX11_from_7 : decode cX11_from 7 = .ok (.getfield 110, 3) := by decide +kernel
theorem dX11_from_10 : decode cX11_from 10 = .ok (.astore_n 3, 1) := by decide +kernel
theorem dX11_from_11 : decode cX11_from 11 = .ok (.iload_n 1, 1) := by decide +kernel
theorem dX11_from_12 : decode cX11_from 12 = .ok (.ifCond .lt 21, 3) := by decide +kernel
theorem dX11_from_15 : decode cX11_from 15 = .ok (.iload_n 1, 1) := by decide +kernel
theorem dX11_from_16 : decode cX11_from 16 = .ok (.aload_n 3, 1) := by decide +kernel
theorem dX11_from_17 : decode cX11_from 17 = .ok (.getfield 114, 3) := by decide +kernel
theorem dX11_from_20 : decode cX11_from 20 = .ok (.if_icmp .ge 13, 3) := by decide +kernel
theorem dX11_from_23 : decode cX11_from 23 = .ok (.iload_n 2, 1) := by decide +kernel
theorem dX11_from_24 : decode cX11_from 24 = .ok (.ifCond .lt 9, 3) := by decide +kernel
theorem dX11_from_27 : decode cX11_from 27 = .ok (.iload_n 2, 1) := by decide +kernel
theorem dX11_from_28 : decode cX11_from 28 = .ok (.bipush 18, 2) := by decide +kernel
theorem dX11_from_30 : decode cX11_from 30 = .ok (.if_icmp .lt 5, 3) := by decide +kernel
theorem dX11_from_33 : decode cX11_from 33 = .ok (.iconst (-1), 1) := by decide +kernel
theorem dX11_from_34 : decode cX11_from 34 = .ok (.ireturn, 1) := by decide +kernel
theorem dX11_from_35 : decode cX11_from 35 = .ok (.aload_n 0, 1) := by decide +kernel
theorem dX11_from_36 : decode cX11_from 36 = .ok (.getfield 33, 3) := by decide +kernel
theorem dX11_from_39 : decode cX11_from 39 = .ok (.getfield 192, 3) := by decide +kernel
theorem dX11_from_42 : decode cX11_from 42 = .ok (.astore 4, 2) := by decide +kernel
theorem dX11_from_44 : decode cX11_from 44 = .ok (.aload 4, 2) := by decide +kernel
theorem dX11_from_46 : decode cX11_from 46 = .ok (.aload_n 0, 1) := by decide +kernel
theorem dX11_from_47 : decode cX11_from 47 = .ok (.getfield 12, 3) := by decide +kernel
theorem dX11_from_50 : decode cX11_from 50 = .ok (.getfield 70, 3) := by decide +kernel
theorem dX11_from_53 : decode cX11_from 53 = .ok (.invokevirtual 269, 3) := by decide +kernel
theorem dX11_from_56 : decode cX11_from 56 = .ok (.iload_n 1, 1) := by decide +kernel
theorem dX11_from_57 : decode cX11_from 57 = .ok (.istore 5, 2) := by decide +kernel
theorem dX11_from_59 : decode cX11_from 59 = .ok (.iload 5, 2) := by decide +kernel
theorem dX11_from_61 : decode cX11_from 61 = .ok (.aload_n 3, 1) := by decide +kernel
theorem dX11_from_62 : decode cX11_from 62 = .ok (.getfield 114, 3) := by decide +kernel
theorem dX11_from_65 : decode cX11_from 65 = .ok (.if_icmp .ge 24, 3) := by decide +kernel
theorem dX11_from_68 : decode cX11_from 68 = .ok (.aload 4, 2) := by decide +kernel
theorem dX11_from_70 : decode cX11_from 70 = .ok (.aload_n 0, 1) := by decide +kernel
theorem dX11_from_71 : decode cX11_from 71 = .ok (.getfield 12, 3) := by decide +kernel
theorem dX11_from_74 : decode cX11_from 74 = .ok (.getfield 70, 3) := by decide +kernel
theorem dX11_from_77 : decode cX11_from 77 = .ok (.aload_n 3, 1) := by decide +kernel
theorem dX11_from_78 : decode cX11_from 78 = .ok (.iload 5, 2) := by decide +kernel
theorem dX11_from_80 : decode cX11_from 80 = .ok (.invokevirtual 272, 3) := by decide +kernel
theorem dX11_from_83 : decode cX11_from 83 = .ok (.iinc 5 1, 3) := by decide +kernel
theorem dX11_from_86 : decode cX11_from 86 = .ok (.goto (-27), 3) := by decide +kernel
theorem dX11_from_89 : decode cX11_from 89 = .ok (.aload 4, 2) := by decide +kernel
theorem dX11_from_91 : decode cX11_from 91 = .ok (.aload_n 0, 1) := by decide +kernel
theorem dX11_from_92 : decode cX11_from 92 = .ok (.getfield 12, 3) := by decide +kernel
theorem dX11_from_95 : decode cX11_from 95 = .ok (.getfield 70, 3) := by decide +kernel
theorem dX11_from_98 : decode cX11_from 98 = .ok (.iload_n 2, 1) := by decide +kernel
theorem dX11_from_99 : decode cX11_from 99 = .ok (.invokevirtual 196, 3) := by decide +kernel
theorem dX11_from_102 : decode cX11_from 102 = .ok (.ireturn, 1) := by decide +kernel
set_option maxRecDepth 20000 in
theorem ggX11_fits_X1_begin : GoodIn wsX11_fits wsX1_begin := gi_e e_wsX11_fits e_wsX1_begin (by decide +kernel)
set_option maxRecDepth 20000 in
theorem gX11_fits_X1_begin : GoodIn wsX11_fits (wsV RX11 279 RX1 yX1_begin wsX1_begin) := goodIn_app (gi_e e_wsX11_fits (ce fw_5178 (ce fw_2134 (ce fw_2135 (ce fw_1032 (cn))))) (by decide +kernel)) ggX11_fits_X1_begin
set_option maxRecDepth 20000 in
theorem ggX11_fits_X2_at : GoodIn wsX11_fits wsX2_at := gi_e e_wsX11_fits e_wsX2_at (by decide +kernel)
set_option maxRecDepth 20000 in
theorem gX11_fits_X2_at : GoodIn wsX11_fits (wsV RX11 185 RX2 yX2_at wsX2_at) := goodIn_app (gi_e e_wsX11_fits (ce fw_5160 (ce fw_3173 (ce fw_3174 (ce fw_1035 (cn))))) (by decide +kernel)) ggX11_fits_X2_at
set_option maxRecDepth 20000 in
theorem ggX11_fits_X1_follow : GoodIn wsX11_fits wsX1_follow := gi_e e_wsX11_fits e_wsX1_follow (by decide +kernel)
set_option maxRecDepth 20000 in
theorem gX11_fits_X1_follow : GoodIn wsX11_fits (wsV RX11 283 RX1 yX1_follow wsX1_follow) := goodIn_app (gi_e e_wsX11_fits (ce fw_5179 (ce fw_3194 (ce fw_3195 (ce fw_1032 (cn))))) (by decide +kernel)) ggX11_fits_X1_follow
set_option maxRecDepth 20000 in
theorem ggX11_fits_X1_nth : GoodIn wsX11_fits wsX1_nth := gi_e e_wsX11_fits e_wsX1_nth (by decide +kernel)
set_option maxRecDepth 20000 in
theorem gX11_fits_X1_nth : GoodIn wsX11_fits (wsV RX11 209 RX1 yX1_nth wsX1_nth) := goodIn_app (gi_e e_wsX11_fits (ce fw_5173 (ce fw_3220 (ce fw_3221 (ce fw_1032 (cn))))) (by decide +kernel)) ggX11_fits_X1_nth
theorem dX11_fits_0 : decode cX11_fits 0 = .ok (.aload_n 0, 1) := by decide +kernel
theorem dX11_fits_1 : decode cX11_fits 1 = .ok (.getfield 12, 3) := by decide +kernel
theorem dX11_fits_4 : decode cX11_fits 4 = .ok (.getfield 83, 3) := by decide +kernel
theorem dX11_fits_7 : decode cX11_fits 7 = .ok (.getfield 110, 3) := by decide +kernel
theorem dX11_fits_10 : decode cX11_fits 10 = .ok (.astore_n 3, 1) := by decide +kernel
theorem dX11_fits_11 : decode cX11_fits 11 = .ok (.iload_n 1, 1) := by decide +kernel
theorem dX11_fits_12 : decode cX11_fits 12 = .ok (.ifCond .lt 11, 3) := by decide +kernel
theorem dX11_fits_15 : decode cX11_fits 15 = .ok (.iload_n 1, 1) := by decide +kernel
theorem dX11_fits_16 : decode cX11_fits 16 = .ok (.aload_n 3, 1) := by decide +kernel
theorem dX11_fits_17 : decode cX11_fits 17 = .ok (.getfield 114, 3) := by decide +kernel
theorem dX11_fits_20 : decode cX11_fits 20 = .ok (.if_icmp .le 5, 3) := by decide +kernel
theorem dX11_fits_23 : decode cX11_fits 23 = .ok (.iconst (-1), 1) := by decide +kernel
theorem dX11_fits_24 : decode cX11_fits 24 = .ok (.ireturn, 1) := by decide +kernel
theorem dX11_fits_25 : decode cX11_fits 25 = .ok (.aload_n 0, 1) := by decide +kernel
theorem dX11_fits_26 : decode cX11_fits 26 = .ok (.getfield 33, 3) := by decide +kernel
theorem dX11_fits_29 : decode cX11_fits 29 = .ok (.getfield 192, 3) := by decide +kernel
theorem dX11_fits_32 : decode cX11_fits 32 = .ok (.getfield 205, 3) := by decide +kernel
theorem dX11_fits_35 : decode cX11_fits 35 = .ok (.astore 4, 2) := by decide +kernel
theorem dX11_fits_37 : decode cX11_fits 37 = .ok (.aload 4, 2) := by decide +kernel
theorem dX11_fits_39 : decode cX11_fits 39 = .ok (.aload_n 0, 1) := by decide +kernel
theorem dX11_fits_40 : decode cX11_fits 40 = .ok (.getfield 12, 3) := by decide +kernel
theorem dX11_fits_43 : decode cX11_fits 43 = .ok (.getfield 70, 3) := by decide +kernel
theorem dX11_fits_46 : decode cX11_fits 46 = .ok (.invokevirtual 279, 3) := by decide +kernel
theorem dX11_fits_49 : decode cX11_fits 49 = .ok (.iconst 0, 1) := by decide +kernel
theorem dX11_fits_50 : decode cX11_fits 50 = .ok (.istore 5, 2) := by decide +kernel
theorem dX11_fits_52 : decode cX11_fits 52 = .ok (.iload 5, 2) := by decide +kernel
theorem dX11_fits_54 : decode cX11_fits 54 = .ok (.iload_n 1, 1) := by decide +kernel
theorem dX11_fits_55 : decode cX11_fits 55 = .ok (.if_icmp .ge 35, 3) := by decide +kernel
theorem dX11_fits_58 : decode cX11_fits 58 = .ok (.aload 4, 2) := by decide +kernel
theorem dX11_fits_60 : decode cX11_fits 60 = .ok (.getfield 280, 3) := by decide +kernel
theorem dX11_fits_63 : decode cX11_fits 63 = .ok (.ifCond .le 27, 3) := by decide +kernel
theorem dX11_fits_66 : decode cX11_fits 66 = .ok (.aload 4, 2) := by decide +kernel
theorem dX11_fits_68 : decode cX11_fits 68 = .ok (.aload_n 0, 1) := by decide +kernel
theorem dX11_fits_69 : decode cX11_fits 69 = .ok (.getfield 12, 3) := by decide +kernel
theorem dX11_fits_72 : decode cX11_fits 72 = .ok (.getfield 70, 3) := by decide +kernel
theorem dX11_fits_75 : decode cX11_fits 75 = .ok (.aload_n 3, 1) := by decide +kernel
theorem dX11_fits_76 : decode cX11_fits 76 = .ok (.iload 5, 2) := by decide +kernel
theorem dX11_fits_78 : decode cX11_fits 78 = .ok (.invokevirtual 185, 3) := by decide +kernel
theorem dX11_fits_81 : decode cX11_fits 81 = .ok (.invokevirtual 283, 3) := by decide +kernel
theorem dX11_fits_84 : decode cX11_fits 84 = .ok (.iinc 5 1, 3) := by decide +kernel
theorem dX11_fits_87 : decode cX11_fits 87 = .ok (.goto (-35), 3) := by decide +kernel
theorem dX11_fits_90 : decode cX11_fits 90 = .ok (.iload_n 2, 1) := by decide +kernel
theorem dX11_fits_91 : decode cX11_fits 91 = .ok (.iconst (-1), 1) := by decide +kernel
theorem dX11_fits_92 : decode cX11_fits 92 = .ok (.if_icmp .ne 11, 3) := by decide +kernel
theorem dX11_fits_95 : decode cX11_fits 95 = .ok (.aload 4, 2) := by decide +kernel
theorem dX11_fits_97 : decode cX11_fits 97 = .ok (.getfield 280, 3) := by decide +kernel
theorem dX11_fits_100 : decode cX11_fits 100 = .ok (.goto 16, 3) := by decide +kernel
theorem dX11_fits_103 : decode cX11_fits 103 = .ok (.aload 4, 2) := by decide +kernel
theorem dX11_fits_105 : decode cX11_fits 105 = .ok (.aload_n 0, 1) := by decide +kernel
theorem dX11_fits_106 : decode cX11_fits 106 = .ok (.getfield 12, 3) := by decide +kernel
theorem dX11_fits_109 : decode cX11_fits 109 = .ok (.getfield 70, 3) := by decide +kernel
theorem dX11_fits_112 : decode cX11_fits 112 = .ok (.iload_n 2, 1) := by decide +kernel
theorem dX11_fits_113 : decode cX11_fits 113 = .ok (.invokevirtual 209, 3) := by decide +kernel
theorem dX11_fits_116 : decode cX11_fits 116 = .ok (.ireturn, 1) := by decide +kernel
set_option maxRecDepth 20000 in
theorem ggX11_remember_X9_copyFrom : GoodIn wsX11_remember wsX9_copyFrom := gi_e e_wsX11_remember e_wsX9_copyFrom (by decide +kernel)
set_option maxRecDepth 20000 in
theorem gX11_remember_X9_copyFrom : GoodIn wsX11_remember (wsV RX11 138 RX9 yX9_copyFrom wsX9_copyFrom) := goodIn_app (gi_e e_wsX11_remember (ce fw_3097 (ce fw_3098 (ce fw_3099 (ce fw_1029 (cn))))) (by decide +kernel)) ggX11_remember_X9_copyFrom
theorem dX11_remember_0 : decode cX11_remember 0 = .ok (.aload_n 0, 1) := by decide +kernel
theorem dX11_remember_1 : decode cX11_remember 1 = .ok (.getfield 89, 3) := by decide +kernel
theorem dX11_remember_4 : decode cX11_remember 4 = .ok (.bipush 6, 2) := by decide +kernel
theorem dX11_remember_6 : decode cX11_remember 6 = .ok (.if_icmp .lt 50, 3) := by decide +kernel
theorem dX11_remember_9 : decode cX11_remember 9 = .ok (.aload_n 0, 1) := by decide +kernel
theorem dX11_remember_10 : decode cX11_remember 10 = .ok (.getfield 26, 3) := by decide +kernel
theorem dX11_remember_13 : decode cX11_remember 13 = .ok (.iconst 0, 1) := by decide +kernel
theorem dX11_remember_14 : decode cX11_remember 14 = .ok (.aaload, 1) := by decide +kernel
theorem dX11_remember_15 : decode cX11_remember 15 = .ok (.astore_n 1, 1) := by decide +kernel
theorem dX11_remember_16 : decode cX11_remember 16 = .ok (.iconst 1, 1) := by decide +kernel
theorem dX11_remember_17 : decode cX11_remember 17 = .ok (.istore_n 2, 1) := by decide +kernel
theorem dX11_remember_18 : decode cX11_remember 18 = .ok (.iload_n 2, 1) := by decide +kernel
theorem dX11_remember_19 : decode cX11_remember 19 = .ok (.bipush 6, 2) := by decide +kernel
theorem dX11_remember_21 : decode cX11_remember 21 = .ok (.if_icmp .ge 23, 3) := by decide +kernel
theorem dX11_remember_24 : decode cX11_remember 24 = .ok (.aload_n 0, 1) := by decide +kernel
theorem dX11_remember_25 : decode cX11_remember 25 = .ok (.getfield 26, 3) := by decide +kernel
theorem dX11_remember_28 : decode cX11_remember 28 = .ok (.iload_n 2, 1) := by decide +kernel
theorem dX11_remember_29 : decode cX11_remember 29 = .ok (.iconst 1, 1) := by decide +kernel
theorem dX11_remember_30 : decode cX11_remember 30 = .ok (.isub, 1) := by decide +kernel
theorem dX11_remember_31 : decode cX11_remember 31 = .ok (.aload_n 0, 1) := by decide +kernel
theorem dX11_remember_32 : decode cX11_remember 32 = .ok (.getfield 26, 3) := by decide +kernel
theorem dX11_remember_35 : decode cX11_remember 35 = .ok (.iload_n 2, 1) := by decide +kernel
theorem dX11_remember_36 : decode cX11_remember 36 = .ok (.aaload, 1) := by decide +kernel
theorem dX11_remember_37 : decode cX11_remember 37 = .ok (.aastore, 1) := by decide +kernel
theorem dX11_remember_38 : decode cX11_remember 38 = .ok (.iinc 2 1, 3) := by decide +kernel
theorem dX11_remember_41 : decode cX11_remember 41 = .ok (.goto (-23), 3) := by decide +kernel
theorem dX11_remember_44 : decode cX11_remember 44 = .ok (.aload_n 0, 1) := by decide +kernel
theorem dX11_remember_45 : decode cX11_remember 45 = .ok (.getfield 26, 3) := by decide +kernel
theorem dX11_remember_48 : decode cX11_remember 48 = .ok (.iconst 5, 1) := by decide +kernel
theorem dX11_remember_49 : decode cX11_remember 49 = .ok (.aload_n 1, 1) := by decide +kernel
theorem dX11_remember_50 : decode cX11_remember 50 = .ok (.aastore, 1) := by decide +kernel
theorem dX11_remember_51 : decode cX11_remember 51 = .ok (.aload_n 0, 1) := by decide +kernel
theorem dX11_remember_52 : decode cX11_remember 52 = .ok (.iconst 5, 1) := by decide +kernel
theorem dX11_remember_53 : decode cX11_remember 53 = .ok (.putfield 89, 3) := by decide +kernel
theorem dX11_remember_56 : decode cX11_remember 56 = .ok (.aload_n 0, 1) := by decide +kernel
theorem dX11_remember_57 : decode cX11_remember 57 = .ok (.getfield 26, 3) := by decide +kernel
theorem dX11_remember_60 : decode cX11_remember 60 = .ok (.aload_n 0, 1) := by decide +kernel
theorem dX11_remember_61 : decode cX11_remember 61 = .ok (.getfield 89, 3) := by decide +kernel
theorem dX11_remember_64 : decode cX11_remember 64 = .ok (.aaload, 1) := by decide +kernel
theorem dX11_remember_65 : decode cX11_remember 65 = .ok (.aload_n 0, 1) := by decide +kernel
theorem dX11_remember_66 : decode cX11_remember 66 = .ok (.getfield 12, 3) := by decide +kernel
theorem dX11_remember_69 : decode cX11_remember 69 = .ok (.getfield 83, 3) := by decide +kernel
theorem dX11_remember_72 : decode cX11_remember 72 = .ok (.invokevirtual 138, 3) := by decide +kernel
theorem dX11_remember_75 : decode cX11_remember 75 = .ok (.aload_n 0, 1) := by decide +kernel
theorem dX11_remember_76 : decode cX11_remember 76 = .ok (.dup, 1) := by decide +kernel
theorem dX11_remember_77 : decode cX11_remember 77 = .ok (.getfield 89, 3) := by decide +kernel
theorem dX11_remember_80 : decode cX11_remember 80 = .ok (.iconst 1, 1) := by decide +kernel
theorem dX11_remember_81 : decode cX11_remember 81 = .ok (.iadd, 1) := by decide +kernel
theorem dX11_remember_82 : decode cX11_remember 82 = .ok (.putfield 89, 3) := by decide +kernel
theorem dX11_remember_85 : decode cX11_remember 85 = .ok (.return_, 1) := by decide +kernel
set_option maxRecDepth 20000 in
theorem ggX11_channelOnes_X2_at : GoodIn wsX11_channelOnes wsX2_at := gi_e e_wsX11_channelOnes e_wsX2_at (by decide +kernel)
set_option maxRecDepth 20000 in
theorem gX11_channelOnes_X2_at : GoodIn wsX11_channelOnes (wsV RX11 185 RX2 yX2_at wsX2_at) := goodIn_app (gi_e e_wsX11_channelOnes (ce fw_5160 (ce fw_3173 (ce fw_3174 (ce fw_1035 (cn))))) (by decide +kernel)) ggX11_channelOnes_X2_at
theorem dX11_channelOnes_0 : decode cX11_channelOnes 0 = .ok (.iload_n 1, 1) := by decide +kernel
theorem dX11_channelOnes_1 : decode cX11_channelOnes 1 = .ok (.aload_n 0, 1) := by decide +kernel
theorem dX11_channelOnes_2 : decode cX11_channelOnes 2 = .ok (.getfield 12, 3) := by decide +kernel
theorem dX11_channelOnes_5 : decode cX11_channelOnes 5 = .ok (.getfield 70, 3) := by decide +kernel
theorem dX11_channelOnes_8 : decode cX11_channelOnes 8 = .ok (.getfield 168, 3) := by decide +kernel
theorem dX11_channelOnes_11 : decode cX11_channelOnes 11 = .ok (.aload_n 0, 1) := by decide +kernel
theorem dX11_channelOnes_12 : decode cX11_channelOnes 12 = .ok (.getfield 12, 3) := by decide +kernel
theorem dX11_channelOnes_15 : decode cX11_channelOnes 15 = .ok (.getfield 70, 3) := by decide +kernel
theorem dX11_channelOnes_18 : decode cX11_channelOnes 18 = .ok (.getfield 150, 3) := by decide +kernel
theorem dX11_channelOnes_21 : decode cX11_channelOnes 21 = .ok (.imul, 1) := by decide +kernel
theorem dX11_channelOnes_22 : decode cX11_channelOnes 22 = .ok (.iadd, 1) := by decide +kernel
theorem dX11_channelOnes_23 : decode cX11_channelOnes 23 = .ok (.istore_n 2, 1) := by decide +kernel
theorem dX11_channelOnes_24 : decode cX11_channelOnes 24 = .ok (.iconst 0, 1) := by decide +kernel
theorem dX11_channelOnes_25 : decode cX11_channelOnes 25 = .ok (.istore_n 3, 1) := by decide +kernel
theorem dX11_channelOnes_26 : decode cX11_channelOnes 26 = .ok (.iload_n 1, 1) := by decide +kernel
theorem dX11_channelOnes_27 : decode cX11_channelOnes 27 = .ok (.iconst 1, 1) := by decide +kernel
theorem dX11_channelOnes_28 : decode cX11_channelOnes 28 = .ok (.iadd, 1) := by decide +kernel
theorem dX11_channelOnes_29 : decode cX11_channelOnes 29 = .ok (.istore 4, 2) := by decide +kernel
theorem dX11_channelOnes_31 : decode cX11_channelOnes 31 = .ok (.iload 4, 2) := by decide +kernel
theorem dX11_channelOnes_33 : decode cX11_channelOnes 33 = .ok (.iload_n 2, 1) := by decide +kernel
theorem dX11_channelOnes_34 : decode cX11_channelOnes 34 = .ok (.if_icmp .gt 27, 3) := by decide +kernel
theorem dX11_channelOnes_37 : decode cX11_channelOnes 37 = .ok (.iload_n 3, 1) := by decide +kernel
theorem dX11_channelOnes_38 : decode cX11_channelOnes 38 = .ok (.aload_n 0, 1) := by decide +kernel
theorem dX11_channelOnes_39 : decode cX11_channelOnes 39 = .ok (.getfield 12, 3) := by decide +kernel
theorem dX11_channelOnes_42 : decode cX11_channelOnes 42 = .ok (.getfield 83, 3) := by decide +kernel
theorem dX11_channelOnes_45 : decode cX11_channelOnes 45 = .ok (.getfield 110, 3) := by decide +kernel
theorem dX11_channelOnes_48 : decode cX11_channelOnes 48 = .ok (.iload 4, 2) := by decide +kernel
theorem dX11_channelOnes_50 : decode cX11_channelOnes 50 = .ok (.invokevirtual 185, 3) := by decide +kernel
theorem dX11_channelOnes_53 : decode cX11_channelOnes 53 = .ok (.iadd, 1) := by decide +kernel
theorem dX11_channelOnes_54 : decode cX11_channelOnes 54 = .ok (.istore_n 3, 1) := by decide +kernel
theorem dX11_channelOnes_55 : decode cX11_channelOnes 55 = .ok (.iinc 4 1, 3) := by decide +kernel
theorem dX11_channelOnes_58 : decode cX11_channelOnes 58 = .ok (.goto (-27), 3) := by decide +kernel
theorem dX11_channelOnes_61 : decode cX11_channelOnes 61 = .ok (.iload_n 3, 1) := by decide +kernel
theorem dX11_channelOnes_62 : decode cX11_channelOnes 62 = .ok (.ireturn, 1) := by decide +kernel
set_option maxRecDepth 20000 in
theorem ggX11_channelNumber_X2_at : GoodIn wsX11_channelNumber wsX2_at := gi_e e_wsX11_channelNumber e_wsX2_at (by decide +kernel)
set_option maxRecDepth 20000 in
theorem gX11_channelNumber_X2_at : GoodIn wsX11_channelNumber (wsV RX11 185 RX2 yX2_at wsX2_at) := goodIn_app (gi_e e_wsX11_channelNumber (ce fw_5160 (ce fw_3173 (ce fw_3174 (ce fw_1035 (cn))))) (by decide +kernel)) ggX11_channelNumber_X2_at
theorem dX11_channelNumber_0 : decode cX11_channelNumber 0 = .ok (.aload_n 0, 1) := by decide +kernel
theorem dX11_channelNumber_1 : decode cX11_channelNumber 1 = .ok (.getfield 12, 3) := by decide +kernel
theorem dX11_channelNumber_4 : decode cX11_channelNumber 4 = .ok (.getfield 70, 3) := by decide +kernel
theorem dX11_channelNumber_7 : decode cX11_channelNumber 7 = .ok (.astore_n 3, 1) := by decide +kernel
theorem dX11_channelNumber_8 : decode cX11_channelNumber 8 = .ok (.iload_n 2, 1) := by decide +kernel
theorem dX11_channelNumber_9 : decode cX11_channelNumber 9 = .ok (.ifCond .lt 11, 3) := by decide +kernel
theorem dX11_channelNumber_12 : decode cX11_channelNumber 12 = .ok (.iload_n 2, 1) := by decide +kernel
theorem dX11_channelNumber_13 : decode cX11_channelNumber 13 = .ok (.aload_n 3, 1) := by decide +kernel
theorem dX11_channelNumber_14 : decode cX11_channelNumber 14 = .ok (.getfield 168, 3) := by decide +kernel
theorem dX11_channelNumber_17 : decode cX11_channelNumber 17 = .ok (.if_icmp .lt 5, 3) := by decide +kernel
theorem dX11_channelNumber_20 : decode cX11_channelNumber 20 = .ok (.iconst (-1), 1) := by decide +kernel
theorem dX11_channelNumber_21 : decode cX11_channelNumber 21 = .ok (.ireturn, 1) := by decide +kernel
theorem dX11_channelNumber_22 : decode cX11_channelNumber 22 = .ok (.iload_n 1, 1) := by decide +kernel
theorem dX11_channelNumber_23 : decode cX11_channelNumber 23 = .ok (.iconst 1, 1) := by decide +kernel
theorem dX11_channelNumber_24 : decode cX11_channelNumber 24 = .ok (.iadd, 1) := by decide +kernel
theorem dX11_channelNumber_25 : decode cX11_channelNumber 25 = .ok (.iload_n 2, 1) := by decide +kernel
theorem dX11_channelNumber_26 : decode cX11_channelNumber 26 = .ok (.aload_n 3, 1) := by decide +kernel
theorem dX11_channelNumber_27 : decode cX11_channelNumber 27 = .ok (.getfield 150, 3) := by decide +kernel
theorem dX11_channelNumber_30 : decode cX11_channelNumber 30 = .ok (.imul, 1) := by decide +kernel
theorem dX11_channelNumber_31 : decode cX11_channelNumber 31 = .ok (.iadd, 1) := by decide +kernel
theorem dX11_channelNumber_32 : decode cX11_channelNumber 32 = .ok (.istore 4, 2) := by decide +kernel
theorem dX11_channelNumber_34 : decode cX11_channelNumber 34 = .ok (.iconst 0, 1) := by decide +kernel
theorem dX11_channelNumber_35 : decode cX11_channelNumber 35 = .ok (.istore 5, 2) := by decide +kernel
theorem dX11_channelNumber_37 : decode cX11_channelNumber 37 = .ok (.iconst 0, 1) := by decide +kernel
theorem dX11_channelNumber_38 : decode cX11_channelNumber 38 = .ok (.istore 6, 2) := by decide +kernel
theorem dX11_channelNumber_40 : decode cX11_channelNumber 40 = .ok (.iload 6, 2) := by decide +kernel
theorem dX11_channelNumber_42 : decode cX11_channelNumber 42 = .ok (.aload_n 3, 1) := by decide +kernel
theorem dX11_channelNumber_43 : decode cX11_channelNumber 43 = .ok (.getfield 150, 3) := by decide +kernel
theorem dX11_channelNumber_46 : decode cX11_channelNumber 46 = .ok (.if_icmp .ge 34, 3) := by decide +kernel
theorem dX11_channelNumber_49 : decode cX11_channelNumber 49 = .ok (.iload 5, 2) := by decide +kernel
theorem dX11_channelNumber_51 : decode cX11_channelNumber 51 = .ok (.iconst 2, 1) := by decide +kernel
theorem dX11_channelNumber_52 : decode cX11_channelNumber 52 = .ok (.imul, 1) := by decide +kernel
theorem dX11_channelNumber_53 : decode cX11_channelNumber 53 = .ok (.aload_n 0, 1) := by decide +kernel
theorem dX11_channelNumber_54 : decode cX11_channelNumber 54 = .ok (.getfield 12, 3) := by decide +kernel
theorem dX11_channelNumber_57 : decode cX11_channelNumber 57 = .ok (.getfield 83, 3) := by decide +kernel
theorem dX11_channelNumber_60 : decode cX11_channelNumber 60 = .ok (.getfield 110, 3) := by decide +kernel
theorem dX11_channelNumber_63 : decode cX11_channelNumber 63 = .ok (.iload 4, 2) := by decide +kernel
theorem dX11_channelNumber_65 : decode cX11_channelNumber 65 = .ok (.iload 6, 2) := by decide +kernel
theorem dX11_channelNumber_67 : decode cX11_channelNumber 67 = .ok (.iadd, 1) := by decide +kernel
theorem dX11_channelNumber_68 : decode cX11_channelNumber 68 = .ok (.invokevirtual 185, 3) := by decide +kernel
theorem dX11_channelNumber_71 : decode cX11_channelNumber 71 = .ok (.iadd, 1) := by decide +kernel
theorem dX11_channelNumber_72 : decode cX11_channelNumber 72 = .ok (.istore 5, 2) := by decide +kernel
theorem dX11_channelNumber_74 : decode cX11_channelNumber 74 = .ok (.iinc 6 1, 3) := by decide +kernel
theorem dX11_channelNumber_77 : decode cX11_channelNumber 77 = .ok (.goto (-37), 3) := by decide +kernel
theorem dX11_channelNumber_80 : decode cX11_channelNumber 80 = .ok (.iload 5, 2) := by decide +kernel
theorem dX11_channelNumber_82 : decode cX11_channelNumber 82 = .ok (.ireturn, 1) := by decide +kernel
theorem dX12_init_0 : decode cX12_init 0 = .ok (.aload_n 0, 1) := by decide +kernel
theorem dX12_init_1 : decode cX12_init 1 = .ok (.invokespecial 1, 3) := by decide +kernel
theorem dX12_init_4 : decode cX12_init 4 = .ok (.aload_n 0, 1) := by decide +kernel
theorem dX12_init_5 : decode cX12_init 5 = .ok (.iload_n 1, 1) := by decide +kernel
theorem dX12_init_6 : decode cX12_init 6 = .ok (.putfield 7, 3) := by decide +kernel
theorem dX12_init_9 : decode cX12_init 9 = .ok (.return_, 1) := by decide +kernel
theorem dX12_next_0 : decode cX12_next 0 = .ok (.aload_n 0, 1) := by decide +kernel
theorem dX12_next_1 : decode cX12_next 1 = .ok (.aload_n 0, 1) := by decide +kernel
theorem dX12_next_2 : decode cX12_next 2 = .ok (.getfield 7, 3) := by decide +kernel
theorem dX12_next_5 : decode cX12_next 5 = .ok (.ldc 13, 2) := by decide +kernel
theorem dX12_next_7 : decode cX12_next 7 = .ok (.imul, 1) := by decide +kernel
theorem dX12_next_8 : decode cX12_next 8 = .ok (.sipush 12345, 3) := by decide +kernel
theorem dX12_next_11 : decode cX12_next 11 = .ok (.iadd, 1) := by decide +kernel
theorem dX12_next_12 : decode cX12_next 12 = .ok (.putfield 7, 3) := by decide +kernel
theorem dX12_next_15 : decode cX12_next 15 = .ok (.aload_n 0, 1) := by decide +kernel
theorem dX12_next_16 : decode cX12_next 16 = .ok (.getfield 7, 3) := by decide +kernel
theorem dX12_next_19 : decode cX12_next 19 = .ok (.bipush 16, 2) := by decide +kernel
theorem dX12_next_21 : decode cX12_next 21 = .ok (.iushr, 1) := by decide +kernel
theorem dX12_next_22 : decode cX12_next 22 = .ok (.iload_n 1, 1) := by decide +kernel
theorem dX12_next_23 : decode cX12_next 23 = .ok (.irem, 1) := by decide +kernel
theorem dX12_next_24 : decode cX12_next 24 = .ok (.ireturn, 1) := by decide +kernel
theorem dJ6_bitCount_0f7a4_0 : decode cJ6_bitCount_0f7a4 0 = .ok (.iload_n 0, 1) := by decide +kernel
theorem dJ6_bitCount_0f7a4_1 : decode cJ6_bitCount_0f7a4 1 = .ok (.iload_n 0, 1) := by decide +kernel
theorem dJ6_bitCount_0f7a4_2 : decode cJ6_bitCount_0f7a4 2 = .ok (.iconst 1, 1) := by decide +kernel
theorem dJ6_bitCount_0f7a4_3 : decode cJ6_bitCount_0f7a4 3 = .ok (.iushr, 1) := by decide +kernel
theorem dJ6_bitCount_0f7a4_4 : decode cJ6_bitCount_0f7a4 4 = .ok (.ldc_w 265, 3) := by decide +kernel
theorem dJ6_bitCount_0f7a4_7 : decode cJ6_bitCount_0f7a4 7 = .ok (.iand, 1) := by decide +kernel
theorem dJ6_bitCount_0f7a4_8 : decode cJ6_bitCount_0f7a4 8 = .ok (.isub, 1) := by decide +kernel
theorem dJ6_bitCount_0f7a4_9 : decode cJ6_bitCount_0f7a4 9 = .ok (.istore_n 0, 1) := by decide +kernel
theorem dJ6_bitCount_0f7a4_10 : decode cJ6_bitCount_0f7a4 10 = .ok (.iload_n 0, 1) := by decide +kernel
theorem dJ6_bitCount_0f7a4_11 : decode cJ6_bitCount_0f7a4 11 = .ok (.ldc_w 266, 3) := by decide +kernel
theorem dJ6_bitCount_0f7a4_14 : decode cJ6_bitCount_0f7a4 14 = .ok (.iand, 1) := by decide +kernel
theorem dJ6_bitCount_0f7a4_15 : decode cJ6_bitCount_0f7a4 15 = .ok (.iload_n 0, 1) := by decide +kernel
theorem dJ6_bitCount_0f7a4_16 : decode cJ6_bitCount_0f7a4 16 = .ok (.iconst 2, 1) := by decide +kernel
theorem dJ6_bitCount_0f7a4_17 : decode cJ6_bitCount_0f7a4 17 = .ok (.iushr, 1) := by decide +kernel
theorem dJ6_bitCount_0f7a4_18 : decode cJ6_bitCount_0f7a4 18 = .ok (.ldc_w 266, 3) := by decide +kernel
theorem dJ6_bitCount_0f7a4_21 : decode cJ6_bitCount_0f7a4 21 = .ok (.iand, 1) := by decide +kernel
theorem dJ6_bitCount_0f7a4_22 : decode cJ6_bitCount_0f7a4 22 = .ok (.iadd, 1) := by decide +kernel
theorem dJ6_bitCount_0f7a4_23 : decode cJ6_bitCount_0f7a4 23 = .ok (.istore_n 0, 1) := by decide +kernel
theorem dJ6_bitCount_0f7a4_24 : decode cJ6_bitCount_0f7a4 24 = .ok (.iload_n 0, 1) := by decide +kernel
theorem dJ6_bitCount_0f7a4_25 : decode cJ6_bitCount_0f7a4 25 = .ok (.iload_n 0, 1) := by decide +kernel
theorem dJ6_bitCount_0f7a4_26 : decode cJ6_bitCount_0f7a4 26 = .ok (.iconst 4, 1) := by decide +kernel
theorem dJ6_bitCount_0f7a4_27 : decode cJ6_bitCount_0f7a4 27 = .ok (.iushr, 1) := by decide +kernel
theorem dJ6_bitCount_0f7a4_28 : decode cJ6_bitCount_0f7a4 28 = .ok (.iadd, 1) := by decide +kernel
theorem dJ6_bitCount_0f7a4_29 : decode cJ6_bitCount_0f7a4 29 = .ok (.ldc_w 267, 3) := by decide +kernel
theorem dJ6_bitCount_0f7a4_32 : decode cJ6_bitCount_0f7a4 32 = .ok (.iand, 1) := by decide +kernel
theorem dJ6_bitCount_0f7a4_33 : decode cJ6_bitCount_0f7a4 33 = .ok (.istore_n 0, 1) := by decide +kernel
theorem dJ6_bitCount_0f7a4_34 : decode cJ6_bitCount_0f7a4 34 = .ok (.iload_n 0, 1) := by decide +kernel
theorem dJ6_bitCount_0f7a4_35 : decode cJ6_bitCount_0f7a4 35 = .ok (.iload_n 0, 1) := by decide +kernel
theorem dJ6_bitCount_0f7a4_36 : decode cJ6_bitCount_0f7a4 36 = .ok (.bipush 8, 2) := by decide +kernel
theorem dJ6_bitCount_0f7a4_38 : decode cJ6_bitCount_0f7a4 38 = .ok (.iushr, 1) := by decide +kernel
theorem dJ6_bitCount_0f7a4_39 : decode cJ6_bitCount_0f7a4 39 = .ok (.iadd, 1) := by decide +kernel
theorem dJ6_bitCount_0f7a4_40 : decode cJ6_bitCount_0f7a4 40 = .ok (.istore_n 0, 1) := by decide +kernel
theorem dJ6_bitCount_0f7a4_41 : decode cJ6_bitCount_0f7a4 41 = .ok (.iload_n 0, 1) := by decide +kernel
theorem dJ6_bitCount_0f7a4_42 : decode cJ6_bitCount_0f7a4 42 = .ok (.iload_n 0, 1) := by decide +kernel
theorem dJ6_bitCount_0f7a4_43 : decode cJ6_bitCount_0f7a4 43 = .ok (.bipush 16, 2) := by decide +kernel
theorem dJ6_bitCount_0f7a4_45 : decode cJ6_bitCount_0f7a4 45 = .ok (.iushr, 1) := by decide +kernel
theorem dJ6_bitCount_0f7a4_46 : decode cJ6_bitCount_0f7a4 46 = .ok (.iadd, 1) := by decide +kernel
theorem dJ6_bitCount_0f7a4_47 : decode cJ6_bitCount_0f7a4 47 = .ok (.istore_n 0, 1) := by decide +kernel
theorem dJ6_bitCount_0f7a4_48 : decode cJ6_bitCount_0f7a4 48 = .ok (.iload_n 0, 1) := by decide +kernel
theorem dJ6_bitCount_0f7a4_49 : decode cJ6_bitCount_0f7a4 49 = .ok (.bipush 63, 2) := by decide +kernel
theorem dJ6_bitCount_0f7a4_51 : decode cJ6_bitCount_0f7a4 51 = .ok (.iand, 1) := by decide +kernel
theorem dJ6_bitCount_0f7a4_52 : decode cJ6_bitCount_0f7a4 52 = .ok (.ireturn, 1) := by decide +kernel
theorem dJ9_max_7cf53_0 : decode cJ9_max_7cf53 0 = .ok (.iload_n 0, 1) := by decide +kernel
theorem dJ9_max_7cf53_1 : decode cJ9_max_7cf53 1 = .ok (.iload_n 1, 1) := by decide +kernel
theorem dJ9_max_7cf53_2 : decode cJ9_max_7cf53 2 = .ok (.if_icmp .lt 7, 3) := by decide +kernel
theorem dJ9_max_7cf53_5 : decode cJ9_max_7cf53 5 = .ok (.iload_n 0, 1) := by decide +kernel
theorem dJ9_max_7cf53_6 : decode cJ9_max_7cf53 6 = .ok (.goto 4, 3) := by decide +kernel
theorem dJ9_max_7cf53_9 : decode cJ9_max_7cf53 9 = .ok (.iload_n 1, 1) := by decide +kernel
theorem dJ9_max_7cf53_10 : decode cJ9_max_7cf53 10 = .ok (.ireturn, 1) := by decide +kernel
theorem dJ9_min_7cf53_0 : decode cJ9_min_7cf53 0 = .ok (.iload_n 0, 1) := by decide +kernel
theorem dJ9_min_7cf53_1 : decode cJ9_min_7cf53 1 = .ok (.iload_n 1, 1) := by decide +kernel
theorem dJ9_min_7cf53_2 : decode cJ9_min_7cf53 2 = .ok (.if_icmp .gt 7, 3) := by decide +kernel
theorem dJ9_min_7cf53_5 : decode cJ9_min_7cf53 5 = .ok (.iload_n 0, 1) := by decide +kernel
theorem dJ9_min_7cf53_6 : decode cJ9_min_7cf53 6 = .ok (.goto 4, 3) := by decide +kernel
theorem dJ9_min_7cf53_9 : decode cJ9_min_7cf53 9 = .ok (.iload_n 1, 1) := by decide +kernel
theorem dJ9_min_7cf53_10 : decode cJ9_min_7cf53 10 = .ok (.ireturn, 1) := by decide +kernel
set_option maxRecDepth 20000 in
theorem ggJ0_length_8abf5_J0_coder_7d493 : GoodIn wsJ0_length_8abf5 wsJ0_coder_7d493 := gi_e e_wsJ0_length_8abf5 e_wsJ0_coder_7d493 (by decide +kernel)
set_option maxRecDepth 20000 in
theorem gJ0_length_8abf5_J0_coder_7d493 : GoodIn wsJ0_length_8abf5 (wsV RJ0 335 RJ0 yJ0_coder_7d493 wsJ0_coder_7d493) := goodIn_app (gi_e e_wsJ0_length_8abf5 (ce fw_4201 (ce fw_4202 (ce fw_4203 (ce fw_1041 (cn))))) (by decide +kernel)) ggJ0_length_8abf5_J0_coder_7d493
theorem dJ0_length_8abf5_0 : decode cJ0_length_8abf5 0 = .ok (.aload_n 0, 1) := by decide +kernel
theorem dJ0_length_8abf5_1 : decode cJ0_length_8abf5 1 = .ok (.getfield 9, 3) := by decide +kernel
theorem dJ0_length_8abf5_4 : decode cJ0_length_8abf5 4 = .ok (.arraylength, 1) := by decide +kernel
theorem dJ0_length_8abf5_5 : decode cJ0_length_8abf5 5 = .ok (.aload_n 0, 1) := by decide +kernel
theorem dJ0_length_8abf5_6 : decode cJ0_length_8abf5 6 = .ok (.invokevirtual 335, 3) := by decide +kernel
theorem dJ0_length_8abf5_9 : decode cJ0_length_8abf5 9 = .ok (.ishr, 1) := by decide +kernel
theorem dJ0_length_8abf5_10 : decode cJ0_length_8abf5 10 = .ok (.ireturn, 1) := by decide +kernel
set_option maxRecDepth 20000 in
theorem ggJ0_charAt_5068e_J0_isLatin1_aae02 : GoodIn wsJ0_charAt_5068e wsJ0_isLatin1_aae02 := gi_e e_wsJ0_charAt_5068e e_wsJ0_isLatin1_aae02 (by decide +kernel)
set_option maxRecDepth 20000 in
theorem gJ0_charAt_5068e_J0_isLatin1_aae02 : GoodIn wsJ0_charAt_5068e (wsV RJ0 492 RJ0 yJ0_isLatin1_aae02 wsJ0_isLatin1_aae02) := goodIn_app (gi_e e_wsJ0_charAt_5068e (ce fw_4211 (ce fw_4212 (ce fw_4213 (ce fw_1041 (cn))))) (by decide +kernel)) ggJ0_charAt_5068e_J0_isLatin1_aae02
set_option maxRecDepth 20000 in
theorem ggJ0_charAt_5068e_J1_charAt_3b067 : GoodIn wsJ0_charAt_5068e wsJ1_charAt_3b067 := gi_e e_wsJ0_charAt_5068e e_wsJ1_charAt_3b067 (by decide +kernel)
set_option maxRecDepth 20000 in
theorem gJ0_charAt_5068e_J1_charAt_3b067 : GoodIn wsJ0_charAt_5068e (va_wsS RJ0 495 yJ1_charAt_3b067 wsJ1_charAt_3b067) := goodIn_app (gi_e e_wsJ0_charAt_5068e (ce fw_4215 (ce fw_4216 (ce fw_1042 (cn)))) (by decide +kernel)) ggJ0_charAt_5068e_J1_charAt_3b067
set_option maxRecDepth 20000 in
theorem ggJ0_charAt_5068e_J2_charAt_3b067 : GoodIn wsJ0_charAt_5068e wsJ2_charAt_3b067 := gi_e e_wsJ0_charAt_5068e e_wsJ2_charAt_3b067 (by decide +kernel)
set_option maxRecDepth 20000 in
theorem gJ0_charAt_5068e_J2_charAt_3b067 : GoodIn wsJ0_charAt_5068e (va_wsS RJ0 498 yJ2_charAt_3b067 wsJ2_charAt_3b067) := goodIn_app (gi_e e_wsJ0_charAt_5068e (ce fw_4226 (ce fw_4227 (ce fw_1044 (cn)))) (by decide +kernel)) ggJ0_charAt_5068e_J2_charAt_3b067
theorem dJ0_charAt_5068e_0 : decode cJ0_charAt_5068e 0 = .ok (.aload_n 0, 1) := by decide +kernel
theorem dJ0_charAt_5068e_1 : decode cJ0_charAt_5068e 1 = .ok (.invokevirtual 492, 3) := by decide +kernel
theorem dJ0_charAt_5068e_4 : decode cJ0_charAt_5068e 4 = .ok (.ifCond .eq 12, 3) := by decide +kernel
theorem dJ0_charAt_5068e_7 : decode cJ0_charAt_5068e 7 = .ok (.aload_n 0, 1) := by decide +kernel
theorem dJ0_charAt_5068e_8 : decode cJ0_charAt_5068e 8 = .ok (.getfield 9, 3) := by decide +kernel
theorem dJ0_charAt_5068e_11 : decode cJ0_charAt_5068e 11 = .ok (.iload_n 1, 1) := by decide +kernel
theorem dJ0_charAt_5068e_12 : decode cJ0_charAt_5068e 12 = .ok (.invokestatic 495, 3) := by decide +kernel
theorem dJ0_charAt_5068e_15 : decode cJ0_charAt_5068e 15 = .ok (.ireturn, 1) := by decide +kernel
theorem dJ0_charAt_5068e_16 : decode cJ0_charAt_5068e 16 = .ok (.aload_n 0, 1) := by decide +kernel
theorem dJ0_charAt_5068e_17 : decode cJ0_charAt_5068e 17 = .ok (.getfield 9, 3) := by decide +kernel
theorem dJ0_charAt_5068e_20 : decode cJ0_charAt_5068e 20 = .ok (.iload_n 1, 1) := by decide +kernel
theorem dJ0_charAt_5068e_21 : decode cJ0_charAt_5068e 21 = .ok (.invokestatic 498, 3) := by decide +kernel
theorem dJ0_charAt_5068e_24 : decode cJ0_charAt_5068e 24 = .ok (.ireturn, 1) := by decide +kernel
theorem dJ0_coder_7d493_0 : decode cJ0_coder_7d493 0 = .ok (.getstatic 38, 3) := by decide +kernel
theorem dJ0_coder_7d493_3 : decode cJ0_coder_7d493 3 = .ok (.ifCond .eq 10, 3) := by decide +kernel
theorem dJ0_coder_7d493_6 : decode cJ0_coder_7d493 6 = .ok (.aload_n 0, 1) := by decide +kernel
theorem dJ0_coder_7d493_7 : decode cJ0_coder_7d493 7 = .ok (.getfield 15, 3) := by decide +kernel
theorem dJ0_coder_7d493_10 : decode cJ0_coder_7d493 10 = .ok (.goto 4, 3) := by decide +kernel
theorem dJ0_coder_7d493_13 : decode cJ0_coder_7d493 13 = .ok (.iconst 1, 1) := by decide +kernel
theorem dJ0_coder_7d493_14 : decode cJ0_coder_7d493 14 = .ok (.ireturn, 1) := by decide +kernel
theorem dJ0_isLatin1_aae02_0 : decode cJ0_isLatin1_aae02 0 = .ok (.getstatic 38, 3) := by decide +kernel
theorem dJ0_isLatin1_aae02_3 : decode cJ0_isLatin1_aae02 3 = .ok (.ifCond .eq 14, 3) := by decide +kernel
theorem dJ0_isLatin1_aae02_6 : decode cJ0_isLatin1_aae02 6 = .ok (.aload_n 0, 1) := by decide +kernel
theorem dJ0_isLatin1_aae02_7 : decode cJ0_isLatin1_aae02 7 = .ok (.getfield 15, 3) := by decide +kernel
theorem dJ0_isLatin1_aae02_10 : decode cJ0_isLatin1_aae02 10 = .ok (.ifCond .ne 7, 3) := by decide +kernel
theorem dJ0_isLatin1_aae02_13 : decode cJ0_isLatin1_aae02 13 = .ok (.iconst 1, 1) := by decide +kernel
theorem dJ0_isLatin1_aae02_14 : decode cJ0_isLatin1_aae02 14 = .ok (.goto 4, 3) := by decide +kernel
theorem dJ0_isLatin1_aae02_17 : decode cJ0_isLatin1_aae02 17 = .ok (.iconst 0, 1) := by decide +kernel
theorem dJ0_isLatin1_aae02_18 : decode cJ0_isLatin1_aae02 18 = .ok (.ireturn, 1) := by decide +kernel
set_option maxRecDepth 20000 in
theorem ggJ0_checkIndex_df160_J3_checkIndex_8e157 : GoodIn wsJ0_checkIndex_df160 wsJ3_checkIndex_8e157 := gi_e e_wsJ0_checkIndex_df160 e_wsJ3_checkIndex_8e157 (by decide +kernel)
set_option maxRecDepth 20000 in
theorem gJ0_checkIndex_df160_J3_checkIndex_8e157 : GoodIn wsJ0_checkIndex_df160 (va_wsS RJ0 1059 yJ3_checkIndex_8e157 wsJ3_checkIndex_8e157) := goodIn_app (gi_e e_wsJ0_checkIndex_df160 (ce fw_4223 (ce fw_4224 (ce fw_1043 (cn)))) (by decide +kernel)) ggJ0_checkIndex_df160_J3_checkIndex_8e157
theorem dJ0_checkIndex_df160_0 : decode cJ0_checkIndex_df160 0 = .ok (.iload_n 0, 1) := by decide +kernel
theorem dJ0_checkIndex_df160_1 : decode cJ0_checkIndex_df160 1 = .ok (.iload_n 1, 1) := by decide +kernel
theorem dJ0_checkIndex_df160_2 : decode cJ0_checkIndex_df160 2 = .ok (.getstatic 1053, 3) := by decide +kernel
theorem dJ0_checkIndex_df160_5 : decode cJ0_checkIndex_df160 5 = .ok (.invokestatic 1059, 3) := by decide +kernel
theorem dJ0_checkIndex_df160_8 : decode cJ0_checkIndex_df160 8 = .ok (.pop, 1) := by decide +kernel
theorem dJ0_checkIndex_df160_9 : decode cJ0_checkIndex_df160 9 = .ok (.return_, 1) := by decide +kernel
set_option maxRecDepth 20000 in
theorem ggJ1_charAt_3b067_J0_checkIndex_df160 : GoodIn wsJ1_charAt_3b067 wsJ0_checkIndex_df160 := gi_e e_wsJ1_charAt_3b067 e_wsJ0_checkIndex_df160 (by decide +kernel)
set_option maxRecDepth 20000 in
theorem gJ1_charAt_3b067_J0_checkIndex_df160 : GoodIn wsJ1_charAt_3b067 (va_wsS RJ1 9 yJ0_checkIndex_df160 wsJ0_checkIndex_df160) := goodIn_app (gi_e e_wsJ1_charAt_3b067 (ce fw_4218 (ce fw_4219 (ce fw_1041 (cn)))) (by decide +kernel)) ggJ1_charAt_3b067_J0_checkIndex_df160
theorem dJ1_charAt_3b067_0 : decode cJ1_charAt_3b067 0 = .ok (.iload_n 1, 1) := by decide +kernel
theorem dJ1_charAt_3b067_1 : decode cJ1_charAt_3b067 1 = .ok (.aload_n 0, 1) := by decide +kernel
theorem dJ1_charAt_3b067_2 : decode cJ1_charAt_3b067 2 = .ok (.arraylength, 1) := by decide +kernel
theorem dJ1_charAt_3b067_3 : decode cJ1_charAt_3b067 3 = .ok (.invokestatic 9, 3) := by decide +kernel
theorem dJ1_charAt_3b067_6 : decode cJ1_charAt_3b067 6 = .ok (.aload_n 0, 1) := by decide +kernel
theorem dJ1_charAt_3b067_7 : decode cJ1_charAt_3b067 7 = .ok (.iload_n 1, 1) := by decide +kernel
theorem dJ1_charAt_3b067_8 : decode cJ1_charAt_3b067 8 = .ok (.baload, 1) := by decide +kernel
theorem dJ1_charAt_3b067_9 : decode cJ1_charAt_3b067 9 = .ok (.sipush 255, 3) := by decide +kernel
theorem dJ1_charAt_3b067_12 : decode cJ1_charAt_3b067 12 = .ok (.iand, 1) := by decide +kernel
theorem dJ1_charAt_3b067_13 : decode cJ1_charAt_3b067 13 = .ok (.i2c, 1) := by decide +kernel
theorem dJ1_charAt_3b067_14 : decode cJ1_charAt_3b067 14 = .ok (.ireturn, 1) := by decide +kernel
set_option maxRecDepth 20000 in
theorem ggJ2_getChar_3b067_J2_length_9d52b : GoodIn wsJ2_getChar_3b067 wsJ2_length_9d52b := gi_e e_wsJ2_getChar_3b067 e_wsJ2_length_9d52b (by decide +kernel)
set_option maxRecDepth 20000 in
theorem gJ2_getChar_3b067_J2_length_9d52b : GoodIn wsJ2_getChar_3b067 (va_wsS RJ2 48 yJ2_length_9d52b wsJ2_length_9d52b) := goodIn_app (gi_e e_wsJ2_getChar_3b067 (ce fw_4232 (ce fw_4233 (ce fw_1044 (cn)))) (by decide +kernel)) ggJ2_getChar_3b067_J2_length_9d52b
theorem dJ2_getChar_3b067_0 : decode cJ2_getChar_3b067 0 = .ok (.getstatic 44, 3) := by decide +kernel
theorem dJ2_getChar_3b067_3 : decode cJ2_getChar_3b067 3 = .ok (.ifCond .ne 25, 3) := by decide +kernel
theorem dJ2_getChar_3b067_6 : decode cJ2_getChar_3b067 6 = .ok (.iload_n 1, 1) := by decide +kernel
theorem dJ2_getChar_3b067_7 : decode cJ2_getChar_3b067 7 = .ok (.ifCond .lt 11, 3) := by decide +kernel
theorem dJ2_getChar_3b067_10 : decode cJ2_getChar_3b067 10 = .ok (.iload_n 1, 1) := by decide +kernel
theorem dJ2_getChar_3b067_11 : decode cJ2_getChar_3b067 11 = .ok (.aload_n 0, 1) := by decide +kernel
theorem dJ2_getChar_3b067_12 : decode cJ2_getChar_3b067 12 = .ok (.invokestatic 48, 3) := by decide +kernel
theorem dJ2_getChar_3b067_15 : decode cJ2_getChar_3b067 15 = .ok (.if_icmp .lt 13, 3) := by decide +kernel
theorem dJ2_getChar_3b067_18 : decode cJ2_getChar_3b067 18 = .ok (.new 52, 3) := by decide +kernel
theorem dJ2_getChar_3b067_21 : decode cJ2_getChar_3b067 21 = .ok (.dup, 1) := by decide +kernel
theorem dJ2_getChar_3b067_22 : decode cJ2_getChar_3b067 22 = .ok (.ldc 54, 2) := by decide +kernel
theorem dJ2_getChar_3b067_24 : decode cJ2_getChar_3b067 24 = .ok (.invokespecial 56, 3) := by decide +kernel
theorem dJ2_getChar_3b067_27 : decode cJ2_getChar_3b067 27 = .ok (.athrow, 1) := by decide +kernel
theorem dJ2_getChar_3b067_28 : decode cJ2_getChar_3b067 28 = .ok (.iload_n 1, 1) := by decide +kernel
theorem dJ2_getChar_3b067_29 : decode cJ2_getChar_3b067 29 = .ok (.iconst 1, 1) := by decide +kernel
theorem dJ2_getChar_3b067_30 : decode cJ2_getChar_3b067 30 = .ok (.ishl, 1) := by decide +kernel
theorem dJ2_getChar_3b067_31 : decode cJ2_getChar_3b067 31 = .ok (.istore_n 1, 1) := by decide +kernel
theorem dJ2_getChar_3b067_32 : decode cJ2_getChar_3b067 32 = .ok (.aload_n 0, 1) := by decide +kernel
theorem dJ2_getChar_3b067_33 : decode cJ2_getChar_3b067 33 = .ok (.iload_n 1, 1) := by decide +kernel
theorem dJ2_getChar_3b067_34 : decode cJ2_getChar_3b067 34 = .ok (.iinc 1 1, 3) := by decide +kernel
theorem dJ2_getChar_3b067_37 : decode cJ2_getChar_3b067 37 = .ok (.baload, 1) := by decide +kernel
theorem dJ2_getChar_3b067_38 : decode cJ2_getChar_3b067 38 = .ok (.sipush 255, 3) := by decide +kernel
theorem dJ2_getChar_3b067_41 : decode cJ2_getChar_3b067 41 = .ok (.iand, 1) := by decide +kernel
theorem dJ2_getChar_3b067_42 : decode cJ2_getChar_3b067 42 = .ok (.getstatic 59, 3) := by decide +kernel
theorem dJ2_getChar_3b067_45 : decode cJ2_getChar_3b067 45 = .ok (.ishl, 1) := by decide +kernel
theorem dJ2_getChar_3b067_46 : decode cJ2_getChar_3b067 46 = .ok (.aload_n 0, 1) := by decide +kernel
theorem dJ2_getChar_3b067_47 : decode cJ2_getChar_3b067 47 = .ok (.iload_n 1, 1) := by decide +kernel
theorem dJ2_getChar_3b067_48 : decode cJ2_getChar_3b067 48 = .ok (.baload, 1) := by decide +kernel
theorem dJ2_getChar_3b067_49 : decode cJ2_getChar_3b067 49 = .ok (.sipush 255, 3) := by decide +kernel
theorem dJ2_getChar_3b067_52 : decode cJ2_getChar_3b067 52 = .ok (.iand, 1) := by decide +kernel
theorem dJ2_getChar_3b067_53 : decode cJ2_getChar_3b067 53 = .ok (.getstatic 63, 3) := by decide +kernel
theorem dJ2_getChar_3b067_56 : decode cJ2_getChar_3b067 56 = .ok (.ishl, 1) := by decide +kernel
theorem dJ2_getChar_3b067_57 : decode cJ2_getChar_3b067 57 = .ok (.ior, 1) := by decide +kernel
theorem dJ2_getChar_3b067_58 : decode cJ2_getChar_3b067 58 = .ok (.i2c, 1) := by decide +kernel
theorem dJ2_getChar_3b067_59 : decode cJ2_getChar_3b067 59 = .ok (.ireturn, 1) := by decide +kernel
theorem dJ2_length_9d52b_0 : decode cJ2_length_9d52b 0 = .ok (.aload_n 0, 1) := by decide +kernel
theorem dJ2_length_9d52b_1 : decode cJ2_length_9d52b 1 = .ok (.arraylength, 1) := by decide +kernel
theorem dJ2_length_9d52b_2 : decode cJ2_length_9d52b 2 = .ok (.iconst 1, 1) := by decide +kernel
theorem dJ2_length_9d52b_3 : decode cJ2_length_9d52b 3 = .ok (.ishr, 1) := by decide +kernel
theorem dJ2_length_9d52b_4 : decode cJ2_length_9d52b 4 = .ok (.ireturn, 1) := by decide +kernel
set_option maxRecDepth 20000 in
theorem ggJ2_charAt_3b067_J2_checkIndex_2214a : GoodIn wsJ2_charAt_3b067 wsJ2_checkIndex_2214a := gi_e e_wsJ2_charAt_3b067 e_wsJ2_checkIndex_2214a (by decide +kernel)
set_option maxRecDepth 20000 in
theorem gJ2_charAt_3b067_J2_checkIndex_2214a : GoodIn wsJ2_charAt_3b067 (va_wsS RJ2 67 yJ2_checkIndex_2214a wsJ2_checkIndex_2214a) := goodIn_app (gi_e e_wsJ2_charAt_3b067 (ce fw_4229 (ce fw_4230 (ce fw_1044 (cn)))) (by decide +kernel)) ggJ2_charAt_3b067_J2_checkIndex_2214a
set_option maxRecDepth 20000 in
theorem ggJ2_charAt_3b067_J2_getChar_3b067 : GoodIn wsJ2_charAt_3b067 wsJ2_getChar_3b067 := gi_e e_wsJ2_charAt_3b067 e_wsJ2_getChar_3b067 (by decide +kernel)
set_option maxRecDepth 20000 in
theorem gJ2_charAt_3b067_J2_getChar_3b067 : GoodIn wsJ2_charAt_3b067 (va_wsS RJ2 71 yJ2_getChar_3b067 wsJ2_getChar_3b067) := goodIn_app (gi_e e_wsJ2_charAt_3b067 (ce fw_4236 (ce fw_4237 (ce fw_1044 (cn)))) (by decide +kernel)) ggJ2_charAt_3b067_J2_getChar_3b067
theorem dJ2_charAt_3b067_0 : decode cJ2_charAt_3b067 0 = .ok (.iload_n 1, 1) := by decide +kernel
theorem dJ2_charAt_3b067_1 : decode cJ2_charAt_3b067 1 = .ok (.aload_n 0, 1) := by decide +kernel
theorem dJ2_charAt_3b067_2 : decode cJ2_charAt_3b067 2 = .ok (.invokestatic 67, 3) := by decide +kernel
theorem dJ2_charAt_3b067_5 : decode cJ2_charAt_3b067 5 = .ok (.aload_n 0, 1) := by decide +kernel
theorem dJ2_charAt_3b067_6 : decode cJ2_charAt_3b067 6 = .ok (.iload_n 1, 1) := by decide +kernel
theorem dJ2_charAt_3b067_7 : decode cJ2_charAt_3b067 7 = .ok (.invokestatic 71, 3) := by decide +kernel
theorem dJ2_charAt_3b067_10 : decode cJ2_charAt_3b067 10 = .ok (.ireturn, 1) := by decide +kernel
set_option maxRecDepth 20000 in
theorem ggJ2_checkIndex_2214a_J2_length_9d52b : GoodIn wsJ2_checkIndex_2214a wsJ2_length_9d52b := gi_e e_wsJ2_checkIndex_2214a e_wsJ2_length_9d52b (by decide +kernel)
set_option maxRecDepth 20000 in
theorem gJ2_checkIndex_2214a_J2_length_9d52b : GoodIn wsJ2_checkIndex_2214a (va_wsS RJ2 48 yJ2_length_9d52b wsJ2_length_9d52b) := goodIn_app (gi_e e_wsJ2_checkIndex_2214a (ce fw_4232 (ce fw_4233 (ce fw_1044 (cn)))) (by decide +kernel)) ggJ2_checkIndex_2214a_J2_length_9d52b
set_option maxRecDepth 20000 in
theorem ggJ2_checkIndex_2214a_J0_checkIndex_df160 : GoodIn wsJ2_checkIndex_2214a wsJ0_checkIndex_df160 := gi_e e_wsJ2_checkIndex_2214a e_wsJ0_checkIndex_df160 (by decide +kernel)
set_option maxRecDepth 20000 in
theorem gJ2_checkIndex_2214a_J0_checkIndex_df160 : GoodIn wsJ2_checkIndex_2214a (va_wsS RJ2 414 yJ0_checkIndex_df160 wsJ0_checkIndex_df160) := goodIn_app (gi_e e_wsJ2_checkIndex_2214a (ce fw_4235 (ce fw_4219 (ce fw_1041 (cn)))) (by decide +kernel)) ggJ2_checkIndex_2214a_J0_checkIndex_df160
theorem dJ2_checkIndex_2214a_0 : decode cJ2_checkIndex_2214a 0 = .ok (.iload_n 0, 1) := by decide +kernel
theorem dJ2_checkIndex_2214a_1 : decode cJ2_checkIndex_2214a 1 = .ok (.aload_n 1, 1) := by decide +kernel
theorem dJ2_checkIndex_2214a_2 : decode cJ2_checkIndex_2214a 2 = .ok (.invokestatic 48, 3) := by decide +kernel
theorem dJ2_checkIndex_2214a_5 : decode cJ2_checkIndex_2214a 5 = .ok (.invokestatic 414, 3) := by decide +kernel
theorem dJ2_checkIndex_2214a_8 : decode cJ2_checkIndex_2214a 8 = .ok (.return_, 1) := by decide +kernel
theorem dJ3_checkIndex_8e157_0 : decode cJ3_checkIndex_8e157 0 = .ok (.iload_n 0, 1) := by decide +kernel
theorem dJ3_checkIndex_8e157_1 : decode cJ3_checkIndex_8e157 1 = .ok (.ifCond .lt 8, 3) := by decide +kernel
theorem dJ3_checkIndex_8e157_4 : decode cJ3_checkIndex_8e157 4 = .ok (.iload_n 0, 1) := by decide +kernel
theorem dJ3_checkIndex_8e157_5 : decode cJ3_checkIndex_8e157 5 = .ok (.iload_n 1, 1) := by decide +kernel
theorem dJ3_checkIndex_8e157_6 : decode cJ3_checkIndex_8e157 6 = .ok (.if_icmp .lt 10, 3) := by decide +kernel
theorem dJ3_checkIndex_8e157_9 : decode cJ3_checkIndex_8e157 9 = .ok (.aload_n 2, 1) := by decide +kernel
theorem dJ3_checkIndex_8e157_10 : decode cJ3_checkIndex_8e157 10 = .ok (.iload_n 0, 1) := by decide +kernel
theorem dJ3_checkIndex_8e157_11 : decode cJ3_checkIndex_8e157 11 = .ok (.iload_n 1, 1) := by decide +kernel
theorem dJ3_checkIndex_8e157_12 : decode cJ3_checkIndex_8e157 12 = .ok (.invokestatic 95, 3) := by decide +kernel
theorem dJ3_checkIndex_8e157_15 : decode cJ3_checkIndex_8e157 15 = .ok (.athrow, 1) := by decide +kernel
theorem dJ3_checkIndex_8e157_16 : decode cJ3_checkIndex_8e157 16 = .ok (.iload_n 0, 1) := by decide +kernel
theorem dJ3_checkIndex_8e157_17 : decode cJ3_checkIndex_8e157 17 = .ok (.ireturn, 1) := by decide +kernel
set_option maxRecDepth 20000 in
theorem ggL_put_X11_key : GoodIn wsL_put wsX11_key := gi_e e_wsL_put e_wsX11_key (by decide +kernel)
set_option maxRecDepth 20000 in
theorem gL_put_X11_key : GoodIn wsL_put (wsV RL 9 RX11 yX11_key wsX11_key) := goodIn_app (gi_e e_wsL_put (ce fw_4130 (ce fw_4131 (ce fw_4132 (ce fw_1025 (cn))))) (by decide +kernel)) ggL_put_X11_key
theorem dL_put_0 : decode cL_put 0 = .ok (.aload_n 1, 1) := by decide +kernel
theorem dL_put_1 : decode cL_put 1 = .ok (.iconst 0, 1) := by decide +kernel
theorem dL_put_2 : decode cL_put 2 = .ok (.aload_n 1, 1) := by decide +kernel
theorem dL_put_3 : decode cL_put 3 = .ok (.iconst 0, 1) := by decide +kernel
theorem dL_put_4 : decode cL_put 4 = .ok (.laload, 1) := by decide +kernel
theorem dL_put_5 : decode cL_put 5 = .ok (.bipush 8, 2) := by decide +kernel
theorem dL_put_7 : decode cL_put 7 = .ok (.lshl, 1) := by decide +kernel
theorem dL_put_8 : decode cL_put 8 = .ok (.iload_n 2, 1) := by decide +kernel
theorem dL_put_9 : decode cL_put 9 = .ok (.i2l, 1) := by decide +kernel
theorem dL_put_10 : decode cL_put 10 = .ok (.lor, 1) := by decide +kernel
theorem dL_put_11 : decode cL_put 11 = .ok (.lastore, 1) := by decide +kernel
theorem dL_put_12 : decode cL_put 12 = .ok (.aload_n 1, 1) := by decide +kernel
theorem dL_put_13 : decode cL_put 13 = .ok (.iconst 1, 1) := by decide +kernel
theorem dL_put_14 : decode cL_put 14 = .ok (.dup2, 1) := by decide +kernel
theorem dL_put_15 : decode cL_put 15 = .ok (.laload, 1) := by decide +kernel
theorem dL_put_16 : decode cL_put 16 = .ok (.lconst 1, 1) := by decide +kernel
theorem dL_put_17 : decode cL_put 17 = .ok (.ladd, 1) := by decide +kernel
theorem dL_put_18 : decode cL_put 18 = .ok (.lastore, 1) := by decide +kernel
theorem dL_put_19 : decode cL_put 19 = .ok (.aload_n 1, 1) := by decide +kernel
theorem dL_put_20 : decode cL_put 20 = .ok (.iconst 1, 1) := by decide +kernel
theorem dL_put_21 : decode cL_put 21 = .ok (.laload, 1) := by decide +kernel
theorem dL_put_22 : decode cL_put 22 = .ok (.ldc2_w 7, 3) := by decide +kernel
theorem dL_put_25 : decode cL_put 25 = .ok (.lcmp, 1) := by decide +kernel
theorem dL_put_26 : decode cL_put 26 = .ok (.ifCond .ne 19, 3) := by decide +kernel
theorem dL_put_29 : decode cL_put 29 = .ok (.aload_n 0, 1) := by decide +kernel
theorem dL_put_30 : decode cL_put 30 = .ok (.aload_n 1, 1) := by decide +kernel
theorem dL_put_31 : decode cL_put 31 = .ok (.iconst 0, 1) := by decide +kernel
theorem dL_put_32 : decode cL_put 32 = .ok (.laload, 1) := by decide +kernel
theorem dL_put_33 : decode cL_put 33 = .ok (.invokevirtual 9, 3) := by decide +kernel
theorem dL_put_36 : decode cL_put 36 = .ok (.istore_n 3, 1) := by decide +kernel
theorem dL_put_37 : decode cL_put 37 = .ok (.aload_n 1, 1) := by decide +kernel
theorem dL_put_38 : decode cL_put 38 = .ok (.iconst 0, 1) := by decide +kernel
theorem dL_put_39 : decode cL_put 39 = .ok (.lconst 0, 1) := by decide +kernel
theorem dL_put_40 : decode cL_put 40 = .ok (.lastore, 1) := by decide +kernel
theorem dL_put_41 : decode cL_put 41 = .ok (.aload_n 1, 1) := by decide +kernel
theorem dL_put_42 : decode cL_put 42 = .ok (.iconst 1, 1) := by decide +kernel
theorem dL_put_43 : decode cL_put 43 = .ok (.lconst 0, 1) := by decide +kernel
theorem dL_put_44 : decode cL_put 44 = .ok (.lastore, 1) := by decide +kernel
theorem dL_put_45 : decode cL_put 45 = .ok (.return_, 1) := by decide +kernel
set_option maxRecDepth 20000 in
theorem ggL_ends_X11_key : GoodIn wsL_ends wsX11_key := gi_e e_wsL_ends e_wsX11_key (by decide +kernel)
set_option maxRecDepth 20000 in
theorem gL_ends_X11_key : GoodIn wsL_ends (wsV RL 9 RX11 yX11_key wsX11_key) := goodIn_app (gi_e e_wsL_ends (ce fw_4130 (ce fw_4131 (ce fw_4132 (ce fw_1025 (cn))))) (by decide +kernel)) ggL_ends_X11_key
theorem dL_ends_0 : decode cL_ends 0 = .ok (.aload_n 1, 1) := by decide +kernel
theorem dL_ends_1 : decode cL_ends 1 = .ok (.iconst 1, 1) := by decide +kernel
theorem dL_ends_2 : decode cL_ends 2 = .ok (.laload, 1) := by decide +kernel
theorem dL_ends_3 : decode cL_ends 3 = .ok (.lconst 0, 1) := by decide +kernel
theorem dL_ends_4 : decode cL_ends 4 = .ok (.lcmp, 1) := by decide +kernel
theorem dL_ends_5 : decode cL_ends 5 = .ok (.ifCond .le 32, 3) := by decide +kernel
theorem dL_ends_8 : decode cL_ends 8 = .ok (.aload_n 0, 1) := by decide +kernel
theorem dL_ends_9 : decode cL_ends 9 = .ok (.aload_n 1, 1) := by decide +kernel
theorem dL_ends_10 : decode cL_ends 10 = .ok (.iconst 0, 1) := by decide +kernel
theorem dL_ends_11 : decode cL_ends 11 = .ok (.laload, 1) := by decide +kernel
theorem dL_ends_12 : decode cL_ends 12 = .ok (.ldc2_w 7, 3) := by decide +kernel
theorem dL_ends_15 : decode cL_ends 15 = .ok (.ldc2_w 7, 3) := by decide +kernel
theorem dL_ends_18 : decode cL_ends 18 = .ok (.aload_n 1, 1) := by decide +kernel
theorem dL_ends_19 : decode cL_ends 19 = .ok (.iconst 1, 1) := by decide +kernel
theorem dL_ends_20 : decode cL_ends 20 = .ok (.laload, 1) := by decide +kernel
theorem dL_ends_21 : decode cL_ends 21 = .ok (.lsub, 1) := by decide +kernel
theorem dL_ends_22 : decode cL_ends 22 = .ok (.lmul, 1) := by decide +kernel
theorem dL_ends_23 : decode cL_ends 23 = .ok (.l2i, 1) := by decide +kernel
theorem dL_ends_24 : decode cL_ends 24 = .ok (.lshl, 1) := by decide +kernel
theorem dL_ends_25 : decode cL_ends 25 = .ok (.invokevirtual 9, 3) := by decide +kernel
theorem dL_ends_28 : decode cL_ends 28 = .ok (.istore_n 2, 1) := by decide +kernel
theorem dL_ends_29 : decode cL_ends 29 = .ok (.aload_n 1, 1) := by decide +kernel
theorem dL_ends_30 : decode cL_ends 30 = .ok (.iconst 0, 1) := by decide +kernel
theorem dL_ends_31 : decode cL_ends 31 = .ok (.lconst 0, 1) := by decide +kernel
theorem dL_ends_32 : decode cL_ends 32 = .ok (.lastore, 1) := by decide +kernel
theorem dL_ends_33 : decode cL_ends 33 = .ok (.aload_n 1, 1) := by decide +kernel
theorem dL_ends_34 : decode cL_ends 34 = .ok (.iconst 1, 1) := by decide +kernel
theorem dL_ends_35 : decode cL_ends 35 = .ok (.lconst 0, 1) := by decide +kernel
theorem dL_ends_36 : decode cL_ends 36 = .ok (.lastore, 1) := by decide +kernel
theorem dL_ends_37 : decode cL_ends 37 = .ok (.return_, 1) := by decide +kernel
set_option maxRecDepth 20000 in
theorem ggL_word_L_put : GoodIn wsL_word wsL_put := gi_e e_wsL_word e_wsL_put (by decide +kernel)
set_option maxRecDepth 20000 in
theorem gL_word_L_put : GoodIn wsL_word (va_wsS RL 17 yL_put wsL_put) := goodIn_app (gi_e e_wsL_word (ce fw_4126 (ce fw_4127 (ce fw_1024 (cn)))) (by decide +kernel)) ggL_word_L_put
theorem dL_word_0 : decode cL_word 0 = .ok (.bipush 56, 2) := by decide +kernel
theorem dL_word_2 : decode cL_word 2 = .ok (.istore 4, 2) := by decide +kernel
theorem dL_word_4 : decode cL_word 4 = .ok (.iload 4, 2) := by decide +kernel
theorem dL_word_6 : decode cL_word 6 = .ok (.ifCond .lt 36, 3) := by decide +kernel
theorem dL_word_9 : decode cL_word 9 = .ok (.lload_n 2, 1) := by decide +kernel
theorem dL_word_10 : decode cL_word 10 = .ok (.iload 4, 2) := by decide +kernel
theorem dL_word_12 : decode cL_word 12 = .ok (.lshr, 1) := by decide +kernel
theorem dL_word_13 : decode cL_word 13 = .ok (.ldc2_w 15, 3) := by decide +kernel
theorem dL_word_16 : decode cL_word 16 = .ok (.land, 1) := by decide +kernel
theorem dL_word_17 : decode cL_word 17 = .ok (.lconst 0, 1) := by decide +kernel
theorem dL_word_18 : decode cL_word 18 = .ok (.lcmp, 1) := by decide +kernel
theorem dL_word_19 : decode cL_word 19 = .ok (.ifCond .eq 17, 3) := by decide +kernel
theorem dL_word_22 : decode cL_word 22 = .ok (.aload_n 0, 1) := by decide +kernel
theorem dL_word_23 : decode cL_word 23 = .ok (.aload_n 1, 1) := by decide +kernel
theorem dL_word_24 : decode cL_word 24 = .ok (.lload_n 2, 1) := by decide +kernel
theorem dL_word_25 : decode cL_word 25 = .ok (.iload 4, 2) := by decide +kernel
theorem dL_word_27 : decode cL_word 27 = .ok (.lshr, 1) := by decide +kernel
theorem dL_word_28 : decode cL_word 28 = .ok (.ldc2_w 15, 3) := by decide +kernel
theorem dL_word_31 : decode cL_word 31 = .ok (.land, 1) := by decide +kernel
theorem dL_word_32 : decode cL_word 32 = .ok (.l2i, 1) := by decide +kernel
theorem dL_word_33 : decode cL_word 33 = .ok (.invokestatic 17, 3) := by decide +kernel
theorem dL_word_36 : decode cL_word 36 = .ok (.iinc 4 (-8), 3) := by decide +kernel
theorem dL_word_39 : decode cL_word 39 = .ok (.goto (-35), 3) := by decide +kernel
theorem dL_word_42 : decode cL_word 42 = .ok (.return_, 1) := by decide +kernel
set_option maxRecDepth 20000 in
theorem ggL_more_L_put : GoodIn wsL_more wsL_put := gi_e e_wsL_more e_wsL_put (by decide +kernel)
set_option maxRecDepth 20000 in
theorem gL_more_L_put : GoodIn wsL_more (va_wsS RL 17 yL_put wsL_put) := goodIn_app (gi_e e_wsL_more (ce fw_4126 (ce fw_4127 (ce fw_1024 (cn)))) (by decide +kernel)) ggL_more_L_put
theorem dL_more_0 : decode cL_more 0 = .ok (.aload_n 0, 1) := by decide +kernel
theorem dL_more_1 : decode cL_more 1 = .ok (.aload_n 1, 1) := by decide +kernel
theorem dL_more_2 : decode cL_more 2 = .ok (.bipush 32, 2) := by decide +kernel
theorem dL_more_4 : decode cL_more 4 = .ok (.invokestatic 17, 3) := by decide +kernel
theorem dL_more_7 : decode cL_more 7 = .ok (.iload_n 2, 1) := by decide +kernel
theorem dL_more_8 : decode cL_more 8 = .ok (.bipush 9, 2) := by decide +kernel
theorem dL_more_10 : decode cL_more 10 = .ok (.if_icmp .le 15, 3) := by decide +kernel
theorem dL_more_13 : decode cL_more 13 = .ok (.aload_n 0, 1) := by decide +kernel
theorem dL_more_14 : decode cL_more 14 = .ok (.aload_n 1, 1) := by decide +kernel
theorem dL_more_15 : decode cL_more 15 = .ok (.bipush 48, 2) := by decide +kernel
theorem dL_more_17 : decode cL_more 17 = .ok (.iload_n 2, 1) := by decide +kernel
theorem dL_more_18 : decode cL_more 18 = .ok (.bipush 10, 2) := by decide +kernel
theorem dL_more_20 : decode cL_more 20 = .ok (.idiv, 1) := by decide +kernel
theorem dL_more_21 : decode cL_more 21 = .ok (.iadd, 1) := by decide +kernel
theorem dL_more_22 : decode cL_more 22 = .ok (.invokestatic 17, 3) := by decide +kernel
