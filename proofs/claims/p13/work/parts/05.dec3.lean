set_option maxRecDepth 20000 in
theorem ggX11_init_X10_init : GoodIn wsX11_init wsX10_init := gi_e e_wsX11_init e_wsX10_init (by decide +kernel)
set_option maxRecDepth 20000 in
theorem gX11_init_X10_init_n11 : GoodIn wsX11_init (wsX10_init) := ggX11_init_X10_init
set_option maxRecDepth 20000 in
theorem ggX11_init_X9_init : GoodIn wsX11_init wsX9_init := gi_e e_wsX11_init e_wsX9_init (by decide +kernel)
set_option maxRecDepth 20000 in
theorem gX11_init_X9_init : GoodIn wsX11_init (wsX9_init) := ggX11_init_X9_init
set_option maxRecDepth 20000 in
theorem ggX11_init_X3_init : GoodIn wsX11_init wsX3_init := gi_e e_wsX11_init e_wsX3_init (by decide +kernel)
set_option maxRecDepth 20000 in
theorem gX11_init_X3_init_n39 : GoodIn wsX11_init (wsX3_init) := ggX11_init_X3_init
theorem dX11_init_0 : decode cX11_init 0 = .ok (.aload_n 0, 1) := by decide +kernel
theorem dX11_init_1 : decode cX11_init 1 = .ok (.invokespecial 3, 3) := by decide +kernel
theorem dX11_init_4 : decode cX11_init 4 = .ok (.aload_n 0, 1) := by decide +kernel
theorem dX11_init_5 : decode cX11_init 5 = .ok (.new 9, 3) := by decide +kernel
theorem dX11_init_8 : decode cX11_init 8 = .ok (.dup, 1) := by decide +kernel
theorem dX11_init_9 : decode cX11_init 9 = .ok (.invokespecial 11, 3) := by decide +kernel
theorem dX11_init_12 : decode cX11_init 12 = .ok (.putfield 12, 3) := by decide +kernel
theorem dX11_init_15 : decode cX11_init 15 = .ok (.aload_n 0, 1) := by decide +kernel
theorem dX11_init_16 : decode cX11_init 16 = .ok (.iconst 3, 1) := by decide +kernel
theorem dX11_init_17 : decode cX11_init 17 = .ok (.anewarray 9, 3) := by decide +kernel
theorem dX11_init_20 : decode cX11_init 20 = .ok (.putfield 16, 3) := by decide +kernel
theorem dX11_init_23 : decode cX11_init 23 = .ok (.aload_n 0, 1) := by decide +kernel
theorem dX11_init_24 : decode cX11_init 24 = .ok (.iconst 3, 1) := by decide +kernel
theorem dX11_init_25 : decode cX11_init 25 = .ok (.newarray .boolean, 2) := by decide +kernel
theorem dX11_init_27 : decode cX11_init 27 = .ok (.putfield 20, 3) := by decide +kernel
theorem dX11_init_30 : decode cX11_init 30 = .ok (.iconst 0, 1) := by decide +kernel
theorem dX11_init_31 : decode cX11_init 31 = .ok (.istore_n 1, 1) := by decide +kernel
theorem dX11_init_32 : decode cX11_init 32 = .ok (.iload_n 1, 1) := by decide +kernel
theorem dX11_init_33 : decode cX11_init 33 = .ok (.iconst 3, 1) := by decide +kernel
theorem dX11_init_34 : decode cX11_init 34 = .ok (.if_icmp .ge 22, 3) := by decide +kernel
theorem dX11_init_37 : decode cX11_init 37 = .ok (.aload_n 0, 1) := by decide +kernel
theorem dX11_init_38 : decode cX11_init 38 = .ok (.getfield 16, 3) := by decide +kernel
theorem dX11_init_41 : decode cX11_init 41 = .ok (.iload_n 1, 1) := by decide +kernel
theorem dX11_init_42 : decode cX11_init 42 = .ok (.new 9, 3) := by decide +kernel
theorem dX11_init_45 : decode cX11_init 45 = .ok (.dup, 1) := by decide +kernel
theorem dX11_init_46 : decode cX11_init 46 = .ok (.invokespecial 11, 3) := by decide +kernel
theorem dX11_init_49 : decode cX11_init 49 = .ok (.aastore, 1) := by decide +kernel
theorem dX11_init_50 : decode cX11_init 50 = .ok (.iinc 1 1, 3) := by decide +kernel
theorem dX11_init_53 : decode cX11_init 53 = .ok (.goto (-21), 3) := by decide +kernel
theorem dX11_init_56 : decode cX11_init 56 = .ok (.aload_n 0, 1) := by decide +kernel
theorem dX11_init_57 : decode cX11_init 57 = .ok (.bipush 6, 2) := by decide +kernel
theorem dX11_init_59 : decode cX11_init 59 = .ok (.anewarray 24, 3) := by decide +kernel
theorem dX11_init_62 : decode cX11_init 62 = .ok (.putfield 26, 3) := by decide +kernel
theorem dX11_init_65 : decode cX11_init 65 = .ok (.iconst 0, 1) := by decide +kernel
theorem dX11_init_66 : decode cX11_init 66 = .ok (.istore_n 1, 1) := by decide +kernel
theorem dX11_init_67 : decode cX11_init 67 = .ok (.iload_n 1, 1) := by decide +kernel
theorem dX11_init_68 : decode cX11_init 68 = .ok (.bipush 6, 2) := by decide +kernel
theorem dX11_init_70 : decode cX11_init 70 = .ok (.if_icmp .ge 25, 3) := by decide +kernel
theorem dX11_init_73 : decode cX11_init 73 = .ok (.aload_n 0, 1) := by decide +kernel
theorem dX11_init_74 : decode cX11_init 74 = .ok (.getfield 26, 3) := by decide +kernel
theorem dX11_init_77 : decode cX11_init 77 = .ok (.iload_n 1, 1) := by decide +kernel
theorem dX11_init_78 : decode cX11_init 78 = .ok (.new 24, 3) := by decide +kernel
theorem dX11_init_81 : decode cX11_init 81 = .ok (.dup, 1) := by decide +kernel
theorem dX11_init_82 : decode cX11_init 82 = .ok (.sipush 4000, 3) := by decide +kernel
theorem dX11_init_85 : decode cX11_init 85 = .ok (.invokespecial 30, 3) := by decide +kernel
theorem dX11_init_88 : decode cX11_init 88 = .ok (.aastore, 1) := by decide +kernel
theorem dX11_init_89 : decode cX11_init 89 = .ok (.iinc 1 1, 3) := by decide +kernel
theorem dX11_init_92 : decode cX11_init 92 = .ok (.goto (-25), 3) := by decide +kernel
theorem dX11_init_95 : decode cX11_init 95 = .ok (.aload_n 0, 1) := by decide +kernel
theorem dX11_init_96 : decode cX11_init 96 = .ok (.new 24, 3) := by decide +kernel
theorem dX11_init_99 : decode cX11_init 99 = .ok (.dup, 1) := by decide +kernel
theorem dX11_init_100 : decode cX11_init 100 = .ok (.sipush 6304, 3) := by decide +kernel
theorem dX11_init_103 : decode cX11_init 103 = .ok (.invokespecial 30, 3) := by decide +kernel
theorem dX11_init_106 : decode cX11_init 106 = .ok (.putfield 33, 3) := by decide +kernel
theorem dX11_init_109 : decode cX11_init 109 = .ok (.aload_n 0, 1) := by decide +kernel
theorem dX11_init_110 : decode cX11_init 110 = .ok (.new 37, 3) := by decide +kernel
theorem dX11_init_113 : decode cX11_init 113 = .ok (.dup, 1) := by decide +kernel
theorem dX11_init_114 : decode cX11_init 114 = .ok (.invokespecial 39, 3) := by decide +kernel
theorem dX11_init_117 : decode cX11_init 117 = .ok (.putfield 40, 3) := by decide +kernel
theorem dX11_init_120 : decode cX11_init 120 = .ok (.return_, 1) := by decide +kernel
set_option maxRecDepth 20000 in
theorem ggX11_key_X8_append : GoodIn wsX11_key wsX8_append := gi_e e_wsX11_key e_wsX8_append (by decide +kernel)
set_option maxRecDepth 20000 in
theorem gX11_key_X8_append : GoodIn wsX11_key (wsV RX11 48 RX8 yX8_append wsX8_append) := goodIn_app (gi_e e_wsX11_key (ce fw_3099 (ce fw_3100 (ce fw_3101 (ce fw_1028 (cn))))) (by decide +kernel)) ggX11_key_X8_append
theorem dX11_key_0 : decode cX11_key 0 = .ok (.aload_n 0, 1) := by decide +kernel
theorem dX11_key_1 : decode cX11_key 1 = .ok (.getfield 12, 3) := by decide +kernel
theorem dX11_key_4 : decode cX11_key 4 = .ok (.getfield 44, 3) := by decide +kernel
theorem dX11_key_7 : decode cX11_key 7 = .ok (.lload_n 1, 1) := by decide +kernel
theorem dX11_key_8 : decode cX11_key 8 = .ok (.invokevirtual 48, 3) := by decide +kernel
theorem dX11_key_11 : decode cX11_key 11 = .ok (.ireturn, 1) := by decide +kernel
set_option maxRecDepth 20000 in
theorem ggX11_scheme_X3_readWhole : GoodIn wsX11_scheme wsX3_readWhole := gi_e e_wsX11_scheme e_wsX3_readWhole (by decide +kernel)
set_option maxRecDepth 20000 in
theorem gX11_scheme_X3_readWhole : GoodIn wsX11_scheme (wsV RX11 54 RX3 yX3_readWhole wsX3_readWhole) := goodIn_app (gi_e e_wsX11_scheme (ce fw_3110 (ce fw_3111 (ce fw_3112 (ce fw_1037 (cn))))) (by decide +kernel)) ggX11_scheme_X3_readWhole
set_option maxRecDepth 20000 in
theorem ggX11_scheme_X5_copyFrom : GoodIn wsX11_scheme wsX5_copyFrom := gi_e e_wsX11_scheme e_wsX5_copyFrom (by decide +kernel)
set_option maxRecDepth 20000 in
theorem gX11_scheme_X5_copyFrom : GoodIn wsX11_scheme (wsV RX11 77 RX5 yX5_copyFrom wsX5_copyFrom) := goodIn_app (gi_e e_wsX11_scheme (ce fw_3232 (ce fw_3233 (ce fw_3234 (ce fw_1027 (cn))))) (by decide +kernel)) ggX11_scheme_X5_copyFrom
set_option maxRecDepth 20000 in
theorem ggX11_scheme_X9_restart : GoodIn wsX11_scheme wsX9_restart := gi_e e_wsX11_scheme e_wsX9_restart (by decide +kernel)
set_option maxRecDepth 20000 in
theorem gX11_scheme_X9_restart : GoodIn wsX11_scheme (wsV RX11 86 RX9 yX9_restart wsX9_restart) := goodIn_app (gi_e e_wsX11_scheme (ce fw_3237 (ce fw_3238 (ce fw_3239 (ce fw_1029 (cn))))) (by decide +kernel)) ggX11_scheme_X9_restart
theorem dX11_scheme_0 : decode cX11_scheme 0 = .ok (.aload_n 0, 1) := by decide +kernel
theorem dX11_scheme_1 : decode cX11_scheme 1 = .ok (.getfield 12, 3) := by decide +kernel
theorem dX11_scheme_4 : decode cX11_scheme 4 = .ok (.getfield 44, 3) := by decide +kernel
theorem dX11_scheme_7 : decode cX11_scheme 7 = .ok (.astore_n 1, 1) := by decide +kernel
theorem dX11_scheme_8 : decode cX11_scheme 8 = .ok (.aload_n 0, 1) := by decide +kernel
theorem dX11_scheme_9 : decode cX11_scheme 9 = .ok (.getfield 40, 3) := by decide +kernel
theorem dX11_scheme_12 : decode cX11_scheme 12 = .ok (.aload_n 1, 1) := by decide +kernel
theorem dX11_scheme_13 : decode cX11_scheme 13 = .ok (.invokevirtual 54, 3) := by decide +kernel
theorem dX11_scheme_16 : decode cX11_scheme 16 = .ok (.aload_n 1, 1) := by decide +kernel
theorem dX11_scheme_17 : decode cX11_scheme 17 = .ok (.iconst 0, 1) := by decide +kernel
theorem dX11_scheme_18 : decode cX11_scheme 18 = .ok (.putfield 58, 3) := by decide +kernel
theorem dX11_scheme_21 : decode cX11_scheme 21 = .ok (.aload_n 1, 1) := by decide +kernel
theorem dX11_scheme_22 : decode cX11_scheme 22 = .ok (.aload_n 0, 1) := by decide +kernel
theorem dX11_scheme_23 : decode cX11_scheme 23 = .ok (.getfield 40, 3) := by decide +kernel
theorem dX11_scheme_26 : decode cX11_scheme 26 = .ok (.getfield 62, 3) := by decide +kernel
theorem dX11_scheme_29 : decode cX11_scheme 29 = .ok (.putfield 65, 3) := by decide +kernel
theorem dX11_scheme_32 : decode cX11_scheme 32 = .ok (.aload_n 1, 1) := by decide +kernel
theorem dX11_scheme_33 : decode cX11_scheme 33 = .ok (.aload_n 0, 1) := by decide +kernel
theorem dX11_scheme_34 : decode cX11_scheme 34 = .ok (.getfield 40, 3) := by decide +kernel
theorem dX11_scheme_37 : decode cX11_scheme 37 = .ok (.getfield 66, 3) := by decide +kernel
theorem dX11_scheme_40 : decode cX11_scheme 40 = .ok (.putfield 69, 3) := by decide +kernel
theorem dX11_scheme_43 : decode cX11_scheme 43 = .ok (.aload_n 0, 1) := by decide +kernel
theorem dX11_scheme_44 : decode cX11_scheme 44 = .ok (.getfield 40, 3) := by decide +kernel
theorem dX11_scheme_47 : decode cX11_scheme 47 = .ok (.getfield 62, 3) := by decide +kernel
theorem dX11_scheme_50 : decode cX11_scheme 50 = .ok (.ifCond .eq 5, 3) := by decide +kernel
theorem dX11_scheme_53 : decode cX11_scheme 53 = .ok (.iconst (-1), 1) := by decide +kernel
theorem dX11_scheme_54 : decode cX11_scheme 54 = .ok (.ireturn, 1) := by decide +kernel
theorem dX11_scheme_55 : decode cX11_scheme 55 = .ok (.aload_n 0, 1) := by decide +kernel
theorem dX11_scheme_56 : decode cX11_scheme 56 = .ok (.getfield 12, 3) := by decide +kernel
theorem dX11_scheme_59 : decode cX11_scheme 59 = .ok (.getfield 70, 3) := by decide +kernel
theorem dX11_scheme_62 : decode cX11_scheme 62 = .ok (.aload_n 0, 1) := by decide +kernel
theorem dX11_scheme_63 : decode cX11_scheme 63 = .ok (.getfield 40, 3) := by decide +kernel
theorem dX11_scheme_66 : decode cX11_scheme 66 = .ok (.getfield 74, 3) := by decide +kernel
theorem dX11_scheme_69 : decode cX11_scheme 69 = .ok (.invokevirtual 77, 3) := by decide +kernel
theorem dX11_scheme_72 : decode cX11_scheme 72 = .ok (.aload_n 0, 1) := by decide +kernel
theorem dX11_scheme_73 : decode cX11_scheme 73 = .ok (.getfield 12, 3) := by decide +kernel
theorem dX11_scheme_76 : decode cX11_scheme 76 = .ok (.getfield 83, 3) := by decide +kernel
theorem dX11_scheme_79 : decode cX11_scheme 79 = .ok (.aload_n 0, 1) := by decide +kernel
theorem dX11_scheme_80 : decode cX11_scheme 80 = .ok (.getfield 12, 3) := by decide +kernel
theorem dX11_scheme_83 : decode cX11_scheme 83 = .ok (.getfield 70, 3) := by decide +kernel
theorem dX11_scheme_86 : decode cX11_scheme 86 = .ok (.invokevirtual 86, 3) := by decide +kernel
theorem dX11_scheme_89 : decode cX11_scheme 89 = .ok (.aload_n 0, 1) := by decide +kernel
theorem dX11_scheme_90 : decode cX11_scheme 90 = .ok (.iconst 0, 1) := by decide +kernel
theorem dX11_scheme_91 : decode cX11_scheme 91 = .ok (.putfield 89, 3) := by decide +kernel
theorem dX11_scheme_94 : decode cX11_scheme 94 = .ok (.aload_n 0, 1) := by decide +kernel
theorem dX11_scheme_95 : decode cX11_scheme 95 = .ok (.getfield 12, 3) := by decide +kernel
theorem dX11_scheme_98 : decode cX11_scheme 98 = .ok (.getfield 70, 3) := by decide +kernel
theorem dX11_scheme_101 : decode cX11_scheme 101 = .ok (.getfield 92, 3) := by decide +kernel
theorem dX11_scheme_104 : decode cX11_scheme 104 = .ok (.ireturn, 1) := by decide +kernel
theorem dX11_fault_0 : decode cX11_fault 0 = .ok (.iload_n 1, 1) := by decide +kernel
theorem dX11_fault_1 : decode cX11_fault 1 = .ok (.ifCond .eq 16, 3) := by decide +kernel
theorem dX11_fault_4 : decode cX11_fault 4 = .ok (.aload_n 0, 1) := by decide +kernel
theorem dX11_fault_5 : decode cX11_fault 5 = .ok (.getfield 12, 3) := by decide +kernel
theorem dX11_fault_8 : decode cX11_fault 8 = .ok (.getfield 44, 3) := by decide +kernel
theorem dX11_fault_11 : decode cX11_fault 11 = .ok (.getfield 69, 3) := by decide +kernel
theorem dX11_fault_14 : decode cX11_fault 14 = .ok (.goto 13, 3) := by decide +kernel
theorem dX11_fault_17 : decode cX11_fault 17 = .ok (.aload_n 0, 1) := by decide +kernel
theorem dX11_fault_18 : decode cX11_fault 18 = .ok (.getfield 12, 3) := by decide +kernel
theorem dX11_fault_21 : decode cX11_fault 21 = .ok (.getfield 44, 3) := by decide +kernel
theorem dX11_fault_24 : decode cX11_fault 24 = .ok (.getfield 65, 3) := by decide +kernel
theorem dX11_fault_27 : decode cX11_fault 27 = .ok (.ireturn, 1) := by decide +kernel
set_option maxRecDepth 20000 in
theorem ggX11_say_X11_remember : GoodIn wsX11_say wsX11_remember := gi_e e_wsX11_say e_wsX11_remember (by decide +kernel)
set_option maxRecDepth 20000 in
theorem gX11_say_X11_remember : GoodIn wsX11_say (wsV RX11 104 RX11 yX11_remember wsX11_remember) := goodIn_app (gi_e e_wsX11_say (ce fw_3250 (ce fw_3252 (ce fw_8 (ce fw_1025 (cn))))) (by decide +kernel)) ggX11_say_X11_remember
set_option maxRecDepth 20000 in
theorem ggX11_say_X6_enqueue : GoodIn wsX11_say wsX6_enqueue := gi_e e_wsX11_say e_wsX6_enqueue (by decide +kernel)
set_option maxRecDepth 20000 in
theorem gX11_say_X6_enqueue : GoodIn wsX11_say (wsV RX11 107 RX6 yX6_enqueue wsX6_enqueue) := goodIn_app (gi_e e_wsX11_say (ce fw_3287 (ce fw_3288 (ce fw_3289 (ce fw_1030 (cn))))) (by decide +kernel)) ggX11_say_X6_enqueue
theorem dX11_say_0 : decode cX11_say 0 = .ok (.aload_n 0, 1) := by decide +kernel
theorem dX11_say_1 : decode cX11_say 1 = .ok (.getfield 12, 3) := by decide +kernel
theorem dX11_say_4 : decode cX11_say 4 = .ok (.getfield 83, 3) := by decide +kernel
theorem dX11_say_7 : decode cX11_say 7 = .ok (.getfield 95, 3) := by decide +kernel
theorem dX11_say_10 : decode cX11_say 10 = .ok (.astore_n 2, 1) := by decide +kernel
theorem dX11_say_11 : decode cX11_say 11 = .ok (.iload_n 1, 1) := by decide +kernel
theorem dX11_say_12 : decode cX11_say 12 = .ok (.ifCond .lt 19, 3) := by decide +kernel
theorem dX11_say_15 : decode cX11_say 15 = .ok (.iload_n 1, 1) := by decide +kernel
theorem dX11_say_16 : decode cX11_say 16 = .ok (.sipush 255, 3) := by decide +kernel
theorem dX11_say_19 : decode cX11_say 19 = .ok (.if_icmp .gt 12, 3) := by decide +kernel
theorem dX11_say_22 : decode cX11_say 22 = .ok (.aload_n 2, 1) := by decide +kernel
theorem dX11_say_23 : decode cX11_say 23 = .ok (.getfield 99, 3) := by decide +kernel
theorem dX11_say_26 : decode cX11_say 26 = .ok (.bipush 8, 2) := by decide +kernel
theorem dX11_say_28 : decode cX11_say 28 = .ok (.if_icmp .lt 5, 3) := by decide +kernel
theorem dX11_say_31 : decode cX11_say 31 = .ok (.iconst (-1), 1) := by decide +kernel
theorem dX11_say_32 : decode cX11_say 32 = .ok (.ireturn, 1) := by decide +kernel
theorem dX11_say_33 : decode cX11_say 33 = .ok (.aload_n 0, 1) := by decide +kernel
theorem dX11_say_34 : decode cX11_say 34 = .ok (.invokevirtual 104, 3) := by decide +kernel
theorem dX11_say_37 : decode cX11_say 37 = .ok (.aload_n 2, 1) := by decide +kernel
theorem dX11_say_38 : decode cX11_say 38 = .ok (.iload_n 1, 1) := by decide +kernel
theorem dX11_say_39 : decode cX11_say 39 = .ok (.invokevirtual 107, 3) := by decide +kernel
theorem dX11_say_42 : decode cX11_say 42 = .ok (.aload_n 2, 1) := by decide +kernel
theorem dX11_say_43 : decode cX11_say 43 = .ok (.getfield 99, 3) := by decide +kernel
theorem dX11_say_46 : decode cX11_say 46 = .ok (.ireturn, 1) := by decide +kernel
set_option maxRecDepth 20000 in
theorem ggX11_send_X11_remember : GoodIn wsX11_send wsX11_remember := gi_e e_wsX11_send e_wsX11_remember (by decide +kernel)
set_option maxRecDepth 20000 in
theorem gX11_send_X11_remember : GoodIn wsX11_send (wsV RX11 104 RX11 yX11_remember wsX11_remember) := goodIn_app (gi_e e_wsX11_send (ce fw_3250 (ce fw_3252 (ce fw_8 (ce fw_1025 (cn))))) (by decide +kernel)) ggX11_send_X11_remember
set_option maxRecDepth 20000 in
theorem ggX11_send_X6_transmit : GoodIn wsX11_send wsX6_transmit := gi_e e_wsX11_send e_wsX6_transmit (by decide +kernel)
set_option maxRecDepth 20000 in
theorem gX11_send_X6_transmit : GoodIn wsX11_send (wsV RX11 117 RX6 yX6_transmit wsX6_transmit) := goodIn_app (gi_e e_wsX11_send (ce fw_3295 (ce fw_3296 (ce fw_3297 (ce fw_1030 (cn))))) (by decide +kernel)) ggX11_send_X6_transmit
theorem dX11_send_0 : decode cX11_send 0 = .ok (.aload_n 0, 1) := by decide +kernel
theorem dX11_send_1 : decode cX11_send 1 = .ok (.getfield 12, 3) := by decide +kernel
theorem dX11_send_4 : decode cX11_send 4 = .ok (.getfield 83, 3) := by decide +kernel
theorem dX11_send_7 : decode cX11_send 7 = .ok (.astore_n 3, 1) := by decide +kernel
theorem dX11_send_8 : decode cX11_send 8 = .ok (.iload_n 1, 1) := by decide +kernel
theorem dX11_send_9 : decode cX11_send 9 = .ok (.iconst 1, 1) := by decide +kernel
theorem dX11_send_10 : decode cX11_send 10 = .ok (.if_icmp .lt 35, 3) := by decide +kernel
theorem dX11_send_13 : decode cX11_send 13 = .ok (.iload_n 1, 1) := by decide +kernel
theorem dX11_send_14 : decode cX11_send 14 = .ok (.bipush 8, 2) := by decide +kernel
theorem dX11_send_16 : decode cX11_send 16 = .ok (.if_icmp .gt 29, 3) := by decide +kernel
theorem dX11_send_19 : decode cX11_send 19 = .ok (.aload_n 3, 1) := by decide +kernel
theorem dX11_send_20 : decode cX11_send 20 = .ok (.getfield 110, 3) := by decide +kernel
theorem dX11_send_23 : decode cX11_send 23 = .ok (.getfield 114, 3) := by decide +kernel
theorem dX11_send_26 : decode cX11_send 26 = .ok (.iload_n 1, 1) := by decide +kernel
theorem dX11_send_27 : decode cX11_send 27 = .ok (.aload_n 0, 1) := by decide +kernel
theorem dX11_send_28 : decode cX11_send 28 = .ok (.getfield 12, 3) := by decide +kernel
theorem dX11_send_31 : decode cX11_send 31 = .ok (.getfield 70, 3) := by decide +kernel
theorem dX11_send_34 : decode cX11_send 34 = .ok (.getfield 92, 3) := by decide +kernel
theorem dX11_send_37 : decode cX11_send 37 = .ok (.imul, 1) := by decide +kernel
theorem dX11_send_38 : decode cX11_send 38 = .ok (.iadd, 1) := by decide +kernel
theorem dX11_send_39 : decode cX11_send 39 = .ok (.sipush 4000, 3) := by decide +kernel
theorem dX11_send_42 : decode cX11_send 42 = .ok (.if_icmp .le 5, 3) := by decide +kernel
theorem dX11_send_45 : decode cX11_send 45 = .ok (.iconst (-1), 1) := by decide +kernel
theorem dX11_send_46 : decode cX11_send 46 = .ok (.ireturn, 1) := by decide +kernel
theorem dX11_send_47 : decode cX11_send 47 = .ok (.aload_n 0, 1) := by decide +kernel
theorem dX11_send_48 : decode cX11_send 48 = .ok (.invokevirtual 104, 3) := by decide +kernel
theorem dX11_send_51 : decode cX11_send 51 = .ok (.aload_n 3, 1) := by decide +kernel
theorem dX11_send_52 : decode cX11_send 52 = .ok (.getfield 95, 3) := by decide +kernel
theorem dX11_send_55 : decode cX11_send 55 = .ok (.aload_n 0, 1) := by decide +kernel
theorem dX11_send_56 : decode cX11_send 56 = .ok (.getfield 12, 3) := by decide +kernel
theorem dX11_send_59 : decode cX11_send 59 = .ok (.getfield 70, 3) := by decide +kernel
theorem dX11_send_62 : decode cX11_send 62 = .ok (.aload_n 3, 1) := by decide +kernel
theorem dX11_send_63 : decode cX11_send 63 = .ok (.getfield 110, 3) := by decide +kernel
theorem dX11_send_66 : decode cX11_send 66 = .ok (.iload_n 1, 1) := by decide +kernel
theorem dX11_send_67 : decode cX11_send 67 = .ok (.iload_n 2, 1) := by decide +kernel
theorem dX11_send_68 : decode cX11_send 68 = .ok (.invokevirtual 117, 3) := by decide +kernel
theorem dX11_send_71 : decode cX11_send 71 = .ok (.aload_n 3, 1) := by decide +kernel
theorem dX11_send_72 : decode cX11_send 72 = .ok (.getfield 110, 3) := by decide +kernel
theorem dX11_send_75 : decode cX11_send 75 = .ok (.getfield 114, 3) := by decide +kernel
theorem dX11_send_78 : decode cX11_send 78 = .ok (.ireturn, 1) := by decide +kernel
set_option maxRecDepth 20000 in
theorem ggX11_turn_X11_remember : GoodIn wsX11_turn wsX11_remember := gi_e e_wsX11_turn e_wsX11_remember (by decide +kernel)
set_option maxRecDepth 20000 in
theorem gX11_turn_X11_remember : GoodIn wsX11_turn (wsV RX11 104 RX11 yX11_remember wsX11_remember) := goodIn_app (gi_e e_wsX11_turn (ce fw_3250 (ce fw_3252 (ce fw_8 (ce fw_1025 (cn))))) (by decide +kernel)) ggX11_turn_X11_remember
set_option maxRecDepth 20000 in
theorem ggX11_turn_X2_flip : GoodIn wsX11_turn wsX2_flip := gi_e e_wsX11_turn e_wsX2_flip (by decide +kernel)
set_option maxRecDepth 20000 in
theorem gX11_turn_X2_flip : GoodIn wsX11_turn (wsV RX11 124 RX2 yX2_flip wsX2_flip) := goodIn_app (gi_e e_wsX11_turn (ce fw_4117 (ce fw_4118 (ce fw_4119 (ce fw_1035 (cn))))) (by decide +kernel)) ggX11_turn_X2_flip
theorem dX11_turn_0 : decode cX11_turn 0 = .ok (.aload_n 0, 1) := by decide +kernel
theorem dX11_turn_1 : decode cX11_turn 1 = .ok (.getfield 12, 3) := by decide +kernel
theorem dX11_turn_4 : decode cX11_turn 4 = .ok (.getfield 83, 3) := by decide +kernel
theorem dX11_turn_7 : decode cX11_turn 7 = .ok (.astore_n 2, 1) := by decide +kernel
theorem dX11_turn_8 : decode cX11_turn 8 = .ok (.iload_n 1, 1) := by decide +kernel
theorem dX11_turn_9 : decode cX11_turn 9 = .ok (.aload_n 2, 1) := by decide +kernel
theorem dX11_turn_10 : decode cX11_turn 10 = .ok (.getfield 121, 3) := by decide +kernel
theorem dX11_turn_13 : decode cX11_turn 13 = .ok (.if_icmp .lt 14, 3) := by decide +kernel
theorem dX11_turn_16 : decode cX11_turn 16 = .ok (.iload_n 1, 1) := by decide +kernel
theorem dX11_turn_17 : decode cX11_turn 17 = .ok (.aload_n 2, 1) := by decide +kernel
theorem dX11_turn_18 : decode cX11_turn 18 = .ok (.getfield 110, 3) := by decide +kernel
theorem dX11_turn_21 : decode cX11_turn 21 = .ok (.getfield 114, 3) := by decide +kernel
theorem dX11_turn_24 : decode cX11_turn 24 = .ok (.if_icmp .lt 5, 3) := by decide +kernel
theorem dX11_turn_27 : decode cX11_turn 27 = .ok (.iconst 0, 1) := by decide +kernel
theorem dX11_turn_28 : decode cX11_turn 28 = .ok (.ireturn, 1) := by decide +kernel
theorem dX11_turn_29 : decode cX11_turn 29 = .ok (.aload_n 0, 1) := by decide +kernel
theorem dX11_turn_30 : decode cX11_turn 30 = .ok (.invokevirtual 104, 3) := by decide +kernel
theorem dX11_turn_33 : decode cX11_turn 33 = .ok (.aload_n 2, 1) := by decide +kernel
theorem dX11_turn_34 : decode cX11_turn 34 = .ok (.getfield 110, 3) := by decide +kernel
theorem dX11_turn_37 : decode cX11_turn 37 = .ok (.iload_n 1, 1) := by decide +kernel
theorem dX11_turn_38 : decode cX11_turn 38 = .ok (.invokevirtual 124, 3) := by decide +kernel
theorem dX11_turn_41 : decode cX11_turn 41 = .ok (.iconst 1, 1) := by decide +kernel
theorem dX11_turn_42 : decode cX11_turn 42 = .ok (.ireturn, 1) := by decide +kernel
set_option maxRecDepth 20000 in
theorem ggX11_lose_X11_remember : GoodIn wsX11_lose wsX11_remember := gi_e e_wsX11_lose e_wsX11_remember (by decide +kernel)
set_option maxRecDepth 20000 in
theorem gX11_lose_X11_remember : GoodIn wsX11_lose (wsV RX11 104 RX11 yX11_remember wsX11_remember) := goodIn_app (gi_e e_wsX11_lose (ce fw_3250 (ce fw_3252 (ce fw_8 (ce fw_1025 (cn))))) (by decide +kernel)) ggX11_lose_X11_remember
set_option maxRecDepth 20000 in
theorem ggX11_lose_X2_cut : GoodIn wsX11_lose wsX2_cut := gi_e e_wsX11_lose e_wsX2_cut (by decide +kernel)
set_option maxRecDepth 20000 in
theorem gX11_lose_X2_cut : GoodIn wsX11_lose (wsV RX11 127 RX2 yX2_cut wsX2_cut) := goodIn_app (gi_e e_wsX11_lose (ce fw_4125 (ce fw_4126 (ce fw_4127 (ce fw_1035 (cn))))) (by decide +kernel)) ggX11_lose_X2_cut
theorem dX11_lose_0 : decode cX11_lose 0 = .ok (.aload_n 0, 1) := by decide +kernel
theorem dX11_lose_1 : decode cX11_lose 1 = .ok (.getfield 12, 3) := by decide +kernel
theorem dX11_lose_4 : decode cX11_lose 4 = .ok (.getfield 83, 3) := by decide +kernel
theorem dX11_lose_7 : decode cX11_lose 7 = .ok (.astore_n 3, 1) := by decide +kernel
theorem dX11_lose_8 : decode cX11_lose 8 = .ok (.iload_n 2, 1) := by decide +kernel
theorem dX11_lose_9 : decode cX11_lose 9 = .ok (.iconst 1, 1) := by decide +kernel
theorem dX11_lose_10 : decode cX11_lose 10 = .ok (.if_icmp .lt 31, 3) := by decide +kernel
theorem dX11_lose_13 : decode cX11_lose 13 = .ok (.iload_n 2, 1) := by decide +kernel
theorem dX11_lose_14 : decode cX11_lose 14 = .ok (.sipush 500, 3) := by decide +kernel
theorem dX11_lose_17 : decode cX11_lose 17 = .ok (.if_icmp .gt 24, 3) := by decide +kernel
theorem dX11_lose_20 : decode cX11_lose 20 = .ok (.iload_n 1, 1) := by decide +kernel
theorem dX11_lose_21 : decode cX11_lose 21 = .ok (.aload_n 3, 1) := by decide +kernel
theorem dX11_lose_22 : decode cX11_lose 22 = .ok (.getfield 121, 3) := by decide +kernel
theorem dX11_lose_25 : decode cX11_lose 25 = .ok (.if_icmp .lt 16, 3) := by decide +kernel
theorem dX11_lose_28 : decode cX11_lose 28 = .ok (.iload_n 1, 1) := by decide +kernel
theorem dX11_lose_29 : decode cX11_lose 29 = .ok (.aload_n 3, 1) := by decide +kernel
theorem dX11_lose_30 : decode cX11_lose 30 = .ok (.getfield 110, 3) := by decide +kernel
theorem dX11_lose_33 : decode cX11_lose 33 = .ok (.getfield 114, 3) := by decide +kernel
theorem dX11_lose_36 : decode cX11_lose 36 = .ok (.iload_n 2, 1) := by decide +kernel
theorem dX11_lose_37 : decode cX11_lose 37 = .ok (.isub, 1) := by decide +kernel
theorem dX11_lose_38 : decode cX11_lose 38 = .ok (.if_icmp .le 5, 3) := by decide +kernel
theorem dX11_lose_41 : decode cX11_lose 41 = .ok (.iconst (-1), 1) := by decide +kernel
theorem dX11_lose_42 : decode cX11_lose 42 = .ok (.ireturn, 1) := by decide +kernel
theorem dX11_lose_43 : decode cX11_lose 43 = .ok (.aload_n 0, 1) := by decide +kernel
theorem dX11_lose_44 : decode cX11_lose 44 = .ok (.invokevirtual 104, 3) := by decide +kernel
theorem dX11_lose_47 : decode cX11_lose 47 = .ok (.aload_n 3, 1) := by decide +kernel
theorem dX11_lose_48 : decode cX11_lose 48 = .ok (.getfield 110, 3) := by decide +kernel
theorem dX11_lose_51 : decode cX11_lose 51 = .ok (.iload_n 1, 1) := by decide +kernel
theorem dX11_lose_52 : decode cX11_lose 52 = .ok (.iload_n 2, 1) := by decide +kernel
theorem dX11_lose_53 : decode cX11_lose 53 = .ok (.invokevirtual 127, 3) := by decide +kernel
theorem dX11_lose_56 : decode cX11_lose 56 = .ok (.aload_n 3, 1) := by decide +kernel
theorem dX11_lose_57 : decode cX11_lose 57 = .ok (.getfield 110, 3) := by decide +kernel
theorem dX11_lose_60 : decode cX11_lose 60 = .ok (.getfield 114, 3) := by decide +kernel
theorem dX11_lose_63 : decode cX11_lose 63 = .ok (.ireturn, 1) := by decide +kernel
set_option maxRecDepth 20000 in
theorem ggX11_put_X11_remember : GoodIn wsX11_put wsX11_remember := gi_e e_wsX11_put e_wsX11_remember (by decide +kernel)
set_option maxRecDepth 20000 in
theorem gX11_put_X11_remember : GoodIn wsX11_put (wsV RX11 104 RX11 yX11_remember wsX11_remember) := goodIn_app (gi_e e_wsX11_put (ce fw_3250 (ce fw_3252 (ce fw_8 (ce fw_1025 (cn))))) (by decide +kernel)) ggX11_put_X11_remember
set_option maxRecDepth 20000 in
theorem ggX11_put_X2_insert : GoodIn wsX11_put wsX2_insert := gi_e e_wsX11_put e_wsX2_insert (by decide +kernel)
set_option maxRecDepth 20000 in
theorem gX11_put_X2_insert : GoodIn wsX11_put (wsV RX11 131 RX2 yX2_insert wsX2_insert) := goodIn_app (gi_e e_wsX11_put (ce fw_4133 (ce fw_4134 (ce fw_4135 (ce fw_1035 (cn))))) (by decide +kernel)) ggX11_put_X2_insert
theorem dX11_put_0 : decode cX11_put 0 = .ok (.aload_n 0, 1) := by decide +kernel
theorem dX11_put_1 : decode cX11_put 1 = .ok (.getfield 12, 3) := by decide +kernel
theorem dX11_put_4 : decode cX11_put 4 = .ok (.getfield 83, 3) := by decide +kernel
theorem dX11_put_7 : decode cX11_put 7 = .ok (.astore_n 3, 1) := by decide +kernel
theorem dX11_put_8 : decode cX11_put 8 = .ok (.iload_n 1, 1) := by decide +kernel
theorem dX11_put_9 : decode cX11_put 9 = .ok (.aload_n 3, 1) := by decide +kernel
theorem dX11_put_10 : decode cX11_put 10 = .ok (.getfield 121, 3) := by decide +kernel
theorem dX11_put_13 : decode cX11_put 13 = .ok (.if_icmp .lt 27, 3) := by decide +kernel
theorem dX11_put_16 : decode cX11_put 16 = .ok (.iload_n 1, 1) := by decide +kernel
theorem dX11_put_17 : decode cX11_put 17 = .ok (.aload_n 3, 1) := by decide +kernel
theorem dX11_put_18 : decode cX11_put 18 = .ok (.getfield 110, 3) := by decide +kernel
theorem dX11_put_21 : decode cX11_put 21 = .ok (.getfield 114, 3) := by decide +kernel
theorem dX11_put_24 : decode cX11_put 24 = .ok (.if_icmp .gt 16, 3) := by decide +kernel
theorem dX11_put_27 : decode cX11_put 27 = .ok (.aload_n 3, 1) := by decide +kernel
theorem dX11_put_28 : decode cX11_put 28 = .ok (.getfield 110, 3) := by decide +kernel
theorem dX11_put_31 : decode cX11_put 31 = .ok (.getfield 114, 3) := by decide +kernel
theorem dX11_put_34 : decode cX11_put 34 = .ok (.sipush 4000, 3) := by decide +kernel
theorem dX11_put_37 : decode cX11_put 37 = .ok (.if_icmp .lt 5, 3) := by decide +kernel
theorem dX11_put_40 : decode cX11_put 40 = .ok (.iconst (-1), 1) := by decide +kernel
theorem dX11_put_41 : decode cX11_put 41 = .ok (.ireturn, 1) := by decide +kernel
theorem dX11_put_42 : decode cX11_put 42 = .ok (.aload_n 0, 1) := by decide +kernel
theorem dX11_put_43 : decode cX11_put 43 = .ok (.invokevirtual 104, 3) := by decide +kernel
theorem dX11_put_46 : decode cX11_put 46 = .ok (.aload_n 3, 1) := by decide +kernel
theorem dX11_put_47 : decode cX11_put 47 = .ok (.getfield 110, 3) := by decide +kernel
theorem dX11_put_50 : decode cX11_put 50 = .ok (.iload_n 1, 1) := by decide +kernel
theorem dX11_put_51 : decode cX11_put 51 = .ok (.iload_n 2, 1) := by decide +kernel
theorem dX11_put_52 : decode cX11_put 52 = .ok (.ifCond .eq 7, 3) := by decide +kernel
theorem dX11_put_55 : decode cX11_put 55 = .ok (.iconst 1, 1) := by decide +kernel
theorem dX11_put_56 : decode cX11_put 56 = .ok (.goto 4, 3) := by decide +kernel
theorem dX11_put_59 : decode cX11_put 59 = .ok (.iconst 0, 1) := by decide +kernel
theorem dX11_put_60 : decode cX11_put 60 = .ok (.invokevirtual 131, 3) := by decide +kernel
theorem dX11_put_63 : decode cX11_put 63 = .ok (.aload_n 3, 1) := by decide +kernel
theorem dX11_put_64 : decode cX11_put 64 = .ok (.getfield 110, 3) := by decide +kernel
theorem dX11_put_67 : decode cX11_put 67 = .ok (.getfield 114, 3) := by decide +kernel
theorem dX11_put_70 : decode cX11_put 70 = .ok (.ireturn, 1) := by decide +kernel
set_option maxRecDepth 20000 in
theorem ggX11_hear_X11_remember : GoodIn wsX11_hear wsX11_remember := gi_e e_wsX11_hear e_wsX11_remember (by decide +kernel)
set_option maxRecDepth 20000 in
theorem gX11_hear_X11_remember : GoodIn wsX11_hear (wsV RX11 104 RX11 yX11_remember wsX11_remember) := goodIn_app (gi_e e_wsX11_hear (ce fw_3250 (ce fw_3252 (ce fw_8 (ce fw_1025 (cn))))) (by decide +kernel)) ggX11_hear_X11_remember
set_option maxRecDepth 20000 in
theorem ggX11_hear_X9_listen : GoodIn wsX11_hear wsX9_listen := gi_e e_wsX11_hear e_wsX9_listen (by decide +kernel)
set_option maxRecDepth 20000 in
theorem gX11_hear_X9_listen : GoodIn wsX11_hear (wsV RX11 134 RX9 yX9_listen wsX9_listen) := goodIn_app (gi_e e_wsX11_hear (ce fw_4141 (ce fw_4142 (ce fw_4143 (ce fw_1029 (cn))))) (by decide +kernel)) ggX11_hear_X9_listen
theorem dX11_hear_0 : decode cX11_hear 0 = .ok (.aload_n 0, 1) := by decide +kernel
theorem dX11_hear_1 : decode cX11_hear 1 = .ok (.getfield 12, 3) := by decide +kernel
theorem dX11_hear_4 : decode cX11_hear 4 = .ok (.getfield 83, 3) := by decide +kernel
theorem dX11_hear_7 : decode cX11_hear 7 = .ok (.astore_n 2, 1) := by decide +kernel
theorem dX11_hear_8 : decode cX11_hear 8 = .ok (.iload_n 1, 1) := by decide +kernel
theorem dX11_hear_9 : decode cX11_hear 9 = .ok (.iconst 1, 1) := by decide +kernel
theorem dX11_hear_10 : decode cX11_hear 10 = .ok (.if_icmp .lt 26, 3) := by decide +kernel
theorem dX11_hear_13 : decode cX11_hear 13 = .ok (.iload_n 1, 1) := by decide +kernel
theorem dX11_hear_14 : decode cX11_hear 14 = .ok (.sipush 4000, 3) := by decide +kernel
theorem dX11_hear_17 : decode cX11_hear 17 = .ok (.if_icmp .gt 19, 3) := by decide +kernel
theorem dX11_hear_20 : decode cX11_hear 20 = .ok (.iload_n 1, 1) := by decide +kernel
theorem dX11_hear_21 : decode cX11_hear 21 = .ok (.aload_n 2, 1) := by decide +kernel
theorem dX11_hear_22 : decode cX11_hear 22 = .ok (.getfield 110, 3) := by decide +kernel
theorem dX11_hear_25 : decode cX11_hear 25 = .ok (.getfield 114, 3) := by decide +kernel
theorem dX11_hear_28 : decode cX11_hear 28 = .ok (.aload_n 2, 1) := by decide +kernel
theorem dX11_hear_29 : decode cX11_hear 29 = .ok (.getfield 121, 3) := by decide +kernel
theorem dX11_hear_32 : decode cX11_hear 32 = .ok (.isub, 1) := by decide +kernel
theorem dX11_hear_33 : decode cX11_hear 33 = .ok (.if_icmp .le 5, 3) := by decide +kernel
theorem dX11_hear_36 : decode cX11_hear 36 = .ok (.iconst (-1), 1) := by decide +kernel
theorem dX11_hear_37 : decode cX11_hear 37 = .ok (.ireturn, 1) := by decide +kernel
theorem dX11_hear_38 : decode cX11_hear 38 = .ok (.aload_n 0, 1) := by decide +kernel
theorem dX11_hear_39 : decode cX11_hear 39 = .ok (.invokevirtual 104, 3) := by decide +kernel
theorem dX11_hear_42 : decode cX11_hear 42 = .ok (.aload_n 2, 1) := by decide +kernel
theorem dX11_hear_43 : decode cX11_hear 43 = .ok (.aload_n 0, 1) := by decide +kernel
theorem dX11_hear_44 : decode cX11_hear 44 = .ok (.getfield 12, 3) := by decide +kernel
theorem dX11_hear_47 : decode cX11_hear 47 = .ok (.getfield 70, 3) := by decide +kernel
theorem dX11_hear_50 : decode cX11_hear 50 = .ok (.aload_n 2, 1) := by decide +kernel
theorem dX11_hear_51 : decode cX11_hear 51 = .ok (.getfield 121, 3) := by decide +kernel
theorem dX11_hear_54 : decode cX11_hear 54 = .ok (.iload_n 1, 1) := by decide +kernel
theorem dX11_hear_55 : decode cX11_hear 55 = .ok (.iadd, 1) := by decide +kernel
theorem dX11_hear_56 : decode cX11_hear 56 = .ok (.invokevirtual 134, 3) := by decide +kernel
theorem dX11_hear_59 : decode cX11_hear 59 = .ok (.aload_n 2, 1) := by decide +kernel
theorem dX11_hear_60 : decode cX11_hear 60 = .ok (.getfield 121, 3) := by decide +kernel
theorem dX11_hear_63 : decode cX11_hear 63 = .ok (.ireturn, 1) := by decide +kernel
set_option maxRecDepth 20000 in
theorem ggX11_undo_X9_copyFrom : GoodIn wsX11_undo wsX9_copyFrom := gi_e e_wsX11_undo e_wsX9_copyFrom (by decide +kernel)
set_option maxRecDepth 20000 in
theorem gX11_undo_X9_copyFrom : GoodIn wsX11_undo (wsV RX11 138 RX9 yX9_copyFrom wsX9_copyFrom) := goodIn_app (gi_e e_wsX11_undo (ce fw_3254 (ce fw_3255 (ce fw_3256 (ce fw_1029 (cn))))) (by decide +kernel)) ggX11_undo_X9_copyFrom
theorem dX11_undo_0 : decode cX11_undo 0 = .ok (.aload_n 0, 1) := by decide +kernel
theorem dX11_undo_1 : decode cX11_undo 1 = .ok (.getfield 89, 3) := by decide +kernel
theorem dX11_undo_4 : decode cX11_undo 4 = .ok (.iconst 1, 1) := by decide +kernel
theorem dX11_undo_5 : decode cX11_undo 5 = .ok (.if_icmp .lt 12, 3) := by decide +kernel
theorem dX11_undo_8 : decode cX11_undo 8 = .ok (.aload_n 0, 1) := by decide +kernel
theorem dX11_undo_9 : decode cX11_undo 9 = .ok (.getfield 89, 3) := by decide +kernel
theorem dX11_undo_12 : decode cX11_undo 12 = .ok (.bipush 6, 2) := by decide +kernel
theorem dX11_undo_14 : decode cX11_undo 14 = .ok (.if_icmp .le 5, 3) := by decide +kernel
theorem dX11_undo_17 : decode cX11_undo 17 = .ok (.iconst (-1), 1) := by decide +kernel
theorem dX11_undo_18 : decode cX11_undo 18 = .ok (.ireturn, 1) := by decide +kernel
theorem dX11_undo_19 : decode cX11_undo 19 = .ok (.aload_n 0, 1) := by decide +kernel
theorem dX11_undo_20 : decode cX11_undo 20 = .ok (.dup, 1) := by decide +kernel
theorem dX11_undo_21 : decode cX11_undo 21 = .ok (.getfield 89, 3) := by decide +kernel
theorem dX11_undo_24 : decode cX11_undo 24 = .ok (.iconst 1, 1) := by decide +kernel
theorem dX11_undo_25 : decode cX11_undo 25 = .ok (.isub, 1) := by decide +kernel
theorem dX11_undo_26 : decode cX11_undo 26 = .ok (.putfield 89, 3) := by decide +kernel
theorem dX11_undo_29 : decode cX11_undo 29 = .ok (.aload_n 0, 1) := by decide +kernel
theorem dX11_undo_30 : decode cX11_undo 30 = .ok (.getfield 12, 3) := by decide +kernel
theorem dX11_undo_33 : decode cX11_undo 33 = .ok (.getfield 83, 3) := by decide +kernel
theorem dX11_undo_36 : decode cX11_undo 36 = .ok (.aload_n 0, 1) := by decide +kernel
theorem dX11_undo_37 : decode cX11_undo 37 = .ok (.getfield 26, 3) := by decide +kernel
theorem dX11_undo_40 : decode cX11_undo 40 = .ok (.aload_n 0, 1) := by decide +kernel
theorem dX11_undo_41 : decode cX11_undo 41 = .ok (.getfield 89, 3) := by decide +kernel
theorem dX11_undo_44 : decode cX11_undo 44 = .ok (.aaload, 1) := by decide +kernel
theorem dX11_undo_45 : decode cX11_undo 45 = .ok (.invokevirtual 138, 3) := by decide +kernel
theorem dX11_undo_48 : decode cX11_undo 48 = .ok (.aload_n 0, 1) := by decide +kernel
theorem dX11_undo_49 : decode cX11_undo 49 = .ok (.getfield 89, 3) := by decide +kernel
theorem dX11_undo_52 : decode cX11_undo 52 = .ok (.ireturn, 1) := by decide +kernel
theorem dX11_count_0 : decode cX11_count 0 = .ok (.aload_n 0, 1) := by decide +kernel
theorem dX11_count_1 : decode cX11_count 1 = .ok (.getfield 12, 3) := by decide +kernel
theorem dX11_count_4 : decode cX11_count 4 = .ok (.getfield 70, 3) := by decide +kernel
theorem dX11_count_7 : decode cX11_count 7 = .ok (.astore_n 2, 1) := by decide +kernel
theorem dX11_count_8 : decode cX11_count 8 = .ok (.iload_n 1, 1) := by decide +kernel
theorem dX11_count_9 : decode cX11_count 9 = .ok (.tableswitch 189 0 15 #[79, 84, 89, 94, 99, 104, 109, 114, 119, 124, 129, 134, 148, 159, 164, 175], 79) := by decide +kernel
theorem dX11_count_88 : decode cX11_count 88 = .ok (.aload_n 2, 1) := by decide +kernel
theorem dX11_count_89 : decode cX11_count 89 = .ok (.getfield 141, 3) := by decide +kernel
theorem dX11_count_92 : decode cX11_count 92 = .ok (.ireturn, 1) := by decide +kernel
theorem dX11_count_93 : decode cX11_count 93 = .ok (.aload_n 2, 1) := by decide +kernel
theorem dX11_count_94 : decode cX11_count 94 = .ok (.getfield 144, 3) := by decide +kernel
theorem dX11_count_97 : decode cX11_count 97 = .ok (.ireturn, 1) := by decide +kernel
theorem dX11_count_98 : decode cX11_count 98 = .ok (.aload_n 2, 1) := by decide +kernel
theorem dX11_count_99 : decode cX11_count 99 = .ok (.getfield 147, 3) := by decide +kernel
theorem dX11_count_102 : decode cX11_count 102 = .ok (.ireturn, 1) := by decide +kernel
theorem dX11_count_103 : decode cX11_count 103 = .ok (.aload_n 2, 1) := by decide +kernel
theorem dX11_count_104 : decode cX11_count 104 = .ok (.getfield 150, 3) := by decide +kernel
theorem dX11_count_107 : decode cX11_count 107 = .ok (.ireturn, 1) := by decide +kernel
theorem dX11_count_108 : decode cX11_count 108 = .ok (.aload_n 2, 1) := by decide +kernel
theorem dX11_count_109 : decode cX11_count 109 = .ok (.getfield 153, 3) := by decide +kernel
theorem dX11_count_112 : decode cX11_count 112 = .ok (.ireturn, 1) := by decide +kernel
theorem dX11_count_113 : decode cX11_count 113 = .ok (.aload_n 2, 1) := by decide +kernel
theorem dX11_count_114 : decode cX11_count 114 = .ok (.getfield 156, 3) := by decide +kernel
theorem dX11_count_117 : decode cX11_count 117 = .ok (.ireturn, 1) := by decide +kernel
theorem dX11_count_118 : decode cX11_count 118 = .ok (.aload_n 2, 1) := by decide +kernel
theorem dX11_count_119 : decode cX11_count 119 = .ok (.getfield 159, 3) := by decide +kernel
theorem dX11_count_122 : decode cX11_count 122 = .ok (.ireturn, 1) := by decide +kernel
theorem dX11_count_123 : decode cX11_count 123 = .ok (.aload_n 2, 1) := by decide +kernel
theorem dX11_count_124 : decode cX11_count 124 = .ok (.getfield 162, 3) := by decide +kernel
theorem dX11_count_127 : decode cX11_count 127 = .ok (.ireturn, 1) := by decide +kernel
theorem dX11_count_128 : decode cX11_count 128 = .ok (.aload_n 2, 1) := by decide +kernel
theorem dX11_count_129 : decode cX11_count 129 = .ok (.getfield 165, 3) := by decide +kernel
theorem dX11_count_132 : decode cX11_count 132 = .ok (.ireturn, 1) := by decide +kernel
theorem dX11_count_133 : decode cX11_count 133 = .ok (.aload_n 2, 1) := by decide +kernel
theorem dX11_count_134 : decode cX11_count 134 = .ok (.getfield 168, 3) := by decide +kernel
theorem dX11_count_137 : decode cX11_count 137 = .ok (.ireturn, 1) := by decide +kernel
theorem dX11_count_138 : decode cX11_count 138 = .ok (.aload_n 2, 1) := by decide +kernel
theorem dX11_count_139 : decode cX11_count 139 = .ok (.getfield 171, 3) := by decide +kernel
theorem dX11_count_142 : decode cX11_count 142 = .ok (.ireturn, 1) := by decide +kernel
theorem dX11_count_143 : decode cX11_count 143 = .ok (.aload_n 0, 1) := by decide +kernel
theorem dX11_count_144 : decode cX11_count 144 = .ok (.getfield 12, 3) := by decide +kernel
theorem dX11_count_147 : decode cX11_count 147 = .ok (.getfield 83, 3) := by decide +kernel
theorem dX11_count_150 : decode cX11_count 150 = .ok (.getfield 110, 3) := by decide +kernel
theorem dX11_count_153 : decode cX11_count 153 = .ok (.getfield 114, 3) := by decide +kernel
theorem dX11_count_156 : decode cX11_count 156 = .ok (.ireturn, 1) := by decide +kernel
theorem dX11_count_157 : decode cX11_count 157 = .ok (.aload_n 0, 1) := by decide +kernel
theorem dX11_count_158 : decode cX11_count 158 = .ok (.getfield 12, 3) := by decide +kernel
theorem dX11_count_161 : decode cX11_count 161 = .ok (.getfield 83, 3) := by decide +kernel
theorem dX11_count_164 : decode cX11_count 164 = .ok (.getfield 121, 3) := by decide +kernel
theorem dX11_count_167 : decode cX11_count 167 = .ok (.ireturn, 1) := by decide +kernel
theorem dX11_count_168 : decode cX11_count 168 = .ok (.aload_n 0, 1) := by decide +kernel
theorem dX11_count_169 : decode cX11_count 169 = .ok (.getfield 89, 3) := by decide +kernel
theorem dX11_count_172 : decode cX11_count 172 = .ok (.ireturn, 1) := by decide +kernel
theorem dX11_count_173 : decode cX11_count 173 = .ok (.aload_n 0, 1) := by decide +kernel
theorem dX11_count_174 : decode cX11_count 174 = .ok (.getfield 12, 3) := by decide +kernel
theorem dX11_count_177 : decode cX11_count 177 = .ok (.getfield 44, 3) := by decide +kernel
theorem dX11_count_180 : decode cX11_count 180 = .ok (.getfield 58, 3) := by decide +kernel
theorem dX11_count_183 : decode cX11_count 183 = .ok (.ireturn, 1) := by decide +kernel
theorem dX11_count_184 : decode cX11_count 184 = .ok (.aload_n 0, 1) := by decide +kernel
theorem dX11_count_185 : decode cX11_count 185 = .ok (.getfield 12, 3) := by decide +kernel
theorem dX11_count_188 : decode cX11_count 188 = .ok (.getfield 83, 3) := by decide +kernel
theorem dX11_count_191 : decode cX11_count 191 = .ok (.getfield 95, 3) := by decide +kernel
theorem dX11_count_194 : decode cX11_count 194 = .ok (.getfield 99, 3) := by decide +kernel
theorem dX11_count_197 : decode cX11_count 197 = .ok (.ireturn, 1) := by decide +kernel
theorem dX11_count_198 : decode cX11_count 198 = .ok (.sipush (-1000), 3) := by decide +kernel
theorem dX11_count_201 : decode cX11_count 201 = .ok (.ireturn, 1) := by decide +kernel
set_option maxRecDepth 20000 in
theorem ggX11_role_X5_roleAt : GoodIn wsX11_role wsX5_roleAt := goodIn_r _ [9, 10, 11, 22, 23, 24, 25, 26, 27, 28, 29, 30, 31, 32, 33, 34, 35, 36, 37] (by decide +kernel) (by decide +kernel)
set_option maxRecDepth 20000 in
theorem gX11_role_X5_roleAt : GoodIn wsX11_role (wsV RX11 174 RX5 yX5_roleAt wsX5_roleAt) := goodIn_app (goodIn_of _ (by decide +kernel)) ggX11_role_X5_roleAt
theorem dX11_role_0 : decode cX11_role 0 = .ok (.aload_n 0, 1) := by decide +kernel
theorem dX11_role_1 : decode cX11_role 1 = .ok (.getfield 12, 3) := by decide +kernel
theorem dX11_role_4 : decode cX11_role 4 = .ok (.getfield 70, 3) := by decide +kernel
theorem dX11_role_7 : decode cX11_role 7 = .ok (.iload_n 1, 1) := by decide +kernel
theorem dX11_role_8 : decode cX11_role 8 = .ok (.invokevirtual 174, 3) := by decide +kernel
theorem dX11_role_11 : decode cX11_role 11 = .ok (.istore_n 2, 1) := by decide +kernel
theorem dX11_role_12 : decode cX11_role 12 = .ok (.iload_n 2, 1) := by decide +kernel
theorem dX11_role_13 : decode cX11_role 13 = .ok (.iconst (-1), 1) := by decide +kernel
theorem dX11_role_14 : decode cX11_role 14 = .ok (.if_icmp .ne 13, 3) := by decide +kernel
theorem dX11_role_17 : decode cX11_role 17 = .ok (.new 178, 3) := by decide +kernel
theorem dX11_role_20 : decode cX11_role 20 = .ok (.dup, 1) := by decide +kernel
theorem dX11_role_21 : decode cX11_role 21 = .ok (.ldc 180, 2) := by decide +kernel
theorem dX11_role_23 : decode cX11_role 23 = .ok (.invokespecial 182, 3) := by decide +kernel
theorem dX11_role_26 : decode cX11_role 26 = .ok (.athrow, 1) := by decide +kernel
theorem dX11_role_27 : decode cX11_role 27 = .ok (.iload_n 2, 1) := by decide +kernel
theorem dX11_role_28 : decode cX11_role 28 = .ok (.ireturn, 1) := by decide +kernel
set_option maxRecDepth 20000 in
theorem ggX11_bit_X2_at : GoodIn wsX11_bit wsX2_at := gi_e e_wsX11_bit e_wsX2_at (by decide +kernel)
set_option maxRecDepth 20000 in
theorem gX11_bit_X2_at : GoodIn wsX11_bit (wsV RX11 185 RX2 yX2_at wsX2_at) := goodIn_app (gi_e e_wsX11_bit (ce fw_4280 (ce fw_4110 (ce fw_4111 (ce fw_1035 (cn))))) (by decide +kernel)) ggX11_bit_X2_at
theorem dX11_bit_0 : decode cX11_bit 0 = .ok (.aload_n 0, 1) := by decide +kernel
theorem dX11_bit_1 : decode cX11_bit 1 = .ok (.getfield 12, 3) := by decide +kernel
theorem dX11_bit_4 : decode cX11_bit 4 = .ok (.getfield 83, 3) := by decide +kernel
theorem dX11_bit_7 : decode cX11_bit 7 = .ok (.getfield 110, 3) := by decide +kernel
theorem dX11_bit_10 : decode cX11_bit 10 = .ok (.iload_n 1, 1) := by decide +kernel
theorem dX11_bit_11 : decode cX11_bit 11 = .ok (.invokevirtual 185, 3) := by decide +kernel
theorem dX11_bit_14 : decode cX11_bit 14 = .ok (.ireturn, 1) := by decide +kernel
set_option maxRecDepth 20000 in
theorem ggX11_checks_X5_checksOf : GoodIn wsX11_checks wsX5_checksOf := gi_e e_wsX11_checks e_wsX5_checksOf (by decide +kernel)
set_option maxRecDepth 20000 in
theorem gX11_checks_X5_checksOf : GoodIn wsX11_checks (wsV RX11 188 RX5 yX5_checksOf wsX5_checksOf) := goodIn_app (gi_e e_wsX11_checks (ce fw_4285 (ce fw_4105 (ce fw_4106 (ce fw_1027 (cn))))) (by decide +kernel)) ggX11_checks_X5_checksOf
theorem dX11_checks_0 : decode cX11_checks 0 = .ok (.aload_n 0, 1) := by decide +kernel
theorem dX11_checks_1 : decode cX11_checks 1 = .ok (.getfield 12, 3) := by decide +kernel
theorem dX11_checks_4 : decode cX11_checks 4 = .ok (.getfield 83, 3) := by decide +kernel
theorem dX11_checks_7 : decode cX11_checks 7 = .ok (.getfield 110, 3) := by decide +kernel
theorem dX11_checks_10 : decode cX11_checks 10 = .ok (.astore_n 2, 1) := by decide +kernel
theorem dX11_checks_11 : decode cX11_checks 11 = .ok (.iload_n 1, 1) := by decide +kernel
theorem dX11_checks_12 : decode cX11_checks 12 = .ok (.ifCond .lt 22, 3) := by decide +kernel
theorem dX11_checks_15 : decode cX11_checks 15 = .ok (.iload_n 1, 1) := by decide +kernel
theorem dX11_checks_16 : decode cX11_checks 16 = .ok (.aload_n 2, 1) := by decide +kernel
theorem dX11_checks_17 : decode cX11_checks 17 = .ok (.getfield 114, 3) := by decide +kernel
theorem dX11_checks_20 : decode cX11_checks 20 = .ok (.aload_n 0, 1) := by decide +kernel
theorem dX11_checks_21 : decode cX11_checks 21 = .ok (.getfield 12, 3) := by decide +kernel
theorem dX11_checks_24 : decode cX11_checks 24 = .ok (.getfield 70, 3) := by decide +kernel
theorem dX11_checks_27 : decode cX11_checks 27 = .ok (.getfield 92, 3) := by decide +kernel
theorem dX11_checks_30 : decode cX11_checks 30 = .ok (.isub, 1) := by decide +kernel
theorem dX11_checks_31 : decode cX11_checks 31 = .ok (.if_icmp .le 5, 3) := by decide +kernel
theorem dX11_checks_34 : decode cX11_checks 34 = .ok (.iconst (-1), 1) := by decide +kernel
theorem dX11_checks_35 : decode cX11_checks 35 = .ok (.ireturn, 1) := by decide +kernel
theorem dX11_checks_36 : decode cX11_checks 36 = .ok (.aload_n 0, 1) := by decide +kernel
theorem dX11_checks_37 : decode cX11_checks 37 = .ok (.getfield 12, 3) := by decide +kernel
theorem dX11_checks_40 : decode cX11_checks 40 = .ok (.getfield 70, 3) := by decide +kernel
theorem dX11_checks_43 : decode cX11_checks 43 = .ok (.aload_n 2, 1) := by decide +kernel
theorem dX11_checks_44 : decode cX11_checks 44 = .ok (.iload_n 1, 1) := by decide +kernel
theorem dX11_checks_45 : decode cX11_checks 45 = .ok (.invokevirtual 188, 3) := by decide +kernel
theorem dX11_checks_48 : decode cX11_checks 48 = .ok (.ireturn, 1) := by decide +kernel
set_option maxRecDepth 20000 in
theorem ggX11_receiver_X4_tell : GoodIn wsX11_receiver wsX4_tell := gi_e e_wsX11_receiver e_wsX4_tell (by decide +kernel)
set_option maxRecDepth 20000 in
theorem gX11_receiver_X4_tell : GoodIn wsX11_receiver (wsV RX11 196 RX4 yX4_tell wsX4_tell) := goodIn_app (gi_e e_wsX11_receiver (ce fw_4290 (ce fw_4291 (ce fw_4292 (ce fw_1031 (cn))))) (by decide +kernel)) ggX11_receiver_X4_tell
theorem dX11_receiver_0 : decode cX11_receiver 0 = .ok (.aload_n 0, 1) := by decide +kernel
theorem dX11_receiver_1 : decode cX11_receiver 1 = .ok (.getfield 12, 3) := by decide +kernel
theorem dX11_receiver_4 : decode cX11_receiver 4 = .ok (.getfield 83, 3) := by decide +kernel
theorem dX11_receiver_7 : decode cX11_receiver 7 = .ok (.getfield 192, 3) := by decide +kernel
theorem dX11_receiver_10 : decode cX11_receiver 10 = .ok (.aload_n 0, 1) := by decide +kernel
theorem dX11_receiver_11 : decode cX11_receiver 11 = .ok (.getfield 12, 3) := by decide +kernel
theorem dX11_receiver_14 : decode cX11_receiver 14 = .ok (.getfield 70, 3) := by decide +kernel
theorem dX11_receiver_17 : decode cX11_receiver 17 = .ok (.iload_n 1, 1) := by decide +kernel
theorem dX11_receiver_18 : decode cX11_receiver 18 = .ok (.invokevirtual 196, 3) := by decide +kernel
theorem dX11_receiver_21 : decode cX11_receiver 21 = .ok (.ireturn, 1) := by decide +kernel
set_option maxRecDepth 20000 in
theorem ggX11_candidate_X1_nth : GoodIn wsX11_candidate wsX1_nth := gi_e e_wsX11_candidate e_wsX1_nth (by decide +kernel)
set_option maxRecDepth 20000 in
theorem gX11_candidate_X1_nth : GoodIn wsX11_candidate (wsV RX11 209 RX1 yX1_nth wsX1_nth) := goodIn_app (gi_e e_wsX11_candidate (ce fw_4298 (ce fw_4181 (ce fw_4182 (ce fw_1032 (cn))))) (by decide +kernel)) ggX11_candidate_X1_nth
theorem dX11_candidate_0 : decode cX11_candidate 0 = .ok (.aload_n 0, 1) := by decide +kernel
theorem dX11_candidate_1 : decode cX11_candidate 1 = .ok (.getfield 12, 3) := by decide +kernel
theorem dX11_candidate_4 : decode cX11_candidate 4 = .ok (.getfield 83, 3) := by decide +kernel
theorem dX11_candidate_7 : decode cX11_candidate 7 = .ok (.getfield 192, 3) := by decide +kernel
theorem dX11_candidate_10 : decode cX11_candidate 10 = .ok (.astore_n 2, 1) := by decide +kernel
theorem dX11_candidate_11 : decode cX11_candidate 11 = .ok (.aload_n 2, 1) := by decide +kernel
theorem dX11_candidate_12 : decode cX11_candidate 12 = .ok (.getfield 202, 3) := by decide +kernel
theorem dX11_candidate_15 : decode cX11_candidate 15 = .ok (.ifCond .ne 21, 3) := by decide +kernel
theorem dX11_candidate_18 : decode cX11_candidate 18 = .ok (.aload_n 2, 1) := by decide +kernel
theorem dX11_candidate_19 : decode cX11_candidate 19 = .ok (.getfield 205, 3) := by decide +kernel
theorem dX11_candidate_22 : decode cX11_candidate 22 = .ok (.aload_n 0, 1) := by decide +kernel
theorem dX11_candidate_23 : decode cX11_candidate 23 = .ok (.getfield 12, 3) := by decide +kernel
theorem dX11_candidate_26 : decode cX11_candidate 26 = .ok (.getfield 70, 3) := by decide +kernel
theorem dX11_candidate_29 : decode cX11_candidate 29 = .ok (.iload_n 1, 1) := by decide +kernel
theorem dX11_candidate_30 : decode cX11_candidate 30 = .ok (.invokevirtual 209, 3) := by decide +kernel
theorem dX11_candidate_33 : decode cX11_candidate 33 = .ok (.goto 4, 3) := by decide +kernel
theorem dX11_candidate_36 : decode cX11_candidate 36 = .ok (.iconst (-1), 1) := by decide +kernel
theorem dX11_candidate_37 : decode cX11_candidate 37 = .ok (.ireturn, 1) := by decide +kernel
set_option maxRecDepth 20000 in
theorem ggX11_frame_X11_channelOnes : GoodIn wsX11_frame wsX11_channelOnes := gi_e e_wsX11_frame e_wsX11_channelOnes (by decide +kernel)
set_option maxRecDepth 20000 in
theorem gX11_frame_X11_channelOnes : GoodIn wsX11_frame (wsV RX11 232 RX11 yX11_channelOnes wsX11_channelOnes) := goodIn_app (gi_e e_wsX11_frame (ce fw_4303 (ce fw_4305 (ce fw_24 (ce fw_1025 (cn))))) (by decide +kernel)) ggX11_frame_X11_channelOnes
set_option maxRecDepth 20000 in
theorem ggX11_frame_X11_channelNumber : GoodIn wsX11_frame wsX11_channelNumber := gi_e e_wsX11_frame e_wsX11_channelNumber (by decide +kernel)
set_option maxRecDepth 20000 in
theorem gX11_frame_X11_channelNumber : GoodIn wsX11_frame (wsV RX11 235 RX11 yX11_channelNumber wsX11_channelNumber) := goodIn_app (gi_e e_wsX11_frame (ce fw_4307 (ce fw_4309 (ce fw_25 (ce fw_1025 (cn))))) (by decide +kernel)) ggX11_frame_X11_channelNumber
theorem dX11_frame_0 : decode cX11_frame 0 = .ok (.aload_n 0, 1) := by decide +kernel
theorem dX11_frame_1 : decode cX11_frame 1 = .ok (.getfield 12, 3) := by decide +kernel
theorem dX11_frame_4 : decode cX11_frame 4 = .ok (.getfield 83, 3) := by decide +kernel
theorem dX11_frame_7 : decode cX11_frame 7 = .ok (.getfield 192, 3) := by decide +kernel
theorem dX11_frame_10 : decode cX11_frame 10 = .ok (.getfield 214, 3) := by decide +kernel
theorem dX11_frame_13 : decode cX11_frame 13 = .ok (.astore_n 2, 1) := by decide +kernel
theorem dX11_frame_14 : decode cX11_frame 14 = .ok (.aload_n 2, 1) := by decide +kernel
theorem dX11_frame_15 : decode cX11_frame 15 = .ok (.getfield 218, 3) := by decide +kernel
theorem dX11_frame_18 : decode cX11_frame 18 = .ok (.ifCond .ne 5, 3) := by decide +kernel
theorem dX11_frame_21 : decode cX11_frame 21 = .ok (.iconst (-1), 1) := by decide +kernel
theorem dX11_frame_22 : decode cX11_frame 22 = .ok (.ireturn, 1) := by decide +kernel
theorem dX11_frame_23 : decode cX11_frame 23 = .ok (.iload_n 1, 1) := by decide +kernel
theorem dX11_frame_24 : decode cX11_frame 24 = .ok (.ifCond .ne 8, 3) := by decide +kernel
theorem dX11_frame_27 : decode cX11_frame 27 = .ok (.aload_n 2, 1) := by decide +kernel
theorem dX11_frame_28 : decode cX11_frame 28 = .ok (.getfield 223, 3) := by decide +kernel
theorem dX11_frame_31 : decode cX11_frame 31 = .ok (.ireturn, 1) := by decide +kernel
theorem dX11_frame_32 : decode cX11_frame 32 = .ok (.iload_n 1, 1) := by decide +kernel
theorem dX11_frame_33 : decode cX11_frame 33 = .ok (.iconst 1, 1) := by decide +kernel
theorem dX11_frame_34 : decode cX11_frame 34 = .ok (.if_icmp .ne 8, 3) := by decide +kernel
theorem dX11_frame_37 : decode cX11_frame 37 = .ok (.aload_n 2, 1) := by decide +kernel
theorem dX11_frame_38 : decode cX11_frame 38 = .ok (.getfield 226, 3) := by decide +kernel
theorem dX11_frame_41 : decode cX11_frame 41 = .ok (.ireturn, 1) := by decide +kernel
theorem dX11_frame_42 : decode cX11_frame 42 = .ok (.iload_n 1, 1) := by decide +kernel
theorem dX11_frame_43 : decode cX11_frame 43 = .ok (.iconst 2, 1) := by decide +kernel
theorem dX11_frame_44 : decode cX11_frame 44 = .ok (.if_icmp .ne 12, 3) := by decide +kernel
theorem dX11_frame_47 : decode cX11_frame 47 = .ok (.aload_n 0, 1) := by decide +kernel
theorem dX11_frame_48 : decode cX11_frame 48 = .ok (.aload_n 2, 1) := by decide +kernel
theorem dX11_frame_49 : decode cX11_frame 49 = .ok (.getfield 229, 3) := by decide +kernel
theorem dX11_frame_52 : decode cX11_frame 52 = .ok (.invokevirtual 232, 3) := by decide +kernel
theorem dX11_frame_55 : decode cX11_frame 55 = .ok (.ireturn, 1) := by decide +kernel
theorem dX11_frame_56 : decode cX11_frame 56 = .ok (.iload_n 1, 1) := by decide +kernel
theorem dX11_frame_57 : decode cX11_frame 57 = .ok (.bipush 10, 2) := by decide +kernel
theorem dX11_frame_59 : decode cX11_frame 59 = .ok (.if_icmp .ge 7, 3) := by decide +kernel
theorem dX11_frame_62 : decode cX11_frame 62 = .ok (.iconst (-1), 1) := by decide +kernel
theorem dX11_frame_63 : decode cX11_frame 63 = .ok (.goto 15, 3) := by decide +kernel
theorem dX11_frame_66 : decode cX11_frame 66 = .ok (.aload_n 0, 1) := by decide +kernel
theorem dX11_frame_67 : decode cX11_frame 67 = .ok (.aload_n 2, 1) := by decide +kernel
theorem dX11_frame_68 : decode cX11_frame 68 = .ok (.getfield 229, 3) := by decide +kernel
theorem dX11_frame_71 : decode cX11_frame 71 = .ok (.iload_n 1, 1) := by decide +kernel
theorem dX11_frame_72 : decode cX11_frame 72 = .ok (.bipush 10, 2) := by decide +kernel
theorem dX11_frame_74 : decode cX11_frame 74 = .ok (.isub, 1) := by decide +kernel
theorem dX11_frame_75 : decode cX11_frame 75 = .ok (.invokevirtual 235, 3) := by decide +kernel
theorem dX11_frame_78 : decode cX11_frame 78 = .ok (.ireturn, 1) := by decide +kernel
set_option maxRecDepth 20000 in
theorem ggX11_signal_X2_at : GoodIn wsX11_signal wsX2_at := gi_e e_wsX11_signal e_wsX2_at (by decide +kernel)
set_option maxRecDepth 20000 in
theorem gX11_signal_X2_at : GoodIn wsX11_signal (wsV RX11 185 RX2 yX2_at wsX2_at) := goodIn_app (gi_e e_wsX11_signal (ce fw_4280 (ce fw_4110 (ce fw_4111 (ce fw_1035 (cn))))) (by decide +kernel)) ggX11_signal_X2_at
theorem dX11_signal_0 : decode cX11_signal 0 = .ok (.aload_n 0, 1) := by decide +kernel
theorem dX11_signal_1 : decode cX11_signal 1 = .ok (.getfield 12, 3) := by decide +kernel
theorem dX11_signal_4 : decode cX11_signal 4 = .ok (.getfield 83, 3) := by decide +kernel
theorem dX11_signal_7 : decode cX11_signal 7 = .ok (.getfield 192, 3) := by decide +kernel
theorem dX11_signal_10 : decode cX11_signal 10 = .ok (.getfield 214, 3) := by decide +kernel
theorem dX11_signal_13 : decode cX11_signal 13 = .ok (.astore_n 2, 1) := by decide +kernel
theorem dX11_signal_14 : decode cX11_signal 14 = .ok (.aload_n 0, 1) := by decide +kernel
theorem dX11_signal_15 : decode cX11_signal 15 = .ok (.getfield 12, 3) := by decide +kernel
theorem dX11_signal_18 : decode cX11_signal 18 = .ok (.getfield 70, 3) := by decide +kernel
theorem dX11_signal_21 : decode cX11_signal 21 = .ok (.astore_n 3, 1) := by decide +kernel
theorem dX11_signal_22 : decode cX11_signal 22 = .ok (.iload_n 1, 1) := by decide +kernel
theorem dX11_signal_23 : decode cX11_signal 23 = .ok (.ifCond .lt 18, 3) := by decide +kernel
theorem dX11_signal_26 : decode cX11_signal 26 = .ok (.iload_n 1, 1) := by decide +kernel
theorem dX11_signal_27 : decode cX11_signal 27 = .ok (.aload_n 3, 1) := by decide +kernel
theorem dX11_signal_28 : decode cX11_signal 28 = .ok (.getfield 168, 3) := by decide +kernel
theorem dX11_signal_31 : decode cX11_signal 31 = .ok (.if_icmp .ge 10, 3) := by decide +kernel
theorem dX11_signal_34 : decode cX11_signal 34 = .ok (.aload_n 2, 1) := by decide +kernel
theorem dX11_signal_35 : decode cX11_signal 35 = .ok (.getfield 239, 3) := by decide +kernel
theorem dX11_signal_38 : decode cX11_signal 38 = .ok (.ifCond .ne 5, 3) := by decide +kernel
theorem dX11_signal_41 : decode cX11_signal 41 = .ok (.iconst (-1), 1) := by decide +kernel
theorem dX11_signal_42 : decode cX11_signal 42 = .ok (.ireturn, 1) := by decide +kernel
theorem dX11_signal_43 : decode cX11_signal 43 = .ok (.iload_n 1, 1) := by decide +kernel
theorem dX11_signal_44 : decode cX11_signal 44 = .ok (.iconst 1, 1) := by decide +kernel
theorem dX11_signal_45 : decode cX11_signal 45 = .ok (.iadd, 1) := by decide +kernel
theorem dX11_signal_46 : decode cX11_signal 46 = .ok (.aload_n 3, 1) := by decide +kernel
theorem dX11_signal_47 : decode cX11_signal 47 = .ok (.getfield 150, 3) := by decide +kernel
theorem dX11_signal_50 : decode cX11_signal 50 = .ok (.imul, 1) := by decide +kernel
theorem dX11_signal_51 : decode cX11_signal 51 = .ok (.istore 4, 2) := by decide +kernel
theorem dX11_signal_53 : decode cX11_signal 53 = .ok (.aload_n 0, 1) := by decide +kernel
theorem dX11_signal_54 : decode cX11_signal 54 = .ok (.getfield 12, 3) := by decide +kernel
theorem dX11_signal_57 : decode cX11_signal 57 = .ok (.getfield 83, 3) := by decide +kernel
theorem dX11_signal_60 : decode cX11_signal 60 = .ok (.getfield 110, 3) := by decide +kernel
theorem dX11_signal_63 : decode cX11_signal 63 = .ok (.astore 5, 2) := by decide +kernel
theorem dX11_signal_65 : decode cX11_signal 65 = .ok (.aload 5, 2) := by decide +kernel
theorem dX11_signal_67 : decode cX11_signal 67 = .ok (.aload_n 2, 1) := by decide +kernel
theorem dX11_signal_68 : decode cX11_signal 68 = .ok (.getfield 242, 3) := by decide +kernel
theorem dX11_signal_71 : decode cX11_signal 71 = .ok (.iload 4, 2) := by decide +kernel
theorem dX11_signal_73 : decode cX11_signal 73 = .ok (.iadd, 1) := by decide +kernel
theorem dX11_signal_74 : decode cX11_signal 74 = .ok (.invokevirtual 185, 3) := by decide +kernel
theorem dX11_signal_77 : decode cX11_signal 77 = .ok (.istore 6, 2) := by decide +kernel
theorem dX11_signal_79 : decode cX11_signal 79 = .ok (.aload_n 2, 1) := by decide +kernel
theorem dX11_signal_80 : decode cX11_signal 80 = .ok (.getfield 239, 3) := by decide +kernel
theorem dX11_signal_83 : decode cX11_signal 83 = .ok (.iconst 3, 1) := by decide +kernel
theorem dX11_signal_84 : decode cX11_signal 84 = .ok (.if_icmp .ge 6, 3) := by decide +kernel
theorem dX11_signal_87 : decode cX11_signal 87 = .ok (.iload 6, 2) := by decide +kernel
theorem dX11_signal_89 : decode cX11_signal 89 = .ok (.ireturn, 1) := by decide +kernel
theorem dX11_signal_90 : decode cX11_signal 90 = .ok (.iload 6, 2) := by decide +kernel
theorem dX11_signal_92 : decode cX11_signal 92 = .ok (.aload 5, 2) := by decide +kernel
theorem dX11_signal_94 : decode cX11_signal 94 = .ok (.aload_n 2, 1) := by decide +kernel
theorem dX11_signal_95 : decode cX11_signal 95 = .ok (.getfield 245, 3) := by decide +kernel
theorem dX11_signal_98 : decode cX11_signal 98 = .ok (.iload 4, 2) := by decide +kernel
theorem dX11_signal_100 : decode cX11_signal 100 = .ok (.iadd, 1) := by decide +kernel
theorem dX11_signal_101 : decode cX11_signal 101 = .ok (.invokevirtual 185, 3) := by decide +kernel
theorem dX11_signal_104 : decode cX11_signal 104 = .ok (.iadd, 1) := by decide +kernel
theorem dX11_signal_105 : decode cX11_signal 105 = .ok (.aload 5, 2) := by decide +kernel
theorem dX11_signal_107 : decode cX11_signal 107 = .ok (.aload_n 2, 1) := by decide +kernel
theorem dX11_signal_108 : decode cX11_signal 108 = .ok (.getfield 248, 3) := by decide +kernel
theorem dX11_signal_111 : decode cX11_signal 111 = .ok (.iload 4, 2) := by decide +kernel
theorem dX11_signal_113 : decode cX11_signal 113 = .ok (.iadd, 1) := by decide +kernel
theorem dX11_signal_114 : decode cX11_signal 114 = .ok (.invokevirtual 185, 3) := by decide +kernel
theorem dX11_signal_117 : decode cX11_signal 117 = .ok (.iadd, 1) := by decide +kernel
theorem dX11_signal_118 : decode cX11_signal 118 = .ok (.istore 7, 2) := by decide +kernel
theorem dX11_signal_120 : decode cX11_signal 120 = .ok (.iload 7, 2) := by decide +kernel
theorem dX11_signal_122 : decode cX11_signal 122 = .ok (.iconst 2, 1) := by decide +kernel
theorem dX11_signal_123 : decode cX11_signal 123 = .ok (.if_icmp .lt 7, 3) := by decide +kernel
theorem dX11_signal_126 : decode cX11_signal 126 = .ok (.iconst 1, 1) := by decide +kernel
theorem dX11_signal_127 : decode cX11_signal 127 = .ok (.goto 4, 3) := by decide +kernel
theorem dX11_signal_130 : decode cX11_signal 130 = .ok (.iconst 0, 1) := by decide +kernel
theorem dX11_signal_131 : decode cX11_signal 131 = .ok (.ireturn, 1) := by decide +kernel
set_option maxRecDepth 20000 in
theorem ggX11_value_X0_nth : GoodIn wsX11_value wsX0_nth := gi_e e_wsX11_value e_wsX0_nth (by decide +kernel)
set_option maxRecDepth 20000 in
theorem gX11_value_X0_nth : GoodIn wsX11_value (wsV RX11 255 RX0 yX0_nth wsX0_nth) := goodIn_app (gi_e e_wsX11_value (ce fw_4319 (ce fw_4320 (ce fw_4321 (ce fw_1034 (cn))))) (by decide +kernel)) ggX11_value_X0_nth
theorem dX11_value_0 : decode cX11_value 0 = .ok (.aload_n 0, 1) := by decide +kernel
theorem dX11_value_1 : decode cX11_value 1 = .ok (.getfield 12, 3) := by decide +kernel
theorem dX11_value_4 : decode cX11_value 4 = .ok (.getfield 83, 3) := by decide +kernel
theorem dX11_value_7 : decode cX11_value 7 = .ok (.getfield 192, 3) := by decide +kernel
theorem dX11_value_10 : decode cX11_value 10 = .ok (.getfield 251, 3) := by decide +kernel
theorem dX11_value_13 : decode cX11_value 13 = .ok (.iload_n 1, 1) := by decide +kernel
theorem dX11_value_14 : decode cX11_value 14 = .ok (.invokevirtual 255, 3) := by decide +kernel
theorem dX11_value_17 : decode cX11_value 17 = .ok (.ireturn, 1) := by decide +kernel
set_option maxRecDepth 20000 in
theorem ggX11_ahead_X9_copyFrom : GoodIn wsX11_ahead wsX9_copyFrom := gi_e e_wsX11_ahead e_wsX9_copyFrom (by decide +kernel)
set_option maxRecDepth 20000 in
theorem gX11_ahead_X9_copyFrom : GoodIn wsX11_ahead (wsV RX11 138 RX9 yX9_copyFrom wsX9_copyFrom) := goodIn_app (gi_e e_wsX11_ahead (ce fw_3254 (ce fw_3255 (ce fw_3256 (ce fw_1029 (cn))))) (by decide +kernel)) ggX11_ahead_X9_copyFrom
set_option maxRecDepth 20000 in
theorem ggX11_ahead_X6_transmit : GoodIn wsX11_ahead wsX6_transmit := gi_e e_wsX11_ahead e_wsX6_transmit (by decide +kernel)
set_option maxRecDepth 20000 in
theorem gX11_ahead_X6_transmit : GoodIn wsX11_ahead (wsV RX11 117 RX6 yX6_transmit wsX6_transmit) := goodIn_app (gi_e e_wsX11_ahead (ce fw_3295 (ce fw_3296 (ce fw_3297 (ce fw_1030 (cn))))) (by decide +kernel)) ggX11_ahead_X6_transmit
set_option maxRecDepth 20000 in
theorem ggX11_ahead_X9_listen : GoodIn wsX11_ahead wsX9_listen := gi_e e_wsX11_ahead e_wsX9_listen (by decide +kernel)
set_option maxRecDepth 20000 in
theorem gX11_ahead_X9_listen : GoodIn wsX11_ahead (wsV RX11 134 RX9 yX9_listen wsX9_listen) := goodIn_app (gi_e e_wsX11_ahead (ce fw_4141 (ce fw_4142 (ce fw_4143 (ce fw_1029 (cn))))) (by decide +kernel)) ggX11_ahead_X9_listen
set_option maxRecDepth 20000 in
theorem ggX11_ahead_X4_tell : GoodIn wsX11_ahead wsX4_tell := gi_e e_wsX11_ahead e_wsX4_tell (by decide +kernel)
set_option maxRecDepth 20000 in
theorem gX11_ahead_X4_tell : GoodIn wsX11_ahead (wsV RX11 196 RX4 yX4_tell wsX4_tell) := goodIn_app (gi_e e_wsX11_ahead (ce fw_4290 (ce fw_4291 (ce fw_4292 (ce fw_1031 (cn))))) (by decide +kernel)) ggX11_ahead_X4_tell
theorem dX11_ahead_0 : decode cX11_ahead 0 = .ok (.iload_n 1, 1) := by decide +kernel
theorem dX11_ahead_1 : decode cX11_ahead 1 = .ok (.iconst 1, 1) := by decide +kernel
theorem dX11_ahead_2 : decode cX11_ahead 2 = .ok (.if_icmp .lt 19, 3) := by decide +kernel
theorem dX11_ahead_5 : decode cX11_ahead 5 = .ok (.iload_n 1, 1) := by decide +kernel
theorem dX11_ahead_6 : decode cX11_ahead 6 = .ok (.bipush 8, 2) := by decide +kernel
theorem dX11_ahead_8 : decode cX11_ahead 8 = .ok (.if_icmp .gt 13, 3) := by decide +kernel
theorem dX11_ahead_11 : decode cX11_ahead 11 = .ok (.iload_n 3, 1) := by decide +kernel
theorem dX11_ahead_12 : decode cX11_ahead 12 = .ok (.ifCond .lt 9, 3) := by decide +kernel
theorem dX11_ahead_15 : decode cX11_ahead 15 = .ok (.iload_n 3, 1) := by decide +kernel
theorem dX11_ahead_16 : decode cX11_ahead 16 = .ok (.bipush 18, 2) := by decide +kernel
theorem dX11_ahead_18 : decode cX11_ahead 18 = .ok (.if_icmp .lt 5, 3) := by decide +kernel
theorem dX11_ahead_21 : decode cX11_ahead 21 = .ok (.iconst (-1), 1) := by decide +kernel
theorem dX11_ahead_22 : decode cX11_ahead 22 = .ok (.ireturn, 1) := by decide +kernel
theorem dX11_ahead_23 : decode cX11_ahead 23 = .ok (.aload_n 0, 1) := by decide +kernel
theorem dX11_ahead_24 : decode cX11_ahead 24 = .ok (.getfield 33, 3) := by decide +kernel
theorem dX11_ahead_27 : decode cX11_ahead 27 = .ok (.aload_n 0, 1) := by decide +kernel
theorem dX11_ahead_28 : decode cX11_ahead 28 = .ok (.getfield 12, 3) := by decide +kernel
theorem dX11_ahead_31 : decode cX11_ahead 31 = .ok (.getfield 83, 3) := by decide +kernel
theorem dX11_ahead_34 : decode cX11_ahead 34 = .ok (.invokevirtual 138, 3) := by decide +kernel
theorem dX11_ahead_37 : decode cX11_ahead 37 = .ok (.aload_n 0, 1) := by decide +kernel
theorem dX11_ahead_38 : decode cX11_ahead 38 = .ok (.getfield 33, 3) := by decide +kernel
theorem dX11_ahead_41 : decode cX11_ahead 41 = .ok (.getfield 95, 3) := by decide +kernel
theorem dX11_ahead_44 : decode cX11_ahead 44 = .ok (.aload_n 0, 1) := by decide +kernel
theorem dX11_ahead_45 : decode cX11_ahead 45 = .ok (.getfield 12, 3) := by decide +kernel
theorem dX11_ahead_48 : decode cX11_ahead 48 = .ok (.getfield 70, 3) := by decide +kernel
theorem dX11_ahead_51 : decode cX11_ahead 51 = .ok (.aload_n 0, 1) := by decide +kernel
theorem dX11_ahead_52 : decode cX11_ahead 52 = .ok (.getfield 33, 3) := by decide +kernel
theorem dX11_ahead_55 : decode cX11_ahead 55 = .ok (.getfield 110, 3) := by decide +kernel
theorem dX11_ahead_58 : decode cX11_ahead 58 = .ok (.iload_n 1, 1) := by decide +kernel
theorem dX11_ahead_59 : decode cX11_ahead 59 = .ok (.iload_n 2, 1) := by decide +kernel
theorem dX11_ahead_60 : decode cX11_ahead 60 = .ok (.invokevirtual 117, 3) := by decide +kernel
theorem dX11_ahead_63 : decode cX11_ahead 63 = .ok (.aload_n 0, 1) := by decide +kernel
theorem dX11_ahead_64 : decode cX11_ahead 64 = .ok (.getfield 33, 3) := by decide +kernel
theorem dX11_ahead_67 : decode cX11_ahead 67 = .ok (.aload_n 0, 1) := by decide +kernel
theorem dX11_ahead_68 : decode cX11_ahead 68 = .ok (.getfield 12, 3) := by decide +kernel
theorem dX11_ahead_71 : decode cX11_ahead 71 = .ok (.getfield 70, 3) := by decide +kernel
theorem dX11_ahead_74 : decode cX11_ahead 74 = .ok (.aload_n 0, 1) := by decide +kernel
theorem dX11_ahead_75 : decode cX11_ahead 75 = .ok (.getfield 33, 3) := by decide +kernel
theorem dX11_ahead_78 : decode cX11_ahead 78 = .ok (.getfield 110, 3) := by decide +kernel
theorem dX11_ahead_81 : decode cX11_ahead 81 = .ok (.getfield 114, 3) := by decide +kernel
theorem dX11_ahead_84 : decode cX11_ahead 84 = .ok (.invokevirtual 134, 3) := by decide +kernel
theorem dX11_ahead_87 : decode cX11_ahead 87 = .ok (.aload_n 0, 1) := by decide +kernel
theorem dX11_ahead_88 : decode cX11_ahead 88 = .ok (.getfield 33, 3) := by decide +kernel
theorem dX11_ahead_91 : decode cX11_ahead 91 = .ok (.getfield 192, 3) := by decide +kernel
theorem dX11_ahead_94 : decode cX11_ahead 94 = .ok (.aload_n 0, 1) := by decide +kernel
theorem dX11_ahead_95 : decode cX11_ahead 95 = .ok (.getfield 12, 3) := by decide +kernel
theorem dX11_ahead_98 : decode cX11_ahead 98 = .ok (.getfield 70, 3) := by decide +kernel
theorem dX11_ahead_101 : decode cX11_ahead 101 = .ok (.iload_n 3, 1) := by decide +kernel
theorem dX11_ahead_102 : decode cX11_ahead 102 = .ok (.invokevirtual 196, 3) := by decide +kernel
theorem dX11_ahead_105 : decode cX11_ahead 105 = .ok (.ireturn, 1) := by decide +kernel
set_option maxRecDepth 20000 in
theorem ggX11_struck_X5_framesStarted : GoodIn wsX11_struck wsX5_framesStarted := gi_e e_wsX11_struck e_wsX5_framesStarted (by decide +kernel)
set_option maxRecDepth 20000 in
theorem gX11_struck_X5_framesStarted : GoodIn wsX11_struck (wsV RX11 259 RX5 yX5_framesStarted wsX5_framesStarted) := goodIn_app (gi_e e_wsX11_struck (ce fw_4331 (ce fw_4189 (ce fw_4190 (ce fw_1027 (cn))))) (by decide +kernel)) ggX11_struck_X5_framesStarted
set_option maxRecDepth 20000 in
theorem ggX11_struck_X2_at : GoodIn wsX11_struck wsX2_at := gi_e e_wsX11_struck e_wsX2_at (by decide +kernel)
set_option maxRecDepth 20000 in
theorem gX11_struck_X2_at : GoodIn wsX11_struck (wsV RX11 185 RX2 yX2_at wsX2_at) := goodIn_app (gi_e e_wsX11_struck (ce fw_4280 (ce fw_4110 (ce fw_4111 (ce fw_1035 (cn))))) (by decide +kernel)) ggX11_struck_X2_at
set_option maxRecDepth 20000 in
theorem ggX11_struck_X5_isOther : GoodIn wsX11_struck wsX5_isOther := gi_e e_wsX11_struck e_wsX5_isOther (by decide +kernel)
set_option maxRecDepth 20000 in
theorem gX11_struck_X5_isOther : GoodIn wsX11_struck (wsV RX11 262 RX5 yX5_isOther wsX5_isOther) := goodIn_app (gi_e e_wsX11_struck (ce fw_4332 (ce fw_4208 (ce fw_4209 (ce fw_1027 (cn))))) (by decide +kernel)) ggX11_struck_X5_isOther
set_option maxRecDepth 20000 in
theorem ggX11_struck_X5_placeBehind : GoodIn wsX11_struck wsX5_placeBehind := gi_e e_wsX11_struck e_wsX5_placeBehind (by decide +kernel)
set_option maxRecDepth 20000 in
theorem gX11_struck_X5_placeBehind : GoodIn wsX11_struck (wsV RX11 266 RX5 yX5_placeBehind wsX5_placeBehind) := goodIn_app (gi_e e_wsX11_struck (ce fw_4333 (ce fw_4165 (ce fw_4166 (ce fw_1027 (cn))))) (by decide +kernel)) ggX11_struck_X5_placeBehind
theorem dX11_struck_0 : decode cX11_struck 0 = .ok (.aload_n 0, 1) := by decide +kernel
theorem dX11_struck_1 : decode cX11_struck 1 = .ok (.getfield 12, 3) := by decide +kernel
theorem dX11_struck_4 : decode cX11_struck 4 = .ok (.getfield 70, 3) := by decide +kernel
theorem dX11_struck_7 : decode cX11_struck 7 = .ok (.astore_n 3, 1) := by decide +kernel
theorem dX11_struck_8 : decode cX11_struck 8 = .ok (.aload_n 0, 1) := by decide +kernel
theorem dX11_struck_9 : decode cX11_struck 9 = .ok (.getfield 12, 3) := by decide +kernel
theorem dX11_struck_12 : decode cX11_struck 12 = .ok (.getfield 83, 3) := by decide +kernel
theorem dX11_struck_15 : decode cX11_struck 15 = .ok (.getfield 110, 3) := by decide +kernel
theorem dX11_struck_18 : decode cX11_struck 18 = .ok (.astore 4, 2) := by decide +kernel
theorem dX11_struck_20 : decode cX11_struck 20 = .ok (.iload_n 1, 1) := by decide +kernel
theorem dX11_struck_21 : decode cX11_struck 21 = .ok (.ifCond .lt 32, 3) := by decide +kernel
theorem dX11_struck_24 : decode cX11_struck 24 = .ok (.iload_n 1, 1) := by decide +kernel
theorem dX11_struck_25 : decode cX11_struck 25 = .ok (.aload 4, 2) := by decide +kernel
theorem dX11_struck_27 : decode cX11_struck 27 = .ok (.getfield 114, 3) := by decide +kernel
theorem dX11_struck_30 : decode cX11_struck 30 = .ok (.if_icmp .ge 23, 3) := by decide +kernel
theorem dX11_struck_33 : decode cX11_struck 33 = .ok (.iload_n 2, 1) := by decide +kernel
theorem dX11_struck_34 : decode cX11_struck 34 = .ok (.ifCond .lt 19, 3) := by decide +kernel
theorem dX11_struck_37 : decode cX11_struck 37 = .ok (.iload_n 2, 1) := by decide +kernel
theorem dX11_struck_38 : decode cX11_struck 38 = .ok (.aload_n 3, 1) := by decide +kernel
theorem dX11_struck_39 : decode cX11_struck 39 = .ok (.getfield 92, 3) := by decide +kernel
theorem dX11_struck_42 : decode cX11_struck 42 = .ok (.if_icmp .ge 11, 3) := by decide +kernel
theorem dX11_struck_45 : decode cX11_struck 45 = .ok (.aload_n 3, 1) := by decide +kernel
theorem dX11_struck_46 : decode cX11_struck 46 = .ok (.getfield 141, 3) := by decide +kernel
theorem dX11_struck_49 : decode cX11_struck 49 = .ok (.iconst 1, 1) := by decide +kernel
theorem dX11_struck_50 : decode cX11_struck 50 = .ok (.if_icmp .ge 5, 3) := by decide +kernel
theorem dX11_struck_53 : decode cX11_struck 53 = .ok (.iconst (-1), 1) := by decide +kernel
theorem dX11_struck_54 : decode cX11_struck 54 = .ok (.ireturn, 1) := by decide +kernel
theorem dX11_struck_55 : decode cX11_struck 55 = .ok (.aload_n 3, 1) := by decide +kernel
theorem dX11_struck_56 : decode cX11_struck 56 = .ok (.iload_n 2, 1) := by decide +kernel
theorem dX11_struck_57 : decode cX11_struck 57 = .ok (.invokevirtual 259, 3) := by decide +kernel
theorem dX11_struck_60 : decode cX11_struck 60 = .ok (.istore 5, 2) := by decide +kernel
theorem dX11_struck_62 : decode cX11_struck 62 = .ok (.iload 5, 2) := by decide +kernel
theorem dX11_struck_64 : decode cX11_struck 64 = .ok (.aload_n 3, 1) := by decide +kernel
theorem dX11_struck_65 : decode cX11_struck 65 = .ok (.getfield 144, 3) := by decide +kernel
theorem dX11_struck_68 : decode cX11_struck 68 = .ok (.if_icmp .lt 7, 3) := by decide +kernel
theorem dX11_struck_71 : decode cX11_struck 71 = .ok (.iconst 0, 1) := by decide +kernel
theorem dX11_struck_72 : decode cX11_struck 72 = .ok (.goto 5, 3) := by decide +kernel
theorem dX11_struck_75 : decode cX11_struck 75 = .ok (.iload 5, 2) := by decide +kernel
theorem dX11_struck_77 : decode cX11_struck 77 = .ok (.istore 6, 2) := by decide +kernel
theorem dX11_struck_79 : decode cX11_struck 79 = .ok (.iload_n 1, 1) := by decide +kernel
theorem dX11_struck_80 : decode cX11_struck 80 = .ok (.iload 5, 2) := by decide +kernel
theorem dX11_struck_82 : decode cX11_struck 82 = .ok (.aload_n 3, 1) := by decide +kernel
theorem dX11_struck_83 : decode cX11_struck 83 = .ok (.getfield 141, 3) := by decide +kernel
theorem dX11_struck_86 : decode cX11_struck 86 = .ok (.imul, 1) := by decide +kernel
theorem dX11_struck_87 : decode cX11_struck 87 = .ok (.iadd, 1) := by decide +kernel
theorem dX11_struck_88 : decode cX11_struck 88 = .ok (.iload_n 2, 1) := by decide +kernel
theorem dX11_struck_89 : decode cX11_struck 89 = .ok (.isub, 1) := by decide +kernel
theorem dX11_struck_90 : decode cX11_struck 90 = .ok (.istore 7, 2) := by decide +kernel
theorem dX11_struck_92 : decode cX11_struck 92 = .ok (.iload 7, 2) := by decide +kernel
theorem dX11_struck_94 : decode cX11_struck 94 = .ok (.aload 4, 2) := by decide +kernel
theorem dX11_struck_96 : decode cX11_struck 96 = .ok (.getfield 114, 3) := by decide +kernel
theorem dX11_struck_99 : decode cX11_struck 99 = .ok (.if_icmp .ge 42, 3) := by decide +kernel
theorem dX11_struck_102 : decode cX11_struck 102 = .ok (.aload_n 3, 1) := by decide +kernel
theorem dX11_struck_103 : decode cX11_struck 103 = .ok (.iload 6, 2) := by decide +kernel
theorem dX11_struck_105 : decode cX11_struck 105 = .ok (.aload 4, 2) := by decide +kernel
theorem dX11_struck_107 : decode cX11_struck 107 = .ok (.iload 7, 2) := by decide +kernel
theorem dX11_struck_109 : decode cX11_struck 109 = .ok (.invokevirtual 185, 3) := by decide +kernel
theorem dX11_struck_112 : decode cX11_struck 112 = .ok (.invokevirtual 262, 3) := by decide +kernel
theorem dX11_struck_115 : decode cX11_struck 115 = .ok (.ifCond .eq 6, 3) := by decide +kernel
theorem dX11_struck_118 : decode cX11_struck 118 = .ok (.iload 7, 2) := by decide +kernel
theorem dX11_struck_120 : decode cX11_struck 120 = .ok (.ireturn, 1) := by decide +kernel
theorem dX11_struck_121 : decode cX11_struck 121 = .ok (.aload_n 3, 1) := by decide +kernel
theorem dX11_struck_122 : decode cX11_struck 122 = .ok (.iload 6, 2) := by decide +kernel
theorem dX11_struck_124 : decode cX11_struck 124 = .ok (.invokevirtual 266, 3) := by decide +kernel
theorem dX11_struck_127 : decode cX11_struck 127 = .ok (.istore 6, 2) := by decide +kernel
theorem dX11_struck_129 : decode cX11_struck 129 = .ok (.iload 7, 2) := by decide +kernel
theorem dX11_struck_131 : decode cX11_struck 131 = .ok (.aload_n 3, 1) := by decide +kernel
theorem dX11_struck_132 : decode cX11_struck 132 = .ok (.getfield 141, 3) := by decide +kernel
theorem dX11_struck_135 : decode cX11_struck 135 = .ok (.iadd, 1) := by decide +kernel
theorem dX11_struck_136 : decode cX11_struck 136 = .ok (.istore 7, 2) := by decide +kernel
theorem dX11_struck_138 : decode cX11_struck 138 = .ok (.goto (-46), 3) := by decide +kernel
theorem dX11_struck_141 : decode cX11_struck 141 = .ok (.iconst (-1), 1) := by decide +kernel
theorem dX11_struck_142 : decode cX11_struck 142 = .ok (.ireturn, 1) := by decide +kernel
set_option maxRecDepth 20000 in
theorem ggX11_locks_X4_begin : GoodIn wsX11_locks wsX4_begin := gi_e e_wsX11_locks e_wsX4_begin (by decide +kernel)
set_option maxRecDepth 20000 in
theorem gX11_locks_X4_begin : GoodIn wsX11_locks (wsV RX11 269 RX4 yX4_begin wsX4_begin) := goodIn_app (gi_e e_wsX11_locks (ce fw_5122 (ce fw_2135 (ce fw_2136 (ce fw_1031 (cn))))) (by decide +kernel)) ggX11_locks_X4_begin
set_option maxRecDepth 20000 in
theorem ggX11_locks_X4_take : GoodIn wsX11_locks wsX4_take := gi_e e_wsX11_locks e_wsX4_take (by decide +kernel)
set_option maxRecDepth 20000 in
theorem gX11_locks_X4_take : GoodIn wsX11_locks (wsV RX11 272 RX4 yX4_take wsX4_take) := goodIn_app (gi_e e_wsX11_locks (ce fw_5123 (ce fw_4146 (ce fw_4147 (ce fw_1031 (cn))))) (by decide +kernel)) ggX11_locks_X4_take
theorem dX11_locks_0 : decode cX11_locks 0 = .ok (.aload_n 0, 1) := by decide +kernel
theorem dX11_locks_1 : decode cX11_locks 1 = .ok (.getfield 12, 3) := by decide +kernel
theorem dX11_locks_4 : decode cX11_locks 4 = .ok (.getfield 83, 3) := by decide +kernel
theorem dX11_locks_7 : decode cX11_locks 7 = .ok (.getfield 110, 3) := by decide +kernel
theorem dX11_locks_10 : decode cX11_locks 10 = .ok (.astore_n 2, 1) := by decide +kernel
theorem dX11_locks_11 : decode cX11_locks 11 = .ok (.iload_n 1, 1) := by decide +kernel
theorem dX11_locks_12 : decode cX11_locks 12 = .ok (.ifCond .lt 11, 3) := by decide +kernel
theorem dX11_locks_15 : decode cX11_locks 15 = .ok (.iload_n 1, 1) := by decide +kernel
theorem dX11_locks_16 : decode cX11_locks 16 = .ok (.aload_n 2, 1) := by decide +kernel
theorem dX11_locks_17 : decode cX11_locks 17 = .ok (.getfield 114, 3) := by decide +kernel
theorem dX11_locks_20 : decode cX11_locks 20 = .ok (.if_icmp .lt 5, 3) := by decide +kernel
theorem dX11_locks_23 : decode cX11_locks 23 = .ok (.iconst (-1), 1) := by decide +kernel
theorem dX11_locks_24 : decode cX11_locks 24 = .ok (.ireturn, 1) := by decide +kernel
theorem dX11_locks_25 : decode cX11_locks 25 = .ok (.aload_n 0, 1) := by decide +kernel
theorem dX11_locks_26 : decode cX11_locks 26 = .ok (.getfield 33, 3) := by decide +kernel
theorem dX11_locks_29 : decode cX11_locks 29 = .ok (.getfield 192, 3) := by decide +kernel
theorem dX11_locks_32 : decode cX11_locks 32 = .ok (.astore_n 3, 1) := by decide +kernel
theorem dX11_locks_33 : decode cX11_locks 33 = .ok (.aload_n 3, 1) := by decide +kernel
theorem dX11_locks_34 : decode cX11_locks 34 = .ok (.aload_n 0, 1) := by decide +kernel
theorem dX11_locks_35 : decode cX11_locks 35 = .ok (.getfield 12, 3) := by decide +kernel
theorem dX11_locks_38 : decode cX11_locks 38 = .ok (.getfield 70, 3) := by decide +kernel
theorem dX11_locks_41 : decode cX11_locks 41 = .ok (.invokevirtual 269, 3) := by decide +kernel
theorem dX11_locks_44 : decode cX11_locks 44 = .ok (.iload_n 1, 1) := by decide +kernel
theorem dX11_locks_45 : decode cX11_locks 45 = .ok (.istore 4, 2) := by decide +kernel
theorem dX11_locks_47 : decode cX11_locks 47 = .ok (.iload 4, 2) := by decide +kernel
theorem dX11_locks_49 : decode cX11_locks 49 = .ok (.aload_n 2, 1) := by decide +kernel
theorem dX11_locks_50 : decode cX11_locks 50 = .ok (.getfield 114, 3) := by decide +kernel
theorem dX11_locks_53 : decode cX11_locks 53 = .ok (.if_icmp .ge 37, 3) := by decide +kernel
theorem dX11_locks_56 : decode cX11_locks 56 = .ok (.aload_n 3, 1) := by decide +kernel
theorem dX11_locks_57 : decode cX11_locks 57 = .ok (.aload_n 0, 1) := by decide +kernel
theorem dX11_locks_58 : decode cX11_locks 58 = .ok (.getfield 12, 3) := by decide +kernel
theorem dX11_locks_61 : decode cX11_locks 61 = .ok (.getfield 70, 3) := by decide +kernel
theorem dX11_locks_64 : decode cX11_locks 64 = .ok (.aload_n 2, 1) := by decide +kernel
theorem dX11_locks_65 : decode cX11_locks 65 = .ok (.iload 4, 2) := by decide +kernel
theorem dX11_locks_67 : decode cX11_locks 67 = .ok (.invokevirtual 272, 3) := by decide +kernel
theorem dX11_locks_70 : decode cX11_locks 70 = .ok (.aload_n 3, 1) := by decide +kernel
theorem dX11_locks_71 : decode cX11_locks 71 = .ok (.getfield 276, 3) := by decide +kernel
theorem dX11_locks_74 : decode cX11_locks 74 = .ok (.ifCond .le 10, 3) := by decide +kernel
theorem dX11_locks_77 : decode cX11_locks 77 = .ok (.iload 4, 2) := by decide +kernel
theorem dX11_locks_79 : decode cX11_locks 79 = .ok (.iconst 1, 1) := by decide +kernel
theorem dX11_locks_80 : decode cX11_locks 80 = .ok (.iadd, 1) := by decide +kernel
theorem dX11_locks_81 : decode cX11_locks 81 = .ok (.iload_n 1, 1) := by decide +kernel
theorem dX11_locks_82 : decode cX11_locks 82 = .ok (.isub, 1) := by decide +kernel
theorem dX11_locks_83 : decode cX11_locks 83 = .ok (.ireturn, 1) := by decide +kernel
theorem dX11_locks_84 : decode cX11_locks 84 = .ok (.iinc 4 1, 3) := by decide +kernel
theorem dX11_locks_87 : decode cX11_locks 87 = .ok (.goto (-40), 3) := by decide +kernel
theorem dX11_locks_90 : decode cX11_locks 90 = .ok (.iconst (-1), 1) := by decide +kernel
theorem dX11_locks_91 : decode cX11_locks 91 = .ok (.ireturn, 1) := by decide +kernel
set_option maxRecDepth 20000 in
theorem ggX11_from_X4_begin : GoodIn wsX11_from wsX4_begin := gi_e e_wsX11_from e_wsX4_begin (by decide +kernel)
set_option maxRecDepth 20000 in
theorem gX11_from_X4_begin : GoodIn wsX11_from (wsV RX11 269 RX4 yX4_begin wsX4_begin) := goodIn_app (gi_e e_wsX11_from (ce fw_5122 (ce fw_2135 (ce fw_2136 (ce fw_1031 (cn))))) (by decide +kernel)) ggX11_from_X4_begin
set_option maxRecDepth 20000 in
theorem ggX11_from_X4_take : GoodIn wsX11_from wsX4_take := gi_e e_wsX11_from e_wsX4_take (by decide +kernel)
set_option maxRecDepth 20000 in
theorem gX11_from_X4_take : GoodIn wsX11_from (wsV RX11 272 RX4 yX4_take wsX4_take) := goodIn_app (gi_e e_wsX11_from (ce fw_5123 (ce fw_4146 (ce fw_4147 (ce fw_1031 (cn))))) (by decide +kernel)) ggX11_from_X4_take
set_option maxRecDepth 20000 in
theorem ggX11_from_X4_tell : GoodIn wsX11_from wsX4_tell := gi_e e_wsX11_from e_wsX4_tell (by decide +kernel)
set_option maxRecDepth 20000 in
theorem gX11_from_X4_tell : GoodIn wsX11_from (wsV RX11 196 RX4 yX4_tell wsX4_tell) := goodIn_app (gi_e e_wsX11_from (ce fw_4290 (ce fw_4291 (ce fw_4292 (ce fw_1031 (cn))))) (by decide +kernel)) ggX11_from_X4_tell
theorem dX11_from_0 : decode cX11_from 0 = .ok (.aload_n 0, 1) := by decide +kernel
theorem dX11_from_1 : decode cX11_from 1 = .ok (.getfield 12, 3) := by decide +kernel
theorem dX11_from_4 : decode cX11_from 4 = .ok (.getfield 83, 3) := by decide +kernel
theorem dX11_from_7 : decode cX11_from 7 = .ok (.getfield 110, 3) := by decide +kernel
theorem dX11_from_10 : decode cX11_from 10 = .ok (.astore_n 3, 1) := by decide +kernel
theorem dX11_from_11 : decode cX11_from 11 = .ok (.iload_n 1, 1) := by decide +kernel
theorem dX11_from_12 : decode cX11_from 12 = .ok (.ifCond .lt 21, 3) := by decide +kernel
theorem dX11_from_15 : decode cX11_from 15 = .ok (.iload_n 1, 1) := by decide +kernel
theorem dX11_from_16 : decode cX11_from 16 = .ok (.aload_n 3, 1) := by decide +kernel
theorem dX11_from_17 : decode cX11_from 17 = .ok (.getfield 114, 3) := by decide +kernel
theorem dX11_from_20 : decode cX11_from 20 = .ok (.if_icmp .ge 13, 3) := by decide +kernel
theorem dX11_from_23 : decode cX11_from 23 = .ok (.iload_n 2, 1) := by decide +kernel
theorem dX11_from_24 : decode cX11_from 24 = .ok (.ifCond .lt 9, 3) := by decide +kernel
theorem dX11_from_27 : decode cX11_from 27 = .ok (.iload_n 2, 1) := by decide +kernel
theorem dX11_from_28 : decode cX11_from 28 = .ok (.bipush 18, 2) := by decide +kernel
theorem dX11_from_30 : decode cX11_from 30 = .ok (.if_icmp .lt 5, 3) := by decide +kernel
theorem dX11_from_33 : decode cX11_from 33 = .ok (.iconst (-1), 1) := by decide +kernel
theorem dX11_from_34 : decode cX11_from 34 = .ok (.ireturn, 1) := by decide +kernel
theorem dX11_from_35 : decode cX11_from 35 = .ok (.aload_n 0, 1) := by decide +kernel
theorem dX11_from_36 : decode cX11_from 36 = .ok (.getfield 33, 3) := by decide +kernel
theorem dX11_from_39 : decode cX11_from 39 = .ok (.getfield 192, 3) := by decide +kernel
theorem dX11_from_42 : decode cX11_from 42 = .ok (.astore 4, 2) := by decide +kernel
theorem dX11_from_44 : decode cX11_from 44 = .ok (.aload 4, 2) := by decide +kernel
theorem dX11_from_46 : decode cX11_from 46 = .ok (.aload_n 0, 1) := by decide +kernel
theorem dX11_from_47 : decode cX11_from 47 = .ok (.getfield 12, 3) := by decide +kernel
theorem dX11_from_50 : decode cX11_from 50 = .ok (.getfield 70, 3) := by decide +kernel
theorem dX11_from_53 : decode cX11_from 53 = .ok (.invokevirtual 269, 3) := by decide +kernel
theorem dX11_from_56 : decode cX11_from 56 = .ok (.iload_n 1, 1) := by decide +kernel
theorem dX11_from_57 : decode cX11_from 57 = .ok (.istore 5, 2) := by decide +kernel
theorem dX11_from_59 : decode cX11_from 59 = .ok (.iload 5, 2) := by decide +kernel
theorem dX11_from_61 : decode cX11_from 61 = .ok (.aload_n 3, 1) := by decide +kernel
theorem dX11_from_62 : decode cX11_from 62 = .ok (.getfield 114, 3) := by decide +kernel
theorem dX11_from_65 : decode cX11_from 65 = .ok (.if_icmp .ge 24, 3) := by decide +kernel
theorem dX11_from_68 : decode cX11_from 68 = .ok (.aload 4, 2) := by decide +kernel
theorem dX11_from_70 : decode cX11_from 70 = .ok (.aload_n 0, 1) := by decide +kernel
theorem dX11_from_71 : decode cX11_from 71 = .ok (.getfield 12, 3) := by decide +kernel
theorem dX11_from_74 : decode cX11_from 74 = .ok (.getfield 70, 3) := by decide +kernel
theorem dX11_from_77 : decode cX11_from 77 = .ok (.aload_n 3, 1) := by decide +kernel
theorem dX11_from_78 : decode cX11_from 78 = .ok (.iload 5, 2) := by decide +kernel
theorem dX11_from_80 : decode cX11_from 80 = .ok (.invokevirtual 272, 3) := by decide +kernel
theorem dX11_from_83 : decode cX11_from 83 = .ok (.iinc 5 1, 3) := by decide +kernel
theorem dX11_from_86 : decode cX11_from 86 = .ok (.goto (-27), 3) := by decide +kernel
theorem dX11_from_89 : decode cX11_from 89 = .ok (.aload 4, 2) := by decide +kernel
theorem dX11_from_91 : decode cX11_from 91 = .ok (.aload_n 0, 1) := by decide +kernel
theorem dX11_from_92 : decode cX11_from 92 = .ok (.getfield 12, 3) := by decide +kernel
theorem dX11_from_95 : decode cX11_from 95 = .ok (.getfield 70, 3) := by decide +kernel
theorem dX11_from_98 : decode cX11_from 98 = .ok (.iload_n 2, 1) := by decide +kernel
theorem dX11_from_99 : decode cX11_from 99 = .ok (.invokevirtual 196, 3) := by decide +kernel
theorem dX11_from_102 : decode cX11_from 102 = .ok (.ireturn, 1) := by decide +kernel
set_option maxRecDepth 20000 in
theorem ggX11_fits_X1_begin : GoodIn wsX11_fits wsX1_begin := gi_e e_wsX11_fits e_wsX1_begin (by decide +kernel)
set_option maxRecDepth 20000 in
theorem gX11_fits_X1_begin : GoodIn wsX11_fits (wsV RX11 279 RX1 yX1_begin wsX1_begin) := goodIn_app (gi_e e_wsX11_fits (ce fw_5132 (ce fw_2139 (ce fw_2140 (ce fw_1032 (cn))))) (by decide +kernel)) ggX11_fits_X1_begin
set_option maxRecDepth 20000 in
theorem ggX11_fits_X2_at : GoodIn wsX11_fits wsX2_at := gi_e e_wsX11_fits e_wsX2_at (by decide +kernel)
set_option maxRecDepth 20000 in
theorem gX11_fits_X2_at : GoodIn wsX11_fits (wsV RX11 185 RX2 yX2_at wsX2_at) := goodIn_app (gi_e e_wsX11_fits (ce fw_4280 (ce fw_4110 (ce fw_4111 (ce fw_1035 (cn))))) (by decide +kernel)) ggX11_fits_X2_at
set_option maxRecDepth 20000 in
theorem ggX11_fits_X1_follow : GoodIn wsX11_fits wsX1_follow := gi_e e_wsX11_fits e_wsX1_follow (by decide +kernel)
set_option maxRecDepth 20000 in
theorem gX11_fits_X1_follow : GoodIn wsX11_fits (wsV RX11 283 RX1 yX1_follow wsX1_follow) := goodIn_app (gi_e e_wsX11_fits (ce fw_5133 (ce fw_4155 (ce fw_4156 (ce fw_1032 (cn))))) (by decide +kernel)) ggX11_fits_X1_follow
set_option maxRecDepth 20000 in
theorem ggX11_fits_X1_nth : GoodIn wsX11_fits wsX1_nth := gi_e e_wsX11_fits e_wsX1_nth (by decide +kernel)
set_option maxRecDepth 20000 in
theorem gX11_fits_X1_nth : GoodIn wsX11_fits (wsV RX11 209 RX1 yX1_nth wsX1_nth) := goodIn_app (gi_e e_wsX11_fits (ce fw_4298 (ce fw_4181 (ce fw_4182 (ce fw_1032 (cn))))) (by decide +kernel)) ggX11_fits_X1_nth
theorem dX11_fits_0 : decode cX11_fits 0 = .ok (.aload_n 0, 1) := by decide +kernel
theorem dX11_fits_1 : decode cX11_fits 1 = .ok (.getfield 12, 3) := by decide +kernel
theorem dX11_fits_4 : decode cX11_fits 4 = .ok (.getfield 83, 3) := by decide +kernel
theorem dX11_fits_7 : decode cX11_fits 7 = .ok (.getfield 110, 3) := by decide +kernel
theorem dX11_fits_10 : decode cX11_fits 10 = .ok (.astore_n 3, 1) := by decide +kernel
theorem dX11_fits_11 : decode cX11_fits 11 = .ok (.iload_n 1, 1) := by decide +kernel
theorem dX11_fits_12 : decode cX11_fits 12 = .ok (.ifCond .lt 11, 3) := by decide +kernel
theorem dX11_fits_15 : decode cX11_fits 15 = .ok (.iload_n 1, 1) := by decide +kernel
theorem dX11_fits_16 : decode cX11_fits 16 = .ok (.aload_n 3, 1) := by decide +kernel
theorem dX11_fits_17 : decode cX11_fits 17 = .ok (.getfield 114, 3) := by decide +kernel
theorem dX11_fits_20 : decode cX11_fits 20 = .ok (.if_icmp .le 5, 3) := by decide +kernel
theorem dX11_fits_23 : decode cX11_fits 23 = .ok (.iconst (-1), 1) := by decide +kernel
theorem dX11_fits_24 : decode cX11_fits 24 = .ok (.ireturn, 1) := by decide +kernel
theorem dX11_fits_25 : decode cX11_fits 25 = .ok (.aload_n 0, 1) := by decide +kernel
theorem dX11_fits_26 : decode cX11_fits 26 = .ok (.getfield 33, 3) := by decide +kernel
theorem dX11_fits_29 : decode cX11_fits 29 = .ok (.getfield 192, 3) := by decide +kernel
theorem dX11_fits_32 : decode cX11_fits 32 = .ok (.getfield 205, 3) := by decide +kernel
theorem dX11_fits_35 : decode cX11_fits 35 = .ok (.astore 4, 2) := by decide +kernel
theorem dX11_fits_37 : decode cX11_fits 37 = .ok (.aload 4, 2) := by decide +kernel
theorem dX11_fits_39 : decode cX11_fits 39 = .ok (.aload_n 0, 1) := by decide +kernel
theorem dX11_fits_40 : decode cX11_fits 40 = .ok (.getfield 12, 3) := by decide +kernel
theorem dX11_fits_43 : decode cX11_fits 43 = .ok (.getfield 70, 3) := by decide +kernel
theorem dX11_fits_46 : decode cX11_fits 46 = .ok (.invokevirtual 279, 3) := by decide +kernel
theorem dX11_fits_49 : decode cX11_fits 49 = .ok (.iconst 0, 1) := by decide +kernel
theorem dX11_fits_50 : decode cX11_fits 50 = .ok (.istore 5, 2) := by decide +kernel
theorem dX11_fits_52 : decode cX11_fits 52 = .ok (.iload 5, 2) := by decide +kernel
theorem dX11_fits_54 : decode cX11_fits 54 = .ok (.iload_n 1, 1) := by decide +kernel
theorem dX11_fits_55 : decode cX11_fits 55 = .ok (.if_icmp .ge 35, 3) := by decide +kernel
theorem dX11_fits_58 : decode cX11_fits 58 = .ok (.aload 4, 2) := by decide +kernel
theorem dX11_fits_60 : decode cX11_fits 60 = .ok (.getfield 280, 3) := by decide +kernel
theorem dX11_fits_63 : decode cX11_fits 63 = .ok (.ifCond .le 27, 3) := by decide +kernel
theorem dX11_fits_66 : decode cX11_fits 66 = .ok (.aload 4, 2) := by decide +kernel
theorem dX11_fits_68 : decode cX11_fits 68 = .ok (.aload_n 0, 1) := by decide +kernel
theorem dX11_fits_69 : decode cX11_fits 69 = .ok (.getfield 12, 3) := by decide +kernel
theorem dX11_fits_72 : decode cX11_fits 72 = .ok (.getfield 70, 3) := by decide +kernel
theorem dX11_fits_75 : decode cX11_fits 75 = .ok (.aload_n 3, 1) := by decide +kernel
theorem dX11_fits_76 : decode cX11_fits 76 = .ok (.iload 5, 2) := by decide +kernel
theorem dX11_fits_78 : decode cX11_fits 78 = .ok (.invokevirtual 185, 3) := by decide +kernel
theorem dX11_fits_81 : decode cX11_fits 81 = .ok (.invokevirtual 283, 3) := by decide +kernel
theorem dX11_fits_84 : decode cX11_fits 84 = .ok (.iinc 5 1, 3) := by decide +kernel
theorem dX11_fits_87 : decode cX11_fits 87 = .ok (.goto (-35), 3) := by decide +kernel
theorem dX11_fits_90 : decode cX11_fits 90 = .ok (.iload_n 2, 1) := by decide +kernel
theorem dX11_fits_91 : decode cX11_fits 91 = .ok (.iconst (-1), 1) := by decide +kernel
theorem dX11_fits_92 : decode cX11_fits 92 = .ok (.if_icmp .ne 11, 3) := by decide +kernel
theorem dX11_fits_95 : decode cX11_fits 95 = .ok (.aload 4, 2) := by decide +kernel
theorem dX11_fits_97 : decode cX11_fits 97 = .ok (.getfield 280, 3) := by decide +kernel
theorem dX11_fits_100 : decode cX11_fits 100 = .ok (.goto 16, 3) := by decide +kernel
theorem dX11_fits_103 : decode cX11_fits 103 = .ok (.aload 4, 2) := by decide +kernel
theorem dX11_fits_105 : decode cX11_fits 105 = .ok (.aload_n 0, 1) := by decide +kernel
theorem dX11_fits_106 : decode cX11_fits 106 = .ok (.getfield 12, 3) := by decide +kernel
theorem dX11_fits_109 : decode cX11_fits 109 = .ok (.getfield 70, 3) := by decide +kernel
theorem dX11_fits_112 : decode cX11_fits 112 = .ok (.iload_n 2, 1) := by decide +kernel
theorem dX11_fits_113 : decode cX11_fits 113 = .ok (.invokevirtual 209, 3) := by decide +kernel
theorem dX11_fits_116 : decode cX11_fits 116 = .ok (.ireturn, 1) := by decide +kernel
set_option maxRecDepth 20000 in
theorem ggX11_least_X1_begin : GoodIn wsX11_least wsX1_begin := gi_e e_wsX11_least e_wsX1_begin (by decide +kernel)
set_option maxRecDepth 20000 in
theorem gX11_least_X1_begin : GoodIn wsX11_least (wsV RX11 279 RX1 yX1_begin wsX1_begin) := goodIn_app (gi_e e_wsX11_least (ce fw_5132 (ce fw_2139 (ce fw_2140 (ce fw_1032 (cn))))) (by decide +kernel)) ggX11_least_X1_begin
set_option maxRecDepth 20000 in
theorem ggX11_least_X2_at : GoodIn wsX11_least wsX2_at := gi_e e_wsX11_least e_wsX2_at (by decide +kernel)
set_option maxRecDepth 20000 in
theorem gX11_least_X2_at : GoodIn wsX11_least (wsV RX11 185 RX2 yX2_at wsX2_at) := goodIn_app (gi_e e_wsX11_least (ce fw_4280 (ce fw_4110 (ce fw_4111 (ce fw_1035 (cn))))) (by decide +kernel)) ggX11_least_X2_at
set_option maxRecDepth 20000 in
theorem ggX11_least_X1_follow : GoodIn wsX11_least wsX1_follow := gi_e e_wsX11_least e_wsX1_follow (by decide +kernel)
set_option maxRecDepth 20000 in
theorem gX11_least_X1_follow : GoodIn wsX11_least (wsV RX11 283 RX1 yX1_follow wsX1_follow) := goodIn_app (gi_e e_wsX11_least (ce fw_5133 (ce fw_4155 (ce fw_4156 (ce fw_1032 (cn))))) (by decide +kernel)) ggX11_least_X1_follow
theorem dX11_least_0 : decode cX11_least 0 = .ok (.aload_n 0, 1) := by decide +kernel
theorem dX11_least_1 : decode cX11_least 1 = .ok (.getfield 12, 3) := by decide +kernel
theorem dX11_least_4 : decode cX11_least 4 = .ok (.getfield 83, 3) := by decide +kernel
theorem dX11_least_7 : decode cX11_least 7 = .ok (.getfield 110, 3) := by decide +kernel
theorem dX11_least_10 : decode cX11_least 10 = .ok (.astore_n 2, 1) := by decide +kernel
theorem dX11_least_11 : decode cX11_least 11 = .ok (.iload_n 1, 1) := by decide +kernel
theorem dX11_least_12 : decode cX11_least 12 = .ok (.ifCond .lt 11, 3) := by decide +kernel
theorem dX11_least_15 : decode cX11_least 15 = .ok (.iload_n 1, 1) := by decide +kernel
theorem dX11_least_16 : decode cX11_least 16 = .ok (.aload_n 2, 1) := by decide +kernel
theorem dX11_least_17 : decode cX11_least 17 = .ok (.getfield 114, 3) := by decide +kernel
theorem dX11_least_20 : decode cX11_least 20 = .ok (.if_icmp .le 5, 3) := by decide +kernel
theorem dX11_least_23 : decode cX11_least 23 = .ok (.iconst (-1), 1) := by decide +kernel
theorem dX11_least_24 : decode cX11_least 24 = .ok (.ireturn, 1) := by decide +kernel
theorem dX11_least_25 : decode cX11_least 25 = .ok (.aload_n 0, 1) := by decide +kernel
theorem dX11_least_26 : decode cX11_least 26 = .ok (.getfield 33, 3) := by decide +kernel
theorem dX11_least_29 : decode cX11_least 29 = .ok (.getfield 192, 3) := by decide +kernel
theorem dX11_least_32 : decode cX11_least 32 = .ok (.getfield 205, 3) := by decide +kernel
theorem dX11_least_35 : decode cX11_least 35 = .ok (.astore_n 3, 1) := by decide +kernel
theorem dX11_least_36 : decode cX11_least 36 = .ok (.aload_n 3, 1) := by decide +kernel
theorem dX11_least_37 : decode cX11_least 37 = .ok (.aload_n 0, 1) := by decide +kernel
theorem dX11_least_38 : decode cX11_least 38 = .ok (.getfield 12, 3) := by decide +kernel
theorem dX11_least_41 : decode cX11_least 41 = .ok (.getfield 70, 3) := by decide +kernel
theorem dX11_least_44 : decode cX11_least 44 = .ok (.invokevirtual 279, 3) := by decide +kernel
theorem dX11_least_47 : decode cX11_least 47 = .ok (.iconst 0, 1) := by decide +kernel
theorem dX11_least_48 : decode cX11_least 48 = .ok (.istore 4, 2) := by decide +kernel
theorem dX11_least_50 : decode cX11_least 50 = .ok (.iload 4, 2) := by decide +kernel
theorem dX11_least_52 : decode cX11_least 52 = .ok (.iload_n 1, 1) := by decide +kernel
theorem dX11_least_53 : decode cX11_least 53 = .ok (.if_icmp .ge 34, 3) := by decide +kernel
theorem dX11_least_56 : decode cX11_least 56 = .ok (.aload_n 3, 1) := by decide +kernel
theorem dX11_least_57 : decode cX11_least 57 = .ok (.getfield 280, 3) := by decide +kernel
theorem dX11_least_60 : decode cX11_least 60 = .ok (.iconst 1, 1) := by decide +kernel
theorem dX11_least_61 : decode cX11_least 61 = .ok (.if_icmp .le 26, 3) := by decide +kernel
theorem dX11_least_64 : decode cX11_least 64 = .ok (.aload_n 3, 1) := by decide +kernel
theorem dX11_least_65 : decode cX11_least 65 = .ok (.aload_n 0, 1) := by decide +kernel
theorem dX11_least_66 : decode cX11_least 66 = .ok (.getfield 12, 3) := by decide +kernel
theorem dX11_least_69 : decode cX11_least 69 = .ok (.getfield 70, 3) := by decide +kernel
theorem dX11_least_72 : decode cX11_least 72 = .ok (.aload_n 2, 1) := by decide +kernel
theorem dX11_least_73 : decode cX11_least 73 = .ok (.iload 4, 2) := by decide +kernel
theorem dX11_least_75 : decode cX11_least 75 = .ok (.invokevirtual 185, 3) := by decide +kernel
theorem dX11_least_78 : decode cX11_least 78 = .ok (.invokevirtual 283, 3) := by decide +kernel
theorem dX11_least_81 : decode cX11_least 81 = .ok (.iinc 4 1, 3) := by decide +kernel
theorem dX11_least_84 : decode cX11_least 84 = .ok (.goto (-34), 3) := by decide +kernel
theorem dX11_least_87 : decode cX11_least 87 = .ok (.aload_n 3, 1) := by decide +kernel
theorem dX11_least_88 : decode cX11_least 88 = .ok (.getfield 280, 3) := by decide +kernel
theorem dX11_least_91 : decode cX11_least 91 = .ok (.iconst 1, 1) := by decide +kernel
theorem dX11_least_92 : decode cX11_least 92 = .ok (.if_icmp .ne 10, 3) := by decide +kernel
theorem dX11_least_95 : decode cX11_least 95 = .ok (.aload_n 3, 1) := by decide +kernel
theorem dX11_least_96 : decode cX11_least 96 = .ok (.getfield 286, 3) := by decide +kernel
theorem dX11_least_99 : decode cX11_least 99 = .ok (.goto 4, 3) := by decide +kernel
theorem dX11_least_102 : decode cX11_least 102 = .ok (.iconst (-1), 1) := by decide +kernel
theorem dX11_least_103 : decode cX11_least 103 = .ok (.ireturn, 1) := by decide +kernel
set_option maxRecDepth 20000 in
theorem ggX11_weak_X9_copyFrom : GoodIn wsX11_weak wsX9_copyFrom := gi_e e_wsX11_weak e_wsX9_copyFrom (by decide +kernel)
set_option maxRecDepth 20000 in
theorem gX11_weak_X9_copyFrom : GoodIn wsX11_weak (wsV RX11 138 RX9 yX9_copyFrom wsX9_copyFrom) := goodIn_app (gi_e e_wsX11_weak (ce fw_3254 (ce fw_3255 (ce fw_3256 (ce fw_1029 (cn))))) (by decide +kernel)) ggX11_weak_X9_copyFrom
set_option maxRecDepth 20000 in
theorem ggX11_weak_X2_flip : GoodIn wsX11_weak wsX2_flip := gi_e e_wsX11_weak e_wsX2_flip (by decide +kernel)
set_option maxRecDepth 20000 in
theorem gX11_weak_X2_flip : GoodIn wsX11_weak (wsV RX11 124 RX2 yX2_flip wsX2_flip) := goodIn_app (gi_e e_wsX11_weak (ce fw_4117 (ce fw_4118 (ce fw_4119 (ce fw_1035 (cn))))) (by decide +kernel)) ggX11_weak_X2_flip
set_option maxRecDepth 20000 in
theorem ggX11_weak_X11_firstLoss : GoodIn wsX11_weak wsX11_firstLoss := gi_e e_wsX11_weak e_wsX11_firstLoss (by decide +kernel)
set_option maxRecDepth 20000 in
theorem gX11_weak_X11_firstLoss : GoodIn wsX11_weak (wsV RX11 292 RX11 yX11_firstLoss wsX11_firstLoss) := goodIn_app (gi_e e_wsX11_weak (ce fw_5143 (ce fw_5145 (ce fw_26 (ce fw_1025 (cn))))) (by decide +kernel)) ggX11_weak_X11_firstLoss
theorem dX11_weak_0 : decode cX11_weak 0 = .ok (.aload_n 0, 1) := by decide +kernel
theorem dX11_weak_1 : decode cX11_weak 1 = .ok (.getfield 33, 3) := by decide +kernel
theorem dX11_weak_4 : decode cX11_weak 4 = .ok (.aload_n 0, 1) := by decide +kernel
theorem dX11_weak_5 : decode cX11_weak 5 = .ok (.getfield 12, 3) := by decide +kernel
theorem dX11_weak_8 : decode cX11_weak 8 = .ok (.getfield 83, 3) := by decide +kernel
theorem dX11_weak_11 : decode cX11_weak 11 = .ok (.invokevirtual 138, 3) := by decide +kernel
theorem dX11_weak_14 : decode cX11_weak 14 = .ok (.aload_n 0, 1) := by decide +kernel
theorem dX11_weak_15 : decode cX11_weak 15 = .ok (.getfield 33, 3) := by decide +kernel
theorem dX11_weak_18 : decode cX11_weak 18 = .ok (.getfield 121, 3) := by decide +kernel
theorem dX11_weak_21 : decode cX11_weak 21 = .ok (.istore_n 1, 1) := by decide +kernel
theorem dX11_weak_22 : decode cX11_weak 22 = .ok (.aload_n 0, 1) := by decide +kernel
theorem dX11_weak_23 : decode cX11_weak 23 = .ok (.getfield 33, 3) := by decide +kernel
theorem dX11_weak_26 : decode cX11_weak 26 = .ok (.getfield 110, 3) := by decide +kernel
theorem dX11_weak_29 : decode cX11_weak 29 = .ok (.getfield 114, 3) := by decide +kernel
theorem dX11_weak_32 : decode cX11_weak 32 = .ok (.iload_n 1, 1) := by decide +kernel
theorem dX11_weak_33 : decode cX11_weak 33 = .ok (.bipush 40, 2) := by decide +kernel
theorem dX11_weak_35 : decode cX11_weak 35 = .ok (.iadd, 1) := by decide +kernel
theorem dX11_weak_36 : decode cX11_weak 36 = .ok (.invokestatic 287, 3) := by decide +kernel
theorem dX11_weak_39 : decode cX11_weak 39 = .ok (.istore_n 2, 1) := by decide +kernel
theorem dX11_weak_40 : decode cX11_weak 40 = .ok (.aload_n 0, 1) := by decide +kernel
theorem dX11_weak_41 : decode cX11_weak 41 = .ok (.getfield 33, 3) := by decide +kernel
theorem dX11_weak_44 : decode cX11_weak 44 = .ok (.getfield 110, 3) := by decide +kernel
theorem dX11_weak_47 : decode cX11_weak 47 = .ok (.getfield 114, 3) := by decide +kernel
theorem dX11_weak_50 : decode cX11_weak 50 = .ok (.iload_n 1, 1) := by decide +kernel
theorem dX11_weak_51 : decode cX11_weak 51 = .ok (.sipush 400, 3) := by decide +kernel
theorem dX11_weak_54 : decode cX11_weak 54 = .ok (.iadd, 1) := by decide +kernel
theorem dX11_weak_55 : decode cX11_weak 55 = .ok (.invokestatic 287, 3) := by decide +kernel
theorem dX11_weak_58 : decode cX11_weak 58 = .ok (.istore_n 3, 1) := by decide +kernel
theorem dX11_weak_59 : decode cX11_weak 59 = .ok (.iconst (-1), 1) := by decide +kernel
theorem dX11_weak_60 : decode cX11_weak 60 = .ok (.istore 4, 2) := by decide +kernel
theorem dX11_weak_62 : decode cX11_weak 62 = .ok (.iload_n 1, 1) := by decide +kernel
theorem dX11_weak_63 : decode cX11_weak 63 = .ok (.istore 5, 2) := by decide +kernel
theorem dX11_weak_65 : decode cX11_weak 65 = .ok (.iload 5, 2) := by decide +kernel
theorem dX11_weak_67 : decode cX11_weak 67 = .ok (.iload_n 2, 1) := by decide +kernel
theorem dX11_weak_68 : decode cX11_weak 68 = .ok (.if_icmp .ge 54, 3) := by decide +kernel
theorem dX11_weak_71 : decode cX11_weak 71 = .ok (.aload_n 0, 1) := by decide +kernel
theorem dX11_weak_72 : decode cX11_weak 72 = .ok (.getfield 33, 3) := by decide +kernel
theorem dX11_weak_75 : decode cX11_weak 75 = .ok (.getfield 110, 3) := by decide +kernel
theorem dX11_weak_78 : decode cX11_weak 78 = .ok (.iload 5, 2) := by decide +kernel
theorem dX11_weak_80 : decode cX11_weak 80 = .ok (.invokevirtual 124, 3) := by decide +kernel
theorem dX11_weak_83 : decode cX11_weak 83 = .ok (.aload_n 0, 1) := by decide +kernel
theorem dX11_weak_84 : decode cX11_weak 84 = .ok (.iload_n 1, 1) := by decide +kernel
theorem dX11_weak_85 : decode cX11_weak 85 = .ok (.iload_n 3, 1) := by decide +kernel
theorem dX11_weak_86 : decode cX11_weak 86 = .ok (.invokevirtual 292, 3) := by decide +kernel
theorem dX11_weak_89 : decode cX11_weak 89 = .ok (.istore 6, 2) := by decide +kernel
theorem dX11_weak_91 : decode cX11_weak 91 = .ok (.aload_n 0, 1) := by decide +kernel
theorem dX11_weak_92 : decode cX11_weak 92 = .ok (.getfield 33, 3) := by decide +kernel
theorem dX11_weak_95 : decode cX11_weak 95 = .ok (.getfield 110, 3) := by decide +kernel
theorem dX11_weak_98 : decode cX11_weak 98 = .ok (.iload 5, 2) := by decide +kernel
theorem dX11_weak_100 : decode cX11_weak 100 = .ok (.invokevirtual 124, 3) := by decide +kernel
theorem dX11_weak_103 : decode cX11_weak 103 = .ok (.iload 6, 2) := by decide +kernel
theorem dX11_weak_105 : decode cX11_weak 105 = .ok (.iconst (-1), 1) := by decide +kernel
theorem dX11_weak_106 : decode cX11_weak 106 = .ok (.if_icmp .eq 10, 3) := by decide +kernel
theorem dX11_weak_109 : decode cX11_weak 109 = .ok (.iload 5, 2) := by decide +kernel
theorem dX11_weak_111 : decode cX11_weak 111 = .ok (.istore 4, 2) := by decide +kernel
theorem dX11_weak_113 : decode cX11_weak 113 = .ok (.iload 6, 2) := by decide +kernel
theorem dX11_weak_115 : decode cX11_weak 115 = .ok (.istore_n 3, 1) := by decide +kernel
theorem dX11_weak_116 : decode cX11_weak 116 = .ok (.iinc 5 1, 3) := by decide +kernel
theorem dX11_weak_119 : decode cX11_weak 119 = .ok (.goto (-54), 3) := by decide +kernel
theorem dX11_weak_122 : decode cX11_weak 122 = .ok (.iload 4, 2) := by decide +kernel
theorem dX11_weak_124 : decode cX11_weak 124 = .ok (.ireturn, 1) := by decide +kernel
set_option maxRecDepth 20000 in
theorem ggX11_image_X10_copyFrom : GoodIn wsX11_image wsX10_copyFrom := gi_e e_wsX11_image e_wsX10_copyFrom (by decide +kernel)
set_option maxRecDepth 20000 in
theorem gX11_image_X10_copyFrom : GoodIn wsX11_image (wsV RX11 295 RX10 yX10_copyFrom wsX10_copyFrom) := goodIn_app (gi_e e_wsX11_image (ce fw_5152 (ce fw_5153 (ce fw_5154 (ce fw_1026 (cn))))) (by decide +kernel)) ggX11_image_X10_copyFrom
theorem dX11_image_0 : decode cX11_image 0 = .ok (.iload_n 1, 1) := by decide +kernel
theorem dX11_image_1 : decode cX11_image 1 = .ok (.ifCond .lt 8, 3) := by decide +kernel
theorem dX11_image_4 : decode cX11_image 4 = .ok (.iload_n 1, 1) := by decide +kernel
theorem dX11_image_5 : decode cX11_image 5 = .ok (.iconst 3, 1) := by decide +kernel
theorem dX11_image_6 : decode cX11_image 6 = .ok (.if_icmp .lt 5, 3) := by decide +kernel
theorem dX11_image_9 : decode cX11_image 9 = .ok (.iconst 0, 1) := by decide +kernel
theorem dX11_image_10 : decode cX11_image 10 = .ok (.ireturn, 1) := by decide +kernel
theorem dX11_image_11 : decode cX11_image 11 = .ok (.aload_n 0, 1) := by decide +kernel
theorem dX11_image_12 : decode cX11_image 12 = .ok (.getfield 16, 3) := by decide +kernel
theorem dX11_image_15 : decode cX11_image 15 = .ok (.iload_n 1, 1) := by decide +kernel
theorem dX11_image_16 : decode cX11_image 16 = .ok (.aaload, 1) := by decide +kernel
theorem dX11_image_17 : decode cX11_image 17 = .ok (.aload_n 0, 1) := by decide +kernel
theorem dX11_image_18 : decode cX11_image 18 = .ok (.getfield 12, 3) := by decide +kernel
theorem dX11_image_21 : decode cX11_image 21 = .ok (.invokevirtual 295, 3) := by decide +kernel
theorem dX11_image_24 : decode cX11_image 24 = .ok (.aload_n 0, 1) := by decide +kernel
theorem dX11_image_25 : decode cX11_image 25 = .ok (.getfield 20, 3) := by decide +kernel
theorem dX11_image_28 : decode cX11_image 28 = .ok (.iload_n 1, 1) := by decide +kernel
theorem dX11_image_29 : decode cX11_image 29 = .ok (.iconst 1, 1) := by decide +kernel
theorem dX11_image_30 : decode cX11_image 30 = .ok (.bastore, 1) := by decide +kernel
theorem dX11_image_31 : decode cX11_image 31 = .ok (.iconst 1, 1) := by decide +kernel
theorem dX11_image_32 : decode cX11_image 32 = .ok (.ireturn, 1) := by decide +kernel
set_option maxRecDepth 20000 in
theorem ggX11_again_X10_copyFrom : GoodIn wsX11_again wsX10_copyFrom := gi_e e_wsX11_again e_wsX10_copyFrom (by decide +kernel)
set_option maxRecDepth 20000 in
theorem gX11_again_X10_copyFrom : GoodIn wsX11_again (wsV RX11 295 RX10 yX10_copyFrom wsX10_copyFrom) := goodIn_app (gi_e e_wsX11_again (ce fw_5152 (ce fw_5153 (ce fw_5154 (ce fw_1026 (cn))))) (by decide +kernel)) ggX11_again_X10_copyFrom
theorem dX11_again_0 : decode cX11_again 0 = .ok (.iload_n 1, 1) := by decide +kernel
theorem dX11_again_1 : decode cX11_again 1 = .ok (.ifCond .lt 17, 3) := by decide +kernel
theorem dX11_again_4 : decode cX11_again 4 = .ok (.iload_n 1, 1) := by decide +kernel
theorem dX11_again_5 : decode cX11_again 5 = .ok (.iconst 3, 1) := by decide +kernel
theorem dX11_again_6 : decode cX11_again 6 = .ok (.if_icmp .ge 12, 3) := by decide +kernel
theorem dX11_again_9 : decode cX11_again 9 = .ok (.aload_n 0, 1) := by decide +kernel
theorem dX11_again_10 : decode cX11_again 10 = .ok (.getfield 20, 3) := by decide +kernel
theorem dX11_again_13 : decode cX11_again 13 = .ok (.iload_n 1, 1) := by decide +kernel
theorem dX11_again_14 : decode cX11_again 14 = .ok (.baload, 1) := by decide +kernel
theorem dX11_again_15 : decode cX11_again 15 = .ok (.ifCond .ne 5, 3) := by decide +kernel
theorem dX11_again_18 : decode cX11_again 18 = .ok (.iconst 0, 1) := by decide +kernel
theorem dX11_again_19 : decode cX11_again 19 = .ok (.ireturn, 1) := by decide +kernel
theorem dX11_again_20 : decode cX11_again 20 = .ok (.aload_n 0, 1) := by decide +kernel
theorem dX11_again_21 : decode cX11_again 21 = .ok (.getfield 12, 3) := by decide +kernel
theorem dX11_again_24 : decode cX11_again 24 = .ok (.aload_n 0, 1) := by decide +kernel
theorem dX11_again_25 : decode cX11_again 25 = .ok (.getfield 16, 3) := by decide +kernel
theorem dX11_again_28 : decode cX11_again 28 = .ok (.iload_n 1, 1) := by decide +kernel
theorem dX11_again_29 : decode cX11_again 29 = .ok (.aaload, 1) := by decide +kernel
theorem dX11_again_30 : decode cX11_again 30 = .ok (.invokevirtual 295, 3) := by decide +kernel
theorem dX11_again_33 : decode cX11_again 33 = .ok (.aload_n 0, 1) := by decide +kernel
theorem dX11_again_34 : decode cX11_again 34 = .ok (.iconst 0, 1) := by decide +kernel
theorem dX11_again_35 : decode cX11_again 35 = .ok (.putfield 89, 3) := by decide +kernel
theorem dX11_again_38 : decode cX11_again 38 = .ok (.iconst 1, 1) := by decide +kernel
theorem dX11_again_39 : decode cX11_again 39 = .ok (.ireturn, 1) := by decide +kernel
set_option maxRecDepth 20000 in
theorem ggX11_remember_X9_copyFrom : GoodIn wsX11_remember wsX9_copyFrom := gi_e e_wsX11_remember e_wsX9_copyFrom (by decide +kernel)
set_option maxRecDepth 20000 in
theorem gX11_remember_X9_copyFrom : GoodIn wsX11_remember (wsV RX11 138 RX9 yX9_copyFrom wsX9_copyFrom) := goodIn_app (gi_e e_wsX11_remember (ce fw_3254 (ce fw_3255 (ce fw_3256 (ce fw_1029 (cn))))) (by decide +kernel)) ggX11_remember_X9_copyFrom
theorem dX11_remember_0 : decode cX11_remember 0 = .ok (.aload_n 0, 1) := by decide +kernel
theorem dX11_remember_1 : decode cX11_remember 1 = .ok (.getfield 89, 3) := by decide +kernel
theorem dX11_remember_4 : decode cX11_remember 4 = .ok (.bipush 6, 2) := by decide +kernel
theorem dX11_remember_6 : decode cX11_remember 6 = .ok (.if_icmp .lt 50, 3) := by decide +kernel
theorem dX11_remember_9 : decode cX11_remember 9 = .ok (.aload_n 0, 1) := by decide +kernel
theorem dX11_remember_10 : decode cX11_remember 10 = .ok (.getfield 26, 3) := by decide +kernel
theorem dX11_remember_13 : decode cX11_remember 13 = .ok (.iconst 0, 1) := by decide +kernel
theorem dX11_remember_14 : decode cX11_remember 14 = .ok (.aaload, 1) := by decide +kernel
theorem dX11_remember_15 : decode cX11_remember 15 = .ok (.astore_n 1, 1) := by decide +kernel
theorem dX11_remember_16 : decode cX11_remember 16 = .ok (.iconst 1, 1) := by decide +kernel
theorem dX11_remember_17 : decode cX11_remember 17 = .ok (.istore_n 2, 1) := by decide +kernel
theorem dX11_remember_18 : decode cX11_remember 18 = .ok (.iload_n 2, 1) := by decide +kernel
theorem dX11_remember_19 : decode cX11_remember 19 = .ok (.bipush 6, 2) := by decide +kernel
theorem dX11_remember_21 : decode cX11_remember 21 = .ok (.if_icmp .ge 23, 3) := by decide +kernel
theorem dX11_remember_24 : decode cX11_remember 24 = .ok (.aload_n 0, 1) := by decide +kernel
theorem dX11_remember_25 : decode cX11_remember 25 = .ok (.getfield 26, 3) := by decide +kernel
theorem dX11_remember_28 : decode cX11_remember 28 = .ok (.iload_n 2, 1) := by decide +kernel
theorem dX11_remember_29 : decode cX11_remember 29 = .ok (.iconst 1, 1) := by decide +kernel
theorem dX11_remember_30 : decode cX11_remember 30 = .ok (.isub, 1) := by decide +kernel
theorem dX11_remember_31 : decode cX11_remember 31 = .ok (.aload_n 0, 1) := by decide +kernel
theorem dX11_remember_32 : decode cX11_remember 32 = .ok (.getfield 26, 3) := by decide +kernel
theorem dX11_remember_35 : decode cX11_remember 35 = .ok (.iload_n 2, 1) := by decide +kernel
theorem dX11_remember_36 : decode cX11_remember 36 = .ok (.aaload, 1) := by decide +kernel
theorem dX11_remember_37 : decode cX11_remember 37 = .ok (.aastore, 1) := by decide +kernel
theorem dX11_remember_38 : decode cX11_remember 38 = .ok (.iinc 2 1, 3) := by decide +kernel
theorem dX11_remember_41 : decode cX11_remember 41 = .ok (.goto (-23), 3) := by decide +kernel
theorem dX11_remember_44 : decode cX11_remember 44 = .ok (.aload_n 0, 1) := by decide +kernel
theorem dX11_remember_45 : decode cX11_remember 45 = .ok (.getfield 26, 3) := by decide +kernel
theorem dX11_remember_48 : decode cX11_remember 48 = .ok (.iconst 5, 1) := by decide +kernel
theorem dX11_remember_49 : decode cX11_remember 49 = .ok (.aload_n 1, 1) := by decide +kernel
theorem dX11_remember_50 : decode cX11_remember 50 = .ok (.aastore, 1) := by decide +kernel
theorem dX11_remember_51 : decode cX11_remember 51 = .ok (.aload_n 0, 1) := by decide +kernel
theorem dX11_remember_52 : decode cX11_remember 52 = .ok (.iconst 5, 1) := by decide +kernel
theorem dX11_remember_53 : decode cX11_remember 53 = .ok (.putfield 89, 3) := by decide +kernel
theorem dX11_remember_56 : decode cX11_remember 56 = .ok (.aload_n 0, 1) := by decide +kernel
theorem dX11_remember_57 : decode cX11_remember 57 = .ok (.getfield 26, 3) := by decide +kernel
theorem dX11_remember_60 : decode cX11_remember 60 = .ok (.aload_n 0, 1) := by decide +kernel
theorem dX11_remember_61 : decode cX11_remember 61 = .ok (.getfield 89, 3) := by decide +kernel
theorem dX11_remember_64 : decode cX11_remember 64 = .ok (.aaload, 1) := by decide +kernel
theorem dX11_remember_65 : decode cX11_remember 65 = .ok (.aload_n 0, 1) := by decide +kernel
theorem dX11_remember_66 : decode cX11_remember 66 = .ok (.getfield 12, 3) := by decide +kernel
theorem dX11_remember_69 : decode cX11_remember 69 = .ok (.getfield 83, 3) := by decide +kernel
theorem dX11_remember_72 : decode cX11_remember 72 = .ok (.invokevirtual 138, 3) := by decide +kernel
theorem dX11_remember_75 : decode cX11_remember 75 = .ok (.aload_n 0, 1) := by decide +kernel
theorem dX11_remember_76 : decode cX11_remember 76 = .ok (.dup, 1) := by decide +kernel
theorem dX11_remember_77 : decode cX11_remember 77 = .ok (.getfield 89, 3) := by decide +kernel
theorem dX11_remember_80 : decode cX11_remember 80 = .ok (.iconst 1, 1) := by decide +kernel
theorem dX11_remember_81 : decode cX11_remember 81 = .ok (.iadd, 1) := by decide +kernel
theorem dX11_remember_82 : decode cX11_remember 82 = .ok (.putfield 89, 3) := by decide +kernel
theorem dX11_remember_85 : decode cX11_remember 85 = .ok (.return_, 1) := by decide +kernel
set_option maxRecDepth 20000 in
theorem ggX11_channelOnes_X2_at : GoodIn wsX11_channelOnes wsX2_at := gi_e e_wsX11_channelOnes e_wsX2_at (by decide +kernel)
set_option maxRecDepth 20000 in
theorem gX11_channelOnes_X2_at : GoodIn wsX11_channelOnes (wsV RX11 185 RX2 yX2_at wsX2_at) := goodIn_app (gi_e e_wsX11_channelOnes (ce fw_4280 (ce fw_4110 (ce fw_4111 (ce fw_1035 (cn))))) (by decide +kernel)) ggX11_channelOnes_X2_at
theorem dX11_channelOnes_0 : decode cX11_channelOnes 0 = .ok (.iload_n 1, 1) := by decide +kernel
theorem dX11_channelOnes_1 : decode cX11_channelOnes 1 = .ok (.aload_n 0, 1) := by decide +kernel
theorem dX11_channelOnes_2 : decode cX11_channelOnes 2 = .ok (.getfield 12, 3) := by decide +kernel
theorem dX11_channelOnes_5 : decode cX11_channelOnes 5 = .ok (.getfield 70, 3) := by decide +kernel
theorem dX11_channelOnes_8 : decode cX11_channelOnes 8 = .ok (.getfield 168, 3) := by decide +kernel
theorem dX11_channelOnes_11 : decode cX11_channelOnes 11 = .ok (.aload_n 0, 1) := by decide +kernel
theorem dX11_channelOnes_12 : decode cX11_channelOnes 12 = .ok (.getfield 12, 3) := by decide +kernel
theorem dX11_channelOnes_15 : decode cX11_channelOnes 15 = .ok (.getfield 70, 3) := by decide +kernel
theorem dX11_channelOnes_18 : decode cX11_channelOnes 18 = .ok (.getfield 150, 3) := by decide +kernel
theorem dX11_channelOnes_21 : decode cX11_channelOnes 21 = .ok (.imul, 1) := by decide +kernel
theorem dX11_channelOnes_22 : decode cX11_channelOnes 22 = .ok (.iadd, 1) := by decide +kernel
theorem dX11_channelOnes_23 : decode cX11_channelOnes 23 = .ok (.istore_n 2, 1) := by decide +kernel
theorem dX11_channelOnes_24 : decode cX11_channelOnes 24 = .ok (.iconst 0, 1) := by decide +kernel
theorem dX11_channelOnes_25 : decode cX11_channelOnes 25 = .ok (.istore_n 3, 1) := by decide +kernel
theorem dX11_channelOnes_26 : decode cX11_channelOnes 26 = .ok (.iload_n 1, 1) := by decide +kernel
theorem dX11_channelOnes_27 : decode cX11_channelOnes 27 = .ok (.iconst 1, 1) := by decide +kernel
theorem dX11_channelOnes_28 : decode cX11_channelOnes 28 = .ok (.iadd, 1) := by decide +kernel
theorem dX11_channelOnes_29 : decode cX11_channelOnes 29 = .ok (.istore 4, 2) := by decide +kernel
theorem dX11_channelOnes_31 : decode cX11_channelOnes 31 = .ok (.iload 4, 2) := by decide +kernel
theorem dX11_channelOnes_33 : decode cX11_channelOnes 33 = .ok (.iload_n 2, 1) := by decide +kernel
theorem dX11_channelOnes_34 : decode cX11_channelOnes 34 = .ok (.if_icmp .gt 27, 3) := by decide +kernel
theorem dX11_channelOnes_37 : decode cX11_channelOnes 37 = .ok (.iload_n 3, 1) := by decide +kernel
theorem dX11_channelOnes_38 : decode cX11_channelOnes 38 = .ok (.aload_n 0, 1) := by decide +kernel
theorem dX11_channelOnes_39 : decode cX11_channelOnes 39 = .ok (.getfield 12, 3) := by decide +kernel
theorem dX11_channelOnes_42 : decode cX11_channelOnes 42 = .ok (.getfield 83, 3) := by decide +kernel
theorem dX11_channelOnes_45 : decode cX11_channelOnes 45 = .ok (.getfield 110, 3) := by decide +kernel
theorem dX11_channelOnes_48 : decode cX11_channelOnes 48 = .ok (.iload 4, 2) := by decide +kernel
theorem dX11_channelOnes_50 : decode cX11_channelOnes 50 = .ok (.invokevirtual 185, 3) := by decide +kernel
theorem dX11_channelOnes_53 : decode cX11_channelOnes 53 = .ok (.iadd, 1) := by decide +kernel
theorem dX11_channelOnes_54 : decode cX11_channelOnes 54 = .ok (.istore_n 3, 1) := by decide +kernel
theorem dX11_channelOnes_55 : decode cX11_channelOnes 55 = .ok (.iinc 4 1, 3) := by decide +kernel
theorem dX11_channelOnes_58 : decode cX11_channelOnes 58 = .ok (.goto (-27), 3) := by decide +kernel
theorem dX11_channelOnes_61 : decode cX11_channelOnes 61 = .ok (.iload_n 3, 1) := by decide +kernel
theorem dX11_channelOnes_62 : decode cX11_channelOnes 62 = .ok (.ireturn, 1) := by decide +kernel
set_option maxRecDepth 20000 in
theorem ggX11_channelNumber_X2_at : GoodIn wsX11_channelNumber wsX2_at := gi_e e_wsX11_channelNumber e_wsX2_at (by decide +kernel)
set_option maxRecDepth 20000 in
theorem gX11_channelNumber_X2_at : GoodIn wsX11_channelNumber (wsV RX11 185 RX2 yX2_at wsX2_at) := goodIn_app (gi_e e_wsX11_channelNumber (ce fw_4280 (ce fw_4110 (ce fw_4111 (ce fw_1035 (cn))))) (by decide +kernel)) ggX11_channelNumber_X2_at
theorem dX11_channelNumber_0 : decode cX11_channelNumber 0 = .ok (.aload_n 0, 1) := by decide +kernel
theorem dX11_channelNumber_1 : decode cX11_channelNumber 1 = .ok (.getfield 12, 3) := by decide +kernel
theorem dX11_channelNumber_4 : decode cX11_channelNumber 4 = .ok (.getfield 70, 3) := by decide +kernel
theorem dX11_channelNumber_7 : decode cX11_channelNumber 7 = .ok (.astore_n 3, 1) := by decide +kernel
theorem dX11_channelNumber_8 : decode cX11_channelNumber 8 = .ok (.iload_n 2, 1) := by decide +kernel
theorem dX11_channelNumber_9 : decode cX11_channelNumber 9 = .ok (.ifCond .lt 11, 3) := by decide +kernel
theorem dX11_channelNumber_12 : decode cX11_channelNumber 12 = .ok (.iload_n 2, 1) := by decide +kernel
theorem dX11_channelNumber_13 : decode cX11_channelNumber 13 = .ok (.aload_n 3, 1) := by decide +kernel
theorem dX11_channelNumber_14 : decode cX11_channelNumber 14 = .ok (.getfield 168, 3) := by decide +kernel
theorem dX11_channelNumber_17 : decode cX11_channelNumber 17 = .ok (.if_icmp .lt 5, 3) := by decide +kernel
theorem dX11_channelNumber_20 : decode cX11_channelNumber 20 = .ok (.iconst (-1), 1) := by decide +kernel
theorem dX11_channelNumber_21 : decode cX11_channelNumber 21 = .ok (.ireturn, 1) := by decide +kernel
theorem dX11_channelNumber_22 : decode cX11_channelNumber 22 = .ok (.iload_n 1, 1) := by decide +kernel
theorem dX11_channelNumber_23 : decode cX11_channelNumber 23 = .ok (.iconst 1, 1) := by decide +kernel
theorem dX11_channelNumber_24 : decode cX11_channelNumber 24 = .ok (.iadd, 1) := by decide +kernel
theorem dX11_channelNumber_25 : decode cX11_channelNumber 25 = .ok (.iload_n 2, 1) := by decide +kernel
theorem dX11_channelNumber_26 : decode cX11_channelNumber 26 = .ok (.aload_n 3, 1) := by decide +kernel
theorem dX11_channelNumber_27 : decode cX11_channelNumber 27 = .ok (.getfield 150, 3) := by decide +kernel
theorem dX11_channelNumber_30 : decode cX11_channelNumber 30 = .ok (.imul, 1) := by decide +kernel
theorem dX11_channelNumber_31 : decode cX11_channelNumber 31 = .ok (.iadd, 1) := by decide +kernel
theorem dX11_channelNumber_32 : decode cX11_channelNumber 32 = .ok (.istore 4, 2) := by decide +kernel
theorem dX11_channelNumber_34 : decode cX11_channelNumber 34 = .ok (.iconst 0, 1) := by decide +kernel
theorem dX11_channelNumber_35 : decode cX11_channelNumber 35 = .ok (.istore 5, 2) := by decide +kernel
theorem dX11_channelNumber_37 : decode cX11_channelNumber 37 = .ok (.iconst 0, 1) := by decide +kernel
theorem dX11_channelNumber_38 : decode cX11_channelNumber 38 = .ok (.istore 6, 2) := by decide +kernel
theorem dX11_channelNumber_40 : decode cX11_channelNumber 40 = .ok (.iload 6, 2) := by decide +kernel
theorem dX11_channelNumber_42 : decode cX11_channelNumber 42 = .ok (.aload_n 3, 1) := by decide +kernel
theorem dX11_channelNumber_43 : decode cX11_channelNumber 43 = .ok (.getfield 150, 3) := by decide +kernel
theorem dX11_channelNumber_46 : decode cX11_channelNumber 46 = .ok (.if_icmp .ge 34, 3) := by decide +kernel
theorem dX11_channelNumber_49 : decode cX11_channelNumber 49 = .ok (.iload 5, 2) := by decide +kernel
theorem dX11_channelNumber_51 : decode cX11_channelNumber 51 = .ok (.iconst 2, 1) := by decide +kernel
theorem dX11_channelNumber_52 : decode cX11_channelNumber 52 = .ok (.imul, 1) := by decide +kernel
theorem dX11_channelNumber_53 : decode cX11_channelNumber 53 = .ok (.aload_n 0, 1) := by decide +kernel
theorem dX11_channelNumber_54 : decode cX11_channelNumber 54 = .ok (.getfield 12, 3) := by decide +kernel
theorem dX11_channelNumber_57 : decode cX11_channelNumber 57 = .ok (.getfield 83, 3) := by decide +kernel
theorem dX11_channelNumber_60 : decode cX11_channelNumber 60 = .ok (.getfield 110, 3) := by decide +kernel
theorem dX11_channelNumber_63 : decode cX11_channelNumber 63 = .ok (.iload 4, 2) := by decide +kernel
theorem dX11_channelNumber_65 : decode cX11_channelNumber 65 = .ok (.iload 6, 2) := by decide +kernel
theorem dX11_channelNumber_67 : decode cX11_channelNumber 67 = .ok (.iadd, 1) := by decide +kernel
theorem dX11_channelNumber_68 : decode cX11_channelNumber 68 = .ok (.invokevirtual 185, 3) := by decide +kernel
theorem dX11_channelNumber_71 : decode cX11_channelNumber 71 = .ok (.iadd, 1) := by decide +kernel
theorem dX11_channelNumber_72 : decode cX11_channelNumber 72 = .ok (.istore 5, 2) := by decide +kernel
theorem dX11_channelNumber_74 : decode cX11_channelNumber 74 = .ok (.iinc 6 1, 3) := by decide +kernel
theorem dX11_channelNumber_77 : decode cX11_channelNumber 77 = .ok (.goto (-37), 3) := by decide +kernel
theorem dX11_channelNumber_80 : decode cX11_channelNumber 80 = .ok (.iload 5, 2) := by decide +kernel
theorem dX11_channelNumber_82 : decode cX11_channelNumber 82 = .ok (.ireturn, 1) := by decide +kernel
set_option maxRecDepth 20000 in
theorem ggX11_firstLoss_X4_copyFrom : GoodIn wsX11_firstLoss wsX4_copyFrom := gi_e e_wsX11_firstLoss e_wsX4_copyFrom (by decide +kernel)
set_option maxRecDepth 20000 in
theorem gX11_firstLoss_X4_copyFrom : GoodIn wsX11_firstLoss (wsV RX11 298 RX4 yX4_copyFrom wsX4_copyFrom) := goodIn_app (gi_e e_wsX11_firstLoss (ce fw_5147 (ce fw_3270 (ce fw_3271 (ce fw_1031 (cn))))) (by decide +kernel)) ggX11_firstLoss_X4_copyFrom
set_option maxRecDepth 20000 in
theorem ggX11_firstLoss_X4_take : GoodIn wsX11_firstLoss wsX4_take := gi_e e_wsX11_firstLoss e_wsX4_take (by decide +kernel)
set_option maxRecDepth 20000 in
theorem gX11_firstLoss_X4_take : GoodIn wsX11_firstLoss (wsV RX11 272 RX4 yX4_take wsX4_take) := goodIn_app (gi_e e_wsX11_firstLoss (ce fw_5123 (ce fw_4146 (ce fw_4147 (ce fw_1031 (cn))))) (by decide +kernel)) ggX11_firstLoss_X4_take
theorem dX11_firstLoss_0 : decode cX11_firstLoss 0 = .ok (.aload_n 0, 1) := by decide +kernel
theorem dX11_firstLoss_1 : decode cX11_firstLoss 1 = .ok (.getfield 33, 3) := by decide +kernel
theorem dX11_firstLoss_4 : decode cX11_firstLoss 4 = .ok (.getfield 192, 3) := by decide +kernel
theorem dX11_firstLoss_7 : decode cX11_firstLoss 7 = .ok (.astore_n 3, 1) := by decide +kernel
theorem dX11_firstLoss_8 : decode cX11_firstLoss 8 = .ok (.aload_n 3, 1) := by decide +kernel
theorem dX11_firstLoss_9 : decode cX11_firstLoss 9 = .ok (.aload_n 0, 1) := by decide +kernel
theorem dX11_firstLoss_10 : decode cX11_firstLoss 10 = .ok (.getfield 12, 3) := by decide +kernel
theorem dX11_firstLoss_13 : decode cX11_firstLoss 13 = .ok (.getfield 83, 3) := by decide +kernel
theorem dX11_firstLoss_16 : decode cX11_firstLoss 16 = .ok (.getfield 192, 3) := by decide +kernel
theorem dX11_firstLoss_19 : decode cX11_firstLoss 19 = .ok (.invokevirtual 298, 3) := by decide +kernel
theorem dX11_firstLoss_22 : decode cX11_firstLoss 22 = .ok (.aload_n 3, 1) := by decide +kernel
theorem dX11_firstLoss_23 : decode cX11_firstLoss 23 = .ok (.getfield 301, 3) := by decide +kernel
theorem dX11_firstLoss_26 : decode cX11_firstLoss 26 = .ok (.istore 4, 2) := by decide +kernel
theorem dX11_firstLoss_28 : decode cX11_firstLoss 28 = .ok (.iload_n 1, 1) := by decide +kernel
theorem dX11_firstLoss_29 : decode cX11_firstLoss 29 = .ok (.istore 5, 2) := by decide +kernel
theorem dX11_firstLoss_31 : decode cX11_firstLoss 31 = .ok (.iload 5, 2) := by decide +kernel
theorem dX11_firstLoss_33 : decode cX11_firstLoss 33 = .ok (.iload_n 2, 1) := by decide +kernel
theorem dX11_firstLoss_34 : decode cX11_firstLoss 34 = .ok (.if_icmp .ge 41, 3) := by decide +kernel
theorem dX11_firstLoss_37 : decode cX11_firstLoss 37 = .ok (.aload_n 3, 1) := by decide +kernel
theorem dX11_firstLoss_38 : decode cX11_firstLoss 38 = .ok (.aload_n 0, 1) := by decide +kernel
theorem dX11_firstLoss_39 : decode cX11_firstLoss 39 = .ok (.getfield 12, 3) := by decide +kernel
theorem dX11_firstLoss_42 : decode cX11_firstLoss 42 = .ok (.getfield 70, 3) := by decide +kernel
theorem dX11_firstLoss_45 : decode cX11_firstLoss 45 = .ok (.aload_n 0, 1) := by decide +kernel
theorem dX11_firstLoss_46 : decode cX11_firstLoss 46 = .ok (.getfield 33, 3) := by decide +kernel
theorem dX11_firstLoss_49 : decode cX11_firstLoss 49 = .ok (.getfield 110, 3) := by decide +kernel
theorem dX11_firstLoss_52 : decode cX11_firstLoss 52 = .ok (.iload 5, 2) := by decide +kernel
theorem dX11_firstLoss_54 : decode cX11_firstLoss 54 = .ok (.invokevirtual 272, 3) := by decide +kernel
theorem dX11_firstLoss_57 : decode cX11_firstLoss 57 = .ok (.aload_n 3, 1) := by decide +kernel
theorem dX11_firstLoss_58 : decode cX11_firstLoss 58 = .ok (.getfield 301, 3) := by decide +kernel
theorem dX11_firstLoss_61 : decode cX11_firstLoss 61 = .ok (.iload 4, 2) := by decide +kernel
theorem dX11_firstLoss_63 : decode cX11_firstLoss 63 = .ok (.if_icmp .eq 6, 3) := by decide +kernel
theorem dX11_firstLoss_66 : decode cX11_firstLoss 66 = .ok (.iload 5, 2) := by decide +kernel
theorem dX11_firstLoss_68 : decode cX11_firstLoss 68 = .ok (.ireturn, 1) := by decide +kernel
theorem dX11_firstLoss_69 : decode cX11_firstLoss 69 = .ok (.iinc 5 1, 3) := by decide +kernel
theorem dX11_firstLoss_72 : decode cX11_firstLoss 72 = .ok (.goto (-41), 3) := by decide +kernel
theorem dX11_firstLoss_75 : decode cX11_firstLoss 75 = .ok (.iconst (-1), 1) := by decide +kernel
theorem dX11_firstLoss_76 : decode cX11_firstLoss 76 = .ok (.ireturn, 1) := by decide +kernel
