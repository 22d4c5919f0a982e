theorem dX12_put_75 : decode cX12_put 75 = .ok (.goto (-22), 3) := by decide +kernel
theorem dX12_put_78 : decode cX12_put 78 = .ok (.aload_n 0, 1) := by decide +kernel
theorem dX12_put_79 : decode cX12_put 79 = .ok (.getfield 13, 3) := by decide +kernel
theorem dX12_put_82 : decode cX12_put 82 = .ok (.iload_n 1, 1) := by decide +kernel
theorem dX12_put_83 : decode cX12_put 83 = .ok (.iload_n 2, 1) := by decide +kernel
theorem dX12_put_84 : decode cX12_put 84 = .ok (.ifCond .eq 7, 3) := by decide +kernel
theorem dX12_put_87 : decode cX12_put 87 = .ok (.iconst 1, 1) := by decide +kernel
theorem dX12_put_88 : decode cX12_put 88 = .ok (.goto 4, 3) := by decide +kernel
theorem dX12_put_91 : decode cX12_put 91 = .ok (.iconst 0, 1) := by decide +kernel
theorem dX12_put_92 : decode cX12_put 92 = .ok (.i2b, 1) := by decide +kernel
theorem dX12_put_93 : decode cX12_put 93 = .ok (.bastore, 1) := by decide +kernel
theorem dX12_put_94 : decode cX12_put 94 = .ok (.aload_n 0, 1) := by decide +kernel
theorem dX12_put_95 : decode cX12_put 95 = .ok (.getfield 7, 3) := by decide +kernel
theorem dX12_put_98 : decode cX12_put 98 = .ok (.bipush 32, 2) := by decide +kernel
theorem dX12_put_100 : decode cX12_put 100 = .ok (.dup2, 1) := by decide +kernel
theorem dX12_put_101 : decode cX12_put 101 = .ok (.iaload, 1) := by decide +kernel
theorem dX12_put_102 : decode cX12_put 102 = .ok (.iconst 1, 1) := by decide +kernel
theorem dX12_put_103 : decode cX12_put 103 = .ok (.iadd, 1) := by decide +kernel
theorem dX12_put_104 : decode cX12_put 104 = .ok (.iastore, 1) := by decide +kernel
theorem dX12_put_105 : decode cX12_put 105 = .ok (.aload_n 0, 1) := by decide +kernel
theorem dX12_put_106 : decode cX12_put 106 = .ok (.getfield 7, 3) := by decide +kernel
theorem dX12_put_109 : decode cX12_put 109 = .ok (.bipush 32, 2) := by decide +kernel
theorem dX12_put_111 : decode cX12_put 111 = .ok (.iaload, 1) := by decide +kernel
theorem dX12_put_112 : decode cX12_put 112 = .ok (.ireturn, 1) := by decide +kernel
set_option maxRecDepth 20000 in
theorem ggX12_hear_X12_lesser : GoodIn wsX12_hear wsX12_lesser := gi_e e_wsX12_hear e_wsX12_lesser (by decide +kernel)
set_option maxRecDepth 20000 in
theorem gX12_hear_X12_lesser : GoodIn wsX12_hear (va_wsS RX12 103 yX12_lesser wsX12_lesser) := goodIn_app (gi_e e_wsX12_hear (ce fw_6150 (ce fw_6151 (ce fw_1038 (cn)))) (by decide +kernel)) ggX12_hear_X12_lesser
set_option maxRecDepth 20000 in
theorem ggX12_hear_X12_in : GoodIn wsX12_hear wsX12_in := gi_e e_wsX12_hear e_wsX12_in (by decide +kernel)
set_option maxRecDepth 20000 in
theorem gX12_hear_X12_in : GoodIn wsX12_hear (va_wsS RX12 72 yX12_in wsX12_in) := goodIn_app (gi_e e_wsX12_hear (ce fw_5342 (ce fw_5343 (ce fw_1038 (cn)))) (by decide +kernel)) ggX12_hear_X12_in
set_option maxRecDepth 20000 in
theorem ggX12_hear_X12_keeps : GoodIn wsX12_hear wsX12_keeps := gi_e e_wsX12_hear e_wsX12_keeps (by decide +kernel)
set_option maxRecDepth 20000 in
theorem gX12_hear_X12_keeps : GoodIn wsX12_hear (wsV RX12 226 RX12 yX12_keeps wsX12_keeps) := goodIn_app (gi_e e_wsX12_hear (ce fw_6197 (ce fw_6199 (ce fw_46 (ce fw_1038 (cn))))) (by decide +kernel)) ggX12_hear_X12_keeps
set_option maxRecDepth 20000 in
theorem ggX12_hear_X12_hears : GoodIn wsX12_hear wsX12_hears := gi_e e_wsX12_hear e_wsX12_hears (by decide +kernel)
set_option maxRecDepth 20000 in
theorem gX12_hear_X12_hears : GoodIn wsX12_hear (wsV RX12 232 RX12 yX12_hears wsX12_hears) := goodIn_app (gi_e e_wsX12_hear (ce fw_6238 (ce fw_6240 (ce fw_51 (ce fw_1038 (cn))))) (by decide +kernel)) ggX12_hear_X12_hears
theorem dX12_hear_0 : decode cX12_hear 0 = .ok (.aload_n 0, 1) := by decide +kernel
theorem dX12_hear_1 : decode cX12_hear 1 = .ok (.iconst 0, 1) := by decide +kernel
theorem dX12_hear_2 : decode cX12_hear 2 = .ok (.putfield 39, 3) := by decide +kernel
theorem dX12_hear_5 : decode cX12_hear 5 = .ok (.iload_n 1, 1) := by decide +kernel
theorem dX12_hear_6 : decode cX12_hear 6 = .ok (.iconst 1, 1) := by decide +kernel
theorem dX12_hear_7 : decode cX12_hear 7 = .ok (.sipush 4000, 3) := by decide +kernel
theorem dX12_hear_10 : decode cX12_hear 10 = .ok (.aload_n 0, 1) := by decide +kernel
theorem dX12_hear_11 : decode cX12_hear 11 = .ok (.getfield 7, 3) := by decide +kernel
theorem dX12_hear_14 : decode cX12_hear 14 = .ok (.bipush 32, 2) := by decide +kernel
theorem dX12_hear_16 : decode cX12_hear 16 = .ok (.iaload, 1) := by decide +kernel
theorem dX12_hear_17 : decode cX12_hear 17 = .ok (.aload_n 0, 1) := by decide +kernel
theorem dX12_hear_18 : decode cX12_hear 18 = .ok (.getfield 7, 3) := by decide +kernel
theorem dX12_hear_21 : decode cX12_hear 21 = .ok (.bipush 33, 2) := by decide +kernel
theorem dX12_hear_23 : decode cX12_hear 23 = .ok (.iaload, 1) := by decide +kernel
theorem dX12_hear_24 : decode cX12_hear 24 = .ok (.isub, 1) := by decide +kernel
theorem dX12_hear_25 : decode cX12_hear 25 = .ok (.invokestatic 103, 3) := by decide +kernel
theorem dX12_hear_28 : decode cX12_hear 28 = .ok (.invokestatic 72, 3) := by decide +kernel
theorem dX12_hear_31 : decode cX12_hear 31 = .ok (.ifCond .ne 5, 3) := by decide +kernel
theorem dX12_hear_34 : decode cX12_hear 34 = .ok (.iconst (-1), 1) := by decide +kernel
theorem dX12_hear_35 : decode cX12_hear 35 = .ok (.ireturn, 1) := by decide +kernel
theorem dX12_hear_36 : decode cX12_hear 36 = .ok (.aload_n 0, 1) := by decide +kernel
theorem dX12_hear_37 : decode cX12_hear 37 = .ok (.invokevirtual 226, 3) := by decide +kernel
theorem dX12_hear_40 : decode cX12_hear 40 = .ok (.iconst 0, 1) := by decide +kernel
theorem dX12_hear_41 : decode cX12_hear 41 = .ok (.istore_n 2, 1) := by decide +kernel
theorem dX12_hear_42 : decode cX12_hear 42 = .ok (.iload_n 2, 1) := by decide +kernel
theorem dX12_hear_43 : decode cX12_hear 43 = .ok (.iload_n 1, 1) := by decide +kernel
theorem dX12_hear_44 : decode cX12_hear 44 = .ok (.if_icmp .ge 36, 3) := by decide +kernel
theorem dX12_hear_47 : decode cX12_hear 47 = .ok (.aload_n 0, 1) := by decide +kernel
theorem dX12_hear_48 : decode cX12_hear 48 = .ok (.aload_n 0, 1) := by decide +kernel
theorem dX12_hear_49 : decode cX12_hear 49 = .ok (.getfield 13, 3) := by decide +kernel
theorem dX12_hear_52 : decode cX12_hear 52 = .ok (.aload_n 0, 1) := by decide +kernel
theorem dX12_hear_53 : decode cX12_hear 53 = .ok (.getfield 7, 3) := by decide +kernel
theorem dX12_hear_56 : decode cX12_hear 56 = .ok (.bipush 33, 2) := by decide +kernel
theorem dX12_hear_58 : decode cX12_hear 58 = .ok (.iaload, 1) := by decide +kernel
theorem dX12_hear_59 : decode cX12_hear 59 = .ok (.baload, 1) := by decide +kernel
theorem dX12_hear_60 : decode cX12_hear 60 = .ok (.invokevirtual 232, 3) := by decide +kernel
theorem dX12_hear_63 : decode cX12_hear 63 = .ok (.aload_n 0, 1) := by decide +kernel
theorem dX12_hear_64 : decode cX12_hear 64 = .ok (.getfield 7, 3) := by decide +kernel
theorem dX12_hear_67 : decode cX12_hear 67 = .ok (.bipush 33, 2) := by decide +kernel
theorem dX12_hear_69 : decode cX12_hear 69 = .ok (.dup2, 1) := by decide +kernel
theorem dX12_hear_70 : decode cX12_hear 70 = .ok (.iaload, 1) := by decide +kernel
theorem dX12_hear_71 : decode cX12_hear 71 = .ok (.iconst 1, 1) := by decide +kernel
theorem dX12_hear_72 : decode cX12_hear 72 = .ok (.iadd, 1) := by decide +kernel
theorem dX12_hear_73 : decode cX12_hear 73 = .ok (.iastore, 1) := by decide +kernel
theorem dX12_hear_74 : decode cX12_hear 74 = .ok (.iinc 2 1, 3) := by decide +kernel
theorem dX12_hear_77 : decode cX12_hear 77 = .ok (.goto (-35), 3) := by decide +kernel
theorem dX12_hear_80 : decode cX12_hear 80 = .ok (.aload_n 0, 1) := by decide +kernel
theorem dX12_hear_81 : decode cX12_hear 81 = .ok (.getfield 7, 3) := by decide +kernel
theorem dX12_hear_84 : decode cX12_hear 84 = .ok (.bipush 33, 2) := by decide +kernel
theorem dX12_hear_86 : decode cX12_hear 86 = .ok (.iaload, 1) := by decide +kernel
theorem dX12_hear_87 : decode cX12_hear 87 = .ok (.ireturn, 1) := by decide +kernel
theorem dX12_undo_0 : decode cX12_undo 0 = .ok (.aload_n 0, 1) := by decide +kernel
theorem dX12_undo_1 : decode cX12_undo 1 = .ok (.iconst 0, 1) := by decide +kernel
theorem dX12_undo_2 : decode cX12_undo 2 = .ok (.putfield 39, 3) := by decide +kernel
theorem dX12_undo_5 : decode cX12_undo 5 = .ok (.aload_n 0, 1) := by decide +kernel
theorem dX12_undo_6 : decode cX12_undo 6 = .ok (.getfield 137, 3) := by decide +kernel
theorem dX12_undo_9 : decode cX12_undo 9 = .ok (.ifCond .ne 5, 3) := by decide +kernel
theorem dX12_undo_12 : decode cX12_undo 12 = .ok (.iconst (-1), 1) := by decide +kernel
theorem dX12_undo_13 : decode cX12_undo 13 = .ok (.ireturn, 1) := by decide +kernel
theorem dX12_undo_14 : decode cX12_undo 14 = .ok (.aload_n 0, 1) := by decide +kernel
theorem dX12_undo_15 : decode cX12_undo 15 = .ok (.dup, 1) := by decide +kernel
theorem dX12_undo_16 : decode cX12_undo 16 = .ok (.getfield 137, 3) := by decide +kernel
theorem dX12_undo_19 : decode cX12_undo 19 = .ok (.iconst 1, 1) := by decide +kernel
theorem dX12_undo_20 : decode cX12_undo 20 = .ok (.isub, 1) := by decide +kernel
theorem dX12_undo_21 : decode cX12_undo 21 = .ok (.putfield 137, 3) := by decide +kernel
theorem dX12_undo_24 : decode cX12_undo 24 = .ok (.iconst 0, 1) := by decide +kernel
theorem dX12_undo_25 : decode cX12_undo 25 = .ok (.istore_n 1, 1) := by decide +kernel
theorem dX12_undo_26 : decode cX12_undo 26 = .ok (.iload_n 1, 1) := by decide +kernel
theorem dX12_undo_27 : decode cX12_undo 27 = .ok (.sipush 133, 3) := by decide +kernel
theorem dX12_undo_30 : decode cX12_undo 30 = .ok (.if_icmp .ge 30, 3) := by decide +kernel
theorem dX12_undo_33 : decode cX12_undo 33 = .ok (.aload_n 0, 1) := by decide +kernel
theorem dX12_undo_34 : decode cX12_undo 34 = .ok (.getfield 7, 3) := by decide +kernel
theorem dX12_undo_37 : decode cX12_undo 37 = .ok (.iload_n 1, 1) := by decide +kernel
theorem dX12_undo_38 : decode cX12_undo 38 = .ok (.aload_n 0, 1) := by decide +kernel
theorem dX12_undo_39 : decode cX12_undo 39 = .ok (.getfield 24, 3) := by decide +kernel
theorem dX12_undo_42 : decode cX12_undo 42 = .ok (.sipush 133, 3) := by decide +kernel
theorem dX12_undo_45 : decode cX12_undo 45 = .ok (.aload_n 0, 1) := by decide +kernel
theorem dX12_undo_46 : decode cX12_undo 46 = .ok (.getfield 137, 3) := by decide +kernel
theorem dX12_undo_49 : decode cX12_undo 49 = .ok (.imul, 1) := by decide +kernel
theorem dX12_undo_50 : decode cX12_undo 50 = .ok (.iload_n 1, 1) := by decide +kernel
theorem dX12_undo_51 : decode cX12_undo 51 = .ok (.iadd, 1) := by decide +kernel
theorem dX12_undo_52 : decode cX12_undo 52 = .ok (.iaload, 1) := by decide +kernel
theorem dX12_undo_53 : decode cX12_undo 53 = .ok (.iastore, 1) := by decide +kernel
theorem dX12_undo_54 : decode cX12_undo 54 = .ok (.iinc 1 1, 3) := by decide +kernel
theorem dX12_undo_57 : decode cX12_undo 57 = .ok (.goto (-31), 3) := by decide +kernel
theorem dX12_undo_60 : decode cX12_undo 60 = .ok (.iconst 0, 1) := by decide +kernel
theorem dX12_undo_61 : decode cX12_undo 61 = .ok (.istore_n 1, 1) := by decide +kernel
theorem dX12_undo_62 : decode cX12_undo 62 = .ok (.iload_n 1, 1) := by decide +kernel
theorem dX12_undo_63 : decode cX12_undo 63 = .ok (.sipush 4000, 3) := by decide +kernel
theorem dX12_undo_66 : decode cX12_undo 66 = .ok (.if_icmp .ge 30, 3) := by decide +kernel
theorem dX12_undo_69 : decode cX12_undo 69 = .ok (.aload_n 0, 1) := by decide +kernel
theorem dX12_undo_70 : decode cX12_undo 70 = .ok (.getfield 13, 3) := by decide +kernel
theorem dX12_undo_73 : decode cX12_undo 73 = .ok (.iload_n 1, 1) := by decide +kernel
theorem dX12_undo_74 : decode cX12_undo 74 = .ok (.aload_n 0, 1) := by decide +kernel
theorem dX12_undo_75 : decode cX12_undo 75 = .ok (.getfield 27, 3) := by decide +kernel
theorem dX12_undo_78 : decode cX12_undo 78 = .ok (.sipush 4000, 3) := by decide +kernel
theorem dX12_undo_81 : decode cX12_undo 81 = .ok (.aload_n 0, 1) := by decide +kernel
theorem dX12_undo_82 : decode cX12_undo 82 = .ok (.getfield 137, 3) := by decide +kernel
theorem dX12_undo_85 : decode cX12_undo 85 = .ok (.imul, 1) := by decide +kernel
theorem dX12_undo_86 : decode cX12_undo 86 = .ok (.iload_n 1, 1) := by decide +kernel
theorem dX12_undo_87 : decode cX12_undo 87 = .ok (.iadd, 1) := by decide +kernel
theorem dX12_undo_88 : decode cX12_undo 88 = .ok (.baload, 1) := by decide +kernel
theorem dX12_undo_89 : decode cX12_undo 89 = .ok (.bastore, 1) := by decide +kernel
theorem dX12_undo_90 : decode cX12_undo 90 = .ok (.iinc 1 1, 3) := by decide +kernel
theorem dX12_undo_93 : decode cX12_undo 93 = .ok (.goto (-31), 3) := by decide +kernel
theorem dX12_undo_96 : decode cX12_undo 96 = .ok (.aload_n 0, 1) := by decide +kernel
theorem dX12_undo_97 : decode cX12_undo 97 = .ok (.getfield 137, 3) := by decide +kernel
theorem dX12_undo_100 : decode cX12_undo 100 = .ok (.ireturn, 1) := by decide +kernel
set_option maxRecDepth 20000 in
theorem ggX12_count_X12_channels : GoodIn wsX12_count wsX12_channels := gi_e e_wsX12_count e_wsX12_channels (by decide +kernel)
set_option maxRecDepth 20000 in
theorem gX12_count_X12_channels : GoodIn wsX12_count (wsV RX12 208 RX12 yX12_channels wsX12_channels) := goodIn_app (gi_e e_wsX12_count (ce fw_6309 (ce fw_6311 (ce fw_68 (ce fw_1038 (cn))))) (by decide +kernel)) ggX12_count_X12_channels
set_option maxRecDepth 20000 in
theorem ggX12_count_X12_checkMany : GoodIn wsX12_count wsX12_checkMany := gi_e e_wsX12_count e_wsX12_checkMany (by decide +kernel)
set_option maxRecDepth 20000 in
theorem gX12_count_X12_checkMany : GoodIn wsX12_count (wsV RX12 145 RX12 yX12_checkMany wsX12_checkMany) := goodIn_app (gi_e e_wsX12_count (ce fw_6185 (ce fw_6187 (ce fw_44 (ce fw_1038 (cn))))) (by decide +kernel)) ggX12_count_X12_checkMany
theorem dX12_count_0 : decode cX12_count 0 = .ok (.aload_n 0, 1) := by decide +kernel
theorem dX12_count_1 : decode cX12_count 1 = .ok (.iconst 0, 1) := by decide +kernel
theorem dX12_count_2 : decode cX12_count 2 = .ok (.putfield 39, 3) := by decide +kernel
theorem dX12_count_5 : decode cX12_count 5 = .ok (.iload_n 1, 1) := by decide +kernel
theorem dX12_count_6 : decode cX12_count 6 = .ok (.tableswitch 152 0 15 #[78, 85, 93, 93, 93, 93, 93, 93, 93, 104, 109, 114, 122, 130, 135, 144], 78) := by decide +kernel
theorem dX12_count_84 : decode cX12_count 84 = .ok (.aload_n 0, 1) := by decide +kernel
theorem dX12_count_85 : decode cX12_count 85 = .ok (.getfield 7, 3) := by decide +kernel
theorem dX12_count_88 : decode cX12_count 88 = .ok (.iconst 0, 1) := by decide +kernel
theorem dX12_count_89 : decode cX12_count 89 = .ok (.iaload, 1) := by decide +kernel
theorem dX12_count_90 : decode cX12_count 90 = .ok (.ireturn, 1) := by decide +kernel
theorem dX12_count_91 : decode cX12_count 91 = .ok (.aload_n 0, 1) := by decide +kernel
theorem dX12_count_92 : decode cX12_count 92 = .ok (.getfield 7, 3) := by decide +kernel
theorem dX12_count_95 : decode cX12_count 95 = .ok (.bipush 8, 2) := by decide +kernel
theorem dX12_count_97 : decode cX12_count 97 = .ok (.iaload, 1) := by decide +kernel
theorem dX12_count_98 : decode cX12_count 98 = .ok (.ireturn, 1) := by decide +kernel
theorem dX12_count_99 : decode cX12_count 99 = .ok (.aload_n 0, 1) := by decide +kernel
theorem dX12_count_100 : decode cX12_count 100 = .ok (.getfield 7, 3) := by decide +kernel
theorem dX12_count_103 : decode cX12_count 103 = .ok (.iconst 1, 1) := by decide +kernel
theorem dX12_count_104 : decode cX12_count 104 = .ok (.iload_n 1, 1) := by decide +kernel
theorem dX12_count_105 : decode cX12_count 105 = .ok (.iadd, 1) := by decide +kernel
theorem dX12_count_106 : decode cX12_count 106 = .ok (.iconst 2, 1) := by decide +kernel
theorem dX12_count_107 : decode cX12_count 107 = .ok (.isub, 1) := by decide +kernel
theorem dX12_count_108 : decode cX12_count 108 = .ok (.iaload, 1) := by decide +kernel
theorem dX12_count_109 : decode cX12_count 109 = .ok (.ireturn, 1) := by decide +kernel
theorem dX12_count_110 : decode cX12_count 110 = .ok (.aload_n 0, 1) := by decide +kernel
theorem dX12_count_111 : decode cX12_count 111 = .ok (.invokevirtual 208, 3) := by decide +kernel
theorem dX12_count_114 : decode cX12_count 114 = .ok (.ireturn, 1) := by decide +kernel
theorem dX12_count_115 : decode cX12_count 115 = .ok (.aload_n 0, 1) := by decide +kernel
theorem dX12_count_116 : decode cX12_count 116 = .ok (.invokevirtual 145, 3) := by decide +kernel
theorem dX12_count_119 : decode cX12_count 119 = .ok (.ireturn, 1) := by decide +kernel
theorem dX12_count_120 : decode cX12_count 120 = .ok (.aload_n 0, 1) := by decide +kernel
theorem dX12_count_121 : decode cX12_count 121 = .ok (.getfield 7, 3) := by decide +kernel
theorem dX12_count_124 : decode cX12_count 124 = .ok (.bipush 32, 2) := by decide +kernel
theorem dX12_count_126 : decode cX12_count 126 = .ok (.iaload, 1) := by decide +kernel
theorem dX12_count_127 : decode cX12_count 127 = .ok (.ireturn, 1) := by decide +kernel
theorem dX12_count_128 : decode cX12_count 128 = .ok (.aload_n 0, 1) := by decide +kernel
theorem dX12_count_129 : decode cX12_count 129 = .ok (.getfield 7, 3) := by decide +kernel
theorem dX12_count_132 : decode cX12_count 132 = .ok (.bipush 33, 2) := by decide +kernel
theorem dX12_count_134 : decode cX12_count 134 = .ok (.iaload, 1) := by decide +kernel
theorem dX12_count_135 : decode cX12_count 135 = .ok (.ireturn, 1) := by decide +kernel
theorem dX12_count_136 : decode cX12_count 136 = .ok (.aload_n 0, 1) := by decide +kernel
theorem dX12_count_137 : decode cX12_count 137 = .ok (.getfield 137, 3) := by decide +kernel
theorem dX12_count_140 : decode cX12_count 140 = .ok (.ireturn, 1) := by decide +kernel
theorem dX12_count_141 : decode cX12_count 141 = .ok (.aload_n 0, 1) := by decide +kernel
theorem dX12_count_142 : decode cX12_count 142 = .ok (.getfield 7, 3) := by decide +kernel
theorem dX12_count_145 : decode cX12_count 145 = .ok (.sipush 133, 3) := by decide +kernel
theorem dX12_count_148 : decode cX12_count 148 = .ok (.iaload, 1) := by decide +kernel
theorem dX12_count_149 : decode cX12_count 149 = .ok (.ireturn, 1) := by decide +kernel
theorem dX12_count_150 : decode cX12_count 150 = .ok (.aload_n 0, 1) := by decide +kernel
theorem dX12_count_151 : decode cX12_count 151 = .ok (.getfield 7, 3) := by decide +kernel
theorem dX12_count_154 : decode cX12_count 154 = .ok (.bipush 21, 2) := by decide +kernel
theorem dX12_count_156 : decode cX12_count 156 = .ok (.iaload, 1) := by decide +kernel
theorem dX12_count_157 : decode cX12_count 157 = .ok (.ireturn, 1) := by decide +kernel
theorem dX12_count_158 : decode cX12_count 158 = .ok (.sipush (-1000), 3) := by decide +kernel
theorem dX12_count_161 : decode cX12_count 161 = .ok (.ireturn, 1) := by decide +kernel
set_option maxRecDepth 20000 in
theorem ggX12_role_X12_in : GoodIn wsX12_role wsX12_in := gi_e e_wsX12_role e_wsX12_in (by decide +kernel)
set_option maxRecDepth 20000 in
theorem gX12_role_X12_in : GoodIn wsX12_role (va_wsS RX12 72 yX12_in wsX12_in) := goodIn_app (gi_e e_wsX12_role (ce fw_5342 (ce fw_5343 (ce fw_1038 (cn)))) (by decide +kernel)) ggX12_role_X12_in
set_option maxRecDepth 20000 in
theorem ggX12_role_X12_roleAt : GoodIn wsX12_role wsX12_roleAt := gi_e e_wsX12_role e_wsX12_roleAt (by decide +kernel)
set_option maxRecDepth 20000 in
theorem gX12_role_X12_roleAt : GoodIn wsX12_role (wsV RX12 43 RX12 yX12_roleAt wsX12_roleAt) := goodIn_app (gi_e e_wsX12_role (ce fw_6181 (ce fw_6183 (ce fw_43 (ce fw_1038 (cn))))) (by decide +kernel)) ggX12_role_X12_roleAt
theorem dX12_role_0 : decode cX12_role 0 = .ok (.aload_n 0, 1) := by decide +kernel
theorem dX12_role_1 : decode cX12_role 1 = .ok (.iload_n 1, 1) := by decide +kernel
theorem dX12_role_2 : decode cX12_role 2 = .ok (.iconst 0, 1) := by decide +kernel
theorem dX12_role_3 : decode cX12_role 3 = .ok (.aload_n 0, 1) := by decide +kernel
theorem dX12_role_4 : decode cX12_role 4 = .ok (.getfield 7, 3) := by decide +kernel
theorem dX12_role_7 : decode cX12_role 7 = .ok (.bipush 8, 2) := by decide +kernel
theorem dX12_role_9 : decode cX12_role 9 = .ok (.iaload, 1) := by decide +kernel
theorem dX12_role_10 : decode cX12_role 10 = .ok (.iconst 1, 1) := by decide +kernel
theorem dX12_role_11 : decode cX12_role 11 = .ok (.isub, 1) := by decide +kernel
theorem dX12_role_12 : decode cX12_role 12 = .ok (.invokestatic 72, 3) := by decide +kernel
theorem dX12_role_15 : decode cX12_role 15 = .ok (.ifCond .eq 7, 3) := by decide +kernel
theorem dX12_role_18 : decode cX12_role 18 = .ok (.iconst 0, 1) := by decide +kernel
theorem dX12_role_19 : decode cX12_role 19 = .ok (.goto 4, 3) := by decide +kernel
theorem dX12_role_22 : decode cX12_role 22 = .ok (.iconst 1, 1) := by decide +kernel
theorem dX12_role_23 : decode cX12_role 23 = .ok (.putfield 39, 3) := by decide +kernel
theorem dX12_role_26 : decode cX12_role 26 = .ok (.aload_n 0, 1) := by decide +kernel
theorem dX12_role_27 : decode cX12_role 27 = .ok (.getfield 39, 3) := by decide +kernel
theorem dX12_role_30 : decode cX12_role 30 = .ok (.ifCond .le 7, 3) := by decide +kernel
theorem dX12_role_33 : decode cX12_role 33 = .ok (.iconst 0, 1) := by decide +kernel
theorem dX12_role_34 : decode cX12_role 34 = .ok (.goto 8, 3) := by decide +kernel
theorem dX12_role_37 : decode cX12_role 37 = .ok (.aload_n 0, 1) := by decide +kernel
theorem dX12_role_38 : decode cX12_role 38 = .ok (.iload_n 1, 1) := by decide +kernel
theorem dX12_role_39 : decode cX12_role 39 = .ok (.invokevirtual 43, 3) := by decide +kernel
theorem dX12_role_42 : decode cX12_role 42 = .ok (.ireturn, 1) := by decide +kernel
set_option maxRecDepth 20000 in
theorem ggX12_bit_X12_in : GoodIn wsX12_bit wsX12_in := gi_e e_wsX12_bit e_wsX12_in (by decide +kernel)
set_option maxRecDepth 20000 in
theorem gX12_bit_X12_in : GoodIn wsX12_bit (va_wsS RX12 72 yX12_in wsX12_in) := goodIn_app (gi_e e_wsX12_bit (ce fw_5342 (ce fw_5343 (ce fw_1038 (cn)))) (by decide +kernel)) ggX12_bit_X12_in
theorem dX12_bit_0 : decode cX12_bit 0 = .ok (.aload_n 0, 1) := by decide +kernel
theorem dX12_bit_1 : decode cX12_bit 1 = .ok (.iconst 0, 1) := by decide +kernel
theorem dX12_bit_2 : decode cX12_bit 2 = .ok (.putfield 39, 3) := by decide +kernel
theorem dX12_bit_5 : decode cX12_bit 5 = .ok (.iload_n 1, 1) := by decide +kernel
theorem dX12_bit_6 : decode cX12_bit 6 = .ok (.iconst 0, 1) := by decide +kernel
theorem dX12_bit_7 : decode cX12_bit 7 = .ok (.aload_n 0, 1) := by decide +kernel
theorem dX12_bit_8 : decode cX12_bit 8 = .ok (.getfield 7, 3) := by decide +kernel
theorem dX12_bit_11 : decode cX12_bit 11 = .ok (.bipush 32, 2) := by decide +kernel
theorem dX12_bit_13 : decode cX12_bit 13 = .ok (.iaload, 1) := by decide +kernel
theorem dX12_bit_14 : decode cX12_bit 14 = .ok (.iconst 1, 1) := by decide +kernel
theorem dX12_bit_15 : decode cX12_bit 15 = .ok (.isub, 1) := by decide +kernel
theorem dX12_bit_16 : decode cX12_bit 16 = .ok (.invokestatic 72, 3) := by decide +kernel
theorem dX12_bit_19 : decode cX12_bit 19 = .ok (.ifCond .eq 12, 3) := by decide +kernel
theorem dX12_bit_22 : decode cX12_bit 22 = .ok (.aload_n 0, 1) := by decide +kernel
theorem dX12_bit_23 : decode cX12_bit 23 = .ok (.getfield 13, 3) := by decide +kernel
theorem dX12_bit_26 : decode cX12_bit 26 = .ok (.iload_n 1, 1) := by decide +kernel
theorem dX12_bit_27 : decode cX12_bit 27 = .ok (.baload, 1) := by decide +kernel
theorem dX12_bit_28 : decode cX12_bit 28 = .ok (.goto 4, 3) := by decide +kernel
theorem dX12_bit_31 : decode cX12_bit 31 = .ok (.iconst (-1), 1) := by decide +kernel
theorem dX12_bit_32 : decode cX12_bit 32 = .ok (.ireturn, 1) := by decide +kernel
set_option maxRecDepth 20000 in
theorem ggX12_told_X12_leftMany : GoodIn wsX12_told wsX12_leftMany := gi_e e_wsX12_told e_wsX12_leftMany (by decide +kernel)
set_option maxRecDepth 20000 in
theorem gX12_told_X12_leftMany : GoodIn wsX12_told (wsV RX12 180 RX12 yX12_leftMany wsX12_leftMany) := goodIn_app (gi_e e_wsX12_told (ce fw_6258 (ce fw_6260 (ce fw_56 (ce fw_1038 (cn))))) (by decide +kernel)) ggX12_told_X12_leftMany
set_option maxRecDepth 20000 in
theorem ggX12_told_X12_ones : GoodIn wsX12_told wsX12_ones := gi_e e_wsX12_told e_wsX12_ones (by decide +kernel)
set_option maxRecDepth 20000 in
theorem gX12_told_X12_ones : GoodIn wsX12_told (va_wsS RX12 168 yX12_ones wsX12_ones) := goodIn_app (gi_e e_wsX12_told (ce fw_6262 (ce fw_6263 (ce fw_1038 (cn)))) (by decide +kernel)) ggX12_told_X12_ones
theorem dX12_told_0 : decode cX12_told 0 = .ok (.aload_n 0, 1) := by decide +kernel
theorem dX12_told_1 : decode cX12_told 1 = .ok (.getfield 7, 3) := by decide +kernel
theorem dX12_told_4 : decode cX12_told 4 = .ok (.bipush 34, 2) := by decide +kernel
theorem dX12_told_6 : decode cX12_told 6 = .ok (.iaload, 1) := by decide +kernel
theorem dX12_told_7 : decode cX12_told 7 = .ok (.ifCond .ne 7, 3) := by decide +kernel
theorem dX12_told_10 : decode cX12_told 10 = .ok (.iconst 1, 1) := by decide +kernel
theorem dX12_told_11 : decode cX12_told 11 = .ok (.goto 4, 3) := by decide +kernel
theorem dX12_told_14 : decode cX12_told 14 = .ok (.iconst 0, 1) := by decide +kernel
theorem dX12_told_15 : decode cX12_told 15 = .ok (.istore_n 2, 1) := by decide +kernel
theorem dX12_told_16 : decode cX12_told 16 = .ok (.iload_n 1, 1) := by decide +kernel
theorem dX12_told_17 : decode cX12_told 17 = .ok (.tableswitch 134 0 8 #[51, 59, 72, 72, 72, 72, 84, 100, 108], 51) := by decide +kernel
theorem dX12_told_68 : decode cX12_told 68 = .ok (.aload_n 0, 1) := by decide +kernel
theorem dX12_told_69 : decode cX12_told 69 = .ok (.getfield 7, 3) := by decide +kernel
theorem dX12_told_72 : decode cX12_told 72 = .ok (.bipush 34, 2) := by decide +kernel
theorem dX12_told_74 : decode cX12_told 74 = .ok (.iaload, 1) := by decide +kernel
theorem dX12_told_75 : decode cX12_told 75 = .ok (.ireturn, 1) := by decide +kernel
theorem dX12_told_76 : decode cX12_told 76 = .ok (.iload_n 2, 1) := by decide +kernel
theorem dX12_told_77 : decode cX12_told 77 = .ok (.ifCond .eq 10, 3) := by decide +kernel
theorem dX12_told_80 : decode cX12_told 80 = .ok (.aload_n 0, 1) := by decide +kernel
theorem dX12_told_81 : decode cX12_told 81 = .ok (.invokevirtual 180, 3) := by decide +kernel
theorem dX12_told_84 : decode cX12_told 84 = .ok (.goto 4, 3) := by decide +kernel
theorem dX12_told_87 : decode cX12_told 87 = .ok (.iconst 1, 1) := by decide +kernel
theorem dX12_told_88 : decode cX12_told 88 = .ok (.ireturn, 1) := by decide +kernel
theorem dX12_told_89 : decode cX12_told 89 = .ok (.aload_n 0, 1) := by decide +kernel
theorem dX12_told_90 : decode cX12_told 90 = .ok (.getfield 7, 3) := by decide +kernel
theorem dX12_told_93 : decode cX12_told 93 = .ok (.bipush 35, 2) := by decide +kernel
theorem dX12_told_95 : decode cX12_told 95 = .ok (.iload_n 1, 1) := by decide +kernel
theorem dX12_told_96 : decode cX12_told 96 = .ok (.iadd, 1) := by decide +kernel
theorem dX12_told_97 : decode cX12_told 97 = .ok (.iconst 2, 1) := by decide +kernel
theorem dX12_told_98 : decode cX12_told 98 = .ok (.isub, 1) := by decide +kernel
theorem dX12_told_99 : decode cX12_told 99 = .ok (.iaload, 1) := by decide +kernel
theorem dX12_told_100 : decode cX12_told 100 = .ok (.ireturn, 1) := by decide +kernel
theorem dX12_told_101 : decode cX12_told 101 = .ok (.iload_n 2, 1) := by decide +kernel
theorem dX12_told_102 : decode cX12_told 102 = .ok (.ifCond .eq 7, 3) := by decide +kernel
theorem dX12_told_105 : decode cX12_told 105 = .ok (.iconst (-1), 1) := by decide +kernel
theorem dX12_told_106 : decode cX12_told 106 = .ok (.goto 10, 3) := by decide +kernel
theorem dX12_told_109 : decode cX12_told 109 = .ok (.aload_n 0, 1) := by decide +kernel
theorem dX12_told_110 : decode cX12_told 110 = .ok (.getfield 7, 3) := by decide +kernel
theorem dX12_told_113 : decode cX12_told 113 = .ok (.bipush 39, 2) := by decide +kernel
theorem dX12_told_115 : decode cX12_told 115 = .ok (.iaload, 1) := by decide +kernel
theorem dX12_told_116 : decode cX12_told 116 = .ok (.ireturn, 1) := by decide +kernel
theorem dX12_told_117 : decode cX12_told 117 = .ok (.aload_n 0, 1) := by decide +kernel
theorem dX12_told_118 : decode cX12_told 118 = .ok (.getfield 7, 3) := by decide +kernel
theorem dX12_told_121 : decode cX12_told 121 = .ok (.bipush 40, 2) := by decide +kernel
theorem dX12_told_123 : decode cX12_told 123 = .ok (.iaload, 1) := by decide +kernel
theorem dX12_told_124 : decode cX12_told 124 = .ok (.ireturn, 1) := by decide +kernel
theorem dX12_told_125 : decode cX12_told 125 = .ok (.aload_n 0, 1) := by decide +kernel
theorem dX12_told_126 : decode cX12_told 126 = .ok (.getfield 7, 3) := by decide +kernel
theorem dX12_told_129 : decode cX12_told 129 = .ok (.bipush 34, 2) := by decide +kernel
theorem dX12_told_131 : decode cX12_told 131 = .ok (.iaload, 1) := by decide +kernel
theorem dX12_told_132 : decode cX12_told 132 = .ok (.iconst 2, 1) := by decide +kernel
theorem dX12_told_133 : decode cX12_told 133 = .ok (.if_icmp .ne 16, 3) := by decide +kernel
theorem dX12_told_136 : decode cX12_told 136 = .ok (.aload_n 0, 1) := by decide +kernel
theorem dX12_told_137 : decode cX12_told 137 = .ok (.getfield 7, 3) := by decide +kernel
theorem dX12_told_140 : decode cX12_told 140 = .ok (.bipush 41, 2) := by decide +kernel
theorem dX12_told_142 : decode cX12_told 142 = .ok (.iaload, 1) := by decide +kernel
theorem dX12_told_143 : decode cX12_told 143 = .ok (.invokestatic 168, 3) := by decide +kernel
theorem dX12_told_146 : decode cX12_told 146 = .ok (.goto 4, 3) := by decide +kernel
theorem dX12_told_149 : decode cX12_told 149 = .ok (.iconst 0, 1) := by decide +kernel
theorem dX12_told_150 : decode cX12_told 150 = .ok (.ireturn, 1) := by decide +kernel
theorem dX12_told_151 : decode cX12_told 151 = .ok (.aload_n 0, 1) := by decide +kernel
theorem dX12_told_152 : decode cX12_told 152 = .ok (.getfield 7, 3) := by decide +kernel
theorem dX12_told_155 : decode cX12_told 155 = .ok (.bipush 43, 2) := by decide +kernel
theorem dX12_told_157 : decode cX12_told 157 = .ok (.iload_n 1, 1) := by decide +kernel
theorem dX12_told_158 : decode cX12_told 158 = .ok (.iadd, 1) := by decide +kernel
theorem dX12_told_159 : decode cX12_told 159 = .ok (.bipush 9, 2) := by decide +kernel
theorem dX12_told_161 : decode cX12_told 161 = .ok (.isub, 1) := by decide +kernel
theorem dX12_told_162 : decode cX12_told 162 = .ok (.iaload, 1) := by decide +kernel
theorem dX12_told_163 : decode cX12_told 163 = .ok (.ireturn, 1) := by decide +kernel
set_option maxRecDepth 20000 in
theorem ggX12_receiver_X12_in : GoodIn wsX12_receiver wsX12_in := gi_e e_wsX12_receiver e_wsX12_in (by decide +kernel)
set_option maxRecDepth 20000 in
theorem gX12_receiver_X12_in : GoodIn wsX12_receiver (va_wsS RX12 72 yX12_in wsX12_in) := goodIn_app (gi_e e_wsX12_receiver (ce fw_5342 (ce fw_5343 (ce fw_1038 (cn)))) (by decide +kernel)) ggX12_receiver_X12_in
set_option maxRecDepth 20000 in
theorem ggX12_receiver_X12_told : GoodIn wsX12_receiver wsX12_told := gi_e e_wsX12_receiver e_wsX12_told (by decide +kernel)
set_option maxRecDepth 20000 in
theorem gX12_receiver_X12_told : GoodIn wsX12_receiver (wsV RX12 235 RX12 yX12_told wsX12_told) := goodIn_app (gi_e e_wsX12_receiver (ce fw_6337 (ce fw_6339 (ce fw_70 (ce fw_1038 (cn))))) (by decide +kernel)) ggX12_receiver_X12_told
theorem dX12_receiver_0 : decode cX12_receiver 0 = .ok (.aload_n 0, 1) := by decide +kernel
theorem dX12_receiver_1 : decode cX12_receiver 1 = .ok (.iconst 0, 1) := by decide +kernel
theorem dX12_receiver_2 : decode cX12_receiver 2 = .ok (.putfield 39, 3) := by decide +kernel
theorem dX12_receiver_5 : decode cX12_receiver 5 = .ok (.iload_n 1, 1) := by decide +kernel
theorem dX12_receiver_6 : decode cX12_receiver 6 = .ok (.iconst 0, 1) := by decide +kernel
theorem dX12_receiver_7 : decode cX12_receiver 7 = .ok (.bipush 17, 2) := by decide +kernel
theorem dX12_receiver_9 : decode cX12_receiver 9 = .ok (.invokestatic 72, 3) := by decide +kernel
theorem dX12_receiver_12 : decode cX12_receiver 12 = .ok (.ifCond .eq 11, 3) := by decide +kernel
theorem dX12_receiver_15 : decode cX12_receiver 15 = .ok (.aload_n 0, 1) := by decide +kernel
theorem dX12_receiver_16 : decode cX12_receiver 16 = .ok (.iload_n 1, 1) := by decide +kernel
theorem dX12_receiver_17 : decode cX12_receiver 17 = .ok (.invokevirtual 235, 3) := by decide +kernel
theorem dX12_receiver_20 : decode cX12_receiver 20 = .ok (.goto 4, 3) := by decide +kernel
theorem dX12_receiver_23 : decode cX12_receiver 23 = .ok (.iconst (-1), 1) := by decide +kernel
theorem dX12_receiver_24 : decode cX12_receiver 24 = .ok (.ireturn, 1) := by decide +kernel
set_option maxRecDepth 20000 in
theorem ggX12_candidate_X12_leftAt : GoodIn wsX12_candidate wsX12_leftAt := gi_e e_wsX12_candidate e_wsX12_leftAt (by decide +kernel)
set_option maxRecDepth 20000 in
theorem gX12_candidate_X12_leftAt : GoodIn wsX12_candidate (wsV RX12 183 RX12 yX12_leftAt wsX12_leftAt) := goodIn_app (gi_e e_wsX12_candidate (ce fw_6265 (ce fw_6267 (ce fw_57 (ce fw_1038 (cn))))) (by decide +kernel)) ggX12_candidate_X12_leftAt
theorem dX12_candidate_0 : decode cX12_candidate 0 = .ok (.aload_n 0, 1) := by decide +kernel
theorem dX12_candidate_1 : decode cX12_candidate 1 = .ok (.iconst 0, 1) := by decide +kernel
theorem dX12_candidate_2 : decode cX12_candidate 2 = .ok (.putfield 39, 3) := by decide +kernel
theorem dX12_candidate_5 : decode cX12_candidate 5 = .ok (.aload_n 0, 1) := by decide +kernel
theorem dX12_candidate_6 : decode cX12_candidate 6 = .ok (.getfield 7, 3) := by decide +kernel
theorem dX12_candidate_9 : decode cX12_candidate 9 = .ok (.bipush 34, 2) := by decide +kernel
theorem dX12_candidate_11 : decode cX12_candidate 11 = .ok (.iaload, 1) := by decide +kernel
theorem dX12_candidate_12 : decode cX12_candidate 12 = .ok (.ifCond .ne 11, 3) := by decide +kernel
theorem dX12_candidate_15 : decode cX12_candidate 15 = .ok (.aload_n 0, 1) := by decide +kernel
theorem dX12_candidate_16 : decode cX12_candidate 16 = .ok (.iload_n 1, 1) := by decide +kernel
theorem dX12_candidate_17 : decode cX12_candidate 17 = .ok (.invokevirtual 183, 3) := by decide +kernel
theorem dX12_candidate_20 : decode cX12_candidate 20 = .ok (.goto 4, 3) := by decide +kernel
theorem dX12_candidate_23 : decode cX12_candidate 23 = .ok (.iconst (-1), 1) := by decide +kernel
theorem dX12_candidate_24 : decode cX12_candidate 24 = .ok (.ireturn, 1) := by decide +kernel
set_option maxRecDepth 20000 in
theorem ggX12_channelBits_X12_bitOf : GoodIn wsX12_channelBits wsX12_bitOf := gi_e e_wsX12_channelBits e_wsX12_bitOf (by decide +kernel)
set_option maxRecDepth 20000 in
theorem gX12_channelBits_X12_bitOf : GoodIn wsX12_channelBits (wsV RX12 211 RX12 yX12_bitOf wsX12_bitOf) := goodIn_app (gi_e e_wsX12_channelBits (ce fw_6313 (ce fw_6315 (ce fw_69 (ce fw_1038 (cn))))) (by decide +kernel)) ggX12_channelBits_X12_bitOf
theorem dX12_channelBits_0 : decode cX12_channelBits 0 = .ok (.iconst 0, 1) := by decide +kernel
theorem dX12_channelBits_1 : decode cX12_channelBits 1 = .ok (.istore_n 2, 1) := by decide +kernel
theorem dX12_channelBits_2 : decode cX12_channelBits 2 = .ok (.iconst 1, 1) := by decide +kernel
theorem dX12_channelBits_3 : decode cX12_channelBits 3 = .ok (.istore_n 3, 1) := by decide +kernel
theorem dX12_channelBits_4 : decode cX12_channelBits 4 = .ok (.iload_n 3, 1) := by decide +kernel
theorem dX12_channelBits_5 : decode cX12_channelBits 5 = .ok (.aload_n 0, 1) := by decide +kernel
theorem dX12_channelBits_6 : decode cX12_channelBits 6 = .ok (.getfield 7, 3) := by decide +kernel
theorem dX12_channelBits_9 : decode cX12_channelBits 9 = .ok (.iconst 2, 1) := by decide +kernel
theorem dX12_channelBits_10 : decode cX12_channelBits 10 = .ok (.iaload, 1) := by decide +kernel
theorem dX12_channelBits_11 : decode cX12_channelBits 11 = .ok (.if_icmp .gt 35, 3) := by decide +kernel
theorem dX12_channelBits_14 : decode cX12_channelBits 14 = .ok (.iload_n 2, 1) := by decide +kernel
theorem dX12_channelBits_15 : decode cX12_channelBits 15 = .ok (.iconst 1, 1) := by decide +kernel
theorem dX12_channelBits_16 : decode cX12_channelBits 16 = .ok (.ishl, 1) := by decide +kernel
theorem dX12_channelBits_17 : decode cX12_channelBits 17 = .ok (.aload_n 0, 1) := by decide +kernel
theorem dX12_channelBits_18 : decode cX12_channelBits 18 = .ok (.aload_n 0, 1) := by decide +kernel
theorem dX12_channelBits_19 : decode cX12_channelBits 19 = .ok (.getfield 7, 3) := by decide +kernel
theorem dX12_channelBits_22 : decode cX12_channelBits 22 = .ok (.bipush 75, 2) := by decide +kernel
theorem dX12_channelBits_24 : decode cX12_channelBits 24 = .ok (.iaload, 1) := by decide +kernel
theorem dX12_channelBits_25 : decode cX12_channelBits 25 = .ok (.iload_n 1, 1) := by decide +kernel
theorem dX12_channelBits_26 : decode cX12_channelBits 26 = .ok (.aload_n 0, 1) := by decide +kernel
theorem dX12_channelBits_27 : decode cX12_channelBits 27 = .ok (.getfield 7, 3) := by decide +kernel
theorem dX12_channelBits_30 : decode cX12_channelBits 30 = .ok (.iconst 2, 1) := by decide +kernel
theorem dX12_channelBits_31 : decode cX12_channelBits 31 = .ok (.iaload, 1) := by decide +kernel
theorem dX12_channelBits_32 : decode cX12_channelBits 32 = .ok (.imul, 1) := by decide +kernel
theorem dX12_channelBits_33 : decode cX12_channelBits 33 = .ok (.iload_n 3, 1) := by decide +kernel
theorem dX12_channelBits_34 : decode cX12_channelBits 34 = .ok (.iadd, 1) := by decide +kernel
theorem dX12_channelBits_35 : decode cX12_channelBits 35 = .ok (.invokevirtual 211, 3) := by decide +kernel
theorem dX12_channelBits_38 : decode cX12_channelBits 38 = .ok (.ior, 1) := by decide +kernel
theorem dX12_channelBits_39 : decode cX12_channelBits 39 = .ok (.istore_n 2, 1) := by decide +kernel
theorem dX12_channelBits_40 : decode cX12_channelBits 40 = .ok (.iinc 3 1, 3) := by decide +kernel
theorem dX12_channelBits_43 : decode cX12_channelBits 43 = .ok (.goto (-39), 3) := by decide +kernel
theorem dX12_channelBits_46 : decode cX12_channelBits 46 = .ok (.iload_n 2, 1) := by decide +kernel
theorem dX12_channelBits_47 : decode cX12_channelBits 47 = .ok (.ireturn, 1) := by decide +kernel
set_option maxRecDepth 20000 in
theorem ggX12_frame_X12_channels : GoodIn wsX12_frame wsX12_channels := gi_e e_wsX12_frame e_wsX12_channels (by decide +kernel)
set_option maxRecDepth 20000 in
theorem gX12_frame_X12_channels : GoodIn wsX12_frame (wsV RX12 208 RX12 yX12_channels wsX12_channels) := goodIn_app (gi_e e_wsX12_frame (ce fw_6309 (ce fw_6311 (ce fw_68 (ce fw_1038 (cn))))) (by decide +kernel)) ggX12_frame_X12_channels
set_option maxRecDepth 20000 in
theorem ggX12_frame_X12_in : GoodIn wsX12_frame wsX12_in := gi_e e_wsX12_frame e_wsX12_in (by decide +kernel)
set_option maxRecDepth 20000 in
theorem gX12_frame_X12_in : GoodIn wsX12_frame (va_wsS RX12 72 yX12_in wsX12_in) := goodIn_app (gi_e e_wsX12_frame (ce fw_5342 (ce fw_5343 (ce fw_1038 (cn)))) (by decide +kernel)) ggX12_frame_X12_in
set_option maxRecDepth 20000 in
theorem ggX12_frame_X12_channelBits : GoodIn wsX12_frame wsX12_channelBits := gi_e e_wsX12_frame e_wsX12_channelBits (by decide +kernel)
set_option maxRecDepth 20000 in
theorem gX12_frame_X12_channelBits : GoodIn wsX12_frame (wsV RX12 237 RX12 yX12_channelBits wsX12_channelBits) := goodIn_app (gi_e e_wsX12_frame (ce fw_6349 (ce fw_6351 (ce fw_71 (ce fw_1038 (cn))))) (by decide +kernel)) ggX12_frame_X12_channelBits
set_option maxRecDepth 20000 in
theorem ggX12_frame_X12_ones : GoodIn wsX12_frame wsX12_ones := gi_e e_wsX12_frame e_wsX12_ones (by decide +kernel)
set_option maxRecDepth 20000 in
theorem gX12_frame_X12_ones : GoodIn wsX12_frame (va_wsS RX12 168 yX12_ones wsX12_ones) := goodIn_app (gi_e e_wsX12_frame (ce fw_6262 (ce fw_6263 (ce fw_1038 (cn)))) (by decide +kernel)) ggX12_frame_X12_ones
theorem dX12_frame_0 : decode cX12_frame 0 = .ok (.aload_n 0, 1) := by decide +kernel
theorem dX12_frame_1 : decode cX12_frame 1 = .ok (.iconst 0, 1) := by decide +kernel
theorem dX12_frame_2 : decode cX12_frame 2 = .ok (.putfield 39, 3) := by decide +kernel
theorem dX12_frame_5 : decode cX12_frame 5 = .ok (.aload_n 0, 1) := by decide +kernel
theorem dX12_frame_6 : decode cX12_frame 6 = .ok (.getfield 7, 3) := by decide +kernel
theorem dX12_frame_9 : decode cX12_frame 9 = .ok (.bipush 46, 2) := by decide +kernel
theorem dX12_frame_11 : decode cX12_frame 11 = .ok (.iaload, 1) := by decide +kernel
theorem dX12_frame_12 : decode cX12_frame 12 = .ok (.ifCond .ne 5, 3) := by decide +kernel
theorem dX12_frame_15 : decode cX12_frame 15 = .ok (.iconst (-1), 1) := by decide +kernel
theorem dX12_frame_16 : decode cX12_frame 16 = .ok (.ireturn, 1) := by decide +kernel
theorem dX12_frame_17 : decode cX12_frame 17 = .ok (.iload_n 1, 1) := by decide +kernel
theorem dX12_frame_18 : decode cX12_frame 18 = .ok (.ifCond .eq 8, 3) := by decide +kernel
theorem dX12_frame_21 : decode cX12_frame 21 = .ok (.iload_n 1, 1) := by decide +kernel
theorem dX12_frame_22 : decode cX12_frame 22 = .ok (.iconst 1, 1) := by decide +kernel
theorem dX12_frame_23 : decode cX12_frame 23 = .ok (.if_icmp .ne 13, 3) := by decide +kernel
theorem dX12_frame_26 : decode cX12_frame 26 = .ok (.aload_n 0, 1) := by decide +kernel
theorem dX12_frame_27 : decode cX12_frame 27 = .ok (.getfield 7, 3) := by decide +kernel
theorem dX12_frame_30 : decode cX12_frame 30 = .ok (.bipush 76, 2) := by decide +kernel
theorem dX12_frame_32 : decode cX12_frame 32 = .ok (.iload_n 1, 1) := by decide +kernel
theorem dX12_frame_33 : decode cX12_frame 33 = .ok (.iadd, 1) := by decide +kernel
theorem dX12_frame_34 : decode cX12_frame 34 = .ok (.iaload, 1) := by decide +kernel
theorem dX12_frame_35 : decode cX12_frame 35 = .ok (.ireturn, 1) := by decide +kernel
theorem dX12_frame_36 : decode cX12_frame 36 = .ok (.iload_n 1, 1) := by decide +kernel
theorem dX12_frame_37 : decode cX12_frame 37 = .ok (.iconst 2, 1) := by decide +kernel
theorem dX12_frame_38 : decode cX12_frame 38 = .ok (.if_icmp .eq 33, 3) := by decide +kernel
theorem dX12_frame_41 : decode cX12_frame 41 = .ok (.iload_n 1, 1) := by decide +kernel
theorem dX12_frame_42 : decode cX12_frame 42 = .ok (.bipush 10, 2) := by decide +kernel
theorem dX12_frame_44 : decode cX12_frame 44 = .ok (.isub, 1) := by decide +kernel
theorem dX12_frame_45 : decode cX12_frame 45 = .ok (.iconst 0, 1) := by decide +kernel
theorem dX12_frame_46 : decode cX12_frame 46 = .ok (.aload_n 0, 1) := by decide +kernel
theorem dX12_frame_47 : decode cX12_frame 47 = .ok (.invokevirtual 208, 3) := by decide +kernel
theorem dX12_frame_50 : decode cX12_frame 50 = .ok (.iconst 1, 1) := by decide +kernel
theorem dX12_frame_51 : decode cX12_frame 51 = .ok (.isub, 1) := by decide +kernel
theorem dX12_frame_52 : decode cX12_frame 52 = .ok (.invokestatic 72, 3) := by decide +kernel
theorem dX12_frame_55 : decode cX12_frame 55 = .ok (.ifCond .eq 14, 3) := by decide +kernel
theorem dX12_frame_58 : decode cX12_frame 58 = .ok (.aload_n 0, 1) := by decide +kernel
theorem dX12_frame_59 : decode cX12_frame 59 = .ok (.iload_n 1, 1) := by decide +kernel
theorem dX12_frame_60 : decode cX12_frame 60 = .ok (.bipush 10, 2) := by decide +kernel
theorem dX12_frame_62 : decode cX12_frame 62 = .ok (.isub, 1) := by decide +kernel
theorem dX12_frame_63 : decode cX12_frame 63 = .ok (.invokevirtual 237, 3) := by decide +kernel
theorem dX12_frame_66 : decode cX12_frame 66 = .ok (.goto 4, 3) := by decide +kernel
theorem dX12_frame_69 : decode cX12_frame 69 = .ok (.iconst (-1), 1) := by decide +kernel
theorem dX12_frame_70 : decode cX12_frame 70 = .ok (.ireturn, 1) := by decide +kernel
theorem dX12_frame_71 : decode cX12_frame 71 = .ok (.iconst 0, 1) := by decide +kernel
theorem dX12_frame_72 : decode cX12_frame 72 = .ok (.istore_n 2, 1) := by decide +kernel
theorem dX12_frame_73 : decode cX12_frame 73 = .ok (.iconst 0, 1) := by decide +kernel
theorem dX12_frame_74 : decode cX12_frame 74 = .ok (.istore_n 3, 1) := by decide +kernel
theorem dX12_frame_75 : decode cX12_frame 75 = .ok (.iload_n 3, 1) := by decide +kernel
theorem dX12_frame_76 : decode cX12_frame 76 = .ok (.aload_n 0, 1) := by decide +kernel
theorem dX12_frame_77 : decode cX12_frame 77 = .ok (.invokevirtual 208, 3) := by decide +kernel
theorem dX12_frame_80 : decode cX12_frame 80 = .ok (.if_icmp .ge 20, 3) := by decide +kernel
theorem dX12_frame_83 : decode cX12_frame 83 = .ok (.iload_n 2, 1) := by decide +kernel
theorem dX12_frame_84 : decode cX12_frame 84 = .ok (.aload_n 0, 1) := by decide +kernel
theorem dX12_frame_85 : decode cX12_frame 85 = .ok (.iload_n 3, 1) := by decide +kernel
theorem dX12_frame_86 : decode cX12_frame 86 = .ok (.invokevirtual 237, 3) := by decide +kernel
theorem dX12_frame_89 : decode cX12_frame 89 = .ok (.invokestatic 168, 3) := by decide +kernel
theorem dX12_frame_92 : decode cX12_frame 92 = .ok (.iadd, 1) := by decide +kernel
theorem dX12_frame_93 : decode cX12_frame 93 = .ok (.istore_n 2, 1) := by decide +kernel
theorem dX12_frame_94 : decode cX12_frame 94 = .ok (.iinc 3 1, 3) := by decide +kernel
theorem dX12_frame_97 : decode cX12_frame 97 = .ok (.goto (-22), 3) := by decide +kernel
theorem dX12_frame_100 : decode cX12_frame 100 = .ok (.iload_n 2, 1) := by decide +kernel
theorem dX12_frame_101 : decode cX12_frame 101 = .ok (.ireturn, 1) := by decide +kernel
set_option maxRecDepth 20000 in
theorem ggX12_signal_X12_channels : GoodIn wsX12_signal wsX12_channels := gi_e e_wsX12_signal e_wsX12_channels (by decide +kernel)
set_option maxRecDepth 20000 in
theorem gX12_signal_X12_channels : GoodIn wsX12_signal (wsV RX12 208 RX12 yX12_channels wsX12_channels) := goodIn_app (gi_e e_wsX12_signal (ce fw_6309 (ce fw_6311 (ce fw_68 (ce fw_1038 (cn))))) (by decide +kernel)) ggX12_signal_X12_channels
set_option maxRecDepth 20000 in
theorem ggX12_signal_X12_in : GoodIn wsX12_signal wsX12_in := gi_e e_wsX12_signal e_wsX12_in (by decide +kernel)
set_option maxRecDepth 20000 in
theorem gX12_signal_X12_in : GoodIn wsX12_signal (va_wsS RX12 72 yX12_in wsX12_in) := goodIn_app (gi_e e_wsX12_signal (ce fw_5342 (ce fw_5343 (ce fw_1038 (cn)))) (by decide +kernel)) ggX12_signal_X12_in
set_option maxRecDepth 20000 in
theorem ggX12_signal_X12_ones : GoodIn wsX12_signal wsX12_ones := gi_e e_wsX12_signal e_wsX12_ones (by decide +kernel)
set_option maxRecDepth 20000 in
theorem gX12_signal_X12_ones : GoodIn wsX12_signal (va_wsS RX12 168 yX12_ones wsX12_ones) := goodIn_app (gi_e e_wsX12_signal (ce fw_6262 (ce fw_6263 (ce fw_1038 (cn)))) (by decide +kernel)) ggX12_signal_X12_ones
theorem dX12_signal_0 : decode cX12_signal 0 = .ok (.aload_n 0, 1) := by decide +kernel
theorem dX12_signal_1 : decode cX12_signal 1 = .ok (.iconst 0, 1) := by decide +kernel
theorem dX12_signal_2 : decode cX12_signal 2 = .ok (.putfield 39, 3) := by decide +kernel
theorem dX12_signal_5 : decode cX12_signal 5 = .ok (.iload_n 1, 1) := by decide +kernel
theorem dX12_signal_6 : decode cX12_signal 6 = .ok (.iconst 0, 1) := by decide +kernel
theorem dX12_signal_7 : decode cX12_signal 7 = .ok (.aload_n 0, 1) := by decide +kernel
theorem dX12_signal_8 : decode cX12_signal 8 = .ok (.invokevirtual 208, 3) := by decide +kernel
theorem dX12_signal_11 : decode cX12_signal 11 = .ok (.iconst 1, 1) := by decide +kernel
theorem dX12_signal_12 : decode cX12_signal 12 = .ok (.isub, 1) := by decide +kernel
theorem dX12_signal_13 : decode cX12_signal 13 = .ok (.invokestatic 72, 3) := by decide +kernel
theorem dX12_signal_16 : decode cX12_signal 16 = .ok (.ifCond .eq 19, 3) := by decide +kernel
theorem dX12_signal_19 : decode cX12_signal 19 = .ok (.aload_n 0, 1) := by decide +kernel
theorem dX12_signal_20 : decode cX12_signal 20 = .ok (.getfield 7, 3) := by decide +kernel
theorem dX12_signal_23 : decode cX12_signal 23 = .ok (.bipush 78, 2) := by decide +kernel
theorem dX12_signal_25 : decode cX12_signal 25 = .ok (.iconst 2, 1) := by decide +kernel
theorem dX12_signal_26 : decode cX12_signal 26 = .ok (.iload_n 1, 1) := by decide +kernel
theorem dX12_signal_27 : decode cX12_signal 27 = .ok (.imul, 1) := by decide +kernel
theorem dX12_signal_28 : decode cX12_signal 28 = .ok (.iadd, 1) := by decide +kernel
theorem dX12_signal_29 : decode cX12_signal 29 = .ok (.iconst 1, 1) := by decide +kernel
theorem dX12_signal_30 : decode cX12_signal 30 = .ok (.iadd, 1) := by decide +kernel
theorem dX12_signal_31 : decode cX12_signal 31 = .ok (.iaload, 1) := by decide +kernel
theorem dX12_signal_32 : decode cX12_signal 32 = .ok (.ifCond .ne 5, 3) := by decide +kernel
theorem dX12_signal_35 : decode cX12_signal 35 = .ok (.iconst (-1), 1) := by decide +kernel
theorem dX12_signal_36 : decode cX12_signal 36 = .ok (.ireturn, 1) := by decide +kernel
theorem dX12_signal_37 : decode cX12_signal 37 = .ok (.aload_n 0, 1) := by decide +kernel
theorem dX12_signal_38 : decode cX12_signal 38 = .ok (.getfield 7, 3) := by decide +kernel
theorem dX12_signal_41 : decode cX12_signal 41 = .ok (.bipush 78, 2) := by decide +kernel
theorem dX12_signal_43 : decode cX12_signal 43 = .ok (.iconst 2, 1) := by decide +kernel
theorem dX12_signal_44 : decode cX12_signal 44 = .ok (.iload_n 1, 1) := by decide +kernel
theorem dX12_signal_45 : decode cX12_signal 45 = .ok (.imul, 1) := by decide +kernel
theorem dX12_signal_46 : decode cX12_signal 46 = .ok (.iadd, 1) := by decide +kernel
theorem dX12_signal_47 : decode cX12_signal 47 = .ok (.iaload, 1) := by decide +kernel
theorem dX12_signal_48 : decode cX12_signal 48 = .ok (.istore_n 2, 1) := by decide +kernel
theorem dX12_signal_49 : decode cX12_signal 49 = .ok (.aload_n 0, 1) := by decide +kernel
theorem dX12_signal_50 : decode cX12_signal 50 = .ok (.getfield 7, 3) := by decide +kernel
theorem dX12_signal_53 : decode cX12_signal 53 = .ok (.bipush 78, 2) := by decide +kernel
theorem dX12_signal_55 : decode cX12_signal 55 = .ok (.iconst 2, 1) := by decide +kernel
theorem dX12_signal_56 : decode cX12_signal 56 = .ok (.iload_n 1, 1) := by decide +kernel
theorem dX12_signal_57 : decode cX12_signal 57 = .ok (.imul, 1) := by decide +kernel
theorem dX12_signal_58 : decode cX12_signal 58 = .ok (.iadd, 1) := by decide +kernel
theorem dX12_signal_59 : decode cX12_signal 59 = .ok (.iconst 1, 1) := by decide +kernel
theorem dX12_signal_60 : decode cX12_signal 60 = .ok (.iadd, 1) := by decide +kernel
theorem dX12_signal_61 : decode cX12_signal 61 = .ok (.iaload, 1) := by decide +kernel
theorem dX12_signal_62 : decode cX12_signal 62 = .ok (.iconst 3, 1) := by decide +kernel
theorem dX12_signal_63 : decode cX12_signal 63 = .ok (.if_icmp .ge 9, 3) := by decide +kernel
theorem dX12_signal_66 : decode cX12_signal 66 = .ok (.iload_n 2, 1) := by decide +kernel
theorem dX12_signal_67 : decode cX12_signal 67 = .ok (.iconst 1, 1) := by decide +kernel
theorem dX12_signal_68 : decode cX12_signal 68 = .ok (.iand, 1) := by decide +kernel
theorem dX12_signal_69 : decode cX12_signal 69 = .ok (.goto 16, 3) := by decide +kernel
theorem dX12_signal_72 : decode cX12_signal 72 = .ok (.iload_n 2, 1) := by decide +kernel
theorem dX12_signal_73 : decode cX12_signal 73 = .ok (.invokestatic 168, 3) := by decide +kernel
theorem dX12_signal_76 : decode cX12_signal 76 = .ok (.iconst 1, 1) := by decide +kernel
theorem dX12_signal_77 : decode cX12_signal 77 = .ok (.if_icmp .le 7, 3) := by decide +kernel
theorem dX12_signal_80 : decode cX12_signal 80 = .ok (.iconst 1, 1) := by decide +kernel
theorem dX12_signal_81 : decode cX12_signal 81 = .ok (.goto 4, 3) := by decide +kernel
theorem dX12_signal_84 : decode cX12_signal 84 = .ok (.iconst 0, 1) := by decide +kernel
theorem dX12_signal_85 : decode cX12_signal 85 = .ok (.ireturn, 1) := by decide +kernel
set_option maxRecDepth 20000 in
theorem ggX12_value_X12_lesser : GoodIn wsX12_value wsX12_lesser := gi_e e_wsX12_value e_wsX12_lesser (by decide +kernel)
set_option maxRecDepth 20000 in
theorem gX12_value_X12_lesser : GoodIn wsX12_value (va_wsS RX12 103 yX12_lesser wsX12_lesser) := goodIn_app (gi_e e_wsX12_value (ce fw_6150 (ce fw_6151 (ce fw_1038 (cn)))) (by decide +kernel)) ggX12_value_X12_lesser
set_option maxRecDepth 20000 in
theorem ggX12_value_X12_in : GoodIn wsX12_value wsX12_in := gi_e e_wsX12_value e_wsX12_in (by decide +kernel)
set_option maxRecDepth 20000 in
theorem gX12_value_X12_in : GoodIn wsX12_value (va_wsS RX12 72 yX12_in wsX12_in) := goodIn_app (gi_e e_wsX12_value (ce fw_5342 (ce fw_5343 (ce fw_1038 (cn)))) (by decide +kernel)) ggX12_value_X12_in
theorem dX12_value_0 : decode cX12_value 0 = .ok (.aload_n 0, 1) := by decide +kernel
theorem dX12_value_1 : decode cX12_value 1 = .ok (.iconst 0, 1) := by decide +kernel
theorem dX12_value_2 : decode cX12_value 2 = .ok (.putfield 39, 3) := by decide +kernel
theorem dX12_value_5 : decode cX12_value 5 = .ok (.iload_n 1, 1) := by decide +kernel
theorem dX12_value_6 : decode cX12_value 6 = .ok (.iconst 0, 1) := by decide +kernel
theorem dX12_value_7 : decode cX12_value 7 = .ok (.bipush 8, 2) := by decide +kernel
theorem dX12_value_9 : decode cX12_value 9 = .ok (.aload_n 0, 1) := by decide +kernel
theorem dX12_value_10 : decode cX12_value 10 = .ok (.getfield 7, 3) := by decide +kernel
theorem dX12_value_13 : decode cX12_value 13 = .ok (.bipush 50, 2) := by decide +kernel
theorem dX12_value_15 : decode cX12_value 15 = .ok (.iaload, 1) := by decide +kernel
theorem dX12_value_16 : decode cX12_value 16 = .ok (.invokestatic 103, 3) := by decide +kernel
theorem dX12_value_19 : decode cX12_value 19 = .ok (.iconst 1, 1) := by decide +kernel
theorem dX12_value_20 : decode cX12_value 20 = .ok (.isub, 1) := by decide +kernel
theorem dX12_value_21 : decode cX12_value 21 = .ok (.invokestatic 72, 3) := by decide +kernel
theorem dX12_value_24 : decode cX12_value 24 = .ok (.ifCond .eq 15, 3) := by decide +kernel
theorem dX12_value_27 : decode cX12_value 27 = .ok (.aload_n 0, 1) := by decide +kernel
theorem dX12_value_28 : decode cX12_value 28 = .ok (.getfield 7, 3) := by decide +kernel
theorem dX12_value_31 : decode cX12_value 31 = .ok (.bipush 54, 2) := by decide +kernel
theorem dX12_value_33 : decode cX12_value 33 = .ok (.iload_n 1, 1) := by decide +kernel
theorem dX12_value_34 : decode cX12_value 34 = .ok (.iadd, 1) := by decide +kernel
theorem dX12_value_35 : decode cX12_value 35 = .ok (.iaload, 1) := by decide +kernel
theorem dX12_value_36 : decode cX12_value 36 = .ok (.goto 4, 3) := by decide +kernel
theorem dX12_value_39 : decode cX12_value 39 = .ok (.iconst (-1), 1) := by decide +kernel
theorem dX12_value_40 : decode cX12_value 40 = .ok (.ireturn, 1) := by decide +kernel
theorem dX12_copies_0 : decode cX12_copies 0 = .ok (.iconst 0, 1) := by decide +kernel
theorem dX12_copies_1 : decode cX12_copies 1 = .ok (.istore_n 3, 1) := by decide +kernel
theorem dX12_copies_2 : decode cX12_copies 2 = .ok (.iload_n 3, 1) := by decide +kernel
theorem dX12_copies_3 : decode cX12_copies 3 = .ok (.sipush 136, 3) := by decide +kernel
theorem dX12_copies_6 : decode cX12_copies 6 = .ok (.if_icmp .ge 33, 3) := by decide +kernel
theorem dX12_copies_9 : decode cX12_copies 9 = .ok (.aload_n 0, 1) := by decide +kernel
theorem dX12_copies_10 : decode cX12_copies 10 = .ok (.getfield 7, 3) := by decide +kernel
theorem dX12_copies_13 : decode cX12_copies 13 = .ok (.sipush 136, 3) := by decide +kernel
theorem dX12_copies_16 : decode cX12_copies 16 = .ok (.iload_n 2, 1) := by decide +kernel
theorem dX12_copies_17 : decode cX12_copies 17 = .ok (.imul, 1) := by decide +kernel
theorem dX12_copies_18 : decode cX12_copies 18 = .ok (.iload_n 3, 1) := by decide +kernel
theorem dX12_copies_19 : decode cX12_copies 19 = .ok (.iadd, 1) := by decide +kernel
theorem dX12_copies_20 : decode cX12_copies 20 = .ok (.aload_n 0, 1) := by decide +kernel
theorem dX12_copies_21 : decode cX12_copies 21 = .ok (.getfield 7, 3) := by decide +kernel
theorem dX12_copies_24 : decode cX12_copies 24 = .ok (.sipush 136, 3) := by decide +kernel
theorem dX12_copies_27 : decode cX12_copies 27 = .ok (.iload_n 1, 1) := by decide +kernel
theorem dX12_copies_28 : decode cX12_copies 28 = .ok (.imul, 1) := by decide +kernel
theorem dX12_copies_29 : decode cX12_copies 29 = .ok (.iload_n 3, 1) := by decide +kernel
theorem dX12_copies_30 : decode cX12_copies 30 = .ok (.iadd, 1) := by decide +kernel
theorem dX12_copies_31 : decode cX12_copies 31 = .ok (.iaload, 1) := by decide +kernel
theorem dX12_copies_32 : decode cX12_copies 32 = .ok (.iastore, 1) := by decide +kernel
theorem dX12_copies_33 : decode cX12_copies 33 = .ok (.iinc 3 1, 3) := by decide +kernel
theorem dX12_copies_36 : decode cX12_copies 36 = .ok (.goto (-34), 3) := by decide +kernel
theorem dX12_copies_39 : decode cX12_copies 39 = .ok (.return_, 1) := by decide +kernel
set_option maxRecDepth 20000 in
theorem ggX12_back_X12_copies : GoodIn wsX12_back wsX12_copies := gi_e e_wsX12_back e_wsX12_copies (by decide +kernel)
set_option maxRecDepth 20000 in
theorem gX12_back_X12_copies : GoodIn wsX12_back (wsV RX12 240 RX12 yX12_copies wsX12_copies) := goodIn_app (gi_e e_wsX12_back (ce fw_6365 (ce fw_6367 (ce fw_72 (ce fw_1038 (cn))))) (by decide +kernel)) ggX12_back_X12_copies
theorem dX12_back_0 : decode cX12_back 0 = .ok (.aload_n 0, 1) := by decide +kernel
theorem dX12_back_1 : decode cX12_back 1 = .ok (.iconst 4, 1) := by decide +kernel
theorem dX12_back_2 : decode cX12_back 2 = .ok (.iconst 0, 1) := by decide +kernel
theorem dX12_back_3 : decode cX12_back 3 = .ok (.invokevirtual 240, 3) := by decide +kernel
theorem dX12_back_6 : decode cX12_back 6 = .ok (.iload_n 1, 1) := by decide +kernel
theorem dX12_back_7 : decode cX12_back 7 = .ok (.ireturn, 1) := by decide +kernel
set_option maxRecDepth 20000 in
theorem ggX12_ahead_X12_in : GoodIn wsX12_ahead wsX12_in := gi_e e_wsX12_ahead e_wsX12_in (by decide +kernel)
set_option maxRecDepth 20000 in
theorem gX12_ahead_X12_in : GoodIn wsX12_ahead (va_wsS RX12 72 yX12_in wsX12_in) := goodIn_app (gi_e e_wsX12_ahead (ce fw_5342 (ce fw_5343 (ce fw_1038 (cn)))) (by decide +kernel)) ggX12_ahead_X12_in
set_option maxRecDepth 20000 in
theorem ggX12_ahead_X12_copies : GoodIn wsX12_ahead wsX12_copies := gi_e e_wsX12_ahead e_wsX12_copies (by decide +kernel)
set_option maxRecDepth 20000 in
theorem gX12_ahead_X12_copies : GoodIn wsX12_ahead (wsV RX12 240 RX12 yX12_copies wsX12_copies) := goodIn_app (gi_e e_wsX12_ahead (ce fw_6365 (ce fw_6367 (ce fw_72 (ce fw_1038 (cn))))) (by decide +kernel)) ggX12_ahead_X12_copies
set_option maxRecDepth 20000 in
theorem ggX12_ahead_X12_sends : GoodIn wsX12_ahead wsX12_sends := gi_e e_wsX12_ahead e_wsX12_sends (by decide +kernel)
set_option maxRecDepth 20000 in
theorem gX12_ahead_X12_sends : GoodIn wsX12_ahead (wsV RX12 229 RX12 yX12_sends wsX12_sends) := goodIn_app (gi_e e_wsX12_ahead (ce fw_6205 (ce fw_6207 (ce fw_47 (ce fw_1038 (cn))))) (by decide +kernel)) ggX12_ahead_X12_sends
set_option maxRecDepth 20000 in
theorem ggX12_ahead_X12_hears : GoodIn wsX12_ahead wsX12_hears := gi_e e_wsX12_ahead e_wsX12_hears (by decide +kernel)
set_option maxRecDepth 20000 in
theorem gX12_ahead_X12_hears : GoodIn wsX12_ahead (wsV RX12 232 RX12 yX12_hears wsX12_hears) := goodIn_app (gi_e e_wsX12_ahead (ce fw_6238 (ce fw_6240 (ce fw_51 (ce fw_1038 (cn))))) (by decide +kernel)) ggX12_ahead_X12_hears
set_option maxRecDepth 20000 in
theorem ggX12_ahead_X12_told : GoodIn wsX12_ahead wsX12_told := gi_e e_wsX12_ahead e_wsX12_told (by decide +kernel)
set_option maxRecDepth 20000 in
theorem gX12_ahead_X12_told : GoodIn wsX12_ahead (wsV RX12 235 RX12 yX12_told wsX12_told) := goodIn_app (gi_e e_wsX12_ahead (ce fw_6337 (ce fw_6339 (ce fw_70 (ce fw_1038 (cn))))) (by decide +kernel)) ggX12_ahead_X12_told
set_option maxRecDepth 20000 in
theorem ggX12_ahead_X12_back : GoodIn wsX12_ahead wsX12_back := gi_e e_wsX12_ahead e_wsX12_back (by decide +kernel)
set_option maxRecDepth 20000 in
theorem gX12_ahead_X12_back : GoodIn wsX12_ahead (wsV RX12 243 RX12 yX12_back wsX12_back) := goodIn_app (gi_e e_wsX12_ahead (ce fw_6369 (ce fw_6371 (ce fw_73 (ce fw_1038 (cn))))) (by decide +kernel)) ggX12_ahead_X12_back
theorem dX12_ahead_0 : decode cX12_ahead 0 = .ok (.aload_n 0, 1) := by decide +kernel
theorem dX12_ahead_1 : decode cX12_ahead 1 = .ok (.iconst 0, 1) := by decide +kernel
theorem dX12_ahead_2 : decode cX12_ahead 2 = .ok (.putfield 39, 3) := by decide +kernel
theorem dX12_ahead_5 : decode cX12_ahead 5 = .ok (.iload_n 1, 1) := by decide +kernel
theorem dX12_ahead_6 : decode cX12_ahead 6 = .ok (.iconst 1, 1) := by decide +kernel
theorem dX12_ahead_7 : decode cX12_ahead 7 = .ok (.bipush 8, 2) := by decide +kernel
theorem dX12_ahead_9 : decode cX12_ahead 9 = .ok (.invokestatic 72, 3) := by decide +kernel
theorem dX12_ahead_12 : decode cX12_ahead 12 = .ok (.ifCond .eq 13, 3) := by decide +kernel
theorem dX12_ahead_15 : decode cX12_ahead 15 = .ok (.iload_n 3, 1) := by decide +kernel
theorem dX12_ahead_16 : decode cX12_ahead 16 = .ok (.iconst 0, 1) := by decide +kernel
theorem dX12_ahead_17 : decode cX12_ahead 17 = .ok (.bipush 17, 2) := by decide +kernel
theorem dX12_ahead_19 : decode cX12_ahead 19 = .ok (.invokestatic 72, 3) := by decide +kernel
theorem dX12_ahead_22 : decode cX12_ahead 22 = .ok (.ifCond .ne 5, 3) := by decide +kernel
theorem dX12_ahead_25 : decode cX12_ahead 25 = .ok (.iconst (-1), 1) := by decide +kernel
theorem dX12_ahead_26 : decode cX12_ahead 26 = .ok (.ireturn, 1) := by decide +kernel
theorem dX12_ahead_27 : decode cX12_ahead 27 = .ok (.aload_n 0, 1) := by decide +kernel
theorem dX12_ahead_28 : decode cX12_ahead 28 = .ok (.iconst 0, 1) := by decide +kernel
theorem dX12_ahead_29 : decode cX12_ahead 29 = .ok (.iconst 4, 1) := by decide +kernel
theorem dX12_ahead_30 : decode cX12_ahead 30 = .ok (.invokevirtual 240, 3) := by decide +kernel
theorem dX12_ahead_33 : decode cX12_ahead 33 = .ok (.aload_n 0, 1) := by decide +kernel
theorem dX12_ahead_34 : decode cX12_ahead 34 = .ok (.iload_n 1, 1) := by decide +kernel
theorem dX12_ahead_35 : decode cX12_ahead 35 = .ok (.iload_n 2, 1) := by decide +kernel
theorem dX12_ahead_36 : decode cX12_ahead 36 = .ok (.invokevirtual 229, 3) := by decide +kernel
theorem dX12_ahead_39 : decode cX12_ahead 39 = .ok (.aload_n 0, 1) := by decide +kernel
theorem dX12_ahead_40 : decode cX12_ahead 40 = .ok (.getfield 7, 3) := by decide +kernel
theorem dX12_ahead_43 : decode cX12_ahead 43 = .ok (.bipush 33, 2) := by decide +kernel
theorem dX12_ahead_45 : decode cX12_ahead 45 = .ok (.iaload, 1) := by decide +kernel
theorem dX12_ahead_46 : decode cX12_ahead 46 = .ok (.aload_n 0, 1) := by decide +kernel
theorem dX12_ahead_47 : decode cX12_ahead 47 = .ok (.getfield 7, 3) := by decide +kernel
theorem dX12_ahead_50 : decode cX12_ahead 50 = .ok (.bipush 32, 2) := by decide +kernel
theorem dX12_ahead_52 : decode cX12_ahead 52 = .ok (.iaload, 1) := by decide +kernel
theorem dX12_ahead_53 : decode cX12_ahead 53 = .ok (.if_icmp .ge 33, 3) := by decide +kernel
theorem dX12_ahead_56 : decode cX12_ahead 56 = .ok (.aload_n 0, 1) := by decide +kernel
theorem dX12_ahead_57 : decode cX12_ahead 57 = .ok (.aload_n 0, 1) := by decide +kernel
theorem dX12_ahead_58 : decode cX12_ahead 58 = .ok (.getfield 13, 3) := by decide +kernel
theorem dX12_ahead_61 : decode cX12_ahead 61 = .ok (.aload_n 0, 1) := by decide +kernel
theorem dX12_ahead_62 : decode cX12_ahead 62 = .ok (.getfield 7, 3) := by decide +kernel
theorem dX12_ahead_65 : decode cX12_ahead 65 = .ok (.bipush 33, 2) := by decide +kernel
theorem dX12_ahead_67 : decode cX12_ahead 67 = .ok (.iaload, 1) := by decide +kernel
theorem dX12_ahead_68 : decode cX12_ahead 68 = .ok (.baload, 1) := by decide +kernel
theorem dX12_ahead_69 : decode cX12_ahead 69 = .ok (.invokevirtual 232, 3) := by decide +kernel
theorem dX12_ahead_72 : decode cX12_ahead 72 = .ok (.aload_n 0, 1) := by decide +kernel
theorem dX12_ahead_73 : decode cX12_ahead 73 = .ok (.getfield 7, 3) := by decide +kernel
theorem dX12_ahead_76 : decode cX12_ahead 76 = .ok (.bipush 33, 2) := by decide +kernel
theorem dX12_ahead_78 : decode cX12_ahead 78 = .ok (.dup2, 1) := by decide +kernel
theorem dX12_ahead_79 : decode cX12_ahead 79 = .ok (.iaload, 1) := by decide +kernel
theorem dX12_ahead_80 : decode cX12_ahead 80 = .ok (.iconst 1, 1) := by decide +kernel
theorem dX12_ahead_81 : decode cX12_ahead 81 = .ok (.iadd, 1) := by decide +kernel
theorem dX12_ahead_82 : decode cX12_ahead 82 = .ok (.iastore, 1) := by decide +kernel
theorem dX12_ahead_83 : decode cX12_ahead 83 = .ok (.goto (-44), 3) := by decide +kernel
theorem dX12_ahead_86 : decode cX12_ahead 86 = .ok (.aload_n 0, 1) := by decide +kernel
theorem dX12_ahead_87 : decode cX12_ahead 87 = .ok (.aload_n 0, 1) := by decide +kernel
theorem dX12_ahead_88 : decode cX12_ahead 88 = .ok (.iload_n 3, 1) := by decide +kernel
theorem dX12_ahead_89 : decode cX12_ahead 89 = .ok (.invokevirtual 235, 3) := by decide +kernel
theorem dX12_ahead_92 : decode cX12_ahead 92 = .ok (.invokevirtual 243, 3) := by decide +kernel
theorem dX12_ahead_95 : decode cX12_ahead 95 = .ok (.ireturn, 1) := by decide +kernel
set_option maxRecDepth 20000 in
theorem ggX12_struck_X12_in : GoodIn wsX12_struck wsX12_in := gi_e e_wsX12_struck e_wsX12_in (by decide +kernel)
set_option maxRecDepth 20000 in
theorem gX12_struck_X12_in : GoodIn wsX12_struck (va_wsS RX12 72 yX12_in wsX12_in) := goodIn_app (gi_e e_wsX12_struck (ce fw_5342 (ce fw_5343 (ce fw_1038 (cn)))) (by decide +kernel)) ggX12_struck_X12_in
set_option maxRecDepth 20000 in
theorem ggX12_struck_X12_round : GoodIn wsX12_struck wsX12_round := gi_e e_wsX12_struck e_wsX12_round (by decide +kernel)
set_option maxRecDepth 20000 in
theorem gX12_struck_X12_round : GoodIn wsX12_struck (wsV RX12 142 RX12 yX12_round wsX12_round) := goodIn_app (gi_e e_wsX12_struck (ce fw_5259 (ce fw_5261 (ce fw_32 (ce fw_1038 (cn))))) (by decide +kernel)) ggX12_struck_X12_round
set_option maxRecDepth 20000 in
theorem ggX12_struck_X12_isFixed : GoodIn wsX12_struck wsX12_isFixed := gi_e e_wsX12_struck e_wsX12_isFixed (by decide +kernel)
set_option maxRecDepth 20000 in
theorem gX12_struck_X12_isFixed : GoodIn wsX12_struck (wsV RX12 174 RX12 yX12_isFixed wsX12_isFixed) := goodIn_app (gi_e e_wsX12_struck (ce fw_6254 (ce fw_6256 (ce fw_55 (ce fw_1038 (cn))))) (by decide +kernel)) ggX12_struck_X12_isFixed
set_option maxRecDepth 20000 in
theorem ggX12_struck_X12_roleOf : GoodIn wsX12_struck wsX12_roleOf := gi_e e_wsX12_struck e_wsX12_roleOf (by decide +kernel)
set_option maxRecDepth 20000 in
theorem gX12_struck_X12_roleOf : GoodIn wsX12_struck (wsV RX12 47 RX12 yX12_roleOf wsX12_roleOf) := goodIn_app (gi_e e_wsX12_struck (ce fw_6177 (ce fw_6179 (ce fw_42 (ce fw_1038 (cn))))) (by decide +kernel)) ggX12_struck_X12_roleOf
theorem dX12_struck_0 : decode cX12_struck 0 = .ok (.aload_n 0, 1) := by decide +kernel
theorem dX12_struck_1 : decode cX12_struck 1 = .ok (.iconst 0, 1) := by decide +kernel
theorem dX12_struck_2 : decode cX12_struck 2 = .ok (.putfield 39, 3) := by decide +kernel
theorem dX12_struck_5 : decode cX12_struck 5 = .ok (.iload_n 1, 1) := by decide +kernel
theorem dX12_struck_6 : decode cX12_struck 6 = .ok (.iconst 0, 1) := by decide +kernel
theorem dX12_struck_7 : decode cX12_struck 7 = .ok (.aload_n 0, 1) := by decide +kernel
theorem dX12_struck_8 : decode cX12_struck 8 = .ok (.getfield 7, 3) := by decide +kernel
theorem dX12_struck_11 : decode cX12_struck 11 = .ok (.bipush 32, 2) := by decide +kernel
theorem dX12_struck_13 : decode cX12_struck 13 = .ok (.iaload, 1) := by decide +kernel
theorem dX12_struck_14 : decode cX12_struck 14 = .ok (.iconst 1, 1) := by decide +kernel
theorem dX12_struck_15 : decode cX12_struck 15 = .ok (.isub, 1) := by decide +kernel
theorem dX12_struck_16 : decode cX12_struck 16 = .ok (.invokestatic 72, 3) := by decide +kernel
theorem dX12_struck_19 : decode cX12_struck 19 = .ok (.ifCond .eq 17, 3) := by decide +kernel
theorem dX12_struck_22 : decode cX12_struck 22 = .ok (.iload_n 2, 1) := by decide +kernel
theorem dX12_struck_23 : decode cX12_struck 23 = .ok (.iconst 0, 1) := by decide +kernel
theorem dX12_struck_24 : decode cX12_struck 24 = .ok (.aload_n 0, 1) := by decide +kernel
theorem dX12_struck_25 : decode cX12_struck 25 = .ok (.invokevirtual 142, 3) := by decide +kernel
theorem dX12_struck_28 : decode cX12_struck 28 = .ok (.iconst 1, 1) := by decide +kernel
theorem dX12_struck_29 : decode cX12_struck 29 = .ok (.isub, 1) := by decide +kernel
theorem dX12_struck_30 : decode cX12_struck 30 = .ok (.invokestatic 72, 3) := by decide +kernel
theorem dX12_struck_33 : decode cX12_struck 33 = .ok (.ifCond .ne 5, 3) := by decide +kernel
theorem dX12_struck_36 : decode cX12_struck 36 = .ok (.iconst (-1), 1) := by decide +kernel
theorem dX12_struck_37 : decode cX12_struck 37 = .ok (.ireturn, 1) := by decide +kernel
theorem dX12_struck_38 : decode cX12_struck 38 = .ok (.iload_n 1, 1) := by decide +kernel
theorem dX12_struck_39 : decode cX12_struck 39 = .ok (.istore_n 3, 1) := by decide +kernel
theorem dX12_struck_40 : decode cX12_struck 40 = .ok (.iload_n 3, 1) := by decide +kernel
theorem dX12_struck_41 : decode cX12_struck 41 = .ok (.aload_n 0, 1) := by decide +kernel
theorem dX12_struck_42 : decode cX12_struck 42 = .ok (.getfield 7, 3) := by decide +kernel
theorem dX12_struck_45 : decode cX12_struck 45 = .ok (.bipush 32, 2) := by decide +kernel
theorem dX12_struck_47 : decode cX12_struck 47 = .ok (.iaload, 1) := by decide +kernel
theorem dX12_struck_48 : decode cX12_struck 48 = .ok (.if_icmp .ge 47, 3) := by decide +kernel
theorem dX12_struck_51 : decode cX12_struck 51 = .ok (.iload_n 2, 1) := by decide +kernel
theorem dX12_struck_52 : decode cX12_struck 52 = .ok (.iload_n 3, 1) := by decide +kernel
theorem dX12_struck_53 : decode cX12_struck 53 = .ok (.iadd, 1) := by decide +kernel
theorem dX12_struck_54 : decode cX12_struck 54 = .ok (.iload_n 1, 1) := by decide +kernel
theorem dX12_struck_55 : decode cX12_struck 55 = .ok (.isub, 1) := by decide +kernel
theorem dX12_struck_56 : decode cX12_struck 56 = .ok (.aload_n 0, 1) := by decide +kernel
theorem dX12_struck_57 : decode cX12_struck 57 = .ok (.invokevirtual 142, 3) := by decide +kernel
theorem dX12_struck_60 : decode cX12_struck 60 = .ok (.irem, 1) := by decide +kernel
theorem dX12_struck_61 : decode cX12_struck 61 = .ok (.istore 4, 2) := by decide +kernel
theorem dX12_struck_63 : decode cX12_struck 63 = .ok (.aload_n 0, 1) := by decide +kernel
theorem dX12_struck_64 : decode cX12_struck 64 = .ok (.iload 4, 2) := by decide +kernel
theorem dX12_struck_66 : decode cX12_struck 66 = .ok (.invokevirtual 174, 3) := by decide +kernel
theorem dX12_struck_69 : decode cX12_struck 69 = .ok (.ifCond .eq 20, 3) := by decide +kernel
theorem dX12_struck_72 : decode cX12_struck 72 = .ok (.aload_n 0, 1) := by decide +kernel
theorem dX12_struck_73 : decode cX12_struck 73 = .ok (.iload 4, 2) := by decide +kernel
theorem dX12_struck_75 : decode cX12_struck 75 = .ok (.invokevirtual 47, 3) := by decide +kernel
theorem dX12_struck_78 : decode cX12_struck 78 = .ok (.aload_n 0, 1) := by decide +kernel
theorem dX12_struck_79 : decode cX12_struck 79 = .ok (.getfield 13, 3) := by decide +kernel
theorem dX12_struck_82 : decode cX12_struck 82 = .ok (.iload_n 3, 1) := by decide +kernel
theorem dX12_struck_83 : decode cX12_struck 83 = .ok (.baload, 1) := by decide +kernel
theorem dX12_struck_84 : decode cX12_struck 84 = .ok (.if_icmp .eq 5, 3) := by decide +kernel
theorem dX12_struck_87 : decode cX12_struck 87 = .ok (.iload_n 3, 1) := by decide +kernel
theorem dX12_struck_88 : decode cX12_struck 88 = .ok (.ireturn, 1) := by decide +kernel
theorem dX12_struck_89 : decode cX12_struck 89 = .ok (.iinc 3 1, 3) := by decide +kernel
theorem dX12_struck_92 : decode cX12_struck 92 = .ok (.goto (-52), 3) := by decide +kernel
theorem dX12_struck_95 : decode cX12_struck 95 = .ok (.iconst (-1), 1) := by decide +kernel
theorem dX12_struck_96 : decode cX12_struck 96 = .ok (.ireturn, 1) := by decide +kernel
set_option maxRecDepth 20000 in
theorem ggX12_hearsFrom_X12_begins : GoodIn wsX12_hearsFrom wsX12_begins := gi_e e_wsX12_hearsFrom e_wsX12_begins (by decide +kernel)
set_option maxRecDepth 20000 in
theorem gX12_hearsFrom_X12_begins : GoodIn wsX12_hearsFrom (wsV RX12 134 RX12 yX12_begins wsX12_begins) := goodIn_app (gi_e e_wsX12_hearsFrom (ce fw_5251 (ce fw_5253 (ce fw_30 (ce fw_1038 (cn))))) (by decide +kernel)) ggX12_hearsFrom_X12_begins
set_option maxRecDepth 20000 in
theorem ggX12_hearsFrom_X12_hears : GoodIn wsX12_hearsFrom wsX12_hears := gi_e e_wsX12_hearsFrom e_wsX12_hears (by decide +kernel)
set_option maxRecDepth 20000 in
theorem gX12_hearsFrom_X12_hears : GoodIn wsX12_hearsFrom (wsV RX12 232 RX12 yX12_hears wsX12_hears) := goodIn_app (gi_e e_wsX12_hearsFrom (ce fw_6238 (ce fw_6240 (ce fw_51 (ce fw_1038 (cn))))) (by decide +kernel)) ggX12_hearsFrom_X12_hears
theorem dX12_hearsFrom_0 : decode cX12_hearsFrom 0 = .ok (.aload_n 0, 1) := by decide +kernel
theorem dX12_hearsFrom_1 : decode cX12_hearsFrom 1 = .ok (.invokevirtual 134, 3) := by decide +kernel
theorem dX12_hearsFrom_4 : decode cX12_hearsFrom 4 = .ok (.iconst 0, 1) := by decide +kernel
theorem dX12_hearsFrom_5 : decode cX12_hearsFrom 5 = .ok (.istore_n 3, 1) := by decide +kernel
theorem dX12_hearsFrom_6 : decode cX12_hearsFrom 6 = .ok (.iload_n 1, 1) := by decide +kernel
theorem dX12_hearsFrom_7 : decode cX12_hearsFrom 7 = .ok (.iload_n 3, 1) := by decide +kernel
theorem dX12_hearsFrom_8 : decode cX12_hearsFrom 8 = .ok (.iadd, 1) := by decide +kernel
theorem dX12_hearsFrom_9 : decode cX12_hearsFrom 9 = .ok (.aload_n 0, 1) := by decide +kernel
theorem dX12_hearsFrom_10 : decode cX12_hearsFrom 10 = .ok (.getfield 7, 3) := by decide +kernel
theorem dX12_hearsFrom_13 : decode cX12_hearsFrom 13 = .ok (.bipush 32, 2) := by decide +kernel
theorem dX12_hearsFrom_15 : decode cX12_hearsFrom 15 = .ok (.iaload, 1) := by decide +kernel
theorem dX12_hearsFrom_16 : decode cX12_hearsFrom 16 = .ok (.if_icmp .ge 35, 3) := by decide +kernel
theorem dX12_hearsFrom_19 : decode cX12_hearsFrom 19 = .ok (.iload_n 2, 1) := by decide +kernel
theorem dX12_hearsFrom_20 : decode cX12_hearsFrom 20 = .ok (.ifCond .ne 13, 3) := by decide +kernel
theorem dX12_hearsFrom_23 : decode cX12_hearsFrom 23 = .ok (.aload_n 0, 1) := by decide +kernel
theorem dX12_hearsFrom_24 : decode cX12_hearsFrom 24 = .ok (.getfield 7, 3) := by decide +kernel
theorem dX12_hearsFrom_27 : decode cX12_hearsFrom 27 = .ok (.bipush 37, 2) := by decide +kernel
theorem dX12_hearsFrom_29 : decode cX12_hearsFrom 29 = .ok (.iaload, 1) := by decide +kernel
theorem dX12_hearsFrom_30 : decode cX12_hearsFrom 30 = .ok (.ifCond .ne 21, 3) := by decide +kernel
theorem dX12_hearsFrom_33 : decode cX12_hearsFrom 33 = .ok (.aload_n 0, 1) := by decide +kernel
theorem dX12_hearsFrom_34 : decode cX12_hearsFrom 34 = .ok (.aload_n 0, 1) := by decide +kernel
theorem dX12_hearsFrom_35 : decode cX12_hearsFrom 35 = .ok (.getfield 13, 3) := by decide +kernel
theorem dX12_hearsFrom_38 : decode cX12_hearsFrom 38 = .ok (.iload_n 1, 1) := by decide +kernel
theorem dX12_hearsFrom_39 : decode cX12_hearsFrom 39 = .ok (.iload_n 3, 1) := by decide +kernel
theorem dX12_hearsFrom_40 : decode cX12_hearsFrom 40 = .ok (.iadd, 1) := by decide +kernel
theorem dX12_hearsFrom_41 : decode cX12_hearsFrom 41 = .ok (.baload, 1) := by decide +kernel
theorem dX12_hearsFrom_42 : decode cX12_hearsFrom 42 = .ok (.invokevirtual 232, 3) := by decide +kernel
theorem dX12_hearsFrom_45 : decode cX12_hearsFrom 45 = .ok (.iinc 3 1, 3) := by decide +kernel
theorem dX12_hearsFrom_48 : decode cX12_hearsFrom 48 = .ok (.goto (-42), 3) := by decide +kernel
theorem dX12_hearsFrom_51 : decode cX12_hearsFrom 51 = .ok (.iload_n 3, 1) := by decide +kernel
theorem dX12_hearsFrom_52 : decode cX12_hearsFrom 52 = .ok (.ireturn, 1) := by decide +kernel
set_option maxRecDepth 20000 in
theorem ggX12_locks_X12_in : GoodIn wsX12_locks wsX12_in := gi_e e_wsX12_locks e_wsX12_in (by decide +kernel)
set_option maxRecDepth 20000 in
theorem gX12_locks_X12_in : GoodIn wsX12_locks (va_wsS RX12 72 yX12_in wsX12_in) := goodIn_app (gi_e e_wsX12_locks (ce fw_5342 (ce fw_5343 (ce fw_1038 (cn)))) (by decide +kernel)) ggX12_locks_X12_in
set_option maxRecDepth 20000 in
theorem ggX12_locks_X12_copies : GoodIn wsX12_locks wsX12_copies := gi_e e_wsX12_locks e_wsX12_copies (by decide +kernel)
set_option maxRecDepth 20000 in
theorem gX12_locks_X12_copies : GoodIn wsX12_locks (wsV RX12 240 RX12 yX12_copies wsX12_copies) := goodIn_app (gi_e e_wsX12_locks (ce fw_6365 (ce fw_6367 (ce fw_72 (ce fw_1038 (cn))))) (by decide +kernel)) ggX12_locks_X12_copies
set_option maxRecDepth 20000 in
theorem ggX12_locks_X12_hearsFrom : GoodIn wsX12_locks wsX12_hearsFrom := gi_e e_wsX12_locks e_wsX12_hearsFrom (by decide +kernel)
set_option maxRecDepth 20000 in
theorem gX12_locks_X12_hearsFrom : GoodIn wsX12_locks (wsV RX12 246 RX12 yX12_hearsFrom wsX12_hearsFrom) := goodIn_app (gi_e e_wsX12_locks (ce fw_6381 (ce fw_6383 (ce fw_74 (ce fw_1038 (cn))))) (by decide +kernel)) ggX12_locks_X12_hearsFrom
set_option maxRecDepth 20000 in
theorem ggX12_locks_X12_back : GoodIn wsX12_locks wsX12_back := gi_e e_wsX12_locks e_wsX12_back (by decide +kernel)
set_option maxRecDepth 20000 in
theorem gX12_locks_X12_back : GoodIn wsX12_locks (wsV RX12 243 RX12 yX12_back wsX12_back) := goodIn_app (gi_e e_wsX12_locks (ce fw_6369 (ce fw_6371 (ce fw_73 (ce fw_1038 (cn))))) (by decide +kernel)) ggX12_locks_X12_back
theorem dX12_locks_0 : decode cX12_locks 0 = .ok (.aload_n 0, 1) := by decide +kernel
theorem dX12_locks_1 : decode cX12_locks 1 = .ok (.iconst 0, 1) := by decide +kernel
theorem dX12_locks_2 : decode cX12_locks 2 = .ok (.putfield 39, 3) := by decide +kernel
theorem dX12_locks_5 : decode cX12_locks 5 = .ok (.iload_n 1, 1) := by decide +kernel
theorem dX12_locks_6 : decode cX12_locks 6 = .ok (.iconst 0, 1) := by decide +kernel
theorem dX12_locks_7 : decode cX12_locks 7 = .ok (.aload_n 0, 1) := by decide +kernel
theorem dX12_locks_8 : decode cX12_locks 8 = .ok (.getfield 7, 3) := by decide +kernel
theorem dX12_locks_11 : decode cX12_locks 11 = .ok (.bipush 32, 2) := by decide +kernel
theorem dX12_locks_13 : decode cX12_locks 13 = .ok (.iaload, 1) := by decide +kernel
theorem dX12_locks_14 : decode cX12_locks 14 = .ok (.iconst 1, 1) := by decide +kernel
theorem dX12_locks_15 : decode cX12_locks 15 = .ok (.isub, 1) := by decide +kernel
theorem dX12_locks_16 : decode cX12_locks 16 = .ok (.invokestatic 72, 3) := by decide +kernel
theorem dX12_locks_19 : decode cX12_locks 19 = .ok (.ifCond .ne 5, 3) := by decide +kernel
theorem dX12_locks_22 : decode cX12_locks 22 = .ok (.iconst (-1), 1) := by decide +kernel
theorem dX12_locks_23 : decode cX12_locks 23 = .ok (.ireturn, 1) := by decide +kernel
theorem dX12_locks_24 : decode cX12_locks 24 = .ok (.aload_n 0, 1) := by decide +kernel
theorem dX12_locks_25 : decode cX12_locks 25 = .ok (.iconst 0, 1) := by decide +kernel
theorem dX12_locks_26 : decode cX12_locks 26 = .ok (.iconst 4, 1) := by decide +kernel
theorem dX12_locks_27 : decode cX12_locks 27 = .ok (.invokevirtual 240, 3) := by decide +kernel
theorem dX12_locks_30 : decode cX12_locks 30 = .ok (.aload_n 0, 1) := by decide +kernel
theorem dX12_locks_31 : decode cX12_locks 31 = .ok (.iload_n 1, 1) := by decide +kernel
theorem dX12_locks_32 : decode cX12_locks 32 = .ok (.iconst 0, 1) := by decide +kernel
theorem dX12_locks_33 : decode cX12_locks 33 = .ok (.invokevirtual 246, 3) := by decide +kernel
theorem dX12_locks_36 : decode cX12_locks 36 = .ok (.istore_n 2, 1) := by decide +kernel
theorem dX12_locks_37 : decode cX12_locks 37 = .ok (.aload_n 0, 1) := by decide +kernel
theorem dX12_locks_38 : decode cX12_locks 38 = .ok (.aload_n 0, 1) := by decide +kernel
theorem dX12_locks_39 : decode cX12_locks 39 = .ok (.getfield 7, 3) := by decide +kernel
theorem dX12_locks_42 : decode cX12_locks 42 = .ok (.bipush 37, 2) := by decide +kernel
theorem dX12_locks_44 : decode cX12_locks 44 = .ok (.iaload, 1) := by decide +kernel
theorem dX12_locks_45 : decode cX12_locks 45 = .ok (.ifCond .le 7, 3) := by decide +kernel
theorem dX12_locks_48 : decode cX12_locks 48 = .ok (.iload_n 2, 1) := by decide +kernel
theorem dX12_locks_49 : decode cX12_locks 49 = .ok (.goto 4, 3) := by decide +kernel
theorem dX12_locks_52 : decode cX12_locks 52 = .ok (.iconst (-1), 1) := by decide +kernel
theorem dX12_locks_53 : decode cX12_locks 53 = .ok (.invokevirtual 243, 3) := by decide +kernel
theorem dX12_locks_56 : decode cX12_locks 56 = .ok (.ireturn, 1) := by decide +kernel
set_option maxRecDepth 20000 in
theorem ggX12_from_X12_in : GoodIn wsX12_from wsX12_in := gi_e e_wsX12_from e_wsX12_in (by decide +kernel)
set_option maxRecDepth 20000 in
theorem gX12_from_X12_in : GoodIn wsX12_from (va_wsS RX12 72 yX12_in wsX12_in) := goodIn_app (gi_e e_wsX12_from (ce fw_5342 (ce fw_5343 (ce fw_1038 (cn)))) (by decide +kernel)) ggX12_from_X12_in
set_option maxRecDepth 20000 in
theorem ggX12_from_X12_copies : GoodIn wsX12_from wsX12_copies := gi_e e_wsX12_from e_wsX12_copies (by decide +kernel)
set_option maxRecDepth 20000 in
theorem gX12_from_X12_copies : GoodIn wsX12_from (wsV RX12 240 RX12 yX12_copies wsX12_copies) := goodIn_app (gi_e e_wsX12_from (ce fw_6365 (ce fw_6367 (ce fw_72 (ce fw_1038 (cn))))) (by decide +kernel)) ggX12_from_X12_copies
set_option maxRecDepth 20000 in
theorem ggX12_from_X12_hearsFrom : GoodIn wsX12_from wsX12_hearsFrom := gi_e e_wsX12_from e_wsX12_hearsFrom (by decide +kernel)
set_option maxRecDepth 20000 in
theorem gX12_from_X12_hearsFrom : GoodIn wsX12_from (wsV RX12 246 RX12 yX12_hearsFrom wsX12_hearsFrom) := goodIn_app (gi_e e_wsX12_from (ce fw_6381 (ce fw_6383 (ce fw_74 (ce fw_1038 (cn))))) (by decide +kernel)) ggX12_from_X12_hearsFrom
set_option maxRecDepth 20000 in
theorem ggX12_from_X12_told : GoodIn wsX12_from wsX12_told := gi_e e_wsX12_from e_wsX12_told (by decide +kernel)
set_option maxRecDepth 20000 in
theorem gX12_from_X12_told : GoodIn wsX12_from (wsV RX12 235 RX12 yX12_told wsX12_told) := goodIn_app (gi_e e_wsX12_from (ce fw_6337 (ce fw_6339 (ce fw_70 (ce fw_1038 (cn))))) (by decide +kernel)) ggX12_from_X12_told
set_option maxRecDepth 20000 in
theorem ggX12_from_X12_back : GoodIn wsX12_from wsX12_back := gi_e e_wsX12_from e_wsX12_back (by decide +kernel)
set_option maxRecDepth 20000 in
theorem gX12_from_X12_back : GoodIn wsX12_from (wsV RX12 243 RX12 yX12_back wsX12_back) := goodIn_app (gi_e e_wsX12_from (ce fw_6369 (ce fw_6371 (ce fw_73 (ce fw_1038 (cn))))) (by decide +kernel)) ggX12_from_X12_back
theorem dX12_from_0 : decode cX12_from 0 = .ok (.aload_n 0, 1) := by decide +kernel
theorem dX12_from_1 : decode cX12_from 1 = .ok (.iconst 0, 1) := by decide +kernel
theorem dX12_from_2 : decode cX12_from 2 = .ok (.putfield 39, 3) := by decide +kernel
theorem dX12_from_5 : decode cX12_from 5 = .ok (.iload_n 1, 1) := by decide +kernel
theorem dX12_from_6 : decode cX12_from 6 = .ok (.iconst 0, 1) := by decide +kernel
theorem dX12_from_7 : decode cX12_from 7 = .ok (.aload_n 0, 1) := by decide +kernel
theorem dX12_from_8 : decode cX12_from 8 = .ok (.getfield 7, 3) := by decide +kernel
theorem dX12_from_11 : decode cX12_from 11 = .ok (.bipush 32, 2) := by decide +kernel
theorem dX12_from_13 : decode cX12_from 13 = .ok (.iaload, 1) := by decide +kernel
theorem dX12_from_14 : decode cX12_from 14 = .ok (.iconst 1, 1) := by decide +kernel
theorem dX12_from_15 : decode cX12_from 15 = .ok (.isub, 1) := by decide +kernel
theorem dX12_from_16 : decode cX12_from 16 = .ok (.invokestatic 72, 3) := by decide +kernel
theorem dX12_from_19 : decode cX12_from 19 = .ok (.ifCond .eq 13, 3) := by decide +kernel
theorem dX12_from_22 : decode cX12_from 22 = .ok (.iload_n 2, 1) := by decide +kernel
theorem dX12_from_23 : decode cX12_from 23 = .ok (.iconst 0, 1) := by decide +kernel
theorem dX12_from_24 : decode cX12_from 24 = .ok (.bipush 17, 2) := by decide +kernel
theorem dX12_from_26 : decode cX12_from 26 = .ok (.invokestatic 72, 3) := by decide +kernel
theorem dX12_from_29 : decode cX12_from 29 = .ok (.ifCond .ne 5, 3) := by decide +kernel
theorem dX12_from_32 : decode cX12_from 32 = .ok (.iconst (-1), 1) := by decide +kernel
theorem dX12_from_33 : decode cX12_from 33 = .ok (.ireturn, 1) := by decide +kernel
theorem dX12_from_34 : decode cX12_from 34 = .ok (.aload_n 0, 1) := by decide +kernel
theorem dX12_from_35 : decode cX12_from 35 = .ok (.iconst 0, 1) := by decide +kernel
theorem dX12_from_36 : decode cX12_from 36 = .ok (.iconst 4, 1) := by decide +kernel
theorem dX12_from_37 : decode cX12_from 37 = .ok (.invokevirtual 240, 3) := by decide +kernel
theorem dX12_from_40 : decode cX12_from 40 = .ok (.aload_n 0, 1) := by decide +kernel
theorem dX12_from_41 : decode cX12_from 41 = .ok (.iload_n 1, 1) := by decide +kernel
theorem dX12_from_42 : decode cX12_from 42 = .ok (.iconst 1, 1) := by decide +kernel
theorem dX12_from_43 : decode cX12_from 43 = .ok (.invokevirtual 246, 3) := by decide +kernel
theorem dX12_from_46 : decode cX12_from 46 = .ok (.istore_n 3, 1) := by decide +kernel
theorem dX12_from_47 : decode cX12_from 47 = .ok (.aload_n 0, 1) := by decide +kernel
theorem dX12_from_48 : decode cX12_from 48 = .ok (.aload_n 0, 1) := by decide +kernel
theorem dX12_from_49 : decode cX12_from 49 = .ok (.iload_n 2, 1) := by decide +kernel
theorem dX12_from_50 : decode cX12_from 50 = .ok (.invokevirtual 235, 3) := by decide +kernel
theorem dX12_from_53 : decode cX12_from 53 = .ok (.invokevirtual 243, 3) := by decide +kernel
theorem dX12_from_56 : decode cX12_from 56 = .ok (.ireturn, 1) := by decide +kernel
set_option maxRecDepth 20000 in
theorem ggX12_canBe_X12_round : GoodIn wsX12_canBe wsX12_round := gi_e e_wsX12_canBe e_wsX12_round (by decide +kernel)
set_option maxRecDepth 20000 in
theorem gX12_canBe_X12_round : GoodIn wsX12_canBe (wsV RX12 142 RX12 yX12_round wsX12_round) := goodIn_app (gi_e e_wsX12_canBe (ce fw_5259 (ce fw_5261 (ce fw_32 (ce fw_1038 (cn))))) (by decide +kernel)) ggX12_canBe_X12_round
set_option maxRecDepth 20000 in
theorem ggX12_canBe_X12_isFixed : GoodIn wsX12_canBe wsX12_isFixed := gi_e e_wsX12_canBe e_wsX12_isFixed (by decide +kernel)
set_option maxRecDepth 20000 in
theorem gX12_canBe_X12_isFixed : GoodIn wsX12_canBe (wsV RX12 174 RX12 yX12_isFixed wsX12_isFixed) := goodIn_app (gi_e e_wsX12_canBe (ce fw_6254 (ce fw_6256 (ce fw_55 (ce fw_1038 (cn))))) (by decide +kernel)) ggX12_canBe_X12_isFixed
set_option maxRecDepth 20000 in
theorem ggX12_canBe_X12_roleOf : GoodIn wsX12_canBe wsX12_roleOf := gi_e e_wsX12_canBe e_wsX12_roleOf (by decide +kernel)
set_option maxRecDepth 20000 in
theorem gX12_canBe_X12_roleOf : GoodIn wsX12_canBe (wsV RX12 47 RX12 yX12_roleOf wsX12_roleOf) := goodIn_app (gi_e e_wsX12_canBe (ce fw_6177 (ce fw_6179 (ce fw_42 (ce fw_1038 (cn))))) (by decide +kernel)) ggX12_canBe_X12_roleOf
theorem dX12_canBe_0 : decode cX12_canBe 0 = .ok (.iconst 0, 1) := by decide +kernel
theorem dX12_canBe_1 : decode cX12_canBe 1 = .ok (.istore_n 3, 1) := by decide +kernel
theorem dX12_canBe_2 : decode cX12_canBe 2 = .ok (.iload_n 3, 1) := by decide +kernel
theorem dX12_canBe_3 : decode cX12_canBe 3 = .ok (.iload_n 2, 1) := by decide +kernel
theorem dX12_canBe_4 : decode cX12_canBe 4 = .ok (.if_icmp .ge 45, 3) := by decide +kernel
theorem dX12_canBe_7 : decode cX12_canBe 7 = .ok (.iload_n 1, 1) := by decide +kernel
theorem dX12_canBe_8 : decode cX12_canBe 8 = .ok (.iload_n 3, 1) := by decide +kernel
theorem dX12_canBe_9 : decode cX12_canBe 9 = .ok (.iadd, 1) := by decide +kernel
theorem dX12_canBe_10 : decode cX12_canBe 10 = .ok (.aload_n 0, 1) := by decide +kernel
theorem dX12_canBe_11 : decode cX12_canBe 11 = .ok (.invokevirtual 142, 3) := by decide +kernel
theorem dX12_canBe_14 : decode cX12_canBe 14 = .ok (.irem, 1) := by decide +kernel
theorem dX12_canBe_15 : decode cX12_canBe 15 = .ok (.istore 4, 2) := by decide +kernel
theorem dX12_canBe_17 : decode cX12_canBe 17 = .ok (.aload_n 0, 1) := by decide +kernel
theorem dX12_canBe_18 : decode cX12_canBe 18 = .ok (.iload 4, 2) := by decide +kernel
theorem dX12_canBe_20 : decode cX12_canBe 20 = .ok (.invokevirtual 174, 3) := by decide +kernel
theorem dX12_canBe_23 : decode cX12_canBe 23 = .ok (.ifCond .eq 20, 3) := by decide +kernel
theorem dX12_canBe_26 : decode cX12_canBe 26 = .ok (.aload_n 0, 1) := by decide +kernel
theorem dX12_canBe_27 : decode cX12_canBe 27 = .ok (.iload 4, 2) := by decide +kernel
theorem dX12_canBe_29 : decode cX12_canBe 29 = .ok (.invokevirtual 47, 3) := by decide +kernel
theorem dX12_canBe_32 : decode cX12_canBe 32 = .ok (.aload_n 0, 1) := by decide +kernel
theorem dX12_canBe_33 : decode cX12_canBe 33 = .ok (.getfield 13, 3) := by decide +kernel
theorem dX12_canBe_36 : decode cX12_canBe 36 = .ok (.iload_n 3, 1) := by decide +kernel
theorem dX12_canBe_37 : decode cX12_canBe 37 = .ok (.baload, 1) := by decide +kernel
theorem dX12_canBe_38 : decode cX12_canBe 38 = .ok (.if_icmp .eq 5, 3) := by decide +kernel
theorem dX12_canBe_41 : decode cX12_canBe 41 = .ok (.iconst 0, 1) := by decide +kernel
theorem dX12_canBe_42 : decode cX12_canBe 42 = .ok (.ireturn, 1) := by decide +kernel
theorem dX12_canBe_43 : decode cX12_canBe 43 = .ok (.iinc 3 1, 3) := by decide +kernel
theorem dX12_canBe_46 : decode cX12_canBe 46 = .ok (.goto (-44), 3) := by decide +kernel
theorem dX12_canBe_49 : decode cX12_canBe 49 = .ok (.iconst 1, 1) := by decide +kernel
theorem dX12_canBe_50 : decode cX12_canBe 50 = .ok (.ireturn, 1) := by decide +kernel
set_option maxRecDepth 20000 in
theorem ggX12_fits_X12_in : GoodIn wsX12_fits wsX12_in := gi_e e_wsX12_fits e_wsX12_in (by decide +kernel)
set_option maxRecDepth 20000 in
theorem gX12_fits_X12_in : GoodIn wsX12_fits (va_wsS RX12 72 yX12_in wsX12_in) := goodIn_app (gi_e e_wsX12_fits (ce fw_5342 (ce fw_5343 (ce fw_1038 (cn)))) (by decide +kernel)) ggX12_fits_X12_in
set_option maxRecDepth 20000 in
theorem ggX12_fits_X12_round : GoodIn wsX12_fits wsX12_round := gi_e e_wsX12_fits e_wsX12_round (by decide +kernel)
set_option maxRecDepth 20000 in
theorem gX12_fits_X12_round : GoodIn wsX12_fits (wsV RX12 142 RX12 yX12_round wsX12_round) := goodIn_app (gi_e e_wsX12_fits (ce fw_5259 (ce fw_5261 (ce fw_32 (ce fw_1038 (cn))))) (by decide +kernel)) ggX12_fits_X12_round
set_option maxRecDepth 20000 in
theorem ggX12_fits_X12_canBe : GoodIn wsX12_fits wsX12_canBe := gi_e e_wsX12_fits e_wsX12_canBe (by decide +kernel)
set_option maxRecDepth 20000 in
theorem gX12_fits_X12_canBe : GoodIn wsX12_fits (wsV RX12 250 RX12 yX12_canBe wsX12_canBe) := goodIn_app (gi_e e_wsX12_fits (ce fw_7177 (ce fw_7179 (ce fw_75 (ce fw_1038 (cn))))) (by decide +kernel)) ggX12_fits_X12_canBe
theorem dX12_fits_0 : decode cX12_fits 0 = .ok (.aload_n 0, 1) := by decide +kernel
theorem dX12_fits_1 : decode cX12_fits 1 = .ok (.iconst 0, 1) := by decide +kernel
theorem dX12_fits_2 : decode cX12_fits 2 = .ok (.putfield 39, 3) := by decide +kernel
theorem dX12_fits_5 : decode cX12_fits 5 = .ok (.iload_n 1, 1) := by decide +kernel
theorem dX12_fits_6 : decode cX12_fits 6 = .ok (.iconst 0, 1) := by decide +kernel
theorem dX12_fits_7 : decode cX12_fits 7 = .ok (.aload_n 0, 1) := by decide +kernel
theorem dX12_fits_8 : decode cX12_fits 8 = .ok (.getfield 7, 3) := by decide +kernel
theorem dX12_fits_11 : decode cX12_fits 11 = .ok (.bipush 32, 2) := by decide +kernel
theorem dX12_fits_13 : decode cX12_fits 13 = .ok (.iaload, 1) := by decide +kernel
theorem dX12_fits_14 : decode cX12_fits 14 = .ok (.invokestatic 72, 3) := by decide +kernel
theorem dX12_fits_17 : decode cX12_fits 17 = .ok (.ifCond .ne 5, 3) := by decide +kernel
theorem dX12_fits_20 : decode cX12_fits 20 = .ok (.iconst (-1), 1) := by decide +kernel
theorem dX12_fits_21 : decode cX12_fits 21 = .ok (.ireturn, 1) := by decide +kernel
theorem dX12_fits_22 : decode cX12_fits 22 = .ok (.iconst 0, 1) := by decide +kernel
theorem dX12_fits_23 : decode cX12_fits 23 = .ok (.istore_n 3, 1) := by decide +kernel
theorem dX12_fits_24 : decode cX12_fits 24 = .ok (.iconst 0, 1) := by decide +kernel
theorem dX12_fits_25 : decode cX12_fits 25 = .ok (.istore 4, 2) := by decide +kernel
theorem dX12_fits_27 : decode cX12_fits 27 = .ok (.iload 4, 2) := by decide +kernel
theorem dX12_fits_29 : decode cX12_fits 29 = .ok (.aload_n 0, 1) := by decide +kernel
theorem dX12_fits_30 : decode cX12_fits 30 = .ok (.invokevirtual 142, 3) := by decide +kernel
theorem dX12_fits_33 : decode cX12_fits 33 = .ok (.if_icmp .ge 30, 3) := by decide +kernel
theorem dX12_fits_36 : decode cX12_fits 36 = .ok (.aload_n 0, 1) := by decide +kernel
theorem dX12_fits_37 : decode cX12_fits 37 = .ok (.iload 4, 2) := by decide +kernel
theorem dX12_fits_39 : decode cX12_fits 39 = .ok (.iload_n 1, 1) := by decide +kernel
theorem dX12_fits_40 : decode cX12_fits 40 = .ok (.invokevirtual 250, 3) := by decide +kernel
theorem dX12_fits_43 : decode cX12_fits 43 = .ok (.ifCond .eq 14, 3) := by decide +kernel
theorem dX12_fits_46 : decode cX12_fits 46 = .ok (.iload_n 3, 1) := by decide +kernel
theorem dX12_fits_47 : decode cX12_fits 47 = .ok (.iload_n 2, 1) := by decide +kernel
theorem dX12_fits_48 : decode cX12_fits 48 = .ok (.if_icmp .ne 6, 3) := by decide +kernel
theorem dX12_fits_51 : decode cX12_fits 51 = .ok (.iload 4, 2) := by decide +kernel
theorem dX12_fits_53 : decode cX12_fits 53 = .ok (.ireturn, 1) := by decide +kernel
theorem dX12_fits_54 : decode cX12_fits 54 = .ok (.iinc 3 1, 3) := by decide +kernel
theorem dX12_fits_57 : decode cX12_fits 57 = .ok (.iinc 4 1, 3) := by decide +kernel
theorem dX12_fits_60 : decode cX12_fits 60 = .ok (.goto (-33), 3) := by decide +kernel
theorem dX12_fits_63 : decode cX12_fits 63 = .ok (.iload_n 2, 1) := by decide +kernel
theorem dX12_fits_64 : decode cX12_fits 64 = .ok (.iconst (-1), 1) := by decide +kernel
theorem dX12_fits_65 : decode cX12_fits 65 = .ok (.if_icmp .ne 7, 3) := by decide +kernel
theorem dX12_fits_68 : decode cX12_fits 68 = .ok (.iload_n 3, 1) := by decide +kernel
theorem dX12_fits_69 : decode cX12_fits 69 = .ok (.goto 4, 3) := by decide +kernel
theorem dX12_fits_72 : decode cX12_fits 72 = .ok (.iconst (-1), 1) := by decide +kernel
theorem dX12_fits_73 : decode cX12_fits 73 = .ok (.ireturn, 1) := by decide +kernel
set_option maxRecDepth 20000 in
theorem ggX12_least_X12_in : GoodIn wsX12_least wsX12_in := gi_e e_wsX12_least e_wsX12_in (by decide +kernel)
set_option maxRecDepth 20000 in
theorem gX12_least_X12_in : GoodIn wsX12_least (va_wsS RX12 72 yX12_in wsX12_in) := goodIn_app (gi_e e_wsX12_least (ce fw_5342 (ce fw_5343 (ce fw_1038 (cn)))) (by decide +kernel)) ggX12_least_X12_in
set_option maxRecDepth 20000 in
theorem ggX12_least_X12_copies : GoodIn wsX12_least wsX12_copies := gi_e e_wsX12_least e_wsX12_copies (by decide +kernel)
set_option maxRecDepth 20000 in
theorem gX12_least_X12_copies : GoodIn wsX12_least (wsV RX12 240 RX12 yX12_copies wsX12_copies) := goodIn_app (gi_e e_wsX12_least (ce fw_6365 (ce fw_6367 (ce fw_72 (ce fw_1038 (cn))))) (by decide +kernel)) ggX12_least_X12_copies
set_option maxRecDepth 20000 in
theorem ggX12_least_X12_begins : GoodIn wsX12_least wsX12_begins := gi_e e_wsX12_least e_wsX12_begins (by decide +kernel)
set_option maxRecDepth 20000 in
theorem gX12_least_X12_begins : GoodIn wsX12_least (wsV RX12 134 RX12 yX12_begins wsX12_begins) := goodIn_app (gi_e e_wsX12_least (ce fw_5251 (ce fw_5253 (ce fw_30 (ce fw_1038 (cn))))) (by decide +kernel)) ggX12_least_X12_begins
set_option maxRecDepth 20000 in
theorem ggX12_least_X12_strikes : GoodIn wsX12_least wsX12_strikes := gi_e e_wsX12_least e_wsX12_strikes (by decide +kernel)
set_option maxRecDepth 20000 in
theorem gX12_least_X12_strikes : GoodIn wsX12_least (wsV RX12 177 RX12 yX12_strikes wsX12_strikes) := goodIn_app (gi_e e_wsX12_least (ce fw_6246 (ce fw_6248 (ce fw_53 (ce fw_1038 (cn))))) (by decide +kernel)) ggX12_least_X12_strikes
set_option maxRecDepth 20000 in
theorem ggX12_least_X12_leftMany : GoodIn wsX12_least wsX12_leftMany := gi_e e_wsX12_least e_wsX12_leftMany (by decide +kernel)
set_option maxRecDepth 20000 in
theorem gX12_least_X12_leftMany : GoodIn wsX12_least (wsV RX12 180 RX12 yX12_leftMany wsX12_leftMany) := goodIn_app (gi_e e_wsX12_least (ce fw_6258 (ce fw_6260 (ce fw_56 (ce fw_1038 (cn))))) (by decide +kernel)) ggX12_least_X12_leftMany
set_option maxRecDepth 20000 in
theorem ggX12_least_X12_back : GoodIn wsX12_least wsX12_back := gi_e e_wsX12_least e_wsX12_back (by decide +kernel)
set_option maxRecDepth 20000 in
theorem gX12_least_X12_back : GoodIn wsX12_least (wsV RX12 243 RX12 yX12_back wsX12_back) := goodIn_app (gi_e e_wsX12_least (ce fw_6369 (ce fw_6371 (ce fw_73 (ce fw_1038 (cn))))) (by decide +kernel)) ggX12_least_X12_back
theorem dX12_least_0 : decode cX12_least 0 = .ok (.aload_n 0, 1) := by decide +kernel
theorem dX12_least_1 : decode cX12_least 1 = .ok (.iconst 0, 1) := by decide +kernel
theorem dX12_least_2 : decode cX12_least 2 = .ok (.putfield 39, 3) := by decide +kernel
theorem dX12_least_5 : decode cX12_least 5 = .ok (.iload_n 1, 1) := by decide +kernel
theorem dX12_least_6 : decode cX12_least 6 = .ok (.iconst 0, 1) := by decide +kernel
theorem dX12_least_7 : decode cX12_least 7 = .ok (.aload_n 0, 1) := by decide +kernel
theorem dX12_least_8 : decode cX12_least 8 = .ok (.getfield 7, 3) := by decide +kernel
theorem dX12_least_11 : decode cX12_least 11 = .ok (.bipush 32, 2) := by decide +kernel
theorem dX12_least_13 : decode cX12_least 13 = .ok (.iaload, 1) := by decide +kernel
theorem dX12_least_14 : decode cX12_least 14 = .ok (.invokestatic 72, 3) := by decide +kernel
theorem dX12_least_17 : decode cX12_least 17 = .ok (.ifCond .ne 5, 3) := by decide +kernel
theorem dX12_least_20 : decode cX12_least 20 = .ok (.iconst (-1), 1) := by decide +kernel
theorem dX12_least_21 : decode cX12_least 21 = .ok (.ireturn, 1) := by decide +kernel
theorem dX12_least_22 : decode cX12_least 22 = .ok (.aload_n 0, 1) := by decide +kernel
theorem dX12_least_23 : decode cX12_least 23 = .ok (.iconst 0, 1) := by decide +kernel
theorem dX12_least_24 : decode cX12_least 24 = .ok (.iconst 4, 1) := by decide +kernel
theorem dX12_least_25 : decode cX12_least 25 = .ok (.invokevirtual 240, 3) := by decide +kernel
theorem dX12_least_28 : decode cX12_least 28 = .ok (.aload_n 0, 1) := by decide +kernel
theorem dX12_least_29 : decode cX12_least 29 = .ok (.invokevirtual 134, 3) := by decide +kernel
theorem dX12_least_32 : decode cX12_least 32 = .ok (.iconst 1, 1) := by decide +kernel
theorem dX12_least_33 : decode cX12_least 33 = .ok (.istore_n 2, 1) := by decide +kernel
theorem dX12_least_34 : decode cX12_least 34 = .ok (.iload_n 2, 1) := by decide +kernel
theorem dX12_least_35 : decode cX12_least 35 = .ok (.iload_n 1, 1) := by decide +kernel
theorem dX12_least_36 : decode cX12_least 36 = .ok (.if_icmp .gt 35, 3) := by decide +kernel
theorem dX12_least_39 : decode cX12_least 39 = .ok (.aload_n 0, 1) := by decide +kernel
theorem dX12_least_40 : decode cX12_least 40 = .ok (.aload_n 0, 1) := by decide +kernel
theorem dX12_least_41 : decode cX12_least 41 = .ok (.getfield 13, 3) := by decide +kernel
theorem dX12_least_44 : decode cX12_least 44 = .ok (.iload_n 2, 1) := by decide +kernel
theorem dX12_least_45 : decode cX12_least 45 = .ok (.iconst 1, 1) := by decide +kernel
theorem dX12_least_46 : decode cX12_least 46 = .ok (.isub, 1) := by decide +kernel
theorem dX12_least_47 : decode cX12_least 47 = .ok (.baload, 1) := by decide +kernel
theorem dX12_least_48 : decode cX12_least 48 = .ok (.invokevirtual 177, 3) := by decide +kernel
theorem dX12_least_51 : decode cX12_least 51 = .ok (.aload_n 0, 1) := by decide +kernel
theorem dX12_least_52 : decode cX12_least 52 = .ok (.invokevirtual 180, 3) := by decide +kernel
theorem dX12_least_55 : decode cX12_least 55 = .ok (.iconst 1, 1) := by decide +kernel
theorem dX12_least_56 : decode cX12_least 56 = .ok (.if_icmp .ne 9, 3) := by decide +kernel
theorem dX12_least_59 : decode cX12_least 59 = .ok (.aload_n 0, 1) := by decide +kernel
theorem dX12_least_60 : decode cX12_least 60 = .ok (.iload_n 2, 1) := by decide +kernel
theorem dX12_least_61 : decode cX12_least 61 = .ok (.invokevirtual 243, 3) := by decide +kernel
theorem dX12_least_64 : decode cX12_least 64 = .ok (.ireturn, 1) := by decide +kernel
theorem dX12_least_65 : decode cX12_least 65 = .ok (.iinc 2 1, 3) := by decide +kernel
theorem dX12_least_68 : decode cX12_least 68 = .ok (.goto (-34), 3) := by decide +kernel
theorem dX12_least_71 : decode cX12_least 71 = .ok (.aload_n 0, 1) := by decide +kernel
theorem dX12_least_72 : decode cX12_least 72 = .ok (.iconst (-1), 1) := by decide +kernel
theorem dX12_least_73 : decode cX12_least 73 = .ok (.invokevirtual 243, 3) := by decide +kernel
theorem dX12_least_76 : decode cX12_least 76 = .ok (.ireturn, 1) := by decide +kernel
set_option maxRecDepth 20000 in
theorem ggX12_lostAt_X12_hears : GoodIn wsX12_lostAt wsX12_hears := gi_e e_wsX12_lostAt e_wsX12_hears (by decide +kernel)
set_option maxRecDepth 20000 in
theorem gX12_lostAt_X12_hears : GoodIn wsX12_lostAt (wsV RX12 232 RX12 yX12_hears wsX12_hears) := goodIn_app (gi_e e_wsX12_lostAt (ce fw_6238 (ce fw_6240 (ce fw_51 (ce fw_1038 (cn))))) (by decide +kernel)) ggX12_lostAt_X12_hears
theorem dX12_lostAt_0 : decode cX12_lostAt 0 = .ok (.aload_n 0, 1) := by decide +kernel
theorem dX12_lostAt_1 : decode cX12_lostAt 1 = .ok (.getfield 7, 3) := by decide +kernel
theorem dX12_lostAt_4 : decode cX12_lostAt 4 = .ok (.bipush 38, 2) := by decide +kernel
theorem dX12_lostAt_6 : decode cX12_lostAt 6 = .ok (.iaload, 1) := by decide +kernel
theorem dX12_lostAt_7 : decode cX12_lostAt 7 = .ok (.istore_n 2, 1) := by decide +kernel
theorem dX12_lostAt_8 : decode cX12_lostAt 8 = .ok (.iconst 0, 1) := by decide +kernel
theorem dX12_lostAt_9 : decode cX12_lostAt 9 = .ok (.istore_n 3, 1) := by decide +kernel
theorem dX12_lostAt_10 : decode cX12_lostAt 10 = .ok (.iload_n 3, 1) := by decide +kernel
theorem dX12_lostAt_11 : decode cX12_lostAt 11 = .ok (.iload_n 1, 1) := by decide +kernel
theorem dX12_lostAt_12 : decode cX12_lostAt 12 = .ok (.if_icmp .ge 49, 3) := by decide +kernel
theorem dX12_lostAt_15 : decode cX12_lostAt 15 = .ok (.aload_n 0, 1) := by decide +kernel
theorem dX12_lostAt_16 : decode cX12_lostAt 16 = .ok (.aload_n 0, 1) := by decide +kernel
theorem dX12_lostAt_17 : decode cX12_lostAt 17 = .ok (.getfield 13, 3) := by decide +kernel
theorem dX12_lostAt_20 : decode cX12_lostAt 20 = .ok (.aload_n 0, 1) := by decide +kernel
theorem dX12_lostAt_21 : decode cX12_lostAt 21 = .ok (.getfield 7, 3) := by decide +kernel
theorem dX12_lostAt_24 : decode cX12_lostAt 24 = .ok (.bipush 33, 2) := by decide +kernel
theorem dX12_lostAt_26 : decode cX12_lostAt 26 = .ok (.iaload, 1) := by decide +kernel
theorem dX12_lostAt_27 : decode cX12_lostAt 27 = .ok (.baload, 1) := by decide +kernel
theorem dX12_lostAt_28 : decode cX12_lostAt 28 = .ok (.invokevirtual 232, 3) := by decide +kernel
theorem dX12_lostAt_31 : decode cX12_lostAt 31 = .ok (.aload_n 0, 1) := by decide +kernel
theorem dX12_lostAt_32 : decode cX12_lostAt 32 = .ok (.getfield 7, 3) := by decide +kernel
theorem dX12_lostAt_35 : decode cX12_lostAt 35 = .ok (.bipush 33, 2) := by decide +kernel
theorem dX12_lostAt_37 : decode cX12_lostAt 37 = .ok (.dup2, 1) := by decide +kernel
theorem dX12_lostAt_38 : decode cX12_lostAt 38 = .ok (.iaload, 1) := by decide +kernel
theorem dX12_lostAt_39 : decode cX12_lostAt 39 = .ok (.iconst 1, 1) := by decide +kernel
theorem dX12_lostAt_40 : decode cX12_lostAt 40 = .ok (.iadd, 1) := by decide +kernel
theorem dX12_lostAt_41 : decode cX12_lostAt 41 = .ok (.iastore, 1) := by decide +kernel
theorem dX12_lostAt_42 : decode cX12_lostAt 42 = .ok (.aload_n 0, 1) := by decide +kernel
theorem dX12_lostAt_43 : decode cX12_lostAt 43 = .ok (.getfield 7, 3) := by decide +kernel
theorem dX12_lostAt_46 : decode cX12_lostAt 46 = .ok (.bipush 38, 2) := by decide +kernel
theorem dX12_lostAt_48 : decode cX12_lostAt 48 = .ok (.iaload, 1) := by decide +kernel
theorem dX12_lostAt_49 : decode cX12_lostAt 49 = .ok (.iload_n 2, 1) := by decide +kernel
theorem dX12_lostAt_50 : decode cX12_lostAt 50 = .ok (.if_icmp .le 5, 3) := by decide +kernel
theorem dX12_lostAt_53 : decode cX12_lostAt 53 = .ok (.iload_n 3, 1) := by decide +kernel
theorem dX12_lostAt_54 : decode cX12_lostAt 54 = .ok (.ireturn, 1) := by decide +kernel
theorem dX12_lostAt_55 : decode cX12_lostAt 55 = .ok (.iinc 3 1, 3) := by decide +kernel
theorem dX12_lostAt_58 : decode cX12_lostAt 58 = .ok (.goto (-48), 3) := by decide +kernel
theorem dX12_lostAt_61 : decode cX12_lostAt 61 = .ok (.iconst (-1), 1) := by decide +kernel
theorem dX12_lostAt_62 : decode cX12_lostAt 62 = .ok (.ireturn, 1) := by decide +kernel
set_option maxRecDepth 20000 in
theorem ggX12_weak_X12_lesser : GoodIn wsX12_weak wsX12_lesser := gi_e e_wsX12_weak e_wsX12_lesser (by decide +kernel)
set_option maxRecDepth 20000 in
theorem gX12_weak_X12_lesser : GoodIn wsX12_weak (va_wsS RX12 103 yX12_lesser wsX12_lesser) := goodIn_app (gi_e e_wsX12_weak (ce fw_6150 (ce fw_6151 (ce fw_1038 (cn)))) (by decide +kernel)) ggX12_weak_X12_lesser
set_option maxRecDepth 20000 in
theorem ggX12_weak_X12_copies : GoodIn wsX12_weak wsX12_copies := gi_e e_wsX12_weak e_wsX12_copies (by decide +kernel)
set_option maxRecDepth 20000 in
theorem gX12_weak_X12_copies : GoodIn wsX12_weak (wsV RX12 240 RX12 yX12_copies wsX12_copies) := goodIn_app (gi_e e_wsX12_weak (ce fw_6365 (ce fw_6367 (ce fw_72 (ce fw_1038 (cn))))) (by decide +kernel)) ggX12_weak_X12_copies
set_option maxRecDepth 20000 in
theorem ggX12_weak_X12_lostAt : GoodIn wsX12_weak wsX12_lostAt := gi_e e_wsX12_weak e_wsX12_lostAt (by decide +kernel)
set_option maxRecDepth 20000 in
theorem gX12_weak_X12_lostAt : GoodIn wsX12_weak (wsV RX12 254 RX12 yX12_lostAt wsX12_lostAt) := goodIn_app (gi_e e_wsX12_weak (ce fw_7189 (ce fw_7191 (ce fw_76 (ce fw_1038 (cn))))) (by decide +kernel)) ggX12_weak_X12_lostAt
theorem dX12_weak_0 : decode cX12_weak 0 = .ok (.aload_n 0, 1) := by decide +kernel
theorem dX12_weak_1 : decode cX12_weak 1 = .ok (.iconst 0, 1) := by decide +kernel
theorem dX12_weak_2 : decode cX12_weak 2 = .ok (.putfield 39, 3) := by decide +kernel
theorem dX12_weak_5 : decode cX12_weak 5 = .ok (.sipush 400, 3) := by decide +kernel
theorem dX12_weak_8 : decode cX12_weak 8 = .ok (.aload_n 0, 1) := by decide +kernel
theorem dX12_weak_9 : decode cX12_weak 9 = .ok (.getfield 7, 3) := by decide +kernel
theorem dX12_weak_12 : decode cX12_weak 12 = .ok (.bipush 32, 2) := by decide +kernel
theorem dX12_weak_14 : decode cX12_weak 14 = .ok (.iaload, 1) := by decide +kernel
theorem dX12_weak_15 : decode cX12_weak 15 = .ok (.aload_n 0, 1) := by decide +kernel
theorem dX12_weak_16 : decode cX12_weak 16 = .ok (.getfield 7, 3) := by decide +kernel
theorem dX12_weak_19 : decode cX12_weak 19 = .ok (.bipush 33, 2) := by decide +kernel
theorem dX12_weak_21 : decode cX12_weak 21 = .ok (.iaload, 1) := by decide +kernel
theorem dX12_weak_22 : decode cX12_weak 22 = .ok (.isub, 1) := by decide +kernel
theorem dX12_weak_23 : decode cX12_weak 23 = .ok (.invokestatic 103, 3) := by decide +kernel
theorem dX12_weak_26 : decode cX12_weak 26 = .ok (.istore_n 1, 1) := by decide +kernel
theorem dX12_weak_27 : decode cX12_weak 27 = .ok (.aload_n 0, 1) := by decide +kernel
theorem dX12_weak_28 : decode cX12_weak 28 = .ok (.getfield 7, 3) := by decide +kernel
theorem dX12_weak_31 : decode cX12_weak 31 = .ok (.bipush 33, 2) := by decide +kernel
theorem dX12_weak_33 : decode cX12_weak 33 = .ok (.iaload, 1) := by decide +kernel
theorem dX12_weak_34 : decode cX12_weak 34 = .ok (.istore_n 2, 1) := by decide +kernel
theorem dX12_weak_35 : decode cX12_weak 35 = .ok (.iconst (-1), 1) := by decide +kernel
theorem dX12_weak_36 : decode cX12_weak 36 = .ok (.istore_n 3, 1) := by decide +kernel
theorem dX12_weak_37 : decode cX12_weak 37 = .ok (.iconst (-1), 1) := by decide +kernel
theorem dX12_weak_38 : decode cX12_weak 38 = .ok (.istore 4, 2) := by decide +kernel
theorem dX12_weak_40 : decode cX12_weak 40 = .ok (.aload_n 0, 1) := by decide +kernel
theorem dX12_weak_41 : decode cX12_weak 41 = .ok (.iconst 0, 1) := by decide +kernel
theorem dX12_weak_42 : decode cX12_weak 42 = .ok (.iconst 4, 1) := by decide +kernel
theorem dX12_weak_43 : decode cX12_weak 43 = .ok (.invokevirtual 240, 3) := by decide +kernel
theorem dX12_weak_46 : decode cX12_weak 46 = .ok (.iload_n 2, 1) := by decide +kernel
theorem dX12_weak_47 : decode cX12_weak 47 = .ok (.istore 5, 2) := by decide +kernel
theorem dX12_weak_49 : decode cX12_weak 49 = .ok (.iload 5, 2) := by decide +kernel
theorem dX12_weak_51 : decode cX12_weak 51 = .ok (.iload_n 2, 1) := by decide +kernel
theorem dX12_weak_52 : decode cX12_weak 52 = .ok (.bipush 40, 2) := by decide +kernel
theorem dX12_weak_54 : decode cX12_weak 54 = .ok (.iadd, 1) := by decide +kernel
theorem dX12_weak_55 : decode cX12_weak 55 = .ok (.if_icmp .ge 90, 3) := by decide +kernel
theorem dX12_weak_58 : decode cX12_weak 58 = .ok (.iload 5, 2) := by decide +kernel
theorem dX12_weak_60 : decode cX12_weak 60 = .ok (.iload_n 2, 1) := by decide +kernel
theorem dX12_weak_61 : decode cX12_weak 61 = .ok (.iload_n 1, 1) := by decide +kernel
theorem dX12_weak_62 : decode cX12_weak 62 = .ok (.iadd, 1) := by decide +kernel
theorem dX12_weak_63 : decode cX12_weak 63 = .ok (.if_icmp .ge 82, 3) := by decide +kernel
theorem dX12_weak_66 : decode cX12_weak 66 = .ok (.aload_n 0, 1) := by decide +kernel
theorem dX12_weak_67 : decode cX12_weak 67 = .ok (.getfield 13, 3) := by decide +kernel
theorem dX12_weak_70 : decode cX12_weak 70 = .ok (.iload 5, 2) := by decide +kernel
theorem dX12_weak_72 : decode cX12_weak 72 = .ok (.iconst 1, 1) := by decide +kernel
theorem dX12_weak_73 : decode cX12_weak 73 = .ok (.aload_n 0, 1) := by decide +kernel
theorem dX12_weak_74 : decode cX12_weak 74 = .ok (.getfield 13, 3) := by decide +kernel
theorem dX12_weak_77 : decode cX12_weak 77 = .ok (.iload 5, 2) := by decide +kernel
theorem dX12_weak_79 : decode cX12_weak 79 = .ok (.baload, 1) := by decide +kernel
theorem dX12_weak_80 : decode cX12_weak 80 = .ok (.isub, 1) := by decide +kernel
theorem dX12_weak_81 : decode cX12_weak 81 = .ok (.i2b, 1) := by decide +kernel
theorem dX12_weak_82 : decode cX12_weak 82 = .ok (.bastore, 1) := by decide +kernel
theorem dX12_weak_83 : decode cX12_weak 83 = .ok (.aload_n 0, 1) := by decide +kernel
theorem dX12_weak_84 : decode cX12_weak 84 = .ok (.iload_n 1, 1) := by decide +kernel
theorem dX12_weak_85 : decode cX12_weak 85 = .ok (.invokevirtual 254, 3) := by decide +kernel
theorem dX12_weak_88 : decode cX12_weak 88 = .ok (.istore 6, 2) := by decide +kernel
theorem dX12_weak_90 : decode cX12_weak 90 = .ok (.aload_n 0, 1) := by decide +kernel
theorem dX12_weak_91 : decode cX12_weak 91 = .ok (.getfield 13, 3) := by decide +kernel
theorem dX12_weak_94 : decode cX12_weak 94 = .ok (.iload 5, 2) := by decide +kernel
theorem dX12_weak_96 : decode cX12_weak 96 = .ok (.iconst 1, 1) := by decide +kernel
theorem dX12_weak_97 : decode cX12_weak 97 = .ok (.aload_n 0, 1) := by decide +kernel
theorem dX12_weak_98 : decode cX12_weak 98 = .ok (.getfield 13, 3) := by decide +kernel
theorem dX12_weak_101 : decode cX12_weak 101 = .ok (.iload 5, 2) := by decide +kernel
theorem dX12_weak_103 : decode cX12_weak 103 = .ok (.baload, 1) := by decide +kernel
theorem dX12_weak_104 : decode cX12_weak 104 = .ok (.isub, 1) := by decide +kernel
theorem dX12_weak_105 : decode cX12_weak 105 = .ok (.i2b, 1) := by decide +kernel
theorem dX12_weak_106 : decode cX12_weak 106 = .ok (.bastore, 1) := by decide +kernel
theorem dX12_weak_107 : decode cX12_weak 107 = .ok (.aload_n 0, 1) := by decide +kernel
theorem dX12_weak_108 : decode cX12_weak 108 = .ok (.iconst 4, 1) := by decide +kernel
theorem dX12_weak_109 : decode cX12_weak 109 = .ok (.iconst 0, 1) := by decide +kernel
theorem dX12_weak_110 : decode cX12_weak 110 = .ok (.invokevirtual 240, 3) := by decide +kernel
theorem dX12_weak_113 : decode cX12_weak 113 = .ok (.iload 6, 2) := by decide +kernel
theorem dX12_weak_115 : decode cX12_weak 115 = .ok (.iconst (-1), 1) := by decide +kernel
theorem dX12_weak_116 : decode cX12_weak 116 = .ok (.if_icmp .eq 23, 3) := by decide +kernel
theorem dX12_weak_119 : decode cX12_weak 119 = .ok (.iload 4, 2) := by decide +kernel
theorem dX12_weak_121 : decode cX12_weak 121 = .ok (.iconst (-1), 1) := by decide +kernel
theorem dX12_weak_122 : decode cX12_weak 122 = .ok (.if_icmp .eq 10, 3) := by decide +kernel
theorem dX12_weak_125 : decode cX12_weak 125 = .ok (.iload 6, 2) := by decide +kernel
theorem dX12_weak_127 : decode cX12_weak 127 = .ok (.iload 4, 2) := by decide +kernel
theorem dX12_weak_129 : decode cX12_weak 129 = .ok (.if_icmp .ge 10, 3) := by decide +kernel
theorem dX12_weak_132 : decode cX12_weak 132 = .ok (.iload 6, 2) := by decide +kernel
theorem dX12_weak_134 : decode cX12_weak 134 = .ok (.istore 4, 2) := by decide +kernel
theorem dX12_weak_136 : decode cX12_weak 136 = .ok (.iload 5, 2) := by decide +kernel
theorem dX12_weak_138 : decode cX12_weak 138 = .ok (.istore_n 3, 1) := by decide +kernel
theorem dX12_weak_139 : decode cX12_weak 139 = .ok (.iinc 5 1, 3) := by decide +kernel
theorem dX12_weak_142 : decode cX12_weak 142 = .ok (.goto (-93), 3) := by decide +kernel
theorem dX12_weak_145 : decode cX12_weak 145 = .ok (.iload_n 3, 1) := by decide +kernel
theorem dX12_weak_146 : decode cX12_weak 146 = .ok (.ireturn, 1) := by decide +kernel
set_option maxRecDepth 20000 in
theorem ggX12_copiesAll_X12_copies : GoodIn wsX12_copiesAll wsX12_copies := gi_e e_wsX12_copiesAll e_wsX12_copies (by decide +kernel)
set_option maxRecDepth 20000 in
theorem gX12_copiesAll_X12_copies : GoodIn wsX12_copiesAll (wsV RX12 240 RX12 yX12_copies wsX12_copies) := goodIn_app (gi_e e_wsX12_copiesAll (ce fw_6365 (ce fw_6367 (ce fw_72 (ce fw_1038 (cn))))) (by decide +kernel)) ggX12_copiesAll_X12_copies
theorem dX12_copiesAll_0 : decode cX12_copiesAll 0 = .ok (.aload_n 0, 1) := by decide +kernel
theorem dX12_copiesAll_1 : decode cX12_copiesAll 1 = .ok (.iload_n 1, 1) := by decide +kernel
theorem dX12_copiesAll_2 : decode cX12_copiesAll 2 = .ok (.iload_n 2, 1) := by decide +kernel
theorem dX12_copiesAll_3 : decode cX12_copiesAll 3 = .ok (.invokevirtual 240, 3) := by decide +kernel
theorem dX12_copiesAll_6 : decode cX12_copiesAll 6 = .ok (.iconst 0, 1) := by decide +kernel
theorem dX12_copiesAll_7 : decode cX12_copiesAll 7 = .ok (.istore_n 3, 1) := by decide +kernel
theorem dX12_copiesAll_8 : decode cX12_copiesAll 8 = .ok (.iload_n 3, 1) := by decide +kernel
theorem dX12_copiesAll_9 : decode cX12_copiesAll 9 = .ok (.sipush 4000, 3) := by decide +kernel
theorem dX12_copiesAll_12 : decode cX12_copiesAll 12 = .ok (.if_icmp .ge 33, 3) := by decide +kernel
theorem dX12_copiesAll_15 : decode cX12_copiesAll 15 = .ok (.aload_n 0, 1) := by decide +kernel
theorem dX12_copiesAll_16 : decode cX12_copiesAll 16 = .ok (.getfield 13, 3) := by decide +kernel
theorem dX12_copiesAll_19 : decode cX12_copiesAll 19 = .ok (.sipush 6400, 3) := by decide +kernel
theorem dX12_copiesAll_22 : decode cX12_copiesAll 22 = .ok (.iload_n 2, 1) := by decide +kernel
theorem dX12_copiesAll_23 : decode cX12_copiesAll 23 = .ok (.imul, 1) := by decide +kernel
theorem dX12_copiesAll_24 : decode cX12_copiesAll 24 = .ok (.iload_n 3, 1) := by decide +kernel
theorem dX12_copiesAll_25 : decode cX12_copiesAll 25 = .ok (.iadd, 1) := by decide +kernel
theorem dX12_copiesAll_26 : decode cX12_copiesAll 26 = .ok (.aload_n 0, 1) := by decide +kernel
theorem dX12_copiesAll_27 : decode cX12_copiesAll 27 = .ok (.getfield 13, 3) := by decide +kernel
theorem dX12_copiesAll_30 : decode cX12_copiesAll 30 = .ok (.sipush 6400, 3) := by decide +kernel
theorem dX12_copiesAll_33 : decode cX12_copiesAll 33 = .ok (.iload_n 1, 1) := by decide +kernel
theorem dX12_copiesAll_34 : decode cX12_copiesAll 34 = .ok (.imul, 1) := by decide +kernel
theorem dX12_copiesAll_35 : decode cX12_copiesAll 35 = .ok (.iload_n 3, 1) := by decide +kernel
theorem dX12_copiesAll_36 : decode cX12_copiesAll 36 = .ok (.iadd, 1) := by decide +kernel
theorem dX12_copiesAll_37 : decode cX12_copiesAll 37 = .ok (.baload, 1) := by decide +kernel
theorem dX12_copiesAll_38 : decode cX12_copiesAll 38 = .ok (.bastore, 1) := by decide +kernel
theorem dX12_copiesAll_39 : decode cX12_copiesAll 39 = .ok (.iinc 3 1, 3) := by decide +kernel
theorem dX12_copiesAll_42 : decode cX12_copiesAll 42 = .ok (.goto (-34), 3) := by decide +kernel
theorem dX12_copiesAll_45 : decode cX12_copiesAll 45 = .ok (.iconst 0, 1) := by decide +kernel
theorem dX12_copiesAll_46 : decode cX12_copiesAll 46 = .ok (.istore_n 3, 1) := by decide +kernel
theorem dX12_copiesAll_47 : decode cX12_copiesAll 47 = .ok (.iload_n 3, 1) := by decide +kernel
theorem dX12_copiesAll_48 : decode cX12_copiesAll 48 = .ok (.sipush 300, 3) := by decide +kernel
theorem dX12_copiesAll_51 : decode cX12_copiesAll 51 = .ok (.if_icmp .ge 33, 3) := by decide +kernel
theorem dX12_copiesAll_54 : decode cX12_copiesAll 54 = .ok (.aload_n 0, 1) := by decide +kernel
theorem dX12_copiesAll_55 : decode cX12_copiesAll 55 = .ok (.getfield 17, 3) := by decide +kernel
theorem dX12_copiesAll_58 : decode cX12_copiesAll 58 = .ok (.sipush 300, 3) := by decide +kernel
theorem dX12_copiesAll_61 : decode cX12_copiesAll 61 = .ok (.iload_n 2, 1) := by decide +kernel
theorem dX12_copiesAll_62 : decode cX12_copiesAll 62 = .ok (.imul, 1) := by decide +kernel
theorem dX12_copiesAll_63 : decode cX12_copiesAll 63 = .ok (.iload_n 3, 1) := by decide +kernel
theorem dX12_copiesAll_64 : decode cX12_copiesAll 64 = .ok (.iadd, 1) := by decide +kernel
theorem dX12_copiesAll_65 : decode cX12_copiesAll 65 = .ok (.aload_n 0, 1) := by decide +kernel
theorem dX12_copiesAll_66 : decode cX12_copiesAll 66 = .ok (.getfield 17, 3) := by decide +kernel
theorem dX12_copiesAll_69 : decode cX12_copiesAll 69 = .ok (.sipush 300, 3) := by decide +kernel
theorem dX12_copiesAll_72 : decode cX12_copiesAll 72 = .ok (.iload_n 1, 1) := by decide +kernel
theorem dX12_copiesAll_73 : decode cX12_copiesAll 73 = .ok (.imul, 1) := by decide +kernel
theorem dX12_copiesAll_74 : decode cX12_copiesAll 74 = .ok (.iload_n 3, 1) := by decide +kernel
theorem dX12_copiesAll_75 : decode cX12_copiesAll 75 = .ok (.iadd, 1) := by decide +kernel
theorem dX12_copiesAll_76 : decode cX12_copiesAll 76 = .ok (.baload, 1) := by decide +kernel
theorem dX12_copiesAll_77 : decode cX12_copiesAll 77 = .ok (.bastore, 1) := by decide +kernel
theorem dX12_copiesAll_78 : decode cX12_copiesAll 78 = .ok (.iinc 3 1, 3) := by decide +kernel
theorem dX12_copiesAll_81 : decode cX12_copiesAll 81 = .ok (.goto (-34), 3) := by decide +kernel
theorem dX12_copiesAll_84 : decode cX12_copiesAll 84 = .ok (.return_, 1) := by decide +kernel
set_option maxRecDepth 20000 in
theorem ggX12_image_X12_in : GoodIn wsX12_image wsX12_in := gi_e e_wsX12_image e_wsX12_in (by decide +kernel)
set_option maxRecDepth 20000 in
theorem gX12_image_X12_in : GoodIn wsX12_image (va_wsS RX12 72 yX12_in wsX12_in) := goodIn_app (gi_e e_wsX12_image (ce fw_5342 (ce fw_5343 (ce fw_1038 (cn)))) (by decide +kernel)) ggX12_image_X12_in
set_option maxRecDepth 20000 in
theorem ggX12_image_X12_copiesAll : GoodIn wsX12_image wsX12_copiesAll := gi_e e_wsX12_image e_wsX12_copiesAll (by decide +kernel)
set_option maxRecDepth 20000 in
theorem gX12_image_X12_copiesAll : GoodIn wsX12_image (wsV RX12 257 RX12 yX12_copiesAll wsX12_copiesAll) := goodIn_app (gi_e e_wsX12_image (ce fw_7197 (ce fw_7199 (ce fw_77 (ce fw_1038 (cn))))) (by decide +kernel)) ggX12_image_X12_copiesAll
theorem dX12_image_0 : decode cX12_image 0 = .ok (.aload_n 0, 1) := by decide +kernel
theorem dX12_image_1 : decode cX12_image 1 = .ok (.iconst 0, 1) := by decide +kernel
theorem dX12_image_2 : decode cX12_image 2 = .ok (.putfield 39, 3) := by decide +kernel
theorem dX12_image_5 : decode cX12_image 5 = .ok (.iload_n 1, 1) := by decide +kernel
theorem dX12_image_6 : decode cX12_image 6 = .ok (.iconst 0, 1) := by decide +kernel
theorem dX12_image_7 : decode cX12_image 7 = .ok (.iconst 2, 1) := by decide +kernel
theorem dX12_image_8 : decode cX12_image 8 = .ok (.invokestatic 72, 3) := by decide +kernel
theorem dX12_image_11 : decode cX12_image 11 = .ok (.ifCond .ne 5, 3) := by decide +kernel
theorem dX12_image_14 : decode cX12_image 14 = .ok (.iconst 0, 1) := by decide +kernel
theorem dX12_image_15 : decode cX12_image 15 = .ok (.ireturn, 1) := by decide +kernel
theorem dX12_image_16 : decode cX12_image 16 = .ok (.aload_n 0, 1) := by decide +kernel
theorem dX12_image_17 : decode cX12_image 17 = .ok (.iconst 0, 1) := by decide +kernel
theorem dX12_image_18 : decode cX12_image 18 = .ok (.iload_n 1, 1) := by decide +kernel
theorem dX12_image_19 : decode cX12_image 19 = .ok (.iconst 1, 1) := by decide +kernel
theorem dX12_image_20 : decode cX12_image 20 = .ok (.iadd, 1) := by decide +kernel
theorem dX12_image_21 : decode cX12_image 21 = .ok (.invokevirtual 257, 3) := by decide +kernel
theorem dX12_image_24 : decode cX12_image 24 = .ok (.aload_n 0, 1) := by decide +kernel
theorem dX12_image_25 : decode cX12_image 25 = .ok (.getfield 20, 3) := by decide +kernel
theorem dX12_image_28 : decode cX12_image 28 = .ok (.iload_n 1, 1) := by decide +kernel
theorem dX12_image_29 : decode cX12_image 29 = .ok (.iconst 1, 1) := by decide +kernel
theorem dX12_image_30 : decode cX12_image 30 = .ok (.bastore, 1) := by decide +kernel
theorem dX12_image_31 : decode cX12_image 31 = .ok (.iconst 1, 1) := by decide +kernel
theorem dX12_image_32 : decode cX12_image 32 = .ok (.ireturn, 1) := by decide +kernel
set_option maxRecDepth 20000 in
theorem ggX12_again_X12_in : GoodIn wsX12_again wsX12_in := gi_e e_wsX12_again e_wsX12_in (by decide +kernel)
set_option maxRecDepth 20000 in
theorem gX12_again_X12_in : GoodIn wsX12_again (va_wsS RX12 72 yX12_in wsX12_in) := goodIn_app (gi_e e_wsX12_again (ce fw_5342 (ce fw_5343 (ce fw_1038 (cn)))) (by decide +kernel)) ggX12_again_X12_in
set_option maxRecDepth 20000 in
theorem ggX12_again_X12_copiesAll : GoodIn wsX12_again wsX12_copiesAll := gi_e e_wsX12_again e_wsX12_copiesAll (by decide +kernel)
set_option maxRecDepth 20000 in
theorem gX12_again_X12_copiesAll : GoodIn wsX12_again (wsV RX12 257 RX12 yX12_copiesAll wsX12_copiesAll) := goodIn_app (gi_e e_wsX12_again (ce fw_7197 (ce fw_7199 (ce fw_77 (ce fw_1038 (cn))))) (by decide +kernel)) ggX12_again_X12_copiesAll
theorem dX12_again_0 : decode cX12_again 0 = .ok (.aload_n 0, 1) := by decide +kernel
theorem dX12_again_1 : decode cX12_again 1 = .ok (.iconst 0, 1) := by decide +kernel
theorem dX12_again_2 : decode cX12_again 2 = .ok (.putfield 39, 3) := by decide +kernel
theorem dX12_again_5 : decode cX12_again 5 = .ok (.iload_n 1, 1) := by decide +kernel
theorem dX12_again_6 : decode cX12_again 6 = .ok (.iconst 0, 1) := by decide +kernel
theorem dX12_again_7 : decode cX12_again 7 = .ok (.iconst 2, 1) := by decide +kernel
theorem dX12_again_8 : decode cX12_again 8 = .ok (.invokestatic 72, 3) := by decide +kernel
theorem dX12_again_11 : decode cX12_again 11 = .ok (.ifCond .eq 12, 3) := by decide +kernel
theorem dX12_again_14 : decode cX12_again 14 = .ok (.aload_n 0, 1) := by decide +kernel
theorem dX12_again_15 : decode cX12_again 15 = .ok (.getfield 20, 3) := by decide +kernel
theorem dX12_again_18 : decode cX12_again 18 = .ok (.iload_n 1, 1) := by decide +kernel
theorem dX12_again_19 : decode cX12_again 19 = .ok (.baload, 1) := by decide +kernel
theorem dX12_again_20 : decode cX12_again 20 = .ok (.ifCond .ne 5, 3) := by decide +kernel
theorem dX12_again_23 : decode cX12_again 23 = .ok (.iconst 0, 1) := by decide +kernel
theorem dX12_again_24 : decode cX12_again 24 = .ok (.ireturn, 1) := by decide +kernel
theorem dX12_again_25 : decode cX12_again 25 = .ok (.aload_n 0, 1) := by decide +kernel
theorem dX12_again_26 : decode cX12_again 26 = .ok (.iload_n 1, 1) := by decide +kernel
theorem dX12_again_27 : decode cX12_again 27 = .ok (.iconst 1, 1) := by decide +kernel
theorem dX12_again_28 : decode cX12_again 28 = .ok (.iadd, 1) := by decide +kernel
theorem dX12_again_29 : decode cX12_again 29 = .ok (.iconst 0, 1) := by decide +kernel
theorem dX12_again_30 : decode cX12_again 30 = .ok (.invokevirtual 257, 3) := by decide +kernel
theorem dX12_again_33 : decode cX12_again 33 = .ok (.aload_n 0, 1) := by decide +kernel
theorem dX12_again_34 : decode cX12_again 34 = .ok (.iconst 0, 1) := by decide +kernel
theorem dX12_again_35 : decode cX12_again 35 = .ok (.putfield 137, 3) := by decide +kernel
theorem dX12_again_38 : decode cX12_again 38 = .ok (.iconst 1, 1) := by decide +kernel
theorem dX12_again_39 : decode cX12_again 39 = .ok (.ireturn, 1) := by decide +kernel
