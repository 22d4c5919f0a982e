theorem gW_X11_init : GoodIn lw_tbl (wsX11_init) := gi_t e_wsX11_init
theorem gW_X12_init : GoodIn lw_tbl (wsX12_init) := gi_t e_wsX12_init
theorem gW_X11_receiver : GoodIn lw_tbl (wsV RL 69 RX11 yX11_receiver wsX11_receiver) := gi_t (ca (ce fw_3311 (ce fw_4096 (ce fw_4097 (ce fw_1025 (cn))))) e_wsX11_receiver)
theorem gW_X11_count : GoodIn lw_tbl (wsV RL 66 RX11 yX11_count wsX11_count) := gi_t (ca (ce fw_3307 (ce fw_3308 (ce fw_3309 (ce fw_1025 (cn))))) e_wsX11_count)
theorem gW_L_begins : GoodIn lw_tbl (va_wsS RL 120 yL_begins wsL_begins) := gi_t (ca (ce fw_4118 (ce fw_4119 (ce fw_1024 (cn)))) e_wsL_begins)
set_option maxRecDepth 100000 in
theorem gW_L_role : GoodIn lw_tbl (va_wsS RL 77 yL_role wsL_role) := by sorry
theorem gW_X11_hear : GoodIn lw_tbl (wsV RL 133 RX11 yX11_hear wsX11_hear) := gi_t (ca (ce fw_3176 (ce fw_3177 (ce fw_3178 (ce fw_1025 (cn))))) e_wsX11_hear)
theorem gW_X11_say : GoodIn lw_tbl (wsV RL 124 RX11 yX11_say wsX11_say) := gi_t (ca (ce fw_3089 (ce fw_3090 (ce fw_3091 (ce fw_1025 (cn))))) e_wsX11_say)
theorem gW_X12_next : GoodIn lw_tbl (wsV RL 23 RX12 yX12_next wsX12_next) := gi_t (ca (ce fw_4113 (ce fw_4114 (ce fw_4115 (ce fw_1038 (cn))))) e_wsX12_next)
theorem gW_X11_send : GoodIn lw_tbl (wsV RL 127 RX11 yX11_send wsX11_send) := gi_t (ca (ce fw_3138 (ce fw_3139 (ce fw_3140 (ce fw_1025 (cn))))) e_wsX11_send)
set_option maxRecDepth 100000 in
theorem gW_L_isSent : GoodIn lw_tbl (va_wsS RL 136 yL_isSent wsL_isSent) := by sorry
theorem gW_L_isTrue : GoodIn lw_tbl (va_wsS RL 140 yL_isTrue wsL_isTrue) := gi_t (ca (ce fw_5166 (ce fw_5167 (ce fw_1024 (cn)))) e_wsL_isTrue)
theorem gW_L_areFrames : GoodIn lw_tbl (va_wsS RL 144 yL_areFrames wsL_areFrames) := gi_t (ca (ce fw_5197 (ce fw_5198 (ce fw_1024 (cn)))) e_wsL_areFrames)
theorem gW_L_isLinked : GoodIn lw_tbl (va_wsS RL 148 yL_isLinked wsL_isLinked) := gi_t (ca (ce fw_5212 (ce fw_5213 (ce fw_1024 (cn)))) e_wsL_isLinked)
theorem iX11_L_law : ∀ w ∈ u_ws RX11 TX11 7, w ∈ lw_tbl := by decide +kernel
theorem iX12_L_law : ∀ w ∈ u_ws RX12 TX12 1, w ∈ lw_tbl := by decide +kernel
