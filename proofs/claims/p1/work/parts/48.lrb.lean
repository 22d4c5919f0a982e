set_option maxRecDepth 100000 in
theorem gW_X11_hear_1 : GoodIn lw_tbl (((wsV RL 59 RX11 yX11_hear wsX11_hear).drop 184).take 184) := gi_d0 (gi_td 92 gW_X11_hear_1_q0 (gi_all (by decide +kernel) gW_X11_hear_1_q1))
set_option maxRecDepth 100000 in
theorem gW_X12_ahead : GoodIn lw_tbl (wsV RL 112 RX12 yX12_ahead wsX12_ahead) := gi_d0 (gi_td 84 gW_X12_ahead_q0 (gi_all (by decide +kernel) gW_X12_ahead_q1))
set_option maxRecDepth 100000 in
theorem gW_X12_weak : GoodIn lw_tbl (wsV RL 136 RX12 yX12_weak wsX12_weak) := gi_d0 (gi_td 71 gW_X12_weak_q0 (gi_all (by decide +kernel) gW_X12_weak_q1))
set_option maxRecDepth 100000 in
theorem gW_X11_turn : GoodIn lw_tbl (wsV RL 45 RX11 yX11_turn wsX11_turn) := gi_d0 (gi_td 91 gW_X11_turn_q0 (gi_all (by decide +kernel) gW_X11_turn_q1))
set_option maxRecDepth 100000 in
theorem gW_X11_say : GoodIn lw_tbl (wsV RL 36 RX11 yX11_say wsX11_say) := gi_d0 (gi_td 91 gW_X11_say_q0 (gi_all (by decide +kernel) gW_X11_say_q1))
set_option maxRecDepth 100000 in
theorem gW_X11_ahead_1 : GoodIn lw_tbl (((wsV RL 108 RX11 yX11_ahead wsX11_ahead).drop 134).take 134) := gi_d0 (gi_td 67 gW_X11_ahead_1_q0 (gi_all (by decide +kernel) gW_X11_ahead_1_q1))
set_option maxRecDepth 100000 in
theorem gW_X11_lose : GoodIn lw_tbl (wsV RL 50 RX11 yX11_lose wsX11_lose) := gi_d0 (gi_td 91 gW_X11_lose_q0 (gi_all (by decide +kernel) gW_X11_lose_q1))
set_option maxRecDepth 100000 in
theorem gW_X11_scheme_0 : GoodIn lw_tbl (((wsV RL 26 RX11 yX11_scheme wsX11_scheme).drop 0).take 173) := gi_d0 (gi_td 87 gW_X11_scheme_0_q0 (gi_all (by decide +kernel) gW_X11_scheme_0_q1))
set_option maxRecDepth 100000 in
theorem gW_X11_ahead_0 : GoodIn lw_tbl (((wsV RL 108 RX11 yX11_ahead wsX11_ahead).drop 0).take 134) := gi_d0 (gi_td 67 gW_X11_ahead_0_q0 (gi_all (by decide +kernel) gW_X11_ahead_0_q1))
set_option maxRecDepth 100000 in
theorem gW_X11_put : GoodIn lw_tbl (wsV RL 54 RX11 yX11_put wsX11_put) := gi_d0 (gi_td 91 gW_X11_put_q0 (gi_all (by decide +kernel) gW_X11_put_q1))
set_option maxRecDepth 100000 in
theorem gW_X11_scheme_1 : GoodIn lw_tbl (((wsV RL 26 RX11 yX11_scheme wsX11_scheme).drop 173).take 173) := gi_d0 (gi_td 86 gW_X11_scheme_1_q0 (gi_all (by decide +kernel) gW_X11_scheme_1_q1))
set_option maxRecDepth 100000 in
theorem gW_X11_init_1 : GoodIn lw_tbl (((wsX11_init).drop 136).take 136) := gi_d0 (gi_td 68 gW_X11_init_1_q0 (gi_all (by decide +kernel) gW_X11_init_1_q1))
