set_option maxRecDepth 100000 in
theorem gW_X11_init : GoodIn lw_tbl (wsX11_init) := gi_d0 (gi_td 136 gW_X11_init_0 (gi_all (by decide +kernel) gW_X11_init_1))
set_option maxRecDepth 100000 in
theorem gW_X11_scheme : GoodIn lw_tbl (wsV RL 26 RX11 yX11_scheme wsX11_scheme) := gi_d0 (gi_td 173 gW_X11_scheme_0 (gi_all (by decide +kernel) gW_X11_scheme_1))
set_option maxRecDepth 100000 in
theorem gW_X11_hear : GoodIn lw_tbl (wsV RL 59 RX11 yX11_hear wsX11_hear) := gi_d0 (gi_td 184 gW_X11_hear_0 (gi_all (by decide +kernel) gW_X11_hear_1))
set_option maxRecDepth 100000 in
theorem gW_X11_ahead : GoodIn lw_tbl (wsV RL 108 RX11 yX11_ahead wsX11_ahead) := gi_d0 (gi_td 134 gW_X11_ahead_0 (gi_td 134 gW_X11_ahead_1 (gi_all (by decide +kernel) gW_X11_ahead_2)))
set_option maxRecDepth 100000 in
theorem gW_X11_locks : GoodIn lw_tbl (wsV RL 117 RX11 yX11_locks wsX11_locks) := gi_d0 (gi_td 159 gW_X11_locks_0 (gi_all (by decide +kernel) gW_X11_locks_1))
set_option maxRecDepth 100000 in
theorem gW_X11_from : GoodIn lw_tbl (wsV RL 121 RX11 yX11_from wsX11_from) := gi_d0 (gi_td 165 gW_X11_from_0 (gi_all (by decide +kernel) gW_X11_from_1))
set_option maxRecDepth 100000 in
theorem gW_X11_weak : GoodIn lw_tbl (wsV RL 133 RX11 yX11_weak wsX11_weak) := gi_d0 (gi_td 186 gW_X11_weak_0 (gi_all (by decide +kernel) gW_X11_weak_1))
