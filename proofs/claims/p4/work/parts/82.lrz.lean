theorem gi_td {big l : List Cond} {a : Nat} (n : Nat) (h1 : GoodIn big ((l.drop a).take n)) (h2 : GoodIn big (l.drop (a + n))) : GoodIn big (l.drop a) := fun w h => by
  rw [← List.take_append_drop n (l.drop a)] at h
  rcases List.mem_append.mp h with h | h
  · exact h1 w h
  · rw [List.drop_drop] at h; exact h2 w h
theorem gi_all {big l : List Cond} {a n : Nat} (h : l.length ≤ a + n) (h1 : GoodIn big ((l.drop a).take n)) : GoodIn big (l.drop a) := fun w hw => h1 w (by
  rw [List.take_of_length_le (by rw [List.length_drop]; omega)]; exact hw)
theorem gi_d0 {big l : List Cond} (h : GoodIn big (l.drop 0)) : GoodIn big l := h
set_option maxRecDepth 100000 in
theorem gW_X11_scheme : GoodIn lw_tbl (wsV RL 26 RX11 yX11_scheme wsX11_scheme) := gi_d0 (gi_td 87 gW_X11_scheme_0 (gi_td 87 gW_X11_scheme_1 (gi_td 87 gW_X11_scheme_2 (gi_all (by decide +kernel) gW_X11_scheme_3))))
set_option maxRecDepth 100000 in
theorem gW_X11_say : GoodIn lw_tbl (wsV RL 36 RX11 yX11_say wsX11_say) := gi_d0 (gi_td 91 gW_X11_say_0 (gi_all (by decide +kernel) gW_X11_say_1))
set_option maxRecDepth 100000 in
theorem gW_X11_send : GoodIn lw_tbl (wsV RL 40 RX11 yX11_send wsX11_send) := gi_d0 (gi_td 80 gW_X11_send_0 (gi_td 80 gW_X11_send_1 (gi_all (by decide +kernel) gW_X11_send_2)))
set_option maxRecDepth 100000 in
theorem gW_X11_turn : GoodIn lw_tbl (wsV RL 45 RX11 yX11_turn wsX11_turn) := gi_d0 (gi_td 91 gW_X11_turn_0 (gi_all (by decide +kernel) gW_X11_turn_1))
set_option maxRecDepth 100000 in
theorem gW_X11_lose : GoodIn lw_tbl (wsV RL 50 RX11 yX11_lose wsX11_lose) := gi_d0 (gi_td 91 gW_X11_lose_0 (gi_all (by decide +kernel) gW_X11_lose_1))
set_option maxRecDepth 100000 in
theorem gW_X11_put : GoodIn lw_tbl (wsV RL 54 RX11 yX11_put wsX11_put) := gi_d0 (gi_td 91 gW_X11_put_0 (gi_all (by decide +kernel) gW_X11_put_1))
set_option maxRecDepth 100000 in
theorem gW_X11_hear : GoodIn lw_tbl (wsV RL 59 RX11 yX11_hear wsX11_hear) := gi_d0 (gi_td 92 gW_X11_hear_0 (gi_td 92 gW_X11_hear_1 (gi_td 92 gW_X11_hear_2 (gi_all (by decide +kernel) gW_X11_hear_3))))
set_option maxRecDepth 100000 in
theorem gW_X12_hear : GoodIn lw_tbl (wsV RL 62 RX12 yX12_hear wsX12_hear) := gi_d0 (gi_td 72 gW_X12_hear_0 (gi_all (by decide +kernel) gW_X12_hear_1))
set_option maxRecDepth 100000 in
theorem gW_X11_undo : GoodIn lw_tbl (wsV RL 63 RX11 yX11_undo wsX11_undo) := gi_d0 (gi_td 85 gW_X11_undo_0 (gi_all (by decide +kernel) gW_X11_undo_1))
set_option maxRecDepth 100000 in
theorem gW_X11_ahead : GoodIn lw_tbl (wsV RL 105 RX11 yX11_ahead wsX11_ahead) := gi_d0 (gi_td 101 gW_X11_ahead_0 (gi_td 101 gW_X11_ahead_1 (gi_td 101 gW_X11_ahead_2 (gi_all (by decide +kernel) gW_X11_ahead_3))))
set_option maxRecDepth 100000 in
theorem gW_X12_ahead : GoodIn lw_tbl (wsV RL 109 RX12 yX12_ahead wsX12_ahead) := gi_d0 (gi_td 84 gW_X12_ahead_0 (gi_all (by decide +kernel) gW_X12_ahead_1))
set_option maxRecDepth 100000 in
theorem gW_X11_locks : GoodIn lw_tbl (wsV RL 114 RX11 yX11_locks wsX11_locks) := gi_d0 (gi_td 106 gW_X11_locks_0 (gi_td 106 gW_X11_locks_1 (gi_all (by decide +kernel) gW_X11_locks_2)))
set_option maxRecDepth 100000 in
theorem gW_X12_locks : GoodIn lw_tbl (wsV RL 117 RX12 yX12_locks wsX12_locks) := gi_d0 (gi_td 77 gW_X12_locks_0 (gi_all (by decide +kernel) gW_X12_locks_1))
set_option maxRecDepth 100000 in
theorem gW_X11_from : GoodIn lw_tbl (wsV RL 118 RX11 yX11_from wsX11_from) := gi_d0 (gi_td 110 gW_X11_from_0 (gi_td 110 gW_X11_from_1 (gi_all (by decide +kernel) gW_X11_from_2)))
set_option maxRecDepth 100000 in
theorem gW_X12_from : GoodIn lw_tbl (wsV RL 121 RX12 yX12_from wsX12_from) := gi_d0 (gi_td 79 gW_X12_from_0 (gi_all (by decide +kernel) gW_X12_from_1))
set_option maxRecDepth 100000 in
theorem gW_X11_weak : GoodIn lw_tbl (wsV RL 130 RX11 yX11_weak wsX11_weak) := gi_d0 (gi_td 93 gW_X11_weak_0 (gi_td 93 gW_X11_weak_1 (gi_td 93 gW_X11_weak_2 (gi_all (by decide +kernel) gW_X11_weak_3))))
set_option maxRecDepth 100000 in
theorem gW_X12_weak : GoodIn lw_tbl (wsV RL 133 RX12 yX12_weak wsX12_weak) := gi_d0 (gi_td 71 gW_X12_weak_0 (gi_all (by decide +kernel) gW_X12_weak_1))
set_option maxRecDepth 100000 in
theorem gW_X11_image : GoodIn lw_tbl (wsV RL 134 RX11 yX11_image wsX11_image) := gi_d0 (gi_td 77 gW_X11_image_0 (gi_td 77 gW_X11_image_1 (gi_all (by decide +kernel) gW_X11_image_2)))
set_option maxRecDepth 100000 in
theorem gW_X11_again : GoodIn lw_tbl (wsV RL 138 RX11 yX11_again wsX11_again) := gi_d0 (gi_td 78 gW_X11_again_0 (gi_td 78 gW_X11_again_1 (gi_all (by decide +kernel) gW_X11_again_2)))
set_option maxRecDepth 100000 in
theorem gW_X11_init : GoodIn lw_tbl (wsX11_init) := gi_d0 (gi_td 91 gW_X11_init_0 (gi_td 91 gW_X11_init_1 (gi_all (by decide +kernel) gW_X11_init_2)))
theorem iX11_L_law : ∀ w ∈ u_ws RX11 TX11 7, w ∈ lw_tbl := by decide +kernel
theorem iX12_L_law : ∀ w ∈ u_ws RX12 TX12 19, w ∈ lw_tbl := by decide +kernel
