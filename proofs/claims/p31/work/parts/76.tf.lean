theorem f_X11_channelNumber_40_s (v_this_now_plan_width : Int32) (n_this_now_trunk_line_bits : Nat) (x0 : Int32) (x1 : Int32) (s_this_now_trunk_line : Int32) (r_this_now_trunk_line_bits : Nat → Int8) (n : Nat) (y40_l5 : Int32) (y40_l6 : Int32) : f_X11_channelNumber_40 v_this_now_plan_width n_this_now_trunk_line_bits x0 x1 s_this_now_trunk_line r_this_now_trunk_line_bits (n + 1) y40_l5 y40_l6 = ((if v_this_now_plan_width ≤ y40_l6 then some y40_l5 else Option.bind (f_X2_at n_this_now_trunk_line_bits (((x0 + 1) + (x1 * v_this_now_plan_width)) + y40_l6) s_this_now_trunk_line r_this_now_trunk_line_bits) (fun u68_r => (f_X11_channelNumber_40 v_this_now_plan_width n_this_now_trunk_line_bits x0 x1 s_this_now_trunk_line r_this_now_trunk_line_bits n) ((y40_l5 * 2) + u68_r) (y40_l6 + 1)))) := rfl
theorem f_X11_channelOnes_31_s (x0 : Int32) (v_this_now_plan_channels : Int32) (v_this_now_plan_width : Int32) (n_this_now_trunk_line_bits : Nat) (s_this_now_trunk_line : Int32) (r_this_now_trunk_line_bits : Nat → Int8) (n : Nat) (y31_l3 : Int32) (y31_l4 : Int32) : f_X11_channelOnes_31 x0 v_this_now_plan_channels v_this_now_plan_width n_this_now_trunk_line_bits s_this_now_trunk_line r_this_now_trunk_line_bits (n + 1) y31_l3 y31_l4 = ((if (x0 + (v_this_now_plan_channels * v_this_now_plan_width)) < y31_l4 then some y31_l3 else Option.bind (f_X2_at n_this_now_trunk_line_bits y31_l4 s_this_now_trunk_line r_this_now_trunk_line_bits) (fun u50_r => (f_X11_channelOnes_31 x0 v_this_now_plan_channels v_this_now_plan_width n_this_now_trunk_line_bits s_this_now_trunk_line r_this_now_trunk_line_bits n) (y31_l3 + u50_r) (y31_l4 + 1)))) := rfl
theorem f_X11_struck_92_s (s_this_now_trunk_line : Int32) (n_this_now_trunk_line_bits : Nat) (r_this_now_trunk_line_bits : Nat → Int8) (v_this_now_plan_length : Int32) (v_this_now_plan_roleCount : Int32) (v_this_now_plan_poly : Int32) (v_this_now_plan_width : Int32) (v_this_now_plan_stolen : Int32) (v_this_now_plan_fewest : Int32) (v_this_now_plan_wrong : Int32) (v_this_now_plan_latest : Int32) (v_this_now_plan_drift : Int32) (v_this_now_plan_superframe : Int32) (v_this_now_plan_channels : Int32) (v_this_now_plan_checkBits : Int32) (v_this_now_plan_zeros : Int32) (v_this_now_plan_ones : Int32) (v_this_now_plan_allFrames : Int32) (n : Nat) (y92_l6 : Int32) (y92_l7 : Int32) : f_X11_struck_92 s_this_now_trunk_line n_this_now_trunk_line_bits r_this_now_trunk_line_bits v_this_now_plan_length v_this_now_plan_roleCount v_this_now_plan_poly v_this_now_plan_width v_this_now_plan_stolen v_this_now_plan_fewest v_this_now_plan_wrong v_this_now_plan_latest v_this_now_plan_drift v_this_now_plan_superframe v_this_now_plan_channels v_this_now_plan_checkBits v_this_now_plan_zeros v_this_now_plan_ones v_this_now_plan_allFrames (n + 1) y92_l6 y92_l7 = ((if s_this_now_trunk_line ≤ y92_l7 then some (-1) else Option.bind (f_X2_at n_this_now_trunk_line_bits y92_l7 s_this_now_trunk_line r_this_now_trunk_line_bits) (fun u109_r => Option.bind (f_X5_isOther y92_l6 u109_r (v_this_now_plan_length, v_this_now_plan_roleCount, v_this_now_plan_poly, v_this_now_plan_width, v_this_now_plan_stolen, v_this_now_plan_fewest, v_this_now_plan_wrong, v_this_now_plan_latest, v_this_now_plan_drift, v_this_now_plan_superframe, v_this_now_plan_channels, v_this_now_plan_checkBits, v_this_now_plan_zeros, v_this_now_plan_ones, v_this_now_plan_allFrames)) (fun u112_r => (if u112_r = 0 then Option.bind (f_X5_placeBehind y92_l6 (v_this_now_plan_length, v_this_now_plan_roleCount, v_this_now_plan_poly, v_this_now_plan_width, v_this_now_plan_stolen, v_this_now_plan_fewest, v_this_now_plan_wrong, v_this_now_plan_latest, v_this_now_plan_drift, v_this_now_plan_superframe, v_this_now_plan_channels, v_this_now_plan_checkBits, v_this_now_plan_zeros, v_this_now_plan_ones, v_this_now_plan_allFrames)) (fun u124_r => (f_X11_struck_92 s_this_now_trunk_line n_this_now_trunk_line_bits r_this_now_trunk_line_bits v_this_now_plan_length v_this_now_plan_roleCount v_this_now_plan_poly v_this_now_plan_width v_this_now_plan_stolen v_this_now_plan_fewest v_this_now_plan_wrong v_this_now_plan_latest v_this_now_plan_drift v_this_now_plan_superframe v_this_now_plan_channels v_this_now_plan_checkBits v_this_now_plan_zeros v_this_now_plan_ones v_this_now_plan_allFrames n) u124_r (y92_l7 + v_this_now_plan_length)) else some y92_l7))))) := rfl
theorem f_X11_locks_47_s (s_this_now_trunk_line : Int32) (n_this_now_trunk_line_bits : Nat) (s_this_now_plan : SX5) (r_this_now_plan_roles : Nat → Int32) (r_this_now_trunk_line_bits : Nat → Int8) (x0 : Int32) (n : Nat) (y47_l4 : Int32) (y47_this_trial_receiver_mode : Int32) (y47_this_trial_receiver_starts : Int32) (y47_this_trial_receiver_mimics : Int32) (y47_this_trial_receiver_locked : Int32) (y47_this_trial_receiver_lost : Int32) (y47_this_trial_receiver_place : Int32) (y47_this_trial_receiver_offset : Int32) (y47_this_trial_receiver_since : Int32) (y47_this_trial_receiver_history : Int32) (y47_this_trial_receiver_badChecks : Int32) (y47_this_trial_receiver_hunt : SX1) (y47_this_trial_receiver_hunt_rows : (Nat → Int32)) (y47_this_trial_receiver_store : SX7) (y47_this_trial_receiver_ear : SX0) (y47_this_trial_receiver_ear_values : (Nat → Int32)) : f_X11_locks_47 s_this_now_trunk_line n_this_now_trunk_line_bits s_this_now_plan r_this_now_plan_roles r_this_now_trunk_line_bits x0 (n + 1) y47_l4 y47_this_trial_receiver_mode y47_this_trial_receiver_starts y47_this_trial_receiver_mimics y47_this_trial_receiver_locked y47_this_trial_receiver_lost y47_this_trial_receiver_place y47_this_trial_receiver_offset y47_this_trial_receiver_since y47_this_trial_receiver_history y47_this_trial_receiver_badChecks y47_this_trial_receiver_hunt y47_this_trial_receiver_hunt_rows y47_this_trial_receiver_store y47_this_trial_receiver_ear y47_this_trial_receiver_ear_values = ((if s_this_now_trunk_line ≤ y47_l4 then some ((-1), (y47_this_trial_receiver_mode, y47_this_trial_receiver_starts, y47_this_trial_receiver_mimics, y47_this_trial_receiver_locked, y47_this_trial_receiver_lost, y47_this_trial_receiver_place, y47_this_trial_receiver_offset, y47_this_trial_receiver_since, y47_this_trial_receiver_history, y47_this_trial_receiver_badChecks), y47_this_trial_receiver_hunt, y47_this_trial_receiver_hunt_rows, y47_this_trial_receiver_store, y47_this_trial_receiver_ear, y47_this_trial_receiver_ear_values) else Option.bind (f_X4_take n_this_now_trunk_line_bits y47_l4 (y47_this_trial_receiver_mode, y47_this_trial_receiver_starts, y47_this_trial_receiver_mimics, y47_this_trial_receiver_locked, y47_this_trial_receiver_lost, y47_this_trial_receiver_place, y47_this_trial_receiver_offset, y47_this_trial_receiver_since, y47_this_trial_receiver_history, y47_this_trial_receiver_badChecks) y47_this_trial_receiver_hunt y47_this_trial_receiver_hunt_rows y47_this_trial_receiver_store y47_this_trial_receiver_ear y47_this_trial_receiver_ear_values s_this_now_plan r_this_now_plan_roles s_this_now_trunk_line r_this_now_trunk_line_bits) (fun z => match z with | ((u67_this_trial_receiver_mode, u67_this_trial_receiver_starts, u67_this_trial_receiver_mimics, u67_this_trial_receiver_locked, u67_this_trial_receiver_lost, u67_this_trial_receiver_place, u67_this_trial_receiver_offset, u67_this_trial_receiver_since, u67_this_trial_receiver_history, u67_this_trial_receiver_badChecks), u67_this_trial_receiver_hunt, u67_this_trial_receiver_hunt_rows, u67_this_trial_receiver_store, u67_this_trial_receiver_ear, u67_this_trial_receiver_ear_values) => (if u67_this_trial_receiver_locked ≤ 0 then (f_X11_locks_47 s_this_now_trunk_line n_this_now_trunk_line_bits s_this_now_plan r_this_now_plan_roles r_this_now_trunk_line_bits x0 n) (y47_l4 + 1) u67_this_trial_receiver_mode u67_this_trial_receiver_starts u67_this_trial_receiver_mimics u67_this_trial_receiver_locked u67_this_trial_receiver_lost u67_this_trial_receiver_place u67_this_trial_receiver_offset u67_this_trial_receiver_since u67_this_trial_receiver_history u67_this_trial_receiver_badChecks u67_this_trial_receiver_hunt u67_this_trial_receiver_hunt_rows u67_this_trial_receiver_store u67_this_trial_receiver_ear u67_this_trial_receiver_ear_values else some (((y47_l4 + 1) - x0), (u67_this_trial_receiver_mode, u67_this_trial_receiver_starts, u67_this_trial_receiver_mimics, u67_this_trial_receiver_locked, u67_this_trial_receiver_lost, u67_this_trial_receiver_place, u67_this_trial_receiver_offset, u67_this_trial_receiver_since, u67_this_trial_receiver_history, u67_this_trial_receiver_badChecks), u67_this_trial_receiver_hunt, u67_this_trial_receiver_hunt_rows, u67_this_trial_receiver_store, u67_this_trial_receiver_ear, u67_this_trial_receiver_ear_values))))) := rfl
theorem f_X11_from_59_s (s_this_now_trunk_line : Int32) (x1 : Int32) (s_this_now_plan : SX5) (n_this_now_trunk_line_bits : Nat) (r_this_now_plan_roles : Nat → Int32) (r_this_now_trunk_line_bits : Nat → Int8) (n : Nat) (y59_l5 : Int32) (y59_this_trial_receiver : SX4) (y59_this_trial_receiver_hunt : SX1) (y59_this_trial_receiver_hunt_rows : (Nat → Int32)) (y59_this_trial_receiver_store : SX7) (y59_this_trial_receiver_ear : SX0) (y59_this_trial_receiver_ear_values : (Nat → Int32)) : f_X11_from_59 s_this_now_trunk_line x1 s_this_now_plan n_this_now_trunk_line_bits r_this_now_plan_roles r_this_now_trunk_line_bits (n + 1) y59_l5 y59_this_trial_receiver y59_this_trial_receiver_hunt y59_this_trial_receiver_hunt_rows y59_this_trial_receiver_store y59_this_trial_receiver_ear y59_this_trial_receiver_ear_values = ((if s_this_now_trunk_line ≤ y59_l5 then Option.bind (f_X4_tell x1 y59_this_trial_receiver y59_this_trial_receiver_hunt y59_this_trial_receiver_store y59_this_trial_receiver_ear s_this_now_plan) (fun u99_r => some (u99_r, y59_this_trial_receiver, y59_this_trial_receiver_hunt, y59_this_trial_receiver_hunt_rows, y59_this_trial_receiver_store, y59_this_trial_receiver_ear, y59_this_trial_receiver_ear_values)) else Option.bind (f_X4_take n_this_now_trunk_line_bits y59_l5 y59_this_trial_receiver y59_this_trial_receiver_hunt y59_this_trial_receiver_hunt_rows y59_this_trial_receiver_store y59_this_trial_receiver_ear y59_this_trial_receiver_ear_values s_this_now_plan r_this_now_plan_roles s_this_now_trunk_line r_this_now_trunk_line_bits) (fun z => match z with | (u80_this_trial_receiver, u80_this_trial_receiver_hunt, u80_this_trial_receiver_hunt_rows, u80_this_trial_receiver_store, u80_this_trial_receiver_ear, u80_this_trial_receiver_ear_values) => (f_X11_from_59 s_this_now_trunk_line x1 s_this_now_plan n_this_now_trunk_line_bits r_this_now_plan_roles r_this_now_trunk_line_bits n) (y59_l5 + 1) u80_this_trial_receiver u80_this_trial_receiver_hunt u80_this_trial_receiver_hunt_rows u80_this_trial_receiver_store u80_this_trial_receiver_ear u80_this_trial_receiver_ear_values))) := rfl
theorem checks11_c {n : Nat} (hn : n < 2 ^ 31) (x y : Int32) (p : SX5) (h : PS p) (ro : Nat → Int32) (t z : Int32) (b : Nat → Int8) : Td (f_X11_checks n x y p ro t z b) := by
  obtain ⟨x0, x1, x2, x3, x4, x5, x6, x7, x8, x9, x10, x11, x12, x13, x14⟩ := p
  unfold f_X11_checks
  exact tt_i (fun _ => tdr) (fun _ => tt_i (fun _ => tt_b (checksOf_c hn _ _ h _ _ _) (fun _ _ => tdr)) (fun _ => tdr))
theorem candidate_c (x y : Int32) (p : SX5) (h : PS p) (t : Int32) (s : SX4) (u : SX1) (r : Nat → Int32) : Td (f_X11_candidate x y p t s u r) := by
  unfold f_X11_candidate
  exact tt_i (fun _ => tt_b (hnth_c _ _ _ _ h) (fun _ _ => tdr)) (fun _ => tdr)
theorem cn40_c {n : Nat} (hn : n < 2 ^ 31) {W : Nat} (hW : W ≤ 60) (x y z : Int32) (b : Nat → Int8) (m : Nat) : ∀ (k f : Nat) (_ : k + m = W) (_ : m ≤ f) (a : Int32), Td (f_X11_channelNumber_40 (nI W) n x y z b (f + 1) a (nI k)) := by
  induction m with
  | zero =>
    intro k f h _ a
    rw [f_X11_channelNumber_40_s, if_pos (nI_le (by omega) (by omega))]
    exact tdr
  | succ m ih =>
    intro k f h hf a
    obtain ⟨f, rfl⟩ : ∃ q, f = q + 1 := ⟨f - 1, by omega⟩
    rw [f_X11_channelNumber_40_s, if_neg (nI_ge (by omega) (by omega)), nI_1]
    exact tt_b (at_c hn _ _ _) (fun _ _ => ih (k + 1) f (by omega) (by omega) _)
theorem channelNumber_c {n : Nat} (hn : n < 2 ^ 31) (x c y : Int32) (p : SX5) (h : PS p) (t z : Int32) (b : Nat → Int8) : Td (f_X11_channelNumber n x c y p t z b) := by
  obtain ⟨x0, x1, x2, x3, x4, x5, x6, x7, x8, x9, x10, x11, x12, x13, x14⟩ := p
  obtain ⟨L, R, W, C, _, _, _, _, _, h5, h6, _⟩ := h
  have h5 : x3 = nI W := h5
  subst h5
  unfold f_X11_channelNumber
  exact tt_i (fun _ => tdr) (fun _ => tt_i (fun _ => cn40_c hn h6 _ _ _ _ W 0 65535 (by omega) (by omega) _) (fun _ => tdr))
theorem cO31_c {n : Nat} (hn : n < 2 ^ 31) {C W : Nat} (hC : C * W ≤ 1380) (x : Int32) (hx : BD x) (z : Int32) (b : Nat → Int8) (m : Nat) : ∀ (k f : Nat) (_ : k + m = C * W) (_ : m ≤ f) (a : Int32), Td (f_X11_channelOnes_31 x (nI C) (nI W) n z b (f + 1) a (x + nI (k + 1))) := by
  induction m with
  | zero =>
    intro k f h _ a
    rw [f_X11_channelOnes_31_s, pk_mul, if_pos ((bd_lt hx (by omega) (by omega)).mpr (by omega))]
    exact tdr
  | succ m ih =>
    intro k f h hf a
    obtain ⟨f, rfl⟩ : ∃ q, f = q + 1 := ⟨f - 1, by omega⟩
    rw [f_X11_channelOnes_31_s, pk_mul, if_neg (fun e => absurd ((bd_lt hx (by omega) (by omega)).mp e) (by omega)), Int32.add_assoc, nI_1]
    exact tt_b (at_c hn _ _ _) (fun _ _ => ih (k + 1) f (by omega) (by omega) _)
theorem channelOnes_c {n : Nat} (hn : n < 2 ^ 31) (x y : Int32) (hx : BD x) (p : SX5) (h : PS p) (t z : Int32) (b : Nat → Int8) : Td (f_X11_channelOnes n x y p t z b) := by
  obtain ⟨x0, x1, x2, x3, x4, x5, x6, x7, x8, x9, x10, x11, x12, x13, x14⟩ := p
  obtain ⟨L, R, W, C, _, _, _, _, _, h5, h6, _, h8, h9⟩ := h
  have h5 : x3 = nI W := h5
  have h8 : x10 = nI C := h8
  subst h5
  subst h8
  have hm : C * W ≤ 1380 := Nat.le_trans (Nat.mul_le_mul h9 h6) (by decide)
  unfold f_X11_channelOnes
  exact cO31_c hn hm x hx _ _ (C * W) 0 65535 (by omega) (by omega) _
theorem frame_c {n : Nat} (hn : n < 2 ^ 31) (x y : Int32) (p : SX5) (h : PS p) (t z : Int32) (b : Nat → Int8) (s : SX4) (st : SX7) (hst : SS st) : Td (f_X11_frame n x y p t z b s st) := by
  obtain ⟨a0, a1, a2, a3, a4, a5, a6, a7, a8, a9, a10, a11, a12, a13, a14, a15, a16⟩ := st
  obtain ⟨_, _, h3⟩ := hst
  have h3 : BD a10 := h3
  unfold f_X11_frame
  exact tt_i (fun _ => tdr) (fun _ => tt_i (fun _ => tdr) (fun _ => tt_i (fun _ => tdr) (fun _ => tt_i (fun _ => tt_b (channelOnes_c hn _ _ h3 _ h _ _ _) (fun _ _ => tdr)) (fun _ => tt_i (fun _ => tt_b (channelNumber_c hn _ _ _ _ h _ _ _) (fun _ _ => tdr)) (fun _ => tdr)))))
theorem value_c (x y t : Int32) (s : SX4) (e : SX0) (v : Nat → Int32) : Td (f_X11_value x y t s e v) := by
  unfold f_X11_value
  exact tt_b (enth_c _ _ _) (fun _ _ => tdr)
theorem receiver_c (x y : Int32) (p : SX5) (t : Int32) (s : SX4) (u : SX1) (st : SX7) (e : SX0) : Td (f_X11_receiver x y p t s u st e) := by
  unfold f_X11_receiver
  exact tt_b (rtell_c _ _ _ _ _ _) (fun _ _ => tdr)
theorem bit_c {n : Nat} (hn : n < 2 ^ 31) (x y t z : Int32) (b : Nat → Int8) : Td (f_X11_bit n x y t z b) := by
  unfold f_X11_bit
  exact tt_b (at_c hn _ _ _) (fun _ _ => tdr)
theorem count_c (x y : Int32) (p : SX5) (q : SX8) (t z : Int32) (g : SX6) : Td (f_X11_count x y p q t z g) := by
  unfold f_X11_count
  iterate 16 refine tt_i (fun _ => tdr) (fun _ => ?_)
  exact tdr
theorem from59_c {n : Nat} (hn : n < 2 ^ 31) {N : Nat} (hN : N ≤ 6304) (x : Int32) (p : SX5) (h : PS p) (ro : Nat → Int32) (b : Nat → Int8) (m : Nat) : ∀ (k f : Nat) (_ : k + m = N) (_ : m ≤ f) (s : SX4) (u : SX1) (r : Nat → Int32) (st : SX7) (e : SX0) (v : Nat → Int32), Td (f_X11_from_59 (nI N) x p n ro b (f + 1) (nI k) s u r st e v) := by
  induction m with
  | zero =>
    intro k f q _ s u r st e v
    rw [f_X11_from_59_s, if_pos (nI_le (by omega) (by omega))]
    exact tt_b (rtell_c _ _ _ _ _ _) (fun _ _ => tdr)
  | succ m ih =>
    intro k f q hf s u r st e v
    obtain ⟨f, rfl⟩ : ∃ q, f = q + 1 := ⟨f - 1, by omega⟩
    rw [f_X11_from_59_s, if_neg (nI_ge (by omega) (by omega)), nI_1]
    exact tt_b (rtake_c hn _ _ _ _ _ _ _ _ h _ _ _) (fun _ _ => ih (k + 1) f (by omega) (by omega) _ _ _ _ _ _)
theorem locks47_c {n : Nat} (hn : n < 2 ^ 31) {N : Nat} (hN : N ≤ 6304) (x : Int32) (p : SX5) (h : PS p) (ro : Nat → Int32) (b : Nat → Int8) (m : Nat) : ∀ (k f : Nat) (_ : k + m = N) (_ : m ≤ f) (s0 s1 s2 s3 s4 s5 s6 s7 s8 s9 : Int32) (u : SX1) (r : Nat → Int32) (st : SX7) (e : SX0) (v : Nat → Int32), Td (f_X11_locks_47 (nI N) n p ro b x (f + 1) (nI k) s0 s1 s2 s3 s4 s5 s6 s7 s8 s9 u r st e v) := by
  induction m with
  | zero =>
    intro k f q _ s0 s1 s2 s3 s4 s5 s6 s7 s8 s9 u r st e v
    rw [f_X11_locks_47_s, if_pos (nI_le (by omega) (by omega))]
    exact tdr
  | succ m ih =>
    intro k f q hf s0 s1 s2 s3 s4 s5 s6 s7 s8 s9 u r st e v
    obtain ⟨f, rfl⟩ : ∃ q, f = q + 1 := ⟨f - 1, by omega⟩
    rw [f_X11_locks_47_s, if_neg (nI_ge (by omega) (by omega)), nI_1]
    exact tt_b (rtake_c hn _ _ _ _ _ _ _ _ h _ _ _) (fun _ _ => tt_i (fun _ => ih (k + 1) f (by omega) (by omega) _ _ _ _ _ _ _ _ _ _ _ _ _ _ _) (fun _ => tdr))
theorem from_c {n : Nat} (hn : n < 2 ^ 31) (x y c : Int32) (p : SX5) (h : PS p) (ro : Nat → Int32) (t : Int32) {z : Int32} (hz : ZL 4000 z) (b : Nat → Int8) (tr : Int32) (s : SX4) (u : SX1) (r : Nat → Int32) (st : SX7) (e : SX0) (v : Nat → Int32) : Td (f_X11_from n x y c p ro t z b tr s u r st e v) := by
  obtain ⟨N, hN, rfl⟩ := hz
  unfold f_X11_from
  refine tt_i (fun _ => tdr) (fun h0 => tt_i (fun _ => tdr) (fun h1 => tt_i (fun _ => tdr) (fun _ => tt_i (fun _ => ?_) (fun _ => tdr))))
  obtain ⟨k, hk, rfl⟩ := nI_of h0
  rw [nI_leI (by omega) hk] at h1
  exact tt_b (rbegin_c _ _ _ _ _ _) (fun _ _ => from59_c hn (show N ≤ 6304 by omega) _ _ h _ _ (N - k) k 65535 (by omega) (by omega) _ _ _ _ _ _)
theorem locks_c {n : Nat} (hn : n < 2 ^ 31) (x c : Int32) (p : SX5) (h : PS p) (ro : Nat → Int32) (t : Int32) {z : Int32} (hz : ZL 4000 z) (b : Nat → Int8) (tr : Int32) (s : SX4) (u : SX1) (r : Nat → Int32) (st : SX7) (e : SX0) (v : Nat → Int32) : Td (f_X11_locks n x c p ro t z b tr s u r st e v) := by
  obtain ⟨N, hN, rfl⟩ := hz
  unfold f_X11_locks
  refine tt_i (fun _ => tdr) (fun h0 => tt_i (fun h1 => ?_) (fun _ => tdr))
  obtain ⟨k, hk, rfl⟩ := nI_of h0
  rw [nI_ltI hk (by omega)] at h1
  exact tt_b (rbegin_c _ _ _ _ _ _) (fun _ _ => locks47_c hn (show N ≤ 6304 by omega) _ _ h _ _ (N - k) k 65535 (by omega) (by omega) _ _ _ _ _ _ _ _ _ _ _ _ _ _ _)
theorem fits52_c {n : Nat} (hn : n < 2 ^ 31) {N : Nat} (hN : N ≤ 6304) (x : Int32) (p : SX5) (h : PS p) (z : Int32) (b : Nat → Int8) (m : Nat) : ∀ (k f : Nat) (_ : k + m = N) (_ : m ≤ f) (u0 u1 u2 u3 u4 : Int32) (r : Nat → Int32), Td (f_X11_fits_52 (nI N) x p n z b (f + 1) (nI k) u0 u1 u2 u3 u4 r) := by
  have h90 : ∀ u0 u1 u2 u3 u4 r, Td (f_X11_fits_90 x u0 u1 u2 u3 u4 r p) := by
    intro u0 u1 u2 u3 u4 r
    unfold f_X11_fits_90
    exact tt_i (fun _ => tdr) (fun _ => tt_b (hnth_c _ _ _ _ h) (fun _ _ => tdr))
  induction m with
  | zero =>
    intro k f q _ u0 u1 u2 u3 u4 r
    rw [f_X11_fits_52_s, if_pos (nI_le (by omega) (by omega))]
    exact h90 _ _ _ _ _ _
  | succ m ih =>
    intro k f q hf u0 u1 u2 u3 u4 r
    obtain ⟨f, rfl⟩ : ∃ q, f = q + 1 := ⟨f - 1, by omega⟩
    rw [f_X11_fits_52_s, if_neg (nI_ge (by omega) (by omega)), nI_1]
    exact tt_i (fun _ => h90 _ _ _ _ _ _) (fun _ => tt_b (at_c hn _ _ _) (fun _ _ => tt_b (hfollow_c _ _ _ _) (fun _ _ => ih (k + 1) f (by omega) (by omega) _ _ _ _ _ _)))
theorem fits_c {n : Nat} (hn : n < 2 ^ 31) (x y c : Int32) (p : SX5) (h : PS p) (t : Int32) {z : Int32} (hz : ZL 4000 z) (b : Nat → Int8) (tr : Int32) (s : SX4) (u : SX1) (r : Nat → Int32) : Td (f_X11_fits n x y c p t z b tr s u r) := by
  obtain ⟨N, hN, rfl⟩ := hz
  unfold f_X11_fits
  refine tt_i (fun _ => tdr) (fun h0 => tt_i (fun h1 => ?_) (fun _ => tdr))
  obtain ⟨k, hk, rfl⟩ := nI_of h0
  rw [nI_leI hk (by omega)] at h1
  exact tt_b (hbegin_c _ _ _) (fun _ _ => fits52_c hn (show k ≤ 6304 by omega) _ _ h _ _ k 0 65535 (by omega) (by omega) _ _ _ _ _ _)
theorem listen_any {n : Nat} (hn : n < 2 ^ 31) {N k : Nat} (hN : N ≤ 6304) (hk : k ≤ 6304) (z : Int32) (b : Nat → Int8) (s : SX4) (u : SX1) (r : Nat → Int32) (st : SX7) (e : SX0) (v : Nat → Int32) (p : SX5) (h : PS p) (ro : Nat → Int32) : Td (f_X9_listen n (nI N) (nI k) z b s u r st e v p ro) := by
  by_cases c : k ≤ N
  · exact tt_m (listen_c hn hN c z b s u r st e v p h ro) (fun _ _ => trivial)
  · unfold f_X9_listen
    rw [show (65536 : Nat) = 65535 + 1 from rfl, f_X9_listen_5_s, if_pos (nI_le (by omega) (by omega))]
    exact tdr
theorem struck92_c {n : Nat} (hn : n < 2 ^ 31) {Z L : Nat} (hZ : Z ≤ 4000) (hL0 : 4 ≤ L) (hL : L ≤ 24) (b : Nat → Int8) (x1 x2 x3 x4 x5 x6 x7 x8 x9 x10 x11 x12 x13 x14 : Int32) (m : Nat) : ∀ (a f : Nat) (_ : Z ≤ a + m) (_ : m ≤ f) (_ : a ≤ 5000) (c : Int32), Td (f_X11_struck_92 (nI Z) n b (nI L) x1 x2 x3 x4 x5 x6 x7 x8 x9 x10 x11 x12 x13 x14 (f + 1) c (nI a)) := by
  induction m with
  | zero =>
    intro a f h _ _ c
    rw [f_X11_struck_92_s, if_pos (nI_le (by omega) (by omega))]
    exact tdr
  | succ m ih =>
    intro a f h hf ha c
    obtain ⟨f, rfl⟩ : ∃ q, f = q + 1 := ⟨f - 1, by omega⟩
    rw [f_X11_struck_92_s, nI_add]
    refine tt_i (fun _ => tdr) (fun q => tt_b (at_c hn _ _ _) (fun _ _ => tt_b (isOther_c _ _ _) (fun _ _ => tt_i (fun _ => tt_b (placeBehind_c _ _) (fun _ _ => ih (a + L) f (by omega) (by omega) ?_ _)) (fun _ => tdr))))
    rw [nI_leI (by omega) (by omega)] at q
    omega
theorem framesStarted_v {q L : Nat} (hq : q ≤ 1000) (hL0 : 4 ≤ L) (hL : L ≤ 24) (x1 x2 x3 x4 x5 x6 x7 x8 x9 x10 x11 x12 x13 x14 : Int32) : f_X5_framesStarted (nI q) (nI L, x1, x2, x3, x4, x5, x6, x7, x8, x9, x10, x11, x12, x13, x14) = some (nI ((q + L - 1) / L)) := by
  unfold f_X5_framesStarted
  simp only []
  rw [if_neg (nI_nle (by omega) (by omega)), m_gI (show ¬ nI L = 0 from fun e => absurd ((nI_eq (b := 0) (by omega) (by omega)).mp e) (by omega)), nI_add, show nI (q + L) - 1 = nI (q + L - 1) from pk_sub (b := 1) (by omega), pk_div (by omega) (by omega) (by omega)]
theorem struck_c {n : Nat} (hn : n < 2 ^ 31) (x y c : Int32) (p : SX5) (h : PS p) (t : Int32) {z : Int32} (hz : ZL 4000 z) (b : Nat → Int8) : Td (f_X11_struck n x y c p t z b) := by
  obtain ⟨N, hN, rfl⟩ := hz
  obtain ⟨x0, x1, x2, x3, x4, x5, x6, x7, x8, x9, x10, x11, x12, x13, x14⟩ := p
  obtain ⟨L, R, W, C, h0, h1, h2, h3, h4, _, _, h7, _⟩ := h
  have h0 : x0 = nI L := h0
  have h7 : x9 = nI (L * R) := h7
  subst h0
  subst h7
  have hm : L * R ≤ 24 * 12 := Nat.mul_le_mul h2 h4
  unfold f_X11_struck
  refine tt_i (fun _ => tdr) (fun i0 => tt_i (fun _ => tdr) (fun i1 => tt_i (fun _ => tdr) (fun i2 => tt_i (fun _ => tdr) (fun i3 => tt_i (fun _ => ?_) (fun _ => tdr)))))
  obtain ⟨i, hi, rfl⟩ := nI_of i0
  obtain ⟨q, hq, rfl⟩ := nI_of i2
  rw [nI_leI (by omega) hi] at i1
  rw [nI_leI (by omega) hq] at i3
  rw [framesStarted_v (by omega) h1 h2, bso]
  have hd : (q + L - 1) / L * L + (q + L - 1) % L = q + L - 1 := by rw [Nat.mul_comm]; exact Nat.div_add_mod _ _
  have hr : (q + L - 1) % L < L := Nat.mod_lt _ (by omega)
  have go : ∀ w, Td (f_X11_struck_77 (nI N) n b (nI L) x1 x2 x3 x4 x5 x6 x7 x8 (nI (L * R)) x10 x11 x12 x13 x14 (nI i) (nI ((q + L - 1) / L)) (nI q) w) := by
    intro w
    unfold f_X11_struck_77
    rw [pk_mul, nI_add, pk_sub (by omega)]
    exact struck92_c hn hN h1 h2 _ _ _ _ _ _ _ _ _ _ _ _ _ _ _ 4000 _ 65535 (by omega) (by omega) (by omega) _
  exact tt_i (fun _ => go _) (fun _ => go _)
/-- a text's size -/
def ZT (s : SX8) : Prop := ∃ z : Nat, z ≤ 300 ∧ s.1 = nI z
theorem pcopy_c (s : SX5) (r : Nat → Int32) (s' : SX5) (r' : Nat → Int32) : Tt (f_X5_copyFrom s r s' r') (fun q => q.1 = s') := by
  unfold f_X5_copyFrom
  exact tt_r rfl
theorem xcopy_c (s : SX8) (r : Nat → Int8) (s' : SX8) (h : ZT s') (r' : Nat → Int8) : Tt (f_X8_copyFrom s r s' r') (fun q => q.1 = s') := by
  obtain ⟨a, b, c⟩ := s'
  obtain ⟨z, hz, h⟩ := h
  have h : a = nI z := h
  subst h
  unfold f_X8_copyFrom
  simp only []
  rw [show (if (300 : Int32) < nI z then 300 else nI z) = nI z from if_neg (show ¬ nI 300 < nI z from nI_nlt hz (by omega))]
  rw [show (if 0 < nI z then nI z else 0) = nI z from by
    by_cases c : 0 < nI z
    · rw [if_pos c]
    · rw [if_neg c]
      rcases Nat.eq_zero_or_pos z with e | e
      · rw [e]; rfl
      · exact absurd (nI_lt (a := 0) e (by omega)) c]
  refine tt_n (tt_g ⟨by decide, by decide, nI_pos (by omega), ?_, ?_⟩ (tt_r rfl))
  · rw [nI_clamp (by omega)]; show 0 + z ≤ 300; omega
  · rw [nI_clamp (by omega)]; show 0 + z ≤ 300; omega
theorem ap39_c {z j : Nat} (hz : z + j ≤ 300) (hj : j ≤ 8) (fl fp : Int32) (x : Int64) (m : Nat) : ∀ (k f : Nat) (_ : k + m = j) (_ : m ≤ f) (b : Nat → Int8), Tt (f_X8_append_39 (nI j) (nI z) fl fp x (f + 1) (nI k) b) (fun q => ZT q.2.1 ∧ q.1 = nI (z + j)) := by
  induction m with
  | zero =>
    intro k f h _ b
    rw [f_X8_append_39_s, if_pos (nI_le (by omega) (by omega)), nI_add]
    exact tt_r ⟨⟨z + j, by omega, rfl⟩, rfl⟩
  | succ m ih =>
    intro k f h hf b
    obtain ⟨f, rfl⟩ : ∃ q, f = q + 1 := ⟨f - 1, by omega⟩
    rw [f_X8_append_39_s, if_neg (nI_ge (by omega) (by omega)), nI_1, nI_add]
    exact tt_b (⟨_, rfl, trivial⟩ : Td _) (fun _ _ => tt_in (nI_in (by omega) (by decide)) (ih (k + 1) f (by omega) (by omega) _))
theorem ap22_c {z j : Nat} (hz : z ≤ 300) (hj : j ≤ 8) (fl fp : Int32) (x : Int64) (b : Nat → Int8) : Tt (f_X8_append_22 (nI z) (nI j) fl fp x b) (fun q => ZT q.2.1) := by
  unfold f_X8_append_22
  rw [nI_add]
  refine tt_i (fun h => ?_) (fun _ => tt_r ⟨z, hz, rfl⟩)
  have h : nI (z + j) ≤ nI 300 := h
  rw [nI_leI (by omega) (by omega)] at h
  exact tt_m (ap39_c h hj _ _ _ j 0 65535 (by omega) (by omega) _) (fun _ q => q.1)
theorem ap2_c {z : Nat} (hz : z ≤ 300) (fl fp : Int32) (x : Int64) (b : Nat → Int8) (m : Nat) : ∀ (k f : Nat) (_ : k + m = 8) (_ : m ≤ f), Tt (f_X8_append_2 (nI z) fl fp x b (f + 1) (nI k)) (fun q => ZT q.2.1) := by
  induction m with
  | zero =>
    intro k f h _
    rw [f_X8_append_2_s, if_pos (show (8 : Int32) ≤ nI k from nI_le (a := 8) (by omega) (by omega))]
    exact ap22_c hz (by omega) _ _ _ _
  | succ m ih =>
    intro k f h hf
    obtain ⟨f, rfl⟩ : ∃ q, f = q + 1 := ⟨f - 1, by omega⟩
    rw [f_X8_append_2_s, if_neg (show ¬ (8 : Int32) ≤ nI k from nI_ge (b := 8) (by omega) (by omega)), nI_1]
    exact tt_b (⟨_, rfl, trivial⟩ : Td _) (fun _ _ => tt_i (fun _ => ap22_c hz (by omega) _ _ _ _) (fun _ => ih (k + 1) f (by omega) (by omega)))
theorem append8_c (x : Int64) (s : SX8) (h : ZT s) (b : Nat → Int8) : Tt (f_X8_append x s b) (fun q => ZT q.2.1) := by
  obtain ⟨a, fl, fp⟩ := s
  obtain ⟨z, hz, h⟩ := h
  have h : a = nI z := h
  subst h
  unfold f_X8_append
  exact ap2_c hz _ _ _ _ 8 0 65535 (by omega) (by omega)
/-- the state of the class that a call leaves: what is now, or what is kept -/
def WC (p : SX5) (x : SX8) (t z : Int32) (st : SX7) : Prop := PS p ∧ ZT x ∧ ZL 4000 t ∧ ZL 4000 z ∧ SS st
theorem copy9_s {n n0 : Nat} (hn : n < 2 ^ 31) (hn0 : n0 ≤ n) (y z : Int32) (b : Nat → Int8) (g : SX6) (w : Nat → Int32) (s : SX4) (u : SX1) (r : Nat → Int32) (st : SX7) (e : SX0) (v : Nat → Int32) (y' z' : Int32) (hz : ZL n0 z') (b' : Nat → Int8) (g' : SX6) (w' : Nat → Int32) (s' : SX4) (u' : SX1) (r' : Nat → Int32) (st' : SX7) (e' : SX0) (v' : Nat → Int32) : Tt (f_X9_copyFrom n n0 y z b g w s u r st e v y' z' b' g' w' s' u' r' st' e' v') (fun q => q.1 = y' ∧ q.2.1 = z' ∧ q.2.2.2.2.2.2.2.2.1 = st') := by
  unfold f_X9_copyFrom
  exact tt_b (lcopy_c hn hn0 _ _ hz _) (fun q hq => tt_b (⟨_, rfl, trivial⟩ : Td _) (fun _ _ => tt_b (P := fun q => q.2.2.2.1 = st') ⟨_, rfl, rfl⟩ (fun _ h => tt_r ⟨rfl, hq, h⟩)))
