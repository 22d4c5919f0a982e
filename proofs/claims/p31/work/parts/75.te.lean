theorem f_X5_derive_68_s (v_this_roleCount : Int32) (v_this_length : Int32) (v_this_poly : Int32) (v_this_width : Int32) (v_this_stolen : Int32) (v_this_fewest : Int32) (v_this_wrong : Int32) (v_this_latest : Int32) (v_this_drift : Int32) (y36_t0 : Int32) (r_this_roles : Nat → Int32) (n : Nat) (y68_l1 : Int32) (y68_this_checkBits : Int32) (y68_this_zeros : Int32) (y68_this_ones : Int32) : f_X5_derive_68 v_this_roleCount v_this_length v_this_poly v_this_width v_this_stolen v_this_fewest v_this_wrong v_this_latest v_this_drift y36_t0 r_this_roles (n + 1) y68_l1 y68_this_checkBits y68_this_zeros y68_this_ones = ((if v_this_roleCount ≤ y68_l1 then some (v_this_length, v_this_roleCount, v_this_poly, v_this_width, v_this_stolen, v_this_fewest, v_this_wrong, v_this_latest, v_this_drift, (v_this_length * v_this_roleCount), y36_t0, y68_this_checkBits, y68_this_zeros, y68_this_ones, (((1 : Int32) <<< (v_this_roleCount &&& 31)) - 1)) else (if 12 ≤ y68_l1 then some (v_this_length, v_this_roleCount, v_this_poly, v_this_width, v_this_stolen, v_this_fewest, v_this_wrong, v_this_latest, v_this_drift, (v_this_length * v_this_roleCount), y36_t0, y68_this_checkBits, y68_this_zeros, y68_this_ones, (((1 : Int32) <<< (v_this_roleCount &&& 31)) - 1)) else m_in y68_l1 12 ((if (r_this_roles y68_l1.toNatClampNeg) = 2 then f_X5_derive_151 y68_l1 (f_X5_derive_68 v_this_roleCount v_this_length v_this_poly v_this_width v_this_stolen v_this_fewest v_this_wrong v_this_latest v_this_drift y36_t0 r_this_roles n) (y68_this_checkBits + 1) y68_this_zeros y68_this_ones else m_in y68_l1 12 ((if (r_this_roles y68_l1.toNatClampNeg) = 0 then f_X5_derive_151 y68_l1 (f_X5_derive_68 v_this_roleCount v_this_length v_this_poly v_this_width v_this_stolen v_this_fewest v_this_wrong v_this_latest v_this_drift y36_t0 r_this_roles n) y68_this_checkBits (y68_this_zeros ||| ((1 : Int32) <<< (y68_l1 &&& 31))) y68_this_ones else m_in y68_l1 12 ((if (r_this_roles y68_l1.toNatClampNeg) = 1 then f_X5_derive_151 y68_l1 (f_X5_derive_68 v_this_roleCount v_this_length v_this_poly v_this_width v_this_stolen v_this_fewest v_this_wrong v_this_latest v_this_drift y36_t0 r_this_roles n) y68_this_checkBits y68_this_zeros (y68_this_ones ||| ((1 : Int32) <<< (y68_l1 &&& 31))) else f_X5_derive_151 y68_l1 (f_X5_derive_68 v_this_roleCount v_this_length v_this_poly v_this_width v_this_stolen v_this_fewest v_this_wrong v_this_latest v_this_drift y36_t0 r_this_roles n) y68_this_checkBits y68_this_zeros y68_this_ones))))))))) := rfl
theorem f_X5_checksOf_73_s (v_this_length : Int32) (y44_l8 : Int32) (y68_t0 : Int32) (n_p0_bits : Nat) (s_p0 : Int32) (r_p0_bits : Nat → Int8) (v_this_checkBits : Int32) (u25_e : Int32) (k44 : Int32 → Int32 → Int32 → Option (Int32)) (n : Nat) (y73_l6 : Int32) (y73_l7 : Int32) (y73_l10 : Int32) : f_X5_checksOf_73 v_this_length y44_l8 y68_t0 n_p0_bits s_p0 r_p0_bits v_this_checkBits u25_e k44 (n + 1) y73_l6 y73_l7 y73_l10 = ((if v_this_length ≤ y73_l10 then k44 y73_l6 y73_l7 (y44_l8 + 1) else (if y68_t0 = 0 then f_X5_checksOf_96 n_p0_bits y73_l7 s_p0 r_p0_bits y73_l6 v_this_checkBits y73_l10 u25_e (f_X5_checksOf_73 v_this_length y44_l8 y68_t0 n_p0_bits s_p0 r_p0_bits v_this_checkBits u25_e k44 n) else (if y73_l10 = 0 then f_X5_checksOf_102 y73_l6 v_this_checkBits y73_l7 y73_l10 u25_e (f_X5_checksOf_73 v_this_length y44_l8 y68_t0 n_p0_bits s_p0 r_p0_bits v_this_checkBits u25_e k44 n) 1 else f_X5_checksOf_96 n_p0_bits y73_l7 s_p0 r_p0_bits y73_l6 v_this_checkBits y73_l10 u25_e (f_X5_checksOf_73 v_this_length y44_l8 y68_t0 n_p0_bits s_p0 r_p0_bits v_this_checkBits u25_e k44 n))))) := rfl
theorem f_X5_checksOf_44_s (v_this_roleCount : Int32) (v_this_length : Int32) (v_this_poly : Int32) (v_this_width : Int32) (v_this_stolen : Int32) (v_this_fewest : Int32) (v_this_wrong : Int32) (v_this_latest : Int32) (v_this_drift : Int32) (v_this_superframe : Int32) (v_this_channels : Int32) (v_this_checkBits : Int32) (v_this_zeros : Int32) (v_this_ones : Int32) (v_this_allFrames : Int32) (r_this_roles : Nat → Int32) (n_p0_bits : Nat) (s_p0 : Int32) (r_p0_bits : Nat → Int8) (u25_e : Int32) (n : Nat) (y44_l6 : Int32) (y44_l7 : Int32) (y44_l8 : Int32) : f_X5_checksOf_44 v_this_roleCount v_this_length v_this_poly v_this_width v_this_stolen v_this_fewest v_this_wrong v_this_latest v_this_drift v_this_superframe v_this_channels v_this_checkBits v_this_zeros v_this_ones v_this_allFrames r_this_roles n_p0_bits s_p0 r_p0_bits u25_e (n + 1) y44_l6 y44_l7 y44_l8 = ((if v_this_roleCount ≤ y44_l8 then some y44_l6 else Option.bind (f_X5_roleAt y44_l8 (v_this_length, v_this_roleCount, v_this_poly, v_this_width, v_this_stolen, v_this_fewest, v_this_wrong, v_this_latest, v_this_drift, v_this_superframe, v_this_channels, v_this_checkBits, v_this_zeros, v_this_ones, v_this_allFrames) r_this_roles) (fun u56_r => (if u56_r = 2 then f_X5_checksOf_68 v_this_length y44_l8 n_p0_bits s_p0 r_p0_bits v_this_checkBits u25_e y44_l6 y44_l7 (f_X5_checksOf_44 v_this_roleCount v_this_length v_this_poly v_this_width v_this_stolen v_this_fewest v_this_wrong v_this_latest v_this_drift v_this_superframe v_this_channels v_this_checkBits v_this_zeros v_this_ones v_this_allFrames r_this_roles n_p0_bits s_p0 r_p0_bits u25_e n) 1 else f_X5_checksOf_68 v_this_length y44_l8 n_p0_bits s_p0 r_p0_bits v_this_checkBits u25_e y44_l6 y44_l7 (f_X5_checksOf_44 v_this_roleCount v_this_length v_this_poly v_this_width v_this_stolen v_this_fewest v_this_wrong v_this_latest v_this_drift v_this_superframe v_this_channels v_this_checkBits v_this_zeros v_this_ones v_this_allFrames r_this_roles n_p0_bits s_p0 r_p0_bits u25_e n) 0)))) := rfl
theorem f_X5_checksHold_5_s (v_this_roleCount : Int32) (n_p0_bits : Nat) (x1 : Int32) (v_this_superframe : Int32) (v_this_length : Int32) (v_this_poly : Int32) (v_this_width : Int32) (v_this_stolen : Int32) (v_this_fewest : Int32) (v_this_wrong : Int32) (v_this_latest : Int32) (v_this_drift : Int32) (v_this_channels : Int32) (v_this_checkBits : Int32) (v_this_zeros : Int32) (v_this_ones : Int32) (v_this_allFrames : Int32) (r_this_roles : Nat → Int32) (s_p0 : Int32) (r_p0_bits : Nat → Int8) (n : Nat) (y5_l3 : Int32) (y5_l4 : Int32) : f_X5_checksHold_5 v_this_roleCount n_p0_bits x1 v_this_superframe v_this_length v_this_poly v_this_width v_this_stolen v_this_fewest v_this_wrong v_this_latest v_this_drift v_this_channels v_this_checkBits v_this_zeros v_this_ones v_this_allFrames r_this_roles s_p0 r_p0_bits (n + 1) y5_l3 y5_l4 = ((if v_this_roleCount ≤ y5_l4 then Option.bind (f_X5_checksOf n_p0_bits (x1 - v_this_superframe) (v_this_length, v_this_roleCount, v_this_poly, v_this_width, v_this_stolen, v_this_fewest, v_this_wrong, v_this_latest, v_this_drift, v_this_superframe, v_this_channels, v_this_checkBits, v_this_zeros, v_this_ones, v_this_allFrames) r_this_roles s_p0 r_p0_bits) (fun u57_r => (if y5_l3 = u57_r then some 1 else some 0)) else Option.bind (f_X5_roleAt y5_l4 (v_this_length, v_this_roleCount, v_this_poly, v_this_width, v_this_stolen, v_this_fewest, v_this_wrong, v_this_latest, v_this_drift, v_this_superframe, v_this_channels, v_this_checkBits, v_this_zeros, v_this_ones, v_this_allFrames) r_this_roles) (fun u17_r => (if u17_r = 2 then Option.bind (f_X2_at n_p0_bits (x1 + (y5_l4 * v_this_length)) s_p0 r_p0_bits) (fun u37_r => f_X5_checksHold_42 y5_l4 (f_X5_checksHold_5 v_this_roleCount n_p0_bits x1 v_this_superframe v_this_length v_this_poly v_this_width v_this_stolen v_this_fewest v_this_wrong v_this_latest v_this_drift v_this_channels v_this_checkBits v_this_zeros v_this_ones v_this_allFrames r_this_roles s_p0 r_p0_bits n) ((y5_l3 * 2) + u37_r)) else f_X5_checksHold_42 y5_l4 (f_X5_checksHold_5 v_this_roleCount n_p0_bits x1 v_this_superframe v_this_length v_this_poly v_this_width v_this_stolen v_this_fewest v_this_wrong v_this_latest v_this_drift v_this_channels v_this_checkBits v_this_zeros v_this_ones v_this_allFrames r_this_roles s_p0 r_p0_bits n) y5_l3)))) := rfl
theorem f_X1_begin_2_s (v_p0_length : Int32) (v_p0_superframe : Int32) (v_p0_allFrames : Int32) (n : Nat) (y2_l2 : Int32) (y2_this_rows : (Nat → Int32)) : f_X1_begin_2 v_p0_length v_p0_superframe v_p0_allFrames (n + 1) y2_l2 y2_this_rows = ((if v_p0_length ≤ y2_l2 then f_X1_begin_32 v_p0_superframe y2_this_rows else (if 24 ≤ y2_l2 then f_X1_begin_32 v_p0_superframe y2_this_rows else m_in y2_l2 24 ((f_X1_begin_2 v_p0_length v_p0_superframe v_p0_allFrames n) (y2_l2 + 1) (upd y2_this_rows y2_l2.toNatClampNeg v_p0_allFrames))))) := rfl
theorem f_X6_dequeue_2_s (v_this_waiting : Int32) (v_this_lastChecks : Int32) (n : Nat) (y2_l1 : Int32) (y2_this_values : (Nat → Int32)) : f_X6_dequeue_2 v_this_waiting v_this_lastChecks (n + 1) y2_l1 y2_this_values = ((if 8 ≤ y2_l1 then some (((v_this_waiting - 1), 0, v_this_lastChecks), y2_this_values) else m_in y2_l1 8 (m_in (y2_l1 - 1) 8 ((f_X6_dequeue_2 v_this_waiting v_this_lastChecks n) (y2_l1 + 1) (upd y2_this_values (y2_l1 - 1).toNatClampNeg (y2_this_values y2_l1.toNatClampNeg)))))) := rfl
theorem f_X6_transmitOne_82_s (v_p0_length : Int32) (y79_l6 : Int32) (y18_l7 : Int32) (y79_this_waiting : Int32) (y79_this_begun : Int32) (y79_this_lastChecks : Int32) (y79_this_values : Nat → Int32) (n_p1_bits : Nat) (k18 : Int32 → Int32 → Int32 → Int32 → Int32 → Int32 → (Nat → Int32) → Int32 → (Nat → Int8) → Option (Int32 × SX6 × (Nat → Int32) × Int32 × (Nat → Int8))) (n : Nat) (y82_l4 : Int32) (y82_l9 : Int32) (y82_p1_size : Int32) (y82_p1_bits : (Nat → Int8)) : f_X6_transmitOne_82 v_p0_length y79_l6 y18_l7 y79_this_waiting y79_this_begun y79_this_lastChecks y79_this_values n_p1_bits k18 (n + 1) y82_l4 y82_l9 y82_p1_size y82_p1_bits = ((if v_p0_length ≤ y82_l9 then k18 y82_l4 y79_l6 (y18_l7 + 1) y79_this_waiting y79_this_begun y79_this_lastChecks y79_this_values y82_p1_size y82_p1_bits else Option.bind (f_X2_append n_p1_bits ((((y82_l4 * 1103515245) + 12345).toUInt32 >>> ((16 : Int32).toUInt32 &&& Int32.toUInt32 31)).toInt32 &&& 1) y82_p1_size y82_p1_bits) (fun z => match z with | (u110_p1_size, u110_p1_bits) => (f_X6_transmitOne_82 v_p0_length y79_l6 y18_l7 y79_this_waiting y79_this_begun y79_this_lastChecks y79_this_values n_p1_bits k18 n) ((y82_l4 * 1103515245) + 12345) (y82_l9 + 1) u110_p1_size u110_p1_bits))) := rfl
theorem f_X6_transmitOne_18_s (v_p0_roleCount : Int32) (n_p1_bits : Nat) (s_p1 : Int32) (v_p0_length : Int32) (v_p0_poly : Int32) (v_p0_width : Int32) (v_p0_stolen : Int32) (v_p0_fewest : Int32) (v_p0_wrong : Int32) (v_p0_latest : Int32) (v_p0_drift : Int32) (v_p0_superframe : Int32) (v_p0_channels : Int32) (v_p0_checkBits : Int32) (v_p0_zeros : Int32) (v_p0_ones : Int32) (v_p0_allFrames : Int32) (r_p0_roles : Nat → Int32) (n : Nat) (y18_l4 : Int32) (y18_l6 : Int32) (y18_l7 : Int32) (y18_this_waiting : Int32) (y18_this_begun : Int32) (y18_this_lastChecks : Int32) (y18_this_values : (Nat → Int32)) (y18_p1_size : Int32) (y18_p1_bits : (Nat → Int8)) : f_X6_transmitOne_18 v_p0_roleCount n_p1_bits s_p1 v_p0_length v_p0_poly v_p0_width v_p0_stolen v_p0_fewest v_p0_wrong v_p0_latest v_p0_drift v_p0_superframe v_p0_channels v_p0_checkBits v_p0_zeros v_p0_ones v_p0_allFrames r_p0_roles (n + 1) y18_l4 y18_l6 y18_l7 y18_this_waiting y18_this_begun y18_this_lastChecks y18_this_values y18_p1_size y18_p1_bits = ((if v_p0_roleCount ≤ y18_l7 then Option.bind (f_X5_checksOf n_p1_bits s_p1 (v_p0_length, v_p0_roleCount, v_p0_poly, v_p0_width, v_p0_stolen, v_p0_fewest, v_p0_wrong, v_p0_latest, v_p0_drift, v_p0_superframe, v_p0_channels, v_p0_checkBits, v_p0_zeros, v_p0_ones, v_p0_allFrames) r_p0_roles y18_p1_size y18_p1_bits) (fun u130_r => some (y18_l4, (y18_this_waiting, y18_this_begun, u130_r), y18_this_values, y18_p1_size, y18_p1_bits)) else Option.bind (f_X5_roleAt y18_l7 (v_p0_length, v_p0_roleCount, v_p0_poly, v_p0_width, v_p0_stolen, v_p0_fewest, v_p0_wrong, v_p0_latest, v_p0_drift, v_p0_superframe, v_p0_channels, v_p0_checkBits, v_p0_zeros, v_p0_ones, v_p0_allFrames) r_p0_roles) (fun u30_r => (if u30_r = 2 then Option.bind (f_X2_append n_p1_bits ((y18_this_lastChecks >>> ((y18_l6 + (-1)) &&& 31)) &&& 1) y18_p1_size y18_p1_bits) (fun z => match z with | (u54_p1_size, u54_p1_bits) => f_X6_transmitOne_79 v_p0_length y18_l7 n_p1_bits y18_l4 (f_X6_transmitOne_18 v_p0_roleCount n_p1_bits s_p1 v_p0_length v_p0_poly v_p0_width v_p0_stolen v_p0_fewest v_p0_wrong v_p0_latest v_p0_drift v_p0_superframe v_p0_channels v_p0_checkBits v_p0_zeros v_p0_ones v_p0_allFrames r_p0_roles n) (y18_l6 + (-1)) y18_this_waiting y18_this_begun y18_this_lastChecks y18_this_values u54_p1_size u54_p1_bits) else (if u30_r = 3 then Option.bind (f_X6_linkBit (y18_this_waiting, y18_this_begun, y18_this_lastChecks) y18_this_values) (fun z => match z with | (u68_r, (u68_this_waiting, u68_this_begun, u68_this_lastChecks), u68_this_values) => f_X6_transmitOne_76 n_p1_bits y18_p1_size y18_p1_bits v_p0_length y18_l7 y18_l4 y18_l6 (f_X6_transmitOne_18 v_p0_roleCount n_p1_bits s_p1 v_p0_length v_p0_poly v_p0_width v_p0_stolen v_p0_fewest v_p0_wrong v_p0_latest v_p0_drift v_p0_superframe v_p0_channels v_p0_checkBits v_p0_zeros v_p0_ones v_p0_allFrames r_p0_roles n) u68_r u68_this_waiting u68_this_begun u68_this_lastChecks u68_this_values) else f_X6_transmitOne_76 n_p1_bits y18_p1_size y18_p1_bits v_p0_length y18_l7 y18_l4 y18_l6 (f_X6_transmitOne_18 v_p0_roleCount n_p1_bits s_p1 v_p0_length v_p0_poly v_p0_width v_p0_stolen v_p0_fewest v_p0_wrong v_p0_latest v_p0_drift v_p0_superframe v_p0_channels v_p0_checkBits v_p0_zeros v_p0_ones v_p0_allFrames r_p0_roles n) u30_r y18_this_waiting y18_this_begun y18_this_lastChecks y18_this_values))))) := rfl
theorem f_X0_keep_3_s (v_this_taken : Int32) (v_this_spoilt : Int32) (v_this_begun : Int32) (v_this_partial : Int32) (x0 : Int32) (n : Nat) (y3_l2 : Int32) (y3_this_values : (Nat → Int32)) : f_X0_keep_3 v_this_taken v_this_spoilt v_this_begun v_this_partial x0 (n + 1) y3_l2 y3_this_values = ((if y3_l2 ≤ 0 then some (((v_this_taken + 1), v_this_spoilt, v_this_begun, v_this_partial), (upd y3_this_values 0 x0)) else m_in (y3_l2 - 1) 8 (m_in y3_l2 8 ((f_X0_keep_3 v_this_taken v_this_spoilt v_this_begun v_this_partial x0 n) (y3_l2 + (-1)) (upd y3_this_values y3_l2.toNatClampNeg (y3_this_values (y3_l2 - 1).toNatClampNeg)))))) := rfl
abbrev Td {α : Type} (A : Option α) : Prop := Tt A (fun _ => True)
theorem tdr {α : Type} {a : α} : Td (some a) := tt_r trivial
theorem vin {x : Int32} {n : Nat} (h0 : ¬ x < 0) (h1 : ¬ nI n ≤ x) (hn : n < 2 ^ 31) : vp_in x n := by
  obtain ⟨j, hj, rfl⟩ := nI_of h0
  refine nI_in ?_ hn
  rw [nI_leI hn hj] at h1
  omega
/-- a scheme's sizes -/
def PS (s : SX5) : Prop := ∃ L R W C : Nat, s.1 = nI L ∧ 4 ≤ L ∧ L ≤ 24 ∧ s.2.1 = nI R ∧ R ≤ 12 ∧ s.2.2.2.1 = nI W ∧ W ≤ 60 ∧ s.2.2.2.2.2.2.2.2.2.1 = nI (L * R) ∧ s.2.2.2.2.2.2.2.2.2.2.1 = nI C ∧ C ≤ 23
theorem at_c {n : Nat} (hn : n < 2 ^ 31) (x s : Int32) (r : Nat → Int8) : Td (f_X2_at n x s r) := by
  unfold f_X2_at
  exact tt_i (fun _ => tdr) (fun h0 => tt_i (fun _ => tdr) (fun _ => tt_i (fun _ => tdr) (fun h1 => tt_in (vin h0 h1 hn) tdr)))
theorem roleAt_c (x : Int32) (s : SX5) (r : Nat → Int32) : Td (f_X5_roleAt x s r) := by
  unfold f_X5_roleAt
  exact tt_i (fun _ => tdr) (fun h0 => tt_i (fun _ => tdr) (fun _ => tt_i (fun _ => tdr) (fun h1 => tt_in (vin h0 h1 (by decide)) tdr)))
theorem placeBehind_c (x : Int32) (s : SX5) : Td (f_X5_placeBehind x s) := by
  unfold f_X5_placeBehind
  exact tt_i (fun _ => tdr) (fun _ => tdr)
theorem framesStarted_c (x : Int32) (s : SX5) : Td (f_X5_framesStarted x s) := by
  unfold f_X5_framesStarted
  exact tt_i (fun _ => tdr) (fun h => tt_g (fun e => h (by rw [e]; decide)) tdr)
theorem bitCount_c (x : Int32) : Td (f_J6_bitCount_0f7a4 x) := ⟨_, rfl, trivial⟩
theorem fixedStarted_c (x : Int32) (s : SX5) : Td (f_X5_fixedStarted x s) := by
  unfold f_X5_fixedStarted
  exact tt_i (fun h => tt_b (framesStarted_c _ _) (fun _ _ => tt_g (fun e => by rw [e] at h; exact absurd h (by decide)) (tt_b (bitCount_c _) (fun _ _ => tt_b (bitCount_c _) (fun _ _ => tdr))))) (fun _ => tdr)
theorem isFixed_c (x : Int32) (s : SX5) : Td (f_X5_isFixed x s) := by
  unfold f_X5_isFixed
  exact tt_i (fun _ => tdr) (fun _ => tdr)
theorem isOther_c (x y : Int32) (s : SX5) : Td (f_X5_isOther x y s) := by
  unfold f_X5_isOther f_X5_isOther_15
  exact tt_i (fun _ => tt_i (fun _ => tdr) (fun _ => tdr)) (fun _ => tt_i (fun _ => tdr) (fun _ => tdr))
theorem isSignalPlace_c (x : Int32) (s : SX5) : Td (f_X5_isSignalPlace x s) := by
  unfold f_X5_isSignalPlace
  exact tt_i (fun _ => tdr) (fun h => tt_g (fun e => h (by rw [e]; decide)) (tt_i (fun _ => tdr) (fun _ => tdr)))
theorem co102_c {K : Int32 → Int32 → Int32 → Option Int32} {l10 : Int32} (hK : ∀ a b, Td (K a b (l10 + 1))) (l6 cb l7 u t : Int32) : Td (f_X5_checksOf_102 l6 cb l7 l10 u K t) := by
  unfold f_X5_checksOf_102 f_X5_checksOf_121 f_X5_checksOf_143
  exact tt_i (fun _ => tt_n (tt_i (fun _ => hK _ _) (fun _ => hK _ _))) (fun _ => tt_n (tt_i (fun _ => hK _ _) (fun _ => hK _ _)))
theorem co96_c {n : Nat} (hn : n < 2 ^ 31) {K : Int32 → Int32 → Int32 → Option Int32} {l10 : Int32} (hK : ∀ a b, Td (K a b (l10 + 1))) (l6 cb l7 u s : Int32) (r : Nat → Int8) : Td (f_X5_checksOf_96 n l7 s r l6 cb l10 u K) := by
  unfold f_X5_checksOf_96
  exact tt_b (at_c hn _ _ _) (fun _ _ => co102_c hK _ _ _ _ _)
theorem co73_c {n : Nat} (hn : n < 2 ^ 31) {L : Nat} (hL : L ≤ 24) {k44 : Int32 → Int32 → Int32 → Option Int32} {l8 : Int32} (hk : ∀ a b, Td (k44 a b (l8 + 1))) (t s cb u : Int32) (r : Nat → Int8) (m : Nat) : ∀ (k f : Nat) (_ : k + m = L) (_ : m ≤ f) (a b : Int32), Td (f_X5_checksOf_73 (nI L) l8 t n s r cb u k44 (f + 1) a b (nI k)) := by
  induction m with
  | zero =>
    intro k f h _ a b
    rw [f_X5_checksOf_73_s, if_pos (nI_le (by omega) (by omega))]
    exact hk _ _
  | succ m ih =>
    intro k f h hf a b
    obtain ⟨f, rfl⟩ : ∃ q, f = q + 1 := ⟨f - 1, by omega⟩
    have hK : ∀ a b, Td (f_X5_checksOf_73 (nI L) l8 t n s r cb u k44 (f + 1) a b (nI k + 1)) := fun a b => by rw [nI_1]; exact ih (k + 1) f (by omega) (by omega) a b
    rw [f_X5_checksOf_73_s, if_neg (nI_ge (by omega) (by omega))]
    exact tt_i (fun _ => co96_c hn hK _ _ _ _ _ _) (fun _ => tt_i (fun _ => co102_c hK _ _ _ _ _) (fun _ => co96_c hn hK _ _ _ _ _ _))
theorem co44_c {n : Nat} (hn : n < 2 ^ 31) {L R : Nat} (hL : L ≤ 24) (hR : R ≤ 12) (x0 x1 x2 x3 x4 x5 x6 x7 x8 x9 x10 x11 x12 u s : Int32) (ro : Nat → Int32) (r : Nat → Int8) (m : Nat) : ∀ (k f : Nat) (_ : k + m = R) (_ : m ≤ f) (a b : Int32), Td (f_X5_checksOf_44 (nI R) (nI L) x0 x1 x2 x3 x4 x5 x6 x7 x8 x9 x10 x11 x12 ro n s r u (f + 1) a b (nI k)) := by
  induction m with
  | zero =>
    intro k f h _ a b
    rw [f_X5_checksOf_44_s, if_pos (nI_le (by omega) (by omega))]
    exact tdr
  | succ m ih =>
    intro k f h hf a b
    obtain ⟨f, rfl⟩ : ∃ q, f = q + 1 := ⟨f - 1, by omega⟩
    have hK : ∀ a b, Td (f_X5_checksOf_44 (nI R) (nI L) x0 x1 x2 x3 x4 x5 x6 x7 x8 x9 x10 x11 x12 ro n s r u (f + 1) a b (nI k + 1)) := fun a b => by rw [nI_1]; exact ih (k + 1) f (by omega) (by omega) a b
    rw [f_X5_checksOf_44_s, if_neg (nI_ge (by omega) (by omega))]
    refine tt_b (roleAt_c _ _ _) (fun q _ => ?_)
    unfold f_X5_checksOf_68
    exact tt_i (fun _ => co73_c hn hL hK _ _ _ _ _ L 0 65535 (by omega) (by omega) _ _) (fun _ => co73_c hn hL hK _ _ _ _ _ L 0 65535 (by omega) (by omega) _ _)
theorem checksOf_c {n : Nat} (hn : n < 2 ^ 31) (x : Int32) (s : SX5) (h : PS s) (ro : Nat → Int32) (z : Int32) (r : Nat → Int8) : Td (f_X5_checksOf n x s ro z r) := by
  obtain ⟨x0, x1, x2, x3, x4, x5, x6, x7, x8, x9, x10, x11, x12, x13, x14⟩ := s
  obtain ⟨L, R, W, C, h0, h1, h2, h3, h4, _⟩ := h
  have h0 : x0 = nI L := h0
  have h3 : x1 = nI R := h3
  subst h0
  subst h3
  unfold f_X5_checksOf
  exact tt_i (fun _ => tt_n (co44_c hn h2 h4 _ _ _ _ _ _ _ _ _ _ _ _ _ _ _ _ _ R 0 65535 (by omega) (by omega) _ _)) (fun _ => tdr)
theorem ch5_c {n : Nat} (hn : n < 2 ^ 31) {R : Nat} (hR : R ≤ 12) (x y0 x0 x1 x2 x3 x4 x5 x6 x7 x8 x9 x10 x11 x12 s : Int32) (ro : Nat → Int32) (r : Nat → Int8) (hc : ∀ z, Td (f_X5_checksOf n z (x0, nI R, x1, x2, x3, x4, x5, x6, x7, y0, x8, x9, x10, x11, x12) ro s r)) (m : Nat) : ∀ (k f : Nat) (_ : k + m = R) (_ : m ≤ f) (a : Int32), Td (f_X5_checksHold_5 (nI R) n x y0 x0 x1 x2 x3 x4 x5 x6 x7 x8 x9 x10 x11 x12 ro s r (f + 1) a (nI k)) := by
  induction m with
  | zero =>
    intro k f h _ a
    rw [f_X5_checksHold_5_s, if_pos (nI_le (by omega) (by omega))]
    exact tt_b (hc _) (fun _ _ => tt_i (fun _ => tdr) (fun _ => tdr))
  | succ m ih =>
    intro k f h hf a
    obtain ⟨f, rfl⟩ : ∃ q, f = q + 1 := ⟨f - 1, by omega⟩
    have hK : ∀ a, Td (f_X5_checksHold_5 (nI R) n x y0 x0 x1 x2 x3 x4 x5 x6 x7 x8 x9 x10 x11 x12 ro s r (f + 1) a (nI k + 1)) := fun a => by rw [nI_1]; exact ih (k + 1) f (by omega) (by omega) a
    rw [f_X5_checksHold_5_s, if_neg (nI_ge (by omega) (by omega))]
    refine tt_b (roleAt_c _ _ _) (fun q _ => ?_)
    unfold f_X5_checksHold_42
    exact tt_i (fun _ => tt_b (at_c hn _ _ _) (fun _ _ => hK _)) (fun _ => hK _)
theorem checksHold_c {n : Nat} (hn : n < 2 ^ 31) (x : Int32) (s : SX5) (h : PS s) (ro : Nat → Int32) (z : Int32) (r : Nat → Int8) : Td (f_X5_checksHold n x s ro z r) := by
  have hc := fun y => checksOf_c hn y s h ro z r
  obtain ⟨x0, x1, x2, x3, x4, x5, x6, x7, x8, x9, x10, x11, x12, x13, x14⟩ := s
  obtain ⟨L, R, W, C, _, _, _, h3, h4, _⟩ := h
  have h3 : x1 = nI R := h3
  subst h3
  unfold f_X5_checksHold
  exact ch5_c hn h4 _ _ _ _ _ _ _ _ _ _ _ _ _ _ _ _ _ _ hc R 0 65535 (by omega) (by omega) _
/-- a line's size -/
def ZL (n : Nat) (s : Int32) : Prop := ∃ z : Nat, z ≤ n ∧ s = nI z
theorem append_c {n : Nat} (hn : n < 2 ^ 31) (x : Int32) {s : Int32} (h : ZL n s) (r : Nat → Int8) : Tt (f_X2_append n x s r) (fun q => ZL n q.1) := by
  obtain ⟨z, hz, rfl⟩ := h
  unfold f_X2_append
  refine tt_i (fun _ => tt_r ⟨z, hz, rfl⟩) (fun h0 => tt_i (fun _ => tt_r ⟨z, hz, rfl⟩) (fun h1 => tt_in (vin h0 h1 hn) (tt_r ⟨z + 1, ?_, nI_1 z⟩)))
  rw [nI_leI hn (by omega)] at h1
  omega
theorem sub_nn {s x : Nat} (hs : s < 2 ^ 31) {y : Nat} (hy : y < 2 ^ 31) (hx : x < 2 ^ 31) (h : ¬ nI s - nI y < nI x) : y + x ≤ s := by
  by_cases c : y ≤ s
  · rw [pk_sub c, nI_ltI (by omega) hx] at h
    omega
  · exfalso
    apply h
    have e : (nI s - nI y).toInt = (s : Int) - y := by
      rw [Int32.toInt_sub, nI_toInt hs, nI_toInt hy]
      exact Int.bmod_eq_of_le (by omega) (by omega)
    rw [Int32.lt_iff_toInt_lt, e, nI_toInt hx]
    omega
theorem lcopy_c {n n0 : Nat} (hn : n < 2 ^ 31) (hn0 : n0 ≤ n) (s : Int32) (r : Nat → Int8) {s0 : Int32} (h : ZL n0 s0) (r0 : Nat → Int8) : Tt (f_X2_copyFrom n n0 s r s0 r0) (fun q => q.1 = s0) := by
  obtain ⟨z, hz, rfl⟩ := h
  unfold f_X2_copyFrom
  rw [show (if nI n < nI n0 then nI n else nI n0) = nI n0 from if_neg (nI_nlt hn0 hn)]
  rw [show (if nI n0 < nI z then nI n0 else nI z) = nI z from if_neg (nI_nlt hz (by omega))]
  rw [show (if 0 < nI z then nI z else 0) = nI z from by
    by_cases c : 0 < nI z
    · rw [if_pos c]
    · rw [if_neg c]
      rcases Nat.eq_zero_or_pos z with e | e
      · rw [e]; rfl
      · exact absurd (nI_lt (a := 0) e (by omega)) c]
  refine tt_n (tt_g ⟨by decide, by decide, nI_pos (by omega), ?_, ?_⟩ (tt_r rfl))
  · rw [nI_clamp (by omega)]; show 0 + z ≤ n0; omega
  · rw [nI_clamp (by omega)]; show 0 + z ≤ n; omega
theorem keep3_c (a b c d x : Int32) (m : Nat) : ∀ (f : Nat) (_ : m ≤ 7) (_ : m ≤ f) (v : Nat → Int32), Td (f_X0_keep_3 a b c d x (f + 1) (nI m) v) := by
  induction m with
  | zero =>
    intro f _ _ v
    rw [f_X0_keep_3_s, if_pos (by decide)]
    exact tdr
  | succ m ih =>
    intro f h hf v
    obtain ⟨f, rfl⟩ : ∃ q, f = q + 1 := ⟨f - 1, by omega⟩
    rw [f_X0_keep_3_s, if_neg (nI_nle (by omega) (by omega)), show nI (m + 1) + (-1) = nI m from (Int32.sub_eq_add_neg _ _).symm.trans (nI_pred m), nI_pred]
    exact tt_in (nI_in (by omega) (by decide)) (tt_in (nI_in (by omega) (by decide)) (ih f (by omega) (by omega) _))
theorem ekeep_c (x : Int32) (s : SX0) (v : Nat → Int32) : Td (f_X0_keep x s v) := by
  unfold f_X0_keep
  exact keep3_c _ _ _ _ _ 7 65535 (by omega) (by omega) _
theorem eforget_c (s : SX0) : Td (f_X0_forget s) := ⟨_, rfl, trivial⟩
theorem etake_c (x : Int32) (s : SX0) (v : Nat → Int32) : Td (f_X0_take x s v) := by
  unfold f_X0_take
  refine tt_i (fun _ => tt_i (fun _ => tdr) (fun _ => tdr)) (fun _ => tt_i (fun _ => tt_i (fun _ => ?_) (fun _ => ?_)) (fun _ => tdr))
  · refine tt_b (ekeep_c _ _ _) ?_
    rintro ⟨s1, v1⟩ _
    exact tt_b (eforget_c _) (fun _ _ => tdr)
  · exact tt_b (eforget_c _) (fun _ _ => tdr)
theorem enth_c (x : Int32) (s : SX0) (v : Nat → Int32) : Td (f_X0_nth x s v) := by
  unfold f_X0_nth
  exact tt_i (fun _ => tdr) (fun h0 => tt_i (fun _ => tdr) (fun _ => tt_i (fun _ => tdr) (fun h1 => tt_in (vin h0 h1 (by decide)) tdr)))
theorem come_c (x y : Int32) (s : SX7) : Td (f_X7_come x y s) := by
  unfold f_X7_come
  refine tt_i (fun _ => ?_) (fun _ => ?_)
  · unfold f_X7_come_22
    exact tt_i (fun _ => tdr) (fun _ => tdr)
  · refine tt_b (⟨_, rfl, trivial⟩ : Td _) (fun _ _ => ?_)
    unfold f_X7_come_22
    exact tt_i (fun _ => tdr) (fun _ => tdr)
theorem readOlder_c (s : SX7) (p : SX5) : Td (f_X7_readOlder s p) := by
  unfold f_X7_readOlder
  refine tt_b (⟨_, rfl, trivial⟩ : Td _) (fun _ _ => tt_b (isSignalPlace_c _ _) (fun _ _ => tt_i (fun _ => tdr) (fun _ => tt_n tdr)))
theorem tick_c (s : SX7) (p : SX5) : Td (f_X7_tick s p) := by
  unfold f_X7_tick
  exact tt_i (fun _ => tt_n (tt_i (fun _ => tt_i (fun _ => tdr) (fun _ => tdr)) (fun _ => tt_b (readOlder_c _ _) (fun _ _ => tdr)))) (fun _ => tdr)
theorem vin2 {x : Int32} {n : Nat} (h0 : ¬ x < 0) (h1 : x < nI n) (hn : n < 2 ^ 31) : vp_in x n := by
  obtain ⟨j, hj, rfl⟩ := nI_of h0
  refine nI_in ?_ hn
  rw [nI_ltI hj hn] at h1
  omega
theorem hb2_c (a b c : Int32) (m : Nat) : ∀ (k f : Nat) (_ : k + m = 24) (_ : m ≤ f) (r : Nat → Int32), Td (f_X1_begin_2 a b c (f + 1) (nI k) r) := by
  induction m with
  | zero =>
    intro k f h _ r
    rw [f_X1_begin_2_s]
    exact tt_i (fun _ => ⟨_, rfl, trivial⟩) (fun _ => tt_i (fun _ => ⟨_, rfl, trivial⟩) (fun e => absurd (nI_le (a := 24) (b := k) (by omega) (by omega)) e))
  | succ m ih =>
    intro k f h hf r
    obtain ⟨f, rfl⟩ : ∃ q, f = q + 1 := ⟨f - 1, by omega⟩
    rw [f_X1_begin_2_s, nI_1]
    exact tt_i (fun _ => ⟨_, rfl, trivial⟩) (fun _ => tt_i (fun _ => ⟨_, rfl, trivial⟩) (fun _ => tt_in (nI_in (by omega) (by decide)) (ih (k + 1) f (by omega) (by omega) _)))
theorem hbegin_c (s : SX1) (r : Nat → Int32) (p : SX5) : Td (f_X1_begin s r p) := by
  unfold f_X1_begin
  exact hb2_c _ _ _ 24 0 65535 (by omega) (by omega) _
theorem hfollow_c (x : Int32) (s : SX1) (r : Nat → Int32) (p : SX5) : Td (f_X1_follow x s r p) := by
  have go : ∀ a b c (h0 : ¬ c < 0) (h1 : c < nI 24) d e e1 e2 e3 e4 e5 e6 e7 e8 e9 e10 e11 e12 e13 e14 e15 e16 t, Td (f_X1_follow_32 a b c d e e1 e2 e3 e4 e5 e6 e7 e8 e9 e10 e11 e12 e13 e14 e15 e16 t) := by
    intro a b c h0 h1 d e e1 e2 e3 e4 e5 e6 e7 e8 e9 e10 e11 e12 e13 e14 e15 e16 t
    have v := vin2 h0 h1 (by decide)
    unfold f_X1_follow_32
    exact tt_n (tt_in v (tt_in v (tt_n (tt_in v (tt_b (bitCount_c _) (fun _ _ => tt_i (fun _ => tt_b (placeBehind_c _ _) (fun _ _ => tdr)) (fun _ => tdr)))))))
  unfold f_X1_follow
  exact tt_i (fun _ => tdr) (fun h0 => tt_i (fun h1 => tt_i (fun _ => go _ _ _ h0 h1 _ _ _ _ _ _ _ _ _ _ _ _ _ _ _ _ _ _ _) (fun _ => go _ _ _ h0 h1 _ _ _ _ _ _ _ _ _ _ _ _ _ _ _ _ _ _ _)) (fun _ => tdr))
theorem hn31_c {k19 : Int32 → Int32 → Option Int32} {l4 : Int32} (hk : ∀ a, Td (k19 a (l4 + 1))) (L : Int32) (r : Nat → Int32) (x : Int32) (m : Nat) : ∀ (k f : Nat) (_ : k + m = 24) (_ : m ≤ f) (a : Int32), Td (f_X1_nth_31 L l4 r x k19 (f + 1) a (nI k)) := by
  induction m with
  | zero =>
    intro k f h _ a
    rw [f_X1_nth_31_s]
    unfold f_X1_nth_84
    exact tt_i (fun _ => hk _) (fun _ => tt_i (fun _ => hk _) (fun e => absurd (nI_le (a := 24) (b := k) (by omega) (by omega)) e))
  | succ m ih =>
    intro k f h hf a
    obtain ⟨f, rfl⟩ : ∃ q, f = q + 1 := ⟨f - 1, by omega⟩
    rw [f_X1_nth_31_s, nI_1]
    unfold f_X1_nth_84
    exact tt_i (fun _ => hk _) (fun _ => tt_i (fun _ => hk _) (fun _ => tt_in (nI_in (by omega) (by decide)) (tt_n (tt_i (fun _ => ih (k + 1) f (by omega) (by omega) _) (fun _ => tdr)))))
theorem hn19_c {R : Nat} (hR : R ≤ 12) (L : Int32) (r : Nat → Int32) (x : Int32) (m : Nat) : ∀ (k f : Nat) (_ : k + m = R) (_ : m ≤ f) (a : Int32), Td (f_X1_nth_19 (nI R) L r x (f + 1) a (nI k)) := by
  induction m with
  | zero =>
    intro k f h _ a
    rw [f_X1_nth_19_s, if_pos (nI_le (by omega) (by omega))]
    exact tdr
  | succ m ih =>
    intro k f h hf a
    obtain ⟨f, rfl⟩ : ∃ q, f = q + 1 := ⟨f - 1, by omega⟩
    rw [f_X1_nth_19_s, if_neg (nI_ge (by omega) (by omega))]
    exact hn31_c (fun a => by rw [nI_1]; exact ih (k + 1) f (by omega) (by omega) a) _ _ _ 24 0 65535 (by omega) (by omega) _
theorem hnth_c (x : Int32) (s : SX1) (r : Nat → Int32) (p : SX5) (h : PS p) : Td (f_X1_nth x s r p) := by
  obtain ⟨x0, x1, x2, x3, x4, x5, x6, x7, x8, x9, x10, x11, x12, x13, x14⟩ := p
  obtain ⟨L, R, W, C, _, _, _, h3, h4, _⟩ := h
  have h3 : x1 = nI R := h3
  subst h3
  unfold f_X1_nth
  exact tt_i (fun _ => tdr) (fun _ => tt_i (fun _ => hn19_c h4 _ _ _ R 0 65535 (by omega) (by omega) _) (fun _ => tdr))
theorem hlone_c (s : SX1) (r : Nat → Int32) (p : SX5) (h : PS p) : Td (f_X1_lone s r p) := by
  unfold f_X1_lone
  exact tt_i (fun _ => tt_b (hnth_c _ _ _ _ h) (fun _ _ => tdr)) (fun _ => tdr)
theorem hfixed_c (s : SX1) (r : Nat → Int32) (p : SX5) (h : PS p) : Td (f_X1_fixedHeard s r p) := by
  unfold f_X1_fixedHeard
  exact tt_b (hlone_c _ _ _ h) (fun _ _ => tt_b (fixedStarted_c _ _) (fun _ _ => tt_b (fixedStarted_c _ _) (fun _ _ => tdr)))
theorem dq2_c (a b : Int32) (m : Nat) : ∀ (k f : Nat) (_ : k + m = 8) (_ : 1 ≤ k) (_ : m ≤ f) (v : Nat → Int32), Td (f_X6_dequeue_2 a b (f + 1) (nI k) v) := by
  induction m with
  | zero =>
    intro k f h _ _ v
    rw [f_X6_dequeue_2_s, if_pos (show (8 : Int32) ≤ nI k from nI_le (a := 8) (by omega) (by omega))]
    exact tdr
  | succ m ih =>
    intro k f h h1 hf v
    obtain ⟨f, rfl⟩ : ∃ q, f = q + 1 := ⟨f - 1, by omega⟩
    rw [f_X6_dequeue_2_s, if_neg (show ¬ (8 : Int32) ≤ nI k from nI_ge (b := 8) (by omega) (by omega)), show nI k - 1 = nI (k - 1) from pk_sub (b := 1) h1, nI_1]
    exact tt_in (nI_in (by omega) (by decide)) (tt_in (nI_in (by omega) (by decide)) (ih (k + 1) f (by omega) (by omega) (by omega) _))
theorem linkBit_c (s : SX6) (v : Nat → Int32) : Td (f_X6_linkBit s v) := by
  unfold f_X6_linkBit f_X6_linkBit_51
  refine tt_i (fun _ => tdr) (fun _ => tt_i (fun _ => tt_i (fun _ => tdr) (fun _ => tdr)) (fun _ => ?_))
  refine tt_b (P := fun _ => True) ?_ (fun _ _ => tdr)
  unfold f_X6_dequeue
  exact dq2_c _ _ 7 1 65535 (by omega) (by omega) (by omega) _
abbrev TQ1 (n : Nat) (q : Int32 × SX6 × (Nat → Int32) × Int32 × (Nat → Int8)) : Prop := ZL n q.2.2.2.1
theorem t82_c {n : Nat} (hn : n < 2 ^ 31) {L : Nat} (hL : L ≤ 24) {k18 : Int32 → Int32 → Int32 → Int32 → Int32 → Int32 → (Nat → Int32) → Int32 → (Nat → Int8) → Option (Int32 × SX6 × (Nat → Int32) × Int32 × (Nat → Int8))} {l7 : Int32} (hk : ∀ a b c d e v z r, ZL n z → Tt (k18 a b (l7 + 1) c d e v z r) (TQ1 n)) (b c d e : Int32) (v : Nat → Int32) (m : Nat) : ∀ (k f : Nat) (_ : k + m = L) (_ : m ≤ f) (a z : Int32) (_ : ZL n z) (r : Nat → Int8), Tt (f_X6_transmitOne_82 (nI L) b l7 c d e v n k18 (f + 1) a (nI k) z r) (TQ1 n) := by
  induction m with
  | zero =>
    intro k f h _ a z hz r
    rw [f_X6_transmitOne_82_s, if_pos (nI_le (by omega) (by omega))]
    exact hk _ _ _ _ _ _ _ _ hz
  | succ m ih =>
    intro k f h hf a z hz r
    obtain ⟨f, rfl⟩ : ∃ q, f = q + 1 := ⟨f - 1, by omega⟩
    rw [f_X6_transmitOne_82_s, if_neg (nI_ge (by omega) (by omega)), nI_1]
    refine tt_b (append_c hn _ hz _) ?_
    rintro ⟨z1, r1⟩ hz1
    exact ih (k + 1) f (by omega) (by omega) _ _ hz1 _
theorem t18_c {n : Nat} (hn : n < 2 ^ 31) {L R : Nat} (hL0 : 4 ≤ L) (hL : L ≤ 24) (hR : R ≤ 12) (s1 x0 x1 x2 x3 x4 x5 x6 x7 x8 x9 x10 x11 x12 : Int32) (ro : Nat → Int32) (hc : ∀ z b, Td (f_X5_checksOf n s1 (nI L, nI R, x0, x1, x2, x3, x4, x5, x6, x7, x8, x9, x10, x11, x12) ro z b)) (m : Nat) : ∀ (k f : Nat) (_ : k + m = R) (_ : m ≤ f) (a b c d e : Int32) (v : Nat → Int32) (z : Int32) (r : Nat → Int8) (_ : ZL n z), Tt (f_X6_transmitOne_18 (nI R) n s1 (nI L) x0 x1 x2 x3 x4 x5 x6 x7 x8 x9 x10 x11 x12 ro (f + 1) a b (nI k) c d e v z r) (TQ1 n) := by
  induction m with
  | zero =>
    intro k f h _ a b c d e v z r hz
    rw [f_X6_transmitOne_18_s, if_pos (nI_le (by omega) (by omega))]
    exact tt_b (hc _ _) (fun _ _ => tt_r hz)
  | succ m ih =>
    intro k f h hf a b c d e v z r hz
    obtain ⟨f, rfl⟩ : ∃ q, f = q + 1 := ⟨f - 1, by omega⟩
    have hK : ∀ a b c d e v z r, ZL n z → Tt (f_X6_transmitOne_18 (nI R) n s1 (nI L) x0 x1 x2 x3 x4 x5 x6 x7 x8 x9 x10 x11 x12 ro (f + 1) a b (nI k + 1) c d e v z r) (TQ1 n) := fun a b c d e v z r hz => by rw [nI_1]; exact ih (k + 1) f (by omega) (by omega) a b c d e v z r hz
    have h79 : ∀ a b c d e v z r, ZL n z → Tt (f_X6_transmitOne_79 (nI L) (nI k) n a (f_X6_transmitOne_18 (nI R) n s1 (nI L) x0 x1 x2 x3 x4 x5 x6 x7 x8 x9 x10 x11 x12 ro (f + 1)) b c d e v z r) (TQ1 n) := by
      intro a b c d e v z r hz
      unfold f_X6_transmitOne_79
      exact t82_c hn hL hK _ _ _ _ _ (L - 1) 1 65535 (by omega) (by omega) _ _ hz _
    have h76 : ∀ t c d e v, Tt (f_X6_transmitOne_76 n z r (nI L) (nI k) a b (f_X6_transmitOne_18 (nI R) n s1 (nI L) x0 x1 x2 x3 x4 x5 x6 x7 x8 x9 x10 x11 x12 ro (f + 1)) t c d e v) (TQ1 n) := by
      intro t c d e v
      unfold f_X6_transmitOne_76
      refine tt_b (append_c hn _ hz _) ?_
      rintro ⟨z1, r1⟩ hz1
      exact h79 _ _ _ _ _ _ _ _ hz1
    rw [f_X6_transmitOne_18_s, if_neg (nI_ge (by omega) (by omega))]
    refine tt_b (roleAt_c _ _ _) (fun q _ => tt_i (fun _ => ?_) (fun _ => tt_i (fun _ => ?_) (fun _ => h76 _ _ _ _ _)))
    · refine tt_b (append_c hn _ hz _) ?_
      rintro ⟨z1, r1⟩ hz1
      exact h79 _ _ _ _ _ _ _ _ hz1
    · refine tt_b (linkBit_c _ _) ?_
      rintro ⟨t, ⟨c1, d1, e1⟩, v1⟩ _
      exact h76 _ _ _ _ _
theorem transmitOne_c {n : Nat} (hn : n < 2 ^ 31) (x : Int32) (s : SX6) (v : Nat → Int32) (p : SX5) (h : PS p) (ro : Nat → Int32) (z : Int32) (hz : ZL n z) (r : Nat → Int8) : Tt (f_X6_transmitOne n x s v p ro z r) (TQ1 n) := by
  have hc := fun y b => checksOf_c hn z p h ro y b
  obtain ⟨x0, x1, x2, x3, x4, x5, x6, x7, x8, x9, x10, x11, x12, x13, x14⟩ := p
  obtain ⟨L, R, W, C, h0, h1, h2, h3, h4, _⟩ := h
  have h0 : x0 = nI L := h0
  have h3 : x1 = nI R := h3
  subst h0
  subst h3
  unfold f_X6_transmitOne
  exact t18_c hn h1 h2 h4 _ _ _ _ _ _ _ _ _ _ _ _ _ _ _ hc R 0 65535 (by omega) (by omega) _ _ _ _ _ _ _ _ hz
theorem transmit_c {n : Nat} (hn : n < 2 ^ 31) {N : Nat} (hN : N ≤ 8) (p : SX5) (h : PS p) (ro : Nat → Int32) (m : Nat) : ∀ (k f : Nat) (_ : k + m = N) (_ : m ≤ f) (a : Int32) (s : SX6) (v : Nat → Int32) (z : Int32) (r : Nat → Int8) (_ : ZL n z), Tt (f_X6_transmit_7 (nI N) n p ro (f + 1) a (nI k) s v z r) (fun q => ZL n q.2.2.1) := by
  induction m with
  | zero =>
    intro k f e _ a s v z r hz
    rw [f_X6_transmit_7_s, if_pos (nI_le (by omega) (by omega))]
    exact tt_r hz
  | succ m ih =>
    intro k f e hf a s v z r hz
    obtain ⟨f, rfl⟩ : ∃ q, f = q + 1 := ⟨f - 1, by omega⟩
    rw [f_X6_transmit_7_s, if_neg (nI_ge (by omega) (by omega)), nI_1]
    refine tt_b (transmitOne_c hn _ _ _ p h ro z hz _) ?_
    rintro ⟨a1, s1, v1, z1, r1⟩ hz1
    exact ih (k + 1) f (by omega) (by omega) _ _ _ _ _ hz1
theorem xmit_c {n : Nat} (hn : n < 2 ^ 31) {N : Nat} (hN : N ≤ 8) (x : Int32) (s : SX6) (v : Nat → Int32) (p : SX5) (h : PS p) (ro : Nat → Int32) (z : Int32) (hz : ZL n z) (r : Nat → Int8) : Tt (f_X6_transmit n (nI N) x s v p ro z r) (fun q => ZL n q.2.2.1) := by
  unfold f_X6_transmit
  exact transmit_c hn hN p h ro N 0 65535 (by omega) (by omega) _ _ _ _ _ hz
theorem rlock_c (s : SX4) (e : SX0) : Td (f_X4_lock s e) := by
  unfold f_X4_lock
  exact tt_b (eforget_c _) (fun _ _ => tdr)
theorem rfollow_c (s : SX4) (u : SX1) (r : Nat → Int32) (e : SX0) (p : SX5) (h : PS p) : Td (f_X4_followLone s u r e p) := by
  obtain ⟨x0, x1, x2, x3, x4, x5, x6, x7, x8, x9, x10, x11, x12, x13, x14⟩ := p
  unfold f_X4_followLone
  exact tt_i (fun _ => tdr) (fun h0 => tt_i (fun h1 => tt_b (hlone_c _ _ _ h) (fun _ _ => tt_g (fun e => h0 (by rw [e]; decide)) (tt_n (tt_g (fun e => by rw [e] at h1; exact absurd h1 (by decide)) (tt_i (fun _ => tt_b (rlock_c _ _) (fun _ _ => tdr)) (fun _ => tdr)))))) (fun _ => tdr))
theorem ranew_c (s : SX4) (u : SX1) (r : Nat → Int32) (p : SX5) : Td (f_X4_huntAnew s u r p) := by
  unfold f_X4_huntAnew
  exact tt_b (hbegin_c _ _ _) (fun _ _ => tdr)
theorem rhunt_c (x : Int32) (s : SX4) (u : SX1) (r : Nat → Int32) (e : SX0) (p : SX5) (h : PS p) : Td (f_X4_takeHunting x s u r e p) := by
  obtain ⟨x0, x1, x2, x3, x4, x5, x6, x7, x8, x9, x10, x11, x12, x13, x14⟩ := p
  unfold f_X4_takeHunting
  exact tt_b (hfollow_c _ _ _ _) (fun _ _ => tt_i (fun _ => tt_b (ranew_c _ _ _ _) (fun _ _ => tdr)) (fun _ => tt_i (fun _ => tt_b (hfixed_c _ _ _ h) (fun _ _ => tt_i (fun _ => tdr) (fun _ => tt_b (rfollow_c _ _ _ _ _ h) (fun _ _ => tdr)))) (fun _ => tdr)))
theorem radv_c (s : SX4) (p : SX5) : Td (f_X4_advance s p) := by
  unfold f_X4_advance
  exact tt_i (fun _ => tdr) (fun _ => tt_b (placeBehind_c _ _) (fun _ _ => tdr))
theorem rjudg_c (s : SX4) (p : SX5) : Td (f_X4_isJudged s p) := by
  unfold f_X4_isJudged
  exact tt_i (fun _ => tt_i (fun _ => tt_i (fun _ => tdr) (fun _ => tt_i (fun _ => tdr) (fun _ => tdr))) (fun _ => tdr)) (fun _ => tdr)
theorem rfirst_c (x : Int32) (s : SX4) (u : SX1) (r : Nat → Int32) (e : SX0) (v : Nat → Int32) (p : SX5) (ro : Nat → Int32) : Td (f_X4_takeFirst x s u r e v p ro) := by
  unfold f_X4_takeFirst f_X4_takeFirst_28
  refine tt_b (isFixed_c _ _) (fun _ _ => tt_i (fun _ => tt_b (roleAt_c _ _ _) (fun _ _ => tt_i (fun _ => tt_b (etake_c _ _ _) (fun _ _ => tdr)) (fun _ => tdr))) (fun _ => tt_b (isOther_c _ _ _) (fun _ _ => tt_i (fun _ => ?_) (fun _ => ?_))))
  · exact tt_n (tt_b (bitCount_c _) (fun _ _ => tt_i (fun _ => tdr) (fun _ => tt_b (ranew_c _ _ _ _) (fun _ _ => tdr))))
  · exact tt_n (tt_b (bitCount_c _) (fun _ _ => tt_i (fun _ => tdr) (fun _ => tt_b (ranew_c _ _ _ _) (fun _ _ => tdr))))
theorem rver_c {n : Nat} (hn : n < 2 ^ 31) (x : Int32) (s : SX4) (u : SX1) (r : Nat → Int32) (e : SX0) (p : SX5) (h : PS p) (ro : Nat → Int32) (z : Int32) (b : Nat → Int8) : Td (f_X4_takeVerifying n x s u r e p ro z b) := by
  obtain ⟨x0, x1, x2, x3, x4, x5, x6, x7, x8, x9, x10, x11, x12, x13, x14⟩ := p
  have h29 : ∀ a0 a1 a2 a3 a4 a5 a6 a7 a8 a9, Td (f_X4_takeVerifying_29 a0 a1 a2 a3 a4 a5 a6 a7 a8 a9 x0 x1 x2 x3 x4 x5 x6 x7 x8 x9 x10 x11 x12 x13 x14 u r e n x ro z b) := by
    intro a0 a1 a2 a3 a4 a5 a6 a7 a8 a9
    unfold f_X4_takeVerifying_29
    exact tt_b (radv_c _ _) (fun _ _ => tt_b (rjudg_c _ _) (fun _ _ => tt_i (fun _ => tdr) (fun _ => tt_b (checksHold_c hn _ _ h _ _ _) (fun _ _ => tt_i (fun _ => tt_b (ranew_c _ _ _ _) (fun _ _ => tdr)) (fun _ => tt_b (rlock_c _ _) (fun _ _ => tdr))))))
  unfold f_X4_takeVerifying
  exact tt_i (fun _ => tt_b (at_c hn _ _ _) (fun _ _ => tt_b (isOther_c _ _ _) (fun _ _ => tt_i (fun _ => h29 _ _ _ _ _ _ _ _ _ _) (fun _ => tt_b (ranew_c _ _ _ _) (fun _ _ => tdr))))) (fun _ => h29 _ _ _ _ _ _ _ _ _ _)
theorem rlocked_c {n : Nat} (hn : n < 2 ^ 31) (x : Int32) (s : SX4) (u : SX1) (r : Nat → Int32) (st : SX7) (e : SX0) (v : Nat → Int32) (p : SX5) (h : PS p) (ro : Nat → Int32) (z : Int32) (b : Nat → Int8) : Td (f_X4_takeLocked n x s u r st e v p ro z b) := by
  obtain ⟨x0, x1, x2, x3, x4, x5, x6, x7, x8, x9, x10, x11, x12, x13, x14⟩ := p
  have h73 : ∀ a0 a1 a2 a3 a4 a5 a6 a7 a8 a9 u r e v st, Td (f_X4_takeLocked_73 a0 a1 a2 a3 a4 a5 a6 a7 a8 a9 x0 x1 x2 x3 x4 x5 x6 x7 x8 x9 x10 x11 x12 x13 x14 u r e v n x ro z b st) := by
    intro a0 a1 a2 a3 a4 a5 a6 a7 a8 a9 u r e v st
    unfold f_X4_takeLocked_73
    exact tt_b (rjudg_c _ _) (fun _ _ => tt_i (fun _ => tdr) (fun _ => tt_b (checksHold_c hn _ _ h _ _ _) (fun _ _ => tt_i (fun _ => tdr) (fun _ => tdr))))
  have h26 : ∀ st a0 a1 a2 a3 a4 a5 a6 a7 a8 a9 u r e v, Td (f_X4_takeLocked_26 x0 x1 x2 x3 x4 x5 x6 x7 x8 x9 x10 x11 x12 x13 x14 n x ro z b st a0 a1 a2 a3 a4 a5 a6 a7 a8 a9 u r e v) := by
    intro st a0 a1 a2 a3 a4 a5 a6 a7 a8 a9 u r e v
    unfold f_X4_takeLocked_26
    exact tt_b (radv_c _ _) (fun _ _ => tt_i (fun _ => tt_i (fun _ => h73 _ _ _ _ _ _ _ _ _ _ _ _ _ _ _) (fun _ => tt_b (come_c _ _ _) (fun _ _ => h73 _ _ _ _ _ _ _ _ _ _ _ _ _ _ _))) (fun _ => tdr))
  unfold f_X4_takeLocked
  exact tt_i (fun _ => tt_b (at_c hn _ _ _) (fun _ _ => tt_b (rfirst_c _ _ _ _ _ _ _ _) (fun _ _ => tt_i (fun _ => h26 _ _ _ _ _ _ _ _ _ _ _ _ _ _ _) (fun _ => tdr)))) (fun _ => h26 _ _ _ _ _ _ _ _ _ _ _ _ _ _ _)
theorem rtake_c {n : Nat} (hn : n < 2 ^ 31) (x : Int32) (s : SX4) (u : SX1) (r : Nat → Int32) (st : SX7) (e : SX0) (v : Nat → Int32) (p : SX5) (h : PS p) (ro : Nat → Int32) (z : Int32) (b : Nat → Int8) : Td (f_X4_take n x s u r st e v p ro z b) := by
  have h59 : ∀ a0 a1 a2 a3 a4 a5 a6 a7 a8 a9 u r st e v, Td (f_X4_take_59 p a0 a1 a2 a3 a4 a5 a6 a7 a8 a9 u r st e v) := by
    intro a0 a1 a2 a3 a4 a5 a6 a7 a8 a9 u r st e v
    unfold f_X4_take_59
    exact tt_b (tick_c _ _) (fun _ _ => tdr)
  unfold f_X4_take
  exact tt_b (at_c hn _ _ _) (fun _ _ => tt_i (fun _ => tt_b (rhunt_c _ _ _ _ _ _ h) (fun _ _ => h59 _ _ _ _ _ _ _ _ _ _ _ _ _ _ _)) (fun _ => tt_i (fun _ => tt_b (rver_c hn _ _ _ _ _ _ h _ _ _) (fun _ _ => h59 _ _ _ _ _ _ _ _ _ _ _ _ _ _ _)) (fun _ => tt_b (rlocked_c hn _ _ _ _ _ _ _ _ h _ _ _) (fun _ _ => h59 _ _ _ _ _ _ _ _ _ _ _ _ _ _ _))))
theorem rtell_c (x : Int32) (s : SX4) (u : SX1) (st : SX7) (e : SX0) (p : SX5) : Td (f_X4_tell x s u st e p) := by
  unfold f_X4_tell
  iterate 6 refine tt_i (fun _ => by first | exact tdr | exact tt_i (fun _ => tdr) (fun _ => tdr)) (fun _ => ?_)
  iterate 2 refine tt_i (fun _ => by first | exact tdr | exact tt_i (fun _ => tdr) (fun _ => tdr)) (fun _ => ?_)
  refine tt_i (fun _ => tt_i (fun _ => tt_b (bitCount_c _) (fun _ _ => tdr)) (fun _ => tdr)) (fun _ => ?_)
  iterate 9 refine tt_i (fun _ => tdr) (fun _ => ?_)
  exact tdr
theorem rcopy_c (s : SX4) (u : SX1) (r : Nat → Int32) (st : SX7) (e : SX0) (v : Nat → Int32) (s' : SX4) (u' : SX1) (r' : Nat → Int32) (st' : SX7) (e' : SX0) (v' : Nat → Int32) : Td (f_X4_copyFrom s u r st e v s' u' r' st' e' v') := ⟨_, rfl, trivial⟩
theorem rbegin_c (s : SX4) (u : SX1) (r : Nat → Int32) (st : SX7) (e : SX0) (p : SX5) : Td (f_X4_begin s u r st e p) := by
  unfold f_X4_begin
  exact tt_b (hbegin_c _ _ _) (fun _ _ => tt_b (⟨_, rfl, trivial⟩ : Td _) (fun _ _ => tt_b (⟨_, rfl, trivial⟩ : Td _) (fun _ _ => tdr)))
theorem listen5_c {n : Nat} (hn : n < 2 ^ 31) {N : Nat} (hN : N ≤ 6304) (p : SX5) (h : PS p) (ro : Nat → Int32) (z : Int32) (b : Nat → Int8) (m : Nat) : ∀ (k f : Nat) (_ : k + m = N) (_ : m ≤ f) (s : SX4) (u : SX1) (r : Nat → Int32) (st : SX7) (e : SX0) (v : Nat → Int32), Tt (f_X9_listen_5 (nI N) n p ro z b (f + 1) (nI k) s u r st e v) (fun q => q.1 = nI N) := by
  induction m with
  | zero =>
    intro k f q _ s u r st e v
    rw [f_X9_listen_5_s, if_pos (nI_le (by omega) (by omega))]
    exact tt_r rfl
  | succ m ih =>
    intro k f q hf s u r st e v
    obtain ⟨f, rfl⟩ : ∃ q, f = q + 1 := ⟨f - 1, by omega⟩
    rw [f_X9_listen_5_s, if_neg (nI_ge (by omega) (by omega)), nI_1]
    exact tt_b (rtake_c hn _ _ _ _ _ _ _ _ h _ _ _) (fun _ _ => ih (k + 1) f (by omega) (by omega) _ _ _ _ _ _)
theorem listen_c {n : Nat} (hn : n < 2 ^ 31) {N k : Nat} (hN : N ≤ 6304) (hk : k ≤ N) (z : Int32) (b : Nat → Int8) (s : SX4) (u : SX1) (r : Nat → Int32) (st : SX7) (e : SX0) (v : Nat → Int32) (p : SX5) (h : PS p) (ro : Nat → Int32) : Tt (f_X9_listen n (nI N) (nI k) z b s u r st e v p ro) (fun q => q.1 = nI N) := by
  unfold f_X9_listen
  exact listen5_c hn hN p h ro z b (N - k) k 65535 (by omega) (by omega) _ _ _ _ _ _
theorem restart_c (y z : Int32) (g : SX6) (s : SX4) (u : SX1) (r : Nat → Int32) (st : SX7) (e : SX0) (p : SX5) : Tt (f_X9_restart y z g s u r st e p) (fun q => q.1 = 0 ∧ q.2.1 = 0) := by
  unfold f_X9_restart
  exact tt_b (rbegin_c _ _ _ _ _ _) (fun _ _ => tt_r ⟨rfl, rfl⟩)
theorem tcopy_c {n n0 : Nat} (hn : n < 2 ^ 31) (hn0 : n0 ≤ n) (y z : Int32) (b : Nat → Int8) (g : SX6) (w : Nat → Int32) (s : SX4) (u : SX1) (r : Nat → Int32) (st : SX7) (e : SX0) (v : Nat → Int32) (y' z' : Int32) (hz : ZL n0 z') (b' : Nat → Int8) (g' : SX6) (w' : Nat → Int32) (s' : SX4) (u' : SX1) (r' : Nat → Int32) (st' : SX7) (e' : SX0) (v' : Nat → Int32) : Tt (f_X9_copyFrom n n0 y z b g w s u r st e v y' z' b' g' w' s' u' r' st' e' v') (fun q => q.1 = y' ∧ q.2.1 = z') := by
  unfold f_X9_copyFrom
  refine tt_b (lcopy_c hn hn0 _ _ hz _) (fun q hq => tt_b (⟨_, rfl, trivial⟩ : Td _) (fun _ _ => tt_b (rcopy_c _ _ _ _ _ _ _ _ _ _ _ _) (fun _ _ => tt_r ⟨rfl, hq⟩)))
/-- a start on the line, as the store keeps it -/
def BD (x : Int32) : Prop := -10000 ≤ x.toInt ∧ x.toInt ≤ 10000
def SS (s : SX7) : Prop := BD s.2.2.2.2.2.2.1 ∧ BD s.2.2.2.2.2.2.2.2.1 ∧ BD s.2.2.2.2.2.2.2.2.2.2.1
theorem bd_add {x : Int32} (h : BD x) {a : Nat} (ha : a ≤ 5000) : (x + nI a).toInt = x.toInt + a := by
  obtain ⟨h1, h2⟩ := h
  rw [Int32.toInt_add, nI_toInt (by omega)]
  exact Int.bmod_eq_of_le (by omega) (by omega)
theorem bd_lt {x : Int32} (h : BD x) {a b : Nat} (ha : a ≤ 5000) (hb : b ≤ 5000) : x + nI a < x + nI b ↔ a < b := by
  rw [Int32.lt_iff_toInt_lt, bd_add h ha, bd_add h hb]
  omega
theorem bd_come {k L : Nat} (hk : k ≤ 6304) (hL : L ≤ 24) : BD (nI k + 1 - nI L) := by
  have e : (nI k + 1 - nI L).toInt = ((k + 1 : Nat) : Int) - L := by
    rw [nI_1, Int32.toInt_sub, nI_toInt (by omega), nI_toInt (by omega)]
    exact Int.bmod_eq_of_le (by omega) (by omega)
  unfold BD
  omega
theorem come_s (x y : Int32) (s : SX7) (hx : BD x) (h : SS s) : Tt (f_X7_come x y s) SS := by
  obtain ⟨a0, a1, a2, a3, a4, a5, a6, a7, a8, a9, a10, a11, a12, a13, a14, a15, a16⟩ := s
  obtain ⟨h1, h2, h3⟩ := h
  have h1 : BD a6 := h1
  have h2 : BD a8 := h2
  have h3 : BD a10 := h3
  unfold f_X7_come
  refine tt_i (fun _ => ?_) (fun _ => ?_)
  · unfold f_X7_come_22
    exact tt_i (fun _ => tt_r ⟨hx, h2, h3⟩) (fun _ => tt_r ⟨h1, hx, h3⟩)
  · refine tt_b (P := SS) (tt_r ⟨h2, h2, h3⟩) ?_
    rintro ⟨b0, b1, b2, b3, b4, b5, b6, b7, b8, b9, b10, b11, b12, b13, b14, b15, b16⟩ ⟨g1, g2, g3⟩
    have g1 : BD b6 := g1
    have g2 : BD b8 := g2
    have g3 : BD b10 := g3
    show Tt (f_X7_come_22 _ _ _ _ _ _ _ _ _ _ _ _ _ _ _ _ _ _ _) SS
    unfold f_X7_come_22
    exact tt_i (fun _ => tt_r ⟨hx, g2, g3⟩) (fun _ => tt_r ⟨g1, hx, g3⟩)
theorem readOlder_s (s : SX7) (p : SX5) (h : SS s) : Tt (f_X7_readOlder s p) SS := by
  obtain ⟨a0, a1, a2, a3, a4, a5, a6, a7, a8, a9, a10, a11, a12, a13, a14, a15, a16⟩ := s
  obtain ⟨h1, h2, h3⟩ := h
  have h1 : BD a6 := h1
  have h2 : BD a8 := h2
  have h3 : BD a10 := h3
  unfold f_X7_readOlder
  refine tt_b (P := SS) (tt_r ⟨h2, h2, h1⟩) ?_
  rintro ⟨b0, b1, b2, b3, b4, b5, b6, b7, b8, b9, b10, b11, b12, b13, b14, b15, b16⟩ ⟨g1, g2, g3⟩
  exact tt_b (isSignalPlace_c _ _) (fun _ _ => tt_i (fun _ => tt_r ⟨g1, g2, g3⟩) (fun _ => tt_n (tt_r ⟨g1, g2, g3⟩)))
theorem tick_s (s : SX7) (p : SX5) (h : SS s) : Tt (f_X7_tick s p) SS := by
  obtain ⟨a0, a1, a2, a3, a4, a5, a6, a7, a8, a9, a10, a11, a12, a13, a14, a15, a16⟩ := s
  have h : BD a6 ∧ BD a8 ∧ BD a10 := h
  unfold f_X7_tick
  refine tt_i (fun _ => tt_n (tt_i (fun _ => tt_i (fun _ => tt_r h) (fun _ => tt_r h)) (fun _ => ?_))) (fun _ => tt_r h)
  refine tt_b (readOlder_s _ _ h) ?_
  rintro ⟨b0, b1, b2, b3, b4, b5, b6, b7, b8, b9, b10, b11, b12, b13, b14, b15, b16⟩ g
  exact tt_r g
abbrev RS (q : SX4 × SX1 × (Nat → Int32) × SX7 × SX0 × (Nat → Int32)) : Prop := SS q.2.2.2.1
theorem rlocked_s {n : Nat} (hn : n < 2 ^ 31) {k : Nat} (hk : k ≤ 6304) (s : SX4) (u : SX1) (r : Nat → Int32) (st : SX7) (hst : SS st) (e : SX0) (v : Nat → Int32) (p : SX5) (h : PS p) (ro : Nat → Int32) (z : Int32) (b : Nat → Int8) : Tt (f_X4_takeLocked n (nI k) s u r st e v p ro z b) RS := by
  obtain ⟨x0, x1, x2, x3, x4, x5, x6, x7, x8, x9, x10, x11, x12, x13, x14⟩ := p
  have h73 : ∀ a0 a1 a2 a3 a4 a5 a6 a7 a8 a9 u r e v st, SS st → Tt (f_X4_takeLocked_73 a0 a1 a2 a3 a4 a5 a6 a7 a8 a9 x0 x1 x2 x3 x4 x5 x6 x7 x8 x9 x10 x11 x12 x13 x14 u r e v n (nI k) ro z b st) RS := by
    intro a0 a1 a2 a3 a4 a5 a6 a7 a8 a9 u r e v st hst
    unfold f_X4_takeLocked_73
    exact tt_b (rjudg_c _ _) (fun _ _ => tt_i (fun _ => tt_r hst) (fun _ => tt_b (checksHold_c hn _ _ h _ _ _) (fun _ _ => tt_i (fun _ => tt_r hst) (fun _ => tt_r hst))))
  have hb : BD (nI k + 1 - x0) := by
    obtain ⟨L, R, W, C, h0, h1, h2, _⟩ := h
    have h0 : x0 = nI L := h0
    subst h0
    exact bd_come hk h2
  have h26 : ∀ a0 a1 a2 a3 a4 a5 a6 a7 a8 a9 u r e v, Tt (f_X4_takeLocked_26 x0 x1 x2 x3 x4 x5 x6 x7 x8 x9 x10 x11 x12 x13 x14 n (nI k) ro z b st a0 a1 a2 a3 a4 a5 a6 a7 a8 a9 u r e v) RS := by
    intro a0 a1 a2 a3 a4 a5 a6 a7 a8 a9 u r e v
    unfold f_X4_takeLocked_26
    exact tt_b (radv_c _ _) (fun _ _ => tt_i (fun _ => tt_i (fun _ => h73 _ _ _ _ _ _ _ _ _ _ _ _ _ _ _ hst) (fun _ => tt_b (come_s _ _ _ hb hst) (fun _ q => h73 _ _ _ _ _ _ _ _ _ _ _ _ _ _ _ q))) (fun _ => tt_r hst))
  unfold f_X4_takeLocked
  exact tt_i (fun _ => tt_b (at_c hn _ _ _) (fun _ _ => tt_b (rfirst_c _ _ _ _ _ _ _ _) (fun _ _ => tt_i (fun _ => h26 _ _ _ _ _ _ _ _ _ _ _ _ _ _) (fun _ => tt_r hst)))) (fun _ => h26 _ _ _ _ _ _ _ _ _ _ _ _ _ _)
theorem rtake_s {n : Nat} (hn : n < 2 ^ 31) {k : Nat} (hk : k ≤ 6304) (s : SX4) (u : SX1) (r : Nat → Int32) (st : SX7) (hst : SS st) (e : SX0) (v : Nat → Int32) (p : SX5) (h : PS p) (ro : Nat → Int32) (z : Int32) (b : Nat → Int8) : Tt (f_X4_take n (nI k) s u r st e v p ro z b) RS := by
  have h59 : ∀ a0 a1 a2 a3 a4 a5 a6 a7 a8 a9 u r st e v, SS st → Tt (f_X4_take_59 p a0 a1 a2 a3 a4 a5 a6 a7 a8 a9 u r st e v) RS := by
    intro a0 a1 a2 a3 a4 a5 a6 a7 a8 a9 u r st e v q
    unfold f_X4_take_59
    exact tt_b (tick_s _ _ q) (fun _ q => tt_r q)
  unfold f_X4_take
  exact tt_b (at_c hn _ _ _) (fun _ _ => tt_i (fun _ => tt_b (rhunt_c _ _ _ _ _ _ h) (fun _ _ => h59 _ _ _ _ _ _ _ _ _ _ _ _ _ _ _ hst)) (fun _ => tt_i (fun _ => tt_b (rver_c hn _ _ _ _ _ _ h _ _ _) (fun _ _ => h59 _ _ _ _ _ _ _ _ _ _ _ _ _ _ _ hst)) (fun _ => tt_b (rlocked_s hn hk _ _ _ _ hst _ _ _ h _ _ _) (fun _ q => h59 _ _ _ _ _ _ _ _ _ _ _ _ _ _ _ q))))
abbrev LiS (N : Nat) (q : Int32 × SX4 × SX1 × (Nat → Int32) × SX7 × SX0 × (Nat → Int32)) : Prop := q.1 = nI N ∧ SS q.2.2.2.2.1
theorem listen5_s {n : Nat} (hn : n < 2 ^ 31) {N : Nat} (hN : N ≤ 6304) (p : SX5) (h : PS p) (ro : Nat → Int32) (z : Int32) (b : Nat → Int8) (m : Nat) : ∀ (k f : Nat) (_ : k + m = N) (_ : m ≤ f) (s : SX4) (u : SX1) (r : Nat → Int32) (st : SX7) (_ : SS st) (e : SX0) (v : Nat → Int32), Tt (f_X9_listen_5 (nI N) n p ro z b (f + 1) (nI k) s u r st e v) (LiS N) := by
  induction m with
  | zero =>
    intro k f q _ s u r st hst e v
    rw [f_X9_listen_5_s, if_pos (nI_le (by omega) (by omega))]
    exact tt_r ⟨rfl, hst⟩
  | succ m ih =>
    intro k f q hf s u r st hst e v
    obtain ⟨f, rfl⟩ : ∃ q, f = q + 1 := ⟨f - 1, by omega⟩
    rw [f_X9_listen_5_s, if_neg (nI_ge (by omega) (by omega)), nI_1]
    exact tt_b (rtake_s hn (show k ≤ 6304 by omega) _ _ _ _ hst _ _ _ h _ _ _) (fun _ g => ih (k + 1) f (by omega) (by omega) _ _ _ _ g _ _)
theorem listen_s {n : Nat} (hn : n < 2 ^ 31) {N k : Nat} (hN : N ≤ 6304) (hk : k ≤ N) (z : Int32) (b : Nat → Int8) (s : SX4) (u : SX1) (r : Nat → Int32) (st : SX7) (hst : SS st) (e : SX0) (v : Nat → Int32) (p : SX5) (h : PS p) (ro : Nat → Int32) : Tt (f_X9_listen n (nI N) (nI k) z b s u r st e v p ro) (LiS N) := by
  unfold f_X9_listen
  exact listen5_s hn hN p h ro z b (N - k) k 65535 (by omega) (by omega) _ _ _ _ hst _ _
