set_option maxRecDepth 100000 in
theorem r_count {x0 : Int32} {s_this : SX12} {r_this_all : Nat → Int32} {r_this_undone : Nat → Int32} {r_this_saved : Nat → Int32} (rM : RI s_this.2.1 r_this_all r_this_undone r_this_saved) : Tt (f_X12_count x0 s_this r_this_all) (fun q => RI q.2.2.1 r_this_all r_this_undone r_this_saved) := by
  exact tt_m (cnt_t _ _ _ rM.1.1) (fun q hq => by
    rw [show _ = s_this.2.1 from hq]
    exact rM)
set_option maxRecDepth 100000 in
theorem r_role {x0 : Int32} {s_this : SX12} {r_this_all : Nat → Int32} {r_this_undone : Nat → Int32} {r_this_saved : Nat → Int32} (rM : RI s_this.2.1 r_this_all r_this_undone r_this_saved) : Tt (f_X12_role x0 s_this r_this_all) (fun q => RI q.2.2.1 r_this_all r_this_undone r_this_saved) := by
  exact tt_m (rol_t _ _ _ rM.1.1) (fun q hq => by
    rw [show _ = s_this.2.1 from hq]
    exact rM)
set_option maxRecDepth 100000 in
theorem r_candidate {x0 : Int32} {s_this : SX12} {r_this_all : Nat → Int32} {r_this_undone : Nat → Int32} {r_this_saved : Nat → Int32} (rM : RI s_this.2.1 r_this_all r_this_undone r_this_saved) : Tt (f_X12_candidate x0 s_this r_this_all) (fun q => RI q.2.2.1 r_this_all r_this_undone r_this_saved) := by
  exact tt_m (can_t _ _ _ rM.1.1) (fun q hq => by
    rw [show _ = s_this.2.1 from hq]
    exact rM)
set_option maxRecDepth 100000 in
theorem r_frame {x0 : Int32} {s_this : SX12} {r_this_all : Nat → Int32} {r_this_undone : Nat → Int32} {r_this_saved : Nat → Int32} (rM : RI s_this.2.1 r_this_all r_this_undone r_this_saved) : Tt (f_X12_frame x0 s_this r_this_all) (fun q => RI q.2.2.1 r_this_all r_this_undone r_this_saved) := by
  exact tt_m (frm_t _ _ _ rM.1.1) (fun q hq => by
    rw [show _ = s_this.2.1 from hq]
    exact rM)
set_option maxRecDepth 100000 in
theorem r_signal {x0 : Int32} {s_this : SX12} {r_this_all : Nat → Int32} {r_this_undone : Nat → Int32} {r_this_saved : Nat → Int32} (rM : RI s_this.2.1 r_this_all r_this_undone r_this_saved) : Tt (f_X12_signal x0 s_this r_this_all) (fun q => RI q.2.2.1 r_this_all r_this_undone r_this_saved) := by
  exact tt_m (sig_t _ _ _ rM.1.1) (fun q hq => by
    rw [show _ = s_this.2.1 from hq]
    exact rM)
set_option maxRecDepth 100000 in
theorem r_value {x0 : Int32} {s_this : SX12} {r_this_all : Nat → Int32} {r_this_undone : Nat → Int32} {r_this_saved : Nat → Int32} (rM : RI s_this.2.1 r_this_all r_this_undone r_this_saved) : Tt (f_X12_value x0 s_this r_this_all) (fun q => RI q.2.2.1 r_this_all r_this_undone r_this_saved) := by
  exact tt_m (val_t _ _ _ rM.1.1) (fun q hq => by
    rw [show _ = s_this.2.1 from hq]
    exact rM)
set_option maxRecDepth 100000 in
theorem r_bit {x0 : Int32} {s_this : SX12} {r_this_all : Nat → Int32} {r_this_line : Nat → Int8} {r_this_undone : Nat → Int32} {r_this_saved : Nat → Int32} (rM : RI s_this.2.1 r_this_all r_this_undone r_this_saved) : Tt (f_X12_bit x0 s_this r_this_all r_this_line) (fun q => RI q.2.2.1 r_this_all r_this_undone r_this_saved) := by
  exact tt_m (bit_t _ _ _ rM.1.1 _) (fun q hq => by
    rw [show _ = s_this.2.1 from hq]
    exact rM)
set_option maxRecDepth 100000 in
theorem r_checks {x0 : Int32} {s_this : SX12} {r_this_all : Nat → Int32} {r_this_line : Nat → Int8} {r_this_undone : Nat → Int32} {r_this_saved : Nat → Int32} (rM : RI s_this.2.1 r_this_all r_this_undone r_this_saved) : Tt (f_X12_checks x0 s_this r_this_all r_this_line) (fun q => RI q.2.2.1 r_this_all r_this_undone r_this_saved) := by
  exact tt_m (chk_t _ _ _ rM.1.1 _) (fun q hq => by
    rw [show _ = s_this.2.1 from hq]
    exact rM)
set_option maxRecDepth 100000 in
theorem r_struck {x0 : Int32} {x1 : Int32} {s_this : SX12} {r_this_all : Nat → Int32} {r_this_line : Nat → Int8} {r_this_undone : Nat → Int32} {r_this_saved : Nat → Int32} (rM : RI s_this.2.1 r_this_all r_this_undone r_this_saved) : Tt (f_X12_struck x0 x1 s_this r_this_all r_this_line) (fun q => RI q.2.2.1 r_this_all r_this_undone r_this_saved) := by
  exact tt_m (stk_t _ _ _ _ rM.1.1 _) (fun q hq => by
    rw [show _ = s_this.2.1 from hq]
    exact rM)
set_option maxRecDepth 100000 in
theorem r_fits {x0 : Int32} {x1 : Int32} {s_this : SX12} {r_this_all : Nat → Int32} {r_this_line : Nat → Int8} {r_this_undone : Nat → Int32} {r_this_saved : Nat → Int32} (rM : RI s_this.2.1 r_this_all r_this_undone r_this_saved) : Tt (f_X12_fits x0 x1 s_this r_this_all r_this_line) (fun q => RI q.2.2.1 r_this_all r_this_undone r_this_saved) := by
  exact tt_m (fit_t _ _ _ _ rM.1.1 _) (fun q hq => by
    rw [show _ = s_this.2.1 from hq]
    exact rM)
set_option maxRecDepth 100000 in
theorem r_receiver {x0 : Int32} {s_this : SX12} {r_this_all : Nat → Int32} {r_this_undone : Nat → Int32} {r_this_saved : Nat → Int32} (rM : RI s_this.2.1 r_this_all r_this_undone r_this_saved) : Tt (f_X12_receiver x0 s_this r_this_all) (fun q => RI q.2.2.1 r_this_all r_this_undone r_this_saved) := by
  exact tt_m (rcv_t _ _ _) (fun q hq => by
    rw [show _ = s_this.2.1 from hq]
    exact rM)
set_option maxRecDepth 100000 in
theorem r_fault {x0 : Int32} {s_this : SX12} {r_this_all : Nat → Int32} {r_this_undone : Nat → Int32} {r_this_saved : Nat → Int32} (rM : RI s_this.2.1 r_this_all r_this_undone r_this_saved) : Tt (f_X12_fault x0 s_this r_this_all) (fun q => RI q.2.2.1 r_this_all r_this_undone r_this_saved) := by
  obtain ⟨s1, s2, s3, s4, s5, s6, s7, s8, s9, s10, s11, s12⟩ := s_this
  unfold f_X12_fault
  exact tt_i (fun _ => tt_r rM) (fun _ => tt_r rM)
set_option maxRecDepth 100000 in
theorem r_ahead {x0 : Int32} {x1 : Int32} {x2 : Int32} {s_this : SX12} {r_this_all : Nat → Int32} {r_this_line : Nat → Int8} {r_this_undone : Nat → Int32} {r_this_saved : Nat → Int32} (rM : RI s_this.2.1 r_this_all r_this_undone r_this_saved) : Tt (f_X12_ahead x0 x1 x2 s_this r_this_all r_this_line) (fun q => RI q.2.1.2.1 q.2.2.1 r_this_undone r_this_saved) := by
  exact tt_m (ahe_t _ _ _ _ _ rM.1.1 _) (fun q hq => by
    obtain ⟨h1, h2⟩ := hq
    rw [show _ = s_this.2.1 from h1]
    exact rM.same h2)
set_option maxRecDepth 100000 in
theorem r_locks {x0 : Int32} {s_this : SX12} {r_this_all : Nat → Int32} {r_this_line : Nat → Int8} {r_this_undone : Nat → Int32} {r_this_saved : Nat → Int32} (rM : RI s_this.2.1 r_this_all r_this_undone r_this_saved) : Tt (f_X12_locks x0 s_this r_this_all r_this_line) (fun q => RI q.2.1.2.1 q.2.2 r_this_undone r_this_saved) := by
  exact tt_m (loc_t _ _ _ rM.1.1 _) (fun q hq => by
    obtain ⟨h1, h2⟩ := hq
    rw [show _ = s_this.2.1 from h1]
    exact rM.same h2)
set_option maxRecDepth 100000 in
theorem r_from {x0 : Int32} {x1 : Int32} {s_this : SX12} {r_this_all : Nat → Int32} {r_this_line : Nat → Int8} {r_this_undone : Nat → Int32} {r_this_saved : Nat → Int32} (rM : RI s_this.2.1 r_this_all r_this_undone r_this_saved) : Tt (f_X12_from x0 x1 s_this r_this_all r_this_line) (fun q => RI q.2.1.2.1 q.2.2 r_this_undone r_this_saved) := by
  exact tt_m (fro_t _ _ _ _ rM.1.1 _) (fun q hq => by
    obtain ⟨h1, h2⟩ := hq
    rw [show _ = s_this.2.1 from h1]
    exact rM.same h2)
set_option maxRecDepth 100000 in
theorem r_least {x0 : Int32} {s_this : SX12} {r_this_all : Nat → Int32} {r_this_line : Nat → Int8} {r_this_undone : Nat → Int32} {r_this_saved : Nat → Int32} (rM : RI s_this.2.1 r_this_all r_this_undone r_this_saved) : Tt (f_X12_least x0 s_this r_this_all r_this_line) (fun q => RI q.2.1.2.1 q.2.2 r_this_undone r_this_saved) := by
  exact tt_m (lea_t _ _ _ rM.1.1 _) (fun q hq => by
    obtain ⟨h1, h2⟩ := hq
    rw [show _ = s_this.2.1 from h1]
    exact rM.same h2)
set_option maxRecDepth 100000 in
theorem r_weak {s_this : SX12} {r_this_all : Nat → Int32} {r_this_line : Nat → Int8} {r_this_undone : Nat → Int32} {r_this_saved : Nat → Int32} (rM : RI s_this.2.1 r_this_all r_this_undone r_this_saved) : Tt (f_X12_weak s_this r_this_all r_this_line) (fun q => RI q.2.1.2.1 q.2.2.1 r_this_undone r_this_saved) := by
  exact tt_m (wea_t _ _ rM.1.1 _) (fun q hq => by
    obtain ⟨h1, h2⟩ := hq
    rw [show _ = s_this.2.1 from h1]
    exact rM.same h2)
set_option maxRecDepth 100000 in
theorem r_say {x0 : Int32} {s_this : SX12} {r_this_all : Nat → Int32} {r_this_line : Nat → Int8} {r_this_undone : Nat → Int32} {r_this_undoneLine : Nat → Int8} {r_this_saved : Nat → Int32} (rM : RI s_this.2.1 r_this_all r_this_undone r_this_saved) : Tt (f_X12_say x0 s_this r_this_all r_this_line r_this_undone r_this_undoneLine) (fun q => RI q.2.1.2.1 q.2.2.1 q.2.2.2.1 r_this_saved) := by
  obtain ⟨s1, s2, s3, s4, s5, s6, s7, s8, s9, s10, s11, s12⟩ := s_this
  obtain ⟨u, hu, hK⟩ := id rM.2.1
  have hu : s2 = nI u := hu
  subst hu
  exact tt_m (say_t _ _ _ _ _ _ _ _ _ _ _ _ _ _ _ _ _ rM.1.1 hK) (fun q hq => rM.act hq)
set_option maxRecDepth 100000 in
theorem r_send {x0 : Int32} {x1 : Int32} {s_this : SX12} {r_this_all : Nat → Int32} {r_this_line : Nat → Int8} {r_this_undone : Nat → Int32} {r_this_undoneLine : Nat → Int8} {r_this_saved : Nat → Int32} (rM : RI s_this.2.1 r_this_all r_this_undone r_this_saved) : Tt (f_X12_send x0 x1 s_this r_this_all r_this_line r_this_undone r_this_undoneLine) (fun q => RI q.2.1.2.1 q.2.2.1 q.2.2.2.2.1 r_this_saved) := by
  obtain ⟨s1, s2, s3, s4, s5, s6, s7, s8, s9, s10, s11, s12⟩ := s_this
  obtain ⟨u, hu, hK⟩ := id rM.2.1
  have hu : s2 = nI u := hu
  subst hu
  exact tt_m (send_t _ _ _ _ _ _ _ _ _ _ _ _ _ _ _ _ _ _ rM.1.1 hK) (fun q hq => rM.act hq)
set_option maxRecDepth 100000 in
theorem r_turn {x0 : Int32} {s_this : SX12} {r_this_all : Nat → Int32} {r_this_line : Nat → Int8} {r_this_undone : Nat → Int32} {r_this_undoneLine : Nat → Int8} {r_this_saved : Nat → Int32} (rM : RI s_this.2.1 r_this_all r_this_undone r_this_saved) : Tt (f_X12_turn x0 s_this r_this_all r_this_line r_this_undone r_this_undoneLine) (fun q => RI q.2.1.2.1 r_this_all q.2.2.2.1 r_this_saved) := by
  obtain ⟨s1, s2, s3, s4, s5, s6, s7, s8, s9, s10, s11, s12⟩ := s_this
  obtain ⟨u, hu, hK⟩ := id rM.2.1
  have hu : s2 = nI u := hu
  subst hu
  exact tt_m (turn_t _ _ _ _ _ _ _ _ _ _ _ _ _ _ _ _ _ rM.1.1 hK) (fun q hq => rM.act hq)
set_option maxRecDepth 100000 in
theorem r_lose {x0 : Int32} {x1 : Int32} {s_this : SX12} {r_this_all : Nat → Int32} {r_this_line : Nat → Int8} {r_this_undone : Nat → Int32} {r_this_undoneLine : Nat → Int8} {r_this_saved : Nat → Int32} (rM : RI s_this.2.1 r_this_all r_this_undone r_this_saved) : Tt (f_X12_lose x0 x1 s_this r_this_all r_this_line r_this_undone r_this_undoneLine) (fun q => RI q.2.1.2.1 q.2.2.1 q.2.2.2.2.1 r_this_saved) := by
  obtain ⟨s1, s2, s3, s4, s5, s6, s7, s8, s9, s10, s11, s12⟩ := s_this
  obtain ⟨u, hu, hK⟩ := id rM.2.1
  have hu : s2 = nI u := hu
  subst hu
  exact tt_m (lose_t _ _ _ _ _ _ _ _ _ _ _ _ _ _ _ _ _ _ rM.1.1 hK) (fun q hq => rM.act hq)
set_option maxRecDepth 100000 in
theorem r_put {x0 : Int32} {x1 : Int32} {s_this : SX12} {r_this_all : Nat → Int32} {r_this_line : Nat → Int8} {r_this_undone : Nat → Int32} {r_this_undoneLine : Nat → Int8} {r_this_saved : Nat → Int32} (rM : RI s_this.2.1 r_this_all r_this_undone r_this_saved) : Tt (f_X12_put x0 x1 s_this r_this_all r_this_line r_this_undone r_this_undoneLine) (fun q => RI q.2.1.2.1 q.2.2.1 q.2.2.2.2.1 r_this_saved) := by
  obtain ⟨s1, s2, s3, s4, s5, s6, s7, s8, s9, s10, s11, s12⟩ := s_this
  obtain ⟨u, hu, hK⟩ := id rM.2.1
  have hu : s2 = nI u := hu
  subst hu
  exact tt_m (put_t _ _ _ _ _ _ _ _ _ _ _ _ _ _ _ _ _ _ rM.1.1 hK) (fun q hq => rM.act hq)
set_option maxRecDepth 100000 in
theorem r_hear {x0 : Int32} {s_this : SX12} {r_this_all : Nat → Int32} {r_this_line : Nat → Int8} {r_this_undone : Nat → Int32} {r_this_undoneLine : Nat → Int8} {r_this_saved : Nat → Int32} (rM : RI s_this.2.1 r_this_all r_this_undone r_this_saved) : Tt (f_X12_hear x0 s_this r_this_all r_this_line r_this_undone r_this_undoneLine) (fun q => RI q.2.1.2.1 q.2.2.1 q.2.2.2.1 r_this_saved) := by
  obtain ⟨s1, s2, s3, s4, s5, s6, s7, s8, s9, s10, s11, s12⟩ := s_this
  obtain ⟨u, hu, hK⟩ := id rM.2.1
  have hu : s2 = nI u := hu
  subst hu
  exact tt_m (hear_t _ _ _ _ _ _ _ _ _ _ _ _ _ _ _ _ _ rM.1.1 hK) (fun q hq => rM.act hq)
set_option maxRecDepth 100000 in
theorem r_undo {s_this : SX12} {r_this_all : Nat → Int32} {r_this_line : Nat → Int8} {r_this_undone : Nat → Int32} {r_this_undoneLine : Nat → Int8} {r_this_saved : Nat → Int32} (rM : RI s_this.2.1 r_this_all r_this_undone r_this_saved) : Tt (f_X12_undo s_this r_this_all r_this_line r_this_undone r_this_undoneLine) (fun q => RI q.2.1.2.1 q.2.2.1 r_this_undone r_this_saved) := by
  obtain ⟨s1, s2, s3, s4, s5, s6, s7, s8, s9, s10, s11, s12⟩ := s_this
  obtain ⟨u, hu, hK⟩ := id rM.2.1
  have hu : s2 = nI u := hu
  subst hu
  exact tt_m (undo_t _ _ _ _ _ _ _ _ _ _ _ _ _ _ _ _ rM.1.1 hK) (fun q hq => rM.act hq)
set_option maxRecDepth 100000 in
theorem r_key {x0 : Int64} {s_this : SX12} {r_this_all : Nat → Int32} {r_this_text : Nat → Int8} {r_this_undone : Nat → Int32} {r_this_saved : Nat → Int32} (rM : RI s_this.2.1 r_this_all r_this_undone r_this_saved) : Tt (f_X12_key x0 s_this r_this_all r_this_text) (fun q => RI q.2.1.2.1 q.2.2.1 r_this_undone r_this_saved) := by
  obtain ⟨z, hz, e⟩ := rM.1.2
  exact tt_m (key_t _ _ _ _ z hz (by have h := e; rw [Nat.zero_add] at h; exact h)) (fun q hq => by
    obtain ⟨h1, h2, z2, h3, h4⟩ := hq
    rw [show _ = s_this.2.1 from h1]
    exact rM.of ⟨rM.1.1.c (fun k hk => by rw [Nat.zero_add]; exact h2 _ (by omega)), z2, h3, (by rw [Nat.zero_add]; exact h4)⟩ rM.2.1 (fun j hj _ => h2 j (by omega)))
set_option maxRecDepth 100000 in
theorem r_scheme {s_this : SX12} {r_this_all : Nat → Int32} {r_this_text : Nat → Int8} {r_this_told : Nat → Int32} {r_this_undone : Nat → Int32} {r_this_saved : Nat → Int32} (rM : RI s_this.2.1 r_this_all r_this_undone r_this_saved) : Tt (f_X12_scheme s_this r_this_all r_this_text r_this_told) (fun q => RI q.2.1.2.1 q.2.2.1 r_this_undone r_this_saved) := by
  obtain ⟨z, hz, e⟩ := rM.1.2
  exact tt_m (sc_is hz _ _ (by have h := e; rw [Nat.zero_add] at h; exact h) _ _) (fun q hq => by
    obtain ⟨h1, h2, h3⟩ := hq
    have hz : ∃ z : Nat, z ≤ 300 ∧ q.2.2.1 (0 + 133) = nI z := ⟨0, by omega, by rw [Nat.zero_add]; exact h2⟩
    rcases h1 with ⟨h1, hB⟩ | ⟨h1, hB⟩
    · rw [show _ = (0 : Int32) from h1]
      exact rM.of ⟨hB, hz⟩ ⟨0, rfl, by omega, fun j hj => absurd hj (by omega)⟩ (fun j hj _ => h3 j hj)
    · rw [show _ = s_this.2.1 from h1]
      exact rM.of ⟨rM.1.1.c (fun k hk => by rw [Nat.zero_add]; exact hB _ hk), hz⟩ rM.2.1 (fun j hj _ => h3 j hj))
set_option maxRecDepth 100000 in
theorem r_again {x0 : Int32} {s_this : SX12} {r_this_all : Nat → Int32} {r_this_line : Nat → Int8} {r_this_text : Nat → Int8} {r_this_saved : Nat → Int32} {r_this_undone : Nat → Int32} (rM : RI s_this.2.1 r_this_all r_this_undone r_this_saved) : Tt (f_X12_again x0 s_this r_this_all r_this_line r_this_text r_this_saved) (fun q => RI q.2.1.2.1 q.2.2.1 r_this_undone r_this_saved) := by
  exact agn_t _ _ _ _ _ _ _ rM
theorem in_val (v a b : Int32) : f_X12_in v a b = some (if v < a then 0 else if b < v then 0 else 1) := by
  unfold f_X12_in
  by_cases h1 : v < a
  · rw [if_pos h1, if_pos h1]
  · rw [if_neg h1, if_neg h1]
    by_cases h2 : b < v
    · rw [if_pos h2, if_pos h2]
    · rw [if_neg h2, if_neg h2]
theorem imgR_n {k : Nat} (h : k ≤ 2) : imgR (nI k) = 1 := by
  unfold imgR
  rw [if_neg (nI_pos (by omega)), if_pos (show nI k < 3 from nI_lt (b := 3) (by omega) (by decide))]
theorem imgR_o {x : Int32} (h : x < 0 ∨ 2 < x) : imgR x = 0 := by
  unfold imgR
  by_cases h0 : x < 0
  · rw [if_pos h0]
  · rw [if_neg h0]
    rcases h with h | h
    · exact absurd h h0
    · obtain ⟨j, hj, rfl⟩ := nI_of h0
      have a2 : 2 < j := (nI_ltI (a := 2) (by decide) hj).mp h
      exact if_neg (fun h => by
        have a1 : j < 3 := (nI_ltI (b := 3) hj (by decide)).mp h
        omega)
set_option maxRecDepth 100000 in
theorem r_image {x0 : Int32} {s_this : SX12} {r_this_all : Nat → Int32} {r_this_line : Nat → Int8} {r_this_text : Nat → Int8} {r_this_saved : Nat → Int32} {r_this_undone : Nat → Int32} (rM : RI s_this.2.1 r_this_all r_this_undone r_this_saved) : Tt (f_X12_image x0 s_this r_this_all r_this_line r_this_text r_this_saved) (fun q => q.1 = imgR x0 ∧ RI q.2.1.2.1 q.2.2.1 r_this_undone q.2.2.2.2.2) := by
  obtain ⟨ra, u, re, le, be, so, va, si, w, wa, bd, x⟩ := s_this
  unfold f_X12_image
  simp only []
  rw [in_val, bso]
  by_cases c0 : x0 < 0
  · rw [if_pos c0]
    exact tt_i (fun _ => tt_r ⟨(imgR_o (Or.inl c0)).symm, rM⟩) (fun c => absurd rfl c)
  by_cases c1 : 2 < x0
  · rw [if_neg c0, if_pos c1]
    exact tt_i (fun _ => tt_r ⟨(imgR_o (Or.inr c1)).symm, rM⟩) (fun c => absurd rfl c)
  rw [if_neg c0, if_neg c1]
  refine tt_i (fun c => absurd c (by decide)) (fun _ => ?_)
  obtain ⟨k, hk, rfl⟩ := nI_of2 (M := 2) (n := 2) (by decide) c0 (Int32.not_lt.mp c1)
  have ev := imgR_n hk
  rw [nI_1]
  refine tt_b (ca_t 0 (k + 1) (by omega) (by omega) (by omega) _ r_this_all r_this_line r_this_text) ?_
  rintro ⟨a1, ln1, tx1⟩ ⟨c1, c2⟩
  have c1 : ∀ j, j < 136 → a1 (136 * (k + 1) + j) = r_this_all (136 * 0 + j) := c1
  have c2 : ∀ j, ¬ (136 * (k + 1) ≤ j ∧ j < 136 * (k + 1) + 136) → a1 j = r_this_all j := c2
  refine tt_ik k rfl (by omega) (by omega) (tt_r ⟨ev.symm, ?_, rM.2.1, fun i hi => ?_⟩)
  · exact rM.1.c (fun j hj => c2 _ (by omega))
  · show upd r_this_saved (nI k).toNatClampNeg 1 i = 0 ∨ IZ a1 (136 * (i + 1))
    rw [nI_clamp (by omega)]
    by_cases e1 : i = k
    · subst e1
      exact Or.inr (rM.1.c (fun j hj => by rw [c1 j hj, Nat.mul_zero]))
    · rw [upd_ne _ _ e1]
      exact (rM.2.2 i hi).imp id (fun q => q.c (fun j hj => c2 _ (by omega)))
