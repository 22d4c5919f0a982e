theorem f_X11_fits_52_s (x0 : Int32) (x1 : Int32) (s_this_now_plan : SX5) (n_this_now_trunk_line_bits : Nat) (s_this_now_trunk_line : Int32) (r_this_now_trunk_line_bits : Nat → Int8) (n : Nat) (y52_l5 : Int32) (y52_this_trial_receiver_hunt_left : Int32) (y52_this_trial_receiver_hunt_heard : Int32) (y52_this_trial_receiver_hunt_due : Int32) (y52_this_trial_receiver_hunt_framesOn : Int32) (y52_this_trial_receiver_hunt_only : Int32) (y52_this_trial_receiver_hunt_rows : (Nat → Int32)) : f_X11_fits_52 x0 x1 s_this_now_plan n_this_now_trunk_line_bits s_this_now_trunk_line r_this_now_trunk_line_bits (n + 1) y52_l5 y52_this_trial_receiver_hunt_left y52_this_trial_receiver_hunt_heard y52_this_trial_receiver_hunt_due y52_this_trial_receiver_hunt_framesOn y52_this_trial_receiver_hunt_only y52_this_trial_receiver_hunt_rows = ((if x0 ≤ y52_l5 then f_X11_fits_90 x1 y52_this_trial_receiver_hunt_left y52_this_trial_receiver_hunt_heard y52_this_trial_receiver_hunt_due y52_this_trial_receiver_hunt_framesOn y52_this_trial_receiver_hunt_only y52_this_trial_receiver_hunt_rows s_this_now_plan else (if y52_this_trial_receiver_hunt_left ≤ 0 then f_X11_fits_90 x1 y52_this_trial_receiver_hunt_left y52_this_trial_receiver_hunt_heard y52_this_trial_receiver_hunt_due y52_this_trial_receiver_hunt_framesOn y52_this_trial_receiver_hunt_only y52_this_trial_receiver_hunt_rows s_this_now_plan else Option.bind (f_X2_at n_this_now_trunk_line_bits y52_l5 s_this_now_trunk_line r_this_now_trunk_line_bits) (fun u78_r => Option.bind (f_X1_follow u78_r (y52_this_trial_receiver_hunt_left, y52_this_trial_receiver_hunt_heard, y52_this_trial_receiver_hunt_due, y52_this_trial_receiver_hunt_framesOn, y52_this_trial_receiver_hunt_only) y52_this_trial_receiver_hunt_rows s_this_now_plan) (fun z => match z with | ((u81_this_trial_receiver_hunt_left, u81_this_trial_receiver_hunt_heard, u81_this_trial_receiver_hunt_due, u81_this_trial_receiver_hunt_framesOn, u81_this_trial_receiver_hunt_only), u81_this_trial_receiver_hunt_rows) => (f_X11_fits_52 x0 x1 s_this_now_plan n_this_now_trunk_line_bits s_this_now_trunk_line r_this_now_trunk_line_bits n) (y52_l5 + 1) u81_this_trial_receiver_hunt_left u81_this_trial_receiver_hunt_heard u81_this_trial_receiver_hunt_due u81_this_trial_receiver_hunt_framesOn u81_this_trial_receiver_hunt_only u81_this_trial_receiver_hunt_rows))))) := rfl
theorem f_X12_fits_27_s (v_this_undos : Int32) (v_this_reached : Int32) (v_this_length : Int32) (v_this_begin : Int32) (v_this_sort : Int32) (v_this_value : Int32) (v_this_signs : Int32) (v_this_word : Int64) (v_this_wrongAt : Int32) (v_this_badAt : Int32) (v_this_x : Int32) (r_this_all : Nat → Int32) (x1 : Int32) (x0 : Int32) (r_this_line : Nat → Int8) (n : Nat) (y27_l3 : Int32) (y27_l4 : Int32) : f_X12_fits_27 v_this_undos v_this_reached v_this_length v_this_begin v_this_sort v_this_value v_this_signs v_this_word v_this_wrongAt v_this_badAt v_this_x r_this_all x1 x0 r_this_line (n + 1) y27_l3 y27_l4 = (Option.bind (f_X12_round (0, v_this_undos, v_this_reached, v_this_length, v_this_begin, v_this_sort, v_this_value, v_this_signs, v_this_word, v_this_wrongAt, v_this_badAt, v_this_x) r_this_all) (fun u30_r => (if u30_r ≤ y27_l4 then (if x1 = (-1) then some (y27_l3, (0, v_this_undos, v_this_reached, v_this_length, v_this_begin, v_this_sort, v_this_value, v_this_signs, v_this_word, v_this_wrongAt, v_this_badAt, v_this_x)) else some ((-1), (0, v_this_undos, v_this_reached, v_this_length, v_this_begin, v_this_sort, v_this_value, v_this_signs, v_this_word, v_this_wrongAt, v_this_badAt, v_this_x))) else Option.bind (f_X12_canBe y27_l4 x0 (0, v_this_undos, v_this_reached, v_this_length, v_this_begin, v_this_sort, v_this_value, v_this_signs, v_this_word, v_this_wrongAt, v_this_badAt, v_this_x) r_this_all r_this_line) (fun u40_r => (if u40_r = 0 then f_X12_fits_57 y27_l4 (f_X12_fits_27 v_this_undos v_this_reached v_this_length v_this_begin v_this_sort v_this_value v_this_signs v_this_word v_this_wrongAt v_this_badAt v_this_x r_this_all x1 x0 r_this_line n) y27_l3 else (if y27_l3 = x1 then some (y27_l4, (0, v_this_undos, v_this_reached, v_this_length, v_this_begin, v_this_sort, v_this_value, v_this_signs, v_this_word, v_this_wrongAt, v_this_badAt, v_this_x)) else f_X12_fits_57 y27_l4 (f_X12_fits_27 v_this_undos v_this_reached v_this_length v_this_begin v_this_sort v_this_value v_this_signs v_this_word v_this_wrongAt v_this_badAt v_this_x r_this_all x1 x0 r_this_line n) (y27_l3 + 1))))))) := rfl
theorem f_X12_canBe_2_s (x1 : Int32) (s_this : SX12) (r_this_all : Nat → Int32) (x0 : Int32) (r_this_line : Nat → Int8) (n : Nat) (y2_l3 : Int32) : f_X12_canBe_2 x1 s_this r_this_all x0 r_this_line (n + 1) y2_l3 = ((if x1 ≤ y2_l3 then some 1 else Option.bind (f_X12_round s_this r_this_all) (fun u11_r => m_g (¬ u11_r = 0) (Option.bind (f_X12_isFixed ((x0 + y2_l3) - (x0 + y2_l3) / u11_r * u11_r) s_this r_this_all) (fun u20_r => (if u20_r = 0 then f_X12_canBe_43 y2_l3 (f_X12_canBe_2 x1 s_this r_this_all x0 r_this_line n) else Option.bind (f_X12_roleOf ((x0 + y2_l3) - (x0 + y2_l3) / u11_r * u11_r) s_this r_this_all) (fun u29_r => m_in y2_l3 32000 ((if u29_r = (r_this_line y2_l3.toNatClampNeg).toInt32 then f_X12_canBe_43 y2_l3 (f_X12_canBe_2 x1 s_this r_this_all x0 r_this_line n) else some 0))))))))) := rfl
theorem fits_b : (f_X1_begin (48, 0, 0, 0, -1) T0.2.2.2.2.2.2.2.2.2.2.2.2.2.2.2.2.2.2.2.2.2.2.2.2.2.2.2.2.2.2.2.2.2.2.2.2.2.2.2.2.2.2.2.2.2.2.2.2.2.2.2.2.2.2.2.2.2.2.2.2.2.2.2.2.2.2.2.2.2.2.2.2.2.2.2.2.2.2.2.2.2.2.2.2.2.2.2.2.2.2.2.2.2.2.2.2.2.2.2.2.2.2.2.2.2.2.2.2.2.2.2.2.2.2.2.2.2.2.2.2.2.2.2.2.2.2.2.2.2.2.2.2.2.2.2.2.2.2.2.2.2.2.2.2.2.2.2.2.2.2.2.2.2.1 (8, 6, 0, 7, 0, 4, 2, 4, 0, 48, 1, 0, 11, 52, 63)).map (fun z => z.1) = some (48, 0, 0, 0, -1) := by decide +kernel
theorem fits_out (b : Int32) (hb : ∀ k : Fin 48, b ≠ Int32.ofNat k.val) (hb1 : b ≠ -1) (line : Nat → Int8) (u re le be so va si : Int32) (w : Int64) (wa ba x : Int32) (m : Nat) : ∀ (n k : Nat) (_ : k + m = 48) (_ : m ≤ n), f_X12_fits_27 u re le be so va si w wa ba x M0.2.1 b 0 line (n + 1) (nI k) (nI k) = some (-1, (0, u, re, le, be, so, va, si, w, wa, ba, x)) := by
  induction m with
  | zero =>
    intro n k hk _
    have : k = 48 := by omega
    subst this
    rw [f_X12_fits_27_s, rn_is Df_M0, bso, if_pos (by decide), if_neg hb1]
  | succ m ih =>
    intro n k hk hn
    obtain ⟨n, rfl⟩ : ∃ q, n = q + 1 := ⟨n - 1, by omega⟩
    rw [f_X12_fits_27_s, rn_is Df_M0, bso, if_neg (show ¬ (48 : Int32) ≤ nI k from nI_ge (a := k) (b := 48) (by omega) (by omega))]
    unfold f_X12_canBe
    rw [f_X12_canBe_2_s, if_pos (by decide), bso, if_neg (by decide), if_neg (fun e => hb ⟨k, by omega⟩ e.symm)]
    unfold f_X12_fits_57
    rw [nI_1]
    exact ih n (k + 1) (by omega) (by omega)
theorem k_23 (a b c : Int32) : lk_23 a b c = some 1 := by
  by_cases h0 : a = 0
  · subst h0
    by_cases hm : b = -1
    · subst hm; unfold lk_23 lc_23; decide +kernel
    rcases i_cases 48 (by decide) b with ⟨k, rfl⟩ | h
    · exact (by decide +kernel : ∀ k : Fin 48, lk_23 0 (Int32.ofNat k.val) 0 = some 1) k
    · have hn : ∀ k : Fin 48, b ≠ Int32.ofNat k.val := by
        intro k e; subst e
        revert h; revert k; decide +kernel
      have hb := fits_b
      have hr := fits_out b hn hm M0.2.2.1 0 0 0 0 0 0 0 0 0 (-1) 0 48 65535 0 (by omega) (by omega)
      generalize hg : f_X1_begin (48, 0, 0, 0, -1) T0.2.2.2.2.2.2.2.2.2.2.2.2.2.2.2.2.2.2.2.2.2.2.2.2.2.2.2.2.2.2.2.2.2.2.2.2.2.2.2.2.2.2.2.2.2.2.2.2.2.2.2.2.2.2.2.2.2.2.2.2.2.2.2.2.2.2.2.2.2.2.2.2.2.2.2.2.2.2.2.2.2.2.2.2.2.2.2.2.2.2.2.2.2.2.2.2.2.2.2.2.2.2.2.2.2.2.2.2.2.2.2.2.2.2.2.2.2.2.2.2.2.2.2.2.2.2.2.2.2.2.2.2.2.2.2.2.2.2.2.2.2.2.2.2.2.2.2.2.2.2.2.2.2.1 (8, 6, 0, 7, 0, 4, 2, 4, 0, 48, 1, 0, 11, 52, 63) = g at hb
      cases g with
      | none => cases hb
      | some g =>
        obtain ⟨g1, g2⟩ := g
        have hb : g1 = (48, 0, 0, 0, -1) := by injection hb
        subst hb
        have hf : f_X12_fits 0 b (0, 0, 0, 0, 0, 0, 0, 0, 0, 0, -1, 0) M0.2.1 M0.2.2.1 = some (-1, (0, 0, 0, 0, 0, 0, 0, 0, 0, 0, -1, 0)) := by
          unfold f_X12_fits f_X12_in
          simp only [M0a_32]
          rw [if_neg (by decide), if_neg (by decide), bso, if_neg (by decide)]
          exact hr
        unfold lk_23 lc_23 f_X11_fits
        simp only [T0c1, T0c152, T0c16, M0c0, in1, in2, end4]
        rw [if_neg (by decide), if_pos (by decide), hg, bso]
        simp only []
        rw [f_X11_fits_52_s, if_pos (by decide)]
        unfold f_X11_fits_90
        rw [if_neg hm, nth_out b h, bso, bso, hf, bso]
        simp
  · unfold lk_23 lc_23 f_X11_fits f_X12_fits f_X12_in
    simp only [T0c16, T0c152, M0c0, M0a_32, in1, in2, end4, bso]
    by_cases h : a < 0
    · simp [h, bso]
    · have h1 := i_pos h h0
      have h2 := i_npos h1
      simp [h, h1, h2, bso]
