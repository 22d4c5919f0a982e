/-! isTrue -/
theorem i_nI (x : Int32) : x = nI (x.toBitVec.toNat % 2 ^ 32) := by
  rw [← pk_and x (m := -1) 32 (by decide)]
  apply b_ext
  intro i hi
  rw [b_and, (by decide +kernel : ∀ i, i < 32 → bt (-1) i = true) i hi, Bool.and_true]
theorem nxt_is {n : Nat} (h0 : 0 < n) (hn : n < 2 ^ 31) (s : Int32) : ∃ (r : Nat) (x' : Int32), r < n ∧ f_X12_next (nI n) s = some (nI r, x') := by
  have hk : ∃ k : Nat, k < 65536 ∧ (((s * 1103515245) + 12345).toUInt32 >>> ((16 : Int32).toUInt32 &&& Int32.toUInt32 31)).toInt32 = nI k := by
    refine ⟨_, ?_, i_nI _⟩
    rw [pk_ushr ((s * 1103515245) + 12345) 16 16 (by decide)]
    have := ((s * 1103515245) + 12345).toBitVec.isLt
    omega
  obtain ⟨k, hk1, hk2⟩ := hk
  refine ⟨k % n, (s * 1103515245) + 12345, Nat.mod_lt _ h0, ?_⟩
  unfold f_X12_next
  rw [m_gI (nI_ne0 h0 hn), hk2, pk_rem (by omega) h0 hn]
theorem LF_0 {L R : Nat} (hR : R ≤ 12) {ro : Nat → Int32} {b : Nat → Int8} {i : Nat} : LF L R ro b i 0 = L * R := by
  unfold LF
  rw [rsum_k (c := R) L (fun k hk => ?_)]
  rw [osum_lt R (CS L R ro b i 0 k) 12 (fun k hk => rfl)]
  by_cases c : 12 ≤ R
  · rw [if_pos c]; omega
  · rw [if_neg c]
theorem nth_out {L R K D : Nat} {ro : Nat → Int32} {p : SX5} (h : PV L R K D ro p) {b : Nat → Int8} {i n : Nat} {u : SX1} {w : Nat → Int32} (hi : HI L R ro b i n u w) : f_X1_nth (nI (LF L R ro b i n)) u w p = some (-1) := by
  obtain ⟨po, wi, sl, fw, wr, la, dr, ch, ze, o, al, rfl, hp, a1, a2, a3, a4, _⟩ := h
  have h2 := LF_le (R := R) (ro := ro) (b := b) (i := i) (n := n) a2
  obtain ⟨ony, rfl, hlo, hon⟩ := hi
  unfold f_X1_nth
  dsimp only
  rw [if_neg (nI_pos (by omega)), if_neg (nI_nlt (Nat.le_refl _) (by omega))]
theorem can_is {x a t : Int32} {p : SX5} {s : SX4} (u : SX1) (w : Nat → Int32) {v : Int32} (hs : s.1 = 0) (h : f_X1_nth x u w p = some v) : f_X11_candidate x a p t s u w = some v := by
  obtain ⟨s0, s1, s2, s3, s4, s5, s6, s7, s8, s9⟩ := s
  have hs : s0 = 0 := hs
  unfold f_X11_candidate
  dsimp only
  rw [if_pos hs, h, bso]
theorem can_out {x a t : Int32} {p : SX5} {s : SX4} (u : SX1) (w : Nat → Int32) (hs : ¬ s.1 = 0) : f_X11_candidate x a p t s u w = some (-1) := by
  obtain ⟨s0, s1, s2, s3, s4, s5, s6, s7, s8, s9⟩ := s
  have hs : ¬ s0 = 0 := hs
  unfold f_X11_candidate
  dsimp only
  rw [if_neg hs]
abbrev Z1 (z : Int32 × SX4 × SX1 × (Nat → Int32) × SX7 × SX0 × (Nat → Int32) × Int32) : Prop := z.1 = 1
theorem isTrue_is {L R K D : Nat} {ro : Nat → Int32} {p : SX5} (hP : PV L R K D ro p) {said : Nat → Int32} {many : Nat} {t z : Int32} {b : Nat → Int8} {g : SX6} {gv : Nat → Int32} {s : SX4} {u : SX1} {w : Nat → Int32} {st : SX7} {e : SX0} {v : Nat → Int32} (h : NW L R K D ro p said many t z b g gv s u w st e v) (a : Int32) (tx : SX8) (tt : Int32) (c : SX4) (cu : SX1) (cw : Nat → Int32) (cs : SX7) (ce : SX0) (cv : Nat → Int32) (x : Int32) : Tt (f_L_isTrue 4000 (nI (L * R)) a p ro tx t z b g s u w st e tt c cu cw cs ce cv x) Z1 := by
  have h11 := cnt_11 p a tx t z g
  have h12 := cnt_12 p a tx t z g
  obtain ⟨hd, q, lv, S, rfl, rfl, hhd, h40, hG, rfl, rfl, hR, hST, hLS, hES, hm⟩ := h
  have hln := hG.1
  have hck := hG.2.1
  obtain ⟨t0, t2, t3, t4, t5, t8, t9, hmd, tz, tn⟩ := rx_tell hP (by omega) hR st e
  obtain ⟨_, _, _, _, _, _, _, _, _, _, _, _, _, a1, a2, a3, a4, _⟩ := id hP
  have hLR : 0 < L * R := Nat.mul_pos (by omega) (by omega)
  have hLR2 : L * R ≤ 288 := Nat.le_trans (Nat.mul_le_mul a2 a4) (by decide)
  have hl0 : ∀ j, j < hd → RF L R ro j (b j).toInt32 := fun j hj => (hln j (by omega)).2
  -- what comes behind
  have k292 : ∀ (c : SX4) (cu : SX1) (cw : Nat → Int32) (cs : SX7) (ce : SX0) (cv : Nat → Int32) (x : Int32), Tt (f_L_isTrue_292 4000 (nI hd) a p (nI hd) (nI (q * (L * R))) b tt c cu cw (nI (L * R)) cs ce cv x) Z1 := by
    intro c cu cw cs ce cv x
    unfold f_L_isTrue_292
    refine tt_b (fits_is (by decide) h40 (by omega) hP hln hhd 0 a (nI hd) tt c cu cw) ?_
    rintro ⟨v1, u1, w1⟩ ⟨u', w', hH, hv⟩
    have hv1 : v1 = 0 := by
      rcases hv with ⟨e0, _⟩ | ⟨_, e1⟩
      · exact absurd e0 (by decide)
      · rw [nth_0 hP hH hl0] at e1
        injection e1 with e1
        exact e1.symm
    refine tt_i (fun _ => ?_) (fun e => absurd hv1 e)
    refine tt_b (fits_is (M := 0) (by decide) h40 (by omega) hP hln (Nat.zero_le _) (-1) a (nI hd) tt c u1 w1) ?_
    rintro ⟨v2, u2, w2⟩ ⟨u'', w'', hH2, hv2⟩
    have hv2 : v2 = nI (L * R) := by
      rcases hv2 with ⟨_, e1⟩ | ⟨e0, _⟩
      · rw [LF_0 a4] at e1; exact e1
      · exact absurd rfl e0
    exact tt_i (fun _ => tt_r rfl) (fun e => absurd hv2 e)
  have k169 : ∀ (m k f : Nat), k + m = 5 → m ≤ f → ∀ (c : SX4) (cu : SX1) (cw : Nat → Int32) (cs : SX7) (ce : SX0) (cv : Nat → Int32) (x : Int32), Tt (f_L_isTrue_169 4000 (nI hd) a p (nI hd) (nI (q * (L * R))) b tt (nI (L * R)) (nI (q * (L * R))) ro (f + 1) (nI k) c cu cw cs ce cv x) Z1 := by
    intro m
    induction m with
    | zero =>
      intro k f hk _ c cu cw cs ce cv x
      unfold f_L_isTrue_169
      dsimp only
      exact tt_i (fun _ => k292 _ _ _ _ _ _ _) (fun e => absurd (nI_le (a := 5) (b := k) (by omega) (by omega)) e)
    | succ m ih =>
      intro k f hk hf c cu cw cs ce cv x
      obtain ⟨f, rfl⟩ : ∃ q, f = q + 1 := ⟨f - 1, by omega⟩
      unfold f_L_isTrue_169
      dsimp only
      refine tt_i (fun _ => k292 _ _ _ _ _ _ _) (fun _ => tt_i (fun _ => k292 _ _ _ _ _ _ _) (fun hq0 => ?_))
      have hN0 : 0 < q * (L * R) := by
        rcases Nat.eq_zero_or_pos (q * (L * R)) with z | z
        · rw [z] at hq0; exact absurd (by decide) hq0
        · exact z
      obtain ⟨i, x', hi, hnx⟩ := nxt_is hN0 (by omega) x
      obtain ⟨s', hfrom, hlocks⟩ := frl_is (by decide) h40 (by omega) hP hln hck hi
      have hstk := stk_is (by decide) h40 (by omega) hP hln hi a (nI hd)
      have k274 : ∀ (c : SX4) (cu : SX1) (cw : Nat → Int32) (cs : SX7) (ce : SX0) (cv : Nat → Int32), Tt (f_L_isTrue_274 4000 (nI i) a p ro (nI hd) (nI (q * (L * R))) b tt (nI k) x' (f_L_isTrue_169 4000 (nI hd) a p (nI hd) (nI (q * (L * R))) b tt (nI (L * R)) (nI (q * (L * R))) ro (f + 1)) c cu cw cs ce cv) Z1 := by
        intro c cu cw cs ce cv
        unfold f_L_isTrue_274
        refine tt_b (hfrom 5 (by decide) a (nI hd) tt c cu cw cs ce cv) ?_
        rintro ⟨v5, y1, y2, y3, y4, y5, y6⟩ ⟨u', w', st', e', hr, ht⟩
        have h5 := (rx_tell hP (by omega) hr st' e').2.2.2.2.1
        have e5 : v5 = 0 := by
          have ht : f_X4_tell 5 s' u' st' e' p = some v5 := ht
          rw [h5] at ht
          injection ht with ht
          exact ht.symm
        refine tt_i (fun _ => ?_) (fun z => absurd e5 z)
        rw [nI_1]
        exact ih (k + 1) f (by omega) (by omega) _ _ _ _ _ _ _
      rw [hnx, bso]
      dsimp only
      refine tt_b (hlocks a (nI hd) tt c cu cw cs ce cv) ?_
      rintro ⟨lk, y1, y2, y3, y4, y5, y6⟩ hlk
      refine tt_g (nI_ne0 hLR (by omega)) ?_
      rw [pk_rem (by omega) hLR (by omega), hstk, bso, if_pos rfl]
      rcases hlk with ⟨hl1, hl2⟩ | ⟨kk, hk1, hk2, hl1, hl2⟩
      · have hl1 : lk = -1 := hl1
        subst hl1
        refine tt_i (fun _ => ?_) (fun z => absurd (show (-1 : Int32) < 0 by decide) z)
        unfold f_L_isTrue_258
        refine tt_i (fun z => absurd z (show ¬ (0 : Int32) ≤ -1 by decide)) (fun _ => ?_)
        refine tt_b (hfrom 0 (by decide) a (nI hd) tt y1 y2 y3 y4 y5 y6) ?_
        rintro ⟨v5, b1, b2, b3, b4, b5, b6⟩ ⟨u', w', st', e', hr, ht⟩
        have h5 := (rx_tell hP (by omega) hr st' e').1
        have e5 : v5 = s'.1 := by
          have ht : f_X4_tell 0 s' u' st' e' p = some v5 := ht
          rw [h5] at ht
          injection ht with ht
          exact ht.symm
        refine tt_i (fun z => ?_) (fun _ => k274 _ _ _ _ _ _)
        have z : v5 = 2 := z
        exact absurd (e5.symm.trans z) hl2
      · have hl1 : lk = nI kk := hl1
        subst hl1
        refine tt_i (fun z => absurd z (nI_pos (by omega))) (fun _ => ?_)
        refine tt_i (fun z => absurd z (nI_nlt (b := 1) hk1 (by omega))) (fun _ => ?_)
        refine tt_b (hfrom 0 (by decide) a (nI hd) tt y1 y2 y3 y4 y5 y6) ?_
        rintro ⟨v5, b1, b2, b3, b4, b5, b6⟩ ⟨u', w', st', e', hr, ht⟩
        have h5 := (rx_tell hP (by omega) hr st' e').1
        have e5 : v5 = 2 := by
          have ht : f_X4_tell 0 s' u' st' e' p = some v5 := ht
          rw [h5] at ht
          injection ht with ht
          exact ht.symm.trans hl2
        refine tt_i (fun _ => ?_) (fun z => absurd e5 z)
        refine tt_b (hfrom 6 (by decide) a (nI hd) tt b1 b2 b3 b4 b5 b6) ?_
        rintro ⟨v6, d1, d2, d3, d4, d5, d6⟩ ⟨u2, w2, st2, e2, hr2, ht2⟩
        have h6 := ((rx_tell hP (by omega) hr2 st2 e2).2.2.2.2.2.2.2.2.2 (by rw [hl2]; decide)).1
        have e6 : v6 = nI (q * (L * R) % (L * R)) := by
          have ht2 : f_X4_tell 6 s' u2 st2 e2 p = some v6 := ht2
          rw [h6] at ht2
          injection ht2 with ht2
          rw [← ht2, Nat.add_sub_cancel' (Nat.le_of_lt hi)]
        refine tt_g (nI_ne0 hLR (by omega)) ?_
        rw [pk_rem (by omega) hLR (by omega)]
        refine tt_i (fun _ => ?_) (fun z => absurd e6 z)
        refine tt_b (hfrom 2 (by decide) a (nI hd) tt d1 d2 d3 d4 d5 d6) ?_
        rintro ⟨v7, f1, f2, f3, f4, f5, f6⟩ ⟨u3, w3, st3, e3, hr3, ht3⟩
        have h7 := (rx_tell hP (by omega) hr3 st3 e3).2.1
        have e7 : v7 = 1 := by
          have ht3 : f_X4_tell 2 s' u3 st3 e3 p = some v7 := ht3
          rw [h7] at ht3
          injection ht3 with ht3
          exact ht3.symm
        refine tt_i (fun _ => ?_) (fun z => absurd e7 z)
        unfold f_L_isTrue_258
        exact tt_i (fun _ => k274 _ _ _ _ _ _) (fun z => absurd (nI_le (a := 0) (b := kk) (by omega) (by omega)) z)
  have k166 : ∀ (cu : SX1) (cw : Nat → Int32), Tt (f_L_isTrue_166 4000 (nI hd) a p (nI hd) (nI (q * (L * R))) b tt (nI (L * R)) (nI (q * (L * R))) ro c cs ce cv x cu cw) Z1 := by
    intro cu cw
    unfold f_L_isTrue_166
    exact k169 5 0 65535 (by omega) (by omega) c cu cw cs ce cv x
  unfold f_L_isTrue
  rw [h12, bso, h11, bso, rcv_is t2, bso, if_pos rfl, rcv_is t3, bso, if_pos rfl, rcv_is t5, bso, if_pos rfl, rcv_is t9, bso, if_pos rfl, rcv_is t8, bso, if_pos rfl, rcv_is t4, bso]
  refine tt_i (fun _ => ?_) (fun z => absurd (show (if s.1 = 2 then (1 : Int32) else 0) ≤ 1 by by_cases cc : s.1 = 2; rw [if_pos cc]; decide; rw [if_neg cc]; decide) z)
  rw [rcv_is t0, bso]
  by_cases c0 : s.1 = 0
  · obtain ⟨t6, t7, t1, hH⟩ := tz c0
    rw [Nat.zero_add] at *
    rw [if_pos (show s.1 ≤ 0 by rw [c0]; decide), can_is u w c0 (nth_0 hP hH hl0), bso, if_pos rfl, rcv_is t6, bso, if_pos rfl, rcv_is t7, bso, if_pos rfl, rcv_is t1, bso, can_is u w c0 (nth_out hP hH), bso, if_pos rfl, bso]
    refine tt_b (fits_is (by decide) h40 (by omega) hP hln hhd (-1) a (nI hd) tt c cu cw) ?_
    rintro ⟨v1, u1, w1⟩ ⟨u', w', hH1, hv⟩
    have hv1 : v1 = nI (LF L R ro b 0 hd) := by
      rcases hv with ⟨_, e1⟩ | ⟨e0, _⟩
      · exact e1
      · exact absurd rfl e0
    exact tt_i (fun _ => k166 _ _) (fun z => absurd hv1.symm z)
  · obtain ⟨t6, t1⟩ := tn c0
    have hpos : ¬ s.1 ≤ 0 := by
      rcases hmd with z | z | z
      · exact absurd z c0
      · rw [z]; decide
      · rw [z]; decide
    rw [Nat.zero_add] at t6
    rw [if_neg hpos, rcv_is t6, bso, m_gI (nI_ne0 hLR (by omega)), pk_rem (by omega) hLR (by omega), if_pos rfl, rcv_is t1, bso, if_pos rfl, can_out u w c0, bso, if_pos rfl]
    exact k166 _ _
