/-! areFrames, isLinked -/
theorem rcv_is {x a t v : Int32} {p : SX5} {s : SX4} {u : SX1} {st : SX7} {e : SX0} (h : f_X4_tell x s u st e p = some v) : f_X11_receiver x a p t s u st e = some v := by
  unfold f_X11_receiver
  rw [h, bso]
theorem frm0_is {L D n : Nat} {st : SX7} {rd rn : Nat} (h1 : st.2.2.2.1 = nI rd) (hrd : rd < 2 ^ 31) (h2 : 0 < rd → st.2.2.2.2.2.2.2.2.2.2.2.2.1 = nI rn ∧ rn ≤ n) (nb : Nat) (a t z : Int32) (p : SX5) (b : Nat → Int8) (s : SX4) : f_X11_frame nb 0 a p t z b s st = some (if rd = 0 then -1 else nI rn) := by
  obtain ⟨c0, c1, c2, c3, c4, c5, c6, c7, c8, c9, cA, cB, cC, cD, cE, cF, cG⟩ := st
  have h1 : c3 = nI rd := h1
  have h2 : 0 < rd → cC = nI rn ∧ rn ≤ n := h2
  unfold f_X11_frame
  dsimp only
  by_cases c : rd = 0
  · rw [if_pos (by rw [h1, c]; rfl), if_pos c]
  · rw [if_neg (by rw [h1]; exact nI_ne0 (by omega) hrd), if_pos rfl, if_neg c, (h2 (by omega)).1]
theorem areFrames_is {L R K D : Nat} {ro : Nat → Int32} {p : SX5} (hP : PV L R K D ro p) {n : Nat} (hn : n ≤ 4000) {st : SX7} (hST : ST L D n st) (nb : Nat) (a : Int32) (tx : SX8) (z : Int32) (b : Nat → Int8) (g : SX6) (s : SX4) (u : SX1) (e : SX0) : f_L_areFrames nb a p tx (nI n) z b g s u st e = some 1 := by
  have h0 := cnt_0 hP a tx (nI n) z g
  obtain ⟨dr, h8, hdr⟩ := cnt_8 hP a tx (nI n) z g
  have h12 := cnt_12 p a tx (nI n) z g
  obtain ⟨po, wi, sl, fw, wr, la, dri, ch, ze, on, al, he, hp, a1, a2, a3, a4, hk, hw, ⟨d1, d2, d3⟩, hro, _⟩ := hP
  obtain ⟨hh, cm, drp, rd, rp, rn, t10, t11, t12, t13, t14, t15, k1, k2, k3, k4, k5, k6⟩ := st_tell hST s u e p
  have r10 := rcv_is (a := a) (t := nI n) t10
  have r11 := rcv_is (a := a) (t := nI n) t11
  have r12 := rcv_is (a := a) (t := nI n) t12
  have r13 := rcv_is (a := a) (t := nI n) t13
  have r14 := rcv_is (a := a) (t := nI n) t14
  have r15 := rcv_is (a := a) (t := nI n) t15
  have hnD : n * D ≤ 4000 * 1050 := Nat.mul_le_mul hn d2
  have hfr := frm0_is (L := L) (D := D) k5 (by omega) k6 nb a (nI n) z p b s
  have e1 : nI n * (1000 + dr) = nI (n * D) := by rw [hdr, pk_mul]
  have e2 : (1000 : Int32) * nI L = nI (1000 * L) := pk_mul 1000 L
  have hq : rd + rp ≤ n * D := Nat.le_trans k4 (Nat.div_le_self _ _)
  unfold f_L_areFrames
  rw [h12, bso, h8, bso, r10, bso, r11, bso, r12, bso, r14, bso, nI_add, nI_add, if_pos (by rw [k2]), bso, if_neg (show ¬ 2 < nI hh from nI_nlt (a := 2) (b := hh) k1 (by omega)), r15, bso, h0, bso, e2, m_gI (nI_ne0 (by omega) (by omega)), e1, pk_rem (by omega) (by omega) (by omega), if_pos rfl, bso, r13, bso, bso, e2, m_gI (nI_ne0 (by omega) (by omega)), pk_div (by omega) (by omega) (by omega), nI_add, if_neg (nI_nlt k4 (Nat.lt_of_le_of_lt (Nat.div_le_self _ _) (by omega))), hfr, bso]
  unfold f_L_areFrames_118 f_L_areFrames_132
  by_cases c : rd = 0
  · rw [if_pos c, if_pos rfl, r12, bso, if_pos (by rw [c]; rfl), if_pos rfl]
  · rw [if_neg c, if_neg (show ¬ nI rn = -1 from fun q => absurd (nI_pos (n := rn) (by have := (k6 (by omega)).2; omega)) (by rw [q]; decide)), r12, bso, if_neg (nI_ne0 (by omega) (by omega)), if_pos rfl]
theorem lk_w {S S' : SND} {x : Int32} (h : LK S x S') {w : Nat} (hw : S.1 = nI w) (hw2 : w < 2 ^ 31) : ∃ w', w' ≤ w ∧ S'.1 = nI w' := by
  obtain ⟨a, b, v⟩ := S
  obtain ⟨a', b', v'⟩ := S'
  have hw : a = nI w := hw
  subst hw
  show ∃ w', w' ≤ w ∧ a' = nI w'
  unfold LK f_X6_linkBit f_X6_linkBit_51 f_X6_dequeue at h
  dsimp only at h
  by_cases c1 : nI w = 0
  · rw [if_pos c1] at h
    injection h with h
    injection h with h1 h
    injection h with h2 h3
    injection h2 with h4 h5
    exact ⟨w, Nat.le_refl _, h4.symm⟩
  · rw [if_neg c1] at h
    by_cases c2 : b ≤ 8
    · rw [if_pos c2] at h
      by_cases c3 : b = 0
      · rw [if_pos c3] at h
        injection h with h
        injection h with h1 h
        injection h with h2 h3
        injection h2 with h4 h5
        exact ⟨w, Nat.le_refl _, h4.symm⟩
      · rw [if_neg c3] at h
        injection h with h
        injection h with h1 h
        injection h with h2 h3
        injection h2 with h4 h5
        exact ⟨w, Nat.le_refl _, h4.symm⟩
    · rw [if_neg c2] at h
      obtain ⟨w1, e1, f1, g1⟩ := dq2_is (nI w) 0 7 1 65535 (by omega) (by omega) (by omega) v
      have e1 : f_X6_dequeue_2 (nI w) 0 65536 1 v = _ := e1
      rw [e1] at h
      have h : (some ((1 : Int32), (nI w - 1, (0 : Int32), (0 : Int32)), w1) : Option (Int32 × SX6 × (Nat → Int32))) = some (x, (a', b', 0), v') := h
      injection h with h
      injection h with h1 h
      injection h with h2 h3
      injection h2 with h4 h5
      have hw0 : 1 ≤ w := by
        rcases Nat.eq_zero_or_pos w with z | z
        · subst z; exact absurd rfl c1
        · exact z
      exact ⟨w - 1, by omega, h4.symm.trans (pk_sub (b := 1) hw0)⟩
theorem ls_w {L R : Nat} {ro : Nat → Int32} {b : Nat → Int8} {A B : Nat} {S : Nat → SND} (h : LSD L R ro b A B S) {w : Nat} (hw : (S A).1 = nI w) (hw2 : w < 2 ^ 31) (n : Nat) (hn : A + n ≤ B) : ∃ w', w' ≤ w ∧ (S (A + n)).1 = nI w' := by
  induction n with
  | zero => exact ⟨w, Nat.le_refl _, hw⟩
  | succ n ih =>
    obtain ⟨w1, q1, q2⟩ := ih (by omega)
    obtain ⟨g1, g2⟩ := h (A + n) (by omega) (by omega)
    by_cases c : (A + n) % L = 0 ∧ ro ((A + n) / L % R) = 3
    · obtain ⟨w2, r1, r2⟩ := lk_w (g1 c) q2 (by omega)
      exact ⟨w2, by omega, r2⟩
    · refine ⟨w1, q1, ?_⟩
      have := g2 c
      show (S (A + n + 1)).1 = _
      rw [this]; exact q2
theorem val_is {tk : Nat} (htk : tk ≤ 8) {k : Nat} (hk : k < tk) (a t pa bg sp : Int32) (s : SX4) (v : Nat → Int32) : f_X11_value (nI k) a t s (nI tk, sp, bg, pa) v = some (v k) := by
  unfold f_X11_value f_X0_nth
  dsimp only
  rw [if_neg (nI_pos (by omega)), if_neg (nI_ge hk (by omega)), if_neg (show ¬ (8 : Int32) ≤ nI k from nI_ge (b := 8) (by omega) (by omega)), m_inI (nI_in (by omega) (by decide)), nI_clamp (by omega), bso]
theorem val_out {tk : Nat} (htk : tk ≤ 8) (a t pa bg sp : Int32) (s : SX4) (v : Nat → Int32) : f_X11_value (nI tk) a t s (nI tk, sp, bg, pa) v = some (-1) := by
  unfold f_X11_value f_X0_nth
  dsimp only
  rw [if_neg (nI_pos (by omega)), if_pos (nI_le (Nat.le_refl _) (by omega)), bso]
theorem isLinked_is {L R K D : Nat} {ro : Nat → Int32} {p : SX5} {said : Nat → Int32} {many : Nat} {t z : Int32} {b : Nat → Int8} {g : SX6} {gv : Nat → Int32} {s : SX4} {u : SX1} {w : Nat → Int32} {st : SX7} {e : SX0} {v : Nat → Int32} (h : NW L R K D ro p said many t z b g gv s u w st e v) (a : Int32) (tx : SX8) : f_L_isLinked (nI many) a p tx t z g s u st e v said = some 1 := by
  have h11 := cnt_11 p a tx t z g
  have h12 := cnt_12 p a tx t z g
  have h15 := cnt_15 p a tx t z g
  obtain ⟨hd, q, lv, S, rfl, rfl, hhd, h40, hG, rfl, rfl, hR, hST, hLS, hES, hm⟩ := h
  obtain ⟨wt, bg, tk, pa, e1, e2, rfl, e4, e5, e6, e7, e8, e9, e10, e11⟩ := hES
  obtain ⟨wt', q1, q2⟩ := ls_w hLS e1 (by omega) (q * (L * R) - hd) (by omega)
  rw [Nat.add_sub_cancel' hhd] at q2
  have r16 : f_X11_receiver 16 a p (nI hd) s u st (nI tk, 0, nI bg, pa) = some (nI tk) := by
    obtain ⟨s0, s1, s2, s3, s4, s5, s6, s7, s8, s9⟩ := s
    obtain ⟨c0, c1, c2, c3, c4, c5, c6, c7, c8, c9, cA, cB, cC, cD, cE, cF, cG⟩ := st
    exact rcv_is (tell_16 _ _ _ _ _ _ _ _ _ _ _ _ _ _ _ _ _ _ _ _ _ _ _ _ _ _ _ _ _ _ _ _ _)
  have r17 : f_X11_receiver 17 a p (nI hd) s u st (nI tk, 0, nI bg, pa) = some 0 := by
    obtain ⟨s0, s1, s2, s3, s4, s5, s6, s7, s8, s9⟩ := s
    obtain ⟨c0, c1, c2, c3, c4, c5, c6, c7, c8, c9, cA, cB, cC, cD, cE, cF, cG⟩ := st
    exact rcv_is (tell_17 _ _ _ _ _ _ _ _ _ _ _ _ _ _ _ _ _ _ _ _ _ _ _ _ _ _ _ _ _ _ _ _ _)
  have e96 : f_L_isLinked_96 (nI tk) a (nI hd) s (nI tk, 0, nI bg, pa) v = some 1 := by
    unfold f_L_isLinked_96
    have hmin : (if nI tk < 8 then nI tk else 8) = nI tk := by
      by_cases c : tk < 8
      · rw [if_pos (show nI tk < 8 from nI_lt (b := 8) c (by omega))]
      · rw [if_neg (show ¬ nI tk < 8 from nI_nlt (b := 8) (by omega) (by omega)), show tk = 8 by omega]
        rfl
    rw [hmin, val_out (by omega), bso, if_pos rfl]
  have e58 : ∀ (m k f : Nat), k + m = tk → m ≤ f → f_L_isLinked_58 (nI tk) a (nI hd) s (nI tk, 0, nI bg, pa) v said (f + 1) (nI k) = some 1 := by
    intro m
    induction m with
    | zero =>
      intro k f hk _
      have : k = tk := by omega
      subst this
      unfold f_L_isLinked_58
      try dsimp only
      rw [if_pos (nI_le (Nat.le_refl _) (by omega))]
      exact e96
    | succ m ih =>
      intro k f hk hf
      obtain ⟨f, rfl⟩ : ∃ q, f = q + 1 := ⟨f - 1, by omega⟩
      have e : (nI tk - 1) - nI k = nI (tk - 1 - k) := by
        rw [show nI tk - 1 = nI (tk - 1) from pk_sub (b := 1) (by omega), pk_sub (by omega)]
      unfold f_L_isLinked_58
      try dsimp only
      rw [if_neg (nI_ge (by omega) (by omega)), if_neg (show ¬ (8 : Int32) ≤ nI k from nI_ge (b := 8) (by omega) (by omega)), val_is (by omega) (by omega), bso, e, m_inI (nI_in (by omega) (by decide)), nI_clamp (by omega), if_pos (e9 k (by omega)), nI_1]
      exact ih (k + 1) f (by omega) (by omega)
  have e55 : f_L_isLinked_55 (nI tk) a (nI hd) s (nI tk, 0, nI bg, pa) v said = some 1 := by
    unfold f_L_isLinked_55
    exact e58 tk 0 65535 (by omega) (by omega)
  unfold f_L_isLinked
  rw [r16, bso, h15, bso, r17, bso, if_pos rfl]
  show (if (nI many - (S (q * (L * R))).1) < nI tk then _ else _) = _
  rw [q2, pk_sub (by omega), if_neg (nI_nlt (by omega) (by omega)), cnt_12 p a tx _ _ _, bso, cnt_11 p a tx _ _ _, bso]
  by_cases c : hd = q * (L * R)
  · have : wt' = wt := by
      rw [← c, e1] at q2
      exact ((nI_eq (by omega) (by omega)).mp q2).symm
    rw [if_pos (by rw [c]), if_pos (by congr 1; omega)]
    exact e55
  · rw [if_neg (fun z => c ((nI_eq (by omega) (by omega)).mp z))]
    exact e55
