theorem QH_33 {a : Nat → Int32} {t : Nat} {C : Nat → Bool} (h : QH a t C) (v : Int32) : QH (upd a 33 v) t C :=
  ⟨QB_of h.1 (fun j _ _ h33 _ _ _ _ _ _ _ => upd_ne _ _ h33), by rw [upd_ne _ _ (by decide)]; exact h.2.1, by rw [upd_ne _ _ (by decide)]; exact h.2.2.1, by rw [upd_ne _ _ (by decide)]; exact h.2.2.2.1, BW_of h.2.2.2.2 (fun k h1 _ => upd_ne _ _ (by omega))⟩
theorem QL_33 {a : Nat → Int32} {t h c : Nat} (H : QL a t h c) (v : Int32) : QL (upd a 33 v) t h c :=
  ⟨QB_of H.1 (fun j _ _ h33 _ _ _ _ _ _ _ => upd_ne _ _ h33), by rw [upd_ne _ _ (by decide)]; exact H.2.1, by rw [upd_ne _ _ (by decide)]; exact H.2.2.1, by rw [upd_ne _ _ (by decide)]; exact H.2.2.2.1, by rw [upd_ne _ _ (by decide)]; exact H.2.2.2.2.1, by rw [upd_ne _ _ (by decide)]; exact H.2.2.2.2.2.1, by rw [upd_ne _ _ (by decide)]; exact H.2.2.2.2.2.2⟩
/-- the class's receiver and the reference's stand alike behind t bits -/
def SIM (t : Nat) (R : SX4) (H : SX1) (rows : Nat → Int32) (S : SX7) (a : Nat → Int32) : Prop :=
  (∃ C o, R = Rh t ∧ H = Hh t C o ∧ (o = -1 ∨ o = 0) ∧ RW rows C ∧ C 0 = true ∧ Sh S t 0 ∧ QH a t C) ∨
  (∃ h, h ≤ t ∧ R = Rl t h ∧ Sh S t (t / 8 - (h + 7) / 8) ∧ QL a t h (t / 8 - (h + 7) / 8))
theorem sim_step (s : SX12) {t N : Nat} (ht : t < N) (hN : N ≤ 384) (q : Bool) (hb : t % 8 = 0 → rl (t / 8 % 6) = bv q) (bits : Nat → Int8) (hbit : (bits t).toInt32 = bv q) {R : SX4} {H : SX1} {rows : Nat → Int32} {S : SX7} {a : Nat → Int32} (h : SIM t R H rows S a) (ev roles : Nat → Int32) :
    ∃ R' H' rows' S' a', f_X4_take 6304 (nI t) R H rows S (0, 0, 0, 0) ev plan0 roles (nI N) bits = some (R', H', rows', S', (0, 0, 0, 0), ev) ∧ f_X12_hears (bv q) s a = some a' ∧ (∀ j, j = 32 ∨ j = 33 → a' j = a j) ∧ SIM (t + 1) R' H' rows' S' a' := by
  rcases h with ⟨C, o, rfl, rfl, ho, hR, h0, hS, hQ⟩ | ⟨h, hh, rfl, hS, hQ⟩
  · obtain ⟨R', H', rows', S', e1, e2, e3⟩ := hunt_c ht hN C h0 q hb bits hbit rows hR o ho S hS ev roles
    obtain ⟨a', f1, f2, f3⟩ := hunt_r s ht hN C h0 (bv q) hb hQ
    refine ⟨R', H', rows', S', a', e1, f1, f2, ?_⟩
    rcases e3 with ⟨g1, g2, g3⟩ | ⟨g1, g2, g3, o', g4, g5⟩
    · rcases f3 with ⟨_, _, k3⟩ | ⟨k1, _⟩
      · refine Or.inr ⟨t + 1, Nat.le_refl _, g3, ?_, ?_⟩
        · rw [show (t + 1) / 8 - (t + 1 + 7) / 8 = 0 by omega]; exact e2
        · rw [show (t + 1) / 8 - (t + 1 + 7) / 8 = 0 by omega]; exact k3
      · exact absurd ⟨g1, g2⟩ k1
    · rcases f3 with ⟨k1, k2, _⟩ | ⟨_, k2⟩
      · exact absurd ⟨k1, k2⟩ g1
      · exact Or.inl ⟨nxt C t (bv q), o', g2, g5, g4, g3, nxt_0 C h0 t (bv q) hb, e2, k2⟩
  · obtain ⟨S', e1, e2⟩ := lock_c ht hN hh q hb bits hbit H rows S hS ev roles
    obtain ⟨a', f1, f2, f3⟩ := lock_r s ht hN hh (bv q) hb hQ
    exact ⟨_, _, _, S', a', e1, f1, f2, Or.inr ⟨h, by omega, rfl, e2, f3⟩⟩
theorem SIM_33 {t : Nat} {R : SX4} {H : SX1} {rows : Nat → Int32} {S : SX7} {a : Nat → Int32} (h : SIM t R H rows S a) (v : Int32) : SIM t R H rows S (upd a 33 v) := by
  rcases h with ⟨C, o, h1, h2, h3, h4, h5, h6, h7⟩ | ⟨q, h1, h2, h3, h4⟩
  · exact Or.inl ⟨C, o, h1, h2, h3, h4, h5, h6, QH_33 h7 v⟩
  · exact Or.inr ⟨q, h1, h2, h3, QL_33 h4 v⟩
theorem run (w : Int32) {N : Nat} (hN : N ≤ 384) (bits line : Nat → Int8) (hq : ∀ t, t < N → ∃ q : Bool, (bits t).toInt32 = bv q ∧ (line t).toInt32 = bv q ∧ (t % 8 = 0 → rl (t / 8 % 6) = bv q)) (ev roles : Nat → Int32) (r1 u re le be so va si : Int32) (wd : Int64) (wa ba x : Int32) (m : Nat) :
    ∀ (t f g : Nat) (_ : t + m = N) (_ : m ≤ f) (_ : m ≤ g) (R : SX4) (H : SX1) (rows : Nat → Int32) (S : SX7) (a : Nat → Int32) (_ : SIM t R H rows S a) (_ : a 32 = nI N) (_ : a 33 = nI t),
    ∃ R' H' rows' S' a', f_X9_listen_5 (nI N) 6304 plan0 roles (nI N) bits (f + 1) (nI t) R H rows S (0, 0, 0, 0) ev = some (nI N, R', H', rows', S', (0, 0, 0, 0), ev) ∧
      f_X12_ahead_39 w r1 u re le be so va si wd wa ba x line (g + 1) a = Option.bind (f_X12_told w (r1, u, re, le, be, so, va, si, wd, wa, ba, x) a') (fun u89_r => Option.bind (f_X12_back u89_r (r1, u, re, le, be, so, va, si, wd, wa, ba, x) a') (fun z => match z with | (u92_r, u92_this_all) => some (u92_r, (r1, u, re, le, be, so, va, si, wd, wa, ba, x), u92_this_all, line))) ∧ SIM N R' H' rows' S' a' := by
  induction m with
  | zero =>
    intro t f g hk _ _ R H rows S a hs h32 h33
    have : t = N := by omega
    subst this
    refine ⟨R, H, rows, S, a, ?_, ?_, hs⟩
    · rw [f_X9_listen_5_s, if_pos (nI_le (Nat.le_refl _) (by omega))]
    · rw [f_X12_ahead_39_s, h32, h33, if_pos (nI_le (Nat.le_refl _) (by omega))]
  | succ m ih =>
    intro t f g hk hf hg R H rows S a hs h32 h33
    obtain ⟨f, rfl⟩ : ∃ q, f = q + 1 := ⟨f - 1, by omega⟩
    obtain ⟨g, rfl⟩ : ∃ q, g = q + 1 := ⟨g - 1, by omega⟩
    obtain ⟨q, b1, b2, b3⟩ := hq t (by omega)
    obtain ⟨R', H', rows', S', a', e1, e2, e3, e4⟩ := sim_step (r1, u, re, le, be, so, va, si, wd, wa, ba, x) (show t < N by omega) hN q b3 bits b1 hs ev roles
    obtain ⟨R2, H2, rows2, S2, a2, f1, f2, f3⟩ := ih (t + 1) f g (by omega) (by omega) (by omega) R' H' rows' S' (upd a' 33 (a' 33 + 1)) (SIM_33 e4 _) (by rw [upd_ne _ _ (by decide), e3 32 (Or.inl rfl)]; exact h32) (by rw [upd_same, e3 33 (Or.inr rfl), h33, nI_1])
    refine ⟨R2, H2, rows2, S2, a2, ?_, ?_, f3⟩
    · rw [f_X9_listen_5_s, if_neg (nI_ge (by omega) (by omega)), e1, bso, nI_1]
      exact f1
    · rw [f_X12_ahead_39_s, h32, h33, if_neg (nI_ge (by omega) (by omega)), m_inI (nI_in (c := t) (N := 32000) (by omega) (by omega)), nI_clamp (by omega), b2, e2, bso]
      exact f2
theorem tl_h (t : Nat) (C : Nat → Bool) (o : Int32) (S : SX7) (hS : Sh S t 0) (s : SX12) (a : Nat → Int32) (h : QH a t C) (w : Nat) (hw : w < 18) : ∃ v, f_X4_tell (nI w) (Rh t) (Hh t C o) S (0, 0, 0, 0) plan0 = some v ∧ f_X12_told (nI w) s a = some v := by
  obtain ⟨x1, x2, x3, x4, x5, x6, x7, x8, x9, x10, x11, rfl⟩ := hS
  obtain ⟨⟨g0, g1, g2, g3, g4, g5, g6, g7, g8, g9, g10, g11, g12⟩, q1, q2, q3, q4⟩ := h
  have hm := lm_is q4 s
  unfold f_X12_told
  rw [q1, if_pos rfl]
  obtain rfl | rfl | rfl | rfl | rfl | rfl | rfl | rfl | rfl | rfl | rfl | rfl | rfl | rfl | rfl | rfl | rfl | rfl : w = 0 ∨ w = 1 ∨ w = 2 ∨ w = 3 ∨ w = 4 ∨ w = 5 ∨ w = 6 ∨ w = 7 ∨ w = 8 ∨ w = 9 ∨ w = 10 ∨ w = 11 ∨ w = 12 ∨ w = 13 ∨ w = 14 ∨ w = 15 ∨ w = 16 ∨ w = 17 := by omega
  · exact ⟨0, rfl, by rw [show f_X12_told_15 (nI 0) a s 1 = some (a 34) from rfl, q1]⟩
  · exact ⟨nI (tot C), rfl, by rw [show f_X12_told_15 (nI 1) a s 1 = Option.bind (f_X12_leftMany s a) (fun r => some r) from rfl, hm]; rfl⟩
  · exact ⟨1, rfl, by rw [show f_X12_told_15 (nI 2) a s 1 = some (a 35) from rfl, g1]⟩
  · exact ⟨0, rfl, by rw [show f_X12_told_15 (nI 3) a s 1 = some (a 36) from rfl, g2]⟩
  · exact ⟨0, rfl, by rw [show f_X12_told_15 (nI 4) a s 1 = some (a 37) from rfl, q2]⟩
  · exact ⟨0, rfl, by rw [show f_X12_told_15 (nI 5) a s 1 = some (a 38) from rfl, g3]⟩
  · exact ⟨-1, rfl, rfl⟩
  · exact ⟨nI t, rfl, by rw [show f_X12_told_15 (nI 7) a s 1 = some (a 40) from rfl, q3]⟩
  · exact ⟨0, rfl, by rw [show f_X12_told_15 (nI 8) a s 1 = (if a 34 = 2 then Option.bind (f_X12_ones (a 41)) (fun r => some r) else some 0) from rfl, q1]; rfl⟩
  · exact ⟨0, rfl, by rw [show f_X12_told_15 (nI 9) a s 1 = some (a 43) from rfl, g4]⟩
  · exact ⟨nI 0, rfl, by rw [show f_X12_told_15 (nI 10) a s 1 = some (a 44) from rfl, g5]⟩
  · exact ⟨0, rfl, by rw [show f_X12_told_15 (nI 11) a s 1 = some (a 45) from rfl, g6]⟩
  · exact ⟨nI 0, rfl, by rw [show f_X12_told_15 (nI 12) a s 1 = some (a 46) from rfl, g7]⟩
  · exact ⟨0, rfl, by rw [show f_X12_told_15 (nI 13) a s 1 = some (a 47) from rfl, g8]⟩
  · exact ⟨0, rfl, by rw [show f_X12_told_15 (nI 14) a s 1 = some (a 48) from rfl, g9]⟩
  · exact ⟨nI (1000 * (t % 8)), rfl, by rw [show f_X12_told_15 (nI 15) a s 1 = some (a 49) from rfl, g10]⟩
  · exact ⟨0, rfl, by rw [show f_X12_told_15 (nI 16) a s 1 = some (a 50) from rfl, g11]⟩
  · exact ⟨0, rfl, by rw [show f_X12_told_15 (nI 17) a s 1 = some (a 51) from rfl, g12]⟩
theorem tl_l (t h c : Nat) (ht : t < 400) (H : SX1) (S : SX7) (hS : Sh S t c) (s : SX12) (a : Nat → Int32) (hQ : QL a t h c) (w : Nat) (hw : w < 18) : ∃ v, f_X4_tell (nI w) (Rl t h) H S (0, 0, 0, 0) plan0 = some v ∧ f_X12_told (nI w) s a = some v := by
  obtain ⟨x1, x2, x3, x4, x5, x6, x7, x8, x9, x10, x11, rfl⟩ := hS
  obtain ⟨⟨g0, g1, g2, g3, g4, g5, g6, g7, g8, g9, g10, g11, g12⟩, q1, q2, q3, q4, q5, _⟩ := hQ
  obtain ⟨H1, H2, H3, H4, H5⟩ := H
  unfold f_X12_told
  rw [q1, if_neg (by decide)]
  obtain rfl | rfl | rfl | rfl | rfl | rfl | rfl | rfl | rfl | rfl | rfl | rfl | rfl | rfl | rfl | rfl | rfl | rfl : w = 0 ∨ w = 1 ∨ w = 2 ∨ w = 3 ∨ w = 4 ∨ w = 5 ∨ w = 6 ∨ w = 7 ∨ w = 8 ∨ w = 9 ∨ w = 10 ∨ w = 11 ∨ w = 12 ∨ w = 13 ∨ w = 14 ∨ w = 15 ∨ w = 16 ∨ w = 17 := by omega
  · exact ⟨2, rfl, by rw [show f_X12_told_15 (nI 0) a s 0 = some (a 34) from rfl, q1]⟩
  · exact ⟨1, rfl, rfl⟩
  · exact ⟨1, rfl, by rw [show f_X12_told_15 (nI 2) a s 0 = some (a 35) from rfl, g1]⟩
  · exact ⟨0, rfl, by rw [show f_X12_told_15 (nI 3) a s 0 = some (a 36) from rfl, g2]⟩
  · exact ⟨1, rfl, by rw [show f_X12_told_15 (nI 4) a s 0 = some (a 37) from rfl, q2]⟩
  · exact ⟨0, rfl, by rw [show f_X12_told_15 (nI 5) a s 0 = some (a 38) from rfl, g3]⟩
  · refine ⟨nI (t / 8 % 6) * 8 + nI (t % 8), rfl, ?_⟩
    rw [show f_X12_told_15 (nI 6) a s 0 = some (a 39) from rfl, q3, show (8 : Int32) = nI 8 from rfl, pk_mul, nI_add, show t / 8 % 6 * 8 + t % 8 = t % 48 by omega]
  · exact ⟨nI (t - h), rfl, by rw [show f_X12_told_15 (nI 7) a s 0 = some (a 40) from rfl, q4]⟩
  · exact ⟨0, rfl, by rw [show f_X12_told_15 (nI 8) a s 0 = (if a 34 = 2 then Option.bind (f_X12_ones (a 41)) (fun r => some r) else some 0) from rfl, q1, if_pos rfl, q5, show f_X12_ones 0 = some 0 from by decide +kernel]; rfl⟩
  · exact ⟨0, rfl, by rw [show f_X12_told_15 (nI 9) a s 0 = some (a 43) from rfl, g4]⟩
  · exact ⟨nI c, rfl, by rw [show f_X12_told_15 (nI 10) a s 0 = some (a 44) from rfl, g5]⟩
  · exact ⟨0, rfl, by rw [show f_X12_told_15 (nI 11) a s 0 = some (a 45) from rfl, g6]⟩
  · exact ⟨nI c, rfl, by rw [show f_X12_told_15 (nI 12) a s 0 = some (a 46) from rfl, g7]⟩
  · exact ⟨0, rfl, by rw [show f_X12_told_15 (nI 13) a s 0 = some (a 47) from rfl, g8]⟩
  · exact ⟨0, rfl, by rw [show f_X12_told_15 (nI 14) a s 0 = some (a 48) from rfl, g9]⟩
  · exact ⟨nI (1000 * (t % 8)), rfl, by rw [show f_X12_told_15 (nI 15) a s 0 = some (a 49) from rfl, g10]⟩
  · exact ⟨0, rfl, by rw [show f_X12_told_15 (nI 16) a s 0 = some (a 50) from rfl, g11]⟩
  · exact ⟨0, rfl, by rw [show f_X12_told_15 (nI 17) a s 0 = some (a 51) from rfl, g12]⟩
theorem tl_is {t : Nat} (ht : t < 400) {R : SX4} {H : SX1} {rows : Nat → Int32} {S : SX7} {a : Nat → Int32} (h : SIM t R H rows S a) (s : SX12) (w : Nat) (hw : w < 18) : ∃ v, f_X4_tell (nI w) R H S (0, 0, 0, 0) plan0 = some v ∧ f_X12_told (nI w) s a = some v := by
  rcases h with ⟨C, o, rfl, rfl, h3, h4, h5, h6, h7⟩ | ⟨q, h1, rfl, h3, h4⟩
  · exact tl_h t C o S h6 s a h7 w hw
  · exact tl_l t q _ ht H S h3 s a h4 w hw
theorem cp_go (x0 x1 : Nat) (h0 : x0 ≤ 4) (h1 : x1 ≤ 4) (m : Nat) : ∀ (k f : Nat) (_ : k + m = 136) (_ : m ≤ f) (a : Nat → Int32), ∃ a', f_X12_copies_2 (nI x0) (nI x1) (f + 1) (nI k) a = some a' ∧ ∀ j, ¬ (136 * x1 ≤ j ∧ j < 136 * x1 + 136) → a' j = a j := by
  induction m with
  | zero => intro k f hk _ a
            have : k = 136 := by omega
            subst this
            exact ⟨a, by rw [f_X12_copies_2_s, if_pos (by decide)], fun _ _ => rfl⟩
  | succ m ih =>
    intro k f hk hf a
    obtain ⟨f, rfl⟩ : ∃ q, f = q + 1 := ⟨f - 1, by omega⟩
    have e136 : (136 : Int32) = nI 136 := rfl
    obtain ⟨a', e1, e2⟩ := ih (k + 1) f (by omega) (by omega) (upd a (136 * x1 + k) (a (136 * x0 + k)))
    refine ⟨a', ?_, fun j hj => by rw [e2 j hj, upd_ne _ _ (by omega)]⟩
    rw [f_X12_copies_2_s, if_neg (show ¬ (136 : Int32) ≤ nI k from nI_ge (a := k) (b := 136) (by omega) (by omega)), e136, pk_mul, pk_mul, nI_add, nI_add, m_inI (nI_in (c := 136 * x0 + k) (N := 680) (by omega) (by omega)), m_inI (nI_in (c := 136 * x1 + k) (N := 680) (by omega) (by omega)), nI_clamp (by omega), nI_clamp (by omega), nI_1]
    exact e1
theorem cp_is (x0 x1 : Nat) (h0 : x0 ≤ 4) (h1 : x1 ≤ 4) (s : SX12) (a : Nat → Int32) : ∃ a', f_X12_copies (nI x0) (nI x1) s a = some a' ∧ ∀ j, ¬ (136 * x1 ≤ j ∧ j < 136 * x1 + 136) → a' j = a j := cp_go x0 x1 h0 h1 136 0 65535 (by omega) (by omega) a
