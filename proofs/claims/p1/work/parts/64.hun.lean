theorem at_is (bits : Nat → Int8) {t N : Nat} (ht : t < N) (hN : N ≤ 4000) : f_X2_at 6304 (nI t) (nI N) bits = some ((bits t).toInt32) := by
  unfold f_X2_at
  rw [if_neg (nI_pos (n := t) (by omega)), if_neg (nI_ge ht (by omega)), if_neg (nI_ge (a := t) (b := 6304) (by omega) (by omega)), m_inI (nI_in (c := t) (N := 6304) (by omega) (by omega)), nI_clamp (by omega)]
theorem tickA (held came dr rd rep os op ns np rs rp rn sg s1 s2 s3 : Int32) : ∀ o : Fin 7, f_X7_tick (held, came, dr, rd, rep, nI (1000 * o.val), os, op, ns, np, rs, rp, rn, sg, s1, s2, s3) plan0 = some (held, came, dr, rd, rep, nI (1000 * (o.val + 1)), os, op, ns, np, rs, rp, rn, sg, s1, s2, s3)
  | 0 => rfl
  | 1 => rfl
  | 2 => rfl
  | 3 => rfl
  | 4 => rfl
  | 5 => rfl
  | 6 => rfl
theorem tickB (came dr rep os op ns np rs rp rn sg s1 s2 s3 : Int32) : f_X7_tick (0, came, dr, 0, rep, nI 7000, os, op, ns, np, rs, rp, rn, sg, s1, s2, s3) plan0 = some (0, came, dr, 0, rep, nI 0, os, op, ns, np, rs, rp, rn, sg, s1, s2, s3) := rfl
theorem tickC (came dr rd rep os op ns np rs rp rn sg s1 s2 s3 : Int32) : ∃ x1 x2 x3 x4 x5 x6 x7 x8 x9 x10 x11, f_X7_tick (1, came, dr, rd, rep, nI 7000, os, op, ns, np, rs, rp, rn, sg, s1, s2, s3) plan0 = some (0, came, dr, rd + 1, rep, nI 0, x1, x2, x3, x4, x5, x6, x7, x8, x9, x10, x11) := ⟨_, _, _, _, _, _, _, _, _, _, _, rfl⟩
theorem fs_is : ∀ t : Fin 400, f_X5_fixedStarted (nI t.val) plan0 = some (nI ((t.val + 7) / 8)) := by decide +kernel
theorem row0 : ∀ b1 b2 b3 b4 b5 : Bool, (nI (pk6 true b1 b2 b3 b4 b5) >>> ((0 : Int32) &&& 31)) &&& 1 = 1 := by decide +kernel
theorem nth_0 (C : Nat → Bool) (h0 : C 0 = true) (rows : Nat → Int32) (h : RW rows C) (x1 x2 x3 x4 : Int32) : f_X1_nth 0 (1, x1, x2, x3, x4) rows plan0 = some 0 := by
  unfold f_X1_nth plan0
  simp only []
  rw [if_neg (by decide), if_pos (by decide), show (65536 : Nat) = 65535 + 1 from rfl, f_X1_nth_19_s, if_neg (by decide), show (65536 : Nat) = 65535 + 1 from rfl, f_X1_nth_31_s, if_neg (by decide), if_neg (by decide), m_inI (i := (0 : Int32)) (pk_in 0 24 (by decide) rfl), show (0 : Int32).toNatClampNeg = 0 from rfl, h 0 (by omega)]
  unfold rowC
  rw [h0, row0]
  rfl
theorem lone_is (C : Nat → Bool) (h0 : C 0 = true) (rows : Nat → Int32) (h : RW rows C) (x1 x2 x3 only : Int32) (ho : only = -1 ∨ only = 0) : f_X1_lone (1, x1, x2, x3, only) rows plan0 = some (0, (1, x1, x2, x3, 0)) := by
  unfold f_X1_lone
  rcases ho with e | e <;> subst e
  · simp only [if_true]
    rw [nth_0 C h0 rows h]; rfl
  · rfl
theorem fh_is (C : Nat → Bool) (h0 : C 0 = true) (rows : Nat → Int32) (h : RW rows C) (t : Nat) (ht : t < 400) (x2 x3 only : Int32) (ho : only = -1 ∨ only = 0) : f_X1_fixedHeard (1, nI t, x2, x3, only) rows plan0 = some (nI ((t + 7) / 8), (1, nI t, x2, x3, 0)) := by
  unfold f_X1_fixedHeard
  simp only []
  rw [lone_is C h0 rows h _ _ _ _ ho, bso]
  simp only []
  rw [show (0 : Int32) + nI t = nI t from by rw [show (0 : Int32) = nI 0 from rfl, nI_add, Nat.zero_add], show f_X5_fixedStarted (nI t) plan0 = some (nI ((t + 7) / 8)) from fs_is ⟨t, ht⟩, bso, show f_X5_fixedStarted 0 plan0 = some (nI 0) from by decide +kernel, bso, pk_sub (by omega)]
  rfl
theorem fl_is (C : Nat → Bool) (h0 : C 0 = true) (rows : Nat → Int32) (h : RW rows C) (t : Nat) (ht : t < 400) (x2 x3 only : Int32) (ho : only = -1 ∨ only = 0) (since : Int32) : ∃ H, f_X4_followLone (0, 1, 0, 0, 0, 0, 0, since, 0, 0) (1, nI t, x2, x3, only) rows (0, 0, 0, 0) plan0 = some ((2, 1, 0, 1, 0, nI (t / 8 % 6), nI (t % 8), 0, 0, 0), H, (0, 0, 0, 0)) := by
  have hl := lone_is C h0 rows h (nI t) x2 x3 only ho
  unfold plan0 at hl
  unfold f_X4_followLone plan0
  simp only []
  rw [if_neg (by decide), if_pos (by decide), hl, bso]
  simp only []
  rw [m_gI (by decide), show (0 : Int32) + nI t = nI t from by rw [show (0 : Int32) = nI 0 from rfl, nI_add, Nat.zero_add], show (48 : Int32) = nI 48 from rfl, pk_rem (by omega) (by decide) (by decide)]
  unfold m_n
  dsimp only
  rw [m_gI (by decide), if_pos (by decide), show (8 : Int32) = nI 8 from rfl, pk_rem (by omega) (by decide) (by decide), pk_div (by omega) (by decide) (by decide), show t % 48 / 8 = t / 8 % 6 by omega, show t % 48 % 8 = t % 8 by omega]
  exact ⟨_, rfl⟩
/-- the class's state as long as it hunts, t bits heard -/
def Rh (t : Nat) : SX4 := (0, 1, 0, 0, 0, 0, 0, nI t, 0, 0)
def Hh (t : Nat) (C : Nat → Bool) (only : Int32) : SX1 := (nI (tot C), nI t, nI ((8 - t % 8) % 8), nI ((t + 7) / 8 % 6), only)
def Sh (S : SX7) (t c : Nat) : Prop := ∃ x1 x2 x3 x4 x5 x6 x7 x8 x9 x10 x11, S = (0, nI c, 0, nI c, 0, nI (1000 * (t % 8)), x1, x2, x3, x4, x5, x6, x7, x8, x9, x10, x11)
theorem tick_h {S : SX7} {t c : Nat} (h : Sh S t c) (hc : t % 8 = 7 → c = 0) : ∃ S', f_X7_tick S plan0 = some S' ∧ Sh S' (t + 1) c := by
  obtain ⟨x1, x2, x3, x4, x5, x6, x7, x8, x9, x10, x11, rfl⟩ := h
  by_cases h7 : t % 8 = 7
  · rw [hc h7, h7]
    refine ⟨_, tickB _ _ _ _ _ _ _ _ _ _ _ _ _ _, ?_⟩
    exact ⟨x1, x2, x3, x4, x5, x6, x7, x8, x9, x10, x11, by rw [show 1000 * ((t + 1) % 8) = 0 by omega]; rfl⟩
  · refine ⟨_, tickA _ _ _ _ _ _ _ _ _ _ _ _ _ _ _ _ ⟨t % 8, by omega⟩, ?_⟩
    exact ⟨x1, x2, x3, x4, x5, x6, x7, x8, x9, x10, x11, by rw [show (t + 1) % 8 = t % 8 + 1 by omega]⟩
/-- the class's state when it is locked since h bits -/
def Rl (t h : Nat) : SX4 := (2, 1, 0, 1, 0, nI (t / 8 % 6), nI (t % 8), nI (t - h), 0, 0)
theorem tot_pos (C : Nat → Bool) (h0 : C 0 = true) : 1 ≤ tot C := by
  rw [tot_rows]; unfold sumC c6; rw [h0]; simp only [Bool.toNat_true]; omega
theorem nxt_0 (C : Nat → Bool) (h0 : C 0 = true) (t : Nat) (b : Int32) (hb : t % 8 = 0 → rl (t / 8 % 6) = b) : nxt C t b 0 = true := by
  unfold nxt str
  rw [h0]
  by_cases h8 : t % 8 = 0
  · simp [hb h8]
  · simp [h8]
theorem hunt_c {t N : Nat} (ht : t < N) (hN : N ≤ 384) (C : Nat → Bool) (h0 : C 0 = true) (q : Bool) (hb : t % 8 = 0 → rl (t / 8 % 6) = bv q) (bits : Nat → Int8) (hbit : (bits t).toInt32 = bv q) (rows : Nat → Int32) (h : RW rows C) (only : Int32) (ho : only = -1 ∨ only = 0) (S : SX7) (hS : Sh S t 0) (ev : Nat → Int32) (roles : Nat → Int32) :
    ∃ R' H' rows' S', f_X4_take 6304 (nI t) (Rh t) (Hh t C only) rows S (0, 0, 0, 0) ev plan0 roles (nI N) bits = some (R', H', rows', S', (0, 0, 0, 0), ev) ∧ Sh S' (t + 1) 0 ∧
      ((tot (nxt C t (bv q)) = 1 ∧ 4 ≤ (t + 8) / 8 ∧ R' = Rl (t + 1) (t + 1)) ∨ (¬ (tot (nxt C t (bv q)) = 1 ∧ 4 ≤ (t + 8) / 8) ∧ R' = Rh (t + 1) ∧ RW rows' (nxt C t (bv q)) ∧ ∃ o', (o' = -1 ∨ o' = 0) ∧ H' = Hh (t + 1) (nxt C t (bv q)) o')) := by
  obtain ⟨rows', e1, e2⟩ := fo_is C t q rows h only
  obtain ⟨S', e3, e4⟩ := tick_h hS (fun _ => rfl)
  have hc0 := nxt_0 C h0 t (bv q) hb
  have hp := tot_pos _ hc0
  have hle := tot_le (nxt C t (bv q))
  unfold f_X4_take Rh Hh
  simp only []
  rw [at_is bits ht (by omega), bso, if_pos trivial, hbit]
  unfold f_X4_takeHunting
  unfold plan0 at e1 ⊢
  simp only []
  rw [e1, bso]
  simp only []
  rw [if_neg (show ¬ nI (tot (nxt C t (bv q))) = 0 from nI_ne0 (by omega) (by omega))]
  by_cases h1 : tot (nxt C t (bv q)) = 1
  · have hf := fh_is (nxt C t (bv q)) hc0 rows' e2 (t + 1) (by omega) (nI ((8 - (t + 1) % 8) % 8)) (nI ((t + 8) / 8 % 6)) only ho
    obtain ⟨HH, hl⟩ := fl_is (nxt C t (bv q)) hc0 rows' e2 (t + 1) (by omega) (nI ((8 - (t + 1) % 8) % 8)) (nI ((t + 8) / 8 % 6)) 0 (Or.inr rfl) (nI (t + 1))
    unfold plan0 at hf hl e3
    rw [h1, if_pos (show nI 1 = 1 from rfl), show nI 1 = 1 from rfl, hf, bso]
    simp only []
    by_cases h4 : 4 ≤ (t + 8) / 8
    · rw [if_neg (show ¬ nI ((t + 1 + 7) / 8) < 4 from nI_nlt (b := (t + 1 + 7) / 8) (a := (t + 1 + 7) / 8) (Nat.le_refl _) (by omega) |> fun _ => (show ¬ nI ((t + 1 + 7) / 8) < nI 4 from nI_nlt (by omega) (by omega))), nI_1, hl, bso, bso]
      unfold f_X4_take_59
      rw [e3, bso]
      exact ⟨_, _, _, _, rfl, e4, Or.inl ⟨trivial, h4, by unfold Rl; rw [Nat.sub_self]; rfl⟩⟩
    · rw [if_pos (show nI ((t + 1 + 7) / 8) < 4 from nI_lt (b := 4) (by omega) (by omega)), bso]
      unfold f_X4_take_59
      rw [e3, bso, nI_1]
      refine ⟨_, _, _, _, rfl, e4, Or.inr ⟨fun e => h4 e.2, rfl, e2, 0, Or.inr rfl, ?_⟩⟩
      rfl
  · unfold plan0 at e3
    rw [if_neg (show ¬ nI (tot (nxt C t (bv q))) = 1 from fun e => h1 ((nI_eq (b := 1) (by omega) (by omega)).mp e)), bso]
    unfold f_X4_take_59
    simp only []
    rw [e3, bso, nI_1]
    exact ⟨_, _, _, _, rfl, e4, Or.inr ⟨fun e => h1 e.1, rfl, e2, only, ho, rfl⟩⟩
