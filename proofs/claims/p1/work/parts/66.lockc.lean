theorem lk_m1 (p : Int32) (x2 s n : Int32) (H : SX1) (rows : Nat → Int32) (S : SX7) (E : SX0) (ev : Nat → Int32) (roles : Nat → Int32) (bits : Nat → Int8) : f_X4_takeLocked 6304 x2 (2, 1, 0, 1, 0, p, nI 1, s, 0, 0) H rows S E ev plan0 roles n bits = some ((2, 1, 0, 1, 0, p, nI 2, s, 0, 0), H, rows, S, E, ev) := rfl
theorem lk_m2 (p : Int32) (x2 s n : Int32) (H : SX1) (rows : Nat → Int32) (S : SX7) (E : SX0) (ev : Nat → Int32) (roles : Nat → Int32) (bits : Nat → Int8) : f_X4_takeLocked 6304 x2 (2, 1, 0, 1, 0, p, nI 2, s, 0, 0) H rows S E ev plan0 roles n bits = some ((2, 1, 0, 1, 0, p, nI 3, s, 0, 0), H, rows, S, E, ev) := rfl
theorem lk_m3 (p : Int32) (x2 s n : Int32) (H : SX1) (rows : Nat → Int32) (S : SX7) (E : SX0) (ev : Nat → Int32) (roles : Nat → Int32) (bits : Nat → Int8) : f_X4_takeLocked 6304 x2 (2, 1, 0, 1, 0, p, nI 3, s, 0, 0) H rows S E ev plan0 roles n bits = some ((2, 1, 0, 1, 0, p, nI 4, s, 0, 0), H, rows, S, E, ev) := rfl
theorem lk_m4 (p : Int32) (x2 s n : Int32) (H : SX1) (rows : Nat → Int32) (S : SX7) (E : SX0) (ev : Nat → Int32) (roles : Nat → Int32) (bits : Nat → Int8) : f_X4_takeLocked 6304 x2 (2, 1, 0, 1, 0, p, nI 4, s, 0, 0) H rows S E ev plan0 roles n bits = some ((2, 1, 0, 1, 0, p, nI 5, s, 0, 0), H, rows, S, E, ev) := rfl
theorem lk_m5 (p : Int32) (x2 s n : Int32) (H : SX1) (rows : Nat → Int32) (S : SX7) (E : SX0) (ev : Nat → Int32) (roles : Nat → Int32) (bits : Nat → Int8) : f_X4_takeLocked 6304 x2 (2, 1, 0, 1, 0, p, nI 5, s, 0, 0) H rows S E ev plan0 roles n bits = some ((2, 1, 0, 1, 0, p, nI 6, s, 0, 0), H, rows, S, E, ev) := rfl
theorem lk_m6 (p : Int32) (x2 s n : Int32) (H : SX1) (rows : Nat → Int32) (S : SX7) (E : SX0) (ev : Nat → Int32) (roles : Nat → Int32) (bits : Nat → Int8) : f_X4_takeLocked 6304 x2 (2, 1, 0, 1, 0, p, nI 6, s, 0, 0) H rows S E ev plan0 roles n bits = some ((2, 1, 0, 1, 0, p, nI 7, s, 0, 0), H, rows, S, E, ev) := rfl
theorem lk_f0 (s : Int32) (H : SX1) (rows : Nat → Int32) (E : SX0) (ev : Nat → Int32) (roles : Nat → Int32) : f_X4_takeFirst (rl 0) (2, 1, 0, 1, 0, nI 0, 0, s, 0, 0) H rows E ev plan0 roles = some ((2, 1, 0, 1, 0, nI 0, 0, s, 0, 0), H, rows, E, ev) := rfl
theorem lk_e0 (x2 s n : Int32) (H : SX1) (rows : Nat → Int32) (S : SX7) (E : SX0) (ev : Nat → Int32) (roles : Nat → Int32) (bits : Nat → Int8) : f_X4_takeLocked 6304 x2 (2, 1, 0, 1, 0, nI 0, nI 7, s, 0, 0) H rows S E ev plan0 roles n bits = if s < 8 then some ((2, 1, 0, 1, 0, nI 1, 0, s, 0, 0), H, rows, S, E, ev) else Option.bind (f_X7_come ((x2 + 1) - 8) (nI 0) S) (fun S' => some ((2, 1, 0, 1, 0, nI 1, 0, s, 0, 0), H, rows, S', E, ev)) := rfl
theorem lk_f1 (s : Int32) (H : SX1) (rows : Nat → Int32) (E : SX0) (ev : Nat → Int32) (roles : Nat → Int32) : f_X4_takeFirst (rl 1) (2, 1, 0, 1, 0, nI 1, 0, s, 0, 0) H rows E ev plan0 roles = some ((2, 1, 0, 1, 0, nI 1, 0, s, 0, 0), H, rows, E, ev) := rfl
theorem lk_e1 (x2 s n : Int32) (H : SX1) (rows : Nat → Int32) (S : SX7) (E : SX0) (ev : Nat → Int32) (roles : Nat → Int32) (bits : Nat → Int8) : f_X4_takeLocked 6304 x2 (2, 1, 0, 1, 0, nI 1, nI 7, s, 0, 0) H rows S E ev plan0 roles n bits = if s < 8 then some ((2, 1, 0, 1, 0, nI 2, 0, s, 0, 0), H, rows, S, E, ev) else Option.bind (f_X7_come ((x2 + 1) - 8) (nI 1) S) (fun S' => some ((2, 1, 0, 1, 0, nI 2, 0, s, 0, 0), H, rows, S', E, ev)) := rfl
theorem lk_f2 (s : Int32) (H : SX1) (rows : Nat → Int32) (E : SX0) (ev : Nat → Int32) (roles : Nat → Int32) : f_X4_takeFirst (rl 2) (2, 1, 0, 1, 0, nI 2, 0, s, 0, 0) H rows E ev plan0 roles = some ((2, 1, 0, 1, 0, nI 2, 0, s, 0, 0), H, rows, E, ev) := rfl
theorem lk_e2 (x2 s n : Int32) (H : SX1) (rows : Nat → Int32) (S : SX7) (E : SX0) (ev : Nat → Int32) (roles : Nat → Int32) (bits : Nat → Int8) : f_X4_takeLocked 6304 x2 (2, 1, 0, 1, 0, nI 2, nI 7, s, 0, 0) H rows S E ev plan0 roles n bits = if s < 8 then some ((2, 1, 0, 1, 0, nI 3, 0, s, 0, 0), H, rows, S, E, ev) else Option.bind (f_X7_come ((x2 + 1) - 8) (nI 2) S) (fun S' => some ((2, 1, 0, 1, 0, nI 3, 0, s, 0, 0), H, rows, S', E, ev)) := rfl
theorem lk_f3 (s : Int32) (H : SX1) (rows : Nat → Int32) (E : SX0) (ev : Nat → Int32) (roles : Nat → Int32) : f_X4_takeFirst (rl 3) (2, 1, 0, 1, 0, nI 3, 0, s, 0, 0) H rows E ev plan0 roles = some ((2, 1, 0, 1, 0, nI 3, 0, s, 0, 0), H, rows, E, ev) := rfl
theorem lk_e3 (x2 s n : Int32) (H : SX1) (rows : Nat → Int32) (S : SX7) (E : SX0) (ev : Nat → Int32) (roles : Nat → Int32) (bits : Nat → Int8) : f_X4_takeLocked 6304 x2 (2, 1, 0, 1, 0, nI 3, nI 7, s, 0, 0) H rows S E ev plan0 roles n bits = if s < 8 then some ((2, 1, 0, 1, 0, nI 4, 0, s, 0, 0), H, rows, S, E, ev) else Option.bind (f_X7_come ((x2 + 1) - 8) (nI 3) S) (fun S' => some ((2, 1, 0, 1, 0, nI 4, 0, s, 0, 0), H, rows, S', E, ev)) := rfl
theorem lk_f4 (s : Int32) (H : SX1) (rows : Nat → Int32) (E : SX0) (ev : Nat → Int32) (roles : Nat → Int32) : f_X4_takeFirst (rl 4) (2, 1, 0, 1, 0, nI 4, 0, s, 0, 0) H rows E ev plan0 roles = some ((2, 1, 0, 1, 0, nI 4, 0, s, 0, 0), H, rows, E, ev) := rfl
theorem lk_e4 (x2 s n : Int32) (H : SX1) (rows : Nat → Int32) (S : SX7) (E : SX0) (ev : Nat → Int32) (roles : Nat → Int32) (bits : Nat → Int8) : f_X4_takeLocked 6304 x2 (2, 1, 0, 1, 0, nI 4, nI 7, s, 0, 0) H rows S E ev plan0 roles n bits = if s < 8 then some ((2, 1, 0, 1, 0, nI 5, 0, s, 0, 0), H, rows, S, E, ev) else Option.bind (f_X7_come ((x2 + 1) - 8) (nI 4) S) (fun S' => some ((2, 1, 0, 1, 0, nI 5, 0, s, 0, 0), H, rows, S', E, ev)) := rfl
theorem lk_f5 (s : Int32) (H : SX1) (rows : Nat → Int32) (E : SX0) (ev : Nat → Int32) (roles : Nat → Int32) : f_X4_takeFirst (rl 5) (2, 1, 0, 1, 0, nI 5, 0, s, 0, 0) H rows E ev plan0 roles = some ((2, 1, 0, 1, 0, nI 5, 0, s, 0, 0), H, rows, E, ev) := rfl
theorem lk_e5 (x2 s n : Int32) (H : SX1) (rows : Nat → Int32) (S : SX7) (E : SX0) (ev : Nat → Int32) (roles : Nat → Int32) (bits : Nat → Int8) : f_X4_takeLocked 6304 x2 (2, 1, 0, 1, 0, nI 5, nI 7, s, 0, 0) H rows S E ev plan0 roles n bits = if s < 8 then some ((2, 1, 0, 1, 0, nI 0, 0, s, 0, 0), H, rows, S, E, ev) else Option.bind (f_X7_come ((x2 + 1) - 8) (nI 5) S) (fun S' => some ((2, 1, 0, 1, 0, nI 0, 0, s, 0, 0), H, rows, S', E, ev)) := rfl
theorem lk_m (o : Nat) (h1 : 1 ≤ o) (h2 : o ≤ 6) (p : Int32) (x2 s n : Int32) (H : SX1) (rows : Nat → Int32) (S : SX7) (E : SX0) (ev : Nat → Int32) (roles : Nat → Int32) (bits : Nat → Int8) : f_X4_takeLocked 6304 x2 (2, 1, 0, 1, 0, p, nI o, s, 0, 0) H rows S E ev plan0 roles n bits = some ((2, 1, 0, 1, 0, p, nI (o + 1), s, 0, 0), H, rows, S, E, ev) := by
  obtain rfl | rfl | rfl | rfl | rfl | rfl : o = 1 ∨ o = 2 ∨ o = 3 ∨ o = 4 ∨ o = 5 ∨ o = 6 := by omega
  · exact lk_m1 _ _ _ _ _ _ _ _ _ _ _
  · exact lk_m2 _ _ _ _ _ _ _ _ _ _ _
  · exact lk_m3 _ _ _ _ _ _ _ _ _ _ _
  · exact lk_m4 _ _ _ _ _ _ _ _ _ _ _
  · exact lk_m5 _ _ _ _ _ _ _ _ _ _ _
  · exact lk_m6 _ _ _ _ _ _ _ _ _ _ _
theorem lk_f (p : Nat) (hp : p < 6) (s : Int32) (H : SX1) (rows : Nat → Int32) (E : SX0) (ev : Nat → Int32) (roles : Nat → Int32) : f_X4_takeFirst (rl p) (2, 1, 0, 1, 0, nI p, 0, s, 0, 0) H rows E ev plan0 roles = some ((2, 1, 0, 1, 0, nI p, 0, s, 0, 0), H, rows, E, ev) := by
  obtain rfl | rfl | rfl | rfl | rfl | rfl : p = 0 ∨ p = 1 ∨ p = 2 ∨ p = 3 ∨ p = 4 ∨ p = 5 := by omega
  · exact lk_f0 _ _ _ _ _ _
  · exact lk_f1 _ _ _ _ _ _
  · exact lk_f2 _ _ _ _ _ _
  · exact lk_f3 _ _ _ _ _ _
  · exact lk_f4 _ _ _ _ _ _
  · exact lk_f5 _ _ _ _ _ _
theorem lk_e (p : Nat) (hp : p < 6) (x2 s n : Int32) (H : SX1) (rows : Nat → Int32) (S : SX7) (E : SX0) (ev : Nat → Int32) (roles : Nat → Int32) (bits : Nat → Int8) : f_X4_takeLocked 6304 x2 (2, 1, 0, 1, 0, nI p, nI 7, s, 0, 0) H rows S E ev plan0 roles n bits = if s < 8 then some ((2, 1, 0, 1, 0, nI ((p + 1) % 6), 0, s, 0, 0), H, rows, S, E, ev) else Option.bind (f_X7_come ((x2 + 1) - 8) (nI p) S) (fun S' => some ((2, 1, 0, 1, 0, nI ((p + 1) % 6), 0, s, 0, 0), H, rows, S', E, ev)) := by
  obtain rfl | rfl | rfl | rfl | rfl | rfl : p = 0 ∨ p = 1 ∨ p = 2 ∨ p = 3 ∨ p = 4 ∨ p = 5 := by omega
  · exact lk_e0 _ _ _ _ _ _ _ _ _ _
  · exact lk_e1 _ _ _ _ _ _ _ _ _ _
  · exact lk_e2 _ _ _ _ _ _ _ _ _ _
  · exact lk_e3 _ _ _ _ _ _ _ _ _ _
  · exact lk_e4 _ _ _ _ _ _ _ _ _ _
  · exact lk_e5 _ _ _ _ _ _ _ _ _ _
theorem lk_z (p : Nat) (hp : p < 6) (bits : Nat → Int8) {t N : Nat} (ht : t < N) (hN : N ≤ 4000) (hb : (bits t).toInt32 = rl p) (s : Int32) (H : SX1) (rows : Nat → Int32) (S : SX7) (E : SX0) (ev : Nat → Int32) (roles : Nat → Int32) : f_X4_takeLocked 6304 (nI t) (2, 1, 0, 1, 0, nI p, nI 0, s, 0, 0) H rows S E ev plan0 roles (nI N) bits = some ((2, 1, 0, 1, 0, nI p, nI 1, s, 0, 0), H, rows, S, E, ev) := by
  have hf := lk_f p hp s H rows E ev roles
  unfold plan0 at hf
  unfold f_X4_takeLocked plan0
  simp only []
  rw [if_pos (show nI 0 = 0 from rfl), at_is bits ht hN, bso, hb, show nI 0 = 0 from rfl, hf, bso]
  rfl
theorem come_is (x y c : Int32) (clk x1 x2 x3 x4 x5 x6 x7 x8 x9 x10 x11 : Int32) : ∃ z1 z2 z3 z4, f_X7_come x y (0, c, 0, c, 0, clk, x1, x2, x3, x4, x5, x6, x7, x8, x9, x10, x11) = some (1, c + 1, 0, c, 0, clk, z1, z2, z3, z4, x5, x6, x7, x8, x9, x10, x11) := ⟨_, _, _, _, rfl⟩
theorem lock_c {t h N : Nat} (ht : t < N) (hN : N ≤ 384) (hh : h ≤ t) (q : Bool) (hb : t % 8 = 0 → rl (t / 8 % 6) = bv q) (bits : Nat → Int8) (hbit : (bits t).toInt32 = bv q) (H : SX1) (rows : Nat → Int32) (S : SX7) (hS : Sh S t (t / 8 - (h + 7) / 8)) (ev : Nat → Int32) (roles : Nat → Int32) :
    ∃ S', f_X4_take 6304 (nI t) (Rl t h) H rows S (0, 0, 0, 0) ev plan0 roles (nI N) bits = some (Rl (t + 1) h, H, rows, S', (0, 0, 0, 0), ev) ∧ Sh S' (t + 1) ((t + 1) / 8 - (h + 7) / 8) := by
  unfold f_X4_take Rl
  simp only []
  rw [at_is bits ht (by omega), bso, if_neg (by decide), if_neg (by decide), nI_1, show t - h + 1 = t + 1 - h by omega]
  by_cases h0 : t % 8 = 0
  · obtain ⟨S', e1, e2⟩ := tick_h hS (fun e => by omega)
    rw [h0, lk_z (t / 8 % 6) (by omega) bits ht (by omega) (by rw [hbit, hb h0]), bso]
    unfold f_X4_take_59
    simp only []
    rw [e1, bso]
    refine ⟨S', ?_, ?_⟩
    · rw [show (t + 1) / 8 = t / 8 by omega, show (t + 1) % 8 = 1 by omega]
    · rw [show (t + 1) / 8 = t / 8 by omega]; exact e2
  · by_cases h7 : t % 8 = 7
    · rw [h7, lk_e (t / 8 % 6) (by omega)]
      by_cases h8 : t + 1 - h < 8
      · obtain ⟨S', e1, e2⟩ := tick_h hS (fun e => by omega)
        rw [if_pos (show nI (t + 1 - h) < 8 from nI_lt (b := 8) h8 (by omega)), bso]
        unfold f_X4_take_59
        simp only []
        rw [e1, bso]
        refine ⟨S', ?_, ?_⟩
        · rw [show (t + 1) / 8 % 6 = (t / 8 % 6 + 1) % 6 by omega, show (t + 1) % 8 = 0 by omega]; rfl
        · rw [show (t + 1) / 8 - (h + 7) / 8 = t / 8 - (h + 7) / 8 by omega]; exact e2
      · rw [if_neg (show ¬ nI (t + 1 - h) < 8 from nI_nlt (a := t + 1 - h) (b := 8) (by omega) (by omega))]
        obtain ⟨x1, x2, x3, x4, x5, x6, x7, x8, x9, x10, x11, rfl⟩ := hS
        obtain ⟨z1, z2, z3, z4, e1⟩ := come_is ((nI t + 1) - 8) (nI (t / 8 % 6)) (nI (t / 8 - (h + 7) / 8)) (nI (1000 * (t % 8))) x1 x2 x3 x4 x5 x6 x7 x8 x9 x10 x11
        rw [e1, bso, bso]
        unfold f_X4_take_59
        simp only []
        obtain ⟨w1, w2, w3, w4, w5, w6, w7, w8, w9, w10, w11, e3⟩ := tickC (nI (t / 8 - (h + 7) / 8) + 1) 0 (nI (t / 8 - (h + 7) / 8)) 0 z1 z2 z3 z4 x5 x6 x7 x8 x9 x10 x11
        rw [h7, show nI (1000 * 7) = nI 7000 from rfl, e3, bso]
        refine ⟨(0, nI (t / 8 - (h + 7) / 8) + 1, 0, nI (t / 8 - (h + 7) / 8) + 1, 0, nI 0, w1, w2, w3, w4, w5, w6, w7, w8, w9, w10, w11), ?_, ⟨w1, w2, w3, w4, w5, w6, w7, w8, w9, w10, w11, ?_⟩⟩
        · rw [show (t + 1) / 8 % 6 = (t / 8 % 6 + 1) % 6 by omega, show (t + 1) % 8 = 0 by omega]; rfl
        · rw [nI_1, show t / 8 - (h + 7) / 8 + 1 = (t + 1) / 8 - (h + 7) / 8 by omega, show (t + 1) % 8 = 0 by omega]
    · obtain ⟨S', e1, e2⟩ := tick_h hS (fun e => by omega)
      rw [lk_m (t % 8) (by omega) (by omega), bso]
      unfold f_X4_take_59
      simp only []
      rw [e1, bso]
      refine ⟨S', ?_, ?_⟩
      · rw [show (t + 1) / 8 = t / 8 by omega, show (t + 1) % 8 = t % 8 + 1 by omega]
      · rw [show (t + 1) / 8 = t / 8 by omega]; exact e2
