def pk6 (b0 b1 b2 b3 b4 b5 : Bool) : Nat := b0.toNat + 2 * b1.toNat + 4 * b2.toNat + 8 * b3.toNat + 16 * b4.toNat + 32 * b5.toNat
def c6 (b0 b1 b2 b3 b4 b5 : Bool) : Nat := b0.toNat + b1.toNat + b2.toNat + b3.toNat + b4.toNat + b5.toNat
def bv (q : Bool) : Int32 := if q then 1 else 0
def oth (q : Bool) : Int32 := if q then 11 else 52
def sfo (fo f : Nat) (q : Bool) : Bool := decide (¬ rl ((f + fo) % 6) = bv q)
theorem row_step : ∀ (fo : Fin 6) (q b0 b1 b2 b3 b4 b5 : Bool),
    nI (pk6 b0 b1 b2 b3 b4 b5) ^^^ (nI (pk6 b0 b1 b2 b3 b4 b5) &&& ((oth q >>> (nI fo.val &&& 31)) ||| (oth q <<< ((6 - nI fo.val) &&& 31)))) = nI (pk6 (b0 && !sfo fo.val 0 q) (b1 && !sfo fo.val 1 q) (b2 && !sfo fo.val 2 q) (b3 && !sfo fo.val 3 q) (b4 && !sfo fo.val 4 q) (b5 && !sfo fo.val 5 q)) ∧
    f_J6_bitCount_0f7a4 (nI (pk6 b0 b1 b2 b3 b4 b5) &&& ((oth q >>> (nI fo.val &&& 31)) ||| (oth q <<< ((6 - nI fo.val) &&& 31)))) = some (nI (c6 (b0 && sfo fo.val 0 q) (b1 && sfo fo.val 1 q) (b2 && sfo fo.val 2 q) (b3 && sfo fo.val 3 q) (b4 && sfo fo.val 4 q) (b5 && sfo fo.val 5 q))) := by decide +kernel
def rowC (C : Nat → Bool) (r : Nat) : Nat := pk6 (C r) (C (8 + r)) (C (16 + r)) (C (24 + r)) (C (32 + r)) (C (40 + r))
def sumC (C : Nat → Bool) (r : Nat) : Nat := c6 (C r) (C (8 + r)) (C (16 + r)) (C (24 + r)) (C (32 + r)) (C (40 + r))
def nxt (C : Nat → Bool) (t : Nat) (b : Int32) : Nat → Bool := fun p => C p && !str t b p
def RW (rows : Nat → Int32) (C : Nat → Bool) : Prop := ∀ r, r < 8 → rows r = nI (rowC C r)
theorem tot_rows (C : Nat → Bool) : tot C = sumC C 0 + sumC C 1 + sumC C 2 + sumC C 3 + sumC C 4 + sumC C 5 + sumC C 6 + sumC C 7 := by
  unfold tot sumC c6
  simp only [osum]
  simp only [show decide (0 < 16) = true from rfl, show decide (1 < 16) = true from rfl, show decide (2 < 16) = true from rfl, show decide (3 < 16) = true from rfl, show decide (4 < 16) = true from rfl, show decide (5 < 16) = true from rfl, show decide (6 < 16) = true from rfl, show decide (7 < 16) = true from rfl, show decide (8 < 16) = true from rfl, show decide (9 < 16) = true from rfl, show decide (10 < 16) = true from rfl, show decide (11 < 16) = true from rfl, show decide (12 < 16) = true from rfl, show decide (13 < 16) = true from rfl, show decide (14 < 16) = true from rfl, show decide (15 < 16) = true from rfl, show decide (16 < 16) = false from rfl, show decide (17 < 16) = false from rfl, show decide (18 < 16) = false from rfl, show decide (19 < 16) = false from rfl, show decide (20 < 16) = false from rfl, show decide (21 < 16) = false from rfl, show decide (22 < 16) = false from rfl, show decide (23 < 16) = false from rfl, show decide (24 < 16) = false from rfl, show decide (25 < 16) = false from rfl, show decide (26 < 16) = false from rfl, show decide (27 < 16) = false from rfl, show decide (28 < 16) = false from rfl, show decide (29 < 16) = false from rfl, show decide (30 < 16) = false from rfl, show decide (31 < 16) = false from rfl, Bool.true_and, Bool.false_and, Bool.toNat_false]
  simp only [show (32 + 0 : Nat) = 32 from rfl, show (32 + 1 : Nat) = 33 from rfl, Nat.reduceAdd]
  omega
theorem str_row (t r : Nat) (q : Bool) (hr : r = (8 - t % 8) % 8) : ∀ f, f < 6 → str t (bv q) (8 * f + r) = sfo ((t + 7) / 8 % 6) f q := by
  intro f hf
  unfold str sfo
  rw [show (8 * f + r + t) % 8 = 0 by omega, show (8 * f + r + t) / 8 % 6 = (f + (t + 7) / 8 % 6) % 6 by omega]
  simp
theorem str_oth (t r : Nat) (b : Int32) (h : r < 8) (hr : r ≠ (8 - t % 8) % 8) (f : Nat) : str t b (8 * f + r) = false := by
  unfold str
  have : ¬ (8 * f + r + t) % 8 = 0 := by omega
  simp [this]
theorem rowC_oth (C : Nat → Bool) (t r : Nat) (b : Int32) (h : r < 8) (hr : r ≠ (8 - t % 8) % 8) : rowC (nxt C t b) r = rowC C r ∧ sumC (nxt C t b) r = sumC C r := by
  have e : ∀ f, nxt C t b (8 * f + r) = C (8 * f + r) := fun f => by unfold nxt; rw [str_oth t r b h hr f]; simp
  have e0 := e 0
  have e1 := e 1
  have e2 := e 2
  have e3 := e 3
  have e4 := e 4
  have e5 := e 5
  simp only [Nat.reduceMul, Nat.zero_add] at e0 e1 e2 e3 e4 e5
  unfold rowC sumC
  rw [e0, e1, e2, e3, e4, e5]
  exact ⟨rfl, rfl⟩
theorem rowC_due (C : Nat → Bool) (t r : Nat) (q : Bool) (hr : r = (8 - t % 8) % 8) :
    nI (rowC C r) ^^^ (nI (rowC C r) &&& ((oth q >>> (nI ((t + 7) / 8 % 6) &&& 31)) ||| (oth q <<< ((6 - nI ((t + 7) / 8 % 6)) &&& 31)))) = nI (rowC (nxt C t (bv q)) r) ∧
    ∃ n, f_J6_bitCount_0f7a4 (nI (rowC C r) &&& ((oth q >>> (nI ((t + 7) / 8 % 6) &&& 31)) ||| (oth q <<< ((6 - nI ((t + 7) / 8 % 6)) &&& 31)))) = some (nI n) ∧ sumC (nxt C t (bv q)) r + n = sumC C r := by
  have hs := row_step ⟨(t + 7) / 8 % 6, by omega⟩ q (C r) (C (8 + r)) (C (16 + r)) (C (24 + r)) (C (32 + r)) (C (40 + r))
  have e : ∀ f, f < 6 → nxt C t (bv q) (8 * f + r) = (C (8 * f + r) && !sfo ((t + 7) / 8 % 6) f q) := fun f hf => by unfold nxt; rw [str_row t r q hr f hf]
  have e0 := e 0 (by omega)
  have e1 := e 1 (by omega)
  have e2 := e 2 (by omega)
  have e3 := e 3 (by omega)
  have e4 := e 4 (by omega)
  have e5 := e 5 (by omega)
  simp only [Nat.reduceMul, Nat.zero_add] at e0 e1 e2 e3 e4 e5
  refine ⟨?_, _, hs.2, ?_⟩
  · rw [show rowC C r = pk6 (C r) (C (8 + r)) (C (16 + r)) (C (24 + r)) (C (32 + r)) (C (40 + r)) from rfl, hs.1]
    unfold rowC
    rw [e0, e1, e2, e3, e4, e5]
  · unfold sumC
    rw [e0, e1, e2, e3, e4, e5]
    have k : ∀ x y : Bool, (x && !y).toNat + (x && y).toNat = x.toNat := by decide
    have k0 := k (C r) (sfo ((t + 7) / 8 % 6) 0 q)
    have k1 := k (C (8 + r)) (sfo ((t + 7) / 8 % 6) 1 q)
    have k2 := k (C (16 + r)) (sfo ((t + 7) / 8 % 6) 2 q)
    have k3 := k (C (24 + r)) (sfo ((t + 7) / 8 % 6) 3 q)
    have k4 := k (C (32 + r)) (sfo ((t + 7) / 8 % 6) 4 q)
    have k5 := k (C (40 + r)) (sfo ((t + 7) / 8 % 6) 5 q)
    unfold c6
    show _ + _ = _
    dsimp only
    omega
theorem tot_due (C : Nat → Bool) (t r n : Nat) (b : Int32) (hr : r = (8 - t % 8) % 8) (h : sumC (nxt C t b) r + n = sumC C r) : tot (nxt C t b) + n = tot C := by
  rw [tot_rows, tot_rows]
  have o : ∀ q, q < 8 → q ≠ r → sumC (nxt C t b) q = sumC C q := fun q hq hne => (rowC_oth C t q b hq (by omega)).2
  have hr8 : r < 8 := by omega
  rcases (show r = 0 ∨ r = 1 ∨ r = 2 ∨ r = 3 ∨ r = 4 ∨ r = 5 ∨ r = 6 ∨ r = 7 by omega) with e | e | e | e | e | e | e | e <;> subst e
  · rw [o 1 (by omega) (by omega), o 2 (by omega) (by omega), o 3 (by omega) (by omega), o 4 (by omega) (by omega), o 5 (by omega) (by omega), o 6 (by omega) (by omega), o 7 (by omega) (by omega)]; omega
  · rw [o 0 (by omega) (by omega), o 2 (by omega) (by omega), o 3 (by omega) (by omega), o 4 (by omega) (by omega), o 5 (by omega) (by omega), o 6 (by omega) (by omega), o 7 (by omega) (by omega)]; omega
  · rw [o 0 (by omega) (by omega), o 1 (by omega) (by omega), o 3 (by omega) (by omega), o 4 (by omega) (by omega), o 5 (by omega) (by omega), o 6 (by omega) (by omega), o 7 (by omega) (by omega)]; omega
  · rw [o 0 (by omega) (by omega), o 1 (by omega) (by omega), o 2 (by omega) (by omega), o 4 (by omega) (by omega), o 5 (by omega) (by omega), o 6 (by omega) (by omega), o 7 (by omega) (by omega)]; omega
  · rw [o 0 (by omega) (by omega), o 1 (by omega) (by omega), o 2 (by omega) (by omega), o 3 (by omega) (by omega), o 5 (by omega) (by omega), o 6 (by omega) (by omega), o 7 (by omega) (by omega)]; omega
  · rw [o 0 (by omega) (by omega), o 1 (by omega) (by omega), o 2 (by omega) (by omega), o 3 (by omega) (by omega), o 4 (by omega) (by omega), o 6 (by omega) (by omega), o 7 (by omega) (by omega)]; omega
  · rw [o 0 (by omega) (by omega), o 1 (by omega) (by omega), o 2 (by omega) (by omega), o 3 (by omega) (by omega), o 4 (by omega) (by omega), o 5 (by omega) (by omega), o 7 (by omega) (by omega)]; omega
  · rw [o 0 (by omega) (by omega), o 1 (by omega) (by omega), o 2 (by omega) (by omega), o 3 (by omega) (by omega), o 4 (by omega) (by omega), o 5 (by omega) (by omega), o 6 (by omega) (by omega)]; omega
theorem pb_is : ∀ f : Fin 6, f_X5_placeBehind (nI f.val) plan0 = some (nI ((f.val + 1) % 6)) := by decide +kernel
theorem fo_is (C : Nat → Bool) (t : Nat) (q : Bool) (rows : Nat → Int32) (h : RW rows C) (only : Int32) :
    ∃ rows', f_X1_follow (bv q) (nI (tot C), nI t, nI ((8 - t % 8) % 8), nI ((t + 7) / 8 % 6), only) rows plan0 = some ((nI (tot (nxt C t (bv q))), nI (t + 1), nI ((8 - (t + 1) % 8) % 8), nI ((t + 8) / 8 % 6), only), rows') ∧ RW rows' (nxt C t (bv q)) := by
  obtain ⟨r, hr⟩ : ∃ r, r = (8 - t % 8) % 8 := ⟨_, rfl⟩
  obtain ⟨h1, n, h2, h3⟩ := rowC_due C t r q hr
  have h4 := tot_due C t r n (bv q) hr h3
  have hr8 : r < 8 := by omega
  rw [← hr]
  refine ⟨upd rows r (nI (rowC (nxt C t (bv q)) r)), ?_, ?_⟩
  · have key : f_X1_follow_32 (nI ((t + 7) / 8 % 6)) 6 (nI r) rows 8 0 7 0 4 2 4 0 48 1 0 11 52 63 (nI (tot C)) (nI t) only (oth q) = some ((nI (tot (nxt C t (bv q))), nI (t + 1), nI ((8 - (t + 1) % 8) % 8), nI ((t + 8) / 8 % 6), only), upd rows r (nI (rowC (nxt C t (bv q)) r))) := by
      unfold f_X1_follow_32
      have hi : ¬ (nI r < 0 ∨ 24 ≤ (nI r).toNatClampNeg) := nI_in (by omega) (by omega)
      show m_in (nI r) 24 _ = _
      rw [m_inI hi, m_inI hi, nI_clamp (by omega), h r hr8]
      show m_in (nI r) 24 _ = _
      rw [m_inI hi, h2, bso, h1, show nI (tot C) - nI n = nI (tot (nxt C t (bv q))) from by rw [pk_sub (by omega)]; congr 1; omega, nI_1]
      by_cases h0 : r = 0
      · rw [if_pos (show nI r ≤ 0 from by subst h0; decide), show (8, 6, 0, 7, 0, 4, 2, 4, 0, 48, 1, 0, 11, 52, 63) = plan0 from rfl, pb_is ⟨(t + 7) / 8 % 6, by omega⟩, bso]
        rw [show (8 - (t + 1) % 8) % 8 = 7 by omega, show ((t + 7) / 8 % 6 + 1) % 6 = (t + 8) / 8 % 6 by omega]
        rfl
      · rw [if_neg (nI_nle (n := r) (by omega) (by omega)), show (t + 8) / 8 % 6 = (t + 7) / 8 % 6 by omega, show (1 : Int32) = nI 1 from rfl, pk_sub (by omega), show (8 - (t + 1) % 8) % 8 = r - 1 by omega]
    unfold f_X1_follow plan0
    simp only []
    rw [if_neg (nI_pos (n := r) (by omega)), if_pos (show nI r < 24 from nI_lt (b := 24) (by omega) (by omega))]
    cases q with
    | false => rw [if_pos (show bv false = 0 from rfl)]; exact key
    | true => rw [if_neg (show ¬ bv true = 0 from by decide)]; exact key
  · intro r' h'
    by_cases e : r' = r
    · subst e; exact upd_same _ _ _
    · rw [upd_ne _ _ e, h r' h', (rowC_oth C t r' (bv q) h' (by omega)).1]
