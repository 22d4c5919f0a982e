/-- two receivers that hear the line from bit i on to its end: by from() and by locks() -/
theorem run_is {nb N : Nat} (hnb : nb < 2 ^ 31) (hN : N ≤ nb) (hN2 : N ≤ 4500) {L R K D : Nat} {ro : Nat → Int32} {p : SX5} (h : PV L R K D ro p) {b : Nat → Int8} (hl : LN L R ro b N) (hc : CK L R ro p nb N b) {i : Nat} (m : Nat) : ∀ (n f : Nat) (_ : i + n + m = N) (_ : m ≤ f) (s : SX4) (u0 : SX1) (w0 : Nat → Int32) (st0 : SX7) (_ : RX L R K ro b i n s u0 w0) (_ : ST L D n st0), ∃ s' : SX4, (s.1 = 2 → s'.1 = 2) ∧
    (∀ (x : Int32) (u : SX1) (w : Nat → Int32) (st : SX7) (e : SX0) (v : Nat → Int32), RX L R K ro b i n s u w → ST L D n st → Tt (f_X11_from_59 (nI N) x p nb ro b (f + 1) (nI (i + n)) s u w st e v) (fun z => ∃ u' w' st' e', RX L R K ro b i (N - i) s' u' w' ∧ f_X4_tell x s' u' st' e' p = some z.1)) ∧
    (¬ s.1 = 2 → ∀ (s0 s1 s2 s3 s4 s5 s6 s7 s8 s9 : Int32) (u : SX1) (w : Nat → Int32) (st : SX7) (e : SX0) (v : Nat → Int32), s = (s0, s1, s2, s3, s4, s5, s6, s7, s8, s9) → RX L R K ro b i n s u w → ST L D n st → Tt (f_X11_locks_47 (nI N) nb p ro b (nI i) (f + 1) (nI (i + n)) s0 s1 s2 s3 s4 s5 s6 s7 s8 s9 u w st e v) (fun z => (z.1 = -1 ∧ ¬ s'.1 = 2) ∨ ∃ k : Nat, 1 ≤ k ∧ k ≤ 4500 ∧ z.1 = nI k ∧ s'.1 = 2)) := by
  have hPS : PS p := by obtain ⟨_, _, _, _, _, _, _, _, _, _, _, _, hp, _⟩ := h; exact hp
  induction m with
  | zero =>
    intro n f hm _ s u0 w0 st0 _ _
    refine ⟨s, id, fun x u w st e v hr hst => ?_, fun hs s0 s1 s2 s3 s4 s5 s6 s7 s8 s9 u w st e v _ hr hst => ?_⟩
    · rw [f_X11_from_59_s, if_pos (nI_le (by omega) (by omega))]
      obtain ⟨t, ht, _⟩ := rtell_c x s u st e p
      rw [ht, bso]
      refine tt_r ⟨u, w, st, e, ?_, ht⟩
      rw [show N - i = n by omega]
      exact hr
    · rw [f_X11_locks_47_s, if_pos (nI_le (by omega) (by omega))]
      exact tt_r (Or.inl ⟨rfl, hs⟩)
  | succ m ih =>
    intro n f hm hf s u0 w0 st0 hr0 hs0
    obtain ⟨f, rfl⟩ : ∃ q, f = q + 1 := ⟨f - 1, by omega⟩
    obtain ⟨s1, h1⟩ := tak_is hnb hN hN2 h hl hc (i := i) (n := n) (by omega) hr0
    obtain ⟨⟨z1, z2, z3, z4, z5, z6⟩, _, g0, g1, g2, g3, g4⟩ := h1 u0 w0 st0 (0, 0, 0, 0) (fun _ => 0) hr0 hs0
    have g0 : z1 = s1 := g0
    subst g0
    have g1 : RX L R K ro b i (n + 1) z1 z2 z3 := g1
    obtain ⟨s', k1, k2, k3⟩ := ih (n + 1) f (by omega) (by omega) z1 z2 z3 z4 g1 g2
    refine ⟨s', fun q => k1 (g4 q), fun x u w st e v hr hst => ?_, fun hs t0 t1 t2 t3 t4 t5 t6 t7 t8 t9 u w st e v hse hr hst => ?_⟩
    · rw [f_X11_from_59_s, if_neg (nI_ge (by omega) (by omega)), nI_1]
      refine tt_b (h1 u w st e v hr hst) ?_
      rintro ⟨y1, y2, y3, y4, y5, y6⟩ ⟨q0, q1, q2, q3, q4⟩
      have q0 : y1 = z1 := q0
      subst q0
      exact k2 x y2 y3 y4 y5 y6 q1 q2
    · rw [f_X11_locks_47_s, if_neg (nI_ge (by omega) (by omega)), nI_1, ← hse]
      refine tt_b (h1 u w st e v hr hst) ?_
      rintro ⟨⟨y0, y1, y2, y3, y4, y5, y6, y7, y8, y9⟩, a2, a3, a4, a5, a6⟩ ⟨q0, q1, q2, q3, q4⟩
      have q0 : (y0, y1, y2, y3, y4, y5, y6, y7, y8, y9) = z1 := q0
      have q1 : RX L R K ro b i (n + 1) (y0, y1, y2, y3, y4, y5, y6, y7, y8, y9) a2 a3 := q1
      show Tt (if y3 ≤ 0 then _ else _) _
      obtain ⟨md, lk, pl, of, hi, si, e0, hsi, hrr⟩ := g1
      have q0' := q0.trans e0
      have e4 : y3 = lk := congrArg (fun q : SX4 => q.2.2.2.1) q0'
      have hmd : z1.1 = md := by rw [e0]
      have q1' : RX L R K ro b i (n + 1) z1 a2 a3 := by rw [← q0]; exact q1
      rcases hrr with ⟨h5, h6, _⟩ | ⟨h5, h6, _⟩ | ⟨h5, h6, _⟩
      · rw [if_pos (show y3 ≤ 0 by rw [e4, h6]; decide)]
        exact k3 (by rw [hmd, h5]; decide) _ _ _ _ _ _ _ _ _ _ a2 a3 a4 a5 a6 q0.symm q1' q2
      · rw [if_pos (show y3 ≤ 0 by rw [e4, h6]; decide)]
        exact k3 (by rw [hmd, h5]; decide) _ _ _ _ _ _ _ _ _ _ a2 a3 a4 a5 a6 q0.symm q1' q2
      · rw [if_neg (show ¬ y3 ≤ 0 by rw [e4, h6]; decide)]
        have hmd2 : z1.1 = 2 := hmd.trans h5
        refine tt_r (Or.inr ⟨n + 1, by omega, by omega, ?_, k1 hmd2⟩)
        show nI (i + n + 1) - nI i = nI (n + 1)
        rw [pk_sub (by omega)]
        congr 1
        omega
theorem rbeg_is {L R K D : Nat} {ro : Nat → Int32} {p : SX5} (h : PV L R K D ro p) (b : Nat → Int8) (i : Nat) (s : SX4) (u : SX1) (w : Nat → Int32) (st : SX7) (e : SX0) : Tt (f_X4_begin s u w st e p) (fun q => q.1 = (0, 1, 0, 0, 0, 0, 0, 0, 0, 0) ∧ RX L R K ro b i 0 q.1 q.2.1 q.2.2.1 ∧ ST L D 0 q.2.2.2.1 ∧ q.2.2.2.2 = (0, 0, 0, 0)) := by
  have hb := beg_is h b i u w
  obtain ⟨a6, a7, a8, a9, aA, aB, aC, aD, aE, aF, aG, aH, aI, aJ, aK, aL, aM⟩ := st
  unfold f_X4_begin
  refine tt_b hb ?_
  rintro ⟨u', w'⟩ hu
  have e1 : f_X7_begin (a6, a7, a8, a9, aA, aB, aC, aD, aE, aF, aG, aH, aI, aJ, aK, aL, aM) = some (0, 0, 0, 0, 0, 0, aC, aD, aE, aF, aG, aH, aI, 0, aK, aL, aM) := rfl
  have e2 : f_X0_begin e = some (0, 0, 0, 0) := rfl
  dsimp only
  rw [e1, bso, e2, bso]
  refine tt_r ⟨rfl, ⟨0, 0, 0, 0, 0, 0, rfl, Nat.le_refl _, Or.inl ⟨rfl, rfl, rfl, hu⟩⟩, ?_, rfl⟩
  unfold ST
  rw [Nat.zero_mul, Nat.zero_mod, Nat.zero_div]
  exact ⟨0, 0, 0, 0, 0, 0, aC, aD, aE, aF, aG, aH, aI, 0, aK, aL, aM, rfl, by omega, rfl, Nat.le_refl _, Nat.le_refl _, fun z => by omega⟩
/-- what from() and locks() answer of bit i, together -/
theorem frl_is {nb N : Nat} (hnb : nb < 2 ^ 31) (hN : N ≤ nb) (hN2 : N ≤ 4500) {L R K D : Nat} {ro : Nat → Int32} {p : SX5} (h : PV L R K D ro p) {b : Nat → Int8} (hl : LN L R ro b N) (hc : CK L R ro p nb N b) {i : Nat} (hi : i < N) : ∃ s' : SX4, (∀ (x : Nat), x < 18 → ∀ (c y tr : Int32) (s : SX4) (u : SX1) (w : Nat → Int32) (st : SX7) (e : SX0) (v : Nat → Int32), Tt (f_X11_from nb (nI i) (nI x) c p ro y (nI N) b tr s u w st e v) (fun z => ∃ u' w' st' e', RX L R K ro b i (N - i) s' u' w' ∧ f_X4_tell (nI x) s' u' st' e' p = some z.1)) ∧
    (∀ (c y tr : Int32) (s : SX4) (u : SX1) (w : Nat → Int32) (st : SX7) (e : SX0) (v : Nat → Int32), Tt (f_X11_locks nb (nI i) c p ro y (nI N) b tr s u w st e v) (fun z => (z.1 = -1 ∧ ¬ s'.1 = 2) ∨ ∃ k : Nat, 1 ≤ k ∧ k ≤ 4500 ∧ z.1 = nI k ∧ s'.1 = 2)) := by
  obtain ⟨⟨z1, z2, z3, z4, z5⟩, _, b0, b1, b2, b3⟩ := rbeg_is h b i (0, 0, 0, 0, 0, 0, 0, 0, 0, 0) (0, 0, 0, 0, 0) (fun _ => 0) (0, 0, 0, 0, 0, 0, 0, 0, 0, 0, 0, 0, 0, 0, 0, 0, 0) (0, 0, 0, 0)
  have b0 : z1 = (0, 1, 0, 0, 0, 0, 0, 0, 0, 0) := b0
  subst b0
  obtain ⟨s', k1, k2, k3⟩ := run_is hnb hN hN2 h hl hc (i := i) (N - i) 0 65535 (by omega) (by omega) _ z2 z3 z4 b1 b2
  refine ⟨s', fun x hx c y tr s u w st e v => ?_, fun c y tr s u w st e v => ?_⟩
  · unfold f_X11_from
    refine tt_i (fun q => absurd q (nI_pos (by omega))) (fun _ => tt_i (fun q => absurd q (nI_ge hi (by omega))) (fun _ => tt_i (fun q => absurd q (nI_pos (by omega))) (fun _ => tt_i (fun _ => ?_) (fun q => absurd (show nI x < 18 from nI_lt (b := 18) hx (by omega)) q))))
    refine tt_b (rbeg_is h b i s u w st e) ?_
    rintro ⟨y1, y2, y3, y4, y5⟩ ⟨q0, q1, q2, q3⟩
    have q0 : y1 = (0, 1, 0, 0, 0, 0, 0, 0, 0, 0) := q0
    subst q0
    exact k2 (nI x) y2 y3 y4 y5 v q1 q2
  · obtain ⟨t0, t1, t2, t3, t4, t5, t6, t7, t8, t9⟩ := s
    unfold f_X11_locks
    refine tt_i (fun q => absurd q (nI_pos (by omega))) (fun _ => tt_i (fun _ => ?_) (fun q => absurd (nI_lt hi (by omega)) q))
    refine tt_b (rbeg_is h b i (t0, t1, t2, t3, t4, t5, t6, t7, t8, t9) u w st e) ?_
    rintro ⟨⟨y0, y1, y2, y3, y4, y5, y6, y7, y8, y9⟩, c2, c3, c4, c5⟩ ⟨q0, q1, q2, q3⟩
    have q0 : (y0, y1, y2, y3, y4, y5, y6, y7, y8, y9) = (0, 1, 0, 0, 0, 0, 0, 0, 0, 0) := q0
    have q1 : RX L R K ro b i 0 (y0, y1, y2, y3, y4, y5, y6, y7, y8, y9) c2 c3 := q1
    exact k3 (by show ¬ (0 : Int32) = 2; decide) y0 y1 y2 y3 y4 y5 y6 y7 y8 y9 c2 c3 c4 c5 v q0.symm (by rw [← q0]; exact q1) q2
theorem fit52_is {nb N : Nat} (hnb : nb < 2 ^ 31) (hN : N ≤ nb) (hN2 : N ≤ 4500) {L R K D : Nat} {ro : Nat → Int32} {p : SX5} (h : PV L R K D ro p) {b : Nat → Int8} (hl : LN L R ro b N) {M : Nat} (hM : M ≤ N) (x : Int32) (m : Nat) : ∀ (n f : Nat) (_ : n + m = M) (_ : m ≤ f) (u0 u1 u2 u3 u4 : Int32) (w : Nat → Int32), HI L R ro b 0 n (u0, u1, u2, u3, u4) w → Tt (f_X11_fits_52 (nI M) x p nb (nI N) b (f + 1) (nI n) u0 u1 u2 u3 u4 w) (fun z => ∃ u' w', HI L R ro b 0 M u' w' ∧ ((x = -1 ∧ z.1 = nI (LF L R ro b 0 M)) ∨ (¬ x = -1 ∧ f_X1_nth x u' w' p = some z.1))) := by
  have hPS : PS p := by obtain ⟨_, _, _, _, _, _, _, _, _, _, _, _, hp, _⟩ := h; exact hp
  have key90 : ∀ (u0 u1 u2 u3 u4 : Int32) (w : Nat → Int32), HI L R ro b 0 M (u0, u1, u2, u3, u4) w → Tt (f_X11_fits_90 x u0 u1 u2 u3 u4 w p) (fun z => ∃ u' w', HI L R ro b 0 M u' w' ∧ ((x = -1 ∧ z.1 = nI (LF L R ro b 0 M)) ∨ (¬ x = -1 ∧ f_X1_nth x u' w' p = some z.1))) := by
    intro u0 u1 u2 u3 u4 w hi
    unfold f_X11_fits_90
    refine tt_i (fun c => tt_r ⟨_, _, hi, Or.inl ⟨c, ?_⟩⟩) (fun c => ?_)
    · obtain ⟨ony, e, _⟩ := hi
      exact congrArg (fun q : SX1 => q.1) e
    · obtain ⟨t, ht, _⟩ := hnth_c x (u0, u1, u2, u3, u4) w p hPS
      rw [ht, bso]
      exact tt_r ⟨_, _, hi, Or.inr ⟨c, ht⟩⟩
  induction m with
  | zero =>
    intro n f hm _ u0 u1 u2 u3 u4 w hi
    have : n = M := by omega
    subst this
    rw [f_X11_fits_52_s, if_pos (nI_le (by omega) (by omega))]
    exact key90 _ _ _ _ _ _ hi
  | succ m ih =>
    intro n f hm hf u0 u1 u2 u3 u4 w hi
    obtain ⟨f, rfl⟩ : ∃ q, f = q + 1 := ⟨f - 1, by omega⟩
    have hl' : ∀ j, 0 ≤ j → j < 0 + (n + 1) → RF L R ro j (b j).toInt32 := fun j _ h2 => (hl j (by omega)).2
    have hl2 : ∀ j, 0 ≤ j → j < 0 + n → RF L R ro j (b j).toInt32 := fun j _ h2 => (hl j (by omega)).2
    have hf1 := fol_is h (b := b) (i := 0) (n := n) hi (by omega) hl'
    obtain ⟨po, wi, sl, fw, wr, la, dr, ch, ze, on, al, rfl, hp, a1, a2, a3, a4, _⟩ := h
    have g1 := LF_pos (show 0 < L by omega) (show 0 < R by omega) a4 n hl2
    have g2 := LF_le (R := R) (ro := ro) (b := b) (i := 0) (n := n) a2
    have e0 : u0 = nI (LF L R ro b 0 n) := by obtain ⟨ony, e, _⟩ := hi; exact congrArg (fun q : SX1 => q.1) e
    rw [f_X11_fits_52_s, if_neg (nI_ge (by omega) (by omega)), if_neg (show ¬ u0 ≤ 0 by rw [e0]; exact nI_nle (by omega) (by omega)), at_is hnb hN (by omega) b, bso, nI_1]
    rw [Nat.zero_add] at hf1
    refine tt_b hf1 ?_
    rintro ⟨⟨v0, v1, v2, v3, v4⟩, w'⟩ hu
    exact ih (n + 1) f (by omega) (by omega) v0 v1 v2 v3 v4 w' hu
theorem fits_is {nb N : Nat} (hnb : nb < 2 ^ 31) (hN : N ≤ nb) (hN2 : N ≤ 4500) {L R K D : Nat} {ro : Nat → Int32} {p : SX5} (h : PV L R K D ro p) {b : Nat → Int8} (hl : LN L R ro b N) {M : Nat} (hM : M ≤ N) (x c y tr : Int32) (s : SX4) (u : SX1) (w : Nat → Int32) : Tt (f_X11_fits nb (nI M) x c p y (nI N) b tr s u w) (fun z => ∃ u' w', HI L R ro b 0 M u' w' ∧ ((x = -1 ∧ z.1 = nI (LF L R ro b 0 M)) ∨ (¬ x = -1 ∧ f_X1_nth x u' w' p = some z.1))) := by
  obtain ⟨u0, u1, u2, u3, u4⟩ := u
  unfold f_X11_fits
  refine tt_i (fun q => absurd q (nI_pos (by omega))) (fun _ => tt_i (fun _ => ?_) (fun q => absurd (nI_le hM (by omega)) q))
  refine tt_b (beg_is h b 0 _ w) ?_
  rintro ⟨⟨v0, v1, v2, v3, v4⟩, w'⟩ hu
  exact fit52_is hnb hN hN2 h hl hM x M 0 65535 (by omega) (by omega) v0 v1 v2 v3 v4 w' hu
theorem str92_is {nb N : Nat} (hnb : nb < 2 ^ 31) (hN : N ≤ nb) (hN2 : N ≤ 4500) {L R K D : Nat} {ro : Nat → Int32} {p : SX5} (h : PV L R K D ro p) {b : Nat → Int8} (hl : LN L R ro b N) {po wi sl fw wr la dr ch ze on al : Int32} (he : p = (nI L, nI R, po, wi, sl, fw, wr, la, dr, nI (L * R), ch, nI K, ze, on, al)) (m : Nat) : ∀ (q f : Nat) (_ : N ≤ L * q + m) (_ : m ≤ f) (_ : L * q ≤ 5000), f_X11_struck_92 (nI N) nb b (nI L) (nI R) po wi sl fw wr la dr (nI (L * R)) ch (nI K) ze on al (f + 1) (nI (q % R)) (nI (L * q)) = some (-1) := by
  have hbe := fun q => beh_is h q
  have hot := fun (f : Nat) (hf : f < R) x h0 h1 => oth_no h (f := f) hf (x := x) h0 h1
  subst he
  obtain ⟨_, _, _, _, _, _, _, _, _, _, _, _, hp, a1, a2, a3, a4, _⟩ := h
  induction m with
  | zero =>
    intro q f hm _ hq
    rw [f_X11_struck_92_s, if_pos (nI_le (by omega) (by omega))]
  | succ m ih =>
    intro q f hm hf hq
    obtain ⟨f, rfl⟩ : ∃ q, f = q + 1 := ⟨f - 1, by omega⟩
    rw [f_X11_struck_92_s]
    by_cases c : N ≤ L * q
    · rw [if_pos (nI_le c (by omega))]
    · have hd : L * q / L = q := Nat.mul_div_cancel_left _ (by omega)
      have hm0 : L * q % L = 0 := Nat.mul_mod_right _ _
      obtain ⟨g3, g4⟩ := (hl (L * q) (by omega)).2 hm0
      rw [hd] at g3 g4
      have e1 : L * q + L = L * (q + 1) := by rw [Nat.mul_add]; omega
      rw [if_neg (nI_ge (by omega) (by omega)), at_is hnb hN (by omega), bso, hot _ (Nat.mod_lt _ (by omega)) _ g3 g4, bso, if_pos rfl, hbe, bso, nI_add, e1]
      exact ih (q + 1) f (by omega) (by omega) (by omega)
theorem stk_is {nb N : Nat} (hnb : nb < 2 ^ 31) (hN : N ≤ nb) (hN2 : N ≤ 4500) {L R K D : Nat} {ro : Nat → Int32} {p : SX5} (h : PV L R K D ro p) {b : Nat → Int8} (hl : LN L R ro b N) {i : Nat} (hi : i < N) (c y : Int32) : f_X11_struck nb (nI i) (nI (i % (L * R))) c p y (nI N) b = some (-1) := by
  have h' := h
  obtain ⟨po, wi, sl, fw, wr, la, dr, ch, ze, on, al, rfl, hp, a1, a2, a3, a4, _⟩ := h'
  have hLR : 0 < L * R := Nat.mul_pos (by omega) (by omega)
  have hLR2 : L * R ≤ 288 := Nat.le_trans (Nat.mul_le_mul a2 a4) (by decide)
  have hm := Nat.mod_lt i hLR
  have key : ∀ (A : Option Int32), A = some (-1) → A = some (-1) := fun _ h => h
  unfold f_X11_struck
  dsimp only
  rw [if_neg (nI_pos (by omega)), if_neg (nI_ge hi (by omega)), if_neg (nI_pos (by omega)), if_neg (nI_ge hm (by omega)), if_pos (show (1 : Int32) ≤ nI L from nI_le (a := 1) (by omega) (by omega)), framesStarted_v (q := i % (L * R)) (by omega) a1 a2, bso]
  have h0 : 0 < L := by omega
  have hd := Nat.div_add_mod i (L * R)
  have hd2 := Nat.div_add_mod (i % (L * R)) L
  have hr2 := Nat.mod_lt (i % (L * R)) h0
  -- the first bit of a frame from i on stands at L * q
  obtain ⟨q, hq1, hq2, hq3⟩ : ∃ q : Nat, i + (i % (L * R) + L - 1) / L * L = L * q + i % (L * R) ∧ q % R = (i % (L * R) + L - 1) / L % R ∧ L * q ≤ i + L := by
    refine ⟨R * (i / (L * R)) + (i % (L * R) + L - 1) / L, ?_, ?_, ?_⟩
    · rw [Nat.mul_add, ← Nat.mul_assoc, Nat.mul_comm L ((i % (L * R) + L - 1) / L)]
      omega
    · rw [Nat.mul_add_mod]
    · rw [Nat.mul_add, ← Nat.mul_assoc]
      have := Nat.div_mul_le_self (i % (L * R) + L - 1) L
      rw [Nat.mul_comm] at this
      omega
  have hs : (i % (L * R) + L - 1) / L ≤ R := by
    have e : i % (L * R) + L - 1 < L * (R + 1) := by rw [Nat.mul_add]; omega
    have e' : i % (L * R) + L - 1 < (R + 1) * L := by rw [Nat.mul_comm (R + 1) L]; exact e
    have := (Nat.div_lt_iff_lt_mul h0).mpr e'
    omega
  have e3 : (nI i + nI ((i % (L * R) + L - 1) / L) * nI L) - nI (i % (L * R)) = nI (L * q) := by
    rw [pk_mul, nI_add, hq1, pk_sub (by omega)]
    congr 1
    omega
  have g := str92_is hnb hN hN2 h hl rfl (N - L * q) q 65535 (by omega) (by omega) (by omega)
  rw [hq2] at g
  by_cases c1 : (i % (L * R) + L - 1) / L < R
  · rw [if_pos (nI_lt c1 (by omega))]
    unfold f_X11_struck_77
    rw [e3]
    rw [Nat.mod_eq_of_lt c1] at g
    exact g
  · rw [if_neg (nI_nlt (by omega) (by omega))]
    unfold f_X11_struck_77
    rw [e3]
    have e4 : (i % (L * R) + L - 1) / L = R := by omega
    rw [e4, Nat.mod_self] at g
    exact g
