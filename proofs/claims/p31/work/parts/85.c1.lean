/-! the law's own questions: isSent -/
theorem cnt_0 {L R K D : Nat} {ro : Nat → Int32} {p : SX5} (h : PV L R K D ro p) (a : Int32) (tx : SX8) (t z : Int32) (g : SX6) : f_X11_count 0 a p tx t z g = some (nI L) := by
  obtain ⟨po, wi, sl, fw, wr, la, dr, ch, ze, on, al, rfl, _⟩ := h
  obtain ⟨x1, x2, x3⟩ := tx
  obtain ⟨g1, g2, g3⟩ := g
  rfl
theorem cnt_1 {L R K D : Nat} {ro : Nat → Int32} {p : SX5} (h : PV L R K D ro p) (a : Int32) (tx : SX8) (t z : Int32) (g : SX6) : f_X11_count 1 a p tx t z g = some (nI R) := by
  obtain ⟨po, wi, sl, fw, wr, la, dr, ch, ze, on, al, rfl, _⟩ := h
  obtain ⟨x1, x2, x3⟩ := tx
  obtain ⟨g1, g2, g3⟩ := g
  rfl
theorem cnt_8 {L R K D : Nat} {ro : Nat → Int32} {p : SX5} (h : PV L R K D ro p) (a : Int32) (tx : SX8) (t z : Int32) (g : SX6) : ∃ dr, f_X11_count 8 a p tx t z g = some dr ∧ 1000 + dr = nI D := by
  obtain ⟨po, wi, sl, fw, wr, la, dr, ch, ze, on, al, rfl, _, _, _, _, _, _, _, hd, _⟩ := h
  obtain ⟨x1, x2, x3⟩ := tx
  obtain ⟨g1, g2, g3⟩ := g
  exact ⟨dr, rfl, hd.2.2⟩
theorem cnt_10 {L R K D : Nat} {ro : Nat → Int32} {p : SX5} (h : PV L R K D ro p) (a : Int32) (tx : SX8) (t z : Int32) (g : SX6) : f_X11_count 10 a p tx t z g = some (nI K) := by
  obtain ⟨po, wi, sl, fw, wr, la, dr, ch, ze, on, al, rfl, _⟩ := h
  obtain ⟨x1, x2, x3⟩ := tx
  obtain ⟨g1, g2, g3⟩ := g
  rfl
theorem cnt_11 (p : SX5) (a : Int32) (tx : SX8) (t z : Int32) (g : SX6) : f_X11_count 11 a p tx t z g = some z := by
  obtain ⟨x0, x1, x2, x3, x4, x5, x6, x7, x8, x9, x10, x11, x12, x13, x14⟩ := p
  obtain ⟨x1, x2, x3⟩ := tx
  obtain ⟨g1, g2, g3⟩ := g
  rfl
theorem cnt_12 (p : SX5) (a : Int32) (tx : SX8) (t z : Int32) (g : SX6) : f_X11_count 12 a p tx t z g = some t := by
  obtain ⟨x0, x1, x2, x3, x4, x5, x6, x7, x8, x9, x10, x11, x12, x13, x14⟩ := p
  obtain ⟨x1, x2, x3⟩ := tx
  obtain ⟨g1, g2, g3⟩ := g
  rfl
theorem cnt_15 (p : SX5) (a : Int32) (tx : SX8) (t z : Int32) (g : SX6) : f_X11_count 15 a p tx t z g = some g.1 := by
  obtain ⟨x0, x1, x2, x3, x4, x5, x6, x7, x8, x9, x10, x11, x12, x13, x14⟩ := p
  obtain ⟨x1, x2, x3⟩ := tx
  obtain ⟨g1, g2, g3⟩ := g
  rfl
theorem bit_is {nb N i : Nat} (hnb : nb < 2 ^ 31) (hN : N ≤ nb) (hi : i < N) (a t : Int32) (b : Nat → Int8) : f_X11_bit nb (nI i) a t (nI N) b = some (b i).toInt32 := by
  unfold f_X11_bit
  rw [at_is hnb hN hi, bso]
theorem bit_out {nb N : Nat} (hN : N < 2 ^ 31) (a t : Int32) (b : Nat → Int8) : f_X11_bit nb (nI N) a t (nI N) b = some (-1) := by
  unfold f_X11_bit f_X2_at
  rw [if_neg (nI_pos hN), if_pos (nI_le (Nat.le_refl _) hN), bso]
theorem role_is {L R K D : Nat} {ro : Nat → Int32} {p : SX5} (h : PV L R K D ro p) {f : Nat} (hf : f < R) (a : Int32) : f_L_role (nI f) a p ro = some (ro f) := by
  have hr := rol_is h hf
  obtain ⟨po, wi, sl, fw, wr, la, dr, ch, ze, on, al, rfl, hp, a1, a2, a3, a4, hk, hw, hd, hro, _⟩ := h
  unfold f_L_role f_X11_role
  rw [hr, bso, if_neg (show ¬ ro f = -1 by rcases hro f hf with z | z | z | z <;> rw [z] <;> decide), bso]
theorem fixed_is {L R K D : Nat} {ro : Nat → Int32} {p : SX5} (h : PV L R K D ro p) {q : Nat} (hq : q < L * R) (a : Int32) (tx : SX8) (t z : Int32) (g : SX6) : f_L_fixed (nI q) a p ro tx t z g = some (if q % L = 0 ∧ (ro (q / L) = 0 ∨ ro (q / L) = 1) then ro (q / L) else -1) := by
  have hc := cnt_0 h a tx t z g
  have hrl := fun f hf => role_is h (f := f) hf a
  obtain ⟨po, wi, sl, fw, wr, la, dr, ch, ze, on, al, rfl, hp, a1, a2, a3, a4, hk, hw, hd, hro, _⟩ := h
  have hLR2 : L * R ≤ 288 := Nat.le_trans (Nat.mul_le_mul a2 a4) (by decide)
  have hf : q / L < R := (Nat.div_lt_iff_lt_mul (by omega)).mpr (by rw [Nat.mul_comm]; exact hq)
  have hm := Nat.mod_lt q (show 0 < L by omega)
  unfold f_L_fixed f_L_fixed_25
  rw [hc, bso, m_gI (nI_ne0 (by omega) (by omega)), pk_rem (by omega) (by omega) (by omega)]
  by_cases c : q % L = 0
  · rw [if_pos (by rw [c]; rfl), bso, m_gI (nI_ne0 (by omega) (by omega)), pk_div (by omega) (by omega) (by omega), hrl _ hf, bso]
    by_cases c0 : ro (q / L) = 0
    · rw [if_pos c0, if_pos ⟨c, Or.inl c0⟩]
    · rw [if_neg c0]
      by_cases c1 : ro (q / L) = 1
      · rw [if_pos c1, if_pos ⟨c, Or.inr c1⟩]
      · rw [if_neg c1, if_neg (fun z => z.2.elim c0 c1)]
  · rw [if_neg (show ¬ nI (q % L) = 0 from fun z => c ((nI_eq (b := 0) (by omega) (by omega)).mp z)), if_neg (show ¬ (-1 : Int32) = 0 by decide), if_neg (show ¬ (-1 : Int32) = 1 by decide), if_neg (fun z => c z.1)]
theorem checks_is {nb N : Nat} (hnb : nb < 2 ^ 31) (hN : N ≤ nb) {L R K D : Nat} {ro : Nat → Int32} {p : SX5} (h : PV L R K D ro p) {x : Nat} (hx : x + L * R ≤ N) (a t : Int32) (b : Nat → Int8) : f_X11_checks nb (nI x) a p ro t (nI N) b = f_X5_checksOf nb (nI x) p ro (nI N) b := by
  obtain ⟨r, hr, _⟩ := checksOf_c hnb (nI x) p (by obtain ⟨_, _, _, _, _, _, _, _, _, _, _, _, hp, _⟩ := h; exact hp) ro (nI N) b
  obtain ⟨po, wi, sl, fw, wr, la, dr, ch, ze, on, al, rfl, _⟩ := h
  unfold f_X11_checks
  dsimp only
  rw [if_neg (nI_pos (by omega)), pk_sub (by omega), if_pos (nI_le (by omega) (by omega)), hr, bso]
theorem checks_out {nb N : Nat} (hN : N < 2 ^ 30) {L R K D : Nat} {ro : Nat → Int32} {p : SX5} (h : PV L R K D ro p) (hq : N = 0 ∨ L * R ≤ N) (a t : Int32) (b : Nat → Int8) : f_X11_checks nb ((nI N - nI (L * R)) + 1) a p ro t (nI N) b = some (-1) := by
  obtain ⟨po, wi, sl, fw, wr, la, dr, ch, ze, on, al, rfl, hp, a1, a2, a3, a4, _⟩ := h
  have hLR : 2 ≤ L * R := Nat.le_trans (by decide : 2 ≤ 4 * 2) (Nat.mul_le_mul a1 a3)
  have hLR2 : L * R ≤ 288 := Nat.le_trans (Nat.mul_le_mul a2 a4) (by decide)
  unfold f_X11_checks
  dsimp only
  rcases hq with hq | hq
  · subst hq
    rw [if_pos]
    have e : (nI 0 - nI (L * R)) + 1 = nI 1 - nI (L * R) := by
      rw [Int32.sub_eq_add_neg, Int32.sub_eq_add_neg, show nI 0 = 0 from rfl, Int32.zero_add, Int32.add_comm]
      rfl
    rw [e]
    exact pk_sneg (by omega) (by omega)
  · rw [pk_sub hq, nI_1, if_neg (nI_pos (by omega)), if_neg (nI_ge (by omega) (by omega))]
/-- what the checks of superframe q are by the one ahead; that it bears them -/
theorem gl_ck {L R K D : Nat} {ro : Nat → Int32} {p : SX5} (h : PV L R K D ro p) {nb q0 : Nat} {b : Nat → Int8} {v0 : Nat} (hG : GL L R K ro p nb q0 b v0) {q : Nat} (hq : q < q0) : ∃ v : Nat, v < 2 ^ K ∧ (q = 0 → v = 0) ∧ (0 < q → f_X5_checksOf nb (nI ((q - 1) * (L * R))) p ro (nI (q0 * (L * R))) b = some (nI v)) ∧ ∀ f, f < R → ro f = 2 → (b (q * (L * R) + f * L)).toInt32 = nI (v / 2 ^ (K - 1 - cnt ro f) % 2) := by
  obtain ⟨g1, g2, g3, g4, g5, g6⟩ := hG
  obtain ⟨_, _, _, _, _, _, _, _, _, _, _, _, _, _, _, _, _, hk, _⟩ := h
  rcases Nat.eq_zero_or_pos q with c | c
  · subst c
    refine ⟨0, Nat.two_pow_pos K, fun _ => rfl, fun z => absurd z (Nat.lt_irrefl _), fun f hf e => ?_⟩
    rw [Nat.zero_mul, Nat.zero_add, g6 hq f hf e, Nat.zero_div]
    rfl
  · have e1 : (q - 1 + 1) * (L * R) ≤ q0 * (L * R) := Nat.mul_le_mul_right _ (by omega)
    have e2 : (q - 1 + 2) * (L * R) ≤ q0 * (L * R) := Nat.mul_le_mul_right _ (by omega)
    obtain ⟨v, w1, w2, w3⟩ := g2 (q - 1) e1
    refine ⟨v, by rw [hk]; exact w1, fun z => by omega, fun _ => w2, fun f hf e => ?_⟩
    have := w3 e2 f hf e
    rw [show q - 1 + 1 = q by omega] at this
    rw [hk]
    exact this
theorem is15 {nb q0 : Nat} (hnb : nb < 2 ^ 31) {L R K D : Nat} {ro : Nat → Int32} {p : SX5} (h : PV L R K D ro p) {b : Nat → Int8} {v0 : Nat} (hG : GL L R K ro p nb q0 b v0) (hN : q0 * (L * R) ≤ nb) (hN2 : q0 * (L * R) ≤ 4000) (a : Int32) (tx : SX8) (t : Int32) (g : SX6) (m : Nat) : ∀ (i f : Nat) (_ : i + m = q0 * (L * R)) (_ : m ≤ f) (fc cv : Nat) (_ : i = 0 → fc = 0 ∧ cv = 0) (_ : ¬ i % (L * R) = 0 → fc = cnt ro ((i % (L * R) + L - 1) / L) ∧ cv < 2 ^ K ∧ ∀ k, k < R → ro k = 2 → (b (i / (L * R) * (L * R) + k * L)).toInt32 = nI (cv / 2 ^ (K - 1 - cnt ro k) % 2)), f_L_isSent_15 a p tx t (nI (q0 * (L * R))) g nb b (nI (L * R)) ro (nI K) (f + 1) (nI fc) (nI cv) (nI i) = some 1 := by
  have h0 := cnt_0 h a tx t (nI (q0 * (L * R))) g
  have h11 := cnt_11 p a tx t (nI (q0 * (L * R))) g
  have hrl := fun f hf => role_is h (f := f) hf a
  have hfx := fun q hq => fixed_is h (q := q) hq a tx t (nI (q0 * (L * R))) g
  have hco := checks_out (nb := nb) (N := q0 * (L * R)) (by omega) h (by
    rcases Nat.eq_zero_or_pos q0 with z | z
    · left; rw [z, Nat.zero_mul]
    · right; exact Nat.le_mul_of_pos_left _ z) a t b
  have hci := fun x hx => checks_is hnb hN h (x := x) hx a t b
  have hh := h
  obtain ⟨po, wi, sl, fw, wr, la, dr, ch, ze, on, al, he, hp, a1, a2, a3, a4, hk, hw, hd, hro, _⟩ := hh
  have hLR : 0 < L * R := Nat.mul_pos (by omega) (by omega)
  have hLR2 : L * R ≤ 288 := Nat.le_trans (Nat.mul_le_mul a2 a4) (by decide)
  have hK12 : K ≤ 12 := by have := cnt_le ro R; omega
  have h4096 := two_le hK12
  induction m with
  | zero =>
    intro i f hi _ fc cv _ _
    have : i = q0 * (L * R) := by omega
    subst this
    unfold f_L_isSent_15
    try dsimp only
    rw [h11, bso, if_pos (nI_le (Nat.le_refl _) (by omega)), bso, bit_out (by omega), bso, if_pos rfl, bso, hco, bso, if_pos rfl]
  | succ m ih =>
    intro i f hi hf fc cv hz hnz
    obtain ⟨f, rfl⟩ : ∃ q, f = q + 1 := ⟨f - 1, by omega⟩
    have him := Nat.mod_lt i hLR
    have hdm := Nat.div_add_mod i (L * R)
    have hiq : i / (L * R) < q0 := (Nat.div_lt_iff_lt_mul hLR).mpr (by omega)
    obtain ⟨hl1, hl2⟩ := hG.1 i (by omega)
    have hbit := bit_is (i := i) hnb hN (by omega) a t b
    have hpos := Nat.mod_mod_of_dvd i (show L ∣ L * R from Nat.dvd_mul_right L R)
    have hfr : i % (L * R) / L = i / L % R := Nat.mod_mul_right_div_self i L R
    have hfR : i / L % R < R := Nat.mod_lt _ (by omega)
    -- the rest, when f and the checks are set right
    have h129 : ∀ fc' cv' : Nat, (¬ (i + 1) % (L * R) = 0 → fc' = cnt ro (((i + 1) % (L * R) + L - 1) / L) ∧ cv' < 2 ^ K ∧ ∀ k, k < R → ro k = 2 → (b ((i + 1) / (L * R) * (L * R) + k * L)).toInt32 = nI (cv' / 2 ^ (K - 1 - cnt ro k) % 2)) → f_L_isSent_129 (nI cv') (nI i) (f_L_isSent_15 a p tx t (nI (q0 * (L * R))) g nb b (nI (L * R)) ro (nI K) (f + 1)) (nI fc') = some 1 := by
      intro fc' cv' q
      unfold f_L_isSent_129
      rw [nI_1]
      exact ih (i + 1) f (by omega) (by omega) fc' cv' (fun z => by omega) q
    have h80 : ∀ fc' cv' : Nat, fc' = cnt ro ((i % (L * R) + L - 1) / L) → cv' < 2 ^ K → (∀ k, k < R → ro k = 2 → (b (i / (L * R) * (L * R) + k * L)).toInt32 = nI (cv' / 2 ^ (K - 1 - cnt ro k) % 2)) → f_L_isSent_80 a p tx t (nI (q0 * (L * R))) g (nI i) (nI (L * R)) ro nb b (nI K) (f_L_isSent_15 a p tx t (nI (q0 * (L * R))) g nb b (nI (L * R)) ro (nI K) (f + 1)) (nI fc') (nI cv') = some 1 := by
      intro fc' cv' q1 q2 q3
      -- a bit on: the same superframe
      have hnext : ∀ fc2 : Nat, (fc2 = cnt ro ((i % (L * R) + 1 + L - 1) / L)) → ¬ (i + 1) % (L * R) = 0 → fc2 = cnt ro (((i + 1) % (L * R) + L - 1) / L) ∧ cv' < 2 ^ K ∧ ∀ k, k < R → ro k = 2 → (b ((i + 1) / (L * R) * (L * R) + k * L)).toInt32 = nI (cv' / 2 ^ (K - 1 - cnt ro k) % 2) := by
        intro fc2 e z
        have c : i % (L * R) + 1 < L * R := by
          rcases Nat.lt_or_ge (i % (L * R) + 1) (L * R) with c | c
          · exact c
          · exact absurd (dm_b hLR (show ¬ i % (L * R) + 1 < L * R by omega)).1 z
        obtain ⟨d1, d2⟩ := dm_a hLR c
        rw [d1, d2]
        exact ⟨e, q2, q3⟩
      unfold f_L_isSent_80
      rw [h0, bso, m_gI (nI_ne0 (by omega) (by omega)), pk_rem (by omega) hLR (by omega), pk_rem (by omega) (by omega) (by omega), hpos]
      by_cases c : i % L = 0
      · have hs : (i % (L * R) + L - 1) / L = i / L % R := by rw [up_0 (by omega) (by rw [hpos]; exact c), hfr]
        have hs2 : (i % (L * R) + 1 + L - 1) / L = i / L % R + 1 := by rw [up_s (by omega), hfr]
        rw [hs] at q1
        rw [if_pos (by rw [c]; rfl), bso, m_gI (nI_ne0 (by omega) (by omega)), pk_div (by omega) (by omega) (by omega), hfr, hrl _ hfR, bso]
        by_cases c2 : ro (i / L % R) = 2
        · have hlt := cnt_lt ro hfR c2
          rw [if_pos c2, hbit, bso, nI_1, pk_sub (by omega), pk_shrN (by omega) _ (K - (fc' + 1)) (s_l _ (by omega))]
          have ex : nI (cv' / 2 ^ (K - (fc' + 1))) &&& 1 = nI (cv' / 2 ^ (K - (fc' + 1)) % 2) := pk_andN (m := 1) (Nat.lt_of_le_of_lt (Nat.div_le_self _ _) (by omega)) 1 (by decide)
          have hb := q3 _ hfR c2
          have hpi : i / (L * R) * (L * R) + i / L % R * L = i := by
            have := can_n (L := L) (R := R) (i := i)
            rw [c] at this
            rw [Nat.mul_comm (i / (L * R))]
            omega
          rw [hpi] at hb
          rw [ex, if_pos (by rw [hb, q1, show K - 1 - cnt ro (i / L % R) = K - (cnt ro (i / L % R) + 1) by omega])]
          refine h129 _ _ (hnext _ ?_)
          rw [hs2, q1]
          simp only [cnt, if_pos c2]
        · rw [if_neg c2]
          refine h129 _ _ (hnext _ ?_)
          rw [hs2, q1]
          simp only [cnt, if_neg c2]
          rfl
      · rw [if_neg (show ¬ nI (i % L) = 0 from fun z => c ((nI_eq (b := 0) (by have := Nat.mod_lt i (show 0 < L by omega); omega) (by omega)).mp z))]
        refine h129 _ _ (hnext _ ?_)
        rw [q1, up_s (by omega), up_1 (by omega) (by rw [hpos]; omega)]
    have h58 : f_L_isSent_58 (nI i) (nI (L * R)) a p tx t (nI (q0 * (L * R))) g ro nb b (nI K) (nI fc) (nI cv) (f_L_isSent_15 a p tx t (nI (q0 * (L * R))) g nb b (nI (L * R)) ro (nI K) (f + 1)) = some 1 := by
      unfold f_L_isSent_58
      rw [pk_rem (by omega) hLR (by omega)]
      obtain ⟨v, w1, w2, w3, w4⟩ := gl_ck h hG hiq
      by_cases c : i % (L * R) = 0
      · have hs : (i % (L * R) + L - 1) / L = 0 := by rw [c, Nat.zero_add, Nat.div_eq_of_lt (by omega)]
        rw [if_pos (by rw [c]; rfl)]
        by_cases c0 : i = 0
        · obtain ⟨e1, e2⟩ := hz c0
          rw [if_pos (by rw [c0]; decide)]
          have hq0 : i / (L * R) = 0 := by rw [c0, Nat.zero_div]
          refine h80 fc cv (by rw [hs, e1]; rfl) (by rw [e2]; exact Nat.two_pow_pos K) (fun k hk2 e => ?_)
          rw [w4 k hk2 e, w2 hq0, e2]
        · have hqpos : 0 < i / (L * R) := by
            rcases Nat.eq_zero_or_pos (i / (L * R)) with z | z
            · rw [z, Nat.mul_zero] at hdm; omega
            · exact z
          have hiq2 : i - L * R = (i / (L * R) - 1) * (L * R) := by
            rw [Nat.sub_mul, Nat.mul_comm (i / (L * R)), Nat.one_mul]
            omega
          have hle : L * R ≤ i := by
            have := Nat.le_mul_of_pos_right (L * R) hqpos
            omega
          rw [if_neg (nI_nle (by omega) (by omega)), pk_sub hle, hci (i - L * R) (by omega), hiq2, w3 hqpos, bso]
          exact h80 0 v (by rw [hs]; rfl) w1 w4
      · obtain ⟨e1, e2, e3⟩ := hnz c
        rw [if_neg (show ¬ nI (i % (L * R)) = 0 from fun z => c ((nI_eq (b := 0) (by omega) (by omega)).mp z))]
        exact h80 fc cv e1 e2 e3
    unfold f_L_isSent_15
    try dsimp only
    rw [h11, bso, if_neg (nI_ge (by omega) (by omega)), m_gI (nI_ne0 (by omega) (by omega)), pk_rem (by omega) hLR (by omega), hfx _ him, bso]
    by_cases c : i % (L * R) % L = 0 ∧ (ro (i % (L * R) / L) = 0 ∨ ro (i % (L * R) / L) = 1)
    · rw [if_pos c]
      rw [hpos, hfr] at c
      obtain ⟨c1, c2⟩ := c
      obtain ⟨r0, r1⟩ := hl2 c1
      rw [hfr]
      rcases c2 with c2 | c2
      · rw [c2, if_neg (by decide), hbit, bso, if_pos (r0 c2)]
        exact h58
      · rw [c2, if_neg (by decide), hbit, bso, if_pos (r1 c2)]
        exact h58
    · rw [if_neg c, if_pos (by decide)]
      exact h58
theorem isSent_is {q0 : Nat} {L R K D : Nat} {ro : Nat → Int32} {p : SX5} (h : PV L R K D ro p) {b : Nat → Int8} {v0 : Nat} (hG : GL L R K ro p 4000 q0 b v0) (hN : q0 * (L * R) ≤ 4000) (a : Int32) (tx : SX8) (t : Int32) (g : SX6) : f_L_isSent 4000 (nI (L * R)) a p ro tx t (nI (q0 * (L * R))) b g = some 1 := by
  unfold f_L_isSent
  rw [cnt_10 h a tx t (nI (q0 * (L * R))) g, bso]
  exact is15 (by decide) h hG hN hN a tx t g (q0 * (L * R)) 0 65535 (by omega) (by omega) 0 0 (fun _ => ⟨rfl, rfl⟩) (fun z => absurd (Nat.zero_mod _) z)
