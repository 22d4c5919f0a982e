theorem osum_le (g : Nat → Bool) (n : Nat) : osum g n ≤ n := by
  induction n with
  | zero => exact Nat.le_refl _
  | succ n ih => unfold osum; have : (g n).toNat ≤ 1 := Bool.toNat_le _; omega
theorem rsum_le {g : Nat → Nat} {c : Nat} (n : Nat) (h : ∀ k, g k ≤ c) : rsum g n ≤ n * c := by
  induction n with
  | zero => exact Nat.zero_le _
  | succ n ih => simp only [rsum]; have := h n; rw [Nat.succ_mul]; omega
theorem osum_lt (R : Nat) (g : Nat → Bool) (n : Nat) (hg : ∀ k, k < n → g k = decide (k < R)) : osum g n = if n ≤ R then n else R := by
  induction n with
  | zero => rw [if_pos (Nat.zero_le _)]; rfl
  | succ n ih =>
    simp only [osum]
    rw [ih (fun k hk => hg k (by omega)), hg n (by omega)]
    by_cases c : n < R
    · rw [decide_eq_true c, if_pos (by omega), if_pos (by omega)]; rfl
    · rw [decide_eq_false c]
      by_cases c2 : n ≤ R
      · rw [if_pos c2, if_neg (by omega)]; show n + 0 = R; omega
      · rw [if_neg c2, if_neg (by omega)]; rfl
theorem rsum_k {g : Nat → Nat} {c : Nat} (n : Nat) (h : ∀ k, k < n → g k = c) : rsum g n = n * c := by
  induction n with
  | zero => rw [Nat.zero_mul]; rfl
  | succ n ih => simp only [rsum]; rw [ih (fun k hk => h k (by omega)), h n (by omega), Nat.succ_mul]
theorem LF_le {L R : Nat} (hL : L ≤ 24) {ro : Nat → Int32} {b : Nat → Int8} {i n : Nat} : LF L R ro b i n ≤ 288 := by
  have := rsum_le (g := fun r => osum (CS L R ro b i n r) 12) (c := 12) L (fun k => osum_le _ _)
  unfold LF
  omega
theorem hb2_is {L : Nat} (hL : L ≤ 24) (sf al : Int32) (m : Nat) : ∀ (k f : Nat) (_ : k + m = L) (_ : m ≤ f) (w : Nat → Int32) (_ : ∀ j, j < k → w j = al), ∃ w', f_X1_begin_2 (nI L) sf al (f + 1) (nI k) w = some ((sf, 0, 0, 0, -1), w') ∧ ∀ j, j < L → w' j = al := by
  induction m with
  | zero =>
    intro k f h _ w hw
    rw [f_X1_begin_2_s, if_pos (nI_le (by omega) (by omega))]
    exact ⟨w, rfl, fun j hj => hw j (by omega)⟩
  | succ m ih =>
    intro k f h hf w hw
    obtain ⟨f, rfl⟩ : ∃ q, f = q + 1 := ⟨f - 1, by omega⟩
    rw [f_X1_begin_2_s, if_neg (nI_ge (by omega) (by omega)), if_neg (show ¬ (24 : Int32) ≤ nI k from nI_ge (b := 24) (by omega) (by omega)), m_inI (nI_in (by omega) (by decide)), nI_clamp (by omega), nI_1]
    refine ih (k + 1) f (by omega) (by omega) _ (fun j hj => ?_)
    by_cases c : j = k
    · subst c; exact upd_same _ _ _
    · rw [upd_ne _ _ c]; exact hw j (by omega)
theorem beg_is {L R K D : Nat} {ro : Nat → Int32} {p : SX5} (h : PV L R K D ro p) (b : Nat → Int8) (i : Nat) (s : SX1) (w : Nat → Int32) : Tt (f_X1_begin s w p) (fun q => HI L R ro b i 0 q.1 q.2) := by
  obtain ⟨po, wi, sl, fw, wr, la, dr, ch, ze, on, al, rfl, hp, a1, a2, a3, a4, hk, hw, hd, hr, hz, ho, ha⟩ := h
  obtain ⟨w', e, e2⟩ := hb2_is a2 (nI (L * R)) al L 0 65535 (by omega) (by omega) w (fun j hj => by omega)
  have hLF : LF L R ro b i 0 = L * R := by
    unfold LF
    rw [rsum_k (c := R) L (fun k hk => ?_)]
    rw [osum_lt R (CS L R ro b i 0 k) 12 (fun k hk => rfl)]
    by_cases c : 12 ≤ R
    · rw [if_pos c]; omega
    · rw [if_neg c]
  unfold f_X1_begin
  refine ⟨_, e, -1, ?_, ?_, Or.inl rfl⟩
  · rw [hLF, Nat.zero_mod, Nat.sub_zero, Nat.mod_self, Nat.zero_add, Nat.div_eq_of_lt (show L - 1 < L by omega), Nat.zero_mod]
    rfl
  · intro r hr' k k2
    show bt (w' r) k = _
    rw [e2 r hr', ha k k2]
    rfl
theorem nth31 {L g : Nat} (hL : L ≤ 24) (hg : g < 12) {w : Nat → Int32} {K19 : Int32 → Int32 → Option Int32} (m : Nat) : ∀ (k f : Nat) (_ : k + m = L) (_ : m ≤ f), (∃ r, k ≤ r ∧ r < L ∧ bt (w r) g = true ∧ f_X1_nth_31 (nI L) (nI g) w 0 K19 (f + 1) 0 (nI k) = some (nI (g * L + r))) ∨ ((∀ r, k ≤ r → r < L → bt (w r) g = false) ∧ f_X1_nth_31 (nI L) (nI g) w 0 K19 (f + 1) 0 (nI k) = K19 0 (nI (g + 1))) := by
  induction m with
  | zero =>
    intro k f h _
    right
    refine ⟨fun r h1 h2 => by omega, ?_⟩
    rw [f_X1_nth_31_s, if_pos (nI_le (by omega) (by omega))]
    unfold f_X1_nth_84
    rw [nI_1]
  | succ m ih =>
    intro k f h hf
    obtain ⟨f, rfl⟩ : ∃ q, f = q + 1 := ⟨f - 1, by omega⟩
    rw [f_X1_nth_31_s, if_neg (nI_ge (by omega) (by omega)), if_neg (show ¬ (24 : Int32) ≤ nI k from nI_ge (b := 24) (by omega) (by omega)), m_inI (nI_in (by omega) (by decide)), nI_clamp (by omega), bt1 (w k) g (by omega)]
    unfold m_n
    dsimp only
    rw [Int32.zero_add]
    by_cases c : bt (w k) g = true
    · left
      refine ⟨k, Nat.le_refl _, by omega, c, ?_⟩
      rw [c, if_neg (show ¬ nI true.toNat ≤ 0 by decide), pk_mul, nI_add]
    · have c : bt (w k) g = false := by rcases Bool.eq_false_or_eq_true (bt (w k) g) with h | h; exact absurd h c; exact h
      rw [c, if_pos (show nI false.toNat ≤ 0 by decide), nI_1, show nI false.toNat = 0 from rfl]
      rcases ih (k + 1) f (by omega) (by omega) with ⟨r, h1, h2, h3, h4⟩ | ⟨h1, h2⟩
      · left; exact ⟨r, by omega, h2, h3, h4⟩
      · right
        refine ⟨fun r r1 r2 => ?_, h2⟩
        by_cases e : r = k
        · subst e; exact c
        · exact h1 r (by omega) r2
theorem nth19 {L R : Nat} (hL : L ≤ 24) (hR : R ≤ 12) {w : Nat → Int32} (m : Nat) : ∀ (k f : Nat) (_ : k + m = R) (_ : m ≤ f), (∃ g r, k ≤ g ∧ g < R ∧ r < L ∧ bt (w r) g = true ∧ f_X1_nth_19 (nI R) (nI L) w 0 (f + 1) 0 (nI k) = some (nI (g * L + r))) ∨ (∀ g r, k ≤ g → g < R → r < L → bt (w r) g = false) := by
  induction m with
  | zero =>
    intro k f h _
    right
    intro g r h1 h2; omega
  | succ m ih =>
    intro k f h hf
    obtain ⟨f, rfl⟩ : ∃ q, f = q + 1 := ⟨f - 1, by omega⟩
    rw [f_X1_nth_19_s, if_neg (nI_ge (by omega) (by omega))]
    rcases nth31 (L := L) (g := k) hL (by omega) (w := w) (K19 := f_X1_nth_19 (nI R) (nI L) w 0 (f + 1)) L 0 65535 (by omega) (by omega) with ⟨r, h1, h2, h3, h4⟩ | ⟨h1, h2⟩
    · left
      exact ⟨k, r, Nat.le_refl _, by omega, h2, h3, h4⟩
    · rcases ih (k + 1) f (by omega) (by omega) with ⟨g, r, g1, g2, g3, g4, g5⟩ | q
      · left
        exact ⟨g, r, by omega, g2, g3, g4, h2.trans g5⟩
      · right
        intro g r r1 r2 r3
        by_cases e : g = k
        · subst e; exact h1 r (by omega) r3
        · exact q g r (by omega) r2 r3
theorem can_n {L R i : Nat} : i % (L * R) = i / L % R * L + i % L := by
  rw [Nat.mod_mul, Nat.mul_comm L, Nat.add_comm]
theorem nth_1 {L R K D : Nat} {ro : Nat → Int32} {p : SX5} (h : PV L R K D ro p) {b : Nat → Int8} {i n : Nat} {u : SX1} {w : Nat → Int32} (hi : HI L R ro b i n u w) (h1 : LF L R ro b i n = 1) (hl : ∀ j, i ≤ j → j < i + n → RF L R ro j (b j).toInt32) : f_X1_nth 0 u w p = some (nI (i % (L * R))) := by
  obtain ⟨po, wi, sl, fw, wr, la, dr, ch, ze, o, al, rfl, hp, a1, a2, a3, a4, hk, hw, hd', hr, hz, ho, ha⟩ := h
  obtain ⟨ony, rfl, hlo, hon⟩ := hi
  have ht := CS_true (show 0 < L by omega) (show 0 < R by omega) n hl
  have hfi : i / L % R < R := Nat.mod_lt _ (by omega)
  have hri : i % L < L := Nat.mod_lt _ (by omega)
  have h1' : rsum (fun r => osum (CS L R ro b i n r) 12) L = 1 := h1
  unfold f_X1_nth
  try dsimp only
  rw [h1, if_neg (by decide), if_pos (by decide)]
  rcases nth19 a2 a4 (w := w) R 0 65535 (by omega) (by omega) with ⟨g, r, g1, g2, g3, g4, g5⟩ | q
  · rw [hlo r g3 g (by omega)] at g4
    have er : r = i % L := by
      rcases Nat.lt_trichotomy r (i % L) with c | c | c
      · have k1 := rsum_ge2 (g := fun r => osum (CS L R ro b i n r) 12) c hri
        have k1 : osum (CS L R ro b i n r) 12 + osum (CS L R ro b i n (i % L)) 12 ≤ rsum (fun r => osum (CS L R ro b i n r) 12) L := k1
        have k2 := osum_pos (g := CS L R ro b i n r) (n := 12) (p := g) (by omega) g4
        have k3 := osum_pos (g := CS L R ro b i n (i % L)) (n := 12) (p := i / L % R) (by omega) ht
        omega
      · exact c
      · have k1 := rsum_ge2 (g := fun r => osum (CS L R ro b i n r) 12) c g3
        have k1 : osum (CS L R ro b i n (i % L)) 12 + osum (CS L R ro b i n r) 12 ≤ rsum (fun r => osum (CS L R ro b i n r) 12) L := k1
        have k2 := osum_pos (g := CS L R ro b i n r) (n := 12) (p := g) (by omega) g4
        have k3 := osum_pos (g := CS L R ro b i n (i % L)) (n := 12) (p := i / L % R) (by omega) ht
        omega
    subst er
    have eg : g = i / L % R := by
      have k1 := rsum_ge (g := fun r => osum (CS L R ro b i n r) 12) (d := i % L) (n := L) hri
      have k1 : osum (CS L R ro b i n (i % L)) 12 ≤ rsum (fun r => osum (CS L R ro b i n r) 12) L := k1
      rcases Nat.lt_trichotomy g (i / L % R) with c | c | c
      · have := osum_two (n := 12) c (by omega) g4 ht; omega
      · exact c
      · have := osum_two (n := 12) c (by omega) ht g4; omega
    rw [can_n, ← eg]
    exact g5
  · have := q _ _ (Nat.zero_le _) hfi hri
    rw [hlo _ hri _ (by omega), ht] at this
    exact absurd this (by decide)
/-- the first one, where the bit from which it hunts is a superframe's first one -/
theorem nth_0 {L R K D : Nat} {ro : Nat → Int32} {p : SX5} (h : PV L R K D ro p) {b : Nat → Int8} {n : Nat} {u : SX1} {w : Nat → Int32} (hi : HI L R ro b 0 n u w) (hl : ∀ j, j < n → RF L R ro j (b j).toInt32) : f_X1_nth 0 u w p = some 0 := by
  obtain ⟨po, wi, sl, fw, wr, la, dr, ch, ze, o, al, rfl, hp, a1, a2, a3, a4, hk, hw, hd', hr, hz, ho, ha⟩ := h
  obtain ⟨ony, rfl, hlo, hon⟩ := hi
  have hl' : ∀ j, 0 ≤ j → j < 0 + n → RF L R ro j (b j).toInt32 := fun j _ h => hl j (by omega)
  have ht := CS_true (show 0 < L by omega) (show 0 < R by omega) n hl'
  have h1 := LF_pos (show 0 < L by omega) (show 0 < R by omega) a4 n hl'
  have h2 := LF_le (R := R) (ro := ro) (b := b) (i := 0) (n := n) a2
  rw [Nat.zero_mod, Nat.zero_div, Nat.zero_mod] at ht
  unfold f_X1_nth
  try dsimp only
  rw [if_neg (by decide), if_pos (show 0 < nI (LF L R ro b 0 n) from nI_lt (a := 0) h1 (by omega))]
  rw [show (65536 : Nat) = 65535 + 1 from rfl, f_X1_nth_19_s, if_neg (show ¬ nI R ≤ 0 from nI_nle (by omega) (by omega))]
  rw [show (65536 : Nat) = 65535 + 1 from rfl, f_X1_nth_31_s, if_neg (show ¬ nI L ≤ 0 from nI_nle (by omega) (by omega)), if_neg (by decide), m_inI (show ¬ ((0 : Int32) < 0 ∨ 24 ≤ (0 : Int32).toNatClampNeg) by decide)]
  rw [show ((w (0 : Int32).toNatClampNeg) >>> ((0 : Int32) &&& 31)) &&& 1 = nI (bt (w 0) 0).toNat from bt1 (w 0) 0 (by decide), hlo 0 (by omega) 0 (by omega), ht]
  unfold m_n
  dsimp only
  rw [if_neg (show ¬ (0 : Int32) + nI true.toNat ≤ 0 by decide)]
  show some (0 * nI L + 0) = some 0
  rw [show (0 : Int32) = nI 0 from rfl, pk_mul, nI_add, Nat.zero_mul]
theorem lone_is {L R K D : Nat} {ro : Nat → Int32} {p : SX5} (h : PV L R K D ro p) {b : Nat → Int8} {i n : Nat} {lf hd du fo on : Int32} {w : Nat → Int32} (hi : HI L R ro b i n (lf, hd, du, fo, on) w) (h1 : LF L R ro b i n = 1) (hl : ∀ j, i ≤ j → j < i + n → RF L R ro j (b j).toInt32) : f_X1_lone (lf, hd, du, fo, on) w p = some (nI (i % (L * R)), (lf, hd, du, fo, nI (i % (L * R)))) := by
  unfold f_X1_lone
  try dsimp only
  by_cases c : on = -1
  · rw [if_pos c, nth_1 h hi h1 hl, bso]
  · rw [if_neg c]
    obtain ⟨ony, e, hlo, hon⟩ := hi
    have e1 : on = ony := congrArg (fun q : SX1 => q.2.2.2.2) e
    have e2 : on = nI (i % (L * R)) := by
      subst e1
      exact (hon.resolve_left c).2
    rw [e2]
theorem HI.o {L R : Nat} {ro : Nat → Int32} {b : Nat → Int8} {i n : Nat} {lf hd du fo on : Int32} {w : Nat → Int32} (h : HI L R ro b i n (lf, hd, du, fo, on) w) (h1 : LF L R ro b i n = 1) : HI L R ro b i n (lf, hd, du, fo, nI (i % (L * R))) w := by
  obtain ⟨ony, e, hlo, hon⟩ := h
  refine ⟨nI (i % (L * R)), ?_, hlo, Or.inr ⟨h1, rfl⟩⟩
  injection e with e1 e
  injection e with e2 e
  injection e with e3 e
  injection e with e4 e
  rw [e1, e2, e3, e4]
/-- what is begun of a value is gone -/
def FG (e : SX0) : SX0 := (e.1, e.2.1, 0, 0)
theorem fg_is (e : SX0) : f_X0_forget e = some (FG e) := rfl
/-- the receiver: n bits heard from bit i on; what it follows is the true position, nothing was wrong -/
def RX (L R K : Nat) (ro : Nat → Int32) (b : Nat → Int8) (i n : Nat) (s : SX4) (u : SX1) (w : Nat → Int32) : Prop := ∃ (md lk pl of hi : Int32) (si : Nat), s = (md, 1, 0, lk, 0, pl, of, nI si, hi, 0) ∧ si ≤ n ∧ ((md = 0 ∧ lk = 0 ∧ si = n ∧ HI L R ro b i n u w) ∨ (md = 1 ∧ lk = 0 ∧ 0 < K ∧ pl = nI ((i + n) / L % R) ∧ of = nI ((i + n) % L)) ∨ (md = 2 ∧ lk = 1 ∧ hi = 0 ∧ pl = nI ((i + n) / L % R) ∧ of = nI ((i + n) % L)))
theorem flo_is {L R K D : Nat} {ro : Nat → Int32} {p : SX5} (h : PV L R K D ro p) {b : Nat → Int8} {i n : Nat} (hin : i + n ≤ 7000) (h1 : LF L R ro b i n = 1) (hl : ∀ j, i ≤ j → j < i + n → RF L R ro j (b j).toInt32) (pl of hy : Int32) : ∃ s' : SX4, ∀ (lf hd du fo on : Int32) (w : Nat → Int32) (e : SX0), HI L R ro b i n (lf, hd, du, fo, on) w → Tt (f_X4_followLone (0, 1, 0, 0, 0, pl, of, nI n, hy, 0) (lf, hd, du, fo, on) w e p) (fun q => q.1 = s' ∧ RX L R K ro b i n q.1 q.2.1 w ∧ (q.2.2 = e ∨ q.2.2 = FG e)) := by
  have hlo := fun (lf hd du fo on : Int32) (w : Nat → Int32) hi => lone_is h (b := b) (i := i) (n := n) (lf := lf) (hd := hd) (du := du) (fo := fo) (on := on) (w := w) hi h1 hl
  obtain ⟨po, wi, sl, fw, wr, la, dr, ch, ze, o, al, rfl, hp, a1, a2, a3, a4, hk, hw, hd, hr, hz, ho, ha⟩ := h
  have hLR : 0 < L * R := Nat.mul_pos (by omega) (by omega)
  have hLR2 : L * R ≤ 288 := Nat.le_trans (Nat.mul_le_mul a2 a4) (by decide)
  have hm := Nat.mod_lt i hLR
  have e1 : nI (i % (L * R)) + nI n - (nI (i % (L * R)) + nI n) / nI (L * R) * nI (L * R) = nI ((i + n) % (L * R)) := by
    rw [nI_add, pk_rem (by omega) hLR (by omega), Nat.mod_add_mod]
  have hm2 := Nat.mod_lt (i + n) hLR
  have key : ∀ (lf hd du fo on : Int32) (w : Nat → Int32) (e : SX0) (Q : SX4 × SX1 × SX0 → Prop), HI L R ro b i n (lf, hd, du, fo, on) w → (nI K ≤ 0 → Q ((2, 1, 0, 1, 0, nI ((i + n) / L % R), nI ((i + n) % L), 0, 0, 0), (lf, hd, du, fo, nI (i % (L * R))), FG e)) → (¬ nI K ≤ 0 → Q ((1, 1, 0, 0, 0, nI ((i + n) / L % R), nI ((i + n) % L), 0, hy, 0), (lf, hd, du, fo, nI (i % (L * R))), e)) → Tt (f_X4_followLone (0, 1, 0, 0, 0, pl, of, nI n, hy, 0) (lf, hd, du, fo, on) w e (nI L, nI R, po, wi, sl, fw, wr, la, dr, nI (L * R), ch, nI K, ze, o, al)) Q := by
    intro lf hd du fo on w e Q hi q1 q2
    have hhd : hd = nI n := by obtain ⟨ony, e, _⟩ := hi; exact congrArg (fun q : SX1 => q.2.1) e
    unfold f_X4_followLone
    refine tt_i (fun c => absurd (show (1 : Int32) ≤ nI (L * R) from nI_le (a := 1) hLR (by omega)) (by rw [i_le]; rw [i_lt] at c; omega)) (fun _ => ?_)
    refine tt_i (fun _ => ?_) (fun c => absurd (show (1 : Int32) ≤ nI L from nI_le (a := 1) (by omega) (by omega)) c)
    rw [hlo _ _ _ _ _ _ hi, bso]
    refine tt_g (nI_ne0 hLR (by omega)) ?_
    rw [hhd, e1]
    unfold m_n
    refine tt_g (nI_ne0 (by omega) (by omega)) ?_
    rw [pk_rem (by omega) (by omega) (by omega), pk_div (by omega) (by omega) (by omega), Nat.mod_mul_right_div_self, Nat.mod_mul_right_mod]
    refine tt_i (fun c => ?_) (fun c => ?_)
    · unfold f_X4_lock
      rw [fg_is]
      have := q1 c
      rw [hhd] at this
      exact tt_r this
    · have := q2 c
      rw [hhd] at this
      exact tt_r this
  by_cases c : nI K ≤ 0
  · refine ⟨(2, 1, 0, 1, 0, nI ((i + n) / L % R), nI ((i + n) % L), 0, 0, 0), fun lf hd du fo on w e hi => key lf hd du fo on w e _ hi (fun _ => ⟨rfl, ?_, Or.inr rfl⟩) (fun c' => absurd c c')⟩
    exact ⟨2, 1, _, _, 0, 0, rfl, Nat.zero_le _, Or.inr (Or.inr ⟨rfl, rfl, rfl, rfl, rfl⟩)⟩
  · have hK : 0 < K := by
      rcases Nat.eq_zero_or_pos K with z | z
      · subst z; exact absurd (show nI 0 ≤ 0 by decide) c
      · exact z
    refine ⟨(1, 1, 0, 0, 0, nI ((i + n) / L % R), nI ((i + n) % L), 0, hy, 0), fun lf hd du fo on w e hi => key lf hd du fo on w e _ hi (fun c' => absurd c' c) (fun _ => ⟨rfl, ?_, Or.inl rfl⟩)⟩
    exact ⟨1, 0, _, _, hy, 0, rfl, Nat.zero_le _, Or.inr (Or.inl ⟨rfl, rfl, hK, rfl, rfl⟩)⟩
theorem thu_is {L R K D : Nat} {ro : Nat → Int32} {p : SX5} (h : PV L R K D ro p) {b : Nat → Int8} {i n : Nat} (hin : i + n + 1 ≤ 7000) (hn : n ≤ 5000) (hl : ∀ j, i ≤ j → j < i + (n + 1) → RF L R ro j (b j).toInt32) (pl of hy : Int32) : ∃ s' : SX4, ∀ (u : SX1) (w : Nat → Int32) (e : SX0), HI L R ro b i n u w → Tt (f_X4_takeHunting (b (i + n)).toInt32 (0, 1, 0, 0, 0, pl, of, nI (n + 1), hy, 0) u w e p) (fun q => q.1 = s' ∧ RX L R K ro b i (n + 1) q.1 q.2.1 q.2.2.1 ∧ (q.2.2.2 = e ∨ q.2.2.2 = FG e)) := by
  have hf := fun (u : SX1) (w : Nat → Int32) hi => fol_is h (b := b) (i := i) (n := n) (u := u) (w := w) hi hn hl
  have hfl := fun h1 => flo_is h (b := b) (i := i) (n := n + 1) (by omega) h1 hl pl of hy
  have hlo := fun (lf hd du fo on : Int32) (w : Nat → Int32) hi h1 => lone_is h (b := b) (i := i) (n := n + 1) (lf := lf) (hd := hd) (du := du) (fo := fo) (on := on) (w := w) hi h1 hl
  obtain ⟨fa, hfa, _⟩ := fixedStarted_c (nI (i % (L * R)) + nI (n + 1)) p
  obtain ⟨fb, hfb, _⟩ := fixedStarted_c (nI (i % (L * R))) p
  obtain ⟨po, wi, sl, fw, wr, la, dr, ch, ze, o, al, rfl, hp, a1, a2, a3, a4, hk, hw, hd, hr, hz, ho, ha⟩ := h
  have hp1 := LF_pos (show 0 < L by omega) (show 0 < R by omega) a4 (n + 1) hl
  have hp2 := LF_le (R := R) (ro := ro) (b := b) (i := i) (n := n + 1) a2
  have key : ∀ (u : SX1) (w : Nat → Int32) (e : SX0) (Q : SX4 × SX1 × (Nat → Int32) × SX0 → Prop), HI L R ro b i n u w → (∀ u' w', HI L R ro b i (n + 1) u' w' → (¬ LF L R ro b i (n + 1) = 1 ∨ fa - fb < fw) → Q ((0, 1, 0, 0, 0, pl, of, nI (n + 1), hy, 0), u', w', e)) → (∀ lf hd du fo on w', HI L R ro b i (n + 1) (lf, hd, du, fo, on) w' → LF L R ro b i (n + 1) = 1 → ¬ fa - fb < fw → Tt (f_X4_followLone (0, 1, 0, 0, 0, pl, of, nI (n + 1), hy, 0) (lf, hd, du, fo, on) w' e (nI L, nI R, po, wi, sl, fw, wr, la, dr, nI (L * R), ch, nI K, ze, o, al)) (fun z => Q (z.1, z.2.1, w', z.2.2))) → Tt (f_X4_takeHunting (b (i + n)).toInt32 (0, 1, 0, 0, 0, pl, of, nI (n + 1), hy, 0) u w e (nI L, nI R, po, wi, sl, fw, wr, la, dr, nI (L * R), ch, nI K, ze, o, al)) Q := by
    intro u w e Q hi q1 q2
    have hf := hf u w hi
    obtain ⟨u1, u2, u3, u4, u5⟩ := u
    unfold f_X4_takeHunting
    refine tt_b hf ?_
    rintro ⟨⟨lf, hd', du, fo, on⟩, w'⟩ hu
    have hu : HI L R ro b i (n + 1) (lf, hd', du, fo, on) w' := hu
    have elf : lf = nI (LF L R ro b i (n + 1)) := by obtain ⟨ony, e, _⟩ := hu; exact congrArg (fun q : SX1 => q.1) e
    have ehd : hd' = nI (n + 1) := by obtain ⟨ony, e, _⟩ := hu; exact congrArg (fun q : SX1 => q.2.1) e
    refine tt_i (fun c => absurd c (by show ¬ lf = 0; rw [elf]; exact nI_ne0 (by omega) (by omega))) (fun _ => ?_)
    refine tt_i (fun c => ?_) (fun c => ?_)
    · have c1 : LF L R ro b i (n + 1) = 1 := (nI_eq (a := LF L R ro b i (n + 1)) (b := 1) (by omega) (by omega)).mp (by rw [← elf]; exact c)
      have hu2 := hu.o c1
      unfold f_X1_fixedHeard
      dsimp only
      rw [hlo _ _ _ _ _ _ hu c1, bso]
      show Tt (Option.bind (Option.bind (f_X5_fixedStarted (nI (i % (L * R)) + hd') _) _) _) _
      rw [ehd, hfa, bso, hfb, bso, bso]
      rw [ehd] at hu2
      refine tt_i (fun c2 => ?_) (fun c2 => ?_)
      · exact tt_r (q1 _ _ hu2 (Or.inr c2))
      · refine tt_b (q2 _ _ _ _ _ _ hu2 c1 c2) ?_
        rintro ⟨s', ⟨y1, y2, y3, y4, y5⟩, e'⟩ g
        exact tt_r g
    · refine tt_r (q1 _ _ hu (Or.inl (fun c1 => c ?_)))
      show lf = 1
      rw [elf, c1]
      rfl
  by_cases c : LF L R ro b i (n + 1) = 1 ∧ ¬ fa - fb < fw
  · obtain ⟨s', hs⟩ := hfl c.1
    refine ⟨s', fun u w e hi => key u w e _ hi (fun u' w' _ z => (z.elim (fun y => absurd c.1 y) (fun y => absurd y c.2))) (fun lf hd du fo on w' hu _ _ => ?_)⟩
    refine tt_m (hs _ _ _ _ _ _ _ hu) ?_
    rintro ⟨s'', u'', e''⟩ g
    exact g
  · refine ⟨(0, 1, 0, 0, 0, pl, of, nI (n + 1), hy, 0), fun u w e hi => key u w e _ hi (fun u' w' hu _ => ?_) (fun lf hd du fo on w' hu z1 z2 => absurd ⟨z1, z2⟩ c)⟩
    exact ⟨rfl, ⟨0, 0, pl, of, hy, n + 1, rfl, Nat.le_refl _, Or.inl ⟨rfl, rfl, rfl, hu⟩⟩, Or.inl rfl⟩
