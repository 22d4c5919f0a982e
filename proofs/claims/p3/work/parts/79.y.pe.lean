/-! Class and reference read a text alike: the tokens. -/
def pc (tb : Nat → Int8) (j : Nat) : Int32 := (tb j).toInt32 &&& 255
def let_ (x : Int32) : Int32 := if x < 97 then 0 else if 122 < x then 0 else 1
def dig_ (x : Int32) : Int32 := if x < 48 then 0 else if 57 < x then 0 else 1
theorem letter_v (x : Int32) : f_X3_isLetter x = some (let_ x) := in_val x 97 122
theorem digit_v (x : Int32) : f_X3_isDigit x = some (dig_ x) := in_val x 48 57
theorem in97 (x : Int32) : f_X12_in x 97 122 = some (let_ x) := in_val x 97 122
theorem in48 (x : Int32) : f_X12_in x 48 57 = some (dig_ x) := in_val x 48 57
theorem i8all {P : Int8 → Prop} (h : ∀ i : Fin 256, P ⟨⟨⟨i⟩⟩⟩) (b : Int8) : P b := by
  obtain ⟨⟨⟨i⟩⟩⟩ := b
  exact h i
theorem pc_lt (tb : Nat → Int8) (j : Nat) : ∃ q : Nat, q < 256 ∧ pc tb j = nI q :=
  i8all (P := fun b => ∃ q : Nat, q < 256 ∧ b.toInt32 &&& 255 = nI q) (fun i => ⟨i.1, i.2, by revert i; decide +kernel⟩) (tb j)
theorem pc_raw (tb : Nat → Int8) (j : Nat) (h : pc tb j < 128) : (tb j).toInt32 = pc tb j :=
  i8all (P := fun b => b.toInt32 &&& 255 < 128 → b.toInt32 = b.toInt32 &&& 255) (by decide +kernel) (tb j) h
theorem pc_nn (tb : Nat → Int8) (j : Nat) : 0 ≤ pc tb j := by
  obtain ⟨q, hq, e⟩ := pc_lt tb j
  rw [e]
  exact nI_pos' (by omega)
section TOK
variable {Z : Nat} (hZ : Z ≤ 300) {tb tx : Nat → Int8} (hE : ∀ j, j < Z → tx j = tb j)
theorem at_lt (hZ : Z ≤ 300) {j : Nat} (h : j < Z) (t u : Int32) : f_X8_at (nI j) (nI Z, t, u) tb = some (pc tb j) := by
  unfold f_X8_at
  simp only []
  rw [if_neg (nI_pos (by omega)), if_neg (nI_ge h (by omega)), if_neg (show ¬ (300 : Int32) ≤ nI j from nI_ge (b := 300) (by omega) (by decide)), m_inI (nI_in (N := 300) (by omega) (by decide)), nI_clamp (by omega)]
  rfl
theorem see_lt (hZ : Z ≤ 300) (hE : ∀ j, j < Z → tx j = tb j) {j : Nat} (h : j < Z) (ra un be so va si : Int32) (wo : Int64) (wr bd xx : Int32) : f_X12_see (ra, un, nI j, nI Z, be, so, va, si, wo, wr, bd, xx) tx = some (pc tb j) := by
  unfold f_X12_see
  simp only []
  rw [if_neg (nI_ge h (by omega)), m_inI (nI_in (N := 1200) (by omega) (by decide)), nI_clamp (by omega), hE j h]
  rfl
theorem see_ge (hZ : Z ≤ 300) {j : Nat} (h : Z ≤ j) (hj : j ≤ 1000) (ra un be so va si : Int32) (wo : Int64) (wr bd xx : Int32) : f_X12_see (ra, un, nI j, nI Z, be, so, va, si, wo, wr, bd, xx) tx = some (-1) := by
  unfold f_X12_see
  simp only []
  rw [if_pos (nI_le h (by omega))]
/-- a word's letters, packed -/
def pk (tb : Nat → Int8) (a : Nat) : Nat → Int64
  | 0 => 0
  | n + 1 => (pk tb a n <<< ((8 : Int32).toInt64 &&& 63)) ||| (pc tb (a + n)).toInt64
/-- a number's value, as the reference counts it -/
def dv (tb : Nat → Int8) (a : Nat) : Nat → Int32
  | 0 => 0
  | n + 1 => if 3 ≤ n then 1000 else ((10 * dv tb a n) + pc tb (a + n)) - 48
theorem pe_word (hZ : Z ≤ 300) (hE : ∀ j, j < Z → tx j = tb j) {a : Nat} (x y t u ra un so va si wr bd xx : Int32) (m : Nat) : ∀ (n f g : Nat) (_ : a + n + m = Z) (_ : m ≤ f) (_ : m ≤ g), ∃ b : Nat, n ≤ b ∧ a + b ≤ Z ∧ (∀ j, n ≤ j → j < b → let_ (pc tb (a + j)) ≠ 0) ∧ (a + b = Z ∨ let_ (pc tb (a + b)) = 0) ∧
    f_X3_step_104 (nI Z) x y (nI a) t u tb (f + 1) (nI (a + n)) = some (x, y, 1, nI a, nI (a + b)) ∧
    f_X12_token_74 ra un (nI Z) (nI a) so va si wr bd xx tx (g + 1) (nI n) (nI (a + n)) (pk tb a n) = some (ra, un, nI (a + b), nI Z, nI a, 2, va, nI b, (if b ≤ 8 then pk tb a b else 0), wr, bd, xx) := by
  have fin : ∀ n, a + n ≤ Z → (if nI n ≤ 8 then f_X12_token_136 ra un (nI Z) (nI a) wr bd xx (nI n) (nI (a + n)) va (pk tb a n) else f_X12_token_136 ra un (nI Z) (nI a) wr bd xx (nI n) (nI (a + n)) va 0) = some (ra, un, nI (a + n), nI Z, nI a, 2, va, nI n, (if n ≤ 8 then pk tb a n else 0), wr, bd, xx) := by
    intro n hn
    by_cases h : n ≤ 8
    · rw [if_pos (show nI n ≤ 8 from nI_le (b := 8) h (by decide)), if_pos h]; rfl
    · rw [if_neg (show ¬ nI n ≤ 8 from nI_ge (a := 8) (by omega) (by omega)), if_neg h]; rfl
  induction m with
  | zero =>
    intro n f g h _ _
    refine ⟨n, Nat.le_refl _, by omega, fun j h1 h2 => absurd h2 (by omega), Or.inl (by omega), ?_, ?_⟩
    · rw [f_X3_step_104_s, if_pos (nI_le (by omega) (by omega))]
    · rw [f_X12_token_74_s, see_ge hZ (by omega) (by omega), bso, in97, bso, if_pos (show let_ (-1) = 0 by decide)]
      exact fin n (by omega)
  | succ m ih =>
    intro n f g h hf hg
    obtain ⟨f, rfl⟩ : ∃ q, f = q + 1 := ⟨f - 1, by omega⟩
    obtain ⟨g, rfl⟩ : ∃ q, g = q + 1 := ⟨g - 1, by omega⟩
    by_cases hc : let_ (pc tb (a + n)) = 0
    · refine ⟨n, Nat.le_refl _, by omega, fun j h1 h2 => absurd h2 (by omega), Or.inr hc, ?_, ?_⟩
      · rw [f_X3_step_104_s, if_neg (nI_ge (by omega) (by omega)), at_lt hZ (by omega), bso, letter_v, bso, if_pos hc]
      · rw [f_X12_token_74_s, see_lt hZ hE (by omega), bso, in97, bso, if_pos hc]
        exact fin n (by omega)
    · obtain ⟨b, h1, h2, h3, h4, h5, h6⟩ := ih (n + 1) f g (by omega) (by omega) (by omega)
      refine ⟨b, by omega, h2, fun j j1 j2 => ?_, h4, ?_, ?_⟩
      · rcases Nat.eq_or_lt_of_le j1 with e | e
        · subst e; exact hc
        · exact h3 j e j2
      · rw [f_X3_step_104_s, if_neg (nI_ge (by omega) (by omega)), at_lt hZ (by omega), bso, letter_v, bso, if_neg hc, nI_1]
        exact h5
      · rw [f_X12_token_74_s, see_lt hZ hE (by omega), bso, in97, bso, if_neg hc, bso]
        have e : f_X12_token_74 ra un (nI Z) (nI a) so va si wr bd xx tx (g + 1) (nI n + 1) (nI (a + n) + 1) (pk tb a (n + 1)) = some (ra, un, nI (a + b), nI Z, nI a, 2, va, nI b, (if b ≤ 8 then pk tb a b else 0), wr, bd, xx) := by
          rw [nI_1, nI_1]; exact h6
        exact e
theorem pe_num (hZ : Z ≤ 300) (hE : ∀ j, j < Z → tx j = tb j) {a : Nat} (x y t u ra un so si wr bd xx : Int32) (m : Nat) : ∀ (n f g : Nat) (_ : a + n + m = Z) (_ : m ≤ f) (_ : m ≤ g), ∃ b : Nat, n ≤ b ∧ a + b ≤ Z ∧ (∀ j, n ≤ j → j < b → dig_ (pc tb (a + j)) ≠ 0) ∧ (a + b = Z ∨ dig_ (pc tb (a + b)) = 0) ∧
    f_X3_step_165 (nI Z) (nI a) x y t u tb (f + 1) (nI (a + n)) = some (x, y, (if b ≤ 12 then 2 else 4), nI a, nI (a + b)) ∧
    f_X12_token_163 ra un (nI Z) (nI a) so si wr bd xx tx (g + 1) (nI n) (nI (a + n)) (dv tb a n) = some (ra, un, nI (a + b), nI Z, nI a, (if b ≤ 12 then 3 else 1), dv tb a b, nI b, 0, wr, bd, xx) := by
  have fin : ∀ n, a + n ≤ Z → (if nI n ≤ 12 then f_X12_token_235 ra un (nI Z) (nI a) wr bd xx (nI n) (nI (a + n)) (dv tb a n) 3 else f_X12_token_235 ra un (nI Z) (nI a) wr bd xx (nI n) (nI (a + n)) (dv tb a n) 1) = some (ra, un, nI (a + n), nI Z, nI a, (if n ≤ 12 then 3 else 1), dv tb a n, nI n, 0, wr, bd, xx) := by
    intro n hn
    by_cases h : n ≤ 12
    · rw [if_pos (show nI n ≤ 12 from nI_le (b := 12) h (by decide)), if_pos h]; rfl
    · rw [if_neg (show ¬ nI n ≤ 12 from nI_ge (a := 12) (by omega) (by omega)), if_neg h]; rfl
  have fin2 : ∀ n, a + n ≤ Z → f_X3_step_209 (nI (a + n)) (nI a) x y = some (x, y, (if n ≤ 12 then 2 else 4), nI a, nI (a + n)) := by
    intro n hn
    unfold f_X3_step_209
    rw [pk_sub (by omega), show a + n - a = n by omega]
    by_cases h : n ≤ 12
    · rw [if_neg (show ¬ (12 : Int32) < nI n from nI_nlt (b := n) (a := 12) h (by decide)), if_pos h]
    · rw [if_pos (show (12 : Int32) < nI n from nI_lt (a := 12) (by omega) (by omega)), if_neg h]
  induction m with
  | zero =>
    intro n f g h _ _
    refine ⟨n, Nat.le_refl _, by omega, fun j h1 h2 => absurd h2 (by omega), Or.inl (by omega), ?_, ?_⟩
    · rw [f_X3_step_165_s, if_pos (nI_le (by omega) (by omega))]
      exact fin2 n (by omega)
    · rw [f_X12_token_163_s, see_ge hZ (by omega) (by omega), bso, in48, bso, if_pos (show dig_ (-1) = 0 by decide)]
      exact fin n (by omega)
  | succ m ih =>
    intro n f g h hf hg
    obtain ⟨f, rfl⟩ : ∃ q, f = q + 1 := ⟨f - 1, by omega⟩
    obtain ⟨g, rfl⟩ : ∃ q, g = q + 1 := ⟨g - 1, by omega⟩
    by_cases hc : dig_ (pc tb (a + n)) = 0
    · refine ⟨n, Nat.le_refl _, by omega, fun j h1 h2 => absurd h2 (by omega), Or.inr hc, ?_, ?_⟩
      · rw [f_X3_step_165_s, if_neg (nI_ge (by omega) (by omega)), at_lt hZ (by omega), bso, digit_v, bso, if_pos hc]
        exact fin2 n (by omega)
      · rw [f_X12_token_163_s, see_lt hZ hE (by omega), bso, in48, bso, if_pos hc]
        exact fin n (by omega)
    · obtain ⟨b, h1, h2, h3, h4, h5, h6⟩ := ih (n + 1) f g (by omega) (by omega) (by omega)
      refine ⟨b, by omega, h2, fun j j1 j2 => ?_, h4, ?_, ?_⟩
      · rcases Nat.eq_or_lt_of_le j1 with e | e
        · subst e; exact hc
        · exact h3 j e j2
      · rw [f_X3_step_165_s, if_neg (nI_ge (by omega) (by omega)), at_lt hZ (by omega), bso, digit_v, bso, if_neg hc, nI_1]
        exact h5
      · have e : f_X12_token_163 ra un (nI Z) (nI a) so si wr bd xx tx (g + 1) (nI n + 1) (nI (a + n) + 1) (dv tb a (n + 1)) = some (ra, un, nI (a + b), nI Z, nI a, (if b ≤ 12 then 3 else 1), dv tb a b, nI b, 0, wr, bd, xx) := by
          rw [nI_1, nI_1]; exact h6
        rw [f_X12_token_163_s, see_lt hZ hE (by omega), bso, in48, bso, if_neg hc]
        by_cases h3 : 3 ≤ n
        · rw [if_pos (show (3 : Int32) ≤ nI n from nI_le (a := 3) h3 (by omega))]
          have ed : dv tb a (n + 1) = 1000 := if_pos h3
          rw [ed] at e
          exact e
        · rw [if_neg (show ¬ (3 : Int32) ≤ nI n from nI_ge (b := 3) (by omega) (by decide)), bso]
          have ed : dv tb a (n + 1) = ((10 * dv tb a n) + pc tb (a + n)) - 48 := if_neg h3
          rw [ed] at e
          exact e
/-- the same token, by both: from r on it is the n bytes from a on -/
def TKN (tb : Nat → Int8) (Z r : Nat) (kd so va si : Int32) (wo : Int64) (a n : Nat) : Prop := r ≤ a ∧ a + n ≤ Z ∧ ((kd = 0 ∧ so = 0 ∧ n = 0) ∨
  (kd = 1 ∧ so = 2 ∧ 0 < n ∧ (∀ j, j < n → let_ (pc tb (a + j)) ≠ 0) ∧ si = nI n ∧ wo = (if n ≤ 8 then pk tb a n else 0)) ∨
  (kd = 2 ∧ so = 3 ∧ 0 < n ∧ n ≤ 12 ∧ (∀ j, j < n → dig_ (pc tb (a + j)) ≠ 0) ∧ si = nI n ∧ va = dv tb a n) ∨
  (kd = 3 ∧ so = 4 ∧ 0 < n) ∨ (kd = 4 ∧ so = 1 ∧ 0 < n))
theorem pe_tok8 (hZ : Z ≤ 300) (hE : ∀ j, j < Z → tx j = tb j) (x y t u ra un be so va si : Int32) (wo : Int64) (wr bd xx : Int32) (m : Nat) : ∀ (k f g : Nat) (_ : k + m = Z) (_ : m ≤ f) (_ : m ≤ g), ∃ (a n : Nat) (kd so' va' si' : Int32) (wo' : Int64), TKN tb Z k kd so' va' si' wo' a n ∧
    f_X3_step_8 (nI Z) t u tb x y (f + 1) (nI k) = some (x, y, kd, nI a, nI (a + n)) ∧
    f_X12_token_0 ra un (nI Z) be so va si wo wr bd xx tx (g + 1) (nI k) = some (ra, un, nI (a + n), nI Z, nI a, so', va', si', wo', wr, bd, xx) := by
  induction m with
  | zero =>
    intro k f g h _ _
    refine ⟨k, 0, 0, 0, va, 0, 0, ⟨Nat.le_refl _, by omega, Or.inl ⟨rfl, rfl, rfl⟩⟩, ?_, ?_⟩
    · rw [f_X3_step_8_s, if_pos (nI_le (by omega) (by omega))]
      unfold f_X3_step_52
      rw [if_neg (nI_nlt (by omega) (by omega))]
      rfl
    · rw [f_X12_token_0_s, see_ge hZ (by omega) (by omega), bso, if_neg (show ¬ (-1 : Int32) = 10 by decide), see_ge hZ (by omega) (by omega), bso, if_neg (show ¬ (-1 : Int32) = 32 by decide), bso, if_neg (show ¬ (0 : Int32) ≤ -1 by decide)]
      rfl
  | succ m ih =>
    intro k f g h hf hg
    obtain ⟨f, rfl⟩ : ∃ q, f = q + 1 := ⟨f - 1, by omega⟩
    obtain ⟨g, rfl⟩ : ∃ q, g = q + 1 := ⟨g - 1, by omega⟩
    have c0 := pc_nn tb k
    rw [f_X3_step_8_s, if_neg (nI_ge (by omega) (by omega)), at_lt hZ (by omega), bso, f_X12_token_0_s, see_lt hZ hE (by omega), bso, see_lt hZ hE (by omega), bso, bso]
    have skip : ∃ (a n : Nat) (kd so' va' si' : Int32) (wo' : Int64), TKN tb Z k kd so' va' si' wo' a n ∧
        f_X3_step_8 (nI Z) t u tb x y (f + 1) (nI k + 1) = some (x, y, kd, nI a, nI (a + n)) ∧
        f_X12_token_0 ra un (nI Z) be so va si wo wr bd xx tx (g + 1) (nI k + 1) = some (ra, un, nI (a + n), nI Z, nI a, so', va', si', wo', wr, bd, xx) := by
      obtain ⟨a, n, kd, so', va', si', wo', h1, h2, h3⟩ := ih (k + 1) f g (by omega) (by omega) (by omega)
      refine ⟨a, n, kd, so', va', si', wo', ⟨by have := h1.1; omega, h1.2⟩, ?_, ?_⟩
      · rw [nI_1]; exact h2
      · rw [nI_1]; exact h3
    unfold f_X3_isBlank
    by_cases c10 : pc tb k = 10
    · rw [c10, if_neg (show ¬ (10 : Int32) = 32 by decide), if_pos rfl, bso, if_neg (show ¬ (1 : Int32) = 0 by decide), if_pos rfl]
      exact skip
    by_cases c32 : pc tb k = 32
    · rw [c32, if_pos rfl, bso, if_neg (show ¬ (1 : Int32) = 0 by decide), if_neg (show ¬ (32 : Int32) = 10 by decide), if_pos rfl]
      exact skip
    rw [if_neg c32, if_neg c10, bso, if_pos rfl, if_neg c10, if_neg c32, if_pos c0]
    unfold f_X3_step_52
    rw [if_pos (nI_lt (by omega) (by omega)), at_lt hZ (by omega), bso, letter_v, bso, in97, bso]
    by_cases cl : let_ (pc tb k) = 0
    · rw [if_pos cl, bso, bso, if_pos cl, digit_v, bso, in48, bso]
      by_cases cd : dig_ (pc tb k) = 0
      · rw [if_pos cd, if_pos cd]
        unfold f_X3_step_257 f_X12_token_263 f_X12_token_266
        by_cases c59 : pc tb k = 59
        · rw [if_pos c59, if_pos c59, nI_1]
          exact ⟨k, 1, 3, 4, va, 0, 0, ⟨Nat.le_refl _, by omega, Or.inr (Or.inr (Or.inr (Or.inl ⟨rfl, rfl, by omega⟩)))⟩, rfl, rfl⟩
        · rw [if_neg c59, if_neg c59, nI_1]
          exact ⟨k, 1, 4, 1, va, 0, 0, ⟨Nat.le_refl _, by omega, Or.inr (Or.inr (Or.inr (Or.inr ⟨rfl, rfl, by omega⟩)))⟩, rfl, rfl⟩
      · rw [if_neg cd, if_neg cd]
        obtain ⟨b, h1, h2, h3, h4, h5, h6⟩ := pe_num hZ hE (a := k) x y t u ra un so si wr bd xx (m + 1) 0 65535 65535 (by omega) (by omega) (by omega)
        have hb : 0 < b := by
          rcases Nat.eq_zero_or_pos b with e | e
          · subst e
            rcases h4 with h4 | h4
            · omega
            · exact absurd h4 cd
          · exact e
        by_cases hb12 : b ≤ 12
        · rw [if_pos hb12] at h5 h6
          exact ⟨k, b, 2, 3, dv tb k b, nI b, 0, ⟨Nat.le_refl _, h2, Or.inr (Or.inr (Or.inl ⟨rfl, rfl, hb, hb12, fun j hj => h3 j (by omega) hj, rfl, rfl⟩))⟩, h5, h6⟩
        · rw [if_neg hb12] at h5 h6
          exact ⟨k, b, 4, 1, dv tb k b, nI b, 0, ⟨Nat.le_refl _, h2, Or.inr (Or.inr (Or.inr (Or.inr ⟨rfl, rfl, hb⟩)))⟩, h5, h6⟩
    · rw [if_neg cl, bso, if_neg cl]
      obtain ⟨b, h1, h2, h3, h4, h5, h6⟩ := pe_word hZ hE (a := k) x y t u ra un so va si wr bd xx (m + 1) 0 65535 65535 (by omega) (by omega) (by omega)
      have hb : 0 < b := by
        rcases Nat.eq_zero_or_pos b with e | e
        · subst e
          rcases h4 with h4 | h4
          · omega
          · exact absurd h4 cl
        · exact e
      exact ⟨k, b, 1, 2, va, nI b, _, ⟨Nat.le_refl _, h2, Or.inr (Or.inl ⟨rfl, rfl, hb, fun j hj => h3 j (by omega) hj, rfl, rfl⟩)⟩, h5, h6⟩
theorem pe_tok (hZ : Z ≤ 300) (hE : ∀ j, j < Z → tx j = tb j) {k : Nat} (hk : k ≤ Z) (x y k0 s0 t u ra un be so va si : Int32) (wo : Int64) (wr bd xx : Int32) : ∃ (a n : Nat) (kd so' va' si' : Int32) (wo' : Int64), TKN tb Z k kd so' va' si' wo' a n ∧
    f_X3_step (x, y, k0, s0, nI k) (nI Z, t, u) tb = some (x, y, kd, nI a, nI (a + n)) ∧
    f_X12_token (ra, un, nI k, nI Z, be, so, va, si, wo, wr, bd, xx) tx = some (ra, un, nI (a + n), nI Z, nI a, so', va', si', wo', wr, bd, xx) :=
  pe_tok8 hZ hE x y t u ra un be so va si wo wr bd xx (Z - k) k 65535 65535 (by omega) (by omega) (by omega)
end TOK
/-! The words that the reader knows. -/
def PN (f : Nat → Nat) : Nat → Nat
  | 0 => 0
  | n + 1 => PN f n * 256 + f n
def PI_ (f : Nat → Nat) : Nat → Int64
  | 0 => 0
  | n + 1 => (PI_ f n <<< ((8 : Int32).toInt64 &&& 63)) ||| (nI (f n)).toInt64
theorem PI_s (x : Int64) (q : Nat) (hq : q < 256) (hx : x.toBitVec.toNat < 2 ^ 56) : ((x <<< ((8 : Int32).toInt64 &&& 63)) ||| (nI q).toInt64).toBitVec.toNat = x.toBitVec.toNat * 256 + q := by
  have e1 : ((x <<< ((8 : Int32).toInt64 &&& 63)) ||| (nI q).toInt64).toBitVec = (x.toBitVec <<< (8 : Nat)) ||| (nI q).toInt64.toBitVec := by
    show (x.toBitVec <<< ((((8 : Int32).toInt64 &&& 63).toBitVec.smod 64) : BitVec 64)) ||| _ = _
    rw [show ((((8 : Int32).toInt64 &&& 63).toBitVec.smod 64) : BitVec 64) = 8#64 by decide]
    rfl
  have e2 : (nI q).toInt64.toBitVec = BitVec.ofNat 64 q := by
    rw [nI_l (by omega)]
    rfl
  rw [e1, e2, BitVec.toNat_or, BitVec.toNat_shiftLeft, BitVec.toNat_ofNat, Nat.mod_eq_of_lt (show q < 2 ^ 64 by omega), Nat.mod_eq_of_lt (show x.toBitVec.toNat <<< 8 < 2 ^ 64 by rw [Nat.shiftLeft_eq]; omega), ← Nat.shiftLeft_add_eq_or_of_lt (show q < 2 ^ 8 by omega), Nat.shiftLeft_eq]
theorem PI_N {f : Nat → Nat} (n : Nat) : n ≤ 8 → (∀ j, j < n → f j < 256) → (PI_ f n).toBitVec.toNat = PN f n ∧ PN f n < 256 ^ n := by
  induction n with
  | zero => intro _ _; exact ⟨rfl, Nat.zero_lt_one⟩
  | succ n ih =>
    intro h hf
    obtain ⟨e, l⟩ := ih (by omega) (fun j hj => hf j (by omega))
    have hq := hf n (by omega)
    have hl : PN f n < 2 ^ 56 := Nat.lt_of_lt_of_le l (by
      rw [show (2 : Nat) ^ 56 = 256 ^ 7 by decide]
      exact Nat.pow_le_pow_right (by decide) (by omega))
    refine ⟨?_, ?_⟩
    · show ((PI_ f n <<< ((8 : Int32).toInt64 &&& 63)) ||| (nI (f n)).toInt64).toBitVec.toNat = PN f n * 256 + f n
      rw [PI_s _ _ hq (by rw [e]; exact hl), e]
    · show PN f n * 256 + f n < 256 ^ (n + 1)
      rw [Nat.pow_succ]
      omega
theorem PN_inj {f g : Nat → Nat} (n : Nat) : ∀ m : Nat, (∀ j, j < n → 0 < f j ∧ f j < 256) → (∀ j, j < m → 0 < g j ∧ g j < 256) → PN f n = PN g m → n = m ∧ ∀ j, j < n → f j = g j := by
  induction n with
  | zero =>
    intro m _ hg e
    cases m with
    | zero => exact ⟨rfl, fun j hj => absurd hj (by omega)⟩
    | succ m =>
      have e : 0 = PN g m * 256 + g m := e
      have := hg m (by omega)
      omega
  | succ n ih =>
    intro m hf hg e
    cases m with
    | zero =>
      have e : PN f n * 256 + f n = 0 := e
      have := hf n (by omega)
      omega
    | succ m =>
      have e : PN f n * 256 + f n = PN g m * 256 + g m := e
      have h1 := hf n (by omega)
      have h2 := hg m (by omega)
      obtain ⟨e1, e2⟩ := ih m (fun j hj => hf j (by omega)) (fun j hj => hg j (by omega)) (by omega)
      subst e1
      refine ⟨rfl, fun j hj => ?_⟩
      rcases Nat.lt_or_ge j n with h | h
      · exact e2 j h
      · have : j = n := by omega
        subst this
        omega
theorem PI_inj {f g : Nat → Nat} {n m : Nat} (hn : n ≤ 8) (hm : m ≤ 8) (hf : ∀ j, j < n → 0 < f j ∧ f j < 256) (hg : ∀ j, j < m → 0 < g j ∧ g j < 256) (e : PI_ f n = PI_ g m) : n = m ∧ ∀ j, j < n → f j = g j :=
  PN_inj n m hf hg (by rw [← (PI_N n hn (fun j hj => (hf j hj).2)).1, ← (PI_N m hm (fun j hj => (hg j hj).2)).1, e])
/-- the bytes as naturals -/
def cN (tb : Nat → Int8) (j : Nat) : Nat := (pc tb j).toNatClampNeg
theorem cN_is (tb : Nat → Int8) (j : Nat) : pc tb j = nI (cN tb j) ∧ cN tb j < 256 := by
  obtain ⟨q, hq, e⟩ := pc_lt tb j
  unfold cN
  rw [e, nI_clamp (by omega)]
  exact ⟨rfl, hq⟩
theorem pk_PI (tb : Nat → Int8) (a n : Nat) : pk tb a n = PI_ (fun j => cN tb (a + j)) n := by
  induction n with
  | zero => rfl
  | succ n ih =>
    show (pk tb a n <<< ((8 : Int32).toInt64 &&& 63)) ||| (pc tb (a + n)).toInt64 = (PI_ (fun j => cN tb (a + j)) n <<< ((8 : Int32).toInt64 &&& 63)) ||| (nI (cN tb (a + n))).toInt64
    rw [ih, ← (cN_is tb (a + n)).1]
def WK (w : Nat) : Int64 := [491495646579, 513021013607, 119182899770472, 1886350457, 512869299304, 126943922775406, 465557353332, 431416239732, 7102823].getD w 0
def wN (w j : Nat) : Nat := (sx_c w j).toNatClampNeg
theorem WK_is : ∀ w : Nat, w < 9 → WK w = PI_ (wN w) (sx_z w) := by decide +kernel
theorem WK_ne : ∀ w : Nat, w < 9 → WK w ≠ 0 := by decide +kernel
theorem WK_inj : ∀ w : Nat, w < 9 → ∀ v : Nat, v < 9 → WK w = WK v → w = v := by decide +kernel
theorem wN_is : ∀ w : Nat, w < 9 → ∀ j : Nat, j < sx_z w → sx_c w j = nI (wN w j) ∧ 0 < wN w j ∧ wN w j < 256 := by decide +kernel
theorem let_pos {tb : Nat → Int8} {j : Nat} (h : let_ (pc tb j) ≠ 0) : 0 < cN tb j ∧ cN tb j < 256 := by
  obtain ⟨e, l⟩ := cN_is tb j
  refine ⟨?_, l⟩
  rcases Nat.eq_zero_or_pos (cN tb j) with z | z
  · rw [e, z] at h
    exact absurd (by decide) h
  · exact z
theorem pe_pack1 {tb : Nat → Int8} {a n w : Nat} (hw : w < 9) (hl : ∀ j, j < n → let_ (pc tb (a + j)) ≠ 0) (e : (if n ≤ 8 then pk tb a n else 0) = WK w) : n = sx_z w ∧ ∀ j, j < sx_z w → pc tb (a + j) = sx_c w j := by
  have h6 := sx_z6 w hw
  by_cases h : n ≤ 8
  · rw [if_pos h, pk_PI, WK_is w hw] at e
    obtain ⟨e1, e2⟩ := PI_inj h (by omega) (fun j hj => let_pos (hl j hj)) (fun j hj => (wN_is w hw j hj).2) e
    refine ⟨e1, fun j hj => ?_⟩
    rw [(cN_is tb (a + j)).1, (wN_is w hw j hj).1]
    exact congrArg nI (e2 j (by omega))
  · rw [if_neg h] at e
    exact absurd e.symm (WK_ne w hw)
theorem pe_pack2 {f g : Nat → Nat} (m : Nat) (h : ∀ j, j < m → nI (f j) = nI (g j)) : ∀ k, k ≤ m → PI_ f k = PI_ g k := by
  intro k
  induction k with
  | zero => intro _; rfl
  | succ k ih =>
    intro hk
    show (PI_ f k <<< ((8 : Int32).toInt64 &&& 63)) ||| (nI (f k)).toInt64 = (PI_ g k <<< ((8 : Int32).toInt64 &&& 63)) ||| (nI (g k)).toInt64
    rw [ih (by omega), h k (by omega)]
theorem pe_pack3 {tb : Nat → Int8} {a n w : Nat} (hw : w < 9) (e1 : n = sx_z w) (e2 : ∀ j, j < sx_z w → pc tb (a + j) = sx_c w j) : (if n ≤ 8 then pk tb a n else 0) = WK w := by
  have h6 := sx_z6 w hw
  rw [if_pos (show n ≤ 8 by omega), pk_PI, WK_is w hw, e1]
  exact pe_pack2 (sx_z w) (fun j hj => ((cN_is tb (a + j)).1.symm.trans (e2 j hj)).trans (wN_is w hw j hj).1) _ (Nat.le_refl _)
/-- what a word's token bears, and which word it is -/
theorem pe_pack {tb : Nat → Int8} {a n w : Nat} (hw : w < 9) (hl : ∀ j, j < n → let_ (pc tb (a + j)) ≠ 0) : ((if n ≤ 8 then pk tb a n else 0) = WK w) ↔ (n = sx_z w ∧ ∀ j, j < sx_z w → pc tb (a + j) = sx_c w j) := ⟨pe_pack1 hw hl, fun h => pe_pack3 hw h.1 h.2⟩
theorem pe_iw28 {Z : Nat} (hZ : Z ≤ 300) {tb : Nat → Int8} {a w : Nat} (hw : w < 9) (ha : a + sx_z w ≤ Z) (t u : Int32) (m : Nat) : ∀ (k f : Nat) (_ : k + m = sx_z w) (_ : m ≤ f), ∃ v, f_X3_isWord_28 w (nI a) (nI Z, t, u) tb (f + 1) (nI k) = some v ∧ ((v = 1 ∧ ∀ j, k ≤ j → j < sx_z w → pc tb (a + j) = sx_c w j) ∨ (v = 0 ∧ ∃ j, k ≤ j ∧ j < sx_z w ∧ pc tb (a + j) ≠ sx_c w j)) := by
  have hz := sx_zl w hw
  induction m with
  | zero =>
    intro k f h _
    rw [f_X3_isWord_28_s, if_pos (show sx_l w ≤ nI k from nI_le (a := sx_z w) (by omega) (by omega))]
    exact ⟨1, rfl, Or.inl ⟨rfl, fun j h1 h2 => absurd h2 (by omega)⟩⟩
  | succ m ih =>
    intro k f h hf
    obtain ⟨f, rfl⟩ : ∃ q, f = q + 1 := ⟨f - 1, by omega⟩
    rw [f_X3_isWord_28_s, if_neg (show ¬ sx_l w ≤ nI k from nI_ge (b := sx_z w) (by omega) (by omega)), nI_add, at_lt hZ (by omega), bso, m_inI (nI_in (by omega) hz), nI_clamp (by omega)]
    by_cases hc : pc tb (a + k) = sx_c w k
    · rw [if_pos hc, nI_1]
      obtain ⟨v, e, hv⟩ := ih (k + 1) f (by omega) (by omega)
      refine ⟨v, e, ?_⟩
      rcases hv with ⟨h1, h2⟩ | ⟨h1, j, h2, h3, h4⟩
      · refine Or.inl ⟨h1, fun j j1 j2 => ?_⟩
        rcases Nat.eq_or_lt_of_le j1 with q | q
        · subst q; exact hc
        · exact h2 j q j2
      · exact Or.inr ⟨h1, j, by omega, h3, h4⟩
    · rw [if_neg hc]
      exact ⟨0, rfl, Or.inr ⟨rfl, k, Nat.le_refl _, by omega, hc⟩⟩
theorem pe_isw {Z : Nat} (hZ : Z ≤ 300) {tb : Nat → Int8} {a n w : Nat} (hw : w < 9) (ha : a + n ≤ Z) (hl : ∀ j, j < n → let_ (pc tb (a + j)) ≠ 0) (x y t u : Int32) : f_X3_isWord w (x, y, 1, nI a, nI (a + n)) (nI Z, t, u) tb = some (if (if n ≤ 8 then pk tb a n else 0) = WK w then 1 else 0) := by
  have h6 := sx_z6 w hw
  have hp := pe_pack (tb := tb) (a := a) (n := n) hw hl
  unfold f_X3_isWord
  simp only []
  rw [if_pos True.intro, pk_sub (by omega), show a + n - a = n by omega]
  by_cases hn : n = sx_z w
  · rw [if_pos (show nI n = sx_l w by rw [hn]; rfl)]
    obtain ⟨v, e, hv⟩ := pe_iw28 hZ hw (show a + sx_z w ≤ Z by omega) t u (sx_z w) 0 65535 (by omega) (by omega)
    rw [show (0 : Int32) = nI 0 from rfl, e]
    rcases hv with ⟨h1, h2⟩ | ⟨h1, j, h2, h3, h4⟩
    · rw [if_pos (hp.mpr ⟨hn, fun j hj => h2 j (by omega) hj⟩), h1]
    · rw [if_neg (fun q => h4 ((hp.mp q).2 j h3)), h1]
      rfl
  · rw [if_neg (show ¬ nI n = sx_l w from fun q => hn ((nI_eq (by omega) (sx_zl w hw)).mp q)), if_neg (fun q => hn (hp.mp q).1)]
theorem pe_iswN (w : Nat) {kd : Int32} (h : kd ≠ 1) (x y a b : Int32) (s : SX8) (tb : Nat → Int8) : f_X3_isWord w (x, y, kd, a, b) s tb = some 0 := by
  unfold f_X3_isWord
  simp only []
  rw [if_neg h]
/-! Numbers: the class's readNumber beside the reference's takes. -/
def FL (fl fp bd : Int32) (h : Nat) : Prop := (fl = 0 ∧ bd = -1 ∧ fp = -1) ∨ (fl = 2 ∧ ∃ q : Nat, q ≤ h ∧ bd = nI q ∧ fp = nI q)
theorem FL.mono {fl fp bd : Int32} {h h' : Nat} (q : FL fl fp bd h) (e : h ≤ h') : FL fl fp bd h' := by
  rcases q with q | ⟨q, r, r1, r2⟩
  · exact Or.inl q
  · exact Or.inr ⟨q, r, by omega, r2⟩
theorem FL.ne1 {fl fp bd : Int32} {h : Nat} (q : FL fl fp bd h) : ¬ fl = 1 := by
  rcases q with ⟨q, _⟩ | ⟨q, _⟩
  · rw [q]; decide
  · rw [q]; decide
/-- a flaw is noted at h: by both alike -/
theorem pe_bad {fl fp bd : Int32} {h : Nat} (hh : h ≤ 300) (q : FL fl fp bd h) (kd s e ra un re le be so va si : Int32) (wo : Int64) (wr xx : Int32) : ∃ fl' fp' bd', FL fl' fp' bd' h ∧ fl' = 2 ∧ f_X3_impossible (nI h) (fl, fp, kd, s, e) = some (fl', fp', kd, s, e) ∧
    f_X12_isBad (nI h) (ra, un, re, le, be, so, va, si, wo, wr, bd, xx) = some (ra, un, re, le, be, so, va, si, wo, wr, bd', xx) := by
  unfold f_X3_impossible f_X12_isBad f_X12_isBad_17
  simp only []
  rcases q with ⟨rfl, rfl, rfl⟩ | ⟨rfl, r, hr, rfl, rfl⟩
  · exact ⟨2, nI h, nI h, Or.inr ⟨rfl, h, Nat.le_refl _, rfl, rfl⟩, rfl, if_pos rfl, if_pos rfl⟩
  · refine ⟨2, nI r, nI r, Or.inr ⟨rfl, r, hr, rfl, rfl⟩, rfl, if_neg (by decide), ?_⟩
    rw [if_neg (fun q => nI_pos (show r < 2 ^ 31 by omega) (by rw [q]; decide)), if_pos (nI_le hr (by omega))]
theorem dv_big {tb : Nat → Int8} {a n : Nat} (h : 3 < n) : dv tb a n = 1000 := by
  obtain ⟨k, rfl⟩ : ∃ k, n = k + 1 := ⟨n - 1, by omega⟩
  exact if_pos (show 3 ≤ k by omega)
theorem cl_val {Z : Nat} (hZ : Z ≤ 300) {tb : Nat → Int8} {a n : Nat} (ha : a + n ≤ Z) (hn : n ≤ 3) (fl fp kd lo hi t u : Int32) (m : Nat) : ∀ (i f : Nat) (_ : i + m = n) (_ : m ≤ f), f_X3_readNumber_52 1 (nI a) fl fp kd (nI (a + n)) (nI Z, t, u) tb lo hi (f + 1) (dv tb a i) (nI (a + i)) = f_X3_readNumber_90 1 (nI a) fl fp kd (nI (a + n)) (nI Z, t, u) tb lo (dv tb a n) hi := by
  induction m with
  | zero =>
    intro i f h _
    have e : i = n := by omega
    subst e
    rw [f_X3_readNumber_52_s, if_neg (show ¬ (1 : Int32) = 0 by decide), if_pos (nI_le (by omega) (by omega))]
  | succ m ih =>
    intro i f h hf
    obtain ⟨f, rfl⟩ : ∃ q, f = q + 1 := ⟨f - 1, by omega⟩
    rw [f_X3_readNumber_52_s, if_neg (show ¬ (1 : Int32) = 0 by decide), if_neg (nI_ge (by omega) (by omega)), at_lt hZ (by omega), bso, nI_1]
    have e : ((dv tb a i * 10) + pc tb (a + i)) - 48 = dv tb a (i + 1) := by
      show _ = (if 3 ≤ i then 1000 else ((10 * dv tb a i) + pc tb (a + i)) - 48)
      rw [if_neg (by omega), Int32.mul_comm]
    rw [e]
    exact ih (i + 1) f (by omega) (by omega)
/-- the class's number: it can be, or not -/
theorem cl_num {Z : Nat} (hZ : Z ≤ 300) {tb : Nat → Int8} {a n : Nat} (ha : a + n ≤ Z) (hn : n ≤ 12) (fl fp lo hi t u : Int32) (hf : ¬ fl = 1) : f_X3_readNumber lo hi (fl, fp, 2, nI a, nI (a + n)) (nI Z, t, u) tb = (if n ≤ 3 ∧ ¬ dv tb a n < lo ∧ dv tb a n ≤ hi then f_X3_readNumber_115 (nI Z, t, u) tb (dv tb a n) fl fp 2 (nI a) (nI (a + n)) else f_X3_readNumber_105 (nI a) fl fp 2 (nI (a + n)) (nI Z, t, u) tb lo) := by
  unfold f_X3_readNumber f_X3_readNumber_44
  simp only []
  rw [if_neg hf, if_pos True.intro, pk_sub (by omega), show a + n - a = n by omega]
  by_cases h3 : n ≤ 3
  · rw [if_neg (show ¬ (3 : Int32) < nI n from nI_nlt (b := n) (a := 3) h3 (by decide))]
    refine Eq.trans (cl_val (tb := tb) hZ ha h3 fl fp 2 lo hi t u n 0 65535 (by omega) (by omega)) ?_
    unfold f_X3_readNumber_90
    rw [if_neg (show ¬ (1 : Int32) = 0 by decide)]
    by_cases h1 : dv tb a n < lo
    · rw [if_pos h1, if_neg (fun q => q.2.1 h1)]
    · rw [if_neg h1]
      by_cases h2 : dv tb a n ≤ hi
      · rw [if_pos h2, if_pos ⟨h3, h1, h2⟩]
      · rw [if_neg h2, if_neg (fun q => h2 q.2.2)]
  · rw [if_pos (show (3 : Int32) < nI n from nI_lt (a := 3) (by omega) (by omega)), if_neg (fun q => h3 q.1)]
    rw [f_X3_readNumber_52_s, if_pos rfl]
    unfold f_X3_readNumber_90
    rw [if_pos rfl]
/-- both dead, at h -/
def DD (h : Nat) (s : SX3) (r : Int32) (q : SX12) : Prop := s.1 = 1 ∧ s.2.1 = nI h ∧ r = 0 ∧ q.2.2.2.2.2.2.2.2.2.1 = nI h
/-- both alive behind a token -/
def AL (tb : Nat → Int8) (Z r h : Nat) (ra un wr xx : Int32) (s : SX3) (q : SX12) : Prop := ∃ (a n : Nat) (kd so va si : Int32) (wo : Int64) (fl fp bd : Int32), TKN tb Z r kd so va si wo a n ∧ s = (fl, fp, kd, nI a, nI (a + n)) ∧ q = (ra, un, nI (a + n), nI Z, nI a, so, va, si, wo, wr, bd, xx) ∧ FL fl fp bd h
theorem pe_takes {Z : Nat} (hZ : Z ≤ 300) {tb tx : Nat → Int8} (hE : ∀ j, j < Z → tx j = tb j) {r a n wh : Nat} {kd so va si : Int32} {wo : Int64} {fl fp bd : Int32} (hT : TKN tb Z r kd so va si wo a n) (hF : FL fl fp bd a) (hw : wh < 21) {lo lo' hi : Int32} (hlo : fl = 0 → lo = lo') (hhi : hi < 1000) (t u ra un wr xx : Int32) (tl : Nat → Int32) :
    ∃ v s' rr q' tl', f_X3_readNumber lo hi (fl, fp, kd, nI a, nI (a + n)) (nI Z, t, u) tb = some (v, s') ∧ f_X12_takes (nI wh) lo' hi (ra, un, nI (a + n), nI Z, nI a, so, va, si, wo, wr, bd, xx) tx tl = some (rr, q', tl') ∧
      ((DD a s' rr q' ∧ v = lo) ∨ (rr = 1 ∧ 0 < n ∧ AL tb Z (a + n) a ra un wr xx s' q' ∧ tl' = upd tl wh va ∧ (s'.1 = 0 → fl = 0 ∧ v = va ∧ lo ≤ v ∧ v ≤ hi))) := by
  have hf := hF.ne1
  obtain ⟨hr, hn, hd⟩ := hT
  have dead : kd ≠ 2 → so ≠ 3 → ∃ v s' rr q' tl', f_X3_readNumber lo hi (fl, fp, kd, nI a, nI (a + n)) (nI Z, t, u) tb = some (v, s') ∧ f_X12_takes (nI wh) lo' hi (ra, un, nI (a + n), nI Z, nI a, so, va, si, wo, wr, bd, xx) tx tl = some (rr, q', tl') ∧
      ((DD a s' rr q' ∧ v = lo) ∨ (rr = 1 ∧ 0 < n ∧ AL tb Z (a + n) a ra un wr xx s' q' ∧ tl' = upd tl wh va ∧ (s'.1 = 0 → fl = 0 ∧ v = va ∧ lo ≤ v ∧ v ≤ hi))) := by
    intro h1 h2
    unfold f_X3_readNumber f_X12_takes
    simp only []
    rw [if_neg hf, if_neg h1, if_neg h2]
    rw [show f_X12_fails (ra, un, nI (a + n), nI Z, nI a, so, va, si, wo, wr, bd, xx) = some (0, (ra, un, nI (a + n), nI Z, nI a, so, va, si, wo, nI a, bd, xx)) from rfl, bso]
    exact ⟨lo, _, 0, (ra, un, nI (a + n), nI Z, nI a, so, va, si, wo, nI a, bd, xx), tl, rfl, m_gI (show (0 : Int32) &&& 1 = 0 by decide), Or.inl ⟨⟨rfl, rfl, rfl, rfl⟩, rfl⟩⟩
  rcases hd with ⟨h1, h2, h3⟩ | ⟨h1, h2, h3⟩ | ⟨rfl, rfl, h3, h4, h5, h6, h7⟩ | ⟨h1, h2, h3⟩ | ⟨h1, h2, h3⟩
  · exact dead (by rw [h1]; decide) (by rw [h2]; decide)
  · exact dead (by rw [h1]; decide) (by rw [h2]; decide)
  · rw [cl_num hZ hn h4 fl fp lo hi t u hf]
    unfold f_X12_takes
    simp only []
    rw [if_pos True.intro, in_val, bso]
    -- the class's two ways, the reference's two ways
    have good : ∀ fl' fp' v, f_X3_readNumber_115 (nI Z, t, u) tb v fl' fp' 2 (nI a) (nI (a + n)) = Option.bind (f_X3_step (fl', fp', 2, nI a, nI (a + n)) (nI Z, t, u) tb) (fun z => match z with | (z1, z2, z3, z4, z5) => some (v, (z1, z2, z3, z4, z5))) := fun _ _ _ => rfl
    have fin : ∀ (fl' fp' bd' v : Int32), FL fl' fp' bd' a → (fl' = 0 → fl = 0 ∧ v = va ∧ lo ≤ v ∧ v ≤ hi) →
        ∃ s' rr q' tl', f_X3_readNumber_115 (nI Z, t, u) tb v fl' fp' 2 (nI a) (nI (a + n)) = some (v, s') ∧ f_X12_takes_33 (nI wh) tx tl ra un (nI (a + n)) (nI Z) (nI a) 3 va si wo wr bd' xx = some (rr, q', tl') ∧
          (rr = 1 ∧ 0 < n ∧ AL tb Z (a + n) a ra un wr xx s' q' ∧ tl' = upd tl wh va ∧ (s'.1 = 0 → fl = 0 ∧ v = va ∧ lo ≤ v ∧ v ≤ hi)) := by
      intro fl' fp' bd' v hF' hv
      obtain ⟨a', n', kd', so', va', si', wo', e1, e2, e3⟩ := pe_tok hZ hE hn fl' fp' 2 (nI a) t u ra un (nI a) 3 va si wo wr bd' xx
      unfold f_X3_readNumber_115 f_X12_takes_33
      rw [e2, bso, m_inI (nI_in (by omega) (by decide)), e3, bso, nI_clamp (by omega)]
      exact ⟨_, 1, _, _, rfl, rfl, rfl, h3, ⟨a', n', kd', so', va', si', wo', fl', fp', bd', e1, rfl, rfl, hF'⟩, rfl, hv⟩
    have bad : ∃ v s' rr q' tl', f_X3_readNumber_105 (nI a) fl fp 2 (nI (a + n)) (nI Z, t, u) tb lo = some (v, s') ∧ Option.bind (f_X12_isBad (nI a) (ra, un, nI (a + n), nI Z, nI a, 3, va, si, wo, wr, bd, xx)) (fun z => match z with | (z1, z2, z3, z4, z5, z6, z7, z8, z9, z10, z11, z12) => f_X12_takes_33 (nI wh) tx tl z1 z2 z3 z4 z5 z6 z7 z8 z9 z10 z11 z12) = some (rr, q', tl') ∧
          ((DD a s' rr q' ∧ v = lo) ∨ (rr = 1 ∧ 0 < n ∧ AL tb Z (a + n) a ra un wr xx s' q' ∧ tl' = upd tl wh va ∧ (s'.1 = 0 → fl = 0 ∧ v = va ∧ lo ≤ v ∧ v ≤ hi))) := by
      obtain ⟨fl', fp', bd', b1, b2, b3, b4⟩ := pe_bad (by omega) hF 2 (nI a) (nI (a + n)) ra un (nI (a + n)) (nI Z) (nI a) 3 va si wo wr xx
      unfold f_X3_readNumber_105
      rw [b3, bso, b4, bso]
      obtain ⟨s', rr, q', tl', f1, f2, f3⟩ := fin fl' fp' bd' lo b1 (fun q => by rw [b2] at q; exact absurd q (by decide))
      exact ⟨lo, s', rr, q', tl', f1, f2, Or.inr f3⟩
    subst h7
    by_cases hg : n ≤ 3 ∧ ¬ dv tb a n < lo ∧ dv tb a n ≤ hi
    · rw [if_pos hg]
      by_cases hr : dv tb a n < lo' ∨ hi < dv tb a n
      · -- the reference alone notes: there is a flaw already
        have h2 : fl ≠ 0 := fun q => by
          rcases hr with hr | hr
          · rw [← hlo q] at hr; exact hg.2.1 hr
          · exact absurd hr (Int32.not_lt.mpr hg.2.2)
        have hB : (if dv tb a n < lo' then (0 : Int32) else if hi < dv tb a n then 0 else 1) = 0 := by
          by_cases q : dv tb a n < lo'
          · rw [if_pos q]
          · rw [if_neg q, if_pos (hr.resolve_left q)]
        rw [if_pos hB]
        obtain ⟨fl', fp', bd', b1, b2, b3, b4⟩ := pe_bad (by omega) hF 2 (nI a) (nI (a + n)) ra un (nI (a + n)) (nI Z) (nI a) 3 (dv tb a n) si wo wr xx
        have ee : fl' = fl ∧ fp' = fp := by
          unfold f_X3_impossible at b3
          simp only [] at b3
          rw [if_neg h2] at b3
          cases b3
          exact ⟨rfl, rfl⟩
        rw [b4, bso]
        obtain ⟨s', rr, q', tl', f1, f2, f3⟩ := fin fl' fp' bd' (dv tb a n) b1 (fun q => by rw [b2] at q; exact absurd q (by decide))
        rw [ee.1, ee.2] at f1
        exact ⟨_, s', rr, q', tl', f1, f2, Or.inr f3⟩
      · have hB : ¬ (if dv tb a n < lo' then (0 : Int32) else if hi < dv tb a n then 0 else 1) = 0 := by
          rw [if_neg (fun q => hr (Or.inl q)), if_neg (fun q => hr (Or.inr q))]
          decide
        rw [if_neg hB]
        obtain ⟨s', rr, q', tl', f1, f2, f3⟩ := fin fl fp bd (dv tb a n) hF (fun q => ⟨q, rfl, Int32.not_lt.mp hg.2.1, hg.2.2⟩)
        exact ⟨_, s', rr, q', tl', f1, f2, Or.inr f3⟩
    · rw [if_neg hg]
      by_cases hr : dv tb a n < lo' ∨ hi < dv tb a n
      · have hB : (if dv tb a n < lo' then (0 : Int32) else if hi < dv tb a n then 0 else 1) = 0 := by
          by_cases q : dv tb a n < lo'
          · rw [if_pos q]
          · rw [if_neg q, if_pos (hr.resolve_left q)]
        rw [if_pos hB]
        exact bad
      · -- the class alone notes: there is a flaw already
        have h2 : fl ≠ 0 := fun q => by
          apply hg
          have k1 : ¬ dv tb a n < lo := fun z => hr (Or.inl (by rw [← hlo q]; exact z))
          have k2 : dv tb a n ≤ hi := Int32.not_lt.mp (fun z => hr (Or.inr z))
          refine ⟨?_, k1, k2⟩
          rcases Nat.lt_or_ge 3 n with z | z
          · rw [dv_big z] at k2
            exact absurd (Int32.lt_of_le_of_lt k2 hhi) (by decide)
          · exact z
        have hB : ¬ (if dv tb a n < lo' then (0 : Int32) else if hi < dv tb a n then 0 else 1) = 0 := by
          rw [if_neg (fun q => hr (Or.inl q)), if_neg (fun q => hr (Or.inr q))]
          decide
        rw [if_neg hB]
        unfold f_X3_readNumber_105 f_X3_impossible
        simp only []
        rw [if_neg h2, bso]
        obtain ⟨s', rr, q', tl', f1, f2, f3⟩ := fin fl fp bd lo hF (fun q => absurd q h2)
        exact ⟨_, s', rr, q', tl', f1, f2, Or.inr f3⟩
  · exact dead (by rw [h1]; decide) (by rw [h2]; decide)
  · exact dead (by rw [h1]; decide) (by rw [h2]; decide)
/-! Rows of roles: the class's readRow beside the reference's rolesLine. -/
def rv (c : Int32) : Int32 := if c = 48 then 0 else if c = 49 then 1 else if c = 99 then 2 else if c = 100 then 3 else -1
theorem roleOf_v (c : Int32) : f_X3_roleOf c = some (rv c) := by
  unfold f_X3_roleOf rv
  by_cases h1 : c = 48
  · rw [if_pos h1, if_pos h1]
  rw [if_neg h1, if_neg h1]
  by_cases h2 : c = 49
  · rw [if_pos h2, if_pos h2]
  rw [if_neg h2, if_neg h2]
  by_cases h3 : c = 99
  · rw [if_pos h3, if_pos h3]
  rw [if_neg h3, if_neg h3]
  by_cases h4 : c = 100
  · rw [if_pos h4, if_pos h4]
  rw [if_neg h4, if_neg h4]
def cf (ro : Nat → Int32) : Nat → Nat
  | 0 => 0
  | n + 1 => cf ro n + (if 2 ≤ ro n then 0 else 1)
def cg (ro : Nat → Int32) : Nat → Nat
  | 0 => 0
  | n + 1 => cg ro n + (if ro n = 2 then 1 else 0)
theorem cf_c {r r' : Nat → Int32} (n : Nat) : (∀ j, j < n → r j = r' j) → cf r n = cf r' n := by
  induction n with
  | zero => intro _; rfl
  | succ n ih =>
    intro h
    show cf r n + (if 2 ≤ r n then 0 else 1) = cf r' n + (if 2 ≤ r' n then 0 else 1)
    rw [ih (fun j hj => h j (by omega)), h n (by omega)]
theorem cg_c {r r' : Nat → Int32} (n : Nat) : (∀ j, j < n → r j = r' j) → cg r n = cg r' n := by
  induction n with
  | zero => intro _; rfl
  | succ n ih =>
    intro h
    show cg r n + (if r n = 2 then 1 else 0) = cg r' n + (if r' n = 2 then 1 else 0)
    rw [ih (fun j hj => h j (by omega)), h n (by omega)]
theorem cf_le (r : Nat → Int32) (n : Nat) : cf r n ≤ n := by
  induction n with
  | zero => exact Nat.le_refl _
  | succ n ih =>
    show cf r n + (if 2 ≤ r n then 0 else 1) ≤ n + 1
    by_cases h : 2 ≤ r n
    · rw [if_pos h]; omega
    · rw [if_neg h]; omega
theorem cg_le (r : Nat → Int32) (n : Nat) : cg r n ≤ n := by
  induction n with
  | zero => exact Nat.le_refl _
  | succ n ih =>
    show cg r n + (if r n = 2 then 1 else 0) ≤ n + 1
    by_cases h : r n = 2
    · rw [if_pos h]; omega
    · rw [if_neg h]; omega
def EQN (x y : Int32) : Prop := x = y ∧ ¬ x = -1
theorem EQN.trans {x y z : Int32} (h : EQN x y) (e : y = z) : EQN x z := ⟨h.1.trans e, h.2⟩
/-- rows of s signs so far, and their counts -/
def RRR (s : Nat) (ro tl : Nat → Int32) (F C : Int32) : Prop := (∀ j, j < s → j < 12 → EQN (ro j) (tl (9 + j))) ∧ (s ≤ 12 → F = nI (cf ro s) ∧ C = nI (cg ro s))
def RTK (tb : Nat → Int8) (a n : Nat) (kd so : Int32) : Prop := (kd = 1 ∧ so = 2 ∧ ∀ j, j < n → let_ (pc tb (a + j)) ≠ 0) ∨ (kd = 2 ∧ so = 3 ∧ ∀ j, j < n → dig_ (pc tb (a + j)) ≠ 0)
theorem let_r {c : Int32} (h : let_ c ≠ 0) : ¬ c < 97 ∧ ¬ 122 < c := by
  unfold let_ at h
  refine ⟨fun q => h (if_pos q), fun q => h ?_⟩
  by_cases g : c < 97
  · exact if_pos g
  · rw [if_neg g, if_pos q]
theorem dig_r {c : Int32} (h : dig_ c ≠ 0) : ¬ c < 48 ∧ ¬ 57 < c := by
  unfold dig_ at h
  refine ⟨fun q => h (if_pos q), fun q => h ?_⟩
  by_cases g : c < 48
  · exact if_pos g
  · rw [if_neg g, if_pos q]
theorem rt_step {Z : Nat} (hZ : Z ≤ 300) {tb tx : Nat → Int8} (hE : ∀ j, j < Z → tx j = tb j) {a n S i : Nat} {kd so : Int32} (hT : RTK tb a n kd so) (hi : i < n) (ha : a + n ≤ Z) (hS : S ≤ 300) (g : Nat) (tl : Nat → Int32) :
    f_X12_isRoleToken_2 (nI n) (nI a) so tx (nI S) (g + 1) (nI i) tl = (if rv (pc tb (a + i)) = -1 then some (0, tl) else f_X12_isRoleToken_2 (nI n) (nI a) so tx (nI S) g (nI (i + 1)) (if S + i < 12 then upd tl (9 + (S + i)) (rv (pc tb (a + i))) else tl)) := by
  have lt : pc tb (a + i) < 128 := by
    rcases hT with ⟨_, _, h⟩ | ⟨_, _, h⟩
    · exact Int32.lt_of_le_of_lt (Int32.not_lt.mp (let_r (h i hi)).2) (by decide)
    · exact Int32.lt_of_le_of_lt (Int32.not_lt.mp (dig_r (h i hi)).2) (by decide)
  have raw : (tx (nI (a + i)).toNatClampNeg).toInt32 = pc tb (a + i) := by
    rw [nI_clamp (by omega), hE _ (by omega)]
    exact pc_raw tb _ lt
  have e9 : (9 + nI S) + nI i = nI (9 + (S + i)) := by
    rw [show (9 : Int32) = nI 9 from rfl, nI_add, nI_add, Nat.add_assoc]
  rw [f_X12_isRoleToken_2_s, if_neg (nI_ge (by omega) (by omega)), nI_add a i, m_inI (nI_in (N := 1200) (by omega) (by decide))]
  unfold f_X12_isRoleToken_42 f_X12_isRoleToken_62 f_X12_isRoleToken_67 f_X12_isRoleToken_125 f_X12_isRoleToken_126
  rw [nI_add a i, raw, nI_add S i, e9, nI_1]
  have st : ∀ (v : Int32) (K : Int32 → (Nat → Int32) → Option (Int32 × (Nat → Int32))), (if (12 : Int32) ≤ nI (S + i) then K (nI (i + 1)) tl else m_in (nI (9 + (S + i))) 21 (K (nI (i + 1)) (upd tl (nI (9 + (S + i))).toNatClampNeg v))) = K (nI (i + 1)) (if S + i < 12 then upd tl (9 + (S + i)) v else tl) := by
    intro v K
    by_cases h : S + i < 12
    · rw [if_neg (show ¬ (12 : Int32) ≤ nI (S + i) from nI_ge (b := 12) h (by decide)), if_pos h, m_inI (nI_in (by omega) (by decide)), nI_clamp (by omega)]
    · rw [if_pos (show (12 : Int32) ≤ nI (S + i) from nI_le (a := 12) (by omega) (by omega)), if_neg h]
  have n0 : ¬ (1 : Int32) = 0 := by decide
  rcases hT with ⟨_, rfl, h⟩ | ⟨_, rfl, h⟩
  · have hl := let_r (h i hi)
    have g48 : ¬ pc tb (a + i) = 48 := fun q => hl.1 (by rw [q]; decide)
    have g49 : ¬ pc tb (a + i) = 49 := fun q => hl.1 (by rw [q]; decide)
    rw [if_neg (show ¬ (2 : Int32) = 3 by decide)]
    by_cases h99 : pc tb (a + i) = 99
    · have er : rv (pc tb (a + i)) = 2 := by unfold rv; rw [if_neg g48, if_neg g49, if_pos h99]
      rw [if_pos h99, if_neg n0, if_neg g48, if_neg g49, if_pos h99, er, if_neg (show ¬ (2 : Int32) = -1 by decide)]
      exact st 2 _
    · rw [if_neg h99]
      by_cases h100 : pc tb (a + i) = 100
      · have er : rv (pc tb (a + i)) = 3 := by unfold rv; rw [if_neg g48, if_neg g49, if_neg h99, if_pos h100]
        rw [if_pos h100, if_neg n0, if_neg g48, if_neg g49, if_neg h99, er, if_neg (show ¬ (3 : Int32) = -1 by decide)]
        exact st 3 _
      · have er : rv (pc tb (a + i)) = -1 := by unfold rv; rw [if_neg g48, if_neg g49, if_neg h99, if_neg h100]
        rw [if_neg h100, if_pos rfl, er, if_pos rfl]
  · have hl := dig_r (h i hi)
    have g99 : ¬ pc tb (a + i) = 99 := fun q => hl.2 (by rw [q]; decide)
    have g100 : ¬ pc tb (a + i) = 100 := fun q => hl.2 (by rw [q]; decide)
    rw [if_pos rfl]
    by_cases h48 : pc tb (a + i) = 48
    · have er : rv (pc tb (a + i)) = 0 := by unfold rv; rw [if_pos h48]
      rw [if_pos h48, if_neg n0, if_pos h48, er, if_neg (show ¬ (0 : Int32) = -1 by decide)]
      exact st 0 _
    · rw [if_neg h48]
      by_cases h49 : pc tb (a + i) = 49
      · have er : rv (pc tb (a + i)) = 1 := by unfold rv; rw [if_neg h48, if_pos h49]
        rw [if_pos h49, if_neg n0, if_neg h48, if_pos h49, er, if_neg (show ¬ (1 : Int32) = -1 by decide)]
        exact st 1 _
      · have er : rv (pc tb (a + i)) = -1 := by unfold rv; rw [if_neg h48, if_neg h49, if_neg g99, if_neg g100]
        rw [if_neg h49, if_pos rfl, er, if_pos rfl]
section ROW
variable {Z : Nat} {p1 p2 p3 p4 p5 p6 p7 p8 p9 p10 p11 p12 p13 p14 p15 : Int32}
theorem pe_tokrow (hZ : Z ≤ 300) {tb tx : Nat → Int8} (hE : ∀ j, j < Z → tx j = tb j) {a n S c : Nat} {kd so : Int32} (hT : RTK tb a n kd so) (ha : a + n ≤ Z) (hS : S ≤ a) (fl fp t u : Int32) (k31 : Int32 → Int32 → Int32 → Int32 → Int32 → Int32 → Int32 → Int32 → Int32 → (Nat → Int32) → Option (SX3 × SX5 × (Nat → Int32))) (m : Nat) : ∀ (i f g : Nat) (_ : i + m = n) (_ : m ≤ f) (_ : m ≤ g) (F C : Int32) (ro tl : Nat → Int32) (_ : RRR (S + i) ro tl F C),
    (∃ ro' tl', f_X3_readRow_61 (nI (a + n)) fl fp kd (nI a) (nI Z, t, u) tb (nI c) p1 p2 p3 p4 p5 p6 p7 p8 p9 p10 p11 p12 p13 p14 p15 k31 (f + 1) (nI (S + i)) F C (nI (a + i)) ro = some ((1, nI a, kd, nI a, nI (a + n)), (p1, p2, p3, p4, p5, p6, p7, p8, p9, p10, p11, p12, p13, p14, p15), ro') ∧ f_X12_isRoleToken_2 (nI n) (nI a) so tx (nI S) (g + 1) (nI i) tl = some (0, tl')) ∨
    (∃ F' C' ro' tl', RRR (S + n) ro' tl' F' C' ∧ (∀ k, k < 9 → tl' k = tl k) ∧ f_X3_readRow_61 (nI (a + n)) fl fp kd (nI a) (nI Z, t, u) tb (nI c) p1 p2 p3 p4 p5 p6 p7 p8 p9 p10 p11 p12 p13 p14 p15 k31 (f + 1) (nI (S + i)) F C (nI (a + i)) ro = Option.bind (f_X3_step (fl, fp, kd, nI a, nI (a + n)) (nI Z, t, u) tb) (fun z => match z with | (z1, z2, z3, z4, z5) => k31 (nI (S + n)) F' C' (nI c + 1) z1 z2 z3 z4 z5 ro') ∧ f_X12_isRoleToken_2 (nI n) (nI a) so tx (nI S) (g + 1) (nI i) tl = some (1, tl')) := by
  induction m with
  | zero =>
    intro i f g h _ _ F C ro tl hR
    have e : i = n := by omega
    subst e
    refine Or.inr ⟨F, C, ro, tl, hR, fun _ _ => rfl, ?_, ?_⟩
    · rw [f_X3_readRow_61_s, if_pos (nI_le (by omega) (by omega))]
    · rw [f_X12_isRoleToken_2_s, if_pos (nI_le (by omega) (by omega))]
  | succ m ih =>
    intro i f g h hf hg F C ro tl hR
    obtain ⟨f, rfl⟩ : ∃ q, f = q + 1 := ⟨f - 1, by omega⟩
    obtain ⟨g, rfl⟩ : ∃ q, g = q + 1 := ⟨g - 1, by omega⟩
    rw [f_X3_readRow_61_s, if_neg (nI_ge (by omega) (by omega)), at_lt hZ (by omega), bso, roleOf_v, bso, rt_step hZ hE hT (by omega) ha (by omega)]
    by_cases hv : rv (pc tb (a + i)) = -1
    · rw [if_pos hv, if_pos hv]
      exact Or.inl ⟨ro, tl, rfl, rfl⟩
    rw [if_neg hv, if_neg hv]
    -- the class's counts
    have cls : ∀ ro', f_X3_readRow_112 (rv (pc tb (a + i))) (nI (S + i)) F C (nI (a + i)) (f_X3_readRow_61 (nI (a + n)) fl fp kd (nI a) (nI Z, t, u) tb (nI c) p1 p2 p3 p4 p5 p6 p7 p8 p9 p10 p11 p12 p13 p14 p15 k31 (f + 1)) ro' = f_X3_readRow_61 (nI (a + n)) fl fp kd (nI a) (nI Z, t, u) tb (nI c) p1 p2 p3 p4 p5 p6 p7 p8 p9 p10 p11 p12 p13 p14 p15 k31 (f + 1) (nI (S + (i + 1))) (F + (if 2 ≤ rv (pc tb (a + i)) then 0 else 1)) (C + (if rv (pc tb (a + i)) = 2 then 1 else 0)) (nI (a + (i + 1))) ro' := by
      intro ro'
      unfold f_X3_readRow_112 f_X3_readRow_127 f_X3_readRow_142
      rw [nI_1, nI_1, Nat.add_assoc, Nat.add_assoc]
      by_cases h2 : 2 ≤ rv (pc tb (a + i))
      · rw [if_pos h2, if_pos h2]
        by_cases h3 : rv (pc tb (a + i)) = 2
        · rw [if_pos h3, if_pos h3]
        · rw [if_neg h3, if_neg h3]
      · rw [if_neg h2, if_neg h2]
        by_cases h3 : rv (pc tb (a + i)) = 2
        · rw [if_pos h3, if_pos h3]
        · rw [if_neg h3, if_neg h3]
    have cN0 : ∀ q : Nat, nI q + 0 = nI q := fun q => nI_add q 0
    by_cases h12 : S + i < 12
    · rw [if_neg (show ¬ (12 : Int32) ≤ nI (S + i) from nI_ge (b := 12) h12 (by decide)), m_inI (nI_in (by omega) (by decide)), nI_clamp (by omega), if_pos h12, cls]
      obtain ⟨e1, e2⟩ := hR.2 (by omega)
      have hR' : RRR (S + (i + 1)) (upd ro (S + i) (rv (pc tb (a + i)))) (upd tl (9 + (S + i)) (rv (pc tb (a + i)))) (F + (if 2 ≤ rv (pc tb (a + i)) then 0 else 1)) (C + (if rv (pc tb (a + i)) = 2 then 1 else 0)) := by
        refine ⟨fun j j1 j2 => ?_, fun _ => ⟨?_, ?_⟩⟩
        · by_cases ej : j = S + i
          · subst ej
            rw [upd_same, upd_same]
            exact ⟨rfl, hv⟩
          · rw [upd_ne _ _ ej, upd_ne _ _ (show 9 + j ≠ 9 + (S + i) by omega)]
            exact hR.1 j (by omega) j2
        · rw [show S + (i + 1) = (S + i) + 1 by omega]
          show _ = nI (cf (upd ro (S + i) _) (S + i) + (if 2 ≤ upd ro (S + i) _ (S + i) then 0 else 1))
          rw [upd_same, cf_c (r := upd ro (S + i) _) (r' := ro) (S + i) (fun j hj => upd_ne _ _ (by omega)), e1]
          by_cases h2 : 2 ≤ rv (pc tb (a + i))
          · rw [if_pos h2, if_pos h2]; exact cN0 _
          · rw [if_neg h2, if_neg h2]; exact nI_1 _
        · rw [show S + (i + 1) = (S + i) + 1 by omega]
          show _ = nI (cg (upd ro (S + i) _) (S + i) + (if upd ro (S + i) _ (S + i) = 2 then 1 else 0))
          rw [upd_same, cg_c (r := upd ro (S + i) _) (r' := ro) (S + i) (fun j hj => upd_ne _ _ (by omega)), e2]
          by_cases h2 : rv (pc tb (a + i)) = 2
          · rw [if_pos h2, if_pos h2]; exact nI_1 _
          · rw [if_neg h2, if_neg h2]; exact cN0 _
      rcases ih (i + 1) f g (by omega) (by omega) (by omega) _ _ _ _ hR' with ⟨ro', tl', k1, k2⟩ | ⟨F', C', ro', tl', k0, k9, k1, k2⟩
      · exact Or.inl ⟨ro', tl', k1, k2⟩
      · exact Or.inr ⟨F', C', ro', tl', k0, fun k hk => by rw [k9 k hk, upd_ne _ _ (by omega)], k1, k2⟩
    · rw [if_pos (show (12 : Int32) ≤ nI (S + i) from nI_le (a := 12) (by omega) (by omega)), if_neg h12, cls]
      have hR' : RRR (S + (i + 1)) ro tl (F + (if 2 ≤ rv (pc tb (a + i)) then 0 else 1)) (C + (if rv (pc tb (a + i)) = 2 then 1 else 0)) := ⟨fun j j1 j2 => hR.1 j (by omega) j2, fun q => absurd q (by omega)⟩
      rcases ih (i + 1) f g (by omega) (by omega) (by omega) _ _ _ _ hR' with ⟨ro', tl', k1, k2⟩ | ⟨F', C', ro', tl', k0, k9, k1, k2⟩
      · exact Or.inl ⟨ro', tl', k1, k2⟩
      · exact Or.inr ⟨F', C', ro', tl', k0, k9, k1, k2⟩
/-- the reference's count over what was told -/
theorem pl71 {S : Nat} (hS : S ≤ 300) (wh ra un re le be so va si : Int32) (wo : Int64) (wr bd xx : Int32) (tl : Nat → Int32) (m : Nat) : ∀ (k f : Nat) (_ : k + m = min S 12) (_ : m ≤ f), f_X12_rolesLine_71 (nI S) wh ra un re le be so va si wo wr bd xx tl (f + 1) (nI (cf (fun j => tl (9 + j)) k)) (nI (cg (fun j => tl (9 + j)) k)) (nI k) = f_X12_rolesLine_136 (nI S) wh ra un re le be so va si wo wr bd xx tl (nI (cf (fun j => tl (9 + j)) (min S 12))) (nI (cg (fun j => tl (9 + j)) (min S 12))) := by
  induction m with
  | zero =>
    intro k f h _
    have e : k = min S 12 := by omega
    rw [← e, f_X12_rolesLine_71_s]
    by_cases h1 : S ≤ k
    · rw [if_pos (nI_le h1 (by omega))]
    · rw [if_neg (nI_ge (by omega) (by omega)), if_pos (show (12 : Int32) ≤ nI k from nI_le (a := 12) (by omega) (by omega))]
  | succ m ih =>
    intro k f h hf
    obtain ⟨f, rfl⟩ : ∃ q, f = q + 1 := ⟨f - 1, by omega⟩
    have hi : vp_in (nI (9 + k)) 21 := nI_in (by omega) (by decide)
    have e9 : 9 + nI k = nI (9 + k) := nI_add 9 k
    have cN0 : ∀ q : Nat, nI q + 0 = nI q := fun q => nI_add q 0
    rw [f_X12_rolesLine_71_s, if_neg (nI_ge (by omega) (by omega)), if_neg (show ¬ (12 : Int32) ≤ nI k from nI_ge (b := 12) (by omega) (by decide))]
    unfold f_X12_rolesLine_104 f_X12_rolesLine_127
    rw [e9, m_inI hi, m_inI hi, m_inI hi, nI_clamp (by omega), nI_1]
    have key := ih (k + 1) f (by omega) (by omega)
    have e1 : cf (fun j => tl (9 + j)) (k + 1) = cf (fun j => tl (9 + j)) k + (if 2 ≤ tl (9 + k) then 0 else 1) := rfl
    have e2 : cg (fun j => tl (9 + j)) (k + 1) = cg (fun j => tl (9 + j)) k + (if tl (9 + k) = 2 then 1 else 0) := rfl
    by_cases h2 : 2 ≤ tl (9 + k)
    · rw [if_pos h2]
      rw [if_pos h2, Nat.add_zero] at e1
      by_cases h3 : tl (9 + k) = 2
      · rw [if_pos h3] at e2
        rw [if_pos h3, cN0, nI_1, ← e2, show cf (fun j => tl (9 + j)) k = cf (fun j => tl (9 + j)) (k + 1) by omega]
        exact key
      · rw [if_neg h3, Nat.add_zero] at e2
        rw [if_neg h3, cN0, cN0, nI_1, show cf (fun j => tl (9 + j)) k = cf (fun j => tl (9 + j)) (k + 1) by omega, show cg (fun j => tl (9 + j)) k = cg (fun j => tl (9 + j)) (k + 1) by omega]
        exact key
    · rw [if_neg h2]
      rw [if_neg h2] at e1
      by_cases h3 : tl (9 + k) = 2
      · rw [if_pos h3] at e2
        rw [if_pos h3, nI_1, nI_1, ← e1, ← e2]
        exact key
      · rw [if_neg h3, Nat.add_zero] at e2
        rw [if_neg h3, nI_1, cN0, nI_1, ← e1, show cg (fun j => tl (9 + j)) k = cg (fun j => tl (9 + j)) (k + 1) by omega]
        exact key
/-- the end of a row -/
theorem pe_rowend {tb : Nat → Int8} {r a n S h : Nat} {kd so va si : Int32} {wo : Int64} {fl fp bd F C : Int32} (hT : TKN tb Z r kd so va si wo a n) (hZ : Z ≤ 300) (hF : FL fl fp bd h) (hh : h ≤ 300) (hS : S ≤ 300) (hS0 : 0 < S) {ro tl : Nat → Int32} (hR : RRR S ro tl F C) (ra un wr xx : Int32) :
    ∃ s' q' pp', f_X3_readRow_161 (nI S) (nI h) fl fp kd (nI a) (nI (a + n)) p1 p2 p3 p4 p5 p6 p7 p8 p9 p10 p11 p12 p13 p14 p15 ro F C = some (s', (p1, pp', p3, p4, p5, p6, p7, p8, p9, p10, p11, p12, p13, p14, p15), ro) ∧ f_X12_rolesLine_71 (nI S) (nI h) ra un (nI (a + n)) (nI Z) (nI a) so va si wo wr bd xx tl 65536 0 0 0 = some (1, q', upd tl 8 (if S ≤ 12 then nI S else 12)) ∧ AL tb Z r h ra un wr xx s' q' ∧ (s'.1 = 0 → fl = 0 ∧ S ≤ 12 ∧ 2 ≤ S ∧ pp' = nI S) := by
  have cl := cf_le (fun j => tl (9 + j)) (min S 12)
  have cl2 := cg_le (fun j => tl (9 + j)) (min S 12)
  have e71 := pl71 hS (nI h) ra un (nI (a + n)) (nI Z) (nI a) so va si wo wr bd xx tl (min S 12) 0 65535 (by omega) (by omega)
  have e71 : f_X12_rolesLine_71 (nI S) (nI h) ra un (nI (a + n)) (nI Z) (nI a) so va si wo wr bd xx tl 65536 0 0 0 = _ := e71
  rw [e71]
  have les : f_X12_lesser (nI S) 12 = some (if S ≤ 12 then nI S else 12) := by
    unfold f_X12_lesser
    by_cases q : S < 12
    · rw [if_neg (show ¬ (12 : Int32) ≤ nI S from nI_ge (b := 12) q (by decide)), if_pos (by omega)]
    · rw [if_pos (show (12 : Int32) ≤ nI S from nI_le (a := 12) (by omega) (by omega))]
      by_cases q2 : S ≤ 12
      · have : S = 12 := by omega
        subst this
        rw [if_pos q2]; rfl
      · rw [if_neg q2]
  have e163 : ∀ bd', f_X12_rolesLine_163 (nI S) tl ra un (nI (a + n)) (nI Z) (nI a) so va si wo wr bd' xx = some (1, (ra, un, nI (a + n), nI Z, nI a, so, va, si, wo, wr, bd', xx), upd tl 8 (if S ≤ 12 then nI S else 12)) := by
    intro bd'
    unfold f_X12_rolesLine_163
    rw [les]; rfl
  obtain ⟨fl', fp', bd', b1, b2, b3, b4⟩ := pe_bad hh hF kd (nI a) (nI (a + n)) ra un (nI (a + n)) (nI Z) (nI a) so va si wo wr xx
  have bad1 : f_X3_readRow_184 (nI h) fl fp kd (nI a) (nI (a + n)) p1 p2 p3 p4 p5 p6 p7 p8 p9 p10 p11 p12 p13 p14 p15 ro = some ((fl', fp', kd, nI a, nI (a + n)), (p1, p2, p3, p4, p5, p6, p7, p8, p9, p10, p11, p12, p13, p14, p15), ro) := by
    unfold f_X3_readRow_184
    rw [b3]; rfl
  have bad2 : f_X12_rolesLine_158 (nI h) ra un (nI (a + n)) (nI Z) (nI a) so va si wo wr bd xx (nI S) tl = some (1, (ra, un, nI (a + n), nI Z, nI a, so, va, si, wo, wr, bd', xx), upd tl 8 (if S ≤ 12 then nI S else 12)) := by
    unfold f_X12_rolesLine_158
    rw [b4, bso]
    exact e163 bd'
  have bad : ∀ {X : Option (SX3 × SX5 × (Nat → Int32))} {Y : Option (Int32 × SX12 × (Nat → Int32))}, X = f_X3_readRow_184 (nI h) fl fp kd (nI a) (nI (a + n)) p1 p2 p3 p4 p5 p6 p7 p8 p9 p10 p11 p12 p13 p14 p15 ro → Y = f_X12_rolesLine_158 (nI h) ra un (nI (a + n)) (nI Z) (nI a) so va si wo wr bd xx (nI S) tl → ∃ s' q' pp', X = some (s', (p1, pp', p3, p4, p5, p6, p7, p8, p9, p10, p11, p12, p13, p14, p15), ro) ∧ Y = some (1, q', upd tl 8 (if S ≤ 12 then nI S else 12)) ∧ AL tb Z r h ra un wr xx s' q' ∧ (s'.1 = 0 → fl = 0 ∧ S ≤ 12 ∧ 2 ≤ S ∧ pp' = nI S) := by
    intro X Y hX hY
    refine ⟨_, _, p2, hX.trans bad1, hY.trans bad2, ⟨a, n, kd, so, va, si, wo, fl', fp', bd', hT, rfl, rfl, b1⟩, fun q => ?_⟩
    have q : fl' = 0 := q
    rw [b2] at q
    exact absurd q (by decide)
  unfold f_X3_readRow_161 f_X12_rolesLine_136
  rw [in_val, bso]
  by_cases h2 : S < 2
  · refine bad (if_pos (show nI S < 2 from nI_lt (b := 2) h2 (by decide))) ?_
    rw [if_pos (show nI S < 2 from nI_lt (b := 2) h2 (by decide)), if_pos rfl]
  rw [if_neg (show ¬ nI S < 2 from fun q => h2 ((nI_ltI (b := 2) (by omega) (by decide)).mp q)), if_neg (show ¬ nI S < 2 from fun q => h2 ((nI_ltI (b := 2) (by omega) (by decide)).mp q))]
  by_cases h12 : S ≤ 12
  · have n12 : ¬ (12 : Int32) < nI S := fun q => absurd ((nI_ltI (a := 12) (by decide) (by omega)).mp q) (by omega)
    rw [if_neg n12, if_neg n12, if_neg (show ¬ (1 : Int32) = 0 by decide)]
    obtain ⟨e1, e2⟩ := hR.2 h12
    have em : min S 12 = S := by omega
    have q1 : cf (fun j => tl (9 + j)) (min S 12) = cf ro S := by rw [em]; exact (cf_c S (fun j hj => (hR.1 j hj (by omega)).1)).symm
    have q2 : cg (fun j => tl (9 + j)) (min S 12) = cg ro S := by rw [em]; exact (cg_c S (fun j hj => (hR.1 j hj (by omega)).1)).symm
    rw [q1, q2, ← e1, ← e2]
    by_cases hF2 : F < 2
    · refine bad (if_pos hF2) (if_pos hF2)
    rw [if_neg hF2, if_neg hF2]
    by_cases hC : C ≤ 6
    · rw [if_pos hC, if_pos hC, e163]
      exact ⟨_, _, nI S, rfl, rfl, ⟨a, n, kd, so, va, si, wo, fl, fp, bd, hT, rfl, rfl, hF⟩, fun q => ⟨q, h12, by omega, rfl⟩⟩
    · exact bad (if_neg hC) (if_neg hC)
  · have n12 : (12 : Int32) < nI S := nI_lt (a := 12) (by omega) (by omega)
    refine bad (if_pos n12) ?_
    rw [if_pos n12, if_pos rfl]
/-- a whole row -/
theorem pe_row31 (hZ : Z ≤ 300) {tb tx : Nat → Int8} (hE : ∀ j, j < Z → tx j = tb j) {h : Nat} (t u ra un wr xx : Int32) (m : Nat) : ∀ (f g : Nat) (_ : m ≤ f) (_ : m ≤ g) {r a n S c : Nat} {kd so va si : Int32} {wo : Int64} {fl fp bd F C : Int32} (_ : TKN tb Z r kd so va si wo a n) (_ : Z ≤ a + m) (_ : FL fl fp bd h) (_ : h ≤ a) (_ : S ≤ a) (_ : c ≤ a) (_ : S = 0 → kd = 1 ∨ kd = 2) {ro tl : Nat → Int32} (_ : RRR S ro tl F C),
    ∃ s' q' rr pp' ro' tl', f_X3_readRow_31 (nI h) p1 p2 p3 p4 p5 p6 p7 p8 p9 p10 p11 p12 p13 p14 p15 (nI Z, t, u) tb (f + 1) (nI S) F C (nI c) fl fp kd (nI a) (nI (a + n)) ro = some (s', (p1, pp', p3, p4, p5, p6, p7, p8, p9, p10, p11, p12, p13, p14, p15), ro') ∧ f_X12_rolesLine_11 tx (nI h) (g + 1) (nI S) ra un (nI (a + n)) (nI Z) (nI a) so va si wo wr bd xx tl = some (rr, q', tl') ∧
      ((∃ hd : Nat, DD hd s' rr q') ∨ (rr = 1 ∧ AL tb Z r h ra un wr xx s' q' ∧ (∀ k, k < 8 → tl' k = tl k) ∧ (s'.1 = 0 → fl = 0 ∧ ∃ S' : Nat, 2 ≤ S' ∧ S' ≤ 12 ∧ pp' = nI S' ∧ tl' 8 = nI S' ∧ ∀ j, j < S' → EQN (ro' j) (tl' (9 + j))))) := by
  have out : ∀ (f g : Nat) {r a n S c : Nat} {kd so va si : Int32} {wo : Int64} {fl fp bd F C : Int32} (_ : TKN tb Z r kd so va si wo a n) (_ : FL fl fp bd h) (_ : h ≤ a) (_ : S ≤ a) (_ : c ≤ a) (_ : 0 < S) (_ : ¬ kd = 1) (_ : ¬ kd = 2) (_ : ¬ so = 3) (_ : ¬ so = 2) {ro tl : Nat → Int32} (_ : RRR S ro tl F C),
      ∃ s' q' rr pp' ro' tl', f_X3_readRow_31 (nI h) p1 p2 p3 p4 p5 p6 p7 p8 p9 p10 p11 p12 p13 p14 p15 (nI Z, t, u) tb (f + 1) (nI S) F C (nI c) fl fp kd (nI a) (nI (a + n)) ro = some (s', (p1, pp', p3, p4, p5, p6, p7, p8, p9, p10, p11, p12, p13, p14, p15), ro') ∧ f_X12_rolesLine_11 tx (nI h) (g + 1) (nI S) ra un (nI (a + n)) (nI Z) (nI a) so va si wo wr bd xx tl = some (rr, q', tl') ∧
        ((∃ hd : Nat, DD hd s' rr q') ∨ (rr = 1 ∧ AL tb Z r h ra un wr xx s' q' ∧ (∀ k, k < 8 → tl' k = tl k) ∧ (s'.1 = 0 → fl = 0 ∧ ∃ S' : Nat, 2 ≤ S' ∧ S' ≤ 12 ∧ pp' = nI S' ∧ tl' 8 = nI S' ∧ ∀ j, j < S' → EQN (ro' j) (tl' (9 + j))))) := by
    intro f g r a n S c kd so va si wo fl fp bd F C hT hF hh hS hc hS0 k1 k2 o3 o2 ro tl hR
    have haZ : a ≤ 300 := by have := hT.2.1; omega
    obtain ⟨s', q', pp', f1, f2, f3, f4⟩ := pe_rowend (p1 := p1) (p2 := p2) (p3 := p3) (p4 := p4) (p5 := p5) (p6 := p6) (p7 := p7) (p8 := p8) (p9 := p9) (p10 := p10) (p11 := p11) (p12 := p12) (p13 := p13) (p14 := p14) (p15 := p15) hT hZ hF (by omega) (by omega) hS0 hR ra un wr xx
    rw [f_X3_readRow_31_s, if_neg (show ¬ (300 : Int32) < nI c from fun q => absurd ((nI_ltI (a := 300) (by decide) (by omega)).mp q) (by omega)), if_neg k1, if_neg k2, f_X12_rolesLine_11_s, if_neg o3, if_neg o2, if_neg (nI_ne0 hS0 (by omega))]
    refine ⟨s', q', 1, pp', ro, _, f1, f2, Or.inr ⟨rfl, f3, fun k hk => upd_ne _ _ (by omega), fun q => ?_⟩⟩
    obtain ⟨g0, g1, g2, g3⟩ := f4 q
    refine ⟨g0, S, g2, g1, g3, ?_, fun j hj => ?_⟩
    · rw [upd_same, if_pos g1]
    · rw [upd_ne _ _ (show 9 + j ≠ 8 by omega)]
      exact hR.1 j hj (by omega)
  induction m with
  | zero =>
    intro f g _ _ r a n S c kd so va si wo fl fp bd F C hT hm hF hh hS hc h0 ro tl hR
    have hn := hT.2.1
    rcases hT.2.2 with ⟨k1, k2, k3⟩ | ⟨_, _, k3, _⟩ | ⟨_, _, k3, _⟩ | ⟨_, _, k3⟩ | ⟨_, _, k3⟩
    · have hS0 : 0 < S := by
        rcases Nat.eq_zero_or_pos S with e | e
        · rcases h0 e with q | q
          · rw [k1] at q; exact absurd q (by decide)
          · rw [k1] at q; exact absurd q (by decide)
        · exact e
      exact out f g hT hF hh hS hc hS0 (by rw [k1]; decide) (by rw [k1]; decide) (by rw [k2]; decide) (by rw [k2]; decide) hR
    · omega
    · omega
    · omega
    · omega
  | succ m ih =>
    intro f g hf hg r a n S c kd so va si wo fl fp bd F C hT hm hF hh hS hc h0 ro tl hR
    have hn := hT.2.1
    have ht := hT.2.2
    obtain ⟨f, rfl⟩ : ∃ q, f = q + 1 := ⟨f - 1, by omega⟩
    obtain ⟨g, rfl⟩ : ∃ q, g = q + 1 := ⟨g - 1, by omega⟩
    have main : RTK tb a n kd so → 0 < n → si = nI n → ∃ s' q' rr pp' ro' tl', f_X3_readRow_55 (nI (a + n)) fl fp kd (nI a) (nI Z, t, u) tb (nI c) p1 p2 p3 p4 p5 p6 p7 p8 p9 p10 p11 p12 p13 p14 p15 (nI S) F C ro (f_X3_readRow_31 (nI h) p1 p2 p3 p4 p5 p6 p7 p8 p9 p10 p11 p12 p13 p14 p15 (nI Z, t, u) tb (f + 1)) = some (s', (p1, pp', p3, p4, p5, p6, p7, p8, p9, p10, p11, p12, p13, p14, p15), ro') ∧ f_X12_rolesLine_27 (nI S) ra un (nI (a + n)) (nI Z) (nI a) so va si wo wr bd xx tx tl (f_X12_rolesLine_11 tx (nI h) (g + 1)) = some (rr, q', tl') ∧
        ((∃ hd : Nat, DD hd s' rr q') ∨ (rr = 1 ∧ AL tb Z r h ra un wr xx s' q' ∧ (∀ k, k < 8 → tl' k = tl k) ∧ (s'.1 = 0 → fl = 0 ∧ ∃ S' : Nat, 2 ≤ S' ∧ S' ≤ 12 ∧ pp' = nI S' ∧ tl' 8 = nI S' ∧ ∀ j, j < S' → EQN (ro' j) (tl' (9 + j))))) := by
      intro hK hn0 hsi
      subst hsi
      have ir : f_X12_isRoleToken (nI S) (ra, un, nI (a + n), nI Z, nI a, so, va, nI n, wo, wr, bd, xx) tx tl = f_X12_isRoleToken_2 (nI n) (nI a) so tx (nI S) 65536 0 tl := rfl
      unfold f_X3_readRow_55 f_X12_rolesLine_27
      rw [ir]
      have hR0 : RRR (S + 0) ro tl F C := hR
      rcases pe_tokrow (c := c) (p1 := p1) (p2 := p2) (p3 := p3) (p4 := p4) (p5 := p5) (p6 := p6) (p7 := p7) (p8 := p8) (p9 := p9) (p10 := p10) (p11 := p11) (p12 := p12) (p13 := p13) (p14 := p14) (p15 := p15) hZ hE hK hn hS fl fp t u (f_X3_readRow_31 (nI h) p1 p2 p3 p4 p5 p6 p7 p8 p9 p10 p11 p12 p13 p14 p15 (nI Z, t, u) tb (f + 1)) n 0 65535 65535 (by omega) (by omega) (by omega) F C ro tl hR0 with ⟨ro', tl', k1, k2⟩ | ⟨F', C', ro', tl', k0, k9, k1, k2⟩
      · have k2 : f_X12_isRoleToken_2 (nI n) (nI a) so tx (nI S) 65536 0 tl = some (0, tl') := k2
        have k1 : f_X3_readRow_61 (nI (a + n)) fl fp kd (nI a) (nI Z, t, u) tb (nI c) p1 p2 p3 p4 p5 p6 p7 p8 p9 p10 p11 p12 p13 p14 p15 (f_X3_readRow_31 (nI h) p1 p2 p3 p4 p5 p6 p7 p8 p9 p10 p11 p12 p13 p14 p15 (nI Z, t, u) tb (f + 1)) 65536 (nI S) F C (nI a) ro = some ((1, nI a, kd, nI a, nI (a + n)), (p1, p2, p3, p4, p5, p6, p7, p8, p9, p10, p11, p12, p13, p14, p15), ro') := k1
        rw [k1, k2, bso]
        exact ⟨(1, nI a, kd, nI a, nI (a + n)), (ra, un, nI (a + n), nI Z, nI a, so, va, nI n, wo, nI a, bd, xx), 0, p2, ro', tl', rfl, rfl, Or.inl ⟨a, rfl, rfl, rfl, rfl⟩⟩
      · have k2 : f_X12_isRoleToken_2 (nI n) (nI a) so tx (nI S) 65536 0 tl = some (1, tl') := k2
        have k1 : f_X3_readRow_61 (nI (a + n)) fl fp kd (nI a) (nI Z, t, u) tb (nI c) p1 p2 p3 p4 p5 p6 p7 p8 p9 p10 p11 p12 p13 p14 p15 (f_X3_readRow_31 (nI h) p1 p2 p3 p4 p5 p6 p7 p8 p9 p10 p11 p12 p13 p14 p15 (nI Z, t, u) tb (f + 1)) 65536 (nI S) F C (nI a) ro = _ := k1
        rw [k1, k2, bso]
        dsimp only
        first | rw [if_neg (show ¬ (1 : Int32) = 0 by decide)] | rw [if_neg not_false]
        obtain ⟨a', n', kd', so', va', si', wo', e1, e2, e3⟩ := pe_tok hZ hE hn fl fp kd (nI a) t u ra un (nI a) so va (nI n) wo wr bd xx
        rw [e2, bso, e3, bso, nI_add, nI_1]
        have e1' : TKN tb Z r kd' so' va' si' wo' a' n' := ⟨by have := e1.1; have := hT.1; omega, e1.2⟩
        have ha' := e1.1
        obtain ⟨s', q', rr, pp', ro2, tl2, g1, g2, g3⟩ := ih f g (by omega) (by omega) e1' (by omega) hF (by omega) (show S + n ≤ a' by omega) (show c + 1 ≤ a' by omega) (fun q => absurd q (by omega)) k0
        refine ⟨s', q', rr, pp', ro2, tl2, g1, g2, ?_⟩
        rcases g3 with g3 | ⟨g3, g4, g5, g6⟩
        · exact Or.inl g3
        · exact Or.inr ⟨g3, g4, fun k hk => by rw [g5 k hk, k9 k (by omega)], g6⟩
    have c300 : ¬ (300 : Int32) < nI c := fun q => absurd ((nI_ltI (a := 300) (by decide) (by omega)).mp q) (by omega)
    rcases ht with ⟨k1, k2, k3⟩ | ⟨k1, k2, k3, k4, k5, k6⟩ | ⟨k1, k2, k3, k4, k5, k6, k7⟩ | ⟨k1, k2, k3⟩ | ⟨k1, k2, k3⟩
    · have hS0 : 0 < S := by
        rcases Nat.eq_zero_or_pos S with e | e
        · rcases h0 e with q | q
          · rw [k1] at q; exact absurd q (by decide)
          · rw [k1] at q; exact absurd q (by decide)
        · exact e
      exact out (f + 1) (g + 1) hT hF hh hS hc hS0 (by rw [k1]; decide) (by rw [k1]; decide) (by rw [k2]; decide) (by rw [k2]; decide) hR
    · obtain ⟨s', q', rr, pp', ro2, tl2, g1, g2, g3⟩ := main (Or.inl ⟨k1, k2, k4⟩) k3 k5
      rw [f_X3_readRow_31_s, if_neg c300, if_pos k1, f_X12_rolesLine_11_s, if_neg (show ¬ so = 3 by rw [k2]; decide), if_pos k2]
      exact ⟨s', q', rr, pp', ro2, tl2, g1, g2, g3⟩
    · obtain ⟨s', q', rr, pp', ro2, tl2, g1, g2, g3⟩ := main (Or.inr ⟨k1, k2, k5⟩) k3 k6
      rw [f_X3_readRow_31_s, if_neg c300, if_neg (show ¬ kd = 1 by rw [k1]; decide), if_pos k1, f_X12_rolesLine_11_s, if_pos k2]
      exact ⟨s', q', rr, pp', ro2, tl2, g1, g2, g3⟩
    · have hS0 : 0 < S := by
        rcases Nat.eq_zero_or_pos S with e | e
        · rcases h0 e with q | q
          · rw [k1] at q; exact absurd q (by decide)
          · rw [k1] at q; exact absurd q (by decide)
        · exact e
      exact out (f + 1) (g + 1) hT hF hh hS hc hS0 (by rw [k1]; decide) (by rw [k1]; decide) (by rw [k2]; decide) (by rw [k2]; decide) hR
    · have hS0 : 0 < S := by
        rcases Nat.eq_zero_or_pos S with e | e
        · rcases h0 e with q | q
          · rw [k1] at q; exact absurd q (by decide)
          · rw [k1] at q; exact absurd q (by decide)
        · exact e
      exact out (f + 1) (g + 1) hT hF hh hS hc hS0 (by rw [k1]; decide) (by rw [k1]; decide) (by rw [k2]; decide) (by rw [k2]; decide) hR
end ROW
/-! A statement, by both. -/
def TR (p : SX5) (ro tl : Nat → Int32) : Prop := p.1 = tl 0 ∧ p.2.2.1 = tl 1 ∧ p.2.2.2.1 = tl 2 ∧ p.2.2.2.2.1 = tl 3 ∧ p.2.2.2.2.2.1 = tl 4 ∧ p.2.2.2.2.2.2.1 = tl 5 ∧ p.2.2.2.2.2.2.2.1 = tl 6 ∧ p.2.2.2.2.2.2.2.2.1 = tl 7 ∧ ∃ R : Nat, 2 ≤ R ∧ R ≤ 12 ∧ p.2.1 = nI R ∧ tl 8 = nI R ∧ ∀ j, j < R → EQN (ro j) (tl (9 + j))
def TR2 (p : SX5) (ro tl : Nat → Int32) : Prop := TR p ro tl ∧ TOk tl
def AL0 (tb : Nat → Int8) (Z r : Nat) (ra un wr xx : Int32) (s : SX3) (q : SX12) : Prop := ∃ (a n : Nat) (kd so va si : Int32) (wo : Int64) (fl fp bd : Int32), TKN tb Z r kd so va si wo a n ∧ s = (fl, fp, kd, nI a, nI (a + n)) ∧ q = (ra, un, nI (a + n), nI Z, nI a, so, va, si, wo, wr, bd, xx) ∧ FL fl fp bd a
theorem TKN.mono {tb : Nat → Int8} {Z r r' : Nat} {kd so va si : Int32} {wo : Int64} {a n : Nat} (h : TKN tb Z r kd so va si wo a n) (e : r' ≤ r) : TKN tb Z r' kd so va si wo a n := ⟨Nat.le_trans e h.1, h.2⟩
theorem AL.to0 {tb : Nat → Int8} {Z r h r' : Nat} {ra un wr xx : Int32} {s : SX3} {q : SX12} (k : AL tb Z r h ra un wr xx s q) (e : h ≤ r) (e' : r' ≤ r) : AL0 tb Z r' ra un wr xx s q := by
  obtain ⟨a, n, kd, so, va, si, wo, fl, fp, bd, k1, k2, k3, k4⟩ := k
  exact ⟨a, n, kd, so, va, si, wo, fl, fp, bd, k1.mono e', k2, k3, k4.mono (Nat.le_trans e k1.1)⟩
def S79 (x : SX8) (tb : Nat → Int8) (s : SX3) (p : SX5) (ro : Nat → Int32) : Option (SX3 × SX5 × (Nat → Int32)) := match s with | (s1, s2, s3, s4, s5) => match p with | (p1, p2, p3, p4, p5, p6, p7, p8, p9, p10, p11, p12, p13, p14, p15) => f_X3_readStatement_79 x tb s1 s2 s3 s4 s5 p1 p2 p3 p4 p5 p6 p7 p8 p9 p10 p11 p12 p13 p14 p15 ro
theorem lc_ne {x y : Int64} (h : x ≠ y) : ¬ lg_cmp x y = 0 := fun q => h ((lg_cmp_eq x y).mp q)
theorem lc_eq {x y : Int64} (h : x = y) : lg_cmp x y = 0 := (lg_cmp_eq x y).mpr h
theorem le_0 {x : Int64} (h : x = WK 0) : lg_cmp x 491495646579 = 0 := lc_eq h
theorem ln_0 {x : Int64} (h : x ≠ WK 0) : ¬ lg_cmp x 491495646579 = 0 := lc_ne h
theorem le_1 {x : Int64} (h : x = WK 1) : lg_cmp x 513021013607 = 0 := lc_eq h
theorem ln_1 {x : Int64} (h : x ≠ WK 1) : ¬ lg_cmp x 513021013607 = 0 := lc_ne h
theorem le_2 {x : Int64} (h : x = WK 2) : lg_cmp x 119182899770472 = 0 := lc_eq h
theorem ln_2 {x : Int64} (h : x ≠ WK 2) : ¬ lg_cmp x 119182899770472 = 0 := lc_ne h
theorem le_3 {x : Int64} (h : x = WK 3) : lg_cmp x 1886350457 = 0 := lc_eq h
theorem ln_3 {x : Int64} (h : x ≠ WK 3) : ¬ lg_cmp x 1886350457 = 0 := lc_ne h
theorem le_4 {x : Int64} (h : x = WK 4) : lg_cmp x 512869299304 = 0 := lc_eq h
theorem ln_4 {x : Int64} (h : x ≠ WK 4) : ¬ lg_cmp x 512869299304 = 0 := lc_ne h
theorem le_5 {x : Int64} (h : x = WK 5) : lg_cmp x 126943922775406 = 0 := lc_eq h
theorem ln_5 {x : Int64} (h : x ≠ WK 5) : ¬ lg_cmp x 126943922775406 = 0 := lc_ne h
theorem le_6 {x : Int64} (h : x = WK 6) : lg_cmp x 465557353332 = 0 := lc_eq h
theorem ln_6 {x : Int64} (h : x ≠ WK 6) : ¬ lg_cmp x 465557353332 = 0 := lc_ne h
theorem le_7 {x : Int64} (h : x = WK 7) : lg_cmp x 431416239732 = 0 := lc_eq h
theorem ln_7 {x : Int64} (h : x ≠ WK 7) : ¬ lg_cmp x 431416239732 = 0 := lc_ne h
theorem le_8 {x : Int64} (h : x = WK 8) : lg_cmp x 7102823 = 0 := lc_eq h
theorem ln_8 {x : Int64} (h : x ≠ WK 8) : ¬ lg_cmp x 7102823 = 0 := lc_ne h
theorem neg50 : ∀ j : Nat, j ≤ 50 → nI j * (-1) = - nI j ∧ nI j * 1 = nI j := by decide +kernel
section STM
variable {Z : Nat}
theorem pe_line (hZ : Z ≤ 300) {tb tx : Nat → Int8} (hE : ∀ j, j < Z → tx j = tb j) {r a n : Nat} {kd so va si : Int32} {wo : Int64} {fl fp bd : Int32} (hT : TKN tb Z r kd so va si wo a n) (hF : FL fl fp bd a) (hk0 : ¬ kd = 0) {p : SX5} {ro tl : Nat → Int32} (hTR : fl = 0 → TR2 p ro tl) (t u ra un wr xx : Int32) :
    ∃ s1 p1 ro1 rr q1 tl1, f_X3_readStatement (fl, fp, kd, nI a, nI (a + n)) p ro (nI Z, t, u) tb = S79 (nI Z, t, u) tb s1 p1 ro1 ∧ f_X12_line (ra, un, nI (a + n), nI Z, nI a, so, va, si, wo, wr, bd, xx) tx tl = some (rr, q1, tl1) ∧
      ((∃ hd : Nat, DD hd s1 rr q1) ∨ (rr = 1 ∧ AL0 tb Z (a + 1) ra un wr xx s1 q1 ∧ (s1.1 = 0 → TR2 p1 ro1 tl1))) := by
  obtain ⟨p1, p2, p3, p4, p5, p6, p7, p8, p9, p10, p11, p12, p13, p14, p15⟩ := p
  have hn := hT.2.1
  -- the other tokens
  have other : ¬ kd = 1 → ¬ so = 2 → ∃ s1 pz ro1 rr q1 tl1, f_X3_readStatement (fl, fp, kd, nI a, nI (a + n)) (p1, p2, p3, p4, p5, p6, p7, p8, p9, p10, p11, p12, p13, p14, p15) ro (nI Z, t, u) tb = S79 (nI Z, t, u) tb s1 pz ro1 ∧ f_X12_line (ra, un, nI (a + n), nI Z, nI a, so, va, si, wo, wr, bd, xx) tx tl = some (rr, q1, tl1) ∧
      ((∃ hd : Nat, DD hd s1 rr q1) ∨ (rr = 1 ∧ AL0 tb Z (a + 1) ra un wr xx s1 q1 ∧ (s1.1 = 0 → TR2 pz ro1 tl1))) := by
    intro h1 h2
    refine ⟨(1, nI a, kd, nI a, nI (a + n)), (p1, p2, p3, p4, p5, p6, p7, p8, p9, p10, p11, p12, p13, p14, p15), ro, 0, (ra, un, nI (a + n), nI Z, nI a, so, va, si, wo, nI a, bd, xx), tl, ?_, ?_, Or.inl ⟨a, rfl, rfl, rfl, rfl⟩⟩
    · unfold f_X3_readStatement f_X3_readSingle
      simp only []
      rw [pe_iswN 0 h1, bso, if_pos rfl, pe_iswN 1 h1, bso, if_pos rfl, pe_iswN 2 h1, bso, if_pos rfl, pe_iswN 3 h1, bso, if_pos rfl, pe_iswN 4 h1, bso, if_pos rfl, pe_iswN 5 h1, bso, if_pos rfl, pe_iswN 6 h1, bso, if_pos rfl, pe_iswN 7 h1, bso, if_pos rfl, pe_iswN 8 h1, bso, if_pos rfl]
      rfl
    · unfold f_X12_line f_X12_line_16
      simp only []
      rw [if_neg h2, if_neg (show ¬ lg_cmp (0 : Int64) 491495646579 = 0 by decide +kernel), if_neg (show ¬ lg_cmp (0 : Int64) 431416239732 = 0 by decide +kernel), if_neg (show ¬ lg_cmp (0 : Int64) 7102823 = 0 by decide +kernel), if_neg (show ¬ lg_cmp (0 : Int64) 513021013607 = 0 by decide +kernel), if_neg (show ¬ lg_cmp (0 : Int64) 119182899770472 = 0 by decide +kernel), if_neg (show ¬ lg_cmp (0 : Int64) 1886350457 = 0 by decide +kernel), if_neg (show ¬ lg_cmp (0 : Int64) 512869299304 = 0 by decide +kernel), if_neg (show ¬ lg_cmp (0 : Int64) 126943922775406 = 0 by decide +kernel), if_neg (show ¬ lg_cmp (0 : Int64) 465557353332 = 0 by decide +kernel)]
      rw [show f_X12_fails (ra, un, nI (a + n), nI Z, nI a, so, va, si, wo, wr, bd, xx) = some (0, (ra, un, nI (a + n), nI Z, nI a, so, va, si, wo, nI a, bd, xx)) from rfl, bso]
      exact m_gI (show (0 : Int32) &&& 1 = 0 by decide)
  rcases hT.2.2 with ⟨k1, k2, k3⟩ | ⟨rfl, rfl, k3, k4, k5, k6⟩ | ⟨k1, k2, k3, k4, k5, k6, k7⟩ | ⟨k1, k2, k3⟩ | ⟨k1, k2, k3⟩
  · exact absurd k1 hk0
  · have isw : ∀ w, w < 9 → f_X3_isWord w (fl, fp, 1, nI a, nI (a + n)) (nI Z, t, u) tb = some (if wo = WK w then 1 else 0) := fun w hw => by
      rw [k6]; exact pe_isw hZ hw hn k4 fl fp t u
    clear k6
    obtain ⟨a', n', kd', so', va', si', wo', e1, e2, e3⟩ := pe_tok hZ hE hn fl fp 1 (nI a) t u ra un (nI a) 2 va si wo wr bd xx
    have ha' := e1.1
    have hn' := e1.2.1
    have hF' : FL fl fp bd a' := hF.mono (by omega)
    by_cases c0 : wo = WK 0
    · -- roles
      have row : ∃ s2 q2 rr pp2 ro2 tl2, f_X3_readRow (nI a) (fl, fp, kd', nI a', nI (a' + n')) (p1, p2, p3, p4, p5, p6, p7, p8, p9, p10, p11, p12, p13, p14, p15) ro (nI Z, t, u) tb = some (s2, (p1, pp2, p3, p4, p5, p6, p7, p8, p9, p10, p11, p12, p13, p14, p15), ro2) ∧ f_X12_rolesLine_11 tx (nI a) 65536 0 ra un (nI (a' + n')) (nI Z) (nI a') so' va' si' wo' wr bd xx tl = some (rr, q2, tl2) ∧ ((∃ hd : Nat, DD hd s2 rr q2) ∨ (rr = 1 ∧ AL tb Z (a + n) a ra un wr xx s2 q2 ∧ (∀ k, k < 8 → tl2 k = tl k) ∧ (s2.1 = 0 → fl = 0 ∧ ∃ S : Nat, 2 ≤ S ∧ S ≤ 12 ∧ pp2 = nI S ∧ tl2 8 = nI S ∧ ∀ j, j < S → EQN (ro2 j) (tl2 (9 + j))))) := by
        have go : kd' = 1 ∨ kd' = 2 → _ := fun hk => pe_row31 (p1 := p1) (p2 := p2) (p3 := p3) (p4 := p4) (p5 := p5) (p6 := p6) (p7 := p7) (p8 := p8) (p9 := p9) (p10 := p10) (p11 := p11) (p12 := p12) (p13 := p13) (p14 := p14) (p15 := p15) hZ hE (h := a) t u ra un wr xx 300 65535 65535 (by omega) (by omega) e1 (by omega) hF (by omega) (Nat.zero_le a') (Nat.zero_le a') (fun _ => hk) (F := 0) (C := 0) (ro := ro) (tl := tl) ⟨fun j hj => absurd hj (by omega), fun _ => ⟨rfl, rfl⟩⟩
        by_cases h1 : kd' = 1
        · obtain ⟨s2, q2, rr, pp2, ro2, tl2, g1, g2, g3⟩ := go (Or.inl h1)
          refine ⟨s2, q2, rr, pp2, ro2, tl2, ?_, g2, g3⟩
          unfold f_X3_readRow f_X3_readRow_28
          simp only []
          rw [if_pos h1]
          exact g1
        by_cases h2 : kd' = 2
        · obtain ⟨s2, q2, rr, pp2, ro2, tl2, g1, g2, g3⟩ := go (Or.inr h2)
          refine ⟨s2, q2, rr, pp2, ro2, tl2, ?_, g2, g3⟩
          unfold f_X3_readRow f_X3_readRow_28
          simp only []
          rw [if_neg h1, if_pos h2]
          exact g1
        have o3 : ¬ so' = 3 ∧ ¬ so' = 2 := by
          rcases e1.2.2 with ⟨_, q, _⟩ | ⟨q, _⟩ | ⟨q, _⟩ | ⟨_, q, _⟩ | ⟨_, q, _⟩
          · rw [q]; exact ⟨by decide, by decide⟩
          · exact absurd q h1
          · exact absurd q h2
          · rw [q]; exact ⟨by decide, by decide⟩
          · rw [q]; exact ⟨by decide, by decide⟩
        refine ⟨(1, nI a', kd', nI a', nI (a' + n')), (ra, un, nI (a' + n'), nI Z, nI a', so', va', si', wo', nI a', bd, xx), 0, p2, ro, tl, ?_, ?_, Or.inl ⟨a', rfl, rfl, rfl, rfl⟩⟩
        · unfold f_X3_readRow
          simp only []
          rw [if_neg h1, if_neg h2]
          rfl
        · rw [f_X12_rolesLine_11_s, if_neg o3.1, if_neg o3.2, if_pos rfl]
          rfl
      obtain ⟨s2, q2, rr, pp2, ro2, tl2, g1, g2, g3⟩ := row
      have h01 : rr = 0 ∨ rr = 1 := by
        rcases g3 with ⟨_, g3⟩ | ⟨g3, _⟩
        · exact Or.inl g3.2.2.1
        · exact Or.inr g3
      refine ⟨s2, (p1, pp2, p3, p4, p5, p6, p7, p8, p9, p10, p11, p12, p13, p14, p15), ro2, rr, q2, tl2, ?_, ?_, ?_⟩
      · unfold f_X3_readStatement
        simp only []
        rw [isw 0 (by decide), if_pos c0, bso, if_neg (show ¬ (1 : Int32) = 0 by decide), e2, bso, g1, bso]
        obtain ⟨z1, z2, z3, z4, z5⟩ := s2
        rfl
      · unfold f_X12_line f_X12_line_16
        simp only []
        rw [if_pos True.intro, if_pos (le_0 c0)]
        unfold f_X12_rolesLine
        simp only []
        rw [e3, bso, g2, bso]
        obtain ⟨z1, z2, z3, z4, z5, z6, z7, z8, z9, z10, z11, z12⟩ := q2
        exact m_gI (by rcases h01 with h | h <;> rw [h] <;> (first | exact (show (0 : Int32) &&& 1 = 0 by decide) | exact (show (1 : Int32) &&& 1 = 1 by decide)))
      · rcases g3 with g3 | ⟨g3, g4, g5, g6⟩
        · exact Or.inl g3
        · refine Or.inr ⟨g3, g4.to0 (by omega) (by omega), fun q => ?_⟩
          obtain ⟨f0, S, f1, f2, f3, f4, f5⟩ := g6 q
          obtain ⟨⟨x0, x1, x2, x3, x4, x5, x6, x7, _⟩, ⟨L9, l1, l2⟩, ⟨w9, m1, m2⟩, ⟨st9, n1, n2⟩, _⟩ := hTR f0
          exact ⟨⟨x0.trans (g5 0 (by decide)).symm, x1.trans (g5 1 (by decide)).symm, x2.trans (g5 2 (by decide)).symm, x3.trans (g5 3 (by decide)).symm, x4.trans (g5 4 (by decide)).symm, x5.trans (g5 5 (by decide)).symm, x6.trans (g5 6 (by decide)).symm, x7.trans (g5 7 (by decide)).symm, S, f1, f2, f3, f4, f5⟩, ⟨L9, (g5 0 (by decide)).trans l1, l2⟩, ⟨w9, (g5 2 (by decide)).trans m1, m2⟩, ⟨st9, (g5 3 (by decide)).trans n1, n2⟩, ⟨S, f4, f1, f2⟩⟩
    by_cases c1 : wo = WK 1
    · -- wrong
      obtain ⟨v, s2, rr, q2, tl2, g1, g2, g3⟩ := pe_takes (wh := 5) (lo := 1) (lo' := 1) (hi := 4) hZ hE e1 hF' (by decide) (fun _ => rfl) (by decide) t u ra un wr xx tl
      rcases g3 with ⟨g3, gv⟩ | ⟨rfl, gn, g4, g5, g6⟩
      · -- dead at the first number: the second is not looked at
        obtain ⟨d1, d2, d3, d4⟩ := g3
        subst d3
        obtain ⟨y1, y2, y3, y4, y5⟩ := s2
        have d1 : y1 = 1 := d1
        subst d1
        refine ⟨(1, y2, y3, y4, y5), (p1, p2, p3, p4, p5, p6, v, v, p9, p10, p11, p12, p13, p14, p15), ro, 0, q2, tl2, ?_, ?_, Or.inl ⟨a', rfl, d2, rfl, d4⟩⟩
        · unfold f_X3_readStatement
          simp only []
          rw [isw 0 (by decide), if_neg c0, bso, if_pos rfl, isw 1 (by decide), if_pos c1, bso, if_neg (show ¬ (1 : Int32) = 0 by decide), e2, bso, g1, bso]
          have rn : f_X3_readNumber v 8 (1, y2, y3, y4, y5) (nI Z, t, u) tb = some (v, (1, y2, y3, y4, y5)) := by unfold f_X3_readNumber; simp only []; rw [if_pos True.intro]
          simp only []
          rw [rn, bso]
          rfl
        · unfold f_X12_line f_X12_line_16
          simp only []
          rw [if_pos True.intro, if_neg (ln_0 (fun q => absurd (WK_inj 1 (by decide) 0 (by decide) (c1.symm.trans q)) (by decide))), if_neg (ln_7 (fun q => absurd (WK_inj 1 (by decide) 7 (by decide) (c1.symm.trans q)) (by decide))), if_neg (ln_8 (fun q => absurd (WK_inj 1 (by decide) 8 (by decide) (c1.symm.trans q)) (by decide))), if_pos (le_1 c1), e3, bso]
          simp only []
          rw [show f_X12_takes 5 1 4 (ra, un, nI (a' + n'), nI Z, nI a', so', va', si', wo', wr, bd, xx) tx tl = some (0, q2, tl2) from g2, bso]
          obtain ⟨z1, z2, z3, z4, z5, z6, z7, z8, z9, z10, z11, z12⟩ := q2
          simp only []
          rw [if_pos True.intro]
      · obtain ⟨a2, n2, kd2, so2, va2, si2, wo2, fl2, fp2, bd2, h1, rfl, rfl, h4⟩ := g4
        have g6 : fl2 = 0 → fl = 0 ∧ v = va' ∧ 1 ≤ v ∧ v ≤ 4 := g6
        have ha2 := h1.1
        have t5 : tl2 5 = va' := by rw [g5]; exact upd_same _ _ _
        obtain ⟨v3, s3, rr3, q3, tl3, k1, k2, k3'⟩ := pe_takes (wh := 6) (lo := v) (lo' := tl2 5) (hi := 8) hZ hE h1 (h4.mono (by omega)) (by decide) (fun q => by rw [t5]; exact (g6 q).2.1) (by decide) t u ra un wr xx tl2
        have h01 : rr3 = 0 ∨ rr3 = 1 := by
          rcases k3' with ⟨q, _⟩ | ⟨q, _⟩
          · exact Or.inl q.2.2.1
          · exact Or.inr q
        refine ⟨s3, (p1, p2, p3, p4, p5, p6, v, v3, p9, p10, p11, p12, p13, p14, p15), ro, rr3, q3, tl3, ?_, ?_, ?_⟩
        · unfold f_X3_readStatement
          simp only []
          rw [isw 0 (by decide), if_neg c0, bso, if_pos rfl, isw 1 (by decide), if_pos c1, bso, if_neg (show ¬ (1 : Int32) = 0 by decide), e2, bso, g1, bso]
          simp only []
          rw [k1, bso]
          obtain ⟨z1, z2, z3, z4, z5⟩ := s3
          rfl
        · unfold f_X12_line f_X12_line_16
          simp only []
          rw [if_pos True.intro, if_neg (ln_0 (fun q => absurd (WK_inj 1 (by decide) 0 (by decide) (c1.symm.trans q)) (by decide))), if_neg (ln_7 (fun q => absurd (WK_inj 1 (by decide) 7 (by decide) (c1.symm.trans q)) (by decide))), if_neg (ln_8 (fun q => absurd (WK_inj 1 (by decide) 8 (by decide) (c1.symm.trans q)) (by decide))), if_pos (le_1 c1), e3, bso]
          simp only []
          rw [show f_X12_takes 5 1 4 (ra, un, nI (a' + n'), nI Z, nI a', so', va', si', wo', wr, bd, xx) tx tl = _ from g2, bso]
          simp only []
          rw [if_neg (show ¬ (1 : Int32) = 0 by decide), show f_X12_takes 6 (tl2 5) 8 (ra, un, nI (a2 + n2), nI Z, nI a2, so2, va2, si2, wo2, wr, bd2, xx) tx tl2 = _ from k2, bso]
          obtain ⟨z1, z2, z3, z4, z5, z6, z7, z8, z9, z10, z11, z12⟩ := q3
          simp only []
          rcases h01 with h | h
          · rw [h, if_pos rfl]
          · rw [h, if_neg (show ¬ (1 : Int32) = 0 by decide)]
        · rcases k3' with ⟨q, _⟩ | ⟨q0, q1, q2, q3, q4⟩
          · exact Or.inl ⟨a2, q⟩
          · refine Or.inr ⟨q0, q2.to0 (by omega) (by omega), fun q => ?_⟩
            obtain ⟨w1, w2, w3, w4⟩ := q4 q
            obtain ⟨y1, y2, y3, y4⟩ := g6 w1
            obtain ⟨⟨x0, x1, x2, x3, x4, x5, x6, x7, R, x8, x9, x10, x11, x12⟩, ⟨L9, l1, l2⟩, ⟨w9, m1, m2⟩, ⟨st9, n1, n2⟩, _⟩ := hTR y1
            have o : ∀ k, k ≠ 5 → k ≠ 6 → tl3 k = tl k := fun k i1 i2 => by rw [q3, upd_ne _ _ i2, g5, upd_ne _ _ i1]
            refine ⟨⟨x0.trans (o 0 (by decide) (by decide)).symm, x1.trans (o 1 (by decide) (by decide)).symm, x2.trans (o 2 (by decide) (by decide)).symm, x3.trans (o 3 (by decide) (by decide)).symm, x4.trans (o 4 (by decide) (by decide)).symm, ?_, ?_, x7.trans (o 7 (by decide) (by decide)).symm, R, x8, x9, x10, (o 8 (by decide) (by decide)).trans x11, fun j hj => (x12 j hj).trans (o _ (by omega) (by omega)).symm⟩, ⟨L9, (o 0 (by decide) (by decide)).trans l1, l2⟩, ⟨w9, (o 2 (by decide) (by decide)).trans m1, m2⟩, ⟨st9, (o 3 (by decide) (by decide)).trans n1, n2⟩, ⟨R, (o 8 (by decide) (by decide)).trans x11, x8, x9⟩⟩
            · rw [q3, upd_ne _ _ (by decide), t5]; exact y2
            · rw [q3, upd_same]; exact w2
    by_cases c2 : wo = WK 2
    · -- length
      obtain ⟨v, s2, rr, q2, tl2, g1, g2, g3⟩ := pe_takes (wh := 0) (lo := 4) (lo' := 4) (hi := 24) hZ hE e1 hF' (by decide) (fun _ => rfl) (by decide) t u ra un wr xx tl
      have h01 : rr = 0 ∨ rr = 1 := by
        rcases g3 with ⟨q, _⟩ | ⟨q, _⟩
        · exact Or.inl q.2.2.1
        · exact Or.inr q
      refine ⟨s2, (v, p2, p3, p4, p5, p6, p7, p8, p9, p10, p11, p12, p13, p14, p15), ro, rr, q2, tl2, ?_, ?_, ?_⟩
      · unfold f_X3_readStatement f_X3_readSingle
        simp only []
        rw [isw 0 (by decide), if_neg c0, bso, if_pos rfl, isw 1 (by decide), if_neg c1, bso, if_pos rfl, isw 2 (by decide), if_pos c2, bso, if_neg (show ¬ (1 : Int32) = 0 by decide), e2, bso, g1, bso]
        obtain ⟨z1, z2, z3, z4, z5⟩ := s2
        rfl
      · unfold f_X12_line f_X12_line_16 f_X12_line_154
        simp only []
        rw [if_pos True.intro, if_neg (ln_0 (fun q => absurd (WK_inj 2 (by decide) 0 (by decide) (c2.symm.trans q)) (by decide))), if_neg (ln_7 (fun q => absurd (WK_inj 2 (by decide) 7 (by decide) (c2.symm.trans q)) (by decide))), if_neg (ln_8 (fun q => absurd (WK_inj 2 (by decide) 8 (by decide) (c2.symm.trans q)) (by decide))), if_neg (ln_1 (fun q => absurd (WK_inj 2 (by decide) 1 (by decide) (c2.symm.trans q)) (by decide))), if_pos (le_2 c2), e3, bso]
        simp only []
        rw [if_pos (le_2 c2), show f_X12_takes 0 4 24 (ra, un, nI (a' + n'), nI Z, nI a', so', va', si', wo', wr, bd, xx) tx tl = _ from g2, bso]
        obtain ⟨z1, z2, z3, z4, z5, z6, z7, z8, z9, z10, z11, z12⟩ := q2
        exact m_gI (by rcases h01 with h | h <;> rw [h] <;> (first | exact (show (0 : Int32) &&& 1 = 0 by decide) | exact (show (1 : Int32) &&& 1 = 1 by decide)))
      · rcases g3 with ⟨q, _⟩ | ⟨q0, q1, q2, q3, q4⟩
        · exact Or.inl ⟨a', q⟩
        · refine Or.inr ⟨q0, q2.to0 (by omega) (by omega), fun q => ?_⟩
          obtain ⟨w1, w2, w3, w4⟩ := q4 q
          obtain ⟨⟨x0, x1, x2, x3, x4, x5, x6, x7, R, x8, x9, x10, x11, x12⟩, k0, k2, k3, k8⟩ := hTR w1
          have o : ∀ k, k ≠ 0 → tl2 k = tl k := fun k i1 => by rw [q3, upd_ne _ _ i1]
          have e : v = tl2 0 := by rw [q3, upd_same]; exact w2
          obtain ⟨j0, b0, c0, v0⟩ := rn_nat (lo := 4) (hi := 24) (by decide) (by decide) w3 w4
          exact ⟨⟨e, x1.trans (o 1 (by decide)).symm, x2.trans (o 2 (by decide)).symm, x3.trans (o 3 (by decide)).symm, x4.trans (o 4 (by decide)).symm, x5.trans (o 5 (by decide)).symm, x6.trans (o 6 (by decide)).symm, x7.trans (o 7 (by decide)).symm, R, x8, x9, x10, (o 8 (by decide)).trans x11, fun j hj => (x12 j hj).trans (o _ (by omega)).symm⟩, ⟨j0, e.symm.trans v0, b0, c0⟩, (by rw [o 2 (by decide)]; exact k2), (by rw [o 3 (by decide)]; exact k3), ⟨R, (o 8 (by decide)).trans x11, x8, x9⟩⟩
    by_cases c3 : wo = WK 3
    · -- poly
      obtain ⟨v, s2, rr, q2, tl2, g1, g2, g3⟩ := pe_takes (wh := 1) (lo := 0) (lo' := 0) (hi := 63) hZ hE e1 hF' (by decide) (fun _ => rfl) (by decide) t u ra un wr xx tl
      have h01 : rr = 0 ∨ rr = 1 := by
        rcases g3 with ⟨q, _⟩ | ⟨q, _⟩
        · exact Or.inl q.2.2.1
        · exact Or.inr q
      refine ⟨s2, (p1, p2, v, p4, p5, p6, p7, p8, p9, p10, p11, p12, p13, p14, p15), ro, rr, q2, tl2, ?_, ?_, ?_⟩
      · unfold f_X3_readStatement f_X3_readSingle
        simp only []
        rw [isw 0 (by decide), if_neg c0, bso, if_pos rfl, isw 1 (by decide), if_neg c1, bso, if_pos rfl, isw 2 (by decide), if_neg c2, bso, if_pos rfl, isw 3 (by decide), if_pos c3, bso, if_neg (show ¬ (1 : Int32) = 0 by decide), e2, bso, g1, bso]
        obtain ⟨z1, z2, z3, z4, z5⟩ := s2
        rfl
      · unfold f_X12_line f_X12_line_16 f_X12_line_154
        simp only []
        rw [if_pos True.intro, if_neg (ln_0 (fun q => absurd (WK_inj 3 (by decide) 0 (by decide) (c3.symm.trans q)) (by decide))), if_neg (ln_7 (fun q => absurd (WK_inj 3 (by decide) 7 (by decide) (c3.symm.trans q)) (by decide))), if_neg (ln_8 (fun q => absurd (WK_inj 3 (by decide) 8 (by decide) (c3.symm.trans q)) (by decide))), if_neg (ln_1 (fun q => absurd (WK_inj 3 (by decide) 1 (by decide) (c3.symm.trans q)) (by decide))), if_neg (ln_2 (fun q => absurd (WK_inj 3 (by decide) 2 (by decide) (c3.symm.trans q)) (by decide))), if_pos (le_3 c3), e3, bso]
        simp only []
        rw [if_neg (ln_2 (fun q => absurd (WK_inj 3 (by decide) 2 (by decide) (c3.symm.trans q)) (by decide))), if_pos (le_3 c3), show f_X12_takes 1 0 63 (ra, un, nI (a' + n'), nI Z, nI a', so', va', si', wo', wr, bd, xx) tx tl = _ from g2, bso]
        obtain ⟨z1, z2, z3, z4, z5, z6, z7, z8, z9, z10, z11, z12⟩ := q2
        exact m_gI (by rcases h01 with h | h <;> rw [h] <;> (first | exact (show (0 : Int32) &&& 1 = 0 by decide) | exact (show (1 : Int32) &&& 1 = 1 by decide)))
      · rcases g3 with ⟨q, _⟩ | ⟨q0, q1, q2, q3, q4⟩
        · exact Or.inl ⟨a', q⟩
        · refine Or.inr ⟨q0, q2.to0 (by omega) (by omega), fun q => ?_⟩
          obtain ⟨w1, w2, w3, w4⟩ := q4 q
          obtain ⟨⟨x0, x1, x2, x3, x4, x5, x6, x7, R, x8, x9, x10, x11, x12⟩, k0, k2, k3, k8⟩ := hTR w1
          have o : ∀ k, k ≠ 1 → tl2 k = tl k := fun k i1 => by rw [q3, upd_ne _ _ i1]
          have e : v = tl2 1 := by rw [q3, upd_same]; exact w2
          exact ⟨⟨x0.trans (o 0 (by decide)).symm, e, x2.trans (o 2 (by decide)).symm, x3.trans (o 3 (by decide)).symm, x4.trans (o 4 (by decide)).symm, x5.trans (o 5 (by decide)).symm, x6.trans (o 6 (by decide)).symm, x7.trans (o 7 (by decide)).symm, R, x8, x9, x10, (o 8 (by decide)).trans x11, fun j hj => (x12 j hj).trans (o _ (by omega)).symm⟩, (by rw [o 0 (by decide)]; exact k0), (by rw [o 2 (by decide)]; exact k2), (by rw [o 3 (by decide)]; exact k3), ⟨R, (o 8 (by decide)).trans x11, x8, x9⟩⟩
    by_cases c4 : wo = WK 4
    · -- width
      obtain ⟨v, s2, rr, q2, tl2, g1, g2, g3⟩ := pe_takes (wh := 2) (lo := 1) (lo' := 1) (hi := 8) hZ hE e1 hF' (by decide) (fun _ => rfl) (by decide) t u ra un wr xx tl
      have h01 : rr = 0 ∨ rr = 1 := by
        rcases g3 with ⟨q, _⟩ | ⟨q, _⟩
        · exact Or.inl q.2.2.1
        · exact Or.inr q
      refine ⟨s2, (p1, p2, p3, v, p5, p6, p7, p8, p9, p10, p11, p12, p13, p14, p15), ro, rr, q2, tl2, ?_, ?_, ?_⟩
      · unfold f_X3_readStatement f_X3_readSingle
        simp only []
        rw [isw 0 (by decide), if_neg c0, bso, if_pos rfl, isw 1 (by decide), if_neg c1, bso, if_pos rfl, isw 2 (by decide), if_neg c2, bso, if_pos rfl, isw 3 (by decide), if_neg c3, bso, if_pos rfl, isw 4 (by decide), if_pos c4, bso, if_neg (show ¬ (1 : Int32) = 0 by decide), e2, bso, g1, bso]
        obtain ⟨z1, z2, z3, z4, z5⟩ := s2
        rfl
      · unfold f_X12_line f_X12_line_16 f_X12_line_154
        simp only []
        rw [if_pos True.intro, if_neg (ln_0 (fun q => absurd (WK_inj 4 (by decide) 0 (by decide) (c4.symm.trans q)) (by decide))), if_neg (ln_7 (fun q => absurd (WK_inj 4 (by decide) 7 (by decide) (c4.symm.trans q)) (by decide))), if_neg (ln_8 (fun q => absurd (WK_inj 4 (by decide) 8 (by decide) (c4.symm.trans q)) (by decide))), if_neg (ln_1 (fun q => absurd (WK_inj 4 (by decide) 1 (by decide) (c4.symm.trans q)) (by decide))), if_neg (ln_2 (fun q => absurd (WK_inj 4 (by decide) 2 (by decide) (c4.symm.trans q)) (by decide))), if_neg (ln_3 (fun q => absurd (WK_inj 4 (by decide) 3 (by decide) (c4.symm.trans q)) (by decide))), if_pos (le_4 c4), e3, bso]
        simp only []
        rw [if_neg (ln_2 (fun q => absurd (WK_inj 4 (by decide) 2 (by decide) (c4.symm.trans q)) (by decide))), if_neg (ln_3 (fun q => absurd (WK_inj 4 (by decide) 3 (by decide) (c4.symm.trans q)) (by decide))), if_pos (le_4 c4), show f_X12_takes 2 1 8 (ra, un, nI (a' + n'), nI Z, nI a', so', va', si', wo', wr, bd, xx) tx tl = _ from g2, bso]
        obtain ⟨z1, z2, z3, z4, z5, z6, z7, z8, z9, z10, z11, z12⟩ := q2
        exact m_gI (by rcases h01 with h | h <;> rw [h] <;> (first | exact (show (0 : Int32) &&& 1 = 0 by decide) | exact (show (1 : Int32) &&& 1 = 1 by decide)))
      · rcases g3 with ⟨q, _⟩ | ⟨q0, q1, q2, q3, q4⟩
        · exact Or.inl ⟨a', q⟩
        · refine Or.inr ⟨q0, q2.to0 (by omega) (by omega), fun q => ?_⟩
          obtain ⟨w1, w2, w3, w4⟩ := q4 q
          obtain ⟨⟨x0, x1, x2, x3, x4, x5, x6, x7, R, x8, x9, x10, x11, x12⟩, k0, k2, k3, k8⟩ := hTR w1
          have o : ∀ k, k ≠ 2 → tl2 k = tl k := fun k i1 => by rw [q3, upd_ne _ _ i1]
          have e : v = tl2 2 := by rw [q3, upd_same]; exact w2
          obtain ⟨j2, b2, c2, v2⟩ := rn_nat (lo := 1) (hi := 8) (by decide) (by decide) w3 w4
          exact ⟨⟨x0.trans (o 0 (by decide)).symm, x1.trans (o 1 (by decide)).symm, e, x3.trans (o 3 (by decide)).symm, x4.trans (o 4 (by decide)).symm, x5.trans (o 5 (by decide)).symm, x6.trans (o 6 (by decide)).symm, x7.trans (o 7 (by decide)).symm, R, x8, x9, x10, (o 8 (by decide)).trans x11, fun j hj => (x12 j hj).trans (o _ (by omega)).symm⟩, (by rw [o 0 (by decide)]; exact k0), ⟨j2, e.symm.trans v2, b2, c2⟩, (by rw [o 3 (by decide)]; exact k3), ⟨R, (o 8 (by decide)).trans x11, x8, x9⟩⟩
    by_cases c5 : wo = WK 5
    · -- stolen
      obtain ⟨v, s2, rr, q2, tl2, g1, g2, g3⟩ := pe_takes (wh := 3) (lo := 0) (lo' := 0) (hi := 12) hZ hE e1 hF' (by decide) (fun _ => rfl) (by decide) t u ra un wr xx tl
      have h01 : rr = 0 ∨ rr = 1 := by
        rcases g3 with ⟨q, _⟩ | ⟨q, _⟩
        · exact Or.inl q.2.2.1
        · exact Or.inr q
      refine ⟨s2, (p1, p2, p3, p4, v, p6, p7, p8, p9, p10, p11, p12, p13, p14, p15), ro, rr, q2, tl2, ?_, ?_, ?_⟩
      · unfold f_X3_readStatement f_X3_readSingle
        simp only []
        rw [isw 0 (by decide), if_neg c0, bso, if_pos rfl, isw 1 (by decide), if_neg c1, bso, if_pos rfl, isw 2 (by decide), if_neg c2, bso, if_pos rfl, isw 3 (by decide), if_neg c3, bso, if_pos rfl, isw 4 (by decide), if_neg c4, bso, if_pos rfl, isw 5 (by decide), if_pos c5, bso, if_neg (show ¬ (1 : Int32) = 0 by decide), e2, bso, g1, bso]
        obtain ⟨z1, z2, z3, z4, z5⟩ := s2
        rfl
      · unfold f_X12_line f_X12_line_16 f_X12_line_154
        simp only []
        rw [if_pos True.intro, if_neg (ln_0 (fun q => absurd (WK_inj 5 (by decide) 0 (by decide) (c5.symm.trans q)) (by decide))), if_neg (ln_7 (fun q => absurd (WK_inj 5 (by decide) 7 (by decide) (c5.symm.trans q)) (by decide))), if_neg (ln_8 (fun q => absurd (WK_inj 5 (by decide) 8 (by decide) (c5.symm.trans q)) (by decide))), if_neg (ln_1 (fun q => absurd (WK_inj 5 (by decide) 1 (by decide) (c5.symm.trans q)) (by decide))), if_neg (ln_2 (fun q => absurd (WK_inj 5 (by decide) 2 (by decide) (c5.symm.trans q)) (by decide))), if_neg (ln_3 (fun q => absurd (WK_inj 5 (by decide) 3 (by decide) (c5.symm.trans q)) (by decide))), if_neg (ln_4 (fun q => absurd (WK_inj 5 (by decide) 4 (by decide) (c5.symm.trans q)) (by decide))), if_pos (le_5 c5), e3, bso]
        simp only []
        rw [if_neg (ln_2 (fun q => absurd (WK_inj 5 (by decide) 2 (by decide) (c5.symm.trans q)) (by decide))), if_neg (ln_3 (fun q => absurd (WK_inj 5 (by decide) 3 (by decide) (c5.symm.trans q)) (by decide))), if_neg (ln_4 (fun q => absurd (WK_inj 5 (by decide) 4 (by decide) (c5.symm.trans q)) (by decide))), if_pos (le_5 c5), show f_X12_takes 3 0 12 (ra, un, nI (a' + n'), nI Z, nI a', so', va', si', wo', wr, bd, xx) tx tl = _ from g2, bso]
        obtain ⟨z1, z2, z3, z4, z5, z6, z7, z8, z9, z10, z11, z12⟩ := q2
        exact m_gI (by rcases h01 with h | h <;> rw [h] <;> (first | exact (show (0 : Int32) &&& 1 = 0 by decide) | exact (show (1 : Int32) &&& 1 = 1 by decide)))
      · rcases g3 with ⟨q, _⟩ | ⟨q0, q1, q2, q3, q4⟩
        · exact Or.inl ⟨a', q⟩
        · refine Or.inr ⟨q0, q2.to0 (by omega) (by omega), fun q => ?_⟩
          obtain ⟨w1, w2, w3, w4⟩ := q4 q
          obtain ⟨⟨x0, x1, x2, x3, x4, x5, x6, x7, R, x8, x9, x10, x11, x12⟩, k0, k2, k3, k8⟩ := hTR w1
          have o : ∀ k, k ≠ 3 → tl2 k = tl k := fun k i1 => by rw [q3, upd_ne _ _ i1]
          have e : v = tl2 3 := by rw [q3, upd_same]; exact w2
          obtain ⟨j3, b3, c3, v3⟩ := rn_nat (lo := 0) (hi := 12) (by decide) (by decide) w3 w4
          exact ⟨⟨x0.trans (o 0 (by decide)).symm, x1.trans (o 1 (by decide)).symm, x2.trans (o 2 (by decide)).symm, e, x4.trans (o 4 (by decide)).symm, x5.trans (o 5 (by decide)).symm, x6.trans (o 6 (by decide)).symm, x7.trans (o 7 (by decide)).symm, R, x8, x9, x10, (o 8 (by decide)).trans x11, fun j hj => (x12 j hj).trans (o _ (by omega)).symm⟩, (by rw [o 0 (by decide)]; exact k0), (by rw [o 2 (by decide)]; exact k2), ⟨j3, e.symm.trans v3, c3⟩, ⟨R, (o 8 (by decide)).trans x11, x8, x9⟩⟩
    by_cases c6 : wo = WK 6
    · -- least
      obtain ⟨v, s2, rr, q2, tl2, g1, g2, g3⟩ := pe_takes (wh := 4) (lo := 2) (lo' := 2) (hi := 24) hZ hE e1 hF' (by decide) (fun _ => rfl) (by decide) t u ra un wr xx tl
      have h01 : rr = 0 ∨ rr = 1 := by
        rcases g3 with ⟨q, _⟩ | ⟨q, _⟩
        · exact Or.inl q.2.2.1
        · exact Or.inr q
      refine ⟨s2, (p1, p2, p3, p4, p5, v, p7, p8, p9, p10, p11, p12, p13, p14, p15), ro, rr, q2, tl2, ?_, ?_, ?_⟩
      · unfold f_X3_readStatement f_X3_readSingle
        simp only []
        rw [isw 0 (by decide), if_neg c0, bso, if_pos rfl, isw 1 (by decide), if_neg c1, bso, if_pos rfl, isw 2 (by decide), if_neg c2, bso, if_pos rfl, isw 3 (by decide), if_neg c3, bso, if_pos rfl, isw 4 (by decide), if_neg c4, bso, if_pos rfl, isw 5 (by decide), if_neg c5, bso, if_pos rfl, isw 6 (by decide), if_pos c6, bso, if_neg (show ¬ (1 : Int32) = 0 by decide), e2, bso, g1, bso]
        obtain ⟨z1, z2, z3, z4, z5⟩ := s2
        rfl
      · unfold f_X12_line f_X12_line_16 f_X12_line_154
        simp only []
        rw [if_pos True.intro, if_neg (ln_0 (fun q => absurd (WK_inj 6 (by decide) 0 (by decide) (c6.symm.trans q)) (by decide))), if_neg (ln_7 (fun q => absurd (WK_inj 6 (by decide) 7 (by decide) (c6.symm.trans q)) (by decide))), if_neg (ln_8 (fun q => absurd (WK_inj 6 (by decide) 8 (by decide) (c6.symm.trans q)) (by decide))), if_neg (ln_1 (fun q => absurd (WK_inj 6 (by decide) 1 (by decide) (c6.symm.trans q)) (by decide))), if_neg (ln_2 (fun q => absurd (WK_inj 6 (by decide) 2 (by decide) (c6.symm.trans q)) (by decide))), if_neg (ln_3 (fun q => absurd (WK_inj 6 (by decide) 3 (by decide) (c6.symm.trans q)) (by decide))), if_neg (ln_4 (fun q => absurd (WK_inj 6 (by decide) 4 (by decide) (c6.symm.trans q)) (by decide))), if_neg (ln_5 (fun q => absurd (WK_inj 6 (by decide) 5 (by decide) (c6.symm.trans q)) (by decide))), if_pos (le_6 c6), e3, bso]
        simp only []
        rw [if_neg (ln_2 (fun q => absurd (WK_inj 6 (by decide) 2 (by decide) (c6.symm.trans q)) (by decide))), if_neg (ln_3 (fun q => absurd (WK_inj 6 (by decide) 3 (by decide) (c6.symm.trans q)) (by decide))), if_neg (ln_4 (fun q => absurd (WK_inj 6 (by decide) 4 (by decide) (c6.symm.trans q)) (by decide))), if_neg (ln_5 (fun q => absurd (WK_inj 6 (by decide) 5 (by decide) (c6.symm.trans q)) (by decide))), show f_X12_takes 4 2 24 (ra, un, nI (a' + n'), nI Z, nI a', so', va', si', wo', wr, bd, xx) tx tl = _ from g2, bso]
        obtain ⟨z1, z2, z3, z4, z5, z6, z7, z8, z9, z10, z11, z12⟩ := q2
        exact m_gI (by rcases h01 with h | h <;> rw [h] <;> (first | exact (show (0 : Int32) &&& 1 = 0 by decide) | exact (show (1 : Int32) &&& 1 = 1 by decide)))
      · rcases g3 with ⟨q, _⟩ | ⟨q0, q1, q2, q3, q4⟩
        · exact Or.inl ⟨a', q⟩
        · refine Or.inr ⟨q0, q2.to0 (by omega) (by omega), fun q => ?_⟩
          obtain ⟨w1, w2, w3, w4⟩ := q4 q
          obtain ⟨⟨x0, x1, x2, x3, x4, x5, x6, x7, R, x8, x9, x10, x11, x12⟩, k0, k2, k3, k8⟩ := hTR w1
          have o : ∀ k, k ≠ 4 → tl2 k = tl k := fun k i1 => by rw [q3, upd_ne _ _ i1]
          have e : v = tl2 4 := by rw [q3, upd_same]; exact w2
          exact ⟨⟨x0.trans (o 0 (by decide)).symm, x1.trans (o 1 (by decide)).symm, x2.trans (o 2 (by decide)).symm, x3.trans (o 3 (by decide)).symm, e, x5.trans (o 5 (by decide)).symm, x6.trans (o 6 (by decide)).symm, x7.trans (o 7 (by decide)).symm, R, x8, x9, x10, (o 8 (by decide)).trans x11, fun j hj => (x12 j hj).trans (o _ (by omega)).symm⟩, (by rw [o 0 (by decide)]; exact k0), (by rw [o 2 (by decide)]; exact k2), (by rw [o 3 (by decide)]; exact k3), ⟨R, (o 8 (by decide)).trans x11, x8, x9⟩⟩
    by_cases c7 : wo = WK 7
    · -- drift
      obtain ⟨v, s2, rr, q2, tl2, g1, g2, g3⟩ := pe_takes (wh := 7) (lo := 0) (lo' := 0) (hi := 50) hZ hE e1 hF' (by decide) (fun _ => rfl) (by decide) t u ra un wr xx tl
      have h01 : rr = 0 ∨ rr = 1 := by
        rcases g3 with ⟨q, _⟩ | ⟨q, _⟩
        · exact Or.inl q.2.2.1
        · exact Or.inr q
      refine ⟨s2, (p1, p2, p3, p4, p5, p6, p7, p8, v, p10, p11, p12, p13, p14, p15), ro, rr, q2, (if rr = 0 then tl2 else upd tl2 7 (tl2 7 * (1))), ?_, ?_, ?_⟩
      · unfold f_X3_readStatement f_X3_readSingle
        simp only []
        rw [isw 0 (by decide), if_neg c0, bso, if_pos rfl, isw 1 (by decide), if_neg c1, bso, if_pos rfl, isw 2 (by decide), if_neg c2, bso, if_pos rfl, isw 3 (by decide), if_neg c3, bso, if_pos rfl, isw 4 (by decide), if_neg c4, bso, if_pos rfl, isw 5 (by decide), if_neg c5, bso, if_pos rfl, isw 6 (by decide), if_neg c6, bso, if_pos rfl, isw 7 (by decide), if_pos c7, bso, if_neg (show ¬ (1 : Int32) = 0 by decide), e2, bso, g1, bso]
        obtain ⟨z1, z2, z3, z4, z5⟩ := s2
        rfl
      · unfold f_X12_line f_X12_line_16 f_X12_line_46 f_X12_driftLine
        simp only []
        rw [if_pos True.intro, if_neg (ln_0 (fun q => absurd (WK_inj 7 (by decide) 0 (by decide) (c7.symm.trans q)) (by decide))), if_pos (le_7 c7), if_neg (ln_8 (fun q => absurd (WK_inj 7 (by decide) 8 (by decide) (c7.symm.trans q)) (by decide))), e3, bso, show f_X12_takes 7 0 50 (ra, un, nI (a' + n'), nI Z, nI a', so', va', si', wo', wr, bd, xx) tx tl = _ from g2, bso]
        obtain ⟨z1, z2, z3, z4, z5, z6, z7, z8, z9, z10, z11, z12⟩ := q2
        rcases h01 with h | h
        · subst h
          rw [if_pos rfl, if_pos rfl, bso]
          exact m_gI (by (first | exact (show (0 : Int32) &&& 1 = 0 by decide) | exact (show (1 : Int32) &&& 1 = 1 by decide)))
        · subst h
          rw [if_neg (show ¬ (1 : Int32) = 0 by decide), if_neg (show ¬ (1 : Int32) = 0 by decide), bso]
          exact m_gI (by (first | exact (show (0 : Int32) &&& 1 = 0 by decide) | exact (show (1 : Int32) &&& 1 = 1 by decide)))
      · rcases g3 with ⟨q, _⟩ | ⟨q0, q1, q2, q3, q4⟩
        · exact Or.inl ⟨a', q⟩
        · refine Or.inr ⟨q0, q2.to0 (by omega) (by omega), fun q => ?_⟩
          obtain ⟨w1, w2, w3, w4⟩ := q4 q
          obtain ⟨⟨x0, x1, x2, x3, x4, x5, x6, x7, R, x8, x9, x10, x11, x12⟩, k0, k2, k3, k8⟩ := hTR w1
          rw [if_neg (show ¬ rr = 0 by rw [q0]; decide)]
          obtain ⟨j9, _, hj9, ev⟩ := rn_nat (lo := 0) (hi := 50) (by decide) (by decide) w3 w4
          have o : ∀ k, k ≠ 7 → upd tl2 7 (tl2 7 * (1)) k = tl k := fun k i1 => by rw [upd_ne _ _ i1, q3, upd_ne _ _ i1]
          have e : v = upd tl2 7 (tl2 7 * (1)) 7 := by rw [upd_same, q3, upd_same, ← w2, ev]; exact (neg50 j9 hj9).2.symm
          exact ⟨⟨x0.trans (o 0 (by decide)).symm, x1.trans (o 1 (by decide)).symm, x2.trans (o 2 (by decide)).symm, x3.trans (o 3 (by decide)).symm, x4.trans (o 4 (by decide)).symm, x5.trans (o 5 (by decide)).symm, x6.trans (o 6 (by decide)).symm, e, R, x8, x9, x10, (o 8 (by decide)).trans x11, fun j hj => (x12 j hj).trans (o _ (by omega)).symm⟩, (by rw [o 0 (by decide)]; exact k0), (by rw [o 2 (by decide)]; exact k2), (by rw [o 3 (by decide)]; exact k3), ⟨R, (o 8 (by decide)).trans x11, x8, x9⟩⟩
    by_cases c8 : wo = WK 8
    · -- lag
      obtain ⟨v, s2, rr, q2, tl2, g1, g2, g3⟩ := pe_takes (wh := 7) (lo := 0) (lo' := 0) (hi := 50) hZ hE e1 hF' (by decide) (fun _ => rfl) (by decide) t u ra un wr xx tl
      have h01 : rr = 0 ∨ rr = 1 := by
        rcases g3 with ⟨q, _⟩ | ⟨q, _⟩
        · exact Or.inl q.2.2.1
        · exact Or.inr q
      refine ⟨s2, (p1, p2, p3, p4, p5, p6, p7, p8, -v, p10, p11, p12, p13, p14, p15), ro, rr, q2, (if rr = 0 then tl2 else upd tl2 7 (tl2 7 * (-1))), ?_, ?_, ?_⟩
      · unfold f_X3_readStatement f_X3_readSingle
        simp only []
        rw [isw 0 (by decide), if_neg c0, bso, if_pos rfl, isw 1 (by decide), if_neg c1, bso, if_pos rfl, isw 2 (by decide), if_neg c2, bso, if_pos rfl, isw 3 (by decide), if_neg c3, bso, if_pos rfl, isw 4 (by decide), if_neg c4, bso, if_pos rfl, isw 5 (by decide), if_neg c5, bso, if_pos rfl, isw 6 (by decide), if_neg c6, bso, if_pos rfl, isw 7 (by decide), if_neg c7, bso, if_pos rfl, isw 8 (by decide), if_pos c8, bso, if_neg (show ¬ (1 : Int32) = 0 by decide), e2, bso, g1, bso]
        obtain ⟨z1, z2, z3, z4, z5⟩ := s2
        rfl
      · unfold f_X12_line f_X12_line_16 f_X12_line_46 f_X12_driftLine
        simp only []
        rw [if_pos True.intro, if_neg (ln_0 (fun q => absurd (WK_inj 8 (by decide) 0 (by decide) (c8.symm.trans q)) (by decide))), if_neg (ln_7 (fun q => absurd (WK_inj 8 (by decide) 7 (by decide) (c8.symm.trans q)) (by decide))), if_pos (le_8 c8), if_pos (le_8 c8), e3, bso, show f_X12_takes 7 0 50 (ra, un, nI (a' + n'), nI Z, nI a', so', va', si', wo', wr, bd, xx) tx tl = _ from g2, bso]
        obtain ⟨z1, z2, z3, z4, z5, z6, z7, z8, z9, z10, z11, z12⟩ := q2
        rcases h01 with h | h
        · subst h
          rw [if_pos rfl, if_pos rfl, bso]
          exact m_gI (by (first | exact (show (0 : Int32) &&& 1 = 0 by decide) | exact (show (1 : Int32) &&& 1 = 1 by decide)))
        · subst h
          rw [if_neg (show ¬ (1 : Int32) = 0 by decide), if_neg (show ¬ (1 : Int32) = 0 by decide), bso]
          exact m_gI (by (first | exact (show (0 : Int32) &&& 1 = 0 by decide) | exact (show (1 : Int32) &&& 1 = 1 by decide)))
      · rcases g3 with ⟨q, _⟩ | ⟨q0, q1, q2, q3, q4⟩
        · exact Or.inl ⟨a', q⟩
        · refine Or.inr ⟨q0, q2.to0 (by omega) (by omega), fun q => ?_⟩
          obtain ⟨w1, w2, w3, w4⟩ := q4 q
          obtain ⟨⟨x0, x1, x2, x3, x4, x5, x6, x7, R, x8, x9, x10, x11, x12⟩, k0, k2, k3, k8⟩ := hTR w1
          rw [if_neg (show ¬ rr = 0 by rw [q0]; decide)]
          obtain ⟨j9, _, hj9, ev⟩ := rn_nat (lo := 0) (hi := 50) (by decide) (by decide) w3 w4
          have o : ∀ k, k ≠ 7 → upd tl2 7 (tl2 7 * (-1)) k = tl k := fun k i1 => by rw [upd_ne _ _ i1, q3, upd_ne _ _ i1]
          have e : -v = upd tl2 7 (tl2 7 * (-1)) 7 := by rw [upd_same, q3, upd_same, ← w2, ev]; exact (neg50 j9 hj9).1.symm
          exact ⟨⟨x0.trans (o 0 (by decide)).symm, x1.trans (o 1 (by decide)).symm, x2.trans (o 2 (by decide)).symm, x3.trans (o 3 (by decide)).symm, x4.trans (o 4 (by decide)).symm, x5.trans (o 5 (by decide)).symm, x6.trans (o 6 (by decide)).symm, e, R, x8, x9, x10, (o 8 (by decide)).trans x11, fun j hj => (x12 j hj).trans (o _ (by omega)).symm⟩, (by rw [o 0 (by decide)]; exact k0), (by rw [o 2 (by decide)]; exact k2), (by rw [o 3 (by decide)]; exact k3), ⟨R, (o 8 (by decide)).trans x11, x8, x9⟩⟩
    -- no word that it knows
    refine ⟨(1, nI a, 1, nI a, nI (a + n)), (p1, p2, p3, p4, p5, p6, p7, p8, p9, p10, p11, p12, p13, p14, p15), ro, 0, (ra, un, nI (a + n), nI Z, nI a, 2, va, si, wo, nI a, bd, xx), tl, ?_, ?_, Or.inl ⟨a, rfl, rfl, rfl, rfl⟩⟩
    · unfold f_X3_readStatement f_X3_readSingle
      simp only []
      rw [isw 0 (by decide), if_neg c0, bso, if_pos rfl, isw 1 (by decide), if_neg c1, bso, if_pos rfl, isw 2 (by decide), if_neg c2, bso, if_pos rfl, isw 3 (by decide), if_neg c3, bso, if_pos rfl, isw 4 (by decide), if_neg c4, bso, if_pos rfl, isw 5 (by decide), if_neg c5, bso, if_pos rfl, isw 6 (by decide), if_neg c6, bso, if_pos rfl, isw 7 (by decide), if_neg c7, bso, if_pos rfl, isw 8 (by decide), if_neg c8, bso, if_pos rfl]
      rfl
    · unfold f_X12_line f_X12_line_16
      simp only []
      rw [if_pos True.intro, if_neg (ln_0 c0), if_neg (ln_7 c7), if_neg (ln_8 c8), if_neg (ln_1 c1), if_neg (ln_2 c2), if_neg (ln_3 c3), if_neg (ln_4 c4), if_neg (ln_5 c5), if_neg (ln_6 c6)]
      rw [show f_X12_fails (ra, un, nI (a + n), nI Z, nI a, 2, va, si, wo, wr, bd, xx) = some (0, (ra, un, nI (a + n), nI Z, nI a, 2, va, si, wo, nI a, bd, xx)) from rfl, bso]
      exact m_gI (show (0 : Int32) &&& 1 = 0 by decide)
  · exact other (by rw [k1]; decide) (by rw [k2]; decide)
  · exact other (by rw [k1]; decide) (by rw [k2]; decide)
  · exact other (by rw [k1]; decide) (by rw [k2]; decide)
end STM
/-! A whole text, by both. -/
def W68 (x : SX8) (tb : Nat → Int8) (s : SX3) (p : SX5) (ro : Nat → Int32) : Option (SX3 × SX5 × (Nat → Int32) × SX8 × (Nat → Int8)) := match s with | (s1, s2, s3, s4, s5) => f_X3_readWhole_68 s1 p ro s2 s3 s4 s5 x tb
def S80 (all : Nat → Int32) (l1 : Int32) (q : SX12) (tl : Nat → Int32) : Option (Int32 × SX12 × (Nat → Int32) × (Nat → Int32)) := match q with | (z1, z2, z3, z4, z5, z6, z7, z8, z9, z10, z11, z12) => f_X12_scheme_80 l1 all z1 z2 z3 z4 z5 z6 z7 z8 z9 z10 z11 z12 tl
/-- both at the end of the text -/
def EE (s : SX3) (p : SX5) (ro : Nat → Int32) (l1 : Int32) (q : SX12) (tl : Nat → Int32) : Prop := ((l1 = 0 ∧ ∃ hd : Nat, s.1 = 1 ∧ s.2.1 = nI hd ∧ q.2.2.2.2.2.2.2.2.2.1 = nI hd) ∨ (l1 = 1 ∧ ((s.1 = 0 ∧ s.2.1 = -1 ∧ q.2.2.2.2.2.2.2.2.2.2.1 = -1 ∧ TR2 p ro tl) ∨ ∃ hd : Nat, hd ≤ 300 ∧ s.1 = 2 ∧ s.2.1 = nI hd ∧ q.2.2.2.2.2.2.2.2.2.2.1 = nI hd)))
section WHO
variable {Z : Nat}
theorem pe_whole (hZ : Z ≤ 300) {tb tx : Nat → Int8} (hE : ∀ j, j < Z → tx j = tb j) (all : Nat → Int32) (t u ra un wr0 xx : Int32) (m : Nat) : ∀ (f g : Nat) (_ : m + 1 ≤ f) (_ : m + 1 ≤ g) {r a n c : Nat} {kd so va si : Int32} {wo : Int64} {fl fp bd : Int32} (_ : TKN tb Z r kd so va si wo a n) (_ : Z ≤ a + m) (_ : FL fl fp bd a) (_ : c ≤ a) {p : SX5} {ro tl : Nat → Int32} (_ : fl = 0 → TR2 p ro tl),
    ∃ s1 p1 ro1 l1 q1 tl1, f_X3_readWhole_36 (nI Z, t, u) tb (f + 1) (nI c) fl fp kd (nI a) (nI (a + n)) p ro = W68 (nI Z, t, u) tb s1 p1 ro1 ∧ f_X12_scheme_36 all tx (g + 1) 1 ra un (nI (a + n)) (nI Z) (nI a) so va si wo wr0 bd xx tl = S80 all l1 q1 tl1 ∧ EE s1 p1 ro1 l1 q1 tl1 := by
  -- at the end
  have fin : ∀ (f g : Nat) {r a n c : Nat} {kd so va si : Int32} {wo : Int64} {fl fp bd : Int32} (_ : TKN tb Z r kd so va si wo a n) (_ : FL fl fp bd a) (_ : c ≤ a) {p : SX5} {ro tl : Nat → Int32} (_ : fl = 0 → TR2 p ro tl) (_ : kd = 0) (_ : so = 0),
      ∃ s1 p1 ro1 l1 q1 tl1, f_X3_readWhole_36 (nI Z, t, u) tb (f + 1) (nI c) fl fp kd (nI a) (nI (a + n)) p ro = W68 (nI Z, t, u) tb s1 p1 ro1 ∧ f_X12_scheme_36 all tx (g + 1) 1 ra un (nI (a + n)) (nI Z) (nI a) so va si wo wr0 bd xx tl = S80 all l1 q1 tl1 ∧ EE s1 p1 ro1 l1 q1 tl1 := by
    intro f g r a n c kd so va si wo fl fp bd hT hF hc p ro tl hTR hk ho
    have haZ := hT.2.1
    have c300 : ¬ (300 : Int32) < nI c := fun q => absurd ((nI_ltI (a := 300) (by decide) (by omega)).mp q) (by omega)
    rw [f_X3_readWhole_36_s, if_neg c300, if_pos hk, f_X12_scheme_36_s, if_neg (show ¬ (1 : Int32) = 0 by decide), if_pos ho]
    refine ⟨(fl, fp, kd, nI a, nI (a + n)), p, ro, 1, (ra, un, nI (a + n), nI Z, nI a, so, va, si, wo, wr0, bd, xx), tl, rfl, rfl, Or.inr ⟨rfl, ?_⟩⟩
    rcases hF with ⟨h1, h2, h3⟩ | ⟨h1, q, h2, h3, h4⟩
    · exact Or.inl ⟨h1, h3, h2, hTR h1⟩
    · exact Or.inr ⟨q, by omega, h1, h4, h3⟩
  induction m with
  | zero =>
    intro f g hf hg r a n c kd so va si wo fl fp bd hT hm hF hc p ro tl hTR
    have hn := hT.2.1
    rcases hT.2.2 with ⟨k1, k2, k3⟩ | ⟨_, _, k3, _⟩ | ⟨_, _, k3, _⟩ | ⟨_, _, k3⟩ | ⟨_, _, k3⟩
    · exact fin f g hT hF hc hTR k1 k2
    · omega
    · omega
    · omega
    · omega
  | succ m ih =>
    intro f g hf hg r a n c kd so va si wo fl fp bd hT hm hF hc p ro tl hTR
    have hn := hT.2.1
    obtain ⟨f, rfl⟩ : ∃ q, f = q + 1 := ⟨f - 1, by omega⟩
    obtain ⟨g, rfl⟩ : ∃ q, g = q + 1 := ⟨g - 1, by omega⟩
    by_cases hk : kd = 0
    · refine fin (f + 1) (g + 1) hT hF hc hTR hk ?_
      rcases hT.2.2 with ⟨_, q, _⟩ | ⟨q, _⟩ | ⟨q, _⟩ | ⟨q, _⟩ | ⟨q, _⟩
      · exact q
      · rw [q] at hk; exact absurd hk (by decide)
      · rw [q] at hk; exact absurd hk (by decide)
      · rw [q] at hk; exact absurd hk (by decide)
      · rw [q] at hk; exact absurd hk (by decide)
    have hn0 : 0 < n := by
      rcases hT.2.2 with ⟨q, _⟩ | ⟨_, _, q, _⟩ | ⟨_, _, q, _⟩ | ⟨_, _, q⟩ | ⟨_, _, q⟩
      · exact absurd q hk
      · exact q
      · exact q
      · exact q
      · exact q
    have ho : ¬ so = 0 := by
      rcases hT.2.2 with ⟨q, _⟩ | ⟨_, q, _⟩ | ⟨_, q, _⟩ | ⟨_, q, _⟩ | ⟨_, q, _⟩
      · exact absurd q hk
      · rw [q]; decide
      · rw [q]; decide
      · rw [q]; decide
      · rw [q]; decide
    have hf1 := hF.ne1
    have c300 : ¬ (300 : Int32) < nI c := fun q => absurd ((nI_ltI (a := 300) (by decide) (by omega)).mp q) (by omega)
    have c301 : ¬ (300 : Int32) < nI (c + 1) := fun q => absurd ((nI_ltI (a := 300) (by decide) (by omega)).mp q) (by omega)
    rw [f_X3_readWhole_36_s, if_neg c300, if_neg hk, if_neg hf1, f_X12_scheme_36_s, if_neg (show ¬ (1 : Int32) = 0 by decide), if_neg ho]
    obtain ⟨s1, p1, ro1, rr, q1, tl1, e1, e2, e3⟩ := pe_line hZ hE hT hF hk hTR t u ra un wr0 xx
    rw [e1, e2, bso]
    -- dead: both leave at the next round
    have dead : ∀ (s : SX3) (pp : SX5) (rr' : Nat → Int32) (q : SX12) (tt : Nat → Int32) (hd : Nat), s.1 = 1 → s.2.1 = nI hd → q.2.2.2.2.2.2.2.2.2.1 = nI hd → ∀ {X : Option (SX3 × SX5 × (Nat → Int32) × SX8 × (Nat → Int8))} {Y : Option (Int32 × SX12 × (Nat → Int32) × (Nat → Int32))}, X = (match s with | (s1, s2, s3, s4, s5) => f_X3_readWhole_36 (nI Z, t, u) tb (f + 1) (nI c + 1) s1 s2 s3 s4 s5 pp rr') → Y = (match q with | (z1, z2, z3, z4, z5, z6, z7, z8, z9, z10, z11, z12) => f_X12_scheme_36 all tx (g + 1) 0 z1 z2 z3 z4 z5 z6 z7 z8 z9 z10 z11 z12 tt) →
        ∃ s1 p1 ro1 l1 q1 tl1, X = W68 (nI Z, t, u) tb s1 p1 ro1 ∧ Y = S80 all l1 q1 tl1 ∧ EE s1 p1 ro1 l1 q1 tl1 := by
      intro s pp rr' q tt hd h1 h2 h4 X Y hX hY
      subst hX
      subst hY
      obtain ⟨s1, s2, s3, s4, s5⟩ := s
      obtain ⟨z1, z2, z3, z4, z5, z6, z7, z8, z9, z10, z11, z12⟩ := q
      have h1 : s1 = 1 := h1
      refine ⟨(s1, s2, s3, s4, s5), pp, rr', 0, (z1, z2, z3, z4, z5, z6, z7, z8, z9, z10, z11, z12), tt, ?_, ?_, Or.inl ⟨rfl, hd, h1, h2, h4⟩⟩
      · show f_X3_readWhole_36 (nI Z, t, u) tb (f + 1) (nI c + 1) s1 s2 s3 s4 s5 pp rr' = f_X3_readWhole_68 s1 pp rr' s2 s3 s4 s5 (nI Z, t, u) tb
        rw [nI_1, f_X3_readWhole_36_s, if_neg c301]
        by_cases h0 : s3 = 0
        · rw [if_pos h0]
        · rw [if_neg h0, if_pos h1]
      · show f_X12_scheme_36 all tx (g + 1) 0 z1 z2 z3 z4 z5 z6 z7 z8 z9 z10 z11 z12 tt = f_X12_scheme_80 0 all z1 z2 z3 z4 z5 z6 z7 z8 z9 z10 z11 z12 tt
        rw [f_X12_scheme_36_s, if_pos rfl]
    rcases e3 with ⟨hd, d1, d2, d3, d4⟩ | ⟨d1, d2, d3⟩
    · -- a statement that can not stand
      subst d3
      obtain ⟨z1, z2, z3, z4, z5⟩ := s1
      obtain ⟨p1, p2, p3, p4, p5, p6, p7, p8, p9, p10, p11, p12, p13, p14, p15⟩ := p1
      obtain ⟨y1, y2, y3, y4, y5, y6, y7, y8, y9, y10, y11, y12⟩ := q1
      have d1 : z1 = 1 := d1
      refine dead (z1, z2, z3, z4, z5) (p1, p2, p3, p4, p5, p6, p7, p8, p9, p10, p11, p12, p13, p14, p15) ro1 (y1, y2, y3, y4, y5, y6, y7, y8, y9, y10, y11, y12) tl1 hd d1 d2 d4 ?_ ?_
      · unfold S79 f_X3_readStatement_79
        simp only []
        rw [if_pos d1, bso]
      · simp only []
        rw [if_pos True.intro]
        unfold f_X12_scheme_69
        rw [if_pos rfl]
    · subst d1
      obtain ⟨a1, n1, kd1, so1, va1, si1, wo1, fl1, fp1, bd1, h1, rfl, rfl, h4⟩ := d2
      obtain ⟨p1, p2, p3, p4, p5, p6, p7, p8, p9, p10, p11, p12, p13, p14, p15⟩ := p1
      have hf1' := h4.ne1
      have hn1 := h1.2.1
      have ha1 := h1.1
      unfold S79 f_X3_readStatement_79
      simp only []
      rw [if_neg hf1', if_neg (show ¬ (1 : Int32) = 0 by decide)]
      by_cases k3 : kd1 = 3
      · have o4 : so1 = 4 := by
          rcases h1.2.2 with ⟨q, _⟩ | ⟨q, _⟩ | ⟨q, _⟩ | ⟨_, q, _⟩ | ⟨q, _⟩
          · rw [q] at k3; exact absurd k3 (by decide)
          · rw [q] at k3; exact absurd k3 (by decide)
          · rw [q] at k3; exact absurd k3 (by decide)
          · exact q
          · rw [q] at k3; exact absurd k3 (by decide)
        rw [if_pos k3, if_pos o4]
        obtain ⟨a2, n2, kd2, so2, va2, si2, wo2, g1, g2, g3⟩ := pe_tok hZ hE hn1 fl1 fp1 kd1 (nI a1) t u ra un (nI a1) so1 va1 si1 wo1 wr0 bd1 xx
        rw [g2, bso]
        unfold f_X12_scheme_69
        rw [if_neg (show ¬ (1 : Int32) = 0 by decide), g3, bso]
        have ha2 := g1.1
        have key := ih f g (by omega) (by omega) g1 (by omega) (h4.mono (by omega)) (show c + 1 ≤ a2 by omega) (p := (p1, p2, p3, p4, p5, p6, p7, p8, p9, p10, p11, p12, p13, p14, p15)) (ro := ro1) (tl := tl1) d3
        rw [← nI_1] at key
        exact key
      · have o4 : ¬ so1 = 4 := by
          rcases h1.2.2 with ⟨_, q, _⟩ | ⟨_, q, _⟩ | ⟨_, q, _⟩ | ⟨q, _⟩ | ⟨_, q, _⟩
          · rw [q]; decide
          · rw [q]; decide
          · rw [q]; decide
          · exact absurd q k3
          · rw [q]; decide
        rw [if_neg k3, if_neg o4]
        refine dead (1, nI a1, kd1, nI a1, nI (a1 + n1)) (p1, p2, p3, p4, p5, p6, p7, p8, p9, p10, p11, p12, p13, p14, p15) ro1 (ra, un, nI (a1 + n1), nI Z, nI a1, so1, va1, si1, wo1, nI a1, bd1, xx) tl1 a1 rfl rfl rfl rfl ?_
        unfold f_X12_fails f_X12_scheme_69
        simp only []
        rw [bso, if_pos rfl]
end WHO
/-! scheme(), by both. -/
def D21 (t : Nat → Int32) : Nat → Int32 := upd (upd (upd (upd (upd (upd (upd (upd (upd t 0 8) 2 7) 4 4) 5 2) 6 4) 8 6) 11 1) 13 1) 14 1
theorem af2v (ra u le be so va si : Int32) (w : Int64) (wa x : Int32) (m : Nat) : ∀ (k f : Nat) (_ : k + m = 21) (_ : m ≤ f) (t : Nat → Int32) (_ : ∀ j, j < k → t j = 0), ∃ t2 : Nat → Int32, (∀ j, j < 21 → t2 j = 0) ∧ f_X12_atFirst_2 ra u le be so va si w wa x (f + 1) (nI k) t = some ((ra, u, 0, le, be, so, va, si, w, wa, -1, x), D21 t2) := by
  induction m with
  | zero =>
    intro k f hk _ t ht
    have : k = 21 := by omega
    subst this
    rw [f_X12_atFirst_2_s, if_pos (by decide)]
    exact ⟨t, ht, rfl⟩
  | succ m ih =>
    intro k f hk hf t ht
    obtain ⟨f, rfl⟩ : ∃ q, f = q + 1 := ⟨f - 1, by omega⟩
    rw [f_X12_atFirst_2_s, if_neg (show ¬ (21 : Int32) ≤ nI k from nI_ge (a := k) (b := 21) (by omega) (by omega)), m_inI (nI_in (by omega) (by decide)), nI_clamp (by omega), nI_1]
    refine ih (k + 1) f (by omega) (by omega) _ (fun j hj => ?_)
    by_cases e : j = k
    · subst e; exact upd_same _ _ _
    · rw [upd_ne _ _ e]; exact ht j (by omega)
theorem beg_v (p : SX5) (ro : Nat → Int32) : ∃ p' ro', f_X5_begin p ro = some (p', ro') ∧ ∀ t2 : Nat → Int32, (∀ j, j < 21 → t2 j = 0) → TR2 p' ro' (D21 t2) := by
  obtain ⟨p1, p2, p3, p4, p5, p6, p7, p8, p9, p10, p11, p12, p13, p14, p15⟩ := p
  refine ⟨_, _, rfl, fun t2 h => ⟨⟨rfl, (h 1 (by decide)).symm, rfl, (h 3 (by decide)).symm, rfl, rfl, rfl, (h 7 (by decide)).symm, 6, by decide, by decide, rfl, rfl, fun j hj => ?_⟩, ⟨8, rfl, by decide, by decide⟩, ⟨7, rfl, by decide, by decide⟩, ⟨0, h 3 (by decide), by decide⟩, ⟨6, rfl, by decide, by decide⟩⟩⟩
  rcases (show j = 0 ∨ j = 1 ∨ j = 2 ∨ j = 3 ∨ j = 4 ∨ j = 5 by omega) with rfl | rfl | rfl | rfl | rfl | rfl
  · exact ⟨(h 9 (by decide)).symm, (show ¬ (0 : Int32) = -1 by decide)⟩
  · exact ⟨(h 10 (by decide)).symm, (show ¬ (0 : Int32) = -1 by decide)⟩
  · exact ⟨rfl, (show ¬ (1 : Int32) = -1 by decide)⟩
  · exact ⟨(h 12 (by decide)).symm, (show ¬ (0 : Int32) = -1 by decide)⟩
  · exact ⟨rfl, (show ¬ (1 : Int32) = -1 by decide)⟩
  · exact ⟨rfl, (show ¬ (1 : Int32) = -1 by decide)⟩
theorem xcopy_v (s : SX8) (r : Nat → Int8) {z : Nat} (hz : z ≤ 300) (t u : Int32) (r' : Nat → Int8) : ∃ r2, f_X8_copyFrom s r (nI z, t, u) r' = some ((nI z, t, u), r2) ∧ ∀ j, j < z → r2 j = r' j := by
  unfold f_X8_copyFrom
  simp only []
  rw [show (if (300 : Int32) < nI z then 300 else nI z) = nI z from if_neg (show ¬ nI 300 < nI z from nI_nlt hz (by omega))]
  rw [show (if 0 < nI z then nI z else 0) = nI z from by
    by_cases c : 0 < nI z
    · rw [if_pos c]
    · rw [if_neg c]
      rcases Nat.eq_zero_or_pos z with e | e
      · rw [e]; rfl
      · exact absurd (nI_lt (a := 0) e (by omega)) c]
  have hg : cpyG 0 0 (nI z) 300 300 := ⟨by decide, by decide, nI_pos (by omega), by rw [nI_clamp (by omega)]; show 0 + z ≤ 300; omega, by rw [nI_clamp (by omega)]; show 0 + z ≤ 300; omega⟩
  unfold m_n
  show ∃ r2, m_g (cpyG 0 0 (nI z) 300 300) _ = _ ∧ _
  rw [m_gI hg]
  refine ⟨_, rfl, fun j hj => ?_⟩
  have e : (nI z).toNatClampNeg = z := nI_clamp (by omega)
  show va_cpy r' r 0 0 (nI z).toNatClampNeg j = r' j
  rw [e]
  unfold va_cpy
  rw [if_pos ⟨Nat.zero_le j, by omega⟩]
  show r' (0 + (j - 0)) = r' j
  rw [Nat.zero_add, Nat.sub_zero]
/-- derive leaves what was told -/
theorem derive_v (p : SX5) (hT : TLD p) (ro : Nat → Int32) : Tt (f_X5_derive p ro) (fun q => PS q ∧ q.1 = p.1 ∧ q.2.1 = p.2.1 ∧ q.2.2.1 = p.2.2.1 ∧ q.2.2.2.1 = p.2.2.2.1 ∧ q.2.2.2.2.1 = p.2.2.2.2.1 ∧ q.2.2.2.2.2.1 = p.2.2.2.2.2.1 ∧ q.2.2.2.2.2.2.1 = p.2.2.2.2.2.2.1 ∧ q.2.2.2.2.2.2.2.1 = p.2.2.2.2.2.2.2.1 ∧ q.2.2.2.2.2.2.2.2.1 = p.2.2.2.2.2.2.2.2.1) := by
  obtain ⟨p1, p2, p3, p4, p5, p6, p7, p8, p9, p10, p11, p12, p13, p14, p15⟩ := p
  obtain ⟨q, e, hq⟩ := derive_c (p1, p2, p3, p4, p5, p6, p7, p8, p9, p10, p11, p12, p13, p14, p15) hT ro
  refine ⟨q, e, hq, ?_⟩
  obtain ⟨L, R, W, hL, hR, hW, e1, e2, e3⟩ := hT
  have e2 : p2 = nI R := e2
  subst e2
  have key : ∀ (m k f : Nat) (_ : k + m = R) (_ : m ≤ f) (y a b c : Int32), Tt (f_X5_derive_68 (nI R) p1 p3 p4 p5 p6 p7 p8 p9 y ro (f + 1) (nI k) a b c) (fun q => q.1 = p1 ∧ q.2.1 = nI R ∧ q.2.2.1 = p3 ∧ q.2.2.2.1 = p4 ∧ q.2.2.2.2.1 = p5 ∧ q.2.2.2.2.2.1 = p6 ∧ q.2.2.2.2.2.2.1 = p7 ∧ q.2.2.2.2.2.2.2.1 = p8 ∧ q.2.2.2.2.2.2.2.2.1 = p9) := by
    intro m
    induction m with
    | zero =>
      intro k f h _ y a b c
      rw [f_X5_derive_68_s, if_pos (nI_le (by omega) (by omega))]
      exact tt_r ⟨rfl, rfl, rfl, rfl, rfl, rfl, rfl, rfl, rfl⟩
    | succ m ih =>
      intro k f h hf y a b c
      obtain ⟨f, rfl⟩ : ∃ q, f = q + 1 := ⟨f - 1, by omega⟩
      have hi : vp_in (nI k) 12 := nI_in (by omega) (by decide)
      rw [f_X5_derive_68_s, if_neg (nI_ge (by omega) (by omega))]
      unfold f_X5_derive_151
      rw [nI_1]
      have hK := ih (k + 1) f (by omega) (by omega) y
      exact tt_i (fun _ => tt_r ⟨rfl, rfl, rfl, rfl, rfl, rfl, rfl, rfl, rfl⟩) (fun _ => tt_in hi (tt_i (fun _ => hK _ _ _) (fun _ => tt_in hi (tt_i (fun _ => hK _ _ _) (fun _ => tt_in hi (tt_i (fun _ => hK _ _ _) (fun _ => hK _ _ _)))))))
  have key2 : Tt (f_X5_derive (p1, nI R, p3, p4, p5, p6, p7, p8, p9, p10, p11, p12, p13, p14, p15) ro) (fun q => q.1 = p1 ∧ q.2.1 = nI R ∧ q.2.2.1 = p3 ∧ q.2.2.2.1 = p4 ∧ q.2.2.2.2.1 = p5 ∧ q.2.2.2.2.2.1 = p6 ∧ q.2.2.2.2.2.2.1 = p7 ∧ q.2.2.2.2.2.2.2.1 = p8 ∧ q.2.2.2.2.2.2.2.2.1 = p9) := by
    unfold f_X5_derive f_X5_derive_36
    have e3 : p4 = nI W := e3
    refine tt_i (fun _ => key R 0 65535 (by omega) (by omega) _ _ _ _) (fun _ => tt_g (by rw [e3]; exact nI_ne0 (by omega) (by omega)) (key R 0 65535 (by omega) (by omega) _ _ _ _))
  obtain ⟨q', e', hq'⟩ := key2
  have : q' = q := Option.some.inj (e'.symm.trans e)
  subst this
  exact hq'
theorem TR.tld {p : SX5} {ro tl : Nat → Int32} (h : TR2 p ro tl) : TLD p := by
  obtain ⟨⟨x0, x1, x2, x3, x4, x5, x6, x7, R, x8, x9, x10, x11, x12⟩, ⟨L, l1, l2, l3⟩, ⟨w, m1, m2, m3⟩, _⟩ := h
  exact ⟨L, R, w, ⟨l2, l3⟩, ⟨x8, x9⟩, ⟨m2, m3⟩, x0.trans l1, x10, x2.trans m1⟩
/-- the texts that both have, from z on in the reference's row -/
def JT (x : SX8) (xb : Nat → Int8) (a : Nat → Int32) (o : Nat) (tx : Nat → Int8) (z : Nat) : Prop := ∃ Z : Nat, Z ≤ 300 ∧ x = (nI Z, a (o + 134), a (o + 135)) ∧ a (o + 133) = nI Z ∧ ∀ j, j < Z → tx (z + j) = xb j
theorem tn_v (ra u re le be so va si : Int32) (w : Int64) (wa bd x : Int32) (t : Nat → Int32) (hT : TOk t) (a : Nat → Int32) : Tt (f_X12_taken (ra, u, re, le, be, so, va, si, w, wa, bd, x) a t) (fun q => q.1 = (ra, 0, re, le, be, so, va, si, w, wa, bd, x) ∧ (∀ j, j < 21 → q.2 j = t j) ∧ ∀ j, 133 ≤ j → q.2 j = a j) := by
  obtain ⟨⟨L, h0, a1, a2⟩, ⟨w', h2, b1, b2⟩, ⟨st, h3, c1⟩, ⟨r, h8, d1, d2⟩⟩ := hT
  unfold f_X12_taken
  refine tt_m (tn2 ra u re le be so va si w wa bd x t a2 d2 h0 h8 133 0 65535 (by omega) (by omega) a (fun j hj => absurd hj (by omega))) ?_
  rintro q ⟨p0, p1, p2, p3, p4, p7, p5, p6⟩
  exact ⟨p0, fun j hj => by rw [p5 j (by omega), if_pos hj], p6⟩
theorem pcopy_r (s : SX5) (r : Nat → Int32) (s' : SX5) (r' : Nat → Int32) : ∃ q, f_X5_copyFrom s r s' r' = some q ∧ q.1 = s' ∧ ∀ j, j < 12 → q.2 j = r' j := by
  refine ⟨_, rfl, rfl, fun j hj => ?_⟩
  show va_cpy r' r 0 0 12 j = r' j
  unfold va_cpy
  rw [if_pos ⟨Nat.zero_le j, by omega⟩]
  show r' (0 + (j - 0)) = r' j
  rw [Nat.zero_add, Nat.sub_zero]
theorem restart_any (y z : Int32) (g : SX6) (s : SX4) (u : SX1) (r : Nat → Int32) (st : SX7) (e : SX0) (p : SX5) : ∃ q, f_X9_restart y z g s u r st e p = some q ∧ True := restart_c y z g s u r st e p |>.imp (fun _ h => ⟨h.1, trivial⟩)
set_option maxHeartbeats 4000000 in
theorem pe_scheme {Z : Nat} (hZ : Z ≤ 300) {tb tx : Nat → Int8} (hE : ∀ j, j < Z → tx j = tb j) (ac : Int32) (pn : SX5) (rn : Nat → Int32) (t u : Int32) (h9 z9 : Int32) (g9 : SX6) (s9 : SX4) (u9 : SX1) (r9 : Nat → Int32) (st9 : SX7) (e9 : SX0) (rd : SX3) (told : SX5) (trol : Nat → Int32) (rx : SX8) (rb : Nat → Int8) (s12 : SX12) (a tl : Nat → Int32) (ha : a 133 = nI Z) :
    ∃ q q2, f_X11_scheme ac pn rn (nI Z, t, u) tb h9 z9 g9 s9 u9 r9 st9 e9 rd told trol rx rb = some q ∧ f_X12_scheme s12 a tx tl = some q2 ∧ q.1 = q2.1 ∧ q.2.2.2.2.1 = (0, q2.2.2.1 134, q2.2.2.1 135) ∧ q2.2.2.1 133 = 0 ∧
      ((q2.2.2.1 134 = 0 ∧ TR q.2.2.1 q.2.2.2.1 q2.2.2.1) ∨ (¬ q2.2.2.1 134 = 0 ∧ q.2.2.1 = pn ∧ q.2.2.2.1 = rn ∧ (∀ j, j < 133 → q2.2.2.1 j = a j) ∧ q2.1 = -1)) := by
  obtain ⟨p1, p2, p3, p4, p5, p6, p7, p8, p9, p10, p11, p12, p13, p14, p15⟩ := pn
  obtain ⟨y1, y2, y3, y4, y5⟩ := rd
  obtain ⟨z1, z2, z3, z4, z5, z6, z7, z8, z9', z10, z11, z12⟩ := s12
  -- the class's reader
  obtain ⟨xb, c1, c2⟩ := xcopy_v rx rb hZ t u tb
  obtain ⟨p0, ro0, b1, b2⟩ := beg_v told trol
  obtain ⟨t2, d1, d2⟩ := af2v 0 z2 (nI Z) z5 z6 z7 z8 z9' z10 z12 21 0 65535 (by omega) (by omega) tl (fun j hj => absurd hj (by omega))
  have hE' : ∀ j, j < Z → tx j = xb j := fun j hj => (hE j hj).trans (c2 j hj).symm
  obtain ⟨a1, n1, kd1, so1, va1, si1, wo1, g1, g2, g3⟩ := pe_tok (k := 0) hZ hE' (Nat.zero_le _) 0 (-1) y3 y4 t u 0 z2 z5 z6 z7 z8 z9' z10 (-1) z12
  obtain ⟨s1, p1', ro1, l1, q1, tl1, k1, k2, k3⟩ := pe_whole hZ hE' a t u 0 z2 z10 z12 300 65535 65535 (by omega) (by omega) g1 (by omega) (Or.inl ⟨rfl, rfl, rfl⟩) (Nat.zero_le a1) (fun _ => b2 t2 d1)
  have rw1 : f_X3_readWhole (y1, y2, y3, y4, y5) told trol rx rb (nI Z, t, u) tb = W68 (nI Z, t, u) xb s1 p1' ro1 := by
    unfold f_X3_readWhole
    simp only []
    rw [c1, bso, b1, bso, show f_X3_step (0, -1, y3, y4, 0) (nI Z, t, u) xb = _ from g2, bso]
    exact k1
  have rw2 : f_X12_scheme (z1, z2, z3, z4, z5, z6, z7, z8, z9', z10, z11, z12) a tx tl = S80 a l1 q1 tl1 := by
    unfold f_X12_scheme f_X12_atFirst
    simp only []
    rw [ha, show f_X12_atFirst_2 0 z2 (nI Z) z5 z6 z7 z8 z9' z10 z12 65536 0 tl = _ from d2, bso, show f_X12_token (0, z2, 0, nI Z, z5, z6, z7, z8, z9', z10, -1, z12) tx = _ from g3, bso]
    exact k2
  obtain ⟨s11, s12, s13, s14, s15⟩ := s1
  obtain ⟨w1, w2, w3, w4, w5, w6, w7, w8, w9, w10, w11, w12⟩ := q1
  have u134 : ∀ (f pl : Int32), upd (upd (upd a 133 0) 134 f) 135 pl 134 = f := fun f pl => rfl
  -- a flaw
  have flaw : ∀ (f pl : Int32), ¬ f = 0 → s11 = f → s12 = pl → S80 a l1 (w1, w2, w3, w4, w5, w6, w7, w8, w9, w10, w11, w12) tl1 = f_X12_scheme_131 a f w1 w2 w3 w4 w5 w6 w7 w8 w9 w10 w11 w12 tl1 pl → ∃ q q2, f_X11_scheme ac (p1, p2, p3, p4, p5, p6, p7, p8, p9, p10, p11, p12, p13, p14, p15) rn (nI Z, t, u) tb h9 z9 g9 s9 u9 r9 st9 e9 (y1, y2, y3, y4, y5) told trol rx rb = some q ∧ f_X12_scheme (z1, z2, z3, z4, z5, z6, z7, z8, z9', z10, z11, z12) a tx tl = some q2 ∧ q.1 = q2.1 ∧ q.2.2.2.2.1 = (0, q2.2.2.1 134, q2.2.2.1 135) ∧ q2.2.2.1 133 = 0 ∧
      ((q2.2.2.1 134 = 0 ∧ TR q.2.2.1 q.2.2.2.1 q2.2.2.1) ∨ (¬ q2.2.2.1 134 = 0 ∧ q.2.2.1 = (p1, p2, p3, p4, p5, p6, p7, p8, p9, p10, p11, p12, p13, p14, p15) ∧ q.2.2.2.1 = rn ∧ (∀ j, j < 133 → q2.2.2.1 j = a j) ∧ q2.1 = -1)) := by
    intro f pl hf e1 e2 e3
    have e1 : s11 = f := e1
    subst e1
    subst e2
    have r1 : W68 (nI Z, t, u) xb (s11, s12, s13, s14, s15) p1' ro1 = some ((s11, s12, s13, s14, s15), p1', ro1, (nI Z, t, u), xb) := by
      show f_X3_readWhole_68 s11 p1' ro1 s12 s13 s14 s15 (nI Z, t, u) xb = _
      unfold f_X3_readWhole_68
      rw [if_neg hf]
    unfold f_X11_scheme
    simp only []
    rw [rw1, r1, bso, rw2, e3]
    simp only []
    rw [if_neg hf]
    unfold f_X12_scheme_131
    rw [u134, if_neg hf]
    exact ⟨_, _, rfl, rfl, rfl, rfl, rfl, Or.inr ⟨hf, rfl, rfl, fun j hj => by show upd (upd (upd a 133 0) 134 s11) 135 s12 j = a j; rw [upd_ne _ _ (by omega), upd_ne _ _ (by omega), upd_ne _ _ (by omega)], rfl⟩⟩
  rcases k3 with ⟨rfl, hd, m1, m2, m3⟩ | ⟨rfl, ⟨m1, m2, m3, m4⟩ | ⟨hd, m0, m1, m2, m3⟩⟩
  · have m3 : w10 = nI hd := m3
    refine flaw 1 w10 (by decide) m1 (m2.trans m3.symm) ?_
    show f_X12_scheme_80 0 a w1 w2 w3 w4 w5 w6 w7 w8 w9 w10 w11 w12 tl1 = _
    unfold f_X12_scheme_80 f_X12_scheme_108
    rw [if_pos rfl, if_pos rfl]
  · -- no flaw
    have m1 : s11 = 0 := m1
    have m2 : s12 = -1 := m2
    have m3 : w11 = -1 := m3
    subst m1
    subst m2
    subst m3
    obtain ⟨pd, f1, f2, f3⟩ := derive_v p1' (TR.tld m4) ro1
    have r1 : W68 (nI Z, t, u) xb (0, -1, s13, s14, s15) p1' ro1 = some ((0, -1, s13, s14, s15), pd, ro1, (nI Z, t, u), xb) := by
      show f_X3_readWhole_68 0 p1' ro1 (-1) s13 s14 s15 (nI Z, t, u) xb = _
      unfold f_X3_readWhole_68
      rw [if_pos rfl, f1, bso]
    have r2 : S80 a 1 (w1, w2, w3, w4, w5, w6, w7, w8, w9, w10, -1, w12) tl1 = f_X12_scheme_131 a 0 w1 w2 w3 w4 w5 w6 w7 w8 w9 w10 (-1) w12 tl1 (-1) := by
      show f_X12_scheme_80 1 a w1 w2 w3 w4 w5 w6 w7 w8 w9 w10 (-1) w12 tl1 = _
      unfold f_X12_scheme_80 f_X12_scheme_108
      rw [if_neg (show ¬ (1 : Int32) = 0 by decide), if_pos rfl, if_neg (show ¬ (1 : Int32) = 0 by decide)]
    obtain ⟨⟨c5p, c5r⟩, i1, i2⟩ := pcopy_r (p1, p2, p3, p4, p5, p6, p7, p8, p9, p10, p11, p12, p13, p14, p15) rn pd ro1
    obtain ⟨q9, j1, j2⟩ := restart_any h9 z9 g9 s9 u9 r9 st9 e9 pd
    obtain ⟨⟨x1, x2⟩, n1', n2, n3, n4⟩ := tn_v w1 w2 w3 w4 w5 w6 w7 w8 w9 w10 (-1) w12 tl1 m4.2 (upd (upd (upd a 133 0) 134 0) 135 (-1))
    have n2 : x1 = _ := n2
    have n3Z : ∀ j, j < 21 → x2 j = tl1 j := n3
    have n4Z : ∀ j, 133 ≤ j → x2 j = upd (upd (upd a 133 0) 134 0) 135 (-1) j := n4
    subst n2
    have i2 : c5p = pd ∧ ∀ j, j < 12 → c5r j = ro1 j := i2
    obtain ⟨rfl, i3⟩ := i2
    obtain ⟨⟨v0, v1, v2, v3, v4, v5, v6, v7, R, v8, v9, v10, v11, v12⟩, ⟨L, l0, l4, l24⟩, _⟩ := m4
    have a0 : x2 0 = nI L := (n3Z 0 (by decide)).trans l0
    have a8 : x2 8 = nI R := (n3Z 8 (by decide)).trans v11
    have sf : c5p.2.2.2.2.2.2.2.2.2.1 = nI (L * R) := by
      obtain ⟨L', R', _, _, s1, s2, s3, s4, s5, _, _, s6, _⟩ := f2
      have el : L' = L := (nI_eq (by omega) (by omega)).mp ((s1.symm.trans (f3.1.trans (v0.trans l0))))
      have er : R' = R := (nI_eq (by omega) (by omega)).mp ((s4.symm.trans (f3.2.1.trans v10)))
      rw [s6, el, er]
    have tr : TR c5p c5r x2 := by
      obtain ⟨t1, t2, t3, t4, t5, t6, t7, t8, t9⟩ := f3
      refine ⟨t1.trans (v0.trans (n3Z 0 (by decide)).symm), t3.trans (v1.trans (n3Z 1 (by decide)).symm), t4.trans (v2.trans (n3Z 2 (by decide)).symm), t5.trans (v3.trans (n3Z 3 (by decide)).symm), t6.trans (v4.trans (n3Z 4 (by decide)).symm), t7.trans (v5.trans (n3Z 5 (by decide)).symm), t8.trans (v6.trans (n3Z 6 (by decide)).symm), t9.trans (v7.trans (n3Z 7 (by decide)).symm), R, v8, v9, t2.trans v10, a8, fun j hj => ?_⟩
      rw [i3 j (by omega)]
      exact (v12 j hj).trans (n3Z (9 + j) (by omega)).symm
    unfold f_X11_scheme
    simp only []
    rw [rw1, r1, bso, rw2, r2]
    simp only []
    rw [if_pos True.intro, show f_X5_copyFrom (p1, p2, p3, p4, p5, p6, p7, p8, p9, p10, p11, p12, p13, p14, p15) rn c5p ro1 = _ from i1, bso]
    obtain ⟨d1, d2, d3, d4, d5, d6, d7, d8, d9, d10, d11, d12, d13, d14, d15⟩ := c5p
    simp only []
    rw [show f_X9_restart h9 z9 g9 s9 u9 r9 st9 e9 (d1, d2, d3, d4, d5, d6, d7, d8, d9, d10, d11, d12, d13, d14, d15) = _ from j1, bso]
    unfold f_X12_scheme_131
    rw [u134, if_pos rfl, n1', bso]
    simp only []
    rw [rnd a0 a8, bso]
    obtain ⟨o1, o2, o3, o4, o5, o6, o7, o8⟩ := q9
    refine ⟨_, _, rfl, rfl, sf, ?_, ?_, Or.inl ⟨?_, tr⟩⟩
    · show ((0 : Int32), (0 : Int32), (-1 : Int32)) = (0, x2 134, x2 135)
      rw [n4Z 134 (by decide), n4Z 135 (by decide)]
      rfl
    · show x2 133 = 0
      rw [n4Z 133 (by decide)]
      rfl
    · show x2 134 = 0
      rw [n4Z 134 (by decide)]
      rfl
  · have m3 : w11 = nI hd := m3
    refine flaw 2 w11 (by decide) m1 (m2.trans m3.symm) ?_
    show f_X12_scheme_80 1 a w1 w2 w3 w4 w5 w6 w7 w8 w9 w10 w11 w12 tl1 = _
    unfold f_X12_scheme_80 f_X12_scheme_108
    rw [if_neg (show ¬ (1 : Int32) = 0 by decide), if_neg (show ¬ w11 = -1 by rw [m3]; exact fun q => nI_pos (show hd < 2 ^ 31 by omega) (by rw [q]; decide)), if_neg (show ¬ (1 : Int32) = 0 by decide)]
