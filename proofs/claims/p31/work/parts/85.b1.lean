/-! a text's tokens: c j is the j-th byte of Z -/
def TB (Z : Nat) (tb : Nat → Int8) (c : Nat → Nat) : Prop := Z ≤ 300 ∧ ∀ j, j < Z → (tb j).toInt32 &&& 255 = nI (c j) ∧ c j < 256
theorem at8 {Z : Nat} {tb : Nat → Int8} {c : Nat → Nat} (h : TB Z tb c) {j : Nat} (hj : j < Z) (a b : Int32) : f_X8_at (nI j) (nI Z, a, b) tb = some (nI (c j)) := by
  obtain ⟨h1, h2⟩ := h
  unfold f_X8_at
  dsimp only
  rw [if_neg (nI_pos (by omega)), if_neg (nI_ge hj (by omega)), if_neg (show ¬ (300 : Int32) ≤ nI j from nI_ge (b := 300) (by omega) (by omega)), m_inI (nI_in (by omega) (by decide)), nI_clamp (by omega), (h2 j hj).1]
theorem blk {n : Nat} (h : n < 256) : f_X3_isBlank (nI n) = some (if n = 32 ∨ n = 10 then 1 else 0) := by
  unfold f_X3_isBlank
  by_cases c1 : n = 32
  · subst c1; rfl
  · by_cases c2 : n = 10
    · subst c2; rfl
    · rw [if_neg (show ¬ nI n = 32 from fun e => c1 ((nI_eq (b := 32) (by omega) (by omega)).mp e)), if_neg (show ¬ nI n = 10 from fun e => c2 ((nI_eq (b := 10) (by omega) (by omega)).mp e)), if_neg (by omega)]
theorem dgt {n : Nat} (h : n < 256) : f_X3_isDigit (nI n) = some (if 48 ≤ n ∧ n ≤ 57 then 1 else 0) := by
  unfold f_X3_isDigit
  by_cases c1 : n < 48
  · rw [if_pos (show nI n < 48 from nI_lt (b := 48) c1 (by omega)), if_neg (by omega)]
  · rw [if_neg (show ¬ nI n < 48 from nI_nlt (b := 48) (by omega) (by omega))]
    by_cases c2 : 57 < n
    · rw [if_pos (show 57 < nI n from nI_lt (a := 57) c2 (by omega)), if_neg (by omega)]
    · rw [if_neg (show ¬ 57 < nI n from nI_nlt (a := 57) (b := n) (by omega) (by omega)), if_pos (by omega)]
theorem ltr {n : Nat} (h : n < 256) : f_X3_isLetter (nI n) = some (if 97 ≤ n ∧ n ≤ 122 then 1 else 0) := by
  unfold f_X3_isLetter
  by_cases c1 : n < 97
  · rw [if_pos (show nI n < 97 from nI_lt (b := 97) c1 (by omega)), if_neg (by omega)]
  · rw [if_neg (show ¬ nI n < 97 from nI_nlt (b := 97) (by omega) (by omega))]
    by_cases c2 : 122 < n
    · rw [if_pos (show 122 < nI n from nI_lt (a := 122) c2 (by omega)), if_neg (by omega)]
    · rw [if_neg (show ¬ 122 < nI n from nI_nlt (a := 122) (b := n) (by omega) (by omega)), if_pos (by omega)]
/-- blanks from e to s -/
theorem stp_0 {Z : Nat} {tb : Nat → Int8} {c : Nat → Nat} (h : TB Z tb c) (a b fl fp : Int32) {s : Nat} (hs : s ≤ Z) (hb : s < Z → ¬ (c s = 32 ∨ c s = 10)) (m : Nat) : ∀ (e f : Nat) (_ : e + m = s) (_ : m ≤ f) (_ : ∀ j, e ≤ j → j < s → c j = 32), f_X3_step_8 (nI Z) a b tb fl fp (f + 1) (nI e) = f_X3_step_52 (nI s) (nI Z) a b tb fl fp := by
  have hZ := h.1
  induction m with
  | zero =>
    intro e f he _ _
    have : e = s := by omega
    subst this
    rw [f_X3_step_8_s]
    by_cases c1 : e < Z
    · rw [if_neg (nI_ge c1 (by omega)), at8 h c1, bso, blk (h.2 e c1).2, bso, if_neg (hb c1), if_pos rfl]
    · rw [if_pos (nI_le (by omega) (by omega))]
  | succ m ih =>
    intro e f he hf hbl
    obtain ⟨f, rfl⟩ : ∃ q, f = q + 1 := ⟨f - 1, by omega⟩
    rw [f_X3_step_8_s, if_neg (nI_ge (by omega) (by omega)), at8 h (by omega), bso, blk (h.2 e (by omega)).2, bso, if_pos (Or.inl (hbl e (Nat.le_refl _) (by omega))), if_neg (by decide), nI_1]
    exact ih (e + 1) f (by omega) (by omega) (fun j h1 h2 => hbl j (by omega) h2)
theorem stp_w {Z : Nat} {tb : Nat → Int8} {c : Nat → Nat} (h : TB Z tb c) (a b fl fp : Int32) {s t : Nat} (ht : t ≤ Z) (hb : t < Z → ¬ (97 ≤ c t ∧ c t ≤ 122)) (m : Nat) : ∀ (e f : Nat) (_ : e + m = t) (_ : m ≤ f) (_ : ∀ j, e ≤ j → j < t → 97 ≤ c j ∧ c j ≤ 122), f_X3_step_104 (nI Z) fl fp (nI s) a b tb (f + 1) (nI e) = some (fl, fp, 1, nI s, nI t) := by
  have hZ := h.1
  induction m with
  | zero =>
    intro e f he _ _
    have : e = t := by omega
    subst this
    rw [f_X3_step_104_s]
    by_cases c1 : e < Z
    · rw [if_neg (nI_ge c1 (by omega)), at8 h c1, bso, ltr (h.2 e c1).2, bso, if_neg (hb c1), if_pos rfl]
    · rw [if_pos (nI_le (by omega) (by omega))]
  | succ m ih =>
    intro e f he hf hbl
    obtain ⟨f, rfl⟩ : ∃ q, f = q + 1 := ⟨f - 1, by omega⟩
    rw [f_X3_step_104_s, if_neg (nI_ge (by omega) (by omega)), at8 h (by omega), bso, ltr (h.2 e (by omega)).2, bso, if_pos (hbl e (Nat.le_refl _) (by omega)), if_neg (by decide), nI_1]
    exact ih (e + 1) f (by omega) (by omega) (fun j h1 h2 => hbl j (by omega) h2)
theorem stp_d {Z : Nat} {tb : Nat → Int8} {c : Nat → Nat} (h : TB Z tb c) (a b fl fp : Int32) {s t : Nat} (hst : s ≤ t) (h12 : t ≤ s + 12) (ht : t ≤ Z) (hb : t < Z → ¬ (48 ≤ c t ∧ c t ≤ 57)) (m : Nat) : ∀ (e f : Nat) (_ : e + m = t) (_ : m ≤ f) (_ : ∀ j, e ≤ j → j < t → 48 ≤ c j ∧ c j ≤ 57), f_X3_step_165 (nI Z) (nI s) fl fp a b tb (f + 1) (nI e) = some (fl, fp, 2, nI s, nI t) := by
  have hZ := h.1
  have e209 : f_X3_step_209 (nI t) (nI s) fl fp = some (fl, fp, 2, nI s, nI t) := by
    unfold f_X3_step_209
    rw [pk_sub hst, if_neg (show ¬ 12 < nI (t - s) from nI_nlt (a := 12) (b := t - s) (by omega) (by omega))]
  induction m with
  | zero =>
    intro e f he _ _
    have : e = t := by omega
    subst this
    rw [f_X3_step_165_s]
    by_cases c1 : e < Z
    · rw [if_neg (nI_ge c1 (by omega)), at8 h c1, bso, dgt (h.2 e c1).2, bso, if_neg (hb c1), if_pos rfl]
      exact e209
    · rw [if_pos (nI_le (by omega) (by omega))]
      exact e209
  | succ m ih =>
    intro e f he hf hbl
    obtain ⟨f, rfl⟩ : ∃ q, f = q + 1 := ⟨f - 1, by omega⟩
    rw [f_X3_step_165_s, if_neg (nI_ge (by omega) (by omega)), at8 h (by omega), bso, dgt (h.2 e (by omega)).2, bso, if_pos (hbl e (Nat.le_refl _) (by omega)), if_neg (by decide), nI_1]
    exact ih (e + 1) f (by omega) (by omega) (fun j h1 h2 => hbl j (by omega) h2)
theorem step_word {Z : Nat} {tb : Nat → Int8} {c : Nat → Nat} (h : TB Z tb c) (a b fl fp kd so : Int32) {e s t : Nat} (hes : e ≤ s) (hst : s < t) (ht : t ≤ Z) (hbl : ∀ j, e ≤ j → j < s → c j = 32) (hl : ∀ j, s ≤ j → j < t → 97 ≤ c j ∧ c j ≤ 122) (hb : t < Z → ¬ (97 ≤ c t ∧ c t ≤ 122)) : f_X3_step (fl, fp, kd, so, nI e) (nI Z, a, b) tb = some (fl, fp, 1, nI s, nI t) := by
  have hZ := h.1
  have h0 := hl s (Nat.le_refl _) hst
  unfold f_X3_step
  show f_X3_step_8 (nI Z) a b tb fl fp (65535 + 1) (nI e) = _
  rw [stp_0 h a b fl fp (s := s) (by omega) (fun _ => by omega) (s - e) e 65535 (by omega) (by omega) hbl]
  unfold f_X3_step_52
  rw [if_pos (nI_lt (show s < Z by omega) (by omega)), at8 h (by omega), bso, ltr (h.2 s (by omega)).2, bso, if_pos h0, if_neg (by decide)]
  exact stp_w h a b fl fp ht hb (t - s) s 65535 (by omega) (by omega) hl
theorem step_num {Z : Nat} {tb : Nat → Int8} {c : Nat → Nat} (h : TB Z tb c) (a b fl fp kd so : Int32) {e s t : Nat} (hes : e ≤ s) (hst : s < t) (h12 : t ≤ s + 12) (ht : t ≤ Z) (hbl : ∀ j, e ≤ j → j < s → c j = 32) (hl : ∀ j, s ≤ j → j < t → 48 ≤ c j ∧ c j ≤ 57) (hb : t < Z → ¬ (48 ≤ c t ∧ c t ≤ 57)) : f_X3_step (fl, fp, kd, so, nI e) (nI Z, a, b) tb = some (fl, fp, 2, nI s, nI t) := by
  have hZ := h.1
  have h0 := hl s (Nat.le_refl _) hst
  unfold f_X3_step
  show f_X3_step_8 (nI Z) a b tb fl fp (65535 + 1) (nI e) = _
  rw [stp_0 h a b fl fp (s := s) (by omega) (fun _ => by omega) (s - e) e 65535 (by omega) (by omega) hbl]
  unfold f_X3_step_52
  rw [if_pos (nI_lt (show s < Z by omega) (by omega)), at8 h (by omega), bso, ltr (h.2 s (by omega)).2, bso, if_neg (show ¬ (97 ≤ c s ∧ c s ≤ 122) by omega), if_pos rfl, bso, dgt (h.2 s (by omega)).2, bso, if_pos h0, if_neg (by decide)]
  exact stp_d h a b fl fp (by omega) h12 ht hb (t - s) s 65535 (by omega) (by omega) hl
theorem step_sign {Z : Nat} {tb : Nat → Int8} {c : Nat → Nat} (h : TB Z tb c) (a b fl fp kd so : Int32) {e : Nat} (he : e < Z) (hc : c e = 59) : f_X3_step (fl, fp, kd, so, nI e) (nI Z, a, b) tb = some (fl, fp, 3, nI e, nI (e + 1)) := by
  have hZ := h.1
  unfold f_X3_step
  show f_X3_step_8 (nI Z) a b tb fl fp (65535 + 1) (nI e) = _
  rw [stp_0 h a b fl fp (s := e) (by omega) (fun _ => by omega) 0 e 65535 (by omega) (by omega) (fun j h1 h2 => by omega)]
  unfold f_X3_step_52 f_X3_step_257
  rw [if_pos (nI_lt he (by omega)), at8 h he, bso, ltr (h.2 e he).2, bso, if_neg (show ¬ (97 ≤ c e ∧ c e ≤ 122) by omega), if_pos rfl, bso, dgt (h.2 e he).2, bso, if_neg (show ¬ (48 ≤ c e ∧ c e ≤ 57) by omega), if_pos rfl, bso, hc, if_pos (show nI 59 = 59 from rfl), nI_1]
theorem step_end {Z : Nat} {tb : Nat → Int8} {c : Nat → Nat} (h : TB Z tb c) (a b fl fp kd so : Int32) : f_X3_step (fl, fp, kd, so, nI Z) (nI Z, a, b) tb = some (fl, fp, 0, nI Z, nI Z) := by
  have hZ := h.1
  unfold f_X3_step
  show f_X3_step_8 (nI Z) a b tb fl fp (65535 + 1) (nI Z) = _
  rw [stp_0 h a b fl fp (s := Z) (Nat.le_refl _) (fun z => by omega) 0 Z 65535 (by omega) (by omega) (fun j h1 h2 => by omega)]
  unfold f_X3_step_52
  rw [if_neg (nI_nlt (Nat.le_refl _) (by omega))]
/-- the words' bytes -/
def cw (w j : Nat) : Nat := (([[114, 111, 108, 101, 115], [119, 114, 111, 110, 103], [108, 101, 110, 103, 116, 104], [112, 111, 108, 121], [119, 105, 100, 116, 104], [115, 116, 111, 108, 101, 110], [108, 101, 97, 115, 116], [100, 114, 105, 102, 116], [108, 97, 103]] : List (List Nat)).getD w []).getD j 0
theorem cw_is : ∀ w : Fin 9, ∀ j : Fin 6, sx_c w.val j.val = nI (cw w.val j.val) := by decide +kernel
theorem cw_l : ∀ w : Fin 9, ∀ j : Fin 6, j.val < sx_z w.val → 97 ≤ cw w.val j.val ∧ cw w.val j.val ≤ 122 := by decide +kernel
theorem cw_z : ∀ w : Fin 9, 3 ≤ sx_z w.val ∧ sx_z w.val ≤ 6 := by decide +kernel
def eqw (k w : Nat) : Nat → Nat → Bool
  | 0, _ => true
  | m + 1, j => decide (cw w j = cw k j) && eqw k w m (j + 1)
theorem eqw_is : ∀ k w : Fin 9, sx_z k.val = sx_z w.val → eqw k.val w.val (sx_z k.val) 0 = decide (k.val = w.val) := by decide +kernel
/-- the word w stands at s -/
def WA (Z : Nat) (c : Nat → Nat) (w s : Nat) : Prop := s + sx_z w ≤ Z ∧ ∀ j, j < sx_z w → c (s + j) = cw w j
theorem isw28 {Z : Nat} {tb : Nat → Int8} {c : Nat → Nat} (h : TB Z tb c) (a b : Int32) {k w s : Nat} (hk : k < 9) (hw : w < 9) (hz : sx_z k = sx_z w) (hs : WA Z c w s) (m : Nat) : ∀ (j f : Nat) (_ : j + m = sx_z k) (_ : m ≤ f), f_X3_isWord_28 k (nI s) (nI Z, a, b) tb (f + 1) (nI j) = some (if eqw k w m j = true then 1 else 0) := by
  have hZ := h.1
  have hz6 := (cw_z ⟨k, hk⟩).2
  have hz6 : sx_z k ≤ 6 := hz6
  have hl : sx_l k = nI (sx_z k) := rfl
  induction m with
  | zero =>
    intro j f hj _
    rw [f_X3_isWord_28_s, hl, if_pos (nI_le (by omega) (by omega))]
    rfl
  | succ m ih =>
    intro j f hj hf
    obtain ⟨f, rfl⟩ : ∃ q, f = q + 1 := ⟨f - 1, by omega⟩
    have e1 := cw_is ⟨k, hk⟩ ⟨j, by omega⟩
    have e1 : sx_c k j = nI (cw k j) := e1
    have e2 := hs.2 j (by omega)
    have e3 := (h.2 (s + j) (by have := hs.1; omega)).2
    have e4 : cw k j < 256 := by have := cw_l ⟨k, hk⟩ ⟨j, by omega⟩ (by show j < sx_z k; omega); have : cw k j ≤ 122 := this.2; omega
    rw [f_X3_isWord_28_s, hl, if_neg (nI_ge (by omega) (by omega)), nI_add, at8 h (by have := hs.1; omega), bso, m_inI (nI_in (by omega) (by omega)), nI_clamp (by omega), e1, e2]
    by_cases q : cw w j = cw k j
    · rw [if_pos (by rw [q]), nI_1, ih (j + 1) f (by omega) (by omega)]
      rw [show eqw k w (m + 1) j = eqw k w m (j + 1) from by simp only [eqw]; rw [decide_eq_true q, Bool.true_and]]
    · rw [if_neg (fun z => q ((nI_eq (by omega) (by omega)).mp z))]
      rw [show eqw k w (m + 1) j = false from by simp only [eqw]; rw [decide_eq_false q, Bool.false_and]]
      rfl
theorem isw {Z : Nat} {tb : Nat → Int8} {c : Nat → Nat} (h : TB Z tb c) (a b fl fp : Int32) {k w s : Nat} (hk : k < 9) (hw : w < 9) (hs : WA Z c w s) : f_X3_isWord k (fl, fp, 1, nI s, nI (s + sx_z w)) (nI Z, a, b) tb = some (if k = w then 1 else 0) := by
  have hZ := h.1
  have hl : sx_l k = nI (sx_z k) := rfl
  have hz6 : sx_z k ≤ 6 := (cw_z ⟨k, hk⟩).2
  have hw6 : sx_z w ≤ 6 := (cw_z ⟨w, hw⟩).2
  unfold f_X3_isWord
  show (if (1 : Int32) = 1 then _ else _) = _
  rw [if_pos rfl, pk_sub (by omega), show s + sx_z w - s = sx_z w by omega, hl]
  by_cases q : sx_z w = sx_z k
  · rw [if_pos (by rw [q])]
    have g := isw28 h a b hk hw q.symm hs (sx_z k) 0 65535 (by omega) (by omega)
    have e := eqw_is ⟨k, hk⟩ ⟨w, hw⟩ q.symm
    have e : eqw k w (sx_z k) 0 = decide (k = w) := e
    rw [e] at g
    refine Eq.trans g ?_
    by_cases q2 : k = w
    · rw [if_pos (decide_eq_true q2), if_pos q2]
    · rw [if_neg (by rw [decide_eq_false q2]; decide), if_neg q2]
  · rw [if_neg (fun z => q ((nI_eq (by omega) (by omega)).mp z)), if_neg (fun z => q (by rw [z]))]
/-- a number of two digits at most, a blank ahead, stands at e; it ends at t -/
def NA (Z : Nat) (c : Nat → Nat) (v e t : Nat) : Prop := v < 100 ∧ c e = 32 ∧ t < Z ∧ (c t = 59 ∨ c t = 32) ∧ ((v < 10 ∧ t = e + 2 ∧ c (e + 1) = 48 + v) ∨ (10 ≤ v ∧ t = e + 3 ∧ c (e + 1) = 48 + v / 10 ∧ c (e + 2) = 48 + v % 10))
theorem step_na {Z : Nat} {tb : Nat → Int8} {c : Nat → Nat} (h : TB Z tb c) (a b fl fp kd so : Int32) {v e t : Nat} (hn : NA Z c v e t) : f_X3_step (fl, fp, kd, so, nI e) (nI Z, a, b) tb = some (fl, fp, 2, nI (e + 1), nI t) := by
  obtain ⟨h1, h2, h3, h4, h5⟩ := hn
  have hd : e + 1 < t ∧ t ≤ e + 3 ∧ ∀ j, e + 1 ≤ j → j < t → 48 ≤ c j ∧ c j ≤ 57 := by
    rcases h5 with ⟨q1, q2, q3⟩ | ⟨q1, q2, q3, q4⟩
    · refine ⟨by omega, by omega, fun j j1 j2 => ?_⟩
      have : j = e + 1 := by omega
      subst this; omega
    · refine ⟨by omega, by omega, fun j j1 j2 => ?_⟩
      have : j = e + 1 ∨ j = e + 2 := by omega
      rcases this with z | z <;> subst z <;> omega
  exact step_num h a b fl fp kd so (by omega) hd.1 (by omega) (by omega) (fun j j1 j2 => by rw [show j = e by omega]; exact h2) hd.2.2 (fun _ => by omega)
theorem rdn {Z : Nat} {tb : Nat → Int8} {c : Nat → Nat} (h : TB Z tb c) (a b : Int32) {v e t : Nat} (hn : NA Z c v e t) {lo hi : Nat} (hlo : lo ≤ v) (hhi : v ≤ hi) (hhi2 : hi < 1000) : f_X3_readNumber (nI lo) (nI hi) (0, -1, 2, nI (e + 1), nI t) (nI Z, a, b) tb = Option.bind (f_X3_step (0, -1, 2, nI (e + 1), nI t) (nI Z, a, b) tb) (fun z => some (nI v, z)) := by
  have hZ := h.1
  obtain ⟨h1, h2, h3, h4, h5⟩ := hn
  have e115 : f_X3_readNumber_115 (nI Z, a, b) tb (nI v) 0 (-1) 2 (nI (e + 1)) (nI t) = Option.bind (f_X3_step (0, -1, 2, nI (e + 1), nI t) (nI Z, a, b) tb) (fun z => some (nI v, z)) := rfl
  have e90 : f_X3_readNumber_90 1 (nI (e + 1)) 0 (-1) 2 (nI t) (nI Z, a, b) tb (nI lo) (nI v) (nI hi) = Option.bind (f_X3_step (0, -1, 2, nI (e + 1), nI t) (nI Z, a, b) tb) (fun z => some (nI v, z)) := by
    unfold f_X3_readNumber_90
    rw [if_neg (by decide), if_neg (nI_nlt hlo (by omega)), if_pos (nI_le hhi (by omega))]
    exact e115
  unfold f_X3_readNumber
  show (if (0 : Int32) = 1 then _ else _) = _
  rw [if_neg (by decide), if_pos rfl, pk_sub (by omega), if_neg (show ¬ 3 < nI (t - (e + 1)) from nI_nlt (a := 3) (b := t - (e + 1)) (by omega) (by omega))]
  unfold f_X3_readNumber_44
  have e10 : ∀ x y : Nat, 48 ≤ y → (nI x * 10 + nI y) - 48 = nI (x * 10 + y - 48) := fun x y hy => by
    rw [show (10 : Int32) = nI 10 from rfl, pk_mul, nI_add]
    exact pk_sub (b := 48) (by omega)
  rcases h5 with ⟨q1, q2, q3⟩ | ⟨q1, q2, q3, q4⟩
  · subst q2
    show f_X3_readNumber_52 1 (nI (e + 1)) 0 (-1) 2 (nI (e + 2)) (nI Z, a, b) tb (nI lo) (nI hi) (65534 + 1 + 1) (nI 0) (nI (e + 1)) = _
    rw [f_X3_readNumber_52_s, if_neg (by decide), if_neg (nI_ge (by omega) (by omega)), at8 h (by omega), bso, e10 0 (c (e + 1)) (by omega), nI_1, f_X3_readNumber_52_s, if_neg (by decide), if_pos (nI_le (by omega) (by omega)), show 0 * 10 + c (e + 1) - 48 = v by omega]
    exact e90
  · subst q2
    show f_X3_readNumber_52 1 (nI (e + 1)) 0 (-1) 2 (nI (e + 3)) (nI Z, a, b) tb (nI lo) (nI hi) (65533 + 1 + 1 + 1) (nI 0) (nI (e + 1)) = _
    rw [f_X3_readNumber_52_s, if_neg (by decide), if_neg (nI_ge (by omega) (by omega)), at8 h (by omega), bso, e10 0 (c (e + 1)) (by omega), nI_1, f_X3_readNumber_52_s, if_neg (by decide), if_neg (nI_ge (by omega) (by omega)), at8 h (by omega), bso, e10 _ (c (e + 1 + 1)) (by show 48 ≤ c (e + 2); omega), nI_1, f_X3_readNumber_52_s, if_neg (by decide), if_pos (nI_le (by omega) (by omega)), show (0 * 10 + c (e + 1) - 48) * 10 + c (e + 1 + 1) - 48 = v by
      have : c (e + 1 + 1) = 48 + v % 10 := q4
      omega]
    exact e90
