def Dg (a : Nat → Int32) : Prop := Df a ∧ a 3 = 0 ∧ a 4 = 4 ∧ a 5 = 2 ∧ a 6 = 4 ∧ a 7 = 0
theorem Dg_of {a a' : Nat → Int32} (h : Dg a) (e : ∀ j, j < 15 → a' j = a j) : Dg a' :=
  ⟨⟨by rw [e 0 (by omega)]; exact h.1.1, by rw [e 8 (by omega)]; exact h.1.2.1, fun q hq => by rw [e (9 + q) (by omega)]; exact h.1.2.2 q hq⟩, by rw [e 3 (by omega)]; exact h.2.1, by rw [e 4 (by omega)]; exact h.2.2.1, by rw [e 5 (by omega)]; exact h.2.2.2.1, by rw [e 6 (by omega)]; exact h.2.2.2.2.1, by rw [e 7 (by omega)]; exact h.2.2.2.2.2⟩
theorem Dg_upd {a : Nat → Int32} {k : Nat} {v : Int32} (h : Dg a) (hk : 15 ≤ k) : Dg (upd a k v) := Dg_of h (fun j hj => upd_ne _ _ (by omega))
theorem BW_c {a : Nat → Int32} {C C' : Nat → Bool} (h : BW a C) (e : ∀ p, p < 48 → C p = C' p) : BW a C' := ⟨fun p hp => by rw [h.1 p hp, e p (by omega)], fun p hp => by
  rw [h.2.1 p hp]
  by_cases h16 : p < 16
  · rw [e (32 + p) (by omega)]
  · simp [h16], h.2.2⟩
theorem BW_of {a a' : Nat → Int32} {C : Nat → Bool} (h : BW a C) (e : ∀ k, 124 ≤ k → k < 133 → a' k = a k) : BW a' C := ⟨fun p hp => by rw [e 124 (by omega) (by omega)]; exact h.1 p hp, fun p hp => by rw [e 125 (by omega) (by omega)]; exact h.2.1 p hp, fun k h1 h2 => by rw [e k (by omega) h2]; exact h.2.2 k h1 h2⟩
theorem BW_clr {a : Nat → Int32} {C : Nat → Bool} (h : BW a C) {k : Nat} (hk : k < 48) : BW (upd a (124 + k / 32) ((a (124 + k / 32)) &&& (((1 : Int32) <<< (nI (k % 32) &&& 31)) ^^^ (-1)))) (fun p => C p && !decide (p = k)) := by
  by_cases h32 : k < 32
  · rw [show k / 32 = 0 by omega, show k % 32 = k by omega]
    refine ⟨fun p hp => ?_, fun p hp => ?_, fun q h1 h2 => ?_⟩
    · rw [show 124 + 0 = 124 from rfl, upd_same, b_clr _ _ _ h32 hp, h.1 p hp]
    · rw [upd_ne _ _ (by decide), h.2.1 p hp]
      have : ¬ 32 + p = k := by omega
      simp [this]
    · rw [upd_ne _ _ (by omega)]; exact h.2.2 q h1 h2
  · rw [show k / 32 = 1 by omega, show k % 32 = k - 32 by omega]
    refine ⟨fun p hp => ?_, fun p hp => ?_, fun q h1 h2 => ?_⟩
    · rw [upd_ne _ _ (by decide), h.1 p hp]
      have : ¬ p = k := by omega
      simp [this]
    · rw [show 124 + 1 = 125 from rfl, upd_same, b_clr _ _ _ (by omega) hp, h.2.1 p hp]
      have e : (p = k - 32) ↔ (32 + p = k) := by omega
      simp [e, Bool.and_assoc]
    · rw [upd_ne _ _ (by omega)]; exact h.2.2 q h1 h2
def str (t : Nat) (b : Int32) (p : Nat) : Bool := decide ((p + t) % 8 = 0) && decide (¬ rl ((p + t) / 8 % 6) = b)
theorem fx_is {a : Nat → Int32} (h : Df a) (s : SX12) {q : Nat} (hq : q < 48) : f_X12_isFixed (nI q) s a = some (if q % 8 = 0 then 1 else 0) := by
  unfold f_X12_isFixed
  rw [ro_is h s hq, bso]
  by_cases h8 : q % 8 = 0
  · rw [if_pos h8, if_pos h8]
    rcases rl_01 (q / 8) with e | e <;> rw [e] <;> decide
  · rw [if_neg h8, if_neg h8]; decide
theorem st_go (s : SX12) (b : Int32) (t : Nat) (ht : t < 400) (C : Nat → Bool) (m : Nat) : ∀ (k f : Nat) (_ : k + m = 48) (_ : m ≤ f) (a : Nat → Int32) (_ : Df a) (_ : a 40 = nI t) (_ : BW a (fun p => C p && !(decide (p < k) && str t b p))),
    ∃ a', f_X12_strikes_2 s b (f + 1) (nI k) a = some a' ∧ BW a' (fun p => C p && !str t b p) ∧ a' 40 = nI (t + 1) ∧ ∀ j, j ≠ 40 → j ≠ 124 → j ≠ 125 → a' j = a j := by
  induction m with
  | zero =>
    intro k f hk _ a hD h40 hB
    have : k = 48 := by omega
    subst this
    refine ⟨upd a 40 (nI (t + 1)), ?_, ?_, upd_same _ _ _, fun j h1 _ _ => upd_ne _ _ h1⟩
    · rw [f_X12_strikes_2_s, rn_is hD, bso, if_pos (by decide), h40, nI_1]
    · refine BW_c (BW_of hB (fun k h1 h2 => upd_ne _ _ (by omega))) (fun p hp => ?_)
      simp [hp]
  | succ m ih =>
    intro k f hk hf a hD h40 hB
    obtain ⟨f, rfl⟩ : ∃ q, f = q + 1 := ⟨f - 1, by omega⟩
    have hq1 : ((k + t) % 48) % 8 = (k + t) % 8 := by omega
    have hq2 : ((k + t) % 48) / 8 = (k + t) / 8 % 6 := by omega
    have next : ∀ a2 : Nat → Int32, (∀ j, j ≠ 124 → j ≠ 125 → a2 j = a j) → BW a2 (fun p => C p && !(decide (p < k + 1) && str t b p)) → ∃ a', f_X12_strikes_73 (nI k) (f_X12_strikes_2 s b (f + 1)) a2 = some a' ∧ BW a' (fun p => C p && !str t b p) ∧ a' 40 = nI (t + 1) ∧ ∀ j, j ≠ 40 → j ≠ 124 → j ≠ 125 → a' j = a j := by
      intro a2 he hB2
      have hD2 : Df a2 := ⟨by rw [he 0 (by omega) (by omega)]; exact hD.1, by rw [he 8 (by omega) (by omega)]; exact hD.2.1, fun q hq => by rw [he (9 + q) (by omega) (by omega)]; exact hD.2.2 q hq⟩
      obtain ⟨a', e1, e2, e3, e4⟩ := ih (k + 1) f (by omega) (by omega) a2 hD2 (by rw [he 40 (by omega) (by omega)]; exact h40) hB2
      refine ⟨a', ?_, e2, e3, fun j h1 h2 h3 => by rw [e4 j h1 h2 h3, he j h2 h3]⟩
      unfold f_X12_strikes_73
      rw [nI_1]; exact e1
    have skip : (C k && str t b k) = false → BW a (fun p => C p && !(decide (p < k + 1) && str t b p)) := by
      intro h0
      refine BW_c hB (fun p hp => ?_)
      by_cases hpk : p = k
      · subst hpk
        have e1 : decide (p < p) = false := by simp
        have e2 : decide (p < p + 1) = true := by simp
        rw [e1, e2]
        revert h0
        cases C p <;> cases str t b p <;> decide
      · have e : (p < k) ↔ (p < k + 1) := by omega
        simp [e]
    rw [f_X12_strikes_2_s, rn_is hD, bso, if_neg (show ¬ (48 : Int32) ≤ nI k from nI_ge (a := k) (b := 48) (by omega) (by omega)), bso, m_gI (by decide), h40, nI_add, show (48 : Int32) = nI 48 from rfl, pk_rem (a := k + t) (by omega) (by decide) (by decide)]
    show ∃ a', (Option.bind (f_X12_isLeft (nI k) s a) _) = some a' ∧ _
    rw [il_is hB s (by omega), bso]
    have hCk : (C k && !(decide (k < k) && str t b k)) = C k := by simp
    simp only [hCk]
    cases hc : C k with
    | false =>
      simp only [Bool.false_eq_true, if_false, if_true]
      exact next a (fun j _ _ => rfl) (skip (by rw [hc]; rfl))
    | true =>
      simp only [if_true]
      rw [if_neg (by decide), fx_is hD s (Nat.mod_lt _ (by decide)), bso]
      by_cases h8 : (k + t) % 8 = 0
      · rw [if_pos (show (k + t) % 48 % 8 = 0 by omega), if_neg (show ¬ (1 : Int32) = 0 by decide), ro_is hD s (Nat.mod_lt _ (by decide)), bso, if_pos (show (k + t) % 48 % 8 = 0 by omega), hq2]
        by_cases hr : rl ((k + t) / 8 % 6) = b
        · rw [if_pos hr]
          exact next a (fun j _ _ => rfl) (skip (by unfold str; simp [hr]))
        · rw [if_neg hr, show (32 : Int32) = nI 32 from rfl, pk_rem (a := k) (by omega) (by decide) (by decide), pk_div (by omega) (by decide) (by decide), show (124 : Int32) = nI 124 from rfl, nI_add, m_inI (nI_in (c := 124 + k / 32) (N := 680) (by omega) (by omega)), nI_clamp (by omega)]
          show ∃ a', m_in (nI (124 + k / 32)) 680 _ = some a' ∧ _
          rw [m_inI (nI_in (c := 124 + k / 32) (N := 680) (by omega) (by omega))]
          refine next _ (fun j h1 h2 => upd_ne _ _ ?_) (BW_c (BW_clr hB (show k < 48 by omega)) (fun p hp => ?_))
          · rcases (show k / 32 = 0 ∨ k / 32 = 1 by omega) with e | e <;> omega
          · have hs : str t b k = true := by unfold str; simp [h8, hr]
            by_cases hpk : p = k
            · subst hpk; simp [hs]
            · have e : (p < k) ↔ (p < k + 1) := by omega
              simp [e, hpk]
      · rw [if_neg (show ¬ (k + t) % 48 % 8 = 0 by omega), if_pos rfl]
        exact next a (fun j _ _ => rfl) (skip (by unfold str; simp [h8]))
theorem st_is (s : SX12) (b : Int32) (t : Nat) (ht : t < 400) (C : Nat → Bool) (a : Nat → Int32) (hD : Df a) (h40 : a 40 = nI t) (hB : BW a C) :
    ∃ a', f_X12_strikes b s a = some a' ∧ BW a' (fun p => C p && !str t b p) ∧ a' 40 = nI (t + 1) ∧ ∀ j, j ≠ 40 → j ≠ 124 → j ≠ 125 → a' j = a j :=
  st_go s b t ht C 48 0 65535 (by omega) (by omega) a hD h40 (BW_c hB (fun p _ => by simp))
