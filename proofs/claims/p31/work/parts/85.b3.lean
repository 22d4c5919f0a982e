/-! the row of roles -/
def rvl (n : Nat) : Nat := if n = 48 then 0 else if n = 49 then 1 else if n = 99 then 2 else 3
def rok (n : Nat) : Prop := n = 48 ∨ n = 49 ∨ n = 99 ∨ n = 100
theorem roleOf_is {n : Nat} (h : rok n) : f_X3_roleOf (nI n) = some (nI (rvl n)) := by
  rcases h with h | h | h | h <;> subst h <;> rfl
theorem rvl_le {n : Nat} : rvl n ≤ 3 := by
  unfold rvl
  repeat' split
  all_goals omega
def cfx (rr : Nat → Nat) : Nat → Nat
  | 0 => 0
  | k + 1 => cfx rr k + (if rvl (rr k) < 2 then 1 else 0)
def cck (rr : Nat → Nat) : Nat → Nat
  | 0 => 0
  | k + 1 => cck rr k + (if rvl (rr k) = 2 then 1 else 0)
theorem cfx_le (rr : Nat → Nat) (n : Nat) : cfx rr n ≤ n := by
  induction n with
  | zero => exact Nat.le_refl _
  | succ n ih => simp only [cfx]; split <;> omega
theorem cck_le (rr : Nat → Nat) (n : Nat) : cck rr n ≤ n := by
  induction n with
  | zero => exact Nat.le_refl _
  | succ n ih => simp only [cck]; split <;> omega
/-- R roles stand from e on, a blank ahead of each -/
def RR (Z : Nat) (c : Nat → Nat) (rr : Nat → Nat) (R e : Nat) : Prop := e + 2 * R < Z ∧ c (e + 2 * R) = 59 ∧ ∀ k, k < R → c (e + 2 * k) = 32 ∧ c (e + 2 * k + 1) = rr k ∧ rok (rr k)
/-- the token at the k-th role -/
def RT (rr : Nat → Nat) (R e k : Nat) : SX3 := if k < R then (0, -1, if rr k < 58 then 2 else 1, nI (e + 2 * k + 1), nI (e + 2 * k + 2)) else (0, -1, 3, nI (e + 2 * R), nI (e + 2 * R + 1))
theorem rt_step {Z : Nat} {tb : Nat → Int8} {c : Nat → Nat} (h : TB Z tb c) (a b kd so : Int32) {rr : Nat → Nat} {R e : Nat} (hr : RR Z c rr R e) {k : Nat} (hk : k ≤ R) : f_X3_step (0, -1, kd, so, nI (e + 2 * k)) (nI Z, a, b) tb = some (RT rr R e k) := by
  obtain ⟨h1, h2, h3⟩ := hr
  unfold RT
  by_cases q : k < R
  · obtain ⟨g1, g2, g3⟩ := h3 k q
    have gn : c (e + 2 * k + 2) = 32 ∨ c (e + 2 * k + 2) = 59 := by
      by_cases q2 : k + 1 < R
      · left; have := (h3 (k + 1) q2).1; rw [show e + 2 * (k + 1) = e + 2 * k + 2 by omega] at this; exact this
      · right; rw [show e + 2 * k + 2 = e + 2 * R by omega]; exact h2
    rw [if_pos q]
    by_cases q3 : rr k < 58
    · rw [if_pos q3]
      have h48 : 48 ≤ rr k ∧ rr k ≤ 57 := by rcases g3 with z | z | z | z <;> omega
      exact step_num h a b 0 (-1) kd so (s := e + 2 * k + 1) (t := e + 2 * k + 2) (by omega) (by omega) (by omega) (by omega) (fun j j1 j2 => by rw [show j = e + 2 * k by omega]; exact g1) (fun j j1 j2 => by rw [show j = e + 2 * k + 1 by omega]; omega) (fun _ => by omega)
    · rw [if_neg q3]
      have h97 : 97 ≤ rr k ∧ rr k ≤ 122 := by rcases g3 with z | z | z | z <;> omega
      exact step_word h a b 0 (-1) kd so (s := e + 2 * k + 1) (t := e + 2 * k + 2) (by omega) (by omega) (by omega) (fun j j1 j2 => by rw [show j = e + 2 * k by omega]; exact g1) (fun j j1 j2 => by rw [show j = e + 2 * k + 1 by omega]; omega) (fun _ => by omega)
  · have : k = R := by omega
    subst this
    rw [if_neg q]
    exact step_sign h a b 0 (-1) kd so h1 h2
theorem row31 {Z : Nat} {tb : Nat → Int8} {c : Nat → Nat} (h : TB Z tb c) (a b : Int32) {rr : Nat → Nat} {R e : Nat} (hr : RR Z c rr R e) (hR2 : 2 ≤ R) (hR : R ≤ 12) (hf : 2 ≤ cfx rr R) (hck : cck rr R ≤ 6) (x L r0 po wi st le wr la dr sf ch kk ze on al : Int32) (m : Nat) : ∀ (k f : Nat) (_ : k + m = R) (_ : m ≤ f) (w : Nat → Int32) (_ : ∀ j, j < k → w j = nI (rvl (rr j))), ∃ w', f_X3_readRow_31 x L r0 po wi st le wr la dr sf ch kk ze on al (nI Z, a, b) tb (f + 1) (nI k) (nI (cfx rr k)) (nI (cck rr k)) (nI k) (RT rr R e k).1 (RT rr R e k).2.1 (RT rr R e k).2.2.1 (RT rr R e k).2.2.2.1 (RT rr R e k).2.2.2.2 w = some (RT rr R e R, (L, nI R, po, wi, st, le, wr, la, dr, sf, ch, kk, ze, on, al), w') ∧ ∀ j, j < R → w' j = nI (rvl (rr j)) := by
  have hZ := h.1
  have hRT : RT rr R e R = (0, -1, 3, nI (e + 2 * R), nI (e + 2 * R + 1)) := by unfold RT; rw [if_neg (by omega)]
  have hcf := cfx_le rr R
  induction m with
  | zero =>
    intro k f hk _ w hw
    have : k = R := by omega
    subst this
    refine ⟨w, ?_, hw⟩
    rw [f_X3_readRow_31_s, if_neg (show ¬ 300 < nI k from nI_nlt (a := 300) (b := k) (by omega) (by omega)), hRT]
    show (if (3 : Int32) = 1 then _ else _) = _
    dsimp only
    rw [if_neg (by decide), if_neg (by decide)]
    unfold f_X3_readRow_161
    rw [if_neg (show ¬ nI k < 2 from nI_nlt (b := 2) (by omega) (by omega)), if_neg (show ¬ 12 < nI k from nI_nlt (a := 12) (b := k) (by omega) (by omega)), if_neg (show ¬ nI (cfx rr k) < 2 from nI_nlt (b := 2) (by omega) (by omega)), if_pos (show nI (cck rr k) ≤ 6 from nI_le (b := 6) hck (by omega))]
  | succ m ih =>
    intro k f hk hf' w hw
    obtain ⟨f, rfl⟩ : ∃ q, f = q + 1 := ⟨f - 1, by omega⟩
    have hkR : k < R := by omega
    have hr' := hr
    obtain ⟨h1, h2, h3⟩ := hr'
    obtain ⟨g1, g2, g3⟩ := h3 k hkR
    have hRk : RT rr R e k = (0, -1, if rr k < 58 then 2 else 1, nI (e + 2 * k + 1), nI (e + 2 * k + 2)) := by unfold RT; rw [if_pos hkR]
    have hw1 : ∀ j, j < k + 1 → upd w k (nI (rvl (rr k))) j = nI (rvl (rr j)) := fun j hj => by
      by_cases q : j = k
      · subst q; exact upd_same _ _ _
      · rw [upd_ne _ _ q]; exact hw j (by omega)
    obtain ⟨w', e1, e2⟩ := ih (k + 1) f (by omega) (by omega) (upd w k (nI (rvl (rr k)))) hw1
    refine ⟨w', ?_, e2⟩
    have hv3 := rvl_le (n := rr k)
    have k55 : ∀ kd : Int32, f_X3_readRow_55 (nI (e + 2 * k + 2)) 0 (-1) kd (nI (e + 2 * k + 1)) (nI Z, a, b) tb (nI k) L r0 po wi st le wr la dr sf ch kk ze on al (nI k) (nI (cfx rr k)) (nI (cck rr k)) w (f_X3_readRow_31 x L r0 po wi st le wr la dr sf ch kk ze on al (nI Z, a, b) tb (f + 1)) = some (RT rr R e R, (L, nI R, po, wi, st, le, wr, la, dr, sf, ch, kk, ze, on, al), w') := by
      intro kd
      unfold f_X3_readRow_55
      show f_X3_readRow_61 _ _ _ _ _ _ _ _ _ _ _ _ _ _ _ _ _ _ _ _ _ _ _ _ (65534 + 1 + 1) _ _ _ _ _ = _
      rw [f_X3_readRow_61_s, if_neg (nI_ge (by omega) (by omega)), at8 h (by omega), bso, g2, roleOf_is g3, bso, if_neg (show ¬ nI (rvl (rr k)) = -1 from fun z => absurd (nI_pos (n := rvl (rr k)) (by omega)) (by rw [z]; decide)), if_neg (show ¬ (12 : Int32) ≤ nI k from nI_ge (b := 12) (by omega) (by omega)), m_inI (nI_in (by omega) (by decide)), nI_clamp (by omega)]
      unfold f_X3_readRow_112 f_X3_readRow_127 f_X3_readRow_142
      have tail : ∀ (x2 x3 : Int32), x2 = nI (cfx rr (k + 1)) → x3 = nI (cck rr (k + 1)) → f_X3_readRow_61 (nI (e + 2 * k + 2)) 0 (-1) kd (nI (e + 2 * k + 1)) (nI Z, a, b) tb (nI k) L r0 po wi st le wr la dr sf ch kk ze on al (f_X3_readRow_31 x L r0 po wi st le wr la dr sf ch kk ze on al (nI Z, a, b) tb (f + 1)) (65534 + 1) (nI k + 1) x2 x3 (nI (e + 2 * k + 1) + 1) (upd w k (nI (rvl (rr k)))) = some (RT rr R e R, (L, nI R, po, wi, st, le, wr, la, dr, sf, ch, kk, ze, on, al), w') := by
        intro x2 x3 q2 q3
        subst q2
        subst q3
        have hst := rt_step h a b kd (nI (e + 2 * k + 1)) hr (k := k + 1) (by omega)
        rw [show e + 2 * (k + 1) = e + 2 * k + 2 by omega] at hst
        rw [f_X3_readRow_61_s, nI_1, nI_1, if_pos (nI_le (by omega) (by omega)), hst, bso]
        exact e1
      have c2 : (2 : Int32) ≤ nI (rvl (rr k)) ↔ 2 ≤ rvl (rr k) := nI_leI (a := 2) (by omega) (by omega)
      have c3 : nI (rvl (rr k)) = 2 ↔ rvl (rr k) = 2 := nI_eq (b := 2) (by omega) (by omega)
      by_cases q2 : rvl (rr k) = 2
      · rw [if_pos (c2.mpr (by omega)), if_pos (c3.mpr q2)]
        refine tail _ _ ?_ ?_
        · simp only [cfx]; rw [if_neg (show ¬ rvl (rr k) < 2 by omega)]; exact nI_add _ 0
        · simp only [cck]; rw [if_pos q2]; exact nI_1 _
      · by_cases q3 : rvl (rr k) < 2
        · rw [if_neg (fun z => by have := c2.mp z; omega), if_neg (fun z => q2 (c3.mp z))]
          refine tail _ _ ?_ ?_
          · simp only [cfx]; rw [if_pos q3]; exact nI_1 _
          · simp only [cck]; rw [if_neg q2]; exact nI_add _ 0
        · rw [if_pos (c2.mpr (by omega)), if_neg (fun z => q2 (c3.mp z))]
          refine tail _ _ ?_ ?_
          · simp only [cfx]; rw [if_neg q3]; exact nI_add _ 0
          · simp only [cck]; rw [if_neg q2]; exact nI_add _ 0
    rw [f_X3_readRow_31_s, if_neg (show ¬ 300 < nI k from nI_nlt (a := 300) (b := k) (by omega) (by omega)), hRk]
    dsimp only
    by_cases q3 : rr k < 58
    · rw [if_pos q3, if_neg (by decide), if_pos rfl]
      exact k55 2
    · rw [if_neg q3, if_pos rfl]
      exact k55 1
theorem stt_0 {Z : Nat} {tb : Nat → Int8} {c : Nat → Nat} (h : TB Z tb c) (a b : Int32) {rr : Nat → Nat} {R s : Nat} (hs : WA Z c 0 s) (hr : RR Z c rr R (s + sx_z 0)) (hR2 : 2 ≤ R) (hR : R ≤ 12) (hf : 2 ≤ cfx rr R) (hck : cck rr R ≤ 6) {kd : Int32} {e : Nat} (hN : NT Z c (s + sx_z 0 + 2 * R + 1) kd e) (L r0 po wi st le wr la dr sf ch kk ze on al : Int32) (ro : Nat → Int32) : ∃ ro', f_X3_readStatement (0, -1, 1, nI s, nI (s + sx_z 0)) (L, r0, po, wi, st, le, wr, la, dr, sf, ch, kk, ze, on, al) ro (nI Z, a, b) tb = some ((0, -1, kd, nI (s + sx_z 0 + 2 * R + 1), nI e), (L, nI R, po, wi, st, le, wr, la, dr, sf, ch, kk, ze, on, al), ro') ∧ ∀ j, j < R → ro' j = nI (rvl (rr j)) := by
  have hst := rt_step h a b 1 (nI s) hr (k := 0) (by omega)
  rw [Nat.mul_zero, Nat.add_zero] at hst
  obtain ⟨w', e1, e2⟩ := row31 h a b hr hR2 hR hf hck (nI s) L r0 po wi st le wr la dr sf ch kk ze on al R 0 65535 (by omega) (by omega) ro (fun j hj => by omega)
  have hR0 : RT rr R (s + sx_z 0) 0 = (0, -1, if rr 0 < 58 then 2 else 1, nI (s + sx_z 0 + 2 * 0 + 1), nI (s + sx_z 0 + 2 * 0 + 2)) := by unfold RT; rw [if_pos (by omega)]
  have hRT : RT rr R (s + sx_z 0) R = (0, -1, 3, nI (s + sx_z 0 + 2 * R), nI (s + sx_z 0 + 2 * R + 1)) := by unfold RT; rw [if_neg (by omega)]
  refine ⟨w', ?_, e2⟩
  rw [hR0] at e1 hst
  rw [hRT] at e1
  unfold f_X3_readStatement
  dsimp only
  rw [isw h a b 0 (-1) (k := 0) (w := 0) (by decide) (by decide) hs, bso, if_pos (show (0 : Nat) = 0 from rfl), if_neg (show ¬ (1 : Int32) = 0 by decide), hst, bso]
  have erow : f_X3_readRow (nI s) (0, -1, if rr 0 < 58 then 2 else 1, nI (s + sx_z 0 + 2 * 0 + 1), nI (s + sx_z 0 + 2 * 0 + 2)) (L, r0, po, wi, st, le, wr, la, dr, sf, ch, kk, ze, on, al) ro (nI Z, a, b) tb = some ((0, -1, 3, nI (s + sx_z 0 + 2 * R), nI (s + sx_z 0 + 2 * R + 1)), (L, nI R, po, wi, st, le, wr, la, dr, sf, ch, kk, ze, on, al), w') := by
    unfold f_X3_readRow f_X3_readRow_28
    dsimp only
    by_cases q3 : rr 0 < 58
    · rw [if_pos q3] at e1 ⊢
      rw [if_neg (by decide), if_pos rfl]
      exact e1
    · rw [if_neg q3] at e1 ⊢
      rw [if_pos rfl]
      exact e1
  dsimp only
  rw [erow, bso]
  show f_X3_readStatement_79 _ _ _ _ _ _ _ _ _ _ _ _ _ _ _ _ _ _ _ _ _ _ _ = _
  unfold f_X3_readStatement_79
  dsimp only
  rw [if_neg (by decide), if_pos rfl, step_nt h a b 0 (-1) 3 _ hN, bso]
