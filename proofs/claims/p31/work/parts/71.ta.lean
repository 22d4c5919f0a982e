def Tt {α : Type} (A : Option α) (P : α → Prop) : Prop := ∃ r, A = some r ∧ P r
theorem tt_r {α : Type} {a : α} {P : α → Prop} (h : P a) : Tt (some a) P := ⟨a, rfl, h⟩
theorem tt_b {α β : Type} {A : Option α} {f : α → Option β} {P : α → Prop} {Q : β → Prop} (h : Tt A P) (k : ∀ r, P r → Tt (f r) Q) : Tt (Option.bind A f) Q := by
  obtain ⟨r, e, p⟩ := h
  rw [e]; exact k r p
theorem tt_i {α : Type} {c : Prop} {inst : Decidable c} {A B : Option α} {P : α → Prop} (h1 : c → Tt A P) (h2 : ¬ c → Tt B P) : Tt (@ite _ c inst A B) P := by
  by_cases h : c
  · rw [if_pos h]; exact h1 h
  · rw [if_neg h]; exact h2 h
theorem tt_in {α : Type} {i : Int32} {n : Nat} {A : Option α} {P : α → Prop} (h : vp_in i n) (k : Tt A P) : Tt (m_in i n A) P := by rw [m_inI h]; exact k
theorem tt_ik {α : Type} {i : Int32} {n : Nat} {A : Option α} {P : α → Prop} (k : Nat) (e : i = nI k) (h : k < n) (hn : n < 2 ^ 31) (q : Tt A P) : Tt (m_in i n A) P := by subst e; rw [m_inI (nI_in h hn)]; exact q
theorem tt_g {α : Type} {c : Prop} {inst : Decidable c} {A : Option α} {P : α → Prop} (h : c) (k : Tt A P) : Tt (@m_g α c inst A) P := by rw [m_gI h]; exact k
theorem tt_n {α β : Type} {a : α} {k : α → Option β} {P : β → Prop} (h : Tt (k a) P) : Tt (m_n a k) P := h
theorem tt_m {α : Type} {A : Option α} {P Q : α → Prop} (h : Tt A P) (k : ∀ r, P r → Q r) : Tt A Q := by
  obtain ⟨r, e, p⟩ := h
  exact ⟨r, e, k r p⟩
/-- the ranges of what is told, where nothing is bad -/
def TOk (t : Nat → Int32) : Prop := (∃ L : Nat, t 0 = nI L ∧ 4 ≤ L ∧ L ≤ 24) ∧ (∃ w : Nat, t 2 = nI w ∧ 1 ≤ w ∧ w ≤ 8) ∧ (∃ q : Nat, t 3 = nI q ∧ q ≤ 12) ∧ (∃ r : Nat, t 8 = nI r ∧ 2 ≤ r ∧ r ≤ 12)
theorem TO_far {t : Nat → Int32} (h : TOk t) (i : Nat) (v : Int32) (hi : i ≠ 0 ∧ i ≠ 2 ∧ i ≠ 3 ∧ i ≠ 8) : TOk (upd t i v) := by
  obtain ⟨h0, h2, h3, h8⟩ := h
  refine ⟨?_, ?_, ?_, ?_⟩
  · rw [upd_ne _ _ (fun e => hi.1 e.symm)]; exact h0
  · rw [upd_ne _ _ (fun e => hi.2.1 e.symm)]; exact h2
  · rw [upd_ne _ _ (fun e => hi.2.2.1 e.symm)]; exact h3
  · rw [upd_ne _ _ (fun e => hi.2.2.2 e.symm)]; exact h8
theorem rng {v lo hi : Int32} {a b : Nat} (ha : lo = nI a) (hb : hi = nI b) (hb2 : b < 2 ^ 31) (hab : a ≤ b) (h1 : ¬ v < lo) (h2 : ¬ hi < v) : ∃ k : Nat, v = nI k ∧ a ≤ k ∧ k ≤ b := by
  subst ha
  subst hb
  have g1 := i_nlt h1
  have g2 := i_nlt h2
  rw [i_le, nI_toInt (by omega)] at g1
  rw [i_le, nI_toInt hb2] at g2
  refine ⟨v.toInt.toNat, ?_, by omega, by omega⟩
  apply Int32.toInt_inj.mp
  rw [nI_toInt (by omega)]
  omega
theorem TO_0 {t : Nat → Int32} (h : TOk t) (v : Int32) (h1 : ¬ v < 4) (h2 : ¬ 24 < v) : TOk (upd t 0 v) := by
  obtain ⟨k, rfl, a, b⟩ := rng (a := 4) (b := 24) rfl rfl (by decide) (by decide) h1 h2
  exact ⟨⟨k, upd_same _ _ _, a, b⟩, by rw [upd_ne _ _ (by decide)]; exact h.2.1, by rw [upd_ne _ _ (by decide)]; exact h.2.2.1, by rw [upd_ne _ _ (by decide)]; exact h.2.2.2⟩
theorem TO_2 {t : Nat → Int32} (h : TOk t) (v : Int32) (h1 : ¬ v < 1) (h2 : ¬ 8 < v) : TOk (upd t 2 v) := by
  obtain ⟨k, rfl, a, b⟩ := rng (a := 1) (b := 8) rfl rfl (by decide) (by decide) h1 h2
  exact ⟨by rw [upd_ne _ _ (by decide)]; exact h.1, ⟨k, upd_same _ _ _, a, b⟩, by rw [upd_ne _ _ (by decide)]; exact h.2.2.1, by rw [upd_ne _ _ (by decide)]; exact h.2.2.2⟩
theorem TO_3 {t : Nat → Int32} (h : TOk t) (v : Int32) (h1 : ¬ v < 0) (h2 : ¬ 12 < v) : TOk (upd t 3 v) := by
  obtain ⟨k, rfl, a, b⟩ := rng (a := 0) (b := 12) rfl rfl (by decide) (by decide) h1 h2
  exact ⟨by rw [upd_ne _ _ (by decide)]; exact h.1, by rw [upd_ne _ _ (by decide)]; exact h.2.1, ⟨k, upd_same _ _ _, b⟩, by rw [upd_ne _ _ (by decide)]; exact h.2.2.2⟩
theorem TO_c {t t' : Nat → Int32} (h : TOk t) (e : ∀ j, j < 9 → t' j = t j) : TOk t' :=
  ⟨by rw [e 0 (by omega)]; exact h.1, by rw [e 2 (by omega)]; exact h.2.1, by rw [e 3 (by omega)]; exact h.2.2.1, by rw [e 8 (by omega)]; exact h.2.2.2⟩
theorem TO_8 {t : Nat → Int32} (h : TOk t) {k : Nat} (h1 : 2 ≤ k) (h2 : k ≤ 12) : TOk (upd t 8 (nI k)) :=
  ⟨by rw [upd_ne _ _ (by decide)]; exact h.1, by rw [upd_ne _ _ (by decide)]; exact h.2.1, by rw [upd_ne _ _ (by decide)]; exact h.2.2.1, ⟨k, upd_same _ _ _, h1, h2⟩⟩
/-- a block's cells where the scheme, the line's size, the receiver stand -/
def IB (a : Nat → Int32) (o : Nat) : Prop := ∃ L w st r sy bt hd po si sd tk : Nat, (4 ≤ L ∧ L ≤ 24) ∧ (1 ≤ w ∧ w ≤ 8) ∧ st ≤ 12 ∧ (2 ≤ r ∧ r ≤ 12) ∧ sy ≤ 8 ∧ hd ≤ bt ∧ bt ≤ 4000 ∧ po < L * r ∧ si ≤ hd ∧ sd ≤ 2 ∧ tk ≤ hd ∧
  a o = nI L ∧ a (o + 2) = nI w ∧ a (o + 3) = nI st ∧ a (o + 8) = nI r ∧ a (o + 21) = nI sy ∧ a (o + 32) = nI bt ∧ a (o + 33) = nI hd ∧ a (o + 39) = nI po ∧ a (o + 40) = nI si ∧ a (o + 48) = nI sd ∧ a (o + 50) = nI tk
