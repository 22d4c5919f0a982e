theorem IB.c {a a' : Nat → Int32} {o o' : Nat} (h : IB a o) (e : ∀ k, k < 133 → a' (o' + k) = a (o + k)) : IB a' o' := by
  obtain ⟨L, w, st, r, sy, bt, hd, po, si, sd, tk, h1, h2, h3, h4, h5, h6, h7, h8, h9, h10, h11, g1, g2, g3, g4, g5, g6, g7, g8, g9, g10, g11⟩ := h
  exact ⟨L, w, st, r, sy, bt, hd, po, si, sd, tk, h1, h2, h3, h4, h5, h6, h7, h8, h9, h10, h11, (e 0 (by decide)).trans g1, (e 2 (by decide)).trans g2, (e 3 (by decide)).trans g3, (e 8 (by decide)).trans g4, (e 21 (by decide)).trans g5, (e 32 (by decide)).trans g6, (e 33 (by decide)).trans g7, (e 39 (by decide)).trans g8, (e 40 (by decide)).trans g9, (e 48 (by decide)).trans g10, (e 50 (by decide)).trans g11⟩
def KU (un : Nat → Int32) (u : Nat) : Prop := u ≤ 6 ∧ ∀ j, j < u → IB un (133 * j)
/-- a sending touches the values, the bits' count, the checks sent -/
def FrT (a a' : Nat → Int32) : Prop := ∀ j, j < 21 ∨ 33 ≤ j → a' j = a j
theorem FrT.up {a b : Nat → Int32} (h : FrT a b) {k : Nat} {v : Int32} (h1 : 21 ≤ k) (h2 : k < 33) : FrT a (upd b k v) := fun j hj => by rw [upd_ne _ _ (by omega)]; exact h j hj
theorem SB.frT {a a' : Nat → Int32} {L w st r : Nat} (h : SB a L w st r) (f : FrT a a') : SB a' L w st r :=
  ⟨h.1, h.2.1, h.2.2.1, h.2.2.2.1, by rw [f 0 (by omega)]; exact h.2.2.2.2.1, by rw [f 2 (by omega)]; exact h.2.2.2.2.2.1, by rw [f 3 (by omega)]; exact h.2.2.2.2.2.2.1, by rw [f 8 (by omega)]; exact h.2.2.2.2.2.2.2⟩
theorem IB.sb {a : Nat → Int32} (h : IB a 0) : ∃ L w st r sy bt hd po si sd tk : Nat, SB a L w st r ∧ sy ≤ 8 ∧ hd ≤ bt ∧ bt ≤ 4000 ∧ po < L * r ∧ si ≤ hd ∧ sd ≤ 2 ∧ tk ≤ hd ∧ a 21 = nI sy ∧ a 32 = nI bt ∧ a 33 = nI hd ∧ a 39 = nI po ∧ a 40 = nI si ∧ a 48 = nI sd ∧ a 50 = nI tk := by
  obtain ⟨L, w, st, r, sy, bt, hd, po, si, sd, tk, h1, h2, h3, h4, h5, h6, h7, h8, h9, h10, h11, g1, g2, g3, g4, g5, g6, g7, g8, g9, g10, g11⟩ := h
  exact ⟨L, w, st, r, sy, bt, hd, po, si, sd, tk, ⟨h1, h2, h3, h4, g1, g2, g3, g4⟩, h5, h6, h7, h8, h9, h10, h11, g5, g6, g7, g8, g9, g10, g11⟩
theorem IB.mk' {a : Nat → Int32} {L w st r sy bt hd po si sd tk : Nat} (h : SB a L w st r) (h5 : sy ≤ 8) (h6 : hd ≤ bt) (h7 : bt ≤ 4000) (h8 : po < L * r) (h9 : si ≤ hd) (h10 : sd ≤ 2) (h11 : tk ≤ hd) (g5 : a 21 = nI sy) (g6 : a 32 = nI bt) (g7 : a 33 = nI hd) (g8 : a 39 = nI po) (g9 : a 40 = nI si) (g10 : a 48 = nI sd) (g11 : a 50 = nI tk) : IB a 0 :=
  ⟨L, w, st, r, sy, bt, hd, po, si, sd, tk, h.1, h.2.1, h.2.2.1, h.2.2.2.1, h5, h6, h7, h8, h9, h10, h11, h.2.2.2.2.1, h.2.2.2.2.2.1, h.2.2.2.2.2.2.1, h.2.2.2.2.2.2.2, g5, g6, g7, g8, g9, g10, g11⟩
/-- what an act leaves: the state's block, the kept ones, all behind the block -/
def AO (a : Nat → Int32) (u : Int32) (a' un' : Nat → Int32) : Prop := IB a' 0 ∧ (∃ u' : Nat, u = nI u' ∧ KU un' u') ∧ ∀ j, 133 ≤ j → a' j = a j
theorem in_n {v : Int32} {q : Int32} {a b : Nat} (hb : b < 2 ^ 31) (hab : a ≤ b) (h : q = 0 ∨ (q = 1 ∧ ¬ v < nI a ∧ ¬ nI b < v)) (c : ¬ q = 0) : ∃ k : Nat, v = nI k ∧ a ≤ k ∧ k ≤ b := by
  rcases h with h | ⟨_, h1, h2⟩
  · exact absurd h c
  · exact rng rfl rfl hb hab h1 h2
/-- a place between two numbers, as the tests tell it -/
theorem bt_n {x0 : Int32} {a b : Nat} (ha : a < 2 ^ 30) (hb : b < 2 ^ 30) (c : Nat) (hc : c < 2 ^ 30) (h1 : ¬ x0 < nI a) (h2 : ¬ nI b - nI c < x0) : ∃ k : Nat, x0 = nI k ∧ a ≤ k ∧ k + c ≤ b := by
  have g1 := i_nlt h1
  have g2 := i_nlt h2
  rw [i_le, nI_toInt (by omega)] at g1
  rw [i_le, pk_sub_toInt hb hc] at g2
  refine ⟨x0.toInt.toNat, ?_, by omega, by omega⟩
  apply Int32.toInt_inj.mp
  rw [nI_toInt (by omega)]
  omega
/-- the state's block in the form that a step of the receiver takes -/
theorem IB.of_hb {a : Nat → Int32} {sy bt hd S : Nat} (h : HB a S) (h5 : sy ≤ 8) (h6 : hd ≤ bt) (h7 : bt ≤ 4000) (hS : S ≤ hd) (g5 : a 21 = nI sy) (g6 : a 32 = nI bt) (g7 : a 33 = nI hd) : IB a 0 := by
  obtain ⟨L, w, st, r, po, si, sd, tk, h1, h2, h3, h4, h8, e1, e2, e3, e4⟩ := h
  exact IB.mk' h1 h5 h6 h7 h2 (by omega) h4 (by omega) g5 g6 g7 e1 e2 e3 e4
theorem HB.up {a : Nat → Int32} {S : Nat} (h : HB a S) {k : Nat} {v : Int32} (hk : k = 32 ∨ k = 33 ∨ k = 31) : HB (upd a k v) S := by
  obtain ⟨L, w, st, r, po, si, sd, tk, h1, h2, h3, h4, h8, e1, e2, e3, e4⟩ := h
  refine ⟨L, w, st, r, po, si, sd, tk, ⟨h1.1, h1.2.1, h1.2.2.1, h1.2.2.2.1, ?_, ?_, ?_, ?_⟩, h2, h3, h4, h8, ?_, ?_, ?_, ?_⟩
  · rw [upd_ne _ _ (by omega)]; exact h1.2.2.2.2.1
  · rw [upd_ne _ _ (by omega)]; exact h1.2.2.2.2.2.1
  · rw [upd_ne _ _ (by omega)]; exact h1.2.2.2.2.2.2.1
  · rw [upd_ne _ _ (by omega)]; exact h1.2.2.2.2.2.2.2
  · rw [upd_ne _ _ (by omega)]; exact e1
  · rw [upd_ne _ _ (by omega)]; exact e2
  · rw [upd_ne _ _ (by omega)]; exact e3
  · rw [upd_ne _ _ (by omega)]; exact e4
