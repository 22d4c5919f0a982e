/-- a number between 0 and one less than there are -/
theorem in_c {x0 q : Int32} {n : Nat} (hn : n ≤ 5000) (h : q = 0 ∨ (q = 1 ∧ ¬ x0 < 0 ∧ ¬ nI n - 1 < x0)) (c : ¬ q = 0) : ∃ k : Nat, x0 = nI k ∧ k < n := by
  rcases h with h | ⟨_, l1, l2⟩
  · exact absurd h c
  · obtain ⟨k, e, _, h2⟩ := bt_n (a := 0) (b := n) (by omega) (by omega) 1 (by omega) l1 l2
    exact ⟨k, e, by omega⟩
/-- what would be is tried over a copy -/
def TW (a a1 : Nat → Int32) : Prop := (∀ j, j < 544 → a1 j = a j) ∧ ∀ j, j < 136 → a1 (544 + j) = a j
theorem IB.tw {a a1 : Nat → Int32} (h : IB a 0) (t : TW a a1) : IB a1 0 := h.c (fun k hk => by rw [Nat.zero_add]; exact t.1 k (by omega))
theorem IB.hb {a : Nat → Int32} (h : IB a 0) : ∃ hd bt : Nat, HB a hd ∧ hd ≤ bt ∧ bt ≤ 4000 ∧ a 33 = nI hd ∧ a 32 = nI bt := by
  obtain ⟨L, w', st, r, sy, bt, hd, po, si', sd, tk, hS, h5, h6, h7, h8, h9, h10, h11, g5, g6, g7, g8, g9, g10, g11⟩ := h.sb
  exact ⟨hd, bt, ⟨L, w', st, r, po, si', sd, tk, hS, h8, h9, h10, h11, g8, g9, g10, g11⟩, h6, h7, g7, g6⟩
/-- a block with its text's size -/
def IZ (a : Nat → Int32) (o : Nat) : Prop := IB a o ∧ ∃ z : Nat, z ≤ 300 ∧ a (o + 133) = nI z
theorem IZ.c {a a' : Nat → Int32} {o o' : Nat} (h : IZ a o) (e : ∀ k, k < 136 → a' (o' + k) = a (o + k)) : IZ a' o' := by
  obtain ⟨h1, z, h2, h3⟩ := h
  exact ⟨h1.c (fun k hk => e k (by omega)), z, h2, (e 133 (by decide)).trans h3⟩
/-- the reference's state between two calls -/
def RI (u : Int32) (a un sv : Nat → Int32) : Prop := IZ a 0 ∧ (∃ u' : Nat, u = nI u' ∧ KU un u') ∧ ∀ k, k < 3 → sv k = 0 ∨ IZ a (136 * (k + 1))
theorem RI.of {u u2 : Int32} {a a' un un' sv : Nat → Int32} (h : RI u a un sv) (h0 : IZ a' 0) (h1 : ∃ u' : Nat, u2 = nI u' ∧ KU un' u') (h2 : ∀ j, 136 ≤ j → j < 544 → a' j = a j) : RI u2 a' un' sv :=
  ⟨h0, h1, fun k hk => (h.2.2 k hk).imp id (fun q => q.c (fun j hj => h2 _ (by omega) (by omega)))⟩
theorem RI.act {u u2 : Int32} {a a' un un' sv : Nat → Int32} (h : RI u a un sv) (q : AO a u2 a' un') : RI u2 a' un' sv := by
  obtain ⟨⟨_, z, z1, z2⟩, _, _⟩ := id h
  exact h.of ⟨q.1, z, z1, (q.2.2 133 (by decide)).trans z2⟩ q.2.1 (fun j hj _ => q.2.2 j (by omega))
theorem RI.same {u : Int32} {a a' un sv : Nat → Int32} (h : RI u a un sv) (e : ∀ j, j < 544 → a' j = a j) : RI u a' un sv :=
  h.of (h.1.c (fun k hk => by rw [Nat.zero_add]; exact e k (by omega))) h.2.1 (fun j _ hj => e j hj)
