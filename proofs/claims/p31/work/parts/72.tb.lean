def Fr (a a' : Nat → Int32) : Prop := ∀ j, j < 34 ∨ 133 ≤ j → a' j = a j
theorem Fr.rf {a : Nat → Int32} : Fr a a := fun _ _ => rfl
theorem Fr.tr {a b c : Nat → Int32} (h1 : Fr a b) (h2 : Fr b c) : Fr a c := fun j hj => by rw [h2 j hj, h1 j hj]
theorem Fr.up {a b : Nat → Int32} (h : Fr a b) {k : Nat} {v : Int32} (h1 : 34 ≤ k) (h2 : k < 133) : Fr a (upd b k v) := fun j hj => by rw [upd_ne _ _ (by omega)]; exact h j hj
/-- all that a step of the receiver reads stands as it was, but for the position, the bits since, the store -/
def Fr2 (a a' : Nat → Int32) : Prop := Fr a a' ∧ a' 39 = a 39 ∧ a' 40 = a 40 ∧ a' 48 = a 48 ∧ a' 50 = a 50
theorem Fr2.rf {a : Nat → Int32} : Fr2 a a := ⟨Fr.rf, rfl, rfl, rfl, rfl⟩
theorem Fr2.tr {a b c : Nat → Int32} (h1 : Fr2 a b) (h2 : Fr2 b c) : Fr2 a c := ⟨h1.1.tr h2.1, h2.2.1.trans h1.2.1, h2.2.2.1.trans h1.2.2.1, h2.2.2.2.1.trans h1.2.2.2.1, h2.2.2.2.2.trans h1.2.2.2.2⟩
theorem Fr2.up {a b : Nat → Int32} (h : Fr2 a b) {k : Nat} {v : Int32} (h1 : 34 ≤ k) (h2 : k < 133) (h3 : k ≠ 39) (h4 : k ≠ 40) (h5 : k ≠ 48) (h6 : k ≠ 50 := by first | decide | omega) : Fr2 a (upd b k v) :=
  ⟨h.1.up h1 h2, by rw [upd_ne _ _ (fun e => h3 e.symm)]; exact h.2.1, by rw [upd_ne _ _ (fun e => h4 e.symm)]; exact h.2.2.1, by rw [upd_ne _ _ (fun e => h5 e.symm)]; exact h.2.2.2.1, by rw [upd_ne _ _ (fun e => h6 e.symm)]; exact h.2.2.2.2⟩
/-- the scheme's cells -/
def SB (a : Nat → Int32) (L w st r : Nat) : Prop := (4 ≤ L ∧ L ≤ 24) ∧ (1 ≤ w ∧ w ≤ 8) ∧ st ≤ 12 ∧ (2 ≤ r ∧ r ≤ 12) ∧ a 0 = nI L ∧ a 2 = nI w ∧ a 3 = nI st ∧ a 8 = nI r
theorem SB.fr {a a' : Nat → Int32} {L w st r : Nat} (h : SB a L w st r) (f : Fr a a') : SB a' L w st r :=
  ⟨h.1, h.2.1, h.2.2.1, h.2.2.2.1, by rw [f 0 (by omega)]; exact h.2.2.2.2.1, by rw [f 2 (by omega)]; exact h.2.2.2.2.2.1, by rw [f 3 (by omega)]; exact h.2.2.2.2.2.2.1, by rw [f 8 (by omega)]; exact h.2.2.2.2.2.2.2⟩
theorem SB.lr {a : Nat → Int32} {L w st r : Nat} (h : SB a L w st r) : 8 ≤ L * r ∧ L * r ≤ 288 := by
  obtain ⟨⟨a1, a2⟩, _, _, ⟨b1, b2⟩, _⟩ := h
  exact ⟨Nat.mul_le_mul a1 b1, Nat.mul_le_mul a2 b2⟩
/-- as Fr2, but that a value may have been taken -/
def FrK (a a' : Nat → Int32) : Prop := Fr a a' ∧ a' 39 = a 39 ∧ a' 40 = a 40 ∧ a' 48 = a 48 ∧ (a' 50 = a 50 ∨ a' 50 = a 50 + 1)
theorem FrK.of {a a' : Nat → Int32} (h : Fr2 a a') : FrK a a' := ⟨h.1, h.2.1, h.2.2.1, h.2.2.2.1, Or.inl h.2.2.2.2⟩
theorem Fr2.trK {a b c : Nat → Int32} (h1 : Fr2 a b) (h2 : FrK b c) : FrK a c := ⟨h1.1.tr h2.1, h2.2.1.trans h1.2.1, h2.2.2.1.trans h1.2.2.1, h2.2.2.2.1.trans h1.2.2.2.1, by rw [← h1.2.2.2.2]; exact h2.2.2.2.2⟩
/-- the store holds at most two frames -/
def FrS (a a' : Nat → Int32) : Prop := Fr a a' ∧ a' 39 = a 39 ∧ a' 40 = a 40 ∧ a' 50 = a 50 ∧ ∃ sd : Nat, sd ≤ 2 ∧ a' 48 = nI sd
/-- a step when it is locked -/
def FrL (a a' : Nat → Int32) : Prop := Fr a a' ∧ a' 39 = a 39 ∧ (a' 40 = 0 ∨ a' 40 = a 40) ∧ (a' 50 = a 50 ∨ a' 50 = a 50 + 1) ∧ ∃ sd : Nat, sd ≤ 2 ∧ a' 48 = nI sd
/-- what a receiver's step wants, and leaves: S bits at most since it last began -/
def HB (a : Nat → Int32) (S : Nat) : Prop := ∃ L w st r po si sd tk : Nat, SB a L w st r ∧ po < L * r ∧ si ≤ S ∧ sd ≤ 2 ∧ tk ≤ S ∧ a 39 = nI po ∧ a 40 = nI si ∧ a 48 = nI sd ∧ a 50 = nI tk
