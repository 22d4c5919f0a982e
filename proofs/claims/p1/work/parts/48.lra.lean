theorem gi_td {big l : List Cond} {a : Nat} (n : Nat) (h1 : GoodIn big ((l.drop a).take n)) (h2 : GoodIn big (l.drop (a + n))) : GoodIn big (l.drop a) := fun w h => by
  rw [← List.take_append_drop n (l.drop a)] at h
  rcases List.mem_append.mp h with h | h
  · exact h1 w h
  · rw [List.drop_drop] at h; exact h2 w h
theorem gi_all {big l : List Cond} {a n : Nat} (h : l.length ≤ a + n) (h1 : GoodIn big ((l.drop a).take n)) : GoodIn big (l.drop a) := fun w hw => h1 w (by
  rw [List.take_of_length_le (by rw [List.length_drop]; omega)]; exact hw)
theorem gi_d0 {big l : List Cond} (h : GoodIn big (l.drop 0)) : GoodIn big l := h
