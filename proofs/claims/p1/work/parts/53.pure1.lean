theorem in0 {α : Type} (A : Option α) : m_in (0 : Int32) 4 A = A := m_inI (pk_in 0 4 (by decide))
theorem in1 {α : Type} (A : Option α) : m_in (1 : Int32) 4 A = A := m_inI (pk_in 1 4 (by decide))
theorem in2 {α : Type} (A : Option α) : m_in (2 : Int32) 4 A = A := m_inI (pk_in 2 4 (by decide))
theorem in3 {α : Type} (A : Option α) : m_in (3 : Int32) 4 A = A := m_inI (pk_in 3 4 (by decide))
theorem end4 : (if ((nI 4) - 4) < 4 then some (1 : Int32) else none) = some 1 := by decide +kernel
theorem bso {α β : Type} (a : α) (f : α → Option β) : Option.bind (some a) f = f a := rfl
theorem i_lt {a b : Int32} : a < b ↔ a.toInt < b.toInt := Int32.lt_iff_toInt_lt
theorem i_le {a b : Int32} : a ≤ b ↔ a.toInt ≤ b.toInt := Int32.le_iff_toInt_le
theorem k_12 (a b c : Int32) : lk_12 a b c = some 1 := by
  unfold lk_12 lc_12 f_X11_bit f_X2_at f_X12_bit f_X12_in
  simp only [T0c0, T0c5, T0c16, M0c0, M0a_32, in1, end4]
  by_cases h : a < 0
  · simp only [h, if_true, bso]
  · have h1 : (0 : Int32) ≤ a := by simp only [i_lt, i_le, Int32.toInt_zero] at *; omega
    have h2 : (0 : Int32) - 1 < a := by simp only [i_lt, i_le] at *; have e : ((0 : Int32) - 1).toInt = -1 := by decide
                                        have e0 : (0 : Int32).toInt = 0 := by decide
                                        omega
    simp only [h, h1, h2, if_true, if_false, bso]
theorem k_5 (a b c : Int32) : lk_5 a b c = some 1 := by
  unfold lk_5 lc_5 f_X11_turn f_X12_turn f_X12_in
  simp only [T0c0, T0c5, T0c16, M0c0, M0a_32, M0a_33, in1, end4]
  by_cases h : a < 0
  · simp only [h, if_true, bso]
  · have h2 : (0 : Int32) - 1 < a := by simp only [i_lt, i_le] at *; have e : ((0 : Int32) - 1).toInt = -1 := by decide
                                        have e0 : (0 : Int32).toInt = 0 := by decide
                                        omega
    simp only [h, h2, if_true, if_false, bso]
