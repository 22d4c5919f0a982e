/-! a text that is put together byte by byte -/
theorem cmp_is {a b : Nat} (ha : a < 2 ^ 63) (hb : b < 2 ^ 63) : lg_cmp (lN a) (lN b) = if b < a then 1 else if a = b then 0 else -1 := by
  unfold lg_cmp
  by_cases c : b < a
  · rw [if_pos c, if_pos (show lN a > lN b from (pk_lLT hb ha).mpr c)]
  · rw [if_neg c, if_neg (show ¬ lN a > lN b from fun z => c ((pk_lLT hb ha).mp z))]
    by_cases c2 : a = b
    · rw [if_pos c2, if_pos (by rw [c2])]
    · rw [if_neg c2, if_neg (fun z => c2 ((pk_lEQ ha hb).mp z))]
/-- bytes as a number, the first one highest -/
def beN : List Nat → Nat → Nat
  | [], a => a
  | x :: l, a => beN l (a * 256 + x)
theorem beN_app (l : List Nat) (x a : Nat) : beN (l ++ [x]) a = beN l a * 256 + x := by
  induction l generalizing a with
  | nil => rfl
  | cons y l ih => exact ih (a * 256 + y)
theorem beN_lt (l : List Nat) (h : ∀ x ∈ l, x < 256) (a : Nat) : beN l a < (a + 1) * 256 ^ l.length := by
  induction l generalizing a with
  | nil => show a < (a + 1) * 256 ^ 0; rw [Nat.pow_zero]; omega
  | cons y l ih =>
    have h1 := ih (fun x hx => h x (List.mem_cons_of_mem _ hx)) (a * 256 + y)
    have h2 : y < 256 := h y List.mem_cons_self
    have h3 : (a * 256 + y + 1) * 256 ^ l.length ≤ ((a + 1) * 256) * 256 ^ l.length := Nat.mul_le_mul_right _ (by omega)
    show beN l (a * 256 + y) < (a + 1) * 256 ^ (l.length + 1)
    rw [Nat.pow_succ, Nat.mul_comm (256 ^ l.length), ← Nat.mul_assoc]
    exact Nat.lt_of_lt_of_le h1 h3
/-- the byte k of n: behind it n - 1 - k more -/
theorem beN_byte (l : List Nat) (h : ∀ x ∈ l, x < 256) (r : Nat) : ∀ (a k : Nat), k < l.length → beN l a * 256 ^ r / 256 ^ (l.length - 1 - k + r) % 256 = l.getD k 0 := by
  induction l with
  | nil => intro a k hk; exact absurd hk (Nat.not_lt_zero _)
  | cons y l ih =>
    intro a k hk
    have hl := fun x hx => h x (List.mem_cons_of_mem y hx)
    have hy : y < 256 := h y List.mem_cons_self
    cases k with
    | zero =>
      have e : beN (y :: l) a = beN l (a * 256 + y) := rfl
      have h1 := beN_lt l hl (a * 256 + y)
      have h0 : (a * 256 + y) * 256 ^ l.length ≤ beN l (a * 256 + y) := by
        have : ∀ (l : List Nat) (a : Nat), a * 256 ^ l.length ≤ beN l a := by
          intro l
          induction l with
          | nil => intro a; show a * 256 ^ 0 ≤ a; rw [Nat.pow_zero]; omega
          | cons z l ih2 =>
            intro a
            have := ih2 (a * 256 + z)
            show a * 256 ^ (l.length + 1) ≤ beN l (a * 256 + z)
            rw [Nat.pow_succ, Nat.mul_comm (256 ^ l.length), ← Nat.mul_assoc]
            exact Nat.le_trans (Nat.mul_le_mul_right _ (by omega)) this
        exact this l _
      show beN l (a * 256 + y) * 256 ^ r / 256 ^ (l.length + 1 - 1 - 0 + r) % 256 = y
      rw [Nat.add_sub_cancel, Nat.sub_zero, Nat.pow_add, Nat.mul_div_mul_right _ _ (Nat.pow_pos (by decide))]
      have hp : 0 < 256 ^ l.length := Nat.pow_pos (by decide)
      have e2 : beN l (a * 256 + y) / 256 ^ l.length = a * 256 + y := by
        apply Nat.div_eq_of_lt_le
        · exact h0
        · exact h1
      rw [e2]
      omega
    | succ k =>
      have := ih hl (a * 256 + y) k (by show k < l.length; have : k + 1 < l.length + 1 := hk; omega)
      show beN l (a * 256 + y) * 256 ^ r / 256 ^ (l.length + 1 - 1 - (k + 1) + r) % 256 = l.getD k 0
      rw [show l.length + 1 - 1 - (k + 1) = l.length - 1 - k by omega]
      exact this
theorem p256 (n : Nat) : 256 ^ n = 2 ^ (8 * n) := by rw [Nat.pow_mul]
/-- what was put: T; its last bytes stand in q yet -/
def PT (T : List Nat) (tx : SX8) (tb : Nat → Int8) (q : Nat → Int64) : Prop := ∃ (A B : List Nat) (fl fp : Int32), T = A ++ B ∧ B.length < 8 ∧ tx = (nI A.length, fl, fp) ∧ (∀ j, j < A.length → (tb j).toInt32 &&& 255 = nI (A.getD j 0)) ∧ q 0 = lN (beN B 0) ∧ q 1 = lN B.length ∧ ∀ x ∈ T, 0 < x ∧ x < 128
theorem be_63 {B : List Nat} (hB : B.length ≤ 7) (h : ∀ x ∈ B, x < 256) : beN B 0 < 2 ^ 56 := by
  have h1 := beN_lt B h 0
  rw [Nat.zero_add, Nat.one_mul, p256] at h1
  exact Nat.lt_of_lt_of_le h1 (Nat.pow_le_pow_right (by decide) (by omega))
theorem getD_app_l {α : Type} (A B : List α) (d : α) {j : Nat} (h : j < A.length) : (A ++ B).getD j d = A.getD j d := by
  rw [List.getD_eq_getElem?_getD, List.getD_eq_getElem?_getD, List.getElem?_append_left h]
theorem getD_app_r {α : Type} (A B : List α) (d : α) (j : Nat) : (A ++ B).getD (A.length + j) d = B.getD j d := by
  rw [List.getD_eq_getElem?_getD, List.getD_eq_getElem?_getD, List.getElem?_append_right (Nat.le_add_right _ _), Nat.add_sub_cancel_left]
theorem put_is {T : List Nat} {tx : SX8} {tb : Nat → Int8} {q : Nat → Int64} (h : PT T tx tb q) {b : Nat} (hb0 : 0 < b) (hb : b < 128) (hT : T.length + 1 ≤ 300) (a : Int32) : ∃ tx' tb' q', f_L_put (nI b) a tx tb q = some (tx', tb', q') ∧ PT (T ++ [b]) tx' tb' q' := by
  obtain ⟨A, B, fl, fp, rfl, hB, rfl, hA, q0, q1, hx⟩ := h
  have hB256 : ∀ x ∈ B, x < 256 := fun x hx' => by have := (hx x (List.mem_append_right _ hx')).2; omega
  have hbe := be_63 (B := B) (by omega) hB256
  have e0 : ((q 0) <<< ((8 : Int32).toInt64 &&& 63)) ||| (nI b).toInt64 = lN (beN (B ++ [b]) 0) := by
    rw [q0, show (8 : Int32) = nI 8 from rfl, wb_shl _ (by decide), nI_l (by omega), beN_app]
    exact g_or (k := 8) (p := 256) (by decide) (by omega) (by omega)
  have e1 : (vp_updL q 0 (lN (beN (B ++ [b]) 0))) 1 + 1 = lN (B.length + 1) := by
    rw [pk_uLn (by decide), q1, lN_1]
  have hx' : ∀ x ∈ (A ++ B) ++ [b], 0 < x ∧ x < 128 := by
    intro x hxm
    rcases List.mem_append.mp hxm with h | h
    · exact hx x h
    · rw [List.mem_singleton.mp h]; exact ⟨hb0, hb⟩
  have hlen : (A ++ B).length = A.length + B.length := List.length_append
  unfold f_L_put
  rw [e0, e1]
  have e2 : (vp_updL (vp_updL q 0 (lN (beN (B ++ [b]) 0))) 1 (lN (B.length + 1))) 1 = lN (B.length + 1) := pk_uLs
  have e3 : (vp_updL (vp_updL q 0 (lN (beN (B ++ [b]) 0))) 1 (lN (B.length + 1))) 0 = lN (beN (B ++ [b]) 0) := by
    rw [pk_uLn (by decide), pk_uLs]
  rw [e2, show (8 : Int64) = lN 8 from rfl, cmp_is (by omega) (by decide)]
  by_cases c : B.length + 1 = 8
  · have hBl : (B ++ [b]).length = 8 := by rw [List.length_append]; exact c
    have hB2 : ∀ x ∈ B ++ [b], x < 256 := by
      intro x hxm
      rcases List.mem_append.mp hxm with h | h
      · exact hB256 x h
      · rw [List.mem_singleton.mp h]; omega
    have hby : ∀ k, k < 8 → beN (B ++ [b]) 0 / 2 ^ (56 - 8 * k) % 256 = (B ++ [b]).getD k 0 := by
      intro k hk
      have := beN_byte (B ++ [b]) hB2 0 0 k (by omega)
      rw [hBl, Nat.pow_zero, Nat.mul_one, Nat.add_zero, p256, show 8 * (8 - 1 - k) = 56 - 8 * k by omega] at this
      exact this
    have hnz : ∀ k, k < 8 → beN (B ++ [b]) 0 / 2 ^ (56 - 8 * k) % 256 ≠ 0 := by
      intro k hk
      rw [hby k hk]
      have hm : (B ++ [b]).getD k 0 ∈ B ++ [b] := by
        rw [List.getD_eq_getElem?_getD, List.getElem?_eq_getElem (show k < (B ++ [b]).length by omega)]
        exact List.getElem_mem _
      have := (hx' ((B ++ [b]).getD k 0) (by rw [List.append_assoc]; exact List.mem_append_right _ hm)).1
      omega
    have hbig : beN (B ++ [b]) 0 < 2 ^ 64 := by
      rw [beN_app]
      omega
    obtain ⟨tb', a1, a2, a3⟩ := app8_is (z := A.length) (j := 8) (by omega) (by decide) hbig hnz (fun z => absurd z (Nat.lt_irrefl _)) fl fp tb
    rw [if_neg (show ¬ 8 < B.length + 1 by omega), if_pos c, if_pos (show (0 : Int32) = 0 from rfl), e3]
    unfold f_X11_key
    rw [a1, bso, bso]
    refine ⟨_, _, _, rfl, A ++ (B ++ [b]), [], fl, fp, by rw [List.append_nil, List.append_assoc], by decide, ?_, ?_, ?_, ?_, hx'⟩
    · rw [List.length_append, hBl]
    · intro j hj
      rw [List.length_append, hBl] at hj
      by_cases cj : j < A.length
      · rw [a2 j cj, hA j cj, getD_app_l _ _ _ cj]
      · have := a3 (j - A.length) (by omega)
        rw [Nat.add_sub_cancel' (by omega)] at this
        rw [this, hby _ (by omega)]
        have e := getD_app_r A (B ++ [b]) 0 (j - A.length)
        rw [Nat.add_sub_cancel' (by omega)] at e
        rw [e]
    · show vp_updL (vp_updL (vp_updL (vp_updL q 0 _) 1 _) 0 0) 1 0 0 = lN 0
      rw [pk_uLn (by decide), pk_uLs]
      rfl
    · show vp_updL (vp_updL (vp_updL (vp_updL q 0 _) 1 _) 0 0) 1 0 1 = lN 0
      rw [pk_uLs]
      rfl
  · rw [if_neg (show ¬ 8 < B.length + 1 by omega), if_neg c, if_neg (show ¬ (-1 : Int32) = 0 by decide)]
    refine ⟨_, _, _, rfl, A, B ++ [b], fl, fp, by rw [List.append_assoc], ?_, rfl, hA, e3, ?_, hx'⟩
    · rw [List.length_append]; show B.length + 1 < 8; omega
    · rw [e2, List.length_append]; rfl
theorem ends_is {T : List Nat} {tx : SX8} {tb : Nat → Int8} {q : Nat → Int64} (h : PT T tx tb q) (hT : T.length ≤ 300) (a : Int32) : ∃ fl fp tb' q', f_L_ends a tx tb q = some ((nI T.length, fl, fp), tb', q') ∧ TB T.length tb' (fun j => T.getD j 0) := by
  obtain ⟨A, B, fl, fp, rfl, hB, rfl, hA, q0, q1, hx⟩ := h
  have hB256 : ∀ x ∈ B, x < 256 := fun x hx' => by have := (hx x (List.mem_append_right _ hx')).2; omega
  have hbe := be_63 (B := B) (by omega) hB256
  have hlen : (A ++ B).length = A.length + B.length := List.length_append
  have h256 : ∀ j, j < (A ++ B).length → (A ++ B).getD j 0 < 256 := by
    intro j hj
    have hm : (A ++ B).getD j 0 ∈ A ++ B := by
      rw [List.getD_eq_getElem?_getD, List.getElem?_eq_getElem hj]
      exact List.getElem_mem _
    have := (hx _ hm).2
    omega
  unfold f_L_ends
  rw [q1, show (0 : Int64) = lN 0 from rfl, cmp_is (by omega) (by decide)]
  rcases Nat.eq_zero_or_pos B.length with c | c
  · have : B = [] := List.eq_nil_of_length_eq_zero c
    subst this
    rw [if_neg (show ¬ 0 < ([] : List Nat).length by decide), if_pos c, if_pos (show (0 : Int32) ≤ 0 by decide)]
    refine ⟨fl, fp, tb, q, by rw [List.append_nil], by omega, fun j hj => ⟨?_, h256 j hj⟩⟩
    rw [List.append_nil] at hj ⊢
    exact hA j hj
  · have hnz : ∀ k, k < B.length → beN B 0 * 2 ^ (8 * (8 - B.length)) / 2 ^ (56 - 8 * k) % 256 = B.getD k 0 := by
      intro k hk
      have := beN_byte B hB256 (8 - B.length) 0 k hk
      rw [p256, p256, show 8 * (B.length - 1 - k + (8 - B.length)) = 56 - 8 * k by omega] at this
      exact this
    have hz : beN B 0 * 2 ^ (8 * (8 - B.length)) / 2 ^ (56 - 8 * B.length) % 256 = 0 := by
      rw [show 8 * (8 - B.length) = 8 + (56 - 8 * B.length) by omega, Nat.pow_add, ← Nat.mul_assoc, Nat.mul_div_cancel _ (Nat.two_pow_pos _)]
      exact Nat.mul_mod_left _ _
    have hbig : beN B 0 * 2 ^ (8 * (8 - B.length)) < 2 ^ 64 := by
      have h1 := beN_lt B hB256 0
      rw [Nat.zero_add, Nat.one_mul, p256] at h1
      have h2 : 2 ^ (8 * B.length) * 2 ^ (8 * (8 - B.length)) = 2 ^ 64 := by rw [← Nat.pow_add]; congr 1; omega
      rw [← h2]
      exact Nat.mul_lt_mul_of_pos_right h1 (Nat.two_pow_pos _)
    obtain ⟨tb', a1, a2, a3⟩ := app8_is (z := A.length) (j := B.length) (by omega) (by omega) hbig (fun k hk => by
      rw [hnz k hk]
      have hm : B.getD k 0 ∈ B := by
        rw [List.getD_eq_getElem?_getD, List.getElem?_eq_getElem hk]
        exact List.getElem_mem _
      have := (hx _ (List.mem_append_right _ hm)).1
      omega) (fun _ => hz) fl fp tb
    have esh : (q 0) <<< (((8 * (8 - lN B.length)).toInt32).toInt64 &&& 63) = lN (beN B 0 * 2 ^ (8 * (8 - B.length))) := by
      rw [show (8 : Int64) = lN 8 from rfl, lN_sub (by omega), lN_mul, lN_i, q0, wb_shl _ (by omega)]
    rw [if_pos c, if_neg (show ¬ (1 : Int32) ≤ 0 by decide)]
    have e8 : ((8 * (8 - lN B.length)).toInt32) = ((8 * (8 - lN B.length)).toInt32) := rfl
    rw [esh]
    unfold f_X11_key
    rw [a1, bso, bso]
    refine ⟨fl, fp, tb', _, by rw [hlen], by omega, fun j hj => ⟨?_, h256 j hj⟩⟩
    show (tb' j).toInt32 &&& 255 = nI ((A ++ B).getD j 0)
    by_cases cj : j < A.length
    · rw [a2 j cj, hA j cj, getD_app_l _ _ _ cj]
    · have := a3 (j - A.length) (by omega)
      rw [Nat.add_sub_cancel' (by omega), hnz _ (by omega)] at this
      rw [this]
      have e := getD_app_r A B 0 (j - A.length)
      rw [Nat.add_sub_cancel' (by omega)] at e
      rw [e]
/-- a number's text: a blank, its digits -/
def numT (v : Nat) : List Nat := if v < 10 then [32, 48 + v] else [32, 48 + v / 10, 48 + v % 10]
theorem numT_l (v : Nat) : (numT v).length ≤ 3 := by
  unfold numT
  split
  · exact (show 2 ≤ 3 from by decide)
  · exact (show 3 ≤ 3 from by decide)
theorem more_is {T : List Nat} {tx : SX8} {tb : Nat → Int8} {q : Nat → Int64} (h : PT T tx tb q) {v : Nat} (hv : v < 100) (hT : T.length + 3 ≤ 300) (a : Int32) : ∃ tx' tb' q', f_L_more (nI v) a tx tb q = some (tx', tb', q') ∧ PT (T ++ numT v) tx' tb' q' := by
  obtain ⟨x1, b1, q1, e1, h1⟩ := put_is h (b := 32) (by decide) (by decide) (by omega) a
  have hl1 : (T ++ [32]).length = T.length + 1 := List.length_append
  have er : nI v - nI v / 10 * 10 = nI (v % 10) := pk_rem (d := 10) (by omega) (by decide) (by decide)
  have ed : nI v / 10 = nI (v / 10) := pk_div (d := 10) (by omega) (by decide) (by decide)
  have e1 : f_L_put 32 a tx tb q = some (x1, b1, q1) := e1
  unfold f_L_more f_L_more_25
  rw [e1, bso]
  dsimp only
  by_cases c : v < 10
  · obtain ⟨x2, b2, q2, e2, h2⟩ := put_is h1 (b := 48 + v % 10) (by omega) (by omega) (by omega) a
    rw [if_pos (show nI v ≤ 9 from nI_le (b := 9) (by omega) (by omega)), er, show (48 : Int32) + nI (v % 10) = nI (48 + v % 10) from nI_add 48 _, e2, bso]
    refine ⟨x2, b2, q2, rfl, ?_⟩
    unfold numT
    rw [if_pos c]
    rw [List.append_assoc, show v % 10 = v by omega] at h2
    exact h2
  · obtain ⟨x2, b2, q2, e2, h2⟩ := put_is h1 (b := 48 + v / 10) (by omega) (by omega) (by omega) a
    have hl2 : (T ++ [32] ++ [48 + v / 10]).length = T.length + 2 := by rw [List.length_append, hl1]; rfl
    obtain ⟨x3, b3, q3, e3, h3⟩ := put_is h2 (b := 48 + v % 10) (by omega) (by omega) (by omega) a
    rw [if_neg (show ¬ nI v ≤ 9 from nI_ge (a := 9) (by omega) (by omega)), er, ed, show (48 : Int32) + nI (v / 10) = nI (48 + v / 10) from nI_add 48 _, e2, bso]
    dsimp only
    rw [show (48 : Int32) + nI (v % 10) = nI (48 + v % 10) from nI_add 48 _, e3, bso]
    refine ⟨x3, b3, q3, rfl, ?_⟩
    unfold numT
    rw [if_neg c]
    rw [List.append_assoc, List.append_assoc] at h3
    exact h3
/-- the bytes of a word that are no zeros, n of eight at most, the first one highest -/
def wrdT (by8 : Nat → Nat) : Nat → List Nat
  | 0 => []
  | n + 1 => (if by8 n = 0 then [] else [by8 n]) ++ wrdT by8 n
theorem wrdT_l (by8 : Nat → Nat) (n : Nat) : (wrdT by8 n).length ≤ n := by
  induction n with
  | zero => exact Nat.le_refl _
  | succ n ih =>
    simp only [wrdT]
    rw [List.length_append]
    split <;> simp <;> omega
theorem word4 {x2 : Int64} {by8 : Nat → Nat} (hx : ∀ n, n < 8 → (x2 >>> ((nI (8 * n)).toInt64 &&& 63)) &&& 255 = lN (by8 n) ∧ by8 n < 128) (a : Int32) (n : Nat) : ∀ (f : Nat) (_ : n ≤ 8) (_ : n ≤ f) (T : List Nat) (tx : SX8) (tb : Nat → Int8) (q : Nat → Int64) (_ : PT T tx tb q) (_ : T.length + n ≤ 300), ∃ tx' tb' q', f_L_word_4 x2 a (f + 1) (nI (8 * n) + (-8)) tx tb q = some (tx', tb', q') ∧ PT (T ++ wrdT by8 n) tx' tb' q' := by
  induction n with
  | zero =>
    intro f _ _ T tx tb q h hT
    unfold f_L_word_4
    dsimp only
    rw [if_pos (show nI (8 * 0) + (-8) < 0 by decide)]
    exact ⟨tx, tb, q, rfl, by simp only [wrdT]; rw [List.append_nil]; exact h⟩
  | succ n ih =>
    intro f hn hf T tx tb q h hT
    obtain ⟨f, rfl⟩ : ∃ q, f = q + 1 := ⟨f - 1, by omega⟩
    have e8 : nI (8 * (n + 1)) + (-8) = nI (8 * n) := by
      rw [show (-8 : Int32) = -(nI 8) from rfl, ← Int32.sub_eq_add_neg, pk_sub (by omega)]
      congr 1
    obtain ⟨hb1, hb2⟩ := hx n (by omega)
    unfold f_L_word_4
    dsimp only
    rw [e8, if_neg (nI_pos (by omega)), hb1, show (0 : Int64) = lN 0 from rfl, cmp_is (by omega) (by decide)]
    unfold f_L_word_36
    by_cases c : by8 n = 0
    · rw [if_neg (show ¬ 0 < by8 n by omega), if_pos c, if_pos (show (0 : Int32) = 0 from rfl)]
      obtain ⟨x1, b1, q1, e1, h1⟩ := ih f (by omega) (by omega) T tx tb q h (by omega)
      refine ⟨x1, b1, q1, e1, ?_⟩
      simp only [wrdT]
      rw [if_pos c, List.nil_append]
      exact h1
    · obtain ⟨x1, b1, q1, e1, h1⟩ := put_is h (b := by8 n) (by omega) hb2 (by omega) a
      rw [if_pos (show 0 < by8 n by omega), if_neg (show ¬ (1 : Int32) = 0 by decide), lN_i, e1, bso]
      dsimp only
      have hl1 : (T ++ [by8 n]).length = T.length + 1 := List.length_append
      obtain ⟨x2', b2, q2, e2, h2⟩ := ih f (by omega) (by omega) (T ++ [by8 n]) x1 b1 q1 h1 (by omega)
      refine ⟨x2', b2, q2, e2, ?_⟩
      simp only [wrdT]
      rw [if_neg c]
      rw [List.append_assoc] at h2
      exact h2
theorem word_is {x2 : Int64} {by8 : Nat → Nat} (hx : ∀ n, n < 8 → (x2 >>> ((nI (8 * n)).toInt64 &&& 63)) &&& 255 = lN (by8 n) ∧ by8 n < 128) {W : List Nat} (hW : wrdT by8 8 = W) {T : List Nat} {tx : SX8} {tb : Nat → Int8} {q : Nat → Int64} (h : PT T tx tb q) (hT : T.length + 8 ≤ 300) (a : Int32) : ∃ tx' tb' q', f_L_word x2 a tx tb q = some (tx', tb', q') ∧ PT (T ++ W) tx' tb' q' := by
  subst hW
  exact word4 hx a 8 65535 (by omega) (by omega) T tx tb q h hT
