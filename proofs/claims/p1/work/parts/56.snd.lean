def Df (a : Nat → Int32) : Prop := a 0 = 8 ∧ a 8 = 6 ∧ ∀ q, q < 6 → a (9 + q) = rl q
theorem Df_upd {a : Nat → Int32} {k : Nat} {v : Int32} (h : Df a) (hk : 15 ≤ k) : Df (upd a k v) := by
  have e : ∀ j, j < 15 → upd a k v j = a j := fun j hj => if_neg (by omega)
  exact ⟨by rw [e 0 (by omega)]; exact h.1, by rw [e 8 (by omega)]; exact h.2.1, fun q hq => by rw [e (9 + q) (by omega)]; exact h.2.2 q hq⟩
theorem upd_same (a : Nat → Int32) (k : Nat) (v : Int32) : upd a k v k = v := if_pos rfl
theorem upd_ne (a : Nat → Int32) {k j : Nat} (v : Int32) (h : j ≠ k) : upd a k v j = a j := if_neg h
theorem ro_is {a : Nat → Int32} (h : Df a) (s : SX12) {k : Nat} (hk : k < 48) : f_X12_roleOf (nI k) s a = some (if k % 8 = 0 then rl (k / 8) else -1) := by
  unfold f_X12_roleOf f_X12_roleAt
  rw [h.1, m_gI (by decide), show (8 : Int32) = nI 8 from rfl, pk_rem (by omega) (by decide) (by decide), pk_div (by omega) (by decide) (by decide)]
  by_cases h8 : k % 8 = 0
  · rw [if_pos (show nI (k % 8) = 0 by rw [h8]; rfl), if_pos h8, m_gI (by decide), show (9 : Int32) = nI 9 from rfl, nI_add, m_inI (pk_in (9 + k / 8) 680 (by omega) rfl), nI_clamp (by omega), h.2.2 _ (by omega)]
    rfl
  · rw [if_neg (show ¬ nI (k % 8) = 0 from fun e => h8 ((nI_eq (a := k % 8) (b := 0) (by omega) (by omega)).mp e)), if_neg h8]
theorem rn_is {a : Nat → Int32} (h : Df a) (s : SX12) : f_X12_round s a = some 48 := by
  unfold f_X12_round
  rw [h.1, h.2.1]; rfl
theorem rl_01 (q : Nat) : rl q = 0 ∨ rl q = 1 := by
  unfold rl
  split
  · exact Or.inr rfl
  · split
    · exact Or.inr rfl
    · split
      · exact Or.inr rfl
      · exact Or.inl rfl
theorem so_step {a : Nat → Int32} (h : Df a) (n k p : Nat) (hk : k < 48) (hp : p < 4000) (h32 : a 32 = nI p) (r1 u re le be so va si : Int32) (w : Int64) (wa ba x : Int32) (line : Nat → Int8) :
    f_X12_sendsOne_12 0 (n + 1) 0 0 (nI k) (r1, u, re, le, be, so, va, si, w, wa, ba, x) a line =
      f_X12_sendsOne_12 0 n 0 0 (nI (k + 1)) (r1, u, re, le, be, so, va, si, w, wa, ba, if k % 8 = 0 then x else lcg x) (upd a 32 (nI (p + 1))) (upB line p (c8 (if k % 8 = 0 then rl (k / 8) else drR x))) := by
  rw [f_X12_sendsOne_12_s, rn_is h, bso, if_neg (show ¬ (48 : Int32) ≤ nI k from fun e => absurd ((nI_leI (a := 48) (by omega) (by omega)).mp e) (by omega)), ro_is h _ hk, bso]
  have hi : ¬ (nI p < 0 ∨ 32000 ≤ (nI p).toNatClampNeg) := nI_in (by omega) (by omega)
  by_cases h8 : k % 8 = 0
  · have e1 : ¬ (rl (k / 8) = -1) := by rcases rl_01 (k / 8) with e | e <;> rw [e] <;> decide
    have e2 : ¬ (rl (k / 8) = 2) := by rcases rl_01 (k / 8) with e | e <;> rw [e] <;> decide
    have e3 : ¬ (rl (k / 8) = 3) := by rcases rl_01 (k / 8) with e | e <;> rw [e] <;> decide
    simp only [if_pos h8]
    rw [if_neg e1, if_neg e2, if_neg e3]
    unfold f_X12_sendsOne_89 f_X12_sendsOne_91 f_X12_sendsOne_131 f_X12_goesOn
    rw [h32, m_inI hi, if_neg e2, if_pos rfl, bso, nI_clamp (by omega), nI_1, nI_1]
    rfl
  · simp only [if_neg h8]
    rw [if_pos trivial]
    show f_X12_sendsOne_91 (-1) 0 0 (nI k) line (f_X12_sendsOne_12 0 n) 0 (drR x) (r1, u, re, le, be, so, va, si, w, wa, ba, lcg x) a = _
    unfold f_X12_sendsOne_91 f_X12_sendsOne_131 f_X12_goesOn
    rw [h32, m_inI hi, if_neg (by decide), if_pos rfl, bso, nI_clamp (by omega), nI_1, nI_1]
    rfl
theorem so_all (m : Nat) : ∀ {a : Nat → Int32} (_ : Df a) (n k p : Nat) (_ : k + m = 48) (_ : p + m ≤ 4000) (_ : m ≤ n) (_ : a 32 = nI p) (r1 u re le be so va si : Int32) (w : Int64) (wa ba x : Int32) (line : Nat → Int8),
    ∃ a', f_X12_sendsOne_12 0 (n + 1) 0 0 (nI k) (r1, u, re, le, be, so, va, si, w, wa, ba, x) a line = some ((r1, u, re, le, be, so, va, si, w, wa, ba, cx m k x), a', wr (cl drR m k x) p line) ∧ a' 32 = nI (p + m) ∧ (∀ j, j ≠ 31 → j ≠ 32 → a' j = a j) := by
  induction m with
  | zero =>
    intro a h n k p hk _ _ h32 r1 u re le be so va si w wa ba x line
    have hk : k = 48 := by omega
    subst hk
    refine ⟨upd a 31 0, ?_, ?_, ?_⟩
    · rw [f_X12_sendsOne_12_s, rn_is h, bso, if_pos (show (48 : Int32) ≤ nI 48 from by decide)]
      rfl
    · rw [upd_ne _ _ (by decide)]; exact h32
    · intro j h1 _; exact upd_ne _ _ h1
  | succ m ih =>
    intro a h n k p hk hp hn h32 r1 u re le be so va si w wa ba x line
    obtain ⟨n, rfl⟩ : ∃ q, n = q + 1 := ⟨n - 1, by omega⟩
    rw [so_step h (n + 1) k p (by omega) (by omega) h32]
    obtain ⟨a', e1, e2, e3⟩ := ih (Df_upd h (by decide : 15 ≤ 32)) n (k + 1) (p + 1) (by omega) (by omega) (by omega) (upd_same _ _ _) r1 u re le be so va si w wa ba (if k % 8 = 0 then x else lcg x) (upB line p (c8 (if k % 8 = 0 then rl (k / 8) else drR x)))
    refine ⟨a', ?_, ?_, ?_⟩
    · rw [e1]
      have hq : k / 8 % 6 = k / 8 := Nat.mod_eq_of_lt (by omega)
      by_cases h8 : k % 8 = 0
      · simp only [if_pos h8, cx, cl, wr, hq]
      · simp only [if_neg h8, cx, cl, wr]
    · rw [e2]; congr 1; omega
    · intro j h1 h2; rw [e3 j h1 h2, upd_ne _ _ h2]
theorem f_X12_checkMany_4_s (r_this_all : Nat → Int32) (s_this : SX12) (n : Nat) (y4_l1 : Int32) (y4_l2 : Int32) : f_X12_checkMany_4 r_this_all s_this (n + 1) y4_l1 y4_l2 = ((if (r_this_all 8) ≤ y4_l2 then some y4_l1 else Option.bind (f_X12_roleAt y4_l2 s_this r_this_all) (fun u18_r => (if u18_r = 2 then f_X12_checkMany_30 y4_l1 y4_l2 (f_X12_checkMany_4 r_this_all s_this n) 1 else f_X12_checkMany_30 y4_l1 y4_l2 (f_X12_checkMany_4 r_this_all s_this n) 0)))) := rfl
theorem cm_is {a : Nat → Int32} (h : Df a) (s : SX12) : f_X12_checkMany s a = some 0 := by
  have hr : ∀ q, q < 6 → f_X12_roleAt (nI q) s a = some (rl q) := fun q hq => by
    unfold f_X12_roleAt
    rw [show (9 : Int32) = nI 9 from rfl, nI_add, m_inI (pk_in (9 + q) 680 (by omega) rfl), nI_clamp (by omega), h.2.2 _ hq]
  have key : ∀ (m q n : Nat), q + m = 6 → m ≤ n → f_X12_checkMany_4 a s (n + 1) 0 (nI q) = some 0 := by
    intro m
    induction m with
    | zero => intro q n hq _; have : q = 6 := by omega
              subst this
              rw [f_X12_checkMany_4_s, h.2.1, if_pos (by decide)]
    | succ m ih =>
      intro q n hq hn
      obtain ⟨n, rfl⟩ : ∃ w, n = w + 1 := ⟨n - 1, by omega⟩
      have e2 : ¬ (rl q = 2) := by rcases rl_01 q with e | e <;> rw [e] <;> decide
      rw [f_X12_checkMany_4_s, h.2.1, if_neg (show ¬ (6 : Int32) ≤ nI q from nI_ge (a := q) (b := 6) (by omega) (by omega)), hr q (by omega), bso, if_neg e2]
      unfold f_X12_checkMany_30
      rw [nI_1]
      exact ih (q + 1) n (by omega) (by omega)
  exact key 6 0 65535 (by omega) (by omega)
theorem cl_len (d : Int32 → Int32) (m : Nat) : ∀ (k : Nat) (x : Int32), (cl d m k x).length = m := by
  induction m with
  | zero => intro k x; rfl
  | succ m ih => intro k x; unfold cl; split <;> simp [ih]
theorem cl_app (d : Int32 → Int32) (a : Nat) : ∀ (b k : Nat) (x : Int32), cl d (a + b) k x = cl d a k x ++ cl d b (k + a) (cx a k x) := by
  induction a with
  | zero => intro b k x; simp [cl, cx]
  | succ a ih =>
    intro b k x
    rw [show a + 1 + b = (a + b) + 1 by omega, show k + (a + 1) = k + 1 + a by omega]
    show (if k % 8 = 0 then rl (k / 8 % 6) :: cl d (a + b) (k + 1) x else d x :: cl d (a + b) (k + 1) (lcg x)) = (if k % 8 = 0 then rl (k / 8 % 6) :: cl d a (k + 1) x else d x :: cl d a (k + 1) (lcg x)) ++ cl d b (k + 1 + a) (if k % 8 = 0 then cx a (k + 1) x else cx a (k + 1) (lcg x))
    split
    · rw [ih b (k + 1) x]; rfl
    · rw [ih b (k + 1) (lcg x)]; rfl
theorem cx_app (a : Nat) : ∀ (b k : Nat) (x : Int32), cx (a + b) k x = cx b (k + a) (cx a k x) := by
  induction a with
  | zero => intro b k x; simp [cx]
  | succ a ih =>
    intro b k x
    rw [show a + 1 + b = (a + b) + 1 by omega, show k + (a + 1) = k + 1 + a by omega]
    show (if k % 8 = 0 then cx (a + b) (k + 1) x else cx (a + b) (k + 1) (lcg x)) = cx b (k + 1 + a) (if k % 8 = 0 then cx a (k + 1) x else cx a (k + 1) (lcg x))
    split
    · exact ih b (k + 1) x
    · exact ih b (k + 1) (lcg x)
theorem cl_48 (d : Int32 → Int32) (m : Nat) : ∀ (k : Nat) (x : Int32), cl d m (k + 48) x = cl d m k x := by
  induction m with
  | zero => intro k x; rfl
  | succ m ih =>
    intro k x
    unfold cl
    rw [show (k + 48) % 8 = k % 8 by omega, show (k + 48) / 8 % 6 = k / 8 % 6 by omega, show k + 48 + 1 = k + 1 + 48 by omega]
    simp only [ih]
theorem cx_48 (m : Nat) : ∀ (k : Nat) (x : Int32), cx m (k + 48) x = cx m k x := by
  induction m with
  | zero => intro k x; rfl
  | succ m ih =>
    intro k x
    unfold cx
    rw [show (k + 48) % 8 = k % 8 by omega, show k + 48 + 1 = k + 1 + 48 by omega]
    simp only [ih]
theorem cl_48n (d : Int32 → Int32) (m : Nat) : ∀ (j : Nat) (x : Int32), cl d m (48 * j) x = cl d m 0 x := by
  intro j; induction j with
  | zero => intro x; rfl
  | succ j ih => intro x; rw [show 48 * (j + 1) = 48 * j + 48 by omega, cl_48, ih]
theorem cx_48n (m : Nat) : ∀ (j : Nat) (x : Int32), cx m (48 * j) x = cx m 0 x := by
  intro j; induction j with
  | zero => intro x; rfl
  | succ j ih => intro x; rw [show 48 * (j + 1) = 48 * j + 48 by omega, cx_48, ih]
theorem cl_next (d : Int32 → Int32) (j : Nat) (x : Int32) : cl d (48 * (j + 1)) 0 x = cl d (48 * j) 0 x ++ cl d 48 0 (cx (48 * j) 0 x) := by
  rw [show 48 * (j + 1) = 48 * j + 48 by omega, cl_app, Nat.zero_add, cl_48n]
theorem cx_next (j : Nat) (x : Int32) : cx (48 * (j + 1)) 0 x = cx 48 0 (cx (48 * j) 0 x) := by
  rw [show 48 * (j + 1) = 48 * j + 48 by omega, cx_app, Nat.zero_add, cx_48n]
theorem wr_app (l1 : List Int32) : ∀ (l2 : List Int32) (p : Nat) (b : Nat → Int8), wr (l1 ++ l2) p b = wr l2 (p + l1.length) (wr l1 p b) := by
  induction l1 with
  | nil => intro l2 p b; rfl
  | cons v l1 ih =>
    intro l2 p b
    show wr (l1 ++ l2) (p + 1) (upB b p (c8 v)) = _
    rw [ih, List.length_cons, show p + 1 + l1.length = p + (l1.length + 1) by omega]; rfl
theorem wr_next (d : Int32 → Int32) (j : Nat) (x : Int32) (b : Nat → Int8) : wr (cl d 48 0 (cx (48 * j) 0 x)) (48 * j) (wr (cl d (48 * j) 0 x) 0 b) = wr (cl d (48 * (j + 1)) 0 x) 0 b := by
  rw [cl_next, wr_app, cl_len, Nat.zero_add]
theorem sends_7 (n : Nat) (hn : n ≤ 8) (x : Int32) (line : Nat → Int8) (m : Nat) : ∀ (j f : Nat) (_ : j + m = n) (_ : m ≤ f) {a : Nat → Int32} (_ : Df a) (_ : a 32 = nI (48 * j)) (r1 u re le be so va si : Int32) (w : Int64) (wa ba : Int32),
    ∃ a', f_X12_sends_7 (nI n) (f + 1) (nI j) r1 u re le be so va si w wa ba (cx (48 * j) 0 x) a (wr (cl drR (48 * j) 0 x) 0 line) = some ((r1, u, re, le, be, so, va, si, w, wa, ba, cx (48 * n) 0 x), a', wr (cl drR (48 * n) 0 x) 0 line) ∧ a' 32 = nI (48 * n) ∧ (∀ j, j ≠ 31 → j ≠ 32 → a' j = a j) := by
  induction m with
  | zero =>
    intro j f hj _ a h h32 r1 u re le be so va si w wa ba
    have : j = n := by omega
    subst this
    exact ⟨a, by rw [f_X12_sends_7_s, if_pos (nI_le (Nat.le_refl _) (by omega))], h32, fun _ _ _ => rfl⟩
  | succ m ih =>
    intro j f hj hf a h h32 r1 u re le be so va si w wa ba
    obtain ⟨f, rfl⟩ : ∃ q, f = q + 1 := ⟨f - 1, by omega⟩
    obtain ⟨a1, e1, e2, e3⟩ := so_all 48 h 65535 0 (48 * j) (by omega) (by omega) (by omega) h32 r1 u re le be so va si w wa ba (cx (48 * j) 0 x) (wr (cl drR (48 * j) 0 x) 0 line)
    have hD : Df a1 := ⟨by rw [e3 _ (by decide) (by decide)]; exact h.1, by rw [e3 _ (by decide) (by decide)]; exact h.2.1, fun q hq => by rw [e3 _ (by omega) (by omega)]; exact h.2.2 q hq⟩
    obtain ⟨a2, g1, g2, g3⟩ := ih (j + 1) f (by omega) (by omega) hD (by rw [e2]; congr 1) r1 u re le be so va si w wa ba
    refine ⟨a2, ?_, g2, fun q h1 h2 => by rw [g3 q h1 h2, e3 q h1 h2]⟩
    rw [f_X12_sends_7_s, if_neg (nI_ge (by omega) (by omega))]
    unfold f_X12_sendsOne
    rw [show f_X12_checkMany (r1, u, re, le, be, so, va, si, w, wa, ba, cx (48 * j) 0 x) a = some 0 from cm_is h _, bso, show f_X12_sendsOne_12 0 65536 0 0 0 (r1, u, re, le, be, so, va, si, w, wa, ba, cx (48 * j) 0 x) a (wr (cl drR (48 * j) 0 x) 0 line) = _ from e1, bso, nI_1]
    rw [← g1, wr_next, cx_next]
set_option maxRecDepth 100000 in
set_option maxHeartbeats 4000000 in
theorem sends_is {a : Nat → Int32} (h : Df a) (h32 : a 32 = 0) (n : Nat) (hn : n ≤ 8) (x : Int32) (line : Nat → Int8) (r1 u re le be so va si : Int32) (w : Int64) (wa ba x0 : Int32) :
    ∃ a', f_X12_sends (nI n) x (r1, u, re, le, be, so, va, si, w, wa, ba, x0) a line = some ((r1, u, re, le, be, so, va, si, w, wa, ba, cx (48 * n) 0 x), a', wr (cl drI (48 * n) 0 x) 0 line) ∧ a' 32 = nI (48 * n) ∧ (∀ j, j ≠ 31 → j ≠ 32 → a' j = a j) := by
  rw [← cl_eq]
  exact sends_7 n hn x line n 0 65535 (by omega) (by omega) h h32 r1 u re le be so va si w wa ba
set_option maxRecDepth 100000 in
set_option maxHeartbeats 4000000 in
theorem tr1_0 (x k : Int32) (v : Nat → Int32) (bits : Nat → Int8) : f_X6_transmitOne 4000 x (0, 0, k) v plan0 T0.2.2.1 0 bits = some (cx 48 0 x, (0, 0, 0), v, 48, wr (cl drI 48 0 x) 0 bits) := by rfl
set_option maxRecDepth 100000 in
set_option maxHeartbeats 4000000 in
theorem tr1_1 (x k : Int32) (v : Nat → Int32) (bits : Nat → Int8) : f_X6_transmitOne 4000 x (0, 0, k) v plan0 T0.2.2.1 48 bits = some (cx 48 0 x, (0, 0, 0), v, 96, wr (cl drI 48 0 x) 48 bits) := by rfl
set_option maxRecDepth 100000 in
set_option maxHeartbeats 4000000 in
theorem tr1_2 (x k : Int32) (v : Nat → Int32) (bits : Nat → Int8) : f_X6_transmitOne 4000 x (0, 0, k) v plan0 T0.2.2.1 96 bits = some (cx 48 0 x, (0, 0, 0), v, 144, wr (cl drI 48 0 x) 96 bits) := by rfl
set_option maxRecDepth 100000 in
set_option maxHeartbeats 4000000 in
theorem tr1_3 (x k : Int32) (v : Nat → Int32) (bits : Nat → Int8) : f_X6_transmitOne 4000 x (0, 0, k) v plan0 T0.2.2.1 144 bits = some (cx 48 0 x, (0, 0, 0), v, 192, wr (cl drI 48 0 x) 144 bits) := by rfl
set_option maxRecDepth 100000 in
set_option maxHeartbeats 4000000 in
theorem tr1_4 (x k : Int32) (v : Nat → Int32) (bits : Nat → Int8) : f_X6_transmitOne 4000 x (0, 0, k) v plan0 T0.2.2.1 192 bits = some (cx 48 0 x, (0, 0, 0), v, 240, wr (cl drI 48 0 x) 192 bits) := by rfl
set_option maxRecDepth 100000 in
set_option maxHeartbeats 4000000 in
theorem tr1_5 (x k : Int32) (v : Nat → Int32) (bits : Nat → Int8) : f_X6_transmitOne 4000 x (0, 0, k) v plan0 T0.2.2.1 240 bits = some (cx 48 0 x, (0, 0, 0), v, 288, wr (cl drI 48 0 x) 240 bits) := by rfl
set_option maxRecDepth 100000 in
set_option maxHeartbeats 4000000 in
theorem tr1_6 (x k : Int32) (v : Nat → Int32) (bits : Nat → Int8) : f_X6_transmitOne 4000 x (0, 0, k) v plan0 T0.2.2.1 288 bits = some (cx 48 0 x, (0, 0, 0), v, 336, wr (cl drI 48 0 x) 288 bits) := by rfl
set_option maxRecDepth 100000 in
set_option maxHeartbeats 4000000 in
theorem tr1_7 (x k : Int32) (v : Nat → Int32) (bits : Nat → Int8) : f_X6_transmitOne 4000 x (0, 0, k) v plan0 T0.2.2.1 336 bits = some (cx 48 0 x, (0, 0, 0), v, 384, wr (cl drI 48 0 x) 336 bits) := by rfl
theorem tr1 (x k : Int32) (v : Nat → Int32) (bits : Nat → Int8) : ∀ j, j < 8 → f_X6_transmitOne 4000 x (0, 0, k) v plan0 T0.2.2.1 (nI (48 * j)) bits = some (cx 48 0 x, (0, 0, 0), v, nI (48 * (j + 1)), wr (cl drI 48 0 x) (48 * j) bits)
  | 0, _ => tr1_0 x k v bits
  | 1, _ => tr1_1 x k v bits
  | 2, _ => tr1_2 x k v bits
  | 3, _ => tr1_3 x k v bits
  | 4, _ => tr1_4 x k v bits
  | 5, _ => tr1_5 x k v bits
  | 6, _ => tr1_6 x k v bits
  | 7, _ => tr1_7 x k v bits
  | j + 8, h => absurd h (by omega)
theorem trs_7 (n : Nat) (hn : n ≤ 8) (x : Int32) (v : Nat → Int32) (bits : Nat → Int8) (m : Nat) : ∀ (j f : Nat) (_ : j + m = n) (_ : m ≤ f) (k : Int32),
    ∃ k', f_X6_transmit_7 (nI n) 4000 plan0 T0.2.2.1 (f + 1) (cx (48 * j) 0 x) (nI j) (0, 0, k) v (nI (48 * j)) (wr (cl drI (48 * j) 0 x) 0 bits) = some ((0, 0, k'), v, nI (48 * n), wr (cl drI (48 * n) 0 x) 0 bits) := by
  induction m with
  | zero =>
    intro j f hj _ k
    have : j = n := by omega
    subst this
    exact ⟨k, by rw [f_X6_transmit_7_s, if_pos (nI_le (Nat.le_refl _) (by omega))]⟩
  | succ m ih =>
    intro j f hj hf k
    obtain ⟨f, rfl⟩ : ∃ q, f = q + 1 := ⟨f - 1, by omega⟩
    obtain ⟨k', e⟩ := ih (j + 1) f (by omega) (by omega) 0
    refine ⟨k', ?_⟩
    rw [f_X6_transmit_7_s, if_neg (nI_ge (by omega) (by omega)), tr1 _ _ _ _ j (by omega), bso, nI_1, ← e, wr_next, cx_next]
theorem trs_is (n : Nat) (hn : n ≤ 8) (x k : Int32) (v : Nat → Int32) (bits : Nat → Int8) : ∃ k', f_X6_transmit 4000 (nI n) x (0, 0, k) v plan0 T0.2.2.1 0 bits = some ((0, 0, k'), v, nI (48 * n), wr (cl drI (48 * n) 0 x) 0 bits) :=
  trs_7 n hn x v bits n 0 65535 (by omega) (by omega) k
set_option maxRecDepth 100000 in
set_option maxHeartbeats 4000000 in
theorem tq1_0 (x k : Int32) (v : Nat → Int32) (bits : Nat → Int8) : f_X6_transmitOne 6304 x (0, 0, k) v plan0 T0.2.2.1 0 bits = some (cx 48 0 x, (0, 0, 0), v, 48, wr (cl drI 48 0 x) 0 bits) := by rfl
set_option maxRecDepth 100000 in
set_option maxHeartbeats 4000000 in
theorem tq1_1 (x k : Int32) (v : Nat → Int32) (bits : Nat → Int8) : f_X6_transmitOne 6304 x (0, 0, k) v plan0 T0.2.2.1 48 bits = some (cx 48 0 x, (0, 0, 0), v, 96, wr (cl drI 48 0 x) 48 bits) := by rfl
set_option maxRecDepth 100000 in
set_option maxHeartbeats 4000000 in
theorem tq1_2 (x k : Int32) (v : Nat → Int32) (bits : Nat → Int8) : f_X6_transmitOne 6304 x (0, 0, k) v plan0 T0.2.2.1 96 bits = some (cx 48 0 x, (0, 0, 0), v, 144, wr (cl drI 48 0 x) 96 bits) := by rfl
set_option maxRecDepth 100000 in
set_option maxHeartbeats 4000000 in
theorem tq1_3 (x k : Int32) (v : Nat → Int32) (bits : Nat → Int8) : f_X6_transmitOne 6304 x (0, 0, k) v plan0 T0.2.2.1 144 bits = some (cx 48 0 x, (0, 0, 0), v, 192, wr (cl drI 48 0 x) 144 bits) := by rfl
set_option maxRecDepth 100000 in
set_option maxHeartbeats 4000000 in
theorem tq1_4 (x k : Int32) (v : Nat → Int32) (bits : Nat → Int8) : f_X6_transmitOne 6304 x (0, 0, k) v plan0 T0.2.2.1 192 bits = some (cx 48 0 x, (0, 0, 0), v, 240, wr (cl drI 48 0 x) 192 bits) := by rfl
set_option maxRecDepth 100000 in
set_option maxHeartbeats 4000000 in
theorem tq1_5 (x k : Int32) (v : Nat → Int32) (bits : Nat → Int8) : f_X6_transmitOne 6304 x (0, 0, k) v plan0 T0.2.2.1 240 bits = some (cx 48 0 x, (0, 0, 0), v, 288, wr (cl drI 48 0 x) 240 bits) := by rfl
set_option maxRecDepth 100000 in
set_option maxHeartbeats 4000000 in
theorem tq1_6 (x k : Int32) (v : Nat → Int32) (bits : Nat → Int8) : f_X6_transmitOne 6304 x (0, 0, k) v plan0 T0.2.2.1 288 bits = some (cx 48 0 x, (0, 0, 0), v, 336, wr (cl drI 48 0 x) 288 bits) := by rfl
set_option maxRecDepth 100000 in
set_option maxHeartbeats 4000000 in
theorem tq1_7 (x k : Int32) (v : Nat → Int32) (bits : Nat → Int8) : f_X6_transmitOne 6304 x (0, 0, k) v plan0 T0.2.2.1 336 bits = some (cx 48 0 x, (0, 0, 0), v, 384, wr (cl drI 48 0 x) 336 bits) := by rfl
theorem tq1 (x k : Int32) (v : Nat → Int32) (bits : Nat → Int8) : ∀ j, j < 8 → f_X6_transmitOne 6304 x (0, 0, k) v plan0 T0.2.2.1 (nI (48 * j)) bits = some (cx 48 0 x, (0, 0, 0), v, nI (48 * (j + 1)), wr (cl drI 48 0 x) (48 * j) bits)
  | 0, _ => tq1_0 x k v bits
  | 1, _ => tq1_1 x k v bits
  | 2, _ => tq1_2 x k v bits
  | 3, _ => tq1_3 x k v bits
  | 4, _ => tq1_4 x k v bits
  | 5, _ => tq1_5 x k v bits
  | 6, _ => tq1_6 x k v bits
  | 7, _ => tq1_7 x k v bits
  | j + 8, h => absurd h (by omega)
theorem tqs_7 (n : Nat) (hn : n ≤ 8) (x : Int32) (v : Nat → Int32) (bits : Nat → Int8) (m : Nat) : ∀ (j f : Nat) (_ : j + m = n) (_ : m ≤ f) (k : Int32),
    ∃ k', f_X6_transmit_7 (nI n) 6304 plan0 T0.2.2.1 (f + 1) (cx (48 * j) 0 x) (nI j) (0, 0, k) v (nI (48 * j)) (wr (cl drI (48 * j) 0 x) 0 bits) = some ((0, 0, k'), v, nI (48 * n), wr (cl drI (48 * n) 0 x) 0 bits) := by
  induction m with
  | zero =>
    intro j f hj _ k
    have : j = n := by omega
    subst this
    exact ⟨k, by rw [f_X6_transmit_7_s, if_pos (nI_le (Nat.le_refl _) (by omega))]⟩
  | succ m ih =>
    intro j f hj hf k
    obtain ⟨f, rfl⟩ : ∃ q, f = q + 1 := ⟨f - 1, by omega⟩
    obtain ⟨k', e⟩ := ih (j + 1) f (by omega) (by omega) 0
    refine ⟨k', ?_⟩
    rw [f_X6_transmit_7_s, if_neg (nI_ge (by omega) (by omega)), tq1 _ _ _ _ j (by omega), bso, nI_1, ← e, wr_next, cx_next]
theorem tqs_is (n : Nat) (hn : n ≤ 8) (x k : Int32) (v : Nat → Int32) (bits : Nat → Int8) : ∃ k', f_X6_transmit 6304 (nI n) x (0, 0, k) v plan0 T0.2.2.1 0 bits = some ((0, 0, k'), v, nI (48 * n), wr (cl drI (48 * n) 0 x) 0 bits) :=
  tqs_7 n hn x v bits n 0 65535 (by omega) (by omega) k
