theorem b_or (x y : Int32) (i : Nat) : bt (x ||| y) i = (bt x i || bt y i) := by unfold bt; rw [Int32.toBitVec_or, BitVec.getLsbD_or]
theorem b_xor (x y : Int32) (i : Nat) : bt (x ^^^ y) i = (bt x i ^^ bt y i) := by unfold bt; rw [Int32.toBitVec_xor, BitVec.getLsbD_xor]
theorem b_shl (n : Nat) (hn : n < 32) (x : Int32) {i : Nat} (hi : i < 32) : bt (x <<< (nI n &&& 31)) i = (decide (n ≤ i) && bt x (i - n)) := by
  unfold bt
  rw [Int32.toBitVec_shiftLeft]
  show (x.toBitVec <<< ((nI n &&& 31).toBitVec.smod 32).toNat).getLsbD i = _
  rw [s_l n hn, BitVec.getLsbD_shiftLeft]
  rcases Nat.lt_or_ge i n with h | h
  · simp [h, Nat.not_le.mpr h]
  · simp [hi, h, Nat.not_lt.mpr h]
theorem osum_split {g h w : Nat → Bool} (n : Nat) (e : ∀ p, p < n → (g p).toNat + (h p).toNat = (w p).toNat) : osum g n + osum h n = osum w n := by
  induction n with
  | zero => rfl
  | succ n ih =>
    have h1 := ih (fun p hp => e p (by omega))
    have h2 := e n (by omega)
    simp only [osum]
    omega
theorem osum_pos {g : Nat → Bool} {n p : Nat} (hp : p < n) (h : g p = true) : 1 ≤ osum g n := by
  induction n with
  | zero => omega
  | succ n ih =>
    simp only [osum]
    by_cases e : p = n
    · subst e; rw [h]; show 1 ≤ _ + 1; omega
    · have := ih (by omega); omega
theorem osum_two {g : Nat → Bool} {n p q : Nat} (hpq : p < q) (hq : q < n) (h : g p = true) (h' : g q = true) : 2 ≤ osum g n := by
  induction n with
  | zero => omega
  | succ n ih =>
    simp only [osum]
    by_cases e : q = n
    · subst e
      have := osum_pos hpq h
      rw [h']
      show 2 ≤ _ + 1
      omega
    · have := ih (by omega); omega
def rsum (g : Nat → Nat) : Nat → Nat
  | 0 => 0
  | n + 1 => rsum g n + g n
theorem rsum_c {g h : Nat → Nat} (n : Nat) (e : ∀ p, p < n → g p = h p) : rsum g n = rsum h n := by
  induction n with
  | zero => rfl
  | succ n ih => simp only [rsum]; rw [ih (fun p hp => e p (by omega)), e n (by omega)]
theorem rsum_up {g g' : Nat → Nat} {d n : Nat} (hd : d < n) (e : ∀ k, k ≠ d → g' k = g k) : rsum g' n + g d = rsum g n + g' d := by
  induction n with
  | zero => omega
  | succ n ih =>
    simp only [rsum]
    by_cases c : d = n
    · subst c
      have := rsum_c (g := g') (h := g) d (fun p hp => e p (by omega))
      omega
    · have h1 := ih (by omega)
      have h2 := e n (by omega)
      omega
theorem rsum_ge {g : Nat → Nat} {d n : Nat} (hd : d < n) : g d ≤ rsum g n := by
  induction n with
  | zero => omega
  | succ n ih =>
    simp only [rsum]
    by_cases c : d = n
    · subst c; omega
    · have := ih (by omega); omega
theorem rsum_ge2 {g : Nat → Nat} {c d n : Nat} (hc : c < d) (hd : d < n) : g c + g d ≤ rsum g n := by
  induction n with
  | zero => omega
  | succ n ih =>
    simp only [rsum]
    by_cases e : d = n
    · subst e; have := rsum_ge (g := g) hc; omega
    · have := ih (by omega); omega
/-- words of at most twelve bits -/
def lo12 (x : Int32) : Prop := ∀ i, 12 ≤ i → i < 32 → bt x i = false
theorem lo_nI {x : Int32} (h : lo12 x) : ∃ k : Nat, k < 4096 ∧ x = nI k := by
  obtain ⟨k, hk, e⟩ := pk_andE x (m := 4095) 12 (by decide)
  refine ⟨k, hk, ?_⟩
  rw [← e]
  apply b_ext
  intro i hi
  rw [b_and]
  rcases Nat.lt_or_ge i 12 with c | c
  · rw [(by decide +kernel : ∀ i, i < 12 → bt 4095 i = true) i c, Bool.and_true]
  · rw [h i c hi, Bool.false_and]
theorem bc_all : ∀ a b : Fin 64, f_J6_bitCount_0f7a4 (nI (64 * a.val + b.val)) = some (nI (osum (bt (nI (64 * a.val + b.val))) 12)) := by decide +kernel
theorem bc_is {x : Int32} (h : lo12 x) : f_J6_bitCount_0f7a4 x = some (nI (osum (bt x) 12)) := by
  obtain ⟨k, hk, rfl⟩ := lo_nI h
  have e := bc_all ⟨k / 64, by omega⟩ ⟨k % 64, by omega⟩
  have e2 : 64 * (k / 64) + k % 64 = k := by omega
  rw [show 64 * (Fin.mk (k / 64) (by omega) : Fin 64).val + (Fin.mk (k % 64) (by omega) : Fin 64).val = k from e2] at e
  exact e
theorem dm_a {L j : Nat} (hL : 0 < L) (h : j % L + 1 < L) : (j + 1) % L = j % L + 1 ∧ (j + 1) / L = j / L := by
  have e : j + 1 = L * (j / L) + (j % L + 1) := by have := Nat.div_add_mod j L; omega
  constructor
  · rw [e, Nat.mul_add_mod, Nat.mod_eq_of_lt h]
  · rw [e, Nat.mul_add_div hL, Nat.div_eq_of_lt h, Nat.add_zero]
theorem dm_b {L j : Nat} (hL : 0 < L) (h : ¬ j % L + 1 < L) : (j + 1) % L = 0 ∧ (j + 1) / L = j / L + 1 := by
  have h1 := Nat.mod_lt j hL
  have e : j + 1 = L * (j / L + 1) := by have := Nat.div_add_mod j L; rw [Nat.mul_add]; omega
  constructor
  · rw [e, Nat.mul_mod_right]
  · rw [e, Nat.mul_div_cancel_left _ hL]
theorem up_0 {L n : Nat} (hL : 0 < L) (h : n % L = 0) : (n + L - 1) / L = n / L := by
  have e : n + L - 1 = L * (n / L) + (L - 1) := by have := Nat.div_add_mod n L; omega
  rw [e, Nat.mul_add_div hL, Nat.div_eq_of_lt (show L - 1 < L by omega), Nat.add_zero]
theorem up_1 {L n : Nat} (hL : 0 < L) (h : 0 < n % L) : (n + L - 1) / L = n / L + 1 := by
  have h1 := Nat.mod_lt n hL
  have e : n + L - 1 = L * (n / L + 1) + (n % L - 1) := by have := Nat.div_add_mod n L; rw [Nat.mul_add]; omega
  rw [e, Nat.mul_add_div hL, Nat.div_eq_of_lt (show n % L - 1 < L by omega), Nat.add_zero]
theorem up_s {L n : Nat} (hL : 0 < L) : (n + 1 + L - 1) / L = n / L + 1 := by
  rw [show n + 1 + L - 1 = n + L by omega, Nat.add_div_right n hL]
def cnt (ro : Nat → Int32) : Nat → Nat
  | 0 => 0
  | n + 1 => cnt ro n + (if ro n = 2 then 1 else 0)
/-- a plan that can be: L bits a frame, R roles, K checks, D a bit's step of the other clock -/
def PV (L R K D : Nat) (ro : Nat → Int32) (p : SX5) : Prop :=
  ∃ po wi sl fw wr la dr ch ze on al : Int32, p = (nI L, nI R, po, wi, sl, fw, wr, la, dr, nI (L * R), ch, nI K, ze, on, al) ∧ PS p ∧ 4 ≤ L ∧ L ≤ 24 ∧ 2 ≤ R ∧ R ≤ 12 ∧ K = cnt ro R ∧ 0 < wr ∧ (950 ≤ D ∧ D ≤ 1050 ∧ 1000 + dr = nI D) ∧ (∀ f, f < R → ro f = 0 ∨ ro f = 1 ∨ ro f = 2 ∨ ro f = 3) ∧ (∀ i, i < 32 → bt ze i = decide (i < R ∧ ro i = 0)) ∧ (∀ i, i < 32 → bt on i = decide (i < R ∧ ro i = 1)) ∧ (∀ i, i < 32 → bt al i = decide (i < R))
/-- what a bit that stands at j may be by its role -/
def RF (L R : Nat) (ro : Nat → Int32) (j : Nat) (x : Int32) : Prop := j % L = 0 → (ro (j / L % R) = 0 → x = 0) ∧ (ro (j / L % R) = 1 → x = 1)
theorem at_is {n N j : Nat} (hn : n < 2 ^ 31) (hN : N ≤ n) (hj : j < N) (b : Nat → Int8) : f_X2_at n (nI j) (nI N) b = some (b j).toInt32 := by
  unfold f_X2_at
  rw [if_neg (nI_pos (by omega)), if_neg (nI_ge hj (by omega)), if_neg (nI_ge (show j < n by omega) hn), m_inI (nI_in (by omega) hn), nI_clamp (by omega)]
theorem oth_no {L R K D : Nat} {ro : Nat → Int32} {p : SX5} (h : PV L R K D ro p) {f : Nat} (hf : f < R) {x : Int32} (h0 : ro f = 0 → x = 0) (h1 : ro f = 1 → x = 1) : f_X5_isOther (nI f) x p = some 0 := by
  obtain ⟨po, wi, sl, fw, wr, la, dr, ch, ze, on, al, rfl, hp, a1, a2, a3, a4, hk, hw, hd, hr, hz, ho, ha⟩ := h
  unfold f_X5_isOther f_X5_isOther_15
  try dsimp only
  by_cases c : x = 0
  · have e : decide (f < R ∧ ro f = 1) = false := decide_eq_false (fun e => by rw [h1 e.2] at c; exact absurd c (by decide))
    rw [if_pos c, bt1 on f (by omega), ho f (by omega), e]
    exact if_neg (by decide)
  · have e : decide (f < R ∧ ro f = 0) = false := decide_eq_false (fun e => c (h0 e.2))
    rw [if_neg c, bt1 ze f (by omega), hz f (by omega), e]
    exact if_neg (by decide)
theorem fix_is {L R K D : Nat} {ro : Nat → Int32} {p : SX5} (h : PV L R K D ro p) {f : Nat} (hf : f < R) : f_X5_isFixed (nI f) p = some (if ro f = 0 ∨ ro f = 1 then 1 else 0) := by
  obtain ⟨po, wi, sl, fw, wr, la, dr, ch, ze, on, al, rfl, hp, a1, a2, a3, a4, hk, hw, hd, hr, hz, ho, ha⟩ := h
  unfold f_X5_isFixed
  try dsimp only
  rw [bt1 (ze ||| on) f (by omega), b_or, hz f (by omega), ho f (by omega)]
  by_cases c : ro f = 0
  · rw [decide_eq_true (show f < R ∧ ro f = 0 from ⟨hf, c⟩), if_pos (show ro f = 0 ∨ ro f = 1 from Or.inl c)]
    exact if_pos rfl
  · rw [decide_eq_false (show ¬ (f < R ∧ ro f = 0) from fun e => c e.2)]
    by_cases c1 : ro f = 1
    · rw [decide_eq_true (show f < R ∧ ro f = 1 from ⟨hf, c1⟩), if_pos (show ro f = 0 ∨ ro f = 1 from Or.inr c1)]
      exact if_pos rfl
    · rw [decide_eq_false (show ¬ (f < R ∧ ro f = 1) from fun e => c1 e.2), if_neg (show ¬ (ro f = 0 ∨ ro f = 1) from fun e => e.elim c c1)]
      exact if_neg (by decide)
theorem rol_is {L R K D : Nat} {ro : Nat → Int32} {p : SX5} (h : PV L R K D ro p) {f : Nat} (hf : f < R) : f_X5_roleAt (nI f) p ro = some (ro f) := by
  obtain ⟨po, wi, sl, fw, wr, la, dr, ch, ze, on, al, rfl, hp, a1, a2, a3, a4, hk, hw, hd, hr, hz, ho, ha⟩ := h
  unfold f_X5_roleAt
  try dsimp only
  rw [if_neg (nI_pos (n := f) (by omega)), if_neg (nI_ge hf (by omega)), if_neg (show ¬ (12 : Int32) ≤ nI f from nI_ge (b := 12) (by omega) (by omega)), m_inI (nI_in (by omega) (by decide)), nI_clamp (by omega)]
theorem rol_out {L R K D : Nat} {ro : Nat → Int32} {p : SX5} (h : PV L R K D ro p) : f_X5_roleAt (nI R) p ro = some (-1) := by
  obtain ⟨po, wi, sl, fw, wr, la, dr, ch, ze, on, al, rfl, hp, a1, a2, a3, a4, hk, hw, hd, hr, hz, ho, ha⟩ := h
  unfold f_X5_roleAt
  try dsimp only
  rw [if_neg (nI_pos (n := R) (by omega)), if_pos (nI_le (Nat.le_refl R) (by omega))]
theorem beh_is {L R K D : Nat} {ro : Nat → Int32} {p : SX5} (h : PV L R K D ro p) (q : Nat) : f_X5_placeBehind (nI (q % R)) p = some (nI ((q + 1) % R)) := by
  obtain ⟨po, wi, sl, fw, wr, la, dr, ch, ze, on, al, rfl, hp, a1, a2, a3, a4, hk, hw, hd, hr, hz, ho, ha⟩ := h
  have hq := Nat.mod_lt q (show 0 < R by omega)
  unfold f_X5_placeBehind
  try dsimp only
  rw [nI_1]
  by_cases c : q % R + 1 < R
  · rw [if_pos (nI_lt c (by omega)), (dm_a (by omega) c).1]
  · rw [if_neg (nI_nlt (by omega) (by omega)), (dm_b (by omega) c).1]
    rfl
/-- is a bit x the other one at frame f? -/
def OT (R : Nat) (ro : Nat → Int32) (x : Int32) (f : Nat) : Bool := decide (f < R ∧ ro f = (if x = 0 then 1 else 0))
/-- is the candidate k * L + r left behind n bits from bit i on? -/
def CS (L R : Nat) (ro : Nat → Int32) (b : Nat → Int8) (i : Nat) : Nat → Nat → Nat → Bool
  | 0 => fun _ k => decide (k < R)
  | n + 1 => fun r k => CS L R ro b i n r k && !(decide (r = (L - n % L) % L) && OT R ro (b (i + n)).toInt32 ((k + (n + L - 1) / L % R) % R))
/-- how many are left -/
def LF (L R : Nat) (ro : Nat → Int32) (b : Nat → Int8) (i n : Nat) : Nat := rsum (fun r => osum (CS L R ro b i n r) 12) L
/-- the hunt: n bits heard from bit i on -/
def HI (L R : Nat) (ro : Nat → Int32) (b : Nat → Int8) (i n : Nat) (u : SX1) (w : Nat → Int32) : Prop := ∃ on : Int32, u = (nI (LF L R ro b i n), nI n, nI ((L - n % L) % L), nI ((n + L - 1) / L % R), on) ∧ (∀ r, r < L → ∀ k, k < 32 → bt (w r) k = CS L R ro b i n r k) ∧ (on = -1 ∨ (LF L R ro b i n = 1 ∧ on = nI (i % (L * R))))
theorem CS_hi {L R : Nat} {ro : Nat → Int32} {b : Nat → Int8} {i : Nat} (n : Nat) {r k : Nat} (hk : R ≤ k) : CS L R ro b i n r k = false := by
  induction n with
  | zero => exact decide_eq_false (by omega)
  | succ n ih => simp only [CS]; rw [ih, Bool.false_and]
theorem rot_is {oth : Int32} {R fo k : Nat} (hR : R ≤ 12) (hf : fo < R) (hk : k < R) (hl : ∀ j, R ≤ j → j < 32 → bt oth j = false) : bt ((oth >>> (nI fo &&& 31)) ||| (oth <<< ((nI R - nI fo) &&& 31))) k = bt oth ((k + fo) % R) := by
  rw [b_or, b_sshr fo (by omega) oth (by omega), if_pos (by omega), pk_sub (by omega), b_shl (R - fo) (by omega) oth (by omega)]
  by_cases c : fo + k < R
  · rw [decide_eq_false (show ¬ R - fo ≤ k by omega), Bool.false_and, Bool.or_false, Nat.mod_eq_of_lt (show k + fo < R by omega), Nat.add_comm]
  · rw [hl (fo + k) (by omega) (by omega), Bool.false_or, decide_eq_true (show R - fo ≤ k by omega), Bool.true_and, Nat.mod_eq_sub_mod (show R ≤ k + fo by omega), Nat.mod_eq_of_lt (show k + fo - R < R by omega)]
    congr 1
    omega
theorem due_fr {L R i n : Nat} (hL : 0 < L) (hd : (L - n % L) % L = i % L) : (i + n) % L = 0 ∧ (i / L % R + (n + L - 1) / L % R) % R = (i + n) / L % R := by
  have hn := Nat.mod_lt n hL
  have hi := Nat.mod_lt i hL
  have en := Nat.div_add_mod n L
  have ei := Nat.div_add_mod i L
  by_cases c : n % L = 0
  · rw [c, Nat.sub_zero, Nat.mod_self] at hd
    have e : i + n = L * (i / L + n / L) := by rw [Nat.mul_add]; omega
    rw [up_0 hL c, ← Nat.add_mod]
    refine ⟨by rw [e, Nat.mul_mod_right], ?_⟩
    rw [e, Nat.mul_div_cancel_left _ hL]
  · rw [Nat.mod_eq_of_lt (show L - n % L < L by omega)] at hd
    have e : i + n = L * (i / L + (n / L + 1)) := by rw [Nat.mul_add, Nat.mul_add]; omega
    rw [up_1 hL (by omega), ← Nat.add_mod]
    refine ⟨by rw [e, Nat.mul_mod_right], ?_⟩
    rw [e, Nat.mul_div_cancel_left _ hL]
theorem due_nx {L n : Nat} (hL : 0 < L) : (L - n % L) % L < L ∧ ((L - n % L) % L = 0 → n % L = 0 ∧ (L - (n + 1) % L) % L = L - 1 ∨ L = 1) ∧ (¬ (L - n % L) % L = 0 → 0 < n % L ∧ (L - (n + 1) % L) % L = (L - n % L) % L - 1) := by
  have hn := Nat.mod_lt n hL
  refine ⟨Nat.mod_lt _ hL, ?_, ?_⟩
  · intro h
    by_cases c : n % L = 0
    · by_cases c1 : n % L + 1 < L
      · have h1 := (dm_a hL c1).1
        left
        rw [h1, c]
        exact ⟨rfl, Nat.mod_eq_of_lt (by omega)⟩
      · right; omega
    · rw [Nat.mod_eq_of_lt (show L - n % L < L by omega)] at h
      omega
  · intro h
    by_cases c : n % L = 0
    · rw [c, Nat.sub_zero, Nat.mod_self] at h
      exact absurd rfl h
    · rw [Nat.mod_eq_of_lt (show L - n % L < L by omega)]
      refine ⟨by omega, ?_⟩
      by_cases c1 : n % L + 1 < L
      · rw [(dm_a hL c1).1, Nat.mod_eq_of_lt (by omega)]
        omega
      · rw [(dm_b hL c1).1, Nat.sub_zero, Nat.mod_self]
        omega
theorem CS_true {L R : Nat} (hL : 0 < L) (hR : 0 < R) {ro : Nat → Int32} {b : Nat → Int8} {i : Nat} (n : Nat) (h : ∀ j, i ≤ j → j < i + n → RF L R ro j (b j).toInt32) : CS L R ro b i n (i % L) (i / L % R) = true := by
  induction n with
  | zero => exact decide_eq_true (Nat.mod_lt _ hR)
  | succ n ih =>
    simp only [CS]
    rw [ih (fun j h1 h2 => h j h1 (by omega)), Bool.true_and]
    by_cases c : i % L = (L - n % L) % L
    · obtain ⟨z1, z2⟩ := due_fr (R := R) hL c.symm
      obtain ⟨g1, g2⟩ := h (i + n) (by omega) (by omega) z1
      rw [decide_eq_true c, Bool.true_and, z2]
      unfold OT
      rw [decide_eq_false]
      · rfl
      · rintro ⟨_, e⟩
        by_cases x0 : (b (i + n)).toInt32 = 0
        · rw [if_pos x0] at e
          rw [g2 e] at x0
          exact absurd x0 (by decide)
        · rw [if_neg x0] at e
          exact x0 (g1 e)
    · rw [decide_eq_false c, Bool.false_and]; rfl
theorem LF_pos {L R : Nat} (hL : 0 < L) (hR : 0 < R) (hR2 : R ≤ 12) {ro : Nat → Int32} {b : Nat → Int8} {i : Nat} (n : Nat) (h : ∀ j, i ≤ j → j < i + n → RF L R ro j (b j).toInt32) : 1 ≤ LF L R ro b i n := by
  have hfi : i / L % R < R := Nat.mod_lt _ hR
  have g1 := osum_pos (g := CS L R ro b i n (i % L)) (n := 12) (p := i / L % R) (by omega) (CS_true hL hR n h)
  have g2 := rsum_ge (g := fun r => osum (CS L R ro b i n r) 12) (d := i % L) (n := L) (Nat.mod_lt _ hL)
  exact Nat.le_trans g1 g2
theorem fol_is {L R K D : Nat} {ro : Nat → Int32} {p : SX5} (h : PV L R K D ro p) {b : Nat → Int8} {i n : Nat} {u : SX1} {w : Nat → Int32} (hi : HI L R ro b i n u w) (hn : n ≤ 5000) (hl : ∀ j, i ≤ j → j < i + (n + 1) → RF L R ro j (b j).toInt32) : Tt (f_X1_follow (b (i + n)).toInt32 u w p) (fun q => HI L R ro b i (n + 1) q.1 q.2) := by
  have hbe := fun q => beh_is h q
  obtain ⟨po, wi, sl, fw, wr, la, dr, ch, ze, on, al, rfl, hp, a1, a2, a3, a4, hk, hw, hd, hr, hz, ho, ha⟩ := h
  obtain ⟨ony, rfl, hlo, hon⟩ := hi
  have hL : 0 < L := by omega
  obtain ⟨d1, d2, d3⟩ := due_nx (n := n) hL
  have hfo : (n + L - 1) / L % R < R := Nat.mod_lt _ (by omega)
  have key : ∀ oth : Int32, (∀ k, R ≤ k → k < 32 → bt oth k = false) → (∀ k, k < R → bt oth k = OT R ro (b (i + n)).toInt32 k) → Tt (f_X1_follow_32 (nI ((n + L - 1) / L % R)) (nI R) (nI ((L - n % L) % L)) w (nI L) po wi sl fw wr la dr (nI (L * R)) ch (nI K) ze on al (nI (LF L R ro b i n)) (nI n) ony oth) (fun q => HI L R ro b i (n + 1) q.1 q.2) := by
    intro oth hl1 hl2
    have v : vp_in (nI ((L - n % L) % L)) 24 := nI_in (by omega) (by decide)
    unfold f_X1_follow_32
    generalize hT : (oth >>> (nI ((n + L - 1) / L % R) &&& 31)) ||| (oth <<< ((nI R - nI ((n + L - 1) / L % R)) &&& 31)) = T
    have hTk : ∀ k, k < R → bt T k = OT R ro (b (i + n)).toInt32 ((k + (n + L - 1) / L % R) % R) := fun k hk => by
      rw [← hT, rot_is a4 hfo hk hl1, hl2 _ (Nat.mod_lt _ (by omega))]
    generalize hdd : (L - n % L) % L = d at *
    refine tt_n (tt_in v (tt_in v (tt_n (tt_in v ?_))))
    rw [nI_clamp (show d < 2 ^ 31 by omega)]
    have hs12 : lo12 (w d &&& T) := fun k k1 k2 => by rw [b_and, hlo d d1 k k2, CS_hi n (by omega), Bool.false_and]
    have hnew : ∀ r, r < L → ∀ k, k < 32 → bt (upd w d (w d ^^^ (w d &&& T)) r) k = CS L R ro b i (n + 1) r k := by
      intro r hr' k k2
      simp only [CS]
      rw [hdd]
      by_cases c : r = d
      · subst c
        rw [upd_same, b_xor, b_and, hlo r d1 k k2, decide_eq_true rfl, Bool.true_and]
        by_cases k1 : k < R
        · rw [hTk k k1]
          cases CS L R ro b i n r k <;> cases OT R ro (b (i + n)).toInt32 ((k + (n + L - 1) / L % R) % R) <;> rfl
        · rw [CS_hi n (by omega)]; rfl
      · rw [upd_ne _ _ c, hlo r hr' k k2, decide_eq_false c, Bool.false_and]
        cases CS L R ro b i n r k <;> rfl
    have hsp : osum (bt (w d &&& T)) 12 + osum (CS L R ro b i (n + 1) d) 12 = osum (CS L R ro b i n d) 12 := osum_split 12 (fun q hq => by
      have e1 := hnew d d1 q (by omega)
      rw [upd_same] at e1
      rw [← e1, ← hlo d d1 q (by omega), b_xor, b_and]
      cases bt (w d) q <;> cases bt T q <;> rfl)
    have hup := rsum_up (g := fun r => osum (CS L R ro b i n r) 12) (g' := fun r => osum (CS L R ro b i (n + 1) r) 12) (d := d) (n := L) d1 (fun k hk => by
      show osum _ 12 = osum _ 12
      congr 1
      funext q
      simp only [CS]
      rw [hdd, decide_eq_false hk, Bool.false_and]
      cases CS L R ro b i n k q <;> rfl)
    have hge := rsum_ge (g := fun r => osum (CS L R ro b i n r) 12) (d := d) (n := L) d1
    have hup : LF L R ro b i (n + 1) + osum (CS L R ro b i n d) 12 = LF L R ro b i n + osum (CS L R ro b i (n + 1) d) 12 := hup
    have hge : osum (CS L R ro b i n d) 12 ≤ LF L R ro b i n := hge
    have hpos := LF_pos (L := L) (R := R) hL (by omega) a4 (ro := ro) (b := b) (i := i) (n + 1) hl
    have hHI : ∀ due fo : Int32, due = nI ((L - (n + 1) % L) % L) → fo = nI ((n + 1 + L - 1) / L % R) → HI L R ro b i (n + 1) (nI (LF L R ro b i n) - nI (osum (bt (w d &&& T)) 12), nI n + 1, due, fo, ony) (upd w d (w d ^^^ (w d &&& T))) := by
      intro due fo e1 e2
      subst e1
      subst e2
      refine ⟨ony, ?_, hnew, hon.imp id (fun q => ⟨by omega, q.2⟩)⟩
      rw [pk_sub (by omega), nI_1, show LF L R ro b i n - osum (bt (w d &&& T)) 12 = LF L R ro b i (n + 1) by omega]
    rw [bc_is hs12, bso]
    by_cases c : d = 0
    · have c1 := (d2 c).resolve_right (by omega)
      rw [if_pos (show nI d ≤ 0 by subst c; decide), hbe, bso]
      refine tt_r (hHI _ _ ?_ ?_)
      · rw [c1.2]; exact pk_sub (b := 1) (by omega)
      · rw [up_s hL, up_0 hL c1.1]
    · have c1 := d3 c
      rw [if_neg (nI_nle (n := d) (by omega) (by omega))]
      refine tt_r (hHI _ _ ?_ ?_)
      · rw [c1.2]; exact pk_sub (b := 1) (by omega)
      · rw [up_s hL, up_1 hL c1.1]
  unfold f_X1_follow
  refine tt_i (fun e => absurd e (nI_pos (by omega))) (fun _ => tt_i (fun _ => tt_i (fun c => ?_) (fun c => ?_)) (fun e => absurd (show nI ((L - n % L) % L) < 24 from nI_lt (b := 24) (by omega) (by decide)) e))
  · refine key on (fun k k1 k2 => by rw [ho k k2]; exact decide_eq_false (by omega)) (fun k k1 => ?_)
    unfold OT
    rw [ho k (by omega), if_pos c]
  · refine key ze (fun k k1 k2 => by rw [hz k k2]; exact decide_eq_false (by omega)) (fun k k1 => ?_)
    unfold OT
    rw [hz k (by omega), if_neg c]
