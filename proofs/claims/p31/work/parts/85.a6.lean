/-! the checks of a superframe hang on its own bits alone, and fit into K bits -/
def Q2 (C : Nat) (A B : Option Int32) : Prop := ∃ v : Nat, v < 2 ^ C ∧ A = some (nI v) ∧ B = some (nI v)
theorem q2_i {C : Nat} {c : Prop} {inst : Decidable c} {A B A' B' : Option Int32} (h1 : c → Q2 C A B) (h2 : ¬ c → Q2 C A' B') : Q2 C (@ite _ c inst A A') (@ite _ c inst B B') := by
  by_cases h : c
  · rw [if_pos h, if_pos h]; exact h1 h
  · rw [if_neg h, if_neg h]; exact h2 h
theorem mk_b : ∀ C : Fin 13, ∀ i : Fin 32, bt (nI (2 ^ C.val - 1)) i.val = decide (i.val < C.val) := by decide +kernel
theorem mk_m : ∀ C : Fin 13, ((1 : Int32) <<< (nI C.val &&& 31)) - 1 = nI (2 ^ C.val - 1) := by decide +kernel
theorem two_le {C : Nat} (h : C ≤ 12) : 2 ^ C ≤ 4096 := Nat.pow_le_pow_right (by decide) h
theorem reg_lt {C : Nat} (hC : C ≤ 12) {x : Int32} (h : ∀ i, C ≤ i → i < 32 → bt x i = false) : ∃ v : Nat, v < 2 ^ C ∧ x = nI v := by
  have h4 := two_le hC
  have hm : (nI (2 ^ C - 1)).toBitVec.toNat = 2 ^ C - 1 := pk_tn (by omega)
  refine ⟨x.toBitVec.toNat % 2 ^ C, Nat.mod_lt _ (Nat.two_pow_pos C), ?_⟩
  rw [← pk_and x C hm]
  apply b_ext
  intro i hi
  have e := mk_b ⟨C, by omega⟩ ⟨i, hi⟩
  have e : bt (nI (2 ^ C - 1)) i = decide (i < C) := e
  rw [b_and, e]
  by_cases c : i < C
  · rw [decide_eq_true c, Bool.and_true]
  · rw [decide_eq_false c, h i (by omega) hi, Bool.false_and]
theorem ck102 {C : Nat} (hC : C ≤ 12) {K1 K2 : Int32 → Int32 → Int32 → Option Int32} {l7 l10 u : Int32} (hu : ∀ i, C ≤ i → i < 32 → bt u i = false) (hK : ∀ v, v < 2 ^ C → Q2 C (K1 (nI v) (l7 + 1) (l10 + 1)) (K2 (nI v) (l7 + 1) (l10 + 1))) (l6 t : Int32) : Q2 C (f_X5_checksOf_102 l6 (nI C) l7 l10 u K1 t) (f_X5_checksOf_102 l6 (nI C) l7 l10 u K2 t) := by
  have hE : ∀ i, C ≤ i → i < 32 → bt ((l6 <<< ((1 : Int32) &&& 31)) &&& (((1 : Int32) <<< (nI C &&& 31)) - 1)) i = false := by
    intro i h1 h2
    have e := mk_b ⟨C, by omega⟩ ⟨i, h2⟩
    have e : bt (nI (2 ^ C - 1)) i = decide (i < C) := e
    have e2 : ((1 : Int32) <<< (nI C &&& 31)) - 1 = nI (2 ^ C - 1) := mk_m ⟨C, by omega⟩
    rw [b_and, e2, e, decide_eq_false (by omega), Bool.and_false]
  obtain ⟨v1, k1, e1⟩ := reg_lt hC hE
  obtain ⟨v2, k2, e2⟩ := reg_lt hC (x := ((l6 <<< ((1 : Int32) &&& 31)) &&& (((1 : Int32) <<< (nI C &&& 31)) - 1)) ^^^ u) (fun i h1 h2 => by rw [b_xor, hE i h1 h2, hu i h1 h2]; rfl)
  unfold f_X5_checksOf_102 f_X5_checksOf_121 f_X5_checksOf_143 m_n
  refine q2_i (fun _ => ?_) (fun _ => ?_)
  · dsimp only
    rw [if_pos rfl, if_pos rfl, e1]
    exact hK v1 k1
  · dsimp only
    rw [if_neg (by decide), if_neg (by decide), e2]
    exact hK v2 k2
theorem ck73 {nb N N' : Nat} (hnb : nb < 2 ^ 31) (hN : N ≤ nb) (hN' : N' ≤ nb) {C : Nat} (hC : C ≤ 12) {L : Nat} (hL : L ≤ 24) {k1 k2 : Int32 → Int32 → Int32 → Option Int32} {l8 t u : Int32} (hu : ∀ i, C ≤ i → i < 32 → bt u i = false) {b b' : Nat → Int8} {x : Nat} (hx : x + L ≤ N) (hx' : x + L ≤ N') (hb : ∀ j, x ≤ j → j < x + L → b' j = b j) (hk : ∀ v, v < 2 ^ C → Q2 C (k1 (nI v) (nI (x + L)) (l8 + 1)) (k2 (nI v) (nI (x + L)) (l8 + 1))) (m : Nat) : ∀ (k f : Nat) (_ : k + m = L) (_ : m ≤ f) (v : Nat) (_ : v < 2 ^ C), Q2 C (f_X5_checksOf_73 (nI L) l8 t nb (nI N) b (nI C) u k1 (f + 1) (nI v) (nI (x + k)) (nI k)) (f_X5_checksOf_73 (nI L) l8 t nb (nI N') b' (nI C) u k2 (f + 1) (nI v) (nI (x + k)) (nI k)) := by
  induction m with
  | zero =>
    intro k f h _ v hv
    have : k = L := by omega
    subst this
    rw [f_X5_checksOf_73_s, f_X5_checksOf_73_s, if_pos (nI_le (Nat.le_refl _) (by omega)), if_pos (nI_le (Nat.le_refl _) (by omega))]
    exact hk v hv
  | succ m ih =>
    intro k f h hf v hv
    obtain ⟨f, rfl⟩ : ∃ q, f = q + 1 := ⟨f - 1, by omega⟩
    have hK : ∀ v, v < 2 ^ C → Q2 C (f_X5_checksOf_73 (nI L) l8 t nb (nI N) b (nI C) u k1 (f + 1) (nI v) (nI (x + k) + 1) (nI k + 1)) (f_X5_checksOf_73 (nI L) l8 t nb (nI N') b' (nI C) u k2 (f + 1) (nI v) (nI (x + k) + 1) (nI k + 1)) := fun v hv => by
      rw [nI_1, nI_1]
      exact ih (k + 1) f (by omega) (by omega) v hv
    rw [f_X5_checksOf_73_s, f_X5_checksOf_73_s, if_neg (nI_ge (by omega) (by omega)), if_neg (nI_ge (by omega) (by omega))]
    unfold f_X5_checksOf_96
    rw [at_is hnb hN (by omega), at_is hnb hN' (by omega), bso, bso, hb (x + k) (by omega) (by omega)]
    exact q2_i (fun _ => ck102 hC hu hK _ _) (fun _ => q2_i (fun _ => ck102 hC hu hK _ _) (fun _ => ck102 hC hu hK _ _))
theorem ck44 {nb N N' : Nat} (hnb : nb < 2 ^ 31) (hN : N ≤ nb) (hN' : N' ≤ nb) {C : Nat} (hC : C ≤ 12) {L R : Nat} (hL : L ≤ 24) (hR : R ≤ 12) {u : Int32} (hu : ∀ i, C ≤ i → i < 32 → bt u i = false) {b b' : Nat → Int8} {x : Nat} (hx : x + R * L ≤ N) (hx' : x + R * L ≤ N') (hb : ∀ j, x ≤ j → j < x + R * L → b' j = b j) (x0 x1 x2 x3 x4 x5 x6 x7 x8 x10 x11 x12 : Int32) (ro : Nat → Int32) (m : Nat) : ∀ (k f : Nat) (_ : k + m = R) (_ : m ≤ f) (v : Nat) (_ : v < 2 ^ C), Q2 C (f_X5_checksOf_44 (nI R) (nI L) x0 x1 x2 x3 x4 x5 x6 x7 x8 (nI C) x10 x11 x12 ro nb (nI N) b u (f + 1) (nI v) (nI (x + k * L)) (nI k)) (f_X5_checksOf_44 (nI R) (nI L) x0 x1 x2 x3 x4 x5 x6 x7 x8 (nI C) x10 x11 x12 ro nb (nI N') b' u (f + 1) (nI v) (nI (x + k * L)) (nI k)) := by
  induction m with
  | zero =>
    intro k f h _ v hv
    rw [f_X5_checksOf_44_s, f_X5_checksOf_44_s, if_pos (nI_le (by omega) (by omega)), if_pos (nI_le (by omega) (by omega))]
    exact ⟨v, hv, rfl, rfl⟩
  | succ m ih =>
    intro k f h hf v hv
    obtain ⟨f, rfl⟩ : ∃ q, f = q + 1 := ⟨f - 1, by omega⟩
    have e1 : (k + 1) * L = k * L + L := Nat.succ_mul k L
    have e2 : (k + 1) * L ≤ R * L := Nat.mul_le_mul_right L (by omega)
    have hk : ∀ v, v < 2 ^ C → Q2 C (f_X5_checksOf_44 (nI R) (nI L) x0 x1 x2 x3 x4 x5 x6 x7 x8 (nI C) x10 x11 x12 ro nb (nI N) b u (f + 1) (nI v) (nI (x + k * L + L)) (nI k + 1)) (f_X5_checksOf_44 (nI R) (nI L) x0 x1 x2 x3 x4 x5 x6 x7 x8 (nI C) x10 x11 x12 ro nb (nI N') b' u (f + 1) (nI v) (nI (x + k * L + L)) (nI k + 1)) := fun v hv => by
      rw [nI_1, Nat.add_assoc, ← e1]
      exact ih (k + 1) f (by omega) (by omega) v hv
    obtain ⟨q, hq, _⟩ := roleAt_c (nI k) (nI L, nI R, x0, x1, x2, x3, x4, x5, x6, x7, x8, nI C, x10, x11, x12) ro
    rw [f_X5_checksOf_44_s, f_X5_checksOf_44_s, if_neg (nI_ge (by omega) (by omega)), if_neg (nI_ge (by omega) (by omega)), hq, bso, bso]
    unfold f_X5_checksOf_68
    have g := fun t => ck73 hnb hN hN' hC hL (t := t) (l8 := nI k) hu (x := x + k * L) (b := b) (b' := b') (by omega) (by omega) (fun j h1 h2 => hb j (by omega) (by omega)) hk L 0 65535 (by omega) (by omega) v hv
    exact q2_i (fun _ => g 1) (fun _ => g 0)
theorem cko_is {nb N N' : Nat} (hnb : nb < 2 ^ 31) (hN : N ≤ nb) (hN' : N' ≤ nb) {L R K D : Nat} {ro : Nat → Int32} {p : SX5} (h : PV L R K D ro p) {b b' : Nat → Int8} {x : Nat} (hx : x + L * R ≤ N) (hx' : x + L * R ≤ N') (hb : ∀ j, x ≤ j → j < x + L * R → b' j = b j) : Q2 K (f_X5_checksOf nb (nI x) p ro (nI N) b) (f_X5_checksOf nb (nI x) p ro (nI N') b') := by
  obtain ⟨po, wi, sl, fw, wr, la, dr, ch, ze, on, al, rfl, hp, a1, a2, a3, a4, hk, hw, hd, hr, hz, ho, ha⟩ := h
  have hK : K ≤ 12 := by have := cnt_le ro R; omega
  rw [Nat.mul_comm] at hx hx' hb
  unfold f_X5_checksOf
  refine q2_i (fun _ => ?_) (fun c => ?_)
  · unfold m_n
    have e2 : ((1 : Int32) <<< (nI K &&& 31)) - 1 = nI (2 ^ K - 1) := mk_m ⟨K, by omega⟩
    have g := ck44 hnb hN hN' hK a2 a4 (u := po &&& (((1 : Int32) <<< (nI K &&& 31)) - 1)) (fun i h1 h2 => by
      have e := mk_b ⟨K, by omega⟩ ⟨i, h2⟩
      have e : bt (nI (2 ^ K - 1)) i = decide (i < K) := e
      rw [b_and, e2, e, decide_eq_false (by omega), Bool.and_false]) hx hx' hb po wi sl fw wr la dr (nI (L * R)) ch ze on al ro R 0 65535 (by omega) (by omega) 0 (Nat.two_pow_pos K)
    rw [Nat.zero_mul, Nat.add_zero] at g
    exact g
  · exact ⟨0, Nat.two_pow_pos K, rfl, rfl⟩
