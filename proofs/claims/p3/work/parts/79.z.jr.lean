/-! Class and reference, one call at a time: texts, images, what was saved. -/
theorem by8v (x : BitVec 64) (s : Nat) (hs : s ≤ 56) : ((x >>> s).setWidth 32 &&& 255#32 = 0#32) ↔ (x.sshiftRight s &&& 255#64 = 0#64) := by
  have c32 : ∀ i, i < 32 → (255#32).getLsbD i = decide (i < 8) := by decide +kernel
  have c64 : ∀ i, i < 64 → (255#64).getLsbD i = decide (i < 8) := by decide +kernel
  have L : ((x >>> s).setWidth 32 &&& 255#32 = 0#32) ↔ ∀ i, i < 8 → x.getLsbD (s + i) = false := by
    constructor
    · intro h i hi
      have := congrArg (fun v => BitVec.getLsbD v i) h
      simp only [BitVec.getLsbD_and, BitVec.getLsbD_setWidth, BitVec.getLsbD_ushiftRight, BitVec.getLsbD_zero, c32 i (by omega), hi, decide_true, Bool.and_true, show i < 32 by omega, Bool.true_and] at this
      exact this
    · intro h
      apply BitVec.eq_of_getLsbD_eq
      intro i hi
      simp only [BitVec.getLsbD_and, BitVec.getLsbD_setWidth, BitVec.getLsbD_ushiftRight, BitVec.getLsbD_zero, c32 i hi]
      by_cases h8 : i < 8
      · simp [h i h8]
      · simp [h8]
  have R : (x.sshiftRight s &&& 255#64 = 0#64) ↔ ∀ i, i < 8 → x.getLsbD (s + i) = false := by
    constructor
    · intro h i hi
      have := congrArg (fun v => BitVec.getLsbD v i) h
      simp only [BitVec.getLsbD_and, BitVec.getLsbD_sshiftRight, BitVec.getLsbD_zero, c64 i (by omega), hi, decide_true, Bool.and_true, show ¬ 64 ≤ i by omega, show s + i < 64 by omega, if_true, decide_false, Bool.not_false, Bool.true_and] at this
      exact this
    · intro h
      apply BitVec.eq_of_getLsbD_eq
      intro i hi
      simp only [BitVec.getLsbD_and, BitVec.getLsbD_sshiftRight, BitVec.getLsbD_zero, c64 i hi]
      by_cases h8 : i < 8
      · rw [h i h8, if_pos (show s + i < 64 by omega)]; simp
      · simp [h8]
  rw [L, R]
theorem by8 (x : Int64) (k : Nat) (hk : k < 8) : ((x.toUInt64 >>> ((56 - (8 * nI k)).toInt64.toUInt64 &&& Int64.toUInt64 63)).toInt64).toInt32 &&& 255 = 0 ↔ (x >>> ((56 - (8 * nI k)).toInt64 &&& 63)) &&& 255 = 0 := by
  have key : ∀ k : Fin 8, ((((56 - (8 * nI k.val)).toInt64.toUInt64 &&& Int64.toUInt64 63)).toBitVec % 64#64).toNat = 56 - 8 * k.val ∧ ((((56 - (8 * nI k.val)).toInt64 &&& 63)).toBitVec.smod 64#64).toNat = 56 - 8 * k.val := by decide +kernel
  have hq := key ⟨k, hk⟩
  have h := by8v x.toBitVec (56 - 8 * k) (by omega)
  rw [← Int32.toBitVec_inj, ← Int64.toBitVec_inj, Int32.toBitVec_and, Int64.toBitVec_and]
  have e1 : (((x.toUInt64 >>> ((56 - (8 * nI k)).toInt64.toUInt64 &&& Int64.toUInt64 63)).toInt64).toInt32).toBitVec = (x.toBitVec >>> (56 - 8 * k)).setWidth 32 := by
    rw [Int64.toBitVec_toInt32]
    show ((x.toUInt64 >>> ((56 - (8 * nI k)).toInt64.toUInt64 &&& Int64.toUInt64 63)).toBitVec).signExtend 32 = _
    rw [UInt64.toBitVec_shiftRight, BitVec.signExtend_eq_setWidth_of_le _ (by decide), BitVec.ushiftRight_eq', show (((56 - (8 * nI k)).toInt64.toUInt64 &&& Int64.toUInt64 63).toBitVec % 64).toNat = 56 - 8 * k from hq.1]
    rfl
  have e2 : (x >>> ((56 - (8 * nI k)).toInt64 &&& 63)).toBitVec = x.toBitVec.sshiftRight (56 - 8 * k) := by
    rw [Int64.toBitVec_shiftRight, BitVec.sshiftRight_eq', show (((56 - 8 * nI k).toInt64 &&& 63).toBitVec.smod 64).toNat = 56 - 8 * k from hq.2]
  rw [e1, e2]
  exact h
theorem key_step (x0 : Int64) (k : Nat) (hk : k < 8) : ((((x0.toUInt64 >>> ((56 - (8 * nI k)).toInt64.toUInt64 &&& Int64.toUInt64 63)).toInt64).toInt32 &&& 255) = 0) ↔ (lg_cmp ((x0 >>> ((56 - (8 * nI k)).toInt64 &&& 63)) &&& 255) 0) = 0 := by
  rw [by8 x0 k hk]
  unfold lg_cmp
  constructor
  · intro e; rw [e]; decide
  · intro e
    split at e
    · exact absurd e (by decide)
    · split at e
      · assumption
      · exact absurd e (by decide)

theorem by8e1 (x : Int64) (k : Nat) (hk : k < 8) : (((x.toUInt64 >>> ((56 - (8 * nI k)).toInt64.toUInt64 &&& Int64.toUInt64 63)).toInt64).toInt32).toBitVec = (x.toBitVec >>> (56 - 8 * k)).setWidth 32 := by
  have key : ∀ k : Fin 8, ((((56 - (8 * nI k.val)).toInt64.toUInt64 &&& Int64.toUInt64 63)).toBitVec % 64#64).toNat = 56 - 8 * k.val := by decide +kernel
  rw [Int64.toBitVec_toInt32]
  show ((x.toUInt64 >>> ((56 - (8 * nI k)).toInt64.toUInt64 &&& Int64.toUInt64 63)).toBitVec).signExtend 32 = _
  rw [UInt64.toBitVec_shiftRight, BitVec.signExtend_eq_setWidth_of_le _ (by decide), BitVec.ushiftRight_eq', show (((56 - (8 * nI k)).toInt64.toUInt64 &&& Int64.toUInt64 63).toBitVec % 64).toNat = 56 - 8 * k from key ⟨k, hk⟩]
  rfl
theorem by8e2 (x : Int64) (k : Nat) (hk : k < 8) : (x >>> ((56 - (8 * nI k)).toInt64 &&& 63)).toBitVec = x.toBitVec.sshiftRight (56 - 8 * k) := by
  have key : ∀ k : Fin 8, ((((56 - (8 * nI k.val)).toInt64 &&& 63)).toBitVec.smod 64#64).toNat = 56 - 8 * k.val := by decide +kernel
  rw [Int64.toBitVec_shiftRight, BitVec.sshiftRight_eq', show (((56 - 8 * nI k).toInt64 &&& 63).toBitVec.smod 64).toNat = 56 - 8 * k from key ⟨k, hk⟩]
theorem i8rt (b : Int8) : b.toInt32.toInt8 = b := i8all (P := fun b => b.toInt32.toInt8 = b) (by decide +kernel) b
theorem by8b (x : BitVec 64) (s : Nat) (hs : s ≤ 56) : ((x >>> s).setWidth 32 &&& 255#32).signExtend 8 = ((x.sshiftRight s).signExtend 32).signExtend 8 := by
  have c32 : ∀ i, i < 32 → (255#32).getLsbD i = decide (i < 8) := by decide +kernel
  rw [BitVec.signExtend_eq_setWidth_of_le _ (by decide), BitVec.signExtend_eq_setWidth_of_le _ (by decide), BitVec.signExtend_eq_setWidth_of_le _ (by decide)]
  apply BitVec.eq_of_getLsbD_eq
  intro i hi
  simp only [BitVec.getLsbD_setWidth, BitVec.getLsbD_and, BitVec.getLsbD_ushiftRight, BitVec.getLsbD_sshiftRight, c32 i (by omega), hi, decide_true, Bool.and_true, Bool.true_and, show i < 32 by omega, show ¬ 64 ≤ i by omega, show s + i < 64 by omega, if_true, decide_false, Bool.not_false]
theorem byte_eq (x : Int64) (k : Nat) (hk : k < 8) : (((x.toUInt64 >>> ((56 - (8 * nI k)).toInt64.toUInt64 &&& Int64.toUInt64 63)).toInt64).toInt32 &&& 255).toInt8.toInt32.toInt8 = (((x >>> ((56 - (8 * nI k)).toInt64 &&& 63)).toInt32).toInt8.toInt32).toInt8 := by
  rw [i8rt, i8rt, ← Int8.toBitVec_inj, Int32.toBitVec_toInt8, Int32.toBitVec_toInt8, Int32.toBitVec_and, by8e1 x k hk, Int64.toBitVec_toInt32, by8e2 x k hk]
  exact by8b x.toBitVec (56 - 8 * k) (by omega)
theorem upB_same (f : Nat → Int8) (k : Nat) (x : Int8) : upB f k x k = x := if_pos rfl
theorem upB_ne (f : Nat → Int8) {k j : Nat} (x : Int8) (h : j ≠ k) : upB f k x j = f j := if_neg h
theorem key_go2 (z fl fp : Int32) (x0 : Int64) (by0 : Nat → Int8) (a : Nat → Int32) (u re le be so va si : Int32) (w : Int64) (wa ba x : Int32) (tx : Nat → Int8) (m : Nat) : ∀ (k f g : Nat) (_ : k + m = 8) (_ : m ≤ f) (_ : m ≤ g),
    ∃ j, j ≤ 8 ∧ f_X8_append_2 z fl fp x0 by0 (f + 1) (nI k) = f_X8_append_22 z (nI j) fl fp x0 by0 ∧ f_X12_key_7 a u re le be so va si w wa ba x x0 tx (g + 1) (nI k) = f_X12_key_37 a (nI j) u re le be so va si w wa ba x x0 tx := by
  induction m with
  | zero =>
    intro k f g hk _ _
    have : k = 8 := by omega
    subst this
    exact ⟨8, by omega, by rw [f_X8_append_2_s, if_pos (by decide)], by rw [f_X12_key_7_s, if_pos (by decide)]⟩
  | succ m ih =>
    intro k f g hk hf hg
    obtain ⟨f, rfl⟩ : ∃ q, f = q + 1 := ⟨f - 1, by omega⟩
    obtain ⟨g, rfl⟩ : ∃ q, g = q + 1 := ⟨g - 1, by omega⟩
    have hn : ¬ (8 : Int32) ≤ nI k := nI_ge (a := k) (b := 8) (by omega) (by omega)
    have hq := key_step x0 k (by omega)
    rw [f_X8_append_2_s, if_neg hn, f_X12_key_7_s, if_neg hn]
    unfold f_X8_byteOf
    rw [bso]
    by_cases h0 : ((((x0.toUInt64 >>> ((56 - (8 * nI k)).toInt64.toUInt64 &&& Int64.toUInt64 63)).toInt64).toInt32 &&& 255) = 0)
    · rw [if_pos h0, if_pos (hq.mp h0)]
      exact ⟨k, by omega, rfl, rfl⟩
    · rw [if_neg h0, if_neg (fun e => h0 (hq.mpr e)), nI_1]
      exact ih (k + 1) f g (by omega) (by omega) (by omega)
theorem key_run (Z J : Nat) (hJ : J ≤ 8) (hZ : Z + J ≤ 300) (fl fp : Int32) (u re le be so va si : Int32) (w : Int64) (wa ba x : Int32) (x0 : Int64) (m : Nat) : ∀ (k f g : Nat) (_ : k + m = J) (_ : m ≤ f) (_ : m ≤ g) (by0 : Nat → Int8) (a1 : Nat → Int32) (tx1 : Nat → Int8) (_ : a1 133 = nI (Z + k)) (_ : ∀ j, j < Z + k → tx1 j = by0 j), ∃ by1 a2 tx2,
    f_X8_append_39 (nI J) (nI Z) fl fp x0 (f + 1) (nI k) by0 = some (nI (Z + J), (nI (Z + J), fl, fp), by1) ∧ f_X12_key_58 (nI J) u re le be so va si w wa ba x x0 (g + 1) (nI k) a1 tx1 = some (nI (Z + J), (0, u, re, le, be, so, va, si, w, wa, ba, x), a2, tx2) ∧
    a2 133 = nI (Z + J) ∧ (∀ j, j ≠ 133 → a2 j = a1 j) ∧ (∀ j, j < Z + J → tx2 j = by1 j) ∧ ∀ j, 300 ≤ j → tx2 j = tx1 j := by
  induction m with
  | zero =>
    intro k f g hk _ _ by0 a1 tx1 ha ht
    have : k = J := by omega
    subst this
    rw [f_X8_append_39_s, if_pos (nI_le (Nat.le_refl _) (by omega)), f_X12_key_58_s, if_pos (nI_le (Nat.le_refl _) (by omega)), ha, nI_add]
    exact ⟨by0, a1, tx1, rfl, rfl, ha, fun _ _ => rfl, ht, fun _ _ => rfl⟩
  | succ m ih =>
    intro k f g hk hf hg by0 a1 tx1 ha ht
    obtain ⟨f, rfl⟩ : ∃ q, f = q + 1 := ⟨f - 1, by omega⟩
    obtain ⟨g, rfl⟩ : ∃ q, g = q + 1 := ⟨g - 1, by omega⟩
    rw [f_X8_append_39_s, if_neg (nI_ge (by omega) (by omega)), f_X12_key_58_s, if_neg (nI_ge (by omega) (by omega))]
    unfold f_X8_byteOf m_n
    rw [bso, nI_add, m_inI (nI_in (c := Z + k) (N := 300) (by omega) (by omega)), nI_clamp (by omega), byte_eq x0 k (by omega), ha, nI_1]
    obtain ⟨by1, a2, tx2, h1, h2, h3, h4, h5, h6⟩ := ih (k + 1) f g (by omega) (by omega) (by omega) (upB by0 (Z + k) ((((x0 >>> ((56 - (8 * nI k)).toInt64 &&& 63)).toInt32).toInt8.toInt32).toInt8)) (upd a1 133 (nI (Z + k) + 1)) (upB tx1 (Z + k) ((((x0 >>> ((56 - (8 * nI k)).toInt64 &&& 63)).toInt32).toInt8.toInt32).toInt8)) (by rw [upd_same, nI_1]; rfl) (fun j hj => by
      by_cases e : j = Z + k
      · rw [e, upB_same, upB_same]
      · rw [upB_ne _ _ e, upB_ne _ _ e]; exact ht j (by omega))
    refine ⟨by1, a2, tx2, h1, ?_, h3, fun j hj => by rw [h4 j hj, upd_ne _ _ hj], h5, fun j hj => by rw [h6 j hj, upB_ne _ _ (by omega)]⟩
    show m_in (nI (Z + k)) 1200 _ = _
    rw [m_inI (nI_in (c := Z + k) (N := 1200) (by omega) (by omega)), nI_clamp (by omega)]
    exact h2
theorem key_j {x : SX8} {xb : Nat → Int8} {a : Nat → Int32} {tx : Nat → Int8} (h : JT x xb a 0 tx 0) (x0 : Int64) (sc : Int32) (s : SX12) : Tt (f_X11_key x0 sc x xb) (fun q => Tt (f_X12_key x0 s a tx) (fun q2 => q.1 = q2.1 ∧ JT q.2.1 q.2.2 q2.2.2.1 0 q2.2.2.2 0 ∧ (∀ j, j ≠ 133 → q2.2.2.1 j = a j) ∧ ∀ j, 300 ≤ j → q2.2.2.2 j = tx j)) := by
  obtain ⟨ra, u, re, le, be, so, va, si, w, wa, bd, x12⟩ := s
  obtain ⟨Z, hZ, rfl, hz, ht⟩ := h
  have hz : a 133 = nI Z := hz
  have ht : ∀ j, j < Z + 0 → tx j = xb j := fun j hj => by have h := ht j hj; rw [Nat.zero_add] at h; exact h
  obtain ⟨J, hJ, e1, e2⟩ := key_go2 (nI Z) (a 134) (a 135) x0 xb a u re le be so va si w wa bd x12 tx 8 0 65535 65535 (by omega) (by omega) (by omega)
  have E1 : f_X11_key x0 sc (nI Z, a 134, a 135) xb = Option.bind (f_X8_append_22 (nI Z) (nI J) (a 134) (a 135) x0 xb) (fun z => match z with | (q1, q2, q3) => some (q1, q2, q3)) := by
    unfold f_X11_key f_X8_append
    exact congrArg (fun o => Option.bind o (fun z => match z with | (q1, q2, q3) => some (q1, q2, q3))) e1
  have E2 : f_X12_key x0 (ra, u, re, le, be, so, va, si, w, wa, bd, x12) a tx = f_X12_key_37 a (nI J) u re le be so va si w wa bd x12 x0 tx := e2
  show Tt (f_X11_key x0 sc (nI Z, a 134, a 135) xb) _
  rw [E1, E2]
  unfold f_X8_append_22 f_X12_key_37
  rw [hz, nI_add]
  by_cases c : nI (Z + J) ≤ 300
  · have hle : Z + J ≤ 300 := (nI_leI (b := 300) (by omega) (by omega)).mp c
    obtain ⟨by1, a2, tx2, h1, h2, h3, h4, h5, h6⟩ := key_run Z J hJ hle (a 134) (a 135) u re le be so va si w wa bd x12 x0 J 0 65535 65535 (by omega) (by omega) (by omega) xb a tx hz ht
    have h1 : f_X8_append_39 (nI J) (nI Z) (a 134) (a 135) x0 65536 0 xb = _ := h1
    have h2 : f_X12_key_58 (nI J) u re le be so va si w wa bd x12 x0 65536 0 a tx = _ := h2
    rw [if_pos c, if_pos c, h1, h2, bso]
    exact tt_r (tt_r ⟨rfl, ⟨Z + J, hle, by show (nI (Z + J), a 134, a 135) = (nI (Z + J), a2 134, a2 135); rw [h4 134 (by decide), h4 135 (by decide)], h3, fun j hj => by rw [Nat.zero_add]; exact h5 j hj⟩, h4, h6⟩)
  · rw [if_neg c, if_neg c, bso]
    exact tt_r (tt_r ⟨rfl, ⟨Z, hZ, rfl, hz, fun j hj => by rw [Nat.zero_add]; exact ht j hj⟩, fun _ _ => rfl, fun _ _ => rfl⟩)
theorem ca_x (x0 x1 : Nat) (h0 : x0 ≤ 3) (h1 : x1 ≤ 3) (hne : x0 ≠ x1) (s : SX12) (a : Nat → Int32) (ln tx : Nat → Int8) : Tt (f_X12_copiesAll (nI x0) (nI x1) s a ln tx) (fun q => ((∀ j, j < 136 → q.1 (136 * x1 + j) = a (136 * x0 + j)) ∧ ∀ j, ¬ (136 * x1 ≤ j ∧ j < 136 * x1 + 136) → q.1 j = a j) ∧ (∀ j, j < 300 → q.2.2 (300 * x1 + j) = tx (300 * x0 + j)) ∧ ∀ j, ¬ (300 * x1 ≤ j ∧ j < 300 * x1 + 300) → q.2.2 j = tx j) := by
  obtain ⟨a1, c1, c2, c3⟩ := cv_is x0 x1 (by omega) (by omega) hne s a
  have l47 : ∀ (m k f : Nat) (_ : k + m = 300) (_ : m ≤ f) (ln1 tx1 : Nat → Int8) (_ : ∀ j, j < k → tx1 (300 * x1 + j) = tx (300 * x0 + j)) (_ : ∀ j, ¬ (300 * x1 ≤ j ∧ j < 300 * x1 + 300) → tx1 j = tx j), Tt (f_X12_copiesAll_47 a1 ln1 (nI x0) (nI x1) (f + 1) (nI k) tx1) (fun q => ((∀ j, j < 136 → q.1 (136 * x1 + j) = a (136 * x0 + j)) ∧ ∀ j, ¬ (136 * x1 ≤ j ∧ j < 136 * x1 + 136) → q.1 j = a j) ∧ (∀ j, j < 300 → q.2.2 (300 * x1 + j) = tx (300 * x0 + j)) ∧ ∀ j, ¬ (300 * x1 ≤ j ∧ j < 300 * x1 + 300) → q.2.2 j = tx j) := by
    intro m
    induction m with
    | zero =>
      intro k f hk _ ln1 tx1 e1 e2
      have : k = 300 := by omega
      subst this
      rw [f_X12_copiesAll_47_s, if_pos (by decide)]
      exact tt_r ⟨⟨c2, c3⟩, e1, e2⟩
    | succ m ih =>
      intro k f hk hf ln1 tx1 e1 e2
      obtain ⟨f, rfl⟩ : ∃ q, f = q + 1 := ⟨f - 1, by omega⟩
      rw [f_X12_copiesAll_47_s, if_neg (show ¬ (300 : Int32) ≤ nI k from nI_ge (a := k) (b := 300) (by omega) (by omega)), show (300 : Int32) = nI 300 from rfl, pk_mul, pk_mul, nI_add, nI_add, nI_1]
      refine tt_ik (300 * x0 + k) rfl (by omega) (by omega) (tt_ik (300 * x1 + k) rfl (by omega) (by omega) (ih (k + 1) f (by omega) (by omega) _ _ ?_ ?_))
      · intro j hj
        rw [nI_clamp (show 300 * x1 + k < 2 ^ 31 by omega), nI_clamp (show 300 * x0 + k < 2 ^ 31 by omega), i8rt]
        by_cases e : j = k
        · rw [e, upB_same]; exact e2 _ (by omega)
        · rw [upB_ne _ _ (by omega)]; exact e1 j (by omega)
      · intro j hj
        rw [nI_clamp (show 300 * x1 + k < 2 ^ 31 by omega), upB_ne _ _ (by omega)]
        exact e2 j hj
  have l8 : ∀ (m k f : Nat) (_ : k + m = 4000) (_ : m ≤ f) (ln1 : Nat → Int8), Tt (f_X12_copiesAll_8 a1 (nI x0) (nI x1) tx (f + 1) (nI k) ln1) (fun q => ((∀ j, j < 136 → q.1 (136 * x1 + j) = a (136 * x0 + j)) ∧ ∀ j, ¬ (136 * x1 ≤ j ∧ j < 136 * x1 + 136) → q.1 j = a j) ∧ (∀ j, j < 300 → q.2.2 (300 * x1 + j) = tx (300 * x0 + j)) ∧ ∀ j, ¬ (300 * x1 ≤ j ∧ j < 300 * x1 + 300) → q.2.2 j = tx j) := by
    intro m
    induction m with
    | zero =>
      intro k f hk _ ln1
      rw [f_X12_copiesAll_8_s, if_pos (show (4000 : Int32) ≤ nI k from nI_le (a := 4000) (by omega) (by omega))]
      exact l47 300 0 65535 (by omega) (by omega) ln1 tx (fun j hj => absurd hj (by omega)) (fun _ _ => rfl)
    | succ m ih =>
      intro k f hk hf ln1
      obtain ⟨f, rfl⟩ : ∃ q, f = q + 1 := ⟨f - 1, by omega⟩
      rw [f_X12_copiesAll_8_s, if_neg (show ¬ (4000 : Int32) ≤ nI k from nI_ge (a := k) (b := 4000) (by omega) (by omega)), show (6400 : Int32) = nI 6400 from rfl, pk_mul, pk_mul, nI_add, nI_add, nI_1]
      exact tt_ik (6400 * x0 + k) rfl (by omega) (by omega) (tt_ik (6400 * x1 + k) rfl (by omega) (by omega) (ih (k + 1) f (by omega) (by omega) _))
  unfold f_X12_copiesAll
  rw [c1, bso]
  exact l8 4000 0 65535 (by omega) (by omega) ln
/-! What stays alike: the present text, the saved images' texts, what is saved. -/
def TX (a' a : Nat → Int32) : Prop := ∀ j, 133 ≤ j → j < 544 → a' j = a j
def SK (f g : Nat → Int32) : Prop := ∀ k, k < 3 → f k = g k
def KJ (k : Nat) (x : SX8) (xb : Nat → Int8) (a : Nat → Int32) (tx : Nat → Int8) (sv : Nat → Int32) : Prop := ¬ sv k = 0 → JT x xb a (136 * (k + 1)) tx (300 * (k + 1))
def JJ (x : SX8) (xb : Nat → Int8) (ik : Nat → Int32) (x0 : SX8) (b0 : Nat → Int8) (x1 : SX8) (b1 : Nat → Int8) (x2 : SX8) (b2 : Nat → Int8) (a : Nat → Int32) (tx : Nat → Int8) (sv : Nat → Int32) : Prop :=
  JT x xb a 0 tx 0 ∧ SK ik sv ∧ KJ 0 x0 b0 a tx sv ∧ KJ 1 x1 b1 a tx sv ∧ KJ 2 x2 b2 a tx sv
theorem JT.of {x : SX8} {xb : Nat → Int8} {a a' : Nat → Int32} {o o' z z' : Nat} {tx tx' : Nat → Int8} (h : JT x xb a o tx z) (e : ∀ j, j < 3 → a' (o' + 133 + j) = a (o + 133 + j)) (f : ∀ j, j < 300 → tx' (z' + j) = tx (z + j)) : JT x xb a' o' tx' z' := by
  obtain ⟨Z, h1, h2, h3, h4⟩ := h
  have e0 : a' (o' + 133) = a (o + 133) := e 0 (by decide)
  have e1 : a' (o' + 134) = a (o + 134) := e 1 (by decide)
  have e2 : a' (o' + 135) = a (o + 135) := e 2 (by decide)
  exact ⟨Z, h1, by rw [e1, e2]; exact h2, e0.trans h3, fun j hj => (f j (by omega)).trans (h4 j hj)⟩
theorem JT.cw {x : SX8} {xb xb' : Nat → Int8} {a : Nat → Int32} {o z : Nat} {tx : Nat → Int8} (h : JT x xb a o tx z) (e : ∀ z, x.1 = nI z → z ≤ 300 → ∀ j, j < z → xb' j = xb j) : JT x xb' a o tx z := by
  obtain ⟨Z, h1, h2, h3, h4⟩ := h
  exact ⟨Z, h1, h2, h3, fun j hj => (h4 j hj).trans (e Z (by rw [h2]) h1 j hj).symm⟩
theorem KJ.of {k : Nat} {x : SX8} {xb : Nat → Int8} {a a' : Nat → Int32} {tx tx' : Nat → Int8} {sv : Nat → Int32} (h : KJ k x xb a tx sv) (e : ∀ j, j < 3 → a' (136 * (k + 1) + 133 + j) = a (136 * (k + 1) + 133 + j)) (f : ∀ j, j < 300 → tx' (300 * (k + 1) + j) = tx (300 * (k + 1) + j)) : KJ k x xb a' tx' sv := fun c => (h c).of e f
theorem JJ.tx {x : SX8} {xb : Nat → Int8} {ik : Nat → Int32} {x0 : SX8} {b0 : Nat → Int8} {x1 : SX8} {b1 : Nat → Int8} {x2 : SX8} {b2 : Nat → Int8} {a a' : Nat → Int32} {tx : Nat → Int8} {sv : Nat → Int32} (h : JJ x xb ik x0 b0 x1 b1 x2 b2 a tx sv) (e : TX a' a) : JJ x xb ik x0 b0 x1 b1 x2 b2 a' tx sv := by
  obtain ⟨h1, h2, h3, h4, h5⟩ := h
  exact ⟨h1.of (fun j hj => e _ (by omega) (by omega)) (fun _ _ => rfl), h2, h3.of (fun j hj => e _ (by omega) (by omega)) (fun _ _ => rfl), h4.of (fun j hj => e _ (by omega) (by omega)) (fun _ _ => rfl), h5.of (fun j hj => e _ (by omega) (by omega)) (fun _ _ => rfl)⟩
/-- a new present text: the images' stay -/
theorem JJ.now {x x' : SX8} {xb xb' : Nat → Int8} {ik : Nat → Int32} {x0 : SX8} {b0 : Nat → Int8} {x1 : SX8} {b1 : Nat → Int8} {x2 : SX8} {b2 : Nat → Int8} {a a' : Nat → Int32} {tx tx' : Nat → Int8} {sv : Nat → Int32} (h : JJ x xb ik x0 b0 x1 b1 x2 b2 a tx sv) (n : JT x' xb' a' 0 tx' 0) (e : ∀ j, 136 ≤ j → j < 544 → a' j = a j) (f : ∀ j, 300 ≤ j → tx' j = tx j) : JJ x' xb' ik x0 b0 x1 b1 x2 b2 a' tx' sv := by
  obtain ⟨h1, h2, h3, h4, h5⟩ := h
  exact ⟨n, h2, h3.of (fun j hj => e _ (by omega) (by omega)) (fun j _ => f _ (by omega)), h4.of (fun j hj => e _ (by omega) (by omega)) (fun j _ => f _ (by omega)), h5.of (fun j hj => e _ (by omega) (by omega)) (fun j _ => f _ (by omega))⟩
def imgK (x : Int32) (f : Nat → Int32) : Nat → Int32 := if x < 0 then f else if x < 3 then upd f x.toNatClampNeg 1 else f
def agR (x : Int32) (f : Nat → Int32) : Int32 := if x < 0 then 0 else if 3 ≤ x then 0 else if f x.toNatClampNeg = 0 then 0 else 1
theorem nk_neg {x : Int32} (h : x < 0) (k : Nat) (hk : k < 3) : ¬ x = nI k := fun e => by rw [e] at h; exact nI_pos (by omega) h
theorem nk_big {x : Int32} (h : ¬ x < 3) (k : Nat) (hk : k < 3) : ¬ x = nI k := fun e => h (by rw [e]; exact nI_lt (b := 3) hk (by decide))
theorem nk_of {x : Int32} (h0 : ¬ x < 0) (h : x < 3) : ∃ k : Nat, k < 3 ∧ x = nI k := by
  obtain ⟨j, hj, rfl⟩ := nI_of h0
  exact ⟨j, (nI_ltI (b := 3) hj (by decide)).mp h, rfl⟩
theorem nk_ne {j k : Nat} (hj : j < 3) (hk : k < 3) (h : ¬ j = k) : ¬ nI j = nI k := fun e => h ((nI_eq (by omega) (by omega)).mp e)
theorem imgK_k {k : Nat} (hk : k < 3) (f : Nat → Int32) : imgK (nI k) f = upd f k 1 := by
  unfold imgK
  rw [if_neg (nI_pos (by omega)), if_pos (show nI k < 3 from nI_lt (b := 3) hk (by decide)), nI_clamp (by omega)]
theorem imgK_o {x : Int32} (h : ∀ k, k < 3 → ¬ x = nI k) (f : Nat → Int32) : imgK x f = f := by
  unfold imgK
  by_cases h0 : x < 0
  · rw [if_pos h0]
  · rw [if_neg h0]
    by_cases h1 : x < 3
    · obtain ⟨k, hk, e⟩ := nk_of h0 h1
      exact absurd e (h k hk)
    · rw [if_neg h1]
theorem agR_k {k : Nat} (hk : k < 3) (f : Nat → Int32) : agR (nI k) f = if f k = 0 then 0 else 1 := by
  unfold agR
  rw [if_neg (nI_pos (by omega)), if_neg (show ¬ (3 : Int32) ≤ nI k from nI_ge (b := 3) hk (by decide)), nI_clamp (by omega)]
theorem agR_o {x : Int32} (h : ∀ k, k < 3 → ¬ x = nI k) (f : Nat → Int32) : agR x f = 0 := by
  unfold agR
  by_cases h0 : x < 0
  · rw [if_pos h0]
  · rw [if_neg h0]
    by_cases h1 : (3 : Int32) ≤ x
    · rw [if_pos h1]
    · obtain ⟨k, hk, e⟩ := nk_of h0 (Int32.not_le.mp h1)
      exact absurd e (h k hk)
theorem agR_sk {f g : Nat → Int32} (h : SK f g) (x : Int32) : agR x f = agR x g := by
  by_cases c : ∃ k, k < 3 ∧ x = nI k
  · obtain ⟨k, hk, rfl⟩ := c
    rw [agR_k hk, agR_k hk, h k hk]
  · have c' : ∀ k, k < 3 → ¬ x = nI k := fun k hk e => c ⟨k, hk, e⟩
    rw [agR_o c', agR_o c']
theorem imgK_sk {f g : Nat → Int32} (h : SK f g) (x : Int32) : SK (imgK x f) (imgK x g) := by
  by_cases c : ∃ k, k < 3 ∧ x = nI k
  · obtain ⟨k, hk, rfl⟩ := c
    rw [imgK_k hk, imgK_k hk]
    intro j hj
    by_cases e : j = k
    · rw [e, upd_same, upd_same]
    · rw [upd_ne _ _ e, upd_ne _ _ e]; exact h j hj
  · have c' : ∀ k, k < 3 → ¬ x = nI k := fun k hk e => c ⟨k, hk, e⟩
    rw [imgK_o c', imgK_o c']; exact h
/-- a whole copied: its scheme, its text -/
def CW (p : SX5) (ro : Nat → Int32) (x : SX8) (xb : Nat → Int8) (p' : SX5) (ro' : Nat → Int32) (x' : SX8) (xb' : Nat → Int8) : Prop := p' = p ∧ (∀ j, j < 12 → ro' j = ro j) ∧ x' = x ∧ ∀ z, x.1 = nI z → z ≤ 300 → ∀ j, j < z → xb' j = xb j
def SL (c : Prop) (p : SX5) (ro : Nat → Int32) (x : SX8) (xb : Nat → Int8) (p0 : SX5) (ro0 : Nat → Int32) (x0 : SX8) (xb0 : Nat → Int8) (p' : SX5) (ro' : Nat → Int32) (x' : SX8) (xb' : Nat → Int8) : Prop := (c → CW p ro x xb p' ro' x' xb') ∧ (¬ c → p' = p0 ∧ ro' = ro0 ∧ x' = x0 ∧ xb' = xb0)
theorem SL.no {c : Prop} {p : SX5} {ro : Nat → Int32} {x : SX8} {xb : Nat → Int8} {p0 : SX5} {ro0 : Nat → Int32} {x0 : SX8} {xb0 : Nat → Int8} (h : ¬ c) : SL c p ro x xb p0 ro0 x0 xb0 p0 ro0 x0 xb0 := ⟨fun q => absurd q h, fun _ => ⟨rfl, rfl, rfl, rfl⟩⟩
theorem SL.yes {c : Prop} {p : SX5} {ro : Nat → Int32} {x : SX8} {xb : Nat → Int8} {p0 : SX5} {ro0 : Nat → Int32} {x0 : SX8} {xb0 : Nat → Int8} {p' : SX5} {ro' : Nat → Int32} {x' : SX8} {xb' : Nat → Int8} (h : c) (q : CW p ro x xb p' ro' x' xb') : SL c p ro x xb p0 ro0 x0 xb0 p' ro' x' xb' := ⟨fun _ => q, fun n => absurd h n⟩
theorem copy10_j (p : SX5) (ro : Nat → Int32) (x : SX8) (xb : Nat → Int8) (y z : Int32) (b : Nat → Int8) (g : SX6) (w : Nat → Int32) (s : SX4) (u : SX1) (r : Nat → Int32) (st : SX7) (e : SX0) (v : Nat → Int32) (p' : SX5) (ro' : Nat → Int32) (x' : SX8) (xb' : Nat → Int8) (y' z' : Int32) (b' : Nat → Int8) (g' : SX6) (w' : Nat → Int32) (s' : SX4) (u' : SX1) (r' : Nat → Int32) (st' : SX7) (e' : SX0) (v' : Nat → Int32) (h : WC p' x' y' z' st') : Tt (f_X10_copyFrom 4000 4000 p ro x xb y z b g w s u r st e v p' ro' x' xb' y' z' b' g' w' s' u' r' st' e' v') (fun q => CW p' ro' x' xb' q.1 q.2.1 q.2.2.1 q.2.2.2.1) := by
  obtain ⟨_, h2, _, hz, _⟩ := h
  obtain ⟨Z, hZ, hx⟩ := h2
  obtain ⟨x1, x2, x3⟩ := x'
  have hx : x1 = nI Z := hx
  subst hx
  unfold f_X10_copyFrom
  obtain ⟨xb2, k1, k2⟩ := xcopy_v x xb hZ x2 x3 xb'
  refine tt_b (show Tt (f_X5_copyFrom p ro p' ro') (fun q => q.1 = p' ∧ ∀ j, j < 12 → q.2 j = ro' j) from pcopy_r p ro p' ro') (fun q q1 => ?_)
  refine tt_b (show Tt (f_X8_copyFrom x xb (nI Z, x2, x3) xb') (fun q => q.1 = (nI Z, x2, x3) ∧ ∀ j, j < Z → q.2 j = xb' j) from ⟨_, k1, rfl, k2⟩) (fun q3 q2 => ?_)
  exact tt_b (copy9_s (n := 4000) (n0 := 4000) (by decide) (by decide) _ _ _ _ _ _ _ _ _ _ _ _ _ hz _ _ _ _ _ _ _ _ _) (fun _ _ => tt_r ⟨q1.1, q1.2, q2.1, fun z ez hz j hj => q2.2 j (by have := (nI_eq (by omega) (by omega)).mp ez; omega)⟩)
/-- one block of the reference's onto another -/
def BK (x0 x1 : Nat) (a : Nat → Int32) (tx : Nat → Int8) (a' : Nat → Int32) (tx' : Nat → Int8) : Prop := ((∀ j, j < 136 → a' (136 * x1 + j) = a (136 * x0 + j)) ∧ ∀ j, ¬ (136 * x1 ≤ j ∧ j < 136 * x1 + 136) → a' j = a j) ∧ (∀ j, j < 300 → tx' (300 * x1 + j) = tx (300 * x0 + j)) ∧ ∀ j, ¬ (300 * x1 ≤ j ∧ j < 300 * x1 + 300) → tx' j = tx j
theorem r_image_j (x0 : Int32) (s : SX12) (a : Nat → Int32) (ln tx : Nat → Int8) (sv : Nat → Int32) : Tt (f_X12_image x0 s a ln tx sv) (fun q => q.2.2.2.2.2 = imgK x0 sv ∧ (∀ k, k < 3 → x0 = nI k → BK 0 (k + 1) a tx q.2.2.1 q.2.2.2.2.1) ∧ ((∀ k, k < 3 → ¬ x0 = nI k) → q.2.2.1 = a ∧ q.2.2.2.2.1 = tx)) := by
  obtain ⟨ra, u, re, le, be, so, va, si, w, wa, bd, x⟩ := s
  unfold f_X12_image
  simp only []
  rw [in_val, bso]
  by_cases c0 : x0 < 0
  · have n := nk_neg c0
    rw [if_pos c0]
    exact tt_i (fun _ => tt_r ⟨(imgK_o n sv).symm, fun k hk e => absurd e (n k hk), fun _ => ⟨rfl, rfl⟩⟩) (fun c => absurd rfl c)
  by_cases c1 : x0 < 3
  · obtain ⟨k, hk, rfl⟩ := nk_of c0 c1
    rw [if_neg c0, if_neg (show ¬ (2 : Int32) < nI k from nI_nlt (b := k) (a := 2) (by omega) (by decide))]
    refine tt_i (fun c => absurd c (by decide)) (fun _ => ?_)
    rw [nI_1]
    refine tt_b (ca_x 0 (k + 1) (by omega) (by omega) (by omega) _ a ln tx) ?_
    rintro ⟨a1, ln1, tx1⟩ hq
    refine tt_ik k rfl (by omega) (by omega) (tt_r ⟨?_, fun j hj e => ?_, fun n => absurd rfl (n k hk)⟩)
    · show upd sv (nI k).toNatClampNeg 1 = imgK (nI k) sv
      rw [imgK_k hk, nI_clamp (by omega)]
    · have e := (nI_eq (by omega) (by omega)).mp e
      subst e
      exact hq
  · have n := nk_big c1
    rw [if_neg c0, if_pos (show (2 : Int32) < x0 by
      obtain ⟨j, hj, rfl⟩ := nI_of c0
      have : ¬ j < 3 := fun h => c1 (nI_lt (b := 3) h (by decide))
      exact nI_lt (a := 2) (by omega) hj)]
    exact tt_i (fun _ => tt_r ⟨(imgK_o n sv).symm, fun k hk e => absurd e (n k hk), fun _ => ⟨rfl, rfl⟩⟩) (fun c => absurd rfl c)
theorem r_again_j (x0 : Int32) (s : SX12) (a : Nat → Int32) (ln tx : Nat → Int8) (sv : Nat → Int32) : Tt (f_X12_again x0 s a ln tx sv) (fun q => q.1 = agR x0 sv ∧ (∀ k, k < 3 → x0 = nI k → ¬ sv k = 0 → BK (k + 1) 0 a tx q.2.2.1 q.2.2.2.2) ∧ ((∀ k, k < 3 → x0 = nI k → sv k = 0) → q.2.2.1 = a ∧ q.2.2.2.2 = tx)) := by
  obtain ⟨ra, u, re, le, be, so, va, si, w, wa, bd, x⟩ := s
  unfold f_X12_again
  simp only []
  rw [in_val, bso]
  by_cases c0 : x0 < 0
  · have n := nk_neg c0
    rw [if_pos c0]
    exact tt_i (fun _ => tt_r ⟨(agR_o n sv).symm, fun k hk e => absurd e (n k hk), fun _ => ⟨rfl, rfl⟩⟩) (fun c => absurd rfl c)
  by_cases c1 : x0 < 3
  · obtain ⟨k, hk, rfl⟩ := nk_of c0 c1
    rw [if_neg c0, if_neg (show ¬ (2 : Int32) < nI k from nI_nlt (b := k) (a := 2) (by omega) (by decide))]
    refine tt_i (fun c => absurd c (by decide)) (fun _ => tt_ik k rfl (by omega) (by omega) ?_)
    rw [nI_clamp (by omega), nI_1]
    refine tt_i (fun c2 => tt_r ⟨by rw [agR_k hk, if_pos c2], fun j hj e n => ?_, fun _ => ⟨rfl, rfl⟩⟩) (fun c2 => ?_)
    · have e := (nI_eq (by omega) (by omega)).mp e
      subst e
      exact absurd c2 n
    refine tt_b (ca_x (k + 1) 0 (by omega) (by omega) (by omega) _ a ln tx) ?_
    rintro ⟨a1, ln1, tx1⟩ hq
    refine tt_r ⟨by rw [agR_k hk, if_neg c2], fun j hj e _ => ?_, fun n => absurd (n k hk rfl) c2⟩
    have e := (nI_eq (by omega) (by omega)).mp e
    subst e
    exact hq
  · have n := nk_big c1
    rw [if_neg c0, if_pos (show (2 : Int32) < x0 by
      obtain ⟨j, hj, rfl⟩ := nI_of c0
      have : ¬ j < 3 := fun h => c1 (nI_lt (b := 3) h (by decide))
      exact nI_lt (a := 2) (by omega) hj)]
    exact tt_i (fun _ => tt_r ⟨(agR_o n sv).symm, fun k hk e => absurd e (n k hk), fun _ => ⟨rfl, rfl⟩⟩) (fun c => absurd rfl c)
theorem tt_and {α : Type} {A : Option α} {P Q : α → Prop} (h : Tt A P) (k : Tt A Q) : Tt A (fun q => P q ∧ Q q) := by
  obtain ⟨a, e, p⟩ := h
  obtain ⟨b, e2, q⟩ := k
  have : a = b := Option.some.inj (e.symm.trans e2)
  subst this
  exact ⟨a, e, p, q⟩
/-! The joint hypothesis over each call. -/
theorem KJ.image {i k : Nat} (hi : i < 3) (hk : k < 3) {x : SX8} {xb : Nat → Int8} {a : Nat → Int32} {tx : Nat → Int8} {sv : Nat → Int32} {p : SX5} {ro : Nat → Int32} {pi : SX5} {ri : Nat → Int32} {xi : SX8} {bi : Nat → Int8} {pi' : SX5} {ri' : Nat → Int32} {xi' : SX8} {bi' : Nat → Int8} {a' : Nat → Int32} {tx' : Nat → Int8} (h1 : JT x xb a 0 tx 0) (h : KJ i xi bi a tx sv) (s : SL (nI k = nI i) p ro x xb pi ri xi bi pi' ri' xi' bi') (bk : BK 0 (k + 1) a tx a' tx') : KJ i xi' bi' a' tx' (upd sv k 1) := by
  obtain ⟨⟨b1, b2⟩, b3, b4⟩ := bk
  by_cases e : k = i
  · subst e
    obtain ⟨-, -, s3, s4⟩ := s.1 rfl
    subst s3
    intro _
    refine JT.cw (JT.of h1 (fun j hj => ?_) (fun j hj => ?_)) s4
    · have := b1 (133 + j) (by omega)
      rw [Nat.add_assoc, this, Nat.mul_zero, Nat.add_assoc]
    · have := b3 j hj
      rw [this, Nat.mul_zero]
  · obtain ⟨-, -, s3, s4⟩ := s.2 (nk_ne hk hi e)
    subst s3; subst s4
    intro c
    rw [upd_ne _ _ (fun q => e q.symm)] at c
    exact (h c).of (fun j hj => b2 _ (by omega)) (fun j hj => b4 _ (by omega))
theorem JJ.image {x : SX8} {xb : Nat → Int8} {ik : Nat → Int32} {x0 : SX8} {b0 : Nat → Int8} {x1 : SX8} {b1 : Nat → Int8} {x2 : SX8} {b2 : Nat → Int8} {a : Nat → Int32} {tx : Nat → Int8} {sv : Nat → Int32} (h : JJ x xb ik x0 b0 x1 b1 x2 b2 a tx sv) {y : Int32} {ik' : Nat → Int32} {x0' : SX8} {b0' : Nat → Int8} {x1' : SX8} {b1' : Nat → Int8} {x2' : SX8} {b2' : Nat → Int8} {a' : Nat → Int32} {tx' : Nat → Int8} {sv' : Nat → Int32} {p p0 p1 p2 p0' p1' p2' : SX5} {ro r0 r1 r2 r0' r1' r2' : Nat → Int32}
    (e : ik' = imgK y ik) (s0 : SL (y = nI 0) p ro x xb p0 r0 x0 b0 p0' r0' x0' b0') (s1 : SL (y = nI 1) p ro x xb p1 r1 x1 b1 p1' r1' x1' b1') (s2 : SL (y = nI 2) p ro x xb p2 r2 x2 b2 p2' r2' x2' b2') (e' : sv' = imgK y sv) (bk : ∀ k, k < 3 → y = nI k → BK 0 (k + 1) a tx a' tx') (no : (∀ k, k < 3 → ¬ y = nI k) → a' = a ∧ tx' = tx) : JJ x xb ik' x0' b0' x1' b1' x2' b2' a' tx' sv' := by
  obtain ⟨h1, h2, h3, h4, h5⟩ := h
  have hs := imgK_sk h2 y
  rw [← e, ← e'] at hs
  by_cases c : ∃ k, k < 3 ∧ y = nI k
  · obtain ⟨k, hk, rfl⟩ := c
    have q := bk k hk rfl
    rw [imgK_k hk] at e'
    subst e'
    refine ⟨h1.of (fun j hj => q.1.2 _ (by omega)) (fun j hj => q.2.2 _ (by omega)), hs, KJ.image (by decide) hk h1 h3 s0 q, KJ.image (by decide) hk h1 h4 s1 q, KJ.image (by decide) hk h1 h5 s2 q⟩
  · have c' : ∀ k, k < 3 → ¬ y = nI k := fun k hk e => c ⟨k, hk, e⟩
    obtain ⟨rfl, rfl⟩ := no c'
    rw [imgK_o c'] at e'
    subst e'
    obtain ⟨-, -, rfl, rfl⟩ := s0.2 (c' 0 (by decide))
    obtain ⟨-, -, rfl, rfl⟩ := s1.2 (c' 1 (by decide))
    obtain ⟨-, -, rfl, rfl⟩ := s2.2 (c' 2 (by decide))
    exact ⟨h1, hs, h3, h4, h5⟩
theorem JJ.again {x : SX8} {xb : Nat → Int8} {ik : Nat → Int32} {x0 : SX8} {b0 : Nat → Int8} {x1 : SX8} {b1 : Nat → Int8} {x2 : SX8} {b2 : Nat → Int8} {a : Nat → Int32} {tx : Nat → Int8} {sv : Nat → Int32} (h : JJ x xb ik x0 b0 x1 b1 x2 b2 a tx sv) {y : Int32} {x' : SX8} {xb' : Nat → Int8} {a' : Nat → Int32} {tx' : Nat → Int8} {p p0 p1 p2 p' : SX5} {ro r0 r1 r2 ro' : Nat → Int32}
    (s0 : y = nI 0 → ¬ ik 0 = 0 → CW p0 r0 x0 b0 p' ro' x' xb') (s1 : y = nI 1 → ¬ ik 1 = 0 → CW p1 r1 x1 b1 p' ro' x' xb') (s2 : y = nI 2 → ¬ ik 2 = 0 → CW p2 r2 x2 b2 p' ro' x' xb') (s3 : (∀ k, k < 3 → y = nI k → ik k = 0) → p' = p ∧ ro' = ro ∧ x' = x ∧ xb' = xb) (bk : ∀ k, k < 3 → y = nI k → ¬ sv k = 0 → BK (k + 1) 0 a tx a' tx') (no : (∀ k, k < 3 → y = nI k → sv k = 0) → a' = a ∧ tx' = tx) : JJ x' xb' ik x0 b0 x1 b1 x2 b2 a' tx' sv := by
  obtain ⟨h1, h2, h3, h4, h5⟩ := h
  by_cases c : ∃ k, k < 3 ∧ y = nI k ∧ ¬ sv k = 0
  · obtain ⟨k, hk, rfl, hv⟩ := c
    have q := bk k hk rfl hv
    have hi : ¬ ik k = 0 := by rw [h2 k hk]; exact hv
    have go : ∀ {xk : SX8} {bk : Nat → Int8} {pk : SX5} {rk : Nat → Int32}, KJ k xk bk a tx sv → CW pk rk xk bk p' ro' x' xb' → JT x' xb' a' 0 tx' 0 := fun {xk bk pk rk} m w => by
      obtain ⟨-, -, w3, w4⟩ := w
      subst w3
      refine JT.cw (JT.of (m hv) (fun j hj => ?_) (fun j hj => ?_)) w4
      · have := q.1.1 (133 + j) (by omega)
        rw [Nat.mul_zero] at this
        rw [Nat.add_assoc, this, Nat.add_assoc]
      · have := q.2.1 j hj
        rw [Nat.mul_zero] at this
        exact this
    have n : JT x' xb' a' 0 tx' 0 := by
      rcases (show k = 0 ∨ k = 1 ∨ k = 2 by omega) with rfl | rfl | rfl
      · exact go h3 (s0 rfl hi)
      · exact go h4 (s1 rfl hi)
      · exact go h5 (s2 rfl hi)
    exact JJ.now ⟨h1, h2, h3, h4, h5⟩ n (fun j h1 _ => q.1.2 _ (by omega)) (fun j h1 => q.2.2 _ (by omega))
  · have c' : ∀ k, k < 3 → y = nI k → sv k = 0 := fun k hk e => Classical.not_not.mp (fun n => c ⟨k, hk, e, n⟩)
    obtain ⟨rfl, rfl⟩ := no c'
    obtain ⟨-, -, rfl, rfl⟩ := s3 (fun k hk e => by rw [h2 k hk]; exact c' k hk e)
    exact ⟨h1, h2, h3, h4, h5⟩
theorem fault_k {x : SX8} {xb : Nat → Int8} {a : Nat → Int32} {tx : Nat → Int8} (h : JT x xb a 0 tx 0) (x0 : Int32) (sc : Int32) : Tt (f_X11_fault x0 sc x) (fun q => q = if x0 = 0 then a 134 else a 135) := by
  obtain ⟨Z, hZ, rfl, hz, ht⟩ := h
  unfold f_X11_fault
  simp only []
  by_cases c : x0 = 0
  · rw [if_pos c]
    exact tt_r (if_pos c).symm
  · rw [if_neg c]
    exact tt_r (if_neg c).symm
theorem fault_r (x0 : Int32) (s : SX12) (a : Nat → Int32) : Tt (f_X12_fault x0 s a) (fun q => q.1 = if x0 = 0 then a 134 else a 135) := by
  obtain ⟨ra, u, re, le, be, so, va, si, w, wa, bd, x12⟩ := s
  unfold f_X12_fault
  simp only []
  by_cases c : x0 = 0
  · rw [if_pos c]
    exact tt_r (if_pos c).symm
  · rw [if_neg c]
    exact tt_r (if_neg c).symm
theorem scheme_j {x : SX8} {xb : Nat → Int8} {a : Nat → Int32} {tx : Nat → Int8} (h : JT x xb a 0 tx 0) (ac : Int32) (pn : SX5) (rn : Nat → Int32) (h9 z9 : Int32) (g9 : SX6) (s9 : SX4) (u9 : SX1) (r9 : Nat → Int32) (st9 : SX7) (e9 : SX0) (rd : SX3) (told : SX5) (trol : Nat → Int32) (rx : SX8) (rb : Nat → Int8) (s12 : SX12) (tl : Nat → Int32) : Tt (f_X11_scheme ac pn rn x xb h9 z9 g9 s9 u9 r9 st9 e9 rd told trol rx rb) (fun q => Tt (f_X12_scheme s12 a tx tl) (fun q2 => q.1 = q2.1 ∧ (∀ xb2 : Nat → Int8, JT q.2.2.2.2.1 xb2 q2.2.2.1 0 tx 0) ∧
    ((q2.2.2.1 134 = 0 ∧ TR q.2.2.1 q.2.2.2.1 q2.2.2.1) ∨ (¬ q2.2.2.1 134 = 0 ∧ q.2.2.1 = pn ∧ q.2.2.2.1 = rn ∧ (∀ j, j < 133 → q2.2.2.1 j = a j) ∧ q2.1 = -1)))) := by
  obtain ⟨Z, hZ, rfl, hz, ht⟩ := h
  have ht : ∀ j, j < Z → tx j = xb j := fun j hj => by have h := ht j hj; rw [Nat.zero_add] at h; exact h
  obtain ⟨q, q2, k1, k2, k3, k4, k5, k6⟩ := pe_scheme hZ ht ac pn rn (a 134) (a 135) h9 z9 g9 s9 u9 r9 st9 e9 rd told trol rx rb s12 a tl hz
  exact ⟨q, k1, q2, k2, k3, fun xb2 => ⟨0, by decide, k4, k5, fun j hj => absurd hj (by omega)⟩, k6⟩
set_option maxHeartbeats 4000000 in
set_option maxRecDepth 100000 in
theorem image_j {x0 : Int32} {s_this : Int32} {s_this_now_plan : SX5} {r_this_now_plan_roles : Nat → Int32} {s_this_now_text : SX8} {r_this_now_text_bytes : Nat → Int8} {s_this_now_trunk : Int32} {s_this_now_trunk_line : Int32} {r_this_now_trunk_line_bits : Nat → Int8} {s_this_now_trunk_sender : SX6} {r_this_now_trunk_sender_values : Nat → Int32} {s_this_now_trunk_receiver : SX4} {s_this_now_trunk_receiver_hunt : SX1} {r_this_now_trunk_receiver_hunt_rows : Nat → Int32} {s_this_now_trunk_receiver_store : SX7} {s_this_now_trunk_receiver_ear : SX0} {r_this_now_trunk_receiver_ear_values : Nat → Int32} {s_this_kept_0_plan : SX5} {r_this_kept_0_plan_roles : Nat → Int32} {s_this_kept_0_text : SX8} {r_this_kept_0_text_bytes : Nat → Int8} {s_this_kept_0_trunk : Int32} {s_this_kept_0_trunk_line : Int32} {r_this_kept_0_trunk_line_bits : Nat → Int8} {s_this_kept_0_trunk_sender : SX6} {r_this_kept_0_trunk_sender_values : Nat → Int32} {s_this_kept_0_trunk_receiver : SX4} {s_this_kept_0_trunk_receiver_hunt : SX1} {r_this_kept_0_trunk_receiver_hunt_rows : Nat → Int32} {s_this_kept_0_trunk_receiver_store : SX7} {s_this_kept_0_trunk_receiver_ear : SX0} {r_this_kept_0_trunk_receiver_ear_values : Nat → Int32} {s_this_kept_1_plan : SX5} {r_this_kept_1_plan_roles : Nat → Int32} {s_this_kept_1_text : SX8} {r_this_kept_1_text_bytes : Nat → Int8} {s_this_kept_1_trunk : Int32} {s_this_kept_1_trunk_line : Int32} {r_this_kept_1_trunk_line_bits : Nat → Int8} {s_this_kept_1_trunk_sender : SX6} {r_this_kept_1_trunk_sender_values : Nat → Int32} {s_this_kept_1_trunk_receiver : SX4} {s_this_kept_1_trunk_receiver_hunt : SX1} {r_this_kept_1_trunk_receiver_hunt_rows : Nat → Int32} {s_this_kept_1_trunk_receiver_store : SX7} {s_this_kept_1_trunk_receiver_ear : SX0} {r_this_kept_1_trunk_receiver_ear_values : Nat → Int32} {s_this_kept_2_plan : SX5} {r_this_kept_2_plan_roles : Nat → Int32} {s_this_kept_2_text : SX8} {r_this_kept_2_text_bytes : Nat → Int8} {s_this_kept_2_trunk : Int32} {s_this_kept_2_trunk_line : Int32} {r_this_kept_2_trunk_line_bits : Nat → Int8} {s_this_kept_2_trunk_sender : SX6} {r_this_kept_2_trunk_sender_values : Nat → Int32} {s_this_kept_2_trunk_receiver : SX4} {s_this_kept_2_trunk_receiver_hunt : SX1} {r_this_kept_2_trunk_receiver_hunt_rows : Nat → Int32} {s_this_kept_2_trunk_receiver_store : SX7} {s_this_kept_2_trunk_receiver_ear : SX0} {r_this_kept_2_trunk_receiver_ear_values : Nat → Int32} {r_this_isKept : Nat → Int32} (hP : PS s_this_now_plan) (hX : ZT s_this_now_text) (hN : TRK s_this_now_trunk s_this_now_trunk_line s_this_now_trunk_receiver_store) (kP0 : PS s_this_kept_0_plan) (kX0 : ZT s_this_kept_0_text) (kN0 : TRK s_this_kept_0_trunk s_this_kept_0_trunk_line s_this_kept_0_trunk_receiver_store) (kP1 : PS s_this_kept_1_plan) (kX1 : ZT s_this_kept_1_text) (kN1 : TRK s_this_kept_1_trunk s_this_kept_1_trunk_line s_this_kept_1_trunk_receiver_store) (kP2 : PS s_this_kept_2_plan) (kX2 : ZT s_this_kept_2_text) (kN2 : TRK s_this_kept_2_trunk s_this_kept_2_trunk_line s_this_kept_2_trunk_receiver_store) : Tt (f_X11_image 4000 4000 4000 4000 x0 s_this s_this_now_plan r_this_now_plan_roles s_this_now_text r_this_now_text_bytes s_this_now_trunk s_this_now_trunk_line r_this_now_trunk_line_bits s_this_now_trunk_sender r_this_now_trunk_sender_values s_this_now_trunk_receiver s_this_now_trunk_receiver_hunt r_this_now_trunk_receiver_hunt_rows s_this_now_trunk_receiver_store s_this_now_trunk_receiver_ear r_this_now_trunk_receiver_ear_values s_this_kept_0_plan r_this_kept_0_plan_roles s_this_kept_0_text r_this_kept_0_text_bytes s_this_kept_0_trunk s_this_kept_0_trunk_line r_this_kept_0_trunk_line_bits s_this_kept_0_trunk_sender r_this_kept_0_trunk_sender_values s_this_kept_0_trunk_receiver s_this_kept_0_trunk_receiver_hunt r_this_kept_0_trunk_receiver_hunt_rows s_this_kept_0_trunk_receiver_store s_this_kept_0_trunk_receiver_ear r_this_kept_0_trunk_receiver_ear_values s_this_kept_1_plan r_this_kept_1_plan_roles s_this_kept_1_text r_this_kept_1_text_bytes s_this_kept_1_trunk s_this_kept_1_trunk_line r_this_kept_1_trunk_line_bits s_this_kept_1_trunk_sender r_this_kept_1_trunk_sender_values s_this_kept_1_trunk_receiver s_this_kept_1_trunk_receiver_hunt r_this_kept_1_trunk_receiver_hunt_rows s_this_kept_1_trunk_receiver_store s_this_kept_1_trunk_receiver_ear r_this_kept_1_trunk_receiver_ear_values s_this_kept_2_plan r_this_kept_2_plan_roles s_this_kept_2_text r_this_kept_2_text_bytes s_this_kept_2_trunk s_this_kept_2_trunk_line r_this_kept_2_trunk_line_bits s_this_kept_2_trunk_sender r_this_kept_2_trunk_sender_values s_this_kept_2_trunk_receiver s_this_kept_2_trunk_receiver_hunt r_this_kept_2_trunk_receiver_hunt_rows s_this_kept_2_trunk_receiver_store s_this_kept_2_trunk_receiver_ear r_this_kept_2_trunk_receiver_ear_values r_this_isKept) (fun q => q.2.2.2.2.2.2.2.2.2.2.2.2.2.2.2.2.2.2.2.2.2.2.2.2.2.2.2.2.2.2.2.2.2.2.2.2.2.2.2.2.2.2.2.2.2.2 = imgK x0 r_this_isKept ∧ SL (x0 = nI 0) s_this_now_plan r_this_now_plan_roles s_this_now_text r_this_now_text_bytes s_this_kept_0_plan r_this_kept_0_plan_roles s_this_kept_0_text r_this_kept_0_text_bytes q.2.1 q.2.2.1 q.2.2.2.1 q.2.2.2.2.1 ∧ SL (x0 = nI 1) s_this_now_plan r_this_now_plan_roles s_this_now_text r_this_now_text_bytes s_this_kept_1_plan r_this_kept_1_plan_roles s_this_kept_1_text r_this_kept_1_text_bytes q.2.2.2.2.2.2.2.2.2.2.2.2.2.2.2.2.1 q.2.2.2.2.2.2.2.2.2.2.2.2.2.2.2.2.2.1 q.2.2.2.2.2.2.2.2.2.2.2.2.2.2.2.2.2.2.1 q.2.2.2.2.2.2.2.2.2.2.2.2.2.2.2.2.2.2.2.1 ∧ SL (x0 = nI 2) s_this_now_plan r_this_now_plan_roles s_this_now_text r_this_now_text_bytes s_this_kept_2_plan r_this_kept_2_plan_roles s_this_kept_2_text r_this_kept_2_text_bytes q.2.2.2.2.2.2.2.2.2.2.2.2.2.2.2.2.2.2.2.2.2.2.2.2.2.2.2.2.2.2.2.1 q.2.2.2.2.2.2.2.2.2.2.2.2.2.2.2.2.2.2.2.2.2.2.2.2.2.2.2.2.2.2.2.2.1 q.2.2.2.2.2.2.2.2.2.2.2.2.2.2.2.2.2.2.2.2.2.2.2.2.2.2.2.2.2.2.2.2.2.1 q.2.2.2.2.2.2.2.2.2.2.2.2.2.2.2.2.2.2.2.2.2.2.2.2.2.2.2.2.2.2.2.2.2.2.1) := by
  unfold f_X11_image imgK
  refine tt_i (fun c0 => tt_r ⟨(if_pos c0).symm, SL.no (nk_neg c0 0 (by decide)), SL.no (nk_neg c0 1 (by decide)), SL.no (nk_neg c0 2 (by decide))⟩) (fun c0 => tt_i (fun c1 => ?_) (fun c1 => tt_r ⟨((if_neg c0).trans (if_neg c1)).symm, SL.no (nk_big c1 0 (by decide)), SL.no (nk_big c1 1 (by decide)), SL.no (nk_big c1 2 (by decide))⟩))
  have ev : upd r_this_isKept x0.toNatClampNeg 1 = (if x0 < 0 then r_this_isKept else if x0 < 3 then upd r_this_isKept x0.toNatClampNeg 1 else r_this_isKept) := ((if_neg c0).trans (if_pos c1)).symm
  have hi : vp_in x0 3 := vin2 c0 c1 (by decide)
  refine tt_i (fun f0 => ?_) (fun g0 => ?_)
  · have f0 : x0 = nI 0 := f0
    refine tt_b (copy10_j _ _ _ _ _ _ _ _ _ _ _ _ _ _ _ _ _ _ _ _ _ _ _ _ _ _ _ _ _ _ ⟨hP, hX, hN.1, hN.2.1, hN.2.2⟩) (fun q hq => ?_)
    obtain ⟨q0, q1, q2, q3, q4, q5, q6, q7, q8, q9, q10, q11, q12, q13, q14⟩ := q
    exact tt_in hi (tt_r ⟨ev, SL.yes f0 hq, SL.no (fun e => nk_ne (j := 0) (k := 1) (by decide) (by decide) (by decide) (f0.symm.trans e)), SL.no (fun e => nk_ne (j := 0) (k := 2) (by decide) (by decide) (by decide) (f0.symm.trans e))⟩)
  refine tt_i (fun f1 => ?_) (fun g1 => ?_)
  · have f1 : x0 = nI 1 := f1
    refine tt_b (copy10_j _ _ _ _ _ _ _ _ _ _ _ _ _ _ _ _ _ _ _ _ _ _ _ _ _ _ _ _ _ _ ⟨hP, hX, hN.1, hN.2.1, hN.2.2⟩) (fun q hq => ?_)
    obtain ⟨q0, q1, q2, q3, q4, q5, q6, q7, q8, q9, q10, q11, q12, q13, q14⟩ := q
    exact tt_in hi (tt_r ⟨ev, SL.no (fun e => nk_ne (j := 1) (k := 0) (by decide) (by decide) (by decide) (f1.symm.trans e)), SL.yes f1 hq, SL.no (fun e => nk_ne (j := 1) (k := 2) (by decide) (by decide) (by decide) (f1.symm.trans e))⟩)
  refine tt_i (fun f2 => ?_) (fun g2 => ?_)
  · have f2 : x0 = nI 2 := f2
    refine tt_b (copy10_j _ _ _ _ _ _ _ _ _ _ _ _ _ _ _ _ _ _ _ _ _ _ _ _ _ _ _ _ _ _ ⟨hP, hX, hN.1, hN.2.1, hN.2.2⟩) (fun q hq => ?_)
    obtain ⟨q0, q1, q2, q3, q4, q5, q6, q7, q8, q9, q10, q11, q12, q13, q14⟩ := q
    exact tt_in hi (tt_r ⟨ev, SL.no (fun e => nk_ne (j := 2) (k := 0) (by decide) (by decide) (by decide) (f2.symm.trans e)), SL.no (fun e => nk_ne (j := 2) (k := 1) (by decide) (by decide) (by decide) (f2.symm.trans e)), SL.yes f2 hq⟩)
  exfalso
  obtain ⟨j, hj, rfl⟩ := nk_of c0 c1
  rcases (show j = 0 ∨ j = 1 ∨ j = 2 by omega) with rfl | rfl | rfl
  · exact g0 rfl
  · exact g1 rfl
  · exact g2 rfl
set_option maxHeartbeats 4000000 in
set_option maxRecDepth 100000 in
theorem again_j {x0 : Int32} {s_this : Int32} {s_this_now_plan : SX5} {r_this_now_plan_roles : Nat → Int32} {s_this_now_text : SX8} {r_this_now_text_bytes : Nat → Int8} {s_this_now_trunk : Int32} {s_this_now_trunk_line : Int32} {r_this_now_trunk_line_bits : Nat → Int8} {s_this_now_trunk_sender : SX6} {r_this_now_trunk_sender_values : Nat → Int32} {s_this_now_trunk_receiver : SX4} {s_this_now_trunk_receiver_hunt : SX1} {r_this_now_trunk_receiver_hunt_rows : Nat → Int32} {s_this_now_trunk_receiver_store : SX7} {s_this_now_trunk_receiver_ear : SX0} {r_this_now_trunk_receiver_ear_values : Nat → Int32} {s_this_kept_0_plan : SX5} {r_this_kept_0_plan_roles : Nat → Int32} {s_this_kept_0_text : SX8} {r_this_kept_0_text_bytes : Nat → Int8} {s_this_kept_0_trunk : Int32} {s_this_kept_0_trunk_line : Int32} {r_this_kept_0_trunk_line_bits : Nat → Int8} {s_this_kept_0_trunk_sender : SX6} {r_this_kept_0_trunk_sender_values : Nat → Int32} {s_this_kept_0_trunk_receiver : SX4} {s_this_kept_0_trunk_receiver_hunt : SX1} {r_this_kept_0_trunk_receiver_hunt_rows : Nat → Int32} {s_this_kept_0_trunk_receiver_store : SX7} {s_this_kept_0_trunk_receiver_ear : SX0} {r_this_kept_0_trunk_receiver_ear_values : Nat → Int32} {s_this_kept_1_plan : SX5} {r_this_kept_1_plan_roles : Nat → Int32} {s_this_kept_1_text : SX8} {r_this_kept_1_text_bytes : Nat → Int8} {s_this_kept_1_trunk : Int32} {s_this_kept_1_trunk_line : Int32} {r_this_kept_1_trunk_line_bits : Nat → Int8} {s_this_kept_1_trunk_sender : SX6} {r_this_kept_1_trunk_sender_values : Nat → Int32} {s_this_kept_1_trunk_receiver : SX4} {s_this_kept_1_trunk_receiver_hunt : SX1} {r_this_kept_1_trunk_receiver_hunt_rows : Nat → Int32} {s_this_kept_1_trunk_receiver_store : SX7} {s_this_kept_1_trunk_receiver_ear : SX0} {r_this_kept_1_trunk_receiver_ear_values : Nat → Int32} {s_this_kept_2_plan : SX5} {r_this_kept_2_plan_roles : Nat → Int32} {s_this_kept_2_text : SX8} {r_this_kept_2_text_bytes : Nat → Int8} {s_this_kept_2_trunk : Int32} {s_this_kept_2_trunk_line : Int32} {r_this_kept_2_trunk_line_bits : Nat → Int8} {s_this_kept_2_trunk_sender : SX6} {r_this_kept_2_trunk_sender_values : Nat → Int32} {s_this_kept_2_trunk_receiver : SX4} {s_this_kept_2_trunk_receiver_hunt : SX1} {r_this_kept_2_trunk_receiver_hunt_rows : Nat → Int32} {s_this_kept_2_trunk_receiver_store : SX7} {s_this_kept_2_trunk_receiver_ear : SX0} {r_this_kept_2_trunk_receiver_ear_values : Nat → Int32} {r_this_isKept : Nat → Int32} (hP : PS s_this_now_plan) (hX : ZT s_this_now_text) (hN : TRK s_this_now_trunk s_this_now_trunk_line s_this_now_trunk_receiver_store) (kP0 : PS s_this_kept_0_plan) (kX0 : ZT s_this_kept_0_text) (kN0 : TRK s_this_kept_0_trunk s_this_kept_0_trunk_line s_this_kept_0_trunk_receiver_store) (kP1 : PS s_this_kept_1_plan) (kX1 : ZT s_this_kept_1_text) (kN1 : TRK s_this_kept_1_trunk s_this_kept_1_trunk_line s_this_kept_1_trunk_receiver_store) (kP2 : PS s_this_kept_2_plan) (kX2 : ZT s_this_kept_2_text) (kN2 : TRK s_this_kept_2_trunk s_this_kept_2_trunk_line s_this_kept_2_trunk_receiver_store) : Tt (f_X11_again 4000 4000 4000 4000 x0 s_this s_this_now_plan r_this_now_plan_roles s_this_now_text r_this_now_text_bytes s_this_now_trunk s_this_now_trunk_line r_this_now_trunk_line_bits s_this_now_trunk_sender r_this_now_trunk_sender_values s_this_now_trunk_receiver s_this_now_trunk_receiver_hunt r_this_now_trunk_receiver_hunt_rows s_this_now_trunk_receiver_store s_this_now_trunk_receiver_ear r_this_now_trunk_receiver_ear_values s_this_kept_0_plan r_this_kept_0_plan_roles s_this_kept_0_text r_this_kept_0_text_bytes s_this_kept_0_trunk s_this_kept_0_trunk_line r_this_kept_0_trunk_line_bits s_this_kept_0_trunk_sender r_this_kept_0_trunk_sender_values s_this_kept_0_trunk_receiver s_this_kept_0_trunk_receiver_hunt r_this_kept_0_trunk_receiver_hunt_rows s_this_kept_0_trunk_receiver_store s_this_kept_0_trunk_receiver_ear r_this_kept_0_trunk_receiver_ear_values s_this_kept_1_plan r_this_kept_1_plan_roles s_this_kept_1_text r_this_kept_1_text_bytes s_this_kept_1_trunk s_this_kept_1_trunk_line r_this_kept_1_trunk_line_bits s_this_kept_1_trunk_sender r_this_kept_1_trunk_sender_values s_this_kept_1_trunk_receiver s_this_kept_1_trunk_receiver_hunt r_this_kept_1_trunk_receiver_hunt_rows s_this_kept_1_trunk_receiver_store s_this_kept_1_trunk_receiver_ear r_this_kept_1_trunk_receiver_ear_values s_this_kept_2_plan r_this_kept_2_plan_roles s_this_kept_2_text r_this_kept_2_text_bytes s_this_kept_2_trunk s_this_kept_2_trunk_line r_this_kept_2_trunk_line_bits s_this_kept_2_trunk_sender r_this_kept_2_trunk_sender_values s_this_kept_2_trunk_receiver s_this_kept_2_trunk_receiver_hunt r_this_kept_2_trunk_receiver_hunt_rows s_this_kept_2_trunk_receiver_store s_this_kept_2_trunk_receiver_ear r_this_kept_2_trunk_receiver_ear_values r_this_isKept) (fun q => q.1 = agR x0 r_this_isKept ∧ (x0 = nI 0 → ¬ r_this_isKept 0 = 0 → CW s_this_kept_0_plan r_this_kept_0_plan_roles s_this_kept_0_text r_this_kept_0_text_bytes q.2.2.1 q.2.2.2.1 q.2.2.2.2.1 q.2.2.2.2.2.1) ∧ (x0 = nI 1 → ¬ r_this_isKept 1 = 0 → CW s_this_kept_1_plan r_this_kept_1_plan_roles s_this_kept_1_text r_this_kept_1_text_bytes q.2.2.1 q.2.2.2.1 q.2.2.2.2.1 q.2.2.2.2.2.1) ∧ (x0 = nI 2 → ¬ r_this_isKept 2 = 0 → CW s_this_kept_2_plan r_this_kept_2_plan_roles s_this_kept_2_text r_this_kept_2_text_bytes q.2.2.1 q.2.2.2.1 q.2.2.2.2.1 q.2.2.2.2.2.1) ∧ ((∀ k, k < 3 → x0 = nI k → r_this_isKept k = 0) → q.2.2.1 = s_this_now_plan ∧ q.2.2.2.1 = r_this_now_plan_roles ∧ q.2.2.2.2.1 = s_this_now_text ∧ q.2.2.2.2.2.1 = r_this_now_text_bytes)) := by
  unfold f_X11_again agR
  refine tt_i (fun c0 => tt_r ⟨(if_pos c0).symm, fun e _ => absurd e (nk_neg c0 0 (by decide)), fun e _ => absurd e (nk_neg c0 1 (by decide)), fun e _ => absurd e (nk_neg c0 2 (by decide)), fun _ => ⟨rfl, rfl, rfl, rfl⟩⟩) (fun c0 => tt_i (fun c1 => tt_r ⟨((if_neg c0).trans (if_pos c1)).symm, fun e _ => absurd e (nk_big (Int32.not_lt.mpr c1) 0 (by decide)), fun e _ => absurd e (nk_big (Int32.not_lt.mpr c1) 1 (by decide)), fun e _ => absurd e (nk_big (Int32.not_lt.mpr c1) 2 (by decide)), fun _ => ⟨rfl, rfl, rfl, rfl⟩⟩) (fun c1 => ?_))
  have hi : vp_in x0 3 := vin c0 c1 (by decide)
  obtain ⟨k, hk, rfl⟩ := nk_of c0 (Int32.not_le.mp c1)
  rw [if_neg c0, if_neg c1, nI_clamp (show k < 2 ^ 31 by omega)]
  refine tt_in hi (tt_i (fun v => tt_r ⟨(if_pos v).symm, fun e n => by have e := (nI_eq (by omega) (by omega)).mp e; subst e; exact absurd v n, fun e n => by have e := (nI_eq (by omega) (by omega)).mp e; subst e; exact absurd v n, fun e n => by have e := (nI_eq (by omega) (by omega)).mp e; subst e; exact absurd v n, fun _ => ⟨rfl, rfl, rfl, rfl⟩⟩) (fun v => ?_))
  have ev : (1 : Int32) = (if r_this_isKept k = 0 then 0 else 1) := (if_neg v).symm
  refine tt_i (fun f0 => ?_) (fun g0 => ?_)
  · have f0 : nI k = nI 0 := f0
    have f0 := (nI_eq (by omega) (by omega)).mp f0
    subst f0
    refine tt_b (copy10_j _ _ _ _ _ _ _ _ _ _ _ _ _ _ _ _ _ _ _ _ _ _ _ _ _ _ _ _ _ _ ⟨kP0, kX0, kN0.1, kN0.2.1, kN0.2.2⟩) (fun q hq => ?_)
    obtain ⟨q0, q1, q2, q3, q4, q5, q6, q7, q8, q9, q10, q11, q12, q13, q14⟩ := q
    exact tt_r ⟨ev, fun _ _ => hq, fun e _ => absurd e (nk_ne (by decide) (by decide) (by decide)), fun e _ => absurd e (nk_ne (by decide) (by decide) (by decide)), fun n => absurd (n 0 (by decide) rfl) v⟩
  refine tt_i (fun f1 => ?_) (fun g1 => ?_)
  · have f1 : nI k = nI 1 := f1
    have f1 := (nI_eq (by omega) (by omega)).mp f1
    subst f1
    refine tt_b (copy10_j _ _ _ _ _ _ _ _ _ _ _ _ _ _ _ _ _ _ _ _ _ _ _ _ _ _ _ _ _ _ ⟨kP1, kX1, kN1.1, kN1.2.1, kN1.2.2⟩) (fun q hq => ?_)
    obtain ⟨q0, q1, q2, q3, q4, q5, q6, q7, q8, q9, q10, q11, q12, q13, q14⟩ := q
    exact tt_r ⟨ev, fun e _ => absurd e (nk_ne (by decide) (by decide) (by decide)), fun _ _ => hq, fun e _ => absurd e (nk_ne (by decide) (by decide) (by decide)), fun n => absurd (n 1 (by decide) rfl) v⟩
  refine tt_i (fun f2 => ?_) (fun g2 => ?_)
  · have f2 : nI k = nI 2 := f2
    have f2 := (nI_eq (by omega) (by omega)).mp f2
    subst f2
    refine tt_b (copy10_j _ _ _ _ _ _ _ _ _ _ _ _ _ _ _ _ _ _ _ _ _ _ _ _ _ _ _ _ _ _ ⟨kP2, kX2, kN2.1, kN2.2.1, kN2.2.2⟩) (fun q hq => ?_)
    obtain ⟨q0, q1, q2, q3, q4, q5, q6, q7, q8, q9, q10, q11, q12, q13, q14⟩ := q
    exact tt_r ⟨ev, fun e _ => absurd e (nk_ne (by decide) (by decide) (by decide)), fun e _ => absurd e (nk_ne (by decide) (by decide) (by decide)), fun _ _ => hq, fun n => absurd (n 2 (by decide) rfl) v⟩
  exfalso
  rcases (show k = 0 ∨ k = 1 ∨ k = 2 by omega) with rfl | rfl | rfl
  · exact g0 rfl
  · exact g1 rfl
  · exact g2 rfl
set_option maxRecDepth 100000 in
theorem rj_ahead {x0 : Int32} {x1 : Int32} {x2 : Int32} {s_this : SX12} {r_this_all : Nat → Int32} {r_this_line : Nat → Int8} {r_this_undone : Nat → Int32} {r_this_saved : Nat → Int32} (rM : RI s_this.2.1 r_this_all r_this_undone r_this_saved) : Tt (f_X12_ahead x0 x1 x2 s_this r_this_all r_this_line) (fun q => RI q.2.1.2.1 q.2.2.1 r_this_undone r_this_saved ∧ TX q.2.2.1 r_this_all) := by
  exact tt_m (ahe_t _ _ _ _ _ rM.1.1 _) (fun q hq => by
    obtain ⟨h1, h2⟩ := hq
    rw [show _ = s_this.2.1 from h1]
    exact ⟨rM.same h2, fun j _ h => h2 j h⟩)
set_option maxRecDepth 100000 in
theorem rj_locks {x0 : Int32} {s_this : SX12} {r_this_all : Nat → Int32} {r_this_line : Nat → Int8} {r_this_undone : Nat → Int32} {r_this_saved : Nat → Int32} (rM : RI s_this.2.1 r_this_all r_this_undone r_this_saved) : Tt (f_X12_locks x0 s_this r_this_all r_this_line) (fun q => RI q.2.1.2.1 q.2.2 r_this_undone r_this_saved ∧ TX q.2.2 r_this_all) := by
  exact tt_m (loc_t _ _ _ rM.1.1 _) (fun q hq => by
    obtain ⟨h1, h2⟩ := hq
    rw [show _ = s_this.2.1 from h1]
    exact ⟨rM.same h2, fun j _ h => h2 j h⟩)
set_option maxRecDepth 100000 in
theorem rj_from {x0 : Int32} {x1 : Int32} {s_this : SX12} {r_this_all : Nat → Int32} {r_this_line : Nat → Int8} {r_this_undone : Nat → Int32} {r_this_saved : Nat → Int32} (rM : RI s_this.2.1 r_this_all r_this_undone r_this_saved) : Tt (f_X12_from x0 x1 s_this r_this_all r_this_line) (fun q => RI q.2.1.2.1 q.2.2 r_this_undone r_this_saved ∧ TX q.2.2 r_this_all) := by
  exact tt_m (fro_t _ _ _ _ rM.1.1 _) (fun q hq => by
    obtain ⟨h1, h2⟩ := hq
    rw [show _ = s_this.2.1 from h1]
    exact ⟨rM.same h2, fun j _ h => h2 j h⟩)
set_option maxRecDepth 100000 in
theorem rj_least {x0 : Int32} {s_this : SX12} {r_this_all : Nat → Int32} {r_this_line : Nat → Int8} {r_this_undone : Nat → Int32} {r_this_saved : Nat → Int32} (rM : RI s_this.2.1 r_this_all r_this_undone r_this_saved) : Tt (f_X12_least x0 s_this r_this_all r_this_line) (fun q => RI q.2.1.2.1 q.2.2 r_this_undone r_this_saved ∧ TX q.2.2 r_this_all) := by
  exact tt_m (lea_t _ _ _ rM.1.1 _) (fun q hq => by
    obtain ⟨h1, h2⟩ := hq
    rw [show _ = s_this.2.1 from h1]
    exact ⟨rM.same h2, fun j _ h => h2 j h⟩)
set_option maxRecDepth 100000 in
theorem rj_weak {s_this : SX12} {r_this_all : Nat → Int32} {r_this_line : Nat → Int8} {r_this_undone : Nat → Int32} {r_this_saved : Nat → Int32} (rM : RI s_this.2.1 r_this_all r_this_undone r_this_saved) : Tt (f_X12_weak s_this r_this_all r_this_line) (fun q => RI q.2.1.2.1 q.2.2.1 r_this_undone r_this_saved ∧ TX q.2.2.1 r_this_all) := by
  exact tt_m (wea_t _ _ rM.1.1 _) (fun q hq => by
    obtain ⟨h1, h2⟩ := hq
    rw [show _ = s_this.2.1 from h1]
    exact ⟨rM.same h2, fun j _ h => h2 j h⟩)
set_option maxRecDepth 100000 in
theorem rj_say {x0 : Int32} {s_this : SX12} {r_this_all : Nat → Int32} {r_this_line : Nat → Int8} {r_this_undone : Nat → Int32} {r_this_undoneLine : Nat → Int8} {r_this_saved : Nat → Int32} (rM : RI s_this.2.1 r_this_all r_this_undone r_this_saved) : Tt (f_X12_say x0 s_this r_this_all r_this_line r_this_undone r_this_undoneLine) (fun q => RI q.2.1.2.1 q.2.2.1 q.2.2.2.1 r_this_saved ∧ TX q.2.2.1 r_this_all) := by
  obtain ⟨s1, s2, s3, s4, s5, s6, s7, s8, s9, s10, s11, s12⟩ := s_this
  obtain ⟨u, hu, hK⟩ := id rM.2.1
  have hu : s2 = nI u := hu
  subst hu
  exact tt_m (say_t _ _ _ _ _ _ _ _ _ _ _ _ _ _ _ _ _ rM.1.1 hK) (fun q hq => ⟨rM.act hq, fun j h _ => hq.2.2 j h⟩)
set_option maxRecDepth 100000 in
theorem rj_send {x0 : Int32} {x1 : Int32} {s_this : SX12} {r_this_all : Nat → Int32} {r_this_line : Nat → Int8} {r_this_undone : Nat → Int32} {r_this_undoneLine : Nat → Int8} {r_this_saved : Nat → Int32} (rM : RI s_this.2.1 r_this_all r_this_undone r_this_saved) : Tt (f_X12_send x0 x1 s_this r_this_all r_this_line r_this_undone r_this_undoneLine) (fun q => RI q.2.1.2.1 q.2.2.1 q.2.2.2.2.1 r_this_saved ∧ TX q.2.2.1 r_this_all) := by
  obtain ⟨s1, s2, s3, s4, s5, s6, s7, s8, s9, s10, s11, s12⟩ := s_this
  obtain ⟨u, hu, hK⟩ := id rM.2.1
  have hu : s2 = nI u := hu
  subst hu
  exact tt_m (send_t _ _ _ _ _ _ _ _ _ _ _ _ _ _ _ _ _ _ rM.1.1 hK) (fun q hq => ⟨rM.act hq, fun j h _ => hq.2.2 j h⟩)
set_option maxRecDepth 100000 in
theorem rj_lose {x0 : Int32} {x1 : Int32} {s_this : SX12} {r_this_all : Nat → Int32} {r_this_line : Nat → Int8} {r_this_undone : Nat → Int32} {r_this_undoneLine : Nat → Int8} {r_this_saved : Nat → Int32} (rM : RI s_this.2.1 r_this_all r_this_undone r_this_saved) : Tt (f_X12_lose x0 x1 s_this r_this_all r_this_line r_this_undone r_this_undoneLine) (fun q => RI q.2.1.2.1 q.2.2.1 q.2.2.2.2.1 r_this_saved ∧ TX q.2.2.1 r_this_all) := by
  obtain ⟨s1, s2, s3, s4, s5, s6, s7, s8, s9, s10, s11, s12⟩ := s_this
  obtain ⟨u, hu, hK⟩ := id rM.2.1
  have hu : s2 = nI u := hu
  subst hu
  exact tt_m (lose_t _ _ _ _ _ _ _ _ _ _ _ _ _ _ _ _ _ _ rM.1.1 hK) (fun q hq => ⟨rM.act hq, fun j h _ => hq.2.2 j h⟩)
set_option maxRecDepth 100000 in
theorem rj_put {x0 : Int32} {x1 : Int32} {s_this : SX12} {r_this_all : Nat → Int32} {r_this_line : Nat → Int8} {r_this_undone : Nat → Int32} {r_this_undoneLine : Nat → Int8} {r_this_saved : Nat → Int32} (rM : RI s_this.2.1 r_this_all r_this_undone r_this_saved) : Tt (f_X12_put x0 x1 s_this r_this_all r_this_line r_this_undone r_this_undoneLine) (fun q => RI q.2.1.2.1 q.2.2.1 q.2.2.2.2.1 r_this_saved ∧ TX q.2.2.1 r_this_all) := by
  obtain ⟨s1, s2, s3, s4, s5, s6, s7, s8, s9, s10, s11, s12⟩ := s_this
  obtain ⟨u, hu, hK⟩ := id rM.2.1
  have hu : s2 = nI u := hu
  subst hu
  exact tt_m (put_t _ _ _ _ _ _ _ _ _ _ _ _ _ _ _ _ _ _ rM.1.1 hK) (fun q hq => ⟨rM.act hq, fun j h _ => hq.2.2 j h⟩)
set_option maxRecDepth 100000 in
theorem rj_hear {x0 : Int32} {s_this : SX12} {r_this_all : Nat → Int32} {r_this_line : Nat → Int8} {r_this_undone : Nat → Int32} {r_this_undoneLine : Nat → Int8} {r_this_saved : Nat → Int32} (rM : RI s_this.2.1 r_this_all r_this_undone r_this_saved) : Tt (f_X12_hear x0 s_this r_this_all r_this_line r_this_undone r_this_undoneLine) (fun q => RI q.2.1.2.1 q.2.2.1 q.2.2.2.1 r_this_saved ∧ TX q.2.2.1 r_this_all) := by
  obtain ⟨s1, s2, s3, s4, s5, s6, s7, s8, s9, s10, s11, s12⟩ := s_this
  obtain ⟨u, hu, hK⟩ := id rM.2.1
  have hu : s2 = nI u := hu
  subst hu
  exact tt_m (hear_t _ _ _ _ _ _ _ _ _ _ _ _ _ _ _ _ _ rM.1.1 hK) (fun q hq => ⟨rM.act hq, fun j h _ => hq.2.2 j h⟩)
set_option maxRecDepth 100000 in
theorem rj_undo {s_this : SX12} {r_this_all : Nat → Int32} {r_this_line : Nat → Int8} {r_this_undone : Nat → Int32} {r_this_undoneLine : Nat → Int8} {r_this_saved : Nat → Int32} (rM : RI s_this.2.1 r_this_all r_this_undone r_this_saved) : Tt (f_X12_undo s_this r_this_all r_this_line r_this_undone r_this_undoneLine) (fun q => RI q.2.1.2.1 q.2.2.1 r_this_undone r_this_saved ∧ TX q.2.2.1 r_this_all) := by
  obtain ⟨s1, s2, s3, s4, s5, s6, s7, s8, s9, s10, s11, s12⟩ := s_this
  obtain ⟨u, hu, hK⟩ := id rM.2.1
  have hu : s2 = nI u := hu
  subst hu
  exact tt_m (undo_t _ _ _ _ _ _ _ _ _ _ _ _ _ _ _ _ rM.1.1 hK) (fun q hq => ⟨rM.act hq, fun j h _ => hq.2.2 j h⟩)
set_option maxRecDepth 100000 in
theorem rj_scheme {s_this : SX12} {r_this_all : Nat → Int32} {r_this_text : Nat → Int8} {r_this_told : Nat → Int32} {r_this_undone : Nat → Int32} {r_this_saved : Nat → Int32} (rM : RI s_this.2.1 r_this_all r_this_undone r_this_saved) : Tt (f_X12_scheme s_this r_this_all r_this_text r_this_told) (fun q => RI q.2.1.2.1 q.2.2.1 r_this_undone r_this_saved ∧ ∀ j, 136 ≤ j → j < 544 → q.2.2.1 j = r_this_all j) := by
  obtain ⟨z, hz, e⟩ := rM.1.2
  exact tt_m (sc_is hz _ _ (by have h := e; rw [Nat.zero_add] at h; exact h) _ _) (fun q hq => by
    obtain ⟨h1, h2, h3⟩ := hq
    have hz : ∃ z : Nat, z ≤ 300 ∧ q.2.2.1 (0 + 133) = nI z := ⟨0, by omega, by rw [Nat.zero_add]; exact h2⟩
    rcases h1 with ⟨h1, hB⟩ | ⟨h1, hB⟩
    · rw [show _ = (0 : Int32) from h1]
      refine ⟨?_, fun j hj _ => h3 j hj⟩
      exact rM.of ⟨hB, hz⟩ ⟨0, rfl, by omega, fun j hj => absurd hj (by omega)⟩ (fun j hj _ => h3 j hj)
    · rw [show _ = s_this.2.1 from h1]
      refine ⟨?_, fun j hj _ => h3 j hj⟩
      exact rM.of ⟨rM.1.1.c (fun k hk => by rw [Nat.zero_add]; exact hB _ hk), hz⟩ rM.2.1 (fun j hj _ => h3 j hj))
