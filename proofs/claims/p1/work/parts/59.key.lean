theorem f_X8_append_39_s (y2_l3 : Int32) (v_this_size : Int32) (v_this_flaw : Int32) (v_this_flawPlace : Int32) (x0 : Int64) (n : Nat) (y39_l4 : Int32) (y39_this_bytes : (Nat → Int8)) : f_X8_append_39 y2_l3 v_this_size v_this_flaw v_this_flawPlace x0 (n + 1) y39_l4 y39_this_bytes = ((if y2_l3 ≤ y39_l4 then some ((v_this_size + y2_l3), ((v_this_size + y2_l3), v_this_flaw, v_this_flawPlace), y39_this_bytes) else Option.bind (f_X8_byteOf x0 y39_l4) (fun u59_r => m_in (v_this_size + y39_l4) 300 ((f_X8_append_39 y2_l3 v_this_size v_this_flaw v_this_flawPlace x0 n) (y39_l4 + 1) (upB y39_this_bytes (v_this_size + y39_l4).toNatClampNeg u59_r.toInt8.toInt32.toInt8))))) := rfl
theorem f_X8_append_2_s (v_this_size : Int32) (v_this_flaw : Int32) (v_this_flawPlace : Int32) (x0 : Int64) (r_this_bytes : Nat → Int8) (n : Nat) (y2_l3 : Int32) : f_X8_append_2 v_this_size v_this_flaw v_this_flawPlace x0 r_this_bytes (n + 1) y2_l3 = ((if 8 ≤ y2_l3 then f_X8_append_22 v_this_size y2_l3 v_this_flaw v_this_flawPlace x0 r_this_bytes else Option.bind (f_X8_byteOf x0 y2_l3) (fun u10_r => (if u10_r = 0 then f_X8_append_22 v_this_size y2_l3 v_this_flaw v_this_flawPlace x0 r_this_bytes else (f_X8_append_2 v_this_size v_this_flaw v_this_flawPlace x0 r_this_bytes n) (y2_l3 + 1))))) := rfl
theorem f_X12_key_58_s (y7_l3 : Int32) (v_this_undos : Int32) (v_this_reached : Int32) (v_this_length : Int32) (v_this_begin : Int32) (v_this_sort : Int32) (v_this_value : Int32) (v_this_signs : Int32) (v_this_word : Int64) (v_this_wrongAt : Int32) (v_this_badAt : Int32) (v_this_x : Int32) (x0 : Int64) (n : Nat) (y58_l4 : Int32) (y58_this_all : (Nat → Int32)) (y58_this_text : (Nat → Int8)) : f_X12_key_58 y7_l3 v_this_undos v_this_reached v_this_length v_this_begin v_this_sort v_this_value v_this_signs v_this_word v_this_wrongAt v_this_badAt v_this_x x0 (n + 1) y58_l4 y58_this_all y58_this_text = ((if y7_l3 ≤ y58_l4 then some ((y58_this_all 133), (0, v_this_undos, v_this_reached, v_this_length, v_this_begin, v_this_sort, v_this_value, v_this_signs, v_this_word, v_this_wrongAt, v_this_badAt, v_this_x), y58_this_all, y58_this_text) else m_n (((x0 >>> ((56 - (8 * y58_l4)).toInt64 &&& 63)).toInt32).toInt8.toInt32) (fun u88_e => m_in (y58_this_all 133) 1200 ((f_X12_key_58 y7_l3 v_this_undos v_this_reached v_this_length v_this_begin v_this_sort v_this_value v_this_signs v_this_word v_this_wrongAt v_this_badAt v_this_x x0 n) (y58_l4 + 1) (upd y58_this_all 133 ((y58_this_all 133) + 1)) (upB y58_this_text (y58_this_all 133).toNatClampNeg u88_e.toInt8))))) := rfl
theorem f_X12_key_7_s (r_this_all : Nat → Int32) (v_this_undos : Int32) (v_this_reached : Int32) (v_this_length : Int32) (v_this_begin : Int32) (v_this_sort : Int32) (v_this_value : Int32) (v_this_signs : Int32) (v_this_word : Int64) (v_this_wrongAt : Int32) (v_this_badAt : Int32) (v_this_x : Int32) (x0 : Int64) (r_this_text : Nat → Int8) (n : Nat) (y7_l3 : Int32) : f_X12_key_7 r_this_all v_this_undos v_this_reached v_this_length v_this_begin v_this_sort v_this_value v_this_signs v_this_word v_this_wrongAt v_this_badAt v_this_x x0 r_this_text (n + 1) y7_l3 = ((if 8 ≤ y7_l3 then f_X12_key_37 r_this_all y7_l3 v_this_undos v_this_reached v_this_length v_this_begin v_this_sort v_this_value v_this_signs v_this_word v_this_wrongAt v_this_badAt v_this_x x0 r_this_text else (if (lg_cmp ((x0 >>> ((56 - (8 * y7_l3)).toInt64 &&& 63)) &&& 255) 0) = 0 then f_X12_key_37 r_this_all y7_l3 v_this_undos v_this_reached v_this_length v_this_begin v_this_sort v_this_value v_this_signs v_this_word v_this_wrongAt v_this_badAt v_this_x x0 r_this_text else (f_X12_key_7 r_this_all v_this_undos v_this_reached v_this_length v_this_begin v_this_sort v_this_value v_this_signs v_this_word v_this_wrongAt v_this_badAt v_this_x x0 r_this_text n) (y7_l3 + 1)))) := rfl
theorem by8v (x : BitVec 64) (s : Nat) (hs : s ≤ 56) : ((x >>> s).setWidth 32 &&& 255#32 = 0#32) ↔ (x.sshiftRight s &&& 255#64 = 0#64) := by
  have c32 : ∀ i, i < 32 → (255#32).getLsbD i = decide (i < 8) := by decide +kernel
  have c64 : ∀ i, i < 64 → (255#64).getLsbD i = decide (i < 8) := by decide +kernel
  have L : ((x >>> s).setWidth 32 &&& 255#32 = 0#32) ↔ ∀ i, i < 8 → x.getLsbD (s + i) = false := by
    constructor
    · intro h i hi
      have := congrArg (fun v => BitVec.getLsbD v i) h
      simp only [BitVec.getLsbD_and, BitVec.getLsbD_setWidth, BitVec.getLsbD_ushiftRight, BitVec.getLsbD_zero, c32 i (by omega), hi, decide_true, Bool.and_true, show i < 32 by omega, Bool.true_and] at this
      exact this
    · intro h
      apply BitVec.eq_of_getLsbD_eq
      intro i hi
      simp only [BitVec.getLsbD_and, BitVec.getLsbD_setWidth, BitVec.getLsbD_ushiftRight, BitVec.getLsbD_zero, c32 i hi]
      by_cases h8 : i < 8
      · simp [h i h8]
      · simp [h8]
  have R : (x.sshiftRight s &&& 255#64 = 0#64) ↔ ∀ i, i < 8 → x.getLsbD (s + i) = false := by
    constructor
    · intro h i hi
      have := congrArg (fun v => BitVec.getLsbD v i) h
      simp only [BitVec.getLsbD_and, BitVec.getLsbD_sshiftRight, BitVec.getLsbD_zero, c64 i (by omega), hi, decide_true, Bool.and_true, show ¬ 64 ≤ i by omega, show s + i < 64 by omega, if_true, decide_false, Bool.not_false, Bool.true_and] at this
      exact this
    · intro h
      apply BitVec.eq_of_getLsbD_eq
      intro i hi
      simp only [BitVec.getLsbD_and, BitVec.getLsbD_sshiftRight, BitVec.getLsbD_zero, c64 i hi]
      by_cases h8 : i < 8
      · rw [h i h8, if_pos (show s + i < 64 by omega)]; simp
      · simp [h8]
  rw [L, R]
theorem by8 (x : Int64) (k : Nat) (hk : k < 8) : ((x.toUInt64 >>> ((56 - (8 * nI k)).toInt64.toUInt64 &&& Int64.toUInt64 63)).toInt64).toInt32 &&& 255 = 0 ↔ (x >>> ((56 - (8 * nI k)).toInt64 &&& 63)) &&& 255 = 0 := by
  have key : ∀ k : Fin 8, ((((56 - (8 * nI k.val)).toInt64.toUInt64 &&& Int64.toUInt64 63)).toBitVec % 64#64).toNat = 56 - 8 * k.val ∧ ((((56 - (8 * nI k.val)).toInt64 &&& 63)).toBitVec.smod 64#64).toNat = 56 - 8 * k.val := by decide +kernel
  have hq := key ⟨k, hk⟩
  have h := by8v x.toBitVec (56 - 8 * k) (by omega)
  rw [← Int32.toBitVec_inj, ← Int64.toBitVec_inj, Int32.toBitVec_and, Int64.toBitVec_and]
  have e1 : (((x.toUInt64 >>> ((56 - (8 * nI k)).toInt64.toUInt64 &&& Int64.toUInt64 63)).toInt64).toInt32).toBitVec = (x.toBitVec >>> (56 - 8 * k)).setWidth 32 := by
    rw [Int64.toBitVec_toInt32]
    show ((x.toUInt64 >>> ((56 - (8 * nI k)).toInt64.toUInt64 &&& Int64.toUInt64 63)).toBitVec).signExtend 32 = _
    rw [UInt64.toBitVec_shiftRight, BitVec.signExtend_eq_setWidth_of_le _ (by decide), BitVec.ushiftRight_eq', show (((56 - (8 * nI k)).toInt64.toUInt64 &&& Int64.toUInt64 63).toBitVec % 64).toNat = 56 - 8 * k from hq.1]
    rfl
  have e2 : (x >>> ((56 - (8 * nI k)).toInt64 &&& 63)).toBitVec = x.toBitVec.sshiftRight (56 - 8 * k) := by
    rw [Int64.toBitVec_shiftRight, BitVec.sshiftRight_eq', show (((56 - 8 * nI k).toInt64 &&& 63).toBitVec.smod 64).toNat = 56 - 8 * k from hq.2]
  rw [e1, e2]
  exact h
theorem ap39 (j : Nat) (hj : j ≤ 8) (fl fp : Int32) (x0 : Int64) (m : Nat) : ∀ (k f : Nat) (_ : k + m = j) (_ : m ≤ f) (by0 : Nat → Int8), ∃ t, f_X8_append_39 (nI j) 0 fl fp x0 (f + 1) (nI k) by0 = some (nI j, t) := by
  induction m with
  | zero =>
    intro k f hk _ by0
    have : k = j := by omega
    subst this
    rw [f_X8_append_39_s, if_pos (nI_le (Nat.le_refl _) (by omega)), show (0 : Int32) + nI k = nI k from by rw [show (0 : Int32) = nI 0 from rfl, nI_add, Nat.zero_add]]
    exact ⟨_, rfl⟩
  | succ m ih =>
    intro k f hk hf by0
    obtain ⟨f, rfl⟩ : ∃ q, f = q + 1 := ⟨f - 1, by omega⟩
    rw [f_X8_append_39_s, if_neg (nI_ge (by omega) (by omega))]
    unfold f_X8_byteOf
    rw [bso, show (0 : Int32) + nI k = nI k from by rw [show (0 : Int32) = nI 0 from rfl, nI_add, Nat.zero_add], m_inI (nI_in (c := k) (N := 300) (by omega) (by omega)), nI_1]
    exact ih (k + 1) f (by omega) (by omega) _
theorem ky58 (j : Nat) (hj : j ≤ 8) (u re le be so va si : Int32) (w : Int64) (wa ba x : Int32) (x0 : Int64) (m : Nat) : ∀ (k f : Nat) (_ : k + m = j) (_ : m ≤ f) (a : Nat → Int32) (_ : a 133 = nI k) (tx : Nat → Int8), ∃ t, f_X12_key_58 (nI j) u re le be so va si w wa ba x x0 (f + 1) (nI k) a tx = some (nI j, t) := by
  induction m with
  | zero =>
    intro k f hk _ a ha tx
    have : k = j := by omega
    subst this
    rw [f_X12_key_58_s, if_pos (nI_le (Nat.le_refl _) (by omega)), ha]
    exact ⟨_, rfl⟩
  | succ m ih =>
    intro k f hk hf a ha tx
    obtain ⟨f, rfl⟩ : ∃ q, f = q + 1 := ⟨f - 1, by omega⟩
    rw [f_X12_key_58_s, if_neg (nI_ge (by omega) (by omega))]
    show ∃ t, m_in (a 133) 1200 _ = _
    rw [ha, m_inI (nI_in (c := k) (N := 1200) (by omega) (by omega)), nI_1]
    exact ih (k + 1) f (by omega) (by omega) _ (upd_same _ _ _) _
theorem key_step (x0 : Int64) (k : Nat) (hk : k < 8) : ((((x0.toUInt64 >>> ((56 - (8 * nI k)).toInt64.toUInt64 &&& Int64.toUInt64 63)).toInt64).toInt32 &&& 255) = 0) ↔ (lg_cmp ((x0 >>> ((56 - (8 * nI k)).toInt64 &&& 63)) &&& 255) 0) = 0 := by
  rw [by8 x0 k hk]
  unfold lg_cmp
  constructor
  · intro e; rw [e]; decide
  · intro e
    split at e
    · exact absurd e (by decide)
    · split at e
      · assumption
      · exact absurd e (by decide)
theorem key_go (fl fp : Int32) (x0 : Int64) (by0 : Nat → Int8) (a : Nat → Int32) (u re le be so va si : Int32) (w : Int64) (wa ba x : Int32) (tx : Nat → Int8) (m : Nat) : ∀ (k f g : Nat) (_ : k + m = 8) (_ : m ≤ f) (_ : m ≤ g),
    ∃ j, j ≤ 8 ∧ f_X8_append_2 0 fl fp x0 by0 (f + 1) (nI k) = f_X8_append_22 0 (nI j) fl fp x0 by0 ∧ f_X12_key_7 a u re le be so va si w wa ba x x0 tx (g + 1) (nI k) = f_X12_key_37 a (nI j) u re le be so va si w wa ba x x0 tx := by
  induction m with
  | zero =>
    intro k f g hk _ _
    have : k = 8 := by omega
    subst this
    exact ⟨8, by omega, by rw [f_X8_append_2_s, if_pos (by decide)], by rw [f_X12_key_7_s, if_pos (by decide)]⟩
  | succ m ih =>
    intro k f g hk hf hg
    obtain ⟨f, rfl⟩ : ∃ q, f = q + 1 := ⟨f - 1, by omega⟩
    obtain ⟨g, rfl⟩ : ∃ q, g = q + 1 := ⟨g - 1, by omega⟩
    have hn : ¬ (8 : Int32) ≤ nI k := nI_ge (a := k) (b := 8) (by omega) (by omega)
    have hq := key_step x0 k (by omega)
    rw [f_X8_append_2_s, if_neg hn, f_X12_key_7_s, if_neg hn]
    unfold f_X8_byteOf
    rw [bso]
    by_cases h0 : ((((x0.toUInt64 >>> ((56 - (8 * nI k)).toInt64.toUInt64 &&& Int64.toUInt64 63)).toInt64).toInt32 &&& 255) = 0)
    · rw [if_pos h0, if_pos (hq.mp h0)]
      exact ⟨k, by omega, rfl, rfl⟩
    · rw [if_neg h0, if_neg (fun e => h0 (hq.mpr e)), nI_1]
      exact ih (k + 1) f g (by omega) (by omega) (by omega)
theorem k_0 (a b c : Int32) : lk_0 a b c = some 1 := by
  unfold lk_0 lc_0 f_X11_key f_X8_append f_X12_key
  simp only [T0c3, M0c0, in1, in2]
  obtain ⟨j, hj, e1, e2⟩ := key_go 0 (-1) ((a.toInt64 <<< ((32 : Int32).toInt64 &&& 63)) ||| (b.toInt64 &&& 4294967295)) T0.2.2.2.2.1 M0.2.1 0 0 0 0 0 0 0 0 0 (-1) 0 M0.2.2.2.1 8 0 65535 65535 (by omega) (by omega) (by omega)
  obtain ⟨⟨t1, t2⟩, g1⟩ := ap39 j hj 0 (-1) ((a.toInt64 <<< ((32 : Int32).toInt64 &&& 63)) ||| (b.toInt64 &&& 4294967295)) j 0 65535 (by omega) (by omega) T0.2.2.2.2.1
  obtain ⟨⟨w1, w2, w3⟩, g2⟩ := ky58 j hj 0 0 0 0 0 0 0 0 0 (-1) 0 ((a.toInt64 <<< ((32 : Int32).toInt64 &&& 63)) ||| (b.toInt64 &&& 4294967295)) j 0 65535 (by omega) (by omega) M0.2.1 M0a_133 M0.2.2.2.1
  have hle : (0 : Int32) + nI j ≤ 300 := by
    rw [show (0 : Int32) = nI 0 from rfl, nI_add]; exact nI_le (b := 300) (by omega) (by omega)
  have e1 := e1
  unfold f_X8_append_22 at e1
  rw [if_pos hle] at e1
  unfold f_X12_key_37 at e2
  rw [M0a_133, if_pos hle] at e2
  have E1 := e1.trans g1
  have E2 := e2.trans g2
  rw [show (nI 0) = 0 from rfl] at E1 E2
  rw [E1, bso, bso, E2, bso]
  simp only [if_true, end4]
