/-! bytes that come behind a text; lN m: eight bytes, the highest first -/
theorem byo {m : Nat} (hm : m < 2 ^ 64) {k : Nat} (hk : k < 8) : f_X8_byteOf (lN m) (nI k) = some (nI (m / 2 ^ (56 - 8 * k) % 256)) := by
  unfold f_X8_byteOf
  have e1 : (56 : Int32) - 8 * nI k = nI (56 - 8 * k) := by
    rw [show (8 : Int32) = nI 8 from rfl, pk_mul]
    exact pk_sub (a := 56) (by omega)
  rw [e1, wb_shr hm (by omega), lN_i, pk_and (nI (m / 2 ^ (56 - 8 * k))) (m := 255) 8 (by decide)]
  congr 2
  show (BitVec.ofNat 32 (m / 2 ^ (56 - 8 * k))).toNat % 2 ^ 8 = _
  rw [BitVec.toNat_ofNat, Nat.mod_mod_of_dvd _ (show 2 ^ 8 ∣ 2 ^ 32 by decide)]
theorem b255 : ∀ v : Fin 256, ((nI v.val).toInt8.toInt32.toInt8).toInt32 &&& 255 = nI v.val := by decide +kernel
theorem ap39_is {z j : Nat} (hz : z + j ≤ 300) (hj : j ≤ 8) {m : Nat} (hm : m < 2 ^ 64) (fl fp : Int32) (n : Nat) : ∀ (k f : Nat) (_ : k + n = j) (_ : n ≤ f) (tb : Nat → Int8), ∃ tb', f_X8_append_39 (nI j) (nI z) fl fp (lN m) (f + 1) (nI k) tb = some (nI (z + j), (nI (z + j), fl, fp), tb') ∧ (∀ i, i < z + k → tb' i = tb i) ∧ ∀ i, k ≤ i → i < j → (tb' (z + i)).toInt32 &&& 255 = nI (m / 2 ^ (56 - 8 * i) % 256) := by
  induction n with
  | zero =>
    intro k f hk _ tb
    have : k = j := by omega
    subst this
    rw [f_X8_append_39_s, if_pos (nI_le (Nat.le_refl _) (by omega)), nI_add]
    exact ⟨tb, rfl, fun i _ => rfl, fun i i1 i2 => by omega⟩
  | succ n ih =>
    intro k f hk hf tb
    obtain ⟨f, rfl⟩ : ∃ q, f = q + 1 := ⟨f - 1, by omega⟩
    rw [f_X8_append_39_s, if_neg (nI_ge (by omega) (by omega)), byo hm (by omega), bso, nI_add, m_inI (nI_in (by omega) (by decide)), nI_clamp (by omega), nI_1]
    obtain ⟨tb', e1, e2, e3⟩ := ih (k + 1) f (by omega) (by omega) (upB tb (z + k) (nI (m / 2 ^ (56 - 8 * k) % 256)).toInt8.toInt32.toInt8)
    refine ⟨tb', e1, fun i hi => ?_, fun i i1 i2 => ?_⟩
    · rw [e2 i (by omega)]
      exact if_neg (by omega)
    · by_cases c : i = k
      · subst c
        rw [e2 (z + i) (by omega)]
        have g := b255 ⟨m / 2 ^ (56 - 8 * i) % 256, Nat.mod_lt _ (by decide)⟩
        show ((if z + i = z + i then _ else _ : Int8)).toInt32 &&& 255 = _
        rw [if_pos rfl]
        exact g
      · exact e3 i (by omega) i2
/-- j bytes come behind z -/
theorem app8_is {z j : Nat} (hz : z + j ≤ 300) (hj : j ≤ 8) {m : Nat} (hm : m < 2 ^ 64) (hn : ∀ k, k < j → m / 2 ^ (56 - 8 * k) % 256 ≠ 0) (h0 : j < 8 → m / 2 ^ (56 - 8 * j) % 256 = 0) (fl fp : Int32) (tb : Nat → Int8) : ∃ tb', f_X8_append (lN m) (nI z, fl, fp) tb = some (nI (z + j), (nI (z + j), fl, fp), tb') ∧ (∀ i, i < z → tb' i = tb i) ∧ ∀ i, i < j → (tb' (z + i)).toInt32 &&& 255 = nI (m / 2 ^ (56 - 8 * i) % 256) := by
  obtain ⟨tb', e1, e2, e3⟩ := ap39_is hz hj hm fl fp j 0 65535 (by omega) (by omega) tb
  have e22 : f_X8_append_22 (nI z) (nI j) fl fp (lN m) tb = some (nI (z + j), (nI (z + j), fl, fp), tb') := by
    unfold f_X8_append_22
    rw [nI_add, if_pos (show nI (z + j) ≤ 300 from nI_le (b := 300) hz (by omega))]
    exact e1
  have go : ∀ (n k f : Nat), k + n = j → n ≤ f → f_X8_append_2 (nI z) fl fp (lN m) tb (f + 1) (nI k) = some (nI (z + j), (nI (z + j), fl, fp), tb') := by
    intro n
    induction n with
    | zero =>
      intro k f hk _
      have : k = j := by omega
      subst this
      rw [f_X8_append_2_s]
      by_cases c : 8 ≤ k
      · rw [if_pos (show (8 : Int32) ≤ nI k from nI_le (a := 8) c (by omega))]
        exact e22
      · rw [if_neg (show ¬ (8 : Int32) ≤ nI k from nI_ge (b := 8) (by omega) (by omega)), byo hm (by omega), bso, h0 (by omega), if_pos (show nI 0 = 0 from rfl)]
        exact e22
    | succ n ih =>
      intro k f hk hf
      obtain ⟨f, rfl⟩ : ∃ q, f = q + 1 := ⟨f - 1, by omega⟩
      have hlt : m / 2 ^ (56 - 8 * k) % 256 < 256 := Nat.mod_lt _ (by decide)
      rw [f_X8_append_2_s, if_neg (show ¬ (8 : Int32) ≤ nI k from nI_ge (b := 8) (by omega) (by omega)), byo hm (by omega), bso, if_neg (show ¬ nI (m / 2 ^ (56 - 8 * k) % 256) = 0 from fun q => hn k (by omega) ((nI_eq (b := 0) (by omega) (by omega)).mp q)), nI_1]
      exact ih (k + 1) f (by omega) (by omega)
  refine ⟨tb', ?_, fun i hi => e2 i (by omega), fun i hi => e3 i (Nat.zero_le _) hi⟩
  unfold f_X8_append
  exact go j 0 65535 (by omega) (by omega)
