theorem rl_ne (q : Nat) (v : Int32) (h : v = 2 ∨ v = 3 ∨ v = -1) : ¬ rl q = v := by
  rcases rl_01 q with e | e <;> rw [e] <;> rcases h with h | h | h <;> subst h <;> decide
theorem ck28 {a : Nat → Int32} (h : Df a) (s : SX12) (b : Int32) {q : Nat} (hq : q < 48) : ∃ r a', f_X12_checked_28 (nI q) s b a = some (r, a') ∧ ¬ r = 3 ∧ ∀ j, j ≠ 62 → j ≠ 64 → j ≠ 65 → j ≠ 66 → a' j = a j := by
  unfold f_X12_checked_28
  have hD2 : Df (upd (upd a 62 0) 64 ((upd a 62 0) 64)) := Df_upd (Df_upd h (by decide)) (by decide)
  have fr : ∀ j, j ≠ 62 → j ≠ 64 → j ≠ 65 → j ≠ 66 → (upd (upd a 62 0) 64 ((upd a 62 0) 64)) j = a j := fun j h1 h2 _ _ => by rw [upd_ne _ _ h2, upd_ne _ _ h1]
  have end185 : ∃ r a', f_X12_checked_185 a 0 ((upd a 62 0) 64) 1 = some (r, a') ∧ ¬ r = 3 ∧ ∀ j, j ≠ 62 → j ≠ 64 → j ≠ 65 → j ≠ 66 → a' j = a j := by
    unfold f_X12_checked_185 m_n
    exact ⟨_, _, rfl, by decide, fun j h1 h2 h3 h4 => by rw [upd_ne _ _ h4, upd_ne _ _ h3, upd_ne _ _ h2, upd_ne _ _ h1]⟩
  have key : ∃ r a', f_X12_checked_42 s a (nI q) b 0 = some (r, a') ∧ ¬ r = 3 ∧ ∀ j, j ≠ 62 → j ≠ 64 → j ≠ 65 → j ≠ 66 → a' j = a j := by
    unfold f_X12_checked_42
    rw [if_pos rfl]
    unfold f_X12_checked_66
    rw [cm_is h s, bso]
    unfold f_X12_goesOn
    rw [if_pos rfl, bso, if_pos rfl]
    unfold f_X12_checked_105
    rw [rn_is hD2, bso]
    split
    · split
      · split
        · rw [cm_is hD2 s, bso, if_pos (by decide)]
          unfold f_X12_checked_151 f_X12_checked_152
          rw [if_pos rfl]; exact end185
        · unfold f_X12_checked_151 f_X12_checked_152
          rw [if_pos rfl]; exact end185
      · unfold f_X12_checked_151 f_X12_checked_152
        rw [if_pos rfl]; exact end185
    · exact ⟨_, _, rfl, by decide, fr⟩
  rw [ro_is h s hq, bso]
  by_cases h8 : q % 8 = 0
  · rw [if_pos h8, if_neg (rl_ne _ _ (Or.inl rfl))]; exact key
  · rw [if_neg h8, if_neg (by decide)]; exact key
theorem ck_is {a : Nat → Int32} (h : Df a) (s : SX12) (b : Int32) {q : Nat} (hq : q < 48) : ∃ r a', f_X12_checked (nI q) b s a = some (r, a') ∧ ¬ r = 3 ∧ ∀ j, j ≠ 62 → j ≠ 63 → j ≠ 64 → j ≠ 65 → j ≠ 66 → a' j = a j := by
  unfold f_X12_checked
  split
  · obtain ⟨r, a', e1, e2, e3⟩ := ck28 (Df_upd (Df_upd (Df_upd h (by decide : 15 ≤ 62)) (by decide : 15 ≤ 64)) (by decide : 15 ≤ 63)) s b hq
    exact ⟨r, a', e1, e2, fun j h1 h2 h3 h4 h5 => by rw [e3 j h1 h3 h4 h5, upd_ne _ _ h2, upd_ne _ _ h3, upd_ne _ _ h1]⟩
  · obtain ⟨r, a', e1, e2, e3⟩ := ck28 h s b hq
    exact ⟨r, a', e1, e2, fun j h1 _ h3 h4 h5 => e3 j h1 h3 h4 h5⟩
/-- what stands behind the history: the checks, no link, the frame -/
theorem l122 {a : Nat → Int32} (h : Df a) (s : SX12) (b : Int32) {q : Nat} (hq : q < 48) (h43 : a 43 = 0) : ∃ a4, f_X12_locked_122 (nI q) b s a = f_X12_framed (nI q) b s a4 ∧ ∀ j, j ≠ 62 → j ≠ 63 → j ≠ 64 → j ≠ 65 → j ≠ 66 → a4 j = a j := by
  obtain ⟨r, a3, e1, e2, e3⟩ := ck_is h s b hq
  have fr : ∀ j, j ≠ 62 → j ≠ 63 → j ≠ 64 → j ≠ 65 → j ≠ 66 → (upd a3 43 (a 43 + 0)) j = a j := by
    intro j h1 h2 h3 h4 h5
    by_cases hj : j = 43
    · subst hj; rw [upd_same, h43]; rfl
    · rw [upd_ne _ _ hj]; exact e3 j h1 h2 h3 h4 h5
  have hD : Df (upd a3 43 (a 43 + 0)) := ⟨by rw [fr 0 (by decide) (by decide) (by decide) (by decide) (by decide)]; exact h.1, by rw [fr 8 (by decide) (by decide) (by decide) (by decide) (by decide)]; exact h.2.1, fun w hw => by rw [fr (9 + w) (by omega) (by omega) (by omega) (by omega) (by omega)]; exact h.2.2 w hw⟩
  refine ⟨_, ?_, fr⟩
  unfold f_X12_locked_122
  rw [e1, bso]
  simp only []
  rw [if_neg e2]
  unfold f_X12_locked_145
  rw [ro_is hD s hq, bso]
  have bsi : ∀ A : Option (Nat → Int32), Option.bind A (fun u => some u) = A := fun A => by cases A <;> rfl
  have hn : ¬ (if q % 8 = 0 then rl (q / 8) else -1) = 3 := by
    by_cases h8 : q % 8 = 0
    · rw [if_pos h8]; exact rl_ne _ _ (Or.inr (Or.inl rfl))
    · rw [if_neg h8]; decide
  rw [if_neg hn]
  unfold f_X12_locked_161
  exact bsi _
theorem mn_is {α β : Type} (a : α) (k : α → Option β) : m_n a k = k a := rfl
theorem tick_1 (s : SX12) {a : Nat → Int32} (hD : Dg a) (c : Nat) (h48 : a 48 = 1) (h46 : a 46 = nI c) (h49 : a 49 = nI 7000) : ∃ a', f_X12_ticks s a = some a' ∧ a' 48 = 0 ∧ a' 46 = nI (c + 1) ∧ a' 49 = nI 0 ∧ ∀ j, j < 69 → j ≠ 46 → j ≠ 48 → j ≠ 49 → a' j = a j := by
  have h7 := hD.2.2.2.2.2
  have h0 := hD.1.1
  have h3 := hD.2.1
  unfold f_X12_ticks
  rw [h7, h49, show nI 7000 + (1000 + 0) = nI 8000 from by decide +kernel, upd_ne _ _ (show 0 ≠ 49 by decide), h0, show (1000 * 8 : Int32) = nI 8000 from by decide +kernel, upd_same, if_pos (show nI 8000 ≤ nI 8000 from by decide +kernel)]
  rw [mn_is]
  rw [show nI 8000 - nI 8000 = nI 0 from by decide +kernel, upd_ne _ _ (show 48 ≠ 49 by decide), upd_ne _ _ (show 48 ≠ 49 by decide), h48, if_neg (by decide)]
  obtain ⟨a1, ha1⟩ : ∃ x, x = upd (upd a 49 (nI 8000)) 49 (nI 0) := ⟨_, rfl⟩
  rw [← ha1]
  have q1 : ∀ j, j ≠ 49 → a1 j = a j := fun j hj => by rw [ha1, upd_ne _ _ hj, upd_ne _ _ hj]
  have q2 : a1 49 = nI 0 := by rw [ha1]; exact upd_same _ _ _
  clear ha1
  rw [show (65536 : Nat) = 65535 + 1 from rfl, f_X12_ticks_100_s, if_neg (by decide), m_inI (i := (69 : Int32) + 0) (pk_in 69 680 (by decide) (by decide +kernel)), m_inI (i := (75 : Int32) + 0) (pk_in 75 680 (by decide) (by decide +kernel)), m_inI (i := (72 : Int32) + 0) (pk_in 72 680 (by decide) (by decide +kernel))]
  rw [mn_is]
  rw [m_inI (i := (69 : Int32) + 0) (pk_in 69 680 (by decide) (by decide +kernel)), show (65535 : Nat) = 65534 + 1 from rfl, f_X12_ticks_100_s, if_neg (by decide), m_inI (i := (69 : Int32) + (0 + 1)) (pk_in 70 680 (by decide) (by decide +kernel)), m_inI (i := (75 : Int32) + (0 + 1)) (pk_in 76 680 (by decide) (by decide +kernel)), m_inI (i := (72 : Int32) + (0 + 1)) (pk_in 73 680 (by decide) (by decide +kernel))]
  rw [mn_is]
  rw [m_inI (i := (69 : Int32) + (0 + 1)) (pk_in 70 680 (by decide) (by decide +kernel)), show (65534 : Nat) = 65533 + 1 from rfl, f_X12_ticks_100_s, if_neg (by decide), m_inI (i := (69 : Int32) + (0 + 1 + 1)) (pk_in 71 680 (by decide) (by decide +kernel)), m_inI (i := (75 : Int32) + (0 + 1 + 1)) (pk_in 77 680 (by decide) (by decide +kernel)), m_inI (i := (72 : Int32) + (0 + 1 + 1)) (pk_in 74 680 (by decide) (by decide +kernel))]
  rw [mn_is]
  rw [m_inI (i := (69 : Int32) + (0 + 1 + 1)) (pk_in 71 680 (by decide) (by decide +kernel)), show (65533 : Nat) = 65532 + 1 from rfl, f_X12_ticks_100_s, if_pos (by decide)]
  simp only [show ((75 : Int32) + 0).toNatClampNeg = 75 from by decide +kernel, show ((75 : Int32) + (0 + 1)).toNatClampNeg = 76 from by decide +kernel, show ((75 : Int32) + (0 + 1 + 1)).toNatClampNeg = 77 from by decide +kernel, show ((69 : Int32) + 0).toNatClampNeg = 69 from by decide +kernel, show ((69 : Int32) + (0 + 1)).toNatClampNeg = 70 from by decide +kernel, show ((69 : Int32) + (0 + 1 + 1)).toNatClampNeg = 71 from by decide +kernel, show ((72 : Int32) + 0).toNatClampNeg = 72 from by decide +kernel, show ((72 : Int32) + (0 + 1)).toNatClampNeg = 73 from by decide +kernel, show ((72 : Int32) + (0 + 1 + 1)).toNatClampNeg = 74 from by decide +kernel]
  generalize hX : upd (upd (upd (upd (upd (upd a1 75 _) 69 _) 76 _) 70 _) 77 _) 71 _ = X
  have qX : ∀ j, j < 69 → X j = a1 j := fun j hj => by rw [← hX, upd_ne _ _ (by omega), upd_ne _ _ (by omega), upd_ne _ _ (by omega), upd_ne _ _ (by omega), upd_ne _ _ (by omega), upd_ne _ _ (by omega)]
  unfold f_X12_signals
  rw [upd_ne _ _ (show 3 ≠ 46 by decide), upd_ne _ _ (show 3 ≠ 48 by decide), qX 3 (by decide), q1 3 (by decide), h3, if_pos rfl, bso]
  refine ⟨_, rfl, ?_, ?_, ?_, fun j h1 h2 h3 h4 => ?_⟩
  · rw [upd_ne _ _ (by decide), upd_same, qX 48 (by decide), q1 48 (by decide), h48]; rfl
  · rw [upd_same, upd_ne _ _ (by decide), qX 46 (by decide), q1 46 (by decide), h46, nI_1]
  · rw [upd_ne _ _ (by decide), upd_ne _ _ (by decide), qX 49 (by decide)]; exact q2
  · rw [upd_ne _ _ h2, upd_ne _ _ h3, qX j h1, q1 j h4]
theorem st64 {a : Nat → Int32} (h48 : a 48 = 0) (x0 : Int32) (c : Nat) (h44 : a 44 = nI c) : ∃ a', f_X12_stores_64 x0 a = some a' ∧ a' 48 = 1 ∧ a' 44 = nI (c + 1) ∧ ∀ j, j < 69 → j ≠ 48 → j ≠ 44 → a' j = a j := by
  unfold f_X12_stores_64
  rw [h48, show (69 : Int32) + 3 * 0 = 69 from by decide +kernel, m_inI (i := (69 : Int32)) (pk_in 69 680 (by decide) (by decide +kernel)), mn_is, show (69 : Int32) + 1 = 70 from by decide +kernel, show (69 : Int32) + 2 = 71 from by decide +kernel, m_inI (i := (70 : Int32)) (pk_in 70 680 (by decide) (by decide +kernel)), m_inI (i := (71 : Int32)) (pk_in 71 680 (by decide) (by decide +kernel)), mn_is, mn_is, show (69 : Int32).toNatClampNeg = 69 from by decide +kernel, show (70 : Int32).toNatClampNeg = 70 from by decide +kernel, show (71 : Int32).toNatClampNeg = 71 from by decide +kernel]
  refine ⟨_, rfl, ?_, ?_, fun j h1 h2 h3 => ?_⟩
  · rw [upd_ne _ _ (show 48 ≠ 44 by decide), upd_same, upd_ne _ _ (show 48 ≠ 71 by decide), upd_ne _ _ (show 48 ≠ 70 by decide), upd_ne _ _ (show 48 ≠ 69 by decide), h48]; rfl
  · rw [upd_same, upd_ne _ _ (show 44 ≠ 48 by decide), upd_ne _ _ (show 44 ≠ 71 by decide), upd_ne _ _ (show 44 ≠ 70 by decide), upd_ne _ _ (show 44 ≠ 69 by decide), h44, nI_1]
  · rw [upd_ne _ _ h3, upd_ne _ _ h2, upd_ne _ _ (by omega), upd_ne _ _ (by omega), upd_ne _ _ (by omega)]
/-- a bit of a frame, and the other clock behind it -/
theorem fr_r (s : SX12) (b : Int32) {t h : Nat} (ht : t < 400) (hh : h ≤ t) {a : Nat → Int32} (hB : QB a t (t / 8 - (h + 7) / 8)) (h67 : 0 < t % 8 → a 67 = if t % 8 ≤ t - h then 1 else 0) :
    ∃ a', Option.bind (f_X12_framed (nI (t % 48)) b s a) (fun u => Option.bind (f_X12_ticks s u) (fun v => some v)) = some a' ∧ QB a' (t + 1) ((t + 1) / 8 - (h + 7) / 8) ∧ (0 < (t + 1) % 8 → a' 67 = if (t + 1) % 8 ≤ t + 1 - h then 1 else 0) ∧ ∀ j, j < 43 → a' j = a j := by
  obtain ⟨g0, g1, g2, g3, g4, g5, g6, g7, g8, g9, g10, g11, g12⟩ := id hB
  have h0 := g0.1.1
  unfold f_X12_framed
  rw [h0, m_gI (by decide), show (8 : Int32) = nI 8 from rfl, pk_rem (by omega) (by decide) (by decide), show t % 48 % 8 = t % 8 by omega]
  by_cases e0 : t % 8 = 0
  · rw [if_pos (show nI (t % 8) = 0 by rw [e0]; rfl), bso]
    have hB2 : QB (upd (upd a 67 1) 68 0) t (t / 8 - (h + 7) / 8) := QB_of hB (fun j hj _ _ _ _ _ _ _ _ _ => by rw [upd_ne _ _ (by omega), upd_ne _ _ (by omega)])
    obtain ⟨a', f1, f2, f3⟩ := tick_r s hB2 (fun e => by omega)
    refine ⟨a', by rw [f1, bso], ?_, fun _ => ?_, fun j hj => by rw [f3 j (by omega) (by omega), upd_ne _ _ (by omega), upd_ne _ _ (by omega)]⟩
    · rw [show (t + 1) / 8 = t / 8 by omega]; exact f2
    · rw [f3 67 (by decide) (by decide), if_pos (by omega)]; rfl
  · rw [if_neg (show ¬ nI (t % 8) = 0 from nI_ne0 (by omega) (by omega)), upd_ne _ _ (show 0 ≠ 68 by decide), h0]
    obtain ⟨a1, ha1⟩ : ∃ x, x = upd a 68 (((a 68) <<< ((1 : Int32) &&& 31)) ||| b) := ⟨_, rfl⟩
    rw [← ha1]
    have q1 : ∀ j, j ≠ 68 → a1 j = a j := fun j hj => by rw [ha1, upd_ne _ _ hj]
    clear ha1
    have hB1 : QB a1 t (t / 8 - (h + 7) / 8) := QB_of hB (fun j hj _ _ _ _ _ _ _ _ _ => q1 j (by omega))
    have plain : (t % 8 = 7 → t / 8 - (h + 7) / 8 = 0 ∧ (t + 1) / 8 - (h + 7) / 8 = 0) → ∃ a', Option.bind (some a1) (fun u => Option.bind (f_X12_ticks s u) (fun v => some v)) = some a' ∧ QB a' (t + 1) ((t + 1) / 8 - (h + 7) / 8) ∧ (0 < (t + 1) % 8 → a' 67 = if (t + 1) % 8 ≤ t + 1 - h then 1 else 0) ∧ ∀ j, j < 43 → a' j = a j := by
      intro hc
      obtain ⟨a', f1, f2, f3⟩ := tick_r s hB1 (fun e => (hc e).1)
      refine ⟨a', by rw [bso, f1, bso], ?_, fun hp => ?_, fun j hj => by rw [f3 j (by omega) (by omega), q1 j (by omega)]⟩
      · rw [show (t + 1) / 8 - (h + 7) / 8 = t / 8 - (h + 7) / 8 by
          by_cases e7 : t % 8 = 7
          · have := hc e7; omega
          · omega]
        exact f2
      · rw [f3 67 (by decide) (by decide), q1 67 (by decide), h67 (by omega)]
        by_cases e : t % 8 ≤ t - h
        · rw [if_pos e, if_pos (by omega)]
        · rw [if_neg e, if_neg (by omega)]
    by_cases e7 : t % 8 = 7
    · rw [if_pos (show nI (t % 8) = 8 - 1 by rw [e7]; decide), q1 67 (by decide), h67 (by omega)]
      by_cases e : t % 8 ≤ t - h
      · rw [if_pos e, if_pos rfl, m_gI (by decide)]
        unfold f_X12_stores
        rw [q1 48 (by decide), g9, if_neg (by decide)]
        obtain ⟨a2, s1, s2, s3, s4⟩ := st64 (a := a1) (by rw [q1 48 (by decide)]; exact g9) (nI (t % 48) / 8) (t / 8 - (h + 7) / 8) (by rw [q1 44 (by decide)]; exact g5)
        rw [s1, bso, bso]
        have hD2 : Dg a2 := Dg_of hB1.1 (fun j hj => s4 j (by omega) (by omega) (by omega))
        obtain ⟨a', f1, f2, f3, f4, f5⟩ := tick_1 s hD2 (t / 8 - (h + 7) / 8) s2 (by rw [s4 46 (by decide) (by decide) (by decide), q1 46 (by decide)]; exact g7) (by rw [s4 49 (by decide) (by decide) (by decide), q1 49 (by decide), g10, e7])
        have hcc : t / 8 - (h + 7) / 8 + 1 = (t + 1) / 8 - (h + 7) / 8 := by omega
        have all : ∀ j, j < 68 → j ≠ 44 → j ≠ 46 → j ≠ 48 → j ≠ 49 → a' j = a j := fun j h1 h2 h3 h4 h5 => by rw [f5 j (by omega) h3 h4 h5, s4 j (by omega) h4 h2, q1 j (by omega)]
        refine ⟨a', by rw [f1, bso], ⟨Dg_of g0 (fun j hj => all j (by omega) (by omega) (by omega) (by omega) (by omega)), ?_, ?_, ?_, ?_, ?_, ?_, ?_, ?_, f2, ?_, ?_, ?_⟩, fun hp => by omega, fun j hj => all j (by omega) (by omega) (by omega) (by omega) (by omega)⟩
        · rw [all 35 (by decide) (by decide) (by decide) (by decide) (by decide)]; exact g1
        · rw [all 36 (by decide) (by decide) (by decide) (by decide) (by decide)]; exact g2
        · rw [all 38 (by decide) (by decide) (by decide) (by decide) (by decide)]; exact g3
        · rw [all 43 (by decide) (by decide) (by decide) (by decide) (by decide)]; exact g4
        · rw [f5 44 (by decide) (by decide) (by decide) (by decide), s3, hcc]
        · rw [all 45 (by decide) (by decide) (by decide) (by decide) (by decide)]; exact g6
        · rw [f3, hcc]
        · rw [all 47 (by decide) (by decide) (by decide) (by decide) (by decide)]; exact g8
        · rw [f4, show 1000 * ((t + 1) % 8) = 0 by omega]
        · rw [all 50 (by decide) (by decide) (by decide) (by decide) (by decide)]; exact g11
        · rw [all 51 (by decide) (by decide) (by decide) (by decide) (by decide)]; exact g12
      · rw [if_neg e, if_neg (by decide)]
        exact plain (fun _ => by omega)
    · rw [if_neg (show ¬ nI (t % 8) = 8 - 1 from fun e => e7 ((nI_eq (a := t % 8) (b := 7) (by omega) (by omega)).mp (e.trans (by decide))))]
      exact plain (fun e => absurd e e7)
theorem lock_r (s : SX12) {t h N : Nat} (ht : t < N) (hN : N ≤ 384) (hh : h ≤ t) (b : Int32) (hb : t % 8 = 0 → rl (t / 8 % 6) = b) {a : Nat → Int32} (H : QL a t h (t / 8 - (h + 7) / 8)) :
    ∃ a', f_X12_hears b s a = some a' ∧ (∀ j, j = 32 ∨ j = 33 → a' j = a j) ∧ QL a' (t + 1) h ((t + 1) / 8 - (h + 7) / 8) := by
  obtain ⟨hB, g34, g37, g39, g40, g41, g67⟩ := H
  unfold f_X12_hears
  have hD := hB.1.1
  rw [g34, if_neg (by decide), rn_is hD, bso, m_gI (by decide), mn_is, g39, nI_1, show (48 : Int32) = nI 48 from rfl, pk_rem (a := t % 48 + 1) (by omega) (by decide) (by decide), upd_ne _ _ (show 34 ≠ 40 by decide), upd_ne _ _ (show 34 ≠ 39 by decide), g34, if_neg (by decide), upd_ne _ _ (show 40 ≠ 39 by decide), g40, nI_1, show t - h + 1 = t + 1 - h by omega, show (t % 48 + 1) % 48 = (t + 1) % 48 by omega]
  obtain ⟨a1, ha1⟩ : ∃ x, x = upd (upd a 39 (nI ((t + 1) % 48))) 40 (nI (t + 1 - h)) := ⟨_, rfl⟩
  rw [← ha1]
  have q1 : ∀ j, j ≠ 39 → j ≠ 40 → a1 j = a j := fun j h1 h2 => by rw [ha1, upd_ne _ _ h2, upd_ne _ _ h1]
  have p39 : a1 39 = nI ((t + 1) % 48) := by rw [ha1]; rfl
  have p40 : a1 40 = nI (t + 1 - h) := by rw [ha1]; rfl
  clear ha1
  have hB1 : QB a1 t (t / 8 - (h + 7) / 8) := QB_of hB (fun j hj _ _ _ _ _ i3 i4 _ _ => q1 j i3 i4)
  -- what is left behind the history
  have rest : ∀ a2 : Nat → Int32, (∀ j, j ≠ 41 → j ≠ 42 → a2 j = a1 j) → a2 41 = 0 → ∃ a', Option.bind (f_X12_locked_122 (nI (t % 48)) b s a2) (fun u => Option.bind (f_X12_ticks s u) (fun v => some v)) = some a' ∧ (∀ j, j = 32 ∨ j = 33 → a' j = a j) ∧ QL a' (t + 1) h ((t + 1) / 8 - (h + 7) / 8) := by
    intro a2 q2 p41
    have hB2 : QB a2 t (t / 8 - (h + 7) / 8) := QB_of hB1 (fun j hj _ _ _ _ _ _ _ i5 i6 => q2 j i5 i6)
    obtain ⟨a4, e1, e2⟩ := l122 hB2.1.1 s b (q := t % 48) (Nat.mod_lt _ (by decide)) hB2.2.2.2.2.1
    have hB4 : QB a4 t (t / 8 - (h + 7) / 8) := QB_of hB2 (fun j hj _ _ _ _ _ _ _ _ _ => e2 j (by omega) (by omega) (by omega) (by omega) (by omega))
    obtain ⟨a', f1, f2, f3, f4⟩ := fr_r s b (by omega) hh hB4 (fun hp => by rw [e2 67 (by decide) (by decide) (by decide) (by decide) (by decide), q2 67 (by decide) (by decide), q1 67 (by decide) (by decide)]; exact g67 hp)
    have low : ∀ j, j < 43 → j ≠ 39 → j ≠ 40 → j ≠ 41 → j ≠ 42 → a' j = a j := fun j h0 h1 h2 h3 h4 => by rw [f4 j h0, e2 j (by omega) (by omega) (by omega) (by omega) (by omega), q2 j h3 h4, q1 j h1 h2]
    have mid : ∀ j, j < 43 → a' j = a2 j := fun j h0 => by rw [f4 j h0, e2 j (by omega) (by omega) (by omega) (by omega) (by omega)]
    refine ⟨a', by rw [e1]; exact f1, fun j hj => low j (by omega) (by omega) (by omega) (by omega) (by omega), f2, ?_, ?_, ?_, ?_, ?_, f3⟩
    · rw [low 34 (by decide) (by decide) (by decide) (by decide) (by decide)]; exact g34
    · rw [low 37 (by decide) (by decide) (by decide) (by decide) (by decide)]; exact g37
    · rw [mid 39 (by decide), q2 39 (by decide) (by decide)]; exact p39
    · rw [mid 40 (by decide), q2 40 (by decide) (by decide)]; exact p40
    · rw [mid 41 (by decide)]; exact p41
  unfold f_X12_locked
  rw [fx_is hB1.1.1 s (Nat.mod_lt _ (by decide)), bso]
  by_cases h0 : t % 8 = 0
  · rw [if_pos (show t % 48 % 8 = 0 by omega), if_neg (show ¬ (1 : Int32) = 0 by decide), ro_is hB1.1.1 s (Nat.mod_lt _ (by decide)), bso, if_pos (show t % 48 % 8 = 0 by omega), show t % 48 / 8 = t / 8 % 6 by omega, if_pos (hb h0)]
    unfold f_X12_locked_22
    rw [if_pos rfl]
    unfold f_X12_locked_47
    rw [q1 41 (by decide) (by decide), g41, show a1 6 = 4 from hB1.1.2.2.2.2.1, mn_is, show ((((0 : Int32) <<< ((1 : Int32) &&& 31)) ||| 0) &&& (((1 : Int32) <<< ((4 : Int32) &&& 31)) - 1)) = 0 from by decide +kernel]
    obtain ⟨r, hr⟩ : ∃ r, f_X12_lesser (upd a1 41 0 6) (upd a1 41 0 42 + 1) = some r := by
      unfold f_X12_lesser
      split
      · exact ⟨_, rfl⟩
      · exact ⟨_, rfl⟩
    rw [hr, bso, upd_ne _ _ (show 41 ≠ 42 by decide), upd_same, show f_X12_ones 0 = some 0 from by decide +kernel, bso, upd_ne _ _ (show 5 ≠ 42 by decide), upd_ne _ _ (show 5 ≠ 41 by decide), show a1 5 = 2 from hB1.1.2.2.2.1, if_pos (by decide)]
    exact rest _ (fun j h1 h2 => by rw [upd_ne _ _ h2, upd_ne _ _ h1]) (by rw [upd_ne _ _ (show 41 ≠ 42 by decide), upd_same])
  · rw [if_neg (show ¬ t % 48 % 8 = 0 by omega), if_pos rfl]
    exact rest a1 (fun _ _ _ => rfl) (by rw [q1 41 (by decide) (by decide)]; exact g41)
