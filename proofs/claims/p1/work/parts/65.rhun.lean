theorem ff_go (s : SX12) (n : Nat) (hn : n < 400) {a : Nat → Int32} (hD : Df a) (m : Nat) : ∀ (k f : Nat) (_ : k + m = n) (_ : m ≤ f), f_X12_fixedFrom_5 (nI n) s a 0 (f + 1) (nI ((k + 7) / 8)) (nI k) = some (nI ((n + 7) / 8)) := by
  induction m with
  | zero => intro k f hk _
            have : k = n := by omega
            subst this
            rw [f_X12_fixedFrom_5_s, if_pos (nI_le (Nat.le_refl _) (by omega))]
  | succ m ih =>
    intro k f hk hf
    obtain ⟨f, rfl⟩ : ∃ q, f = q + 1 := ⟨f - 1, by omega⟩
    rw [f_X12_fixedFrom_5_s, if_neg (nI_ge (by omega) (by omega)), rn_is hD, bso, m_gI (by decide), show (0 : Int32) + nI k = nI k from by rw [show (0 : Int32) = nI 0 from rfl, nI_add, Nat.zero_add], show (48 : Int32) = nI 48 from rfl, pk_rem (by omega) (by decide) (by decide), fx_is hD s (Nat.mod_lt _ (by decide)), bso]
    unfold f_X12_fixedFrom_33
    by_cases h8 : k % 8 = 0
    · rw [if_pos (show k % 48 % 8 = 0 by omega), if_neg (show ¬ (1 : Int32) = 0 by decide), nI_1, nI_1, show (k + 7) / 8 + 1 = (k + 1 + 7) / 8 by omega]
      exact ih (k + 1) f (by omega) (by omega)
    · rw [if_neg (show ¬ k % 48 % 8 = 0 by omega), if_pos rfl, nI_1, show nI ((k + 7) / 8) + 0 = nI ((k + 1 + 7) / 8) from by rw [show (0 : Int32) = nI 0 from rfl, nI_add]; congr 1; omega]
      exact ih (k + 1) f (by omega) (by omega)
theorem ff_is (s : SX12) (n : Nat) (hn : n < 400) {a : Nat → Int32} (hD : Df a) : f_X12_fixedFrom 0 (nI n) s a = some (nI ((n + 7) / 8)) := ff_go s n hn hD n 0 65535 (by omega) (by omega)
theorem la_is (s : SX12) {a : Nat → Int32} (hD : Df a) {C : Nat → Bool} (h : BW a C) (h0 : C 0 = true) : f_X12_leftAt 0 s a = some 0 := by
  unfold f_X12_leftAt
  rw [show (65536 : Nat) = 65535 + 1 from rfl, f_X12_leftAt_4_s, rn_is hD, bso, if_neg (by decide), show f_X12_isLeft 0 s a = some (if C 0 then 1 else 0) from il_is h s (p := 0) (by decide), h0, bso]
  rfl
/-- the reference's cells that both states share: c frames came and were read -/
def QB (a : Nat → Int32) (t c : Nat) : Prop := Dg a ∧ a 35 = 1 ∧ a 36 = 0 ∧ a 38 = 0 ∧ a 43 = 0 ∧ a 44 = nI c ∧ a 45 = 0 ∧ a 46 = nI c ∧ a 47 = 0 ∧ a 48 = 0 ∧ a 49 = nI (1000 * (t % 8)) ∧ a 50 = 0 ∧ a 51 = 0
theorem QB_of {a a' : Nat → Int32} {t c : Nat} (h : QB a t c) (e : ∀ j, j < 52 → j ≠ 32 → j ≠ 33 → j ≠ 31 → j ≠ 34 → j ≠ 37 → j ≠ 39 → j ≠ 40 → j ≠ 41 → j ≠ 42 → a' j = a j) : QB a' t c := by
  obtain ⟨g0, g1, g2, g3, g4, g5, g6, g7, g8, g9, g10, g11, g12⟩ := h
  refine ⟨Dg_of g0 (fun j hj => e j (by omega) (by omega) (by omega) (by omega) (by omega) (by omega) (by omega) (by omega) (by omega) (by omega)), ?_, ?_, ?_, ?_, ?_, ?_, ?_, ?_, ?_, ?_, ?_, ?_⟩
  · rw [e 35 (by decide) (by decide) (by decide) (by decide) (by decide) (by decide) (by decide) (by decide) (by decide) (by decide)]; exact g1
  · rw [e 36 (by decide) (by decide) (by decide) (by decide) (by decide) (by decide) (by decide) (by decide) (by decide) (by decide)]; exact g2
  · rw [e 38 (by decide) (by decide) (by decide) (by decide) (by decide) (by decide) (by decide) (by decide) (by decide) (by decide)]; exact g3
  · rw [e 43 (by decide) (by decide) (by decide) (by decide) (by decide) (by decide) (by decide) (by decide) (by decide) (by decide)]; exact g4
  · rw [e 44 (by decide) (by decide) (by decide) (by decide) (by decide) (by decide) (by decide) (by decide) (by decide) (by decide)]; exact g5
  · rw [e 45 (by decide) (by decide) (by decide) (by decide) (by decide) (by decide) (by decide) (by decide) (by decide) (by decide)]; exact g6
  · rw [e 46 (by decide) (by decide) (by decide) (by decide) (by decide) (by decide) (by decide) (by decide) (by decide) (by decide)]; exact g7
  · rw [e 47 (by decide) (by decide) (by decide) (by decide) (by decide) (by decide) (by decide) (by decide) (by decide) (by decide)]; exact g8
  · rw [e 48 (by decide) (by decide) (by decide) (by decide) (by decide) (by decide) (by decide) (by decide) (by decide) (by decide)]; exact g9
  · rw [e 49 (by decide) (by decide) (by decide) (by decide) (by decide) (by decide) (by decide) (by decide) (by decide) (by decide)]; exact g10
  · rw [e 50 (by decide) (by decide) (by decide) (by decide) (by decide) (by decide) (by decide) (by decide) (by decide) (by decide)]; exact g11
  · rw [e 51 (by decide) (by decide) (by decide) (by decide) (by decide) (by decide) (by decide) (by decide) (by decide) (by decide)]; exact g12
theorem o_nat : ∀ o : Fin 8, (nI (1000 * o.val) + (1000 + 0) = nI (1000 * (o.val + 1))) ∧ (1000 * 8 : Int32) = nI 8000 := by decide +kernel
theorem tick_r (s : SX12) {a : Nat → Int32} {t c : Nat} (h : QB a t c) (hc : t % 8 = 7 → c = 0) : ∃ a', f_X12_ticks s a = some a' ∧ QB a' (t + 1) c ∧ ∀ j, j ≠ 47 → j ≠ 49 → a' j = a j := by
  obtain ⟨g0, g1, g2, g3, g4, g5, g6, g7, g8, g9, g10, g11, g12⟩ := id h
  have h7 := g0.2.2.2.2.2
  have h0 := g0.1.1
  unfold f_X12_ticks
  have ho := o_nat ⟨t % 8, by omega⟩
  rw [h7, g10, ho.1, upd_ne _ _ (show 0 ≠ 49 by decide), h0, ho.2, upd_same]
  by_cases h7 : t % 8 = 7
  · have hle : nI 8000 ≤ nI (1000 * (t % 8 + 1)) := nI_le (show 8000 ≤ 1000 * (t % 8 + 1) by rw [h7]; decide) (show 1000 * (t % 8 + 1) < 2 ^ 31 by omega)
    rw [if_pos hle]
    unfold m_n
    dsimp only
    rw [show nI (1000 * (t % 8 + 1)) - nI 8000 = nI 0 from by rw [pk_sub (show 8000 ≤ 1000 * (t % 8 + 1) by omega), show 1000 * (t % 8 + 1) - 8000 = 0 by omega]]
    rw [upd_ne _ _ (show 48 ≠ 49 by decide), upd_ne _ _ (show 48 ≠ 49 by decide), g9, if_pos rfl, upd_ne _ _ (show 46 ≠ 49 by decide), upd_ne _ _ (show 46 ≠ 49 by decide), g7, hc h7, if_pos (by decide), upd_ne _ _ (show 47 ≠ 49 by decide), upd_ne _ _ (show 47 ≠ 49 by decide), g8]
    refine ⟨_, rfl, ?_, fun j h1 h2 => by rw [upd_ne _ _ h1, upd_ne _ _ h2, upd_ne _ _ h2]⟩
    have hc0 := hc h7
    subst hc0
    refine ⟨Dg_upd (Dg_upd (Dg_upd g0 (by decide)) (by decide)) (by decide), ?_, ?_, ?_, ?_, ?_, ?_, ?_, ?_, ?_, ?_, ?_, ?_⟩
    · exact g1
    · exact g2
    · exact g3
    · exact g4
    · exact g5
    · exact g6
    · exact g7
    · rfl
    · exact g9
    · rw [show 1000 * ((t + 1) % 8) = 0 by omega]; rfl
    · exact g11
    · exact g12
  · rw [if_neg (show ¬ nI 8000 ≤ nI (1000 * (t % 8 + 1)) from nI_ge (by omega) (by omega))]
    refine ⟨_, rfl, ?_, fun j _ h2 => upd_ne _ _ h2⟩
    refine ⟨Dg_upd g0 (by decide), g1, g2, g3, g4, g5, g6, g7, g8, g9, ?_, g11, g12⟩
    rw [show (t + 1) % 8 = t % 8 + 1 by omega]; exact upd_same _ _ _
/-- the reference's state as long as it hunts -/
def QH (a : Nat → Int32) (t : Nat) (C : Nat → Bool) : Prop := QB a t 0 ∧ a 34 = 0 ∧ a 37 = 0 ∧ a 40 = nI t ∧ BW a C
/-- and when it is locked since h bits -/
def QL (a : Nat → Int32) (t h c : Nat) : Prop := QB a t c ∧ a 34 = 2 ∧ a 37 = 1 ∧ a 39 = nI (t % 48) ∧ a 40 = nI (t - h) ∧ a 41 = 0 ∧ (0 < t % 8 → a 67 = if t % 8 ≤ t - h then 1 else 0)
theorem hunt_r (s : SX12) {t N : Nat} (ht : t < N) (hN : N ≤ 384) (C : Nat → Bool) (h0 : C 0 = true) (b : Int32) (hb : t % 8 = 0 → rl (t / 8 % 6) = b) {a : Nat → Int32} (h : QH a t C) :
    ∃ a', f_X12_hears b s a = some a' ∧ (∀ j, j = 32 ∨ j = 33 → a' j = a j) ∧
      ((tot (nxt C t b) = 1 ∧ 4 ≤ (t + 8) / 8 ∧ QL a' (t + 1) (t + 1) 0) ∨ (¬ (tot (nxt C t b) = 1 ∧ 4 ≤ (t + 8) / 8) ∧ QH a' (t + 1) (nxt C t b))) := by
  obtain ⟨g0, g1, g2, g3, g4⟩ := id h
  obtain ⟨a1, e1, e2, e3, e4⟩ := st_is s b t (by omega) C a g0.1.1 g3 g4
  have hc0 := nxt_0 C h0 t b hb
  have hp := tot_pos _ hc0
  have hle := tot_le (nxt C t b)
  have hB1 : QB a1 t 0 := QB_of g0 (fun j hj _ _ _ _ _ _ h40 _ _ => e4 j h40 (by omega) (by omega))
  have hD1 := hB1.1.1
  have hm : f_X12_leftMany s a1 = some (nI (tot (nxt C t b))) := lm_is e2 s
  unfold f_X12_hears
  rw [g1, if_pos rfl]
  unfold f_X12_hunted
  rw [e1, bso, hm, bso, if_neg (show ¬ nI (tot (nxt C t b)) = 0 from nI_ne0 (by omega) (by omega))]
  have stay : ¬ (tot (nxt C t b) = 1 ∧ 4 ≤ (t + 8) / 8) → ∃ a', (Option.bind (some a1) (fun u12 => Option.bind (f_X12_ticks s u12) (fun u79 => some u79))) = some a' ∧ (∀ j, j = 32 ∨ j = 33 → a' j = a j) ∧ ((tot (nxt C t b) = 1 ∧ 4 ≤ (t + 8) / 8 ∧ QL a' (t + 1) (t + 1) 0) ∨ (¬ (tot (nxt C t b) = 1 ∧ 4 ≤ (t + 8) / 8) ∧ QH a' (t + 1) (nxt C t b))) := by
    intro hn
    obtain ⟨a2, f1, f2, f3⟩ := tick_r s hB1 (fun _ => rfl)
    refine ⟨a2, by rw [bso, f1, bso], fun j hj => by rw [f3 j (by omega) (by omega), e4 j (by omega) (by omega) (by omega)], Or.inr ⟨hn, f2, ?_, ?_, ?_, ?_⟩⟩
    · rw [f3 34 (by decide) (by decide), e4 34 (by decide) (by decide) (by decide)]; exact g1
    · rw [f3 37 (by decide) (by decide), e4 37 (by decide) (by decide) (by decide)]; exact g2
    · rw [f3 40 (by decide) (by decide)]; exact e3
    · exact BW_of e2 (fun k h1 h2 => f3 k (by omega) (by omega))
  by_cases h1 : tot (nxt C t b) = 1
  · rw [h1, if_pos (show nI 1 = 1 from rfl), la_is s hD1 e2 hc0, bso]
    unfold f_X12_hunted_33
    rw [if_neg (by decide), e3, ff_is s (t + 1) (by omega) hD1, bso, show a1 4 = 4 from hB1.1.2.2.1]
    by_cases h4 : 4 ≤ (t + 8) / 8
    · rw [if_neg (show ¬ nI ((t + 1 + 7) / 8) < 4 from nI_nlt (a := (t + 1 + 7) / 8) (b := 4) (by omega) (by omega)), rn_is hD1, bso, m_gI (by decide), show (0 : Int32) + nI (t + 1) = nI (t + 1) from by rw [show (0 : Int32) = nI 0 from rfl, nI_add, Nat.zero_add], show (48 : Int32) = nI 48 from rfl, pk_rem (by omega) (by decide) (by decide)]
      unfold m_n
      dsimp only
      rw [cm_is (Df_upd hD1 (by decide)) s, bso, if_pos (by decide)]
      unfold f_X12_follows m_n
      rw [if_pos rfl]
      dsimp only
      rw [bso, bso]
      obtain ⟨a9, ha9⟩ : ∃ x, x = (upd (upd (upd (upd (upd (upd (upd (upd (upd (upd a1 39 (nI ((t + 1) % 48))) 34 2) 40 0) 41 0) 42 0) 63 0) 65 0) 67 0) 52 (-1)) 37 ((upd (upd (upd (upd (upd (upd (upd (upd (upd a1 39 (nI ((t + 1) % 48))) 34 2) 40 0) 41 0) 42 0) 63 0) 65 0) 67 0) 52 (-1)) 37 + 1)) := ⟨_, rfl⟩
      rw [← ha9]
      have q9 : ∀ j, j < 124 → j ≠ 39 → j ≠ 34 → j ≠ 40 → j ≠ 41 → j ≠ 42 → j ≠ 63 → j ≠ 65 → j ≠ 67 → j ≠ 52 → j ≠ 37 → a9 j = a1 j := by
        intro j h0 h1 h2 h3 h4 h5 h6 h7 h8 h9 h10
        rw [ha9, upd_ne _ _ h10, upd_ne _ _ h9, upd_ne _ _ h8, upd_ne _ _ h7, upd_ne _ _ h6, upd_ne _ _ h5, upd_ne _ _ h4, upd_ne _ _ h3, upd_ne _ _ h2, upd_ne _ _ h1]
      have hB9 : QB a9 t 0 := QB_of hB1 (fun j hj _ _ _ i1 i2 i3 i4 i5 i6 => q9 j (by omega) i3 i1 i4 i5 i6 (by omega) (by omega) (by omega) (by omega) i2)
      obtain ⟨a2, f1, f2, f3⟩ := tick_r s hB9 (fun _ => rfl)
      refine ⟨a2, by rw [f1, bso], fun j hj => by rw [f3 j (by omega) (by omega), q9 j (by omega) (by omega) (by omega) (by omega) (by omega) (by omega) (by omega) (by omega) (by omega) (by omega) (by omega), e4 j (by omega) (by omega) (by omega)], Or.inl ⟨rfl, h4, f2, ?_, ?_, ?_, ?_, ?_, ?_⟩⟩
      · rw [f3 34 (by decide) (by decide), ha9]; rfl
      · rw [f3 37 (by decide) (by decide), ha9]
        show (upd (upd (upd (upd (upd (upd (upd (upd (upd a1 39 (nI ((t + 1) % 48))) 34 2) 40 0) 41 0) 42 0) 63 0) 65 0) 67 0) 52 (-1)) 37 + 1 = 1
        show a1 37 + 1 = 1
        rw [e4 37 (by decide) (by decide) (by decide), g2]; rfl
      · rw [f3 39 (by decide) (by decide), ha9]; rfl
      · rw [f3 40 (by decide) (by decide), ha9, Nat.sub_self]; rfl
      · rw [f3 41 (by decide) (by decide), ha9]; rfl
      · intro hpos
        rw [f3 67 (by decide) (by decide), ha9, if_neg (by omega)]; rfl
    · rw [if_pos (show nI ((t + 1 + 7) / 8) < 4 from nI_lt (b := 4) (by omega) (by omega))]
      have := stay (fun e => h4 e.2)
      rw [h1] at this
      exact this
  · rw [if_neg (show ¬ nI (tot (nxt C t b)) = 1 from fun e => h1 ((nI_eq (b := 1) (by omega) (by omega)).mp e))]
    unfold f_X12_hunted_33
    rw [if_pos rfl]
    exact stay (fun e => h1 e.1)
