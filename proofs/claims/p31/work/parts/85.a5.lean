/-! the link: what is said, what is heard -/
abbrev SND : Type := Int32 × Int32 × (Nat → Int32)
theorem dq2_is (a b : Int32) (m : Nat) : ∀ (k f : Nat) (_ : k + m = 8) (_ : 1 ≤ k) (_ : m ≤ f) (v : Nat → Int32), ∃ v', f_X6_dequeue_2 a b (f + 1) (nI k) v = some ((a - 1, 0, b), v') ∧ (∀ j, k ≤ j → j < 8 → v' (j - 1) = v j) ∧ ∀ j, j + 1 < k → v' j = v j := by
  induction m with
  | zero =>
    intro k f h _ _ v
    rw [f_X6_dequeue_2_s, if_pos (show (8 : Int32) ≤ nI k from nI_le (a := 8) (by omega) (by omega))]
    exact ⟨v, rfl, fun j h1 h2 => by omega, fun j _ => rfl⟩
  | succ m ih =>
    intro k f h h1 hf v
    obtain ⟨f, rfl⟩ : ∃ q, f = q + 1 := ⟨f - 1, by omega⟩
    rw [f_X6_dequeue_2_s, if_neg (show ¬ (8 : Int32) ≤ nI k from nI_ge (b := 8) (by omega) (by omega)), show nI k - 1 = nI (k - 1) from pk_sub (b := 1) h1, nI_1, m_inI (nI_in (by omega) (by decide)), m_inI (nI_in (by omega) (by decide)), nI_clamp (by omega), nI_clamp (by omega)]
    obtain ⟨v', e1, e2, e3⟩ := ih (k + 1) f (by omega) (by omega) (by omega) (upd v (k - 1) (v k))
    refine ⟨v', e1, fun j j1 j2 => ?_, fun j j1 => ?_⟩
    · by_cases c : j = k
      · subst c
        rw [e3 (j - 1) (by omega), upd_same]
      · rw [e2 j (by omega) j2, upd_ne _ _ (by omega)]
    · rw [e3 j (by omega), upd_ne _ _ (by omega)]
theorem kp3_is (a b c d x : Int32) (m : Nat) : ∀ (f : Nat) (_ : m ≤ 7) (_ : m ≤ f) (v : Nat → Int32), ∃ v', f_X0_keep_3 a b c d x (f + 1) (nI m) v = some ((a + 1, b, c, d), v') ∧ v' 0 = x ∧ (∀ j, 1 ≤ j → j ≤ m → v' j = v (j - 1)) ∧ ∀ j, m < j → v' j = v j := by
  induction m with
  | zero =>
    intro f _ _ v
    rw [f_X0_keep_3_s, if_pos (show nI 0 ≤ 0 by decide)]
    exact ⟨_, rfl, upd_same _ _ _, fun j h1 h2 => by omega, fun j h1 => upd_ne _ _ (by omega)⟩
  | succ m ih =>
    intro f h hf v
    obtain ⟨f, rfl⟩ : ∃ q, f = q + 1 := ⟨f - 1, by omega⟩
    rw [f_X0_keep_3_s, if_neg (nI_nle (by omega) (by omega)), nI_pred, pk_m1, m_inI (nI_in (by omega) (by decide)), m_inI (nI_in (by omega) (by decide)), nI_clamp (by omega), nI_clamp (by omega)]
    obtain ⟨v', e1, e2, e3, e4⟩ := ih f (by omega) (by omega) (upd v (m + 1) (v m))
    refine ⟨v', e1, e2, fun j h1 h2 => ?_, fun j h1 => ?_⟩
    · by_cases c : j = m + 1
      · subst c
        rw [e4 _ (by omega), upd_same, Nat.add_sub_cancel]
      · rw [e3 j h1 (by omega), upd_ne _ _ (by omega)]
    · rw [e4 j (by omega), upd_ne _ _ (by omega)]
/-- the ear heard all that the sender sent: many VALUES were said, wt of them wait -/
def ES (said : Nat → Int32) (many : Nat) (S : SND) (e : SX0) (v : Nat → Int32) : Prop := ∃ (wt bg tk : Nat) (pa : Int32), S.1 = nI wt ∧ S.2.1 = nI bg ∧ e = (nI tk, 0, nI bg, pa) ∧ tk + wt = many ∧ many ≤ 8 ∧ bg ≤ 9 ∧ (wt = 0 → bg = 0) ∧ (∀ k, k < wt → S.2.2 k = said (tk + k)) ∧ (∀ k, k < tk → v k = said (tk - 1 - k)) ∧ (bg = 0 → pa = 0) ∧ (0 < bg → ∃ c, c < 256 ∧ said tk = nI c ∧ pa = nI (c / 2 ^ (9 - bg)))
/-- a bit of the link goes: from sender S to S', bit x -/
def LK (S : SND) (x : Int32) (S' : SND) : Prop := f_X6_linkBit (S.1, S.2.1, 0) S.2.2 = some (x, (S'.1, S'.2.1, 0), S'.2.2)
theorem LK.lc {S S' : SND} {x : Int32} (h : LK S x S') (lc : Int32) : f_X6_linkBit (S.1, S.2.1, lc) S.2.2 = some (x, (S'.1, S'.2.1, lc), S'.2.2) := by
  obtain ⟨a, b, v⟩ := S
  obtain ⟨a', b', v'⟩ := S'
  unfold LK at h
  unfold f_X6_linkBit f_X6_linkBit_51 f_X6_dequeue at h ⊢
  try dsimp only at h ⊢
  by_cases c1 : a = 0
  · rw [if_pos c1] at h ⊢
    injection h with h
    injection h with h1 h
    injection h with h2 h3
    injection h2 with h4 h5
    injection h5 with h5 _
    subst h1 h4 h5 h3
    rfl
  · rw [if_neg c1] at h ⊢
    by_cases c2 : b ≤ 8
    · rw [if_pos c2] at h ⊢
      by_cases c3 : b = 0
      · rw [if_pos c3] at h ⊢
        injection h with h
        injection h with h1 h
        injection h with h2 h3
        injection h2 with h4 h5
        injection h5 with h5 _
        subst h1 h4 h5 h3
        rfl
      · rw [if_neg c3] at h ⊢
        injection h with h
        injection h with h1 h
        injection h with h2 h3
        injection h2 with h4 h5
        injection h5 with h5 _
        subst h1 h4 h5 h3
        rfl
    · rw [if_neg c2] at h ⊢
      obtain ⟨w1, e1, f1, g1⟩ := dq2_is a 0 7 1 65535 (by omega) (by omega) (by omega) v
      obtain ⟨w2, e2, f2, g2⟩ := dq2_is a lc 7 1 65535 (by omega) (by omega) (by omega) v
      have e1 : f_X6_dequeue_2 a 0 65536 1 v = _ := e1
      have e2 : f_X6_dequeue_2 a lc 65536 1 v = _ := e2
      have hw : ∀ (l : Int32) (f : Nat) (k : Int32) (v w w' : Nat → Int32) (s s' : SX6) (l' : Int32), f_X6_dequeue_2 a l f k v = some (s, w) → f_X6_dequeue_2 a l' f k v = some (s', w') → w = w' := by
        intro l f
        induction f with
        | zero => intro k v w w' s s' l' q; exact absurd q (by unfold f_X6_dequeue_2; intro z; cases z)
        | succ f ih =>
          intro k v w w' s s' l' q q'
          rw [f_X6_dequeue_2_s] at q q'
          by_cases c : (8 : Int32) ≤ k
          · rw [if_pos c] at q q'
            injection q with q
            injection q with _ q
            injection q' with q'
            injection q' with _ q'
            rw [← q, ← q']
          · rw [if_neg c] at q q'
            obtain ⟨v1, q⟩ := m_ino q
            obtain ⟨v2, q⟩ := m_ino q
            rw [m_inI v1, m_inI v2] at q'
            exact ih _ _ _ _ _ _ _ q q'
      have := hw 0 65536 1 v w1 w2 _ _ lc e1 e2
      subst this
      rw [e1] at h
      rw [e2]
      have h : (some ((1 : Int32), (a - 1, (0 : Int32), (0 : Int32)), w1) : Option (Int32 × SX6 × (Nat → Int32))) = some (x, (a', b', 0), v') := h
      injection h with h
      injection h with h1 h
      injection h with h2 h3
      injection h2 with h4 h5
      injection h5 with h5 _
      subst h1 h4 h5 h3
      rfl
theorem lk_ex (S : SND) : ∃ x S', LK S x S' := by
  obtain ⟨⟨x, ⟨a, b, c⟩, v⟩, h, _⟩ := linkBit_c (S.1, S.2.1, 0) S.2.2
  have hc : c = 0 := by
    obtain ⟨a0, b0, v0⟩ := S
    unfold f_X6_linkBit f_X6_linkBit_51 f_X6_dequeue at h
    try dsimp only at h
    by_cases c1 : a0 = 0
    · rw [if_pos c1] at h
      injection h with h
      injection h with h1 h
      injection h with h2 h3
      injection h2 with h4 h5
      injection h5 with h5 h6
      exact h6.symm
    · rw [if_neg c1] at h
      by_cases c2 : b0 ≤ 8
      · rw [if_pos c2] at h
        by_cases c3 : b0 = 0
        · rw [if_pos c3] at h
          injection h with h
          injection h with h1 h
          injection h with h2 h3
          injection h2 with h4 h5
          injection h5 with h5 h6
          exact h6.symm
        · rw [if_neg c3] at h
          injection h with h
          injection h with h1 h
          injection h with h2 h3
          injection h2 with h4 h5
          injection h5 with h5 h6
          exact h6.symm
      · rw [if_neg c2] at h
        obtain ⟨w1, e1, f1, g1⟩ := dq2_is a0 0 7 1 65535 (by omega) (by omega) (by omega) v0
        have e1 : f_X6_dequeue_2 a0 0 65536 1 v0 = _ := e1
        rw [e1] at h
        have h : (some ((1 : Int32), (a0 - 1, (0 : Int32), (0 : Int32)), w1) : Option (Int32 × SX6 × (Nat → Int32))) = some (x, (a, b, c), v) := h
        injection h with h
        injection h with h1 h
        injection h with h2 h3
        injection h2 with h4 h5
        injection h5 with h5 h6
        exact h6.symm
  subst hc
  exact ⟨x, (a, b, v), h⟩
/-- a bit of the link, said and heard -/
theorem es_step {said : Nat → Int32} (hsd : ∀ k, ∃ c, c < 256 ∧ said k = nI c) {many : Nat} {S S' : SND} {x : Int32} (hk : LK S x S') {e e' : SX0} {v v' : Nat → Int32} (h : ES said many S e v) (ht : f_X0_take x e v = some (e', v')) : ES said many S' e' v' := by
  obtain ⟨a, b, w⟩ := S
  obtain ⟨a', b', w'⟩ := S'
  obtain ⟨wt, bg, tk, pa, h1, h2, rfl, h4, h5, h6, h7, h8, h9, h10, h11⟩ := h
  have h1 : a = nI wt := h1
  have h2 : b = nI bg := h2
  have g8 : ∀ k, k < wt → w k = said (tk + k) := h8
  subst h1
  subst h2
  unfold LK at hk
  have hk : f_X6_linkBit (nI wt, nI bg, 0) w = some (x, (a', b', 0), w') := hk
  unfold f_X6_linkBit f_X6_linkBit_51 f_X6_dequeue at hk
  unfold f_X0_take at ht
  dsimp only at hk ht
  rcases Nat.eq_zero_or_pos wt with c1 | c1
  · have c2 := h7 c1
    subst c1
    subst c2
    rw [if_pos (show nI 0 = 0 from rfl)] at hk
    injection hk with hk
    injection hk with k1 hk
    injection hk with k2 k3
    injection k2 with k4 k5
    injection k5 with k5 _
    subst k1 k3 k4 k5
    rw [if_pos (show nI 0 = 0 from rfl), if_neg (by decide)] at ht
    injection ht with ht
    injection ht with t1 t2
    subst t1 t2
    exact ⟨0, 0, tk, pa, rfl, rfl, rfl, h4, h5, by omega, fun _ => rfl, fun k hk => by omega, h9, h10, fun z => by omega⟩
  · rw [if_neg (nI_ne0 c1 (by omega))] at hk
    rcases Nat.lt_or_ge 8 bg with c2 | c2
    · have c3 : bg = 9 := by omega
      subst c3
      rw [if_neg (show ¬ nI 9 ≤ 8 by decide)] at hk
      obtain ⟨w1, e1, f1, g1⟩ := dq2_is (nI wt) 0 7 1 65535 (by omega) (by omega) (by omega) w
      have e1 : f_X6_dequeue_2 (nI wt) 0 65536 1 w = _ := e1
      rw [e1] at hk
      have hk : (some ((1 : Int32), (nI wt - 1, (0 : Int32), (0 : Int32)), w1) : Option (Int32 × SX6 × (Nat → Int32))) = some (x, (a', b', 0), w') := hk
      injection hk with hk
      injection hk with k1 hk
      injection hk with k2 k3
      injection k2 with k4 k5
      injection k5 with k5 _
      subst k1 k3 k4 k5
      rw [if_neg (show ¬ nI 9 = 0 by decide), if_pos (show 8 < nI 9 by decide), if_pos rfl] at ht
      unfold f_X0_keep f_X0_forget at ht
      obtain ⟨v1, e2, f2, f3, f4⟩ := kp3_is (nI tk) 0 (nI 9) pa pa 7 65535 (by omega) (by omega) v
      have e2 : f_X0_keep_3 (nI tk) 0 (nI 9) pa pa 65536 7 v = _ := e2
      dsimp only at ht
      rw [e2] at ht
      have ht : (some (((nI tk + 1, (0 : Int32), (0 : Int32), (0 : Int32)) : SX0), v1) : Option (SX0 × (Nat → Int32))) = some (e', v') := ht
      injection ht with ht
      injection ht with t1 t2
      subst t1 t2
      obtain ⟨c, hc1, hc2, hc3⟩ := h11 (by omega)
      refine ⟨wt - 1, 0, tk + 1, 0, pk_sub (b := 1) c1, rfl, by rw [nI_1]; rfl, by omega, h5, by omega, fun _ => rfl, fun k hk => ?_, fun k hk => ?_, fun _ => rfl, fun z => by omega⟩
      · have q := f1 (k + 1) (by omega) (by omega)
        rw [Nat.add_sub_cancel] at q
        show w1 k = _
        rw [q, g8 (k + 1) (by omega)]
        congr 1
        omega
      · by_cases c0 : k = 0
        · subst c0
          rw [f2, hc3, Nat.sub_zero, Nat.add_sub_cancel, hc2]
          simp
        · rw [f3 k (by omega) (by omega), h9 (k - 1) (by omega)]
          congr 1
          omega
    · rw [if_pos (show nI bg ≤ 8 from nI_le (b := 8) c2 (by omega))] at hk
      by_cases c3 : bg = 0
      · subst c3
        rw [if_pos (show nI 0 = 0 from rfl)] at hk
        injection hk with hk
        injection hk with k1 hk
        injection hk with k2 k3
        injection k2 with k4 k5
        injection k5 with k5 _
        subst k1 k3 k4 k5
        rw [if_pos (show nI 0 = 0 from rfl), if_pos rfl] at ht
        injection ht with ht
        injection ht with t1 t2
        subst t1 t2
        obtain ⟨c, hc1, hc2⟩ := hsd tk
        refine ⟨wt, 1, tk, pa, rfl, rfl, rfl, h4, h5, by omega, fun z => by omega, h8, h9, fun z => by omega, fun _ => ⟨c, hc1, hc2, ?_⟩⟩
        rw [h10 rfl, Nat.div_eq_of_lt (by omega)]
        rfl
      · rw [if_neg (nI_ne0 (by omega) (by omega))] at hk
        obtain ⟨c, hc1, hc2, hc3⟩ := h11 (by omega)
        have e1 : ((w 0) >>> ((8 - nI bg) &&& 31)) &&& 1 = nI (c / 2 ^ (8 - bg) % 2) := by
          rw [g8 0 c1, Nat.add_zero, hc2, show (8 : Int32) - nI bg = nI (8 - bg) from pk_sub (a := 8) c2, pk_shrN (by omega) _ (8 - bg) (s_l (8 - bg) (by omega))]
          exact pk_andN (m := 1) (Nat.lt_of_le_of_lt (Nat.div_le_self _ _) (by omega)) 1 (by decide)
        rw [e1] at hk
        injection hk with hk
        injection hk with k1 hk
        injection hk with k2 k3
        injection k2 with k4 k5
        injection k5 with k5 _
        subst k1 k3 k4 k5
        rw [if_neg (nI_ne0 (by omega) (by omega)), if_neg (show ¬ 8 < nI bg from nI_nlt (a := 8) (b := bg) c2 (by omega))] at ht
        injection ht with ht
        injection ht with t1 t2
        subst t1 t2
        refine ⟨wt, bg + 1, tk, _, rfl, by show nI bg + 1 = _; rw [nI_1], by rw [nI_1], h4, h5, by omega, fun z => by omega, h8, h9, fun z => by omega, fun _ => ⟨c, hc1, hc2, ?_⟩⟩
        rw [hc3, show (2 : Int32) = nI 2 from rfl, pk_mul, nI_add]
        congr 1
        have e2 : 9 - bg = (8 - bg) + 1 := by omega
        rw [e2, show 9 - (bg + 1) = 8 - bg by omega, Nat.pow_succ, ← Nat.div_div_eq_div_mul]
        omega
/-- the senders at each bit of the line from A to B -/
def LSD (L R : Nat) (ro : Nat → Int32) (b : Nat → Int8) (A B : Nat) (S : Nat → SND) : Prop := ∀ j, A ≤ j → j < B → (j % L = 0 ∧ ro (j / L % R) = 3 → LK (S j) (b j).toInt32 (S (j + 1))) ∧ (¬ (j % L = 0 ∧ ro (j / L % R) = 3) → S (j + 1) = S j)
theorem lk_0 {S S' : SND} {x : Int32} (h : LK S x S') (h0 : S.1 = 0) : S' = S := by
  obtain ⟨a, b, v⟩ := S
  obtain ⟨a', b', v'⟩ := S'
  have h0 : a = 0 := h0
  unfold LK f_X6_linkBit at h
  dsimp only at h
  rw [if_pos h0] at h
  injection h with h
  injection h with _ h
  injection h with h2 h3
  injection h2 with h4 h5
  injection h5 with h5 _
  rw [h4, h5, h3]
theorem es_hear {L R : Nat} {ro : Nat → Int32} {b : Nat → Int8} {said : Nat → Int32} (hsd : ∀ k, ∃ c, c < 256 ∧ said k = nI c) {many A B : Nat} {S : Nat → SND} (hS : LSD L R ro b A B S) {j : Nat} (h1 : A ≤ j) (h2 : j < B) {md : Int32} {e e' : SX0} {v v' : Nat → Int32} (he : ES said many (S j) e v) (hm : ¬ md = 2 → (S j).1 = 0) (hr : ER md L R ro j (b j).toInt32 e v e' v') : ES said many (S (j + 1)) e' v' ∧ (¬ md = 2 → (S (j + 1)).1 = 0) := by
  obtain ⟨g1, g2⟩ := hS j h1 h2
  rcases hr with ⟨q1, q2, q3, q4⟩ | ⟨q1, q2, q3⟩
  · exact ⟨es_step hsd (g1 ⟨q2, q3⟩) he q4, fun z => absurd q1 z⟩
  · subst q2
    have hSS : S (j + 1) = S j := by
      by_cases c : j % L = 0 ∧ ro (j / L % R) = 3
      · exact lk_0 (g1 c) (hm (fun z => q1 ⟨z, c.1, c.2⟩))
      · exact g2 c
    rw [hSS]
    refine ⟨?_, hm⟩
    rcases q3 with q3 | ⟨q3, q4⟩
    · rw [q3]; exact he
    · have h0 := hm q3
      obtain ⟨wt, bg, tk, pa, k1, k2, rfl, k4, k5, k6, k7, k8, k9, k10, k11⟩ := he
      have c0 : wt = 0 := (nI_eq (b := 0) (by omega) (by omega)).mp (by rw [← k1]; exact h0)
      have c1 := k7 c0
      subst c1
      rw [q4]
      exact ⟨wt, 0, tk, 0, k1, k2, rfl, k4, k5, by omega, fun _ => rfl, k8, k9, fun _ => rfl, fun z => by omega⟩
theorem lis5_is {nb N : Nat} (hnb : nb < 2 ^ 31) (hN : N ≤ nb) (hN2 : N ≤ 4500) {L R K D : Nat} {ro : Nat → Int32} {p : SX5} (h : PV L R K D ro p) {b : Nat → Int8} (hl : LN L R ro b N) (hc : CK L R ro p nb N b) {said : Nat → Int32} (hsd : ∀ k, ∃ c, c < 256 ∧ said k = nI c) {many A : Nat} {S : Nat → SND} (hS : LSD L R ro b A N S) {M : Nat} (hM : M ≤ N) (m : Nat) : ∀ (n f : Nat) (_ : n + m = M) (_ : m ≤ f) (_ : A ≤ n) (s : SX4) (u : SX1) (w : Nat → Int32) (st : SX7) (e : SX0) (v : Nat → Int32) (_ : RX L R K ro b 0 n s u w) (_ : ST L D n st) (_ : ES said many (S n) e v) (_ : ¬ s.1 = 2 → (S n).1 = 0), Tt (f_X9_listen_5 (nI M) nb p ro (nI N) b (f + 1) (nI n) s u w st e v) (fun z => z.1 = nI M ∧ RX L R K ro b 0 M z.2.1 z.2.2.1 z.2.2.2.1 ∧ ST L D M z.2.2.2.2.1 ∧ ES said many (S M) z.2.2.2.2.2.1 z.2.2.2.2.2.2 ∧ (¬ z.2.1.1 = 2 → (S M).1 = 0) ∧ (s.1 = 2 → z.2.1.1 = 2)) := by
  induction m with
  | zero =>
    intro n f hm _ hA s u w st e v hr hst he hz
    have : n = M := by omega
    subst this
    rw [f_X9_listen_5_s, if_pos (nI_le (by omega) (by omega))]
    exact tt_r ⟨rfl, hr, hst, he, hz, id⟩
  | succ m ih =>
    intro n f hm hf hA s u w st e v hr hst he hz
    obtain ⟨f, rfl⟩ : ∃ q, f = q + 1 := ⟨f - 1, by omega⟩
    obtain ⟨s1, h1⟩ := tak_is hnb hN hN2 h hl hc (i := 0) (n := n) (by omega) hr
    have h1 := h1 u w st e v hr hst
    rw [Nat.zero_add] at h1
    rw [f_X9_listen_5_s, if_neg (nI_ge (by omega) (by omega)), nI_1]
    refine tt_b h1 ?_
    rintro ⟨y1, y2, y3, y4, y5, y6⟩ ⟨q0, q1, q2, q3, q4⟩
    obtain ⟨k1, k2⟩ := es_hear hsd hS hA (by omega) he hz q3
    refine tt_m (ih (n + 1) f (by omega) (by omega) (by omega) y1 y2 y3 y4 y5 y6 q1 q2 k1 (fun z => k2 (fun z2 => z (q4 z2)))) ?_
    rintro z ⟨r1, r2, r3, r4, r5, r6⟩
    exact ⟨r1, r2, r3, r4, r5, fun z2 => r6 (q4 z2)⟩
theorem lis_is {nb N : Nat} (hnb : nb < 2 ^ 31) (hN : N ≤ nb) (hN2 : N ≤ 4500) {L R K D : Nat} {ro : Nat → Int32} {p : SX5} (h : PV L R K D ro p) {b : Nat → Int8} (hl : LN L R ro b N) (hc : CK L R ro p nb N b) {said : Nat → Int32} (hsd : ∀ k, ∃ c, c < 256 ∧ said k = nI c) {many : Nat} {S : Nat → SND} {n M : Nat} (hS : LSD L R ro b n N S) (hn : n ≤ M) (hM : M ≤ N) (s : SX4) (u : SX1) (w : Nat → Int32) (st : SX7) (e : SX0) (v : Nat → Int32) (hr : RX L R K ro b 0 n s u w) (hst : ST L D n st) (he : ES said many (S n) e v) (hz : ¬ s.1 = 2 → (S n).1 = 0) : Tt (f_X9_listen nb (nI M) (nI n) (nI N) b s u w st e v p ro) (fun z => z.1 = nI M ∧ RX L R K ro b 0 M z.2.1 z.2.2.1 z.2.2.2.1 ∧ ST L D M z.2.2.2.2.1 ∧ ES said many (S M) z.2.2.2.2.2.1 z.2.2.2.2.2.2 ∧ (¬ z.2.1.1 = 2 → (S M).1 = 0) ∧ (s.1 = 2 → z.2.1.1 = 2)) := by
  unfold f_X9_listen
  exact lis5_is hnb hN hN2 h hl hc hsd hS hM (M - n) n 65535 (by omega) (by omega) (Nat.le_refl _) s u w st e v hr hst he hz
