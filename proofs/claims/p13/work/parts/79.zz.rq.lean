/-! The acts leave the scheme alone, the undone states too. -/
def VB (c : Nat → Int32) (a : Nat → Int32) (o : Nat) : Prop := ∀ k, k < 21 → a (o + k) = c k
def QB (c : Nat → Int32) (a : Nat → Int32) (o : Nat) : Prop := IB a o ∧ VB c a o
theorem QB.c {c a a' : Nat → Int32} {o o' : Nat} (h : QB c a o) (e : ∀ k, k < 133 → a' (o' + k) = a (o + k)) : QB c a' o' := ⟨h.1.c e, fun k hk => (e k (by omega)).trans (h.2 k hk)⟩
theorem VB.fr {c a a' : Nat → Int32} (h : VB c a 0) (f : FrT a a') : VB c a' 0 := fun k hk => by
  have e := h k hk
  rw [Nat.zero_add] at e ⊢
  exact (f k (Or.inl hk)).trans e
def KQ (c : Nat → Int32) (un : Nat → Int32) (u : Nat) : Prop := u ≤ 6 ∧ ∀ j, j < u → QB c un (133 * j)
def KPq (c : Nat → Int32) (ra re le be so va si : Int32) (w : Int64) (wa bd x : Int32) (q : SX12 × (Nat → Int32) × (Nat → Int8)) : Prop := ∃ u', q.1 = (ra, nI u', re, le, be, so, va, si, w, wa, bd, x) ∧ KQ c q.2.1 u'
def AQ (c : Nat → Int32) (a : Nat → Int32) (u : Int32) (a' un' : Nat → Int32) : Prop := QB c a' 0 ∧ (∃ u' : Nat, u = nI u' ∧ KQ c un' u') ∧ ∀ j, 133 ≤ j → a' j = a j
theorem kq119 {cq : Nat → Int32} (ra re le be so va si : Int32) (w : Int64) (wa bd x : Int32) (u : Nat) (hu : u ≤ 5) (un : Nat → Int32) (ln : Nat → Int8) (hk : KQ cq un (u + 1)) (m : Nat) : ∀ (k f : Nat) (_ : k + m = 4000) (_ : m ≤ f) (ul : Nat → Int8),
    Tt (f_X12_keeps_119 ra (nI u) re le be so va si w wa bd x un ln (f + 1) (nI k) ul) (KPq cq ra re le be so va si w wa bd x) := by
  induction m with
  | zero =>
    intro k f hk' _ ul
    rw [f_X12_keeps_119_s, if_pos (show (4000 : Int32) ≤ nI k from nI_le (a := 4000) (by omega) (by omega)), nI_1]
    exact tt_r ⟨u + 1, rfl, hk⟩
  | succ m ih =>
    intro k f hk' hf ul
    obtain ⟨f, rfl⟩ : ∃ q, f = q + 1 := ⟨f - 1, by omega⟩
    rw [f_X12_keeps_119_s, if_neg (show ¬ (4000 : Int32) ≤ nI k from nI_ge (a := k) (b := 4000) (by omega) (by omega)), show (4000 : Int32) = nI 4000 from rfl, pk_mul, nI_add, nI_1]
    exact tt_ik k rfl (by omega) (by omega) (tt_ik (4000 * u + k) rfl (by omega) (by omega) (ih (k + 1) f (by omega) (by omega) _))
theorem kq83 {cq : Nat → Int32} (ra re le be so va si : Int32) (w : Int64) (wa bd x : Int32) (u : Nat) (hu : u ≤ 5) (ln ul : Nat → Int8) (a : Nat → Int32) (hB : QB cq a 0) (m : Nat) : ∀ (k f : Nat) (_ : k + m = 133) (_ : m ≤ f) (un : Nat → Int32) (_ : ∀ j, j < u → QB cq un (133 * j)) (_ : ∀ j, j < k → un (133 * u + j) = a j),
    Tt (f_X12_keeps_83 ra (nI u) re le be so va si w wa bd x ln ul a (f + 1) (nI k) un) (KPq cq ra re le be so va si w wa bd x) := by
  induction m with
  | zero =>
    intro k f hk _ un h1 h2
    have : k = 133 := by omega
    subst this
    rw [f_X12_keeps_83_s, if_pos (by decide)]
    refine kq119 ra re le be so va si w wa bd x u hu un ln ⟨by omega, fun j hj => ?_⟩ 4000 0 65535 (by omega) (by omega) ul
    rcases Nat.lt_or_ge j u with h | h
    · exact h1 j h
    · rw [show j = u by omega]
      exact hB.c (fun q hq => by rw [Nat.zero_add]; exact h2 q hq)
  | succ m ih =>
    intro k f hk hf un h1 h2
    obtain ⟨f, rfl⟩ : ∃ q, f = q + 1 := ⟨f - 1, by omega⟩
    rw [f_X12_keeps_83_s, if_neg (show ¬ (133 : Int32) ≤ nI k from nI_ge (a := k) (b := 133) (by omega) (by omega)), show (133 : Int32) = nI 133 from rfl, pk_mul, nI_add, nI_1]
    refine tt_ik k rfl (by omega) (by omega) (tt_ik (133 * u + k) rfl (by omega) (by omega) ?_)
    rw [nI_clamp (by omega), nI_clamp (by omega)]
    refine ih (k + 1) f (by omega) (by omega) _ (fun j hj => (h1 j hj).c (fun q hq => upd_ne _ _ (by omega))) (fun j hj => ?_)
    by_cases e : j = k
    · subst e; exact upd_same _ _ _
    · rw [upd_ne _ _ (by omega)]; exact h2 j (by omega)
theorem kq81 {cq : Nat → Int32} (ra re le be so va si : Int32) (w : Int64) (wa bd x : Int32) (u : Nat) (hu : u ≤ 5) (ln : Nat → Int8) (a : Nat → Int32) (hB : QB cq a 0) (un : Nat → Int32) (ul : Nat → Int8) (h1 : ∀ j, j < u → QB cq un (133 * j)) :
    Tt (f_X12_keeps_81 ra re le be so va si w wa bd x ln a (nI u) un ul) (KPq cq ra re le be so va si w wa bd x) := by
  unfold f_X12_keeps_81
  exact kq83 ra re le be so va si w wa bd x u hu ln ul a hB 133 0 65535 (by omega) (by omega) un h1 (fun j hj => absurd hj (by omega))
theorem kq42 {cq : Nat → Int32} (ra re le be so va si : Int32) (w : Int64) (wa bd x : Int32) (ln : Nat → Int8) (a : Nat → Int32) (hB : QB cq a 0) (un : Nat → Int32) (h1 : ∀ j, j < 5 → QB cq un (133 * j)) (m : Nat) : ∀ (k f : Nat) (_ : k + m = 20000) (_ : m ≤ f) (ul : Nat → Int8),
    Tt (f_X12_keeps_42 ra re le be so va si w wa bd x ln a (nI 6) un (f + 1) (nI k) ul) (KPq cq ra re le be so va si w wa bd x) := by
  induction m with
  | zero =>
    intro k f hk _ ul
    rw [f_X12_keeps_42_s, if_pos (show (20000 : Int32) ≤ nI k from nI_le (a := 20000) (by omega) (by omega)), show nI 6 - 1 = nI 5 from rfl]
    exact kq81 ra re le be so va si w wa bd x 5 (by omega) ln a hB un ul h1
  | succ m ih =>
    intro k f hk hf ul
    obtain ⟨f, rfl⟩ : ∃ q, f = q + 1 := ⟨f - 1, by omega⟩
    rw [f_X12_keeps_42_s, if_neg (show ¬ (20000 : Int32) ≤ nI k from nI_ge (a := k) (b := 20000) (by omega) (by omega)), show (4000 : Int32) = nI 4000 from rfl, nI_add, nI_1]
    exact tt_ik (k + 4000) rfl (by omega) (by omega) (tt_ik k rfl (by omega) (by omega) (ih (k + 1) f (by omega) (by omega) _))
theorem kq11 {cq : Nat → Int32} (ra re le be so va si : Int32) (w : Int64) (wa bd x : Int32) (ln ul : Nat → Int8) (a : Nat → Int32) (hB : QB cq a 0) (u0 : Nat → Int32) (h0 : ∀ j, j < 6 → QB cq u0 (133 * j)) (m : Nat) : ∀ (k f : Nat) (_ : k + m = 665) (_ : m ≤ f) (un : Nat → Int32) (_ : ∀ j, j < k → un j = u0 (j + 133)) (_ : ∀ j, k ≤ j → un j = u0 j),
    Tt (f_X12_keeps_11 ra re le be so va si w wa bd x ln a (nI 6) ul (f + 1) (nI k) un) (KPq cq ra re le be so va si w wa bd x) := by
  induction m with
  | zero =>
    intro k f hk _ un h1 _
    have : k = 665 := by omega
    subst this
    rw [f_X12_keeps_11_s, if_pos (by decide)]
    refine kq42 ra re le be so va si w wa bd x ln a hB un (fun j hj => ?_) 20000 0 65535 (by omega) (by omega) ul
    refine (h0 (j + 1) (by omega)).c (fun q hq => ?_)
    rw [h1 _ (by omega)]
    congr 1; omega
  | succ m ih =>
    intro k f hk hf un h1 h2
    obtain ⟨f, rfl⟩ : ∃ q, f = q + 1 := ⟨f - 1, by omega⟩
    rw [f_X12_keeps_11_s, if_neg (show ¬ (665 : Int32) ≤ nI k from nI_ge (a := k) (b := 665) (by omega) (by omega)), show (133 : Int32) = nI 133 from rfl, nI_add, nI_1]
    refine tt_ik (k + 133) rfl (by omega) (by omega) (tt_ik k rfl (by omega) (by omega) ?_)
    rw [nI_clamp (by omega), nI_clamp (by omega)]
    refine ih (k + 1) f (by omega) (by omega) _ (fun j hj => ?_) (fun j hj => by rw [upd_ne _ _ (by omega)]; exact h2 j (by omega))
    by_cases e : j = k
    · subst e; rw [upd_same]; exact h2 _ (by omega)
    · rw [upd_ne _ _ e]; exact h1 j (by omega)
theorem kq_t {cq : Nat → Int32} (ra re le be so va si : Int32) (w : Int64) (wa bd x : Int32) (u : Nat) (ln ul : Nat → Int8) (a un : Nat → Int32) (hB : QB cq a 0) (hK : KQ cq un u) : Tt (f_X12_keeps (ra, nI u, re, le, be, so, va, si, w, wa, bd, x) a ln un ul) (KPq cq ra re le be so va si w wa bd x) := by
  unfold f_X12_keeps
  refine tt_i (fun c => ?_) (fun c => ?_)
  · have : u = 6 := (nI_eq (b := 6) (by have := hK.1; omega) (by omega)).mp c
    subst this
    exact kq11 ra re le be so va si w wa bd x ln ul a hB un hK.2 665 0 65535 (by omega) (by omega) un (fun j hj => absurd hj (by omega)) (fun _ _ => rfl)
  · have h6 := hK.1
    have : u ≤ 5 := by
      rcases Nat.lt_or_ge u 6 with h | h
      · omega
      · exact absurd (show nI u = 6 by rw [show u = 6 by omega]; rfl) c
    exact kq81 ra re le be so va si w wa bd x u this ln a hB un ul hK.2
theorem say_q {cq : Nat → Int32} (x0 ra re le be so va si : Int32) (w : Int64) (wa bd x : Int32) (u : Nat) (ln ul : Nat → Int8) (a un : Nat → Int32) (hB : QB cq a 0) (hK : KQ cq un u) : Tt (f_X12_say x0 (ra, nI u, re, le, be, so, va, si, w, wa, bd, x) a ln un ul) (fun q => AQ cq a q.2.1.2.1 q.2.2.1 q.2.2.2.1) := by
  have stay : AQ cq a (nI u) a un := ⟨hB, ⟨u, rfl, hK⟩, fun _ _ => rfl⟩
  obtain ⟨L, w', st, r, sy, bt, hd, po, si', sd, tk, hS, h5, h6, h7, h8, h9, h10, h11, g5, g6, g7, g8, g9, g10, g11⟩ := hB.1.sb
  unfold f_X12_say
  simp only []
  obtain ⟨q, e, _⟩ := in_is x0 0 255
  rw [e, bso]
  refine tt_i (fun _ => tt_r stay) (fun _ => tt_i (fun _ => tt_r stay) (fun c8 => ?_))
  refine tt_b (kq_t 0 re le be so va si w wa bd x u ln ul a un hB hK) ?_
  rintro ⟨s', un', ul'⟩ ⟨u', e', hK'⟩
  have e' : s' = _ := e'
  subst e'
  have hsy : sy ≤ 7 := by
    rcases Nat.lt_or_ge sy 8 with h | h
    · omega
    · exact absurd (show a 21 = 8 by rw [g5, show sy = 8 by omega]; rfl) c8
  simp only []
  rw [g5, show (22 : Int32) = nI 22 from rfl, nI_add]
  refine tt_ik (22 + sy) rfl (by omega) (by omega) (tt_n ?_)
  rw [nI_clamp (by omega), show upd a (22 + sy) x0 21 = nI sy from (upd_ne _ _ (by omega)).trans g5, nI_1]
  refine tt_r ⟨?_, ⟨u', rfl, hK'⟩, fun j hj => by
    show upd (upd a (22 + sy) x0) 21 (nI (sy + 1)) j = a j
    rw [upd_ne _ _ (by omega), upd_ne _ _ (by omega)]⟩
  show QB cq (upd (upd a (22 + sy) x0) 21 (nI (sy + 1))) 0
  have f1 : FrT a (upd (upd a (22 + sy) x0) 21 (nI (sy + 1))) := (show FrT a a from fun _ _ => rfl).up (by omega) (by omega) |>.up (by decide) (by decide)
  exact ⟨IB.mk' (hS.frT f1) (sy := sy + 1) (by omega) h6 h7 h8 h9 h10 h11 (upd_same _ _ _) (by rw [upd_ne _ _ (by decide), upd_ne _ _ (by omega)]; exact g6) (by rw [upd_ne _ _ (by decide), upd_ne _ _ (by omega)]; exact g7) (by rw [upd_ne _ _ (by decide), upd_ne _ _ (by omega)]; exact g8) (by rw [upd_ne _ _ (by decide), upd_ne _ _ (by omega)]; exact g9) (by rw [upd_ne _ _ (by decide), upd_ne _ _ (by omega)]; exact g10) (by rw [upd_ne _ _ (by decide), upd_ne _ _ (by omega)]; exact g11), hB.2.fr f1⟩
theorem send_q {cq : Nat → Int32} (x0 x1 ra re le be so va si : Int32) (w : Int64) (wa bd x : Int32) (u : Nat) (ln ul : Nat → Int8) (a un : Nat → Int32) (hB : QB cq a 0) (hK : KQ cq un u) : Tt (f_X12_send x0 x1 (ra, nI u, re, le, be, so, va, si, w, wa, bd, x) a ln un ul) (fun q => AQ cq a q.2.1.2.1 q.2.2.1 q.2.2.2.2.1) := by
  have stay : AQ cq a (nI u) a un := ⟨hB, ⟨u, rfl, hK⟩, fun _ _ => rfl⟩
  obtain ⟨L, w', st, r, sy, bt, hd, po, si', sd, tk, hS, h5, h6, h7, h8, h9, h10, h11, g5, g6, g7, g8, g9, g10, g11⟩ := hB.1.sb
  have hl := hS.lr
  unfold f_X12_send
  simp only []
  obtain ⟨q, e, hq⟩ := in_is x0 1 8
  rw [e, bso]
  refine tt_i (fun _ => tt_r stay) (fun c => ?_)
  obtain ⟨n, rfl, n1, n2⟩ := in_n (a := 1) (b := 8) (by decide) (by decide) hq c
  rw [rnd hS.2.2.2.2.1 hS.2.2.2.2.2.2.2, bso]
  refine tt_i (fun c2 => ?_) (fun _ => tt_r stay)
  have hnm : n * (L * r) ≤ 8 * 288 := Nat.mul_le_mul n2 hl.2
  have hle : bt + n * (L * r) ≤ 4000 := by
    rw [g6, pk_mul, nI_add] at c2
    exact (nI_leI (b := 4000) (by omega) (by omega)).mp c2
  refine tt_b (kq_t 0 re le be so va si w wa bd x u ln ul a un hB hK) ?_
  rintro ⟨s', un', ul'⟩ ⟨u', e', hK'⟩
  have e' : s' = _ := e'
  subst e'
  simp only []
  refine tt_b (sd_t n n2 bt (by omega) a hS g6 ⟨sy, h5, g5⟩ x1 _ ln) ?_
  rintro ⟨⟨t1, t2, t3, t4, t5, t6, t7, t8, t9, t10, t11, t12⟩, a1, ln1⟩ ⟨f1, f2, ⟨sy2, f3, f4⟩, f5, f6⟩
  have f6 : t2 = nI u' := f6
  subst f6
  refine tt_r ⟨?_, ⟨u', rfl, hK'⟩, fun j hj => f1 j (by omega)⟩
  exact ⟨IB.mk' (hS.frT f1) (sy := sy2) (bt := bt + n * (L * r)) f3 (by omega) hle h8 h9 h10 h11 f4 f2 ((f1 33 (by omega)).trans g7) ((f1 39 (by omega)).trans g8) ((f1 40 (by omega)).trans g9) ((f1 48 (by omega)).trans g10) ((f1 50 (by omega)).trans g11), hB.2.fr f1⟩
theorem turn_q {cq : Nat → Int32} (x0 ra re le be so va si : Int32) (w : Int64) (wa bd x : Int32) (u : Nat) (ln ul : Nat → Int8) (a un : Nat → Int32) (hB : QB cq a 0) (hK : KQ cq un u) : Tt (f_X12_turn x0 (ra, nI u, re, le, be, so, va, si, w, wa, bd, x) a ln un ul) (fun q => AQ cq a q.2.1.2.1 a q.2.2.2.1) := by
  have stay : AQ cq a (nI u) a un := ⟨hB, ⟨u, rfl, hK⟩, fun _ _ => rfl⟩
  obtain ⟨L, w', st, r, sy, bt, hd, po, si', sd, tk, hS, h5, h6, h7, h8, h9, h10, h11, g5, g6, g7, g8, g9, g10, g11⟩ := hB.1.sb
  unfold f_X12_turn
  simp only []
  obtain ⟨q, e, hq⟩ := in_is x0 (a 33) ((a 32) - 1)
  rw [e, bso]
  refine tt_i (fun _ => tt_r stay) (fun c => ?_)
  have hx : ∃ k : Nat, x0 = nI k ∧ k < 4000 := by
    rcases hq with h | ⟨_, h1, h2⟩
    · exact absurd h c
    · rw [g7] at h1
      rw [g6] at h2
      rcases Nat.eq_zero_or_pos bt with e0 | e0
      · subst e0
        have g1 := i_nlt h1
        have g2 := i_nlt h2
        rw [i_le, nI_toInt (by omega)] at g1
        rw [i_le, show (nI 0 - 1).toInt = -1 by decide] at g2
        omega
      · rw [show nI bt - 1 = nI (bt - 1) from pk_sub (b := 1) e0] at h2
        obtain ⟨k, rfl, a1, a2⟩ : ∃ k : Nat, x0 = nI k ∧ 0 ≤ k ∧ k ≤ bt - 1 := by
          have g1 := i_nlt h1
          have g2 := i_nlt h2
          rw [i_le, nI_toInt (by omega)] at g1
          rw [i_le, nI_toInt (by omega)] at g2
          refine ⟨x0.toInt.toNat, ?_, by omega, by omega⟩
          apply Int32.toInt_inj.mp
          rw [nI_toInt (by omega)]
          omega
        exact ⟨k, rfl, by omega⟩
  obtain ⟨k, rfl, hk⟩ := hx
  refine tt_b (kq_t 0 re le be so va si w wa bd x u ln ul a un hB hK) ?_
  rintro ⟨s', un', ul'⟩ ⟨u', e', hK'⟩
  have e' : s' = _ := e'
  subst e'
  exact tt_ik k rfl (by omega) (by omega) (tt_ik k rfl (by omega) (by omega) (tt_r ⟨hB, ⟨u', rfl, hK'⟩, fun _ _ => rfl⟩))
theorem lose_q {cq : Nat → Int32} (x0 x1 ra re le be so va si : Int32) (w : Int64) (wa bd x : Int32) (u : Nat) (ln ul : Nat → Int8) (a un : Nat → Int32) (hB : QB cq a 0) (hK : KQ cq un u) : Tt (f_X12_lose x0 x1 (ra, nI u, re, le, be, so, va, si, w, wa, bd, x) a ln un ul) (fun q => AQ cq a q.2.1.2.1 q.2.2.1 q.2.2.2.2.1) := by
  have stay : AQ cq a (nI u) a un := ⟨hB, ⟨u, rfl, hK⟩, fun _ _ => rfl⟩
  obtain ⟨L, w', st, r, sy, bt, hd, po, si', sd, tk, hS, h5, h6, h7, h8, h9, h10, h11, g5, g6, g7, g8, g9, g10, g11⟩ := hB.1.sb
  unfold f_X12_lose
  simp only []
  obtain ⟨q, e, hq⟩ := in_is x1 1 500
  rw [e, bso]
  refine tt_i (fun _ => tt_r stay) (fun c => ?_)
  obtain ⟨n, rfl, n1, n2⟩ := in_n (a := 1) (b := 500) (by decide) (by decide) hq c
  rw [g6, g7]
  obtain ⟨q2, e2, hq2⟩ := in_is x0 (nI hd) (nI bt - nI n)
  rw [e2, bso]
  refine tt_i (fun _ => tt_r stay) (fun c2 => ?_)
  obtain ⟨k, rfl, k1, k2⟩ : ∃ k : Nat, x0 = nI k ∧ hd ≤ k ∧ k + n ≤ bt := by
    rcases hq2 with h | ⟨_, l1, l2⟩
    · exact absurd h c2
    · exact bt_n (by omega) (by omega) n (by omega) l1 l2
  refine tt_b (kq_t 0 re le be so va si w wa bd x u ln ul a un hB hK) ?_
  rintro ⟨s', un', ul'⟩ ⟨u', e', hK'⟩
  have e' : s' = _ := e'
  subst e'
  simp only []
  refine tt_m (lo47 0 (nI u') re le be so va si w wa bd x un' ul' a bt n h7 n2 g6 (bt - k - n) k 65535 (by omega) (by omega) (by omega) ln) ?_
  rintro ⟨q1, s2, a2, ln2, un2, ul2⟩ ⟨p1, p2, p3⟩
  have p1 : s2 = _ := p1
  have p2 : a2 = _ := p2
  have p3 : un2 = _ := p3
  subst p1
  subst p2
  subst p3
  refine ⟨?_, ⟨u', rfl, hK'⟩, fun j hj => upd_ne _ _ (by omega)⟩
  have f1 : FrT a (upd a 32 (nI (bt - n))) := (show FrT a a from fun _ _ => rfl).up (by decide) (by decide)
  show QB cq (upd a 32 (nI (bt - n))) 0
  exact ⟨IB.mk' (hS.frT f1) (sy := sy) (bt := bt - n) h5 (by omega) (by omega) h8 h9 h10 h11 (by rw [upd_ne _ _ (by decide)]; exact g5) (upd_same _ _ _) (by rw [upd_ne _ _ (by decide)]; exact g7) (by rw [upd_ne _ _ (by decide)]; exact g8) (by rw [upd_ne _ _ (by decide)]; exact g9) (by rw [upd_ne _ _ (by decide)]; exact g10) (by rw [upd_ne _ _ (by decide)]; exact g11), hB.2.fr f1⟩
theorem put_q {cq : Nat → Int32} (x0 x1 ra re le be so va si : Int32) (w : Int64) (wa bd x : Int32) (u : Nat) (ln ul : Nat → Int8) (a un : Nat → Int32) (hB : QB cq a 0) (hK : KQ cq un u) : Tt (f_X12_put x0 x1 (ra, nI u, re, le, be, so, va, si, w, wa, bd, x) a ln un ul) (fun q => AQ cq a q.2.1.2.1 q.2.2.1 q.2.2.2.2.1) := by
  have stay : AQ cq a (nI u) a un := ⟨hB, ⟨u, rfl, hK⟩, fun _ _ => rfl⟩
  obtain ⟨L, w', st, r, sy, bt, hd, po, si', sd, tk, hS, h5, h6, h7, h8, h9, h10, h11, g5, g6, g7, g8, g9, g10, g11⟩ := hB.1.sb
  unfold f_X12_put
  simp only []
  rw [g6, g7]
  obtain ⟨q2, e2, hq2⟩ := in_is x0 (nI hd) (nI bt)
  rw [e2, bso]
  refine tt_i (fun _ => tt_r stay) (fun c2 => tt_i (fun _ => tt_r stay) (fun c3 => ?_))
  obtain ⟨k, rfl, k1, k2⟩ := in_n (by omega) h6 hq2 c2
  have hb : bt ≤ 3999 := by
    rcases Nat.lt_or_ge bt 4000 with h | h
    · omega
    · exact absurd (show nI bt = 4000 by rw [show bt = 4000 by omega]; rfl) c3
  refine tt_b (kq_t 0 re le be so va si w wa bd x u ln ul a un hB hK) ?_
  rintro ⟨s', un', ul'⟩ ⟨u', e', hK'⟩
  have e' : s' = _ := e'
  subst e'
  simp only []
  refine tt_m (pu53 k x1 0 (nI u') re le be so va si w wa bd x un' ul' a bt h7 g6 k2 (bt - k) bt 65535 (by omega) (by omega) (by omega) ln) ?_
  rintro ⟨q1, s2, a2, ln2, un2, ul2⟩ ⟨p1, p2, p3⟩
  have p1 : s2 = _ := p1
  have p2 : a2 = _ := p2
  have p3 : un2 = _ := p3
  subst p1
  subst p2
  subst p3
  refine ⟨?_, ⟨u', rfl, hK'⟩, fun j hj => upd_ne _ _ (by omega)⟩
  have f1 : FrT a (upd a 32 (nI (bt + 1))) := (show FrT a a from fun _ _ => rfl).up (by decide) (by decide)
  show QB cq (upd a 32 (nI (bt + 1))) 0
  exact ⟨IB.mk' (hS.frT f1) (sy := sy) (bt := bt + 1) h5 (by omega) (by omega) h8 h9 h10 h11 (by rw [upd_ne _ _ (by decide)]; exact g5) (upd_same _ _ _) (by rw [upd_ne _ _ (by decide)]; exact g7) (by rw [upd_ne _ _ (by decide)]; exact g8) (by rw [upd_ne _ _ (by decide)]; exact g9) (by rw [upd_ne _ _ (by decide)]; exact g10) (by rw [upd_ne _ _ (by decide)]; exact g11), hB.2.fr f1⟩
theorem hq42 (n : Nat) (ra u re le be so va si : Int32) (w : Int64) (wa bd x : Int32) (un : Nat → Int32) (ul ln : Nat → Int8) (h0 bt sy : Nat) (hsy : sy ≤ 8) (hbt : bt ≤ 4000) (hn : h0 + n ≤ bt) (a0 : Nat → Int32) (m : Nat) : ∀ (k f : Nat) (_ : k + m = n) (_ : m ≤ f) (a : Nat → Int32) (_ : HB a (h0 + k)) (_ : a 33 = nI (h0 + k)) (_ : a 32 = nI bt) (_ : a 21 = nI sy) (_ : ∀ j, j < 21 ∨ 133 ≤ j → a j = a0 j),
    Tt (f_X12_hear_42 (nI n) ra u re le be so va si w wa bd x un ul ln (f + 1) (nI k) a) (fun q => q.2.1 = (ra, u, re, le, be, so, va, si, w, wa, bd, x) ∧ IB q.2.2.1 0 ∧ q.2.2.2.1 = un ∧ ∀ j, j < 21 ∨ 133 ≤ j → q.2.2.1 j = a0 j) := by
  induction m with
  | zero =>
    intro k f hk _ a hB h33 h32 h21 hf
    rw [f_X12_hear_42_s, if_pos (nI_le (by omega) (by omega))]
    exact tt_r ⟨rfl, IB.of_hb hB hsy (show h0 + k ≤ bt by omega) hbt (Nat.le_refl _) h21 h32 h33, rfl, hf⟩
  | succ m ih =>
    intro k f hk hf' a hB h33 h32 h21 hf
    obtain ⟨f, rfl⟩ : ∃ q, f = q + 1 := ⟨f - 1, by omega⟩
    rw [f_X12_hear_42_s, if_neg (nI_ge (by omega) (by omega)), h33]
    refine tt_ik (h0 + k) rfl (by omega) (by omega) (tt_b (he_t hB (by omega) _ _) ?_)
    rintro a1 ⟨f1, f2⟩
    rw [f1 33 (by omega), h33, nI_1, nI_1]
    refine ih (k + 1) f (by omega) (by omega) _ (f2.up (Or.inr (Or.inl rfl))) (upd_same _ _ _) (by rw [upd_ne _ _ (by decide), f1 32 (by omega)]; exact h32) (by rw [upd_ne _ _ (by decide), f1 21 (by omega)]; exact h21) (fun j hj => by rw [upd_ne _ _ (by omega), f1 j (by omega)]; exact hf j hj)
theorem hear_q {cq : Nat → Int32} (x0 ra re le be so va si : Int32) (w : Int64) (wa bd x : Int32) (u : Nat) (ln ul : Nat → Int8) (a un : Nat → Int32) (hB : QB cq a 0) (hK : KQ cq un u) : Tt (f_X12_hear x0 (ra, nI u, re, le, be, so, va, si, w, wa, bd, x) a ln un ul) (fun q => AQ cq a q.2.1.2.1 q.2.2.1 q.2.2.2.1) := by
  have stay : AQ cq a (nI u) a un := ⟨hB, ⟨u, rfl, hK⟩, fun _ _ => rfl⟩
  obtain ⟨L, w', st, r, sy, bt, hd, po, si', sd, tk, hS, h5, h6, h7, h8, h9, h10, h11, g5, g6, g7, g8, g9, g10, g11⟩ := hB.1.sb
  unfold f_X12_hear
  simp only []
  rw [g6, g7, pk_sub h6]
  obtain ⟨q1, e1, hq1⟩ := ls_is 4000 (nI (bt - hd))
  rw [e1, bso]
  have hq1 : q1 = nI (bt - hd) := by
    rcases hq1 with ⟨_, h⟩ | ⟨h, _⟩
    · exact h
    · exact absurd (show nI (bt - hd) ≤ 4000 from nI_le (b := 4000) (by omega) (by omega)) h
  subst hq1
  obtain ⟨q, e, hq⟩ := in_is x0 1 (nI (bt - hd))
  rw [e, bso]
  refine tt_i (fun _ => tt_r stay) (fun c => ?_)
  obtain ⟨n, rfl, n1⟩ : ∃ n : Nat, x0 = nI n ∧ n ≤ bt - hd := by
    rcases hq with h | ⟨_, l1, l2⟩
    · exact absurd h c
    · have g1 := i_nlt l1
      have g2 := i_nlt l2
      rw [i_le, show (1 : Int32).toInt = 1 by decide] at g1
      rw [i_le, nI_toInt (by omega)] at g2
      refine ⟨x0.toInt.toNat, ?_, by omega⟩
      apply Int32.toInt_inj.mp
      rw [nI_toInt (by omega)]
      omega
  refine tt_b (kq_t 0 re le be so va si w wa bd x u ln ul a un hB hK) ?_
  rintro ⟨s', un', ul'⟩ ⟨u', e', hK'⟩
  have e' : s' = _ := e'
  subst e'
  simp only []
  refine tt_m (hq42 n 0 (nI u') re le be so va si w wa bd x un' ul' ln hd bt sy h5 h7 (by omega) a n 0 65535 (by omega) (by omega) a ⟨L, w', st, r, po, si', sd, tk, hS, h8, by omega, h10, by omega, g8, g9, g10, g11⟩ g7 g6 g5 (fun _ _ => rfl)) ?_
  rintro ⟨r1, s2, a2, un2, ul2⟩ ⟨p1, p2, p3, p4⟩
  have p1 : s2 = _ := p1
  have p3 : un2 = _ := p3
  subst p1
  subst p3
  exact ⟨⟨p2, fun k hk => by
    have e := hB.2 k hk
    rw [Nat.zero_add] at e ⊢
    exact (p4 k (Or.inl hk)).trans e⟩, ⟨u', rfl, hK'⟩, fun j hj => p4 j (Or.inr hj)⟩
theorem uq26 {cq : Nat → Int32} (re le be so va si : Int32) (w : Int64) (wa bd x : Int32) (u : Nat) (h1 : 1 ≤ u) (h6 : u ≤ 6) (ul ln : Nat → Int8) (un a : Nat → Int32) (hB : QB cq un (133 * (u - 1))) (m : Nat) : ∀ (k f : Nat) (_ : k + m = 133) (_ : m ≤ f) (a1 : Nat → Int32) (_ : ∀ j, j < k → a1 j = un (133 * (u - 1) + j)) (_ : ∀ j, 133 ≤ j → a1 j = a j),
    Tt (f_X12_undo_26 (nI u) re le be so va si w wa bd x ul ln un (f + 1) (nI k) a1) (fun q => q.2.1.2.1 = nI (u - 1) ∧ QB cq q.2.2.1 0 ∧ ∀ j, 133 ≤ j → q.2.2.1 j = a j) := by
  induction m with
  | zero =>
    intro k f hk _ a1 h2 h3
    have : k = 133 := by omega
    subst this
    rw [f_X12_undo_26_s, if_pos (by decide)]
    refine tt_m (un62 0 re le be so va si w wa bd x u h1 h6 a1 ul 4000 0 65535 (by omega) (by omega) ln) ?_
    rintro q ⟨p1, p2⟩
    refine ⟨p1, ?_, fun j hj => by rw [p2]; exact h3 j hj⟩
    rw [p2]
    exact hB.c (fun q hq => by rw [Nat.zero_add]; exact h2 q hq)
  | succ m ih =>
    intro k f hk hf a1 h2 h3
    obtain ⟨f, rfl⟩ : ∃ q, f = q + 1 := ⟨f - 1, by omega⟩
    rw [f_X12_undo_26_s, if_neg (show ¬ (133 : Int32) ≤ nI k from nI_ge (a := k) (b := 133) (by omega) (by omega)), show nI u - 1 = nI (u - 1) from pk_sub (b := 1) h1, show (133 : Int32) = nI 133 from rfl, pk_mul, nI_add, nI_1]
    refine tt_ik (133 * (u - 1) + k) rfl (by omega) (by omega) (tt_n (tt_ik k rfl (by omega) (by omega) ?_))
    rw [nI_clamp (by omega), nI_clamp (by omega)]
    refine ih (k + 1) f (by omega) (by omega) _ (fun j hj => ?_) (fun j hj => by rw [upd_ne _ _ (by omega)]; exact h3 j hj)
    by_cases e : j = k
    · subst e; exact upd_same _ _ _
    · rw [upd_ne _ _ e]; exact h2 j (by omega)
theorem undo_q {cq : Nat → Int32} (ra re le be so va si : Int32) (w : Int64) (wa bd x : Int32) (u : Nat) (ln ul : Nat → Int8) (a un : Nat → Int32) (hB : QB cq a 0) (hK : KQ cq un u) : Tt (f_X12_undo (ra, nI u, re, le, be, so, va, si, w, wa, bd, x) a ln un ul) (fun q => AQ cq a q.2.1.2.1 q.2.2.1 un) := by
  unfold f_X12_undo
  refine tt_i (fun _ => tt_r ⟨hB, ⟨u, rfl, hK⟩, fun _ _ => rfl⟩) (fun c => ?_)
  have h1 : 1 ≤ u := by
    rcases Nat.eq_zero_or_pos u with e | e
    · exact absurd (show nI u = 0 by rw [e]; rfl) c
    · exact e
  refine tt_m (uq26 re le be so va si w wa bd x u h1 hK.1 ul ln un a (hK.2 (u - 1) (by omega)) 133 0 65535 (by omega) (by omega) a (fun j hj => absurd hj (by omega)) (fun _ _ => rfl)) ?_
  rintro q ⟨p1, p2, p3⟩
  exact ⟨p2, ⟨u - 1, p1, by have := hK.1; omega, fun j hj => hK.2 j (by omega)⟩, p3⟩
/-! The reference's calls and the scheme's cells: present ones and undone ones are alike. -/
def HQ (u : Int32) (a un : Nat → Int32) : Prop := ∃ c : Nat → Int32, VB c a 0 ∧ ∀ u' : Nat, u' ≤ 6 → u = nI u' → ∀ j, j < u' → VB c un (133 * j)
def RQ (u : Int32) (a un sv : Nat → Int32) : Prop := RI u a un sv ∧ HQ u a un
def FQ (a' a : Nat → Int32) : Prop := ∀ j, j < 21 → a' j = a j
theorem VB.fq {c a a' : Nat → Int32} (h : VB c a 0) (f : FQ a' a) : VB c a' 0 := fun k hk => by
  have e := h k hk
  rw [Nat.zero_add] at e ⊢
  exact (f k hk).trans e
theorem HQ.same {u : Int32} {a a' un : Nat → Int32} (h : HQ u a un) (f : FQ a' a) : HQ u a' un := by
  obtain ⟨c, h1, h2⟩ := h
  exact ⟨c, h1.fq f, h2⟩
theorem HQ.zero (a un : Nat → Int32) : HQ 0 a un := ⟨fun k => a k, fun k hk => by rw [Nat.zero_add], fun u' h6 e j hj => by
  have e : nI 0 = nI u' := e
  have := (nI_eq (by omega) (by omega)).mp e
  omega⟩
theorem RQ.same {u : Int32} {a a' un sv : Nat → Int32} (h : RQ u a un sv) (e : ∀ j, j < 544 → a' j = a j) : RQ u a' un sv := ⟨h.1.same e, h.2.same (fun j hj => e j (by omega))⟩
theorem RQ.q {u : Nat} {a un sv : Nat → Int32} (h : RQ (nI u) a un sv) (hK : KU un u) : ∃ c, QB c a 0 ∧ KQ c un u := by
  obtain ⟨c, h1, h2⟩ := h.2
  exact ⟨c, ⟨h.1.1.1, h1⟩, hK.1, fun j hj => ⟨hK.2 j hj, h2 u hK.1 rfl j hj⟩⟩
theorem RQ.act {c : Nat → Int32} {u u2 : Int32} {a a' un un' sv : Nat → Int32} (h : RQ u a un sv) (hB : QB c a 0) (q : AQ c a u2 a' un') : RQ u2 a' un' sv ∧ TX a' a ∧ FQ a' a := by
  obtain ⟨q1, ⟨u', e, hK⟩, q3⟩ := q
  refine ⟨⟨h.1.act ⟨q1.1, ⟨u', e, hK.1, fun j hj => (hK.2 j hj).1⟩, q3⟩, c, q1.2, fun v hv e2 j hj => ?_⟩, fun j h _ => q3 j h, fun j hj => ?_⟩
  · have := (nI_eq (by have := hK.1; omega) (by omega)).mp (e.symm.trans e2)
    exact (hK.2 j (by omega)).2
  · have e1 := q1.2 j hj
    have e2 := hB.2 j hj
    rw [Nat.zero_add] at e1 e2
    exact e1.trans e2.symm
theorem image_u (x0 : Int32) (s : SX12) (a : Nat → Int32) (ln tx : Nat → Int8) (sv : Nat → Int32) : Tt (f_X12_image x0 s a ln tx sv) (fun q => q.2.1.2.1 = s.2.1 ∧ ∀ j, j < 136 → q.2.2.1 j = a j) := by
  obtain ⟨ra, u, re, le, be, so, va, si, w, wa, bd, x⟩ := s
  unfold f_X12_image
  simp only []
  obtain ⟨q, e, hq⟩ := in_is x0 0 2
  rw [e, bso]
  refine tt_i (fun _ => tt_r ⟨rfl, fun _ _ => rfl⟩) (fun c => ?_)
  obtain ⟨k, rfl, _, hk⟩ := in_n (a := 0) (b := 2) (by decide) (by decide) hq c
  rw [nI_1]
  refine tt_b (ca_t 0 (k + 1) (by omega) (by omega) (by omega) _ a ln tx) ?_
  rintro ⟨a1, ln1, tx1⟩ ⟨_, d2⟩
  exact tt_ik k rfl (by omega) (by omega) (tt_r ⟨rfl, fun j hj => d2 j (by omega)⟩)
theorem again_u (x0 : Int32) (s : SX12) (a : Nat → Int32) (ln tx : Nat → Int8) (sv : Nat → Int32) : Tt (f_X12_again x0 s a ln tx sv) (fun q => q.2.1.2.1 = 0 ∨ (q.2.1.2.1 = s.2.1 ∧ q.2.2.1 = a)) := by
  obtain ⟨ra, u, re, le, be, so, va, si, w, wa, bd, x⟩ := s
  unfold f_X12_again
  simp only []
  obtain ⟨q, e, hq⟩ := in_is x0 0 2
  rw [e, bso]
  refine tt_i (fun _ => tt_r (Or.inr ⟨rfl, rfl⟩)) (fun c => ?_)
  obtain ⟨k, rfl, _, hk⟩ := in_n (a := 0) (b := 2) (by decide) (by decide) hq c
  refine tt_ik k rfl (by omega) (by omega) ?_
  rw [nI_clamp (by omega), nI_1]
  refine tt_i (fun _ => tt_r (Or.inr ⟨rfl, rfl⟩)) (fun c2 => ?_)
  refine tt_b (ca_t (k + 1) 0 (by omega) (by omega) (by omega) _ a ln tx) ?_
  rintro ⟨a1, ln1, tx1⟩ _
  exact tt_r (Or.inl rfl)
set_option maxRecDepth 100000 in
theorem rq_count {x0 : Int32} {s_this : SX12} {r_this_all : Nat → Int32} {r_this_undone : Nat → Int32} {r_this_saved : Nat → Int32} (rM : RQ s_this.2.1 r_this_all r_this_undone r_this_saved) : Tt (f_X12_count x0 s_this r_this_all) (fun q => RQ q.2.2.1 r_this_all r_this_undone r_this_saved) := by
  exact tt_m (cnt_t _ _ _ rM.1.1.1) (fun q hq => by
    rw [show _ = s_this.2.1 from hq]
    exact rM)
set_option maxRecDepth 100000 in
theorem rq_role {x0 : Int32} {s_this : SX12} {r_this_all : Nat → Int32} {r_this_undone : Nat → Int32} {r_this_saved : Nat → Int32} (rM : RQ s_this.2.1 r_this_all r_this_undone r_this_saved) : Tt (f_X12_role x0 s_this r_this_all) (fun q => RQ q.2.2.1 r_this_all r_this_undone r_this_saved) := by
  exact tt_m (rol_t _ _ _ rM.1.1.1) (fun q hq => by
    rw [show _ = s_this.2.1 from hq]
    exact rM)
set_option maxRecDepth 100000 in
theorem rq_candidate {x0 : Int32} {s_this : SX12} {r_this_all : Nat → Int32} {r_this_undone : Nat → Int32} {r_this_saved : Nat → Int32} (rM : RQ s_this.2.1 r_this_all r_this_undone r_this_saved) : Tt (f_X12_candidate x0 s_this r_this_all) (fun q => RQ q.2.2.1 r_this_all r_this_undone r_this_saved) := by
  exact tt_m (can_t _ _ _ rM.1.1.1) (fun q hq => by
    rw [show _ = s_this.2.1 from hq]
    exact rM)
set_option maxRecDepth 100000 in
theorem rq_frame {x0 : Int32} {s_this : SX12} {r_this_all : Nat → Int32} {r_this_undone : Nat → Int32} {r_this_saved : Nat → Int32} (rM : RQ s_this.2.1 r_this_all r_this_undone r_this_saved) : Tt (f_X12_frame x0 s_this r_this_all) (fun q => RQ q.2.2.1 r_this_all r_this_undone r_this_saved) := by
  exact tt_m (frm_t _ _ _ rM.1.1.1) (fun q hq => by
    rw [show _ = s_this.2.1 from hq]
    exact rM)
set_option maxRecDepth 100000 in
theorem rq_signal {x0 : Int32} {s_this : SX12} {r_this_all : Nat → Int32} {r_this_undone : Nat → Int32} {r_this_saved : Nat → Int32} (rM : RQ s_this.2.1 r_this_all r_this_undone r_this_saved) : Tt (f_X12_signal x0 s_this r_this_all) (fun q => RQ q.2.2.1 r_this_all r_this_undone r_this_saved) := by
  exact tt_m (sig_t _ _ _ rM.1.1.1) (fun q hq => by
    rw [show _ = s_this.2.1 from hq]
    exact rM)
set_option maxRecDepth 100000 in
theorem rq_value {x0 : Int32} {s_this : SX12} {r_this_all : Nat → Int32} {r_this_undone : Nat → Int32} {r_this_saved : Nat → Int32} (rM : RQ s_this.2.1 r_this_all r_this_undone r_this_saved) : Tt (f_X12_value x0 s_this r_this_all) (fun q => RQ q.2.2.1 r_this_all r_this_undone r_this_saved) := by
  exact tt_m (val_t _ _ _ rM.1.1.1) (fun q hq => by
    rw [show _ = s_this.2.1 from hq]
    exact rM)
set_option maxRecDepth 100000 in
theorem rq_bit {x0 : Int32} {s_this : SX12} {r_this_all : Nat → Int32} {r_this_line : Nat → Int8} {r_this_undone : Nat → Int32} {r_this_saved : Nat → Int32} (rM : RQ s_this.2.1 r_this_all r_this_undone r_this_saved) : Tt (f_X12_bit x0 s_this r_this_all r_this_line) (fun q => RQ q.2.2.1 r_this_all r_this_undone r_this_saved) := by
  exact tt_m (bit_t _ _ _ rM.1.1.1 _) (fun q hq => by
    rw [show _ = s_this.2.1 from hq]
    exact rM)
set_option maxRecDepth 100000 in
theorem rq_checks {x0 : Int32} {s_this : SX12} {r_this_all : Nat → Int32} {r_this_line : Nat → Int8} {r_this_undone : Nat → Int32} {r_this_saved : Nat → Int32} (rM : RQ s_this.2.1 r_this_all r_this_undone r_this_saved) : Tt (f_X12_checks x0 s_this r_this_all r_this_line) (fun q => RQ q.2.2.1 r_this_all r_this_undone r_this_saved) := by
  exact tt_m (chk_t _ _ _ rM.1.1.1 _) (fun q hq => by
    rw [show _ = s_this.2.1 from hq]
    exact rM)
set_option maxRecDepth 100000 in
theorem rq_struck {x0 : Int32} {x1 : Int32} {s_this : SX12} {r_this_all : Nat → Int32} {r_this_line : Nat → Int8} {r_this_undone : Nat → Int32} {r_this_saved : Nat → Int32} (rM : RQ s_this.2.1 r_this_all r_this_undone r_this_saved) : Tt (f_X12_struck x0 x1 s_this r_this_all r_this_line) (fun q => RQ q.2.2.1 r_this_all r_this_undone r_this_saved) := by
  exact tt_m (stk_t _ _ _ _ rM.1.1.1 _) (fun q hq => by
    rw [show _ = s_this.2.1 from hq]
    exact rM)
set_option maxRecDepth 100000 in
theorem rq_fits {x0 : Int32} {x1 : Int32} {s_this : SX12} {r_this_all : Nat → Int32} {r_this_line : Nat → Int8} {r_this_undone : Nat → Int32} {r_this_saved : Nat → Int32} (rM : RQ s_this.2.1 r_this_all r_this_undone r_this_saved) : Tt (f_X12_fits x0 x1 s_this r_this_all r_this_line) (fun q => RQ q.2.2.1 r_this_all r_this_undone r_this_saved) := by
  exact tt_m (fit_t _ _ _ _ rM.1.1.1 _) (fun q hq => by
    rw [show _ = s_this.2.1 from hq]
    exact rM)
set_option maxRecDepth 100000 in
theorem rq_receiver {x0 : Int32} {s_this : SX12} {r_this_all : Nat → Int32} {r_this_undone : Nat → Int32} {r_this_saved : Nat → Int32} (rM : RQ s_this.2.1 r_this_all r_this_undone r_this_saved) : Tt (f_X12_receiver x0 s_this r_this_all) (fun q => RQ q.2.2.1 r_this_all r_this_undone r_this_saved) := by
  exact tt_m (rcv_t _ _ _) (fun q hq => by
    rw [show _ = s_this.2.1 from hq]
    exact rM)
set_option maxRecDepth 100000 in
theorem rq_fault {x0 : Int32} {s_this : SX12} {r_this_all : Nat → Int32} {r_this_undone : Nat → Int32} {r_this_saved : Nat → Int32} (rM : RQ s_this.2.1 r_this_all r_this_undone r_this_saved) : Tt (f_X12_fault x0 s_this r_this_all) (fun q => RQ q.2.2.1 r_this_all r_this_undone r_this_saved) := by
  obtain ⟨s1, s2, s3, s4, s5, s6, s7, s8, s9, s10, s11, s12⟩ := s_this
  unfold f_X12_fault
  exact tt_i (fun _ => tt_r rM) (fun _ => tt_r rM)
set_option maxRecDepth 100000 in
theorem rq_ahead {x0 : Int32} {x1 : Int32} {x2 : Int32} {s_this : SX12} {r_this_all : Nat → Int32} {r_this_line : Nat → Int8} {r_this_undone : Nat → Int32} {r_this_saved : Nat → Int32} (rM : RQ s_this.2.1 r_this_all r_this_undone r_this_saved) : Tt (f_X12_ahead x0 x1 x2 s_this r_this_all r_this_line) (fun q => RQ q.2.1.2.1 q.2.2.1 r_this_undone r_this_saved ∧ TX q.2.2.1 r_this_all ∧ FQ q.2.2.1 r_this_all) := by
  exact tt_m (ahe_t _ _ _ _ _ rM.1.1.1 _) (fun q hq => by
    obtain ⟨h1, h2⟩ := hq
    rw [show _ = s_this.2.1 from h1]
    exact ⟨rM.same h2, fun j _ h => h2 j h, fun j h => h2 j (by omega)⟩)
set_option maxRecDepth 100000 in
theorem rq_locks {x0 : Int32} {s_this : SX12} {r_this_all : Nat → Int32} {r_this_line : Nat → Int8} {r_this_undone : Nat → Int32} {r_this_saved : Nat → Int32} (rM : RQ s_this.2.1 r_this_all r_this_undone r_this_saved) : Tt (f_X12_locks x0 s_this r_this_all r_this_line) (fun q => RQ q.2.1.2.1 q.2.2 r_this_undone r_this_saved ∧ TX q.2.2 r_this_all ∧ FQ q.2.2 r_this_all) := by
  exact tt_m (loc_t _ _ _ rM.1.1.1 _) (fun q hq => by
    obtain ⟨h1, h2⟩ := hq
    rw [show _ = s_this.2.1 from h1]
    exact ⟨rM.same h2, fun j _ h => h2 j h, fun j h => h2 j (by omega)⟩)
set_option maxRecDepth 100000 in
theorem rq_from {x0 : Int32} {x1 : Int32} {s_this : SX12} {r_this_all : Nat → Int32} {r_this_line : Nat → Int8} {r_this_undone : Nat → Int32} {r_this_saved : Nat → Int32} (rM : RQ s_this.2.1 r_this_all r_this_undone r_this_saved) : Tt (f_X12_from x0 x1 s_this r_this_all r_this_line) (fun q => RQ q.2.1.2.1 q.2.2 r_this_undone r_this_saved ∧ TX q.2.2 r_this_all ∧ FQ q.2.2 r_this_all) := by
  exact tt_m (fro_t _ _ _ _ rM.1.1.1 _) (fun q hq => by
    obtain ⟨h1, h2⟩ := hq
    rw [show _ = s_this.2.1 from h1]
    exact ⟨rM.same h2, fun j _ h => h2 j h, fun j h => h2 j (by omega)⟩)
set_option maxRecDepth 100000 in
theorem rq_least {x0 : Int32} {s_this : SX12} {r_this_all : Nat → Int32} {r_this_line : Nat → Int8} {r_this_undone : Nat → Int32} {r_this_saved : Nat → Int32} (rM : RQ s_this.2.1 r_this_all r_this_undone r_this_saved) : Tt (f_X12_least x0 s_this r_this_all r_this_line) (fun q => RQ q.2.1.2.1 q.2.2 r_this_undone r_this_saved ∧ TX q.2.2 r_this_all ∧ FQ q.2.2 r_this_all) := by
  exact tt_m (lea_t _ _ _ rM.1.1.1 _) (fun q hq => by
    obtain ⟨h1, h2⟩ := hq
    rw [show _ = s_this.2.1 from h1]
    exact ⟨rM.same h2, fun j _ h => h2 j h, fun j h => h2 j (by omega)⟩)
set_option maxRecDepth 100000 in
theorem rq_weak {s_this : SX12} {r_this_all : Nat → Int32} {r_this_line : Nat → Int8} {r_this_undone : Nat → Int32} {r_this_saved : Nat → Int32} (rM : RQ s_this.2.1 r_this_all r_this_undone r_this_saved) : Tt (f_X12_weak s_this r_this_all r_this_line) (fun q => RQ q.2.1.2.1 q.2.2.1 r_this_undone r_this_saved ∧ TX q.2.2.1 r_this_all ∧ FQ q.2.2.1 r_this_all) := by
  exact tt_m (wea_t _ _ rM.1.1.1 _) (fun q hq => by
    obtain ⟨h1, h2⟩ := hq
    rw [show _ = s_this.2.1 from h1]
    exact ⟨rM.same h2, fun j _ h => h2 j h, fun j h => h2 j (by omega)⟩)
set_option maxRecDepth 100000 in
theorem rq_say {x0 : Int32} {s_this : SX12} {r_this_all : Nat → Int32} {r_this_line : Nat → Int8} {r_this_undone : Nat → Int32} {r_this_undoneLine : Nat → Int8} {r_this_saved : Nat → Int32} (rM : RQ s_this.2.1 r_this_all r_this_undone r_this_saved) : Tt (f_X12_say x0 s_this r_this_all r_this_line r_this_undone r_this_undoneLine) (fun q => RQ q.2.1.2.1 q.2.2.1 q.2.2.2.1 r_this_saved ∧ TX q.2.2.1 r_this_all ∧ FQ q.2.2.1 r_this_all) := by
  obtain ⟨s1, s2, s3, s4, s5, s6, s7, s8, s9, s10, s11, s12⟩ := s_this
  obtain ⟨u, hu, hK⟩ := id rM.1.2.1
  have hu : s2 = nI u := hu
  subst hu
  obtain ⟨c, hB, hQ⟩ := rM.q hK
  exact tt_m (say_q _ _ _ _ _ _ _ _ _ _ _ _ _ _ _ _ _ hB hQ) (fun q hq => rM.act hB hq)
set_option maxRecDepth 100000 in
theorem rq_send {x0 : Int32} {x1 : Int32} {s_this : SX12} {r_this_all : Nat → Int32} {r_this_line : Nat → Int8} {r_this_undone : Nat → Int32} {r_this_undoneLine : Nat → Int8} {r_this_saved : Nat → Int32} (rM : RQ s_this.2.1 r_this_all r_this_undone r_this_saved) : Tt (f_X12_send x0 x1 s_this r_this_all r_this_line r_this_undone r_this_undoneLine) (fun q => RQ q.2.1.2.1 q.2.2.1 q.2.2.2.2.1 r_this_saved ∧ TX q.2.2.1 r_this_all ∧ FQ q.2.2.1 r_this_all) := by
  obtain ⟨s1, s2, s3, s4, s5, s6, s7, s8, s9, s10, s11, s12⟩ := s_this
  obtain ⟨u, hu, hK⟩ := id rM.1.2.1
  have hu : s2 = nI u := hu
  subst hu
  obtain ⟨c, hB, hQ⟩ := rM.q hK
  exact tt_m (send_q _ _ _ _ _ _ _ _ _ _ _ _ _ _ _ _ _ _ hB hQ) (fun q hq => rM.act hB hq)
set_option maxRecDepth 100000 in
theorem rq_turn {x0 : Int32} {s_this : SX12} {r_this_all : Nat → Int32} {r_this_line : Nat → Int8} {r_this_undone : Nat → Int32} {r_this_undoneLine : Nat → Int8} {r_this_saved : Nat → Int32} (rM : RQ s_this.2.1 r_this_all r_this_undone r_this_saved) : Tt (f_X12_turn x0 s_this r_this_all r_this_line r_this_undone r_this_undoneLine) (fun q => RQ q.2.1.2.1 r_this_all q.2.2.2.1 r_this_saved ∧ TX r_this_all r_this_all ∧ FQ r_this_all r_this_all) := by
  obtain ⟨s1, s2, s3, s4, s5, s6, s7, s8, s9, s10, s11, s12⟩ := s_this
  obtain ⟨u, hu, hK⟩ := id rM.1.2.1
  have hu : s2 = nI u := hu
  subst hu
  obtain ⟨c, hB, hQ⟩ := rM.q hK
  exact tt_m (turn_q _ _ _ _ _ _ _ _ _ _ _ _ _ _ _ _ _ hB hQ) (fun q hq => rM.act hB hq)
set_option maxRecDepth 100000 in
theorem rq_lose {x0 : Int32} {x1 : Int32} {s_this : SX12} {r_this_all : Nat → Int32} {r_this_line : Nat → Int8} {r_this_undone : Nat → Int32} {r_this_undoneLine : Nat → Int8} {r_this_saved : Nat → Int32} (rM : RQ s_this.2.1 r_this_all r_this_undone r_this_saved) : Tt (f_X12_lose x0 x1 s_this r_this_all r_this_line r_this_undone r_this_undoneLine) (fun q => RQ q.2.1.2.1 q.2.2.1 q.2.2.2.2.1 r_this_saved ∧ TX q.2.2.1 r_this_all ∧ FQ q.2.2.1 r_this_all) := by
  obtain ⟨s1, s2, s3, s4, s5, s6, s7, s8, s9, s10, s11, s12⟩ := s_this
  obtain ⟨u, hu, hK⟩ := id rM.1.2.1
  have hu : s2 = nI u := hu
  subst hu
  obtain ⟨c, hB, hQ⟩ := rM.q hK
  exact tt_m (lose_q _ _ _ _ _ _ _ _ _ _ _ _ _ _ _ _ _ _ hB hQ) (fun q hq => rM.act hB hq)
set_option maxRecDepth 100000 in
theorem rq_put {x0 : Int32} {x1 : Int32} {s_this : SX12} {r_this_all : Nat → Int32} {r_this_line : Nat → Int8} {r_this_undone : Nat → Int32} {r_this_undoneLine : Nat → Int8} {r_this_saved : Nat → Int32} (rM : RQ s_this.2.1 r_this_all r_this_undone r_this_saved) : Tt (f_X12_put x0 x1 s_this r_this_all r_this_line r_this_undone r_this_undoneLine) (fun q => RQ q.2.1.2.1 q.2.2.1 q.2.2.2.2.1 r_this_saved ∧ TX q.2.2.1 r_this_all ∧ FQ q.2.2.1 r_this_all) := by
  obtain ⟨s1, s2, s3, s4, s5, s6, s7, s8, s9, s10, s11, s12⟩ := s_this
  obtain ⟨u, hu, hK⟩ := id rM.1.2.1
  have hu : s2 = nI u := hu
  subst hu
  obtain ⟨c, hB, hQ⟩ := rM.q hK
  exact tt_m (put_q _ _ _ _ _ _ _ _ _ _ _ _ _ _ _ _ _ _ hB hQ) (fun q hq => rM.act hB hq)
set_option maxRecDepth 100000 in
theorem rq_hear {x0 : Int32} {s_this : SX12} {r_this_all : Nat → Int32} {r_this_line : Nat → Int8} {r_this_undone : Nat → Int32} {r_this_undoneLine : Nat → Int8} {r_this_saved : Nat → Int32} (rM : RQ s_this.2.1 r_this_all r_this_undone r_this_saved) : Tt (f_X12_hear x0 s_this r_this_all r_this_line r_this_undone r_this_undoneLine) (fun q => RQ q.2.1.2.1 q.2.2.1 q.2.2.2.1 r_this_saved ∧ TX q.2.2.1 r_this_all ∧ FQ q.2.2.1 r_this_all) := by
  obtain ⟨s1, s2, s3, s4, s5, s6, s7, s8, s9, s10, s11, s12⟩ := s_this
  obtain ⟨u, hu, hK⟩ := id rM.1.2.1
  have hu : s2 = nI u := hu
  subst hu
  obtain ⟨c, hB, hQ⟩ := rM.q hK
  exact tt_m (hear_q _ _ _ _ _ _ _ _ _ _ _ _ _ _ _ _ _ hB hQ) (fun q hq => rM.act hB hq)
set_option maxRecDepth 100000 in
theorem rq_undo {s_this : SX12} {r_this_all : Nat → Int32} {r_this_line : Nat → Int8} {r_this_undone : Nat → Int32} {r_this_undoneLine : Nat → Int8} {r_this_saved : Nat → Int32} (rM : RQ s_this.2.1 r_this_all r_this_undone r_this_saved) : Tt (f_X12_undo s_this r_this_all r_this_line r_this_undone r_this_undoneLine) (fun q => RQ q.2.1.2.1 q.2.2.1 r_this_undone r_this_saved ∧ TX q.2.2.1 r_this_all ∧ FQ q.2.2.1 r_this_all) := by
  obtain ⟨s1, s2, s3, s4, s5, s6, s7, s8, s9, s10, s11, s12⟩ := s_this
  obtain ⟨u, hu, hK⟩ := id rM.1.2.1
  have hu : s2 = nI u := hu
  subst hu
  obtain ⟨c, hB, hQ⟩ := rM.q hK
  exact tt_m (undo_q _ _ _ _ _ _ _ _ _ _ _ _ _ _ _ _ hB hQ) (fun q hq => rM.act hB hq)
set_option maxRecDepth 100000 in
theorem rq_key {x0 : Int64} {s_this : SX12} {r_this_all : Nat → Int32} {r_this_text : Nat → Int8} {r_this_undone : Nat → Int32} {r_this_saved : Nat → Int32} (rM : RQ s_this.2.1 r_this_all r_this_undone r_this_saved) : Tt (f_X12_key x0 s_this r_this_all r_this_text) (fun q => RQ q.2.1.2.1 q.2.2.1 r_this_undone r_this_saved) := by
  obtain ⟨z, hz, e⟩ := rM.1.1.2
  exact tt_m (key_t _ _ _ _ z hz (by have h := e; rw [Nat.zero_add] at h; exact h)) (fun q hq => by
    obtain ⟨h1, h2, z2, h3, h4⟩ := hq
    rw [show _ = s_this.2.1 from h1]
    exact ⟨rM.1.of ⟨rM.1.1.1.c (fun k hk => by rw [Nat.zero_add]; exact h2 _ (by omega)), z2, h3, (by rw [Nat.zero_add]; exact h4)⟩ rM.1.2.1 (fun j hj _ => h2 j (by omega)), rM.2.same (fun j hj => h2 j (by omega))⟩)
set_option maxRecDepth 100000 in
theorem rq_scheme {s_this : SX12} {r_this_all : Nat → Int32} {r_this_text : Nat → Int8} {r_this_told : Nat → Int32} {r_this_undone : Nat → Int32} {r_this_saved : Nat → Int32} (rM : RQ s_this.2.1 r_this_all r_this_undone r_this_saved) : Tt (f_X12_scheme s_this r_this_all r_this_text r_this_told) (fun q => RQ q.2.1.2.1 q.2.2.1 r_this_undone r_this_saved ∧ ∀ j, 136 ≤ j → j < 544 → q.2.2.1 j = r_this_all j) := by
  obtain ⟨z, hz, e⟩ := rM.1.1.2
  exact tt_m (sc_is hz _ _ (by have h := e; rw [Nat.zero_add] at h; exact h) _ _) (fun q hq => by
    obtain ⟨h1, h2, h3⟩ := hq
    have hz : ∃ z : Nat, z ≤ 300 ∧ q.2.2.1 (0 + 133) = nI z := ⟨0, by omega, by rw [Nat.zero_add]; exact h2⟩
    rcases h1 with ⟨h1, hB⟩ | ⟨h1, hB⟩
    · rw [show _ = (0 : Int32) from h1]
      exact ⟨⟨rM.1.of ⟨hB, hz⟩ ⟨0, rfl, by omega, fun j hj => absurd hj (by omega)⟩ (fun j hj _ => h3 j hj), HQ.zero _ _⟩, fun j hj _ => h3 j hj⟩
    · rw [show _ = s_this.2.1 from h1]
      exact ⟨⟨rM.1.of ⟨rM.1.1.1.c (fun k hk => by rw [Nat.zero_add]; exact hB _ hk), hz⟩ rM.1.2.1 (fun j hj _ => h3 j hj), rM.2.same (fun j hj => hB j (by omega))⟩, fun j hj _ => h3 j hj⟩)
set_option maxRecDepth 100000 in
theorem rq_again {x0 : Int32} {s_this : SX12} {r_this_all : Nat → Int32} {r_this_line : Nat → Int8} {r_this_text : Nat → Int8} {r_this_saved : Nat → Int32} {r_this_undone : Nat → Int32} (rM : RQ s_this.2.1 r_this_all r_this_undone r_this_saved) : Tt (f_X12_again x0 s_this r_this_all r_this_line r_this_text r_this_saved) (fun q => RQ q.2.1.2.1 q.2.2.1 r_this_undone r_this_saved) := by
  refine tt_m (tt_and (r_again rM.1) (again_u _ _ _ _ _ _)) (fun q hq => ⟨hq.1, ?_⟩)
  rcases hq.2 with e | ⟨e1, e2⟩
  · rw [e]; exact HQ.zero _ _
  · rw [e1, e2]; exact rM.2
set_option maxRecDepth 100000 in
theorem rq_image {x0 : Int32} {s_this : SX12} {r_this_all : Nat → Int32} {r_this_line : Nat → Int8} {r_this_text : Nat → Int8} {r_this_saved : Nat → Int32} {r_this_undone : Nat → Int32} (rM : RQ s_this.2.1 r_this_all r_this_undone r_this_saved) : Tt (f_X12_image x0 s_this r_this_all r_this_line r_this_text r_this_saved) (fun q => q.1 = imgR x0 ∧ RQ q.2.1.2.1 q.2.2.1 r_this_undone q.2.2.2.2.2) := by
  refine tt_m (tt_and (r_image rM.1) (image_u _ _ _ _ _ _)) (fun q hq => ⟨hq.1.1, hq.1.2, ?_⟩)
  rw [hq.2.1]
  exact rM.2.same (fun j hj => hq.2.2 j (by omega))
/-! Schemes alike, and role's answer. -/
def PJ (p : SX5) (ro a : Nat → Int32) (o : Nat) : Prop := ∃ R : Nat, R ≤ 12 ∧ p.2.1 = nI R ∧ a (o + 8) = nI R ∧ ∀ j, j < R → EQN (ro j) (a (o + (9 + j)))
def KP (k : Nat) (p : SX5) (ro a sv : Nat → Int32) : Prop := ¬ sv k = 0 → PJ p ro a (136 * (k + 1))
def PP (p : SX5) (ro : Nat → Int32) (p0 : SX5) (r0 : Nat → Int32) (p1 : SX5) (r1 : Nat → Int32) (p2 : SX5) (r2 : Nat → Int32) (a sv : Nat → Int32) : Prop := PJ p ro a 0 ∧ KP 0 p0 r0 a sv ∧ KP 1 p1 r1 a sv ∧ KP 2 p2 r2 a sv
theorem PJ.of {p : SX5} {ro a a' : Nat → Int32} {o o' : Nat} (h : PJ p ro a o) (e : ∀ j, j < 21 → a' (o' + j) = a (o + j)) : PJ p ro a' o' := by
  obtain ⟨R, h1, h2, h3, h4⟩ := h
  exact ⟨R, h1, h2, (e 8 (by decide)).trans h3, fun j hj => (h4 j hj).trans (e (9 + j) (by omega)).symm⟩
theorem PJ.cw {p p' : SX5} {ro ro' a : Nat → Int32} {o : Nat} (h : PJ p ro a o) (e1 : p' = p) (e2 : ∀ j, j < 12 → ro' j = ro j) : PJ p' ro' a o := by
  obtain ⟨R, h1, h2, h3, h4⟩ := h
  subst e1
  exact ⟨R, h1, h2, h3, fun j hj => by rw [e2 j (by omega)]; exact h4 j hj⟩
theorem KP.of {k : Nat} {p : SX5} {ro a a' sv : Nat → Int32} (h : KP k p ro a sv) (e : ∀ j, j < 21 → a' (136 * (k + 1) + j) = a (136 * (k + 1) + j)) : KP k p ro a' sv := fun c => (h c).of e
theorem PP.now {p p' : SX5} {ro ro' : Nat → Int32} {p0 : SX5} {r0 : Nat → Int32} {p1 : SX5} {r1 : Nat → Int32} {p2 : SX5} {r2 a a' sv : Nat → Int32} (h : PP p ro p0 r0 p1 r1 p2 r2 a sv) (n : PJ p' ro' a' 0) (e : ∀ j, 136 ≤ j → j < 544 → a' j = a j) : PP p' ro' p0 r0 p1 r1 p2 r2 a' sv := by
  obtain ⟨h1, h2, h3, h4⟩ := h
  exact ⟨n, h2.of (fun j hj => e _ (by omega) (by omega)), h3.of (fun j hj => e _ (by omega) (by omega)), h4.of (fun j hj => e _ (by omega) (by omega))⟩
theorem PP.fq {p : SX5} {ro : Nat → Int32} {p0 : SX5} {r0 : Nat → Int32} {p1 : SX5} {r1 : Nat → Int32} {p2 : SX5} {r2 a a' sv : Nat → Int32} (h : PP p ro p0 r0 p1 r1 p2 r2 a sv) (t : ∀ j, 136 ≤ j → j < 544 → a' j = a j) (f : FQ a' a) : PP p ro p0 r0 p1 r1 p2 r2 a' sv :=
  h.now (h.1.of (fun j hj => by rw [Nat.zero_add]; exact f j hj)) t
theorem TR.pj {p : SX5} {ro a : Nat → Int32} (h : TR p ro a) : PJ p ro a 0 := by
  obtain ⟨-, -, -, -, -, -, -, -, R, -, h2, h3, h4, h5⟩ := h
  exact ⟨R, h2, h3, h4, fun j hj => by rw [Nat.zero_add]; exact h5 j hj⟩
theorem PP.scheme {p p' : SX5} {ro ro' : Nat → Int32} {p0 : SX5} {r0 : Nat → Int32} {p1 : SX5} {r1 : Nat → Int32} {p2 : SX5} {r2 a a' sv : Nat → Int32} {v : Int32} (h : PP p ro p0 r0 p1 r1 p2 r2 a sv) (d : (a' 134 = 0 ∧ TR p' ro' a') ∨ (¬ a' 134 = 0 ∧ p' = p ∧ ro' = ro ∧ (∀ j, j < 133 → a' j = a j) ∧ v = -1)) (e : ∀ j, 136 ≤ j → j < 544 → a' j = a j) : PP p' ro' p0 r0 p1 r1 p2 r2 a' sv := by
  rcases d with ⟨_, d⟩ | ⟨_, d1, d2, d3, _⟩
  · exact h.now d.pj e
  · subst d1; subst d2
    exact h.fq e (fun j hj => d3 j (by omega))
theorem KP.image {i k : Nat} (hi : i < 3) (hk : k < 3) {a : Nat → Int32} {tx : Nat → Int8} {sv : Nat → Int32} {p : SX5} {ro : Nat → Int32} {x : SX8} {xb : Nat → Int8} {pi : SX5} {ri : Nat → Int32} {xi : SX8} {bi : Nat → Int8} {pi' : SX5} {ri' : Nat → Int32} {xi' : SX8} {bi' : Nat → Int8} {a' : Nat → Int32} {tx' : Nat → Int8} (h1 : PJ p ro a 0) (h : KP i pi ri a sv) (s : SL (nI k = nI i) p ro x xb pi ri xi bi pi' ri' xi' bi') (bk : BK 0 (k + 1) a tx a' tx') : KP i pi' ri' a' (upd sv k 1) := by
  obtain ⟨⟨b1, b2⟩, -⟩ := bk
  by_cases e : k = i
  · subst e
    obtain ⟨s1, s2, -⟩ := s.1 rfl
    intro _
    refine PJ.cw (h1.of (fun j hj => ?_)) s1 s2
    have := b1 j (by omega)
    rw [this, Nat.mul_zero]
  · obtain ⟨s1, s2, -⟩ := s.2 (nk_ne hk hi e)
    subst s1; subst s2
    intro c
    rw [upd_ne _ _ (fun q => e q.symm)] at c
    exact (h c).of (fun j hj => b2 _ (by omega))
theorem PP.image {p : SX5} {ro : Nat → Int32} {p0 : SX5} {r0 : Nat → Int32} {p1 : SX5} {r1 : Nat → Int32} {p2 : SX5} {r2 a sv : Nat → Int32} (h : PP p ro p0 r0 p1 r1 p2 r2 a sv) {y : Int32} {x x0 x1 x2 x0' x1' x2' : SX8} {xb b0 b1 b2 b0' b1' b2' tx tx' : Nat → Int8} {p0' p1' p2' : SX5} {r0' r1' r2' a' sv' : Nat → Int32}
    (s0 : SL (y = nI 0) p ro x xb p0 r0 x0 b0 p0' r0' x0' b0') (s1 : SL (y = nI 1) p ro x xb p1 r1 x1 b1 p1' r1' x1' b1') (s2 : SL (y = nI 2) p ro x xb p2 r2 x2 b2 p2' r2' x2' b2') (e' : sv' = imgK y sv) (bk : ∀ k, k < 3 → y = nI k → BK 0 (k + 1) a tx a' tx') (no : (∀ k, k < 3 → ¬ y = nI k) → a' = a ∧ tx' = tx) : PP p ro p0' r0' p1' r1' p2' r2' a' sv' := by
  obtain ⟨h1, h3, h4, h5⟩ := h
  by_cases c : ∃ k, k < 3 ∧ y = nI k
  · obtain ⟨k, hk, rfl⟩ := c
    have q := bk k hk rfl
    rw [imgK_k hk] at e'
    subst e'
    exact ⟨h1.of (fun j hj => q.1.2 _ (by omega)), KP.image (by decide) hk h1 h3 s0 q, KP.image (by decide) hk h1 h4 s1 q, KP.image (by decide) hk h1 h5 s2 q⟩
  · have c' : ∀ k, k < 3 → ¬ y = nI k := fun k hk e => c ⟨k, hk, e⟩
    obtain ⟨rfl, -⟩ := no c'
    rw [imgK_o c'] at e'
    subst e'
    obtain ⟨rfl, rfl, -⟩ := s0.2 (c' 0 (by decide))
    obtain ⟨rfl, rfl, -⟩ := s1.2 (c' 1 (by decide))
    obtain ⟨rfl, rfl, -⟩ := s2.2 (c' 2 (by decide))
    exact ⟨h1, h3, h4, h5⟩
theorem PP.again {p : SX5} {ro : Nat → Int32} {p0 : SX5} {r0 : Nat → Int32} {p1 : SX5} {r1 : Nat → Int32} {p2 : SX5} {r2 a sv ik : Nat → Int32} (h : PP p ro p0 r0 p1 r1 p2 r2 a sv) (hs : SK ik sv) {y : Int32} {x x0 x1 x2 x' : SX8} {xb b0 b1 b2 xb' tx tx' : Nat → Int8} {p' : SX5} {ro' a' : Nat → Int32}
    (s0 : y = nI 0 → ¬ ik 0 = 0 → CW p0 r0 x0 b0 p' ro' x' xb') (s1 : y = nI 1 → ¬ ik 1 = 0 → CW p1 r1 x1 b1 p' ro' x' xb') (s2 : y = nI 2 → ¬ ik 2 = 0 → CW p2 r2 x2 b2 p' ro' x' xb') (s3 : (∀ k, k < 3 → y = nI k → ik k = 0) → p' = p ∧ ro' = ro ∧ x' = x ∧ xb' = xb) (bk : ∀ k, k < 3 → y = nI k → ¬ sv k = 0 → BK (k + 1) 0 a tx a' tx') (no : (∀ k, k < 3 → y = nI k → sv k = 0) → a' = a ∧ tx' = tx) : PP p' ro' p0 r0 p1 r1 p2 r2 a' sv := by
  by_cases c : ∃ k, k < 3 ∧ y = nI k ∧ ¬ sv k = 0
  · obtain ⟨k, hk, rfl, hv⟩ := c
    have q := bk k hk rfl hv
    have hi : ¬ ik k = 0 := by rw [hs k hk]; exact hv
    have go : ∀ {pk : SX5} {rk : Nat → Int32} {xk : SX8} {bk : Nat → Int8}, KP k pk rk a sv → CW pk rk xk bk p' ro' x' xb' → PJ p' ro' a' 0 := fun {pk rk xk bk} m w => by
      refine PJ.cw (PJ.of (m hv) (fun j hj => ?_)) w.1 w.2.1
      have := q.1.1 j (by omega)
      rw [Nat.mul_zero] at this
      exact this
    have n : PJ p' ro' a' 0 := by
      rcases (show k = 0 ∨ k = 1 ∨ k = 2 by omega) with rfl | rfl | rfl
      · exact go h.2.1 (s0 rfl hi)
      · exact go h.2.2.1 (s1 rfl hi)
      · exact go h.2.2.2 (s2 rfl hi)
    exact h.now n (fun j h1 _ => q.1.2 _ (by omega))
  · have c' : ∀ k, k < 3 → y = nI k → sv k = 0 := fun k hk e => Classical.not_not.mp (fun n => c ⟨k, hk, e, n⟩)
    obtain ⟨rfl, -⟩ := no c'
    obtain ⟨rfl, rfl, -⟩ := s3 (fun k hk e => by rw [hs k hk]; exact c' k hk e)
    exact h
/-- a place that has a role -/
def RIN (a : Nat → Int32) (x : Int32) : Prop := ∃ k R : Nat, a 8 = nI R ∧ R ≤ 12 ∧ k < R ∧ x = nI k
theorem role_k {p : SX5} {ro a : Nat → Int32} (h : PJ p ro a 0) (x sc : Int32) (v : Nat → Int64) : Tt (f_L_role x sc p ro v) (fun q => (RIN a x → q.1 = 0 ∧ q.2 0 = (a ((9 : Int32) + x).toNatClampNeg).toInt64) ∧ (¬ RIN a x → q.1 = 1)) := by
  obtain ⟨R, h1, h2, h3, h4⟩ := h
  obtain ⟨p1, p2, p3, p4, p5, p6, p7, p8, p9, p10, p11, p12, p13, p14, p15⟩ := p
  have h2 : p2 = nI R := h2
  have h3 : a 8 = nI R := h3
  subst h2
  have out : (∀ k, k < R → ¬ x = nI k) → ¬ RIN a x := fun n ⟨k, R', e, hR, hk, ex⟩ => n k (by
    have := (nI_eq (by omega) (by omega)).mp (h3.symm.trans e)
    omega) ex
  unfold f_L_role f_X5_roleAt
  simp only []
  by_cases c0 : x < 0
  · rw [if_pos c0, bso]
    exact tt_r ⟨fun q => absurd q (out (fun k hk e => by rw [e] at c0; exact nI_pos (by omega) c0)), fun _ => rfl⟩
  obtain ⟨k, hk, rfl⟩ := nI_of c0
  rw [if_neg c0]
  by_cases c1 : R ≤ k
  · rw [if_pos (nI_le c1 hk), bso]
    exact tt_r ⟨fun q => absurd q (out (fun j hj e => by have := (nI_eq hk (by omega)).mp e; omega)), fun _ => rfl⟩
  rw [if_neg (nI_ge (by omega) (by omega)), if_neg (show ¬ (12 : Int32) ≤ nI k from nI_ge (b := 12) (by omega) (by decide)), m_inI (nI_in (c := k) (N := 12) (by omega) (by decide)), bso, nI_clamp (by omega)]
  have e4 := h4 k (by omega)
  rw [Nat.zero_add] at e4
  rw [if_neg e4.2]
  refine tt_r ⟨fun _ => ⟨rfl, ?_⟩, fun n => absurd ⟨k, R, h3, h1, by omega, rfl⟩ n⟩
  rw [show (9 : Int32) = nI 9 from rfl, nI_add, nI_clamp (by omega), ← e4.1]
  rfl
theorem role_r {a : Nat → Int32} {R : Nat} (h8 : a 8 = nI R) (hR : R ≤ 12) (x : Int32) (s : SX12) : Tt (f_X12_role x s a) (fun q => (RIN a x → q.2.1 = 0 ∧ q.1 = a ((9 : Int32) + x).toNatClampNeg) ∧ (¬ RIN a x → q.2.1 = 1)) := by
  obtain ⟨ra, u, re, le, be, so, va, si, w, wa, bd, x12⟩ := s
  have inn : ∀ k, k < R → x = nI k → RIN a x := fun k hk e => ⟨k, R, h8, hR, hk, e⟩
  unfold f_X12_role
  simp only []
  rw [h8, in_val, bso]
  have bad : (∀ k, k < R → ¬ x = nI k) → Tt (f_X12_role_23 x u re le be so va si w wa bd x12 a 1) (fun q => (RIN a x → q.2.1 = 0 ∧ q.1 = a ((9 : Int32) + x).toNatClampNeg) ∧ (¬ RIN a x → q.2.1 = 1)) := fun n => by
    unfold f_X12_role_23
    rw [if_neg (show ¬ (1 : Int32) ≤ 0 by decide)]
    refine tt_r ⟨fun ⟨k, R', e, hR', hk, ex⟩ => absurd ex (n k (by
      have := (nI_eq (by omega) (by omega)).mp (h8.symm.trans e)
      omega)), fun _ => rfl⟩
  by_cases c0 : x < 0
  · rw [if_pos c0, if_pos rfl]
    exact bad (fun k hk e => by rw [e] at c0; exact nI_pos (by omega) c0)
  obtain ⟨k, hk, rfl⟩ := nI_of c0
  rw [if_neg c0]
  by_cases c1 : R ≤ k
  · have : nI R - 1 < nI k := by
      rcases Nat.eq_zero_or_pos R with e | e
      · rw [e]
        rw [i_lt, nI_toInt hk, show (nI 0 - 1).toInt = -1 by decide]
        omega
      · rw [show nI R - 1 = nI (R - 1) from pk_sub (b := 1) e]
        exact nI_lt (by omega) hk
    rw [if_pos this, if_pos rfl]
    exact bad (fun j hj e => by have := (nI_eq hk (by omega)).mp e; omega)
  have : ¬ nI R - 1 < nI k := by
    rw [show nI R - 1 = nI (R - 1) from pk_sub (b := 1) (by omega)]
    exact nI_nlt (by omega) (by omega)
  rw [if_neg this, if_neg (show ¬ (1 : Int32) = 0 by decide)]
  unfold f_X12_role_23 f_X12_roleAt
  rw [if_pos (show (0 : Int32) ≤ 0 by decide), show (9 : Int32) = nI 9 from rfl, nI_add, m_inI (nI_in (c := 9 + k) (N := 680) (by omega) (by decide)), bso]
  exact tt_r ⟨fun _ => ⟨rfl, rfl⟩, fun n => absurd (inn k (by omega) rfl) n⟩
theorem PJ.role {p : SX5} {ro a : Nat → Int32} (h : PJ p ro a 0) (x : Int32) (s : SX12) : Tt (f_X12_role x s a) (fun q => (RIN a x → q.2.1 = 0 ∧ q.1 = a ((9 : Int32) + x).toNatClampNeg) ∧ (¬ RIN a x → q.2.1 = 1)) := by
  obtain ⟨R, h1, _, h3, _⟩ := h
  exact role_r h3 h1 x s
theorem thrown_v (s : SX12) : Tt (f_X12_thrown s) (fun q => q = s.1) := by
  obtain ⟨ra, u, re, le, be, so, va, si, w, wa, bd, x⟩ := s
  exact ⟨_, rfl, rfl⟩
