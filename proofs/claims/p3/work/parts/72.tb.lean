theorem f_X12_linkHears_109_s  (n : Nat) (y109_l2 : Int32) (y109_this_all : (Nat → Int32)) : f_X12_linkHears_109  (n + 1) y109_l2 y109_this_all = ((if y109_l2 ≤ 0 then some (upd (upd y109_this_all 54 (y109_this_all 53)) 50 (((upd y109_this_all 54 (y109_this_all 53)) 50) + 1)) else m_in ((54 + y109_l2) - 1) 680 (m_in (54 + y109_l2) 680 ((f_X12_linkHears_109 n) (y109_l2 + (-1)) (upd y109_this_all (54 + y109_l2).toNatClampNeg (y109_this_all ((54 + y109_l2) - 1).toNatClampNeg)))))) := rfl
theorem f_X12_signals_31_s (s_this : SX12) (n : Nat) (y31_l1 : Int32) (y31_this_all : (Nat → Int32)) : f_X12_signals_31 s_this (n + 1) y31_l1 y31_this_all = (Option.bind (f_X12_channels s_this y31_this_all) (fun u33_r => (if u33_r ≤ y31_l1 then some y31_this_all else m_in (78 + (2 * y31_l1)) 680 (Option.bind (f_X12_bitOf (y31_this_all 75) ((y31_l1 + 1) * (y31_this_all 2)) s_this y31_this_all) (fun u77_r => m_n ((((y31_this_all (78 + (2 * y31_l1)).toNatClampNeg) <<< ((1 : Int32) &&& 31)) ||| u77_r) &&& 7) (fun u84_e => m_in (78 + (2 * y31_l1)) 680 (m_in ((78 + (2 * y31_l1)) + 1) 680 (Option.bind (f_X12_lesser 3 (((upd y31_this_all (78 + (2 * y31_l1)).toNatClampNeg u84_e) ((78 + (2 * y31_l1)) + 1).toNatClampNeg) + 1)) (fun u103_r => m_in ((78 + (2 * y31_l1)) + 1) 680 ((f_X12_signals_31 s_this n) (y31_l1 + 1) (upd (upd y31_this_all (78 + (2 * y31_l1)).toNatClampNeg u84_e) ((78 + (2 * y31_l1)) + 1).toNatClampNeg u103_r))))))))))) := rfl
theorem f_X12_stores_24_s (x0 : Int32) (n : Nat) (y24_l2 : Int32) (y24_this_all : (Nat → Int32)) : f_X12_stores_24 x0 (n + 1) y24_l2 y24_this_all = ((if 3 ≤ y24_l2 then f_X12_stores_64 x0 (upd y24_this_all 48 ((y24_this_all 48) - 1)) else m_in (72 + y24_l2) 680 (m_in (69 + y24_l2) 680 ((f_X12_stores_24 x0 n) (y24_l2 + 1) (upd y24_this_all (69 + y24_l2).toNatClampNeg (y24_this_all (72 + y24_l2).toNatClampNeg)))))) := rfl
def Fr (a a' : Nat → Int32) : Prop := ∀ j, j < 34 ∨ 133 ≤ j → a' j = a j
theorem Fr.rf {a : Nat → Int32} : Fr a a := fun _ _ => rfl
theorem Fr.tr {a b c : Nat → Int32} (h1 : Fr a b) (h2 : Fr b c) : Fr a c := fun j hj => by rw [h2 j hj, h1 j hj]
theorem Fr.up {a b : Nat → Int32} (h : Fr a b) {k : Nat} {v : Int32} (h1 : 34 ≤ k) (h2 : k < 133) : Fr a (upd b k v) := fun j hj => by rw [upd_ne _ _ (by omega)]; exact h j hj
/-- all that a step of the receiver reads stands as it was, but for the position, the bits since, the store -/
def Fr2 (a a' : Nat → Int32) : Prop := Fr a a' ∧ a' 39 = a 39 ∧ a' 40 = a 40 ∧ a' 48 = a 48 ∧ a' 50 = a 50
theorem Fr2.rf {a : Nat → Int32} : Fr2 a a := ⟨Fr.rf, rfl, rfl, rfl, rfl⟩
theorem Fr2.tr {a b c : Nat → Int32} (h1 : Fr2 a b) (h2 : Fr2 b c) : Fr2 a c := ⟨h1.1.tr h2.1, h2.2.1.trans h1.2.1, h2.2.2.1.trans h1.2.2.1, h2.2.2.2.1.trans h1.2.2.2.1, h2.2.2.2.2.trans h1.2.2.2.2⟩
theorem Fr2.up {a b : Nat → Int32} (h : Fr2 a b) {k : Nat} {v : Int32} (h1 : 34 ≤ k) (h2 : k < 133) (h3 : k ≠ 39) (h4 : k ≠ 40) (h5 : k ≠ 48) (h6 : k ≠ 50 := by first | decide | omega) : Fr2 a (upd b k v) :=
  ⟨h.1.up h1 h2, by rw [upd_ne _ _ (fun e => h3 e.symm)]; exact h.2.1, by rw [upd_ne _ _ (fun e => h4 e.symm)]; exact h.2.2.1, by rw [upd_ne _ _ (fun e => h5 e.symm)]; exact h.2.2.2.1, by rw [upd_ne _ _ (fun e => h6 e.symm)]; exact h.2.2.2.2⟩
/-- the scheme's cells -/
def SB (a : Nat → Int32) (L w st r : Nat) : Prop := (4 ≤ L ∧ L ≤ 24) ∧ (1 ≤ w ∧ w ≤ 8) ∧ st ≤ 12 ∧ (2 ≤ r ∧ r ≤ 12) ∧ a 0 = nI L ∧ a 2 = nI w ∧ a 3 = nI st ∧ a 8 = nI r
theorem SB.fr {a a' : Nat → Int32} {L w st r : Nat} (h : SB a L w st r) (f : Fr a a') : SB a' L w st r :=
  ⟨h.1, h.2.1, h.2.2.1, h.2.2.2.1, by rw [f 0 (by omega)]; exact h.2.2.2.2.1, by rw [f 2 (by omega)]; exact h.2.2.2.2.2.1, by rw [f 3 (by omega)]; exact h.2.2.2.2.2.2.1, by rw [f 8 (by omega)]; exact h.2.2.2.2.2.2.2⟩
theorem SB.lr {a : Nat → Int32} {L w st r : Nat} (h : SB a L w st r) : 8 ≤ L * r ∧ L * r ≤ 288 := by
  obtain ⟨⟨a1, a2⟩, _, _, ⟨b1, b2⟩, _⟩ := h
  exact ⟨Nat.mul_le_mul a1 b1, Nat.mul_le_mul a2 b2⟩
theorem ro_t {a : Nat → Int32} {L w st r : Nat} (h : SB a L w st r) (s : SX12) {q : Nat} (hq : q < L * r) : ∃ v, f_X12_roleOf (nI q) s a = some v := by
  have hl := h.lr
  obtain ⟨⟨a1, a2⟩, _, _, ⟨b1, b2⟩, h0, _⟩ := h
  have hq2 : q / L < r := Nat.div_lt_of_lt_mul hq
  unfold f_X12_roleOf f_X12_roleAt
  rw [h0, m_gI (nI_ne0 (by omega) (by omega)), pk_rem (by omega) (by omega) (by omega), pk_div (by omega) (by omega) (by omega)]
  split
  · rw [m_gI (nI_ne0 (by omega) (by omega)), show (9 : Int32) = nI 9 from rfl, nI_add, m_inI (nI_in (c := 9 + q / L) (N := 680) (by omega) (by omega)), bso]
    exact ⟨_, rfl⟩
  · exact ⟨_, rfl⟩
theorem fx_t {a : Nat → Int32} {L w st r : Nat} (h : SB a L w st r) (s : SX12) {q : Nat} (hq : q < L * r) : ∃ v, f_X12_isFixed (nI q) s a = some v ∧ (v = 0 ∨ v = 1) := by
  obtain ⟨v, e⟩ := ro_t h s hq
  unfold f_X12_isFixed
  rw [e, bso]
  split
  · exact ⟨_, rfl, Or.inr rfl⟩
  · split
    · exact ⟨_, rfl, Or.inr rfl⟩
    · exact ⟨_, rfl, Or.inl rfl⟩
theorem cm_t {a : Nat → Int32} {L w st r : Nat} (h : SB a L w st r) (s : SX12) : ∃ v, f_X12_checkMany s a = some v := by
  obtain ⟨_, _, _, ⟨b1, b2⟩, _, _, _, h8⟩ := h
  have key : ∀ (m k n : Nat) (l1 : Int32), k + m = r → m ≤ n → ∃ v, f_X12_checkMany_4 a s (n + 1) l1 (nI k) = some v := by
    intro m
    induction m with
    | zero => intro k n l1 hk _
              rw [f_X12_checkMany_4_s, h8, if_pos (nI_le (by omega) (by omega))]; exact ⟨_, rfl⟩
    | succ m ih =>
      intro k n l1 hk hn
      obtain ⟨n, rfl⟩ : ∃ q, n = q + 1 := ⟨n - 1, by omega⟩
      rw [f_X12_checkMany_4_s, h8, if_neg (nI_ge (by omega) (by omega))]
      unfold f_X12_roleAt f_X12_checkMany_30
      rw [show (9 : Int32) = nI 9 from rfl, nI_add, m_inI (nI_in (c := 9 + k) (N := 680) (by omega) (by omega)), bso, nI_1]
      split
      · exact ih (k + 1) n _ (by omega) (by omega)
      · exact ih (k + 1) n _ (by omega) (by omega)
  exact key r 0 65535 0 (by omega) (by omega)
theorem go_t (x0 x1 x2 : Int32) (s : SX12) (a : Nat → Int32) : ∃ v, f_X12_goesOn x0 x1 x2 s a = some v := by
  have k : ∀ y, ∃ v, f_X12_goesOn_29 x0 x2 a y = some v := by
    intro y
    unfold f_X12_goesOn_29 m_n
    dsimp only
    split
    · exact ⟨_, rfl⟩
    · exact ⟨_, rfl⟩
  unfold f_X12_goesOn
  split
  · exact ⟨_, rfl⟩
  · split
    · exact k 0
    · exact k 1
theorem ck_t {a : Nat → Int32} {L w st r : Nat} (h : SB a L w st r) (s : SX12) (b : Int32) {q : Nat} (hq : q < L * r) : Tt (f_X12_checked (nI q) b s a) (fun z => Fr2 a z.2) := by
  have k28 : ∀ a1, Fr2 a a1 → Tt (f_X12_checked_28 (nI q) s b a1) (fun z => Fr2 a z.2) := by
    intro a1 f1
    have h1 := h.fr f1.1
    obtain ⟨v, e⟩ := ro_t h1 s hq
    have k185 : ∀ (u y : Int32) (t : Int32), Tt (f_X12_checked_185 a1 u y t) (fun z => Fr2 a z.2) := by
      intro u y t
      unfold f_X12_checked_185
      refine tt_n (tt_r ?_)
      show Fr2 a (upd (upd (upd (upd a1 62 u) 64 y) 65 _) 66 _)
      exact (((f1.up (by decide) (by decide) (by decide) (by decide) (by decide)).up (by decide) (by decide) (by decide) (by decide) (by decide)).up (by decide) (by decide) (by decide) (by decide) (by decide)).up (by decide) (by decide) (by decide) (by decide) (by decide)
    have k152 : ∀ (u y t : Int32), Tt (f_X12_checked_152 a1 u y t) (fun z => Fr2 a z.2) := by
      intro u y t
      unfold f_X12_checked_152
      exact tt_i (fun _ => k185 _ _ _) (fun _ => tt_i (fun _ => k185 _ _ _) (fun _ => k185 _ _ _))
    have k105 : ∀ (u y : Int32), Tt (f_X12_checked_105 s a1 u (nI q) y) (fun z => Fr2 a z.2) := by
      intro u y
      have f2 : Fr2 a (upd (upd a1 62 u) 64 y) := (f1.up (by decide) (by decide) (by decide) (by decide) (by decide)).up (by decide) (by decide) (by decide) (by decide) (by decide)
      have h2 := h.fr f2.1
      unfold f_X12_checked_105
      rw [rnd h2.2.2.2.2.1 h2.2.2.2.2.2.2.2, bso]
      refine tt_i (fun _ => tt_i (fun _ => tt_i (fun _ => ?_) (fun _ => k152 _ _ _)) (fun _ => k152 _ _ _)) (fun _ => tt_r f2)
      obtain ⟨v2, e2⟩ := cm_t h2 s
      rw [e2, bso]
      exact tt_i (fun _ => k152 _ _ _) (fun _ => k152 _ _ _)
    have k66 : ∀ (t y : Int32), Tt (f_X12_checked_66 s a1 t (nI q) b y) (fun z => Fr2 a z.2) := by
      intro t y
      unfold f_X12_checked_66
      obtain ⟨v2, e2⟩ := cm_t h1 s
      rw [e2, bso]
      obtain ⟨v3, e3⟩ := go_t (a1 62) y v2 s a1
      rw [e3, bso]
      exact tt_i (fun _ => k105 _ _) (fun _ => k105 _ _)
    have k42 : ∀ t, Tt (f_X12_checked_42 s a1 (nI q) b t) (fun z => Fr2 a z.2) := by
      intro t
      unfold f_X12_checked_42
      exact tt_i (fun _ => k66 _ _) (fun _ => k66 _ _)
    unfold f_X12_checked_28
    rw [e, bso]
    exact tt_i (fun _ => k42 _) (fun _ => k42 _)
  unfold f_X12_checked
  exact tt_i (fun _ => k28 _ (((Fr2.rf.up (by decide) (by decide) (by decide) (by decide) (by decide)).up (by decide) (by decide) (by decide) (by decide) (by decide)).up (by decide) (by decide) (by decide) (by decide) (by decide))) (fun _ => k28 _ Fr2.rf)
theorem fo_t (x0 : Int32) (s : SX12) (a : Nat → Int32) : Tt (f_X12_follows x0 s a) (fun a' => Fr a a' ∧ a' 40 = 0 ∧ a' 39 = a 39 ∧ a' 48 = a 48 ∧ a' 50 = a 50) := by
  have fin : ∀ v, Fr a (upd (upd (upd (upd (upd (upd (upd (upd (upd a 34 x0) 40 0) 41 0) 42 0) 63 0) 65 0) 67 0) 52 (-1)) 37 v) ∧ upd (upd (upd (upd (upd (upd (upd (upd (upd a 34 x0) 40 0) 41 0) 42 0) 63 0) 65 0) 67 0) 52 (-1)) 37 v 40 = 0 ∧ upd (upd (upd (upd (upd (upd (upd (upd (upd a 34 x0) 40 0) 41 0) 42 0) 63 0) 65 0) 67 0) 52 (-1)) 37 v 39 = a 39 ∧ upd (upd (upd (upd (upd (upd (upd (upd (upd a 34 x0) 40 0) 41 0) 42 0) 63 0) 65 0) 67 0) 52 (-1)) 37 v 48 = a 48 ∧ upd (upd (upd (upd (upd (upd (upd (upd (upd a 34 x0) 40 0) 41 0) 42 0) 63 0) 65 0) 67 0) 52 (-1)) 37 v 50 = a 50 := by
    intro v
    refine ⟨(((((((((Fr.rf.up (by decide) (by decide)).up (by decide) (by decide)).up (by decide) (by decide)).up (by decide) (by decide)).up (by decide) (by decide)).up (by decide) (by decide)).up (by decide) (by decide)).up (by decide) (by decide)).up (by decide) (by decide)), rfl, rfl, rfl, rfl⟩
  unfold f_X12_follows
  exact tt_i (fun _ => tt_n (tt_r (fin _))) (fun _ => tt_n (tt_r (fin _)))
theorem hu_t {a : Nat → Int32} {L w st r : Nat} (h : SB a L w st r) (s : SX12) : Tt (f_X12_hunts s a) (fun a' => Fr a a' ∧ a' 40 = 0 ∧ a' 39 = a 39 ∧ a' 48 = a 48 ∧ a' 50 = a 50) := by
  refine tt_m (hn_is s h.1.2 h.2.2.2.1.2 a h.2.2.2.2.1 h.2.2.2.2.2.2.2) ?_
  rintro a' ⟨_, p2, p3⟩
  exact ⟨fun j hj => p3 j (by omega) (by omega) (by omega) (by omega) (by omega), p2, p3 39 (by decide) (by decide) (by decide) (by decide) (by omega), p3 48 (by decide) (by decide) (by decide) (by decide) (by omega), p3 50 (by decide) (by decide) (by decide) (by decide) (by omega)⟩
theorem ve_t {a : Nat → Int32} {L w st r : Nat} (h : SB a L w st r) (s : SX12) (b : Int32) {q : Nat} (hq : q < L * r) : Tt (f_X12_verified (nI q) b s a) (fun a' => Fr a a' ∧ (a' 40 = 0 ∨ a' 40 = a 40) ∧ a' 39 = a 39 ∧ a' 48 = a 48 ∧ a' 50 = a 50) := by
  have k22 : Tt (f_X12_verified_22 (nI q) b s a) (fun a' => Fr a a' ∧ (a' 40 = 0 ∨ a' 40 = a 40) ∧ a' 39 = a 39 ∧ a' 48 = a 48 ∧ a' 50 = a 50) := by
    unfold f_X12_verified_22
    refine tt_b (ck_t h s b hq) ?_
    rintro ⟨v, a1⟩ f1
    have f1 : Fr2 a a1 := f1
    simp only []
    refine tt_i (fun _ => ?_) (fun _ => tt_i (fun _ => ?_) (fun _ => tt_r ⟨f1.1, Or.inr f1.2.2.1, f1.2.1, f1.2.2.2.1, f1.2.2.2.2⟩))
    · refine tt_b (fo_t 2 s a1) ?_
      rintro a2 ⟨p1, p2, p3, p4, p5⟩
      exact tt_r ⟨f1.1.tr p1, Or.inl p2, p3.trans f1.2.1, p4.trans f1.2.2.2.1, p5.trans f1.2.2.2.2⟩
    · have f2 : Fr2 a (upd a1 36 (a1 36 + 1)) := f1.up (by decide) (by decide) (by decide) (by decide) (by decide)
      refine tt_b (hu_t (h.fr f2.1) s) ?_
      rintro a2 ⟨p1, p2, p3, p4, p5⟩
      exact tt_r ⟨f2.1.tr p1, Or.inl p2, p3.trans f2.2.1, p4.trans f2.2.2.2.1, p5.trans f2.2.2.2.2⟩
  unfold f_X12_verified
  obtain ⟨v, e, _⟩ := fx_t h s hq
  rw [e, bso]
  refine tt_i (fun _ => k22) (fun _ => ?_)
  obtain ⟨v2, e2⟩ := ro_t h s hq
  rw [e2, bso]
  refine tt_i (fun _ => k22) (fun _ => ?_)
  refine tt_b (hu_t h s) ?_
  rintro a2 ⟨p1, p2, p3, p4, p5⟩
  exact tt_r ⟨p1, Or.inl p2, p3, p4, p5⟩
/-- as Fr2, but that a value may have been taken -/
def FrK (a a' : Nat → Int32) : Prop := Fr a a' ∧ a' 39 = a 39 ∧ a' 40 = a 40 ∧ a' 48 = a 48 ∧ (a' 50 = a 50 ∨ a' 50 = a 50 + 1)
theorem FrK.of {a a' : Nat → Int32} (h : Fr2 a a') : FrK a a' := ⟨h.1, h.2.1, h.2.2.1, h.2.2.2.1, Or.inl h.2.2.2.2⟩
theorem Fr2.trK {a b c : Nat → Int32} (h1 : Fr2 a b) (h2 : FrK b c) : FrK a c := ⟨h1.1.tr h2.1, h2.2.1.trans h1.2.1, h2.2.2.1.trans h1.2.2.1, h2.2.2.2.1.trans h1.2.2.2.1, by rw [← h1.2.2.2.2]; exact h2.2.2.2.2⟩
theorem lh_t (x0 : Int32) (s : SX12) (a : Nat → Int32) : Tt (f_X12_linkHears x0 s a) (FrK a) := by
  have loop : ∀ (k f : Nat) (_ : k ≤ 7) (_ : k ≤ f) (a1 : Nat → Int32), Fr2 a a1 → Tt (f_X12_linkHears_109 (f + 1) (nI k) a1) (FrK a) := by
    intro k
    induction k with
    | zero =>
      intro f _ _ a1 f1
      rw [f_X12_linkHears_109_s, if_pos (by decide)]
      have f2 := f1.up (k := 54) (v := a1 53) (by decide) (by decide) (by decide) (by decide) (by decide)
      refine tt_r ⟨f2.1.up (by decide) (by decide), (upd_ne _ _ (by decide)).trans f2.2.1, (upd_ne _ _ (by decide)).trans f2.2.2.1, (upd_ne _ _ (by decide)).trans f2.2.2.2.1, Or.inr ?_⟩
      rw [upd_same, f2.2.2.2.2]
    | succ k ih =>
      intro f h1 h2 a1 f1
      obtain ⟨f, rfl⟩ : ∃ q, f = q + 1 := ⟨f - 1, by omega⟩
      rw [f_X12_linkHears_109_s, if_neg (nI_nle (n := k + 1) (by omega) (by omega)), show (54 : Int32) = nI 54 from rfl, nI_add, show nI (54 + (k + 1)) - 1 = nI (54 + k) from nI_pred (54 + k), pk_m1]
      refine tt_ik (54 + k) rfl (by omega) (by omega) (tt_ik (54 + (k + 1)) rfl (by omega) (by omega) ?_)
      rw [nI_clamp (by omega)]
      exact ih f (by omega) (by omega) _ (f1.up (by omega) (by omega) (by omega) (by omega) (by omega))
  unfold f_X12_linkHears f_X12_linkHears_26
  refine tt_i (fun _ => tt_i (fun _ => tt_r ?_) (fun _ => tt_r ?_)) (fun _ => tt_i (fun _ => tt_i (fun _ => tt_r ?_) (fun _ => ?_)) (fun _ => tt_n (tt_r ?_)))
  · exact FrK.of ((Fr2.rf.up (by decide) (by decide) (by decide) (by decide) (by decide)).up (by decide) (by decide) (by decide) (by decide) (by decide))
  · exact FrK.of ((Fr2.rf.up (by decide) (by decide) (by decide) (by decide) (by decide)).up (by decide) (by decide) (by decide) (by decide) (by decide))
  · exact FrK.of ((Fr2.rf.up (by decide) (by decide) (by decide) (by decide) (by decide)).up (by decide) (by decide) (by decide) (by decide) (by decide))
  · exact loop 7 65535 (by decide) (by omega) _ (Fr2.rf.up (by decide) (by decide) (by decide) (by decide) (by decide))
  · exact FrK.of ((Fr2.rf.up (by decide) (by decide) (by decide) (by decide) (by decide)).up (by decide) (by decide) (by decide) (by decide) (by decide))
theorem ls_t (a b : Int32) : Tt (f_X12_lesser a b) (fun _ => True) := by
  obtain ⟨r, e, _⟩ := ls_is a b
  exact ⟨r, e, trivial⟩
/-- the store holds at most two frames -/
def FrS (a a' : Nat → Int32) : Prop := Fr a a' ∧ a' 39 = a 39 ∧ a' 40 = a 40 ∧ a' 50 = a 50 ∧ ∃ sd : Nat, sd ≤ 2 ∧ a' 48 = nI sd
theorem st_t {a : Nat → Int32} {sd : Nat} (hs : sd ≤ 2) (h48 : a 48 = nI sd) (s : SX12) (x0 : Int32) : Tt (f_X12_stores x0 s a) (FrS a) := by
  have k64 : ∀ (a1 : Nat → Int32) (d : Nat), d ≤ 1 → a1 48 = nI d → Fr a a1 → a1 39 = a 39 → a1 40 = a 40 → a1 50 = a 50 → Tt (f_X12_stores_64 x0 a1) (FrS a) := by
    intro a1 d hd h1 f1 e39 e40 e50
    unfold f_X12_stores_64
    rw [h1, show (3 : Int32) = nI 3 from rfl, show (69 : Int32) = nI 69 from rfl, show (1 : Int32) = nI 1 from rfl, show (2 : Int32) = nI 2 from rfl, pk_mul, nI_add, nI_add, nI_add]
    refine tt_ik (69 + 3 * d) rfl (by omega) (by omega) (tt_n (tt_ik (69 + 3 * d + 1) rfl (by omega) (by omega) (tt_ik (69 + 3 * d + 2) rfl (by omega) (by omega) (tt_n (tt_n (tt_r ?_))))))
    rw [nI_clamp (by omega), nI_clamp (by omega), nI_clamp (by omega)]
    refine ⟨((((f1.up (by omega) (by omega)).up (by omega) (by omega)).up (by omega) (by omega)).up (by decide) (by decide)).up (by decide) (by decide), ?_, ?_, ?_, d + 1, by omega, ?_⟩
    · rw [upd_ne _ _ (by omega), upd_ne _ _ (by omega), upd_ne _ _ (by omega), upd_ne _ _ (by omega), upd_ne _ _ (by omega)]; exact e39
    · rw [upd_ne _ _ (by omega), upd_ne _ _ (by omega), upd_ne _ _ (by omega), upd_ne _ _ (by omega), upd_ne _ _ (by omega)]; exact e40
    · rw [upd_ne _ _ (by omega), upd_ne _ _ (by omega), upd_ne _ _ (by omega), upd_ne _ _ (by omega), upd_ne _ _ (by omega)]; exact e50
    · rw [upd_ne _ _ (by omega), upd_same, upd_ne _ _ (by omega), upd_ne _ _ (by omega), upd_ne _ _ (by omega), h1, nI_add]
  have k24 : ∀ (m k f : Nat) (_ : k + m = 3) (_ : m ≤ f) (a1 : Nat → Int32), a1 48 = nI 2 → Fr a a1 → a1 39 = a 39 → a1 40 = a 40 → a1 50 = a 50 → Tt (f_X12_stores_24 x0 (f + 1) (nI k) a1) (FrS a) := by
    intro m
    induction m with
    | zero =>
      intro k f hk _ a1 h1 f1 e39 e40 e50
      have : k = 3 := by omega
      subst this
      rw [f_X12_stores_24_s, if_pos (by decide)]
      exact k64 _ 1 (by decide) (by rw [upd_same, h1]; decide) (f1.up (by decide) (by decide)) (by rw [upd_ne _ _ (by decide)]; exact e39) (by rw [upd_ne _ _ (by decide)]; exact e40) (by rw [upd_ne _ _ (by decide)]; exact e50)
    | succ m ih =>
      intro k f hk hf a1 h1 f1 e39 e40 e50
      obtain ⟨f, rfl⟩ : ∃ q, f = q + 1 := ⟨f - 1, by omega⟩
      rw [f_X12_stores_24_s, if_neg (show ¬ (3 : Int32) ≤ nI k from nI_ge (a := k) (b := 3) (by omega) (by omega)), show (72 : Int32) = nI 72 from rfl, show (69 : Int32) = nI 69 from rfl, nI_add, nI_add]
      refine tt_ik (72 + k) rfl (by omega) (by omega) (tt_ik (69 + k) rfl (by omega) (by omega) ?_)
      rw [nI_clamp (by omega), nI_1]
      exact ih (k + 1) f (by omega) (by omega) _ (by rw [upd_ne _ _ (by omega)]; exact h1) (f1.up (by omega) (by omega)) (by rw [upd_ne _ _ (by omega)]; exact e39) (by rw [upd_ne _ _ (by omega)]; exact e40) (by rw [upd_ne _ _ (by omega)]; exact e50)
  unfold f_X12_stores
  refine tt_i (fun c => ?_) (fun c => ?_)
  · exact k24 3 0 65535 (by omega) (by omega) _ (by rw [upd_ne _ _ (by decide), c]; rfl) (Fr.rf.up (by decide) (by decide)) (upd_ne _ _ (by decide)) (upd_ne _ _ (by decide)) (upd_ne _ _ (by decide))
  · refine k64 a sd ?_ h48 Fr.rf rfl rfl rfl
    rcases Nat.lt_or_ge sd 2 with h | h
    · omega
    · exact absurd (show a 48 = 2 by rw [h48, show sd = 2 by omega]; rfl) c
theorem fm_t {a : Nat → Int32} {L w st r : Nat} (h : SB a L w st r) {sd : Nat} (hs : sd ≤ 2) (h48 : a 48 = nI sd) (s : SX12) (b : Int32) {q : Nat} (hq : q < L * r) : Tt (f_X12_framed (nI q) b s a) (FrS a) := by
  have hl := h.lr
  have hL := h.1
  have h0 := h.2.2.2.2.1
  unfold f_X12_framed
  rw [h0]
  refine tt_g (nI_ne0 (by omega) (by omega)) ?_
  have same : FrS a a := ⟨Fr.rf, rfl, rfl, rfl, sd, hs, h48⟩
  have f68 : ∀ v, FrS a (upd a 68 v) := fun v => ⟨Fr.rf.up (by decide) (by decide), upd_ne _ _ (by decide), upd_ne _ _ (by decide), upd_ne _ _ (by decide), sd, hs, by rw [upd_ne _ _ (by decide)]; exact h48⟩
  refine tt_i (fun _ => tt_r ⟨(Fr.rf.up (by decide) (by decide)).up (by decide) (by decide), by rw [upd_ne _ _ (by decide), upd_ne _ _ (by decide)], by rw [upd_ne _ _ (by decide), upd_ne _ _ (by decide)], by rw [upd_ne _ _ (by decide), upd_ne _ _ (by decide)], sd, hs, by rw [upd_ne _ _ (by decide), upd_ne _ _ (by decide)]; exact h48⟩) (fun _ => ?_)
  refine tt_i (fun _ => tt_i (fun _ => ?_) (fun _ => tt_r (f68 _))) (fun _ => tt_r (f68 _))
  refine tt_g (by rw [upd_ne _ _ (show 0 ≠ 68 by decide), h0]; exact nI_ne0 (by omega) (by omega)) ?_
  refine tt_b (st_t hs (by rw [upd_ne _ _ (by decide)]; exact h48) s _) ?_
  rintro a1 ⟨p1, p2, p3, p5, p4⟩
  exact tt_r ⟨(Fr.rf.up (by decide) (by decide)).tr p1, p2.trans (upd_ne _ _ (by decide)), p3.trans (upd_ne _ _ (by decide)), p5.trans (upd_ne _ _ (by decide)), p4⟩
theorem on_t (v : Int32) : ∃ n, f_X12_ones v = some n := ⟨_, ones_is v⟩
/-- a step when it is locked -/
def FrL (a a' : Nat → Int32) : Prop := Fr a a' ∧ a' 39 = a 39 ∧ (a' 40 = 0 ∨ a' 40 = a 40) ∧ (a' 50 = a 50 ∨ a' 50 = a 50 + 1) ∧ ∃ sd : Nat, sd ≤ 2 ∧ a' 48 = nI sd
theorem lk_t {a : Nat → Int32} {L w st r : Nat} (h : SB a L w st r) {sd : Nat} (hs : sd ≤ 2) (h48 : a 48 = nI sd) (s : SX12) (b : Int32) {q : Nat} (hq : q < L * r) : Tt (f_X12_locked (nI q) b s a) (FrL a) := by
  have k161 : ∀ a1, FrK a a1 → Tt (f_X12_locked_161 (nI q) b s a1) (FrL a) := by
    intro a1 f1
    unfold f_X12_locked_161
    refine tt_b (fm_t (h.fr f1.1) hs (by rw [f1.2.2.2.1]; exact h48) s b hq) ?_
    rintro a2 ⟨p1, p2, p3, p5, p4⟩
    exact tt_r ⟨f1.1.tr p1, p2.trans f1.2.1, Or.inr (p3.trans f1.2.2.1), by rw [p5]; exact f1.2.2.2.2, p4⟩
  have k145 : ∀ (a1 a2 : Nat → Int32) (t : Int32), Fr2 a a1 → Tt (f_X12_locked_145 (nI q) s a1 a2 b t) (FrL a) := by
    intro a1 a2 t f1
    have f2 : Fr2 a (upd a1 43 ((a2 43) + t)) := f1.up (by decide) (by decide) (by decide) (by decide) (by decide)
    unfold f_X12_locked_145
    obtain ⟨v, e⟩ := ro_t (h.fr f2.1) s hq
    rw [e, bso]
    refine tt_i (fun _ => ?_) (fun _ => k161 _ (FrK.of f2))
    refine tt_b (lh_t b s _) ?_
    intro a3 f3
    exact k161 _ (f2.trK f3)
  have k122 : ∀ a1, Fr2 a a1 → Tt (f_X12_locked_122 (nI q) b s a1) (FrL a) := by
    intro a1 f1
    unfold f_X12_locked_122
    refine tt_b (ck_t (h.fr f1.1) s b hq) ?_
    rintro ⟨v, a2⟩ f2
    have f2 : Fr2 a1 a2 := f2
    simp only []
    exact tt_i (fun _ => k145 _ _ _ (f1.tr f2)) (fun _ => k145 _ _ _ (f1.tr f2))
  have k47 : ∀ t, Tt (f_X12_locked_47 a (nI q) b s t) (FrL a) := by
    intro t
    unfold f_X12_locked_47
    refine tt_n ?_
    obtain ⟨v, e, _⟩ := ls_is ((upd a 41 ((((a 41) <<< ((1 : Int32) &&& 31)) ||| t) &&& (((1 : Int32) <<< ((a 6) &&& 31)) - 1))) 6) (((upd a 41 ((((a 41) <<< ((1 : Int32) &&& 31)) ||| t) &&& (((1 : Int32) <<< ((a 6) &&& 31)) - 1))) 42) + 1)
    rw [e, bso]
    have f1 : ∀ v1 v2, Fr2 a (upd (upd a 41 v1) 42 v2) := fun v1 v2 => (Fr2.rf.up (by decide) (by decide) (by decide) (by decide) (by decide)).up (by decide) (by decide) (by decide) (by decide) (by decide)
    rw [ones_is, bso]
    refine tt_i (fun _ => k122 _ (f1 _ _)) (fun _ => ?_)
    have f2 := (f1 ((((a 41) <<< ((1 : Int32) &&& 31)) ||| t) &&& (((1 : Int32) <<< ((a 6) &&& 31)) - 1)) v).up (k := 38) (v := ((upd (upd a 41 ((((a 41) <<< ((1 : Int32) &&& 31)) ||| t) &&& (((1 : Int32) <<< ((a 6) &&& 31)) - 1))) 42 v) 38) + 1) (by decide) (by decide) (by decide) (by decide) (by decide)
    refine tt_b (hu_t (h.fr f2.1) s) ?_
    rintro a2 ⟨p1, p2, p3, p4, p5⟩
    exact tt_r ⟨f2.1.tr p1, p3.trans f2.2.1, Or.inl p2, Or.inl (p5.trans f2.2.2.2.2), sd, hs, by rw [p4, f2.2.2.2.1]; exact h48⟩
  unfold f_X12_locked
  obtain ⟨v, e, _⟩ := fx_t h s hq
  rw [e, bso]
  refine tt_i (fun _ => k122 _ Fr2.rf) (fun _ => ?_)
  obtain ⟨v2, e2⟩ := ro_t h s hq
  rw [e2, bso]
  unfold f_X12_locked_22
  exact tt_i (fun _ => tt_i (fun _ => k47 _) (fun _ => k47 _)) (fun _ => tt_i (fun _ => k47 _) (fun _ => k47 _))
theorem sg_t {a : Nat → Int32} {L w st r : Nat} (h : SB a L w st r) (s : SX12) : Tt (f_X12_signals s a) (Fr2 a) := by
  have hL := h.1
  have hw := h.2.1
  have hdiv : (L - 1) / w ≤ 23 := Nat.le_trans (Nat.div_le_self _ _) (by omega)
  have loop : ∀ (m k f : Nat) (_ : k + m = 24) (_ : m ≤ f) (a1 : Nat → Int32), Fr2 a a1 → Tt (f_X12_signals_31 s (f + 1) (nI k) a1) (Fr2 a) := by
    intro m
    induction m with
    | zero =>
      intro k f hk _ a1 f1
      have h1 := h.fr f1.1
      rw [f_X12_signals_31_s]
      unfold f_X12_channels
      rw [h1.2.2.2.2.1, h1.2.2.2.2.2.1, m_gI (nI_ne0 (by omega) (by omega)), bso, show nI L - 1 = nI (L - 1) from pk_sub (b := 1) (by omega), pk_div (by omega) (by omega) (by omega), if_pos (nI_le (by omega) (by omega))]
      exact tt_r f1
    | succ m ih =>
      intro k f hk hf a1 f1
      obtain ⟨f, rfl⟩ : ∃ q, f = q + 1 := ⟨f - 1, by omega⟩
      have h1 := h.fr f1.1
      rw [f_X12_signals_31_s]
      unfold f_X12_channels
      rw [h1.2.2.2.2.1, h1.2.2.2.2.2.1, m_gI (nI_ne0 (by omega) (by omega)), bso]
      refine tt_i (fun _ => tt_r f1) (fun _ => ?_)
      rw [show (78 : Int32) = nI 78 from rfl, show (2 : Int32) = nI 2 from rfl, pk_mul, nI_add, nI_1, nI_1]
      refine tt_ik (78 + 2 * k) rfl (by omega) (by omega) ?_
      unfold f_X12_bitOf
      rw [bso]
      refine tt_n (tt_ik (78 + 2 * k) rfl (by omega) (by omega) (tt_ik (78 + 2 * k + 1) rfl (by omega) (by omega) ?_))
      refine tt_b (ls_t _ _) (fun v _ => ?_)
      refine tt_ik (78 + 2 * k + 1) rfl (by omega) (by omega) ?_
      rw [nI_clamp (by omega), nI_clamp (by omega)]
      exact ih (k + 1) f (by omega) (by omega) _ ((f1.up (by omega) (by omega) (by omega) (by omega) (by omega)).up (by omega) (by omega) (by omega) (by omega) (by omega))
  unfold f_X12_signals
  refine tt_i (fun _ => tt_r Fr2.rf) (fun c => tt_g c (tt_i (fun _ => loop 24 0 65535 (by omega) (by omega) a Fr2.rf) (fun _ => tt_r Fr2.rf)))
theorem ti_t {a : Nat → Int32} {L w st r : Nat} (h : SB a L w st r) {sd : Nat} (hs : sd ≤ 2) (h48 : a 48 = nI sd) (s : SX12) : Tt (f_X12_ticks s a) (FrS a) := by
  have same : ∀ v, FrS a (upd a 49 v) := fun v => ⟨Fr.rf.up (by decide) (by decide), upd_ne _ _ (by decide), upd_ne _ _ (by decide), upd_ne _ _ (by decide), sd, hs, by rw [upd_ne _ _ (by decide)]; exact h48⟩
  have f47 : ∀ v1 v2 v3, FrS a (upd (upd (upd a 49 v1) 49 v2) 47 v3) := fun v1 v2 v3 => ⟨((Fr.rf.up (by decide) (by decide)).up (by decide) (by decide)).up (by decide) (by decide), by rw [upd_ne _ _ (by decide), upd_ne _ _ (by decide), upd_ne _ _ (by decide)], by rw [upd_ne _ _ (by decide), upd_ne _ _ (by decide), upd_ne _ _ (by decide)], by rw [upd_ne _ _ (by decide), upd_ne _ _ (by decide), upd_ne _ _ (by decide)], sd, hs, by rw [upd_ne _ _ (by decide), upd_ne _ _ (by decide), upd_ne _ _ (by decide)]; exact h48⟩
  have loop : ∀ (m k f : Nat) (_ : k + m = 3) (_ : m ≤ f) (_ : 1 ≤ sd) (a1 : Nat → Int32), Fr2 a a1 → Tt (f_X12_ticks_100 s (f + 1) (nI k) a1) (FrS a) := by
    intro m
    induction m with
    | zero =>
      intro k f hk _ h1 a1 f1
      have : k = 3 := by omega
      subst this
      rw [f_X12_ticks_100_s, if_pos (by decide)]
      have f2 : Fr a (upd (upd a1 48 ((a1 48) - 1)) 46 (((upd a1 48 ((a1 48) - 1)) 46) + 1)) := (f1.1.up (by decide) (by decide)).up (by decide) (by decide)
      refine tt_b (sg_t (h.fr f2) s) ?_
      intro a2 f3
      refine tt_r ⟨f2.tr f3.1, ?_, ?_, ?_, sd - 1, by omega, ?_⟩
      · rw [f3.2.1, upd_ne _ _ (by decide), upd_ne _ _ (by decide)]; exact f1.2.1
      · rw [f3.2.2.1, upd_ne _ _ (by decide), upd_ne _ _ (by decide)]; exact f1.2.2.1
      · rw [f3.2.2.2.2, upd_ne _ _ (by decide), upd_ne _ _ (by decide)]; exact f1.2.2.2.2
      · rw [f3.2.2.2.1, upd_ne _ _ (by decide), upd_same, f1.2.2.2.1, h48]; exact pk_sub (b := 1) h1
    | succ m ih =>
      intro k f hk hf h1 a1 f1
      obtain ⟨f, rfl⟩ : ∃ q, f = q + 1 := ⟨f - 1, by omega⟩
      rw [f_X12_ticks_100_s, if_neg (show ¬ (3 : Int32) ≤ nI k from nI_ge (a := k) (b := 3) (by omega) (by omega)), show (69 : Int32) = nI 69 from rfl, show (75 : Int32) = nI 75 from rfl, show (72 : Int32) = nI 72 from rfl, nI_add, nI_add, nI_add]
      refine tt_ik (69 + k) rfl (by omega) (by omega) (tt_ik (75 + k) rfl (by omega) (by omega) (tt_ik (72 + k) rfl (by omega) (by omega) (tt_n (tt_ik (69 + k) rfl (by omega) (by omega) ?_))))
      rw [nI_clamp (by omega), nI_clamp (by omega), nI_clamp (by omega), nI_1]
      exact ih (k + 1) f (by omega) (by omega) h1 _ ((f1.up (by omega) (by omega) (by omega) (by omega) (by omega)).up (by omega) (by omega) (by omega) (by omega) (by omega))
  unfold f_X12_ticks
  refine tt_i (fun _ => tt_n (tt_i (fun _ => tt_i (fun _ => tt_n (tt_r (f47 _ _ _))) (fun _ => tt_n (tt_r (f47 _ _ _)))) (fun c => ?_))) (fun _ => tt_r (same _))
  refine loop 3 0 65535 (by omega) (by omega) ?_ _ ((Fr2.rf.up (by decide) (by decide) (by decide) (by decide) (by decide)).up (by decide) (by decide) (by decide) (by decide) (by decide))
  rcases Nat.eq_zero_or_pos sd with e | e
  · exact absurd (show _ = (0 : Int32) by rw [upd_ne _ _ (by decide), upd_ne _ _ (by decide), h48, e]; rfl) c
  · exact e
theorem il_t (p : Nat) (hp : p < 288) (s : SX12) (a : Nat → Int32) : ∃ v, f_X12_isLeft (nI p) s a = some v := by
  unfold f_X12_isLeft
  rw [show (32 : Int32) = nI 32 from rfl, pk_div (by omega) (by decide) (by decide), show (124 : Int32) = nI 124 from rfl, nI_add, m_inI (nI_in (c := 124 + p / 32) (N := 680) (by omega) (by omega))]
  split
  · exact ⟨_, rfl⟩
  · exact ⟨_, rfl⟩
theorem sk_t {a : Nat → Int32} {L w st r : Nat} (h : SB a L w st r) {si : Nat} (hsi : si ≤ 7000) (h40 : a 40 = nI si) (s : SX12) (b : Int32) : Tt (f_X12_strikes b s a) (fun a' => Fr a a' ∧ a' 40 = nI (si + 1) ∧ a' 39 = a 39 ∧ a' 48 = a 48 ∧ a' 50 = a 50) := by
  have hl := h.lr
  have loop : ∀ (m k f : Nat) (_ : k + m = L * r) (_ : m ≤ f) (a1 : Nat → Int32), Fr2 a a1 → Tt (f_X12_strikes_2 s b (f + 1) (nI k) a1) (fun a' => Fr a a' ∧ a' 40 = nI (si + 1) ∧ a' 39 = a 39 ∧ a' 48 = a 48 ∧ a' 50 = a 50) := by
    intro m
    induction m with
    | zero =>
      intro k f hk _ a1 f1
      have h1 := h.fr f1.1
      rw [f_X12_strikes_2_s, rnd h1.2.2.2.2.1 h1.2.2.2.2.2.2.2, bso, if_pos (nI_le (by omega) (by omega))]
      refine tt_r ⟨f1.1.up (by decide) (by decide), ?_, ?_, ?_, ?_⟩
      · rw [upd_same, f1.2.2.1, h40, nI_1]
      · rw [upd_ne _ _ (by decide)]; exact f1.2.1
      · rw [upd_ne _ _ (by decide)]; exact f1.2.2.2.1
      · rw [upd_ne _ _ (by decide)]; exact f1.2.2.2.2
    | succ m ih =>
      intro k f hk hf a1 f1
      obtain ⟨f, rfl⟩ : ∃ q, f = q + 1 := ⟨f - 1, by omega⟩
      have h1 := h.fr f1.1
      have nx : ∀ a2, Fr2 a a2 → Tt (f_X12_strikes_73 (nI k) (f_X12_strikes_2 s b (f + 1)) a2) (fun a' => Fr a a' ∧ a' 40 = nI (si + 1) ∧ a' 39 = a 39 ∧ a' 48 = a 48 ∧ a' 50 = a 50) := by
        intro a2 f2
        unfold f_X12_strikes_73
        rw [nI_1]
        exact ih (k + 1) f (by omega) (by omega) a2 f2
      rw [f_X12_strikes_2_s, rnd h1.2.2.2.2.1 h1.2.2.2.2.2.2.2, bso, if_neg (nI_ge (by omega) (by omega)), bso]
      refine tt_g (nI_ne0 (by omega) (by omega)) ?_
      rw [f1.2.2.1, h40, nI_add, pk_rem (by omega) (by omega) (by omega)]
      refine tt_n ?_
      obtain ⟨v, e⟩ := il_t k (by omega) s a1
      rw [e, bso]
      refine tt_i (fun _ => nx a1 f1) (fun _ => ?_)
      obtain ⟨v2, e2, _⟩ := fx_t h1 s (q := (k + si) % (L * r)) (Nat.mod_lt _ (by omega))
      rw [e2, bso]
      refine tt_i (fun _ => nx a1 f1) (fun _ => ?_)
      obtain ⟨v3, e3⟩ := ro_t h1 s (q := (k + si) % (L * r)) (Nat.mod_lt _ (by omega))
      rw [e3, bso]
      refine tt_i (fun _ => nx a1 f1) (fun _ => ?_)
      rw [show (32 : Int32) = nI 32 from rfl, pk_div (by omega) (by decide) (by decide), show (124 : Int32) = nI 124 from rfl, nI_add]
      refine tt_ik (124 + k / 32) rfl (by omega) (by omega) (tt_n (tt_ik (124 + k / 32) rfl (by omega) (by omega) ?_))
      rw [nI_clamp (by omega)]
      exact nx _ (f1.up (by omega) (by omega) (by omega) (by omega) (by omega))
  unfold f_X12_strikes
  exact loop (L * r) 0 65535 (by omega) (by omega) a Fr2.rf
theorem lm_t (s : SX12) (a : Nat → Int32) : ∃ v, f_X12_leftMany s a = some v := by
  have key : ∀ (m k f : Nat) (l : Int32), k + m = 9 → m ≤ f → ∃ v, f_X12_leftMany_4 a (f + 1) l (nI k) = some v := by
    intro m
    induction m with
    | zero => intro k f l hk _
              have : k = 9 := by omega
              subst this
              rw [f_X12_leftMany_4_s, if_pos (by decide)]; exact ⟨_, rfl⟩
    | succ m ih =>
      intro k f l hk hf
      obtain ⟨f, rfl⟩ : ∃ q, f = q + 1 := ⟨f - 1, by omega⟩
      rw [f_X12_leftMany_4_s, if_neg (show ¬ (9 : Int32) ≤ nI k from nI_ge (a := k) (b := 9) (by omega) (by omega)), show (124 : Int32) = nI 124 from rfl, nI_add, m_inI (nI_in (c := 124 + k) (N := 680) (by omega) (by omega)), ones_is, bso, nI_1]
      exact ih (k + 1) f _ (by omega) (by omega)
  exact key 9 0 65535 0 (by omega) (by omega)
theorem la_t {a : Nat → Int32} {L w st r : Nat} (h : SB a L w st r) (s : SX12) (x0 : Int32) : ∃ v, f_X12_leftAt x0 s a = some v ∧ (v = -1 ∨ ∃ p : Nat, p < L * r ∧ v = nI p) := by
  have hl := h.lr
  have key : ∀ (m k f : Nat) (l : Int32), k + m = L * r → m ≤ f → ∃ v, f_X12_leftAt_4 s a x0 (f + 1) l (nI k) = some v ∧ (v = -1 ∨ ∃ p : Nat, p < L * r ∧ v = nI p) := by
    intro m
    induction m with
    | zero => intro k f l hk _
              rw [f_X12_leftAt_4_s, rnd h.2.2.2.2.1 h.2.2.2.2.2.2.2, bso, if_pos (nI_le (by omega) (by omega))]; exact ⟨_, rfl, Or.inl rfl⟩
    | succ m ih =>
      intro k f l hk hf
      obtain ⟨f, rfl⟩ : ∃ q, f = q + 1 := ⟨f - 1, by omega⟩
      rw [f_X12_leftAt_4_s, rnd h.2.2.2.2.1 h.2.2.2.2.2.2.2, bso, if_neg (nI_ge (by omega) (by omega))]
      obtain ⟨v, e⟩ := il_t k (by omega) s a
      rw [e, bso]
      unfold f_X12_leftAt_30
      rw [nI_1]
      split
      · exact ih (k + 1) f _ (by omega) (by omega)
      · split
        · exact ⟨_, rfl, Or.inr ⟨k, by omega, rfl⟩⟩
        · exact ih (k + 1) f _ (by omega) (by omega)
  exact key (L * r) 0 65535 0 (by omega) (by omega)
theorem ff_t {a : Nat → Int32} {L w st r : Nat} (h : SB a L w st r) (s : SX12) (p n : Nat) (hp : p < 288) (hn : n ≤ 7001) : ∃ v, f_X12_fixedFrom (nI p) (nI n) s a = some v := by
  have hl := h.lr
  have key : ∀ (m k f : Nat) (l : Int32), k + m = n → m ≤ f → ∃ v, f_X12_fixedFrom_5 (nI n) s a (nI p) (f + 1) l (nI k) = some v := by
    intro m
    induction m with
    | zero => intro k f l hk _
              rw [f_X12_fixedFrom_5_s, if_pos (nI_le (by omega) (by omega))]; exact ⟨_, rfl⟩
    | succ m ih =>
      intro k f l hk hf
      obtain ⟨f, rfl⟩ : ∃ q, f = q + 1 := ⟨f - 1, by omega⟩
      rw [f_X12_fixedFrom_5_s, if_neg (nI_ge (by omega) (by omega)), rnd h.2.2.2.2.1 h.2.2.2.2.2.2.2, bso, m_gI (nI_ne0 (by omega) (by omega)), nI_add, pk_rem (by omega) (by omega) (by omega)]
      obtain ⟨v, e, _⟩ := fx_t h s (q := (p + k) % (L * r)) (Nat.mod_lt _ (by omega))
      rw [e, bso]
      unfold f_X12_fixedFrom_33
      rw [nI_1]
      split
      · exact ih (k + 1) f _ (by omega) (by omega)
      · exact ih (k + 1) f _ (by omega) (by omega)
  exact key n 0 65535 0 (by omega) (by omega)
/-- what a receiver's step wants, and leaves: S bits at most since it last began -/
def HB (a : Nat → Int32) (S : Nat) : Prop := ∃ L w st r po si sd tk : Nat, SB a L w st r ∧ po < L * r ∧ si ≤ S ∧ sd ≤ 2 ∧ tk ≤ S ∧ a 39 = nI po ∧ a 40 = nI si ∧ a 48 = nI sd ∧ a 50 = nI tk
theorem hd_t {a : Nat → Int32} {L w st r po si sd S : Nat} (h : SB a L w st r) (hpo : po < L * r) (hsi : si ≤ S) (hS : S ≤ 7000) (hsd : sd ≤ 2) (h39 : a 39 = nI po) (h40 : a 40 = nI si) (h48 : a 48 = nI sd) (s : SX12) (b : Int32) :
    Tt (f_X12_hunted b s a) (fun a' => Fr a a' ∧ ∃ po' si' : Nat, po' < L * r ∧ si' ≤ S + 1 ∧ a' 39 = nI po' ∧ a' 40 = nI si' ∧ a' 48 = nI sd ∧ a' 50 = a 50) := by
  have hl := h.lr
  unfold f_X12_hunted
  refine tt_b (sk_t h (by omega) h40 s b) ?_
  rintro a1 ⟨f1, p40, p39, p48, p50⟩
  have h1 := h.fr f1
  obtain ⟨v, e⟩ := lm_t s a1
  rw [e, bso]
  have k33 : ∀ v, (v = -1 ∨ ∃ p : Nat, p < L * r ∧ v = nI p) → Tt (f_X12_hunted_33 a1 s v) (fun a' => Fr a a' ∧ ∃ po' si' : Nat, po' < L * r ∧ si' ≤ S + 1 ∧ a' 39 = nI po' ∧ a' 40 = nI si' ∧ a' 48 = nI sd ∧ a' 50 = a 50) := by
    intro v hv
    have stay : Tt (some a1) (fun a' => Fr a a' ∧ ∃ po' si' : Nat, po' < L * r ∧ si' ≤ S + 1 ∧ a' 39 = nI po' ∧ a' 40 = nI si' ∧ a' 48 = nI sd ∧ a' 50 = a 50) := tt_r ⟨f1, po, si + 1, hpo, by omega, p39.trans h39, p40, p48.trans h48, p50⟩
    unfold f_X12_hunted_33
    refine tt_i (fun _ => stay) (fun c => ?_)
    rcases hv with e | ⟨p, hp, rfl⟩
    · exact absurd e c
    · rw [p40]
      obtain ⟨v2, e2⟩ := ff_t h1 s p (si + 1) (by omega) (by omega)
      rw [e2, bso]
      refine tt_i (fun _ => stay) (fun _ => ?_)
      rw [rnd h1.2.2.2.2.1 h1.2.2.2.2.2.2.2, bso]
      refine tt_g (nI_ne0 (by omega) (by omega)) ?_
      rw [nI_add, pk_rem (by omega) (by omega) (by omega)]
      refine tt_n ?_
      have f2 : Fr a (upd a1 39 (nI ((p + (si + 1)) % (L * r)))) := f1.up (by decide) (by decide)
      obtain ⟨v3, e3⟩ := cm_t (h.fr f2) s
      rw [e3, bso]
      have fin : ∀ q, Tt (Option.bind (f_X12_follows q s (upd a1 39 (nI ((p + (si + 1)) % (L * r))))) (fun u => some u)) (fun a' => Fr a a' ∧ ∃ po' si' : Nat, po' < L * r ∧ si' ≤ S + 1 ∧ a' 39 = nI po' ∧ a' 40 = nI si' ∧ a' 48 = nI sd ∧ a' 50 = a 50) := by
        intro q
        refine tt_b (fo_t q s _) ?_
        rintro a3 ⟨g1, g2, g3, g4, g5⟩
        refine tt_r ⟨f2.tr g1, (p + (si + 1)) % (L * r), 0, Nat.mod_lt _ (by omega), by omega, ?_, g2, ?_, ?_⟩
        · rw [g3, upd_same]
        · rw [g4, upd_ne _ _ (by decide)]; exact p48.trans h48
        · rw [g5, upd_ne _ _ (by decide)]; exact p50
      exact tt_i (fun _ => fin 2) (fun _ => fin 1)
  refine tt_i (fun _ => ?_) (fun _ => tt_i (fun _ => ?_) (fun _ => k33 _ (Or.inl rfl)))
  · refine tt_b (hu_t h1 s) ?_
    rintro a2 ⟨g1, g2, g3, g4, g5⟩
    exact tt_r ⟨f1.tr g1, po, 0, hpo, by omega, g3.trans (p39.trans h39), g2, g4.trans (p48.trans h48), g5.trans p50⟩
  · obtain ⟨v2, e2, hv⟩ := la_t h1 s 0
    rw [e2, bso]
    exact k33 v2 hv
theorem he_t {a : Nat → Int32} {S : Nat} (h : HB a S) (hS : S ≤ 7000) (s : SX12) (b : Int32) : Tt (f_X12_hears b s a) (fun a' => Fr a a' ∧ HB a' (S + 1)) := by
  obtain ⟨L, w, st, r, po, si, sd, tk, h1, h2, h3, h4, h8, h5, h6, h7, h9⟩ := h
  have hl := h1.lr
  have tick : ∀ (a1 : Nat → Int32) (po' si' sd' : Nat), Fr a a1 → po' < L * r → si' ≤ S + 1 → sd' ≤ 2 → (a1 50 = a 50 ∨ a1 50 = a 50 + 1) → a1 39 = nI po' → a1 40 = nI si' → a1 48 = nI sd' → Tt (Option.bind (f_X12_ticks s a1) (fun u => some u)) (fun a' => Fr a a' ∧ HB a' (S + 1)) := by
    intro a1 po' si' sd' f1 q1 q2 q3 q4 e1 e2 e3
    refine tt_b (ti_t (h1.fr f1) q3 e3 s) ?_
    rintro a2 ⟨g1, g2, g3, g6, sd2, g4, g5⟩
    rcases q4 with q4 | q4
    · exact tt_r ⟨f1.tr g1, L, w, st, r, po', si', sd2, tk, (h1.fr f1).fr g1, q1, q2, g4, by omega, g2.trans e1, g3.trans e2, g5, by rw [g6, q4, h9]⟩
    · exact tt_r ⟨f1.tr g1, L, w, st, r, po', si', sd2, tk + 1, (h1.fr f1).fr g1, q1, q2, g4, by omega, g2.trans e1, g3.trans e2, g5, by rw [g6, q4, h9, nI_1]⟩
  unfold f_X12_hears
  refine tt_i (fun _ => ?_) (fun _ => ?_)
  · refine tt_b (hd_t h1 h2 h3 hS h4 h5 h6 h7 s b) ?_
    rintro a1 ⟨f1, po', si', q1, q2, q3, q4, q5, q6⟩
    exact tick a1 po' si' sd f1 q1 q2 h4 (Or.inl q6) q3 q4 q5
  · rw [rnd h1.2.2.2.2.1 h1.2.2.2.2.2.2.2, bso]
    refine tt_g (nI_ne0 (by omega) (by omega)) ?_
    rw [h5, nI_1, pk_rem (by omega) (by omega) (by omega)]
    refine tt_n ?_
    obtain ⟨a1, ha1⟩ : ∃ y, y = upd (upd a 39 (nI ((po + 1) % (L * r)))) 40 ((upd a 39 (nI ((po + 1) % (L * r))) 40) + 1) := ⟨_, rfl⟩
    rw [← ha1]
    have f1 : Fr a a1 := by rw [ha1]; exact (Fr.rf.up (by decide) (by decide)).up (by decide) (by decide)
    have e39 : a1 39 = nI ((po + 1) % (L * r)) := by rw [ha1, upd_ne _ _ (by decide), upd_same]
    have e40 : a1 40 = nI (si + 1) := by rw [ha1, upd_same, upd_ne _ _ (by decide), h6, nI_1]
    have e50 : a1 50 = a 50 := by rw [ha1, upd_ne _ _ (by decide), upd_ne _ _ (by decide)]
    have e48 : a1 48 = nI sd := by rw [ha1, upd_ne _ _ (by decide), upd_ne _ _ (by decide)]; exact h7
    clear ha1
    have hm : (po + 1) % (L * r) < L * r := Nat.mod_lt _ (by omega)
    refine tt_i (fun _ => ?_) (fun _ => ?_)
    · refine tt_b (ve_t (h1.fr f1) s b h2) ?_
      rintro a2 ⟨g1, g2, g3, g4, g5⟩
      rcases g2 with g2 | g2
      · exact tick a2 _ 0 sd (f1.tr g1) hm (by omega) h4 (Or.inl (g5.trans e50)) (g3.trans e39) g2 (g4.trans e48)
      · exact tick a2 _ (si + 1) sd (f1.tr g1) hm (by omega) h4 (Or.inl (g5.trans e50)) (g3.trans e39) (g2.trans e40) (g4.trans e48)
    · refine tt_b (lk_t (h1.fr f1) h4 e48 s b h2) ?_
      rintro a2 ⟨g1, g2, g3, g6, sd2, g4, g5⟩
      rw [e50] at g6
      rcases g3 with g3 | g3
      · exact tick a2 _ 0 sd2 (f1.tr g1) hm (by omega) g4 g6 (g2.trans e39) g3 g5
      · exact tick a2 _ (si + 1) sd2 (f1.tr g1) hm (by omega) g4 g6 (g2.trans e39) (g3.trans e40) g5
