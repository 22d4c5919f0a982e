/-! rows for the law's walk -/
theorem tt_e {α : Type} {A : Option α} {r : α} (h : A = some r) : Tt A (fun x => x = r) := ⟨r, h, rfl⟩
theorem nxt_t {n : Nat} (h0 : 0 < n) (hn : n < 2 ^ 31) (s : Int32) : Tt (f_X12_next (nI n) s) (fun o => ∃ r, r < n ∧ o.1 = nI r) := by
  obtain ⟨r, x', h1, h2⟩ := nxt_is h0 hn s
  exact ⟨_, h2, r, h1, rfl⟩
theorem max_e {m : Nat} (hm : m < 2 ^ 31) : (if (1 : Int32) < nI m then nI m else 1) = nI (if 1 < m then m else 1) := by
  by_cases c : 1 < m
  · rw [if_pos c, if_pos (show (1 : Int32) < nI m from nI_lt (a := 1) c hm)]
  · rw [if_neg c, if_neg (show ¬ (1 : Int32) < nI m from nI_nlt (a := 1) (b := m) (by omega) (by decide))]
    rfl
theorem nxt_m {m : Nat} (hm : m < 2 ^ 31) (s : Int32) : Tt (f_X12_next (if (1 : Int32) < nI m then nI m else 1) s) (fun o => ∃ r, r < (if 1 < m then m else 1) ∧ o.1 = nI r) := by
  rw [max_e hm]
  refine nxt_t ?_ ?_ s
  · split <;> omega
  · split <;> omega
theorem nw_tz {L R K D : Nat} {ro : Nat → Int32} {p : SX5} {said : Nat → Int32} {many : Nat} {t z : Int32} {b : Nat → Int8} {g : SX6} {gv : Nat → Int32} {s : SX4} {u : SX1} {w : Nat → Int32} {st : SX7} {e : SX0} {v : Nat → Int32} (h : NW L R K D ro p said many t z b g gv s u w st e v) : ∃ hd q0 : Nat, t = nI hd ∧ z = nI (q0 * (L * R)) ∧ hd ≤ q0 * (L * R) ∧ q0 * (L * R) ≤ 4000 := by
  obtain ⟨hd, q, lv, S, h1, h2, h3, h4, _⟩ := h
  exact ⟨hd, q, h1, h2, h3, h4⟩
theorem nw_sent {L R K D : Nat} {ro : Nat → Int32} {p : SX5} (hP : PV L R K D ro p) {said : Nat → Int32} {many : Nat} {t z : Int32} {b : Nat → Int8} {g : SX6} {gv : Nat → Int32} {s : SX4} {u : SX1} {w : Nat → Int32} {st : SX7} {e : SX0} {v : Nat → Int32} (h : NW L R K D ro p said many t z b g gv s u w st e v) (a : Int32) (tx : SX8) (t' : Int32) (g' : SX6) : Tt (f_L_isSent 4000 (nI (L * R)) a p ro tx t' z b g') (fun r => r = 1) := by
  obtain ⟨hd, q, lv, S, _, rfl, _, h4, hG, _⟩ := h
  exact tt_e (isSent_is hP hG h4 a tx t' g')
theorem nw_frm {L R K D : Nat} {ro : Nat → Int32} {p : SX5} (hP : PV L R K D ro p) {said : Nat → Int32} {many : Nat} {t z : Int32} {b : Nat → Int8} {g : SX6} {gv : Nat → Int32} {s : SX4} {u : SX1} {w : Nat → Int32} {st : SX7} {e : SX0} {v : Nat → Int32} (h : NW L R K D ro p said many t z b g gv s u w st e v) (nb : Nat) (a : Int32) (tx : SX8) (z' : Int32) (b' : Nat → Int8) (g' : SX6) (s' : SX4) (u' : SX1) (e' : SX0) : Tt (f_L_areFrames nb a p tx t z' b' g' s' u' st e') (fun r => r = 1) := by
  obtain ⟨hd, q, lv, S, rfl, _, h3, h4, _, _, _, _, hST, _⟩ := h
  exact tt_e (areFrames_is hP (by omega) hST nb a tx z' b' g' s' u' e')
theorem nw_lnk {L R K D : Nat} {ro : Nat → Int32} {p : SX5} {said : Nat → Int32} {many : Nat} {t z : Int32} {b : Nat → Int8} {g : SX6} {gv : Nat → Int32} {s : SX4} {u : SX1} {w : Nat → Int32} {st : SX7} {e : SX0} {v : Nat → Int32} (h : NW L R K D ro p said many t z b g gv s u w st e v) (a : Int32) (tx : SX8) : Tt (f_L_isLinked (nI many) a p tx t z g s u st e v said) (fun r => r = 1) := tt_e (isLinked_is h a tx)
theorem snd_w1 {r sum : Int32} {A C : Nat} {P Q : Prop} (hs : (r = -1 ∧ 4000 < A ∧ P) ∨ (A ≤ 4000 ∧ r = nI C ∧ Q)) (eS : sum = nI A) (c : ¬ sum ≤ 4000) (c2 : ¬ r = -1) : False := by
  rcases hs with ⟨e, _⟩ | ⟨h, _⟩
  · exact c2 e
  · exact c (by rw [eS]; exact nI_le (b := 4000) h (by decide))
theorem snd_w2 {r sum : Int32} {A C : Nat} {P Q : Prop} (hs : (r = -1 ∧ 4000 < A ∧ P) ∨ (A ≤ 4000 ∧ r = nI C ∧ Q)) (eS : sum = nI A) (hA : A < 2 ^ 31) (hC : C = A) (c : sum ≤ 4000) (c2 : ¬ r = sum) : False := by
  rcases hs with ⟨_, h, _⟩ | ⟨_, e, _⟩
  · rw [eS] at c
    exact absurd c (nI_ge (a := 4000) h hA)
  · exact c2 (by rw [e, eS, hC])
theorem begins_t (b : Nat → Int8) (said gv v : Nat → Int32) (a : Int32) (p : SX5) (r : Nat → Int32) (t z : Int32) {g : SX6} (g1 : g.1 = 0) (g2 : g.2.1 = 0) {tx : SX8} (h0 : tx.1 = 0) (tb : Nat → Int8) (s : SX4) (u : SX1) (w : Nat → Int32) (st : SX7) (hSS : SS st) (e : SX0) (rd : SX3) (told : SX5) (ro : Nat → Int32) (rx : SX8) (rb : Nat → Int8) (x : Int32) : Tt (f_L_begins a p r tx tb t z g s u w st e rd told ro rx rb x) (fun o => ∃ L R : Nat, 4 ≤ L ∧ L ≤ 24 ∧ 4 ≤ R ∧ R ≤ 12 ∧ BR L R b said gv v o) := by
  obtain ⟨y1, y2, y3⟩ := g
  have g1 : y1 = 0 := g1
  have g2 : y2 = 0 := g2
  subst g1
  subst g2
  obtain ⟨x1, x2, x3⟩ := tx
  have h0 : x1 = 0 := h0
  subst h0
  exact begins_is b said gv v a p r t z y3 s u w st hSS e rd told ro rx rb ⟨[], [], x2, x3, rfl, by decide, rfl, fun j hj => absurd hj (Nat.not_lt_zero _), rfl, rfl, fun x hx => absurd hx List.not_mem_nil⟩ x
theorem k_lt {k : Nat} (h : k ≤ 9) (c : ¬ (9 : Int32) ≤ nI k) : k < 9 := by
  rcases Nat.lt_or_ge k 9 with z | z
  · exact z
  · exact absurd (nI_le (a := 9) z (by omega)) c
theorem f_lt {f R : Nat} {r : Int32} (hf : f ≤ R) (e : r = nI R) (c : ¬ r ≤ nI f) : f < R := by
  rcases Nat.lt_or_ge f R with z | z
  · exact z
  · have e2 : f = R := by omega
    exact absurd (by rw [e, e2]; exact Int32.le_refl _) c
theorem mor_1 {y : Int32} {m : Nat} (e : y = nI m) (c : ¬ y ≤ 0) (hm : m < 2 ^ 31) : 1 ≤ m := by
  rcases Nat.eq_zero_or_pos m with z | z
  · rw [e, z] at c
    exact absurd (by decide) c
  · exact z
theorem nxt_m2 {y : Int32} {m : Nat} (h : y = nI m) (hm : m < 2 ^ 31) (s : Int32) : Tt (f_X12_next (if (1 : Int32) < y then y else 1) s) (fun o => ∃ r, r < (if 1 < m then m else 1) ∧ o.1 = nI r) := by
  subst h
  exact nxt_m hm s
theorem upd_sd {sd : Nat → Int32} (h : ∀ q, ∃ c, c < 256 ∧ sd q = nI c) {j : Nat} (hj : j < 256) {v : Int32} (e : v = nI j) (m : Nat) : ∀ q, ∃ c, c < 256 ∧ upd sd m v q = nI c := by
  intro q
  by_cases z : q = m
  · subst z
    exact ⟨j, hj, by rw [upd_same]; exact e⟩
  · obtain ⟨c, h1, h2⟩ := h q
    exact ⟨c, h1, by rw [upd_ne _ _ z]; exact h2⟩
theorem nw_tell0 {L R K D : Nat} {ro : Nat → Int32} {p : SX5} (hP : PV L R K D ro p) {said : Nat → Int32} {many : Nat} {t z : Int32} {b : Nat → Int8} {g : SX6} {gv : Nat → Int32} {s : SX4} {u : SX1} {w : Nat → Int32} {st : SX7} {e : SX0} {v : Nat → Int32} (h : NW L R K D ro p said many t z b g gv s u w st e v) : f_X4_tell 0 s u st e p = some s.1 := by
  obtain ⟨hd, q, lv, S, _, _, h3, h4, _, _, _, hR, _⟩ := h
  exact (rx_tell hP (by omega) hR st e).1
theorem sc_0 {L : Nat} (hL : L ≤ 260) (c : ¬ nI L ≤ 0) : vp_in 0 L := by
  rcases Nat.eq_zero_or_pos L with z | z
  · rw [z] at c
    exact absurd (by decide) c
  · exact nI_in (c := 0) z (by omega)
theorem sc_k {k L : Nat} (hL : L ≤ 260) (hk : k ≤ 9) (c : ¬ nI L ≤ nI k) : vp_in (nI k) L := by
  rcases Nat.lt_or_ge k L with z | z
  · exact nI_in z (by omega)
  · exact absurd (nI_le z (by omega)) c
theorem rolx_is {L R K D : Nat} {ro : Nat → Int32} {p : SX5} (h : PV L R K D ro p) {x : Int32} (e : x = nI R) (a : Int32) : f_L_rolex x a p ro = some (-777) := by
  subst e
  obtain ⟨po, wi, sl, fw, wr, la, dr, ch, ze, on, al, rfl, hp, a1, a2, a3, a4, _⟩ := h
  unfold f_L_rolex f_X5_roleAt
  dsimp only
  rw [if_neg (nI_pos (by omega)), if_pos (nI_le (Nat.le_refl R) (by omega)), bso, if_pos rfl]
