/-! what there is now, and the three acts -/
theorem CS_c {L R : Nat} {ro : Nat → Int32} {b b' : Nat → Int8} {i : Nat} (n : Nat) (h : ∀ j, i ≤ j → j < i + n → b' j = b j) : CS L R ro b' i n = CS L R ro b i n := by
  induction n with
  | zero => rfl
  | succ n ih =>
    funext r k
    simp only [CS]
    rw [ih (fun j h1 h2 => h j h1 (by omega)), h (i + n) (by omega) (by omega)]
theorem LF_c {L R : Nat} {ro : Nat → Int32} {b b' : Nat → Int8} {i n : Nat} (h : ∀ j, i ≤ j → j < i + n → b' j = b j) : LF L R ro b' i n = LF L R ro b i n := by
  unfold LF
  rw [CS_c n h]
theorem HI.c {L R : Nat} {ro : Nat → Int32} {b b' : Nat → Int8} {i n : Nat} {u : SX1} {w : Nat → Int32} (h : ∀ j, i ≤ j → j < i + n → b' j = b j) (hi : HI L R ro b i n u w) : HI L R ro b' i n u w := by
  obtain ⟨on, e, h1, h2⟩ := hi
  refine ⟨on, ?_, ?_, ?_⟩
  · rw [LF_c h]; exact e
  · rw [CS_c n h]; exact h1
  · rw [LF_c h]; exact h2
theorem RX.c {L R K : Nat} {ro : Nat → Int32} {b b' : Nat → Int8} {i n : Nat} {s : SX4} {u : SX1} {w : Nat → Int32} (h : ∀ j, i ≤ j → j < i + n → b' j = b j) (hr : RX L R K ro b i n s u w) : RX L R K ro b' i n s u w := by
  obtain ⟨md, lk, pl, of, hi, si, e, hsi, hh⟩ := hr
  exact ⟨md, lk, pl, of, hi, si, e, hsi, hh.imp (fun q => ⟨q.1, q.2.1, q.2.2.1, q.2.2.2.c h⟩) id⟩
def NW (L R K D : Nat) (ro : Nat → Int32) (p : SX5) (said : Nat → Int32) (many : Nat) (t z : Int32) (b : Nat → Int8) (g : SX6) (gv : Nat → Int32) (s : SX4) (u : SX1) (w : Nat → Int32) (st : SX7) (e : SX0) (v : Nat → Int32) : Prop := ∃ (hd q lv : Nat) (S : Nat → SND), t = nI hd ∧ z = nI (q * (L * R)) ∧ hd ≤ q * (L * R) ∧ q * (L * R) ≤ 4000 ∧ GL L R K ro p 4000 q b lv ∧ g = ((S (q * (L * R))).1, (S (q * (L * R))).2.1, nI lv) ∧ gv = (S (q * (L * R))).2.2 ∧ RX L R K ro b 0 hd s u w ∧ ST L D hd st ∧ LSD L R ro b hd (q * (L * R)) S ∧ ES said many (S hd) e v ∧ (¬ s.1 = 2 → (S hd).1 = 0)
theorem send_nw {L R K D : Nat} {ro : Nat → Int32} {p : SX5} (hP : PV L R K D ro p) {said : Nat → Int32} {many : Nat} {t : Int32} {b : Nat → Int8} {g : SX6} {gv : Nat → Int32} {s : SX4} {u : SX1} {w : Nat → Int32} {st : SX7} {e : SX0} {v : Nat → Int32} {q n : Nat} (h : NW L R K D ro p said many t (nI (q * (L * R))) b g gv s u w st e v) (hq0 : q * (L * R) ≤ 4000) (hn : n ≤ 8) (hq : q * (L * R) + n * (L * R) ≤ 4000) (x : Int32) : Tt (f_X6_transmit 4000 (nI n) x g gv p ro (nI (q * (L * R))) b) (fun o => o.2.2.1 = nI ((q + n) * (L * R)) ∧ NW L R K D ro p said many t o.2.2.1 o.2.2.2 o.1 o.2.1 s u w st e v) := by
  obtain ⟨hd, q', lv, S, rfl, hz, hhd, h40, hG, rfl, rfl, hR, hST, hLS, hES, hm⟩ := h
  have hLR : 0 < L * R := by
    obtain ⟨_, _, _, _, _, _, _, _, _, _, _, _, _, a1, a2, a3, a4, _⟩ := hP
    exact Nat.mul_pos (by omega) (by omega)
  have hqq : q' = q := Nat.eq_of_mul_eq_mul_right hLR ((nI_eq (by omega) (by omega)).mp hz).symm
  subst hqq
  have e1 : (q' + n) * (L * R) = q' * (L * R) + n * (L * R) := Nat.add_mul _ _ _
  unfold f_X6_transmit
  have hk := txm_is (nb := 4000) (by decide) (by decide) hP (n := n) (q0 := q') (by omega) hn n 0 65535 (by omega) (by omega) x lv b (S (q' * (L * R))) hG
  refine tt_m hk ?_
  rintro ⟨⟨g1, g2, g3⟩, gv', z', b'⟩ ⟨lv', k1, k2, k3, k4, S2, y1, y2, y3⟩
  have k2 : g3 = nI lv' := k2
  have k3 : z' = nI ((q' + n) * (L * R)) := k3
  have k4 : ∀ j, j < q' * (L * R) → b' j = b j := k4
  have y1 : S2 (q' * (L * R)) = S (q' * (L * R)) := y1
  have y2 : S2 ((q' + n) * (L * R)) = (g1, g2, gv') := y2
  have y3 : LSD L R ro b' (q' * (L * R)) ((q' + n) * (L * R)) S2 := y3
  refine ⟨k3, hd, q' + n, lv', fun j => if j < q' * (L * R) then S j else S2 j, rfl, k3, by omega, by omega, k1, ?_, ?_, hR.c (fun j _ h2 => k4 j (by omega)), hST, ?_, ?_, ?_⟩
  · show (g1, g2, g3) = ((if (q' + n) * (L * R) < q' * (L * R) then _ else _ : SND).1, (if (q' + n) * (L * R) < q' * (L * R) then _ else _ : SND).2.1, nI lv')
    rw [if_neg (by omega), y2, k2]
  · show gv' = (if (q' + n) * (L * R) < q' * (L * R) then _ else _ : SND).2.2
    rw [if_neg (by omega), y2]
  · intro j j1 j2
    show (_ → LK (if j < q' * (L * R) then S j else S2 j) _ (if j + 1 < q' * (L * R) then S (j + 1) else S2 (j + 1))) ∧ (_ → (if j + 1 < q' * (L * R) then S (j + 1) else S2 (j + 1)) = (if j < q' * (L * R) then S j else S2 j))
    by_cases c : j < q' * (L * R)
    · have e3 : (if j + 1 < q' * (L * R) then S (j + 1) else S2 (j + 1)) = S (j + 1) := by
        by_cases c2 : j + 1 < q' * (L * R)
        · rw [if_pos c2]
        · have c3 : j + 1 = q' * (L * R) := by omega
          rw [if_neg c2, c3, y1]
      rw [if_pos c, e3]
      show (_ → LK _ (b' j).toInt32 _) ∧ _
      rw [k4 j c]
      exact hLS j j1 c
    · rw [if_neg c, if_neg (by omega)]
      exact y3 j (by omega) j2
  · show ES said many (if hd < q' * (L * R) then S hd else S2 hd) e v
    by_cases c : hd < q' * (L * R)
    · rw [if_pos c]; exact hES
    · have c3 : hd = q' * (L * R) := by omega
      rw [if_neg c, c3, y1, ← c3]; exact hES
  · intro z2
    show (if hd < q' * (L * R) then S hd else S2 hd).1 = 0
    by_cases c : hd < q' * (L * R)
    · rw [if_pos c]; exact hm z2
    · have c3 : hd = q' * (L * R) := by omega
      rw [if_neg c, c3, y1, ← c3]; exact hm z2
theorem hear_nw {L R K D : Nat} {ro : Nat → Int32} {p : SX5} (hP : PV L R K D ro p) {said : Nat → Int32} (hsd : ∀ k, ∃ c, c < 256 ∧ said k = nI c) {many : Nat} {z : Int32} {b : Nat → Int8} {g : SX6} {gv : Nat → Int32} {s : SX4} {u : SX1} {w : Nat → Int32} {st : SX7} {e : SX0} {v : Nat → Int32} {hd N n : Nat} (h : NW L R K D ro p said many (nI hd) z b g gv s u w st e v) (hz : z = nI N) (hN : N ≤ 4000) (hn : hd + n ≤ N) : Tt (f_X9_listen 4000 (nI hd + nI n) (nI hd) z b s u w st e v p ro) (fun o => o.1 = nI (hd + n) ∧ NW L R K D ro p said many o.1 z b g gv o.2.1 o.2.2.1 o.2.2.2.1 o.2.2.2.2.1 o.2.2.2.2.2.1 o.2.2.2.2.2.2 ∧ (s.1 = 2 → o.2.1.1 = 2)) := by
  obtain ⟨hd', q', lv, S, ht, hz', hhd, h40, hG, hg, hgv, hR, hST, hLS, hES, hm⟩ := h
  have e1 : hd' = hd := ((nI_eq (by omega) (by omega)).mp ht).symm
  subst e1
  have e2 : q' * (L * R) = N := ((nI_eq (by omega) (by omega)).mp (hz.symm.trans hz')).symm
  rw [nI_add, hz']
  refine tt_m (lis_is (nb := 4000) (by decide) h40 (by omega) hP hG.1 hG.2.1 hsd hLS (M := hd' + n) (by omega) (by omega) s u w st e v hR hST hES hm) ?_
  rintro ⟨t', s', u', w', st', e', v'⟩ ⟨k1, k2, k3, k4, k5, k6⟩
  exact ⟨k1, ⟨hd' + n, q', lv, S, k1, rfl, by omega, h40, hG, hg, hgv, k2, k3, fun j j1 j2 => hLS j (by omega) j2, k4, k5⟩, k6⟩
theorem say_nw {L R K D : Nat} {ro : Nat → Int32} {p : SX5} {said : Nat → Int32} {many : Nat} {t z : Int32} {b : Nat → Int8} {g : SX6} {gv : Nat → Int32} {s : SX4} {u : SX1} {w : Nat → Int32} {st : SX7} {e : SX0} {v : Nat → Int32} (h : NW L R K D ro p said many t z b g gv s u w st e v) (hl : s.1 = 2) (htz : t = z) (hmany : many < 8) {c : Nat} (hw : g.1 < 8) : ∃ wt : Nat, g.1 = nI wt ∧ wt < 8 ∧ f_X6_enqueue (nI c) g gv = some ((nI (wt + 1), g.2.1, g.2.2), upd gv wt (nI c)) ∧ NW L R K D ro p (upd said many (nI c)) (many + 1) t z b (nI (wt + 1), g.2.1, g.2.2) (upd gv wt (nI c)) s u w st e v := by
  obtain ⟨hd, q, lv, S, rfl, rfl, hhd, h40, hG, rfl, rfl, hR, hST, hLS, hES, hm⟩ := h
  have e0 : hd = q * (L * R) := (nI_eq (by omega) (by omega)).mp htz
  subst e0
  have hES' := hES
  obtain ⟨wt, bg, tk, pa, h1, h2, rfl, h4, h5, h6, h7, h8, h9, h10, h11⟩ := hES
  have hw : (S (q * (L * R))).1 < 8 := hw
  have hw8 : wt < 8 := by
    rw [h1] at hw
    exact (nI_ltI (a := wt) (b := 8) (by omega) (by omega)).mp hw
  refine ⟨wt, h1, hw8, ?_, q * (L * R), q, lv, fun _ => (nI (wt + 1), nI bg, upd (S (q * (L * R))).2.2 wt (nI c)), rfl, rfl, Nat.le_refl _, h40, hG, ?_, rfl, hR, hST, fun j j1 j2 => by omega, ?_, fun z => absurd hl z⟩
  · show f_X6_enqueue (nI c) ((S (q * (L * R))).1, (S (q * (L * R))).2.1, nI lv) _ = _
    rw [h1]
    unfold f_X6_enqueue
    dsimp only
    rw [if_neg (nI_pos (by omega)), if_neg (show ¬ (8 : Int32) ≤ nI wt from nI_ge (b := 8) hw8 (by omega)), m_inI (nI_in hw8 (by decide)), nI_clamp (by omega), nI_1]
  · show (nI (wt + 1), (S (q * (L * R))).2.1, nI lv) = _
    rw [h2]
  · refine ⟨wt + 1, bg, tk, pa, rfl, rfl, rfl, by omega, by omega, h6, fun z => by omega, fun k hk => ?_, fun k hk => ?_, h10, fun z => ?_⟩
    · show upd (S (q * (L * R))).2.2 wt (nI c) k = upd said many (nI c) (tk + k)
      by_cases ck : k = wt
      · subst ck
        rw [upd_same, h4, upd_same]
      · rw [upd_ne _ _ ck, upd_ne _ _ (by omega)]
        exact h8 k (by omega)
    · rw [upd_ne _ _ (by omega)]
      exact h9 k hk
    · obtain ⟨cc, c1, c2, c3⟩ := h11 z
      have : 0 < wt := by
        rcases Nat.eq_zero_or_pos wt with zz | zz
        · have := h7 zz; omega
        · exact zz
      exact ⟨cc, c1, by rw [upd_ne _ _ (by omega)]; exact c2, c3⟩
theorem start_nw {L R K D : Nat} {ro : Nat → Int32} {p : SX5} (hP : PV L R K D ro p) (said : Nat → Int32) (b : Nat → Int8) (gv : Nat → Int32) {s : SX4} {u : SX1} {w : Nat → Int32} {st : SX7} (v : Nat → Int32) (hR : RX L R K ro b 0 0 s u w) (hST : ST L D 0 st) : NW L R K D ro p said 0 0 0 b (0, 0, 0) gv s u w st (0, 0, 0, 0) v := by
  have hLR : 0 < L * R := by
    obtain ⟨_, _, _, _, _, _, _, _, _, _, _, _, _, a1, a2, a3, a4, _⟩ := hP
    exact Nat.mul_pos (by omega) (by omega)
  refine ⟨0, 0, 0, fun _ => (0, 0, gv), rfl, by rw [Nat.zero_mul]; rfl, Nat.zero_le _, by omega, ⟨?_, ?_, Nat.two_pow_pos K, fun z => absurd z (Nat.lt_irrefl _), fun _ => rfl, fun z => absurd z (Nat.lt_irrefl _)⟩, rfl, rfl, hR, hST, fun j j1 j2 => by rw [Nat.zero_mul] at j2; omega, ?_, fun _ => rfl⟩
  · intro j hj
    rw [Nat.zero_mul] at hj
    omega
  · intro q hq
    have : (q + 1) * (L * R) = q * (L * R) + L * R := Nat.succ_mul q (L * R)
    omega
  · exact ⟨0, 0, 0, 0, rfl, rfl, rfl, rfl, by omega, by omega, fun _ => rfl, fun k hk => by omega, fun k hk => by omega, fun _ => rfl, fun z => by omega⟩
