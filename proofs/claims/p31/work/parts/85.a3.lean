/-- a line of what was sent: N bits -/
def LN (L R : Nat) (ro : Nat → Int32) (b : Nat → Int8) (N : Nat) : Prop := ∀ j, j < N → ((b j).toInt32 = 0 ∨ (b j).toInt32 = 1) ∧ RF L R ro j (b j).toInt32
/-- the checks of each superframe, those that the next one bears -/
def CK (L R : Nat) (ro : Nat → Int32) (p : SX5) (nb N : Nat) (b : Nat → Int8) : Prop := ∀ q, (q + 1) * (L * R) ≤ N → ∃ v : Nat, v < 2 ^ cnt ro R ∧ f_X5_checksOf nb (nI (q * (L * R))) p ro (nI N) b = some (nI v) ∧ ((q + 2) * (L * R) ≤ N → ∀ f, f < R → ro f = 2 → (b ((q + 1) * (L * R) + f * L)).toInt32 = nI (v / 2 ^ (cnt ro R - 1 - cnt ro f) % 2))
theorem cnt_le (ro : Nat → Int32) (n : Nat) : cnt ro n ≤ n := by
  induction n with
  | zero => exact Nat.le_refl _
  | succ n ih => simp only [cnt]; split <;> omega
theorem cnt_mono (ro : Nat → Int32) {a b : Nat} (h : a ≤ b) : cnt ro a ≤ cnt ro b := by
  induction b with
  | zero => have : a = 0 := by omega
            subst this; exact Nat.le_refl _
  | succ b ih =>
    by_cases c : a = b + 1
    · subst c; exact Nat.le_refl _
    · have := ih (by omega)
      simp only [cnt]
      split <;> omega
theorem cnt_lt (ro : Nat → Int32) {a b : Nat} (h : a < b) (e : ro a = 2) : cnt ro a < cnt ro b := by
  have h1 := cnt_mono ro (show a + 1 ≤ b from h)
  simp only [cnt, if_pos e] at h1
  omega
theorem ch5_is {nb N : Nat} (hnb : nb < 2 ^ 31) (hN : N ≤ nb) (hN2 : N ≤ 7000) {L R K D : Nat} {ro : Nat → Int32} {p : SX5} (h : PV L R K D ro p) {b : Nat → Int8} {q v : Nat} (hv : v < 2 ^ cnt ro R) (hq : (q + 2) * (L * R) ≤ N) (hc : f_X5_checksOf nb (nI (q * (L * R))) p ro (nI N) b = some (nI v)) (hb : ∀ f, f < R → ro f = 2 → (b ((q + 1) * (L * R) + f * L)).toInt32 = nI (v / 2 ^ (cnt ro R - 1 - cnt ro f) % 2)) {po wi sl fw wr la dr ch ze on al : Int32} (he : p = (nI L, nI R, po, wi, sl, fw, wr, la, dr, nI (L * R), ch, nI K, ze, on, al)) (m : Nat) : ∀ (k f : Nat) (_ : k + m = R) (_ : m ≤ f), f_X5_checksHold_5 (nI R) nb (nI ((q + 1) * (L * R))) (nI (L * R)) (nI L) po wi sl fw wr la dr ch (nI K) ze on al ro (nI N) b (f + 1) (nI (v / 2 ^ (cnt ro R - cnt ro k))) (nI k) = some 1 := by
  have hro := fun f hf => rol_is h (f := f) hf
  subst he
  obtain ⟨_, _, _, _, _, _, _, _, _, _, _, _, hp, a1, a2, a3, a4, hk, _⟩ := h
  have hLR2 : L * R ≤ 288 := Nat.le_trans (Nat.mul_le_mul a2 a4) (by decide)
  have hqq : (q + 2) * (L * R) = q * (L * R) + 2 * (L * R) := Nat.add_mul _ _ _
  have hqq1 : (q + 1) * (L * R) = q * (L * R) + 1 * (L * R) := Nat.add_mul _ _ _
  induction m with
  | zero =>
    intro k f hkm _
    have : k = R := by omega
    subst this
    rw [f_X5_checksHold_5_s, if_pos (nI_le (Nat.le_refl _) (by omega)), show nI ((q + 1) * (L * k)) - nI (L * k) = nI (q * (L * k)) from by rw [pk_sub (by omega)]; congr 1; omega, hc, bso, Nat.sub_self, Nat.pow_zero, Nat.div_one]
    exact if_pos rfl
  | succ m ih =>
    intro k f hkm hf
    obtain ⟨f, rfl⟩ : ∃ q, f = q + 1 := ⟨f - 1, by omega⟩
    rw [f_X5_checksHold_5_s, if_neg (nI_ge (by omega) (by omega)), hro k (by omega), bso]
    unfold f_X5_checksHold_42
    rw [nI_1]
    by_cases c : ro k = 2
    · have h1 := cnt_lt ro (show k < R by omega) c
      have hkL : k * L + L ≤ L * R := by
        have : (k + 1) * L ≤ R * L := Nat.mul_le_mul_right L (by omega)
        rw [Nat.add_mul, Nat.mul_comm R] at this
        omega
      rw [if_pos c, pk_mul, nI_add, at_is hnb hN (by omega) b, bso, hb k (by omega) c, show (2 : Int32) = nI 2 from rfl, pk_mul, nI_add]
      have e : v / 2 ^ (cnt ro R - cnt ro k) * 2 + v / 2 ^ (cnt ro R - 1 - cnt ro k) % 2 = v / 2 ^ (cnt ro R - cnt ro (k + 1)) := by
        have e1 : cnt ro R - cnt ro k = (cnt ro R - 1 - cnt ro k) + 1 := by omega
        have e2 : cnt ro R - cnt ro (k + 1) = cnt ro R - 1 - cnt ro k := by simp only [cnt, if_pos c]; omega
        rw [e1, e2, Nat.pow_succ, ← Nat.div_div_eq_div_mul]
        omega
      rw [e]
      exact ih (k + 1) f (by omega) (by omega)
    · have e2 : cnt ro (k + 1) = cnt ro k := by simp only [cnt, if_neg c]; rfl
      rw [if_neg c, ← e2]
      exact ih (k + 1) f (by omega) (by omega)
theorem hold_is {nb N : Nat} (hnb : nb < 2 ^ 31) (hN : N ≤ nb) (hN2 : N ≤ 7000) {L R K D : Nat} {ro : Nat → Int32} {p : SX5} (h : PV L R K D ro p) {b : Nat → Int8} (hc : CK L R ro p nb N b) {q : Nat} (hq : (q + 2) * (L * R) ≤ N) : f_X5_checksHold nb (nI ((q + 1) * (L * R))) p ro (nI N) b = some 1 := by
  have hqq : (q + 2) * (L * R) = q * (L * R) + 2 * (L * R) := Nat.add_mul _ _ _
  have hqq1 : (q + 1) * (L * R) = q * (L * R) + 1 * (L * R) := Nat.add_mul _ _ _
  obtain ⟨v, hv, h1, h2⟩ := hc q (by omega)
  have h' := h
  obtain ⟨po, wi, sl, fw, wr, la, dr, ch, ze, on, al, rfl, _⟩ := h'
  have g := ch5_is hnb hN hN2 h hv hq h1 (h2 hq) rfl R 0 65535 (by omega) (by omega)
  have e0 : v / 2 ^ (cnt ro R - cnt ro 0) = 0 := Nat.div_eq_of_lt hv
  rw [e0] at g
  exact g
/-- the store, c at its clock, q times that it went round, n bits heard -/
def SI (c q n : Nat) (s : SX7) : Prop := ∃ (h cm dr rd rp rn : Nat) (a6 a7 a8 a9 aA aB : Int32) (x : Int32) (aD aE aF aG : Int32), s = (nI h, nI cm, nI dr, nI rd, nI rp, nI c, a6, a7, a8, a9, aA, aB, x, aD, aE, aF, aG) ∧ h ≤ 2 ∧ cm = dr + rd + h ∧ cm ≤ n ∧ rd + rp ≤ q ∧ (0 < rd → x = nI rn ∧ rn ≤ n)
theorem SI.m {c q n n' : Nat} (hn : n ≤ n') {s : SX7} (h : SI c q n s) : SI c q n' s := by
  obtain ⟨h, cm, dr, rd, rp, rn, a6, a7, a8, a9, aA, aB, x, aD, aE, aF, aG, rfl, h1, h2, h3, h4, h5⟩ := h
  exact ⟨h, cm, dr, rd, rp, rn, a6, a7, a8, a9, aA, aB, x, aD, aE, aF, aG, rfl, h1, h2, by omega, h4, fun z => ⟨(h5 z).1, by have := (h5 z).2; omega⟩⟩
theorem com_is {c q n : Nat} (hn : n ≤ 7000) {s : SX7} (h : SI c q n s) (y z : Int32) : Tt (f_X7_come y z s) (SI c q (n + 1)) := by
  obtain ⟨h, cm, dr, rd, rp, rn, a6, a7, a8, a9, aA, aB, x, aD, aE, aF, aG, rfl, h1, h2, h3, h4, h5⟩ := h
  unfold f_X7_come f_X7_dropOlder
  refine tt_i (fun c => ?_) (fun c => ?_)
  · have c1 : h < 2 := (nI_ltI (a := h) (b := 2) (by omega) (by omega)).mp c
    unfold f_X7_come_22 f_X7_come_52
    refine tt_i (fun _ => tt_r ?_) (fun _ => tt_r ?_)
    · exact ⟨h + 1, cm + 1, dr, rd, rp, rn, _, _, _, _, _, _, _, _, _, _, _, by rw [nI_1, nI_1], by omega, by omega, by omega, h4, fun z => ⟨(h5 z).1, by have := (h5 z).2; omega⟩⟩
    · exact ⟨h + 1, cm + 1, dr, rd, rp, rn, _, _, _, _, _, _, _, _, _, _, _, by rw [nI_1, nI_1], by omega, by omega, by omega, h4, fun z => ⟨(h5 z).1, by have := (h5 z).2; omega⟩⟩
  · have c1 : h = 2 := by
      rcases Nat.lt_or_ge h 2 with z | z
      · exact absurd (nI_lt (a := h) (b := 2) z (by omega)) c
      · omega
    subst c1
    rw [bso]
    unfold f_X7_come_22 f_X7_come_52
    refine tt_i (fun e => absurd e (by decide)) (fun _ => tt_r ?_)
    exact ⟨2, cm + 1, dr + 1, rd, rp, rn, _, _, _, _, _, _, _, _, _, _, _, by rw [nI_1, nI_1]; rfl, by omega, by omega, by omega, h4, fun z => ⟨(h5 z).1, by have := (h5 z).2; omega⟩⟩
/-- after a bit more -/
def SIt (L D c q n : Nat) (s : SX7) : Prop := if 1000 * L ≤ c + D then SI (c + D - 1000 * L) (q + 1) n s else SI (c + D) q n s
theorem tic_is {L R K D : Nat} {ro : Nat → Int32} {p : SX5} (h : PV L R K D ro p) {c q n : Nat} (hc : c ≤ 30000) (hn : n ≤ 8000) (hq : q ≤ 8000) {s : SX7} (hs : SI c q n s) : Tt (f_X7_tick s p) (SIt L D c q n) := by
  have hsp := fun x => isSignalPlace_c x p
  obtain ⟨po, wi, sl, fw, wr, la, dri, ch, ze, on, al, rfl, hp, a1, a2, a3, a4, hk, hw, ⟨hd1, hd2, hd3⟩, hr, hz, ho, ha⟩ := h
  obtain ⟨h, cm, dr, rd, rp, rn, a6, a7, a8, a9, aA, aB, x, aD, aE, aF, aG, rfl, h1, h2, h3, h4, h5⟩ := hs
  unfold f_X7_tick
  have e1 : nI c + (1000 + dri) = nI (c + D) := by rw [hd3, nI_add]
  have e2 : (1000 : Int32) * nI L = nI (1000 * L) := pk_mul 1000 L
  refine tt_i (fun w => ?_) (fun w => ?_)
  · rw [e1, e2] at w
    have w := (nI_leI (by omega) (by omega)).mp w
    rw [e1, e2, pk_sub w]
    have hS : ∀ s, SI (c + D - 1000 * L) (q + 1) n s → SIt L D c q n s := fun s h => by unfold SIt; rw [if_pos w]; exact h
    refine tt_n (tt_i (fun w2 => tt_i (fun w3 => tt_r ?_) (fun w3 => tt_r ?_)) (fun w2 => ?_))
    · exact hS _ ⟨h, cm, dr, rd, rp, rn, _, _, _, _, _, _, _, _, _, _, _, rfl, h1, h2, h3, by omega, h5⟩
    · exact hS _ ⟨h, cm, dr, rd, rp + 1, rn, _, _, _, _, _, _, _, _, _, _, _, by rw [nI_1], h1, h2, h3, by omega, h5⟩
    · have hh : 1 ≤ h := by
        rcases Nat.eq_zero_or_pos h with z | z
        · subst z; exact absurd (show nI 0 ≤ 0 by decide) w2
        · exact z
      unfold f_X7_readOlder f_X7_dropOlder
      dsimp only
      rw [bso]
      dsimp only
      have ee : nI h - 1 = nI (h - 1) := pk_sub (b := 1) hh
      have ec : nI cm - nI h = nI (cm - h) := pk_sub (by omega)
      refine tt_b (P := SI (c + D - 1000 * L) (q + 1) n) ?_ ?_
      · refine tt_b (hsp _) (fun _ _ => tt_i (fun _ => tt_r ?_) (fun _ => tt_n (tt_r ?_)))
        · exact ⟨h - 1, cm, dr, rd + 1, rp, cm - h, _, _, _, _, _, _, _, _, _, _, _, by rw [ee, ec, nI_1], by omega, by omega, h3, by omega, fun _ => ⟨rfl, by omega⟩⟩
        · exact ⟨h - 1, cm, dr, rd + 1, rp, cm - h, _, _, _, _, _, _, _, _, _, _, _, by rw [ee, ec, nI_1], by omega, by omega, h3, by omega, fun _ => ⟨rfl, by omega⟩⟩
      · rintro ⟨b0, b1, b2, b3, b4, b5, b6, b7, b8, b9, bA, bB, bC, bD, bE, bF, bG⟩ g
        exact tt_r (hS _ g)
  · rw [e1, e2] at w
    have w : ¬ 1000 * L ≤ c + D := fun z => w (nI_le z (by omega))
    rw [e1]
    have hS : ∀ s, SI (c + D) q n s → SIt L D c q n s := fun s h => by unfold SIt; rw [if_neg w]; exact h
    refine tt_r (hS _ ?_)
    exact ⟨h, cm, dr, rd, rp, rn, _, _, _, _, _, _, _, _, _, _, _, rfl, h1, h2, h3, h4, h5⟩
/-- the clock of the store behind n bits -/
def ST (L D n : Nat) (s : SX7) : Prop := SI (n * D % (1000 * L)) (n * D / (1000 * L)) n s
theorem st_nx {L D n : Nat} (hL : 4 ≤ L) (hD : D ≤ 1050) {s : SX7} (h : SIt L D (n * D % (1000 * L)) (n * D / (1000 * L)) (n + 1) s) : ST L D (n + 1) s := by
  have hM : 0 < 1000 * L := by omega
  have e0 := Nat.div_add_mod (n * D) (1000 * L)
  have e1 := Nat.mod_lt (n * D) hM
  unfold SIt at h
  unfold ST
  have e2 : (n + 1) * D = n * D + D := Nat.succ_mul n D
  by_cases c : 1000 * L ≤ n * D % (1000 * L) + D
  · rw [if_pos c] at h
    have e3 : (n + 1) * D = 1000 * L * (n * D / (1000 * L) + 1) + (n * D % (1000 * L) + D - 1000 * L) := by rw [Nat.mul_add]; omega
    rw [e3, Nat.mul_add_mod, Nat.mul_add_div hM, Nat.mod_eq_of_lt (show n * D % (1000 * L) + D - 1000 * L < 1000 * L by omega), Nat.div_eq_of_lt (show n * D % (1000 * L) + D - 1000 * L < 1000 * L by omega), Nat.add_zero]
    exact h
  · rw [if_neg c] at h
    have e3 : (n + 1) * D = 1000 * L * (n * D / (1000 * L)) + (n * D % (1000 * L) + D) := by omega
    rw [e3, Nat.mul_add_mod, Nat.mul_add_div hM, Nat.mod_eq_of_lt (show n * D % (1000 * L) + D < 1000 * L by omega), Nat.div_eq_of_lt (show n * D % (1000 * L) + D < 1000 * L by omega), Nat.add_zero]
    exact h
theorem adv_is {L R K D : Nat} {ro : Nat → Int32} {p : SX5} (h : PV L R K D ro p) {j : Nat} (hj : j ≤ 7000) (md st mm lk lo si hy bc : Int32) : f_X4_advance (md, st, mm, lk, lo, nI (j / L % R), nI (j % L), si, hy, bc) p = some (md, st, mm, lk, lo, nI ((j + 1) / L % R), nI ((j + 1) % L), si, hy, bc) := by
  have hb := beh_is h (j / L)
  obtain ⟨po, wi, sl, fw, wr, la, dr, ch, ze, on, al, rfl, hp, a1, a2, a3, a4, hk, hw, hd, hr, hz, ho, ha⟩ := h
  have hj2 := Nat.mod_lt j (show 0 < L by omega)
  unfold f_X4_advance
  try dsimp only
  rw [nI_1]
  by_cases c : j % L + 1 < L
  · obtain ⟨e1, e2⟩ := dm_a (show 0 < L by omega) c
    rw [if_pos (nI_lt c (by omega)), e1, e2]
  · obtain ⟨e1, e2⟩ := dm_b (show 0 < L by omega) c
    rw [if_neg (nI_nlt (by omega) (by omega)), hb, bso, e1, e2]
    rfl
/-- a superframe has ended: it and the one ahead stand on the line -/
theorem jud_is {L R K D : Nat} {ro : Nat → Int32} {p : SX5} (h : PV L R K D ro p) {j si : Nat} (hj : j ≤ 7000) (hsi : si ≤ j) (md st mm lk lo hy bc : Int32) : f_X4_isJudged (md, st, mm, lk, lo, nI (j / L % R), nI (j % L), nI si, hy, bc) p = some 0 ∨ (f_X4_isJudged (md, st, mm, lk, lo, nI (j / L % R), nI (j % L), nI si, hy, bc) p = some 1 ∧ ∃ q, j = (q + 2) * (L * R)) := by
  obtain ⟨po, wi, sl, fw, wr, la, dr, ch, ze, on, al, rfl, hp, a1, a2, a3, a4, hk, hw, hd, hr, hz, ho, ha⟩ := h
  have hLR : 0 < L * R := Nat.mul_pos (by omega) (by omega)
  have hLR2 : L * R ≤ 288 := Nat.le_trans (Nat.mul_le_mul a2 a4) (by decide)
  have hq := Nat.mod_lt (j / L) (show 0 < R by omega)
  have hj2 := Nat.mod_lt j (show 0 < L by omega)
  unfold f_X4_isJudged
  by_cases c1 : nI (j / L % R) = 0
  · by_cases c2 : nI (j % L) = 0
    · by_cases c3 : nI K ≤ 0
      · left; show (if _ then _ else _) = _; rw [if_pos c1, if_pos c2, if_pos c3]
      · by_cases c4 : nI si < 2 * nI (L * R)
        · left; show (if _ then _ else _) = _; rw [if_pos c1, if_pos c2, if_neg c3, if_pos c4]
        · right
          refine ⟨by show (if _ then _ else _) = _; rw [if_pos c1, if_pos c2, if_neg c3, if_neg c4], ?_⟩
          have k1 : j / L % R = 0 := (nI_eq (b := 0) (by omega) (by omega)).mp c1
          have k2 : j % L = 0 := (nI_eq (b := 0) (by omega) (by omega)).mp c2
          have k3 : j % (L * R) = 0 := by rw [can_n, k1, k2, Nat.zero_mul]
          have k4 : 2 * (L * R) ≤ si := by
            rw [show (2 : Int32) = nI 2 from rfl, pk_mul] at c4
            rcases Nat.lt_or_ge si (2 * (L * R)) with z | z
            · exact absurd (nI_lt z (by omega)) c4
            · exact z
          refine ⟨j / (L * R) - 2, ?_⟩
          have e := Nat.div_add_mod j (L * R)
          have e2 : 2 ≤ j / (L * R) := (Nat.le_div_iff_mul_le hLR).mpr (by omega)
          rw [Nat.sub_add_cancel e2, Nat.mul_comm]
          omega
    · left; show (if _ then _ else _) = _; rw [if_pos c1, if_neg c2]
  · left; show (if _ then _ else _) = _; rw [if_neg c1]
/-- what the ear hears by a bit at j -/
def ER (md : Int32) (L R : Nat) (ro : Nat → Int32) (j : Nat) (x : Int32) (e : SX0) (v : Nat → Int32) (e' : SX0) (v' : Nat → Int32) : Prop := (md = 2 ∧ j % L = 0 ∧ ro (j / L % R) = 3 ∧ f_X0_take x e v = some (e', v')) ∨ (¬ (md = 2 ∧ j % L = 0 ∧ ro (j / L % R) = 3) ∧ v' = v ∧ (e' = e ∨ (¬ md = 2 ∧ e' = FG e)))
theorem ver_is {nb N : Nat} (hnb : nb < 2 ^ 31) (hN : N ≤ nb) (hN2 : N ≤ 6500) {L R K D : Nat} {ro : Nat → Int32} {p : SX5} (h : PV L R K D ro p) {b : Nat → Int8} (hl : LN L R ro b N) (hc : CK L R ro p nb N b) {i n : Nat} (hj : i + n < N) (hK : 0 < K) {si : Nat} (hsi : si ≤ n) (hy : Int32) : ∃ s' : SX4, ∀ (u : SX1) (w : Nat → Int32) (e : SX0), Tt (f_X4_takeVerifying nb (nI (i + n)) (1, 1, 0, 0, 0, nI ((i + n) / L % R), nI ((i + n) % L), nI (si + 1), hy, 0) u w e p ro (nI N) b) (fun q => q.1 = s' ∧ RX L R K ro b i (n + 1) q.1 q.2.1 q.2.2.1 ∧ (q.2.2.2 = e ∨ q.2.2.2 = FG e)) := by
  have had := fun md st mm lk lo sx hy bc => adv_is h (j := i + n) (by omega) md st mm lk lo sx hy bc
  have hju := jud_is h (j := i + n + 1) (si := si + 1) (by omega) (by omega) 1 1 0 0 0 hy 0
  have hot := fun (f : Nat) (hf : f < R) x h0 h1 => oth_no h (f := f) hf (x := x) h0 h1
  have hho := fun (q : Nat) hq => hold_is hnb hN (by omega) h hc (q := q) hq
  obtain ⟨po, wi, sl, fw, wr, la, dr, ch, ze, on, al, rfl, hp, a1, a2, a3, a4, hk, hw, hd, hr, hz, ho, ha⟩ := h
  have hLR2 : L * R ≤ 288 := Nat.le_trans (Nat.mul_le_mul a2 a4) (by decide)
  have hfr := Nat.mod_lt ((i + n) / L) (show 0 < R by omega)
  have hj2 := Nat.mod_lt (i + n) (show 0 < L by omega)
  have key : ∀ (s' : SX4), (∀ (u : SX1) (w : Nat → Int32) (e : SX0), Tt (f_X4_takeVerifying_29 1 1 0 0 0 (nI ((i + n) / L % R)) (nI ((i + n) % L)) (nI (si + 1)) hy 0 (nI L) (nI R) po wi sl fw wr la dr (nI (L * R)) ch (nI K) ze on al u w e nb (nI (i + n)) ro (nI N) b) (fun q => q.1 = s' ∧ RX L R K ro b i (n + 1) q.1 q.2.1 q.2.2.1 ∧ (q.2.2.2 = e ∨ q.2.2.2 = FG e))) → ∃ s' : SX4, ∀ (u : SX1) (w : Nat → Int32) (e : SX0), Tt (f_X4_takeVerifying nb (nI (i + n)) (1, 1, 0, 0, 0, nI ((i + n) / L % R), nI ((i + n) % L), nI (si + 1), hy, 0) u w e (nI L, nI R, po, wi, sl, fw, wr, la, dr, nI (L * R), ch, nI K, ze, on, al) ro (nI N) b) (fun q => q.1 = s' ∧ RX L R K ro b i (n + 1) q.1 q.2.1 q.2.2.1 ∧ (q.2.2.2 = e ∨ q.2.2.2 = FG e)) := by
    intro s' k29
    refine ⟨s', fun u w e => ?_⟩
    unfold f_X4_takeVerifying
    refine tt_i (fun c => ?_) (fun _ => k29 u w e)
    have c1 : (i + n) % L = 0 := (nI_eq (b := 0) (by omega) (by omega)).mp c
    obtain ⟨g1, g2⟩ := hl (i + n) hj
    obtain ⟨g3, g4⟩ := g2 c1
    rw [at_is hnb hN hj, bso, hot _ hfr _ g3 g4, bso, if_pos rfl]
    exact k29 u w e
  rcases hju with g | ⟨g, q, hq⟩
  · refine key (1, 1, 0, 0, 0, nI ((i + n + 1) / L % R), nI ((i + n + 1) % L), nI (si + 1), hy, 0) (fun u w e => ?_)
    unfold f_X4_takeVerifying_29
    rw [had, bso]
    show Tt (Option.bind (f_X4_isJudged (1, 1, 0, 0, 0, nI ((i + n + 1) / L % R), nI ((i + n + 1) % L), nI (si + 1), hy, 0) _) _) _
    rw [g, bso, if_pos rfl]
    exact tt_r ⟨rfl, ⟨1, 0, _, _, hy, si + 1, rfl, by omega, Or.inr (Or.inl ⟨rfl, rfl, hK, rfl, rfl⟩)⟩, Or.inl rfl⟩
  · have hqq : (q + 2) * (L * R) = q * (L * R) + 2 * (L * R) := Nat.add_mul _ _ _
    have hqq1 : (q + 1) * (L * R) = q * (L * R) + 1 * (L * R) := Nat.add_mul _ _ _
    refine key (2, 1, 0, 1, 0, nI ((i + n + 1) / L % R), nI ((i + n + 1) % L), 0, 0, 0) (fun u w e => ?_)
    unfold f_X4_takeVerifying_29
    rw [had, bso]
    show Tt (Option.bind (f_X4_isJudged (1, 1, 0, 0, 0, nI ((i + n + 1) / L % R), nI ((i + n + 1) % L), nI (si + 1), hy, 0) _) _) _
    rw [g, bso, if_neg (by decide), nI_1, show nI (i + n + 1) - nI (L * R) = nI ((q + 1) * (L * R)) from by rw [pk_sub (by omega)]; congr 1; omega, hho q (by omega), bso, if_neg (by decide)]
    unfold f_X4_lock
    rw [fg_is]
    exact tt_r ⟨rfl, ⟨2, 1, _, _, 0, 0, rfl, Nat.zero_le _, Or.inr (Or.inr ⟨rfl, rfl, rfl, rfl, rfl⟩)⟩, Or.inr rfl⟩
theorem lck_is {nb N : Nat} (hnb : nb < 2 ^ 31) (hN : N ≤ nb) (hN2 : N ≤ 6500) {L R K D : Nat} {ro : Nat → Int32} {p : SX5} (h : PV L R K D ro p) {b : Nat → Int8} (hl : LN L R ro b N) (hc : CK L R ro p nb N b) {i n : Nat} (hj : i + n < N) {si : Nat} (hsi : si ≤ n) (u : SX1) (w : Nat → Int32) (st : SX7) (e : SX0) (v : Nat → Int32) {c q : Nat} (hs : SI c q n st) : Tt (f_X4_takeLocked nb (nI (i + n)) (2, 1, 0, 1, 0, nI ((i + n) / L % R), nI ((i + n) % L), nI (si + 1), 0, 0) u w st e v p ro (nI N) b) (fun z => z.1 = (2, 1, 0, 1, 0, nI ((i + n + 1) / L % R), nI ((i + n + 1) % L), nI (si + 1), 0, 0) ∧ SI c q (n + 1) z.2.2.2.1 ∧ ER 2 L R ro (i + n) (b (i + n)).toInt32 e v z.2.2.2.2.1 z.2.2.2.2.2) := by
  have had := fun md st mm lk lo sx hy bc => adv_is h (j := i + n) (by omega) md st mm lk lo sx hy bc
  have hju := jud_is h (j := i + n + 1) (si := si + 1) (by omega) (by omega) 2 1 0 1 0 0 0
  have hot := fun (f : Nat) (hf : f < R) x h0 h1 => oth_no h (f := f) hf (x := x) h0 h1
  have hfx := fun (f : Nat) (hf : f < R) => fix_is h (f := f) hf
  have hro := fun (f : Nat) (hf : f < R) => rol_is h (f := f) hf
  have hho := fun (q : Nat) hq => hold_is hnb hN (by omega) h hc (q := q) hq
  obtain ⟨po, wi, sl, fw, wr, la, dr, ch, ze, on, al, rfl, hp, a1, a2, a3, a4, hk, hw, hd, hr, hz, ho, ha⟩ := h
  have hLR2 : L * R ≤ 288 := Nat.le_trans (Nat.mul_le_mul a2 a4) (by decide)
  have hfr := Nat.mod_lt ((i + n) / L) (show 0 < R by omega)
  have k73 : ∀ (st' : SX7) (e' : SX0) (v' : Nat → Int32), SI c q (n + 1) st' → ER 2 L R ro (i + n) (b (i + n)).toInt32 e v e' v' → Tt (f_X4_takeLocked_73 2 1 0 1 0 (nI ((i + n + 1) / L % R)) (nI ((i + n + 1) % L)) (nI (si + 1)) 0 0 (nI L) (nI R) po wi sl fw wr la dr (nI (L * R)) ch (nI K) ze on al u w e' v' nb (nI (i + n)) ro (nI N) b st') (fun z => z.1 = (2, 1, 0, 1, 0, nI ((i + n + 1) / L % R), nI ((i + n + 1) % L), nI (si + 1), 0, 0) ∧ SI c q (n + 1) z.2.2.2.1 ∧ ER 2 L R ro (i + n) (b (i + n)).toInt32 e v z.2.2.2.2.1 z.2.2.2.2.2) := by
    intro st' e' v' s1 s2
    unfold f_X4_takeLocked_73
    rcases hju with g | ⟨g, q', hq⟩
    · rw [g, bso, if_pos rfl]
      exact tt_r ⟨rfl, s1, s2⟩
    · have hqq : (q' + 2) * (L * R) = q' * (L * R) + 2 * (L * R) := Nat.add_mul _ _ _
      have hqq1 : (q' + 1) * (L * R) = q' * (L * R) + 1 * (L * R) := Nat.add_mul _ _ _
      rw [g, bso, if_neg (by decide), nI_1, show nI (i + n + 1) - nI (L * R) = nI ((q' + 1) * (L * R)) from by rw [pk_sub (by omega)]; congr 1; omega, hho q' (by omega), bso, if_neg (by decide)]
      exact tt_r ⟨rfl, s1, s2⟩
  have k26 : ∀ (e' : SX0) (v' : Nat → Int32), ER 2 L R ro (i + n) (b (i + n)).toInt32 e v e' v' → Tt (f_X4_takeLocked_26 (nI L) (nI R) po wi sl fw wr la dr (nI (L * R)) ch (nI K) ze on al nb (nI (i + n)) ro (nI N) b st 2 1 0 1 0 (nI ((i + n) / L % R)) (nI ((i + n) % L)) (nI (si + 1)) 0 0 u w e' v') (fun z => z.1 = (2, 1, 0, 1, 0, nI ((i + n + 1) / L % R), nI ((i + n + 1) % L), nI (si + 1), 0, 0) ∧ SI c q (n + 1) z.2.2.2.1 ∧ ER 2 L R ro (i + n) (b (i + n)).toInt32 e v z.2.2.2.2.1 z.2.2.2.2.2) := by
    intro e' v' s2
    unfold f_X4_takeLocked_26
    rw [had, bso]
    exact tt_i (fun _ => tt_i (fun _ => k73 _ _ _ (hs.m (by omega)) s2) (fun _ => tt_b (com_is (by omega) hs _ _) (fun _ s1 => k73 _ _ _ s1 s2))) (fun _ => tt_r ⟨rfl, hs.m (by omega), s2⟩)
  unfold f_X4_takeLocked
  have hj2 := Nat.mod_lt (i + n) (show 0 < L by omega)
  refine tt_i (fun c => ?_) (fun c => k26 _ _ (Or.inr ⟨fun z => c (by rw [z.2.1]; rfl), rfl, Or.inl rfl⟩))
  have c1 : (i + n) % L = 0 := (nI_eq (b := 0) (by omega) (by omega)).mp c
  obtain ⟨g1, g2⟩ := hl (i + n) hj
  obtain ⟨g3, g4⟩ := g2 c1
  rw [at_is hnb hN hj, bso]
  unfold f_X4_takeFirst
  refine tt_b (P := fun z => ∃ e' v', z = ((2, 1, 0, 1, 0, nI ((i + n) / L % R), nI ((i + n) % L), nI (si + 1), 0, 0), u, w, e', v') ∧ ER 2 L R ro (i + n) (b (i + n)).toInt32 e v e' v') ?_ ?_
  · try dsimp only
    rw [hfx _ hfr, bso]
    by_cases cf : ro ((i + n) / L % R) = 0 ∨ ro ((i + n) / L % R) = 1
    · rw [if_pos cf, if_neg (by decide), hot _ hfr _ g3 g4, bso, if_pos rfl]
      unfold f_X4_takeFirst_28
      have e0 : (((0 : Int32) <<< ((1 : Int32) &&& 31)) ||| 0) &&& (((1 : Int32) <<< (la &&& 31)) - 1) = 0 := by
        rw [show ((0 : Int32) <<< ((1 : Int32) &&& 31)) ||| 0 = 0 from by decide]
        apply b_ext
        intro k _
        rw [b_and, show bt 0 k = false from BitVec.getLsbD_zero]
        rfl
      rw [e0]
      unfold m_n
      dsimp only
      rw [show f_J6_bitCount_0f7a4 0 = some 0 from by decide, bso, if_pos hw]
      refine tt_r ⟨e, v, rfl, Or.inr ⟨fun z => ?_, rfl, Or.inl rfl⟩⟩
      rcases cf with cf | cf
      · rw [cf] at z; exact absurd z.2.2 (by decide)
      · rw [cf] at z; exact absurd z.2.2 (by decide)
    · rw [if_neg cf, if_pos rfl, hro _ hfr, bso]
      refine tt_i (fun c3 => ?_) (fun c3 => ?_)
      · obtain ⟨⟨e', v'⟩, z1, _⟩ := etake_c (b (i + n)).toInt32 e v
        rw [z1, bso]
        exact tt_r ⟨e', v', rfl, Or.inl ⟨rfl, c1, c3, z1⟩⟩
      · exact tt_r ⟨e, v, rfl, Or.inr ⟨fun z => c3 z.2.2, rfl, Or.inl rfl⟩⟩
  · rintro z ⟨e', v', rfl, s2⟩
    show Tt (if (2 : Int32) = 2 then _ else _) _
    rw [if_pos rfl]
    exact k26 e' v' s2
theorem RX.hunt {L R K : Nat} {ro : Nat → Int32} {b : Nat → Int8} {i n : Nat} {s : SX4} {u : SX1} {w : Nat → Int32} (h : RX L R K ro b i n s u w) (h0 : s.1 = 0) : HI L R ro b i n u w := by
  obtain ⟨md, lk, pl, of, hi, si, rfl, hsi, ⟨_, _, _, hr⟩ | ⟨rfl, _⟩ | ⟨rfl, _⟩⟩ := h
  · exact hr
  · exact absurd h0 (by show ¬ (1 : Int32) = 0; decide)
  · exact absurd h0 (by show ¬ (2 : Int32) = 0; decide)
/-- a bit more is heard: what the receiver is then hangs on the line and on what it was alone -/
theorem tak_is {nb N : Nat} (hnb : nb < 2 ^ 31) (hN : N ≤ nb) (hN2 : N ≤ 4500) {L R K D : Nat} {ro : Nat → Int32} {p : SX5} (h : PV L R K D ro p) {b : Nat → Int8} (hl : LN L R ro b N) (hc : CK L R ro p nb N b) {i n : Nat} (hj : i + n < N) {s : SX4} {u0 : SX1} {w0 : Nat → Int32} (hr0 : RX L R K ro b i n s u0 w0) : ∃ s' : SX4, ∀ (u : SX1) (w : Nat → Int32) (st : SX7) (e : SX0) (v : Nat → Int32), RX L R K ro b i n s u w → ST L D n st → Tt (f_X4_take nb (nI (i + n)) s u w st e v p ro (nI N) b) (fun z => z.1 = s' ∧ RX L R K ro b i (n + 1) z.1 z.2.1 z.2.2.1 ∧ ST L D (n + 1) z.2.2.2.1 ∧ ER s.1 L R ro (i + n) (b (i + n)).toInt32 e v z.2.2.2.2.1 z.2.2.2.2.2 ∧ (s.1 = 2 → z.1.1 = 2)) := by
  have hh := h
  obtain ⟨po, wi, sl, fw, wr, la, dr, ch, ze, on, al, rfl, hp, a1, a2, a3, a4, hk, hw, ⟨d1, d2, d3⟩, _, hz, ho, ha⟩ := hh
  have hM : 0 < 1000 * L := by omega
  have hcl := Nat.mod_lt (n * D) hM
  have hqq : n * D / (1000 * L) ≤ 8000 := by
    have h0 : n * D ≤ 4500 * 1050 := Nat.mul_le_mul (by omega) d2
    have h1 := Nat.div_le_div_right (c := 1000 * L) h0
    have h2 : 4500 * 1050 / (1000 * L) ≤ 4500 * 1050 / 4000 := Nat.div_le_div_left (by omega) (by omega)
    omega
  have h59 : ∀ (s' : SX4) (y0 y1 y2 y3 y4 y5 y6 y7 y8 y9 : Int32) (u' : SX1) (w' : Nat → Int32) (st' : SX7) (e : SX0) (v : Nat → Int32) (e' : SX0) (v' : Nat → Int32), (y0, y1, y2, y3, y4, y5, y6, y7, y8, y9) = s' → RX L R K ro b i (n + 1) (y0, y1, y2, y3, y4, y5, y6, y7, y8, y9) u' w' → SI (n * D % (1000 * L)) (n * D / (1000 * L)) (n + 1) st' → ER s.1 L R ro (i + n) (b (i + n)).toInt32 e v e' v' → (s.1 = 2 → y0 = 2) → Tt (f_X4_take_59 (nI L, nI R, po, wi, sl, fw, wr, la, dr, nI (L * R), ch, nI K, ze, on, al) y0 y1 y2 y3 y4 y5 y6 y7 y8 y9 u' w' st' e' v') (fun z => z.1 = s' ∧ RX L R K ro b i (n + 1) z.1 z.2.1 z.2.2.1 ∧ ST L D (n + 1) z.2.2.2.1 ∧ ER s.1 L R ro (i + n) (b (i + n)).toInt32 e v z.2.2.2.2.1 z.2.2.2.2.2 ∧ (s.1 = 2 → z.1.1 = 2)) := by
    intro s' y0 y1 y2 y3 y4 y5 y6 y7 y8 y9 u' w' st' e v e' v' r0 r1 r2 r3 r4
    unfold f_X4_take_59
    exact tt_b (tic_is h (by omega) (by omega) hqq r2) (fun _ g => tt_r ⟨r0, r1, st_nx a1 d2 g, r3, r4⟩)
  obtain ⟨g1, g2⟩ := hl (i + n) hj
  have hl' : ∀ j, i ≤ j → j < i + (n + 1) → RF L R ro j (b j).toInt32 := fun j _ h2 => (hl j (by omega)).2
  obtain ⟨md, lk, pl, of, hi, si, rfl, hsi, hr⟩ := hr0
  rcases hr with ⟨rfl, rfl, hsn, _⟩ | ⟨rfl, rfl, hK, rfl, rfl⟩ | ⟨rfl, rfl, rfl, rfl, rfl⟩
  · rw [hsn]
    obtain ⟨s', hs⟩ := thu_is h (b := b) (i := i) (n := n) (by omega) (by omega) hl' pl of hi
    refine ⟨s', fun u w st e v hr hst => ?_⟩
    unfold f_X4_take
    show Tt (Option.bind (f_X2_at nb (nI (i + n)) (nI N) b) _) _
    rw [at_is hnb hN hj, bso, nI_1, if_pos rfl]
    refine tt_b (hs u w e (hr.hunt rfl)) ?_
    rintro ⟨⟨b0, b1, b2, b3, b4, b5, b6, b7, b8, b9⟩, u', w', e'⟩ ⟨q0, q1, q2⟩
    exact h59 _ _ _ _ _ _ _ _ _ _ _ _ _ _ _ _ _ _ q0 q1 (SI.m (by omega) hst) (Or.inr ⟨fun z => absurd z.1 (by show ¬ (0 : Int32) = 2; decide), rfl, q2.imp id (fun y => ⟨by show ¬ (0 : Int32) = 2; decide, y⟩)⟩) (fun z => absurd z (by show ¬ (0 : Int32) = 2; decide))
  · obtain ⟨s', hs⟩ := ver_is hnb hN (by omega) h hl hc hj hK hsi hi
    refine ⟨s', fun u w st e v hr hst => ?_⟩
    unfold f_X4_take
    show Tt (Option.bind (f_X2_at nb (nI (i + n)) (nI N) b) _) _
    rw [at_is hnb hN hj, bso, nI_1, if_neg (by decide), if_pos rfl]
    refine tt_b (hs u w e) ?_
    rintro ⟨⟨b0, b1, b2, b3, b4, b5, b6, b7, b8, b9⟩, u', w', e'⟩ ⟨q0, q1, q2⟩
    exact h59 _ _ _ _ _ _ _ _ _ _ _ _ _ _ _ _ _ _ q0 q1 (SI.m (by omega) hst) (Or.inr ⟨fun z => absurd z.1 (by show ¬ (1 : Int32) = 2; decide), rfl, q2.imp id (fun y => ⟨by show ¬ (1 : Int32) = 2; decide, y⟩)⟩) (fun z => absurd z (by show ¬ (1 : Int32) = 2; decide))
  · refine ⟨(2, 1, 0, 1, 0, nI ((i + n + 1) / L % R), nI ((i + n + 1) % L), nI (si + 1), 0, 0), fun u w st e v hr hst => ?_⟩
    unfold f_X4_take
    show Tt (Option.bind (f_X2_at nb (nI (i + n)) (nI N) b) _) _
    rw [at_is hnb hN hj, bso, nI_1, if_neg (by decide), if_neg (by decide)]
    refine tt_b (lck_is hnb hN (by omega) h hl hc hj hsi u w st e v hst) ?_
    rintro ⟨⟨b0, b1, b2, b3, b4, b5, b6, b7, b8, b9⟩, u', w', st', e', v'⟩ ⟨q0, q3, q4⟩
    have q0 : (b0, b1, b2, b3, b4, b5, b6, b7, b8, b9) = _ := q0
    refine h59 _ _ _ _ _ _ _ _ _ _ _ _ _ _ _ _ _ _ q0 ?_ q3 q4 (fun _ => congrArg (fun q : SX4 => q.1) q0)
    rw [q0]
    exact ⟨2, 1, _, _, 0, si + 1, rfl, by omega, Or.inr (Or.inr ⟨rfl, rfl, rfl, rfl, rfl⟩)⟩
