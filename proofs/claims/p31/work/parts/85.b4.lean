/-! the scheme that a text tells -/
theorem drv68 {L R : Nat} (hR : R ≤ 12) {ro : Nat → Int32} (hro : ∀ f, f < R → ro f = 0 ∨ ro f = 1 ∨ ro f = 2 ∨ ro f = 3) (po W sl fw wr la dr ch : Int32) (m : Nat) : ∀ (k f : Nat) (_ : k + m = R) (_ : m ≤ f) (ze on : Int32) (_ : ∀ i, i < 32 → bt ze i = decide (i < k ∧ ro i = 0)) (_ : ∀ i, i < 32 → bt on i = decide (i < k ∧ ro i = 1)), ∃ ze' on' : Int32, f_X5_derive_68 (nI R) (nI L) po W sl fw wr la dr ch ro (f + 1) (nI k) (nI (cnt ro k)) ze on = some (nI L, nI R, po, W, sl, fw, wr, la, dr, nI (L * R), ch, nI (cnt ro R), ze', on', ((1 : Int32) <<< (nI R &&& 31)) - 1) ∧ (∀ i, i < 32 → bt ze' i = decide (i < R ∧ ro i = 0)) ∧ (∀ i, i < 32 → bt on' i = decide (i < R ∧ ro i = 1)) := by
  induction m with
  | zero =>
    intro k f hk _ ze on h1 h2
    have : k = R := by omega
    subst this
    rw [f_X5_derive_68_s, if_pos (nI_le (Nat.le_refl _) (by omega)), pk_mul]
    exact ⟨ze, on, rfl, h1, h2⟩
  | succ m ih =>
    intro k f hk hf ze on h1 h2
    obtain ⟨f, rfl⟩ : ∃ q, f = q + 1 := ⟨f - 1, by omega⟩
    have hkR : k < R := by omega
    have bsh : ∀ (x : Int32) i, i < 32 → bt (x ||| ((1 : Int32) <<< (nI k &&& 31))) i = (bt x i || decide (i = k)) := by
      intro x i hi
      rw [b_or, b_shl k (by omega) 1 hi]
      by_cases q : k ≤ i
      · rw [decide_eq_true q, Bool.true_and, b_1 (i - k) (by omega)]
        congr 1
        by_cases q2 : i = k
        · rw [decide_eq_true (show i - k = 0 by omega), decide_eq_true q2]
        · rw [decide_eq_false (show ¬ i - k = 0 by omega), decide_eq_false q2]
      · rw [decide_eq_false q, Bool.false_and, decide_eq_false (show ¬ i = k by omega)]
    have stay : ∀ (x : Int32) (v : Int32), (∀ i, i < 32 → bt x i = decide (i < k ∧ ro i = v)) → ¬ ro k = v → ∀ i, i < 32 → bt x i = decide (i < k + 1 ∧ ro i = v) := by
      intro x v hx hv i hi
      rw [hx i hi]
      by_cases q : i = k
      · subst q
        rw [decide_eq_false (show ¬ (i < i ∧ ro i = v) from fun z => absurd z.1 (Nat.lt_irrefl _)), decide_eq_false (show ¬ (i < i + 1 ∧ ro i = v) from fun z => hv z.2)]
      · by_cases q2 : i < k ∧ ro i = v
        · rw [decide_eq_true q2, decide_eq_true (show i < k + 1 ∧ ro i = v from ⟨by omega, q2.2⟩)]
        · rw [decide_eq_false q2, decide_eq_false (show ¬ (i < k + 1 ∧ ro i = v) from fun z => q2 ⟨by omega, z.2⟩)]
    have come : ∀ (x : Int32) (v : Int32), (∀ i, i < 32 → bt x i = decide (i < k ∧ ro i = v)) → ro k = v → ∀ i, i < 32 → bt (x ||| ((1 : Int32) <<< (nI k &&& 31))) i = decide (i < k + 1 ∧ ro i = v) := by
      intro x v hx hv i hi
      rw [bsh x i hi, hx i hi]
      by_cases q : i = k
      · subst q
        rw [decide_eq_true (show i = i from rfl), Bool.or_true, decide_eq_true (show i < i + 1 ∧ ro i = v from ⟨by omega, hv⟩)]
      · rw [decide_eq_false q, Bool.or_false]
        by_cases q2 : i < k ∧ ro i = v
        · rw [decide_eq_true q2, decide_eq_true (show i < k + 1 ∧ ro i = v from ⟨by omega, q2.2⟩)]
        · rw [decide_eq_false q2, decide_eq_false (show ¬ (i < k + 1 ∧ ro i = v) from fun z => q2 ⟨by omega, z.2⟩)]
    have v : vp_in (nI k) 12 := nI_in (by omega) (by decide)
    rw [f_X5_derive_68_s, if_neg (nI_ge hkR (by omega)), if_neg (show ¬ (12 : Int32) ≤ nI k from nI_ge (b := 12) (by omega) (by omega)), m_inI v, nI_clamp (by omega)]
    unfold f_X5_derive_151
    rw [nI_1]
    by_cases c2 : ro k = 2
    · have hc : cnt ro (k + 1) = cnt ro k + 1 := by simp only [cnt, if_pos c2]
      rw [if_pos c2, nI_1, ← hc]
      exact ih (k + 1) f (by omega) (by omega) ze on (stay ze 0 h1 (by rw [c2]; decide)) (stay on 1 h2 (by rw [c2]; decide))
    · have hc : cnt ro (k + 1) = cnt ro k := by simp only [cnt, if_neg c2]; rfl
      rw [if_neg c2, m_inI v]
      by_cases c0 : ro k = 0
      · rw [if_pos c0, ← hc]
        exact ih (k + 1) f (by omega) (by omega) _ on (come ze 0 h1 c0) (stay on 1 h2 (by rw [c0]; decide))
      · rw [if_neg c0, m_inI v]
        by_cases c1 : ro k = 1
        · rw [if_pos c1, ← hc]
          exact ih (k + 1) f (by omega) (by omega) ze _ (stay ze 0 h1 c0) (come on 1 h2 c1)
        · rw [if_neg c1, ← hc]
          exact ih (k + 1) f (by omega) (by omega) ze on (stay ze 0 h1 c0) (stay on 1 h2 c1)
theorem drv_is {L R W D : Nat} (hL : 4 ≤ L) (hL2 : L ≤ 24) (hR : 2 ≤ R) (hR2 : R ≤ 12) (hW : 1 ≤ W) (hW2 : W ≤ 8) {ro : Nat → Int32} (hro : ∀ f, f < R → ro f = 0 ∨ ro f = 1 ∨ ro f = 2 ∨ ro f = 3) (po sl fw la : Int32) {wr dr : Int32} (hw : 0 < wr) (hD : 950 ≤ D ∧ D ≤ 1050 ∧ 1000 + dr = nI D) (sf ch cb ze on al : Int32) : ∃ ch' ze' on' al' : Int32, f_X5_derive (nI L, nI R, po, nI W, sl, fw, wr, la, dr, sf, ch, cb, ze, on, al) ro = some (nI L, nI R, po, nI W, sl, fw, wr, la, dr, nI (L * R), ch', nI (cnt ro R), ze', on', al') ∧ PV L R (cnt ro R) D ro (nI L, nI R, po, nI W, sl, fw, wr, la, dr, nI (L * R), ch', nI (cnt ro R), ze', on', al') := by
  have hdv : (nI L - 1) / nI W = nI ((L - 1) / W) := by
    rw [show nI L - 1 = nI (L - 1) from pk_sub (b := 1) (by omega), pk_div (by omega) (by omega) (by omega)]
  obtain ⟨ze', on', e1, e2, e3⟩ := drv68 (L := L) hR2 hro po (nI W) sl fw wr la dr (nI ((L - 1) / W)) R 0 65535 (by omega) (by omega) 0 0 (fun i _ => by rw [show bt 0 i = false from BitVec.getLsbD_zero]; exact (decide_eq_false (by omega)).symm) (fun i _ => by rw [show bt 0 i = false from BitVec.getLsbD_zero]; exact (decide_eq_false (by omega)).symm)
  have hC : (L - 1) / W ≤ 23 := Nat.le_trans (Nat.div_le_self _ _) (by omega)
  refine ⟨nI ((L - 1) / W), ze', on', ((1 : Int32) <<< (nI R &&& 31)) - 1, ?_, po, nI W, sl, fw, wr, la, dr, nI ((L - 1) / W), ze', on', ((1 : Int32) <<< (nI R &&& 31)) - 1, rfl, ?_, hL, hL2, hR, hR2, rfl, hw, hD, hro, e2, e3, ?_⟩
  · unfold f_X5_derive f_X5_derive_36
    dsimp only
    rw [if_neg (nI_nle (n := W) (by omega) (by omega)), m_gI (nI_ne0 (n := W) (by omega) (by omega)), hdv]
    exact e1
  · exact ⟨L, R, W, (L - 1) / W, rfl, hL, hL2, rfl, hR2, rfl, by omega, rfl, rfl, hC⟩
  · intro i hi
    have e4 := mk_m ⟨R, by omega⟩
    have e4 : ((1 : Int32) <<< (nI R &&& 31)) - 1 = nI (2 ^ R - 1) := e4
    rw [e4]
    exact mk_b ⟨R, by omega⟩ ⟨i, hi⟩
theorem PV.cong {L R K D : Nat} {ro ro' : Nat → Int32} {p : SX5} (h : PV L R K D ro p) (e : ∀ f, f < R → ro' f = ro f) : PV L R K D ro' p := by
  obtain ⟨po, wi, sl, fw, wr, la, dr, ch, ze, on, al, rfl, hp, a1, a2, a3, a4, hk, hw, hd, hr, hz, ho, ha⟩ := h
  have hc : ∀ n, n ≤ R → cnt ro' n = cnt ro n := by
    intro n
    induction n with
    | zero => intro _; rfl
    | succ n ih => intro hn; simp only [cnt]; rw [ih (by omega), e n (by omega)]
  refine ⟨po, wi, sl, fw, wr, la, dr, ch, ze, on, al, rfl, hp, a1, a2, a3, a4, by rw [hc R (Nat.le_refl _)]; exact hk, hw, hd, fun f hf => by rw [e f hf]; exact hr f hf, fun i hi => ?_, fun i hi => ?_, ha⟩
  · rw [hz i hi]
    by_cases q : i < R
    · rw [e i q]
    · rw [decide_eq_false (fun z => q z.1), decide_eq_false (fun z => q z.1)]
  · rw [ho i hi]
    by_cases q : i < R
    · rw [e i q]
    · rw [decide_eq_false (fun z => q z.1), decide_eq_false (fun z => q z.1)]
theorem bgp_is (s : SX5) (r : Nat → Int32) : ∃ sf ch cb ze on al : Int32, ∃ r' : Nat → Int32, f_X5_begin s r = some ((8, 6, 0, 7, 0, 4, 2, 4, 0, sf, ch, cb, ze, on, al), r') := by
  obtain ⟨a0, a1, a2, a3, a4, a5, a6, a7, a8, a9, aA, aB, aC, aD, aE⟩ := s
  have hro : ∀ f, f < 6 → upd (upd (upd (upd (upd (upd r 0 0) 1 0) 2 1) 3 0) 4 1) 5 1 f = 0 ∨ upd (upd (upd (upd (upd (upd r 0 0) 1 0) 2 1) 3 0) 4 1) 5 1 f = 1 ∨ upd (upd (upd (upd (upd (upd r 0 0) 1 0) 2 1) 3 0) 4 1) 5 1 f = 2 ∨ upd (upd (upd (upd (upd (upd r 0 0) 1 0) 2 1) 3 0) 4 1) 5 1 f = 3 := by
    intro f hf
    rcases (show f = 0 ∨ f = 1 ∨ f = 2 ∨ f = 3 ∨ f = 4 ∨ f = 5 by omega) with z | z | z | z | z | z <;> subst z
    · exact Or.inl rfl
    · exact Or.inl rfl
    · exact Or.inr (Or.inl rfl)
    · exact Or.inl rfl
    · exact Or.inr (Or.inl rfl)
    · exact Or.inr (Or.inl rfl)
  obtain ⟨ch', ze', on', al', e, _⟩ := drv_is (L := 8) (R := 6) (W := 7) (D := 1000) (by omega) (by omega) (by omega) (by omega) (by omega) (by omega) hro 0 0 4 4 (wr := 2) (dr := 0) (by decide) ⟨by omega, by omega, by decide⟩ a9 aA aB aC aD aE
  refine ⟨nI 48, ch', nI (cnt (upd (upd (upd (upd (upd (upd r 0 0) 1 0) 2 1) 3 0) 4 1) 5 1) 6), ze', on', al', upd (upd (upd (upd (upd (upd r 0 0) 1 0) 2 1) 3 0) 4 1) 5 1, ?_⟩
  unfold f_X5_begin
  dsimp only
  rw [show f_X5_derive (8, 6, 0, 7, 0, 4, 2, 4, 0, a9, aA, aB, aC, aD, aE) (upd (upd (upd (upd (upd (upd r 0 0) 1 0) 2 1) 3 0) 4 1) 5 1) = _ from e, bso]
  rfl
/-- the text that is told: a statement a row -/
def TXT (Z : Nat) (c : Nat → Nat) (L : Nat) (rr : Nat → Nat) (R po wi st le dg dv w1 w2 : Nat) : Prop := ∃ t0 t2 t3 t4 t5 t6 ta t7 : Nat,
  WA Z c 2 0 ∧ NA Z c L (0 + sx_z 2) t0 ∧ c t0 = 59 ∧
  WA Z c 0 (t0 + 1) ∧ RR Z c rr R (t0 + 1 + sx_z 0) ∧
  WA Z c 3 (t0 + 1 + sx_z 0 + 2 * R + 1) ∧ NA Z c po (t0 + 1 + sx_z 0 + 2 * R + 1 + sx_z 3) t2 ∧ c t2 = 59 ∧
  WA Z c 4 (t2 + 1) ∧ NA Z c wi (t2 + 1 + sx_z 4) t3 ∧ c t3 = 59 ∧
  WA Z c 5 (t3 + 1) ∧ NA Z c st (t3 + 1 + sx_z 5) t4 ∧ c t4 = 59 ∧
  WA Z c 6 (t4 + 1) ∧ NA Z c le (t4 + 1 + sx_z 6) t5 ∧ c t5 = 59 ∧
  (dg = 7 ∨ dg = 8) ∧ WA Z c dg (t5 + 1) ∧ NA Z c dv (t5 + 1 + sx_z dg) t6 ∧ c t6 = 59 ∧
  WA Z c 1 (t6 + 1) ∧ NA Z c w1 (t6 + 1 + sx_z 1) ta ∧ NA Z c w2 ta t7 ∧ c t7 = 59 ∧ Z = t7 + 1
theorem nt_w {Z : Nat} {c : Nat → Nat} {w s : Nat} (hw : w < 9) (h : WA Z c w s) {v t : Nat} (hn : NA Z c v (s + sx_z w) t) : NT Z c s 1 (s + sx_z w) := by
  obtain ⟨h1, h2, h3, h4, h5⟩ := hn
  exact Or.inl ⟨rfl, w, hw, h, rfl, by omega, h2⟩
theorem whl_is {Z : Nat} {tb : Nat → Int8} {c : Nat → Nat} (h : TB Z tb c) {L : Nat} {rr : Nat → Nat} {R po wi st le dg dv w1 w2 : Nat} (hT : TXT Z c L rr R po wi st le dg dv w1 w2) (hL : 4 ≤ L ∧ L ≤ 24) (hR : 2 ≤ R ∧ R ≤ 12) (hf : 2 ≤ cfx rr R) (hck : cck rr R ≤ 6) (hpo : po ≤ 63) (hwi : 1 ≤ wi ∧ wi ≤ 8) (hst : st ≤ 12) (hle : 2 ≤ le ∧ le ≤ 24) (hdv : dv ≤ 50) (hw1 : 1 ≤ w1 ∧ w1 ≤ 4) (hw2 : w1 ≤ w2 ∧ w2 ≤ 8) (a b k1 k2 : Int32) (rd0 : SX3) (told : SX5) (ro : Nat → Int32) (x0 : SX8) (xb : Nat → Int8) {tb' : Nat → Int8} (hcp : f_X8_copyFrom x0 xb (nI Z, k1, k2) tb = some ((nI Z, a, b), tb')) (hb' : TB Z tb' c) : ∃ (p : SX5) (ro' : Nat → Int32) (D : Nat), f_X3_readWhole rd0 told ro x0 xb (nI Z, k1, k2) tb = some ((0, -1, 0, nI Z, nI Z), p, ro', (nI Z, a, b), tb') ∧ PV L R (cnt ro' R) D ro' p := by
  obtain ⟨t0, t2, t3, t4, t5, t6, ta, t7, g1, g2, g3, g4, g5, g6, g7, g8, g9, g10, g11, g12, g13, g14, g15, g16, g17, g18, g19, g20, g21, g22, g23, g24, g25, g26⟩ := hT
  obtain ⟨r0, r1, r2, r3, r4⟩ := rd0
  have hZ := h.1
  obtain ⟨sf, ch, cb, ze, on, al, rb, e0⟩ := bgp_is told ro
  have hrr : NT Z c (t0 + 1) 1 (t0 + 1 + sx_z 0) := by
    refine Or.inl ⟨rfl, 0, by decide, g4, rfl, by have := g5.1; omega, ?_⟩
    have := (g5.2.2 0 (by omega)).1
    rw [Nat.mul_zero, Nat.add_zero] at this
    exact this
  have s1 := stt_2 hb' a b g1 g2 g3 hL.1 hL.2 hrr 8 6 0 7 0 4 2 4 0 sf ch cb ze on al rb
  obtain ⟨ro1, s2, s2r⟩ := stt_0 hb' a b g4 g5 hR.1 hR.2 hf hck (nt_w (by decide) g6 g7) (nI L) 6 0 7 0 4 2 4 0 sf ch cb ze on al rb
  have s3 := stt_3 hb' a b g6 g7 g8 (Nat.zero_le _) hpo (nt_w (by decide) g9 g10) (nI L) (nI R) 0 7 0 4 2 4 0 sf ch cb ze on al ro1
  have s4 := stt_4 hb' a b g9 g10 g11 hwi.1 hwi.2 (nt_w (by decide) g12 g13) (nI L) (nI R) (nI po) 7 0 4 2 4 0 sf ch cb ze on al ro1
  have s5 := stt_5 hb' a b g12 g13 g14 (Nat.zero_le _) hst (nt_w (by decide) g15 g16) (nI L) (nI R) (nI po) (nI wi) 0 4 2 4 0 sf ch cb ze on al ro1
  have hdg9 : dg < 9 := by omega
  have s6 := stt_6 hb' a b g15 g16 g17 hle.1 hle.2 (nt_w hdg9 g19 g20) (nI L) (nI R) (nI po) (nI wi) (nI st) 4 2 4 0 sf ch cb ze on al ro1
  have hro1 : ∀ f, f < R → ro1 f = 0 ∨ ro1 f = 1 ∨ ro1 f = 2 ∨ ro1 f = 3 := by
    intro f hf'
    rw [s2r f hf']
    have := rvl_le (n := rr f)
    rcases (show rvl (rr f) = 0 ∨ rvl (rr f) = 1 ∨ rvl (rr f) = 2 ∨ rvl (rr f) = 3 by omega) with z | z | z | z <;> rw [z]
    · exact Or.inl rfl
    · exact Or.inr (Or.inl rfl)
    · exact Or.inr (Or.inr (Or.inl rfl))
    · exact Or.inr (Or.inr (Or.inr rfl))
  have hend : NT Z c (t7 + 1) 0 Z := Or.inr ⟨g26.symm, rfl, rfl⟩
  have hwr : (0 : Int32) < nI w1 := nI_lt (a := 0) (by omega) (by omega)
  -- the two ways to tell the drift
  obtain ⟨dr, D, s7, hD⟩ : ∃ (dr : Int32) (D : Nat), f_X3_readStatement (0, -1, 1, nI (t5 + 1), nI (t5 + 1 + sx_z dg)) (nI L, nI R, nI po, nI wi, nI st, nI le, 2, 4, 0, sf, ch, cb, ze, on, al) ro1 (nI Z, a, b) tb' = some ((0, -1, 1, nI (t6 + 1), nI (t6 + 1 + sx_z 1)), (nI L, nI R, nI po, nI wi, nI st, nI le, 2, 4, dr, sf, ch, cb, ze, on, al), ro1) ∧ (950 ≤ D ∧ D ≤ 1050 ∧ 1000 + dr = nI D) := by
    rcases g18 with z | z
    · subst z
      exact ⟨nI dv, 1000 + dv, stt_7 hb' a b g19 g20 g21 (Nat.zero_le _) hdv (nt_w (by decide) g22 g23) (nI L) (nI R) (nI po) (nI wi) (nI st) (nI le) 2 4 0 sf ch cb ze on al ro1, by omega, by omega, nI_add 1000 dv⟩
    · subst z
      refine ⟨-(nI dv), 1000 - dv, stt_8 hb' a b g19 g20 g21 (Nat.zero_le _) hdv (nt_w (by decide) g22 g23) (nI L) (nI R) (nI po) (nI wi) (nI st) (nI le) 2 4 0 sf ch cb ze on al ro1, by omega, by omega, ?_⟩
      rw [← Int32.sub_eq_add_neg]
      exact pk_sub (a := 1000) (by omega)
  have s8 := stt_1 hb' a b g22 g23 g24 g25 hw1.1 hw1.2 hw2.1 hw2.2 hend (nI L) (nI R) (nI po) (nI wi) (nI st) (nI le) 2 4 dr sf ch cb ze on al ro1
  obtain ⟨ch', ze', on', al', e9, hPV⟩ := drv_is hL.1 hL.2 hR.1 hR.2 hwi.1 hwi.2 hro1 (nI po) (nI st) (nI le) (nI w2) hwr hD sf ch cb ze on al
  refine ⟨_, ro1, D, ?_, hPV⟩
  have e68 : f_X3_readWhole_68 0 (nI L, nI R, nI po, nI wi, nI st, nI le, nI w1, nI w2, dr, sf, ch, cb, ze, on, al) ro1 (-1) 0 (nI (t7 + 1)) (nI Z) (nI Z, a, b) tb' = some ((0, -1, 0, nI Z, nI Z), (nI L, nI R, nI po, nI wi, nI st, nI le, nI w1, nI w2, dr, nI (L * R), ch', nI (cnt ro1 R), ze', on', al'), ro1, (nI Z, a, b), tb') := by
    unfold f_X3_readWhole_68
    rw [if_pos rfl, e9, bso, ← g26]
  have it : ∀ (n f : Nat) (s e s' e' : Nat) (kd : Int32) (p p' : SX5) (r r' : Nat → Int32), n < 300 → f_X3_readStatement (0, -1, 1, nI s, nI e) p r (nI Z, a, b) tb' = some ((0, -1, kd, nI s', nI e'), p', r') → f_X3_readWhole_36 (nI Z, a, b) tb' (f + 1) (nI n) 0 (-1) 1 (nI s) (nI e) p r = f_X3_readWhole_36 (nI Z, a, b) tb' f (nI (n + 1)) 0 (-1) kd (nI s') (nI e') p' r' := by
    intro n f s e s' e' kd p p' r r' hn hs
    rw [f_X3_readWhole_36_s, if_neg (show ¬ 300 < nI n from nI_nlt (a := 300) (b := n) (by omega) (by omega)), if_neg (by decide), if_neg (by decide), hs, bso, nI_1]
  unfold f_X3_readWhole
  dsimp only
  rw [hcp, bso]
  dsimp only
  rw [e0, bso]
  dsimp only
  have e1 : f_X3_step (0, -1, r2, r3, 0) (nI Z, a, b) tb' = some (0, -1, 1, nI 0, nI (0 + sx_z 2)) := step_nt hb' a b 0 (-1) r2 r3 (nt_w (by decide) g1 g2)
  rw [e1, bso]
  show f_X3_readWhole_36 (nI Z, a, b) tb' (65527 + 1 + 1 + 1 + 1 + 1 + 1 + 1 + 1 + 1) (nI 0) 0 (-1) 1 (nI 0) (nI (0 + sx_z 2)) (8, 6, 0, 7, 0, 4, 2, 4, 0, sf, ch, cb, ze, on, al) rb = _
  rw [it 0 _ _ _ _ _ _ _ _ _ _ (by decide) s1, it 1 _ _ _ _ _ _ _ _ _ _ (by decide) s2, it 2 _ _ _ _ _ _ _ _ _ _ (by decide) s3, it 3 _ _ _ _ _ _ _ _ _ _ (by decide) s4, it 4 _ _ _ _ _ _ _ _ _ _ (by decide) s5, it 5 _ _ _ _ _ _ _ _ _ _ (by decide) s6, it 6 _ _ _ _ _ _ _ _ _ _ (by decide) s7, it 7 _ _ _ _ _ _ _ _ _ _ (by decide) s8]
  rw [f_X3_readWhole_36_s, if_neg (by decide), if_pos rfl]
  exact e68
