/-! begins: a scheme is drawn, told and taken -/
abbrev BG : Type := Int32 × Int32 × SX5 × (Nat → Int32) × SX8 × (Nat → Int8) × Int32 × Int32 × SX6 × SX4 × SX1 × (Nat → Int32) × SX7 × SX0 × SX3 × SX5 × (Nat → Int32) × SX8 × (Nat → Int8) × Int32
theorem xcp31 (s : SX8) (r : Nat → Int8) {z : Nat} (hz : z ≤ 300) (t u : Int32) (r' : Nat → Int8) : ∃ r2, f_X8_copyFrom s r (nI z, t, u) r' = some ((nI z, t, u), r2) ∧ ∀ j, j < z → r2 j = r' j := by
  unfold f_X8_copyFrom
  simp only []
  rw [show (if (300 : Int32) < nI z then 300 else nI z) = nI z from if_neg (show ¬ nI 300 < nI z from nI_nlt hz (by omega))]
  rw [show (if 0 < nI z then nI z else 0) = nI z from by
    by_cases c : 0 < nI z
    · rw [if_pos c]
    · rw [if_neg c]
      rcases Nat.eq_zero_or_pos z with e | e
      · rw [e]; rfl
      · exact absurd (nI_lt (a := 0) e (by omega)) c]
  have hg : cpyG 0 0 (nI z) 300 300 := ⟨by decide, by decide, nI_pos (by omega), by rw [nI_clamp (by omega)]; show 0 + z ≤ 300; omega, by rw [nI_clamp (by omega)]; show 0 + z ≤ 300; omega⟩
  unfold m_n
  show ∃ r2, m_g (cpyG 0 0 (nI z) 300 300) _ = _ ∧ _
  rw [m_gI hg]
  refine ⟨_, rfl, fun j hj => ?_⟩
  have e : (nI z).toNatClampNeg = z := nI_clamp (by omega)
  show va_cpy r' r 0 0 (nI z).toNatClampNeg j = r' j
  rw [e]
  unfold va_cpy
  rw [if_pos ⟨Nat.zero_le j, by omega⟩]
  show r' (0 + (j - 0)) = r' j
  rw [Nat.zero_add, Nat.sub_zero]
theorem pcp31 (s : SX5) (r : Nat → Int32) (s' : SX5) (r' : Nat → Int32) : ∃ r2, f_X5_copyFrom s r s' r' = some (s', r2) ∧ ∀ j, j < 12 → r2 j = r' j := by
  refine ⟨_, rfl, fun j hj => ?_⟩
  show va_cpy r' r 0 0 12 j = r' j
  unfold va_cpy
  rw [if_pos ⟨Nat.zero_le j, by omega⟩]
  show r' (0 + (j - 0)) = r' j
  rw [Nat.zero_add, Nat.sub_zero]
theorem rst31 (t z g1 g2 g3 : Int32) (s : SX4) (u : SX1) (w : Nat → Int32) (a0 a1 a2 a3 a4 a5 a6 a7 a8 a9 aA aB aC aD aE aF aG : Int32) (e : SX0) (p : SX5) {u' : SX1} {w' : Nat → Int32} (h : f_X1_begin u w p = some (u', w')) : f_X9_restart t z (g1, g2, g3) s u w (a0, a1, a2, a3, a4, a5, a6, a7, a8, a9, aA, aB, aC, aD, aE, aF, aG) e p = some (0, 0, (g1, g2, 0), (0, 1, 0, 0, 0, 0, 0, 0, 0, 0), u', w', (0, 0, 0, 0, 0, 0, a6, a7, a8, a9, aA, aB, aC, 0, aE, aF, aG), (0, 0, 0, 0)) := by
  obtain ⟨s0, s1, s2, s3, s4, s5, s6, s7, s8, s9⟩ := s
  obtain ⟨e0, e1, e2, e3⟩ := e
  unfold f_X9_restart f_X4_begin
  dsimp only
  rw [h]
  rfl
theorem sch31 {Z : Nat} {tb : Nat → Int8} {c : Nat → Nat} (h : TB Z tb c) {L : Nat} {rr : Nat → Nat} {R po wi st0 le dg dv w1 w2 : Nat} (hT : TXT Z c L rr R po wi st0 le dg dv w1 w2) (hL : 4 ≤ L ∧ L ≤ 24) (hR : 2 ≤ R ∧ R ≤ 12) (hf : 2 ≤ cfx rr R) (hck : cck rr R ≤ 6) (hpo : po ≤ 63) (hwi : 1 ≤ wi ∧ wi ≤ 8) (hst : st0 ≤ 12) (hle : 2 ≤ le ∧ le ≤ 24) (hdv : dv ≤ 50) (hw1 : 1 ≤ w1 ∧ w1 ≤ 4) (hw2 : w1 ≤ w2 ∧ w2 ≤ 8) (b : Nat → Int8) (said gv v : Nat → Int32) (fl fp a : Int32) (p : SX5) (r : Nat → Int32) (t z g3 : Int32) (s : SX4) (u : SX1) (w : Nat → Int32) (st : SX7) (hSS : SS st) (e : SX0) (rd : SX3) (told : SX5) (ro : Nat → Int32) (rx : SX8) (rb : Nat → Int8) : ∃ (K D : Nat) (p' : SX5) (r' : Nat → Int32) (fp' : Int32) (g' : SX6) (s' : SX4) (u' : SX1) (w' : Nat → Int32) (st' : SX7) (e' : SX0) (rd' : SX3) (told' : SX5) (ro' : Nat → Int32) (rx' : SX8) (rb' : Nat → Int8), f_X11_scheme a p r (nI Z, fl, fp) tb t z (0, 0, g3) s u w st e rd told ro rx rb = some (nI (L * R), 0, p', r', (0, 0, fp'), 0, 0, g', s', u', w', st', e', rd', told', ro', rx', rb') ∧ PV L R K D r' p' ∧ NW L R K D r' p' said 0 0 0 b g' gv s' u' w' st' e' v ∧ f_X4_tell 1 s' u' st' e' p' = some (nI (L * R)) ∧ SS st' := by
  obtain ⟨rb', hcp, hcb⟩ := xcp31 rx rb h.1 fl fp tb
  have h' : TB Z rb' c := ⟨h.1, fun j hj => by rw [hcb j hj]; exact h.2 j hj⟩
  obtain ⟨p1, ro1, D, ew, hPV⟩ := whl_is h hT hL hR hf hck hpo hwi hst hle hdv hw1 hw2 fl fp fl fp rd told ro rx rb hcp h'
  obtain ⟨y0, y1, y2, y3, y4, y5, y6, y7, y8, y9, yA, yB, yC, yD, yE⟩ := p1
  obtain ⟨x0, x1, x2, x3, x4, x5, x6, x7, x8, x9, xA, xB, xC, xD, xE⟩ := p
  obtain ⟨d0, d1, d2, d3, d4⟩ := rd
  obtain ⟨s0, s1, s2, s3, s4, s5, s6, s7, s8, s9, sA, sB, sC, sD, sE, sF, sG⟩ := st
  obtain ⟨r2, ec, er⟩ := pcp31 (x0, x1, x2, x3, x4, x5, x6, x7, x8, x9, xA, xB, xC, xD, xE) r (y0, y1, y2, y3, y4, y5, y6, y7, y8, y9, yA, yB, yC, yD, yE) ro1
  have hP2 := hPV.cong (ro' := r2) (fun f hf' => er f (by omega))
  obtain ⟨⟨u', w'⟩, eb, hHI⟩ := beg_is hP2 b 0 u w
  have er9 := rst31 t z 0 0 g3 s u w s0 s1 s2 s3 s4 s5 s6 s7 s8 s9 sA sB sC sD sE sF sG e (y0, y1, y2, y3, y4, y5, y6, y7, y8, y9, yA, yB, yC, yD, yE) eb
  have hRX : RX L R (cnt ro1 R) r2 b 0 0 (0, 1, 0, 0, 0, 0, 0, 0, 0, 0) u' w' := ⟨0, 0, 0, 0, 0, 0, rfl, Nat.le_refl _, Or.inl ⟨rfl, rfl, rfl, hHI⟩⟩
  have e9 : y9 = nI (L * R) := by
    obtain ⟨q0, q1, q2, q3, q4, q5, q6, q7, q8, q9, qA, ee, _⟩ := hPV
    exact congrArg (fun q : SX5 => q.2.2.2.2.2.2.2.2.2.1) ee
  refine ⟨cnt ro1 R, D, (y0, y1, y2, y3, y4, y5, y6, y7, y8, y9, yA, yB, yC, yD, yE), r2, -1, (0, 0, 0), (0, 1, 0, 0, 0, 0, 0, 0, 0, 0), u', w', (0, 0, 0, 0, 0, 0, s6, s7, s8, s9, sA, sB, sC, 0, sE, sF, sG), (0, 0, 0, 0), (0, -1, 0, nI Z, nI Z), (y0, y1, y2, y3, y4, y5, y6, y7, y8, y9, yA, yB, yC, yD, yE), ro1, (nI Z, fl, fp), rb', ?_, hP2, ?_, ?_, hSS⟩
  · unfold f_X11_scheme
    dsimp only
    rw [ew, bso]
    dsimp only
    rw [if_pos (show (0 : Int32) = 0 from rfl), ec, bso]
    dsimp only
    rw [er9, bso, ← e9]
  · refine start_nw hP2 said b gv v hRX ?_
    unfold ST
    rw [Nat.zero_mul, Nat.zero_mod, Nat.zero_div]
    exact ⟨0, 0, 0, 0, 0, 0, s6, s7, s8, s9, sA, sB, sC, 0, sE, sF, sG, rfl, by omega, by omega, by omega, by omega, fun z => absurd z (Nat.lt_irrefl _)⟩
  · obtain ⟨_, _, _, _, _, _, _, _, tz, _⟩ := rx_tell hP2 (by omega) hRX (0, 0, 0, 0, 0, 0, s6, s7, s8, s9, sA, sB, sC, 0, sE, sF, sG) (0, 0, 0, 0)
    obtain ⟨_, _, t1, _⟩ := tz rfl
    rw [t1, LF_0 hR.2]
theorem sgn_is (a : Int32) (tx : SX8) (tb : Nat → Int8) (q : Nat → Int64) {c k kd what : Nat} (hc : c ≤ 6) (hkd : kd < 3) (hw : what < 5) (x : Int32) (K : Int32 → Int32 → SX8 → (Nat → Int8) → Int32 → (Nat → Int64) → Option BG) : ∃ (sg d : Nat) (sI dI : Int32), sI = nI sg ∧ dI = nI d ∧ rok sg ∧ d = (if sg = 99 then 1 else 0) ∧ c + d ≤ 6 ∧ (what < 2 → sg < 58) ∧ f_L_begins_110 a tx tb q (nI c) (nI k) (nI kd) K (nI what) x = f_L_begins_214 a tx tb q (nI c) dI (nI k) x K sI := by
  unfold f_L_begins_110 f_L_begins_135
  rcases (show what = 0 ∨ what = 1 ∨ what = 2 ∨ what = 3 ∨ what = 4 by omega) with z | z | z | z | z <;> subst z
  · refine ⟨48, 0, 48 + nI 0, 0, by decide, rfl, Or.inl rfl, rfl, by omega, fun _ => by omega, ?_⟩
    unfold f_L_begins_136 f_L_begins_155 f_L_begins_156 f_L_begins_172
    rw [if_pos (show nI 0 ≤ 1 by decide), if_pos (show (0 : Int32) = 0 from rfl), if_pos (show nI 0 = 0 from rfl)]
  · refine ⟨49, 0, 48 + nI 1, 0, by decide, rfl, Or.inr (Or.inl rfl), rfl, by omega, fun _ => by omega, ?_⟩
    unfold f_L_begins_136 f_L_begins_155 f_L_begins_156 f_L_begins_172
    rw [if_pos (show nI 1 ≤ 1 by decide), if_pos (show (0 : Int32) = 0 from rfl), if_neg (show ¬ nI 1 = 0 by decide), if_pos (show nI 1 = 1 from rfl)]
  · -- 2
    have no : f_L_begins_136 (nI 2) a tx tb q (nI c) (nI k) x (nI kd) K 0 = f_L_begins_214 a tx tb q (nI c) 0 (nI k) x K 49 := by
      unfold f_L_begins_136 f_L_begins_155 f_L_begins_156 f_L_begins_196 f_L_begins_212
      rw [if_pos (show (0 : Int32) = 0 from rfl), if_neg (show ¬ nI 2 = 0 by decide), if_neg (show ¬ nI 2 = 1 by decide), if_pos (show nI 2 = 2 from rfl), if_pos (show (0 : Int32) = 0 from rfl), if_neg (show ¬ nI 2 = 3 by decide)]
    have yes : f_L_begins_136 (nI 2) a tx tb q (nI c) (nI k) x (nI kd) K 1 = f_L_begins_214 a tx tb q (nI c) 1 (nI k) x K 99 := by
      unfold f_L_begins_136 f_L_begins_156
      rw [if_neg (show ¬ (1 : Int32) = 0 by decide), if_pos (show nI 2 = 2 from rfl), if_neg (show ¬ nI 2 = 0 by decide), if_neg (show ¬ nI 2 = 1 by decide), if_pos (show nI 2 = 2 from rfl), if_neg (show ¬ (1 : Int32) = 0 by decide)]
    rw [no, yes, if_neg (show ¬ nI 2 ≤ 1 by decide)]
    by_cases c1 : nI kd = 1
    · rw [if_pos c1]
      exact ⟨49, 0, 49, 0, rfl, rfl, Or.inr (Or.inl rfl), rfl, by omega, fun _ => by omega, rfl⟩
    · rw [if_neg c1]
      by_cases c6 : (6 : Int32) ≤ nI c
      · rw [if_pos c6]
        exact ⟨49, 0, 49, 0, rfl, rfl, Or.inr (Or.inl rfl), rfl, by omega, fun _ => by omega, rfl⟩
      · rw [if_neg c6]
        have : c < 6 := by
          rcases Nat.lt_or_ge c 6 with z | z
          · exact z
          · exact absurd (nI_le (a := 6) z (by omega)) c6
        exact ⟨99, 1, 99, 1, rfl, rfl, Or.inr (Or.inr (Or.inl rfl)), rfl, by omega, fun z => by omega, rfl⟩
  · -- 3
    have go : ∀ y : Int32, f_L_begins_156 (nI 3) a tx tb q (nI c) (nI k) x y (nI kd) K 0 = (if nI kd ≤ 0 then f_L_begins_214 a tx tb q (nI c) 0 (nI k) x K 49 else f_L_begins_214 a tx tb q (nI c) 0 (nI k) x K 100) := by
      intro y
      unfold f_L_begins_156 f_L_begins_196 f_L_begins_212
      rw [if_neg (show ¬ nI 3 = 0 by decide), if_neg (show ¬ nI 3 = 1 by decide), if_neg (show ¬ nI 3 = 2 by decide), if_pos (show nI 3 = 3 from rfl)]
    have no : f_L_begins_136 (nI 3) a tx tb q (nI c) (nI k) x (nI kd) K 0 = (if nI kd ≤ 0 then f_L_begins_214 a tx tb q (nI c) 0 (nI k) x K 49 else f_L_begins_214 a tx tb q (nI c) 0 (nI k) x K 100) := by
      unfold f_L_begins_136 f_L_begins_155
      rw [if_pos (show (0 : Int32) = 0 from rfl)]
      exact go 0
    have yes : f_L_begins_136 (nI 3) a tx tb q (nI c) (nI k) x (nI kd) K 1 = (if nI kd ≤ 0 then f_L_begins_214 a tx tb q (nI c) 0 (nI k) x K 49 else f_L_begins_214 a tx tb q (nI c) 0 (nI k) x K 100) := by
      unfold f_L_begins_136 f_L_begins_155
      rw [if_neg (show ¬ (1 : Int32) = 0 by decide), if_neg (show ¬ nI 3 = 2 by decide)]
      exact go 1
    rw [no, yes, if_neg (show ¬ nI 3 ≤ 1 by decide), ite_self, ite_self]
    by_cases c0 : nI kd ≤ 0
    · rw [if_pos c0]
      exact ⟨49, 0, 49, 0, rfl, rfl, Or.inr (Or.inl rfl), rfl, by omega, fun z => by omega, rfl⟩
    · rw [if_neg c0]
      exact ⟨100, 0, 100, 0, rfl, rfl, Or.inr (Or.inr (Or.inr rfl)), rfl, by omega, fun z => by omega, rfl⟩
  · -- 4
    have go : ∀ y : Int32, f_L_begins_156 (nI 4) a tx tb q (nI c) (nI k) x y (nI kd) K 0 = f_L_begins_214 a tx tb q (nI c) 0 (nI k) x K 49 := by
      intro y
      unfold f_L_begins_156 f_L_begins_196 f_L_begins_212
      rw [if_neg (show ¬ nI 4 = 0 by decide), if_neg (show ¬ nI 4 = 1 by decide), if_neg (show ¬ nI 4 = 2 by decide), if_neg (show ¬ nI 4 = 3 by decide)]
    have no : f_L_begins_136 (nI 4) a tx tb q (nI c) (nI k) x (nI kd) K 0 = f_L_begins_214 a tx tb q (nI c) 0 (nI k) x K 49 := by
      unfold f_L_begins_136 f_L_begins_155
      rw [if_pos (show (0 : Int32) = 0 from rfl)]
      exact go 0
    have yes : f_L_begins_136 (nI 4) a tx tb q (nI c) (nI k) x (nI kd) K 1 = f_L_begins_214 a tx tb q (nI c) 0 (nI k) x K 49 := by
      unfold f_L_begins_136 f_L_begins_155
      rw [if_neg (show ¬ (1 : Int32) = 0 by decide), if_neg (show ¬ nI 4 = 2 by decide)]
      exact go 1
    rw [no, yes, if_neg (show ¬ nI 4 ≤ 1 by decide), ite_self, ite_self]
    exact ⟨49, 0, 49, 0, rfl, rfl, Or.inr (Or.inl rfl), rfl, by omega, fun z => by omega, rfl⟩
theorem rvl_s {sg : Nat} (h : rok sg) : (rvl sg = 2 ↔ sg = 99) ∧ (sg < 58 → rvl sg < 2) := by
  rcases h with h | h | h | h <;> subst h <;> decide
theorem rls_is {R kd : Nat} (hR : R ≤ 12) (hkd : kd < 3) {T0 : List Nat} (hT0 : T0.length ≤ 100) {u30 : Int32} (h30 : 4 + u30 = nI R) (a : Int32) (p : SX5) (r : Nat → Int32) (t z : Int32) (g : SX6) (s : SX4) (u : SX1) (w : Nat → Int32) (st : SX7) (e : SX0) (rd : SX3) (told : SX5) (ro : Nat → Int32) (rx : SX8) (rb : Nat → Int8) (u21 : Int32) (m : Nat) : ∀ (k f : Nat) (_ : k + m = R) (_ : m ≤ f) (rr : Nat → Nat) (_ : ∀ j, j < k → rok (rr j)) (_ : cck rr k ≤ 6) (_ : k ≤ cfx rr k ∨ 2 ≤ cfx rr k) (tx : SX8) (tb : Nat → Int8) (x : Int32) (q : Nat → Int64) (_ : PT (T0 ++ rlT rr k) tx tb q), ∃ (rr' : Nat → Nat) (f' : Nat) (tx' : SX8) (tb' : Nat → Int8) (x' : Int32) (q' : Nat → Int64), (∀ j, j < R → rok (rr' j)) ∧ cck rr' R ≤ 6 ∧ (R ≤ cfx rr' R ∨ 2 ≤ cfx rr' R) ∧ PT (T0 ++ rlT rr' R) tx' tb' q' ∧ f_L_begins_71 u30 a p r t z g s u w st e rd told ro rx rb u21 (nI kd) (f + 1) (nI (cck rr k)) (nI k) tx tb x q = f_L_begins_71 u30 a p r t z g s u w st e rd told ro rx rb u21 (nI kd) (f' + 1) (nI (cck rr' R)) (nI R) tx' tb' x' q' := by
  induction m with
  | zero =>
    intro k f hk _ rr h1 h2 h3 tx tb x q h
    have : k = R := by omega
    subst this
    exact ⟨rr, f, tx, tb, x, q, h1, h2, h3, h, rfl⟩
  | succ m ih =>
    intro k f hk hf rr h1 h2 h3 tx tb x q h
    obtain ⟨f, rfl⟩ : ∃ q, f = q + 1 := ⟨f - 1, by omega⟩
    have hkR : k < R := by omega
    have hl0 : (T0 ++ rlT rr k).length = T0.length + 2 * k := by rw [List.length_append, rlT_l]
    obtain ⟨x1, b1, q1, e1, p1⟩ := put_is h (b := 32) (by decide) (by decide) (by omega) a
    have e1 : f_L_put 32 a tx tb q = some (x1, b1, q1) := e1
    have hl1 : (T0 ++ rlT rr k ++ [32]).length = T0.length + 2 * k + 1 := by rw [List.length_append, hl0]; rfl
    -- what a sign leads to
    have go : ∀ (what : Nat) (y : Int32), what < 5 → (k < 3 → what < 2) → ∃ (rr' : Nat → Nat) (f' : Nat) (tx' : SX8) (tb' : Nat → Int8) (x' : Int32) (q' : Nat → Int64), (∀ j, j < R → rok (rr' j)) ∧ cck rr' R ≤ 6 ∧ (R ≤ cfx rr' R ∨ 2 ≤ cfx rr' R) ∧ PT (T0 ++ rlT rr' R) tx' tb' q' ∧ f_L_begins_110 a x1 b1 q1 (nI (cck rr k)) (nI k) (nI kd) (f_L_begins_71 u30 a p r t z g s u w st e rd told ro rx rb u21 (nI kd) (f + 1)) (nI what) y = f_L_begins_71 u30 a p r t z g s u w st e rd told ro rx rb u21 (nI kd) (f' + 1) (nI (cck rr' R)) (nI R) tx' tb' x' q' := by
      intro what y hw5 hw2
      obtain ⟨sg, d, sI, dI, es, ed, hok, hd, hcd, hsw, e2⟩ := sgn_is a x1 b1 q1 h2 hkd hw5 y (k := k) (f_L_begins_71 u30 a p r t z g s u w st e rd told ro rx rb u21 (nI kd) (f + 1))
      have hsg : 0 < sg ∧ sg < 128 := by rcases hok with h | h | h | h <;> omega
      obtain ⟨x2, b2, q2, e3, p2⟩ := put_is p1 (b := sg) hsg.1 hsg.2 (by omega) a
      obtain ⟨v1, v2⟩ := rvl_s hok
      obtain ⟨c1, c2⟩ := cfx_c (rr := rr) (rr' := fun j => if j = k then sg else rr j) k (fun j hj => if_neg (by omega))
      have hr := rlT_c (rr := rr) (rr' := fun j => if j = k then sg else rr j) k (fun j hj => if_neg (by omega))
      have hck : cck (fun j => if j = k then sg else rr j) (k + 1) = cck rr k + d := by
        show cck _ k + (if rvl (if k = k then sg else rr k) = 2 then 1 else 0) = _
        rw [c2, if_pos rfl, hd]
        by_cases q9 : sg = 99
        · rw [if_pos q9, if_pos (v1.mpr q9)]
        · rw [if_neg q9, if_neg (fun z => q9 (v1.mp z))]
      have hcf : cfx (fun j => if j = k then sg else rr j) (k + 1) = cfx rr k + (if rvl sg < 2 then 1 else 0) := by
        show cfx _ k + (if rvl (if k = k then sg else rr k) < 2 then 1 else 0) = _
        rw [c1, if_pos rfl]
      have hT : T0 ++ rlT (fun j => if j = k then sg else rr j) (k + 1) = T0 ++ rlT rr k ++ [32] ++ [sg] := by
        show T0 ++ (rlT _ k ++ [32, if k = k then sg else rr k]) = _
        rw [hr, if_pos rfl, List.append_assoc, List.append_assoc]
        rfl
      obtain ⟨rr', f', tx', tb', x', q', i1, i2, i3, i4, i5⟩ := ih (k + 1) f (by omega) (by omega) (fun j => if j = k then sg else rr j) (fun j hj => by
        show rok (if j = k then sg else rr j)
        by_cases q9 : j = k
        · rw [if_pos q9]; exact hok
        · rw [if_neg q9]; exact h1 j (by omega)) (by rw [hck]; exact hcd) (by
        rw [hcf]
        by_cases q9 : k < 3
        · rw [if_pos (v2 (hsw (hw2 q9)))]
          rcases h3 with h3 | h3
          · exact Or.inl (by omega)
          · exact Or.inr (by omega)
        · rcases h3 with h3 | h3
          · exact Or.inr (by omega)
          · exact Or.inr (by omega)) x2 b2 y q2 (by rw [hT]; exact p2)
      refine ⟨rr', f', tx', tb', x', q', i1, i2, i3, i4, ?_⟩
      rw [e2, ← i5, hck, es, ed]
      unfold f_L_begins_214
      rw [e3, bso, nI_add, nI_1]
    rw [f_L_begins_71]
    dsimp only
    rw [h30, if_neg (nI_ge hkR (by omega)), e1, bso]
    dsimp only
    by_cases c3 : 3 ≤ k
    · obtain ⟨wh, y, hw5, e4⟩ := nxt_is (n := 5) (by decide) (by decide) x
      have e4 : f_X12_next 5 x = some (nI wh, y) := e4
      rw [if_pos (show (3 : Int32) ≤ nI k from nI_le (a := 3) c3 (by omega)), e4, bso]
      exact go wh y hw5 (fun z => by omega)
    · rw [if_neg (show ¬ (3 : Int32) ≤ nI k from nI_ge (b := 3) (by omega) (by decide))]
      by_cases c2 : k = 2
      · rw [if_pos (show nI k = 2 by rw [c2]; rfl)]
        exact go 1 x (by decide) (fun _ => by decide)
      · rw [if_neg (show ¬ nI k = 2 from fun z => c2 ((nI_eq (b := 2) (by omega) (by decide)).mp z))]
        exact go 0 x (by decide) (fun _ => by decide)
def BR (L R : Nat) (b : Nat → Int8) (said gv v : Nat → Int32) (o : BG) : Prop := match o with
  | (n, a, p, r, tx, tb, t, z, g, s, u, w, st, e, rd, told, ro, rx, rb, x) => n = nI (L * R) ∧ a = 0 ∧ t = 0 ∧ z = 0 ∧ ∃ K D : Nat, PV L R K D r p ∧ NW L R K D r p said 0 t z b g gv s u w st e v ∧ SS st
seal wl numT
set_option maxHeartbeats 8000000 in
theorem end31 {L R : Nat} (hL : 4 ≤ L ∧ L ≤ 24) (hR : 4 ≤ R ∧ R ≤ 12) {u21 u30 : Int32} (h21 : 4 + u21 = nI L) (h30 : 4 + u30 = nI R) {rr : Nat → Nat} (hok : ∀ j, j < R → rok (rr j)) (hck : cck rr R ≤ 6) (hfx : R ≤ cfx rr R ∨ 2 ≤ cfx rr R) {po wi s0 le dg : Nat} (hpo : po < 64) (hwi : 1 ≤ wi ∧ wi ≤ 8) (hs0 : s0 < 8) (hle : 2 ≤ le ∧ le < 8) (hdg : dg = 7 ∨ dg = 8) {y : Int64} (hy : ∀ (T : List Nat) (tx : SX8) (tb : Nat → Int8) (q : Nat → Int64), PT T tx tb q → T.length + 8 ≤ 300 → ∀ a : Int32, ∃ tx' tb' q', f_L_word y a tx tb q = some (tx', tb', q') ∧ PT (T ++ ([59] ++ wl dg)) tx' tb' q') (b : Nat → Int8) (said gv v : Nat → Int32) (a : Int32) (p : SX5) (r : Nat → Int32) (t z g3 : Int32) (s : SX4) (u : SX1) (w : Nat → Int32) (st : SX7) (hSS : SS st) (e : SX0) (rd : SX3) (told : SX5) (ro : Nat → Int32) (rx : SX8) (rb : Nat → Int8) {tx : SX8} {tb : Nat → Int8} {q : Nat → Int64} (h : PT (wl 2 ++ numT L ++ ([59] ++ wl 0) ++ rlT rr R ++ ([59] ++ wl 3) ++ numT po ++ ([59] ++ wl 4) ++ numT wi ++ ([59] ++ wl 5) ++ numT s0 ++ ([59] ++ wl 6) ++ numT le) tx tb q) (x : Int32) : Tt (f_L_begins_322 a tx tb q x p r t z (0, 0, g3) s u w st e rd told ro rx rb u21 u30 y) (BR L R b said gv v) := by
  have nL := numT_l L
  have lR := rlT_l rr R
  have l0 := wn0
  have l1 := wn1
  have l2 := wn2
  have l3 := wn3
  have l4 := wn4
  have l5 := wn5
  have l6 := wn6
  have l59 := wn59
  have np := numT_l po
  have nw := numT_l wi
  have ns := numT_l s0
  have ne := numT_l le
  have ld := wnd hdg
  have len : (wl 2 ++ numT L ++ ([59] ++ wl 0) ++ rlT rr R ++ ([59] ++ wl 3) ++ numT po ++ ([59] ++ wl 4) ++ numT wi ++ ([59] ++ wl 5) ++ numT s0 ++ ([59] ++ wl 6) ++ numT le).length ≤ 100 := by
    simp only [List.length_append]
    omega
  obtain ⟨xa, ba, qa, ea, pa⟩ := hy _ _ _ _ h (by omega) a
  have lena : (wl 2 ++ numT L ++ ([59] ++ wl 0) ++ rlT rr R ++ ([59] ++ wl 3) ++ numT po ++ ([59] ++ wl 4) ++ numT wi ++ ([59] ++ wl 5) ++ numT s0 ++ ([59] ++ wl 6) ++ numT le ++ ([59] ++ wl dg)).length ≤ 106 := by
    rw [List.length_append, List.length_append (as := [59])]
    omega
  obtain ⟨dv, y1, hdv, en1⟩ := nxt_is (n := 51) (by decide) (by decide) x
  have en1 : f_X12_next 51 x = some (nI dv, y1) := en1
  obtain ⟨xb, bb, qb, eb, pb⟩ := more_is pa (v := dv) (by omega) (by omega) a
  have nd := numT_l dv
  have lenb : (wl 2 ++ numT L ++ ([59] ++ wl 0) ++ rlT rr R ++ ([59] ++ wl 3) ++ numT po ++ ([59] ++ wl 4) ++ numT wi ++ ([59] ++ wl 5) ++ numT s0 ++ ([59] ++ wl 6) ++ numT le ++ ([59] ++ wl dg) ++ numT dv).length ≤ 109 := by
    rw [List.length_append]
    omega
  obtain ⟨xc, bc, qc, ec, pc⟩ := wrd wd_o ww_o pb (by omega) a
  have lenc : (wl 2 ++ numT L ++ ([59] ++ wl 0) ++ rlT rr R ++ ([59] ++ wl 3) ++ numT po ++ ([59] ++ wl 4) ++ numT wi ++ ([59] ++ wl 5) ++ numT s0 ++ ([59] ++ wl 6) ++ numT le ++ ([59] ++ wl dg) ++ numT dv ++ ([59] ++ wl 1)).length ≤ 115 := by
    rw [List.length_append, List.length_append (as := [59])]
    omega
  obtain ⟨w0, y2, hw0, en2⟩ := nxt_is (n := 3) (by decide) (by decide) y1
  have en2 : f_X12_next 3 y1 = some (nI w0, y2) := en2
  have e1w : (1 : Int32) + nI w0 = nI (1 + w0) := nI_add 1 w0
  obtain ⟨xd, bd, qd, ed, pd⟩ := more_is pc (v := 1 + w0) (by omega) (by omega) a
  have n1 := numT_l (1 + w0)
  have lend : (wl 2 ++ numT L ++ ([59] ++ wl 0) ++ rlT rr R ++ ([59] ++ wl 3) ++ numT po ++ ([59] ++ wl 4) ++ numT wi ++ ([59] ++ wl 5) ++ numT s0 ++ ([59] ++ wl 6) ++ numT le ++ ([59] ++ wl dg) ++ numT dv ++ ([59] ++ wl 1) ++ numT (1 + w0)).length ≤ 118 := by
    rw [List.length_append]
    omega
  have e9w : (9 : Int32) - nI (1 + w0) = nI (9 - (1 + w0)) := pk_sub (a := 9) (by omega)
  obtain ⟨wv, y3, hwv, en3⟩ := nxt_is (n := 9 - (1 + w0)) (by omega) (by omega) y2
  obtain ⟨xe, be, qe, ee, pe⟩ := more_is pd (v := 1 + w0 + wv) (by omega) (by omega) a
  have n2 := numT_l (1 + w0 + wv)
  have lene : (wl 2 ++ numT L ++ ([59] ++ wl 0) ++ rlT rr R ++ ([59] ++ wl 3) ++ numT po ++ ([59] ++ wl 4) ++ numT wi ++ ([59] ++ wl 5) ++ numT s0 ++ ([59] ++ wl 6) ++ numT le ++ ([59] ++ wl dg) ++ numT dv ++ ([59] ++ wl 1) ++ numT (1 + w0) ++ numT (1 + w0 + wv)).length ≤ 121 := by
    rw [List.length_append]
    omega
  obtain ⟨xf, bf, qf, ef, pf⟩ := put_is pe (b := 59) (by decide) (by decide) (by omega) a
  have ef : f_L_put 59 a xe be qe = some (xf, bf, qf) := ef
  have hT : wl 2 ++ numT L ++ ([59] ++ wl 0) ++ rlT rr R ++ ([59] ++ wl 3) ++ numT po ++ ([59] ++ wl 4) ++ numT wi ++ ([59] ++ wl 5) ++ numT s0 ++ ([59] ++ wl 6) ++ numT le ++ ([59] ++ wl dg) ++ numT dv ++ ([59] ++ wl 1) ++ numT (1 + w0) ++ numT (1 + w0 + wv) ++ [59] = sT L rr R po wi s0 le dg dv (1 + w0) (1 + w0 + wv) := by
    unfold sT
    simp only [List.append_assoc]
  rw [hT] at pf
  have lenT := sT_l (L := L) (rr := rr) (R := R) (po := po) (wi := wi) (st := s0) (le := le) (dv := dv) (w1 := 1 + w0) (w2 := 1 + w0 + wv) hdg hR.2
  obtain ⟨fl, fp, tb2, q2, eg, hTB⟩ := ends_is pf (by omega) a
  have hX := txt_is (Z := (sT L rr R po wi s0 le dg dv (1 + w0) (1 + w0 + wv)).length) (c := fun j => (sT L rr R po wi s0 le dg dv (1 + w0) (1 + w0 + wv)).getD j 0) hdg (by omega) (by omega) (by omega) (by omega) (by omega) (by omega) (by omega) (by omega) hok ⟨Nat.zero_add _, fun j _ => by rw [Nat.zero_add]⟩
  obtain ⟨K, D, p', r', fp', g', s', u', w', st', e', rd', told', ro', rx', rb', es, hPV, hNW, htell, hS2⟩ := sch31 hTB hX hL ⟨by omega, hR.2⟩ (by omega) hck (by omega) hwi (by omega) ⟨hle.1, by omega⟩ (by omega) ⟨by omega, by omega⟩ ⟨by omega, by omega⟩ b said gv v fl fp a p r t z g3 s u w st hSS e rd told ro rx rb
  unfold f_L_begins_322
  rw [ea, bso]
  dsimp only
  rw [en1, bso]
  dsimp only
  rw [eb, bso]
  dsimp only
  rw [ec, bso]
  dsimp only
  rw [en2, bso]
  dsimp only
  rw [e1w, ed, bso]
  dsimp only
  rw [e9w, en3, bso]
  dsimp only
  rw [nI_add, ee, bso]
  dsimp only
  rw [ef, bso]
  dsimp only
  rw [eg, bso]
  dsimp only
  rw [es, bso]
  dsimp only
  rw [h21, h30, pk_mul, if_pos rfl]
  rw [show f_X11_fault 0 0 (0, 0, fp') = some 0 from rfl, bso, if_pos rfl, cnt_0 hPV, bso, if_pos rfl, cnt_1 hPV, bso, if_pos rfl, rcv_is htell, bso, if_pos rfl]
  exact tt_r ⟨rfl, rfl, rfl, rfl, K, D, hPV, hNW, hS2⟩
set_option maxHeartbeats 8000000 in
theorem mid31 {L R : Nat} (hL : 4 ≤ L ∧ L ≤ 24) (hR : 4 ≤ R ∧ R ≤ 12) {u21 u30 : Int32} (h21 : 4 + u21 = nI L) (h30 : 4 + u30 = nI R) {rr : Nat → Nat} (hok : ∀ j, j < R → rok (rr j)) (hck : cck rr R ≤ 6) (hfx : R ≤ cfx rr R ∨ 2 ≤ cfx rr R) (b : Nat → Int8) (said gv v : Nat → Int32) (a : Int32) (p : SX5) (r : Nat → Int32) (t z g3 : Int32) (s : SX4) (u : SX1) (w : Nat → Int32) (st : SX7) (hSS : SS st) (e : SX0) (rd : SX3) (told : SX5) (ro : Nat → Int32) (rx : SX8) (rb : Nat → Int8) {tx : SX8} {tb : Nat → Int8} {q : Nat → Int64} (h : PT (wl 2 ++ numT L ++ ([59] ++ wl 0) ++ rlT rr R) tx tb q) (kdI c x : Int32) (f : Nat) : Tt (f_L_begins_71 u30 a p r t z (0, 0, g3) s u w st e rd told ro rx rb u21 kdI (f + 1) c (nI R) tx tb x q) (BR L R b said gv v) := by
  have nL := numT_l L
  have lR := rlT_l rr R
  have l0 := wn0
  have l1 := wn1
  have l2 := wn2
  have l3 := wn3
  have l4 := wn4
  have l5 := wn5
  have l6 := wn6
  have l59 := wn59
  have len0 : (wl 2 ++ numT L ++ ([59] ++ wl 0) ++ rlT rr R).length ≤ 45 := by
    simp only [List.length_append]
    omega
  obtain ⟨xa, ba, qa, ea, pa⟩ := wrd wd_p ww_p h (by omega) a
  have len1 : (wl 2 ++ numT L ++ ([59] ++ wl 0) ++ rlT rr R ++ ([59] ++ wl 3)).length ≤ 50 := by
    rw [List.length_append, List.length_append (as := [59])]
    omega
  obtain ⟨po, y1, hpo, n1⟩ := nxt_is (n := 64) (by decide) (by decide) x
  have n1 : f_X12_next 64 x = some (nI po, y1) := n1
  have v1 := numT_l po
  obtain ⟨xb, bb, qb, eb, pb⟩ := more_is pa (v := po) (by omega) (by omega) a
  have len2 : (wl 2 ++ numT L ++ ([59] ++ wl 0) ++ rlT rr R ++ ([59] ++ wl 3) ++ numT po).length ≤ 53 := by
    rw [List.length_append]
    omega
  obtain ⟨xc, bc, qc, ec, pc⟩ := wrd wd_w ww_w pb (by omega) a
  have len3 : (wl 2 ++ numT L ++ ([59] ++ wl 0) ++ rlT rr R ++ ([59] ++ wl 3) ++ numT po ++ ([59] ++ wl 4)).length ≤ 59 := by
    rw [List.length_append, List.length_append (as := [59])]
    omega
  obtain ⟨w0, y2, hw0, n2⟩ := nxt_is (n := 8) (by decide) (by decide) y1
  have n2 : f_X12_next 8 y1 = some (nI w0, y2) := n2
  have v2 := numT_l (1 + w0)
  have m2 : (1 : Int32) + nI w0 = nI (1 + w0) := nI_add 1 w0
  obtain ⟨xd, bd, qd, ed, pd⟩ := more_is pc (v := 1 + w0) (by omega) (by omega) a
  have len4 : (wl 2 ++ numT L ++ ([59] ++ wl 0) ++ rlT rr R ++ ([59] ++ wl 3) ++ numT po ++ ([59] ++ wl 4) ++ numT (1 + w0)).length ≤ 62 := by
    rw [List.length_append]
    omega
  obtain ⟨xe, be, qe, ee, pe⟩ := wrd wd_s ww_s pd (by omega) a
  have len5 : (wl 2 ++ numT L ++ ([59] ++ wl 0) ++ rlT rr R ++ ([59] ++ wl 3) ++ numT po ++ ([59] ++ wl 4) ++ numT (1 + w0) ++ ([59] ++ wl 5)).length ≤ 69 := by
    rw [List.length_append, List.length_append (as := [59])]
    omega
  obtain ⟨s0, y3, hs0, n3⟩ := nxt_is (n := 8) (by decide) (by decide) y2
  have n3 : f_X12_next 8 y2 = some (nI s0, y3) := n3
  have v3 := numT_l s0
  obtain ⟨xf, bf, qf, ef, pf⟩ := more_is pe (v := s0) (by omega) (by omega) a
  have len6 : (wl 2 ++ numT L ++ ([59] ++ wl 0) ++ rlT rr R ++ ([59] ++ wl 3) ++ numT po ++ ([59] ++ wl 4) ++ numT (1 + w0) ++ ([59] ++ wl 5) ++ numT s0).length ≤ 72 := by
    rw [List.length_append]
    omega
  obtain ⟨xg, bg, qg, eg, pg⟩ := wrd wd_l ww_l pf (by omega) a
  have len7 : (wl 2 ++ numT L ++ ([59] ++ wl 0) ++ rlT rr R ++ ([59] ++ wl 3) ++ numT po ++ ([59] ++ wl 4) ++ numT (1 + w0) ++ ([59] ++ wl 5) ++ numT s0 ++ ([59] ++ wl 6)).length ≤ 78 := by
    rw [List.length_append, List.length_append (as := [59])]
    omega
  obtain ⟨lq, y4, hl0, n4⟩ := nxt_is (n := 6) (by decide) (by decide) y3
  have n4 : f_X12_next 6 y3 = some (nI lq, y4) := n4
  have v4 := numT_l (2 + lq)
  have m4 : (2 : Int32) + nI lq = nI (2 + lq) := nI_add 2 lq
  obtain ⟨xh, bh, qh, eh, ph⟩ := more_is pg (v := 2 + lq) (by omega) (by omega) a
  obtain ⟨d0, y5, hd0, n5⟩ := nxt_is (n := 2) (by decide) (by decide) y4
  have n5 : f_X12_next 2 y4 = some (nI d0, y5) := n5
  rw [f_L_begins_71]
  dsimp only
  rw [h30, if_pos (nI_le (Nat.le_refl R) (by omega)), ea, bso]
  dsimp only
  rw [n1, bso]
  dsimp only
  rw [eb, bso]
  dsimp only
  rw [ec, bso]
  dsimp only
  rw [n2, bso]
  dsimp only
  rw [m2, ed, bso]
  dsimp only
  rw [ee, bso]
  dsimp only
  rw [n3, bso]
  dsimp only
  rw [ef, bso]
  dsimp only
  rw [eg, bso]
  dsimp only
  rw [n4, bso]
  dsimp only
  rw [m4, eh, bso]
  dsimp only
  rw [n5, bso]
  dsimp only
  have fin : ∀ (dg : Nat) (_ : dg = 7 ∨ dg = 8) (y : Int64) (_ : ∀ (T : List Nat) (tx : SX8) (tb : Nat → Int8) (q : Nat → Int64), PT T tx tb q → T.length + 8 ≤ 300 → ∀ a : Int32, ∃ tx' tb' q', f_L_word y a tx tb q = some (tx', tb', q') ∧ PT (T ++ ([59] ++ wl dg)) tx' tb' q'), Tt (f_L_begins_322 a xh bh qh y5 p r t z (0, 0, g3) s u w st e rd told ro rx rb u21 u30 y) (BR L R b said gv v) := fun dg hdg y hy => end31 hL hR h21 h30 hok hck hfx hpo ⟨by omega, by omega⟩ hs0 ⟨by omega, by omega⟩ hdg hy b said gv v a p r t z g3 s u w st hSS e rd told ro rx rb ph y5
  by_cases c0 : nI d0 = 0
  · rw [if_pos c0]
    exact fin 7 (Or.inl rfl) _ (fun T tx tb q hp hl a => wrd wd_d ww_d hp hl a)
  · rw [if_neg c0]
    exact fin 8 (Or.inr rfl) _ (fun T tx tb q hp hl a => wrd wd_g ww_g hp hl a)
set_option maxHeartbeats 8000000 in
theorem b21_is {n : Nat} (hn : 0 < n ∧ n ≤ 21) (b : Nat → Int8) (said gv v : Nat → Int32) (a : Int32) (p : SX5) (r : Nat → Int32) (t z g3 : Int32) (s : SX4) (u : SX1) (w : Nat → Int32) (st : SX7) (hSS : SS st) (e : SX0) (rd : SX3) (told : SX5) (ro : Nat → Int32) (rx : SX8) (rb : Nat → Int8) {tx : SX8} {tb : Nat → Int8} (h : PT [] tx tb (fun _ => 0)) (x : Int32) : Tt (f_L_begins_21 x a tx tb p r t z (0, 0, g3) s u w st e rd told ro rx rb (nI n)) (fun o => ∃ L R : Nat, 4 ≤ L ∧ L ≤ 24 ∧ 4 ≤ R ∧ R ≤ 12 ∧ BR L R b said gv v o) := by
  obtain ⟨ln, y1, hln, n1⟩ := nxt_is (n := n) hn.1 (by omega) x
  obtain ⟨rn, y2, hrn, n2⟩ := nxt_is (n := 9) (by decide) (by decide) y1
  have n2 : f_X12_next 9 y1 = some (nI rn, y2) := n2
  obtain ⟨xa, ba, qa, ea, pa⟩ := wrd wd_b ww_b h (by decide) a
  have pa : PT (wl 2) xa ba qa := pa
  have l2 := wn2
  have l0 := wn0
  have l59 := wn59
  have m1 : (4 : Int32) + nI ln = nI (4 + ln) := nI_add 4 ln
  have m2 : (4 : Int32) + nI rn = nI (4 + rn) := nI_add 4 rn
  obtain ⟨xb, bb, qb, eb, pb⟩ := more_is pa (v := 4 + ln) (by omega) (by omega) a
  have v1 := numT_l (4 + ln)
  have len1 : (wl 2 ++ numT (4 + ln)).length ≤ 9 := by
    rw [List.length_append]
    omega
  obtain ⟨xc, bc, qc, ec, pc⟩ := wrd wd_r ww_r pb (by omega) a
  have len2 : (wl 2 ++ numT (4 + ln) ++ ([59] ++ wl 0)).length ≤ 100 := by
    rw [List.length_append, List.length_append (as := [59])]
    omega
  obtain ⟨kd, y3, hkd, n3⟩ := nxt_is (n := 3) (by decide) (by decide) y2
  have n3 : f_X12_next 3 y2 = some (nI kd, y3) := n3
  obtain ⟨rr, f', tx', tb', x', q', i1, i2, i3, i4, i5⟩ := rls_is (R := 4 + rn) (by omega) hkd len2 m2 a p r t z (0, 0, g3) s u w st e rd told ro rx rb (nI ln) (4 + rn) 0 65535 (by omega) (by omega) (fun _ => 48) (fun j hj => absurd hj (Nat.not_lt_zero _)) (by decide) (Or.inl (Nat.le_refl _)) xc bc y3 qc (by
    show PT (wl 2 ++ numT (4 + ln) ++ ([59] ++ wl 0) ++ []) xc bc qc
    rw [List.append_nil]
    exact pc)
  have i5 : f_L_begins_71 (nI rn) a p r t z (0, 0, g3) s u w st e rd told ro rx rb (nI ln) (nI kd) 65536 0 0 xc bc y3 qc = _ := i5
  unfold f_L_begins_21
  rw [n1, bso]
  dsimp only
  rw [n2, bso]
  dsimp only
  rw [ea, bso]
  dsimp only
  rw [m1, eb, bso]
  dsimp only
  rw [ec, bso]
  dsimp only
  rw [n3, bso]
  dsimp only
  rw [i5]
  exact tt_m (mid31 (L := 4 + ln) (R := 4 + rn) ⟨by omega, by omega⟩ ⟨by omega, by omega⟩ m1 m2 i1 i2 i3 b said gv v a p r t z g3 s u w st hSS e rd told ro rx rb i4 (nI kd) _ x' f') (fun o ho => ⟨4 + ln, 4 + rn, by omega, by omega, by omega, by omega, ho⟩)
unseal wl numT
theorem begins_is (b : Nat → Int8) (said gv v : Nat → Int32) (a : Int32) (p : SX5) (r : Nat → Int32) (t z g3 : Int32) (s : SX4) (u : SX1) (w : Nat → Int32) (st : SX7) (hSS : SS st) (e : SX0) (rd : SX3) (told : SX5) (ro : Nat → Int32) (rx : SX8) (rb : Nat → Int8) {tx : SX8} {tb : Nat → Int8} (h : PT [] tx tb (fun _ => 0)) (x : Int32) : Tt (f_L_begins a p r tx tb t z (0, 0, g3) s u w st e rd told ro rx rb x) (fun o => ∃ L R : Nat, 4 ≤ L ∧ L ≤ 24 ∧ 4 ≤ R ∧ R ≤ 12 ∧ BR L R b said gv v o) := by
  obtain ⟨k, y, hk, n1⟩ := nxt_is (n := 3) (by decide) (by decide) x
  have n1 : f_X12_next 3 x = some (nI k, y) := n1
  unfold f_L_begins
  rw [n1, bso]
  dsimp only
  by_cases c : nI k = 0
  · rw [if_pos c]
    exact b21_is (n := 21) ⟨by decide, by decide⟩ b said gv v a p r t z g3 s u w st hSS e rd told ro rx rb h y
  · rw [if_neg c]
    exact b21_is (n := 8) ⟨by decide, by decide⟩ b said gv v a p r t z g3 s u w st hSS e rd told ro rx rb h y
