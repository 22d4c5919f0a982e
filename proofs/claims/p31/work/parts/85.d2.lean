/-! the text that is drawn tells a scheme -/
def wl (w : Nat) : List Nat := (([[114, 111, 108, 101, 115], [119, 114, 111, 110, 103], [108, 101, 110, 103, 116, 104], [112, 111, 108, 121], [119, 105, 100, 116, 104], [115, 116, 111, 108, 101, 110], [108, 101, 97, 115, 116], [100, 114, 105, 102, 116], [108, 97, 103]] : List (List Nat)).getD w [])
theorem wl_c (w j : Nat) : (wl w).getD j 0 = cw w j := rfl
theorem wl_l : ∀ w : Fin 9, (wl w.val).length = sx_z w.val := by decide +kernel
def SG (c : Nat → Nat) (s : Nat) (l : List Nat) : Prop := ∀ j, j < l.length → c (s + j) = l.getD j 0
def SE (Z : Nat) (c : Nat → Nat) (s : Nat) (l : List Nat) : Prop := s + l.length = Z ∧ SG c s l
theorem sg_a {c : Nat → Nat} {s : Nat} {a b : List Nat} (h : SG c s (a ++ b)) : SG c s a ∧ SG c (s + a.length) b := by
  have hl : (a ++ b).length = a.length + b.length := List.length_append
  refine ⟨fun j hj => ?_, fun j hj => ?_⟩
  · rw [h j (by omega), getD_app_l a b 0 hj]
  · have h1 := h (a.length + j) (by omega)
    rw [getD_app_r a b 0 j, ← Nat.add_assoc] at h1
    exact h1
theorem se_a {Z : Nat} {c : Nat → Nat} {s : Nat} {a b : List Nat} (h : SE Z c s (a ++ b)) : SG c s a ∧ SE Z c (s + a.length) b := by
  have hl : (a ++ b).length = a.length + b.length := List.length_append
  obtain ⟨h1, h2⟩ := h
  obtain ⟨h3, h4⟩ := sg_a h2
  exact ⟨h3, by omega, h4⟩
theorem sg_w {Z : Nat} {c : Nat → Nat} {s w : Nat} (hw : w < 9) (h : SG c s (wl w)) {s' : Nat} (e : s = s') (hz : s' + sx_z w ≤ Z) : WA Z c w s' := by
  subst e
  have hl : (wl w).length = sx_z w := wl_l ⟨w, hw⟩
  exact ⟨hz, fun j hj => by rw [h j (by omega)]; rfl⟩
theorem sg_n {Z : Nat} {c : Nat → Nat} {s v : Nat} (hv : v < 100) (h : SG c s (numT v)) {s' t : Nat} (e : s = s') (ht : t = s' + (numT v).length) (hz : t < Z) (hc : c t = 59 ∨ c t = 32) : NA Z c v s' t := by
  subst e
  unfold numT at h ht
  by_cases q : v < 10
  · rw [if_pos q] at h ht
    have ht : t = s + 2 := ht
    exact ⟨hv, h 0 (show 0 < 2 by decide), hz, hc, Or.inl ⟨q, ht, h 1 (show 1 < 2 by decide)⟩⟩
  · rw [if_neg q] at h ht
    have ht : t = s + 3 := ht
    exact ⟨hv, h 0 (show 0 < 3 by decide), hz, hc, Or.inr ⟨by omega, ht, h 1 (show 1 < 3 by decide), h 2 (show 2 < 3 by decide)⟩⟩
theorem sg_n0 {c : Nat → Nat} {s v : Nat} (h : SG c s (numT v)) : c s = 32 := by
  unfold numT at h
  by_cases q : v < 10
  · rw [if_pos q] at h
    exact h 0 (show 0 < 2 by decide)
  · rw [if_neg q] at h
    exact h 0 (show 0 < 3 by decide)
theorem sg_1 {c : Nat → Nat} {s x : Nat} (h : SG c s [x]) : c s = x := h 0 (show 0 < 1 by decide)
/-- the roles' bytes: a blank and a sign each -/
def rlT (rr : Nat → Nat) : Nat → List Nat
  | 0 => []
  | k + 1 => rlT rr k ++ [32, rr k]
theorem rlT_l (rr : Nat → Nat) (k : Nat) : (rlT rr k).length = 2 * k := by
  induction k with
  | zero => rfl
  | succ k ih =>
    simp only [rlT]
    rw [List.length_append, ih]
    show 2 * k + 2 = 2 * (k + 1)
    omega
theorem rlT_c {rr rr' : Nat → Nat} (k : Nat) (h : ∀ j, j < k → rr' j = rr j) : rlT rr' k = rlT rr k := by
  induction k with
  | zero => rfl
  | succ k ih =>
    simp only [rlT]
    rw [ih (fun j hj => h j (by omega)), h k (by omega)]
theorem cfx_c {rr rr' : Nat → Nat} (k : Nat) (h : ∀ j, j < k → rr' j = rr j) : cfx rr' k = cfx rr k ∧ cck rr' k = cck rr k := by
  induction k with
  | zero => exact ⟨rfl, rfl⟩
  | succ k ih =>
    obtain ⟨h1, h2⟩ := ih (fun j hj => h j (by omega))
    simp only [cfx, cck]
    rw [h1, h2, h k (by omega)]
    exact ⟨rfl, rfl⟩
theorem sg_r {c : Nat → Nat} {s : Nat} {rr : Nat → Nat} (n : Nat) : SG c s (rlT rr n) → ∀ k, k < n → c (s + 2 * k) = 32 ∧ c (s + 2 * k + 1) = rr k := by
  induction n with
  | zero => intro _ k hk; omega
  | succ n ih =>
    intro h k hk
    simp only [rlT] at h
    obtain ⟨h1, h2⟩ := sg_a h
    rw [rlT_l] at h2
    by_cases q : k = n
    · subst q
      exact ⟨h2 0 (show 0 < 2 by decide), h2 1 (show 1 < 2 by decide)⟩
    · exact ih h1 k (by omega)
def sT (L : Nat) (rr : Nat → Nat) (R po wi st le dg dv w1 w2 : Nat) : List Nat := wl 2 ++ (numT L ++ ([59] ++ (wl 0 ++ (rlT rr R ++ ([59] ++ (wl 3 ++ (numT po ++ ([59] ++ (wl 4 ++ (numT wi ++ ([59] ++ (wl 5 ++ (numT st ++ ([59] ++ (wl 6 ++ (numT le ++ ([59] ++ (wl dg ++ (numT dv ++ ([59] ++ (wl 1 ++ (numT w1 ++ (numT w2 ++ [59])))))))))))))))))))))))
theorem txt_is {Z : Nat} {c : Nat → Nat} {L : Nat} {rr : Nat → Nat} {R po wi st le dg dv w1 w2 : Nat} (hd : dg = 7 ∨ dg = 8) (b0 : L < 100) (b1 : po < 100) (b2 : wi < 100) (b3 : st < 100) (b4 : le < 100) (b5 : dv < 100) (b6 : w1 < 100) (b7 : w2 < 100) (hr : ∀ k, k < R → rok (rr k)) (h : SE Z c 0 (sT L rr R po wi st le dg dv w1 w2)) : TXT Z c L rr R po wi st le dg dv w1 w2 := by
  unfold sT at h
  obtain ⟨s1, h⟩ := se_a h
  obtain ⟨s2, h⟩ := se_a h
  obtain ⟨s3, h⟩ := se_a h
  obtain ⟨s4, h⟩ := se_a h
  obtain ⟨s5, h⟩ := se_a h
  obtain ⟨s6, h⟩ := se_a h
  obtain ⟨s7, h⟩ := se_a h
  obtain ⟨s8, h⟩ := se_a h
  obtain ⟨s9, h⟩ := se_a h
  obtain ⟨sA, h⟩ := se_a h
  obtain ⟨sB, h⟩ := se_a h
  obtain ⟨sC, h⟩ := se_a h
  obtain ⟨sD, h⟩ := se_a h
  obtain ⟨sE, h⟩ := se_a h
  obtain ⟨sF, h⟩ := se_a h
  obtain ⟨sG, h⟩ := se_a h
  obtain ⟨sH, h⟩ := se_a h
  obtain ⟨sI, h⟩ := se_a h
  obtain ⟨sJ, h⟩ := se_a h
  obtain ⟨sK, h⟩ := se_a h
  obtain ⟨sL, h⟩ := se_a h
  obtain ⟨sM, h⟩ := se_a h
  obtain ⟨sN, h⟩ := se_a h
  obtain ⟨sO, h⟩ := se_a h
  obtain ⟨hZ, sP⟩ := h
  have l0 : (wl 0).length = sx_z 0 := rfl
  have l1 : (wl 1).length = sx_z 1 := rfl
  have l2 : (wl 2).length = sx_z 2 := rfl
  have l3 : (wl 3).length = sx_z 3 := rfl
  have l4 : (wl 4).length = sx_z 4 := rfl
  have l5 : (wl 5).length = sx_z 5 := rfl
  have l6 : (wl 6).length = sx_z 6 := rfl
  have hd9 : dg < 9 := by omega
  have ld : (wl dg).length = sx_z dg := wl_l ⟨dg, hd9⟩
  have l59 : ([59] : List Nat).length = 1 := rfl
  have lR := rlT_l rr R
  have hrr := sg_r R s5
  obtain ⟨t0, e0⟩ : ∃ t, t = 0 + sx_z 2 + (numT L).length := ⟨_, rfl⟩
  obtain ⟨t1, e1⟩ : ∃ t, t = t0 + 1 + sx_z 0 + 2 * R + 1 := ⟨_, rfl⟩
  obtain ⟨t2, e2⟩ : ∃ t, t = t1 + sx_z 3 + (numT po).length := ⟨_, rfl⟩
  obtain ⟨t3, e3⟩ : ∃ t, t = t2 + 1 + sx_z 4 + (numT wi).length := ⟨_, rfl⟩
  obtain ⟨t4, e4⟩ : ∃ t, t = t3 + 1 + sx_z 5 + (numT st).length := ⟨_, rfl⟩
  obtain ⟨t5, e5⟩ : ∃ t, t = t4 + 1 + sx_z 6 + (numT le).length := ⟨_, rfl⟩
  obtain ⟨t6, e6⟩ : ∃ t, t = t5 + 1 + sx_z dg + (numT dv).length := ⟨_, rfl⟩
  obtain ⟨ta, ea⟩ : ∃ t, t = t6 + 1 + sx_z 1 + (numT w1).length := ⟨_, rfl⟩
  obtain ⟨t7, e7⟩ : ∃ t, t = ta + (numT w2).length := ⟨_, rfl⟩
  have c0 : c t0 = 59 := (congrArg c (by omega)).trans (sg_1 s3)
  have c1 : c (t0 + 1 + sx_z 0 + 2 * R) = 59 := (congrArg c (by omega)).trans (sg_1 s6)
  have c2 : c t2 = 59 := (congrArg c (by omega)).trans (sg_1 s9)
  have c3 : c t3 = 59 := (congrArg c (by omega)).trans (sg_1 sC)
  have c4 : c t4 = 59 := (congrArg c (by omega)).trans (sg_1 sF)
  have c5 : c t5 = 59 := (congrArg c (by omega)).trans (sg_1 sI)
  have c6 : c t6 = 59 := (congrArg c (by omega)).trans (sg_1 sL)
  have ca' : c ta = 32 := (congrArg c (by omega)).trans (sg_n0 sO)
  have c7 : c t7 = 59 := (congrArg c (by omega)).trans (sg_1 sP)
  refine ⟨t0, t2, t3, t4, t5, t6, ta, t7, sg_w (by decide) s1 rfl (by omega), sg_n b0 s2 (by omega) (by omega) (by omega) (Or.inl c0), c0, sg_w (by decide) s4 (by omega) (by omega), ⟨by omega, c1, ?_⟩, ?_, ?_, c2, sg_w (by decide) sA (by omega) (by omega), sg_n b2 sB (by omega) (by omega) (by omega) (Or.inl c3), c3, sg_w (by decide) sD (by omega) (by omega), sg_n b3 sE (by omega) (by omega) (by omega) (Or.inl c4), c4, sg_w (by decide) sG (by omega) (by omega), sg_n b4 sH (by omega) (by omega) (by omega) (Or.inl c5), c5, hd, sg_w hd9 sJ (by omega) (by omega), sg_n b5 sK (by omega) (by omega) (by omega) (Or.inl c6), c6, sg_w (by decide) sM (by omega) (by omega), sg_n b6 sN (by omega) (by omega) (by omega) (Or.inr ca'), sg_n b7 sO (by omega) (by omega) (by omega) (Or.inl c7), c7, by omega⟩
  · intro k hk
    obtain ⟨x1, x2⟩ := hrr k hk
    refine ⟨?_, ?_, hr k hk⟩
    · exact (congrArg c (by omega)).trans x1
    · exact (congrArg c (by omega)).trans x2
  · rw [← e1]
    exact sg_w (by decide) s7 (by omega) (by omega)
  · rw [← e1]
    exact sg_n b1 s8 (by omega) (by omega) (by omega) (Or.inl c2)
theorem numT_ge (v : Nat) : 2 ≤ (numT v).length := by
  unfold numT
  split
  · exact (show 2 ≤ 2 from by decide)
  · exact (show 2 ≤ 3 from by decide)
theorem sT_l {L : Nat} {rr : Nat → Nat} {R po wi st le dg dv w1 w2 : Nat} (hd : dg = 7 ∨ dg = 8) (hR : R ≤ 12) : (sT L rr R po wi st le dg dv w1 w2).length ≤ 150 := by
  have ld : (wl dg).length ≤ 5 := by rcases hd with h | h <;> subst h <;> decide
  have n0 := numT_l L
  have n1 := numT_l po
  have n2 := numT_l wi
  have n3 := numT_l st
  have n4 := numT_l le
  have n5 := numT_l dv
  have n6 := numT_l w1
  have n7 := numT_l w2
  have lR := rlT_l rr R
  unfold sT
  simp only [List.length_append]
  have l0 : (wl 0).length = 5 := rfl
  have l1 : (wl 1).length = 5 := rfl
  have l2 : (wl 2).length = 6 := rfl
  have l3 : (wl 3).length = 4 := rfl
  have l4 : (wl 4).length = 5 := rfl
  have l5 : (wl 5).length = 6 := rfl
  have l6 : (wl 6).length = 5 := rfl
  have l59 : ([59] : List Nat).length = 1 := rfl
  omega
/-! the words as they are put -/
theorem wd_b : ∀ n : Fin 8, ((119182899770472 : Int64) >>> ((nI (8 * n.val)).toInt64 &&& 63)) &&& 255 = lN (119182899770472 / 256 ^ n.val % 256) ∧ 119182899770472 / 256 ^ n.val % 256 < 128 := by decide +kernel
theorem wd_r : ∀ n : Fin 8, ((65362681685363 : Int64) >>> ((nI (8 * n.val)).toInt64 &&& 63)) &&& 255 = lN (65362681685363 / 256 ^ n.val % 256) ∧ 65362681685363 / 256 ^ n.val % 256 < 128 := by decide +kernel
theorem wd_p : ∀ n : Fin 8, ((255289420921 : Int64) >>> ((nI (8 * n.val)).toInt64 &&& 63)) &&& 255 = lN (255289420921 / 256 ^ n.val % 256) ∧ 255289420921 / 256 ^ n.val % 256 < 128 := by decide +kernel
theorem wd_w : ∀ n : Fin 8, ((65384055338088 : Int64) >>> ((nI (8 * n.val)).toInt64 &&& 63)) &&& 255 = lN (65384055338088 / 256 ^ n.val % 256) ∧ 65384055338088 / 256 ^ n.val % 256 < 128 := by decide +kernel
theorem wd_s : ∀ n : Fin 8, ((16733967548704110 : Int64) >>> ((nI (8 * n.val)).toInt64 &&& 63)) &&& 255 = lN (16733967548704110 / 256 ^ n.val % 256) ∧ 16733967548704110 / 256 ^ n.val % 256 < 128 := by decide +kernel
theorem wd_l : ∀ n : Fin 8, ((65336743392116 : Int64) >>> ((nI (8 * n.val)).toInt64 &&& 63)) &&& 255 = lN (65336743392116 / 256 ^ n.val % 256) ∧ 65336743392116 / 256 ^ n.val % 256 < 128 := by decide +kernel
theorem wd_d : ∀ n : Fin 8, ((65302602278516 : Int64) >>> ((nI (8 * n.val)).toInt64 &&& 63)) &&& 255 = lN (65302602278516 / 256 ^ n.val % 256) ∧ 65302602278516 / 256 ^ n.val % 256 < 128 := by decide +kernel
theorem wd_g : ∀ n : Fin 8, ((996958567 : Int64) >>> ((nI (8 * n.val)).toInt64 &&& 63)) &&& 255 = lN (996958567 / 256 ^ n.val % 256) ∧ 996958567 / 256 ^ n.val % 256 < 128 := by decide +kernel
theorem wd_o : ∀ n : Fin 8, ((65384207052391 : Int64) >>> ((nI (8 * n.val)).toInt64 &&& 63)) &&& 255 = lN (65384207052391 / 256 ^ n.val % 256) ∧ 65384207052391 / 256 ^ n.val % 256 < 128 := by decide +kernel
theorem wrd {v : Nat} {x : Int64} (h : ∀ n : Fin 8, (x >>> ((nI (8 * n.val)).toInt64 &&& 63)) &&& 255 = lN (v / 256 ^ n.val % 256) ∧ v / 256 ^ n.val % 256 < 128) {W : List Nat} (hW : wrdT (fun n => v / 256 ^ n % 256) 8 = W) {T : List Nat} {tx : SX8} {tb : Nat → Int8} {q : Nat → Int64} (hp : PT T tx tb q) (hT : T.length + 8 ≤ 300) (a : Int32) : ∃ tx' tb' q', f_L_word x a tx tb q = some (tx', tb', q') ∧ PT (T ++ W) tx' tb' q' :=
  word_is (by8 := fun n => v / 256 ^ n % 256) (fun n hn => h ⟨n, hn⟩) hW hp hT a
theorem ww_b : wrdT (fun n => 119182899770472 / 256 ^ n % 256) 8 = wl 2 := by decide +kernel
theorem ww_r : wrdT (fun n => 65362681685363 / 256 ^ n % 256) 8 = [59] ++ wl 0 := by decide +kernel
theorem ww_p : wrdT (fun n => 255289420921 / 256 ^ n % 256) 8 = [59] ++ wl 3 := by decide +kernel
theorem ww_w : wrdT (fun n => 65384055338088 / 256 ^ n % 256) 8 = [59] ++ wl 4 := by decide +kernel
theorem ww_s : wrdT (fun n => 16733967548704110 / 256 ^ n % 256) 8 = [59] ++ wl 5 := by decide +kernel
theorem ww_l : wrdT (fun n => 65336743392116 / 256 ^ n % 256) 8 = [59] ++ wl 6 := by decide +kernel
theorem ww_d : wrdT (fun n => 65302602278516 / 256 ^ n % 256) 8 = [59] ++ wl 7 := by decide +kernel
theorem ww_g : wrdT (fun n => 996958567 / 256 ^ n % 256) 8 = [59] ++ wl 8 := by decide +kernel
theorem ww_o : wrdT (fun n => 65384207052391 / 256 ^ n % 256) 8 = [59] ++ wl 1 := by decide +kernel
