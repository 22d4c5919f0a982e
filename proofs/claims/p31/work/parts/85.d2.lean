/-! the text that is drawn tells a scheme -/
def wl (w : Nat) : List Nat := (([[114, 111, 108, 101, 115], [119, 114, 111, 110, 103], [108, 101, 110, 103, 116, 104], [112, 111, 108, 121], [119, 105, 100, 116, 104], [115, 116, 111, 108, 101, 110], [108, 101, 97, 115, 116], [100, 114, 105, 102, 116], [108, 97, 103]] : List (List Nat)).getD w [])
theorem wl_c (w j : Nat) : (wl w).getD j 0 = cw w j := rfl
theorem wl_l : ∀ w : Fin 9, (wl w.val).length = sx_z w.val := by decide +kernel
def SG (c : Nat → Nat) (s : Nat) (l : List Nat) : Prop := ∀ j, j < l.length → c (s + j) = l.getD j 0
def SE (Z : Nat) (c : Nat → Nat) (s : Nat) (l : List Nat) : Prop := s + l.length = Z ∧ SG c s l
theorem sg_a {c : Nat → Nat} {s : Nat} {a b : List Nat} (h : SG c s (a ++ b)) : SG c s a ∧ SG c (s + a.length) b := by
  have hl : (a ++ b).length = a.length + b.length := List.length_append
  refine ⟨fun j hj => ?_, fun j hj => ?_⟩
  · rw [h j (by omega), getD_app_l a b 0 hj]
  · have h1 := h (a.length + j) (by omega)
    rw [getD_app_r a b 0 j, ← Nat.add_assoc] at h1
    exact h1
theorem se_a {Z : Nat} {c : Nat → Nat} {s : Nat} {a b : List Nat} (h : SE Z c s (a ++ b)) : SG c s a ∧ SE Z c (s + a.length) b := by
  have hl : (a ++ b).length = a.length + b.length := List.length_append
  obtain ⟨h1, h2⟩ := h
  obtain ⟨h3, h4⟩ := sg_a h2
  exact ⟨h3, by omega, h4⟩
theorem sg_w {Z : Nat} {c : Nat → Nat} {s w : Nat} (hw : w < 9) (h : SG c s (wl w)) {s' : Nat} (e : s = s') (hz : s' + sx_z w ≤ Z) : WA Z c w s' := by
  subst e
  have hl : (wl w).length = sx_z w := wl_l ⟨w, hw⟩
  exact ⟨hz, fun j hj => by rw [h j (by omega)]; rfl⟩
theorem sg_n {Z : Nat} {c : Nat → Nat} {s v : Nat} (hv : v < 100) (h : SG c s (numT v)) {s' t : Nat} (e : s = s') (ht : t = s' + (numT v).length) (hz : t < Z) (hc : c t = 59 ∨ c t = 32) : NA Z c v s' t := by
  subst e
  unfold numT at h ht
  by_cases q : v < 10
  · rw [if_pos q] at h ht
    have ht : t = s + 2 := ht
    exact ⟨hv, h 0 (show 0 < 2 by decide), hz, hc, Or.inl ⟨q, ht, h 1 (show 1 < 2 by decide)⟩⟩
  · rw [if_neg q] at h ht
    have ht : t = s + 3 := ht
    exact ⟨hv, h 0 (show 0 < 3 by decide), hz, hc, Or.inr ⟨by omega, ht, h 1 (show 1 < 3 by decide), h 2 (show 2 < 3 by decide)⟩⟩
theorem sg_n0 {c : Nat → Nat} {s v : Nat} (h : SG c s (numT v)) : c s = 32 := by
  unfold numT at h
  by_cases q : v < 10
  · rw [if_pos q] at h
    exact h 0 (show 0 < 2 by decide)
  · rw [if_neg q] at h
    exact h 0 (show 0 < 3 by decide)
theorem sg_1 {c : Nat → Nat} {s x : Nat} (h : SG c s [x]) : c s = x := h 0 (show 0 < 1 by decide)
/-- the roles' bytes: a blank and a sign each -/
def rlT (rr : Nat → Nat) : Nat → List Nat
  | 0 => []
  | k + 1 => rlT rr k ++ [32, rr k]
theorem rlT_l (rr : Nat → Nat) (k : Nat) : (rlT rr k).length = 2 * k := by
  induction k with
  | zero => rfl
  | succ k ih =>
    simp only [rlT]
    rw [List.length_append, ih]
    show 2 * k + 2 = 2 * (k + 1)
    omega
theorem rlT_c {rr rr' : Nat → Nat} (k : Nat) (h : ∀ j, j < k → rr' j = rr j) : rlT rr' k = rlT rr k := by
  induction k with
  | zero => rfl
  | succ k ih =>
    simp only [rlT]
    rw [ih (fun j hj => h j (by omega)), h k (by omega)]
theorem cfx_c {rr rr' : Nat → Nat} (k : Nat) (h : ∀ j, j < k → rr' j = rr j) : cfx rr' k = cfx rr k ∧ cck rr' k = cck rr k := by
  induction k with
  | zero => exact ⟨rfl, rfl⟩
  | succ k ih =>
    obtain ⟨h1, h2⟩ := ih (fun j hj => h j (by omega))
    simp only [cfx, cck]
    rw [h1, h2, h k (by omega)]
    exact ⟨rfl, rfl⟩
theorem sg_r {c : Nat → Nat} {s : Nat} {rr : Nat → Nat} (n : Nat) : SG c s (rlT rr n) → ∀ k, k < n → c (s + 2 * k) = 32 ∧ c (s + 2 * k + 1) = rr k := by
  induction n with
  | zero => intro _ k hk; omega
  | succ n ih =>
    intro h k hk
    simp only [rlT] at h
    obtain ⟨h1, h2⟩ := sg_a h
    rw [rlT_l] at h2
    by_cases q : k = n
    · subst q
      exact ⟨h2 0 (show 0 < 2 by decide), h2 1 (show 1 < 2 by decide)⟩
    · exact ih h1 k (by omega)
def sT (L : Nat) (rr : Nat → Nat) (R po wi st le dg dv w1 w2 : Nat) : List Nat := wl 2 ++ (numT L ++ ([59] ++ (wl 0 ++ (rlT rr R ++ ([59] ++ (wl 3 ++ (numT po ++ ([59] ++ (wl 4 ++ (numT wi ++ ([59] ++ (wl 5 ++ (numT st ++ ([59] ++ (wl 6 ++ (numT le ++ ([59] ++ (wl dg ++ (numT dv ++ ([59] ++ (wl 1 ++ (numT w1 ++ (numT w2 ++ [59])))))))))))))))))))))))
theorem numT_ge (v : Nat) : 2 ≤ (numT v).length := by
  unfold numT
  split
  · exact (show 2 ≤ 2 from by decide)
  · exact (show 2 ≤ 3 from by decide)
theorem wz0 : (wl 0).length = sx_z 0 := rfl
theorem wz1 : (wl 1).length = sx_z 1 := rfl
theorem wz2 : (wl 2).length = sx_z 2 := rfl
theorem wz3 : (wl 3).length = sx_z 3 := rfl
theorem wz4 : (wl 4).length = sx_z 4 := rfl
theorem wz5 : (wl 5).length = sx_z 5 := rfl
theorem wz6 : (wl 6).length = sx_z 6 := rfl
theorem wn0 : (wl 0).length = 5 := rfl
theorem wn1 : (wl 1).length = 5 := rfl
theorem wn2 : (wl 2).length = 6 := rfl
theorem wn3 : (wl 3).length = 4 := rfl
theorem wn4 : (wl 4).length = 5 := rfl
theorem wn5 : (wl 5).length = 6 := rfl
theorem wn6 : (wl 6).length = 5 := rfl
theorem wn59 : ([59] : List Nat).length = 1 := rfl
theorem wnd {dg : Nat} (hd : dg = 7 ∨ dg = 8) : (wl dg).length ≤ 5 := by rcases hd with h | h <;> subst h <;> decide
def HL (l : List Nat) (n : Nat) : Prop := l.length = n
theorem hl_e (l : List Nat) : ∃ n, HL l n := ⟨_, rfl⟩
theorem hl_w (w : Fin 9) : HL (wl w.val) (sx_z w.val) := wl_l w
theorem hl_59 : HL [59] 1 := rfl
theorem se_c {Z : Nat} {c : Nat → Nat} {s n s' : Nat} {a b : List Nat} (h : SE Z c s (a ++ b)) (hl : HL a n) (e : s' = s + n) : SG c s a ∧ SE Z c s' b := by
  subst e
  have hl : a.length = n := hl
  obtain ⟨h1, h2⟩ := se_a h
  rw [hl] at h2
  exact ⟨h1, h2⟩
theorem sg_w2 {Z : Nat} {c : Nat → Nat} {s w : Nat} (hw : w < 9) (h : SG c s (wl w)) (hz : s + sx_z w ≤ Z) : WA Z c w s := sg_w hw h rfl hz
theorem sg_n2 {Z : Nat} {c : Nat → Nat} {s v t n : Nat} (hv : v < 100) (h : SG c s (numT v)) (hl : HL (numT v) n) (ht : t = s + n) (hz : t < Z) (hc : c t = 59 ∨ c t = 32) : NA Z c v s t := by
  have hl : (numT v).length = n := hl
  exact sg_n hv h rfl (by rw [hl]; exact ht) hz hc
theorem lt_a {t Z : Nat} (h : t + 1 = Z) : t < Z := by omega
theorem lt_b {t x u Z : Nat} (h1 : t + 1 + x ≤ u) (h2 : u < Z) : t < Z := by omega
theorem lt_c {t x R y Z : Nat} (h : t + 1 + x + 2 * R + 1 + y ≤ Z) : t + 1 + x + 2 * R < Z ∧ t + 1 + x ≤ Z ∧ t < Z := by omega
seal wl numT rlT sx_z
set_option maxHeartbeats 2000000 in
theorem txt_is {Z : Nat} {c : Nat → Nat} {L : Nat} {rr : Nat → Nat} {R po wi st le dg dv w1 w2 : Nat} (hd : dg = 7 ∨ dg = 8) (b0 : L < 100) (b1 : po < 100) (b2 : wi < 100) (b3 : st < 100) (b4 : le < 100) (b5 : dv < 100) (b6 : w1 < 100) (b7 : w2 < 100) (hr : ∀ k, k < R → rok (rr k)) (h : SE Z c 0 (sT L rr R po wi st le dg dv w1 w2)) : TXT Z c L rr R po wi st le dg dv w1 w2 := by
  unfold sT at h
  have hd9 : dg < 9 := by omega
  obtain ⟨a0, k0⟩ := hl_e (numT L)
  obtain ⟨a1, k1⟩ := hl_e (numT po)
  obtain ⟨a2, k2⟩ := hl_e (numT wi)
  obtain ⟨a3, k3⟩ := hl_e (numT st)
  obtain ⟨a4, k4⟩ := hl_e (numT le)
  obtain ⟨a5, k5⟩ := hl_e (numT dv)
  obtain ⟨a6, k6⟩ := hl_e (numT w1)
  obtain ⟨a7, k7⟩ := hl_e (numT w2)
  have kR : HL (rlT rr R) (2 * R) := rlT_l rr R
  obtain ⟨s1, h⟩ := se_c h (hl_w 2) rfl
  obtain ⟨t0, e0⟩ : ∃ t, t = 0 + sx_z 2 + a0 := ⟨_, rfl⟩
  obtain ⟨s2, h⟩ := se_c h k0 e0
  obtain ⟨s3, h⟩ := se_c h hl_59 rfl
  obtain ⟨s4, h⟩ := se_c h (hl_w 0) rfl
  obtain ⟨s5, h⟩ := se_c h kR rfl
  obtain ⟨s6, h⟩ := se_c h hl_59 rfl
  obtain ⟨s7, h⟩ := se_c h (hl_w 3) rfl
  obtain ⟨t2, e2⟩ : ∃ t, t = t0 + 1 + sx_z 0 + 2 * R + 1 + sx_z 3 + a1 := ⟨_, rfl⟩
  obtain ⟨s8, h⟩ := se_c h k1 e2
  obtain ⟨s9, h⟩ := se_c h hl_59 rfl
  obtain ⟨sA, h⟩ := se_c h (hl_w 4) rfl
  obtain ⟨t3, e3⟩ : ∃ t, t = t2 + 1 + sx_z 4 + a2 := ⟨_, rfl⟩
  obtain ⟨sB, h⟩ := se_c h k2 e3
  obtain ⟨sC, h⟩ := se_c h hl_59 rfl
  obtain ⟨sD, h⟩ := se_c h (hl_w 5) rfl
  obtain ⟨t4, e4⟩ : ∃ t, t = t3 + 1 + sx_z 5 + a3 := ⟨_, rfl⟩
  obtain ⟨sE, h⟩ := se_c h k3 e4
  obtain ⟨sF, h⟩ := se_c h hl_59 rfl
  obtain ⟨sG, h⟩ := se_c h (hl_w 6) rfl
  obtain ⟨t5, e5⟩ : ∃ t, t = t4 + 1 + sx_z 6 + a4 := ⟨_, rfl⟩
  obtain ⟨sH, h⟩ := se_c h k4 e5
  obtain ⟨sI, h⟩ := se_c h hl_59 rfl
  obtain ⟨sJ, h⟩ := se_c h (hl_w ⟨dg, hd9⟩) rfl
  obtain ⟨t6, e6⟩ : ∃ t, t = t5 + 1 + sx_z dg + a5 := ⟨_, rfl⟩
  obtain ⟨sK, h⟩ := se_c h k5 e6
  obtain ⟨sL, h⟩ := se_c h hl_59 rfl
  obtain ⟨sM, h⟩ := se_c h (hl_w 1) rfl
  obtain ⟨ta, ea⟩ : ∃ t, t = t6 + 1 + sx_z 1 + a6 := ⟨_, rfl⟩
  obtain ⟨sN, h⟩ := se_c h k6 ea
  obtain ⟨t7, e7⟩ : ∃ t, t = ta + a7 := ⟨_, rfl⟩
  obtain ⟨sO, h⟩ := se_c h k7 e7
  obtain ⟨hZ, sP⟩ := h
  have hZ : t7 + 1 = Z := hZ
  have l7 : ta ≤ t7 := by rw [e7]; exact Nat.le_add_right _ _
  have la : t6 + 1 + sx_z 1 ≤ ta := by rw [ea]; exact Nat.le_add_right _ _
  have l6 : t5 + 1 + sx_z dg ≤ t6 := by rw [e6]; exact Nat.le_add_right _ _
  have l5 : t4 + 1 + sx_z 6 ≤ t5 := by rw [e5]; exact Nat.le_add_right _ _
  have l4 : t3 + 1 + sx_z 5 ≤ t4 := by rw [e4]; exact Nat.le_add_right _ _
  have l3 : t2 + 1 + sx_z 4 ≤ t3 := by rw [e3]; exact Nat.le_add_right _ _
  have l2 : t0 + 1 + sx_z 0 + 2 * R + 1 + sx_z 3 ≤ t2 := by rw [e2]; exact Nat.le_add_right _ _
  have l0 : 0 + sx_z 2 ≤ t0 := by rw [e0]; exact Nat.le_add_right _ _
  have z7 : t7 < Z := lt_a hZ
  have za : ta < Z := Nat.lt_of_le_of_lt l7 z7
  have z6' : t6 + 1 + sx_z 1 ≤ Z := Nat.le_of_lt (Nat.lt_of_le_of_lt la za)
  have z6 : t6 < Z := lt_b la za
  have z5' : t5 + 1 + sx_z dg ≤ Z := Nat.le_of_lt (Nat.lt_of_le_of_lt l6 z6)
  have z5 : t5 < Z := lt_b l6 z6
  have z4' : t4 + 1 + sx_z 6 ≤ Z := Nat.le_of_lt (Nat.lt_of_le_of_lt l5 z5)
  have z4 : t4 < Z := lt_b l5 z5
  have z3' : t3 + 1 + sx_z 5 ≤ Z := Nat.le_of_lt (Nat.lt_of_le_of_lt l4 z4)
  have z3 : t3 < Z := lt_b l4 z4
  have z2' : t2 + 1 + sx_z 4 ≤ Z := Nat.le_of_lt (Nat.lt_of_le_of_lt l3 z3)
  have z2 : t2 < Z := lt_b l3 z3
  have z1' : t0 + 1 + sx_z 0 + 2 * R + 1 + sx_z 3 ≤ Z := Nat.le_of_lt (Nat.lt_of_le_of_lt l2 z2)
  have z1 : t0 + 1 + sx_z 0 + 2 * R < Z := (lt_c z1').1
  have z0' : t0 + 1 + sx_z 0 ≤ Z := (lt_c z1').2.1
  have z0 : t0 < Z := (lt_c z1').2.2
  have z00 : 0 + sx_z 2 ≤ Z := Nat.le_of_lt (Nat.lt_of_le_of_lt l0 z0)
  have hrr := sg_r R s5
  refine ⟨t0, t2, t3, t4, t5, t6, ta, t7, sg_w2 (by decide) s1 z00, sg_n2 b0 s2 k0 e0 z0 (Or.inl (sg_1 s3)), sg_1 s3, sg_w2 (by decide) s4 z0', ⟨?_, sg_1 s6, ?_⟩, sg_w2 (by decide) s7 z1', sg_n2 b1 s8 k1 e2 z2 (Or.inl (sg_1 s9)), sg_1 s9, sg_w2 (by decide) sA z2', sg_n2 b2 sB k2 e3 z3 (Or.inl (sg_1 sC)), sg_1 sC, sg_w2 (by decide) sD z3', sg_n2 b3 sE k3 e4 z4 (Or.inl (sg_1 sF)), sg_1 sF, sg_w2 (by decide) sG z4', sg_n2 b4 sH k4 e5 z5 (Or.inl (sg_1 sI)), sg_1 sI, hd, sg_w2 hd9 sJ z5', sg_n2 b5 sK k5 e6 z6 (Or.inl (sg_1 sL)), sg_1 sL, sg_w2 (by decide) sM z6', sg_n2 b6 sN k6 ea za (Or.inr (sg_n0 sO)), sg_n2 b7 sO k7 e7 z7 (Or.inl (sg_1 sP)), sg_1 sP, hZ.symm⟩
  · exact z1
  · intro k hk
    obtain ⟨x1, x2⟩ := hrr k hk
    exact ⟨x1, x2, hr k hk⟩
theorem la {a b : List Nat} {m n : Nat} (ha : a.length ≤ m) (hb : b.length ≤ n) : (a ++ b).length ≤ m + n := by
  rw [List.length_append]
  exact Nat.add_le_add ha hb
theorem sT_l {L : Nat} {rr : Nat → Nat} {R po wi st le dg dv w1 w2 : Nat} (hd : dg = 7 ∨ dg = 8) (hR : R ≤ 12) : (sT L rr R po wi st le dg dv w1 w2).length ≤ 150 := by
  unfold sT
  exact Nat.le_trans (la (Nat.le_of_eq wn2) (la (numT_l L) (la (Nat.le_of_eq wn59) (la (Nat.le_of_eq wn0) (la (Nat.le_of_eq (rlT_l rr R)) (la (Nat.le_of_eq wn59) (la (Nat.le_of_eq wn3) (la (numT_l po) (la (Nat.le_of_eq wn59) (la (Nat.le_of_eq wn4) (la (numT_l wi) (la (Nat.le_of_eq wn59) (la (Nat.le_of_eq wn5) (la (numT_l st) (la (Nat.le_of_eq wn59) (la (Nat.le_of_eq wn6) (la (numT_l le) (la (Nat.le_of_eq wn59) (la (wnd hd) (la (numT_l dv) (la (Nat.le_of_eq wn59) (la (Nat.le_of_eq wn1) (la (numT_l w1) (la (numT_l w2) (Nat.le_of_eq wn59))))))))))))))))))))))))) (by omega)
unseal wl numT rlT sx_z
/-! the words as they are put -/
theorem wd_b : ∀ n : Fin 8, ((119182899770472 : Int64) >>> ((nI (8 * n.val)).toInt64 &&& 63)) &&& 255 = lN (119182899770472 / 256 ^ n.val % 256) ∧ 119182899770472 / 256 ^ n.val % 256 < 128 := by decide +kernel
theorem wd_r : ∀ n : Fin 8, ((65362681685363 : Int64) >>> ((nI (8 * n.val)).toInt64 &&& 63)) &&& 255 = lN (65362681685363 / 256 ^ n.val % 256) ∧ 65362681685363 / 256 ^ n.val % 256 < 128 := by decide +kernel
theorem wd_p : ∀ n : Fin 8, ((255289420921 : Int64) >>> ((nI (8 * n.val)).toInt64 &&& 63)) &&& 255 = lN (255289420921 / 256 ^ n.val % 256) ∧ 255289420921 / 256 ^ n.val % 256 < 128 := by decide +kernel
theorem wd_w : ∀ n : Fin 8, ((65384055338088 : Int64) >>> ((nI (8 * n.val)).toInt64 &&& 63)) &&& 255 = lN (65384055338088 / 256 ^ n.val % 256) ∧ 65384055338088 / 256 ^ n.val % 256 < 128 := by decide +kernel
theorem wd_s : ∀ n : Fin 8, ((16733967548704110 : Int64) >>> ((nI (8 * n.val)).toInt64 &&& 63)) &&& 255 = lN (16733967548704110 / 256 ^ n.val % 256) ∧ 16733967548704110 / 256 ^ n.val % 256 < 128 := by decide +kernel
theorem wd_l : ∀ n : Fin 8, ((65336743392116 : Int64) >>> ((nI (8 * n.val)).toInt64 &&& 63)) &&& 255 = lN (65336743392116 / 256 ^ n.val % 256) ∧ 65336743392116 / 256 ^ n.val % 256 < 128 := by decide +kernel
theorem wd_d : ∀ n : Fin 8, ((65302602278516 : Int64) >>> ((nI (8 * n.val)).toInt64 &&& 63)) &&& 255 = lN (65302602278516 / 256 ^ n.val % 256) ∧ 65302602278516 / 256 ^ n.val % 256 < 128 := by decide +kernel
theorem wd_g : ∀ n : Fin 8, ((996958567 : Int64) >>> ((nI (8 * n.val)).toInt64 &&& 63)) &&& 255 = lN (996958567 / 256 ^ n.val % 256) ∧ 996958567 / 256 ^ n.val % 256 < 128 := by decide +kernel
theorem wd_o : ∀ n : Fin 8, ((65384207052391 : Int64) >>> ((nI (8 * n.val)).toInt64 &&& 63)) &&& 255 = lN (65384207052391 / 256 ^ n.val % 256) ∧ 65384207052391 / 256 ^ n.val % 256 < 128 := by decide +kernel
theorem wrd {v : Nat} {x : Int64} (h : ∀ n : Fin 8, (x >>> ((nI (8 * n.val)).toInt64 &&& 63)) &&& 255 = lN (v / 256 ^ n.val % 256) ∧ v / 256 ^ n.val % 256 < 128) {W : List Nat} (hW : wrdT (fun n => v / 256 ^ n % 256) 8 = W) {T : List Nat} {tx : SX8} {tb : Nat → Int8} {q : Nat → Int64} (hp : PT T tx tb q) (hT : T.length + 8 ≤ 300) (a : Int32) : ∃ tx' tb' q', f_L_word x a tx tb q = some (tx', tb', q') ∧ PT (T ++ W) tx' tb' q' :=
  word_is (by8 := fun n => v / 256 ^ n % 256) (fun n hn => h ⟨n, hn⟩) hW hp hT a
theorem ww_b : wrdT (fun n => 119182899770472 / 256 ^ n % 256) 8 = wl 2 := by decide +kernel
theorem ww_r : wrdT (fun n => 65362681685363 / 256 ^ n % 256) 8 = [59] ++ wl 0 := by decide +kernel
theorem ww_p : wrdT (fun n => 255289420921 / 256 ^ n % 256) 8 = [59] ++ wl 3 := by decide +kernel
theorem ww_w : wrdT (fun n => 65384055338088 / 256 ^ n % 256) 8 = [59] ++ wl 4 := by decide +kernel
theorem ww_s : wrdT (fun n => 16733967548704110 / 256 ^ n % 256) 8 = [59] ++ wl 5 := by decide +kernel
theorem ww_l : wrdT (fun n => 65336743392116 / 256 ^ n % 256) 8 = [59] ++ wl 6 := by decide +kernel
theorem ww_d : wrdT (fun n => 65302602278516 / 256 ^ n % 256) 8 = [59] ++ wl 7 := by decide +kernel
theorem ww_g : wrdT (fun n => 996958567 / 256 ^ n % 256) 8 = [59] ++ wl 8 := by decide +kernel
theorem ww_o : wrdT (fun n => 65384207052391 / 256 ^ n % 256) 8 = [59] ++ wl 1 := by decide +kernel
