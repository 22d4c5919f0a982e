/-! what is sent -/
theorem app_is {nb z : Nat} (hnb : nb < 2 ^ 31) (hz : z < nb) (x : Int32) (b : Nat → Int8) : f_X2_append nb x (nI z) b = some (nI (z + 1), upB b z x.toInt8.toInt32.toInt8) := by
  unfold f_X2_append
  rw [if_neg (nI_pos (by omega)), if_neg (nI_ge hz hnb), m_inI (nI_in hz hnb), nI_clamp (by omega), nI_1]
theorem ub_s (b : Nat → Int8) (z : Nat) (x : Int8) : upB b z x z = x := if_pos rfl
theorem ub_n (b : Nat → Int8) {z j : Nat} (x : Int8) (h : j ≠ z) : upB b z x j = b j := if_neg h
theorem bit_b {x : Int32} (h : x = 0 ∨ x = 1) : (x.toInt8.toInt32.toInt8).toInt32 = x := by
  rcases h with h | h <;> subst h <;> decide
theorem and_b (x : Int32) : x &&& 1 = 0 ∨ x &&& 1 = 1 := by
  obtain ⟨j, hj, e⟩ := pk_andE x (m := 1) 1 (by decide)
  rw [e]
  have : j = 0 ∨ j = 1 := by omega
  rcases this with h | h <;> subst h
  · exact Or.inl rfl
  · exact Or.inr rfl
theorem lk_bit {S S' : SND} {x : Int32} (h : LK S x S') : x = 0 ∨ x = 1 := by
  obtain ⟨a, b, v⟩ := S
  unfold LK f_X6_linkBit f_X6_linkBit_51 f_X6_dequeue at h
  dsimp only at h
  by_cases c1 : a = 0
  · rw [if_pos c1] at h
    injection h with h
    injection h with h1 h
    exact Or.inr h1.symm
  · rw [if_neg c1] at h
    by_cases c2 : b ≤ 8
    · rw [if_pos c2] at h
      by_cases c3 : b = 0
      · rw [if_pos c3] at h
        injection h with h
        injection h with h1 h
        exact Or.inl h1.symm
      · rw [if_neg c3] at h
        injection h with h
        injection h with h1 h
        rw [← h1]
        exact and_b _
    · rw [if_neg c2] at h
      obtain ⟨w1, e1, f1, g1⟩ := dq2_is a 0 7 1 65535 (by omega) (by omega) (by omega) v
      have e1 : f_X6_dequeue_2 a 0 65536 1 v = _ := e1
      rw [e1] at h
      have h : (some ((1 : Int32), (a - 1, (0 : Int32), (0 : Int32)), w1) : Option (Int32 × SX6 × (Nat → Int32))) = some (x, (S'.1, S'.2.1, 0), S'.2.2) := h
      injection h with h
      injection h with h1 h
      exact Or.inr h1.symm
theorem t82_is {nb : Nat} (hnb : nb < 2 ^ 31) {L : Nat} (hL : L ≤ 24) {k18 : Int32 → Int32 → Int32 → Int32 → Int32 → Int32 → (Nat → Int32) → Int32 → (Nat → Int8) → Option (Int32 × SX6 × (Nat → Int32) × Int32 × (Nat → Int8))} {l6 l7 c d e : Int32} {v : Nat → Int32} {Q : Int32 × SX6 × (Nat → Int32) × Int32 × (Nat → Int8) → Prop} {z1 : Nat} (hz1 : z1 + L ≤ nb + 1) {b1 : Nat → Int8} (hk : ∀ (a : Int32) (b' : Nat → Int8), (∀ j, j < z1 → b' j = b1 j) → (∀ j, z1 ≤ j → j < z1 + (L - 1) → (b' j).toInt32 = 0 ∨ (b' j).toInt32 = 1) → Tt (k18 a l6 (l7 + 1) c d e v (nI (z1 + (L - 1))) b') Q) (m : Nat) : ∀ (k f : Nat) (_ : 1 ≤ k) (_ : k + m = L) (_ : m ≤ f) (a : Int32) (b : Nat → Int8) (_ : ∀ j, j < z1 → b j = b1 j) (_ : ∀ j, z1 ≤ j → j < z1 + (k - 1) → (b j).toInt32 = 0 ∨ (b j).toInt32 = 1), Tt (f_X6_transmitOne_82 (nI L) l6 l7 c d e v nb k18 (f + 1) a (nI k) (nI (z1 + (k - 1))) b) Q := by
  induction m with
  | zero =>
    intro k f h1 h _ a b hb1 hb2
    have : k = L := by omega
    subst this
    rw [f_X6_transmitOne_82_s, if_pos (nI_le (by omega) (by omega))]
    exact hk a b hb1 hb2
  | succ m ih =>
    intro k f h1 h hf a b hb1 hb2
    obtain ⟨f, rfl⟩ : ∃ q, f = q + 1 := ⟨f - 1, by omega⟩
    rw [f_X6_transmitOne_82_s, if_neg (nI_ge (by omega) (by omega)), app_is hnb (by omega), bso, nI_1]
    have e1 : z1 + (k - 1) + 1 = z1 + (k + 1 - 1) := by omega
    show Tt (f_X6_transmitOne_82 (nI L) l6 l7 c d e v nb k18 (f + 1) _ (nI (k + 1)) (nI (z1 + (k - 1) + 1)) _) Q
    rw [e1]
    refine ih (k + 1) f (by omega) (by omega) (by omega) _ _ (fun j hj => ?_) (fun j j1 j2 => ?_)
    · rw [ub_n _ _ (by omega)]; exact hb1 j hj
    · by_cases cj : j = z1 + (k - 1)
      · subst cj
        rw [ub_s, bit_b (and_b _)]
        exact and_b _
      · rw [ub_n _ _ cj]; exact hb2 j j1 (by omega)
theorem pos_f {L R q0 k t : Nat} (hk : k < R) (ht : t < L) : (q0 * (L * R) + k * L + t) % L = t ∧ (q0 * (L * R) + k * L + t) / L % R = k := by
  have e : q0 * (L * R) + k * L + t = L * (R * q0 + k) + t := by
    rw [Nat.mul_add, Nat.mul_comm q0, Nat.mul_assoc, Nat.mul_comm k]
  rw [e, Nat.mul_add_mod, Nat.mod_eq_of_lt ht, Nat.mul_add_div (by omega), Nat.div_eq_of_lt ht, Nat.add_zero, Nat.mul_add_mod, Nat.mod_eq_of_lt hk]
  exact ⟨rfl, rfl⟩
/-- k frames of a superframe stand behind the line -/
def TX (L R K : Nat) (ro : Nat → Int32) (q0 v : Nat) (b0 : Nat → Int8) (S0 : SND) (k : Nat) (b : Nat → Int8) (T : SND) : Prop := (∀ j, j < q0 * (L * R) → b j = b0 j) ∧ (∀ j, q0 * (L * R) ≤ j → j < q0 * (L * R) + k * L → ((b j).toInt32 = 0 ∨ (b j).toInt32 = 1) ∧ RF L R ro j (b j).toInt32) ∧ (∀ f, f < k → ro f = 2 → (b (q0 * (L * R) + f * L)).toInt32 = nI (v / 2 ^ (K - 1 - cnt ro f) % 2)) ∧ ∃ S : Nat → SND, S (q0 * (L * R)) = S0 ∧ S (q0 * (L * R) + k * L) = T ∧ LSD L R ro b (q0 * (L * R)) (q0 * (L * R) + k * L) S
theorem tx_nx {L R K : Nat} (hL : 0 < L) {ro : Nat → Int32} {q0 v : Nat} {b0 : Nat → Int8} {S0 : SND} {k : Nat} (hk : k < R) {b : Nat → Int8} {T T' : SND} (h : TX L R K ro q0 v b0 S0 k b T) {x : Int32} (hx : x = 0 ∨ x = 1) (hx0 : ro k = 0 → x = 0) (hx1 : ro k = 1 → x = 1) (hx2 : ro k = 2 → x = nI (v / 2 ^ (K - 1 - cnt ro k) % 2)) (hx3 : ro k = 3 → LK T x T') (hx4 : ¬ ro k = 3 → T' = T) {b' : Nat → Int8} (hb1 : ∀ j, j < q0 * (L * R) + k * L + 1 → b' j = upB b (q0 * (L * R) + k * L) x.toInt8.toInt32.toInt8 j) (hb2 : ∀ j, q0 * (L * R) + k * L + 1 ≤ j → j < q0 * (L * R) + k * L + 1 + (L - 1) → (b' j).toInt32 = 0 ∨ (b' j).toInt32 = 1) : TX L R K ro q0 v b0 S0 (k + 1) b' T' := by
  obtain ⟨h1, h2, h3, S, s1, s2, s3⟩ := h
  have e1 : (k + 1) * L = k * L + L := Nat.succ_mul k L
  unfold TX
  generalize hz : q0 * (L * R) = z at *
  have hpos : ∀ t, t < L → (z + k * L + t) % L = t ∧ (z + k * L + t) / L % R = k := fun t ht => by rw [← hz]; exact pos_f hk ht
  have hp0 := hpos 0 hL
  rw [Nat.add_zero] at hp0
  have bold : ∀ j, j < z + k * L → b' j = b j := fun j hj => by rw [hb1 j (by omega), ub_n _ _ (by omega)]
  have bnew : (b' (z + k * L)).toInt32 = x := by rw [hb1 _ (by omega), ub_s, bit_b hx]
  refine ⟨fun j hj => ?_, fun j j1 j2 => ?_, fun f hf e => ?_, fun j => if j ≤ z + k * L then S j else T', ?_, ?_, fun j j1 j2 => ?_⟩
  · rw [bold j (by omega)]; exact h1 j hj
  · by_cases c : j < z + k * L
    · rw [bold j c]; exact h2 j j1 c
    · by_cases c2 : j = z + k * L
      · subst c2
        rw [bnew]
        refine ⟨hx, fun _ => ?_⟩
        rw [hp0.2]
        exact ⟨hx0, hx1⟩
      · refine ⟨hb2 j (by omega) (by omega), fun z0 => ?_⟩
        have := hpos (j - (z + k * L)) (by omega)
        rw [Nat.add_sub_cancel' (by omega)] at this
        omega
  · by_cases c : f = k
    · subst c
      rw [bnew]
      exact hx2 e
    · have hfk : f * L < k * L := Nat.mul_lt_mul_of_pos_right (by omega) hL
      rw [bold _ (by omega)]
      exact h3 f (by omega) e
  · show (if z ≤ z + k * L then S z else T') = S0
    rw [if_pos (by omega)]
    exact s1
  · show (if z + (k + 1) * L ≤ z + k * L then _ else T') = T'
    rw [if_neg (by omega)]
  · show (_ → LK (if j ≤ z + k * L then S j else T') _ (if j + 1 ≤ z + k * L then S (j + 1) else T')) ∧ (_ → (if j + 1 ≤ z + k * L then S (j + 1) else T') = (if j ≤ z + k * L then S j else T'))
    by_cases c : j < z + k * L
    · rw [if_pos (by omega), if_pos (by omega), bold j c]
      exact s3 j j1 c
    · by_cases c2 : j = z + k * L
      · subst c2
        rw [if_pos (by omega), if_neg (by omega), bnew, s2, hp0.1, hp0.2]
        refine ⟨fun q => hx3 q.2, fun q => hx4 (fun q2 => q ⟨rfl, q2⟩)⟩
      · rw [if_neg (by omega), if_neg (by omega)]
        refine ⟨fun q => ?_, fun _ => rfl⟩
        have := hpos (j - (z + k * L)) (by omega)
        rw [Nat.add_sub_cancel' (by omega)] at this
        omega
theorem t18_is {nb : Nat} (hnb : nb < 2 ^ 31) (hnb2 : nb ≤ 7000) {L R K D : Nat} {ro : Nat → Int32} {p : SX5} (h : PV L R K D ro p) {q0 v : Nat} (hv : v < 4096) (hq : q0 * (L * R) + L * R ≤ nb) {b0 : Nat → Int8} {S0 : SND} {po wi sl fw wr la dr ch ze on al : Int32} (he : p = (nI L, nI R, po, wi, sl, fw, wr, la, dr, nI (L * R), ch, nI K, ze, on, al)) {Q : Int32 × SX6 × (Nat → Int32) × Int32 × (Nat → Int8) → Prop} (hQ : ∀ (a : Int32) (b : Nat → Int8) (T : SND) (r : Int32), TX L R K ro q0 v b0 S0 R b T → f_X5_checksOf nb (nI (q0 * (L * R))) p ro (nI (q0 * (L * R) + L * R)) b = some r → Q (a, (T.1, T.2.1, r), T.2.2, nI (q0 * (L * R) + L * R), b)) (m : Nat) : ∀ (k f : Nat) (_ : k + m = R) (_ : m ≤ f) (a : Int32) (b : Nat → Int8) (T : SND) (_ : TX L R K ro q0 v b0 S0 k b T), Tt (f_X6_transmitOne_18 (nI R) nb (nI (q0 * (L * R))) (nI L) po wi sl fw wr la dr (nI (L * R)) ch (nI K) ze on al ro (f + 1) a (nI (K - cnt ro k)) (nI k) T.1 T.2.1 (nI v) T.2.2 (nI (q0 * (L * R) + k * L)) b) Q := by
  have hPS : PS p := by obtain ⟨_, _, _, _, _, _, _, _, _, _, _, _, hp, _⟩ := h; exact hp
  have hro := fun f hf => rol_is h (f := f) hf
  subst he
  obtain ⟨_, _, _, _, _, _, _, _, _, _, _, _, hp, a1, a2, a3, a4, hk, hw, hd, hr, _⟩ := h
  have hLR2 : L * R ≤ 288 := Nat.le_trans (Nat.mul_le_mul a2 a4) (by decide)
  induction m with
  | zero =>
    intro k f hm _ a b T hT
    have : k = R := by omega
    subst this
    rw [f_X6_transmitOne_18_s, if_pos (nI_le (Nat.le_refl _) (by omega))]
    obtain ⟨r, hr', _⟩ := checksOf_c hnb (nI (q0 * (L * k))) _ hPS ro (nI (q0 * (L * k) + k * L)) b
    rw [hr', bso]
    rw [Nat.mul_comm k L] at hr' ⊢
    exact tt_r (hQ a b T r hT hr')
  | succ m ih =>
    intro k f hm hf a b T hT
    obtain ⟨f, rfl⟩ : ∃ q, f = q + 1 := ⟨f - 1, by omega⟩
    have hkR : k < R := by omega
    have e1 : (k + 1) * L = k * L + L := Nat.succ_mul k L
    have e2 : (k + 1) * L ≤ R * L := Nat.mul_le_mul_right L (by omega)
    rw [Nat.mul_comm R L] at e2
    have hcR := cnt_mono ro (show k + 1 ≤ R from hkR)
    -- a frame whose first bit is x
    have go : ∀ (x : Int32) (l6 : Int32) (T' : SND), l6 = nI (K - cnt ro (k + 1)) → (x = 0 ∨ x = 1) → (ro k = 0 → x = 0) → (ro k = 1 → x = 1) → (ro k = 2 → x = nI (v / 2 ^ (K - 1 - cnt ro k) % 2)) → (ro k = 3 → LK T x T') → (¬ ro k = 3 → T' = T) → Tt (f_X6_transmitOne_79 (nI L) (nI k) nb a (f_X6_transmitOne_18 (nI R) nb (nI (q0 * (L * R))) (nI L) po wi sl fw wr la dr (nI (L * R)) ch (nI K) ze on al ro (f + 1)) l6 T'.1 T'.2.1 (nI v) T'.2.2 (nI (q0 * (L * R) + k * L + 1)) (upB b (q0 * (L * R) + k * L) x.toInt8.toInt32.toInt8)) Q := by
      intro x l6 T' el hx hx0 hx1 hx2 hx3 hx4
      subst el
      unfold f_X6_transmitOne_79
      refine t82_is hnb a2 (z1 := q0 * (L * R) + k * L + 1) (by omega) (b1 := upB b (q0 * (L * R) + k * L) x.toInt8.toInt32.toInt8) (fun a' b' hb1 hb2 => ?_) (L - 1) 1 65535 (Nat.le_refl _) (by omega) (by omega) a _ (fun j _ => rfl) (fun j j1 j2 => by omega)
      have hT' := tx_nx (by omega) hkR hT hx hx0 hx1 hx2 hx3 hx4 hb1 hb2
      have g := ih (k + 1) f (by omega) (by omega) a' b' T' hT'
      rw [nI_1, show q0 * (L * R) + k * L + 1 + (L - 1) = q0 * (L * R) + (k + 1) * L by omega]
      exact g
    rw [f_X6_transmitOne_18_s, if_neg (nI_ge (by omega) (by omega)), hro k hkR, bso]
    refine tt_i (fun c2 => ?_) (fun c2 => ?_)
    · have h3 := cnt_lt ro hkR c2
      have hc1 : cnt ro (k + 1) = cnt ro k + 1 := by simp only [cnt, if_pos c2]
      have el : nI (K - cnt ro k) + (-1) = nI (K - cnt ro (k + 1)) := by
        rw [show K - cnt ro k = (K - cnt ro (k + 1)) + 1 by omega, pk_m1]
      have hK12 : K ≤ 12 := by have := cnt_le ro R; omega
      have ex : (nI v >>> ((nI (K - cnt ro k) + (-1)) &&& 31)) &&& 1 = nI (v / 2 ^ (K - 1 - cnt ro k) % 2) := by
        rw [el, show K - cnt ro (k + 1) = K - 1 - cnt ro k by omega, pk_shrN (by omega) _ (K - 1 - cnt ro k) (s_l _ (by omega))]
        exact pk_andN (m := 1) (Nat.lt_of_le_of_lt (Nat.div_le_self _ _) (by omega)) 1 (by decide)
      rw [app_is hnb (by omega), bso, ex]
      refine go _ _ T el ?_ (fun z => by rw [c2] at z; exact absurd z (by decide)) (fun z => by rw [c2] at z; exact absurd z (by decide)) (fun _ => rfl) (fun z => by rw [c2] at z; exact absurd z (by decide)) (fun _ => rfl)
      rw [← ex]
      exact and_b _
    · have hc1 : cnt ro (k + 1) = cnt ro k := by simp only [cnt, if_neg c2]; rfl
      refine tt_i (fun c3 => ?_) (fun c3 => ?_)
      · obtain ⟨x, T', hl⟩ := lk_ex T
        rw [hl.lc (nI v), bso]
        show Tt (f_X6_transmitOne_76 _ _ _ _ _ _ _ _ x T'.1 T'.2.1 (nI v) T'.2.2) Q
        unfold f_X6_transmitOne_76
        rw [app_is hnb (by omega), bso]
        exact go x _ T' (by rw [hc1]) (lk_bit hl) (fun z => by rw [c3] at z; exact absurd z (by decide)) (fun z => by rw [c3] at z; exact absurd z (by decide)) (fun z => absurd z c2) (fun _ => hl) (fun z => absurd c3 z)
      · unfold f_X6_transmitOne_76
        rw [app_is hnb (by omega), bso]
        have hr01 : ro k = 0 ∨ ro k = 1 := by
          rcases hr k hkR with z | z | z | z
          · exact Or.inl z
          · exact Or.inr z
          · exact absurd z c2
          · exact absurd z c3
        exact go (ro k) _ T (by rw [hc1]) hr01 id id (fun z => absurd z c2) (fun z => absurd z c3) (fun _ => rfl)
/-- a line of q superframes that were sent one behind the other; lc: the checks of the last one -/
def GL (L R K : Nat) (ro : Nat → Int32) (p : SX5) (nb q : Nat) (b : Nat → Int8) (v : Nat) : Prop := LN L R ro b (q * (L * R)) ∧ CK L R ro p nb (q * (L * R)) b ∧ v < 2 ^ K ∧ (0 < q → f_X5_checksOf nb (nI ((q - 1) * (L * R))) p ro (nI (q * (L * R))) b = some (nI v)) ∧ (q = 0 → v = 0) ∧ (0 < q → ∀ f, f < R → ro f = 2 → (b (f * L)).toInt32 = 0)
theorem tx1_is {nb : Nat} (hnb : nb < 2 ^ 31) (hnb2 : nb ≤ 7000) {L R K D : Nat} {ro : Nat → Int32} {p : SX5} (h : PV L R K D ro p) {q v : Nat} (hq : (q + 1) * (L * R) ≤ nb) {b0 : Nat → Int8} (hG : GL L R K ro p nb q b0 v) (S0 : SND) (x : Int32) : Tt (f_X6_transmitOne nb x (S0.1, S0.2.1, nI v) S0.2.2 p ro (nI (q * (L * R))) b0) (fun z => ∃ v' : Nat, GL L R K ro p nb (q + 1) z.2.2.2.2 v' ∧ z.2.1.2.2 = nI v' ∧ z.2.2.2.1 = nI ((q + 1) * (L * R)) ∧ (∀ j, j < q * (L * R) → z.2.2.2.2 j = b0 j) ∧ ∃ S : Nat → SND, S (q * (L * R)) = S0 ∧ S ((q + 1) * (L * R)) = (z.2.1.1, z.2.1.2.1, z.2.2.1) ∧ LSD L R ro z.2.2.2.2 (q * (L * R)) ((q + 1) * (L * R)) S) := by
  have h' := h
  obtain ⟨g1, g2, g3, g4, g5, g6⟩ := hG
  obtain ⟨po, wi, sl, fw, wr, la, dr, ch, ze, on, al, rfl, hp, a1, a2, a3, a4, hk, _⟩ := h'
  have hLR : 0 < L * R := Nat.mul_pos (by omega) (by omega)
  have hK12 : K ≤ 12 := by have := cnt_le ro R; omega
  have h4096 := two_le hK12
  have e1 : (q + 1) * (L * R) = q * (L * R) + L * R := Nat.succ_mul q (L * R)
  have hRL : R * L = L * R := Nat.mul_comm R L
  unfold f_X6_transmitOne
  have g := t18_is hnb hnb2 h (q0 := q) (v := v) (by omega) (by omega) (b0 := b0) (S0 := S0) rfl (Q := fun z => ∃ v' : Nat, GL L R K ro (nI L, nI R, po, wi, sl, fw, wr, la, dr, nI (L * R), ch, nI K, ze, on, al) nb (q + 1) z.2.2.2.2 v' ∧ z.2.1.2.2 = nI v' ∧ z.2.2.2.1 = nI ((q + 1) * (L * R)) ∧ (∀ j, j < q * (L * R) → z.2.2.2.2 j = b0 j) ∧ ∃ S : Nat → SND, S (q * (L * R)) = S0 ∧ S ((q + 1) * (L * R)) = (z.2.1.1, z.2.1.2.1, z.2.2.1) ∧ LSD L R ro z.2.2.2.2 (q * (L * R)) ((q + 1) * (L * R)) S) ?_ R 0 65535 (by omega) (by omega) x b0 S0 ?_
  · rw [Nat.zero_mul, Nat.add_zero] at g
    exact g
  · intro a b T r hT hr
    obtain ⟨t1, t2, t3, S, s1, s2, s3⟩ := hT
    rw [hRL] at t2 s2 s3
    have hold : ∀ q', (q' + 1) * (L * R) ≤ q * (L * R) → ∀ w, f_X5_checksOf nb (nI (q' * (L * R))) (nI L, nI R, po, wi, sl, fw, wr, la, dr, nI (L * R), ch, nI K, ze, on, al) ro (nI (q * (L * R))) b0 = some (nI w) → f_X5_checksOf nb (nI (q' * (L * R))) (nI L, nI R, po, wi, sl, fw, wr, la, dr, nI (L * R), ch, nI K, ze, on, al) ro (nI ((q + 1) * (L * R))) b = some (nI w) := by
      intro q' hq' w hw
      have e2 : (q' + 1) * (L * R) = q' * (L * R) + L * R := Nat.succ_mul q' (L * R)
      obtain ⟨v2, k1, k2, k3⟩ := cko_is hnb (N := q * (L * R)) (N' := (q + 1) * (L * R)) (by omega) (by omega) h (b := b0) (b' := b) (x := q' * (L * R)) (by omega) (by omega) (fun j j1 j2 => t1 j (by omega))
      rw [hw] at k2
      rw [k3, ← k2]
    obtain ⟨v', k1, k2, _⟩ := cko_is hnb (N := (q + 1) * (L * R)) (N' := (q + 1) * (L * R)) (by omega) (by omega) h (b := b) (b' := b) (x := q * (L * R)) (by omega) (by omega) (fun j _ _ => rfl)
    rw [← e1] at hr
    have er : r = nI v' := by rw [hr] at k2; injection k2
    subst er
    refine ⟨v', ⟨?_, ?_, k1, fun _ => by rw [Nat.add_sub_cancel]; exact hr, fun z => by omega, fun _ f hf e => ?_⟩, rfl, by rw [e1], t1, S, s1, by rw [e1]; exact s2, by rw [e1]; exact s3⟩
    · intro j hj
      by_cases c : j < q * (L * R)
      · have := g1 j c
        show ((b j).toInt32 = 0 ∨ (b j).toInt32 = 1) ∧ RF L R ro j (b j).toInt32
        rw [t1 j c]
        exact this
      · exact t2 j (by omega) (by omega)
    · intro q' hq'
      have e2 : (q' + 1) * (L * R) = q' * (L * R) + L * R := Nat.succ_mul q' (L * R)
      have e3 : (q' + 2) * (L * R) = q' * (L * R) + 2 * (L * R) := Nat.add_mul _ _ _
      by_cases c : (q' + 1) * (L * R) ≤ q * (L * R)
      · obtain ⟨w, w1, w2, w3⟩ := g2 q' c
        refine ⟨w, w1, hold q' c w w2, fun hq2 f hf e => ?_⟩
        have hfL : f * L + L ≤ L * R := by
          have : (f + 1) * L ≤ R * L := Nat.mul_le_mul_right L (by omega)
          rw [Nat.succ_mul, hRL] at this
          exact this
        by_cases c2 : (q' + 2) * (L * R) ≤ q * (L * R)
        · show (b ((q' + 1) * (L * R) + f * L)).toInt32 = _
          rw [t1 _ (by omega)]
          exact w3 c2 f hf e
        · have hqq : q = q' + 1 := by
            have c3 : ¬ (q' + 2 ≤ q) := fun z => c2 (Nat.mul_le_mul_right _ z)
            have c4 : q' + 1 ≤ q := Nat.le_of_mul_le_mul_right c hLR
            omega
          have hwv : w = v := by
            have g4' := g4 (by omega)
            rw [hqq, Nat.add_sub_cancel, ← hqq, w2] at g4'
            injection g4' with g4'
            exact (nI_eq (by have := two_le (Nat.le_trans (cnt_le ro R) a4); omega) (by omega)).mp g4'
          subst hwv
          show (b ((q' + 1) * (L * R) + f * L)).toInt32 = _
          rw [← hqq, ← hk]
          exact t3 f hf e
      · have hqq : q' = q := by
          have c3 : ¬ (q' + 1 ≤ q) := fun z => c (Nat.mul_le_mul_right _ z)
          have c4 : q' + 1 ≤ q + 1 := Nat.le_of_mul_le_mul_right hq' hLR
          omega
        subst hqq
        refine ⟨v', by rw [← hk]; exact k1, hr, fun hq2 => by omega⟩
    · show (b (f * L)).toInt32 = 0
      rcases Nat.eq_zero_or_pos q with c | c
      · subst c
        have := t3 f hf e
        rw [Nat.zero_mul, Nat.zero_add, g5 rfl, Nat.zero_div] at this
        exact this
      · have hfL : f * L < L * R := by
          have : (f + 1) * L ≤ R * L := Nat.mul_le_mul_right L (by omega)
          rw [Nat.succ_mul, hRL] at this
          omega
        have : L * R ≤ q * (L * R) := Nat.le_mul_of_pos_left _ c
        rw [t1 _ (by omega)]
        exact g6 c f hf e
  · refine ⟨fun j _ => rfl, fun j j1 j2 => by omega, fun f hf => by omega, fun _ => S0, rfl, rfl, fun j j1 j2 => by omega⟩
theorem txm_is {nb : Nat} (hnb : nb < 2 ^ 31) (hnb2 : nb ≤ 7000) {L R K D : Nat} {ro : Nat → Int32} {p : SX5} (h : PV L R K D ro p) {n q0 : Nat} (hq : (q0 + n) * (L * R) ≤ nb) (hn : n ≤ 8) (m : Nat) : ∀ (k f : Nat) (_ : k + m = n) (_ : m ≤ f) (x : Int32) (v : Nat) (b : Nat → Int8) (S0 : SND) (_ : GL L R K ro p nb (q0 + k) b v), Tt (f_X6_transmit_7 (nI n) nb p ro (f + 1) x (nI k) (S0.1, S0.2.1, nI v) S0.2.2 (nI ((q0 + k) * (L * R))) b) (fun z => ∃ v' : Nat, GL L R K ro p nb (q0 + n) z.2.2.2 v' ∧ z.1.2.2 = nI v' ∧ z.2.2.1 = nI ((q0 + n) * (L * R)) ∧ (∀ j, j < (q0 + k) * (L * R) → z.2.2.2 j = b j) ∧ ∃ S : Nat → SND, S ((q0 + k) * (L * R)) = S0 ∧ S ((q0 + n) * (L * R)) = (z.1.1, z.1.2.1, z.2.1) ∧ LSD L R ro z.2.2.2 ((q0 + k) * (L * R)) ((q0 + n) * (L * R)) S) := by
  induction m with
  | zero =>
    intro k f hm _ x v b S0 hG
    have : k = n := by omega
    subst this
    rw [f_X6_transmit_7_s, if_pos (nI_le (Nat.le_refl _) (by omega))]
    exact tt_r ⟨v, hG, rfl, rfl, fun j _ => rfl, fun _ => S0, rfl, rfl, fun j j1 j2 => by omega⟩
  | succ m ih =>
    intro k f hm hf x v b S0 hG
    obtain ⟨f, rfl⟩ : ∃ q, f = q + 1 := ⟨f - 1, by omega⟩
    have e1 : (q0 + k + 1) * (L * R) ≤ (q0 + n) * (L * R) := Nat.mul_le_mul_right _ (by omega)
    have e2 : (q0 + k) * (L * R) ≤ (q0 + k + 1) * (L * R) := Nat.mul_le_mul_right _ (by omega)
    rw [f_X6_transmit_7_s, if_neg (nI_ge (by omega) (by omega)), nI_1]
    refine tt_b (tx1_is hnb hnb2 h (by omega) hG S0 x) ?_
    rintro ⟨x', ⟨t1, t2, t3⟩, tv, ts, tb⟩ ⟨v', k1, k2, k3, k4, S, s1, s2, s3⟩
    have k2 : t3 = nI v' := k2
    have k3 : ts = nI ((q0 + k + 1) * (L * R)) := k3
    have k4 : ∀ j, j < (q0 + k) * (L * R) → tb j = b j := k4
    subst k2
    subst k3
    have g := ih (k + 1) f (by omega) (by omega) x' v' tb (t1, t2, tv) k1
    refine tt_m g ?_
    rintro ⟨⟨u1, u2, u3⟩, uv, us, ub⟩ ⟨v2, r1, r2, r3, r4, S2, y1, y2, y3⟩
    have r4 : ∀ j, j < (q0 + (k + 1)) * (L * R) → ub j = tb j := r4
    have y3 : LSD L R ro ub ((q0 + (k + 1)) * (L * R)) ((q0 + n) * (L * R)) S2 := y3
    have y1 : S2 ((q0 + k + 1) * (L * R)) = (t1, t2, tv) := y1
    have s2 : S ((q0 + k + 1) * (L * R)) = (t1, t2, tv) := s2
    have s3 : LSD L R ro tb ((q0 + k) * (L * R)) ((q0 + k + 1) * (L * R)) S := s3
    have r4 : ∀ j, j < (q0 + k + 1) * (L * R) → ub j = tb j := r4
    have y3 : LSD L R ro ub ((q0 + k + 1) * (L * R)) ((q0 + n) * (L * R)) S2 := y3
    generalize hA : (q0 + k) * (L * R) = A at *
    generalize hB : (q0 + k + 1) * (L * R) = B at *
    generalize hC : (q0 + n) * (L * R) = C at *
    refine ⟨v2, r1, r2, r3, fun j hj => ?_, fun j => if j < B then S j else S2 j, ?_, ?_, fun j j1 j2 => ?_⟩
    · show ub j = b j
      rw [r4 j (by omega)]; exact k4 j hj
    · show (if A < B then S A else S2 A) = S0
      by_cases c : A < B
      · rw [if_pos c]; exact s1
      · have : A = B := by omega
        rw [if_neg c, this, y1, ← s2, ← this]
        exact s1
    · show (if C < B then S C else S2 C) = _
      rw [if_neg (by omega)]
      exact y2
    · show (_ → LK (if j < B then S j else S2 j) _ (if j + 1 < B then S (j + 1) else S2 (j + 1))) ∧ (_ → (if j + 1 < B then S (j + 1) else S2 (j + 1)) = (if j < B then S j else S2 j))
      by_cases c : j < B
      · have e3 : (if j + 1 < B then S (j + 1) else S2 (j + 1)) = S (j + 1) := by
          by_cases c2 : j + 1 < B
          · rw [if_pos c2]
          · have c3 : j + 1 = B := by omega
            rw [if_neg c2, c3, y1, s2]
        rw [if_pos c, e3]
        show (_ → LK _ (ub j).toInt32 _) ∧ _
        rw [r4 j c]
        exact s3 j j1 c
      · rw [if_neg c, if_neg (by omega)]
        exact y3 j (by omega) j2
