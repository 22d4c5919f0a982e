/-! A world of blocks: a call looks at some of them, the rest stays as it is. -/
section FOC
variable {D : va_G} {cl : List vw_C} {H : Heap} {A : Nat → Prop} {F G B1 B2 B3 B4 B5 B6 R : va_W}
theorem va_P.fl (h : va_P D cl (F ++ G) H) : va_P D cl F H := fun k q hk => h k q (by rw [List.getElem?_append_left (List.getElem?_eq_some_iff.mp hk).1]; exact hk)
theorem ap_r (k : Nat) : (F ++ G)[F.length + k]? = G[k]? := by
  rw [List.getElem?_append_right (Nat.le_add_right _ _), Nat.add_sub_cancel_left]
theorem va_P.fr (h : va_P D cl (F ++ G) H) : va_P D cl G H := fun k q hk => h (F.length + k) q (by rw [ap_r]; exact hk)
theorem va_D.fl (h : va_D A (F ++ G)) : va_D A F := by
  have key : ∀ {k : Nat} {q : Nat × va_E}, F[k]? = some q → (F ++ G)[k]? = some q := fun hk => by rw [List.getElem?_append_left (List.getElem?_eq_some_iff.mp hk).1]; exact hk
  exact ⟨fun i j p q hi hj e => h.1 i j p q (key hi) (key hj) e, fun k q hk => h.2 k q (key hk)⟩
theorem va_D.fr (h : va_D A (F ++ G)) : va_D A G := by
  refine ⟨fun i j p q hi hj e => ?_, fun k q hk => h.2 (F.length + k) q (by rw [ap_r]; exact hk)⟩
  have := h.1 (F.length + i) (F.length + j) p q (by rw [ap_r]; exact hi) (by rw [ap_r]; exact hj) e
  omega
theorem va_D.fx (h : va_D A (F ++ G)) {i j : Nat} {p q : Nat × va_E} (hi : F[i]? = some p) (hj : G[j]? = some q) : p.1 ≠ q.1 := by
  intro e
  have hl := (List.getElem?_eq_some_iff.mp hi).1
  have := h.1 i (F.length + j) p q (by rw [List.getElem?_append_left hl]; exact hi) (by rw [ap_r]; exact hj) e
  omega
/-- the same cells in another order -/
def WE (ws ws' : va_W) : Prop := ∃ f : Nat → Nat, (∀ k q, ws'[k]? = some q → ws[f k]? = some q) ∧ ∀ i j, i < ws'.length → j < ws'.length → f i = f j → i = j
theorem WE.pp {ws ws' : va_W} (h : WE ws ws') (hP : va_P D cl ws H) : va_P D cl ws' H := by
  obtain ⟨f, h1, _⟩ := h
  exact fun k q hk => hP (f k) q (h1 k q hk)
theorem WE.dd {ws ws' : va_W} (h : WE ws ws') (hD : va_D A ws) : va_D A ws' := by
  obtain ⟨f, h1, h2⟩ := h
  exact ⟨fun i j p q hi hj e => h2 i j (List.getElem?_eq_some_iff.mp hi).1 (List.getElem?_eq_some_iff.mp hj).1 (hD.1 _ _ p q (h1 i p hi) (h1 j q hj) e), fun k q hk => hD.2 (f k) q (h1 k q hk)⟩
theorem WE.rf (ws : va_W) : WE ws ws := ⟨id, fun _ _ h => h, fun _ _ _ _ h => h⟩
theorem WE.of {ws ws' : va_W} (h : ws = ws') : WE ws ws' := h ▸ WE.rf ws
theorem WE.tr {a b c : va_W} (h : WE a b) (h' : WE b c) : WE a c := by
  obtain ⟨f, f1, f2⟩ := h
  obtain ⟨g, g1, g2⟩ := h'
  refine ⟨fun k => f (g k), fun k q hk => f1 _ q (g1 k q hk), fun i j hi hj e => g2 i j hi hj ?_⟩
  have l : ∀ k, k < c.length → g k < b.length := fun k hk => (List.getElem?_eq_some_iff.mp (g1 k c[k] (List.getElem?_eq_getElem hk))).1
  exact f2 _ _ (l i hi) (l j hj) e
theorem WE.cg (C : va_W) {a b : va_W} (h : WE a b) : WE (C ++ a) (C ++ b) := by
  obtain ⟨f, f1, f2⟩ := h
  refine ⟨fun k => if k < C.length then k else C.length + f (k - C.length), fun k q hk => ?_, fun i j hi hj e => ?_⟩
  · dsimp only
    by_cases l : k < C.length
    · rw [List.getElem?_append_left l] at hk
      rw [if_pos l, List.getElem?_append_left l]
      exact hk
    · rw [List.getElem?_append_right (by omega)] at hk
      rw [if_neg l, ap_r]
      exact f1 _ q hk
  · dsimp only at e
    rw [List.length_append] at hi hj
    by_cases li : i < C.length <;> by_cases lj : j < C.length
    · rw [if_pos li, if_pos lj] at e; exact e
    · rw [if_pos li, if_neg lj] at e; omega
    · rw [if_neg li, if_pos lj] at e; omega
    · rw [if_neg li, if_neg lj] at e
      have := f2 (i - C.length) (j - C.length) (by omega) (by omega) (by omega)
      omega
theorem WE.sw (a b c : va_W) : WE (a ++ (b ++ c)) (b ++ (a ++ c)) := by
  refine ⟨fun k => if k < b.length then a.length + k else if k < b.length + a.length then k - b.length else k, fun k q hk => ?_, fun i j hi hj e => ?_⟩
  · dsimp only
    by_cases l : k < b.length
    · rw [List.getElem?_append_left l] at hk
      rw [if_pos l, ap_r, List.getElem?_append_left l]
      exact hk
    · rw [List.getElem?_append_right (by omega)] at hk
      rw [if_neg l]
      by_cases l2 : k < b.length + a.length
      · rw [List.getElem?_append_left (by omega)] at hk
        rw [if_pos l2, List.getElem?_append_left (by omega)]
        exact hk
      · rw [List.getElem?_append_right (by omega)] at hk
        rw [if_neg l2, List.getElem?_append_right (by omega), List.getElem?_append_right (by omega)]
        rw [show k - a.length - b.length = k - b.length - a.length by omega]
        exact hk
  · dsimp only at e
    rw [List.length_append, List.length_append] at hi hj
    by_cases l1 : i < b.length <;> by_cases l2 : j < b.length <;> by_cases l3 : i < b.length + a.length <;> by_cases l4 : j < b.length + a.length <;> simp only [l1, l2, l3, l4, if_true, if_false] at e <;> omega
theorem WE.as (a b c : va_W) : WE (a ++ (b ++ c)) ((a ++ b) ++ c) := WE.of (List.append_assoc a b c).symm
theorem WE.as' (a b c : va_W) : WE ((a ++ b) ++ c) (a ++ (b ++ c)) := WE.of (List.append_assoc a b c)
/-- the k-th of the blocks comes first, and goes back -/
theorem WE.f2 : WE (B1 ++ (B2 ++ R)) (B2 ++ (B1 ++ R)) := WE.sw _ _ _
theorem WE.f3 : WE (B1 ++ (B2 ++ (B3 ++ R))) (B3 ++ (B1 ++ (B2 ++ R))) := (WE.cg B1 (WE.sw _ _ _)).tr (WE.sw _ _ _)
theorem WE.b3 : WE (B3 ++ (B1 ++ (B2 ++ R))) (B1 ++ (B2 ++ (B3 ++ R))) := (WE.sw _ _ _).tr (WE.cg B1 (WE.sw _ _ _))
theorem WE.f4 : WE (B1 ++ (B2 ++ (B3 ++ (B4 ++ R)))) (B4 ++ (B1 ++ (B2 ++ (B3 ++ R)))) := (WE.cg B1 WE.f3).tr (WE.sw _ _ _)
theorem WE.b4 : WE (B4 ++ (B1 ++ (B2 ++ (B3 ++ R)))) (B1 ++ (B2 ++ (B3 ++ (B4 ++ R)))) := (WE.sw _ _ _).tr (WE.cg B1 WE.b3)
theorem WE.f5 : WE (B1 ++ (B2 ++ (B3 ++ (B4 ++ (B5 ++ R))))) (B5 ++ (B1 ++ (B2 ++ (B3 ++ (B4 ++ R))))) := (WE.cg B1 WE.f4).tr (WE.sw _ _ _)
theorem WE.b5 : WE (B5 ++ (B1 ++ (B2 ++ (B3 ++ (B4 ++ R))))) (B1 ++ (B2 ++ (B3 ++ (B4 ++ (B5 ++ R))))) := (WE.sw _ _ _).tr (WE.cg B1 WE.b4)
theorem WE.f6 : WE (B1 ++ (B2 ++ (B3 ++ (B4 ++ (B5 ++ (B6 ++ R)))))) (B6 ++ (B1 ++ (B2 ++ (B3 ++ (B4 ++ (B5 ++ R)))))) := (WE.cg B1 WE.f5).tr (WE.sw _ _ _)
theorem WE.b6 : WE (B6 ++ (B1 ++ (B2 ++ (B3 ++ (B4 ++ (B5 ++ R)))))) (B1 ++ (B2 ++ (B3 ++ (B4 ++ (B5 ++ (B6 ++ R)))))) := (WE.sw _ _ _).tr (WE.cg B1 WE.b5)
end FOC
abbrev isGn (isC isR isF : List Nat) : Bool := va_nd isR && va_nd isC && va_nd isF && isR.all (fun i => !isC.contains i)
section GF
variable {p : Program} {l : Launch} {e : Env} {R : Room} {s : State} {m : MethodId} {args : Array Value} {below : List Frame} {meth : Method} {c : Code} {H : Heap} {locs : List Loc} {cells slots : Nat} {Q : State → Prop}
variable {cc : ByteArray} {pc : Nat} {ls : Array Slot} {rest st : List Value} {D : va_G} {cy : Nat → ClassId} {K V : Nat → Nat} {A : Nat → Prop} {F G RF WC WO WF : va_W} {H0 : Heap}
theorem my_backG (hP : va_P D vwCl (F ++ G) H) (hD : va_D A (F ++ G)) (hS : va_S A H0 H locs) (hA : ∀ q : Nat, H0.size ≤ q → A q) (isC isR isF : List Nat) (hC : isC.map (fun i => F[i]?) = WC.map some) (hR : isR.map (fun i => F[i]?) = RF.map some) (hg : isGn isC isR isF = true) (hF : isF.map (fun i => (RF ++ WO)[i]?) = WF.map some)
    {H1 : Heap} (hk1 : ∀ q : Nat, q < H.size → ¬ va_A WC H.size q → H1[q]? = H[q]?) (hP1 : va_P D vwCl WO H1) (hD1 : va_D (va_A WC H.size) WO) : va_P D vwCl (WF ++ G) H1 ∧ va_D A (WF ++ G) := by
  simp only [isGn, Bool.and_eq_true] at hg
  obtain ⟨⟨⟨g1, g2⟩, g3⟩, g4⟩ := hg
  have hFc := va_free (wc := WC) hD.fl hS hA isC hC
  obtain ⟨j1, j2⟩ := va_join (wr := RF) hP.fl hD.fl isC isR hC hR g1 (isG_d g4) hk1 hFc hP1 hD1
  have at' : ∀ {is : List Nat} {u w : va_W}, is.map (fun i => u[i]?) = w.map some → ∀ (k : Nat) (q : Nat × va_E), w[k]? = some q → ∃ i : Nat, u[i]? = some q := by
    intro is u w hs k q hq
    have h1 : (is.map (fun i => u[i]?))[k]? = some (some q) := by rw [hs, List.getElem?_map, hq]; rfl
    rw [List.getElem?_map] at h1
    cases hi : is[k]? with
    | none => rw [hi] at h1; cases h1
    | some i => rw [hi] at h1; exact ⟨i, Option.some.inj h1⟩
  have gap : ∀ (k : Nat) (q : Nat × va_E), G[k]? = some q → q.1 < H.size ∧ ¬ va_A WC H.size q.1 := by
    intro k q hq
    have hl := (hP.fr k q hq).lt
    refine ⟨hl, fun h => ?_⟩
    rcases h with ⟨k2, e, h⟩ | h
    · obtain ⟨i, hi⟩ := at' hC k2 (q.1, e) h
      exact hD.fx hi hq rfl
    · omega
  refine ⟨va_P.app (j1.sub isF (m_fm hF)) (fun k q hq => (hP.fr k q hq).kept (hk1 q.1 (gap k q hq).1 (gap k q hq).2)), va_D.app (j2.sub isF g3 hF) hD.fr (fun i j x y hx hy e => ?_)⟩
  obtain ⟨i', hi⟩ := at' hF i x hx
  rcases Nat.lt_or_ge i' RF.length with h | h
  · rw [List.getElem?_append_left h] at hi
    obtain ⟨i2, h2⟩ := at' hR i' x hi
    exact hD.fx h2 hy e
  · rw [List.getElem?_append_right h] at hi
    exact (gap j y hy).2 (by rw [← e]; exact hD1.2 _ x hi)
variable {y : MethodName} {rm : Room} {wsc Ts : List Cond} {bytes : ByteArray} {maxL nL index n mc ms sa : Nat} {ret : Option FieldType} {own C : String} {b : Addr} {As : List Value} {r : Int32} {hh : List (Nat × Nat × Nat × Nat)}
theorem my_callViG (S : CallFix p m c cc nL s args Ts own) (hls : ls.size = nL) (hM : Met l y wsc rm (PRE D cy (.ref b :: As) H.size WC) (POi D r WO (va_A WC H.size)) mc ms (va_A WC H.size)) (cw : CallW R s args own C index y bytes maxL ret wsc rm mc ms n)
    (hK : KK D cy s) (hP : va_P D vwCl (F ++ G) H) (hD : va_D A (F ++ G)) (hS : va_S A H0 H locs) (hA : ∀ q : Nat, H0.size ≤ q → A q) (isC isR isF : List Nat) (hC : isC.map (fun i => F[i]?) = WC.map some) (hR : isR.map (fun i => F[i]?) = RF.map some) (hg : isGn isC isR isF = true) (hF : isF.map (fun i => (RF ++ WO)[i]?) = WF.map some)
    (q0 ci : Nat) {fs : List Value} {T : u_T} {N : Nat} (hc : vwCl[ci]? = some (C, T, N)) (he : F[q0]? = some (b, .inr (ci, fs))) (hst : st = As.reverse ++ .ref b :: rest) (hnl : As.length = n) (hW : (rest.map fun v => v.category).sum ≤ 8) (hdg : decode cc pc = .ok (.invokevirtual index, 3)) (hf : cells + mc ≤ R.cells ∧ slots + ms ≤ R.slots)
    (kk : ∀ (H1 : Heap) (locs1 : List Loc), va_P D vwCl (WF ++ G) H1 → va_D A (WF ++ G) → va_S A H0 H1 locs1 → W p l e R s m args below meth c H1 locs1 (cells + mc) (slots + ms) Q (F0 m (pc + 3) ls (.int r :: rest))) : W p l e R s m args below meth c H locs cells slots Q (F0 m pc ls st) := by
  have hg' := hg
  simp only [isGn, Bool.and_eq_true] at hg'
  have hFc := va_free (wc := WC) hD.fl hS hA isC hC
  refine va_calli (va_runV S hM cw ⟨fb_pre, va_recv hK.1 hP.fl hc he, fun U hU hW => ⟨rfl, my_in hD.fl hP.fl hK hC hg'.1.1.2 hU hW⟩⟩ rfl hnl hls hst (lv_room hW) hdg hf) hS (fun q _ h => hFc q h) hFc (fun r' u t H1 locs1 ht hvm hw hB hz1 hk1 hS1 => ?_)
  obtain ⟨hP1, hD1⟩ := hB
  subst hw
  rw [ht] at hP1
  obtain ⟨k1, k2⟩ := my_backG hP hD hS hA isC isR isF hC hR hg hF hk1 hP1 hD1
  exact kk H1 locs1 k1 k2 hS1
theorem my_callViSG (S : CallFix p m c cc nL s args Ts own) (hls : ls.size = nL) (hM : Met l y wsc rm (PRS D cy K V (.ref b :: As) H.size WC) (POi D r WO (va_A WC H.size)) mc ms (va_A WC H.size)) (cw : CallW R s args own C index y bytes maxL ret wsc rm mc ms n) (hX : SXP K V A s)
    (hK : KK D cy s) (hP : va_P D vwCl (F ++ G) H) (hD : va_D A (F ++ G)) (hS : va_S A s.heap H locs) (hA : ∀ q : Nat, s.heap.size ≤ q → A q) (isC isR isF : List Nat) (hC : isC.map (fun i => F[i]?) = WC.map some) (hR : isR.map (fun i => F[i]?) = RF.map some) (hg : isGn isC isR isF = true) (hF : isF.map (fun i => (RF ++ WO)[i]?) = WF.map some)
    (q0 ci : Nat) {fs : List Value} {T : u_T} {N : Nat} (hc : vwCl[ci]? = some (C, T, N)) (he : F[q0]? = some (b, .inr (ci, fs))) (hst : st = As.reverse ++ .ref b :: rest) (hnl : As.length = n) (hW : (rest.map fun v => v.category).sum ≤ 8) (hdg : decode cc pc = .ok (.invokevirtual index, 3)) (hf : cells + mc ≤ R.cells ∧ slots + ms ≤ R.slots)
    (kk : ∀ (H1 : Heap) (locs1 : List Loc), va_P D vwCl (WF ++ G) H1 → va_D A (WF ++ G) → va_S A s.heap H1 locs1 → W p l e R s m args below meth c H1 locs1 (cells + mc) (slots + ms) Q (F0 m (pc + 3) ls (.int r :: rest))) : W p l e R s m args below meth c H locs cells slots Q (F0 m pc ls st) := by
  have hg' := hg
  simp only [isGn, Bool.and_eq_true] at hg'
  have hFc := va_free (wc := WC) hD.fl hS hA isC hC
  refine va_calli (va_runV S hM cw ⟨fb_prs, va_recv hK.1 hP.fl hc he, fun U hU hW => ⟨rfl, my_in hD.fl hP.fl hK hC hg'.1.1.2 hU hW, hX.later hS hU hW hFc⟩⟩ rfl hnl hls hst (lv_room hW) hdg hf) hS (fun q _ h => hFc q h) hFc (fun r' u t H1 locs1 ht hvm hw hB hz1 hk1 hS1 => ?_)
  obtain ⟨hP1, hD1⟩ := hB
  subst hw
  rw [ht] at hP1
  obtain ⟨k1, k2⟩ := my_backG hP hD hS hA isC isR isF hC hR hg hF hk1 hP1 hD1
  exact kk H1 locs1 k1 k2 hS1
theorem my_callRoleG (S : CallFix p m c cc nL s args Ts own) (hls : ls.size = nL) (hM : ∀ (hl9 : l.stackTraces = false) (sa : Nat), Met l y wsc rm (PRX D cy As H.size sa WC) (POi D r WO (va_A WC H.size)) mc ms (va_A WC H.size)) (hl9 : l.stackTraces = false) (hRX : RXP A sa s) (cw : vx_CSW R s args own index y bytes maxL ret hh wsc rm mc ms n)
    (hK : KK D cy s) (hP : va_P D vwCl (F ++ G) H) (hD : va_D A (F ++ G)) (hS : va_S A s.heap H locs) (hA : ∀ q : Nat, s.heap.size ≤ q → A q) (isC isR isF : List Nat) (hC : isC.map (fun i => F[i]?) = WC.map some) (hR : isR.map (fun i => F[i]?) = RF.map some) (hg : isGn isC isR isF = true) (hF : isF.map (fun i => (RF ++ WO)[i]?) = WF.map some)
    (hst : st = As.reverse ++ rest) (hnl : As.length = n) (hW : (rest.map fun v => v.category).sum ≤ 8) (hdg : decode cc pc = .ok (.invokestatic index, 3)) (hf : cells + mc ≤ R.cells ∧ slots + ms ≤ R.slots)
    (kk : ∀ (H1 : Heap) (locs1 : List Loc), va_P D vwCl (WF ++ G) H1 → va_D A (WF ++ G) → va_S A s.heap H1 locs1 → W p l e R s m args below meth c H1 locs1 (cells + mc) (slots + ms) Q (F0 m (pc + 3) ls (.int r :: rest))) : W p l e R s m args below meth c H locs cells slots Q (F0 m pc ls st) := by
  have hg' := hg
  simp only [isGn, Bool.and_eq_true] at hg'
  have hFc := va_free (wc := WC) hD.fl hS hA isC hC
  refine va_calli (vx_runSW S (hM hl9 sa) cw ⟨fb_prx, fun U hU hW => ⟨rfl, my_in hD.fl hP.fl hK hC hg'.1.1.2 hU hW, hRX.later hS hU hW hFc⟩⟩ rfl hnl hls hst (lv_room hW) hdg hf) hS (fun q _ h => hFc q h) hFc (fun r' u t H1 locs1 ht hvm hw hB hz1 hk1 hS1 => ?_)
  obtain ⟨hP1, hD1⟩ := hB
  subst hw
  rw [ht] at hP1
  obtain ⟨k1, k2⟩ := my_backG hP hD hS hA isC isR isF hC hR hg hF hk1 hP1 hD1
  exact kk H1 locs1 k1 k2 hS1
end GF
