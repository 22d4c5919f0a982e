/-! constructor calls: the rest, then the callee's cells -/
theorem m_id {α : Type} {l : List α} {is : List Nat} (h : is = List.range l.length) : is.map (fun i => l[i]?) = l.map some := by
  subst h
  apply List.ext_getElem?
  intro i
  by_cases hi : i < l.length
  · simp [hi]
  · simp [hi]
section GN2
variable {p : Program} {l : Launch} {e : Env} {R : Room} {s : State} {m : MethodId} {args : Array Value} {below : List Frame} {meth : Method} {c : Code} {H : Heap} {locs : List Loc} {cells slots : Nat} {Q : State → Prop}
variable {cc : ByteArray} {pc : Nat} {ls : Array Slot} {rest st : List Value} {D : va_G} {cy : Nat → ClassId} {A : Nat → Prop} {a : Nat} {ws : va_W} {H0 : Heap}
variable {WC : va_W} {WO : (Nat → Nat) → va_W} {y : MethodName} {rm : Room} {wsc Ts : List Cond} {bytes : ByteArray} {maxL nL index n mc ms : Nat} {ret : Option FieldType} {own C : String} {b : Addr} {As : List Value}
abbrev isG2 (ws : va_W) (isC isR : List Nat) : Bool := va_nd isR && va_nd isC && isR.all (fun i => !isC.contains i) && isR.all (fun i => (ws[i]?).isSome)
theorem my_back2 {WO : va_W} (hP : va_P D vwCl ws H) (hD : va_D A ws) (hS : va_S A H0 H locs) (hA : ∀ q : Nat, H0.size ≤ q → A q) (isC isR : List Nat) (hC : isC.map (fun i => ws[i]?) = WC.map some) (hg : isG2 ws isC isR = true)
    {H1 : Heap} (hk1 : ∀ q : Nat, q < H.size → ¬ va_A WC H.size q → H1[q]? = H[q]?) (hP1 : va_P D vwCl WO H1) (hD1 : va_D (va_A WC H.size) WO) : va_P D vwCl (isR.filterMap (fun i => ws[i]?) ++ WO) H1 ∧ va_D A (isR.filterMap (fun i => ws[i]?) ++ WO) := by
  simp only [isG2, Bool.and_eq_true] at hg
  obtain ⟨⟨⟨g1, g2⟩, g4⟩, g5⟩ := hg
  have hFc := va_free (wc := WC) hD hS hA isC hC
  exact va_join (wr := isR.filterMap (fun i => ws[i]?)) hP hD isC isR hC (m_mf g5) g1 (isG_d g4) hk1 hFc hP1 hD1
theorem my_callIn2 (S : CallFix p m c cc nL s args Ts own) (hls : ls.size = nL) (hM : Met l y wsc rm (PRE D cy (.ref b :: As) H.size WC) (POn D WO (va_A WC H.size)) mc ms (va_A WC H.size)) (cw : CallB R s args own index y bytes maxL none wsc rm mc ms n ∧ y.name = "<init>" ∧ (Cond.instanceMethod y).before args s = true)
    (hK : KK D cy s) (hP : va_P D vwCl ws H) (hD : va_D A ws) (hS : va_S A H0 H locs) (hA : ∀ q : Nat, H0.size ≤ q → A q) (isC isR : List Nat) (hC : isC.map (fun i => ws[i]?) = WC.map some) (hg : isG2 ws isC isR = true)
    (hst : st = As.reverse ++ .ref b :: rest) (hnl : As.length = n) (hW : (rest.map fun v => v.category).sum ≤ 8) (hdg : decode cc pc = .ok (.invokespecial index, 3)) (hf : cells + mc ≤ R.cells ∧ slots + ms ≤ R.slots)
    (kk : ∀ (q : Nat → Nat) (H1 : Heap) (locs1 : List Loc), va_P D vwCl (isR.filterMap (fun i => ws[i]?) ++ WO q) H1 → va_D A (isR.filterMap (fun i => ws[i]?) ++ WO q) → va_S A H0 H1 locs1 → W p l e R s m args below meth c H1 locs1 (cells + mc) (slots + ms) Q (F0 m (pc + 3) ls rest)) : W p l e R s m args below meth c H locs cells slots Q (F0 m pc ls st) := by
  have hg' := hg
  simp only [isG2, Bool.and_eq_true] at hg'
  have hFc := va_free (wc := WC) hD hS hA isC hC
  refine va_callv (va_runI S hM cw ⟨fb_pre, fun U hU hW => ⟨rfl, my_in hD hP hK hC hg'.1.1.2 hU hW⟩⟩ rfl hnl hls hst (lv_room hW) hdg hf) hS (fun q _ h => hFc q h) hFc (fun u t H1 locs1 ht hvm hw hB hz1 hk1 hS1 => ?_)
  obtain ⟨hP1, hD1⟩ := hB
  rw [ht] at hP1
  obtain ⟨k1, k2⟩ := my_back2 hP hD hS hA isC isR hC hg hk1 hP1 hD1
  exact kk u H1 locs1 k1 k2 hS1
theorem my_callNn2 {host : String} (S : CallFix p m c cc nL s args Ts own) (hls : ls.size = nL) (hM : Met l y wsc rm (PRE D cy (.ref b :: As) H.size WC) (POn D WO (va_A WC H.size)) mc ms (va_A WC H.size)) (cw : va_CN R s args own index y host bytes maxL none wsc rm mc ms n ∧ y.name = "<init>" ∧ (Cond.instanceMethod y).before args s = true)
    (hK : KK D cy s) (hP : va_P D vwCl ws H) (hD : va_D A ws) (hS : va_S A H0 H locs) (hA : ∀ q : Nat, H0.size ≤ q → A q) (isC isR : List Nat) (hC : isC.map (fun i => ws[i]?) = WC.map some) (hg : isG2 ws isC isR = true)
    (hst : st = As.reverse ++ .ref b :: rest) (hnl : As.length = n) (hW : (rest.map fun v => v.category).sum ≤ 8) (hdg : decode cc pc = .ok (.invokespecial index, 3)) (hf : cells + mc ≤ R.cells ∧ slots + ms ≤ R.slots)
    (kk : ∀ (q : Nat → Nat) (H1 : Heap) (locs1 : List Loc), va_P D vwCl (isR.filterMap (fun i => ws[i]?) ++ WO q) H1 → va_D A (isR.filterMap (fun i => ws[i]?) ++ WO q) → va_S A H0 H1 locs1 → W p l e R s m args below meth c H1 locs1 (cells + mc) (slots + ms) Q (F0 m (pc + 3) ls rest)) : W p l e R s m args below meth c H locs cells slots Q (F0 m pc ls st) := by
  have hg' := hg
  simp only [isG2, Bool.and_eq_true] at hg'
  have hFc := va_free (wc := WC) hD hS hA isC hC
  refine va_callv (va_runIN S hM cw ⟨fb_pre, fun U hU hW => ⟨rfl, my_in hD hP hK hC hg'.1.1.2 hU hW⟩⟩ rfl hnl hls hst (lv_room hW) hdg hf) hS (fun q _ h => hFc q h) hFc (fun u t H1 locs1 ht hvm hw hB hz1 hk1 hS1 => ?_)
  obtain ⟨hP1, hD1⟩ := hB
  rw [ht] at hP1
  obtain ⟨k1, k2⟩ := my_back2 hP hD hS hA isC isR hC hg hk1 hP1 hD1
  exact kk u H1 locs1 k1 k2 hS1
end GN2
