/-! The reader's words: String constants that lie outside of the world; the JDK's methods that read them. -/
def sx_k : List Nat := [57, 67, 84, 88, 92, 96, 100, 105, 109]
def sx_t : List String := ["roles", "wrong", "length", "poly", "width", "stolen", "least", "drift", "lag"]
def sx_n : List Nat := [5, 5, 6, 4, 5, 6, 5, 5, 3]
def sx_b : List (List Int32) := [[114, 111, 108, 101, 115], [119, 114, 111, 110, 103], [108, 101, 110, 103, 116, 104], [112, 111, 108, 121], [119, 105, 100, 116, 104], [115, 116, 111, 108, 101, 110], [108, 101, 97, 115, 116], [100, 114, 105, 102, 116], [108, 97, 103]]
def sx_z (i : Nat) : Nat := sx_n.getD i 0
def sx_l (i : Nat) : Int32 := Int32.ofNat (sx_n.getD i 0)
def sx_c (i j : Nat) : Int32 := (sx_b.getD i []).getD j 0
def SXP (K V : Nat → Nat) (A : Nat → Prop) (U : State) : Prop := (∀ i : Nat, i < 9 → vk_R RX3 (sx_k.getD i 0) (sx_t.getD i "") (K i) U) ∧ vk_S 9 sx_n sx_b K V A U U.heap ∧ va_Z "java/lang/String" "COMPACT_STRINGS" "Z" (.int 1) A U U.heap ∧ va_Zq "jdk/internal/util/Preconditions" "SIOOBE_FORMATTER" "Ljava/util/function/BiFunction;" A U U.heap
theorem SXP.later {K V : Nat → Nat} {A B : Nat → Prop} {s U : State} {H : Heap} {locs : List Loc} (h : SXP K V A s) (hS : va_S A s.heap H locs) (hU : U.heap = H) (hW : s.WarmedH U.vm) (hAB : ∀ q, B q → A q) : SXP K V B U := by
  obtain ⟨h1, h2, h3, h4⟩ := h
  refine ⟨fun i hi => vk_R.warm hW (h1 i hi), ?_, ?_, ?_⟩
  · rw [hU]; exact (vk_S.moved hW.alike (h2.kept hS.2.1)).narrow hAB
  · rw [hU]; exact (va_Z.moved hW.alike (h3.kept hS.2.1)).narrow hAB
  · rw [hU]; exact (va_Zq.moved hW.alike (h4.kept hS.2.1)).narrow hAB
theorem SXP.calling {K V : Nat → Nat} {A : Nat → Prop} {U : State} {g : JFrame} {mk : MethodId} {a : Array Value} (h : SXP K V A U) : SXP K V A (U.calling g mk a) := by
  obtain ⟨h1, h2, h3, h4⟩ := h
  exact ⟨fun i hi => vk_R.same (u := U) rfl (h1 i hi), vk_S.moved (u := U) (U := U.calling g mk a) (Vm.Alike.refl U.vm) h2, va_Z.moved (u := U) (U := U.calling g mk a) (Vm.Alike.refl U.vm) h3, va_Zq.moved (u := U) (U := U.calling g mk a) (Vm.Alike.refl U.vm) h4⟩
abbrev PRS (D : va_G) (cy : Nat → ClassId) (K V : Nat → Nat) (av : List Value) (sz : Nat) (WI : va_W) : Array Value → State → Prop := va_Pc av (fun U => (U.heap.size = sz ∧ va_P D vwCl WI U.heap ∧ KK D cy U ∧ va_D (fun _ => True) WI) ∧ SXP K V (va_A WI sz) U)
theorem fb_prs {D : va_G} {cy : Nat → ClassId} {K V : Nat → Nat} {av : List Value} {sz : Nat} {WI : va_W} : FrameBlind (PRS D cy K V av sz WI) := by
  intro a U g mk q
  obtain ⟨q0, ⟨q1, qP, qK, qD⟩, qX⟩ := q
  exact ⟨q0, ⟨q1, qP, ⟨va_K.moved (u := U) (U := U.calling g mk a) (Vm.Alike.refl U.vm) qK.1, KN.same (U := U.calling g mk a) rfl qK.2⟩, qD⟩, SXP.calling qX⟩
theorem entS {l : Launch} {y : MethodName} {ws ws' : List Cond} {rm : Room} {D : va_G} {cy : Nat → ClassId} {K V : Nat → Nat} {av : List Value} {sz : Nat} {WI : va_W} (QA : (Nat → Prop) → Array Value → State → Outcome → State → Prop) {mc ms : Nat} {cc : ByteArray} {maxL : Nat} {ret : Option FieldType}
    (hy : plainName y.cls = true) (hw : ws = Cond.code y cc maxL ret :: ws') (hlen : (lg_sl av).length ≤ maxL)
    (body : ∀ (p : Program) (e : Env) (s : State) (m : MethodId) (args : Array Value) (below : List Frame) (meth : Method) (c : Code) (A : Nat → Prop) (ls : Array Slot) (H : Heap) (locs : List Loc), p.tables.exec = Jvm.exec → c.code = cc → c.maxLocals = maxL → meth.sig.returnType = ret → meth.locks = false → s.vm.findClass y.cls = some m.cls → (∀ w ∈ ws, w.before args s = true) → meth.name = y.name → (∀ q : Nat, s.heap.size ≤ q → A q) → KK D cy s → va_P D vwCl WI H → va_D A WI → va_S A s.heap H locs → lv_has ls maxL (lv_args 0 av) → SXP K V A s → W p l e rm s m args below meth c H locs 0 0 (MQ below (QA A) args s mc ms A) (F0 m 0 ls [])) :
    Met l y ws rm (PRS D cy K V av sz WI) (QA (va_A WI sz)) mc ms (va_A WI sz) := by
  refine Met.ofW (cc := cc) (maxL := maxL) (ret := ret) hy hw ?_
  intro p e s m args below meth c s₁ B hml hv
  obtain ⟨rfl, ⟨hsz, hP, hK, hD0⟩, hX⟩ := hv
  subst hsz
  have hl := lv_entry av (n := maxL) hlen
  rw [lg_entry_eq]
  exact body p e s m _ below meth c (va_A WI s.heap.size) _ s.heap [] B.exec B.bytes hml B.returns B.notSynchronized (findClass_of_methodNamed B.named) (atoms_spec (ws := ws) B.pre) (name_of_methodNamed B.named B.method).1 (fun q h => Or.inr h) hK hP (hD0.self (sz := s.heap.size)) va_S.rf hl hX
section GS
variable {p : Program} {l : Launch} {e : Env} {R : Room} {s : State} {m : MethodId} {args : Array Value} {below : List Frame} {meth : Method} {c : Code} {H : Heap} {locs : List Loc} {cells slots : Nat} {Q : State → Prop}
variable {cc : ByteArray} {pc : Nat} {ls : Array Slot} {rest st : List Value} {D : va_G} {cy : Nat → ClassId} {K V : Nat → Nat} {A : Nat → Prop} {ws : va_W}
theorem fin_ty {WO : va_W} {v : Int32} {ty : FieldType} (hx : p.tables.exec = Jvm.exec) (hb : c.code = cc) (hr : meth.sig.returnType = some ty) (hlocks : meth.locks = false) (hn : narrow ty (.int v) = .int v) (hP : va_P D vwCl WO H) (hD : va_D A WO) (hS : va_S A s.heap H locs) (hdg : decode cc pc = .ok (.ireturn, 1)) :
    W p l e R s m args below meth c H locs cells slots (MQ below (POi D v WO A) args s cells slots A) (F0 m pc ls [.int v]) :=
  W.zret hx hb hr hn (fun t ht hW => ⟨⟨v, (), rfl, rfl, by rw [ht]; exact hP, hD⟩, hS.F ht⟩) hS.2.2 hdg hlocks
variable {WC WO WF : va_W} {y : MethodName} {rm : Room} {wsc Ts : List Cond} {bytes : ByteArray} {maxL nL index n mc ms : Nat} {ret : Option FieldType} {own C : String} {b : Addr} {As : List Value} {r : Int32}
theorem my_callViS (S : CallFix p m c cc nL s args Ts own) (hls : ls.size = nL) (hM : Met l y wsc rm (PRS D cy K V (.ref b :: As) H.size WC) (POi D r WO (va_A WC H.size)) mc ms (va_A WC H.size)) (cw : CallW R s args own C index y bytes maxL ret wsc rm mc ms n) (hX : SXP K V A s)
    (hK : KK D cy s) (hP : va_P D vwCl ws H) (hD : va_D A ws) (hS : va_S A s.heap H locs) (hA : ∀ q : Nat, s.heap.size ≤ q → A q) (isC isR isF : List Nat) (hC : isC.map (fun i => ws[i]?) = WC.map some) (hg : isG ws isC isR isF = true) (hF : isF.map (fun i => ((isR.filterMap (fun i => ws[i]?)) ++ WO)[i]?) = WF.map some)
    (hrc : ∃ cell : Cell, H[b]? = some cell ∧ cell.vm.isStatics = false ∧ s.vm.findClass C = some cell.cls) (hst : st = As.reverse ++ .ref b :: rest) (hnl : As.length = n) (hW : (rest.map fun v => v.category).sum ≤ 8) (hdg : decode cc pc = .ok (.invokevirtual index, 3)) (hf : cells + mc ≤ R.cells ∧ slots + ms ≤ R.slots)
    (kk : ∀ (H1 : Heap) (locs1 : List Loc), va_P D vwCl WF H1 → va_D A WF → va_S A s.heap H1 locs1 → W p l e R s m args below meth c H1 locs1 (cells + mc) (slots + ms) Q (F0 m (pc + 3) ls (.int r :: rest))) : W p l e R s m args below meth c H locs cells slots Q (F0 m pc ls st) := by
  have hg' := hg
  simp only [isG, Bool.and_eq_true] at hg'
  have hFc := va_free (wc := WC) hD hS hA isC hC
  refine va_calli (va_runV S hM cw ⟨fb_prs, hrc, fun U hU hW => ⟨rfl, my_in hD hP hK hC hg'.1.1.1.2 hU hW, hX.later hS hU hW hFc⟩⟩ rfl hnl hls hst (lv_room hW) hdg hf) hS (fun q _ h => hFc q h) hFc (fun r' u t H1 locs1 ht hvm hw hB hz1 hk1 hS1 => ?_)
  obtain ⟨hP1, hD1⟩ := hB
  subst hw
  rw [ht] at hP1
  obtain ⟨k1, k2⟩ := my_back hP hD hS hA isC isR isF hC hg hF hk1 hP1 hD1
  exact kk H1 locs1 k1 k2 hS1
theorem my_callVvS (S : CallFix p m c cc nL s args Ts own) (hls : ls.size = nL) (hM : Met l y wsc rm (PRS D cy K V (.ref b :: As) H.size WC) (POv D WO (va_A WC H.size)) mc ms (va_A WC H.size)) (cw : CallW R s args own C index y bytes maxL ret wsc rm mc ms n) (hX : SXP K V A s)
    (hK : KK D cy s) (hP : va_P D vwCl ws H) (hD : va_D A ws) (hS : va_S A s.heap H locs) (hA : ∀ q : Nat, s.heap.size ≤ q → A q) (isC isR isF : List Nat) (hC : isC.map (fun i => ws[i]?) = WC.map some) (hg : isG ws isC isR isF = true) (hF : isF.map (fun i => ((isR.filterMap (fun i => ws[i]?)) ++ WO)[i]?) = WF.map some)
    (hrc : ∃ cell : Cell, H[b]? = some cell ∧ cell.vm.isStatics = false ∧ s.vm.findClass C = some cell.cls) (hst : st = As.reverse ++ .ref b :: rest) (hnl : As.length = n) (hW : (rest.map fun v => v.category).sum ≤ 8) (hdg : decode cc pc = .ok (.invokevirtual index, 3)) (hf : cells + mc ≤ R.cells ∧ slots + ms ≤ R.slots)
    (kk : ∀ (H1 : Heap) (locs1 : List Loc), va_P D vwCl WF H1 → va_D A WF → va_S A s.heap H1 locs1 → W p l e R s m args below meth c H1 locs1 (cells + mc) (slots + ms) Q (F0 m (pc + 3) ls rest)) : W p l e R s m args below meth c H locs cells slots Q (F0 m pc ls st) := by
  have hg' := hg
  simp only [isG, Bool.and_eq_true] at hg'
  have hFc := va_free (wc := WC) hD hS hA isC hC
  refine va_callv (va_runV S hM cw ⟨fb_prs, hrc, fun U hU hW => ⟨rfl, my_in hD hP hK hC hg'.1.1.1.2 hU hW, hX.later hS hU hW hFc⟩⟩ rfl hnl hls hst (lv_room hW) hdg hf) hS (fun q _ h => hFc q h) hFc (fun u t H1 locs1 ht hvm hw hB hz1 hk1 hS1 => ?_)
  obtain ⟨hP1, hD1⟩ := hB
  rw [ht] at hP1
  obtain ⟨k1, k2⟩ := my_back hP hD hS hA isC isR isF hC hg hF hk1 hP1 hD1
  exact kk H1 locs1 k1 k2 hS1
theorem my_callSiS (S : CallFix p m c cc nL s args Ts own) (hls : ls.size = nL) (hM : Met l y wsc rm (PRS D cy K V As H.size WC) (POi D r WO (va_A WC H.size)) mc ms (va_A WC H.size)) (cw : CallB R s args own index y bytes maxL ret wsc rm mc ms n ∧ (Cond.static y).before args s = true) (hX : SXP K V A s)
    (hK : KK D cy s) (hP : va_P D vwCl ws H) (hD : va_D A ws) (hS : va_S A s.heap H locs) (hA : ∀ q : Nat, s.heap.size ≤ q → A q) (isC isR isF : List Nat) (hC : isC.map (fun i => ws[i]?) = WC.map some) (hg : isG ws isC isR isF = true) (hF : isF.map (fun i => ((isR.filterMap (fun i => ws[i]?)) ++ WO)[i]?) = WF.map some)
    (hst : st = As.reverse ++ rest) (hnl : As.length = n) (hW : (rest.map fun v => v.category).sum ≤ 8) (hdg : decode cc pc = .ok (.invokestatic index, 3)) (hf : cells + mc ≤ R.cells ∧ slots + ms ≤ R.slots)
    (kk : ∀ (H1 : Heap) (locs1 : List Loc), va_P D vwCl WF H1 → va_D A WF → va_S A s.heap H1 locs1 → W p l e R s m args below meth c H1 locs1 (cells + mc) (slots + ms) Q (F0 m (pc + 3) ls (.int r :: rest))) : W p l e R s m args below meth c H locs cells slots Q (F0 m pc ls st) := by
  have hg' := hg
  simp only [isG, Bool.and_eq_true] at hg'
  have hFc := va_free (wc := WC) hD hS hA isC hC
  refine va_calli (va_runS S hM cw ⟨fb_prs, fun U hU hW => ⟨rfl, my_in hD hP hK hC hg'.1.1.1.2 hU hW, hX.later hS hU hW hFc⟩⟩ rfl hnl hls hst (lv_room hW) hdg hf) hS (fun q _ h => hFc q h) hFc (fun r' u t H1 locs1 ht hvm hw hB hz1 hk1 hS1 => ?_)
  obtain ⟨hP1, hD1⟩ := hB
  subst hw
  rw [ht] at hP1
  obtain ⟨k1, k2⟩ := my_back hP hD hS hA isC isR isF hC hg hF hk1 hP1 hD1
  exact kk H1 locs1 k1 k2 hS1
theorem my_callSvS (S : CallFix p m c cc nL s args Ts own) (hls : ls.size = nL) (hM : Met l y wsc rm (PRS D cy K V As H.size WC) (POv D WO (va_A WC H.size)) mc ms (va_A WC H.size)) (cw : CallB R s args own index y bytes maxL ret wsc rm mc ms n ∧ (Cond.static y).before args s = true) (hX : SXP K V A s)
    (hK : KK D cy s) (hP : va_P D vwCl ws H) (hD : va_D A ws) (hS : va_S A s.heap H locs) (hA : ∀ q : Nat, s.heap.size ≤ q → A q) (isC isR isF : List Nat) (hC : isC.map (fun i => ws[i]?) = WC.map some) (hg : isG ws isC isR isF = true) (hF : isF.map (fun i => ((isR.filterMap (fun i => ws[i]?)) ++ WO)[i]?) = WF.map some)
    (hst : st = As.reverse ++ rest) (hnl : As.length = n) (hW : (rest.map fun v => v.category).sum ≤ 8) (hdg : decode cc pc = .ok (.invokestatic index, 3)) (hf : cells + mc ≤ R.cells ∧ slots + ms ≤ R.slots)
    (kk : ∀ (H1 : Heap) (locs1 : List Loc), va_P D vwCl WF H1 → va_D A WF → va_S A s.heap H1 locs1 → W p l e R s m args below meth c H1 locs1 (cells + mc) (slots + ms) Q (F0 m (pc + 3) ls rest)) : W p l e R s m args below meth c H locs cells slots Q (F0 m pc ls st) := by
  have hg' := hg
  simp only [isG, Bool.and_eq_true] at hg'
  have hFc := va_free (wc := WC) hD hS hA isC hC
  refine va_callv (va_runS S hM cw ⟨fb_prs, fun U hU hW => ⟨rfl, my_in hD hP hK hC hg'.1.1.1.2 hU hW, hX.later hS hU hW hFc⟩⟩ rfl hnl hls hst (lv_room hW) hdg hf) hS (fun q _ h => hFc q h) hFc (fun u t H1 locs1 ht hvm hw hB hz1 hk1 hS1 => ?_)
  obtain ⟨hP1, hD1⟩ := hB
  rw [ht] at hP1
  obtain ⟨k1, k2⟩ := my_back hP hD hS hA isC isR isF hC hg hF hk1 hP1 hD1
  exact kk H1 locs1 k1 k2 hS1
end GS
theorem sx_sh : ∀ i : Nat, i < 9 → (sx_l i >>> ((0 : Int32) &&& 31)) = sx_l i := by decide +kernel
theorem sx_zl : ∀ i : Nat, i < 9 → sx_z i < 2 ^ 31 := by decide +kernel
theorem sx_ch : ∀ i : Nat, i < 9 → ∀ j : Nat, j < sx_z i → ((sx_c i j &&& 255).toUInt32 % 65536).toInt32 = sx_c i j := by decide +kernel
theorem sx_nc : ∀ i : Nat, i < 9 → ∀ j : Nat, j < sx_z i → (((sx_c i j).toUInt32 % 65536).toInt32) = sx_c i j := by decide +kernel
theorem sx_in {x : Int32} {n : Nat} (hn : n < 2 ^ 31) (h : vp_in x n) : ¬ x < 0 ∧ x < Int32.ofNat n ∧ x.toNatClampNeg < n := by
  have h0 : ¬ x < 0 := fun q => h (Or.inl q)
  have h1 : x.toNatClampNeg < n := Nat.not_le.mp fun q => h (Or.inr q)
  refine ⟨h0, ?_, h1⟩
  obtain ⟨j, hj, rfl⟩ := nI_of h0
  rw [clamp_of (rfl : nI j = Int32.ofNat j) hj] at h1
  exact nI_lt h1 hn
theorem cd_Jcoder : yJ0_coder_7d493.cls = RJ0 ∧ yJ0_coder_7d493.cls ≠ "java/lang/invoke/MethodHandle" ∧ yJ0_coder_7d493.cls ≠ "java/lang/invoke/VarHandle" ∧ (parseMethodDescriptor yJ0_coder_7d493.desc).map (fun d => d.parameters.length) = some 0 := by decide +kernel
theorem cd_Jlength : yJ0_length_8abf5.cls = RJ0 ∧ yJ0_length_8abf5.cls ≠ "java/lang/invoke/MethodHandle" ∧ yJ0_length_8abf5.cls ≠ "java/lang/invoke/VarHandle" ∧ (parseMethodDescriptor yJ0_length_8abf5.desc).map (fun d => d.parameters.length) = some 0 := by decide +kernel
theorem cd_Jlatin : yJ0_isLatin1_aae02.cls = RJ0 ∧ yJ0_isLatin1_aae02.cls ≠ "java/lang/invoke/MethodHandle" ∧ yJ0_isLatin1_aae02.cls ≠ "java/lang/invoke/VarHandle" ∧ (parseMethodDescriptor yJ0_isLatin1_aae02.desc).map (fun d => d.parameters.length) = some 0 := by decide +kernel
theorem cd_Jpre : yJ3_checkIndex_8e157.cls = RJ3 ∧ yJ3_checkIndex_8e157.cls ≠ "java/lang/invoke/MethodHandle" ∧ yJ3_checkIndex_8e157.cls ≠ "java/lang/invoke/VarHandle" ∧ (parseMethodDescriptor yJ3_checkIndex_8e157.desc).map (fun d => d.parameters.length) = some 3 := by decide +kernel
theorem cd_Jchk : yJ0_checkIndex_df160.cls = RJ0 ∧ yJ0_checkIndex_df160.cls ≠ "java/lang/invoke/MethodHandle" ∧ yJ0_checkIndex_df160.cls ≠ "java/lang/invoke/VarHandle" ∧ (parseMethodDescriptor yJ0_checkIndex_df160.desc).map (fun d => d.parameters.length) = some 2 := by decide +kernel
theorem cd_Jlch : yJ1_charAt_3b067.cls = RJ1 ∧ yJ1_charAt_3b067.cls ≠ "java/lang/invoke/MethodHandle" ∧ yJ1_charAt_3b067.cls ≠ "java/lang/invoke/VarHandle" ∧ (parseMethodDescriptor yJ1_charAt_3b067.desc).map (fun d => d.parameters.length) = some 2 := by decide +kernel
theorem cd_Jch : yJ0_charAt_5068e.cls = RJ0 ∧ yJ0_charAt_5068e.cls ≠ "java/lang/invoke/MethodHandle" ∧ yJ0_charAt_5068e.cls ≠ "java/lang/invoke/VarHandle" ∧ (parseMethodDescriptor yJ0_charAt_5068e.desc).map (fun d => d.parameters.length) = some 1 := by decide +kernel
set_option maxRecDepth 100000 in
theorem c_Jcoder (l : Launch) (D : va_G) (cy : Nat → ClassId) (K V : Nat → Nat) (sz i : Nat) (hi : i < 9) : Met l yJ0_coder_7d493 wsJ0_coder_7d493 ({ frames := 0, cells := 0, slots := 0, locals := 0 } : Room) (PRS D cy K V [.ref (K i)] sz []) (POi D 0 [] (va_A [] sz)) 0 0 (va_A [] sz) := by
  refine entS (fun A => POi D 0 [] A) (cc := cJ0_coder_7d493) (maxL := 1) (ret := (some .byte)) (by decide +kernel) rfl (Nat.le_of_ble_eq_true rfl) ?_
  intro p e s m args below meth c A ls H locs hx hb hml hr hlocks hown hts hnm hA hK hP hD hS hl hX
  refine va_gets hx hb hX.2.2.1 hS hown (hts (.fieldLink RJ0 38 "java/lang/String" "COMPACT_STRINGS" "Z") (List.mem_of_getElem? (i := 1) rfl)) (fun _ h => h) dJ0_coder_7d493_0 ?_
  refine lv_if_eq (tgt := 13) hx hb dJ0_coder_7d493_3 (by decide) (fun c3 => ?_) (fun c3 => ?_)
  · exact absurd c3 (by decide)
  refine lv_aload_n hx hb dJ0_coder_7d493_6 rfl (lv_at hl 0 rfl) ?_
  refine vk_getf hx hb (hX.2.1.1 i hi).2.1 hS hown (hts (.fieldLink RJ0 15 "java/lang/String" "coder" "B") (List.mem_of_getElem? (i := 2) rfl)) (fun _ h => h) dJ0_coder_7d493_7 ?_
  refine lv_goto (tgt := 14) hx hb dJ0_coder_7d493_10 (by decide) ?_
  exact fin_ty hx hb hr hlocks (by decide) hP hD hS dJ0_coder_7d493_14
set_option maxRecDepth 100000 in
theorem c_Jlength (l : Launch) (D : va_G) (cy : Nat → ClassId) (K V : Nat → Nat) (sz i : Nat) (hi : i < 9) : Met l yJ0_length_8abf5 wsJ0_length_8abf5 ({ frames := 1, cells := 0, slots := 0, locals := 20 } : Room) (PRS D cy K V [.ref (K i)] sz []) (POi D (sx_l i) [] (va_A [] sz)) 0 0 (va_A [] sz) := by
  refine entS (fun A => POi D (sx_l i) [] A) (cc := cJ0_length_8abf5) (maxL := 1) (ret := (some .int)) (by decide +kernel) rfl (Nat.le_of_ble_eq_true rfl) ?_
  intro p e s m args below meth c A ls H locs hx hb hml hr hlocks hown hts hnm hA hK hP hD hS hl hX
  refine lv_aload_n hx hb dJ0_length_8abf5_0 rfl (lv_at hl 0 rfl) ?_
  refine vk_getf hx hb (hX.2.1.1 i hi).2.2.1 hS hown (hts (.fieldLink RJ0 9 "java/lang/String" "value" "[B") (List.mem_of_getElem? (i := 1) rfl)) (fun _ h => h) dJ0_length_8abf5_1 ?_
  refine va_tlen hx hb (hX.2.1.1 i hi).2.2.2 hS (v := sx_l i) rfl dJ0_length_8abf5_4 ?_
  refine lv_aload_n hx hb dJ0_length_8abf5_5 rfl (lv_at hl 0 rfl) ?_
  refine my_callViS (rest := [.int (sx_l i)]) (As := []) (WF := []) ⟨hx, hb, hml, hown, hts⟩ hl.1 (c_Jcoder l D cy K V H.size i hi) (cwV 0 hts gJ0_length_8abf5_J0_coder_7d493 rfl rfl rfl cd_Jcoder ⟨Nat.le_of_ble_eq_true rfl, Nat.le_of_ble_eq_true rfl⟩) hX hK hP hD hS hA [] [] [] rfl rfl rfl (vk_recv hX.2.1 hi hS) rfl rfl (Nat.le_of_ble_eq_true rfl) dJ0_length_8abf5_6 ⟨Nat.le_of_ble_eq_true rfl, Nat.le_of_ble_eq_true rfl⟩ (fun H locs hP hD hS => ?_)
  refine lv_ishr hx hb dJ0_length_8abf5_9 ?_
  refine my_top (v := sx_l i) (sx_sh i hi) ?_
  exact fin_i hx hb hr hlocks hP hD hS dJ0_length_8abf5_10
set_option maxRecDepth 100000 in
theorem c_Jlatin (l : Launch) (D : va_G) (cy : Nat → ClassId) (K V : Nat → Nat) (sz : Nat) (i : Nat) (hi : i < 9) : Met l yJ0_isLatin1_aae02 wsJ0_isLatin1_aae02 ({ frames := 0, cells := 0, slots := 0, locals := 0 } : Room) (PRS D cy K V [.ref (K i)] sz []) (POi D 1 [] (va_A [] sz)) 0 0 (va_A [] sz) := by
  refine entS (fun A => POi D 1 [] A) (cc := cJ0_isLatin1_aae02) (maxL := 1) (ret := (some .boolean)) (by decide +kernel) rfl (Nat.le_of_ble_eq_true rfl) ?_
  intro p e s m args below meth c A ls H locs hx hb hml hr hlocks hown hts hnm hA hK hP hD hS hl hX
  refine va_gets hx hb hX.2.2.1 hS hown (hts (.fieldLink RJ0 38 "java/lang/String" "COMPACT_STRINGS" "Z") (List.mem_of_getElem? (i := 1) rfl)) (fun _ h => h) dJ0_isLatin1_aae02_0 ?_
  refine lv_if_eq (tgt := 17) hx hb dJ0_isLatin1_aae02_3 (by decide) (fun c3 => ?_) (fun c3 => ?_)
  · exact absurd c3 (by decide)
  refine lv_aload_n hx hb dJ0_isLatin1_aae02_6 rfl (lv_at hl 0 rfl) ?_
  refine vk_getf hx hb (hX.2.1.1 i hi).2.1 hS hown (hts (.fieldLink RJ0 15 "java/lang/String" "coder" "B") (List.mem_of_getElem? (i := 2) rfl)) (fun _ h => h) dJ0_isLatin1_aae02_7 ?_
  refine lv_if_ne (tgt := 17) hx hb dJ0_isLatin1_aae02_10 (by decide) (fun c10 => ?_) (fun c10 => ?_)
  · exact absurd rfl c10
  refine lv_iconst (v := 1) hx hb dJ0_isLatin1_aae02_13 (by decide) ?_
  refine lv_goto (tgt := 18) hx hb dJ0_isLatin1_aae02_14 (by decide) ?_
  exact fin_ty hx hb hr hlocks rfl hP hD hS dJ0_isLatin1_aae02_18
set_option maxRecDepth 100000 in
theorem c_JpreN (l : Launch) (D : va_G) (cy : Nat → ClassId) (sz : Nat) (x y : Int32) (h0 : ¬ x < 0) (h1 : x < y) : Met l yJ3_checkIndex_8e157 wsJ3_checkIndex_8e157 ({ frames := 0, cells := 0, slots := 0, locals := 0 } : Room) (PRE D cy [.int x, .int y, .null] sz []) (POi D x [] (va_A [] sz)) 0 0 (va_A [] sz) := by
  refine ent (fun A => POi D x [] A) (cc := cJ3_checkIndex_8e157) (maxL := 3) (ret := (some .int)) (by decide +kernel) rfl (Nat.le_of_ble_eq_true rfl) ?_
  intro p e s m args below meth c A ls H locs hx hb hml hr hlocks hown hts hnm hA hK hP hD hS hl
  refine lv_iload_n hx hb dJ3_checkIndex_8e157_0 rfl (lv_at hl 0 rfl) ?_
  refine lv_if_lt (tgt := 9) hx hb dJ3_checkIndex_8e157_1 (by decide) (fun c1 => ?_) (fun c1 => ?_)
  · exact absurd c1 h0
  refine lv_iload_n hx hb dJ3_checkIndex_8e157_4 rfl (lv_at hl 0 rfl) ?_
  refine lv_iload_n hx hb dJ3_checkIndex_8e157_5 rfl (lv_at hl 1 rfl) ?_
  refine lv_icmp_lt (tgt := 16) hx hb dJ3_checkIndex_8e157_6 (by decide) (fun c6 => ?_) (fun c6 => ?_)
  · refine lv_iload_n hx hb dJ3_checkIndex_8e157_16 rfl (lv_at hl 0 rfl) ?_
    exact fin_i hx hb hr hlocks hP hD hS dJ3_checkIndex_8e157_17
  · exact absurd h1 c6
set_option maxRecDepth 100000 in
theorem c_JpreR (l : Launch) (D : va_G) (cy : Nat → ClassId) (sz : Nat) (x y : Int32) (h0 : ¬ x < 0) (h1 : x < y) (t : Nat) : Met l yJ3_checkIndex_8e157 wsJ3_checkIndex_8e157 ({ frames := 0, cells := 0, slots := 0, locals := 0 } : Room) (PRE D cy [.int x, .int y, .ref t] sz []) (POi D x [] (va_A [] sz)) 0 0 (va_A [] sz) := by
  refine ent (fun A => POi D x [] A) (cc := cJ3_checkIndex_8e157) (maxL := 3) (ret := (some .int)) (by decide +kernel) rfl (Nat.le_of_ble_eq_true rfl) ?_
  intro p e s m args below meth c A ls H locs hx hb hml hr hlocks hown hts hnm hA hK hP hD hS hl
  refine lv_iload_n hx hb dJ3_checkIndex_8e157_0 rfl (lv_at hl 0 rfl) ?_
  refine lv_if_lt (tgt := 9) hx hb dJ3_checkIndex_8e157_1 (by decide) (fun c1 => ?_) (fun c1 => ?_)
  · exact absurd c1 h0
  refine lv_iload_n hx hb dJ3_checkIndex_8e157_4 rfl (lv_at hl 0 rfl) ?_
  refine lv_iload_n hx hb dJ3_checkIndex_8e157_5 rfl (lv_at hl 1 rfl) ?_
  refine lv_icmp_lt (tgt := 16) hx hb dJ3_checkIndex_8e157_6 (by decide) (fun c6 => ?_) (fun c6 => ?_)
  · refine lv_iload_n hx hb dJ3_checkIndex_8e157_16 rfl (lv_at hl 0 rfl) ?_
    exact fin_i hx hb hr hlocks hP hD hS dJ3_checkIndex_8e157_17
  · exact absurd h1 c6
set_option maxRecDepth 100000 in
theorem c_Jchk (l : Launch) (D : va_G) (cy : Nat → ClassId) (K V : Nat → Nat) (sz : Nat) (x y : Int32) (h0 : ¬ x < 0) (h1 : x < y) : Met l yJ0_checkIndex_df160 wsJ0_checkIndex_df160 ({ frames := 1, cells := 0, slots := 0, locals := 22 } : Room) (PRS D cy K V [.int x, .int y] sz []) (POv D [] (va_A [] sz)) 0 0 (va_A [] sz) := by
  refine entS (fun A => POv D [] A) (cc := cJ0_checkIndex_df160) (maxL := 2) (ret := none) (by decide +kernel) rfl (Nat.le_of_ble_eq_true rfl) ?_
  intro p e s m args below meth c A ls H locs hx hb hml hr hlocks hown hts hnm hA hK hP hD hS hl hX
  refine lv_iload_n hx hb dJ0_checkIndex_df160_0 rfl (lv_at hl 0 rfl) ?_
  refine lv_iload_n hx hb dJ0_checkIndex_df160_1 rfl (lv_at hl 1 rfl) ?_
  rcases hX.2.2.2 with hz | ⟨t, hz⟩
  · refine va_gets hx hb hz hS hown (hts (.fieldLink RJ0 1053 "jdk/internal/util/Preconditions" "SIOOBE_FORMATTER" "Ljava/util/function/BiFunction;") (List.mem_of_getElem? (i := 1) rfl)) (fun _ h => h) dJ0_checkIndex_df160_2 ?_
    refine my_callSi (rest := []) (As := [.int x, .int y, .null]) (WF := []) ⟨hx, hb, hml, hown, hts⟩ hl.1 (c_JpreN l D cy H.size x y h0 h1) (va_cwS 3 hts gJ0_checkIndex_df160_J3_checkIndex_8e157 rfl rfl rfl cd_Jpre.2 ⟨(Nat.le_of_ble_eq_true rfl), (Nat.le_of_ble_eq_true rfl)⟩) hK hP hD hS hA [] [] [] rfl rfl rfl rfl rfl (Nat.le_of_ble_eq_true rfl) dJ0_checkIndex_df160_5 ⟨(Nat.le_of_ble_eq_true rfl), (Nat.le_of_ble_eq_true rfl)⟩ (fun H locs hP hD hS => ?_)
    refine lv_pop hx hb dJ0_checkIndex_df160_8 rfl ?_
    exact fin_v hx hb hr hlocks hP hD hS dJ0_checkIndex_df160_9
  · refine va_gets hx hb hz hS hown (hts (.fieldLink RJ0 1053 "jdk/internal/util/Preconditions" "SIOOBE_FORMATTER" "Ljava/util/function/BiFunction;") (List.mem_of_getElem? (i := 1) rfl)) (fun _ h => h) dJ0_checkIndex_df160_2 ?_
    refine my_callSi (rest := []) (As := [.int x, .int y, .ref t]) (WF := []) ⟨hx, hb, hml, hown, hts⟩ hl.1 (c_JpreR l D cy H.size x y h0 h1 t) (va_cwS 3 hts gJ0_checkIndex_df160_J3_checkIndex_8e157 rfl rfl rfl cd_Jpre.2 ⟨(Nat.le_of_ble_eq_true rfl), (Nat.le_of_ble_eq_true rfl)⟩) hK hP hD hS hA [] [] [] rfl rfl rfl rfl rfl (Nat.le_of_ble_eq_true rfl) dJ0_checkIndex_df160_5 ⟨(Nat.le_of_ble_eq_true rfl), (Nat.le_of_ble_eq_true rfl)⟩ (fun H locs hP hD hS => ?_)
    refine lv_pop hx hb dJ0_checkIndex_df160_8 rfl ?_
    exact fin_v hx hb hr hlocks hP hD hS dJ0_checkIndex_df160_9
set_option maxRecDepth 100000 in
theorem c_Jlch (l : Launch) (D : va_G) (cy : Nat → ClassId) (K V : Nat → Nat) (sz : Nat) (i : Nat) (hi : i < 9) (x : Int32) (hin : vp_in x (sx_z i)) : Met l yJ1_charAt_3b067 wsJ1_charAt_3b067 ({ frames := 2, cells := 0, slots := 0, locals := 43 } : Room) (PRS D cy K V [.ref (V i), .int x] sz []) (POi D (sx_c i x.toNatClampNeg) [] (va_A [] sz)) 0 0 (va_A [] sz) := by
  refine entS (fun A => POi D (sx_c i x.toNatClampNeg) [] A) (cc := cJ1_charAt_3b067) (maxL := 2) (ret := (some .char)) (by decide +kernel) rfl (Nat.le_of_ble_eq_true rfl) ?_
  intro p e s m args below meth c A ls H locs hx hb hml hr hlocks hown hts hnm hA hK hP hD hS hl hX
  obtain ⟨h0, h1, h2⟩ := sx_in (sx_zl i hi) hin
  refine lv_iload_n hx hb dJ1_charAt_3b067_0 rfl (lv_at hl 1 rfl) ?_
  refine lv_aload_n hx hb dJ1_charAt_3b067_1 rfl (lv_at hl 0 rfl) ?_
  refine va_tlen hx hb (hX.2.1.1 i hi).2.2.2 hS (v := sx_l i) rfl dJ1_charAt_3b067_2 ?_
  refine my_callSvS (rest := []) (As := [.int x, .int (sx_l i)]) (WF := []) ⟨hx, hb, hml, hown, hts⟩ hl.1 (c_Jchk l D cy K V H.size x (sx_l i) h0 h1) (va_cwS 2 hts gJ1_charAt_3b067_J0_checkIndex_df160 rfl rfl rfl cd_Jchk.2 ⟨(Nat.le_of_ble_eq_true rfl), (Nat.le_of_ble_eq_true rfl)⟩) hX hK hP hD hS hA [] [] [] rfl rfl rfl rfl rfl (Nat.le_of_ble_eq_true rfl) dJ1_charAt_3b067_3 ⟨(Nat.le_of_ble_eq_true rfl), (Nat.le_of_ble_eq_true rfl)⟩ (fun H locs hP hD hS => ?_)
  refine lv_aload_n hx hb dJ1_charAt_3b067_6 rfl (lv_at hl 0 rfl) ?_
  refine lv_iload_n hx hb dJ1_charAt_3b067_7 rfl (lv_at hl 1 rfl) ?_
  refine va_tb (v := .int (sx_c i x.toNatClampNeg)) hx hb (hX.2.1.1 i hi).2.2.2 hS hin rfl dJ1_charAt_3b067_8 ?_
  refine lv_sipush (v := 255) hx hb dJ1_charAt_3b067_9 (by decide) ?_
  refine lv_iand hx hb dJ1_charAt_3b067_12 ?_
  refine lv_i2c (v := ((sx_c i x.toNatClampNeg &&& 255).toUInt32 % 65536).toInt32) hx hb dJ1_charAt_3b067_13 rfl ?_
  refine my_top (v := sx_c i x.toNatClampNeg) (sx_ch i hi _ h2) ?_
  exact fin_ty hx hb hr hlocks (congrArg Value.int (sx_nc i hi _ h2)) hP hD hS dJ1_charAt_3b067_14
set_option maxRecDepth 100000 in
theorem c_Jch (l : Launch) (D : va_G) (cy : Nat → ClassId) (K V : Nat → Nat) (sz : Nat) (i : Nat) (hi : i < 9) (x : Int32) (hin : vp_in x (sx_z i)) : Met l yJ0_charAt_5068e wsJ0_charAt_5068e ({ frames := 3, cells := 0, slots := 0, locals := 64 } : Room) (PRS D cy K V [.ref (K i), .int x] sz []) (POi D (sx_c i x.toNatClampNeg) [] (va_A [] sz)) 0 0 (va_A [] sz) := by
  refine entS (fun A => POi D (sx_c i x.toNatClampNeg) [] A) (cc := cJ0_charAt_5068e) (maxL := 2) (ret := (some .char)) (by decide +kernel) rfl (Nat.le_of_ble_eq_true rfl) ?_
  intro p e s m args below meth c A ls H locs hx hb hml hr hlocks hown hts hnm hA hK hP hD hS hl hX
  obtain ⟨h0, h1, h2⟩ := sx_in (sx_zl i hi) hin
  refine lv_aload_n hx hb dJ0_charAt_5068e_0 rfl (lv_at hl 0 rfl) ?_
  refine my_callViS (rest := []) (As := []) (WF := []) ⟨hx, hb, hml, hown, hts⟩ hl.1 (c_Jlatin l D cy K V H.size i hi) (cwV 0 hts gJ0_charAt_5068e_J0_isLatin1_aae02 rfl rfl rfl cd_Jlatin ⟨(Nat.le_of_ble_eq_true rfl), (Nat.le_of_ble_eq_true rfl)⟩) hX hK hP hD hS hA [] [] [] rfl rfl rfl (vk_recv hX.2.1 hi hS) rfl rfl (Nat.le_of_ble_eq_true rfl) dJ0_charAt_5068e_1 ⟨(Nat.le_of_ble_eq_true rfl), (Nat.le_of_ble_eq_true rfl)⟩ (fun H locs hP hD hS => ?_)
  refine lv_if_eq (tgt := 16) hx hb dJ0_charAt_5068e_4 (by decide) (fun c4 => ?_) (fun c4 => ?_)
  · exact absurd c4 (by decide)
  refine lv_aload_n hx hb dJ0_charAt_5068e_7 rfl (lv_at hl 0 rfl) ?_
  refine vk_getf hx hb (hX.2.1.1 i hi).2.2.1 hS hown (hts (.fieldLink RJ0 9 "java/lang/String" "value" "[B") (List.mem_of_getElem? (i := 1) rfl)) (fun _ h => h) dJ0_charAt_5068e_8 ?_
  refine lv_iload_n hx hb dJ0_charAt_5068e_11 rfl (lv_at hl 1 rfl) ?_
  refine my_callSiS (rest := []) (As := [.ref (V i), .int x]) (WF := []) ⟨hx, hb, hml, hown, hts⟩ hl.1 (c_Jlch l D cy K V H.size i hi x hin) (va_cwS 2 hts gJ0_charAt_5068e_J1_charAt_3b067 rfl rfl rfl cd_Jlch.2 ⟨(Nat.le_of_ble_eq_true rfl), (Nat.le_of_ble_eq_true rfl)⟩) hX hK hP hD hS hA [] [] [] rfl rfl rfl rfl rfl (Nat.le_of_ble_eq_true rfl) dJ0_charAt_5068e_12 ⟨(Nat.le_of_ble_eq_true rfl), (Nat.le_of_ble_eq_true rfl)⟩ (fun H locs hP hD hS => ?_)
  exact fin_ty hx hb hr hlocks (congrArg Value.int (sx_nc i hi _ h2)) hP hD hS dJ0_charAt_5068e_15
