/-! The mirror of a method is a function in Option; its terms are taken apart as the walk goes. -/
theorem m_t {α : Type} {c : Prop} {inst : Decidable c} {A B R : α} (h : c) (hf : @ite α c inst A B = R) : A = R := by rw [if_pos h] at hf; exact hf
theorem m_f {α : Type} {c : Prop} {inst : Decidable c} {A B R : α} (h : ¬ c) (hf : @ite α c inst A B = R) : B = R := by rw [if_neg h] at hf; exact hf
def m_in {α : Type} (i : Int32) (n : Nat) (A : Option α) : Option α := if i < 0 ∨ n ≤ i.toNatClampNeg then none else A
theorem m_ino {α : Type} {i : Int32} {n : Nat} {A : Option α} {R : α} (hf : m_in i n A = some R) : vp_in i n ∧ A = some R := by
  by_cases h : i < 0 ∨ n ≤ i.toNatClampNeg
  · have e : m_in i n A = none := if_pos h
    rw [e] at hf
    cases hf
  · have e : m_in i n A = A := if_neg h
    rw [e] at hf
    exact ⟨h, hf⟩
theorem m_inI {α : Type} {i : Int32} {n : Nat} {A : Option α} (h : vp_in i n) : m_in i n A = A := if_neg h
def m_g {α : Type} (c : Prop) [Decidable c] (A : Option α) : Option α := if c then A else none
theorem m_go {α : Type} {c : Prop} {inst : Decidable c} {A : Option α} {R : α} (hf : @m_g α c inst A = some R) : c ∧ A = some R := by
  by_cases h : c
  · have e : @m_g α c inst A = A := if_pos h
    rw [e] at hf
    exact ⟨h, hf⟩
  · have e : @m_g α c inst A = none := if_neg h
    rw [e] at hf
    cases hf
theorem m_gI {α : Type} {c : Prop} {inst : Decidable c} {A : Option α} (h : c) : @m_g α c inst A = A := if_pos h
theorem m_bo {α β : Type} {x : Option α} {k : α → Option β} {R : β} (hf : Option.bind x k = some R) : ∃ r, x = some r ∧ k r = some R := by
  cases x with
  | none => cases hf
  | some r => exact ⟨r, rfl, hf⟩
def m_n {α β : Type} (a : α) (k : α → Option β) : Option β := k a
theorem m_no {α β : Type} {a u : α} {k : α → Option β} {R : β} (e : u = a) (hf : m_n a k = some R) : k u = some R := by subst e; exact hf
theorem m_ne {x k : Int32} {z : Int} (h : ¬ x = k) (hk : k.toInt = z) : x.toInt ≠ z := fun e => h (Int32.toInt_inj.mp (e.trans hk.symm))
theorem m_fm {α β : Type} {f : α → Option β} : ∀ {is : List α} {l : List β}, is.map f = l.map some → is.filterMap f = l := by
  intro is
  induction is with
  | nil => intro l h; cases l with
    | nil => rfl
    | cons a l => cases h
  | cons i is ih => intro l h; cases l with
    | nil => cases h
    | cons a l =>
      have h1 : f i = some a := (List.cons.inj h).1
      have h2 : is.map f = l.map some := (List.cons.inj h).2
      rw [List.filterMap_cons_some h1, ih h2]
theorem m_mf {α β : Type} {f : α → Option β} : ∀ {is : List α}, is.all (fun i => (f i).isSome) = true → is.map f = (is.filterMap f).map some := by
  intro is
  induction is with
  | nil => intro _; rfl
  | cons i is ih => intro h
                    rw [List.all_cons, Bool.and_eq_true] at h
                    obtain ⟨a, ha⟩ := Option.isSome_iff_exists.mp h.1
                    rw [List.map_cons, List.filterMap_cons_some ha, List.map_cons, ha, ih h.2]
/-! bytes -/
def upB (f : Nat → Int8) (k : Nat) (x : Int8) : Nat → Int8 := fun j => if j = k then x else f j
def bI (b : Nat → Int8) : Nat → Int32 := fun j => (b j).toInt32
theorem bI_up (b : Nat → Int8) (k : Nat) (x : Int32) : upd (bI b) k (vp_nar .byte x) = bI (upB b k x.toInt8) := by
  funext j
  by_cases h : j = k
  · simp only [upd, bI, upB, h, if_true]; rfl
  · simp only [upd, bI, upB, h, if_false]
theorem bI_cpy (f g : Nat → Int8) (sp dp n : Nat) : va_cpy (bI f) (bI g) sp dp n = bI (va_cpy f g sp dp n) := by
  funext j
  by_cases h : dp ≤ j ∧ j < dp + n
  · simp only [va_cpy, bI, h, and_self, if_true]
  · simp only [va_cpy, bI, h, if_false]
theorem bI_fit (b : Nat → Int8) (j : Nat) : fits .byte (.int (bI b j)) = true := by
  have e : bI b j = (bI b j).toInt8.toInt32 := by simp [bI]
  rw [e]
  exact pk_fb _
theorem bI_0 : bI (fun _ => 0) = fun _ => 0 := by funext j; rfl
/-! what the tables say, for every method alike -/
def kk_tys (cy : Nat → ClassId) : List (ClassId × FieldType) := [(cy 0, .int), (cy 1, .byte), (cy 2, .boolean), (cy 3, .long), (cy 4, .object RX9), (cy 5, .object RX10)]
def KN (U : State) : Prop := va_Nw (.methodLinkNest RX11 11 yX10_init RX11) U ∧ va_Nw (.methodLinkNest RX11 39 yX3_init RX11) U ∧ va_Nw (.methodLinkNest RX10 20 yX8_init RX11) U ∧ va_Nw (.methodLinkNest RX9 9 yX6_init RX11) U ∧ va_Nw (.methodLinkNest RX4 11 yX1_init RX11) U ∧ va_Nw (.methodLinkNest RX4 20 yX7_init RX11) U ∧ va_Nw (.methodLinkNest RX4 27 yX0_init RX11) U ∧ va_Nw (.methodLinkNest RX3 20 yX8_init RX11) U ∧ va_AO RX9 U ∧ va_AO RX10 U
def KK (D : va_G) (cy : Nat → ClassId) (U : State) : Prop := va_K D vwCl (kk_tys cy) U ∧ KN U
theorem KN.warm {s U : State} (hW : s.WarmedH U.vm) (h : KN s) : KN U := by
  obtain ⟨h1, h2, h3, h4, h5, h6, h7, h8, h9, h10⟩ := h
  exact ⟨h1.warmM hW, h2.warmM hW, h3.warmM hW, h4.warmM hW, h5.warmM hW, h6.warmM hW, h7.warmM hW, h8.warmM hW, h9.moved hW.alike, h10.moved hW.alike⟩
theorem KN.same {s U : State} (e : s.vm = U.vm) (h : KN s) : KN U := by
  obtain ⟨h1, h2, h3, h4, h5, h6, h7, h8, h9, h10⟩ := h
  exact ⟨h1.same rfl e, h2.same rfl e, h3.same rfl e, h4.same rfl e, h5.same rfl e, h6.same rfl e, h7.same rfl e, h8.same rfl e, h9.moved (e ▸ Vm.Alike.refl _), h10.moved (e ▸ Vm.Alike.refl _)⟩
theorem KK.warm {D : va_G} {cy : Nat → ClassId} {s U : State} (hW : s.WarmedH U.vm) (h : KK D cy s) : KK D cy U := ⟨va_K.moved hW.alike h.1, h.2.warm hW⟩
/-- a method's start -/
abbrev PRE (D : va_G) (cy : Nat → ClassId) (av : List Value) (sz : Nat) (WI : va_W) : Array Value → State → Prop := va_Pc av (fun U => U.heap.size = sz ∧ va_P D vwCl WI U.heap ∧ KK D cy U ∧ va_D (fun _ => True) WI)
abbrev POi (D : va_G) (r : Int32) (WO : va_W) (A : Nat → Prop) : Array Value → State → Outcome → State → Prop := va_Qi (fun r' (_ : Unit) => r' = r) (fun _ t => va_P D vwCl WO t.heap ∧ va_D A WO) A
abbrev POv (D : va_G) (WO : va_W) (A : Nat → Prop) : Array Value → State → Outcome → State → Prop := va_Qv (fun (_ : Unit) => True) (fun _ t => va_P D vwCl WO t.heap ∧ va_D A WO) A
theorem fb_pre {D : va_G} {cy : Nat → ClassId} {av : List Value} {sz : Nat} {WI : va_W} : FrameBlind (PRE D cy av sz WI) := by
  intro a U g mk q
  obtain ⟨q0, q1, qP, qK, qD⟩ := q
  exact ⟨q0, q1, qP, ⟨va_K.moved (u := U) (U := U.calling g mk a) (Vm.Alike.refl U.vm) qK.1, KN.same (U := U.calling g mk a) rfl qK.2⟩, qD⟩
theorem ent {l : Launch} {y : MethodName} {ws ws' : List Cond} {rm : Room} {D : va_G} {cy : Nat → ClassId} {av : List Value} {sz : Nat} {WI : va_W} (QA : (Nat → Prop) → Array Value → State → Outcome → State → Prop) {mc ms : Nat} {cc : ByteArray} {maxL : Nat} {ret : Option FieldType}
    (hy : plainName y.cls = true) (hw : ws = Cond.code y cc maxL ret :: ws') (hlen : (lg_sl av).length ≤ maxL)
    (body : ∀ (p : Program) (e : Env) (s : State) (m : MethodId) (args : Array Value) (below : List Frame) (meth : Method) (c : Code) (A : Nat → Prop) (ls : Array Slot) (H : Heap) (locs : List Loc), p.tables.exec = Jvm.exec → c.code = cc → c.maxLocals = maxL → meth.sig.returnType = ret → meth.locks = false → s.vm.findClass y.cls = some m.cls → (∀ w ∈ ws, w.before args s = true) → meth.name = y.name → (∀ q : Nat, s.heap.size ≤ q → A q) → KK D cy s → va_P D vwCl WI H → va_D A WI → va_S A s.heap H locs → lv_has ls maxL (lv_args 0 av) → W p l e rm s m args below meth c H locs 0 0 (MQ below (QA A) args s mc ms A) (F0 m 0 ls [])) :
    Met l y ws rm (PRE D cy av sz WI) (QA (va_A WI sz)) mc ms (va_A WI sz) := by
  refine Met.ofW (cc := cc) (maxL := maxL) (ret := ret) hy hw ?_
  intro p e s m args below meth c s₁ B hml hv
  obtain ⟨rfl, hsz, hP, hK, hD0⟩ := hv
  subst hsz
  have hl := lv_entry av (n := maxL) hlen
  rw [lg_entry_eq]
  exact body p e s m _ below meth c (va_A WI s.heap.size) _ s.heap [] B.exec B.bytes hml B.returns B.notSynchronized (findClass_of_methodNamed B.named) (atoms_spec (ws := ws) B.pre) (name_of_methodNamed B.named B.method).1 (fun q h => Or.inr h) hK hP (hD0.self (sz := s.heap.size)) va_S.rf hl
section GW
variable {p : Program} {l : Launch} {e : Env} {R : Room} {s : State} {m : MethodId} {args : Array Value} {below : List Frame} {meth : Method} {c : Code} {H : Heap} {locs : List Loc} {cells slots : Nat} {Q : State → Prop}
variable {cc : ByteArray} {pc : Nat} {ls : Array Slot} {rest st : List Value} {D : va_G} {cy : Nat → ClassId} {A : Nat → Prop} {a : Nat} {ws : va_W} {H0 : Heap}
theorem my_top {x v : Int32} (h : x = v) (k : W p l e R s m args below meth c H locs cells slots Q (F0 m pc ls (.int v :: rest))) : W p l e R s m args below meth c H locs cells slots Q (F0 m pc ls (.int x :: rest)) := by subst h; exact k
/-- arrays: ints, bytes, booleans -/
theorem my_iald (hx : p.tables.exec = Jvm.exec) (hb : c.code = cc) (hK : KK D cy s) (hP : va_P D vwCl ws H) (q0 : Nat) {n : Nat} {f : Nat → Int32} (ha : ws[q0]? = some (a, .inl (cy 0, n, .inl f))) {i : Int32} (hin : vp_in i n) (k : Nat) (hk : i.toNatClampNeg = k) (hdg : decode cc pc = .ok (.iaload, 1))
    (kk : W p l e R s m args below meth c H locs cells slots Q (F0 m (pc + 1) ls (.int (f k) :: rest))) : W p l e R s m args below meth c H locs cells slots Q (F0 m pc ls (.int i :: .ref a :: rest)) := by
  subst hk
  exact va_iald hx hb hK.1 hP q0 0 ha rfl hin hdg kk
theorem my_bald (hx : p.tables.exec = Jvm.exec) (hb : c.code = cc) (hK : KK D cy s) (hP : va_P D vwCl ws H) (q0 : Nat) {n : Nat} {b : Nat → Int8} (ha : ws[q0]? = some (a, .inl (cy 1, n, .inl (bI b)))) {i : Int32} (hin : vp_in i n) (k : Nat) (hk : i.toNatClampNeg = k) (hdg : decode cc pc = .ok (.baload, 1))
    (kk : W p l e R s m args below meth c H locs cells slots Q (F0 m (pc + 1) ls (.int (b k).toInt32 :: rest))) : W p l e R s m args below meth c H locs cells slots Q (F0 m pc ls (.int i :: .ref a :: rest)) := by
  subst hk
  exact va_bald hx hb hK.1 hP q0 1 ha rfl hin hdg kk
theorem my_zald (hx : p.tables.exec = Jvm.exec) (hb : c.code = cc) (hK : KK D cy s) (hP : va_P D vwCl ws H) (q0 : Nat) {n : Nat} {f : Nat → Int32} (ha : ws[q0]? = some (a, .inl (cy 2, n, .inl f))) {i : Int32} (hin : vp_in i n) (k : Nat) (hk : i.toNatClampNeg = k) (hdg : decode cc pc = .ok (.baload, 1))
    (kk : W p l e R s m args below meth c H locs cells slots Q (F0 m (pc + 1) ls (.int (f k) :: rest))) : W p l e R s m args below meth c H locs cells slots Q (F0 m pc ls (.int i :: .ref a :: rest)) := by
  subst hk
  exact va_zald hx hb hK.1 hP q0 2 ha rfl hin hdg kk
theorem my_iast (hx : p.tables.exec = Jvm.exec) (hb : c.code = cc) (hK : KK D cy s) (hP : va_P D vwCl ws H) (hD : va_D A ws) (hS : va_S A H0 H locs) (q0 : Nat) {n : Nat} {f : Nat → Int32} (ha : ws[q0]? = some (a, .inl (cy 0, n, .inl f))) {i x : Int32} (hin : vp_in i n) (k : Nat) (hk : i.toNatClampNeg = k) (hdg : decode cc pc = .ok (.iastore, 1))
    (kk : ∀ (H1 : Heap) (locs1 : List Loc), va_P D vwCl (ws.set q0 (a, .inl (cy 0, n, .inl (upd f k x)))) H1 → va_D A (ws.set q0 (a, .inl (cy 0, n, .inl (upd f k x)))) → va_S A H0 H1 locs1 → W p l e R s m args below meth c H1 locs1 cells slots Q (F0 m (pc + 1) ls rest)) : W p l e R s m args below meth c H locs cells slots Q (F0 m pc ls (.int x :: .int i :: .ref a :: rest)) := by
  subst hk
  exact va_iast hx hb hK.1 hP hD hS q0 0 ha rfl hin hdg kk
theorem my_bast (hx : p.tables.exec = Jvm.exec) (hb : c.code = cc) (hK : KK D cy s) (hP : va_P D vwCl ws H) (hD : va_D A ws) (hS : va_S A H0 H locs) (q0 : Nat) {n : Nat} {b : Nat → Int8} (ha : ws[q0]? = some (a, .inl (cy 1, n, .inl (bI b)))) {i x : Int32} (hin : vp_in i n) (k : Nat) (hk : i.toNatClampNeg = k) (hdg : decode cc pc = .ok (.bastore, 1))
    (kk : ∀ (H1 : Heap) (locs1 : List Loc), va_P D vwCl (ws.set q0 (a, .inl (cy 1, n, .inl (bI (upB b k x.toInt8))))) H1 → va_D A (ws.set q0 (a, .inl (cy 1, n, .inl (bI (upB b k x.toInt8))))) → va_S A H0 H1 locs1 → W p l e R s m args below meth c H1 locs1 cells slots Q (F0 m (pc + 1) ls rest)) : W p l e R s m args below meth c H locs cells slots Q (F0 m pc ls (.int x :: .int i :: .ref a :: rest)) := by
  subst hk
  refine va_bast hx hb hK.1 hP hD hS q0 1 ha rfl hin hdg (fun H1 locs1 h1 h2 h3 => ?_)
  rw [bI_up] at h1 h2
  exact kk H1 locs1 h1 h2 h3
theorem my_zast (hx : p.tables.exec = Jvm.exec) (hb : c.code = cc) (hK : KK D cy s) (hP : va_P D vwCl ws H) (hD : va_D A ws) (hS : va_S A H0 H locs) (q0 : Nat) {n : Nat} {f : Nat → Int32} (ha : ws[q0]? = some (a, .inl (cy 2, n, .inl f))) {i x : Int32} (hx2 : vp_nar .boolean x = x) (hin : vp_in i n) (k : Nat) (hk : i.toNatClampNeg = k) (hdg : decode cc pc = .ok (.bastore, 1))
    (kk : ∀ (H1 : Heap) (locs1 : List Loc), va_P D vwCl (ws.set q0 (a, .inl (cy 2, n, .inl (upd f k x)))) H1 → va_D A (ws.set q0 (a, .inl (cy 2, n, .inl (upd f k x)))) → va_S A H0 H1 locs1 → W p l e R s m args below meth c H1 locs1 cells slots Q (F0 m (pc + 1) ls rest)) : W p l e R s m args below meth c H locs cells slots Q (F0 m pc ls (.int x :: .int i :: .ref a :: rest)) := by
  subst hk
  refine va_zast hx hb hK.1 hP hD hS q0 2 ha rfl hin hdg (fun H1 locs1 h1 h2 h3 => ?_)
  rw [hx2] at h1 h2
  exact kk H1 locs1 h1 h2 h3
/-- System.arraycopy -/
abbrev cpyG (sp dp n : Int32) (n0 n1 : Nat) : Prop := ¬ sp < 0 ∧ ¬ dp < 0 ∧ ¬ n < 0 ∧ sp.toNatClampNeg + n.toNatClampNeg ≤ n0 ∧ dp.toNatClampNeg + n.toNatClampNeg ≤ n1
abbrev cpyW (R : Room) (s : State) (m : MethodId) (args : Array Value) (c : Code) (ls : Array Slot) (rest : List Value) (own : String) (index : Nat) : Prop := c.maxLocals = ls.size ∧ s.vm.findClass own = some m.cls ∧ (Cond.methodLink own index arraycopyName).before args s = true ∧ (Cond.native arraycopyName).before args s = true ∧ (Cond.static arraycopyName).before args s = true ∧ (Cond.initialized "java/lang/System").before args s = true ∧ 1 ≤ R.frames ∧ (rest.map fun v => v.category).sum + (nativeFrameWords "java/lang/System" "arraycopy" 5 + 11) ≤ R.locals
theorem my_copyi (hx : p.tables.exec = Jvm.exec) (hb : c.code = cc) {own : String} {index : Nat} (hw : cpyW R s m args c ls rest own index) (hK : KK D cy s) (hP : va_P D vwCl ws H) (hD : va_D A ws) (hS : va_S A H0 H locs) (q0 q1 : Nat) {a0 n0 n1 : Nat} {f g : Nat → Int32} (ha0 : ws[q0]? = some (a0, .inl (cy 0, n0, .inl f))) (ha1 : ws[q1]? = some (a, .inl (cy 0, n1, .inl g)))
    {sp dp n : Int32} (hg : cpyG sp dp n n0 n1) (hdg : decode cc pc = .ok (.invokestatic index, 3))
    (kk : ∀ (H1 : Heap) (locs1 : List Loc), va_P D vwCl (ws.set q1 (a, .inl (cy 0, n1, .inl (va_cpy f g sp.toNatClampNeg dp.toNatClampNeg n.toNatClampNeg)))) H1 → va_D A (ws.set q1 (a, .inl (cy 0, n1, .inl (va_cpy f g sp.toNatClampNeg dp.toNatClampNeg n.toNatClampNeg)))) → va_S A H0 H1 locs1 → W p l e R s m args below meth c H1 locs1 cells slots Q (F0 m (pc + 3) ls rest)) : W p l e R s m args below meth c H locs cells slots Q (F0 m pc ls (.int n :: .int dp :: .ref a :: .int sp :: .ref a0 :: rest)) :=
  va_copyi hx hb hw.1 hw.2.1 hw.2.2.1 hw.2.2.2.1 hw.2.2.2.2.1 hw.2.2.2.2.2.1 hK.1 hP hD hS q0 q1 0 0 ha0 ha1 rfl rfl rfl hg.1 hg.2.1 hg.2.2.1 hg.2.2.2.1 hg.2.2.2.2 (fun _ _ => rfl) hw.2.2.2.2.2.2.1 hw.2.2.2.2.2.2.2 hdg kk
theorem my_copyb (hx : p.tables.exec = Jvm.exec) (hb : c.code = cc) {own : String} {index : Nat} (hw : cpyW R s m args c ls rest own index) (hK : KK D cy s) (hP : va_P D vwCl ws H) (hD : va_D A ws) (hS : va_S A H0 H locs) (q0 q1 : Nat) {a0 n0 n1 : Nat} {f g : Nat → Int8} (ha0 : ws[q0]? = some (a0, .inl (cy 1, n0, .inl (bI f)))) (ha1 : ws[q1]? = some (a, .inl (cy 1, n1, .inl (bI g))))
    {sp dp n : Int32} (hg : cpyG sp dp n n0 n1) (hdg : decode cc pc = .ok (.invokestatic index, 3))
    (kk : ∀ (H1 : Heap) (locs1 : List Loc), va_P D vwCl (ws.set q1 (a, .inl (cy 1, n1, .inl (bI (va_cpy f g sp.toNatClampNeg dp.toNatClampNeg n.toNatClampNeg))))) H1 → va_D A (ws.set q1 (a, .inl (cy 1, n1, .inl (bI (va_cpy f g sp.toNatClampNeg dp.toNatClampNeg n.toNatClampNeg))))) → va_S A H0 H1 locs1 → W p l e R s m args below meth c H1 locs1 cells slots Q (F0 m (pc + 3) ls rest)) : W p l e R s m args below meth c H locs cells slots Q (F0 m pc ls (.int n :: .int dp :: .ref a :: .int sp :: .ref a0 :: rest)) := by
  refine va_copyi hx hb hw.1 hw.2.1 hw.2.2.1 hw.2.2.2.1 hw.2.2.2.2.1 hw.2.2.2.2.2.1 hK.1 hP hD hS q0 q1 1 1 ha0 ha1 rfl rfl rfl hg.1 hg.2.1 hg.2.2.1 hg.2.2.2.1 hg.2.2.2.2 (fun _ _ => bI_fit _ _) hw.2.2.2.2.2.2.1 hw.2.2.2.2.2.2.2 hdg (fun H1 locs1 h1 h2 h3 => ?_)
  rw [bI_cpy] at h1 h2
  exact kk H1 locs1 h1 h2 h3
/-- ends -/
theorem fin_i {WO : va_W} {v : Int32} (hx : p.tables.exec = Jvm.exec) (hb : c.code = cc) (hr : meth.sig.returnType = some .int) (hlocks : meth.locks = false) (hP : va_P D vwCl WO H) (hD : va_D A WO) (hS : va_S A s.heap H locs) (hdg : decode cc pc = .ok (.ireturn, 1)) :
    W p l e R s m args below meth c H locs cells slots (MQ below (POi D v WO A) args s cells slots A) (F0 m pc ls [.int v]) :=
  W.iret hx hb hr (fun t ht hW => ⟨⟨v, (), rfl, rfl, by rw [ht]; exact hP, hD⟩, hS.F ht⟩) hS.2.2 hdg hlocks
theorem fin_z {WO : va_W} {v : Int32} (hx : p.tables.exec = Jvm.exec) (hb : c.code = cc) (hr : meth.sig.returnType = some .boolean) (hlocks : meth.locks = false) (hn : narrow .boolean (.int v) = .int v) (hP : va_P D vwCl WO H) (hD : va_D A WO) (hS : va_S A s.heap H locs) (hdg : decode cc pc = .ok (.ireturn, 1)) :
    W p l e R s m args below meth c H locs cells slots (MQ below (POi D v WO A) args s cells slots A) (F0 m pc ls [.int v]) :=
  W.zret hx hb hr hn (fun t ht hW => ⟨⟨v, (), rfl, rfl, by rw [ht]; exact hP, hD⟩, hS.F ht⟩) hS.2.2 hdg hlocks
theorem fin_v {WO : va_W} (hx : p.tables.exec = Jvm.exec) (hb : c.code = cc) (hr : meth.sig.returnType = none) (hlocks : meth.locks = false) (hP : va_P D vwCl WO H) (hD : va_D A WO) (hS : va_S A s.heap H locs) (hdg : decode cc pc = .ok (.return_, 1)) :
    W p l e R s m args below meth c H locs cells slots (MQ below (POv D WO A) args s cells slots A) (F0 m pc ls []) :=
  W.vret hx hb hr (fun t ht hW => ⟨⟨(), rfl, trivial, by rw [ht]; exact hP, hD⟩, hS.F ht⟩) hS.2.2 hdg hlocks
/-! calls -/
abbrev isG (ws : va_W) (isC isR isF : List Nat) : Bool := va_nd isR && va_nd isC && va_nd isF && isR.all (fun i => !isC.contains i) && isR.all (fun i => (ws[i]?).isSome)
theorem isG_d {isC isR : List Nat} (h : isR.all (fun i => !isC.contains i) = true) : ∀ i ∈ isR, i ∉ isC := by
  intro i hi hc
  have h1 := List.all_eq_true.mp h i hi
  rw [Bool.not_eq_true'] at h1
  rw [List.contains_iff_mem.mpr hc] at h1
  cases h1
theorem my_in {WC : va_W} {U : State} (hD : va_D A ws) (hP : va_P D vwCl ws H) (hK : KK D cy s) {isC : List Nat} (hC : isC.map (fun i => ws[i]?) = WC.map some) (hn : va_nd isC = true) (hU : U.heap = H) (hW : s.WarmedH U.vm) : U.heap.size = H.size ∧ va_P D vwCl WC U.heap ∧ KK D cy U ∧ va_D (fun _ => True) WC :=
  ⟨by rw [hU], by rw [hU]; exact hP.sub isC (m_fm hC), hK.warm hW, (hD.sub isC hn hC).weaken (fun _ _ _ _ => trivial)⟩
variable {WC WO WF : va_W} {y : MethodName} {rm : Room} {wsc Ts : List Cond} {bytes : ByteArray} {maxL nL index n mc ms : Nat} {ret : Option FieldType} {own C : String} {b : Addr} {As : List Value} {r : Int32}
theorem my_back (hP : va_P D vwCl ws H) (hD : va_D A ws) (hS : va_S A H0 H locs) (hA : ∀ q : Nat, H0.size ≤ q → A q) (isC isR isF : List Nat) (hC : isC.map (fun i => ws[i]?) = WC.map some) (hg : isG ws isC isR isF = true) (hF : isF.map (fun i => ((isR.filterMap (fun i => ws[i]?)) ++ WO)[i]?) = WF.map some)
    {H1 : Heap} (hk1 : ∀ q : Nat, q < H.size → ¬ va_A WC H.size q → H1[q]? = H[q]?) (hP1 : va_P D vwCl WO H1) (hD1 : va_D (va_A WC H.size) WO) : va_P D vwCl WF H1 ∧ va_D A WF := by
  simp only [isG, Bool.and_eq_true] at hg
  obtain ⟨⟨⟨⟨g1, g2⟩, g3⟩, g4⟩, g5⟩ := hg
  have hFc := va_free (wc := WC) hD hS hA isC hC
  obtain ⟨j1, j2⟩ := va_join (wr := isR.filterMap (fun i => ws[i]?)) hP hD isC isR hC (m_mf g5) g1 (isG_d g4) hk1 hFc hP1 hD1
  exact ⟨j1.sub isF (m_fm hF), j2.sub isF g3 hF⟩
theorem my_callVi (S : CallFix p m c cc nL s args Ts own) (hls : ls.size = nL) (hM : Met l y wsc rm (PRE D cy (.ref b :: As) H.size WC) (POi D r WO (va_A WC H.size)) mc ms (va_A WC H.size)) (cw : CallW R s args own C index y bytes maxL ret wsc rm mc ms n)
    (hK : KK D cy s) (hP : va_P D vwCl ws H) (hD : va_D A ws) (hS : va_S A H0 H locs) (hA : ∀ q : Nat, H0.size ≤ q → A q) (isC isR isF : List Nat) (hC : isC.map (fun i => ws[i]?) = WC.map some) (hg : isG ws isC isR isF = true) (hF : isF.map (fun i => ((isR.filterMap (fun i => ws[i]?)) ++ WO)[i]?) = WF.map some)
    (q0 ci : Nat) {fs : List Value} {T : u_T} {N : Nat} (hc : vwCl[ci]? = some (C, T, N)) (he : ws[q0]? = some (b, .inr (ci, fs))) (hst : st = As.reverse ++ .ref b :: rest) (hnl : As.length = n) (hW : (rest.map fun v => v.category).sum ≤ 8) (hdg : decode cc pc = .ok (.invokevirtual index, 3)) (hf : cells + mc ≤ R.cells ∧ slots + ms ≤ R.slots)
    (kk : ∀ (H1 : Heap) (locs1 : List Loc), va_P D vwCl WF H1 → va_D A WF → va_S A H0 H1 locs1 → W p l e R s m args below meth c H1 locs1 (cells + mc) (slots + ms) Q (F0 m (pc + 3) ls (.int r :: rest))) : W p l e R s m args below meth c H locs cells slots Q (F0 m pc ls st) := by
  have hg' := hg
  simp only [isG, Bool.and_eq_true] at hg'
  have hFc := va_free (wc := WC) hD hS hA isC hC
  refine va_calli (va_runV S hM cw ⟨fb_pre, va_recv hK.1 hP hc he, fun U hU hW => ⟨rfl, my_in hD hP hK hC hg'.1.1.1.2 hU hW⟩⟩ rfl hnl hls hst (lv_room hW) hdg hf) hS (fun q _ h => hFc q h) hFc (fun r' u t H1 locs1 ht hvm hw hB hz1 hk1 hS1 => ?_)
  obtain ⟨hP1, hD1⟩ := hB
  subst hw
  rw [ht] at hP1
  obtain ⟨k1, k2⟩ := my_back hP hD hS hA isC isR isF hC hg hF hk1 hP1 hD1
  exact kk H1 locs1 k1 k2 hS1
theorem my_callVv (S : CallFix p m c cc nL s args Ts own) (hls : ls.size = nL) (hM : Met l y wsc rm (PRE D cy (.ref b :: As) H.size WC) (POv D WO (va_A WC H.size)) mc ms (va_A WC H.size)) (cw : CallW R s args own C index y bytes maxL ret wsc rm mc ms n)
    (hK : KK D cy s) (hP : va_P D vwCl ws H) (hD : va_D A ws) (hS : va_S A H0 H locs) (hA : ∀ q : Nat, H0.size ≤ q → A q) (isC isR isF : List Nat) (hC : isC.map (fun i => ws[i]?) = WC.map some) (hg : isG ws isC isR isF = true) (hF : isF.map (fun i => ((isR.filterMap (fun i => ws[i]?)) ++ WO)[i]?) = WF.map some)
    (q0 ci : Nat) {fs : List Value} {T : u_T} {N : Nat} (hc : vwCl[ci]? = some (C, T, N)) (he : ws[q0]? = some (b, .inr (ci, fs))) (hst : st = As.reverse ++ .ref b :: rest) (hnl : As.length = n) (hW : (rest.map fun v => v.category).sum ≤ 8) (hdg : decode cc pc = .ok (.invokevirtual index, 3)) (hf : cells + mc ≤ R.cells ∧ slots + ms ≤ R.slots)
    (kk : ∀ (H1 : Heap) (locs1 : List Loc), va_P D vwCl WF H1 → va_D A WF → va_S A H0 H1 locs1 → W p l e R s m args below meth c H1 locs1 (cells + mc) (slots + ms) Q (F0 m (pc + 3) ls rest)) : W p l e R s m args below meth c H locs cells slots Q (F0 m pc ls st) := by
  have hg' := hg
  simp only [isG, Bool.and_eq_true] at hg'
  have hFc := va_free (wc := WC) hD hS hA isC hC
  refine va_callv (va_runV S hM cw ⟨fb_pre, va_recv hK.1 hP hc he, fun U hU hW => ⟨rfl, my_in hD hP hK hC hg'.1.1.1.2 hU hW⟩⟩ rfl hnl hls hst (lv_room hW) hdg hf) hS (fun q _ h => hFc q h) hFc (fun u t H1 locs1 ht hvm hw hB hz1 hk1 hS1 => ?_)
  obtain ⟨hP1, hD1⟩ := hB
  rw [ht] at hP1
  obtain ⟨k1, k2⟩ := my_back hP hD hS hA isC isR isF hC hg hF hk1 hP1 hD1
  exact kk H1 locs1 k1 k2 hS1
theorem my_callIv (S : CallFix p m c cc nL s args Ts own) (hls : ls.size = nL) (hM : Met l y wsc rm (PRE D cy (.ref b :: As) H.size WC) (POv D WO (va_A WC H.size)) mc ms (va_A WC H.size)) (cw : CallB R s args own index y bytes maxL none wsc rm mc ms n ∧ y.name = "<init>" ∧ (Cond.instanceMethod y).before args s = true)
    (hK : KK D cy s) (hP : va_P D vwCl ws H) (hD : va_D A ws) (hS : va_S A H0 H locs) (hA : ∀ q : Nat, H0.size ≤ q → A q) (isC isR isF : List Nat) (hC : isC.map (fun i => ws[i]?) = WC.map some) (hg : isG ws isC isR isF = true) (hF : isF.map (fun i => ((isR.filterMap (fun i => ws[i]?)) ++ WO)[i]?) = WF.map some)
    (hst : st = As.reverse ++ .ref b :: rest) (hnl : As.length = n) (hW : (rest.map fun v => v.category).sum ≤ 8) (hdg : decode cc pc = .ok (.invokespecial index, 3)) (hf : cells + mc ≤ R.cells ∧ slots + ms ≤ R.slots)
    (kk : ∀ (H1 : Heap) (locs1 : List Loc), va_P D vwCl WF H1 → va_D A WF → va_S A H0 H1 locs1 → W p l e R s m args below meth c H1 locs1 (cells + mc) (slots + ms) Q (F0 m (pc + 3) ls rest)) : W p l e R s m args below meth c H locs cells slots Q (F0 m pc ls st) := by
  have hg' := hg
  simp only [isG, Bool.and_eq_true] at hg'
  have hFc := va_free (wc := WC) hD hS hA isC hC
  refine va_callv (va_runI S hM cw ⟨fb_pre, fun U hU hW => ⟨rfl, my_in hD hP hK hC hg'.1.1.1.2 hU hW⟩⟩ rfl hnl hls hst (lv_room hW) hdg hf) hS (fun q _ h => hFc q h) hFc (fun u t H1 locs1 ht hvm hw hB hz1 hk1 hS1 => ?_)
  obtain ⟨hP1, hD1⟩ := hB
  rw [ht] at hP1
  obtain ⟨k1, k2⟩ := my_back hP hD hS hA isC isR isF hC hg hF hk1 hP1 hD1
  exact kk H1 locs1 k1 k2 hS1
theorem my_callNv {host : String} (S : CallFix p m c cc nL s args Ts own) (hls : ls.size = nL) (hM : Met l y wsc rm (PRE D cy (.ref b :: As) H.size WC) (POv D WO (va_A WC H.size)) mc ms (va_A WC H.size)) (cw : va_CN R s args own index y host bytes maxL none wsc rm mc ms n ∧ y.name = "<init>" ∧ (Cond.instanceMethod y).before args s = true)
    (hK : KK D cy s) (hP : va_P D vwCl ws H) (hD : va_D A ws) (hS : va_S A H0 H locs) (hA : ∀ q : Nat, H0.size ≤ q → A q) (isC isR isF : List Nat) (hC : isC.map (fun i => ws[i]?) = WC.map some) (hg : isG ws isC isR isF = true) (hF : isF.map (fun i => ((isR.filterMap (fun i => ws[i]?)) ++ WO)[i]?) = WF.map some)
    (hst : st = As.reverse ++ .ref b :: rest) (hnl : As.length = n) (hW : (rest.map fun v => v.category).sum ≤ 8) (hdg : decode cc pc = .ok (.invokespecial index, 3)) (hf : cells + mc ≤ R.cells ∧ slots + ms ≤ R.slots)
    (kk : ∀ (H1 : Heap) (locs1 : List Loc), va_P D vwCl WF H1 → va_D A WF → va_S A H0 H1 locs1 → W p l e R s m args below meth c H1 locs1 (cells + mc) (slots + ms) Q (F0 m (pc + 3) ls rest)) : W p l e R s m args below meth c H locs cells slots Q (F0 m pc ls st) := by
  have hg' := hg
  simp only [isG, Bool.and_eq_true] at hg'
  have hFc := va_free (wc := WC) hD hS hA isC hC
  refine va_callv (va_runIN S hM cw ⟨fb_pre, fun U hU hW => ⟨rfl, my_in hD hP hK hC hg'.1.1.1.2 hU hW⟩⟩ rfl hnl hls hst (lv_room hW) hdg hf) hS (fun q _ h => hFc q h) hFc (fun u t H1 locs1 ht hvm hw hB hz1 hk1 hS1 => ?_)
  obtain ⟨hP1, hD1⟩ := hB
  rw [ht] at hP1
  obtain ⟨k1, k2⟩ := my_back hP hD hS hA isC isR isF hC hg hF hk1 hP1 hD1
  exact kk H1 locs1 k1 k2 hS1
theorem my_callSi (S : CallFix p m c cc nL s args Ts own) (hls : ls.size = nL) (hM : Met l y wsc rm (PRE D cy As H.size WC) (POi D r WO (va_A WC H.size)) mc ms (va_A WC H.size)) (cw : CallB R s args own index y bytes maxL ret wsc rm mc ms n ∧ (Cond.static y).before args s = true)
    (hK : KK D cy s) (hP : va_P D vwCl ws H) (hD : va_D A ws) (hS : va_S A H0 H locs) (hA : ∀ q : Nat, H0.size ≤ q → A q) (isC isR isF : List Nat) (hC : isC.map (fun i => ws[i]?) = WC.map some) (hg : isG ws isC isR isF = true) (hF : isF.map (fun i => ((isR.filterMap (fun i => ws[i]?)) ++ WO)[i]?) = WF.map some)
    (hst : st = As.reverse ++ rest) (hnl : As.length = n) (hW : (rest.map fun v => v.category).sum ≤ 8) (hdg : decode cc pc = .ok (.invokestatic index, 3)) (hf : cells + mc ≤ R.cells ∧ slots + ms ≤ R.slots)
    (kk : ∀ (H1 : Heap) (locs1 : List Loc), va_P D vwCl WF H1 → va_D A WF → va_S A H0 H1 locs1 → W p l e R s m args below meth c H1 locs1 (cells + mc) (slots + ms) Q (F0 m (pc + 3) ls (.int r :: rest))) : W p l e R s m args below meth c H locs cells slots Q (F0 m pc ls st) := by
  have hg' := hg
  simp only [isG, Bool.and_eq_true] at hg'
  have hFc := va_free (wc := WC) hD hS hA isC hC
  refine va_calli (va_runS S hM cw ⟨fb_pre, fun U hU hW => ⟨rfl, my_in hD hP hK hC hg'.1.1.1.2 hU hW⟩⟩ rfl hnl hls hst (lv_room hW) hdg hf) hS (fun q _ h => hFc q h) hFc (fun r' u t H1 locs1 ht hvm hw hB hz1 hk1 hS1 => ?_)
  obtain ⟨hP1, hD1⟩ := hB
  subst hw
  rw [ht] at hP1
  obtain ⟨k1, k2⟩ := my_back hP hD hS hA isC isR isF hC hg hF hk1 hP1 hD1
  exact kk H1 locs1 k1 k2 hS1
end GW
/-! cells that a constructor makes: their addresses come as a function of their numbers -/
abbrev POn (D : va_G) (wo : (Nat → Nat) → va_W) (A : Nat → Prop) : Array Value → State → Outcome → State → Prop := va_Qv (fun (_ : Nat → Nat) => True) (fun q t => va_P D vwCl (wo q) t.heap ∧ va_D A (wo q)) A
def qOf (l : List Nat) : Nat → Nat := fun k => l.getD k 0
theorem kk_uq {D : va_G} {cy : Nat → ClassId} {s : State} {cA : ClassId} {ty : FieldType} (h : va_K D vwCl (kk_tys cy ++ [(cA, ty)]) s) (i : Nat) (hi : (kk_tys cy)[i]? = some (cy i, ty)) : cA = cy i := by
  have h1 : va_RA s cA ty := (h.2 6 (cA, ty) rfl).2
  have hlt : i < (kk_tys cy).length := (List.getElem?_eq_some_iff.mp hi).1
  have h2 : va_RA s (cy i) ty := (h.2 i (cy i, ty) (by rw [List.getElem?_append_left hlt]; exact hi)).2
  cases ty with
  | object C =>
    obtain ⟨_, _, _, _, _, e1⟩ := h1
    obtain ⟨_, _, _, _, _, e2⟩ := h2
    exact Option.some.inj (e1.symm.trans e2)
  | _ => exact Option.some.inj (Eq.trans (Eq.symm h1) h2)
section GN
variable {p : Program} {l : Launch} {e : Env} {R : Room} {s : State} {m : MethodId} {args : Array Value} {below : List Frame} {meth : Method} {c : Code} {H : Heap} {locs : List Loc} {cells slots : Nat} {Q : State → Prop}
variable {cc : ByteArray} {pc : Nat} {ls : Array Slot} {rest st : List Value} {D : va_G} {cy : Nat → ClassId} {A : Nat → Prop} {a : Nat} {ws : va_W} {H0 : Heap}
theorem fin_n {wo : (Nat → Nat) → va_W} (q : Nat → Nat) (hx : p.tables.exec = Jvm.exec) (hb : c.code = cc) (hr : meth.sig.returnType = none) (hlocks : meth.locks = false) (hP : va_P D vwCl (wo q) H) (hD : va_D A (wo q)) (hS : va_S A s.heap H locs) (hdg : decode cc pc = .ok (.return_, 1)) :
    W p l e R s m args below meth c H locs cells slots (MQ below (POn D wo A) args s cells slots A) (F0 m pc ls []) :=
  W.vret hx hb hr (fun t ht hW => ⟨⟨q, rfl, trivial, by rw [ht]; exact hP, hD⟩, hS.F ht⟩) hS.2.2 hdg hlocks
theorem my_newa (hx : p.tables.exec = Jvm.exec) (hb : c.code = cc) {atype : ArrayType} (harr : (Cond.arrayClass (newarray.typeOf atype)).before args s = true) {ty : FieldType} (hty : newarray.typeOf atype = ty) (hK : KK D cy s) (hP : va_P D vwCl ws H) (hD : va_D A ws) (hS : va_S A H0 H locs) (hA : ∀ q : Nat, H0.size ≤ q → A q) (i : Nat) (hi : (kk_tys cy)[i]? = some (cy i, ty))
    {n : Int32} {N' : Nat} {a0 : vp_A} (ha : ∀ cA : ClassId, vp_cell cA a0 = arrV cA N' (fun _ => defaultValue ty)) (hn : ¬ n < 0) (hN : n.toNatClampNeg = N') (hbytes : N' * componentBytes ty ≤ 536870912) (hcells : cells + 1 ≤ R.cells) (hslots : slots + N' ≤ R.slots) (hdg : decode cc pc = .ok (.newarray atype, 2))
    (kk : ∀ (q : Nat) (H1 : Heap), va_P D vwCl (ws ++ [(q, .inl (cy i, a0))]) H1 → va_D A (ws ++ [(q, .inl (cy i, a0))]) → va_S A H0 H1 locs → W p l e R s m args below meth c H1 locs (cells + 1) (slots + N') Q (F0 m (pc + 2) ls (.ref q :: rest))) : W p l e R s m args below meth c H locs cells slots Q (F0 m pc ls (.int n :: rest)) := by
  refine va_newa hx hb harr hty hK.1 hP hD hS hA ha hn hN hbytes hcells hslots hdg (fun q cA H1 h1 h2 h3 h4 => ?_)
  have e := kk_uq h1 i hi
  subst e
  exact kk q H1 h2 h3 h4
theorem my_newq (hx : p.tables.exec = Jvm.exec) (hb : c.code = cc) {own C : String} {index : Nat} (hown : s.vm.findClass own = some m.cls) (hcl : (Cond.classLink own index C).before args s = true) (hover : va_AO C s) (hK : KK D cy s) (hP : va_P D vwCl ws H) (hD : va_D A ws) (hS : va_S A H0 H locs) (hA : ∀ q : Nat, H0.size ≤ q → A q) (i : Nat) (hi : (kk_tys cy)[i]? = some (cy i, .object C))
    {n : Int32} {N' : Nat} (hn : ¬ n < 0) (hN : n.toNatClampNeg = N') (hbytes : N' * 4 ≤ 536870912) (hcells : cells + 1 ≤ R.cells) (hslots : slots + N' ≤ R.slots) (hdg : decode cc pc = .ok (.anewarray index, 3))
    (kk : ∀ (q : Nat) (H1 : Heap), va_P D vwCl (ws ++ [(q, .inl (cy i, N', .inr (.inr (.inr (.inr (fun _ => none))))))]) H1 → va_D A (ws ++ [(q, .inl (cy i, N', .inr (.inr (.inr (.inr (fun _ => none))))))]) → va_S A H0 H1 locs → W p l e R s m args below meth c H1 locs (cells + 1) (slots + N') Q (F0 m (pc + 3) ls (.ref q :: rest))) : W p l e R s m args below meth c H locs cells slots Q (F0 m pc ls (.int n :: rest)) := by
  refine va_newq hx hb hown hcl hover hK.1 hP hD hS hA hn hN hbytes hcells hslots hdg (fun q cA H1 h1 h2 h3 h4 => ?_)
  have e := kk_uq h1 i hi
  subst e
  exact kk q H1 h2 h3 h4
theorem my_aald (hx : p.tables.exec = Jvm.exec) (hb : c.code = cc) (hK : KK D cy s) (hP : va_P D vwCl ws H) (q0 j : Nat) {C : String} {n : Nat} {f : Nat → Option Nat} (ha : ws[q0]? = some (a, .inl (cy j, n, .inr (.inr (.inr (.inr f)))))) (hj : (kk_tys cy)[j]? = some (cy j, .object C)) {i : Int32} (hin : vp_in i n) (k v : Nat) (hk : i.toNatClampNeg = k) (hv : f k = some v) (hdg : decode cc pc = .ok (.aaload, 1))
    (kk : W p l e R s m args below meth c H locs cells slots Q (F0 m (pc + 1) ls (.ref v :: rest))) : W p l e R s m args below meth c H locs cells slots Q (F0 m pc ls (.int i :: .ref a :: rest)) := by
  subst hk
  refine va_aldq hx hb hK.1 hP q0 j ha hj hin hdg ?_
  rw [hv]
  exact kk
theorem my_aast (hx : p.tables.exec = Jvm.exec) (hb : c.code = cc) (hK : KK D cy s) (hP : va_P D vwCl ws H) (hD : va_D A ws) (hS : va_S A H0 H locs) (q0 j qk ci : Nat) {r : vw_C} {n v : Nat} {vs : List Value} {f : Nat → Option Nat} (ha : ws[q0]? = some (a, .inl (cy j, n, .inr (.inr (.inr (.inr f)))))) (hj : (kk_tys cy)[j]? = some (cy j, .object r.1)) (hv : ws[qk]? = some (v, .inr (ci, vs))) (hc : vwCl[ci]? = some r) {i : Int32} (hin : vp_in i n) (k : Nat) (hk : i.toNatClampNeg = k) (hdg : decode cc pc = .ok (.aastore, 1))
    (kk : ∀ (H1 : Heap) (locs1 : List Loc), va_P D vwCl (ws.set q0 (a, .inl (cy j, n, .inr (.inr (.inr (.inr (va_up f k (some v)))))))) H1 → va_D A (ws.set q0 (a, .inl (cy j, n, .inr (.inr (.inr (.inr (va_up f k (some v)))))))) → va_S A H0 H1 locs1 → W p l e R s m args below meth c H1 locs1 cells slots Q (F0 m (pc + 1) ls rest)) : W p l e R s m args below meth c H locs cells slots Q (F0 m pc ls (.ref v :: .int i :: .ref a :: rest)) := by
  subst hk
  exact va_astq hx hb hK.1 hP hD hS q0 j qk ci ha hj hv hc hin hdg kk
variable {WC : va_W} {WO WF : (Nat → Nat) → va_W} {y : MethodName} {rm : Room} {wsc Ts : List Cond} {bytes : ByteArray} {maxL nL index n mc ms : Nat} {ret : Option FieldType} {own C : String} {b : Addr} {As : List Value}
theorem my_callIn (S : CallFix p m c cc nL s args Ts own) (hls : ls.size = nL) (hM : Met l y wsc rm (PRE D cy (.ref b :: As) H.size WC) (POn D WO (va_A WC H.size)) mc ms (va_A WC H.size)) (cw : CallB R s args own index y bytes maxL none wsc rm mc ms n ∧ y.name = "<init>" ∧ (Cond.instanceMethod y).before args s = true)
    (hK : KK D cy s) (hP : va_P D vwCl ws H) (hD : va_D A ws) (hS : va_S A H0 H locs) (hA : ∀ q : Nat, H0.size ≤ q → A q) (isC isR isF : List Nat) (hC : isC.map (fun i => ws[i]?) = WC.map some) (hg : isG ws isC isR isF = true) (hF : ∀ q : Nat → Nat, isF.map (fun i => ((isR.filterMap (fun i => ws[i]?)) ++ WO q)[i]?) = (WF q).map some)
    (hst : st = As.reverse ++ .ref b :: rest) (hnl : As.length = n) (hW : (rest.map fun v => v.category).sum ≤ 8) (hdg : decode cc pc = .ok (.invokespecial index, 3)) (hf : cells + mc ≤ R.cells ∧ slots + ms ≤ R.slots)
    (kk : ∀ (q : Nat → Nat) (H1 : Heap) (locs1 : List Loc), va_P D vwCl (WF q) H1 → va_D A (WF q) → va_S A H0 H1 locs1 → W p l e R s m args below meth c H1 locs1 (cells + mc) (slots + ms) Q (F0 m (pc + 3) ls rest)) : W p l e R s m args below meth c H locs cells slots Q (F0 m pc ls st) := by
  have hg' := hg
  simp only [isG, Bool.and_eq_true] at hg'
  have hFc := va_free (wc := WC) hD hS hA isC hC
  refine va_callv (va_runI S hM cw ⟨fb_pre, fun U hU hW => ⟨rfl, my_in hD hP hK hC hg'.1.1.1.2 hU hW⟩⟩ rfl hnl hls hst (lv_room hW) hdg hf) hS (fun q _ h => hFc q h) hFc (fun u t H1 locs1 ht hvm hw hB hz1 hk1 hS1 => ?_)
  obtain ⟨hP1, hD1⟩ := hB
  rw [ht] at hP1
  obtain ⟨k1, k2⟩ := my_back hP hD hS hA isC isR isF hC hg (hF u) hk1 hP1 hD1
  exact kk u H1 locs1 k1 k2 hS1
theorem my_callNn {host : String} (S : CallFix p m c cc nL s args Ts own) (hls : ls.size = nL) (hM : Met l y wsc rm (PRE D cy (.ref b :: As) H.size WC) (POn D WO (va_A WC H.size)) mc ms (va_A WC H.size)) (cw : va_CN R s args own index y host bytes maxL none wsc rm mc ms n ∧ y.name = "<init>" ∧ (Cond.instanceMethod y).before args s = true)
    (hK : KK D cy s) (hP : va_P D vwCl ws H) (hD : va_D A ws) (hS : va_S A H0 H locs) (hA : ∀ q : Nat, H0.size ≤ q → A q) (isC isR isF : List Nat) (hC : isC.map (fun i => ws[i]?) = WC.map some) (hg : isG ws isC isR isF = true) (hF : ∀ q : Nat → Nat, isF.map (fun i => ((isR.filterMap (fun i => ws[i]?)) ++ WO q)[i]?) = (WF q).map some)
    (hst : st = As.reverse ++ .ref b :: rest) (hnl : As.length = n) (hW : (rest.map fun v => v.category).sum ≤ 8) (hdg : decode cc pc = .ok (.invokespecial index, 3)) (hf : cells + mc ≤ R.cells ∧ slots + ms ≤ R.slots)
    (kk : ∀ (q : Nat → Nat) (H1 : Heap) (locs1 : List Loc), va_P D vwCl (WF q) H1 → va_D A (WF q) → va_S A H0 H1 locs1 → W p l e R s m args below meth c H1 locs1 (cells + mc) (slots + ms) Q (F0 m (pc + 3) ls rest)) : W p l e R s m args below meth c H locs cells slots Q (F0 m pc ls st) := by
  have hg' := hg
  simp only [isG, Bool.and_eq_true] at hg'
  have hFc := va_free (wc := WC) hD hS hA isC hC
  refine va_callv (va_runIN S hM cw ⟨fb_pre, fun U hU hW => ⟨rfl, my_in hD hP hK hC hg'.1.1.1.2 hU hW⟩⟩ rfl hnl hls hst (lv_room hW) hdg hf) hS (fun q _ h => hFc q h) hFc (fun u t H1 locs1 ht hvm hw hB hz1 hk1 hS1 => ?_)
  obtain ⟨hP1, hD1⟩ := hB
  rw [ht] at hP1
  obtain ⟨k1, k2⟩ := my_back hP hD hS hA isC isR isF hC hg (hF u) hk1 hP1 hD1
  exact kk u H1 locs1 k1 k2 hS1
theorem fin_zs {v : Int32} (h : v &&& 1 = v) : narrow .boolean (.int v) = .int v := by
  show Value.int (v &&& 1) = _
  rw [h]
end GN

abbrev SX0 : Type := Int32 × Int32 × Int32 × Int32
abbrev SX1 : Type := Int32 × Int32 × Int32 × Int32 × Int32
abbrev SX3 : Type := Int32 × Int32 × Int32 × Int32 × Int32
abbrev SX4 : Type := Int32 × Int32 × Int32 × Int32 × Int32 × Int32 × Int32 × Int32 × Int32 × Int32
abbrev SX5 : Type := Int32 × Int32 × Int32 × Int32 × Int32 × Int32 × Int32 × Int32 × Int32 × Int32 × Int32 × Int32 × Int32 × Int32 × Int32
abbrev SX6 : Type := Int32 × Int32 × Int32
abbrev SX7 : Type := Int32 × Int32 × Int32 × Int32 × Int32 × Int32 × Int32 × Int32 × Int32 × Int32 × Int32 × Int32 × Int32 × Int32 × Int32 × Int32 × Int32
abbrev SX8 : Type := Int32 × Int32 × Int32
abbrev SX12 : Type := Int32 × Int32 × Int32 × Int32 × Int32 × Int32 × Int32 × Int32 × Int64 × Int32 × Int32 × Int32
theorem nw_X0 : ∀ j, j < 5 → defaultValue (tyX0 j) = vp_V [.null, .int 0, .int 0, .int 0, .int 0] j := by
  intro j hj
  rcases (show j = 0 ∨ j = 1 ∨ j = 2 ∨ j = 3 ∨ j = 4 by omega) with rfl | rfl | rfl | rfl | rfl <;> rfl
theorem nw_X1 : ∀ j, j < 6 → defaultValue (tyX1 j) = vp_V [.null, .int 0, .int 0, .int 0, .int 0, .int 0] j := by
  intro j hj
  rcases (show j = 0 ∨ j = 1 ∨ j = 2 ∨ j = 3 ∨ j = 4 ∨ j = 5 by omega) with rfl | rfl | rfl | rfl | rfl | rfl <;> rfl
theorem nw_X2 : ∀ j, j < 2 → defaultValue (tyX2 j) = vp_V [.null, .int 0] j := by
  intro j hj
  rcases (show j = 0 ∨ j = 1 by omega) with rfl | rfl <;> rfl
theorem nw_X3 : ∀ j, j < 7 → defaultValue (tyX3 j) = vp_V [.null, .null, .int 0, .int 0, .int 0, .int 0, .int 0] j := by
  intro j hj
  rcases (show j = 0 ∨ j = 1 ∨ j = 2 ∨ j = 3 ∨ j = 4 ∨ j = 5 ∨ j = 6 by omega) with rfl | rfl | rfl | rfl | rfl | rfl | rfl <;> rfl
theorem nw_X4 : ∀ j, j < 13 → defaultValue (tyX4 j) = vp_V [.int 0, .null, .null, .null, .int 0, .int 0, .int 0, .int 0, .int 0, .int 0, .int 0, .int 0, .int 0] j := by
  intro j hj
  rcases (show j = 0 ∨ j = 1 ∨ j = 2 ∨ j = 3 ∨ j = 4 ∨ j = 5 ∨ j = 6 ∨ j = 7 ∨ j = 8 ∨ j = 9 ∨ j = 10 ∨ j = 11 ∨ j = 12 by omega) with rfl | rfl | rfl | rfl | rfl | rfl | rfl | rfl | rfl | rfl | rfl | rfl | rfl <;> rfl
theorem nw_X5 : ∀ j, j < 16 → defaultValue (tyX5 j) = vp_V [.int 0, .null, .int 0, .int 0, .int 0, .int 0, .int 0, .int 0, .int 0, .int 0, .int 0, .int 0, .int 0, .int 0, .int 0, .int 0] j := by
  intro j hj
  rcases (show j = 0 ∨ j = 1 ∨ j = 2 ∨ j = 3 ∨ j = 4 ∨ j = 5 ∨ j = 6 ∨ j = 7 ∨ j = 8 ∨ j = 9 ∨ j = 10 ∨ j = 11 ∨ j = 12 ∨ j = 13 ∨ j = 14 ∨ j = 15 by omega) with rfl | rfl | rfl | rfl | rfl | rfl | rfl | rfl | rfl | rfl | rfl | rfl | rfl | rfl | rfl | rfl <;> rfl
theorem nw_X6 : ∀ j, j < 4 → defaultValue (tyX6 j) = vp_V [.null, .int 0, .int 0, .int 0] j := by
  intro j hj
  rcases (show j = 0 ∨ j = 1 ∨ j = 2 ∨ j = 3 by omega) with rfl | rfl | rfl | rfl <;> rfl
theorem nw_X7 : ∀ j, j < 17 → defaultValue (tyX7 j) = vp_V [.int 0, .int 0, .int 0, .int 0, .int 0, .int 0, .int 0, .int 0, .int 0, .int 0, .int 0, .int 0, .int 0, .int 0, .int 0, .int 0, .int 0] j := by
  intro j hj
  rcases (show j = 0 ∨ j = 1 ∨ j = 2 ∨ j = 3 ∨ j = 4 ∨ j = 5 ∨ j = 6 ∨ j = 7 ∨ j = 8 ∨ j = 9 ∨ j = 10 ∨ j = 11 ∨ j = 12 ∨ j = 13 ∨ j = 14 ∨ j = 15 ∨ j = 16 by omega) with rfl | rfl | rfl | rfl | rfl | rfl | rfl | rfl | rfl | rfl | rfl | rfl | rfl | rfl | rfl | rfl | rfl <;> rfl
theorem nw_X8 : ∀ j, j < 4 → defaultValue (tyX8 j) = vp_V [.null, .int 0, .int 0, .int 0] j := by
  intro j hj
  rcases (show j = 0 ∨ j = 1 ∨ j = 2 ∨ j = 3 by omega) with rfl | rfl | rfl | rfl <;> rfl
theorem nw_X9 : ∀ j, j < 4 → defaultValue (tyX9 j) = vp_V [.null, .null, .null, .int 0] j := by
  intro j hj
  rcases (show j = 0 ∨ j = 1 ∨ j = 2 ∨ j = 3 by omega) with rfl | rfl | rfl | rfl <;> rfl
theorem nw_X10 : ∀ j, j < 3 → defaultValue (tyX10 j) = vp_V [.null, .null, .null] j := by
  intro j hj
  rcases (show j = 0 ∨ j = 1 ∨ j = 2 by omega) with rfl | rfl | rfl <;> rfl
theorem nw_X11 : ∀ j, j < 7 → defaultValue (tyX11 j) = vp_V [.null, .null, .null, .null, .int 0, .null, .null] j := by
  intro j hj
  rcases (show j = 0 ∨ j = 1 ∨ j = 2 ∨ j = 3 ∨ j = 4 ∨ j = 5 ∨ j = 6 by omega) with rfl | rfl | rfl | rfl | rfl | rfl | rfl <;> rfl
theorem nw_X12 : ∀ j, j < 1 → defaultValue (tyX12 j) = vp_V [.int 0] j := by
  intro j hj
  obtain rfl : j = 0 := by omega
  rfl
