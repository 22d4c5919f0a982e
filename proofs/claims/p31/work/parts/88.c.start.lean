/-! the reader's words at the start -/
def sx_tm (i : Nat) : Term := .string RX3 (sx_k.getD i 0)
def sx_f (i : Nat) : Term := .field (sx_tm i) "java/lang/String" "value" "[B"
def sx_one (i : Nat) : List Cond := [.exactly (sx_tm i) "java/lang/String", .eq (.field (sx_tm i) "java/lang/String" "coder" "B") (.int 0), .arrayOf (sx_f i) .byte, .eq (.length (sx_f i)) (.int (Int32.ofNat (sx_n.getD i 0)))] ++ ((List.range (sx_n.getD i 0)).map (fun j => Cond.eq (.elem (sx_f i) (.int (Int32.ofNat j))) (.int ((sx_b.getD i []).getD j 0))) ++ (List.range i).map (fun j => Cond.not (.eq (sx_tm j) (sx_tm i))))
def sx_all : List Cond := (List.range 9).flatMap sx_one
set_option maxRecDepth 100000 in
theorem sx_giv : ∀ w ∈ sx_all, w ∈ flatC (Jvm.Cond.and given_1 narrow_1) := by decide +kernel
theorem sx_mem {i : Nat} (hi : i < 9) {w : Cond} (h : w ∈ sx_one i) : w ∈ sx_all := List.mem_flatMap.mpr ⟨i, List.mem_range.mpr hi, h⟩
set_option maxRecDepth 100000 in
theorem sx_tb : ∀ i : Nat, i < 9 → Cond.stringRef RX3 (sx_k.getD i 0) (sx_t.getD i "") ∈ lw_tbl := by decide +kernel
theorem sx_lt : ∀ i : Nat, i < 9 → sx_n.getD i 0 < 2 ^ 31 := sx_zl
theorem sx_start {s : State} {b : Nat} (hts : ∀ w ∈ lw_tbl, w.before #[Value.ref b] s = true) (hq : ∀ w ∈ flatC (Jvm.Cond.and given_1 narrow_1), w.before #[Value.ref b] s = true) : ∃ K V : Nat → Nat, SXP K V (fun q => s.heap.size ≤ q) s := by
  have hno : ∀ a : Nat, a < s.heap.size → ¬ s.heap.size ≤ a := fun a h => Nat.not_le.mpr h
  have h1 : ∀ {i : Nat}, i < 9 → ∀ {w : Cond}, w ∈ sx_one i → w.before #[Value.ref b] s = true := fun hi _ hw => hq _ (sx_giv _ (sx_mem hi hw))
  obtain ⟨K, V, hS, hev⟩ := vk_Sof (args := #[Value.ref b]) (s := s) (N := 9) (tm := sx_tm) (len := sx_n) (byt := sx_b) (A := fun q => s.heap.size ≤ q) sx_lt
    (fun i hi => h1 hi (List.mem_append_left _ (by simp))) (fun i hi => h1 hi (List.mem_append_left _ (by simp))) (fun i hi => h1 hi (List.mem_append_left _ (by simp [sx_f]))) (fun i hi => h1 hi (List.mem_append_left _ (by simp [sx_f])))
    (fun i hi j hj => h1 hi (List.mem_append_right _ (List.mem_append_left _ (List.mem_map.mpr ⟨j, List.mem_range.mpr hj, rfl⟩))))
    (fun i j hi hj hij => by
      rcases Nat.lt_or_gt_of_ne hij with h | h
      · exact Or.inl (h1 hj (List.mem_append_right _ (List.mem_append_right _ (List.mem_map.mpr ⟨i, List.mem_range.mpr h, rfl⟩))))
      · exact Or.inr (h1 hi (List.mem_append_right _ (List.mem_append_right _ (List.mem_map.mpr ⟨j, List.mem_range.mpr h, rfl⟩))))) hno
  refine ⟨K, V, fun i hi => vk_R.of (hts _ (sx_tb i hi)) ?_, hS, ?_, ?_⟩
  · exact hev i hi
  · exact va_Zof (hts (.laysStatic "java/lang/String" "COMPACT_STRINGS" "Z") (by decide +kernel)) (hts (.initialized "java/lang/String") (by decide +kernel)) (va_eqi (hq (.eq (.static "java/lang/String" "COMPACT_STRINGS" "Z") (.int 1)) (by decide +kernel))) hno
  · exact va_Zqof (hts (.laysStatic "jdk/internal/util/Preconditions" "SIOOBE_FORMATTER" "Ljava/util/function/BiFunction;") (by decide +kernel)) (hts (.initialized "jdk/internal/util/Preconditions") (by decide +kernel)) (hq (.isRef (.static "jdk/internal/util/Preconditions" "SIOOBE_FORMATTER" "Ljava/util/function/BiFunction;")) (by decide +kernel)) hno
theorem whole_start {p : Program} {e : Env} {s : State} {m : MethodId} {below : List Frame} {meth : Method} {c : Code} (l : Launch) (hflags : l.flags = flags0) {b L : Nat} {xs : Nat → Int32} (hL : L ≤ 260) (C0 : lw_At p s m meth c b L xs) : W p l e room_1 s m #[Value.ref b] below meth c s.heap [] 0 0 (lw_Z below #[Value.ref b] s) (entryFrame m ([Value.ref b] : List Value).toArray 16) := by
  obtain ⟨hx, hb, hr, hml, hown, hts, hX, hbl, hlocks, hgv⟩ := id C0
  obtain ⟨D, cy, hK⟩ := kk_ex hts
  have hl9 : l.stackTraces = false := by unfold Launch.stackTraces; rw [hflags]; decide +kernel
  have hq := flat_of_before _ hgv
  obtain ⟨K, V, hSX⟩ := sx_start hts hq
  have hsr := hts (Cond.stringRef RX11 180 "no such frame") (by decide +kernel)
  obtain ⟨c1, k1, hc1, -⟩ := Cond.instantiable_spec (hts (.instantiable RX11 7) (by decide +kernel))
  obtain ⟨k, cf, i, sa, -, -, -, -, -, hev⟩ := Cond.stringRef_spec hc1 hsr
  have hno : ∀ a : Nat, a < s.heap.size → ¬ s.heap.size ≤ a := fun a h => Nat.not_le.mpr h
  refine law_walk l hflags hL C0 D cy hK hl9 sa ⟨fun w hw a' => nx_later hw (hts w (nx_bad2 w hw)) (Vm.Alike.refl s.vm), vk_R.of hsr hev, ?_, ?_⟩ K V hSX
  · exact vx_Zqof (hts (.laysStatic Bundle.tN "UNASSIGNED_STACK" Bundle.steD) (by decide +kernel)) (hts (.initialized Bundle.tN) (by decide +kernel)) (hq (.isRef (.static Bundle.tN "UNASSIGNED_STACK" Bundle.steD)) (by decide +kernel)) hno
  · exact vx_Zqof (hts (.laysStatic Bundle.tN "SUPPRESSED_SENTINEL" Bundle.listD) (by decide +kernel)) (hts (.initialized Bundle.tN) (by decide +kernel)) (hq (.isRef (.static Bundle.tN "SUPPRESSED_SENTINEL" Bundle.listD)) (by decide +kernel)) hno
