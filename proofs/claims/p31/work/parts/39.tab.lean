theorem iX0_tbl : ∀ w ∈ u_ws RX0 TX0 5, w ∈ lw_tbl := by decide +kernel
theorem iX1_tbl : ∀ w ∈ u_ws RX1 TX1 6, w ∈ lw_tbl := by decide +kernel
theorem iX2_tbl : ∀ w ∈ u_ws RX2 TX2 2, w ∈ lw_tbl := by decide +kernel
theorem iX3_tbl : ∀ w ∈ u_ws RX3 TX3 7, w ∈ lw_tbl := by decide +kernel
theorem iX4_tbl : ∀ w ∈ u_ws RX4 TX4 13, w ∈ lw_tbl := by decide +kernel
theorem iX5_tbl : ∀ w ∈ u_ws RX5 TX5 16, w ∈ lw_tbl := by decide +kernel
theorem iX6_tbl : ∀ w ∈ u_ws RX6 TX6 4, w ∈ lw_tbl := by decide +kernel
theorem iX7_tbl : ∀ w ∈ u_ws RX7 TX7 17, w ∈ lw_tbl := by decide +kernel
theorem iX8_tbl : ∀ w ∈ u_ws RX8 TX8 4, w ∈ lw_tbl := by decide +kernel
theorem iX9_tbl : ∀ w ∈ u_ws RX9 TX9 4, w ∈ lw_tbl := by decide +kernel
theorem iX10_tbl : ∀ w ∈ u_ws RX10 TX10 3, w ∈ lw_tbl := by decide +kernel
theorem iX11_tbl : ∀ w ∈ u_ws RX11 TX11 7, w ∈ lw_tbl := by decide +kernel
theorem iX12_tbl : ∀ w ∈ u_ws RX12 TX12 1, w ∈ lw_tbl := by decide +kernel
theorem kk_arr {s : State} {args : Array Value} {ty : FieldType} (h : (Cond.arrayClass ty).before args s = true) : ∃ cA : ClassId, ArrOfT s cA ty ∧ s.vm.findClass ("[" ++ ty.toString) = some cA := by
  obtain ⟨cA, kA, comp, h1, h2, h3⟩ := Cond.arrayClass_spec h
  exact ⟨cA, fun n z => ⟨fun k h => (by cases h), kA, h2, comp, h3⟩, h1⟩
theorem kk_arrO {s : State} {args : Array Value} {C : String} (h : (Cond.arrayOver (.object C)).before args s = true) : ∃ cA : ClassId, ArrOfT s cA (.object C) ∧ va_RA s cA (.object C) := by
  obtain ⟨comp, cA, kA, h1, h2, h3, h4, h5⟩ := Cond.arrayOver_spec h
  exact ⟨cA, fun n z => ⟨fun k h => (by cases h), kA, h3, comp, h4⟩, kA, comp, h3, h4, h1, h5⟩
set_option maxRecDepth 100000 in
theorem kk_ex {s : State} {b : Nat} (hts : ∀ w ∈ lw_tbl, w.before #[Value.ref b] s = true) : ∃ (D : va_G) (cy : Nat → ClassId), KK D cy s := by
  obtain ⟨c0, iS0, hK0⟩ := u_known (C := RX0) (T := TX0) (N := 5) (n := 5) hts iX0_tbl (hts (.instantiable RX0 5) (List.mem_of_getElem? (i := 323) (by decide +kernel)))
  obtain ⟨c1, iS1, hK1⟩ := u_known (C := RX1) (T := TX1) (N := 6) (n := 6) hts iX1_tbl (hts (.instantiable RX1 6) (List.mem_of_getElem? (i := 227) (by decide +kernel)))
  obtain ⟨c2, iS2, hK2⟩ := u_known (C := RX2) (T := TX2) (N := 2) (n := 2) hts iX2_tbl (hts (.instantiable RX2 2) (List.mem_of_getElem? (i := 414) (by decide +kernel)))
  obtain ⟨c3, iS3, hK3⟩ := u_known (C := RX3) (T := TX3) (N := 7) (n := 7) hts iX3_tbl (hts (.instantiable RX3 7) (List.mem_of_getElem? (i := 467) (by decide +kernel)))
  obtain ⟨c4, iS4, hK4⟩ := u_known (C := RX4) (T := TX4) (N := 13) (n := 13) hts iX4_tbl (hts (.instantiable RX4 13) (List.mem_of_getElem? (i := 221) (by decide +kernel)))
  obtain ⟨c5, iS5, hK5⟩ := u_known (C := RX5) (T := TX5) (N := 16) (n := 16) hts iX5_tbl (hts (.instantiable RX5 16) (List.mem_of_getElem? (i := 67) (by decide +kernel)))
  obtain ⟨c6, iS6, hK6⟩ := u_known (C := RX6) (T := TX6) (N := 4) (n := 4) hts iX6_tbl (hts (.instantiable RX6 4) (List.mem_of_getElem? (i := 200) (by decide +kernel)))
  obtain ⟨c7, iS7, hK7⟩ := u_known (C := RX7) (T := TX7) (N := 17) (n := 17) hts iX7_tbl (hts (.instantiable RX7 17) (List.mem_of_getElem? (i := 255) (by decide +kernel)))
  obtain ⟨c8, iS8, hK8⟩ := u_known (C := RX8) (T := TX8) (N := 4) (n := 4) hts iX8_tbl (hts (.instantiable RX8 4) (List.mem_of_getElem? (i := 170) (by decide +kernel)))
  obtain ⟨c9, iS9, hK9⟩ := u_known (C := RX9) (T := TX9) (N := 4) (n := 4) hts iX9_tbl (hts (.instantiable RX9 4) (List.mem_of_getElem? (i := 194) (by decide +kernel)))
  obtain ⟨c10, iS10, hK10⟩ := u_known (C := RX10) (T := TX10) (N := 3) (n := 3) hts iX10_tbl (hts (.instantiable RX10 3) (List.mem_of_getElem? (i := 61) (by decide +kernel)))
  obtain ⟨c11, iS11, hK11⟩ := u_known (C := RX11) (T := TX11) (N := 7) (n := 7) hts iX11_tbl (hts (.instantiable RX11 7) (List.mem_of_getElem? (i := 53) (by decide +kernel)))
  obtain ⟨c12, iS12, hK12⟩ := u_known (C := RX12) (T := TX12) (N := 1) (n := 1) hts iX12_tbl (hts (.instantiable RX12 1) (List.mem_of_getElem? (i := 755) (by decide +kernel)))
  obtain ⟨a0, hA0, hB0⟩ := kk_arr (hts (.arrayClass .int) (List.mem_of_getElem? (i := 168) (by decide +kernel)))
  obtain ⟨a1, hA1, hB1⟩ := kk_arr (hts (.arrayClass .byte) (List.mem_of_getElem? (i := 192) (by decide +kernel)))
  obtain ⟨a2, hA2, hB2⟩ := kk_arr (hts (.arrayClass .boolean) (List.mem_of_getElem? (i := 501) (by decide +kernel)))
  obtain ⟨a3, hA3, hB3⟩ := kk_arr (hts (.arrayClass .long) (List.mem_of_getElem? (i := 942) (by decide +kernel)))
  obtain ⟨a4, hA4, hB4⟩ := kk_arrO (hts (.arrayOver (.object RX9)) (List.mem_of_getElem? (i := 464) (by decide +kernel)))
  obtain ⟨a5, hA5, hB5⟩ := kk_arrO (hts (.arrayOver (.object RX10)) (List.mem_of_getElem? (i := 462) (by decide +kernel)))
  refine ⟨(fun k => if k = 0 then c0 else if k = 1 then c1 else if k = 2 then c2 else if k = 3 then c3 else if k = 4 then c4 else if k = 5 then c5 else if k = 6 then c6 else if k = 7 then c7 else if k = 8 then c8 else if k = 9 then c9 else if k = 10 then c10 else if k = 11 then c11 else c12, fun k => if k = 0 then iS0 else if k = 1 then iS1 else if k = 2 then iS2 else if k = 3 then iS3 else if k = 4 then iS4 else if k = 5 then iS5 else if k = 6 then iS6 else if k = 7 then iS7 else if k = 8 then iS8 else if k = 9 then iS9 else if k = 10 then iS10 else if k = 11 then iS11 else iS12), fun k => if k = 0 then a0 else if k = 1 then a1 else if k = 2 then a2 else if k = 3 then a3 else if k = 4 then a4 else a5, ⟨?_, ?_⟩, ?_⟩
  · intro k q hq
    match k, hq with
    | 0, hq => cases hq; exact hK0
    | 1, hq => cases hq; exact hK1
    | 2, hq => cases hq; exact hK2
    | 3, hq => cases hq; exact hK3
    | 4, hq => cases hq; exact hK4
    | 5, hq => cases hq; exact hK5
    | 6, hq => cases hq; exact hK6
    | 7, hq => cases hq; exact hK7
    | 8, hq => cases hq; exact hK8
    | 9, hq => cases hq; exact hK9
    | 10, hq => cases hq; exact hK10
    | 11, hq => cases hq; exact hK11
    | 12, hq => cases hq; exact hK12
    | k + 13, hq => simp [vwCl] at hq
  · intro k q hq
    match k, hq with
    | 0, hq => cases hq; exact ⟨hA0, hB0⟩
    | 1, hq => cases hq; exact ⟨hA1, hB1⟩
    | 2, hq => cases hq; exact ⟨hA2, hB2⟩
    | 3, hq => cases hq; exact ⟨hA3, hB3⟩
    | 4, hq => cases hq; exact ⟨hA4, hB4⟩
    | 5, hq => cases hq; exact ⟨hA5, hB5⟩
    | k + 6, hq => simp [kk_tys] at hq
  · exact ⟨va_Nw.of rfl (hts (.methodLinkNest RX11 11 yX10_init RX11) (List.mem_of_getElem? (i := 62) (by decide +kernel))), va_Nw.of rfl (hts (.methodLinkNest RX11 39 yX3_init RX11) (List.mem_of_getElem? (i := 468) (by decide +kernel))), va_Nw.of rfl (hts (.methodLinkNest RX10 20 yX8_init RX11) (List.mem_of_getElem? (i := 171) (by decide +kernel))), va_Nw.of rfl (hts (.methodLinkNest RX9 9 yX6_init RX11) (List.mem_of_getElem? (i := 201) (by decide +kernel))), va_Nw.of rfl (hts (.methodLinkNest RX4 11 yX1_init RX11) (List.mem_of_getElem? (i := 228) (by decide +kernel))), va_Nw.of rfl (hts (.methodLinkNest RX4 20 yX7_init RX11) (List.mem_of_getElem? (i := 256) (by decide +kernel))), va_Nw.of rfl (hts (.methodLinkNest RX4 27 yX0_init RX11) (List.mem_of_getElem? (i := 324) (by decide +kernel))), va_Nw.of rfl (hts (.methodLinkNest RX3 20 yX8_init RX11) (List.mem_of_getElem? (i := 475) (by decide +kernel))), va_AO.of (hts (.arrayOver (.object RX9)) (List.mem_of_getElem? (i := 464) (by decide +kernel))), va_AO.of (hts (.arrayOver (.object RX10)) (List.mem_of_getElem? (i := 462) (by decide +kernel)))⟩
