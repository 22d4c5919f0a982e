def f_X8_byteOf (x0 : Int64) (x1 : Int32) : Option (Int32) := some (((x0.toUInt64 >>> ((56 - (8 * x1)).toInt64.toUInt64 &&& Int64.toUInt64 63)).toInt64).toInt32 &&& 255)
set_option maxHeartbeats 4000000 in
set_option maxRecDepth 100000 in
theorem c_X8_byteOf (l : Launch) (D : va_G) (cy : Nat → ClassId)  (sz : Nat) (x0 : Int64) (x1 : Int32) (ret : Int32) (hf : f_X8_byteOf x0 x1 = some ret) : Met l yX8_byteOf wsX8_byteOf ({ frames := 0, cells := 0, slots := 0, locals := 0 } : Room) (PRE D cy [.long x0, .int x1] sz []) (POi D ret [] (va_A [] sz)) 0 0 (va_A [] sz) := by
  refine ent (fun A => (POi D ret [] A)) (cc := cX8_byteOf) (maxL := 3) (ret := (some .int)) (by decide +kernel) rfl (Nat.le_of_ble_eq_true rfl) ?_
  intro p e s m args below meth c A ls H hx hb hml hr hlocks hown hts hnm hA hK hP hD hS hl
  have hP : va_P D vwCl [] H := hP
  have hD : va_D A [] := hD
  have hl : lv_has ls 3 [(0, .long x0), (2, .int x1)] := hl
  have hf : some (((x0.toUInt64 >>> ((56 - (8 * x1)).toInt64.toUInt64 &&& Int64.toUInt64 63)).toInt64).toInt32 &&& 255) = some ret := hf
  refine lv_lload_n hx hb dX8_byteOf_0 rfl (lv_at hl 0 rfl) ?_
  refine lv_bipush (v := 56) hx hb dX8_byteOf_1 (by decide) ?_
  refine lv_bipush (v := 8) hx hb dX8_byteOf_3 (by decide) ?_
  refine lv_iload_n hx hb dX8_byteOf_5 rfl (lv_at hl 1 rfl) ?_
  refine lv_imul hx hb dX8_byteOf_6 ?_
  refine lv_isub hx hb dX8_byteOf_7 ?_
  refine lv_lushr (v := (x0.toUInt64 >>> ((56 - (8 * x1)).toInt64.toUInt64 &&& Int64.toUInt64 63)).toInt64) hx hb dX8_byteOf_8 rfl ?_
  refine lv_l2i (v := ((x0.toUInt64 >>> ((56 - (8 * x1)).toInt64.toUInt64 &&& Int64.toUInt64 63)).toInt64).toInt32) hx hb dX8_byteOf_9 rfl ?_
  refine lv_sipush (v := 255) hx hb dX8_byteOf_10 (by decide) ?_
  refine lv_iand hx hb dX8_byteOf_13 ?_
  cases hf
  exact fin_i hx hb hr hlocks hP hD hS dX8_byteOf_14
theorem cd_X8_byteOf : yX8_byteOf.cls = RX8 ∧ yX8_byteOf.cls ≠ "java/lang/invoke/MethodHandle" ∧ yX8_byteOf.cls ≠ "java/lang/invoke/VarHandle" ∧ (parseMethodDescriptor yX8_byteOf.desc).map (fun d => d.parameters.length) = some 2 := by decide +kernel
