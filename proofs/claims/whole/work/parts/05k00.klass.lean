theorem hdJx4a65c_elementData_915e3 : yJx4a65c_elementData_915e3.cls = RJx4a65c ∧ yJx4a65c_elementData_915e3.cls ≠ "java/lang/invoke/MethodHandle" ∧ yJx4a65c_elementData_915e3.cls ≠ "java/lang/invoke/VarHandle" ∧ (parseMethodDescriptor yJx4a65c_elementData_915e3.desc).map (fun d => d.parameters.length) = some 1 := by decide +kernel
def mJ6_bitCount_0f7a4 (x0 : Int32) : Option (Int32) :=
  (some ((((((((x0 - (((x0.toUInt32 >>> ((1 : Int32).toUInt32 &&& Int32.toUInt32 31)).toInt32) &&& (1431655765 : Int32))) &&& (858993459 : Int32)) + ((((x0 - (((x0.toUInt32 >>> ((1 : Int32).toUInt32 &&& Int32.toUInt32 31)).toInt32) &&& (1431655765 : Int32))).toUInt32 >>> ((2 : Int32).toUInt32 &&& Int32.toUInt32 31)).toInt32) &&& (858993459 : Int32))) + (((((x0 - (((x0.toUInt32 >>> ((1 : Int32).toUInt32 &&& Int32.toUInt32 31)).toInt32) &&& (1431655765 : Int32))) &&& (858993459 : Int32)) + ((((x0 - (((x0.toUInt32 >>> ((1 : Int32).toUInt32 &&& Int32.toUInt32 31)).toInt32) &&& (1431655765 : Int32))).toUInt32 >>> ((2 : Int32).toUInt32 &&& Int32.toUInt32 31)).toInt32) &&& (858993459 : Int32))).toUInt32 >>> ((4 : Int32).toUInt32 &&& Int32.toUInt32 31)).toInt32)) &&& (252645135 : Int32)) + (((((((x0 - (((x0.toUInt32 >>> ((1 : Int32).toUInt32 &&& Int32.toUInt32 31)).toInt32) &&& (1431655765 : Int32))) &&& (858993459 : Int32)) + ((((x0 - (((x0.toUInt32 >>> ((1 : Int32).toUInt32 &&& Int32.toUInt32 31)).toInt32) &&& (1431655765 : Int32))).toUInt32 >>> ((2 : Int32).toUInt32 &&& Int32.toUInt32 31)).toInt32) &&& (858993459 : Int32))) + (((((x0 - (((x0.toUInt32 >>> ((1 : Int32).toUInt32 &&& Int32.toUInt32 31)).toInt32) &&& (1431655765 : Int32))) &&& (858993459 : Int32)) + ((((x0 - (((x0.toUInt32 >>> ((1 : Int32).toUInt32 &&& Int32.toUInt32 31)).toInt32) &&& (1431655765 : Int32))).toUInt32 >>> ((2 : Int32).toUInt32 &&& Int32.toUInt32 31)).toInt32) &&& (858993459 : Int32))).toUInt32 >>> ((4 : Int32).toUInt32 &&& Int32.toUInt32 31)).toInt32)) &&& (252645135 : Int32)).toUInt32 >>> ((8 : Int32).toUInt32 &&& Int32.toUInt32 31)).toInt32)) + ((((((((x0 - (((x0.toUInt32 >>> ((1 : Int32).toUInt32 &&& Int32.toUInt32 31)).toInt32) &&& (1431655765 : Int32))) &&& (858993459 : Int32)) + ((((x0 - (((x0.toUInt32 >>> ((1 : Int32).toUInt32 &&& Int32.toUInt32 31)).toInt32) &&& (1431655765 : Int32))).toUInt32 >>> ((2 : Int32).toUInt32 &&& Int32.toUInt32 31)).toInt32) &&& (858993459 : Int32))) + (((((x0 - (((x0.toUInt32 >>> ((1 : Int32).toUInt32 &&& Int32.toUInt32 31)).toInt32) &&& (1431655765 : Int32))) &&& (858993459 : Int32)) + ((((x0 - (((x0.toUInt32 >>> ((1 : Int32).toUInt32 &&& Int32.toUInt32 31)).toInt32) &&& (1431655765 : Int32))).toUInt32 >>> ((2 : Int32).toUInt32 &&& Int32.toUInt32 31)).toInt32) &&& (858993459 : Int32))).toUInt32 >>> ((4 : Int32).toUInt32 &&& Int32.toUInt32 31)).toInt32)) &&& (252645135 : Int32)) + (((((((x0 - (((x0.toUInt32 >>> ((1 : Int32).toUInt32 &&& Int32.toUInt32 31)).toInt32) &&& (1431655765 : Int32))) &&& (858993459 : Int32)) + ((((x0 - (((x0.toUInt32 >>> ((1 : Int32).toUInt32 &&& Int32.toUInt32 31)).toInt32) &&& (1431655765 : Int32))).toUInt32 >>> ((2 : Int32).toUInt32 &&& Int32.toUInt32 31)).toInt32) &&& (858993459 : Int32))) + (((((x0 - (((x0.toUInt32 >>> ((1 : Int32).toUInt32 &&& Int32.toUInt32 31)).toInt32) &&& (1431655765 : Int32))) &&& (858993459 : Int32)) + ((((x0 - (((x0.toUInt32 >>> ((1 : Int32).toUInt32 &&& Int32.toUInt32 31)).toInt32) &&& (1431655765 : Int32))).toUInt32 >>> ((2 : Int32).toUInt32 &&& Int32.toUInt32 31)).toInt32) &&& (858993459 : Int32))).toUInt32 >>> ((4 : Int32).toUInt32 &&& Int32.toUInt32 31)).toInt32)) &&& (252645135 : Int32)).toUInt32 >>> ((8 : Int32).toUInt32 &&& Int32.toUInt32 31)).toInt32)).toUInt32 >>> ((16 : Int32).toUInt32 &&& Int32.toUInt32 31)).toInt32)) &&& (63 : Int32)))
abbrev rmJ6_bitCount_0f7a4 : Room := { frames := 0, cells := 0, slots := 0, locals := 0 }
theorem hdJ6_bitCount_0f7a4 : yJ6_bitCount_0f7a4.cls ≠ "java/lang/invoke/MethodHandle" ∧ yJ6_bitCount_0f7a4.cls ≠ "java/lang/invoke/VarHandle" ∧ (parseMethodDescriptor yJ6_bitCount_0f7a4.desc).map (fun d => d.parameters.length) = some 1 := by decide +kernel
set_option maxRecDepth 100000 in
set_option maxHeartbeats 8000000 in
theorem ctJ6_bitCount_0f7a4 (l : Launch) (dC : Nat → ClassId) (dI : Nat → Nat → Nat) (cq : Nat → ClassId) (q : Nat → Nat) (S : CS) (M : MS) (o : Nat → Int64) (sz : Nat) (h0 : Nat) (x0 : Int32) (rr : Int32) (h : mJ6_bitCount_0f7a4 x0 = some rr) : CtR_i l yJ6_bitCount_0f7a4 wsJ6_bitCount_0f7a4 rmJ6_bitCount_0f7a4 (fun a => h0 ≤ a) (EV h0 q) dC dI cq q S M o sz [.int x0] rr := by
  refine enR_i (cc := cJ6_bitCount_0f7a4) (maxL := 1) (by decide) rfl (Nat.le_of_ble_eq_true rfl) (fun p e s m args below meth c A Q ls F hA hP hK hD hDm hX hS hl hend => ?_)
  obtain ⟨hx, hb, hml, hown, hts⟩ := id F
  have hown : s.vm.findClass RJ6 = some m.cls := hown
  have F : CallFix p m c cJ6_bitCount_0f7a4 1 s args wsJ6_bitCount_0f7a4 RJ6 := F
  have hl : lv_has ls 1 [(0, .int x0)] := hl
  rw [mJ6_bitCount_0f7a4] at h
  refine lv_iload_n hx hb dJ6_bitCount_0f7a4_0 rfl (lv_at hl 0 rfl) ?_
  refine lv_iload_n hx hb dJ6_bitCount_0f7a4_1 rfl (lv_at hl 0 rfl) ?_
  refine lv_iconst (v := (1 : Int32)) hx hb dJ6_bitCount_0f7a4_2 (by decide) ?_
  refine lv_iushr hx hb dJ6_bitCount_0f7a4_3 rfl ?_
  refine lv_ldcw hx hb hown (hts (.constant RJ6 265 (1431655765)) (mm 1 rfl)) dJ6_bitCount_0f7a4_4 ?_
  refine lv_iand hx hb dJ6_bitCount_0f7a4_7 ?_
  refine lv_isub hx hb dJ6_bitCount_0f7a4_8 ?_
  refine lv_istore_n (lv' := [(0, .int (x0 - (((x0.toUInt32 >>> ((1 : Int32).toUInt32 &&& Int32.toUInt32 31)).toInt32) &&& (1431655765 : Int32))))]) hx hb dJ6_bitCount_0f7a4_9 rfl hl (by decide) rfl (fun ls hl => ?_)
  refine lv_iload_n hx hb dJ6_bitCount_0f7a4_10 rfl (lv_at hl 0 rfl) ?_
  refine lv_ldcw hx hb hown (hts (.constant RJ6 266 (858993459)) (mm 2 rfl)) dJ6_bitCount_0f7a4_11 ?_
  refine lv_iand hx hb dJ6_bitCount_0f7a4_14 ?_
  refine lv_iload_n hx hb dJ6_bitCount_0f7a4_15 rfl (lv_at hl 0 rfl) ?_
  refine lv_iconst (v := (2 : Int32)) hx hb dJ6_bitCount_0f7a4_16 (by decide) ?_
  refine lv_iushr hx hb dJ6_bitCount_0f7a4_17 rfl ?_
  refine lv_ldcw hx hb hown (hts (.constant RJ6 266 (858993459)) (mm 2 rfl)) dJ6_bitCount_0f7a4_18 ?_
  refine lv_iand hx hb dJ6_bitCount_0f7a4_21 ?_
  refine lv_iadd hx hb dJ6_bitCount_0f7a4_22 ?_
  refine lv_istore_n (lv' := [(0, .int (((x0 - (((x0.toUInt32 >>> ((1 : Int32).toUInt32 &&& Int32.toUInt32 31)).toInt32) &&& (1431655765 : Int32))) &&& (858993459 : Int32)) + ((((x0 - (((x0.toUInt32 >>> ((1 : Int32).toUInt32 &&& Int32.toUInt32 31)).toInt32) &&& (1431655765 : Int32))).toUInt32 >>> ((2 : Int32).toUInt32 &&& Int32.toUInt32 31)).toInt32) &&& (858993459 : Int32))))]) hx hb dJ6_bitCount_0f7a4_23 rfl hl (by decide) rfl (fun ls hl => ?_)
  refine lv_iload_n hx hb dJ6_bitCount_0f7a4_24 rfl (lv_at hl 0 rfl) ?_
  refine lv_iload_n hx hb dJ6_bitCount_0f7a4_25 rfl (lv_at hl 0 rfl) ?_
  refine lv_iconst (v := (4 : Int32)) hx hb dJ6_bitCount_0f7a4_26 (by decide) ?_
  refine lv_iushr hx hb dJ6_bitCount_0f7a4_27 rfl ?_
  refine lv_iadd hx hb dJ6_bitCount_0f7a4_28 ?_
  refine lv_ldcw hx hb hown (hts (.constant RJ6 267 (252645135)) (mm 3 rfl)) dJ6_bitCount_0f7a4_29 ?_
  refine lv_iand hx hb dJ6_bitCount_0f7a4_32 ?_
  refine lv_istore_n (lv' := [(0, .int (((((x0 - (((x0.toUInt32 >>> ((1 : Int32).toUInt32 &&& Int32.toUInt32 31)).toInt32) &&& (1431655765 : Int32))) &&& (858993459 : Int32)) + ((((x0 - (((x0.toUInt32 >>> ((1 : Int32).toUInt32 &&& Int32.toUInt32 31)).toInt32) &&& (1431655765 : Int32))).toUInt32 >>> ((2 : Int32).toUInt32 &&& Int32.toUInt32 31)).toInt32) &&& (858993459 : Int32))) + (((((x0 - (((x0.toUInt32 >>> ((1 : Int32).toUInt32 &&& Int32.toUInt32 31)).toInt32) &&& (1431655765 : Int32))) &&& (858993459 : Int32)) + ((((x0 - (((x0.toUInt32 >>> ((1 : Int32).toUInt32 &&& Int32.toUInt32 31)).toInt32) &&& (1431655765 : Int32))).toUInt32 >>> ((2 : Int32).toUInt32 &&& Int32.toUInt32 31)).toInt32) &&& (858993459 : Int32))).toUInt32 >>> ((4 : Int32).toUInt32 &&& Int32.toUInt32 31)).toInt32)) &&& (252645135 : Int32)))]) hx hb dJ6_bitCount_0f7a4_33 rfl hl (by decide) rfl (fun ls hl => ?_)
  refine lv_iload_n hx hb dJ6_bitCount_0f7a4_34 rfl (lv_at hl 0 rfl) ?_
  refine lv_iload_n hx hb dJ6_bitCount_0f7a4_35 rfl (lv_at hl 0 rfl) ?_
  refine lv_bipush (v := (8 : Int32)) hx hb dJ6_bitCount_0f7a4_36 (by decide) ?_
  refine lv_iushr hx hb dJ6_bitCount_0f7a4_38 rfl ?_
  refine lv_iadd hx hb dJ6_bitCount_0f7a4_39 ?_
  refine lv_istore_n (lv' := [(0, .int ((((((x0 - (((x0.toUInt32 >>> ((1 : Int32).toUInt32 &&& Int32.toUInt32 31)).toInt32) &&& (1431655765 : Int32))) &&& (858993459 : Int32)) + ((((x0 - (((x0.toUInt32 >>> ((1 : Int32).toUInt32 &&& Int32.toUInt32 31)).toInt32) &&& (1431655765 : Int32))).toUInt32 >>> ((2 : Int32).toUInt32 &&& Int32.toUInt32 31)).toInt32) &&& (858993459 : Int32))) + (((((x0 - (((x0.toUInt32 >>> ((1 : Int32).toUInt32 &&& Int32.toUInt32 31)).toInt32) &&& (1431655765 : Int32))) &&& (858993459 : Int32)) + ((((x0 - (((x0.toUInt32 >>> ((1 : Int32).toUInt32 &&& Int32.toUInt32 31)).toInt32) &&& (1431655765 : Int32))).toUInt32 >>> ((2 : Int32).toUInt32 &&& Int32.toUInt32 31)).toInt32) &&& (858993459 : Int32))).toUInt32 >>> ((4 : Int32).toUInt32 &&& Int32.toUInt32 31)).toInt32)) &&& (252645135 : Int32)) + (((((((x0 - (((x0.toUInt32 >>> ((1 : Int32).toUInt32 &&& Int32.toUInt32 31)).toInt32) &&& (1431655765 : Int32))) &&& (858993459 : Int32)) + ((((x0 - (((x0.toUInt32 >>> ((1 : Int32).toUInt32 &&& Int32.toUInt32 31)).toInt32) &&& (1431655765 : Int32))).toUInt32 >>> ((2 : Int32).toUInt32 &&& Int32.toUInt32 31)).toInt32) &&& (858993459 : Int32))) + (((((x0 - (((x0.toUInt32 >>> ((1 : Int32).toUInt32 &&& Int32.toUInt32 31)).toInt32) &&& (1431655765 : Int32))) &&& (858993459 : Int32)) + ((((x0 - (((x0.toUInt32 >>> ((1 : Int32).toUInt32 &&& Int32.toUInt32 31)).toInt32) &&& (1431655765 : Int32))).toUInt32 >>> ((2 : Int32).toUInt32 &&& Int32.toUInt32 31)).toInt32) &&& (858993459 : Int32))).toUInt32 >>> ((4 : Int32).toUInt32 &&& Int32.toUInt32 31)).toInt32)) &&& (252645135 : Int32)).toUInt32 >>> ((8 : Int32).toUInt32 &&& Int32.toUInt32 31)).toInt32)))]) hx hb dJ6_bitCount_0f7a4_40 rfl hl (by decide) rfl (fun ls hl => ?_)
  refine lv_iload_n hx hb dJ6_bitCount_0f7a4_41 rfl (lv_at hl 0 rfl) ?_
  refine lv_iload_n hx hb dJ6_bitCount_0f7a4_42 rfl (lv_at hl 0 rfl) ?_
  refine lv_bipush (v := (16 : Int32)) hx hb dJ6_bitCount_0f7a4_43 (by decide) ?_
  refine lv_iushr hx hb dJ6_bitCount_0f7a4_45 rfl ?_
  refine lv_iadd hx hb dJ6_bitCount_0f7a4_46 ?_
  refine lv_istore_n (lv' := [(0, .int (((((((x0 - (((x0.toUInt32 >>> ((1 : Int32).toUInt32 &&& Int32.toUInt32 31)).toInt32) &&& (1431655765 : Int32))) &&& (858993459 : Int32)) + ((((x0 - (((x0.toUInt32 >>> ((1 : Int32).toUInt32 &&& Int32.toUInt32 31)).toInt32) &&& (1431655765 : Int32))).toUInt32 >>> ((2 : Int32).toUInt32 &&& Int32.toUInt32 31)).toInt32) &&& (858993459 : Int32))) + (((((x0 - (((x0.toUInt32 >>> ((1 : Int32).toUInt32 &&& Int32.toUInt32 31)).toInt32) &&& (1431655765 : Int32))) &&& (858993459 : Int32)) + ((((x0 - (((x0.toUInt32 >>> ((1 : Int32).toUInt32 &&& Int32.toUInt32 31)).toInt32) &&& (1431655765 : Int32))).toUInt32 >>> ((2 : Int32).toUInt32 &&& Int32.toUInt32 31)).toInt32) &&& (858993459 : Int32))).toUInt32 >>> ((4 : Int32).toUInt32 &&& Int32.toUInt32 31)).toInt32)) &&& (252645135 : Int32)) + (((((((x0 - (((x0.toUInt32 >>> ((1 : Int32).toUInt32 &&& Int32.toUInt32 31)).toInt32) &&& (1431655765 : Int32))) &&& (858993459 : Int32)) + ((((x0 - (((x0.toUInt32 >>> ((1 : Int32).toUInt32 &&& Int32.toUInt32 31)).toInt32) &&& (1431655765 : Int32))).toUInt32 >>> ((2 : Int32).toUInt32 &&& Int32.toUInt32 31)).toInt32) &&& (858993459 : Int32))) + (((((x0 - (((x0.toUInt32 >>> ((1 : Int32).toUInt32 &&& Int32.toUInt32 31)).toInt32) &&& (1431655765 : Int32))) &&& (858993459 : Int32)) + ((((x0 - (((x0.toUInt32 >>> ((1 : Int32).toUInt32 &&& Int32.toUInt32 31)).toInt32) &&& (1431655765 : Int32))).toUInt32 >>> ((2 : Int32).toUInt32 &&& Int32.toUInt32 31)).toInt32) &&& (858993459 : Int32))).toUInt32 >>> ((4 : Int32).toUInt32 &&& Int32.toUInt32 31)).toInt32)) &&& (252645135 : Int32)).toUInt32 >>> ((8 : Int32).toUInt32 &&& Int32.toUInt32 31)).toInt32)) + ((((((((x0 - (((x0.toUInt32 >>> ((1 : Int32).toUInt32 &&& Int32.toUInt32 31)).toInt32) &&& (1431655765 : Int32))) &&& (858993459 : Int32)) + ((((x0 - (((x0.toUInt32 >>> ((1 : Int32).toUInt32 &&& Int32.toUInt32 31)).toInt32) &&& (1431655765 : Int32))).toUInt32 >>> ((2 : Int32).toUInt32 &&& Int32.toUInt32 31)).toInt32) &&& (858993459 : Int32))) + (((((x0 - (((x0.toUInt32 >>> ((1 : Int32).toUInt32 &&& Int32.toUInt32 31)).toInt32) &&& (1431655765 : Int32))) &&& (858993459 : Int32)) + ((((x0 - (((x0.toUInt32 >>> ((1 : Int32).toUInt32 &&& Int32.toUInt32 31)).toInt32) &&& (1431655765 : Int32))).toUInt32 >>> ((2 : Int32).toUInt32 &&& Int32.toUInt32 31)).toInt32) &&& (858993459 : Int32))).toUInt32 >>> ((4 : Int32).toUInt32 &&& Int32.toUInt32 31)).toInt32)) &&& (252645135 : Int32)) + (((((((x0 - (((x0.toUInt32 >>> ((1 : Int32).toUInt32 &&& Int32.toUInt32 31)).toInt32) &&& (1431655765 : Int32))) &&& (858993459 : Int32)) + ((((x0 - (((x0.toUInt32 >>> ((1 : Int32).toUInt32 &&& Int32.toUInt32 31)).toInt32) &&& (1431655765 : Int32))).toUInt32 >>> ((2 : Int32).toUInt32 &&& Int32.toUInt32 31)).toInt32) &&& (858993459 : Int32))) + (((((x0 - (((x0.toUInt32 >>> ((1 : Int32).toUInt32 &&& Int32.toUInt32 31)).toInt32) &&& (1431655765 : Int32))) &&& (858993459 : Int32)) + ((((x0 - (((x0.toUInt32 >>> ((1 : Int32).toUInt32 &&& Int32.toUInt32 31)).toInt32) &&& (1431655765 : Int32))).toUInt32 >>> ((2 : Int32).toUInt32 &&& Int32.toUInt32 31)).toInt32) &&& (858993459 : Int32))).toUInt32 >>> ((4 : Int32).toUInt32 &&& Int32.toUInt32 31)).toInt32)) &&& (252645135 : Int32)).toUInt32 >>> ((8 : Int32).toUInt32 &&& Int32.toUInt32 31)).toInt32)).toUInt32 >>> ((16 : Int32).toUInt32 &&& Int32.toUInt32 31)).toInt32)))]) hx hb dJ6_bitCount_0f7a4_47 rfl hl (by decide) rfl (fun ls hl => ?_)
  refine lv_iload_n hx hb dJ6_bitCount_0f7a4_48 rfl (lv_at hl 0 rfl) ?_
  refine lv_bipush (v := (63 : Int32)) hx hb dJ6_bitCount_0f7a4_49 (by decide) ?_
  refine lv_iand hx hb dJ6_bitCount_0f7a4_51 ?_
  exact hend _ _ _ _ _ h hP hD hS dJ6_bitCount_0f7a4_52
def mJ13_bitCount_95d88 (x0 : Int64) : Option (Int32) :=
  (some (((((((((x0 - (((x0.toUInt64 >>> ((1 : Int32).toInt64.toUInt64 &&& Int64.toUInt64 63)).toInt64) &&& (6148914691236517205 : Int64))) &&& (3689348814741910323 : Int64)) + ((((x0 - (((x0.toUInt64 >>> ((1 : Int32).toInt64.toUInt64 &&& Int64.toUInt64 63)).toInt64) &&& (6148914691236517205 : Int64))).toUInt64 >>> ((2 : Int32).toInt64.toUInt64 &&& Int64.toUInt64 63)).toInt64) &&& (3689348814741910323 : Int64))) + (((((x0 - (((x0.toUInt64 >>> ((1 : Int32).toInt64.toUInt64 &&& Int64.toUInt64 63)).toInt64) &&& (6148914691236517205 : Int64))) &&& (3689348814741910323 : Int64)) + ((((x0 - (((x0.toUInt64 >>> ((1 : Int32).toInt64.toUInt64 &&& Int64.toUInt64 63)).toInt64) &&& (6148914691236517205 : Int64))).toUInt64 >>> ((2 : Int32).toInt64.toUInt64 &&& Int64.toUInt64 63)).toInt64) &&& (3689348814741910323 : Int64))).toUInt64 >>> ((4 : Int32).toInt64.toUInt64 &&& Int64.toUInt64 63)).toInt64)) &&& (1085102592571150095 : Int64)) + (((((((x0 - (((x0.toUInt64 >>> ((1 : Int32).toInt64.toUInt64 &&& Int64.toUInt64 63)).toInt64) &&& (6148914691236517205 : Int64))) &&& (3689348814741910323 : Int64)) + ((((x0 - (((x0.toUInt64 >>> ((1 : Int32).toInt64.toUInt64 &&& Int64.toUInt64 63)).toInt64) &&& (6148914691236517205 : Int64))).toUInt64 >>> ((2 : Int32).toInt64.toUInt64 &&& Int64.toUInt64 63)).toInt64) &&& (3689348814741910323 : Int64))) + (((((x0 - (((x0.toUInt64 >>> ((1 : Int32).toInt64.toUInt64 &&& Int64.toUInt64 63)).toInt64) &&& (6148914691236517205 : Int64))) &&& (3689348814741910323 : Int64)) + ((((x0 - (((x0.toUInt64 >>> ((1 : Int32).toInt64.toUInt64 &&& Int64.toUInt64 63)).toInt64) &&& (6148914691236517205 : Int64))).toUInt64 >>> ((2 : Int32).toInt64.toUInt64 &&& Int64.toUInt64 63)).toInt64) &&& (3689348814741910323 : Int64))).toUInt64 >>> ((4 : Int32).toInt64.toUInt64 &&& Int64.toUInt64 63)).toInt64)) &&& (1085102592571150095 : Int64)).toUInt64 >>> ((8 : Int32).toInt64.toUInt64 &&& Int64.toUInt64 63)).toInt64)) + ((((((((x0 - (((x0.toUInt64 >>> ((1 : Int32).toInt64.toUInt64 &&& Int64.toUInt64 63)).toInt64) &&& (6148914691236517205 : Int64))) &&& (3689348814741910323 : Int64)) + ((((x0 - (((x0.toUInt64 >>> ((1 : Int32).toInt64.toUInt64 &&& Int64.toUInt64 63)).toInt64) &&& (6148914691236517205 : Int64))).toUInt64 >>> ((2 : Int32).toInt64.toUInt64 &&& Int64.toUInt64 63)).toInt64) &&& (3689348814741910323 : Int64))) + (((((x0 - (((x0.toUInt64 >>> ((1 : Int32).toInt64.toUInt64 &&& Int64.toUInt64 63)).toInt64) &&& (6148914691236517205 : Int64))) &&& (3689348814741910323 : Int64)) + ((((x0 - (((x0.toUInt64 >>> ((1 : Int32).toInt64.toUInt64 &&& Int64.toUInt64 63)).toInt64) &&& (6148914691236517205 : Int64))).toUInt64 >>> ((2 : Int32).toInt64.toUInt64 &&& Int64.toUInt64 63)).toInt64) &&& (3689348814741910323 : Int64))).toUInt64 >>> ((4 : Int32).toInt64.toUInt64 &&& Int64.toUInt64 63)).toInt64)) &&& (1085102592571150095 : Int64)) + (((((((x0 - (((x0.toUInt64 >>> ((1 : Int32).toInt64.toUInt64 &&& Int64.toUInt64 63)).toInt64) &&& (6148914691236517205 : Int64))) &&& (3689348814741910323 : Int64)) + ((((x0 - (((x0.toUInt64 >>> ((1 : Int32).toInt64.toUInt64 &&& Int64.toUInt64 63)).toInt64) &&& (6148914691236517205 : Int64))).toUInt64 >>> ((2 : Int32).toInt64.toUInt64 &&& Int64.toUInt64 63)).toInt64) &&& (3689348814741910323 : Int64))) + (((((x0 - (((x0.toUInt64 >>> ((1 : Int32).toInt64.toUInt64 &&& Int64.toUInt64 63)).toInt64) &&& (6148914691236517205 : Int64))) &&& (3689348814741910323 : Int64)) + ((((x0 - (((x0.toUInt64 >>> ((1 : Int32).toInt64.toUInt64 &&& Int64.toUInt64 63)).toInt64) &&& (6148914691236517205 : Int64))).toUInt64 >>> ((2 : Int32).toInt64.toUInt64 &&& Int64.toUInt64 63)).toInt64) &&& (3689348814741910323 : Int64))).toUInt64 >>> ((4 : Int32).toInt64.toUInt64 &&& Int64.toUInt64 63)).toInt64)) &&& (1085102592571150095 : Int64)).toUInt64 >>> ((8 : Int32).toInt64.toUInt64 &&& Int64.toUInt64 63)).toInt64)).toUInt64 >>> ((16 : Int32).toInt64.toUInt64 &&& Int64.toUInt64 63)).toInt64)) + (((((((((x0 - (((x0.toUInt64 >>> ((1 : Int32).toInt64.toUInt64 &&& Int64.toUInt64 63)).toInt64) &&& (6148914691236517205 : Int64))) &&& (3689348814741910323 : Int64)) + ((((x0 - (((x0.toUInt64 >>> ((1 : Int32).toInt64.toUInt64 &&& Int64.toUInt64 63)).toInt64) &&& (6148914691236517205 : Int64))).toUInt64 >>> ((2 : Int32).toInt64.toUInt64 &&& Int64.toUInt64 63)).toInt64) &&& (3689348814741910323 : Int64))) + (((((x0 - (((x0.toUInt64 >>> ((1 : Int32).toInt64.toUInt64 &&& Int64.toUInt64 63)).toInt64) &&& (6148914691236517205 : Int64))) &&& (3689348814741910323 : Int64)) + ((((x0 - (((x0.toUInt64 >>> ((1 : Int32).toInt64.toUInt64 &&& Int64.toUInt64 63)).toInt64) &&& (6148914691236517205 : Int64))).toUInt64 >>> ((2 : Int32).toInt64.toUInt64 &&& Int64.toUInt64 63)).toInt64) &&& (3689348814741910323 : Int64))).toUInt64 >>> ((4 : Int32).toInt64.toUInt64 &&& Int64.toUInt64 63)).toInt64)) &&& (1085102592571150095 : Int64)) + (((((((x0 - (((x0.toUInt64 >>> ((1 : Int32).toInt64.toUInt64 &&& Int64.toUInt64 63)).toInt64) &&& (6148914691236517205 : Int64))) &&& (3689348814741910323 : Int64)) + ((((x0 - (((x0.toUInt64 >>> ((1 : Int32).toInt64.toUInt64 &&& Int64.toUInt64 63)).toInt64) &&& (6148914691236517205 : Int64))).toUInt64 >>> ((2 : Int32).toInt64.toUInt64 &&& Int64.toUInt64 63)).toInt64) &&& (3689348814741910323 : Int64))) + (((((x0 - (((x0.toUInt64 >>> ((1 : Int32).toInt64.toUInt64 &&& Int64.toUInt64 63)).toInt64) &&& (6148914691236517205 : Int64))) &&& (3689348814741910323 : Int64)) + ((((x0 - (((x0.toUInt64 >>> ((1 : Int32).toInt64.toUInt64 &&& Int64.toUInt64 63)).toInt64) &&& (6148914691236517205 : Int64))).toUInt64 >>> ((2 : Int32).toInt64.toUInt64 &&& Int64.toUInt64 63)).toInt64) &&& (3689348814741910323 : Int64))).toUInt64 >>> ((4 : Int32).toInt64.toUInt64 &&& Int64.toUInt64 63)).toInt64)) &&& (1085102592571150095 : Int64)).toUInt64 >>> ((8 : Int32).toInt64.toUInt64 &&& Int64.toUInt64 63)).toInt64)) + ((((((((x0 - (((x0.toUInt64 >>> ((1 : Int32).toInt64.toUInt64 &&& Int64.toUInt64 63)).toInt64) &&& (6148914691236517205 : Int64))) &&& (3689348814741910323 : Int64)) + ((((x0 - (((x0.toUInt64 >>> ((1 : Int32).toInt64.toUInt64 &&& Int64.toUInt64 63)).toInt64) &&& (6148914691236517205 : Int64))).toUInt64 >>> ((2 : Int32).toInt64.toUInt64 &&& Int64.toUInt64 63)).toInt64) &&& (3689348814741910323 : Int64))) + (((((x0 - (((x0.toUInt64 >>> ((1 : Int32).toInt64.toUInt64 &&& Int64.toUInt64 63)).toInt64) &&& (6148914691236517205 : Int64))) &&& (3689348814741910323 : Int64)) + ((((x0 - (((x0.toUInt64 >>> ((1 : Int32).toInt64.toUInt64 &&& Int64.toUInt64 63)).toInt64) &&& (6148914691236517205 : Int64))).toUInt64 >>> ((2 : Int32).toInt64.toUInt64 &&& Int64.toUInt64 63)).toInt64) &&& (3689348814741910323 : Int64))).toUInt64 >>> ((4 : Int32).toInt64.toUInt64 &&& Int64.toUInt64 63)).toInt64)) &&& (1085102592571150095 : Int64)) + (((((((x0 - (((x0.toUInt64 >>> ((1 : Int32).toInt64.toUInt64 &&& Int64.toUInt64 63)).toInt64) &&& (6148914691236517205 : Int64))) &&& (3689348814741910323 : Int64)) + ((((x0 - (((x0.toUInt64 >>> ((1 : Int32).toInt64.toUInt64 &&& Int64.toUInt64 63)).toInt64) &&& (6148914691236517205 : Int64))).toUInt64 >>> ((2 : Int32).toInt64.toUInt64 &&& Int64.toUInt64 63)).toInt64) &&& (3689348814741910323 : Int64))) + (((((x0 - (((x0.toUInt64 >>> ((1 : Int32).toInt64.toUInt64 &&& Int64.toUInt64 63)).toInt64) &&& (6148914691236517205 : Int64))) &&& (3689348814741910323 : Int64)) + ((((x0 - (((x0.toUInt64 >>> ((1 : Int32).toInt64.toUInt64 &&& Int64.toUInt64 63)).toInt64) &&& (6148914691236517205 : Int64))).toUInt64 >>> ((2 : Int32).toInt64.toUInt64 &&& Int64.toUInt64 63)).toInt64) &&& (3689348814741910323 : Int64))).toUInt64 >>> ((4 : Int32).toInt64.toUInt64 &&& Int64.toUInt64 63)).toInt64)) &&& (1085102592571150095 : Int64)).toUInt64 >>> ((8 : Int32).toInt64.toUInt64 &&& Int64.toUInt64 63)).toInt64)).toUInt64 >>> ((16 : Int32).toInt64.toUInt64 &&& Int64.toUInt64 63)).toInt64)).toUInt64 >>> ((32 : Int32).toInt64.toUInt64 &&& Int64.toUInt64 63)).toInt64)).toInt32 &&& (127 : Int32)))
abbrev rmJ13_bitCount_95d88 : Room := { frames := 0, cells := 0, slots := 0, locals := 0 }
theorem hdJ13_bitCount_95d88 : yJ13_bitCount_95d88.cls ≠ "java/lang/invoke/MethodHandle" ∧ yJ13_bitCount_95d88.cls ≠ "java/lang/invoke/VarHandle" ∧ (parseMethodDescriptor yJ13_bitCount_95d88.desc).map (fun d => d.parameters.length) = some 1 := by decide +kernel
set_option maxRecDepth 100000 in
set_option maxHeartbeats 8000000 in
theorem ctJ13_bitCount_95d88 (l : Launch) (dC : Nat → ClassId) (dI : Nat → Nat → Nat) (cq : Nat → ClassId) (q : Nat → Nat) (S : CS) (M : MS) (o : Nat → Int64) (sz : Nat) (h0 : Nat) (x0 : Int64) (rr : Int32) (h : mJ13_bitCount_95d88 x0 = some rr) : CtR_i l yJ13_bitCount_95d88 wsJ13_bitCount_95d88 rmJ13_bitCount_95d88 (fun a => h0 ≤ a) (EV h0 q) dC dI cq q S M o sz [.long x0] rr := by
  refine enR_i (cc := cJ13_bitCount_95d88) (maxL := 2) (by decide) rfl (Nat.le_of_ble_eq_true rfl) (fun p e s m args below meth c A Q ls F hA hP hK hD hDm hX hS hl hend => ?_)
  obtain ⟨hx, hb, hml, hown, hts⟩ := id F
  have hown : s.vm.findClass RJ13 = some m.cls := hown
  have F : CallFix p m c cJ13_bitCount_95d88 2 s args wsJ13_bitCount_95d88 RJ13 := F
  have hl : lv_has ls 2 [(0, .long x0)] := hl
  rw [mJ13_bitCount_95d88] at h
  refine lv_lload_n hx hb dJ13_bitCount_95d88_0 rfl (lv_at hl 0 rfl) ?_
  refine lv_lload_n hx hb dJ13_bitCount_95d88_1 rfl (lv_at hl 0 rfl) ?_
  refine lv_iconst (v := (1 : Int32)) hx hb dJ13_bitCount_95d88_2 (by decide) ?_
  refine lv_lushr hx hb dJ13_bitCount_95d88_3 rfl ?_
  refine lv_ldc2 hx hb hown (hts (.constantLong RJ13 314 (6148914691236517205)) (mm 1 rfl)) dJ13_bitCount_95d88_4 ?_
  refine lv_land hx hb dJ13_bitCount_95d88_7 ?_
  refine lv_lsub hx hb dJ13_bitCount_95d88_8 ?_
  refine lv_lstore_n (lv' := [(0, .long (x0 - (((x0.toUInt64 >>> ((1 : Int32).toInt64.toUInt64 &&& Int64.toUInt64 63)).toInt64) &&& (6148914691236517205 : Int64))))]) hx hb dJ13_bitCount_95d88_9 rfl hl (by decide) rfl (fun ls hl => ?_)
  refine lv_lload_n hx hb dJ13_bitCount_95d88_10 rfl (lv_at hl 0 rfl) ?_
  refine lv_ldc2 hx hb hown (hts (.constantLong RJ13 316 (3689348814741910323)) (mm 2 rfl)) dJ13_bitCount_95d88_11 ?_
  refine lv_land hx hb dJ13_bitCount_95d88_14 ?_
  refine lv_lload_n hx hb dJ13_bitCount_95d88_15 rfl (lv_at hl 0 rfl) ?_
  refine lv_iconst (v := (2 : Int32)) hx hb dJ13_bitCount_95d88_16 (by decide) ?_
  refine lv_lushr hx hb dJ13_bitCount_95d88_17 rfl ?_
  refine lv_ldc2 hx hb hown (hts (.constantLong RJ13 316 (3689348814741910323)) (mm 2 rfl)) dJ13_bitCount_95d88_18 ?_
  refine lv_land hx hb dJ13_bitCount_95d88_21 ?_
  refine lv_ladd hx hb dJ13_bitCount_95d88_22 ?_
  refine lv_lstore_n (lv' := [(0, .long (((x0 - (((x0.toUInt64 >>> ((1 : Int32).toInt64.toUInt64 &&& Int64.toUInt64 63)).toInt64) &&& (6148914691236517205 : Int64))) &&& (3689348814741910323 : Int64)) + ((((x0 - (((x0.toUInt64 >>> ((1 : Int32).toInt64.toUInt64 &&& Int64.toUInt64 63)).toInt64) &&& (6148914691236517205 : Int64))).toUInt64 >>> ((2 : Int32).toInt64.toUInt64 &&& Int64.toUInt64 63)).toInt64) &&& (3689348814741910323 : Int64))))]) hx hb dJ13_bitCount_95d88_23 rfl hl (by decide) rfl (fun ls hl => ?_)
  refine lv_lload_n hx hb dJ13_bitCount_95d88_24 rfl (lv_at hl 0 rfl) ?_
  refine lv_lload_n hx hb dJ13_bitCount_95d88_25 rfl (lv_at hl 0 rfl) ?_
  refine lv_iconst (v := (4 : Int32)) hx hb dJ13_bitCount_95d88_26 (by decide) ?_
  refine lv_lushr hx hb dJ13_bitCount_95d88_27 rfl ?_
  refine lv_ladd hx hb dJ13_bitCount_95d88_28 ?_
  refine lv_ldc2 hx hb hown (hts (.constantLong RJ13 318 (1085102592571150095)) (mm 3 rfl)) dJ13_bitCount_95d88_29 ?_
  refine lv_land hx hb dJ13_bitCount_95d88_32 ?_
  refine lv_lstore_n (lv' := [(0, .long (((((x0 - (((x0.toUInt64 >>> ((1 : Int32).toInt64.toUInt64 &&& Int64.toUInt64 63)).toInt64) &&& (6148914691236517205 : Int64))) &&& (3689348814741910323 : Int64)) + ((((x0 - (((x0.toUInt64 >>> ((1 : Int32).toInt64.toUInt64 &&& Int64.toUInt64 63)).toInt64) &&& (6148914691236517205 : Int64))).toUInt64 >>> ((2 : Int32).toInt64.toUInt64 &&& Int64.toUInt64 63)).toInt64) &&& (3689348814741910323 : Int64))) + (((((x0 - (((x0.toUInt64 >>> ((1 : Int32).toInt64.toUInt64 &&& Int64.toUInt64 63)).toInt64) &&& (6148914691236517205 : Int64))) &&& (3689348814741910323 : Int64)) + ((((x0 - (((x0.toUInt64 >>> ((1 : Int32).toInt64.toUInt64 &&& Int64.toUInt64 63)).toInt64) &&& (6148914691236517205 : Int64))).toUInt64 >>> ((2 : Int32).toInt64.toUInt64 &&& Int64.toUInt64 63)).toInt64) &&& (3689348814741910323 : Int64))).toUInt64 >>> ((4 : Int32).toInt64.toUInt64 &&& Int64.toUInt64 63)).toInt64)) &&& (1085102592571150095 : Int64)))]) hx hb dJ13_bitCount_95d88_33 rfl hl (by decide) rfl (fun ls hl => ?_)
  refine lv_lload_n hx hb dJ13_bitCount_95d88_34 rfl (lv_at hl 0 rfl) ?_
  refine lv_lload_n hx hb dJ13_bitCount_95d88_35 rfl (lv_at hl 0 rfl) ?_
  refine lv_bipush (v := (8 : Int32)) hx hb dJ13_bitCount_95d88_36 (by decide) ?_
  refine lv_lushr hx hb dJ13_bitCount_95d88_38 rfl ?_
  refine lv_ladd hx hb dJ13_bitCount_95d88_39 ?_
  refine lv_lstore_n (lv' := [(0, .long ((((((x0 - (((x0.toUInt64 >>> ((1 : Int32).toInt64.toUInt64 &&& Int64.toUInt64 63)).toInt64) &&& (6148914691236517205 : Int64))) &&& (3689348814741910323 : Int64)) + ((((x0 - (((x0.toUInt64 >>> ((1 : Int32).toInt64.toUInt64 &&& Int64.toUInt64 63)).toInt64) &&& (6148914691236517205 : Int64))).toUInt64 >>> ((2 : Int32).toInt64.toUInt64 &&& Int64.toUInt64 63)).toInt64) &&& (3689348814741910323 : Int64))) + (((((x0 - (((x0.toUInt64 >>> ((1 : Int32).toInt64.toUInt64 &&& Int64.toUInt64 63)).toInt64) &&& (6148914691236517205 : Int64))) &&& (3689348814741910323 : Int64)) + ((((x0 - (((x0.toUInt64 >>> ((1 : Int32).toInt64.toUInt64 &&& Int64.toUInt64 63)).toInt64) &&& (6148914691236517205 : Int64))).toUInt64 >>> ((2 : Int32).toInt64.toUInt64 &&& Int64.toUInt64 63)).toInt64) &&& (3689348814741910323 : Int64))).toUInt64 >>> ((4 : Int32).toInt64.toUInt64 &&& Int64.toUInt64 63)).toInt64)) &&& (1085102592571150095 : Int64)) + (((((((x0 - (((x0.toUInt64 >>> ((1 : Int32).toInt64.toUInt64 &&& Int64.toUInt64 63)).toInt64) &&& (6148914691236517205 : Int64))) &&& (3689348814741910323 : Int64)) + ((((x0 - (((x0.toUInt64 >>> ((1 : Int32).toInt64.toUInt64 &&& Int64.toUInt64 63)).toInt64) &&& (6148914691236517205 : Int64))).toUInt64 >>> ((2 : Int32).toInt64.toUInt64 &&& Int64.toUInt64 63)).toInt64) &&& (3689348814741910323 : Int64))) + (((((x0 - (((x0.toUInt64 >>> ((1 : Int32).toInt64.toUInt64 &&& Int64.toUInt64 63)).toInt64) &&& (6148914691236517205 : Int64))) &&& (3689348814741910323 : Int64)) + ((((x0 - (((x0.toUInt64 >>> ((1 : Int32).toInt64.toUInt64 &&& Int64.toUInt64 63)).toInt64) &&& (6148914691236517205 : Int64))).toUInt64 >>> ((2 : Int32).toInt64.toUInt64 &&& Int64.toUInt64 63)).toInt64) &&& (3689348814741910323 : Int64))).toUInt64 >>> ((4 : Int32).toInt64.toUInt64 &&& Int64.toUInt64 63)).toInt64)) &&& (1085102592571150095 : Int64)).toUInt64 >>> ((8 : Int32).toInt64.toUInt64 &&& Int64.toUInt64 63)).toInt64)))]) hx hb dJ13_bitCount_95d88_40 rfl hl (by decide) rfl (fun ls hl => ?_)
  refine lv_lload_n hx hb dJ13_bitCount_95d88_41 rfl (lv_at hl 0 rfl) ?_
  refine lv_lload_n hx hb dJ13_bitCount_95d88_42 rfl (lv_at hl 0 rfl) ?_
  refine lv_bipush (v := (16 : Int32)) hx hb dJ13_bitCount_95d88_43 (by decide) ?_
  refine lv_lushr hx hb dJ13_bitCount_95d88_45 rfl ?_
  refine lv_ladd hx hb dJ13_bitCount_95d88_46 ?_
  refine lv_lstore_n (lv' := [(0, .long (((((((x0 - (((x0.toUInt64 >>> ((1 : Int32).toInt64.toUInt64 &&& Int64.toUInt64 63)).toInt64) &&& (6148914691236517205 : Int64))) &&& (3689348814741910323 : Int64)) + ((((x0 - (((x0.toUInt64 >>> ((1 : Int32).toInt64.toUInt64 &&& Int64.toUInt64 63)).toInt64) &&& (6148914691236517205 : Int64))).toUInt64 >>> ((2 : Int32).toInt64.toUInt64 &&& Int64.toUInt64 63)).toInt64) &&& (3689348814741910323 : Int64))) + (((((x0 - (((x0.toUInt64 >>> ((1 : Int32).toInt64.toUInt64 &&& Int64.toUInt64 63)).toInt64) &&& (6148914691236517205 : Int64))) &&& (3689348814741910323 : Int64)) + ((((x0 - (((x0.toUInt64 >>> ((1 : Int32).toInt64.toUInt64 &&& Int64.toUInt64 63)).toInt64) &&& (6148914691236517205 : Int64))).toUInt64 >>> ((2 : Int32).toInt64.toUInt64 &&& Int64.toUInt64 63)).toInt64) &&& (3689348814741910323 : Int64))).toUInt64 >>> ((4 : Int32).toInt64.toUInt64 &&& Int64.toUInt64 63)).toInt64)) &&& (1085102592571150095 : Int64)) + (((((((x0 - (((x0.toUInt64 >>> ((1 : Int32).toInt64.toUInt64 &&& Int64.toUInt64 63)).toInt64) &&& (6148914691236517205 : Int64))) &&& (3689348814741910323 : Int64)) + ((((x0 - (((x0.toUInt64 >>> ((1 : Int32).toInt64.toUInt64 &&& Int64.toUInt64 63)).toInt64) &&& (6148914691236517205 : Int64))).toUInt64 >>> ((2 : Int32).toInt64.toUInt64 &&& Int64.toUInt64 63)).toInt64) &&& (3689348814741910323 : Int64))) + (((((x0 - (((x0.toUInt64 >>> ((1 : Int32).toInt64.toUInt64 &&& Int64.toUInt64 63)).toInt64) &&& (6148914691236517205 : Int64))) &&& (3689348814741910323 : Int64)) + ((((x0 - (((x0.toUInt64 >>> ((1 : Int32).toInt64.toUInt64 &&& Int64.toUInt64 63)).toInt64) &&& (6148914691236517205 : Int64))).toUInt64 >>> ((2 : Int32).toInt64.toUInt64 &&& Int64.toUInt64 63)).toInt64) &&& (3689348814741910323 : Int64))).toUInt64 >>> ((4 : Int32).toInt64.toUInt64 &&& Int64.toUInt64 63)).toInt64)) &&& (1085102592571150095 : Int64)).toUInt64 >>> ((8 : Int32).toInt64.toUInt64 &&& Int64.toUInt64 63)).toInt64)) + ((((((((x0 - (((x0.toUInt64 >>> ((1 : Int32).toInt64.toUInt64 &&& Int64.toUInt64 63)).toInt64) &&& (6148914691236517205 : Int64))) &&& (3689348814741910323 : Int64)) + ((((x0 - (((x0.toUInt64 >>> ((1 : Int32).toInt64.toUInt64 &&& Int64.toUInt64 63)).toInt64) &&& (6148914691236517205 : Int64))).toUInt64 >>> ((2 : Int32).toInt64.toUInt64 &&& Int64.toUInt64 63)).toInt64) &&& (3689348814741910323 : Int64))) + (((((x0 - (((x0.toUInt64 >>> ((1 : Int32).toInt64.toUInt64 &&& Int64.toUInt64 63)).toInt64) &&& (6148914691236517205 : Int64))) &&& (3689348814741910323 : Int64)) + ((((x0 - (((x0.toUInt64 >>> ((1 : Int32).toInt64.toUInt64 &&& Int64.toUInt64 63)).toInt64) &&& (6148914691236517205 : Int64))).toUInt64 >>> ((2 : Int32).toInt64.toUInt64 &&& Int64.toUInt64 63)).toInt64) &&& (3689348814741910323 : Int64))).toUInt64 >>> ((4 : Int32).toInt64.toUInt64 &&& Int64.toUInt64 63)).toInt64)) &&& (1085102592571150095 : Int64)) + (((((((x0 - (((x0.toUInt64 >>> ((1 : Int32).toInt64.toUInt64 &&& Int64.toUInt64 63)).toInt64) &&& (6148914691236517205 : Int64))) &&& (3689348814741910323 : Int64)) + ((((x0 - (((x0.toUInt64 >>> ((1 : Int32).toInt64.toUInt64 &&& Int64.toUInt64 63)).toInt64) &&& (6148914691236517205 : Int64))).toUInt64 >>> ((2 : Int32).toInt64.toUInt64 &&& Int64.toUInt64 63)).toInt64) &&& (3689348814741910323 : Int64))) + (((((x0 - (((x0.toUInt64 >>> ((1 : Int32).toInt64.toUInt64 &&& Int64.toUInt64 63)).toInt64) &&& (6148914691236517205 : Int64))) &&& (3689348814741910323 : Int64)) + ((((x0 - (((x0.toUInt64 >>> ((1 : Int32).toInt64.toUInt64 &&& Int64.toUInt64 63)).toInt64) &&& (6148914691236517205 : Int64))).toUInt64 >>> ((2 : Int32).toInt64.toUInt64 &&& Int64.toUInt64 63)).toInt64) &&& (3689348814741910323 : Int64))).toUInt64 >>> ((4 : Int32).toInt64.toUInt64 &&& Int64.toUInt64 63)).toInt64)) &&& (1085102592571150095 : Int64)).toUInt64 >>> ((8 : Int32).toInt64.toUInt64 &&& Int64.toUInt64 63)).toInt64)).toUInt64 >>> ((16 : Int32).toInt64.toUInt64 &&& Int64.toUInt64 63)).toInt64)))]) hx hb dJ13_bitCount_95d88_47 rfl hl (by decide) rfl (fun ls hl => ?_)
  refine lv_lload_n hx hb dJ13_bitCount_95d88_48 rfl (lv_at hl 0 rfl) ?_
  refine lv_lload_n hx hb dJ13_bitCount_95d88_49 rfl (lv_at hl 0 rfl) ?_
  refine lv_bipush (v := (32 : Int32)) hx hb dJ13_bitCount_95d88_50 (by decide) ?_
  refine lv_lushr hx hb dJ13_bitCount_95d88_52 rfl ?_
  refine lv_ladd hx hb dJ13_bitCount_95d88_53 ?_
  refine lv_lstore_n (lv' := [(0, .long ((((((((x0 - (((x0.toUInt64 >>> ((1 : Int32).toInt64.toUInt64 &&& Int64.toUInt64 63)).toInt64) &&& (6148914691236517205 : Int64))) &&& (3689348814741910323 : Int64)) + ((((x0 - (((x0.toUInt64 >>> ((1 : Int32).toInt64.toUInt64 &&& Int64.toUInt64 63)).toInt64) &&& (6148914691236517205 : Int64))).toUInt64 >>> ((2 : Int32).toInt64.toUInt64 &&& Int64.toUInt64 63)).toInt64) &&& (3689348814741910323 : Int64))) + (((((x0 - (((x0.toUInt64 >>> ((1 : Int32).toInt64.toUInt64 &&& Int64.toUInt64 63)).toInt64) &&& (6148914691236517205 : Int64))) &&& (3689348814741910323 : Int64)) + ((((x0 - (((x0.toUInt64 >>> ((1 : Int32).toInt64.toUInt64 &&& Int64.toUInt64 63)).toInt64) &&& (6148914691236517205 : Int64))).toUInt64 >>> ((2 : Int32).toInt64.toUInt64 &&& Int64.toUInt64 63)).toInt64) &&& (3689348814741910323 : Int64))).toUInt64 >>> ((4 : Int32).toInt64.toUInt64 &&& Int64.toUInt64 63)).toInt64)) &&& (1085102592571150095 : Int64)) + (((((((x0 - (((x0.toUInt64 >>> ((1 : Int32).toInt64.toUInt64 &&& Int64.toUInt64 63)).toInt64) &&& (6148914691236517205 : Int64))) &&& (3689348814741910323 : Int64)) + ((((x0 - (((x0.toUInt64 >>> ((1 : Int32).toInt64.toUInt64 &&& Int64.toUInt64 63)).toInt64) &&& (6148914691236517205 : Int64))).toUInt64 >>> ((2 : Int32).toInt64.toUInt64 &&& Int64.toUInt64 63)).toInt64) &&& (3689348814741910323 : Int64))) + (((((x0 - (((x0.toUInt64 >>> ((1 : Int32).toInt64.toUInt64 &&& Int64.toUInt64 63)).toInt64) &&& (6148914691236517205 : Int64))) &&& (3689348814741910323 : Int64)) + ((((x0 - (((x0.toUInt64 >>> ((1 : Int32).toInt64.toUInt64 &&& Int64.toUInt64 63)).toInt64) &&& (6148914691236517205 : Int64))).toUInt64 >>> ((2 : Int32).toInt64.toUInt64 &&& Int64.toUInt64 63)).toInt64) &&& (3689348814741910323 : Int64))).toUInt64 >>> ((4 : Int32).toInt64.toUInt64 &&& Int64.toUInt64 63)).toInt64)) &&& (1085102592571150095 : Int64)).toUInt64 >>> ((8 : Int32).toInt64.toUInt64 &&& Int64.toUInt64 63)).toInt64)) + ((((((((x0 - (((x0.toUInt64 >>> ((1 : Int32).toInt64.toUInt64 &&& Int64.toUInt64 63)).toInt64) &&& (6148914691236517205 : Int64))) &&& (3689348814741910323 : Int64)) + ((((x0 - (((x0.toUInt64 >>> ((1 : Int32).toInt64.toUInt64 &&& Int64.toUInt64 63)).toInt64) &&& (6148914691236517205 : Int64))).toUInt64 >>> ((2 : Int32).toInt64.toUInt64 &&& Int64.toUInt64 63)).toInt64) &&& (3689348814741910323 : Int64))) + (((((x0 - (((x0.toUInt64 >>> ((1 : Int32).toInt64.toUInt64 &&& Int64.toUInt64 63)).toInt64) &&& (6148914691236517205 : Int64))) &&& (3689348814741910323 : Int64)) + ((((x0 - (((x0.toUInt64 >>> ((1 : Int32).toInt64.toUInt64 &&& Int64.toUInt64 63)).toInt64) &&& (6148914691236517205 : Int64))).toUInt64 >>> ((2 : Int32).toInt64.toUInt64 &&& Int64.toUInt64 63)).toInt64) &&& (3689348814741910323 : Int64))).toUInt64 >>> ((4 : Int32).toInt64.toUInt64 &&& Int64.toUInt64 63)).toInt64)) &&& (1085102592571150095 : Int64)) + (((((((x0 - (((x0.toUInt64 >>> ((1 : Int32).toInt64.toUInt64 &&& Int64.toUInt64 63)).toInt64) &&& (6148914691236517205 : Int64))) &&& (3689348814741910323 : Int64)) + ((((x0 - (((x0.toUInt64 >>> ((1 : Int32).toInt64.toUInt64 &&& Int64.toUInt64 63)).toInt64) &&& (6148914691236517205 : Int64))).toUInt64 >>> ((2 : Int32).toInt64.toUInt64 &&& Int64.toUInt64 63)).toInt64) &&& (3689348814741910323 : Int64))) + (((((x0 - (((x0.toUInt64 >>> ((1 : Int32).toInt64.toUInt64 &&& Int64.toUInt64 63)).toInt64) &&& (6148914691236517205 : Int64))) &&& (3689348814741910323 : Int64)) + ((((x0 - (((x0.toUInt64 >>> ((1 : Int32).toInt64.toUInt64 &&& Int64.toUInt64 63)).toInt64) &&& (6148914691236517205 : Int64))).toUInt64 >>> ((2 : Int32).toInt64.toUInt64 &&& Int64.toUInt64 63)).toInt64) &&& (3689348814741910323 : Int64))).toUInt64 >>> ((4 : Int32).toInt64.toUInt64 &&& Int64.toUInt64 63)).toInt64)) &&& (1085102592571150095 : Int64)).toUInt64 >>> ((8 : Int32).toInt64.toUInt64 &&& Int64.toUInt64 63)).toInt64)).toUInt64 >>> ((16 : Int32).toInt64.toUInt64 &&& Int64.toUInt64 63)).toInt64)) + (((((((((x0 - (((x0.toUInt64 >>> ((1 : Int32).toInt64.toUInt64 &&& Int64.toUInt64 63)).toInt64) &&& (6148914691236517205 : Int64))) &&& (3689348814741910323 : Int64)) + ((((x0 - (((x0.toUInt64 >>> ((1 : Int32).toInt64.toUInt64 &&& Int64.toUInt64 63)).toInt64) &&& (6148914691236517205 : Int64))).toUInt64 >>> ((2 : Int32).toInt64.toUInt64 &&& Int64.toUInt64 63)).toInt64) &&& (3689348814741910323 : Int64))) + (((((x0 - (((x0.toUInt64 >>> ((1 : Int32).toInt64.toUInt64 &&& Int64.toUInt64 63)).toInt64) &&& (6148914691236517205 : Int64))) &&& (3689348814741910323 : Int64)) + ((((x0 - (((x0.toUInt64 >>> ((1 : Int32).toInt64.toUInt64 &&& Int64.toUInt64 63)).toInt64) &&& (6148914691236517205 : Int64))).toUInt64 >>> ((2 : Int32).toInt64.toUInt64 &&& Int64.toUInt64 63)).toInt64) &&& (3689348814741910323 : Int64))).toUInt64 >>> ((4 : Int32).toInt64.toUInt64 &&& Int64.toUInt64 63)).toInt64)) &&& (1085102592571150095 : Int64)) + (((((((x0 - (((x0.toUInt64 >>> ((1 : Int32).toInt64.toUInt64 &&& Int64.toUInt64 63)).toInt64) &&& (6148914691236517205 : Int64))) &&& (3689348814741910323 : Int64)) + ((((x0 - (((x0.toUInt64 >>> ((1 : Int32).toInt64.toUInt64 &&& Int64.toUInt64 63)).toInt64) &&& (6148914691236517205 : Int64))).toUInt64 >>> ((2 : Int32).toInt64.toUInt64 &&& Int64.toUInt64 63)).toInt64) &&& (3689348814741910323 : Int64))) + (((((x0 - (((x0.toUInt64 >>> ((1 : Int32).toInt64.toUInt64 &&& Int64.toUInt64 63)).toInt64) &&& (6148914691236517205 : Int64))) &&& (3689348814741910323 : Int64)) + ((((x0 - (((x0.toUInt64 >>> ((1 : Int32).toInt64.toUInt64 &&& Int64.toUInt64 63)).toInt64) &&& (6148914691236517205 : Int64))).toUInt64 >>> ((2 : Int32).toInt64.toUInt64 &&& Int64.toUInt64 63)).toInt64) &&& (3689348814741910323 : Int64))).toUInt64 >>> ((4 : Int32).toInt64.toUInt64 &&& Int64.toUInt64 63)).toInt64)) &&& (1085102592571150095 : Int64)).toUInt64 >>> ((8 : Int32).toInt64.toUInt64 &&& Int64.toUInt64 63)).toInt64)) + ((((((((x0 - (((x0.toUInt64 >>> ((1 : Int32).toInt64.toUInt64 &&& Int64.toUInt64 63)).toInt64) &&& (6148914691236517205 : Int64))) &&& (3689348814741910323 : Int64)) + ((((x0 - (((x0.toUInt64 >>> ((1 : Int32).toInt64.toUInt64 &&& Int64.toUInt64 63)).toInt64) &&& (6148914691236517205 : Int64))).toUInt64 >>> ((2 : Int32).toInt64.toUInt64 &&& Int64.toUInt64 63)).toInt64) &&& (3689348814741910323 : Int64))) + (((((x0 - (((x0.toUInt64 >>> ((1 : Int32).toInt64.toUInt64 &&& Int64.toUInt64 63)).toInt64) &&& (6148914691236517205 : Int64))) &&& (3689348814741910323 : Int64)) + ((((x0 - (((x0.toUInt64 >>> ((1 : Int32).toInt64.toUInt64 &&& Int64.toUInt64 63)).toInt64) &&& (6148914691236517205 : Int64))).toUInt64 >>> ((2 : Int32).toInt64.toUInt64 &&& Int64.toUInt64 63)).toInt64) &&& (3689348814741910323 : Int64))).toUInt64 >>> ((4 : Int32).toInt64.toUInt64 &&& Int64.toUInt64 63)).toInt64)) &&& (1085102592571150095 : Int64)) + (((((((x0 - (((x0.toUInt64 >>> ((1 : Int32).toInt64.toUInt64 &&& Int64.toUInt64 63)).toInt64) &&& (6148914691236517205 : Int64))) &&& (3689348814741910323 : Int64)) + ((((x0 - (((x0.toUInt64 >>> ((1 : Int32).toInt64.toUInt64 &&& Int64.toUInt64 63)).toInt64) &&& (6148914691236517205 : Int64))).toUInt64 >>> ((2 : Int32).toInt64.toUInt64 &&& Int64.toUInt64 63)).toInt64) &&& (3689348814741910323 : Int64))) + (((((x0 - (((x0.toUInt64 >>> ((1 : Int32).toInt64.toUInt64 &&& Int64.toUInt64 63)).toInt64) &&& (6148914691236517205 : Int64))) &&& (3689348814741910323 : Int64)) + ((((x0 - (((x0.toUInt64 >>> ((1 : Int32).toInt64.toUInt64 &&& Int64.toUInt64 63)).toInt64) &&& (6148914691236517205 : Int64))).toUInt64 >>> ((2 : Int32).toInt64.toUInt64 &&& Int64.toUInt64 63)).toInt64) &&& (3689348814741910323 : Int64))).toUInt64 >>> ((4 : Int32).toInt64.toUInt64 &&& Int64.toUInt64 63)).toInt64)) &&& (1085102592571150095 : Int64)).toUInt64 >>> ((8 : Int32).toInt64.toUInt64 &&& Int64.toUInt64 63)).toInt64)).toUInt64 >>> ((16 : Int32).toInt64.toUInt64 &&& Int64.toUInt64 63)).toInt64)).toUInt64 >>> ((32 : Int32).toInt64.toUInt64 &&& Int64.toUInt64 63)).toInt64)))]) hx hb dJ13_bitCount_95d88_54 rfl hl (by decide) rfl (fun ls hl => ?_)
  refine lv_lload_n hx hb dJ13_bitCount_95d88_55 rfl (lv_at hl 0 rfl) ?_
  refine lv_l2i hx hb dJ13_bitCount_95d88_56 rfl ?_
  refine lv_bipush (v := (127 : Int32)) hx hb dJ13_bitCount_95d88_57 (by decide) ?_
  refine lv_iand hx hb dJ13_bitCount_95d88_59 ?_
  exact hend _ _ _ _ _ h hP hD hS dJ13_bitCount_95d88_60
def mJ3_checkIndex_8e157_9  (x0 : Int32) (x1 : Int32)  : Option (Int32) :=
  none
def mJ3_checkIndex_8e157 (x0 : Int32) (x1 : Int32) : Option (Int32) :=
  (if x0 < (0 : Int32) then (mJ3_checkIndex_8e157_9 x0 x1) else (if x0 < x1 then (some x0) else (mJ3_checkIndex_8e157_9 x0 x1)))
abbrev rmJ3_checkIndex_8e157 : Room := { frames := 0, cells := 0, slots := 0, locals := 0 }
theorem hdJ3_checkIndex_8e157 : yJ3_checkIndex_8e157.cls ≠ "java/lang/invoke/MethodHandle" ∧ yJ3_checkIndex_8e157.cls ≠ "java/lang/invoke/VarHandle" ∧ (parseMethodDescriptor yJ3_checkIndex_8e157.desc).map (fun d => d.parameters.length) = some 3 := by decide +kernel
set_option maxRecDepth 100000 in
set_option maxHeartbeats 8000000 in
theorem ctJ3_checkIndex_8e157 (l : Launch) (dC : Nat → ClassId) (dI : Nat → Nat → Nat) (cq : Nat → ClassId) (q : Nat → Nat) (S : CS) (M : MS) (o : Nat → Int64) (sz : Nat) (h0 : Nat) (x0 : Int32) (x1 : Int32) (rr : Int32) (h : mJ3_checkIndex_8e157 x0 x1 = some rr) : CtR_i l yJ3_checkIndex_8e157 wsJ3_checkIndex_8e157 rmJ3_checkIndex_8e157 (fun a => h0 ≤ a) (EV h0 q) dC dI cq q S M o sz [.int x0, .int x1, .null] rr := by
  refine enR_i (cc := cJ3_checkIndex_8e157) (maxL := 3) (by decide) rfl (Nat.le_of_ble_eq_true rfl) (fun p e s m args below meth c A Q ls F hA hP hK hD hDm hX hS hl hend => ?_)
  obtain ⟨hx, hb, hml, hown, hts⟩ := id F
  have hown : s.vm.findClass RJ3 = some m.cls := hown
  have F : CallFix p m c cJ3_checkIndex_8e157 3 s args wsJ3_checkIndex_8e157 RJ3 := F
  have hl : lv_has ls 3 [(0, .int x0), (1, .int x1), (2, .null)] := hl
  have hj9 : ∀  (x0 : Int32) (x1 : Int32)    (H : Heap) (locs : List Loc) (ls : Array Slot), va_P (dC, dI) vwCl (wA cq q S M o) H → va_D A (wA cq q S M o) → va_S A s.heap H locs → lv_has ls 3 [(0, .int x0), (1, .int x1), (2, .null)] → mJ3_checkIndex_8e157_9 x0 x1 = some rr → W p l e rmJ3_checkIndex_8e157 s m args below meth c H locs 0 0 Q (F0 m 9 ls []) := by
    intro x0 x1 H locs ls hP hD hS hl h
    rw [mJ3_checkIndex_8e157_9] at h
    cases h
  rw [mJ3_checkIndex_8e157] at h
  refine lv_iload_n hx hb dJ3_checkIndex_8e157_0 rfl (lv_at hl 0 rfl) ?_
  refine lv_if_lt (tgt := 9) hx hb dJ3_checkIndex_8e157_1 (by decide) (fun c1 => ?_) (fun c1 => ?_)
  · replace h := it c1 h
    exact hj9 _ _ _ _ _ hP hD hS (lv_sub hl [0, 1, 2] rfl) h
  · replace h := ie c1 h
    refine lv_iload_n hx hb dJ3_checkIndex_8e157_4 rfl (lv_at hl 0 rfl) ?_
    refine lv_iload_n hx hb dJ3_checkIndex_8e157_5 rfl (lv_at hl 1 rfl) ?_
    refine lv_icmp_lt (tgt := 16) hx hb dJ3_checkIndex_8e157_6 (by decide) (fun c2 => ?_) (fun c2 => ?_)
    · replace h := it c2 h
      refine lv_iload_n hx hb dJ3_checkIndex_8e157_16 rfl (lv_at hl 0 rfl) ?_
      exact hend _ _ _ _ _ h hP hD hS dJ3_checkIndex_8e157_17
    · replace h := ie c2 h
      exact hj9 _ _ _ _ _ hP hD hS (lv_sub hl [0, 1, 2] rfl) h
def mJ15_checkIndex_7cf53 (x0 : Int32) (x1 : Int32) : Option (Int32) :=
  (bn (mJ3_checkIndex_8e157 x0 x1) fun r1 => (some r1))
abbrev rmJ15_checkIndex_7cf53 : Room := { frames := 1, cells := 0, slots := 0, locals := 22 }
theorem hdJ15_checkIndex_7cf53 : yJ15_checkIndex_7cf53.cls ≠ "java/lang/invoke/MethodHandle" ∧ yJ15_checkIndex_7cf53.cls ≠ "java/lang/invoke/VarHandle" ∧ (parseMethodDescriptor yJ15_checkIndex_7cf53.desc).map (fun d => d.parameters.length) = some 2 := by decide +kernel
set_option maxRecDepth 100000 in
set_option maxHeartbeats 8000000 in
theorem ctJ15_checkIndex_7cf53 (l : Launch) (dC : Nat → ClassId) (dI : Nat → Nat → Nat) (cq : Nat → ClassId) (q : Nat → Nat) (S : CS) (M : MS) (o : Nat → Int64) (sz : Nat) (h0 : Nat) (x0 : Int32) (x1 : Int32) (rr : Int32) (h : mJ15_checkIndex_7cf53 x0 x1 = some rr) : CtR_i l yJ15_checkIndex_7cf53 wsJ15_checkIndex_7cf53 rmJ15_checkIndex_7cf53 (fun a => h0 ≤ a) (EV h0 q) dC dI cq q S M o sz [.int x0, .int x1] rr := by
  refine enR_i (cc := cJ15_checkIndex_7cf53) (maxL := 2) (by decide) rfl (Nat.le_of_ble_eq_true rfl) (fun p e s m args below meth c A Q ls F hA hP hK hD hDm hX hS hl hend => ?_)
  obtain ⟨hx, hb, hml, hown, hts⟩ := id F
  have hown : s.vm.findClass RJ15 = some m.cls := hown
  have F : CallFix p m c cJ15_checkIndex_7cf53 2 s args wsJ15_checkIndex_7cf53 RJ15 := F
  have hl : lv_has ls 2 [(0, .int x0), (1, .int x1)] := hl
  rw [mJ15_checkIndex_7cf53] at h
  refine lv_iload_n hx hb dJ15_checkIndex_7cf53_0 rfl (lv_at hl 0 rfl) ?_
  refine lv_iload_n hx hb dJ15_checkIndex_7cf53_1 rfl (lv_at hl 1 rfl) ?_
  refine lv_null hx hb dJ15_checkIndex_7cf53_2 ?_
  obtain ⟨r1, e2, h⟩ := bo h
  refine caSR_i (As := [.int x0, .int x1, .null]) (rest := []) (ctJ3_checkIndex_8e157 l dC dI cq q S M o _ _ _ _ _ e2) F (va_cwS 3 hts gJ15_checkIndex_7cf53_J3_checkIndex_8e157 rfl rfl rfl hdJ3_checkIndex_8e157 ⟨Nat.le_of_ble_eq_true rfl, Nat.le_of_ble_eq_true rfl⟩) hK hP hD hDm hS hA EV.blind (fun U hU hW => EV.call hX hS hDm hU hW) rfl hl.1 rfl (Nat.le_of_ble_eq_true rfl) dJ15_checkIndex_7cf53_3 ⟨Nat.zero_le _, Nat.zero_le _⟩ (fun H locs hP hD hS => ?_)
  exact hend _ _ _ _ _ h hP hD hS dJ15_checkIndex_7cf53_6
def mJx4a65c_size_8abf5 (S : CS)  : Option (Int32) :=
  (some (nI S.2.2.2.1.length))
abbrev rmJx4a65c_size_8abf5 : Room := { frames := 0, cells := 0, slots := 0, locals := 0 }
theorem hdJx4a65c_size_8abf5 : yJx4a65c_size_8abf5.cls = RJx4a65c ∧ yJx4a65c_size_8abf5.cls ≠ "java/lang/invoke/MethodHandle" ∧ yJx4a65c_size_8abf5.cls ≠ "java/lang/invoke/VarHandle" ∧ (parseMethodDescriptor yJx4a65c_size_8abf5.desc).map (fun d => d.parameters.length) = some 0 := by decide +kernel
set_option maxRecDepth 100000 in
set_option maxHeartbeats 8000000 in
theorem ctJx4a65c_size_8abf5 (l : Launch) (dC : Nat → ClassId) (dI : Nat → Nat → Nat) (cq : Nat → ClassId) (q : Nat → Nat) (S : CS) (M : MS) (o : Nat → Int64) (sz : Nat) (h0 : Nat)  (rr : Int32) (h : mJx4a65c_size_8abf5 S = some rr) : CtR_i l yJx4a65c_size_8abf5 wsJx4a65c_size_8abf5 rmJx4a65c_size_8abf5 (fun a => h0 ≤ a) (EV h0 q) dC dI cq q S M o sz [.ref (q 3)] rr := by
  refine enR_i (cc := cJx4a65c_size_8abf5) (maxL := 1) (by decide) rfl (Nat.le_of_ble_eq_true rfl) (fun p e s m args below meth c A Q ls F hA hP hK hD hDm hX hS hl hend => ?_)
  obtain ⟨hx, hb, hml, hown, hts⟩ := id F
  have hown : s.vm.findClass RJx4a65c = some m.cls := hown
  have F : CallFix p m c cJx4a65c_size_8abf5 1 s args wsJx4a65c_size_8abf5 RJx4a65c := F
  have hl : lv_has ls 1 [(0, .ref (q 3))] := hl
  have hinJx4a65c : ∀ w ∈ u_ws RJx4a65c TJx4a65c 3, w ∈ wsJx4a65c_size_8abf5 := fun w h => List.mem_cons_of_mem _ (List.mem_append_right _ h)
  rw [mJx4a65c_size_8abf5] at h
  refine lv_aload_n hx hb dJx4a65c_size_8abf5_0 rfl (lv_at hl 0 rfl) ?_
  refine va_get (D := (dC, dI)) (ci := 0) (v := .int (nI S.2.2.2.1.length)) (C := RJx4a65c) (T := TJx4a65c) (N := 3) hx hb hts hinJx4a65c hown hK hP 3 rfl rfl 2 (by decide) (hts (.fieldLink RJx4a65c 48 "java/util/ArrayList" "size" "I") (mm 1 rfl)) (fun _ h9 => h9) rfl dJx4a65c_size_8abf5_1 ?_
  exact hend _ _ _ _ _ h hP hD hS dJx4a65c_size_8abf5_4
def mJx4a65c_get_915e3 (S : CS) (x1 : Int32) : Option (FT) :=
  (bn (mJ15_checkIndex_7cf53 x1 (nI S.2.2.2.1.length)) fun r1 => (bn (alGet S x1) fun r3 => (some r3)))
abbrev rmJx4a65c_get_915e3 : Room := { frames := 2, cells := 0, slots := 0, locals := 43 }
theorem hdJx4a65c_get_915e3 : yJx4a65c_get_915e3.cls = RJx4a65c ∧ yJx4a65c_get_915e3.cls ≠ "java/lang/invoke/MethodHandle" ∧ yJx4a65c_get_915e3.cls ≠ "java/lang/invoke/VarHandle" ∧ (parseMethodDescriptor yJx4a65c_get_915e3.desc).map (fun d => d.parameters.length) = some 1 := by decide +kernel
set_option maxRecDepth 100000 in
set_option maxHeartbeats 8000000 in
theorem ctJx4a65c_get_915e3 (l : Launch) (dC : Nat → ClassId) (dI : Nat → Nat → Nat) (cq : Nat → ClassId) (q : Nat → Nat) (S : CS) (M : MS) (o : Nat → Int64) (sz : Nat) (h0 : Nat) (x1 : Int32) (rr : FT) (h : mJx4a65c_get_915e3 S x1 = some rr) : CtR_r l yJx4a65c_get_915e3 wsJx4a65c_get_915e3 rmJx4a65c_get_915e3 (fun a => h0 ≤ a) (EV h0 q) dC dI cq q S M o sz [.ref (q 3), .int x1] rr.1 := by
  refine enR_r (cc := cJx4a65c_get_915e3) (maxL := 2) (by decide) rfl (Nat.le_of_ble_eq_true rfl) (fun p e s m args below meth c A Q ls F hA hP hK hD hDm hX hS hl hend => ?_) ⟨_, rfl⟩
  obtain ⟨hx, hb, hml, hown, hts⟩ := id F
  have hown : s.vm.findClass RJx4a65c = some m.cls := hown
  have F : CallFix p m c cJx4a65c_get_915e3 2 s args wsJx4a65c_get_915e3 RJx4a65c := F
  have hl : lv_has ls 2 [(0, .ref (q 3)), (1, .int x1)] := hl
  have hinJx4a65c : ∀ w ∈ u_ws RJx4a65c TJx4a65c 3, w ∈ wsJx4a65c_get_915e3 := fun w h => List.mem_cons_of_mem _ (List.mem_append_right _ h)
  rw [mJx4a65c_get_915e3] at h
  refine lv_iload_n hx hb dJx4a65c_get_915e3_0 rfl (lv_at hl 1 rfl) ?_
  refine lv_aload_n hx hb dJx4a65c_get_915e3_1 rfl (lv_at hl 0 rfl) ?_
  refine va_get (D := (dC, dI)) (ci := 0) (v := .int (nI S.2.2.2.1.length)) (C := RJx4a65c) (T := TJx4a65c) (N := 3) hx hb hts hinJx4a65c hown hK hP 3 rfl rfl 2 (by decide) (hts (.fieldLink RJx4a65c 48 "java/util/ArrayList" "size" "I") (mm 1 rfl)) (fun _ h9 => h9) rfl dJx4a65c_get_915e3_2 ?_
  obtain ⟨r1, e2, h⟩ := bo h
  refine caSR_i (As := [.int x1, .int (nI S.2.2.2.1.length)]) (rest := []) (ctJ15_checkIndex_7cf53 l dC dI cq q S M o _ _ _ _ _ e2) F (va_cwS 2 hts gJx4a65c_get_915e3_J15_checkIndex_7cf53 rfl rfl rfl hdJ15_checkIndex_7cf53 ⟨Nat.le_of_ble_eq_true rfl, Nat.le_of_ble_eq_true rfl⟩) hK hP hD hDm hS hA EV.blind (fun U hU hW => EV.call hX hS hDm hU hW) rfl hl.1 rfl (Nat.le_of_ble_eq_true rfl) dJx4a65c_get_915e3_5 ⟨Nat.zero_le _, Nat.zero_le _⟩ (fun H locs hP hD hS => ?_)
  refine lv_pop hx hb dJx4a65c_get_915e3_8 rfl ?_
  refine lv_aload_n hx hb dJx4a65c_get_915e3_9 rfl (lv_at hl 0 rfl) ?_
  refine lv_iload_n hx hb dJx4a65c_get_915e3_10 rfl (lv_at hl 1 rfl) ?_
  obtain ⟨r3, e4, h⟩ := bo h
  refine caVR_r (As := [.int x1]) (rest := []) (ctJx4a65c_elementData_915e3 l dC dI cq q S M o _ _ _ _ e4) F (cwV 1 hts gJx4a65c_get_915e3_Jx4a65c_elementData_915e3 rfl rfl rfl hdJx4a65c_elementData_915e3 ⟨Nat.le_of_ble_eq_true rfl, Nat.le_of_ble_eq_true rfl⟩) hK hP hD hDm hS hA EV.blind (fun U hU hW => EV.call hX hS hDm hU hW) (va_recv hK hP (ci := 0) (q0 := 3) rfl rfl) rfl hl.1 rfl (Nat.le_of_ble_eq_true rfl) dJx4a65c_get_915e3_11 ⟨Nat.zero_le _, Nat.zero_le _⟩ (fun H locs hP hD hS => ?_)
  have hw5 := alGet_mem e4
  cases h
  exact hend _ _ _ _ hP hD hS dJx4a65c_get_915e3_14
theorem mJx4a65c_get_915e3_mem {S : CS} {i : Int32} {w : FT} (h : mJx4a65c_get_915e3 S i = some w) : w ∈ S.2.2.2.1 := by
  unfold mJx4a65c_get_915e3 at h
  obtain ⟨_, _, h⟩ := bo h
  obtain ⟨w9, h9, h⟩ := bo h
  cases h
  exact alGet_mem h9
def mX2_isShort (x0 : FT) : Option (Int32) :=
  (if (x0.2 1) = (-1 : Int32) then (some (0 : Int32)) else (some (1 : Int32)))
abbrev rmX2_isShort : Room := { frames := 0, cells := 0, slots := 0, locals := 0 }
theorem hdX2_isShort : yX2_isShort.cls = RX2 ∧ yX2_isShort.cls ≠ "java/lang/invoke/MethodHandle" ∧ yX2_isShort.cls ≠ "java/lang/invoke/VarHandle" ∧ (parseMethodDescriptor yX2_isShort.desc).map (fun d => d.parameters.length) = some 0 := by decide +kernel
set_option maxRecDepth 100000 in
set_option maxHeartbeats 8000000 in
theorem ctX2_isShort (l : Launch) (dC : Nat → ClassId) (dI : Nat → Nat → Nat) (cq : Nat → ClassId) (q : Nat → Nat) (S : CS) (M : MS) (o : Nat → Int64) (sz : Nat) (h0 : Nat) (x0 : FT) (hx0 : x0 ∈ S.2.2.2.1) (rr : Int32) (h : mX2_isShort x0 = some rr) : CtR_i l yX2_isShort wsX2_isShort rmX2_isShort (fun a => h0 ≤ a) (EV h0 q) dC dI cq q S M o sz [.ref x0.1] rr := by
  refine enR_z (cc := cX2_isShort) (maxL := 1) (by decide) rfl (Nat.le_of_ble_eq_true rfl) (fun p e s m args below meth c A Q ls F hA hP hK hD hDm hX hS hl hend => ?_)
  obtain ⟨hx, hb, hml, hown, hts⟩ := id F
  have hown : s.vm.findClass RX2 = some m.cls := hown
  have F : CallFix p m c cX2_isShort 1 s args wsX2_isShort RX2 := F
  have hl : lv_has ls 1 [(0, .ref x0.1)] := hl
  have hinX2 : ∀ w ∈ u_ws RX2 TX2 5, w ∈ wsX2_isShort := fun w h => List.mem_cons_of_mem _ (List.mem_append_right _ h)
  rw [mX2_isShort] at h
  refine lv_aload_n hx hb dX2_isShort_0 rfl (lv_at hl 0 rfl) ?_
  obtain ⟨kw1, hkw1⟩ := wA_w (cq := cq) (q := q) (S := S) (M := M) (o := o) hx0
  refine va_get (D := (dC, dI)) (ci := 3) (v := .int (x0.2 1)) (C := RX2) (T := TX2) (N := 5) hx hb hts hinX2 hown hK hP kw1 hkw1 rfl 1 (by decide) (hts (.fieldLink RX2 15 "CableTester$Fault" "other" "I") (mm 1 rfl)) (fun _ h9 => h9) rfl dX2_isShort_1 ?_
  refine lv_iconst (v := (-1 : Int32)) hx hb dX2_isShort_4 (by decide) ?_
  refine lv_icmp_eq (tgt := 12) hx hb dX2_isShort_5 (by decide) (fun c2 => ?_) (fun c2 => ?_)
  · replace h := it c2 h
    refine lv_iconst (v := (0 : Int32)) hx hb dX2_isShort_12 (by decide) ?_
    exact hend _ _ _ _ _ h hP hD hS dX2_isShort_13 (by decide)
  · replace h := ie c2 h
    refine lv_iconst (v := (1 : Int32)) hx hb dX2_isShort_8 (by decide) ?_
    refine lv_goto (tgt := 13) hx hb dX2_isShort_9 (by decide) ?_
    exact hend _ _ _ _ _ h hP hD hS dX2_isShort_13 (by decide)
def mX2_isPresent (x0 : FT) (x1 : Int32) : Option (Int32) :=
  (if (x0.2 3) ≤ (0 : Int32) then (some (0 : Int32)) else (if ¬ (x0.2 3) = 0 then (if (x0.2 4) ≤ (x1 - x1 / (x0.2 3) * (x0.2 3)) then (some (0 : Int32)) else (some (1 : Int32))) else none))
abbrev rmX2_isPresent : Room := { frames := 0, cells := 0, slots := 0, locals := 0 }
theorem hdX2_isPresent : yX2_isPresent.cls = RX2 ∧ yX2_isPresent.cls ≠ "java/lang/invoke/MethodHandle" ∧ yX2_isPresent.cls ≠ "java/lang/invoke/VarHandle" ∧ (parseMethodDescriptor yX2_isPresent.desc).map (fun d => d.parameters.length) = some 1 := by decide +kernel
set_option maxRecDepth 100000 in
set_option maxHeartbeats 8000000 in
theorem ctX2_isPresent (l : Launch) (dC : Nat → ClassId) (dI : Nat → Nat → Nat) (cq : Nat → ClassId) (q : Nat → Nat) (S : CS) (M : MS) (o : Nat → Int64) (sz : Nat) (h0 : Nat) (x0 : FT) (hx0 : x0 ∈ S.2.2.2.1) (x1 : Int32) (rr : Int32) (h : mX2_isPresent x0 x1 = some rr) : CtR_i l yX2_isPresent wsX2_isPresent rmX2_isPresent (fun a => h0 ≤ a) (EV h0 q) dC dI cq q S M o sz [.ref x0.1, .int x1] rr := by
  refine enR_z (cc := cX2_isPresent) (maxL := 2) (by decide) rfl (Nat.le_of_ble_eq_true rfl) (fun p e s m args below meth c A Q ls F hA hP hK hD hDm hX hS hl hend => ?_)
  obtain ⟨hx, hb, hml, hown, hts⟩ := id F
  have hown : s.vm.findClass RX2 = some m.cls := hown
  have F : CallFix p m c cX2_isPresent 2 s args wsX2_isPresent RX2 := F
  have hl : lv_has ls 2 [(0, .ref x0.1), (1, .int x1)] := hl
  have hinX2 : ∀ w ∈ u_ws RX2 TX2 5, w ∈ wsX2_isPresent := fun w h => List.mem_cons_of_mem _ (List.mem_append_right _ h)
  rw [mX2_isPresent] at h
  refine lv_aload_n hx hb dX2_isPresent_0 rfl (lv_at hl 0 rfl) ?_
  obtain ⟨kw1, hkw1⟩ := wA_w (cq := cq) (q := q) (S := S) (M := M) (o := o) hx0
  refine va_get (D := (dC, dI)) (ci := 3) (v := .int (x0.2 3)) (C := RX2) (T := TX2) (N := 5) hx hb hts hinX2 hown hK hP kw1 hkw1 rfl 3 (by decide) (hts (.fieldLink RX2 21 "CableTester$Fault" "period" "I") (mm 1 rfl)) (fun _ h9 => h9) rfl dX2_isPresent_1 ?_
  refine lv_if_le (tgt := 24) hx hb dX2_isPresent_4 (by decide) (fun c2 => ?_) (fun c2 => ?_)
  · replace h := it c2 h
    refine lv_iconst (v := (0 : Int32)) hx hb dX2_isPresent_24 (by decide) ?_
    exact hend _ _ _ _ _ h hP hD hS dX2_isPresent_25 (by decide)
  · replace h := ie c2 h
    refine lv_iload_n hx hb dX2_isPresent_7 rfl (lv_at hl 1 rfl) ?_
    refine lv_aload_n hx hb dX2_isPresent_8 rfl (lv_at hl 0 rfl) ?_
    obtain ⟨kw3, hkw3⟩ := wA_w (cq := cq) (q := q) (S := S) (M := M) (o := o) hx0
    refine va_get (D := (dC, dI)) (ci := 3) (v := .int (x0.2 3)) (C := RX2) (T := TX2) (N := 5) hx hb hts hinX2 hown hK hP kw3 hkw3 rfl 3 (by decide) (hts (.fieldLink RX2 21 "CableTester$Fault" "period" "I") (mm 1 rfl)) (fun _ h9 => h9) rfl dX2_isPresent_9 ?_
    obtain ⟨g4, h⟩ := gd h
    refine lv_irem hx hb dX2_isPresent_12 g4 ?_
    refine lv_aload_n hx hb dX2_isPresent_13 rfl (lv_at hl 0 rfl) ?_
    obtain ⟨kw5, hkw5⟩ := wA_w (cq := cq) (q := q) (S := S) (M := M) (o := o) hx0
    refine va_get (D := (dC, dI)) (ci := 3) (v := .int (x0.2 4)) (C := RX2) (T := TX2) (N := 5) hx hb hts hinX2 hown hK hP kw5 hkw5 rfl 4 (by decide) (hts (.fieldLink RX2 24 "CableTester$Fault" "duration" "I") (mm 2 rfl)) (fun _ h9 => h9) rfl dX2_isPresent_14 ?_
    refine lv_icmp_ge (tgt := 24) hx hb dX2_isPresent_17 (by decide) (fun c6 => ?_) (fun c6 => ?_)
    · replace h := it c6 h
      refine lv_iconst (v := (0 : Int32)) hx hb dX2_isPresent_24 (by decide) ?_
      exact hend _ _ _ _ _ h hP hD hS dX2_isPresent_25 (by decide)
    · replace h := ie c6 h
      refine lv_iconst (v := (1 : Int32)) hx hb dX2_isPresent_20 (by decide) ?_
      refine lv_goto (tgt := 25) hx hb dX2_isPresent_21 (by decide) ?_
      exact hend _ _ _ _ _ h hP hD hS dX2_isPresent_25 (by decide)
def mX2_touches_16    : Option (Int32) :=
  (some (1 : Int32))
def mX2_touches (x0 : FT) (x1 : Int32) : Option (Int32) :=
  (if (x0.2 0) = x1 then (mX2_touches_16) else (if (x0.2 1) = x1 then (mX2_touches_16) else (some (0 : Int32))))
abbrev rmX2_touches : Room := { frames := 0, cells := 0, slots := 0, locals := 0 }
theorem hdX2_touches : yX2_touches.cls = RX2 ∧ yX2_touches.cls ≠ "java/lang/invoke/MethodHandle" ∧ yX2_touches.cls ≠ "java/lang/invoke/VarHandle" ∧ (parseMethodDescriptor yX2_touches.desc).map (fun d => d.parameters.length) = some 1 := by decide +kernel
set_option maxRecDepth 100000 in
set_option maxHeartbeats 8000000 in
theorem ctX2_touches (l : Launch) (dC : Nat → ClassId) (dI : Nat → Nat → Nat) (cq : Nat → ClassId) (q : Nat → Nat) (S : CS) (M : MS) (o : Nat → Int64) (sz : Nat) (h0 : Nat) (x0 : FT) (hx0 : x0 ∈ S.2.2.2.1) (x1 : Int32) (rr : Int32) (h : mX2_touches x0 x1 = some rr) : CtR_i l yX2_touches wsX2_touches rmX2_touches (fun a => h0 ≤ a) (EV h0 q) dC dI cq q S M o sz [.ref x0.1, .int x1] rr := by
  refine enR_z (cc := cX2_touches) (maxL := 2) (by decide) rfl (Nat.le_of_ble_eq_true rfl) (fun p e s m args below meth c A Q ls F hA hP hK hD hDm hX hS hl hend => ?_)
  obtain ⟨hx, hb, hml, hown, hts⟩ := id F
  have hown : s.vm.findClass RX2 = some m.cls := hown
  have F : CallFix p m c cX2_touches 2 s args wsX2_touches RX2 := F
  have hl : lv_has ls 2 [(0, .ref x0.1), (1, .int x1)] := hl
  have hinX2 : ∀ w ∈ u_ws RX2 TX2 5, w ∈ wsX2_touches := fun w h => List.mem_cons_of_mem _ (List.mem_append_right _ h)
  have hj16 : ∀      (H : Heap) (locs : List Loc) (ls : Array Slot), va_P (dC, dI) vwCl (wA cq q S M o) H → va_D A (wA cq q S M o) → va_S A s.heap H locs → lv_has ls 2 [] → mX2_touches_16 = some rr → W p l e rmX2_touches s m args below meth c H locs 0 0 Q (F0 m 16 ls []) := by
    intro  H locs ls hP hD hS hl h
    rw [mX2_touches_16] at h
    refine lv_iconst (v := (1 : Int32)) hx hb dX2_touches_16 (by decide) ?_
    refine lv_goto (tgt := 21) hx hb dX2_touches_17 (by decide) ?_
    exact hend _ _ _ _ _ h hP hD hS dX2_touches_21 (by decide)
  rw [mX2_touches] at h
  refine lv_aload_n hx hb dX2_touches_0 rfl (lv_at hl 0 rfl) ?_
  obtain ⟨kw1, hkw1⟩ := wA_w (cq := cq) (q := q) (S := S) (M := M) (o := o) hx0
  refine va_get (D := (dC, dI)) (ci := 3) (v := .int (x0.2 0)) (C := RX2) (T := TX2) (N := 5) hx hb hts hinX2 hown hK hP kw1 hkw1 rfl 0 (by decide) (hts (.fieldLink RX2 9 "CableTester$Fault" "wire" "I") (mm 1 rfl)) (fun _ h9 => h9) rfl dX2_touches_1 ?_
  refine lv_iload_n hx hb dX2_touches_4 rfl (lv_at hl 1 rfl) ?_
  refine lv_icmp_eq (tgt := 16) hx hb dX2_touches_5 (by decide) (fun c2 => ?_) (fun c2 => ?_)
  · replace h := it c2 h
    exact hj16 _ _ _ hP hD hS (lv_sub hl [] rfl) h
  · replace h := ie c2 h
    refine lv_aload_n hx hb dX2_touches_8 rfl (lv_at hl 0 rfl) ?_
    obtain ⟨kw3, hkw3⟩ := wA_w (cq := cq) (q := q) (S := S) (M := M) (o := o) hx0
    refine va_get (D := (dC, dI)) (ci := 3) (v := .int (x0.2 1)) (C := RX2) (T := TX2) (N := 5) hx hb hts hinX2 hown hK hP kw3 hkw3 rfl 1 (by decide) (hts (.fieldLink RX2 15 "CableTester$Fault" "other" "I") (mm 2 rfl)) (fun _ h9 => h9) rfl dX2_touches_9 ?_
    refine lv_iload_n hx hb dX2_touches_12 rfl (lv_at hl 1 rfl) ?_
    refine lv_icmp_ne (tgt := 20) hx hb dX2_touches_13 (by decide) (fun c4 => ?_) (fun c4 => ?_)
    · replace h := ie c4 h
      refine lv_iconst (v := (0 : Int32)) hx hb dX2_touches_20 (by decide) ?_
      exact hend _ _ _ _ _ h hP hD hS dX2_touches_21 (by decide)
    · replace h := it c4 h
      exact hj16 _ _ _ hP hD hS (lv_sub hl [] rfl) h
def mX2_isMetBefore_36    : Option (Int32) :=
  (some (1 : Int32))
def mX2_isMetBefore (x0 : FT) (x1 : FT) : Option (Int32) :=
  (if (x0.2 2) < (x1.2 2) then (mX2_isMetBefore_36) else (if (x0.2 2) = (x1.2 2) then (bn (mX2_isShort x0) fun r7 => (if r7 = (0 : Int32) then (some (0 : Int32)) else (bn (mX2_isShort x1) fun r11 => (if r11 = (0 : Int32) then (mX2_isMetBefore_36) else (some (0 : Int32)))))) else (some (0 : Int32))))
abbrev rmX2_isMetBefore : Room := { frames := 1, cells := 0, slots := 0, locals := 20 }
theorem hdX2_isMetBefore : yX2_isMetBefore.cls = RX2 ∧ yX2_isMetBefore.cls ≠ "java/lang/invoke/MethodHandle" ∧ yX2_isMetBefore.cls ≠ "java/lang/invoke/VarHandle" ∧ (parseMethodDescriptor yX2_isMetBefore.desc).map (fun d => d.parameters.length) = some 1 := by decide +kernel
set_option maxRecDepth 100000 in
set_option maxHeartbeats 8000000 in
theorem ctX2_isMetBefore (l : Launch) (dC : Nat → ClassId) (dI : Nat → Nat → Nat) (cq : Nat → ClassId) (q : Nat → Nat) (S : CS) (M : MS) (o : Nat → Int64) (sz : Nat) (h0 : Nat) (x0 : FT) (hx0 : x0 ∈ S.2.2.2.1) (x1 : FT) (hx1 : x1 ∈ S.2.2.2.1) (rr : Int32) (h : mX2_isMetBefore x0 x1 = some rr) : CtR_i l yX2_isMetBefore wsX2_isMetBefore rmX2_isMetBefore (fun a => h0 ≤ a) (EV h0 q) dC dI cq q S M o sz [.ref x0.1, .ref x1.1] rr := by
  refine enR_z (cc := cX2_isMetBefore) (maxL := 2) (by decide) rfl (Nat.le_of_ble_eq_true rfl) (fun p e s m args below meth c A Q ls F hA hP hK hD hDm hX hS hl hend => ?_)
  obtain ⟨hx, hb, hml, hown, hts⟩ := id F
  have hown : s.vm.findClass RX2 = some m.cls := hown
  have F : CallFix p m c cX2_isMetBefore 2 s args wsX2_isMetBefore RX2 := F
  have hl : lv_has ls 2 [(0, .ref x0.1), (1, .ref x1.1)] := hl
  have hinX2 : ∀ w ∈ u_ws RX2 TX2 5, w ∈ wsX2_isMetBefore := fun w h => List.mem_cons_of_mem _ (List.mem_append_right _ h)
  have hj36 : ∀      (H : Heap) (locs : List Loc) (ls : Array Slot), va_P (dC, dI) vwCl (wA cq q S M o) H → va_D A (wA cq q S M o) → va_S A s.heap H locs → lv_has ls 2 [] → mX2_isMetBefore_36 = some rr → W p l e rmX2_isMetBefore s m args below meth c H locs 0 0 Q (F0 m 36 ls []) := by
    intro  H locs ls hP hD hS hl h
    rw [mX2_isMetBefore_36] at h
    refine lv_iconst (v := (1 : Int32)) hx hb dX2_isMetBefore_36 (by decide) ?_
    refine lv_goto (tgt := 41) hx hb dX2_isMetBefore_37 (by decide) ?_
    exact hend _ _ _ _ _ h hP hD hS dX2_isMetBefore_41 (by decide)
  rw [mX2_isMetBefore] at h
  refine lv_aload_n hx hb dX2_isMetBefore_0 rfl (lv_at hl 0 rfl) ?_
  obtain ⟨kw1, hkw1⟩ := wA_w (cq := cq) (q := q) (S := S) (M := M) (o := o) hx0
  refine va_get (D := (dC, dI)) (ci := 3) (v := .int (x0.2 2)) (C := RX2) (T := TX2) (N := 5) hx hb hts hinX2 hown hK hP kw1 hkw1 rfl 2 (by decide) (hts (.fieldLink RX2 18 "CableTester$Fault" "place" "I") (mm 1 rfl)) (fun _ h9 => h9) rfl dX2_isMetBefore_1 ?_
  refine lv_aload_n hx hb dX2_isMetBefore_4 rfl (lv_at hl 1 rfl) ?_
  obtain ⟨kw2, hkw2⟩ := wA_w (cq := cq) (q := q) (S := S) (M := M) (o := o) hx1
  refine va_get (D := (dC, dI)) (ci := 3) (v := .int (x1.2 2)) (C := RX2) (T := TX2) (N := 5) hx hb hts hinX2 hown hK hP kw2 hkw2 rfl 2 (by decide) (hts (.fieldLink RX2 18 "CableTester$Fault" "place" "I") (mm 1 rfl)) (fun _ h9 => h9) rfl dX2_isMetBefore_5 ?_
  refine lv_icmp_lt (tgt := 36) hx hb dX2_isMetBefore_8 (by decide) (fun c3 => ?_) (fun c3 => ?_)
  · replace h := it c3 h
    exact hj36 _ _ _ hP hD hS (lv_sub hl [] rfl) h
  · replace h := ie c3 h
    refine lv_aload_n hx hb dX2_isMetBefore_11 rfl (lv_at hl 0 rfl) ?_
    obtain ⟨kw4, hkw4⟩ := wA_w (cq := cq) (q := q) (S := S) (M := M) (o := o) hx0
    refine va_get (D := (dC, dI)) (ci := 3) (v := .int (x0.2 2)) (C := RX2) (T := TX2) (N := 5) hx hb hts hinX2 hown hK hP kw4 hkw4 rfl 2 (by decide) (hts (.fieldLink RX2 18 "CableTester$Fault" "place" "I") (mm 1 rfl)) (fun _ h9 => h9) rfl dX2_isMetBefore_12 ?_
    refine lv_aload_n hx hb dX2_isMetBefore_15 rfl (lv_at hl 1 rfl) ?_
    obtain ⟨kw5, hkw5⟩ := wA_w (cq := cq) (q := q) (S := S) (M := M) (o := o) hx1
    refine va_get (D := (dC, dI)) (ci := 3) (v := .int (x1.2 2)) (C := RX2) (T := TX2) (N := 5) hx hb hts hinX2 hown hK hP kw5 hkw5 rfl 2 (by decide) (hts (.fieldLink RX2 18 "CableTester$Fault" "place" "I") (mm 1 rfl)) (fun _ h9 => h9) rfl dX2_isMetBefore_16 ?_
    refine lv_icmp_ne (tgt := 40) hx hb dX2_isMetBefore_19 (by decide) (fun c6 => ?_) (fun c6 => ?_)
    · replace h := ie c6 h
      refine lv_iconst (v := (0 : Int32)) hx hb dX2_isMetBefore_40 (by decide) ?_
      exact hend _ _ _ _ _ h hP hD hS dX2_isMetBefore_41 (by decide)
    · replace h := it c6 h
      refine lv_aload_n hx hb dX2_isMetBefore_22 rfl (lv_at hl 0 rfl) ?_
      obtain ⟨r7, e8, h⟩ := bo h
      obtain ⟨kw9, hkw9⟩ := wA_w (cq := cq) (q := q) (S := S) (M := M) (o := o) hx0
      refine caVR_i (As := []) (rest := []) (ctX2_isShort l dC dI cq q S M o _ _ _ hx0 _ e8) F (cwV 0 hts gX2_isMetBefore_X2_isShort rfl rfl rfl hdX2_isShort ⟨Nat.le_of_ble_eq_true rfl, Nat.le_of_ble_eq_true rfl⟩) hK hP hD hDm hS hA EV.blind (fun U hU hW => EV.call hX hS hDm hU hW) (va_recv hK hP (ci := 3) (q0 := kw9) rfl hkw9) rfl hl.1 rfl (Nat.le_of_ble_eq_true rfl) dX2_isMetBefore_23 ⟨Nat.zero_le _, Nat.zero_le _⟩ (fun H locs hP hD hS => ?_)
      refine lv_if_eq (tgt := 40) hx hb dX2_isMetBefore_26 (by decide) (fun c10 => ?_) (fun c10 => ?_)
      · replace h := it c10 h
        refine lv_iconst (v := (0 : Int32)) hx hb dX2_isMetBefore_40 (by decide) ?_
        exact hend _ _ _ _ _ h hP hD hS dX2_isMetBefore_41 (by decide)
      · replace h := ie c10 h
        refine lv_aload_n hx hb dX2_isMetBefore_29 rfl (lv_at hl 1 rfl) ?_
        obtain ⟨r11, e12, h⟩ := bo h
        obtain ⟨kw13, hkw13⟩ := wA_w (cq := cq) (q := q) (S := S) (M := M) (o := o) hx1
        refine caVR_i (As := []) (rest := []) (ctX2_isShort l dC dI cq q S M o _ _ _ hx1 _ e12) F (cwV 0 hts gX2_isMetBefore_X2_isShort rfl rfl rfl hdX2_isShort ⟨Nat.le_of_ble_eq_true rfl, Nat.le_of_ble_eq_true rfl⟩) hK hP hD hDm hS hA EV.blind (fun U hU hW => EV.call hX hS hDm hU hW) (va_recv hK hP (ci := 3) (q0 := kw13) rfl hkw13) rfl hl.1 rfl (Nat.le_of_ble_eq_true rfl) dX2_isMetBefore_30 ⟨Nat.zero_le _, Nat.zero_le _⟩ (fun H locs hP hD hS => ?_)
        refine lv_if_ne (tgt := 40) hx hb dX2_isMetBefore_33 (by decide) (fun c14 => ?_) (fun c14 => ?_)
        · replace h := ie c14 h
          refine lv_iconst (v := (0 : Int32)) hx hb dX2_isMetBefore_40 (by decide) ?_
          exact hend _ _ _ _ _ h hP hD hS dX2_isMetBefore_41 (by decide)
        · replace h := it c14 h
          exact hj36 _ _ _ hP hD hS (lv_sub hl [] rfl) h
def mX2_property (x0 : FT) (x1 : Int32) (x2 : Int32) : Option (Int32) :=
  (if x1 = (0 : Int32) then (bn (mX2_isShort x0) fun r2 => (if r2 = (0 : Int32) then (some (0 : Int32)) else (some (1 : Int32)))) else (if x1 = (1 : Int32) then (some (x0.2 0)) else (if x1 = (2 : Int32) then (some (x0.2 1)) else (if x1 = (3 : Int32) then (some (x0.2 2)) else (if x1 = (4 : Int32) then (some (x0.2 3)) else (if x1 = (5 : Int32) then (some (x0.2 4)) else (bn (mX2_isPresent x0 x2) fun r16 => (if r16 = (0 : Int32) then (some (0 : Int32)) else (some (1 : Int32))))))))))
abbrev rmX2_property : Room := { frames := 1, cells := 0, slots := 0, locals := 21 }
theorem hdX2_property : yX2_property.cls = RX2 ∧ yX2_property.cls ≠ "java/lang/invoke/MethodHandle" ∧ yX2_property.cls ≠ "java/lang/invoke/VarHandle" ∧ (parseMethodDescriptor yX2_property.desc).map (fun d => d.parameters.length) = some 2 := by decide +kernel
set_option maxRecDepth 100000 in
set_option maxHeartbeats 8000000 in
theorem ctX2_property (l : Launch) (dC : Nat → ClassId) (dI : Nat → Nat → Nat) (cq : Nat → ClassId) (q : Nat → Nat) (S : CS) (M : MS) (o : Nat → Int64) (sz : Nat) (h0 : Nat) (x0 : FT) (hx0 : x0 ∈ S.2.2.2.1) (x1 : Int32) (x2 : Int32) (rr : Int32) (h : mX2_property x0 x1 x2 = some rr) : CtR_i l yX2_property wsX2_property rmX2_property (fun a => h0 ≤ a) (EV h0 q) dC dI cq q S M o sz [.ref x0.1, .int x1, .int x2] rr := by
  refine enR_i (cc := cX2_property) (maxL := 3) (by decide) rfl (Nat.le_of_ble_eq_true rfl) (fun p e s m args below meth c A Q ls F hA hP hK hD hDm hX hS hl hend => ?_)
  obtain ⟨hx, hb, hml, hown, hts⟩ := id F
  have hown : s.vm.findClass RX2 = some m.cls := hown
  have F : CallFix p m c cX2_property 3 s args wsX2_property RX2 := F
  have hl : lv_has ls 3 [(0, .ref x0.1), (1, .int x1), (2, .int x2)] := hl
  have hinX2 : ∀ w ∈ u_ws RX2 TX2 5, w ∈ wsX2_property := fun w h => List.mem_cons_of_mem _ (List.mem_append_right _ h)
  rw [mX2_property] at h
  refine lv_iload_n hx hb dX2_property_0 rfl (lv_at hl 1 rfl) ?_
  by_cases c1 : x1 = (0 : Int32)
  · replace h := it c1 h
    refine lv_tableIn (tgt := 40) (off := 39) hx hb dX2_property_1 (by rw [c1]; decide) (by rw [c1]; decide) (by rw [c1]; decide) (by decide) ?_
    refine lv_aload_n hx hb dX2_property_40 rfl (lv_at hl 0 rfl) ?_
    obtain ⟨r2, e3, h⟩ := bo h
    obtain ⟨kw4, hkw4⟩ := wA_w (cq := cq) (q := q) (S := S) (M := M) (o := o) hx0
    refine caVR_i (As := []) (rest := []) (ctX2_isShort l dC dI cq q S M o _ _ _ hx0 _ e3) F (cwV 0 hts gX2_property_X2_isShort rfl rfl rfl hdX2_isShort ⟨Nat.le_of_ble_eq_true rfl, Nat.le_of_ble_eq_true rfl⟩) hK hP hD hDm hS hA EV.blind (fun U hU hW => EV.call hX hS hDm hU hW) (va_recv hK hP (ci := 3) (q0 := kw4) rfl hkw4) rfl hl.1 rfl (Nat.le_of_ble_eq_true rfl) dX2_property_41 ⟨Nat.zero_le _, Nat.zero_le _⟩ (fun H locs hP hD hS => ?_)
    refine lv_if_eq (tgt := 51) hx hb dX2_property_44 (by decide) (fun c5 => ?_) (fun c5 => ?_)
    · replace h := it c5 h
      refine lv_iconst (v := (0 : Int32)) hx hb dX2_property_51 (by decide) ?_
      exact hend _ _ _ _ _ h hP hD hS dX2_property_52
    · replace h := ie c5 h
      refine lv_iconst (v := (1 : Int32)) hx hb dX2_property_47 (by decide) ?_
      refine lv_goto (tgt := 52) hx hb dX2_property_48 (by decide) ?_
      exact hend _ _ _ _ _ h hP hD hS dX2_property_52
  replace h := ie c1 h
  by_cases c6 : x1 = (1 : Int32)
  · replace h := it c6 h
    refine lv_tableIn (tgt := 53) (off := 52) hx hb dX2_property_1 (by rw [c6]; decide) (by rw [c6]; decide) (by rw [c6]; decide) (by decide) ?_
    refine lv_aload_n hx hb dX2_property_53 rfl (lv_at hl 0 rfl) ?_
    obtain ⟨kw7, hkw7⟩ := wA_w (cq := cq) (q := q) (S := S) (M := M) (o := o) hx0
    refine va_get (D := (dC, dI)) (ci := 3) (v := .int (x0.2 0)) (C := RX2) (T := TX2) (N := 5) hx hb hts hinX2 hown hK hP kw7 hkw7 rfl 0 (by decide) (hts (.fieldLink RX2 9 "CableTester$Fault" "wire" "I") (mm 1 rfl)) (fun _ h9 => h9) rfl dX2_property_54 ?_
    exact hend _ _ _ _ _ h hP hD hS dX2_property_57
  replace h := ie c6 h
  by_cases c8 : x1 = (2 : Int32)
  · replace h := it c8 h
    refine lv_tableIn (tgt := 58) (off := 57) hx hb dX2_property_1 (by rw [c8]; decide) (by rw [c8]; decide) (by rw [c8]; decide) (by decide) ?_
    refine lv_aload_n hx hb dX2_property_58 rfl (lv_at hl 0 rfl) ?_
    obtain ⟨kw9, hkw9⟩ := wA_w (cq := cq) (q := q) (S := S) (M := M) (o := o) hx0
    refine va_get (D := (dC, dI)) (ci := 3) (v := .int (x0.2 1)) (C := RX2) (T := TX2) (N := 5) hx hb hts hinX2 hown hK hP kw9 hkw9 rfl 1 (by decide) (hts (.fieldLink RX2 15 "CableTester$Fault" "other" "I") (mm 2 rfl)) (fun _ h9 => h9) rfl dX2_property_59 ?_
    exact hend _ _ _ _ _ h hP hD hS dX2_property_62
  replace h := ie c8 h
  by_cases c10 : x1 = (3 : Int32)
  · replace h := it c10 h
    refine lv_tableIn (tgt := 63) (off := 62) hx hb dX2_property_1 (by rw [c10]; decide) (by rw [c10]; decide) (by rw [c10]; decide) (by decide) ?_
    refine lv_aload_n hx hb dX2_property_63 rfl (lv_at hl 0 rfl) ?_
    obtain ⟨kw11, hkw11⟩ := wA_w (cq := cq) (q := q) (S := S) (M := M) (o := o) hx0
    refine va_get (D := (dC, dI)) (ci := 3) (v := .int (x0.2 2)) (C := RX2) (T := TX2) (N := 5) hx hb hts hinX2 hown hK hP kw11 hkw11 rfl 2 (by decide) (hts (.fieldLink RX2 18 "CableTester$Fault" "place" "I") (mm 3 rfl)) (fun _ h9 => h9) rfl dX2_property_64 ?_
    exact hend _ _ _ _ _ h hP hD hS dX2_property_67
  replace h := ie c10 h
  by_cases c12 : x1 = (4 : Int32)
  · replace h := it c12 h
    refine lv_tableIn (tgt := 68) (off := 67) hx hb dX2_property_1 (by rw [c12]; decide) (by rw [c12]; decide) (by rw [c12]; decide) (by decide) ?_
    refine lv_aload_n hx hb dX2_property_68 rfl (lv_at hl 0 rfl) ?_
    obtain ⟨kw13, hkw13⟩ := wA_w (cq := cq) (q := q) (S := S) (M := M) (o := o) hx0
    refine va_get (D := (dC, dI)) (ci := 3) (v := .int (x0.2 3)) (C := RX2) (T := TX2) (N := 5) hx hb hts hinX2 hown hK hP kw13 hkw13 rfl 3 (by decide) (hts (.fieldLink RX2 21 "CableTester$Fault" "period" "I") (mm 4 rfl)) (fun _ h9 => h9) rfl dX2_property_69 ?_
    exact hend _ _ _ _ _ h hP hD hS dX2_property_72
  replace h := ie c12 h
  by_cases c14 : x1 = (5 : Int32)
  · replace h := it c14 h
    refine lv_tableIn (tgt := 73) (off := 72) hx hb dX2_property_1 (by rw [c14]; decide) (by rw [c14]; decide) (by rw [c14]; decide) (by decide) ?_
    refine lv_aload_n hx hb dX2_property_73 rfl (lv_at hl 0 rfl) ?_
    obtain ⟨kw15, hkw15⟩ := wA_w (cq := cq) (q := q) (S := S) (M := M) (o := o) hx0
    refine va_get (D := (dC, dI)) (ci := 3) (v := .int (x0.2 4)) (C := RX2) (T := TX2) (N := 5) hx hb hts hinX2 hown hK hP kw15 hkw15 rfl 4 (by decide) (hts (.fieldLink RX2 24 "CableTester$Fault" "duration" "I") (mm 5 rfl)) (fun _ h9 => h9) rfl dX2_property_74 ?_
    exact hend _ _ _ _ _ h hP hD hS dX2_property_77
  replace h := ie c14 h
  refine lv_tableOut (tgt := 78) hx hb dX2_property_1 (by have z0 := ne_i (n := 0) rfl c1; have z1 := ne_i (n := 1) rfl c6; have z2 := ne_i (n := 2) rfl c8; have z3 := ne_i (n := 3) rfl c10; have z4 := ne_i (n := 4) rfl c12; have z5 := ne_i (n := 5) rfl c14; omega) (by decide) ?_
  refine lv_aload_n hx hb dX2_property_78 rfl (lv_at hl 0 rfl) ?_
  refine lv_iload_n hx hb dX2_property_79 rfl (lv_at hl 2 rfl) ?_
  obtain ⟨r16, e17, h⟩ := bo h
  obtain ⟨kw18, hkw18⟩ := wA_w (cq := cq) (q := q) (S := S) (M := M) (o := o) hx0
  refine caVR_i (As := [.int x2]) (rest := []) (ctX2_isPresent l dC dI cq q S M o _ _ _ hx0 _ _ e17) F (cwV 1 hts gX2_property_X2_isPresent rfl rfl rfl hdX2_isPresent ⟨Nat.le_of_ble_eq_true rfl, Nat.le_of_ble_eq_true rfl⟩) hK hP hD hDm hS hA EV.blind (fun U hU hW => EV.call hX hS hDm hU hW) (va_recv hK hP (ci := 3) (q0 := kw18) rfl hkw18) rfl hl.1 rfl (Nat.le_of_ble_eq_true rfl) dX2_property_80 ⟨Nat.zero_le _, Nat.zero_le _⟩ (fun H locs hP hD hS => ?_)
  refine lv_if_eq (tgt := 90) hx hb dX2_property_83 (by decide) (fun c19 => ?_) (fun c19 => ?_)
  · replace h := it c19 h
    refine lv_iconst (v := (0 : Int32)) hx hb dX2_property_90 (by decide) ?_
    exact hend _ _ _ _ _ h hP hD hS dX2_property_91
  · replace h := ie c19 h
    refine lv_iconst (v := (1 : Int32)) hx hb dX2_property_86 (by decide) ?_
    refine lv_goto (tgt := 91) hx hb dX2_property_87 (by decide) ?_
    exact hend _ _ _ _ _ h hP hD hS dX2_property_91
def mX3_separate_4_2 (n : Nat)   : Nat → CS → Int32 → Option (CS)
  | 0, _, _ => none
  | k + 1, S, x1 => (if (4 : Int32) ≤ x1 then (some S) else (if inb x1 4 then (mX3_separate_4_2 n k (sA S 5 x1.toNatClampNeg x1) (x1 + (1 : Int32))) else none))
def mX3_separate_4 (n : Nat) (S : CS)  : Option (CS) :=
  (mX3_separate_4_2 n n S (0 : Int32))
abbrev rmX3_separate_4 : Room := { frames := 0, cells := 0, slots := 0, locals := 0 }
theorem hdX3_separate : yX3_separate.cls = RX3 ∧ yX3_separate.cls ≠ "java/lang/invoke/MethodHandle" ∧ yX3_separate.cls ≠ "java/lang/invoke/VarHandle" ∧ (parseMethodDescriptor yX3_separate.desc).map (fun d => d.parameters.length) = some 0 := by decide +kernel
set_option maxRecDepth 100000 in
set_option maxHeartbeats 8000000 in
theorem ctX3_separate_4 (l : Launch) (dC : Nat → ClassId) (dI : Nat → Nat → Nat) (cq : Nat → ClassId) (q : Nat → Nat) (S : CS) (M : MS) (o : Nat → Int64) (sz : Nat) (h0 : Nat) (n : Nat)  (SS : CS) (h : mX3_separate_4 n S = some SS) : CtC_v l yX3_separate wsX3_separate rmX3_separate_4 (fun a => h0 ≤ a) (EV h0 q) dC dI cq q S M o sz [.ref (q 4)] SS := by
  refine enC_v (cc := cX3_separate) (maxL := 2) (by decide) rfl (Nat.le_of_ble_eq_true rfl) (fun p e s m args below meth c A Q ls F hA hP hK hD hDm hX hS hl hend => ?_)
  obtain ⟨hx, hb, hml, hown, hts⟩ := id F
  have hown : s.vm.findClass RX3 = some m.cls := hown
  have F : CallFix p m c cX3_separate 2 s args wsX3_separate RX3 := F
  have hl : lv_has ls 2 [(0, .ref (q 4))] := hl
  have hinX3 : ∀ w ∈ u_ws RX3 TX3 1, w ∈ wsX3_separate := fun w h => List.mem_cons_of_mem _ (List.mem_append_right _ h)
  have hL2 : ∀   (k : Nat) (S : CS) (x1 : Int32) (H : Heap) (locs : List Loc) (ls : Array Slot), va_P (dC, dI) vwCl (wA cq q S M o) H → va_D A (wA cq q S M o) → va_S A s.heap H locs → lv_has ls 2 [(0, .ref (q 4)), (1, .int x1)] → mX3_separate_4_2 n k S x1 = some SS → W p l e rmX3_separate_4 s m args below meth c H locs 0 0 Q (F0 m 2 ls []) := by
    intro k
    induction k with
    | zero =>
      intro S x1 H locs ls hP hD hS hl h
      rw [mX3_separate_4_2] at h
      cases h
    | succ k ih =>
      intro S x1 H locs ls hP hD hS hl h
      rw [mX3_separate_4_2] at h
      refine lv_iload_n hx hb dX3_separate_2 rfl (lv_at hl 1 rfl) ?_
      refine lv_aload_n hx hb dX3_separate_3 rfl (lv_at hl 0 rfl) ?_
      refine va_get (D := (dC, dI)) (ci := 4) (v := .ref (q 5)) (C := RX3) (T := TX3) (N := 1) hx hb hts hinX3 hown hK hP 4 rfl rfl 0 (by decide) (hts (.fieldLink RX3 15 "CableTester$Groups" "groups" "[I") (mm 1 rfl)) (fun _ h9 => h9) rfl dX3_separate_4 ?_
      refine va_alen (D := (dC, dI)) hx hb hK hP 5 1 rfl rfl (v := (4 : Int32)) rfl dX3_separate_7 ?_
      refine lv_icmp_ge (tgt := 24) hx hb dX3_separate_8 (by decide) (fun c1 => ?_) (fun c1 => ?_)
      · replace h := it c1 h
        exact hend _ _ _ _ _ h hP hD hS dX3_separate_24
      · replace h := ie c1 h
        refine lv_aload_n hx hb dX3_separate_11 rfl (lv_at hl 0 rfl) ?_
        refine va_get (D := (dC, dI)) (ci := 4) (v := .ref (q 5)) (C := RX3) (T := TX3) (N := 1) hx hb hts hinX3 hown hK hP 4 rfl rfl 0 (by decide) (hts (.fieldLink RX3 15 "CableTester$Groups" "groups" "[I") (mm 1 rfl)) (fun _ h9 => h9) rfl dX3_separate_12 ?_
        refine lv_iload_n hx hb dX3_separate_15 rfl (lv_at hl 1 rfl) ?_
        refine lv_iload_n hx hb dX3_separate_16 rfl (lv_at hl 1 rfl) ?_
        obtain ⟨g2, h⟩ := gd h
        refine as_5 F hK hP hD hS (inb_ok g2) dX3_separate_17 (fun H locs hP hD hS => ?_)
        refine lv_iinc (v := (x1 + (1 : Int32))) (lv' := [(1, .int (x1 + (1 : Int32))), (0, .ref (q 4))]) hx hb dX3_separate_18 hl (k := 1) rfl rfl (by decide) rfl (fun ls hl => ?_)
        refine lv_goto (tgt := 2) hx hb dX3_separate_21 (by decide) ?_
        exact ih _ _ _ _ _ hP hD hS (lv_sub hl [1, 0] rfl) h
  rw [mX3_separate_4] at h
  refine lv_iconst (v := (0 : Int32)) hx hb dX3_separate_0 (by decide) ?_
  refine lv_istore_n (lv' := [(1, .int (0 : Int32)), (0, .ref (q 4))]) hx hb dX3_separate_1 rfl hl (by decide) rfl (fun ls hl => ?_)
  exact hL2 _ _ _ _ _ _ hP hD hS (lv_sub hl [1, 0] rfl) h
