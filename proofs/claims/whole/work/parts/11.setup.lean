def f_J6_bitCount_0f7a4 (v : Int32) : Int32 :=
  ((((((((v - (((v.toUInt32 >>> ((1 : Int32).toUInt32 &&& Int32.toUInt32 31)).toInt32) &&& (1431655765 : Int32))) &&& (858993459 : Int32)) + ((((v - (((v.toUInt32 >>> ((1 : Int32).toUInt32 &&& Int32.toUInt32 31)).toInt32) &&& (1431655765 : Int32))).toUInt32 >>> ((2 : Int32).toUInt32 &&& Int32.toUInt32 31)).toInt32) &&& (858993459 : Int32))) + (((((v - (((v.toUInt32 >>> ((1 : Int32).toUInt32 &&& Int32.toUInt32 31)).toInt32) &&& (1431655765 : Int32))) &&& (858993459 : Int32)) + ((((v - (((v.toUInt32 >>> ((1 : Int32).toUInt32 &&& Int32.toUInt32 31)).toInt32) &&& (1431655765 : Int32))).toUInt32 >>> ((2 : Int32).toUInt32 &&& Int32.toUInt32 31)).toInt32) &&& (858993459 : Int32))).toUInt32 >>> ((4 : Int32).toUInt32 &&& Int32.toUInt32 31)).toInt32)) &&& (252645135 : Int32)) + (((((((v - (((v.toUInt32 >>> ((1 : Int32).toUInt32 &&& Int32.toUInt32 31)).toInt32) &&& (1431655765 : Int32))) &&& (858993459 : Int32)) + ((((v - (((v.toUInt32 >>> ((1 : Int32).toUInt32 &&& Int32.toUInt32 31)).toInt32) &&& (1431655765 : Int32))).toUInt32 >>> ((2 : Int32).toUInt32 &&& Int32.toUInt32 31)).toInt32) &&& (858993459 : Int32))) + (((((v - (((v.toUInt32 >>> ((1 : Int32).toUInt32 &&& Int32.toUInt32 31)).toInt32) &&& (1431655765 : Int32))) &&& (858993459 : Int32)) + ((((v - (((v.toUInt32 >>> ((1 : Int32).toUInt32 &&& Int32.toUInt32 31)).toInt32) &&& (1431655765 : Int32))).toUInt32 >>> ((2 : Int32).toUInt32 &&& Int32.toUInt32 31)).toInt32) &&& (858993459 : Int32))).toUInt32 >>> ((4 : Int32).toUInt32 &&& Int32.toUInt32 31)).toInt32)) &&& (252645135 : Int32)).toUInt32 >>> ((8 : Int32).toUInt32 &&& Int32.toUInt32 31)).toInt32)) + ((((((((v - (((v.toUInt32 >>> ((1 : Int32).toUInt32 &&& Int32.toUInt32 31)).toInt32) &&& (1431655765 : Int32))) &&& (858993459 : Int32)) + ((((v - (((v.toUInt32 >>> ((1 : Int32).toUInt32 &&& Int32.toUInt32 31)).toInt32) &&& (1431655765 : Int32))).toUInt32 >>> ((2 : Int32).toUInt32 &&& Int32.toUInt32 31)).toInt32) &&& (858993459 : Int32))) + (((((v - (((v.toUInt32 >>> ((1 : Int32).toUInt32 &&& Int32.toUInt32 31)).toInt32) &&& (1431655765 : Int32))) &&& (858993459 : Int32)) + ((((v - (((v.toUInt32 >>> ((1 : Int32).toUInt32 &&& Int32.toUInt32 31)).toInt32) &&& (1431655765 : Int32))).toUInt32 >>> ((2 : Int32).toUInt32 &&& Int32.toUInt32 31)).toInt32) &&& (858993459 : Int32))).toUInt32 >>> ((4 : Int32).toUInt32 &&& Int32.toUInt32 31)).toInt32)) &&& (252645135 : Int32)) + (((((((v - (((v.toUInt32 >>> ((1 : Int32).toUInt32 &&& Int32.toUInt32 31)).toInt32) &&& (1431655765 : Int32))) &&& (858993459 : Int32)) + ((((v - (((v.toUInt32 >>> ((1 : Int32).toUInt32 &&& Int32.toUInt32 31)).toInt32) &&& (1431655765 : Int32))).toUInt32 >>> ((2 : Int32).toUInt32 &&& Int32.toUInt32 31)).toInt32) &&& (858993459 : Int32))) + (((((v - (((v.toUInt32 >>> ((1 : Int32).toUInt32 &&& Int32.toUInt32 31)).toInt32) &&& (1431655765 : Int32))) &&& (858993459 : Int32)) + ((((v - (((v.toUInt32 >>> ((1 : Int32).toUInt32 &&& Int32.toUInt32 31)).toInt32) &&& (1431655765 : Int32))).toUInt32 >>> ((2 : Int32).toUInt32 &&& Int32.toUInt32 31)).toInt32) &&& (858993459 : Int32))).toUInt32 >>> ((4 : Int32).toUInt32 &&& Int32.toUInt32 31)).toInt32)) &&& (252645135 : Int32)).toUInt32 >>> ((8 : Int32).toUInt32 &&& Int32.toUInt32 31)).toInt32)).toUInt32 >>> ((16 : Int32).toUInt32 &&& Int32.toUInt32 31)).toInt32)) &&& (63 : Int32))
set_option maxHeartbeats 4000000 in
set_option maxRecDepth 100000 in
theorem c_J6_bitCount_0f7a4 (l : Launch) (D : va_G) (cy : Nat → ClassId) (v : Int32) : RoI l D cy yJ6_bitCount_0f7a4 (.code yJ6_bitCount_0f7a4 cJ6_bitCount_0f7a4 1 (some .int)) 0 ([]) [.int v] (f_J6_bitCount_0f7a4 v) := by
  refine Met.ofW (cc := cJ6_bitCount_0f7a4) (maxL := 1) (ret := (some .int)) (by decide) rfl ?_
  intro pP eE s0 mM args below meth cC s₁ B hml hv
  obtain ⟨rfl, hP, hKX⟩ := hv
  have hx := B.exec
  have hb := B.bytes
  have hr := B.returns
  have hG := gw_hts (atoms_spec (ws := _) B.pre)
  have hown : s0.vm.findClass RJ6 = some mM.cls := findClass_of_methodNamed B.named
  have hlocks := B.notSynchronized
  have hl := lv_entry ([.int v]) (n := 1) (Nat.le_of_ble_eq_true rfl)
  rw [lg_entry_eq]
  generalize (lg_sl ([.int v]) ++ List.replicate (1 - (lg_sl ([.int v])).length) Slot.unset).toArray = ls at hl ⊢
  have hl : lv_has ls 1 [(0, .int v)] := hl
  refine lv_iload_n hx hb dJ6_bitCount_0f7a4_0 rfl (lv_at hl 0 rfl) ?_
  refine lv_iload_n hx hb dJ6_bitCount_0f7a4_1 rfl (lv_at hl 0 rfl) ?_
  refine lv_iconst (v := (1 : Int32)) hx hb dJ6_bitCount_0f7a4_2 (by decide) ?_
  refine lv_iushr (v := (v.toUInt32 >>> ((1 : Int32).toUInt32 &&& Int32.toUInt32 31)).toInt32) hx hb dJ6_bitCount_0f7a4_3 rfl ?_
  refine lv_ldcw (v := (1431655765 : Int32)) hx hb hown (hG _ mw13_21) dJ6_bitCount_0f7a4_4 ?_
  refine lv_iand hx hb dJ6_bitCount_0f7a4_7 ?_
  refine lv_isub hx hb dJ6_bitCount_0f7a4_8 ?_
  refine lv_istore_n (lv' := [(0, .int (v - (((v.toUInt32 >>> ((1 : Int32).toUInt32 &&& Int32.toUInt32 31)).toInt32) &&& (1431655765 : Int32))))]) hx hb dJ6_bitCount_0f7a4_9 rfl hl (by decide) rfl (fun ls hl => ?_)
  refine lv_iload_n hx hb dJ6_bitCount_0f7a4_10 rfl (lv_at hl 0 rfl) ?_
  refine lv_ldcw (v := (858993459 : Int32)) hx hb hown (hG _ mw13_22) dJ6_bitCount_0f7a4_11 ?_
  refine lv_iand hx hb dJ6_bitCount_0f7a4_14 ?_
  refine lv_iload_n hx hb dJ6_bitCount_0f7a4_15 rfl (lv_at hl 0 rfl) ?_
  refine lv_iconst (v := (2 : Int32)) hx hb dJ6_bitCount_0f7a4_16 (by decide) ?_
  refine lv_iushr (v := ((v - (((v.toUInt32 >>> ((1 : Int32).toUInt32 &&& Int32.toUInt32 31)).toInt32) &&& (1431655765 : Int32))).toUInt32 >>> ((2 : Int32).toUInt32 &&& Int32.toUInt32 31)).toInt32) hx hb dJ6_bitCount_0f7a4_17 rfl ?_
  refine lv_ldcw (v := (858993459 : Int32)) hx hb hown (hG _ mw13_22) dJ6_bitCount_0f7a4_18 ?_
  refine lv_iand hx hb dJ6_bitCount_0f7a4_21 ?_
  refine lv_iadd hx hb dJ6_bitCount_0f7a4_22 ?_
  refine lv_istore_n (lv' := [(0, .int (((v - (((v.toUInt32 >>> ((1 : Int32).toUInt32 &&& Int32.toUInt32 31)).toInt32) &&& (1431655765 : Int32))) &&& (858993459 : Int32)) + ((((v - (((v.toUInt32 >>> ((1 : Int32).toUInt32 &&& Int32.toUInt32 31)).toInt32) &&& (1431655765 : Int32))).toUInt32 >>> ((2 : Int32).toUInt32 &&& Int32.toUInt32 31)).toInt32) &&& (858993459 : Int32))))]) hx hb dJ6_bitCount_0f7a4_23 rfl hl (by decide) rfl (fun ls hl => ?_)
  refine lv_iload_n hx hb dJ6_bitCount_0f7a4_24 rfl (lv_at hl 0 rfl) ?_
  refine lv_iload_n hx hb dJ6_bitCount_0f7a4_25 rfl (lv_at hl 0 rfl) ?_
  refine lv_iconst (v := (4 : Int32)) hx hb dJ6_bitCount_0f7a4_26 (by decide) ?_
  refine lv_iushr (v := ((((v - (((v.toUInt32 >>> ((1 : Int32).toUInt32 &&& Int32.toUInt32 31)).toInt32) &&& (1431655765 : Int32))) &&& (858993459 : Int32)) + ((((v - (((v.toUInt32 >>> ((1 : Int32).toUInt32 &&& Int32.toUInt32 31)).toInt32) &&& (1431655765 : Int32))).toUInt32 >>> ((2 : Int32).toUInt32 &&& Int32.toUInt32 31)).toInt32) &&& (858993459 : Int32))).toUInt32 >>> ((4 : Int32).toUInt32 &&& Int32.toUInt32 31)).toInt32) hx hb dJ6_bitCount_0f7a4_27 rfl ?_
  refine lv_iadd hx hb dJ6_bitCount_0f7a4_28 ?_
  refine lv_ldcw (v := (252645135 : Int32)) hx hb hown (hG _ mw13_23) dJ6_bitCount_0f7a4_29 ?_
  refine lv_iand hx hb dJ6_bitCount_0f7a4_32 ?_
  refine lv_istore_n (lv' := [(0, .int (((((v - (((v.toUInt32 >>> ((1 : Int32).toUInt32 &&& Int32.toUInt32 31)).toInt32) &&& (1431655765 : Int32))) &&& (858993459 : Int32)) + ((((v - (((v.toUInt32 >>> ((1 : Int32).toUInt32 &&& Int32.toUInt32 31)).toInt32) &&& (1431655765 : Int32))).toUInt32 >>> ((2 : Int32).toUInt32 &&& Int32.toUInt32 31)).toInt32) &&& (858993459 : Int32))) + (((((v - (((v.toUInt32 >>> ((1 : Int32).toUInt32 &&& Int32.toUInt32 31)).toInt32) &&& (1431655765 : Int32))) &&& (858993459 : Int32)) + ((((v - (((v.toUInt32 >>> ((1 : Int32).toUInt32 &&& Int32.toUInt32 31)).toInt32) &&& (1431655765 : Int32))).toUInt32 >>> ((2 : Int32).toUInt32 &&& Int32.toUInt32 31)).toInt32) &&& (858993459 : Int32))).toUInt32 >>> ((4 : Int32).toUInt32 &&& Int32.toUInt32 31)).toInt32)) &&& (252645135 : Int32)))]) hx hb dJ6_bitCount_0f7a4_33 rfl hl (by decide) rfl (fun ls hl => ?_)
  refine lv_iload_n hx hb dJ6_bitCount_0f7a4_34 rfl (lv_at hl 0 rfl) ?_
  refine lv_iload_n hx hb dJ6_bitCount_0f7a4_35 rfl (lv_at hl 0 rfl) ?_
  refine lv_bipush (v := (8 : Int32)) hx hb dJ6_bitCount_0f7a4_36 (by decide) ?_
  refine lv_iushr (v := ((((((v - (((v.toUInt32 >>> ((1 : Int32).toUInt32 &&& Int32.toUInt32 31)).toInt32) &&& (1431655765 : Int32))) &&& (858993459 : Int32)) + ((((v - (((v.toUInt32 >>> ((1 : Int32).toUInt32 &&& Int32.toUInt32 31)).toInt32) &&& (1431655765 : Int32))).toUInt32 >>> ((2 : Int32).toUInt32 &&& Int32.toUInt32 31)).toInt32) &&& (858993459 : Int32))) + (((((v - (((v.toUInt32 >>> ((1 : Int32).toUInt32 &&& Int32.toUInt32 31)).toInt32) &&& (1431655765 : Int32))) &&& (858993459 : Int32)) + ((((v - (((v.toUInt32 >>> ((1 : Int32).toUInt32 &&& Int32.toUInt32 31)).toInt32) &&& (1431655765 : Int32))).toUInt32 >>> ((2 : Int32).toUInt32 &&& Int32.toUInt32 31)).toInt32) &&& (858993459 : Int32))).toUInt32 >>> ((4 : Int32).toUInt32 &&& Int32.toUInt32 31)).toInt32)) &&& (252645135 : Int32)).toUInt32 >>> ((8 : Int32).toUInt32 &&& Int32.toUInt32 31)).toInt32) hx hb dJ6_bitCount_0f7a4_38 rfl ?_
  refine lv_iadd hx hb dJ6_bitCount_0f7a4_39 ?_
  refine lv_istore_n (lv' := [(0, .int ((((((v - (((v.toUInt32 >>> ((1 : Int32).toUInt32 &&& Int32.toUInt32 31)).toInt32) &&& (1431655765 : Int32))) &&& (858993459 : Int32)) + ((((v - (((v.toUInt32 >>> ((1 : Int32).toUInt32 &&& Int32.toUInt32 31)).toInt32) &&& (1431655765 : Int32))).toUInt32 >>> ((2 : Int32).toUInt32 &&& Int32.toUInt32 31)).toInt32) &&& (858993459 : Int32))) + (((((v - (((v.toUInt32 >>> ((1 : Int32).toUInt32 &&& Int32.toUInt32 31)).toInt32) &&& (1431655765 : Int32))) &&& (858993459 : Int32)) + ((((v - (((v.toUInt32 >>> ((1 : Int32).toUInt32 &&& Int32.toUInt32 31)).toInt32) &&& (1431655765 : Int32))).toUInt32 >>> ((2 : Int32).toUInt32 &&& Int32.toUInt32 31)).toInt32) &&& (858993459 : Int32))).toUInt32 >>> ((4 : Int32).toUInt32 &&& Int32.toUInt32 31)).toInt32)) &&& (252645135 : Int32)) + (((((((v - (((v.toUInt32 >>> ((1 : Int32).toUInt32 &&& Int32.toUInt32 31)).toInt32) &&& (1431655765 : Int32))) &&& (858993459 : Int32)) + ((((v - (((v.toUInt32 >>> ((1 : Int32).toUInt32 &&& Int32.toUInt32 31)).toInt32) &&& (1431655765 : Int32))).toUInt32 >>> ((2 : Int32).toUInt32 &&& Int32.toUInt32 31)).toInt32) &&& (858993459 : Int32))) + (((((v - (((v.toUInt32 >>> ((1 : Int32).toUInt32 &&& Int32.toUInt32 31)).toInt32) &&& (1431655765 : Int32))) &&& (858993459 : Int32)) + ((((v - (((v.toUInt32 >>> ((1 : Int32).toUInt32 &&& Int32.toUInt32 31)).toInt32) &&& (1431655765 : Int32))).toUInt32 >>> ((2 : Int32).toUInt32 &&& Int32.toUInt32 31)).toInt32) &&& (858993459 : Int32))).toUInt32 >>> ((4 : Int32).toUInt32 &&& Int32.toUInt32 31)).toInt32)) &&& (252645135 : Int32)).toUInt32 >>> ((8 : Int32).toUInt32 &&& Int32.toUInt32 31)).toInt32)))]) hx hb dJ6_bitCount_0f7a4_40 rfl hl (by decide) rfl (fun ls hl => ?_)
  refine lv_iload_n hx hb dJ6_bitCount_0f7a4_41 rfl (lv_at hl 0 rfl) ?_
  refine lv_iload_n hx hb dJ6_bitCount_0f7a4_42 rfl (lv_at hl 0 rfl) ?_
  refine lv_bipush (v := (16 : Int32)) hx hb dJ6_bitCount_0f7a4_43 (by decide) ?_
  refine lv_iushr (v := (((((((v - (((v.toUInt32 >>> ((1 : Int32).toUInt32 &&& Int32.toUInt32 31)).toInt32) &&& (1431655765 : Int32))) &&& (858993459 : Int32)) + ((((v - (((v.toUInt32 >>> ((1 : Int32).toUInt32 &&& Int32.toUInt32 31)).toInt32) &&& (1431655765 : Int32))).toUInt32 >>> ((2 : Int32).toUInt32 &&& Int32.toUInt32 31)).toInt32) &&& (858993459 : Int32))) + (((((v - (((v.toUInt32 >>> ((1 : Int32).toUInt32 &&& Int32.toUInt32 31)).toInt32) &&& (1431655765 : Int32))) &&& (858993459 : Int32)) + ((((v - (((v.toUInt32 >>> ((1 : Int32).toUInt32 &&& Int32.toUInt32 31)).toInt32) &&& (1431655765 : Int32))).toUInt32 >>> ((2 : Int32).toUInt32 &&& Int32.toUInt32 31)).toInt32) &&& (858993459 : Int32))).toUInt32 >>> ((4 : Int32).toUInt32 &&& Int32.toUInt32 31)).toInt32)) &&& (252645135 : Int32)) + (((((((v - (((v.toUInt32 >>> ((1 : Int32).toUInt32 &&& Int32.toUInt32 31)).toInt32) &&& (1431655765 : Int32))) &&& (858993459 : Int32)) + ((((v - (((v.toUInt32 >>> ((1 : Int32).toUInt32 &&& Int32.toUInt32 31)).toInt32) &&& (1431655765 : Int32))).toUInt32 >>> ((2 : Int32).toUInt32 &&& Int32.toUInt32 31)).toInt32) &&& (858993459 : Int32))) + (((((v - (((v.toUInt32 >>> ((1 : Int32).toUInt32 &&& Int32.toUInt32 31)).toInt32) &&& (1431655765 : Int32))) &&& (858993459 : Int32)) + ((((v - (((v.toUInt32 >>> ((1 : Int32).toUInt32 &&& Int32.toUInt32 31)).toInt32) &&& (1431655765 : Int32))).toUInt32 >>> ((2 : Int32).toUInt32 &&& Int32.toUInt32 31)).toInt32) &&& (858993459 : Int32))).toUInt32 >>> ((4 : Int32).toUInt32 &&& Int32.toUInt32 31)).toInt32)) &&& (252645135 : Int32)).toUInt32 >>> ((8 : Int32).toUInt32 &&& Int32.toUInt32 31)).toInt32)).toUInt32 >>> ((16 : Int32).toUInt32 &&& Int32.toUInt32 31)).toInt32) hx hb dJ6_bitCount_0f7a4_45 rfl ?_
  refine lv_iadd hx hb dJ6_bitCount_0f7a4_46 ?_
  refine lv_istore_n (lv' := [(0, .int (((((((v - (((v.toUInt32 >>> ((1 : Int32).toUInt32 &&& Int32.toUInt32 31)).toInt32) &&& (1431655765 : Int32))) &&& (858993459 : Int32)) + ((((v - (((v.toUInt32 >>> ((1 : Int32).toUInt32 &&& Int32.toUInt32 31)).toInt32) &&& (1431655765 : Int32))).toUInt32 >>> ((2 : Int32).toUInt32 &&& Int32.toUInt32 31)).toInt32) &&& (858993459 : Int32))) + (((((v - (((v.toUInt32 >>> ((1 : Int32).toUInt32 &&& Int32.toUInt32 31)).toInt32) &&& (1431655765 : Int32))) &&& (858993459 : Int32)) + ((((v - (((v.toUInt32 >>> ((1 : Int32).toUInt32 &&& Int32.toUInt32 31)).toInt32) &&& (1431655765 : Int32))).toUInt32 >>> ((2 : Int32).toUInt32 &&& Int32.toUInt32 31)).toInt32) &&& (858993459 : Int32))).toUInt32 >>> ((4 : Int32).toUInt32 &&& Int32.toUInt32 31)).toInt32)) &&& (252645135 : Int32)) + (((((((v - (((v.toUInt32 >>> ((1 : Int32).toUInt32 &&& Int32.toUInt32 31)).toInt32) &&& (1431655765 : Int32))) &&& (858993459 : Int32)) + ((((v - (((v.toUInt32 >>> ((1 : Int32).toUInt32 &&& Int32.toUInt32 31)).toInt32) &&& (1431655765 : Int32))).toUInt32 >>> ((2 : Int32).toUInt32 &&& Int32.toUInt32 31)).toInt32) &&& (858993459 : Int32))) + (((((v - (((v.toUInt32 >>> ((1 : Int32).toUInt32 &&& Int32.toUInt32 31)).toInt32) &&& (1431655765 : Int32))) &&& (858993459 : Int32)) + ((((v - (((v.toUInt32 >>> ((1 : Int32).toUInt32 &&& Int32.toUInt32 31)).toInt32) &&& (1431655765 : Int32))).toUInt32 >>> ((2 : Int32).toUInt32 &&& Int32.toUInt32 31)).toInt32) &&& (858993459 : Int32))).toUInt32 >>> ((4 : Int32).toUInt32 &&& Int32.toUInt32 31)).toInt32)) &&& (252645135 : Int32)).toUInt32 >>> ((8 : Int32).toUInt32 &&& Int32.toUInt32 31)).toInt32)) + ((((((((v - (((v.toUInt32 >>> ((1 : Int32).toUInt32 &&& Int32.toUInt32 31)).toInt32) &&& (1431655765 : Int32))) &&& (858993459 : Int32)) + ((((v - (((v.toUInt32 >>> ((1 : Int32).toUInt32 &&& Int32.toUInt32 31)).toInt32) &&& (1431655765 : Int32))).toUInt32 >>> ((2 : Int32).toUInt32 &&& Int32.toUInt32 31)).toInt32) &&& (858993459 : Int32))) + (((((v - (((v.toUInt32 >>> ((1 : Int32).toUInt32 &&& Int32.toUInt32 31)).toInt32) &&& (1431655765 : Int32))) &&& (858993459 : Int32)) + ((((v - (((v.toUInt32 >>> ((1 : Int32).toUInt32 &&& Int32.toUInt32 31)).toInt32) &&& (1431655765 : Int32))).toUInt32 >>> ((2 : Int32).toUInt32 &&& Int32.toUInt32 31)).toInt32) &&& (858993459 : Int32))).toUInt32 >>> ((4 : Int32).toUInt32 &&& Int32.toUInt32 31)).toInt32)) &&& (252645135 : Int32)) + (((((((v - (((v.toUInt32 >>> ((1 : Int32).toUInt32 &&& Int32.toUInt32 31)).toInt32) &&& (1431655765 : Int32))) &&& (858993459 : Int32)) + ((((v - (((v.toUInt32 >>> ((1 : Int32).toUInt32 &&& Int32.toUInt32 31)).toInt32) &&& (1431655765 : Int32))).toUInt32 >>> ((2 : Int32).toUInt32 &&& Int32.toUInt32 31)).toInt32) &&& (858993459 : Int32))) + (((((v - (((v.toUInt32 >>> ((1 : Int32).toUInt32 &&& Int32.toUInt32 31)).toInt32) &&& (1431655765 : Int32))) &&& (858993459 : Int32)) + ((((v - (((v.toUInt32 >>> ((1 : Int32).toUInt32 &&& Int32.toUInt32 31)).toInt32) &&& (1431655765 : Int32))).toUInt32 >>> ((2 : Int32).toUInt32 &&& Int32.toUInt32 31)).toInt32) &&& (858993459 : Int32))).toUInt32 >>> ((4 : Int32).toUInt32 &&& Int32.toUInt32 31)).toInt32)) &&& (252645135 : Int32)).toUInt32 >>> ((8 : Int32).toUInt32 &&& Int32.toUInt32 31)).toInt32)).toUInt32 >>> ((16 : Int32).toUInt32 &&& Int32.toUInt32 31)).toInt32)))]) hx hb dJ6_bitCount_0f7a4_47 rfl hl (by decide) rfl (fun ls hl => ?_)
  refine lv_iload_n hx hb dJ6_bitCount_0f7a4_48 rfl (lv_at hl 0 rfl) ?_
  refine lv_bipush (v := (63 : Int32)) hx hb dJ6_bitCount_0f7a4_49 (by decide) ?_
  refine lv_iand hx hb dJ6_bitCount_0f7a4_51 ?_
  exact W.iret (v := ((((((((v - (((v.toUInt32 >>> ((1 : Int32).toUInt32 &&& Int32.toUInt32 31)).toInt32) &&& (1431655765 : Int32))) &&& (858993459 : Int32)) + ((((v - (((v.toUInt32 >>> ((1 : Int32).toUInt32 &&& Int32.toUInt32 31)).toInt32) &&& (1431655765 : Int32))).toUInt32 >>> ((2 : Int32).toUInt32 &&& Int32.toUInt32 31)).toInt32) &&& (858993459 : Int32))) + (((((v - (((v.toUInt32 >>> ((1 : Int32).toUInt32 &&& Int32.toUInt32 31)).toInt32) &&& (1431655765 : Int32))) &&& (858993459 : Int32)) + ((((v - (((v.toUInt32 >>> ((1 : Int32).toUInt32 &&& Int32.toUInt32 31)).toInt32) &&& (1431655765 : Int32))).toUInt32 >>> ((2 : Int32).toUInt32 &&& Int32.toUInt32 31)).toInt32) &&& (858993459 : Int32))).toUInt32 >>> ((4 : Int32).toUInt32 &&& Int32.toUInt32 31)).toInt32)) &&& (252645135 : Int32)) + (((((((v - (((v.toUInt32 >>> ((1 : Int32).toUInt32 &&& Int32.toUInt32 31)).toInt32) &&& (1431655765 : Int32))) &&& (858993459 : Int32)) + ((((v - (((v.toUInt32 >>> ((1 : Int32).toUInt32 &&& Int32.toUInt32 31)).toInt32) &&& (1431655765 : Int32))).toUInt32 >>> ((2 : Int32).toUInt32 &&& Int32.toUInt32 31)).toInt32) &&& (858993459 : Int32))) + (((((v - (((v.toUInt32 >>> ((1 : Int32).toUInt32 &&& Int32.toUInt32 31)).toInt32) &&& (1431655765 : Int32))) &&& (858993459 : Int32)) + ((((v - (((v.toUInt32 >>> ((1 : Int32).toUInt32 &&& Int32.toUInt32 31)).toInt32) &&& (1431655765 : Int32))).toUInt32 >>> ((2 : Int32).toUInt32 &&& Int32.toUInt32 31)).toInt32) &&& (858993459 : Int32))).toUInt32 >>> ((4 : Int32).toUInt32 &&& Int32.toUInt32 31)).toInt32)) &&& (252645135 : Int32)).toUInt32 >>> ((8 : Int32).toUInt32 &&& Int32.toUInt32 31)).toInt32)) + ((((((((v - (((v.toUInt32 >>> ((1 : Int32).toUInt32 &&& Int32.toUInt32 31)).toInt32) &&& (1431655765 : Int32))) &&& (858993459 : Int32)) + ((((v - (((v.toUInt32 >>> ((1 : Int32).toUInt32 &&& Int32.toUInt32 31)).toInt32) &&& (1431655765 : Int32))).toUInt32 >>> ((2 : Int32).toUInt32 &&& Int32.toUInt32 31)).toInt32) &&& (858993459 : Int32))) + (((((v - (((v.toUInt32 >>> ((1 : Int32).toUInt32 &&& Int32.toUInt32 31)).toInt32) &&& (1431655765 : Int32))) &&& (858993459 : Int32)) + ((((v - (((v.toUInt32 >>> ((1 : Int32).toUInt32 &&& Int32.toUInt32 31)).toInt32) &&& (1431655765 : Int32))).toUInt32 >>> ((2 : Int32).toUInt32 &&& Int32.toUInt32 31)).toInt32) &&& (858993459 : Int32))).toUInt32 >>> ((4 : Int32).toUInt32 &&& Int32.toUInt32 31)).toInt32)) &&& (252645135 : Int32)) + (((((((v - (((v.toUInt32 >>> ((1 : Int32).toUInt32 &&& Int32.toUInt32 31)).toInt32) &&& (1431655765 : Int32))) &&& (858993459 : Int32)) + ((((v - (((v.toUInt32 >>> ((1 : Int32).toUInt32 &&& Int32.toUInt32 31)).toInt32) &&& (1431655765 : Int32))).toUInt32 >>> ((2 : Int32).toUInt32 &&& Int32.toUInt32 31)).toInt32) &&& (858993459 : Int32))) + (((((v - (((v.toUInt32 >>> ((1 : Int32).toUInt32 &&& Int32.toUInt32 31)).toInt32) &&& (1431655765 : Int32))) &&& (858993459 : Int32)) + ((((v - (((v.toUInt32 >>> ((1 : Int32).toUInt32 &&& Int32.toUInt32 31)).toInt32) &&& (1431655765 : Int32))).toUInt32 >>> ((2 : Int32).toUInt32 &&& Int32.toUInt32 31)).toInt32) &&& (858993459 : Int32))).toUInt32 >>> ((4 : Int32).toUInt32 &&& Int32.toUInt32 31)).toInt32)) &&& (252645135 : Int32)).toUInt32 >>> ((8 : Int32).toUInt32 &&& Int32.toUInt32 31)).toInt32)).toUInt32 >>> ((16 : Int32).toUInt32 &&& Int32.toUInt32 31)).toInt32)) &&& (63 : Int32))) hx hb hr (fun t ht hW => ⟨_, rfl, by unfold f_J6_bitCount_0f7a4; rfl, ht⟩) (fun q hq => by cases hq) dJ6_bitCount_0f7a4_52
def f_X6_has (bits : Int32) (c : Int32) : Int32 :=
  if ((bits >>> (c &&& 31)) &&& (1 : Int32)) = (0 : Int32) then (0 : Int32) else (1 : Int32)
set_option maxHeartbeats 4000000 in
set_option maxRecDepth 100000 in
theorem c_X6_has (l : Launch) (D : va_G) (cy : Nat → ClassId) (bits : Int32) (c : Int32) : RoI l D cy yX6_has (.code yX6_has cX6_has 2 (some .boolean)) 0 ([]) [.int bits, .int c] (f_X6_has bits c) := by
  refine Met.ofW (cc := cX6_has) (maxL := 2) (ret := (some .boolean)) (by decide) rfl ?_
  intro pP eE s0 mM args below meth cC s₁ B hml hv
  obtain ⟨rfl, hP, hKX⟩ := hv
  have hx := B.exec
  have hb := B.bytes
  have hr := B.returns
  have hG := gw_hts (atoms_spec (ws := _) B.pre)
  have hown : s0.vm.findClass RX6 = some mM.cls := findClass_of_methodNamed B.named
  have hlocks := B.notSynchronized
  have hl := lv_entry ([.int bits, .int c]) (n := 2) (Nat.le_of_ble_eq_true rfl)
  rw [lg_entry_eq]
  generalize (lg_sl ([.int bits, .int c]) ++ List.replicate (2 - (lg_sl ([.int bits, .int c])).length) Slot.unset).toArray = ls at hl ⊢
  have hl : lv_has ls 2 [(0, .int bits), (1, .int c)] := hl
  refine lv_iload_n hx hb dX6_has_0 rfl (lv_at hl 0 rfl) ?_
  refine lv_iload_n hx hb dX6_has_1 rfl (lv_at hl 1 rfl) ?_
  refine lv_ishr hx hb dX6_has_2 ?_
  refine lv_iconst (v := (1 : Int32)) hx hb dX6_has_3 (by decide) ?_
  refine lv_iand hx hb dX6_has_4 ?_
  refine lv_if_eq (tgt := 12) hx hb dX6_has_5 (by decide) (fun c1 => ?_) (fun c1 => ?_)
  · refine lv_iconst (v := (0 : Int32)) hx hb dX6_has_12 (by decide) ?_
    exact W.zret (v := (0 : Int32)) hx hb hr rfl (fun t ht hW => ⟨_, rfl, by unfold f_X6_has; rw [if_pos c1] <;> rfl, ht⟩) (fun q hq => by cases hq) dX6_has_13
  · refine lv_iconst (v := (1 : Int32)) hx hb dX6_has_8 (by decide) ?_
    refine lv_goto (tgt := 13) hx hb dX6_has_9 (by decide) ?_
    exact W.zret (v := (1 : Int32)) hx hb hr rfl (fun t ht hW => ⟨_, rfl, by unfold f_X6_has; rw [if_neg c1] <;> rfl, ht⟩) (fun q hq => by cases hq) dX6_has_13
def f_X3_isContract (os_size : Int32) (c : Int32) : Int32 :=
  if c < (0 : Int32) then (0 : Int32) else (if os_size ≤ c then (0 : Int32) else (1 : Int32))
set_option maxHeartbeats 4000000 in
set_option maxRecDepth 100000 in
theorem c_X3_isContract (l : Launch) (D : va_G) (cy : Nat → ClassId) (os : Nat → Nat) (os_kind : Nat → Int32) (os_limit : Nat → Int32) (os_retention : Nat → Int32) (os_quota : Nat → Int32) (os_refers : Nat → Int32) (os_size : Int32) (os_lossNow : Int32) (c : Int32) : RoI l D cy yX3_isContract (.code yX3_isContract cX3_isContract 2 (some .boolean)) 0 (wX3 cy os os_kind os_limit os_retention os_quota os_refers os_size os_lossNow) [.ref (os 0), .int c] (f_X3_isContract os_size c) := by
  refine Met.ofW (cc := cX3_isContract) (maxL := 2) (ret := (some .boolean)) (by decide) rfl ?_
  intro pP eE s0 mM args below meth cC s₁ B hml hv
  obtain ⟨rfl, hP, hKX⟩ := hv
  have hx := B.exec
  have hb := B.bytes
  have hr := B.returns
  have hG := gw_hts (atoms_spec (ws := _) B.pre)
  have hown : s0.vm.findClass RX3 = some mM.cls := findClass_of_methodNamed B.named
  have hlocks := B.notSynchronized
  have hl := lv_entry ([.ref (os 0), .int c]) (n := 2) (Nat.le_of_ble_eq_true rfl)
  rw [lg_entry_eq]
  generalize (lg_sl ([.ref (os 0), .int c]) ++ List.replicate (2 - (lg_sl ([.ref (os 0), .int c])).length) Slot.unset).toArray = ls at hl ⊢
  have hl : lv_has ls 2 [(0, .ref (os 0)), (1, .int c)] := hl
  refine lv_iload_n hx hb dX3_isContract_0 rfl (lv_at hl 1 rfl) ?_
  refine lv_if_lt (tgt := 16) hx hb dX3_isContract_1 (by decide) (fun c1 => ?_) (fun c1 => ?_)
  · refine lv_iconst (v := (0 : Int32)) hx hb dX3_isContract_16 (by decide) ?_
    exact W.zret (v := (0 : Int32)) hx hb hr rfl (fun t ht hW => ⟨_, rfl, by unfold f_X3_isContract; rw [if_pos c1] <;> rfl, ht⟩) (fun q hq => by cases hq) dX3_isContract_17
  · refine lv_iload_n hx hb dX3_isContract_4 rfl (lv_at hl 1 rfl) ?_
    refine lv_aload_n hx hb dX3_isContract_5 rfl (lv_at hl 0 rfl) ?_
    refine gf_X3_27 hx hb hG hown hKX hP 0 rfl rfl dX3_isContract_6 ?_
    refine lv_icmp_ge (tgt := 16) hx hb dX3_isContract_9 (by decide) (fun c2 => ?_) (fun c2 => ?_)
    · refine lv_iconst (v := (0 : Int32)) hx hb dX3_isContract_16 (by decide) ?_
      exact W.zret (v := (0 : Int32)) hx hb hr rfl (fun t ht hW => ⟨_, rfl, by unfold f_X3_isContract; rw [if_neg c1, if_pos c2] <;> rfl, ht⟩) (fun q hq => by cases hq) dX3_isContract_17
    · refine lv_iconst (v := (1 : Int32)) hx hb dX3_isContract_12 (by decide) ?_
      refine lv_goto (tgt := 17) hx hb dX3_isContract_13 (by decide) ?_
      exact W.zret (v := (1 : Int32)) hx hb hr rfl (fun t ht hW => ⟨_, rfl, by unfold f_X3_isContract; rw [if_neg c1, if_neg c2] <;> rfl, ht⟩) (fun q hq => by cases hq) dX3_isContract_17
theorem isC_of {n : Nat} {c : Int32} (hn : n < 2 ^ 31) (h : ¬ f_X3_isContract (nI n) c = 0) : ∃ j, c.toNatClampNeg = j ∧ j < n ∧ c = nI j := by
  unfold f_X3_isContract at h
  by_cases h1 : c < 0
  · rw [if_pos h1] at h; exact absurd rfl h
  · rw [if_neg h1] at h
    by_cases h2 : nI n ≤ c
    · rw [if_pos h2] at h; exact absurd rfl h
    · exact in_of hn h1 h2
theorem isC_lt {n k : Nat} (hn : n < 2 ^ 31) (hk : k < 2 ^ 31) (h : ¬ f_X3_isContract (nI n) (nI k) = 0) : k < n := by
  obtain ⟨j, h1, h2, -⟩ := isC_of hn h
  rw [nI_clamp hk] at h1
  omega
def f_X3_isTerm (what : Int32) (v : Int32) : Int32 :=
  if what = (0 : Int32) then (if v < (0 : Int32) then (0 : Int32) else (if (3 : Int32) < v then (0 : Int32) else (1 : Int32))) else (if what = (1 : Int32) then (if v < (0 : Int32) then (0 : Int32) else (if (99 : Int32) < v then (0 : Int32) else (1 : Int32))) else (if what = (2 : Int32) then (if v < (0 : Int32) then (0 : Int32) else (if (20 : Int32) < v then (0 : Int32) else (1 : Int32))) else (if what = (3 : Int32) then (if v < (1 : Int32) then (0 : Int32) else (if (100 : Int32) < v then (0 : Int32) else (1 : Int32))) else (0 : Int32))))
set_option maxHeartbeats 4000000 in
set_option maxRecDepth 100000 in
theorem c_X3_isTerm (l : Launch) (D : va_G) (cy : Nat → ClassId) (what : Int32) (v : Int32) : RoI l D cy yX3_isTerm (.code yX3_isTerm cX3_isTerm 2 (some .boolean)) 0 ([]) [.int what, .int v] (f_X3_isTerm what v) := by
  refine Met.ofW (cc := cX3_isTerm) (maxL := 2) (ret := (some .boolean)) (by decide) rfl ?_
  intro pP eE s0 mM args below meth cC s₁ B hml hv
  obtain ⟨rfl, hP, hKX⟩ := hv
  have hx := B.exec
  have hb := B.bytes
  have hr := B.returns
  have hG := gw_hts (atoms_spec (ws := _) B.pre)
  have hown : s0.vm.findClass RX3 = some mM.cls := findClass_of_methodNamed B.named
  have hlocks := B.notSynchronized
  have hl := lv_entry ([.int what, .int v]) (n := 2) (Nat.le_of_ble_eq_true rfl)
  rw [lg_entry_eq]
  generalize (lg_sl ([.int what, .int v]) ++ List.replicate (2 - (lg_sl ([.int what, .int v])).length) Slot.unset).toArray = ls at hl ⊢
  have hl : lv_has ls 2 [(0, .int what), (1, .int v)] := hl
  refine lv_iload_n hx hb dX3_isTerm_0 rfl (lv_at hl 0 rfl) ?_
  by_cases c1 : what = (0 : Int32)
  · refine lv_tableIn (tgt := 32) hx hb dX3_isTerm_1 (by rw [c1]; decide) (by rw [c1]; decide) (by rw [c1]; rfl) (by decide) ?_
    refine lv_iload_n hx hb dX3_isTerm_32 rfl (lv_at hl 1 rfl) ?_
    refine lv_if_lt (tgt := 45) hx hb dX3_isTerm_33 (by decide) (fun c2 => ?_) (fun c2 => ?_)
    · refine lv_iconst (v := (0 : Int32)) hx hb dX3_isTerm_45 (by decide) ?_
      exact W.zret (v := (0 : Int32)) hx hb hr rfl (fun t ht hW => ⟨_, rfl, by unfold f_X3_isTerm; rw [if_pos c1, if_pos c2] <;> rfl, ht⟩) (fun q hq => by cases hq) dX3_isTerm_46
    · refine lv_iload_n hx hb dX3_isTerm_36 rfl (lv_at hl 1 rfl) ?_
      refine lv_iconst (v := (3 : Int32)) hx hb dX3_isTerm_37 (by decide) ?_
      refine lv_icmp_gt (tgt := 45) hx hb dX3_isTerm_38 (by decide) (fun c3 => ?_) (fun c3 => ?_)
      · refine lv_iconst (v := (0 : Int32)) hx hb dX3_isTerm_45 (by decide) ?_
        exact W.zret (v := (0 : Int32)) hx hb hr rfl (fun t ht hW => ⟨_, rfl, by unfold f_X3_isTerm; rw [if_pos c1, if_neg c2, if_pos c3] <;> rfl, ht⟩) (fun q hq => by cases hq) dX3_isTerm_46
      · refine lv_iconst (v := (1 : Int32)) hx hb dX3_isTerm_41 (by decide) ?_
        refine lv_goto (tgt := 46) hx hb dX3_isTerm_42 (by decide) ?_
        exact W.zret (v := (1 : Int32)) hx hb hr rfl (fun t ht hW => ⟨_, rfl, by unfold f_X3_isTerm; rw [if_pos c1, if_neg c2, if_neg c3] <;> rfl, ht⟩) (fun q hq => by cases hq) dX3_isTerm_46
  · by_cases c4 : what = (1 : Int32)
    · refine lv_tableIn (tgt := 47) hx hb dX3_isTerm_1 (by rw [c4]; decide) (by rw [c4]; decide) (by rw [c4]; rfl) (by decide) ?_
      refine lv_iload_n hx hb dX3_isTerm_47 rfl (lv_at hl 1 rfl) ?_
      refine lv_if_lt (tgt := 61) hx hb dX3_isTerm_48 (by decide) (fun c5 => ?_) (fun c5 => ?_)
      · refine lv_iconst (v := (0 : Int32)) hx hb dX3_isTerm_61 (by decide) ?_
        exact W.zret (v := (0 : Int32)) hx hb hr rfl (fun t ht hW => ⟨_, rfl, by unfold f_X3_isTerm; rw [if_neg c1, if_pos c4, if_pos c5] <;> rfl, ht⟩) (fun q hq => by cases hq) dX3_isTerm_62
      · refine lv_iload_n hx hb dX3_isTerm_51 rfl (lv_at hl 1 rfl) ?_
        refine lv_bipush (v := (99 : Int32)) hx hb dX3_isTerm_52 (by decide) ?_
        refine lv_icmp_gt (tgt := 61) hx hb dX3_isTerm_54 (by decide) (fun c6 => ?_) (fun c6 => ?_)
        · refine lv_iconst (v := (0 : Int32)) hx hb dX3_isTerm_61 (by decide) ?_
          exact W.zret (v := (0 : Int32)) hx hb hr rfl (fun t ht hW => ⟨_, rfl, by unfold f_X3_isTerm; rw [if_neg c1, if_pos c4, if_neg c5, if_pos c6] <;> rfl, ht⟩) (fun q hq => by cases hq) dX3_isTerm_62
        · refine lv_iconst (v := (1 : Int32)) hx hb dX3_isTerm_57 (by decide) ?_
          refine lv_goto (tgt := 62) hx hb dX3_isTerm_58 (by decide) ?_
          exact W.zret (v := (1 : Int32)) hx hb hr rfl (fun t ht hW => ⟨_, rfl, by unfold f_X3_isTerm; rw [if_neg c1, if_pos c4, if_neg c5, if_neg c6] <;> rfl, ht⟩) (fun q hq => by cases hq) dX3_isTerm_62
    · by_cases c7 : what = (2 : Int32)
      · refine lv_tableIn (tgt := 63) hx hb dX3_isTerm_1 (by rw [c7]; decide) (by rw [c7]; decide) (by rw [c7]; rfl) (by decide) ?_
        refine lv_iload_n hx hb dX3_isTerm_63 rfl (lv_at hl 1 rfl) ?_
        refine lv_if_lt (tgt := 77) hx hb dX3_isTerm_64 (by decide) (fun c8 => ?_) (fun c8 => ?_)
        · refine lv_iconst (v := (0 : Int32)) hx hb dX3_isTerm_77 (by decide) ?_
          exact W.zret (v := (0 : Int32)) hx hb hr rfl (fun t ht hW => ⟨_, rfl, by unfold f_X3_isTerm; rw [if_neg c1, if_neg c4, if_pos c7, if_pos c8] <;> rfl, ht⟩) (fun q hq => by cases hq) dX3_isTerm_78
        · refine lv_iload_n hx hb dX3_isTerm_67 rfl (lv_at hl 1 rfl) ?_
          refine lv_bipush (v := (20 : Int32)) hx hb dX3_isTerm_68 (by decide) ?_
          refine lv_icmp_gt (tgt := 77) hx hb dX3_isTerm_70 (by decide) (fun c9 => ?_) (fun c9 => ?_)
          · refine lv_iconst (v := (0 : Int32)) hx hb dX3_isTerm_77 (by decide) ?_
            exact W.zret (v := (0 : Int32)) hx hb hr rfl (fun t ht hW => ⟨_, rfl, by unfold f_X3_isTerm; rw [if_neg c1, if_neg c4, if_pos c7, if_neg c8, if_pos c9] <;> rfl, ht⟩) (fun q hq => by cases hq) dX3_isTerm_78
          · refine lv_iconst (v := (1 : Int32)) hx hb dX3_isTerm_73 (by decide) ?_
            refine lv_goto (tgt := 78) hx hb dX3_isTerm_74 (by decide) ?_
            exact W.zret (v := (1 : Int32)) hx hb hr rfl (fun t ht hW => ⟨_, rfl, by unfold f_X3_isTerm; rw [if_neg c1, if_neg c4, if_pos c7, if_neg c8, if_neg c9] <;> rfl, ht⟩) (fun q hq => by cases hq) dX3_isTerm_78
      · by_cases c10 : what = (3 : Int32)
        · refine lv_tableIn (tgt := 79) hx hb dX3_isTerm_1 (by rw [c10]; decide) (by rw [c10]; decide) (by rw [c10]; rfl) (by decide) ?_
          refine lv_iload_n hx hb dX3_isTerm_79 rfl (lv_at hl 1 rfl) ?_
          refine lv_iconst (v := (1 : Int32)) hx hb dX3_isTerm_80 (by decide) ?_
          refine lv_icmp_lt (tgt := 94) hx hb dX3_isTerm_81 (by decide) (fun c11 => ?_) (fun c11 => ?_)
          · refine lv_iconst (v := (0 : Int32)) hx hb dX3_isTerm_94 (by decide) ?_
            exact W.zret (v := (0 : Int32)) hx hb hr rfl (fun t ht hW => ⟨_, rfl, by unfold f_X3_isTerm; rw [if_neg c1, if_neg c4, if_neg c7, if_pos c10, if_pos c11] <;> rfl, ht⟩) (fun q hq => by cases hq) dX3_isTerm_95
          · refine lv_iload_n hx hb dX3_isTerm_84 rfl (lv_at hl 1 rfl) ?_
            refine lv_bipush (v := (100 : Int32)) hx hb dX3_isTerm_85 (by decide) ?_
            refine lv_icmp_gt (tgt := 94) hx hb dX3_isTerm_87 (by decide) (fun c12 => ?_) (fun c12 => ?_)
            · refine lv_iconst (v := (0 : Int32)) hx hb dX3_isTerm_94 (by decide) ?_
              exact W.zret (v := (0 : Int32)) hx hb hr rfl (fun t ht hW => ⟨_, rfl, by unfold f_X3_isTerm; rw [if_neg c1, if_neg c4, if_neg c7, if_pos c10, if_neg c11, if_pos c12] <;> rfl, ht⟩) (fun q hq => by cases hq) dX3_isTerm_95
            · refine lv_iconst (v := (1 : Int32)) hx hb dX3_isTerm_90 (by decide) ?_
              refine lv_goto (tgt := 95) hx hb dX3_isTerm_91 (by decide) ?_
              exact W.zret (v := (1 : Int32)) hx hb hr rfl (fun t ht hW => ⟨_, rfl, by unfold f_X3_isTerm; rw [if_neg c1, if_neg c4, if_neg c7, if_pos c10, if_neg c11, if_neg c12] <;> rfl, ht⟩) (fun q hq => by cases hq) dX3_isTerm_95
        · refine lv_tableOut (tgt := 96) hx hb dX3_isTerm_1 (by have q0 := ne_t c1 (z := 0) (by decide); have q1 := ne_t c4 (z := 1) (by decide); have q2 := ne_t c7 (z := 2) (by decide); have q3 := ne_t c10 (z := 3) (by decide); omega) (by decide) ?_
          refine lv_iconst (v := (0 : Int32)) hx hb dX3_isTerm_96 (by decide) ?_
          exact W.zret (v := (0 : Int32)) hx hb hr rfl (fun t ht hW => ⟨_, rfl, by unfold f_X3_isTerm; rw [if_neg c1, if_neg c4, if_neg c7, if_neg c10] <;> rfl, ht⟩) (fun q hq => by cases hq) dX3_isTerm_97
def f_X3_addContract (os_kind : Nat → Int32) (os_limit : Nat → Int32) (os_retention : Nat → Int32) (os_quota : Nat → Int32) (os_refers : Nat → Int32) (k : Int32) (most : Int32) (kept : Int32) (n : Nat) : Int32 × (Nat → Int32) × (Nat → Int32) × (Nat → Int32) × (Nat → Int32) × (Nat → Int32) × Nat :=
  if (f_X3_isTerm (0 : Int32) k) = (0 : Int32) then ((-2 : Int32), (os_kind, os_limit, os_retention, os_quota, os_refers, n)) else (if (f_X3_isTerm (1 : Int32) most) = (0 : Int32) then ((-2 : Int32), (os_kind, os_limit, os_retention, os_quota, os_refers, n)) else (if (f_X3_isTerm (2 : Int32) kept) = (0 : Int32) then ((-2 : Int32), (os_kind, os_limit, os_retention, os_quota, os_refers, n)) else (if nI n < (6 : Int32) then ((nI (n + 1) - (1 : Int32)), (upd os_kind n k, upd os_limit n most, upd os_retention n kept, upd os_quota n (100 : Int32), upd os_refers n (0 : Int32), n + 1)) else ((-4 : Int32), (os_kind, os_limit, os_retention, os_quota, os_refers, n)))))
set_option maxHeartbeats 4000000 in
set_option maxRecDepth 100000 in
theorem c_X3_addContract (l : Launch) (D : va_G) (cy : Nat → ClassId) (os : Nat → Nat) (os_kind : Nat → Int32) (os_limit : Nat → Int32) (os_retention : Nat → Int32) (os_quota : Nat → Int32) (os_refers : Nat → Int32) (os_lossNow : Int32) (k : Int32) (most : Int32) (kept : Int32) (n : Nat) (hn : n ≤ 6) : RwI (S := (Nat → Int32) × (Nat → Int32) × (Nat → Int32) × (Nat → Int32) × (Nat → Int32) × Nat) l D cy yX3_addContract (.code yX3_addContract cX3_addContract 4 (some .int)) 1 (wX3 cy os os_kind os_limit os_retention os_quota os_refers (nI n) os_lossNow) [.ref (os 0), .int k, .int most, .int kept] (fun rr u => (rr, u) = f_X3_addContract os_kind os_limit os_retention os_quota os_refers k most kept n) (fun u => wX3 cy os u.1 u.2.1 u.2.2.1 u.2.2.2.1 u.2.2.2.2.1 (nI u.2.2.2.2.2) os_lossNow) := by
  intro sz
  refine Met.ofW (cc := cX3_addContract) (maxL := 4) (ret := (some .int)) (by decide) rfl ?_
  intro pP eE s0 mM args below meth cC s₁ B hml hv
  obtain ⟨rfl, hsz, hP, hKX, hD0⟩ := hv
  have hx := B.exec
  have hb := B.bytes
  have hr := B.returns
  have hG := gw_hts (atoms_spec (ws := _) B.pre)
  have hown : s0.vm.findClass RX3 = some mM.cls := findClass_of_methodNamed B.named
  have hlocks := B.notSynchronized
  subst hsz
  have hD := hD0.self (sz := s0.heap.size)
  generalize hAe : va_A (wX3 cy os os_kind os_limit os_retention os_quota os_refers (nI n) os_lossNow) s0.heap.size = A at hD ⊢
  have hA : ∀ q : Nat, s0.heap.size ≤ q → A q := fun q h => by rw [← hAe]; exact Or.inr h
  have hS : va_S A s0.heap s0.heap [] := va_S.rf
  have hl := lv_entry ([.ref (os 0), .int k, .int most, .int kept]) (n := 4) (Nat.le_of_ble_eq_true rfl)
  rw [lg_entry_eq]
  generalize (lg_sl ([.ref (os 0), .int k, .int most, .int kept]) ++ List.replicate (4 - (lg_sl ([.ref (os 0), .int k, .int most, .int kept])).length) Slot.unset).toArray = ls at hl ⊢
  have hl : lv_has ls 4 [(0, .ref (os 0)), (1, .int k), (2, .int most), (3, .int kept)] := hl
  refine lv_iconst (v := (0 : Int32)) hx hb dX3_addContract_0 (by decide) ?_
  refine lv_iload_n hx hb dX3_addContract_1 rfl (lv_at hl 1 rfl) ?_
  refine cRoS mw6_17 mw6_18 mw2_2 mw6_19 hd_X3_isTerm hx hb hml hown hG hKX (c_X3_isTerm l D cy (0 : Int32) k) ⟨Nat.le_of_ble_eq_true rfl, Nat.le_of_ble_eq_true rfl⟩ ⟨Nat.zero_le _, Nat.zero_le _⟩ (hP.sub [] rfl) rfl hl.1 rfl (Nat.le_of_ble_eq_true rfl) dX3_addContract_2 ?_
  refine lv_if_eq (tgt := 24) hx hb dX3_addContract_5 (by decide) (fun c1 => ?_) (fun c1 => ?_)
  · refine lv_bipush (v := (-2 : Int32)) hx hb dX3_addContract_24 (by decide) ?_
    exact W.iret (v := (-2 : Int32)) hx hb hr (fun t ht hW => ⟨⟨(-2 : Int32), (os_kind, os_limit, os_retention, os_quota, os_refers, n), rfl, by unfold f_X3_addContract; rw [if_pos c1] <;> rfl, by rw [ht]; exact hP, hD⟩, hS.F ht⟩) hS.2.2 dX3_addContract_26
  · refine lv_iconst (v := (1 : Int32)) hx hb dX3_addContract_8 (by decide) ?_
    refine lv_iload_n hx hb dX3_addContract_9 rfl (lv_at hl 2 rfl) ?_
    refine cRoS mw6_17 mw6_18 mw2_2 mw6_19 hd_X3_isTerm hx hb hml hown hG hKX (c_X3_isTerm l D cy (1 : Int32) most) ⟨Nat.le_of_ble_eq_true rfl, Nat.le_of_ble_eq_true rfl⟩ ⟨Nat.zero_le _, Nat.zero_le _⟩ (hP.sub [] rfl) rfl hl.1 rfl (Nat.le_of_ble_eq_true rfl) dX3_addContract_10 ?_
    refine lv_if_eq (tgt := 24) hx hb dX3_addContract_13 (by decide) (fun c2 => ?_) (fun c2 => ?_)
    · refine lv_bipush (v := (-2 : Int32)) hx hb dX3_addContract_24 (by decide) ?_
      exact W.iret (v := (-2 : Int32)) hx hb hr (fun t ht hW => ⟨⟨(-2 : Int32), (os_kind, os_limit, os_retention, os_quota, os_refers, n), rfl, by unfold f_X3_addContract; rw [if_neg c1, if_pos c2] <;> rfl, by rw [ht]; exact hP, hD⟩, hS.F ht⟩) hS.2.2 dX3_addContract_26
    · refine lv_iconst (v := (2 : Int32)) hx hb dX3_addContract_16 (by decide) ?_
      refine lv_iload_n hx hb dX3_addContract_17 rfl (lv_at hl 3 rfl) ?_
      refine cRoS mw6_17 mw6_18 mw2_2 mw6_19 hd_X3_isTerm hx hb hml hown hG hKX (c_X3_isTerm l D cy (2 : Int32) kept) ⟨Nat.le_of_ble_eq_true rfl, Nat.le_of_ble_eq_true rfl⟩ ⟨Nat.zero_le _, Nat.zero_le _⟩ (hP.sub [] rfl) rfl hl.1 rfl (Nat.le_of_ble_eq_true rfl) dX3_addContract_18 ?_
      refine lv_if_ne (tgt := 27) hx hb dX3_addContract_21 (by decide) (fun c3 => ?_) (fun c3 => ?_)
      · refine lv_aload_n hx hb dX3_addContract_27 rfl (lv_at hl 0 rfl) ?_
        refine gf_X3_27 hx hb hG hown hKX hP 0 rfl rfl dX3_addContract_28 ?_
        refine lv_bipush (v := (6 : Int32)) hx hb dX3_addContract_31 (by decide) ?_
        refine lv_icmp_lt (tgt := 39) hx hb dX3_addContract_33 (by decide) (fun c4 => ?_) (fun c4 => ?_)
        · have hn6 : n < 6 := (nI_ltI (a := n) (b := 6) (by omega) (by omega)).mp c4
          refine lv_aload_n hx hb dX3_addContract_39 rfl (lv_at hl 0 rfl) ?_
          refine gf_X3_9 hx hb hG hown hKX hP 0 rfl rfl dX3_addContract_40 ?_
          refine lv_aload_n hx hb dX3_addContract_43 rfl (lv_at hl 0 rfl) ?_
          refine gf_X3_27 hx hb hG hown hKX hP 0 rfl rfl dX3_addContract_44 ?_
          refine lv_iload_n hx hb dX3_addContract_47 rfl (lv_at hl 1 rfl) ?_
          refine iast_n hx hb hKX hP hD hS 1 rfl rfl (by omega) (by decide) dX3_addContract_48 (fun H locs hP hD hS => ?_)
          have hP : va_P D vwCl (wX3 cy os (upd os_kind n k) os_limit os_retention os_quota os_refers (nI n) os_lossNow) H := hP
          have hD : va_D A (wX3 cy os (upd os_kind n k) os_limit os_retention os_quota os_refers (nI n) os_lossNow) := hD
          refine lv_aload_n hx hb dX3_addContract_49 rfl (lv_at hl 0 rfl) ?_
          refine gf_X3_15 hx hb hG hown hKX hP 0 rfl rfl dX3_addContract_50 ?_
          refine lv_aload_n hx hb dX3_addContract_53 rfl (lv_at hl 0 rfl) ?_
          refine gf_X3_27 hx hb hG hown hKX hP 0 rfl rfl dX3_addContract_54 ?_
          refine lv_iload_n hx hb dX3_addContract_57 rfl (lv_at hl 2 rfl) ?_
          refine iast_n hx hb hKX hP hD hS 2 rfl rfl (by omega) (by decide) dX3_addContract_58 (fun H locs hP hD hS => ?_)
          have hP : va_P D vwCl (wX3 cy os (upd os_kind n k) (upd os_limit n most) os_retention os_quota os_refers (nI n) os_lossNow) H := hP
          have hD : va_D A (wX3 cy os (upd os_kind n k) (upd os_limit n most) os_retention os_quota os_refers (nI n) os_lossNow) := hD
          refine lv_aload_n hx hb dX3_addContract_59 rfl (lv_at hl 0 rfl) ?_
          refine gf_X3_18 hx hb hG hown hKX hP 0 rfl rfl dX3_addContract_60 ?_
          refine lv_aload_n hx hb dX3_addContract_63 rfl (lv_at hl 0 rfl) ?_
          refine gf_X3_27 hx hb hG hown hKX hP 0 rfl rfl dX3_addContract_64 ?_
          refine lv_iload_n hx hb dX3_addContract_67 rfl (lv_at hl 3 rfl) ?_
          refine iast_n hx hb hKX hP hD hS 3 rfl rfl (by omega) (by decide) dX3_addContract_68 (fun H locs hP hD hS => ?_)
          have hP : va_P D vwCl (wX3 cy os (upd os_kind n k) (upd os_limit n most) (upd os_retention n kept) os_quota os_refers (nI n) os_lossNow) H := hP
          have hD : va_D A (wX3 cy os (upd os_kind n k) (upd os_limit n most) (upd os_retention n kept) os_quota os_refers (nI n) os_lossNow) := hD
          refine lv_aload_n hx hb dX3_addContract_69 rfl (lv_at hl 0 rfl) ?_
          refine gf_X3_21 hx hb hG hown hKX hP 0 rfl rfl dX3_addContract_70 ?_
          refine lv_aload_n hx hb dX3_addContract_73 rfl (lv_at hl 0 rfl) ?_
          refine gf_X3_27 hx hb hG hown hKX hP 0 rfl rfl dX3_addContract_74 ?_
          refine lv_bipush (v := (100 : Int32)) hx hb dX3_addContract_77 (by decide) ?_
          refine iast_n hx hb hKX hP hD hS 4 rfl rfl (by omega) (by decide) dX3_addContract_79 (fun H locs hP hD hS => ?_)
          have hP : va_P D vwCl (wX3 cy os (upd os_kind n k) (upd os_limit n most) (upd os_retention n kept) (upd os_quota n (100 : Int32)) os_refers (nI n) os_lossNow) H := hP
          have hD : va_D A (wX3 cy os (upd os_kind n k) (upd os_limit n most) (upd os_retention n kept) (upd os_quota n (100 : Int32)) os_refers (nI n) os_lossNow) := hD
          refine lv_aload_n hx hb dX3_addContract_80 rfl (lv_at hl 0 rfl) ?_
          refine gf_X3_24 hx hb hG hown hKX hP 0 rfl rfl dX3_addContract_81 ?_
          refine lv_aload_n hx hb dX3_addContract_84 rfl (lv_at hl 0 rfl) ?_
          refine gf_X3_27 hx hb hG hown hKX hP 0 rfl rfl dX3_addContract_85 ?_
          refine lv_iconst (v := (0 : Int32)) hx hb dX3_addContract_88 (by decide) ?_
          refine iast_n hx hb hKX hP hD hS 5 rfl rfl (by omega) (by decide) dX3_addContract_89 (fun H locs hP hD hS => ?_)
          have hP : va_P D vwCl (wX3 cy os (upd os_kind n k) (upd os_limit n most) (upd os_retention n kept) (upd os_quota n (100 : Int32)) (upd os_refers n (0 : Int32)) (nI n) os_lossNow) H := hP
          have hD : va_D A (wX3 cy os (upd os_kind n k) (upd os_limit n most) (upd os_retention n kept) (upd os_quota n (100 : Int32)) (upd os_refers n (0 : Int32)) (nI n) os_lossNow) := hD
          refine lv_aload_n hx hb dX3_addContract_90 rfl (lv_at hl 0 rfl) ?_
          refine lv_dup hx hb dX3_addContract_91 rfl ?_
          refine gf_X3_27 hx hb hG hown hKX hP 0 rfl rfl dX3_addContract_92 ?_
          refine lv_iconst (v := (1 : Int32)) hx hb dX3_addContract_95 (by decide) ?_
          refine lv_iadd hx hb dX3_addContract_96 ?_
          refine topi_eq (y := nI (n + 1)) (aN rfl rfl) ?_
          refine pf_X3_27 hx hb hG hown hKX hP hD hS 0 rfl rfl rfl (Nat.le_of_ble_eq_true rfl) dX3_addContract_97 (wn := wX3 cy os (upd os_kind n k) (upd os_limit n most) (upd os_retention n kept) (upd os_quota n (100 : Int32)) (upd os_refers n (0 : Int32)) (nI (n + 1)) os_lossNow) rfl (fun H locs hP hD hS => ?_)
          refine lv_aload_n hx hb dX3_addContract_100 rfl (lv_at hl 0 rfl) ?_
          refine gf_X3_27 hx hb hG hown hKX hP 0 rfl rfl dX3_addContract_101 ?_
          refine lv_iconst (v := (1 : Int32)) hx hb dX3_addContract_104 (by decide) ?_
          refine lv_isub hx hb dX3_addContract_105 ?_
          exact W.iret (v := (nI (n + 1) - (1 : Int32))) hx hb hr (fun t ht hW => ⟨⟨(nI (n + 1) - (1 : Int32)), (upd os_kind n k, upd os_limit n most, upd os_retention n kept, upd os_quota n (100 : Int32), upd os_refers n (0 : Int32), n + 1), rfl, by unfold f_X3_addContract; rw [if_neg c1, if_neg c2, if_neg c3, if_pos c4] <;> rfl, by rw [ht]; exact hP, hD⟩, hS.F ht⟩) hS.2.2 dX3_addContract_106
        · refine lv_bipush (v := (-4 : Int32)) hx hb dX3_addContract_36 (by decide) ?_
          exact W.iret (v := (-4 : Int32)) hx hb hr (fun t ht hW => ⟨⟨(-4 : Int32), (os_kind, os_limit, os_retention, os_quota, os_refers, n), rfl, by unfold f_X3_addContract; rw [if_neg c1, if_neg c2, if_neg c3, if_neg c4] <;> rfl, by rw [ht]; exact hP, hD⟩, hS.F ht⟩) hS.2.2 dX3_addContract_38
      · refine lv_bipush (v := (-2 : Int32)) hx hb dX3_addContract_24 (by decide) ?_
        exact W.iret (v := (-2 : Int32)) hx hb hr (fun t ht hW => ⟨⟨(-2 : Int32), (os_kind, os_limit, os_retention, os_quota, os_refers, n), rfl, by unfold f_X3_addContract; rw [if_neg c1, if_neg c2, if_pos c3] <;> rfl, by rw [ht]; exact hP, hD⟩, hS.F ht⟩) hS.2.2 dX3_addContract_26
def f_X3_term (os_kind : Nat → Int32) (os_limit : Nat → Int32) (os_retention : Nat → Int32) (os_quota : Nat → Int32) (c : Int32) (what : Int32) (n : Nat) : Int32 :=
  if (f_X3_isContract (nI n) c) = (0 : Int32) then (-1 : Int32) else (if what = (0 : Int32) then (os_kind c.toNatClampNeg) else (if what = (1 : Int32) then (os_limit c.toNatClampNeg) else (if what = (2 : Int32) then (os_retention c.toNatClampNeg) else (if what = (3 : Int32) then (os_quota c.toNatClampNeg) else (-1 : Int32)))))
set_option maxHeartbeats 4000000 in
set_option maxRecDepth 100000 in
theorem c_X3_term (l : Launch) (D : va_G) (cy : Nat → ClassId) (os : Nat → Nat) (os_kind : Nat → Int32) (os_limit : Nat → Int32) (os_retention : Nat → Int32) (os_quota : Nat → Int32) (os_refers : Nat → Int32) (os_lossNow : Int32) (c : Int32) (what : Int32) (n : Nat) (hn : n ≤ 6) : RoI l D cy yX3_term (.code yX3_term cX3_term 3 (some .int)) 1 (wX3 cy os os_kind os_limit os_retention os_quota os_refers (nI n) os_lossNow) [.ref (os 0), .int c, .int what] (f_X3_term os_kind os_limit os_retention os_quota c what n) := by
  refine Met.ofW (cc := cX3_term) (maxL := 3) (ret := (some .int)) (by decide) rfl ?_
  intro pP eE s0 mM args below meth cC s₁ B hml hv
  obtain ⟨rfl, hP, hKX⟩ := hv
  have hx := B.exec
  have hb := B.bytes
  have hr := B.returns
  have hG := gw_hts (atoms_spec (ws := _) B.pre)
  have hown : s0.vm.findClass RX3 = some mM.cls := findClass_of_methodNamed B.named
  have hlocks := B.notSynchronized
  have hl := lv_entry ([.ref (os 0), .int c, .int what]) (n := 3) (Nat.le_of_ble_eq_true rfl)
  rw [lg_entry_eq]
  generalize (lg_sl ([.ref (os 0), .int c, .int what]) ++ List.replicate (3 - (lg_sl ([.ref (os 0), .int c, .int what])).length) Slot.unset).toArray = ls at hl ⊢
  have hl : lv_has ls 3 [(0, .ref (os 0)), (1, .int c), (2, .int what)] := hl
  refine lv_aload_n hx hb dX3_term_0 rfl (lv_at hl 0 rfl) ?_
  refine lv_iload_n hx hb dX3_term_1 rfl (lv_at hl 1 rfl) ?_
  refine cRoV (q0 := 0) (ci := 3) mw7_18 mw7_19 mw7_20 mw2_2 mw7_21 rfl rfl hd_X3_isContract hx hb hml hown hG hKX (c_X3_isContract l D cy os os_kind os_limit os_retention os_quota os_refers (nI n) os_lossNow c) ⟨Nat.le_of_ble_eq_true rfl, Nat.le_of_ble_eq_true rfl⟩ ⟨Nat.zero_le _, Nat.zero_le _⟩ hP rfl rfl hl.1 rfl (Nat.le_of_ble_eq_true rfl) dX3_term_2 ?_
  refine lv_if_ne (tgt := 10) hx hb dX3_term_5 (by decide) (fun c1 => ?_) (fun c1 => ?_)
  · obtain ⟨j5, hj5, hlj5, rfl⟩ := isC_of (by omega) c1
    refine lv_iload_n hx hb dX3_term_10 rfl (lv_at hl 2 rfl) ?_
    by_cases c2 : what = (0 : Int32)
    · refine lv_tableIn (tgt := 40) hx hb dX3_term_11 (by rw [c2]; decide) (by rw [c2]; decide) (by rw [c2]; rfl) (by decide) ?_
      refine lv_aload_n hx hb dX3_term_40 rfl (lv_at hl 0 rfl) ?_
      refine gf_X3_9 hx hb hG hown hKX hP 0 rfl rfl dX3_term_41 ?_
      refine lv_iload_n hx hb dX3_term_44 rfl (lv_at hl 1 rfl) ?_
      refine iald_n hx hb hKX hP 1 rfl rfl (by omega) (by decide) dX3_term_45 ?_
      exact W.iret (v := (os_kind j5)) hx hb hr (fun t ht hW => ⟨_, rfl, by unfold f_X3_term; (try simp only [hj5]); rw [if_neg c1, if_pos c2] <;> rfl, ht⟩) (fun q hq => by cases hq) dX3_term_46
    · by_cases c3 : what = (1 : Int32)
      · refine lv_tableIn (tgt := 47) hx hb dX3_term_11 (by rw [c3]; decide) (by rw [c3]; decide) (by rw [c3]; rfl) (by decide) ?_
        refine lv_aload_n hx hb dX3_term_47 rfl (lv_at hl 0 rfl) ?_
        refine gf_X3_15 hx hb hG hown hKX hP 0 rfl rfl dX3_term_48 ?_
        refine lv_iload_n hx hb dX3_term_51 rfl (lv_at hl 1 rfl) ?_
        refine iald_n hx hb hKX hP 2 rfl rfl (by omega) (by decide) dX3_term_52 ?_
        exact W.iret (v := (os_limit j5)) hx hb hr (fun t ht hW => ⟨_, rfl, by unfold f_X3_term; (try simp only [hj5]); rw [if_neg c1, if_neg c2, if_pos c3] <;> rfl, ht⟩) (fun q hq => by cases hq) dX3_term_53
      · by_cases c4 : what = (2 : Int32)
        · refine lv_tableIn (tgt := 54) hx hb dX3_term_11 (by rw [c4]; decide) (by rw [c4]; decide) (by rw [c4]; rfl) (by decide) ?_
          refine lv_aload_n hx hb dX3_term_54 rfl (lv_at hl 0 rfl) ?_
          refine gf_X3_18 hx hb hG hown hKX hP 0 rfl rfl dX3_term_55 ?_
          refine lv_iload_n hx hb dX3_term_58 rfl (lv_at hl 1 rfl) ?_
          refine iald_n hx hb hKX hP 3 rfl rfl (by omega) (by decide) dX3_term_59 ?_
          exact W.iret (v := (os_retention j5)) hx hb hr (fun t ht hW => ⟨_, rfl, by unfold f_X3_term; (try simp only [hj5]); rw [if_neg c1, if_neg c2, if_neg c3, if_pos c4] <;> rfl, ht⟩) (fun q hq => by cases hq) dX3_term_60
        · by_cases c5 : what = (3 : Int32)
          · refine lv_tableIn (tgt := 61) hx hb dX3_term_11 (by rw [c5]; decide) (by rw [c5]; decide) (by rw [c5]; rfl) (by decide) ?_
            refine lv_aload_n hx hb dX3_term_61 rfl (lv_at hl 0 rfl) ?_
            refine gf_X3_21 hx hb hG hown hKX hP 0 rfl rfl dX3_term_62 ?_
            refine lv_iload_n hx hb dX3_term_65 rfl (lv_at hl 1 rfl) ?_
            refine iald_n hx hb hKX hP 4 rfl rfl (by omega) (by decide) dX3_term_66 ?_
            exact W.iret (v := (os_quota j5)) hx hb hr (fun t ht hW => ⟨_, rfl, by unfold f_X3_term; (try simp only [hj5]); rw [if_neg c1, if_neg c2, if_neg c3, if_neg c4, if_pos c5] <;> rfl, ht⟩) (fun q hq => by cases hq) dX3_term_67
          · refine lv_tableOut (tgt := 68) hx hb dX3_term_11 (by have q0 := ne_t c2 (z := 0) (by decide); have q1 := ne_t c3 (z := 1) (by decide); have q2 := ne_t c4 (z := 2) (by decide); have q3 := ne_t c5 (z := 3) (by decide); omega) (by decide) ?_
            refine lv_iconst (v := (-1 : Int32)) hx hb dX3_term_68 (by decide) ?_
            exact W.iret (v := (-1 : Int32)) hx hb hr (fun t ht hW => ⟨_, rfl, by unfold f_X3_term; (try simp only [hj5]); rw [if_neg c1, if_neg c2, if_neg c3, if_neg c4, if_neg c5] <;> rfl, ht⟩) (fun q hq => by cases hq) dX3_term_69
  · refine lv_iconst (v := (-1 : Int32)) hx hb dX3_term_8 (by decide) ?_
    exact W.iret (v := (-1 : Int32)) hx hb hr (fun t ht hW => ⟨_, rfl, by unfold f_X3_term; rw [if_pos c1] <;> rfl, ht⟩) (fun q hq => by cases hq) dX3_term_9
theorem term_of {a b d e : Nat → Int32} {n : Nat} {c w : Int32} (hn : n < 2 ^ 31) (h : ¬ f_X3_term a b d e c w n = -1) : ∃ j, c.toNatClampNeg = j ∧ j < n ∧ c = nI j := by
  refine isC_of hn (fun q => h ?_)
  unfold f_X3_term
  rw [if_pos q]
theorem term_lt {a b d e : Nat → Int32} {n k : Nat} {w : Int32} (hn : n < 2 ^ 31) (hk : k < 2 ^ 31) (h : ¬ f_X3_term a b d e (nI k) w n = -1) : k < n := by
  obtain ⟨j, h1, h2, -⟩ := term_of hn h
  rw [nI_clamp hk] at h1
  omega
def f_X3_change (os_kind : Nat → Int32) (os_limit : Nat → Int32) (os_retention : Nat → Int32) (os_quota : Nat → Int32) (c : Int32) (what : Int32) (v : Int32) (n : Nat) : Int32 × (Nat → Int32) × (Nat → Int32) × (Nat → Int32) × (Nat → Int32) :=
  if (f_X3_term os_kind os_limit os_retention os_quota c what n) = (-1 : Int32) then ((-1 : Int32), (os_kind, os_limit, os_retention, os_quota)) else (if (f_X3_isTerm what v) = (0 : Int32) then ((-2 : Int32), (os_kind, os_limit, os_retention, os_quota)) else (if what = (0 : Int32) then ((f_X3_term os_kind os_limit os_retention os_quota (nI c.toNatClampNeg) what n), (upd os_kind c.toNatClampNeg v, os_limit, os_retention, os_quota)) else (if what = (1 : Int32) then ((f_X3_term os_kind os_limit os_retention os_quota (nI c.toNatClampNeg) what n), (os_kind, upd os_limit c.toNatClampNeg v, os_retention, os_quota)) else (if what = (2 : Int32) then ((f_X3_term os_kind os_limit os_retention os_quota (nI c.toNatClampNeg) what n), (os_kind, os_limit, upd os_retention c.toNatClampNeg v, os_quota)) else ((f_X3_term os_kind os_limit os_retention os_quota (nI c.toNatClampNeg) what n), (os_kind, os_limit, os_retention, upd os_quota c.toNatClampNeg v))))))
set_option maxHeartbeats 4000000 in
set_option maxRecDepth 100000 in
theorem c_X3_change (l : Launch) (D : va_G) (cy : Nat → ClassId) (os : Nat → Nat) (os_kind : Nat → Int32) (os_limit : Nat → Int32) (os_retention : Nat → Int32) (os_quota : Nat → Int32) (os_refers : Nat → Int32) (os_lossNow : Int32) (c : Int32) (what : Int32) (v : Int32) (n : Nat) (hn : n ≤ 6) : RwI (S := (Nat → Int32) × (Nat → Int32) × (Nat → Int32) × (Nat → Int32)) l D cy yX3_change (.code yX3_change cX3_change 5 (some .int)) 2 (wX3 cy os os_kind os_limit os_retention os_quota os_refers (nI n) os_lossNow) [.ref (os 0), .int c, .int what, .int v] (fun rr u => (rr, u) = f_X3_change os_kind os_limit os_retention os_quota c what v n) (fun u => wX3 cy os u.1 u.2.1 u.2.2.1 u.2.2.2 os_refers (nI n) os_lossNow) := by
  intro sz
  refine Met.ofW (cc := cX3_change) (maxL := 5) (ret := (some .int)) (by decide) rfl ?_
  intro pP eE s0 mM args below meth cC s₁ B hml hv
  obtain ⟨rfl, hsz, hP, hKX, hD0⟩ := hv
  have hx := B.exec
  have hb := B.bytes
  have hr := B.returns
  have hG := gw_hts (atoms_spec (ws := _) B.pre)
  have hown : s0.vm.findClass RX3 = some mM.cls := findClass_of_methodNamed B.named
  have hlocks := B.notSynchronized
  subst hsz
  have hD := hD0.self (sz := s0.heap.size)
  generalize hAe : va_A (wX3 cy os os_kind os_limit os_retention os_quota os_refers (nI n) os_lossNow) s0.heap.size = A at hD ⊢
  have hA : ∀ q : Nat, s0.heap.size ≤ q → A q := fun q h => by rw [← hAe]; exact Or.inr h
  have hS : va_S A s0.heap s0.heap [] := va_S.rf
  have hl := lv_entry ([.ref (os 0), .int c, .int what, .int v]) (n := 5) (Nat.le_of_ble_eq_true rfl)
  rw [lg_entry_eq]
  generalize (lg_sl ([.ref (os 0), .int c, .int what, .int v]) ++ List.replicate (5 - (lg_sl ([.ref (os 0), .int c, .int what, .int v])).length) Slot.unset).toArray = ls at hl ⊢
  have hl : lv_has ls 5 [(0, .ref (os 0)), (1, .int c), (2, .int what), (3, .int v)] := hl
  refine lv_aload_n hx hb dX3_change_0 rfl (lv_at hl 0 rfl) ?_
  refine lv_iload_n hx hb dX3_change_1 rfl (lv_at hl 1 rfl) ?_
  refine lv_iload_n hx hb dX3_change_2 rfl (lv_at hl 2 rfl) ?_
  refine cRoV (q0 := 0) (ci := 3) mw7_14 mw7_15 mw7_16 mw2_2 mw7_17 rfl rfl hd_X3_term hx hb hml hown hG hKX (c_X3_term l D cy os os_kind os_limit os_retention os_quota os_refers os_lossNow c what n hn) ⟨Nat.le_of_ble_eq_true rfl, Nat.le_of_ble_eq_true rfl⟩ ⟨Nat.zero_le _, Nat.zero_le _⟩ hP rfl rfl hl.1 rfl (Nat.le_of_ble_eq_true rfl) dX3_change_3 ?_
  refine lv_istore (lv' := [(4, .int (f_X3_term os_kind os_limit os_retention os_quota c what n)), (0, .ref (os 0)), (1, .int c), (2, .int what), (3, .int v)]) hx hb dX3_change_6 hl (by decide) rfl (fun ls hl => ?_)
  refine lv_iload hx hb dX3_change_8 (lv_at hl 0 rfl) ?_
  refine lv_iconst (v := (-1 : Int32)) hx hb dX3_change_10 (by decide) ?_
  refine lv_icmp_ne (tgt := 16) hx hb dX3_change_11 (by decide) (fun c1 => ?_) (fun c1 => ?_)
  · obtain ⟨j11, hj11, hlj11, rfl⟩ := term_of (by omega) c1
    refine lv_iload_n hx hb dX3_change_16 rfl (lv_at hl 3 rfl) ?_
    refine lv_iload_n hx hb dX3_change_17 rfl (lv_at hl 4 rfl) ?_
    refine cRoS mw6_17 mw6_18 mw2_2 mw6_19 hd_X3_isTerm hx hb hml hown hG hKX (c_X3_isTerm l D cy what v) ⟨Nat.le_of_ble_eq_true rfl, Nat.le_of_ble_eq_true rfl⟩ ⟨Nat.zero_le _, Nat.zero_le _⟩ (hP.sub [] rfl) rfl hl.1 rfl (Nat.le_of_ble_eq_true rfl) dX3_change_18 ?_
    refine lv_if_ne (tgt := 27) hx hb dX3_change_21 (by decide) (fun c2 => ?_) (fun c2 => ?_)
    · refine lv_iload_n hx hb dX3_change_27 rfl (lv_at hl 3 rfl) ?_
      by_cases c3 : what = (0 : Int32)
      · refine lv_tableIn (tgt := 56) hx hb dX3_change_28 (by rw [c3]; decide) (by rw [c3]; decide) (by rw [c3]; rfl) (by decide) ?_
        refine lv_aload_n hx hb dX3_change_56 rfl (lv_at hl 1 rfl) ?_
        refine gf_X3_9 hx hb hG hown hKX hP 0 rfl rfl dX3_change_57 ?_
        refine lv_iload_n hx hb dX3_change_60 rfl (lv_at hl 2 rfl) ?_
        refine lv_iload_n hx hb dX3_change_61 rfl (lv_at hl 4 rfl) ?_
        refine iast_n hx hb hKX hP hD hS 1 rfl rfl (by omega) (by decide) dX3_change_62 (fun H locs hP hD hS => ?_)
        have hP : va_P D vwCl (wX3 cy os (upd os_kind j11 v) os_limit os_retention os_quota os_refers (nI n) os_lossNow) H := hP
        have hD : va_D A (wX3 cy os (upd os_kind j11 v) os_limit os_retention os_quota os_refers (nI n) os_lossNow) := hD
        refine lv_goto (tgt := 93) hx hb dX3_change_63 (by decide) ?_
        refine lv_iload hx hb dX3_change_93 (lv_at hl 0 rfl) ?_
        exact W.iret (v := (f_X3_term os_kind os_limit os_retention os_quota (nI j11) what n)) hx hb hr (fun t ht hW => ⟨⟨(f_X3_term os_kind os_limit os_retention os_quota (nI j11) what n), (upd os_kind j11 v, os_limit, os_retention, os_quota), rfl, by unfold f_X3_change; (try simp only [hj11]); rw [if_neg c1, if_neg c2, if_pos c3] <;> rfl, by rw [ht]; exact hP, hD⟩, hS.F ht⟩) hS.2.2 dX3_change_95
      · by_cases c4 : what = (1 : Int32)
        · refine lv_tableIn (tgt := 66) hx hb dX3_change_28 (by rw [c4]; decide) (by rw [c4]; decide) (by rw [c4]; rfl) (by decide) ?_
          refine lv_aload_n hx hb dX3_change_66 rfl (lv_at hl 1 rfl) ?_
          refine gf_X3_15 hx hb hG hown hKX hP 0 rfl rfl dX3_change_67 ?_
          refine lv_iload_n hx hb dX3_change_70 rfl (lv_at hl 2 rfl) ?_
          refine lv_iload_n hx hb dX3_change_71 rfl (lv_at hl 4 rfl) ?_
          refine iast_n hx hb hKX hP hD hS 2 rfl rfl (by omega) (by decide) dX3_change_72 (fun H locs hP hD hS => ?_)
          have hP : va_P D vwCl (wX3 cy os os_kind (upd os_limit j11 v) os_retention os_quota os_refers (nI n) os_lossNow) H := hP
          have hD : va_D A (wX3 cy os os_kind (upd os_limit j11 v) os_retention os_quota os_refers (nI n) os_lossNow) := hD
          refine lv_goto (tgt := 93) hx hb dX3_change_73 (by decide) ?_
          refine lv_iload hx hb dX3_change_93 (lv_at hl 0 rfl) ?_
          exact W.iret (v := (f_X3_term os_kind os_limit os_retention os_quota (nI j11) what n)) hx hb hr (fun t ht hW => ⟨⟨(f_X3_term os_kind os_limit os_retention os_quota (nI j11) what n), (os_kind, upd os_limit j11 v, os_retention, os_quota), rfl, by unfold f_X3_change; (try simp only [hj11]); rw [if_neg c1, if_neg c2, if_neg c3, if_pos c4] <;> rfl, by rw [ht]; exact hP, hD⟩, hS.F ht⟩) hS.2.2 dX3_change_95
        · by_cases c5 : what = (2 : Int32)
          · refine lv_tableIn (tgt := 76) hx hb dX3_change_28 (by rw [c5]; decide) (by rw [c5]; decide) (by rw [c5]; rfl) (by decide) ?_
            refine lv_aload_n hx hb dX3_change_76 rfl (lv_at hl 1 rfl) ?_
            refine gf_X3_18 hx hb hG hown hKX hP 0 rfl rfl dX3_change_77 ?_
            refine lv_iload_n hx hb dX3_change_80 rfl (lv_at hl 2 rfl) ?_
            refine lv_iload_n hx hb dX3_change_81 rfl (lv_at hl 4 rfl) ?_
            refine iast_n hx hb hKX hP hD hS 3 rfl rfl (by omega) (by decide) dX3_change_82 (fun H locs hP hD hS => ?_)
            have hP : va_P D vwCl (wX3 cy os os_kind os_limit (upd os_retention j11 v) os_quota os_refers (nI n) os_lossNow) H := hP
            have hD : va_D A (wX3 cy os os_kind os_limit (upd os_retention j11 v) os_quota os_refers (nI n) os_lossNow) := hD
            refine lv_goto (tgt := 93) hx hb dX3_change_83 (by decide) ?_
            refine lv_iload hx hb dX3_change_93 (lv_at hl 0 rfl) ?_
            exact W.iret (v := (f_X3_term os_kind os_limit os_retention os_quota (nI j11) what n)) hx hb hr (fun t ht hW => ⟨⟨(f_X3_term os_kind os_limit os_retention os_quota (nI j11) what n), (os_kind, os_limit, upd os_retention j11 v, os_quota), rfl, by unfold f_X3_change; (try simp only [hj11]); rw [if_neg c1, if_neg c2, if_neg c3, if_neg c4, if_pos c5] <;> rfl, by rw [ht]; exact hP, hD⟩, hS.F ht⟩) hS.2.2 dX3_change_95
          · refine lv_tableOut (tgt := 86) hx hb dX3_change_28 (by have q0 := ne_t c3 (z := 0) (by decide); have q1 := ne_t c4 (z := 1) (by decide); have q2 := ne_t c5 (z := 2) (by decide); omega) (by decide) ?_
            refine lv_aload_n hx hb dX3_change_86 rfl (lv_at hl 1 rfl) ?_
            refine gf_X3_21 hx hb hG hown hKX hP 0 rfl rfl dX3_change_87 ?_
            refine lv_iload_n hx hb dX3_change_90 rfl (lv_at hl 2 rfl) ?_
            refine lv_iload_n hx hb dX3_change_91 rfl (lv_at hl 4 rfl) ?_
            refine iast_n hx hb hKX hP hD hS 4 rfl rfl (by omega) (by decide) dX3_change_92 (fun H locs hP hD hS => ?_)
            have hP : va_P D vwCl (wX3 cy os os_kind os_limit os_retention (upd os_quota j11 v) os_refers (nI n) os_lossNow) H := hP
            have hD : va_D A (wX3 cy os os_kind os_limit os_retention (upd os_quota j11 v) os_refers (nI n) os_lossNow) := hD
            refine lv_iload hx hb dX3_change_93 (lv_at hl 0 rfl) ?_
            exact W.iret (v := (f_X3_term os_kind os_limit os_retention os_quota (nI j11) what n)) hx hb hr (fun t ht hW => ⟨⟨(f_X3_term os_kind os_limit os_retention os_quota (nI j11) what n), (os_kind, os_limit, os_retention, upd os_quota j11 v), rfl, by unfold f_X3_change; (try simp only [hj11]); rw [if_neg c1, if_neg c2, if_neg c3, if_neg c4, if_neg c5] <;> rfl, by rw [ht]; exact hP, hD⟩, hS.F ht⟩) hS.2.2 dX3_change_95
    · refine lv_bipush (v := (-2 : Int32)) hx hb dX3_change_24 (by decide) ?_
      exact W.iret (v := (-2 : Int32)) hx hb hr (fun t ht hW => ⟨⟨(-2 : Int32), (os_kind, os_limit, os_retention, os_quota), rfl, by unfold f_X3_change; (try simp only [hj11]); rw [if_neg c1, if_pos c2] <;> rfl, by rw [ht]; exact hP, hD⟩, hS.F ht⟩) hS.2.2 dX3_change_26
  · refine lv_iconst (v := (-1 : Int32)) hx hb dX3_change_14 (by decide) ?_
    exact W.iret (v := (-1 : Int32)) hx hb hr (fun t ht hW => ⟨⟨(-1 : Int32), (os_kind, os_limit, os_retention, os_quota), rfl, by unfold f_X3_change; rw [if_pos c1] <;> rfl, by rw [ht]; exact hP, hD⟩, hS.F ht⟩) hS.2.2 dX3_change_15
def f_X3_link (os_refers : Nat → Int32) (a : Int32) (b : Int32) (so : Int32) (n : Nat) : Int32 × (Nat → Int32) :=
  if (f_X3_isContract (nI n) a) = (0 : Int32) then ((-1 : Int32), os_refers) else (if (f_X3_isContract (nI n) b) = (0 : Int32) then ((-1 : Int32), os_refers) else (if nI a.toNatClampNeg = nI b.toNatClampNeg then ((-1 : Int32), os_refers) else (if (f_X6_has (os_refers a.toNatClampNeg) (nI b.toNatClampNeg)) = (0 : Int32) then (if so = (0 : Int32) then ((0 : Int32), upd os_refers a.toNatClampNeg ((os_refers a.toNatClampNeg) &&& (((1 : Int32) <<< (nI b.toNatClampNeg &&& 31)) ^^^ (-1 : Int32)))) else ((0 : Int32), upd os_refers a.toNatClampNeg ((os_refers a.toNatClampNeg) ||| ((1 : Int32) <<< (nI b.toNatClampNeg &&& 31))))) else (if so = (0 : Int32) then ((1 : Int32), upd os_refers a.toNatClampNeg ((os_refers a.toNatClampNeg) &&& (((1 : Int32) <<< (nI b.toNatClampNeg &&& 31)) ^^^ (-1 : Int32)))) else ((1 : Int32), upd os_refers a.toNatClampNeg ((os_refers a.toNatClampNeg) ||| ((1 : Int32) <<< (nI b.toNatClampNeg &&& 31))))))))
set_option maxHeartbeats 4000000 in
set_option maxRecDepth 100000 in
theorem c_X3_link (l : Launch) (D : va_G) (cy : Nat → ClassId) (os : Nat → Nat) (os_kind : Nat → Int32) (os_limit : Nat → Int32) (os_retention : Nat → Int32) (os_quota : Nat → Int32) (os_refers : Nat → Int32) (os_lossNow : Int32) (a : Int32) (b : Int32) (so : Int32) (n : Nat) (hn : n ≤ 6) : RwI (S := (Nat → Int32)) l D cy yX3_link (.code yX3_link cX3_link 5 (some .int)) 1 (wX3 cy os os_kind os_limit os_retention os_quota os_refers (nI n) os_lossNow) [.ref (os 0), .int a, .int b, .int so] (fun rr u => (rr, u) = f_X3_link os_refers a b so n) (fun u => wX3 cy os os_kind os_limit os_retention os_quota u (nI n) os_lossNow) := by
  intro sz
  refine Met.ofW (cc := cX3_link) (maxL := 5) (ret := (some .int)) (by decide) rfl ?_
  intro pP eE s0 mM args below meth cC s₁ B hml hv
  obtain ⟨rfl, hsz, hP, hKX, hD0⟩ := hv
  have hx := B.exec
  have hb := B.bytes
  have hr := B.returns
  have hG := gw_hts (atoms_spec (ws := _) B.pre)
  have hown : s0.vm.findClass RX3 = some mM.cls := findClass_of_methodNamed B.named
  have hlocks := B.notSynchronized
  subst hsz
  have hD := hD0.self (sz := s0.heap.size)
  generalize hAe : va_A (wX3 cy os os_kind os_limit os_retention os_quota os_refers (nI n) os_lossNow) s0.heap.size = A at hD ⊢
  have hA : ∀ q : Nat, s0.heap.size ≤ q → A q := fun q h => by rw [← hAe]; exact Or.inr h
  have hS : va_S A s0.heap s0.heap [] := va_S.rf
  have hl := lv_entry ([.ref (os 0), .int a, .int b, .int so]) (n := 5) (Nat.le_of_ble_eq_true rfl)
  rw [lg_entry_eq]
  generalize (lg_sl ([.ref (os 0), .int a, .int b, .int so]) ++ List.replicate (5 - (lg_sl ([.ref (os 0), .int a, .int b, .int so])).length) Slot.unset).toArray = ls at hl ⊢
  have hl : lv_has ls 5 [(0, .ref (os 0)), (1, .int a), (2, .int b), (3, .int so)] := hl
  refine lv_aload_n hx hb dX3_link_0 rfl (lv_at hl 0 rfl) ?_
  refine lv_iload_n hx hb dX3_link_1 rfl (lv_at hl 1 rfl) ?_
  refine cRoV (q0 := 0) (ci := 3) mw7_18 mw7_19 mw7_20 mw2_2 mw7_21 rfl rfl hd_X3_isContract hx hb hml hown hG hKX (c_X3_isContract l D cy os os_kind os_limit os_retention os_quota os_refers (nI n) os_lossNow a) ⟨Nat.le_of_ble_eq_true rfl, Nat.le_of_ble_eq_true rfl⟩ ⟨Nat.zero_le _, Nat.zero_le _⟩ hP rfl rfl hl.1 rfl (Nat.le_of_ble_eq_true rfl) dX3_link_2 ?_
  refine lv_if_eq (tgt := 21) hx hb dX3_link_5 (by decide) (fun c1 => ?_) (fun c1 => ?_)
  · refine lv_iconst (v := (-1 : Int32)) hx hb dX3_link_21 (by decide) ?_
    exact W.iret (v := (-1 : Int32)) hx hb hr (fun t ht hW => ⟨⟨(-1 : Int32), os_refers, rfl, by unfold f_X3_link; rw [if_pos c1] <;> rfl, by rw [ht]; exact hP, hD⟩, hS.F ht⟩) hS.2.2 dX3_link_22
  · obtain ⟨j22, hj22, hlj22, rfl⟩ := isC_of (by omega) c1
    refine lv_aload_n hx hb dX3_link_8 rfl (lv_at hl 0 rfl) ?_
    refine lv_iload_n hx hb dX3_link_9 rfl (lv_at hl 2 rfl) ?_
    refine cRoV (q0 := 0) (ci := 3) mw7_18 mw7_19 mw7_20 mw2_2 mw7_21 rfl rfl hd_X3_isContract hx hb hml hown hG hKX (c_X3_isContract l D cy os os_kind os_limit os_retention os_quota os_refers (nI n) os_lossNow b) ⟨Nat.le_of_ble_eq_true rfl, Nat.le_of_ble_eq_true rfl⟩ ⟨Nat.zero_le _, Nat.zero_le _⟩ hP rfl rfl hl.1 rfl (Nat.le_of_ble_eq_true rfl) dX3_link_10 ?_
    refine lv_if_eq (tgt := 21) hx hb dX3_link_13 (by decide) (fun c2 => ?_) (fun c2 => ?_)
    · refine lv_iconst (v := (-1 : Int32)) hx hb dX3_link_21 (by decide) ?_
      exact W.iret (v := (-1 : Int32)) hx hb hr (fun t ht hW => ⟨⟨(-1 : Int32), os_refers, rfl, by unfold f_X3_link; (try simp only [hj22]); rw [if_neg c1, if_pos c2] <;> rfl, by rw [ht]; exact hP, hD⟩, hS.F ht⟩) hS.2.2 dX3_link_22
    · obtain ⟨j22_1, hj22_1, hlj22_1, rfl⟩ := isC_of (by omega) c2
      refine lv_iload_n hx hb dX3_link_16 rfl (lv_at hl 1 rfl) ?_
      refine lv_iload_n hx hb dX3_link_17 rfl (lv_at hl 2 rfl) ?_
      refine lv_icmp_ne (tgt := 23) hx hb dX3_link_18 (by decide) (fun c3 => ?_) (fun c3 => ?_)
      · refine lv_aload_n hx hb dX3_link_23 rfl (lv_at hl 0 rfl) ?_
        refine gf_X3_24 hx hb hG hown hKX hP 0 rfl rfl dX3_link_24 ?_
        refine lv_iload_n hx hb dX3_link_27 rfl (lv_at hl 1 rfl) ?_
        refine iald_n hx hb hKX hP 5 rfl rfl (by omega) (by decide) dX3_link_28 ?_
        refine lv_iload_n hx hb dX3_link_29 rfl (lv_at hl 2 rfl) ?_
        refine cRoN mw8_18 mw1_2 mw8_19 hd_X6_has hKX.2.2 hx hb hml hown hG hKX (c_X6_has l D cy (os_refers j22) (nI j22_1)) ⟨Nat.le_of_ble_eq_true rfl, Nat.le_of_ble_eq_true rfl⟩ ⟨Nat.zero_le _, Nat.zero_le _⟩ (hP.sub [] rfl) rfl hl.1 rfl (Nat.le_of_ble_eq_true rfl) dX3_link_30 ?_
        refine lv_if_eq (tgt := 40) hx hb dX3_link_33 (by decide) (fun c4 => ?_) (fun c4 => ?_)
        · refine lv_iconst (v := (0 : Int32)) hx hb dX3_link_40 (by decide) ?_
          refine lv_istore (lv' := [(4, .int (0 : Int32)), (0, .ref (os 0)), (1, .int (nI j22)), (2, .int (nI j22_1)), (3, .int so)]) hx hb dX3_link_41 hl (by decide) rfl (fun ls hl => ?_)
          refine lv_aload_n hx hb dX3_link_43 rfl (lv_at hl 1 rfl) ?_
          refine gf_X3_24 hx hb hG hown hKX hP 0 rfl rfl dX3_link_44 ?_
          refine lv_iload_n hx hb dX3_link_47 rfl (lv_at hl 2 rfl) ?_
          refine lv_iload_n hx hb dX3_link_48 rfl (lv_at hl 4 rfl) ?_
          refine lv_if_eq (tgt := 65) hx hb dX3_link_49 (by decide) (fun c5 => ?_) (fun c5 => ?_)
          · refine lv_aload_n hx hb dX3_link_65 rfl (lv_at hl 1 rfl) ?_
            refine gf_X3_24 hx hb hG hown hKX hP 0 rfl rfl dX3_link_66 ?_
            refine lv_iload_n hx hb dX3_link_69 rfl (lv_at hl 2 rfl) ?_
            refine iald_n hx hb hKX hP 5 rfl rfl (by omega) (by decide) dX3_link_70 ?_
            refine lv_iconst (v := (1 : Int32)) hx hb dX3_link_71 (by decide) ?_
            refine lv_iload_n hx hb dX3_link_72 rfl (lv_at hl 3 rfl) ?_
            refine lv_ishl hx hb dX3_link_73 ?_
            refine lv_iconst (v := (-1 : Int32)) hx hb dX3_link_74 (by decide) ?_
            refine lv_ixor hx hb dX3_link_75 ?_
            refine lv_iand hx hb dX3_link_76 ?_
            refine iast_n hx hb hKX hP hD hS 5 rfl rfl (by omega) (by decide) dX3_link_77 (fun H locs hP hD hS => ?_)
            have hP : va_P D vwCl (wX3 cy os os_kind os_limit os_retention os_quota (upd os_refers j22 ((os_refers j22) &&& (((1 : Int32) <<< (nI j22_1 &&& 31)) ^^^ (-1 : Int32)))) (nI n) os_lossNow) H := hP
            have hD : va_D A (wX3 cy os os_kind os_limit os_retention os_quota (upd os_refers j22 ((os_refers j22) &&& (((1 : Int32) <<< (nI j22_1 &&& 31)) ^^^ (-1 : Int32)))) (nI n) os_lossNow) := hD
            refine lv_iload hx hb dX3_link_78 (lv_at hl 0 rfl) ?_
            exact W.iret (v := (0 : Int32)) hx hb hr (fun t ht hW => ⟨⟨(0 : Int32), upd os_refers j22 ((os_refers j22) &&& (((1 : Int32) <<< (nI j22_1 &&& 31)) ^^^ (-1 : Int32))), rfl, by unfold f_X3_link; (try simp only [hj22, hj22_1]); rw [if_neg c1, if_neg c2, if_neg c3, if_pos c4, if_pos c5] <;> rfl, by rw [ht]; exact hP, hD⟩, hS.F ht⟩) hS.2.2 dX3_link_80
          · refine lv_aload_n hx hb dX3_link_52 rfl (lv_at hl 1 rfl) ?_
            refine gf_X3_24 hx hb hG hown hKX hP 0 rfl rfl dX3_link_53 ?_
            refine lv_iload_n hx hb dX3_link_56 rfl (lv_at hl 2 rfl) ?_
            refine iald_n hx hb hKX hP 5 rfl rfl (by omega) (by decide) dX3_link_57 ?_
            refine lv_iconst (v := (1 : Int32)) hx hb dX3_link_58 (by decide) ?_
            refine lv_iload_n hx hb dX3_link_59 rfl (lv_at hl 3 rfl) ?_
            refine lv_ishl hx hb dX3_link_60 ?_
            refine lv_ior hx hb dX3_link_61 ?_
            refine lv_goto (tgt := 77) hx hb dX3_link_62 (by decide) ?_
            refine iast_n hx hb hKX hP hD hS 5 rfl rfl (by omega) (by decide) dX3_link_77 (fun H locs hP hD hS => ?_)
            have hP : va_P D vwCl (wX3 cy os os_kind os_limit os_retention os_quota (upd os_refers j22 ((os_refers j22) ||| ((1 : Int32) <<< (nI j22_1 &&& 31)))) (nI n) os_lossNow) H := hP
            have hD : va_D A (wX3 cy os os_kind os_limit os_retention os_quota (upd os_refers j22 ((os_refers j22) ||| ((1 : Int32) <<< (nI j22_1 &&& 31)))) (nI n) os_lossNow) := hD
            refine lv_iload hx hb dX3_link_78 (lv_at hl 0 rfl) ?_
            exact W.iret (v := (0 : Int32)) hx hb hr (fun t ht hW => ⟨⟨(0 : Int32), upd os_refers j22 ((os_refers j22) ||| ((1 : Int32) <<< (nI j22_1 &&& 31))), rfl, by unfold f_X3_link; (try simp only [hj22, hj22_1]); rw [if_neg c1, if_neg c2, if_neg c3, if_pos c4, if_neg c5] <;> rfl, by rw [ht]; exact hP, hD⟩, hS.F ht⟩) hS.2.2 dX3_link_80
        · refine lv_iconst (v := (1 : Int32)) hx hb dX3_link_36 (by decide) ?_
          refine lv_goto (tgt := 41) hx hb dX3_link_37 (by decide) ?_
          refine lv_istore (lv' := [(4, .int (1 : Int32)), (0, .ref (os 0)), (1, .int (nI j22)), (2, .int (nI j22_1)), (3, .int so)]) hx hb dX3_link_41 hl (by decide) rfl (fun ls hl => ?_)
          refine lv_aload_n hx hb dX3_link_43 rfl (lv_at hl 1 rfl) ?_
          refine gf_X3_24 hx hb hG hown hKX hP 0 rfl rfl dX3_link_44 ?_
          refine lv_iload_n hx hb dX3_link_47 rfl (lv_at hl 2 rfl) ?_
          refine lv_iload_n hx hb dX3_link_48 rfl (lv_at hl 4 rfl) ?_
          refine lv_if_eq (tgt := 65) hx hb dX3_link_49 (by decide) (fun c6 => ?_) (fun c6 => ?_)
          · refine lv_aload_n hx hb dX3_link_65 rfl (lv_at hl 1 rfl) ?_
            refine gf_X3_24 hx hb hG hown hKX hP 0 rfl rfl dX3_link_66 ?_
            refine lv_iload_n hx hb dX3_link_69 rfl (lv_at hl 2 rfl) ?_
            refine iald_n hx hb hKX hP 5 rfl rfl (by omega) (by decide) dX3_link_70 ?_
            refine lv_iconst (v := (1 : Int32)) hx hb dX3_link_71 (by decide) ?_
            refine lv_iload_n hx hb dX3_link_72 rfl (lv_at hl 3 rfl) ?_
            refine lv_ishl hx hb dX3_link_73 ?_
            refine lv_iconst (v := (-1 : Int32)) hx hb dX3_link_74 (by decide) ?_
            refine lv_ixor hx hb dX3_link_75 ?_
            refine lv_iand hx hb dX3_link_76 ?_
            refine iast_n hx hb hKX hP hD hS 5 rfl rfl (by omega) (by decide) dX3_link_77 (fun H locs hP hD hS => ?_)
            have hP : va_P D vwCl (wX3 cy os os_kind os_limit os_retention os_quota (upd os_refers j22 ((os_refers j22) &&& (((1 : Int32) <<< (nI j22_1 &&& 31)) ^^^ (-1 : Int32)))) (nI n) os_lossNow) H := hP
            have hD : va_D A (wX3 cy os os_kind os_limit os_retention os_quota (upd os_refers j22 ((os_refers j22) &&& (((1 : Int32) <<< (nI j22_1 &&& 31)) ^^^ (-1 : Int32)))) (nI n) os_lossNow) := hD
            refine lv_iload hx hb dX3_link_78 (lv_at hl 0 rfl) ?_
            exact W.iret (v := (1 : Int32)) hx hb hr (fun t ht hW => ⟨⟨(1 : Int32), upd os_refers j22 ((os_refers j22) &&& (((1 : Int32) <<< (nI j22_1 &&& 31)) ^^^ (-1 : Int32))), rfl, by unfold f_X3_link; (try simp only [hj22, hj22_1]); rw [if_neg c1, if_neg c2, if_neg c3, if_neg c4, if_pos c6] <;> rfl, by rw [ht]; exact hP, hD⟩, hS.F ht⟩) hS.2.2 dX3_link_80
          · refine lv_aload_n hx hb dX3_link_52 rfl (lv_at hl 1 rfl) ?_
            refine gf_X3_24 hx hb hG hown hKX hP 0 rfl rfl dX3_link_53 ?_
            refine lv_iload_n hx hb dX3_link_56 rfl (lv_at hl 2 rfl) ?_
            refine iald_n hx hb hKX hP 5 rfl rfl (by omega) (by decide) dX3_link_57 ?_
            refine lv_iconst (v := (1 : Int32)) hx hb dX3_link_58 (by decide) ?_
            refine lv_iload_n hx hb dX3_link_59 rfl (lv_at hl 3 rfl) ?_
            refine lv_ishl hx hb dX3_link_60 ?_
            refine lv_ior hx hb dX3_link_61 ?_
            refine lv_goto (tgt := 77) hx hb dX3_link_62 (by decide) ?_
            refine iast_n hx hb hKX hP hD hS 5 rfl rfl (by omega) (by decide) dX3_link_77 (fun H locs hP hD hS => ?_)
            have hP : va_P D vwCl (wX3 cy os os_kind os_limit os_retention os_quota (upd os_refers j22 ((os_refers j22) ||| ((1 : Int32) <<< (nI j22_1 &&& 31)))) (nI n) os_lossNow) H := hP
            have hD : va_D A (wX3 cy os os_kind os_limit os_retention os_quota (upd os_refers j22 ((os_refers j22) ||| ((1 : Int32) <<< (nI j22_1 &&& 31)))) (nI n) os_lossNow) := hD
            refine lv_iload hx hb dX3_link_78 (lv_at hl 0 rfl) ?_
            exact W.iret (v := (1 : Int32)) hx hb hr (fun t ht hW => ⟨⟨(1 : Int32), upd os_refers j22 ((os_refers j22) ||| ((1 : Int32) <<< (nI j22_1 &&& 31))), rfl, by unfold f_X3_link; (try simp only [hj22, hj22_1]); rw [if_neg c1, if_neg c2, if_neg c3, if_neg c4, if_neg c6] <;> rfl, by rw [ht]; exact hP, hD⟩, hS.F ht⟩) hS.2.2 dX3_link_80
      · refine lv_iconst (v := (-1 : Int32)) hx hb dX3_link_21 (by decide) ?_
        exact W.iret (v := (-1 : Int32)) hx hb hr (fun t ht hW => ⟨⟨(-1 : Int32), os_refers, rfl, by unfold f_X3_link; (try simp only [hj22, hj22_1]); rw [if_neg c1, if_neg c2, if_pos c3] <;> rfl, by rw [ht]; exact hP, hD⟩, hS.F ht⟩) hS.2.2 dX3_link_22
def f_X3_changeLoss (os_lossNow : Int32) (v : Int32) : Int32 × Int32 :=
  if v < (0 : Int32) then ((-2 : Int32), os_lossNow) else (if v ≤ (300 : Int32) then (os_lossNow, v) else ((-2 : Int32), os_lossNow))
set_option maxHeartbeats 4000000 in
set_option maxRecDepth 100000 in
theorem c_X3_changeLoss (l : Launch) (D : va_G) (cy : Nat → ClassId) (os : Nat → Nat) (os_kind : Nat → Int32) (os_limit : Nat → Int32) (os_retention : Nat → Int32) (os_quota : Nat → Int32) (os_refers : Nat → Int32) (os_size : Int32) (os_lossNow : Int32) (v : Int32) : RwI (S := Int32) l D cy yX3_changeLoss (.code yX3_changeLoss cX3_changeLoss 3 (some .int)) 0 (wX3 cy os os_kind os_limit os_retention os_quota os_refers os_size os_lossNow) [.ref (os 0), .int v] (fun rr u => (rr, u) = f_X3_changeLoss os_lossNow v) (fun u => wX3 cy os os_kind os_limit os_retention os_quota os_refers os_size u) := by
  intro sz
  refine Met.ofW (cc := cX3_changeLoss) (maxL := 3) (ret := (some .int)) (by decide) rfl ?_
  intro pP eE s0 mM args below meth cC s₁ B hml hv
  obtain ⟨rfl, hsz, hP, hKX, hD0⟩ := hv
  have hx := B.exec
  have hb := B.bytes
  have hr := B.returns
  have hG := gw_hts (atoms_spec (ws := _) B.pre)
  have hown : s0.vm.findClass RX3 = some mM.cls := findClass_of_methodNamed B.named
  have hlocks := B.notSynchronized
  subst hsz
  have hD := hD0.self (sz := s0.heap.size)
  generalize hAe : va_A (wX3 cy os os_kind os_limit os_retention os_quota os_refers os_size os_lossNow) s0.heap.size = A at hD ⊢
  have hA : ∀ q : Nat, s0.heap.size ≤ q → A q := fun q h => by rw [← hAe]; exact Or.inr h
  have hS : va_S A s0.heap s0.heap [] := va_S.rf
  have hl := lv_entry ([.ref (os 0), .int v]) (n := 3) (Nat.le_of_ble_eq_true rfl)
  rw [lg_entry_eq]
  generalize (lg_sl ([.ref (os 0), .int v]) ++ List.replicate (3 - (lg_sl ([.ref (os 0), .int v])).length) Slot.unset).toArray = ls at hl ⊢
  have hl : lv_has ls 3 [(0, .ref (os 0)), (1, .int v)] := hl
  refine lv_iload_n hx hb dX3_changeLoss_0 rfl (lv_at hl 1 rfl) ?_
  refine lv_if_lt (tgt := 11) hx hb dX3_changeLoss_1 (by decide) (fun c1 => ?_) (fun c1 => ?_)
  · refine lv_bipush (v := (-2 : Int32)) hx hb dX3_changeLoss_11 (by decide) ?_
    exact W.iret (v := (-2 : Int32)) hx hb hr (fun t ht hW => ⟨⟨(-2 : Int32), os_lossNow, rfl, by unfold f_X3_changeLoss; rw [if_pos c1] <;> rfl, by rw [ht]; exact hP, hD⟩, hS.F ht⟩) hS.2.2 dX3_changeLoss_13
  · refine lv_iload_n hx hb dX3_changeLoss_4 rfl (lv_at hl 1 rfl) ?_
    refine lv_sipush (v := (300 : Int32)) hx hb dX3_changeLoss_5 (by decide) ?_
    refine lv_icmp_le (tgt := 14) hx hb dX3_changeLoss_8 (by decide) (fun c2 => ?_) (fun c2 => ?_)
    · refine lv_aload_n hx hb dX3_changeLoss_14 rfl (lv_at hl 0 rfl) ?_
      refine gf_X3_46 hx hb hG hown hKX hP 0 rfl rfl dX3_changeLoss_15 ?_
      refine lv_istore_n (lv' := [(2, .int os_lossNow), (0, .ref (os 0)), (1, .int v)]) hx hb dX3_changeLoss_18 rfl hl (by decide) rfl (fun ls hl => ?_)
      refine lv_aload_n hx hb dX3_changeLoss_19 rfl (lv_at hl 1 rfl) ?_
      refine lv_iload_n hx hb dX3_changeLoss_20 rfl (lv_at hl 2 rfl) ?_
      refine pf_X3_46 hx hb hG hown hKX hP hD hS 0 rfl rfl rfl (Nat.le_of_ble_eq_true rfl) dX3_changeLoss_21 (wn := wX3 cy os os_kind os_limit os_retention os_quota os_refers os_size v) rfl (fun H locs hP hD hS => ?_)
      refine lv_iload_n hx hb dX3_changeLoss_24 rfl (lv_at hl 0 rfl) ?_
      exact W.iret (v := os_lossNow) hx hb hr (fun t ht hW => ⟨⟨os_lossNow, v, rfl, by unfold f_X3_changeLoss; rw [if_neg c1, if_pos c2] <;> rfl, by rw [ht]; exact hP, hD⟩, hS.F ht⟩) hS.2.2 dX3_changeLoss_25
    · refine lv_bipush (v := (-2 : Int32)) hx hb dX3_changeLoss_11 (by decide) ?_
      exact W.iret (v := (-2 : Int32)) hx hb hr (fun t ht hW => ⟨⟨(-2 : Int32), os_lossNow, rfl, by unfold f_X3_changeLoss; rw [if_neg c1, if_neg c2] <;> rfl, by rw [ht]; exact hP, hD⟩, hS.F ht⟩) hS.2.2 dX3_changeLoss_13
def bd_X3_references_4 (os_refers : Nat → Int32) (k4 : Nat) (z4 : Int32) : Int32 :=
  (z4 + (f_J6_bitCount_0f7a4 (os_refers k4)))
def f_X3_references (os_refers : Nat → Int32) (n : Nat) : Int32 :=
  (itr (bd_X3_references_4 os_refers) n (0 : Int32))
set_option maxHeartbeats 4000000 in
set_option maxRecDepth 100000 in
theorem c_X3_references (l : Launch) (D : va_G) (cy : Nat → ClassId) (os : Nat → Nat) (os_kind : Nat → Int32) (os_limit : Nat → Int32) (os_retention : Nat → Int32) (os_quota : Nat → Int32) (os_refers : Nat → Int32) (os_lossNow : Int32) (n : Nat) (hn : n ≤ 6) : RoI l D cy yX3_references (.code yX3_references cX3_references 3 (some .int)) 1 (wX3 cy os os_kind os_limit os_retention os_quota os_refers (nI n) os_lossNow) [.ref (os 0)] (f_X3_references os_refers n) := by
  refine Met.ofW (cc := cX3_references) (maxL := 3) (ret := (some .int)) (by decide) rfl ?_
  intro pP eE s0 mM args below meth cC s₁ B hml hv
  obtain ⟨rfl, hP, hKX⟩ := hv
  have hx := B.exec
  have hb := B.bytes
  have hr := B.returns
  have hG := gw_hts (atoms_spec (ws := _) B.pre)
  have hown : s0.vm.findClass RX3 = some mM.cls := findClass_of_methodNamed B.named
  have hlocks := B.notSynchronized
  have hl := lv_entry ([.ref (os 0)]) (n := 3) (Nat.le_of_ble_eq_true rfl)
  rw [lg_entry_eq]
  generalize (lg_sl ([.ref (os 0)]) ++ List.replicate (3 - (lg_sl ([.ref (os 0)])).length) Slot.unset).toArray = ls at hl ⊢
  have hl : lv_has ls 3 [(0, .ref (os 0))] := hl
  refine lv_iconst (v := (0 : Int32)) hx hb dX3_references_0 (by decide) ?_
  refine lv_istore_n (lv' := [(1, .int (0 : Int32)), (0, .ref (os 0))]) hx hb dX3_references_1 rfl hl (by decide) rfl (fun ls hl => ?_)
  refine lv_iconst (v := (0 : Int32)) hx hb dX3_references_2 (by decide) ?_
  refine lv_istore_n (lv' := [(2, .int (0 : Int32)), (1, .int (0 : Int32)), (0, .ref (os 0))]) hx hb dX3_references_3 rfl hl (by decide) rfl (fun ls hl => ?_)
  refine loopR (bd_X3_references_4 os_refers) (0 : Int32) n (fun k4 z4 => [(2, .int (nI k4)), (1, .int z4), (0, .ref (os 0))]) (lv_sub hl [0, 1, 2] rfl) (fun k4 z4 ls hk4 hz4 hl ih4 => ?_)
  refine lv_iload_n hx hb dX3_references_4 rfl (lv_at hl 0 rfl) ?_
  refine lv_aload_n hx hb dX3_references_5 rfl (lv_at hl 2 rfl) ?_
  refine gf_X3_27 hx hb hG hown hKX hP 0 rfl rfl dX3_references_6 ?_
  refine lv_icmp_ge (tgt := 30) hx hb dX3_references_9 (by decide) (fun c1 => ?_) (fun c1 => ?_)
  · have e_k4 : n = k4 := Nat.le_antisymm ((le_n (N := n) (k := k4) rfl (by omega) (by omega)).mp c1) hk4
    subst e_k4
    refine lv_iload_n hx hb dX3_references_30 rfl (lv_at hl 1 rfl) ?_
    exact W.iret (v := z4) hx hb hr (fun t ht hW => ⟨_, rfl, by subst hz4; unfold f_X3_references; rfl, ht⟩) (fun q hq => by cases hq) dX3_references_31
  · have hlt4 : k4 < n := Nat.lt_of_not_le (fun qq_ => c1 ((le_n (N := n) (k := k4) rfl (by omega) (by omega)).mpr qq_))
    refine lv_iload_n hx hb dX3_references_12 rfl (lv_at hl 1 rfl) ?_
    refine lv_aload_n hx hb dX3_references_13 rfl (lv_at hl 2 rfl) ?_
    refine gf_X3_24 hx hb hG hown hKX hP 0 rfl rfl dX3_references_14 ?_
    refine lv_iload_n hx hb dX3_references_17 rfl (lv_at hl 0 rfl) ?_
    refine iald_n hx hb hKX hP 5 rfl rfl (by omega) (by decide) dX3_references_18 ?_
    refine cRoS mw21_23 mw13_18 mw13_19 mw13_20 hd_J6_bitCount_0f7a4 hx hb hml hown hG hKX (c_J6_bitCount_0f7a4 l D cy (os_refers k4)) ⟨Nat.le_of_ble_eq_true rfl, Nat.le_of_ble_eq_true rfl⟩ ⟨Nat.zero_le _, Nat.zero_le _⟩ (hP.sub [] rfl) rfl hl.1 rfl (Nat.le_of_ble_eq_true rfl) dX3_references_19 ?_
    refine lv_iadd hx hb dX3_references_22 ?_
    refine lv_istore_n (lv' := [(1, .int (z4 + (f_J6_bitCount_0f7a4 (os_refers k4)))), (2, .int (nI k4)), (0, .ref (os 0))]) hx hb dX3_references_23 rfl hl (by decide) rfl (fun ls hl => ?_)
    refine lv_iinc (v := nI (k4 + 1)) (lv' := [(2, .int (nI (k4 + 1))), (1, .int (z4 + (f_J6_bitCount_0f7a4 (os_refers k4)))), (0, .ref (os 0))]) hx hb dX3_references_24 hl (k := 1) rfl (nI_1 _) (by decide) rfl (fun ls hl => ?_)
    refine lv_goto (tgt := 4) hx hb dX3_references_27 (by decide) ?_
    exact ih4 (z4 + (f_J6_bitCount_0f7a4 (os_refers k4))) _ hlt4 (by unfold bd_X3_references_4; rfl) (lv_sub hl [0, 1, 2] rfl)
def bd_X3_undergo_59 (v : Int32) (n : Nat) (k59 : Nat) (z59 : (Nat → Int32) × (Nat → Int32) × (Nat → Int32) × (Nat → Int32)) : (Nat → Int32) × (Nat → Int32) × (Nat → Int32) × (Nat → Int32) :=
  (f_X3_change z59.1 z59.2.1 z59.2.2.1 z59.2.2.2 (nI k59) (2 : Int32) v n).2
def f_X3_undergo (os_kind : Nat → Int32) (os_limit : Nat → Int32) (os_retention : Nat → Int32) (os_quota : Nat → Int32) (os_refers : Nat → Int32) (os_lossNow : Int32) (what : Int32) (v : Int32) (n : Nat) : (Nat → Int32) × (Nat → Int32) × (Nat → Int32) × (Nat → Int32) × (Nat → Int32) × Int32 :=
  if what = (0 : Int32) then (os_kind, os_limit, os_retention, os_quota, os_refers, (f_X3_changeLoss os_lossNow v).2) else (if what = (1 : Int32) then ((f_X3_change os_kind os_limit os_retention os_quota v (1 : Int32) (0 : Int32) n).2.1, (f_X3_change os_kind os_limit os_retention os_quota v (1 : Int32) (0 : Int32) n).2.2.1, (f_X3_change os_kind os_limit os_retention os_quota v (1 : Int32) (0 : Int32) n).2.2.2.1, (f_X3_change os_kind os_limit os_retention os_quota v (1 : Int32) (0 : Int32) n).2.2.2.2, os_refers, os_lossNow) else (if what = (2 : Int32) then (if (f_X3_isContract (nI n) v) = (0 : Int32) then (os_kind, os_limit, os_retention, os_quota, os_refers, os_lossNow) else (os_kind, os_limit, os_retention, os_quota, upd os_refers v.toNatClampNeg (0 : Int32), os_lossNow)) else (if what = (3 : Int32) then ((itr (bd_X3_undergo_59 v n) n (os_kind, os_limit, os_retention, os_quota)).1, (itr (bd_X3_undergo_59 v n) n (os_kind, os_limit, os_retention, os_quota)).2.1, (itr (bd_X3_undergo_59 v n) n (os_kind, os_limit, os_retention, os_quota)).2.2.1, (itr (bd_X3_undergo_59 v n) n (os_kind, os_limit, os_retention, os_quota)).2.2.2, os_refers, os_lossNow) else (os_kind, os_limit, os_retention, os_quota, os_refers, os_lossNow))))
set_option maxHeartbeats 4000000 in
set_option maxRecDepth 100000 in
theorem c_X3_undergo (l : Launch) (D : va_G) (cy : Nat → ClassId) (os : Nat → Nat) (os_kind : Nat → Int32) (os_limit : Nat → Int32) (os_retention : Nat → Int32) (os_quota : Nat → Int32) (os_refers : Nat → Int32) (os_lossNow : Int32) (what : Int32) (v : Int32) (n : Nat) (hn : n ≤ 6) : RwV (S := (Nat → Int32) × (Nat → Int32) × (Nat → Int32) × (Nat → Int32) × (Nat → Int32) × Int32) l D cy yX3_undergo (.code yX3_undergo cX3_undergo 4 none) 3 (wX3 cy os os_kind os_limit os_retention os_quota os_refers (nI n) os_lossNow) [.ref (os 0), .int what, .int v] (fun u => u = f_X3_undergo os_kind os_limit os_retention os_quota os_refers os_lossNow what v n) (fun u => wX3 cy os u.1 u.2.1 u.2.2.1 u.2.2.2.1 u.2.2.2.2.1 (nI n) u.2.2.2.2.2) := by
  intro sz
  refine Met.ofW (cc := cX3_undergo) (maxL := 4) (ret := none) (by decide) rfl ?_
  intro pP eE s0 mM args below meth cC s₁ B hml hv
  obtain ⟨rfl, hsz, hP, hKX, hD0⟩ := hv
  have hx := B.exec
  have hb := B.bytes
  have hr := B.returns
  have hG := gw_hts (atoms_spec (ws := _) B.pre)
  have hown : s0.vm.findClass RX3 = some mM.cls := findClass_of_methodNamed B.named
  have hlocks := B.notSynchronized
  subst hsz
  have hD := hD0.self (sz := s0.heap.size)
  generalize hAe : va_A (wX3 cy os os_kind os_limit os_retention os_quota os_refers (nI n) os_lossNow) s0.heap.size = A at hD ⊢
  have hA : ∀ q : Nat, s0.heap.size ≤ q → A q := fun q h => by rw [← hAe]; exact Or.inr h
  have hS : va_S A s0.heap s0.heap [] := va_S.rf
  have hl := lv_entry ([.ref (os 0), .int what, .int v]) (n := 4) (Nat.le_of_ble_eq_true rfl)
  rw [lg_entry_eq]
  generalize (lg_sl ([.ref (os 0), .int what, .int v]) ++ List.replicate (4 - (lg_sl ([.ref (os 0), .int what, .int v])).length) Slot.unset).toArray = ls at hl ⊢
  have hl : lv_has ls 4 [(0, .ref (os 0)), (1, .int what), (2, .int v)] := hl
  refine lv_iload_n hx hb dX3_undergo_0 rfl (lv_at hl 1 rfl) ?_
  refine lv_if_ne (tgt := 13) hx hb dX3_undergo_1 (by decide) (fun c1 => ?_) (fun c1 => ?_)
  · refine lv_iload_n hx hb dX3_undergo_13 rfl (lv_at hl 1 rfl) ?_
    refine lv_iconst (v := (1 : Int32)) hx hb dX3_undergo_14 (by decide) ?_
    refine lv_icmp_ne (tgt := 29) hx hb dX3_undergo_15 (by decide) (fun c2 => ?_) (fun c2 => ?_)
    · refine lv_iload_n hx hb dX3_undergo_29 rfl (lv_at hl 1 rfl) ?_
      refine lv_iconst (v := (2 : Int32)) hx hb dX3_undergo_30 (by decide) ?_
      refine lv_icmp_ne (tgt := 52) hx hb dX3_undergo_31 (by decide) (fun c3 => ?_) (fun c3 => ?_)
      · refine lv_iload_n hx hb dX3_undergo_52 rfl (lv_at hl 1 rfl) ?_
        refine lv_iconst (v := (3 : Int32)) hx hb dX3_undergo_53 (by decide) ?_
        refine lv_icmp_ne (tgt := 81) hx hb dX3_undergo_54 (by decide) (fun c4 => ?_) (fun c4 => ?_)
        · exact W.vret hx hb hr (fun t ht hW => ⟨⟨(os_kind, os_limit, os_retention, os_quota, os_refers, os_lossNow), rfl, by unfold f_X3_undergo; rw [if_neg c1, if_neg c2, if_neg c3, if_neg c4] <;> rfl, by rw [ht]; exact hP, hD⟩, hS.F ht⟩) hS.2.2 dX3_undergo_81
        · refine lv_iconst (v := (0 : Int32)) hx hb dX3_undergo_57 (by decide) ?_
          refine lv_istore_n (lv' := [(3, .int (0 : Int32)), (0, .ref (os 0)), (1, .int what), (2, .int v)]) hx hb dX3_undergo_58 rfl hl (by decide) rfl (fun ls hl => ?_)
          refine loopW (bd_X3_undergo_59 v n) (os_kind, os_limit, os_retention, os_quota) n (fun k59 z59 => [(3, .int (nI k59)), (0, .ref (os 0)), (1, .int what), (2, .int v)]) (fun k59 z59 => wX3 cy os z59.1 z59.2.1 z59.2.2.1 z59.2.2.2 os_refers (nI n) os_lossNow) hP hD hS (lv_sub hl [0, 1, 2, 3] rfl) (fun k59 z59 H locs ls hk59 hz59 hP hD hS hl ih59 => ?_)
          refine lv_iload_n hx hb dX3_undergo_59 rfl (lv_at hl 0 rfl) ?_
          refine lv_aload_n hx hb dX3_undergo_60 rfl (lv_at hl 1 rfl) ?_
          refine gf_X3_27 hx hb hG hown hKX hP 0 rfl rfl dX3_undergo_61 ?_
          refine lv_icmp_ge (tgt := 81) hx hb dX3_undergo_64 (by decide) (fun c5 => ?_) (fun c5 => ?_)
          · have e_k59 : n = k59 := Nat.le_antisymm ((le_n (N := n) (k := k59) rfl (by omega) (by omega)).mp c5) hk59
            subst e_k59
            exact W.vret hx hb hr (fun t ht hW => ⟨⟨(z59.1, z59.2.1, z59.2.2.1, z59.2.2.2, os_refers, os_lossNow), rfl, by subst hz59; unfold f_X3_undergo; rw [if_neg c1, if_neg c2, if_neg c3, if_pos c4] <;> rfl, by rw [ht]; exact hP, hD⟩, hS.F ht⟩) hS.2.2 dX3_undergo_81
          · have hlt59 : k59 < n := Nat.lt_of_not_le (fun qq_ => c5 ((le_n (N := n) (k := k59) rfl (by omega) (by omega)).mpr qq_))
            refine lv_aload_n hx hb dX3_undergo_67 rfl (lv_at hl 1 rfl) ?_
            refine lv_iload_n hx hb dX3_undergo_68 rfl (lv_at hl 0 rfl) ?_
            refine lv_iconst (v := (2 : Int32)) hx hb dX3_undergo_69 (by decide) ?_
            refine lv_iload_n hx hb dX3_undergo_70 rfl (lv_at hl 3 rfl) ?_
            refine cRwV (q0 := 0) (ci := 3) mw30_5 mw7_11 mw7_12 mw2_2 mw7_13 rfl rfl hd_X3_change hx hb hml hown hG hKX (c_X3_change l D cy os z59.1 z59.2.1 z59.2.2.1 z59.2.2.2 os_refers os_lossNow (nI k59) (2 : Int32) v n hn) ⟨Nat.le_of_ble_eq_true rfl, Nat.le_of_ble_eq_true rfl⟩ ⟨Nat.zero_le _, Nat.zero_le _⟩ hP hD hS hA [0, 1, 2, 3, 4, 5] [] [0, 1, 2, 3, 4, 5] (wr := []) (wn := fun u71 => wX3 cy os u71.1 u71.2.1 u71.2.2.1 u71.2.2.2 os_refers (nI n) os_lossNow) rfl (by decide) rfl (by decide) (by decide) (fun _ => rfl) (by decide) rfl rfl hl.1 rfl (Nat.le_of_ble_eq_true rfl) dX3_undergo_71 (fun r71 u71 H locs hw71 hP hD hS => ?_)
            refine lv_pop hx hb dX3_undergo_74 rfl ?_
            refine lv_iinc (v := nI (k59 + 1)) (lv' := [(3, .int (nI (k59 + 1))), (0, .ref (os 0)), (1, .int what), (2, .int v)]) hx hb dX3_undergo_75 hl (k := 0) rfl (nI_1 _) (by decide) rfl (fun ls hl => ?_)
            refine lv_goto (tgt := 59) hx hb dX3_undergo_78 (by decide) ?_
            exact ih59 u71 _ _ _ hlt59 (by obtain rfl := congrArg Prod.fst hw71; obtain rfl := congrArg Prod.snd hw71; unfold bd_X3_undergo_59; rfl) hP hD hS (lv_sub hl [0, 1, 2, 3] rfl)
      · refine lv_aload_n hx hb dX3_undergo_34 rfl (lv_at hl 0 rfl) ?_
        refine lv_iload_n hx hb dX3_undergo_35 rfl (lv_at hl 2 rfl) ?_
        refine cRoV (q0 := 0) (ci := 3) mw7_18 mw7_19 mw7_20 mw2_2 mw7_21 rfl rfl hd_X3_isContract hx hb hml hown hG hKX (c_X3_isContract l D cy os os_kind os_limit os_retention os_quota os_refers (nI n) os_lossNow v) ⟨Nat.le_of_ble_eq_true rfl, Nat.le_of_ble_eq_true rfl⟩ ⟨Nat.zero_le _, Nat.zero_le _⟩ hP rfl rfl hl.1 rfl (Nat.le_of_ble_eq_true rfl) dX3_undergo_36 ?_
        refine lv_if_eq (tgt := 52) hx hb dX3_undergo_39 (by decide) (fun c6 => ?_) (fun c6 => ?_)
        · refine lv_iload_n hx hb dX3_undergo_52 rfl (lv_at hl 1 rfl) ?_
          refine lv_iconst (v := (3 : Int32)) hx hb dX3_undergo_53 (by decide) ?_
          refine lv_icmp_ne (tgt := 81) hx hb dX3_undergo_54 (by decide) (fun _ => ?_) (fun c7 => absurd c7 (fun qq_ => absurd (c3.symm.trans qq_) (by decide)))
          exact W.vret hx hb hr (fun t ht hW => ⟨⟨(os_kind, os_limit, os_retention, os_quota, os_refers, os_lossNow), rfl, by unfold f_X3_undergo; rw [if_neg c1, if_neg c2, if_pos c3, if_pos c6] <;> rfl, by rw [ht]; exact hP, hD⟩, hS.F ht⟩) hS.2.2 dX3_undergo_81
        · obtain ⟨j81, hj81, hlj81, rfl⟩ := isC_of (by omega) c6
          refine lv_aload_n hx hb dX3_undergo_42 rfl (lv_at hl 0 rfl) ?_
          refine gf_X3_24 hx hb hG hown hKX hP 0 rfl rfl dX3_undergo_43 ?_
          refine lv_iload_n hx hb dX3_undergo_46 rfl (lv_at hl 2 rfl) ?_
          refine lv_iconst (v := (0 : Int32)) hx hb dX3_undergo_47 (by decide) ?_
          refine iast_n hx hb hKX hP hD hS 5 rfl rfl (by omega) (by decide) dX3_undergo_48 (fun H locs hP hD hS => ?_)
          have hP : va_P D vwCl (wX3 cy os os_kind os_limit os_retention os_quota (upd os_refers j81 (0 : Int32)) (nI n) os_lossNow) H := hP
          have hD : va_D A (wX3 cy os os_kind os_limit os_retention os_quota (upd os_refers j81 (0 : Int32)) (nI n) os_lossNow) := hD
          refine lv_goto (tgt := 81) hx hb dX3_undergo_49 (by decide) ?_
          exact W.vret hx hb hr (fun t ht hW => ⟨⟨(os_kind, os_limit, os_retention, os_quota, upd os_refers j81 (0 : Int32), os_lossNow), rfl, by unfold f_X3_undergo; (try simp only [hj81]); rw [if_neg c1, if_neg c2, if_pos c3, if_neg c6] <;> rfl, by rw [ht]; exact hP, hD⟩, hS.F ht⟩) hS.2.2 dX3_undergo_81
    · refine lv_aload_n hx hb dX3_undergo_18 rfl (lv_at hl 0 rfl) ?_
      refine lv_iload_n hx hb dX3_undergo_19 rfl (lv_at hl 2 rfl) ?_
      refine lv_iconst (v := (1 : Int32)) hx hb dX3_undergo_20 (by decide) ?_
      refine lv_iconst (v := (0 : Int32)) hx hb dX3_undergo_21 (by decide) ?_
      refine cRwV (q0 := 0) (ci := 3) mw30_5 mw7_11 mw7_12 mw2_2 mw7_13 rfl rfl hd_X3_change hx hb hml hown hG hKX (c_X3_change l D cy os os_kind os_limit os_retention os_quota os_refers os_lossNow v (1 : Int32) (0 : Int32) n hn) ⟨Nat.le_of_ble_eq_true rfl, Nat.le_of_ble_eq_true rfl⟩ ⟨Nat.zero_le _, Nat.zero_le _⟩ hP hD hS hA [0, 1, 2, 3, 4, 5] [] [0, 1, 2, 3, 4, 5] (wr := []) (wn := fun u22 => wX3 cy os u22.1 u22.2.1 u22.2.2.1 u22.2.2.2 os_refers (nI n) os_lossNow) rfl (by decide) rfl (by decide) (by decide) (fun _ => rfl) (by decide) rfl rfl hl.1 rfl (Nat.le_of_ble_eq_true rfl) dX3_undergo_22 (fun r22 u22 H locs hw22 hP hD hS => ?_)
      refine lv_pop hx hb dX3_undergo_25 rfl ?_
      refine lv_goto (tgt := 81) hx hb dX3_undergo_26 (by decide) ?_
      exact W.vret hx hb hr (fun t ht hW => ⟨⟨(u22.1, u22.2.1, u22.2.2.1, u22.2.2.2, os_refers, os_lossNow), rfl, by obtain rfl := congrArg Prod.fst hw22; obtain rfl := congrArg Prod.snd hw22; unfold f_X3_undergo; rw [if_neg c1, if_pos c2] <;> rfl, by rw [ht]; exact hP, hD⟩, hS.F ht⟩) hS.2.2 dX3_undergo_81
  · refine lv_aload_n hx hb dX3_undergo_4 rfl (lv_at hl 0 rfl) ?_
    refine lv_iload_n hx hb dX3_undergo_5 rfl (lv_at hl 2 rfl) ?_
    refine cRwV (q0 := 0) (ci := 3) mw30_4 mw9_5 mw9_6 mw2_2 mw9_7 rfl rfl hd_X3_changeLoss hx hb hml hown hG hKX (c_X3_changeLoss l D cy os os_kind os_limit os_retention os_quota os_refers (nI n) os_lossNow v) ⟨Nat.le_of_ble_eq_true rfl, Nat.le_of_ble_eq_true rfl⟩ ⟨Nat.zero_le _, Nat.zero_le _⟩ hP hD hS hA [0, 1, 2, 3, 4, 5] [] [0, 1, 2, 3, 4, 5] (wr := []) (wn := fun u6 => wX3 cy os os_kind os_limit os_retention os_quota os_refers (nI n) u6) rfl (by decide) rfl (by decide) (by decide) (fun _ => rfl) (by decide) rfl rfl hl.1 rfl (Nat.le_of_ble_eq_true rfl) dX3_undergo_6 (fun r6 u6 H locs hw6 hP hD hS => ?_)
    refine lv_pop hx hb dX3_undergo_9 rfl ?_
    refine lv_goto (tgt := 81) hx hb dX3_undergo_10 (by decide) ?_
    exact W.vret hx hb hr (fun t ht hW => ⟨⟨(os_kind, os_limit, os_retention, os_quota, os_refers, u6), rfl, by obtain rfl := congrArg Prod.fst hw6; obtain rfl := congrArg Prod.snd hw6; unfold f_X3_undergo; rw [if_pos c1] <;> rfl, by rw [ht]; exact hP, hD⟩, hS.F ht⟩) hS.2.2 dX3_undergo_81
def f_X3_copyFrom (os_kind : Nat → Int32) (os_limit : Nat → Int32) (os_retention : Nat → Int32) (os_quota : Nat → Int32) (os_refers : Nat → Int32) (ot_kind : Nat → Int32) (ot_limit : Nat → Int32) (ot_retention : Nat → Int32) (ot_quota : Nat → Int32) (ot_refers : Nat → Int32) (ot_lossNow : Int32) (m : Nat) : (Nat → Int32) × (Nat → Int32) × (Nat → Int32) × (Nat → Int32) × (Nat → Int32) × Nat × Int32 :=
  (va_cpy ot_kind os_kind 0 0 6, va_cpy ot_limit os_limit 0 0 6, va_cpy ot_retention os_retention 0 0 6, va_cpy ot_quota os_quota 0 0 6, va_cpy ot_refers os_refers 0 0 6, m, ot_lossNow)
set_option maxHeartbeats 4000000 in
set_option maxRecDepth 100000 in
theorem c_X3_copyFrom (l : Launch) (D : va_G) (cy : Nat → ClassId) (os : Nat → Nat) (ot : Nat → Nat) (os_kind : Nat → Int32) (os_limit : Nat → Int32) (os_retention : Nat → Int32) (os_quota : Nat → Int32) (os_refers : Nat → Int32) (os_size : Int32) (os_lossNow : Int32) (ot_kind : Nat → Int32) (ot_limit : Nat → Int32) (ot_retention : Nat → Int32) (ot_quota : Nat → Int32) (ot_refers : Nat → Int32) (ot_lossNow : Int32) (m : Nat) : RwV (S := (Nat → Int32) × (Nat → Int32) × (Nat → Int32) × (Nat → Int32) × (Nat → Int32) × Nat × Int32) l D cy yX3_copyFrom (.code yX3_copyFrom cX3_copyFrom 2 none) 1 ((wX3 cy os os_kind os_limit os_retention os_quota os_refers os_size os_lossNow) ++ (wX3 cy ot ot_kind ot_limit ot_retention ot_quota ot_refers (nI m) ot_lossNow)) [.ref (os 0), .ref (ot 0)] (fun u => u = f_X3_copyFrom os_kind os_limit os_retention os_quota os_refers ot_kind ot_limit ot_retention ot_quota ot_refers ot_lossNow m) (fun u => (wX3 cy os u.1 u.2.1 u.2.2.1 u.2.2.2.1 u.2.2.2.2.1 (nI u.2.2.2.2.2.1) u.2.2.2.2.2.2) ++ (wX3 cy ot ot_kind ot_limit ot_retention ot_quota ot_refers (nI m) ot_lossNow)) := by
  intro sz
  refine Met.ofW (cc := cX3_copyFrom) (maxL := 2) (ret := none) (by decide) rfl ?_
  intro pP eE s0 mM args below meth cC s₁ B hml hv
  obtain ⟨rfl, hsz, hP, hKX, hD0⟩ := hv
  have hx := B.exec
  have hb := B.bytes
  have hr := B.returns
  have hG := gw_hts (atoms_spec (ws := _) B.pre)
  have hown : s0.vm.findClass RX3 = some mM.cls := findClass_of_methodNamed B.named
  have hlocks := B.notSynchronized
  subst hsz
  have hD := hD0.self (sz := s0.heap.size)
  generalize hAe : va_A ((wX3 cy os os_kind os_limit os_retention os_quota os_refers os_size os_lossNow) ++ (wX3 cy ot ot_kind ot_limit ot_retention ot_quota ot_refers (nI m) ot_lossNow)) s0.heap.size = A at hD ⊢
  have hA : ∀ q : Nat, s0.heap.size ≤ q → A q := fun q h => by rw [← hAe]; exact Or.inr h
  have hS : va_S A s0.heap s0.heap [] := va_S.rf
  have hl := lv_entry ([.ref (os 0), .ref (ot 0)]) (n := 2) (Nat.le_of_ble_eq_true rfl)
  rw [lg_entry_eq]
  generalize (lg_sl ([.ref (os 0), .ref (ot 0)]) ++ List.replicate (2 - (lg_sl ([.ref (os 0), .ref (ot 0)])).length) Slot.unset).toArray = ls at hl ⊢
  have hl : lv_has ls 2 [(0, .ref (os 0)), (1, .ref (ot 0))] := hl
  refine lv_aload_n hx hb dX3_copyFrom_0 rfl (lv_at hl 1 rfl) ?_
  refine gf_X3_9 hx hb hG hown hKX hP 6 rfl rfl dX3_copyFrom_1 ?_
  refine lv_iconst (v := (0 : Int32)) hx hb dX3_copyFrom_4 (by decide) ?_
  refine lv_aload_n hx hb dX3_copyFrom_5 rfl (lv_at hl 0 rfl) ?_
  refine gf_X3_9 hx hb hG hown hKX hP 0 rfl rfl dX3_copyFrom_6 ?_
  refine lv_iconst (v := (0 : Int32)) hx hb dX3_copyFrom_9 (by decide) ?_
  refine lv_bipush (v := (6 : Int32)) hx hb dX3_copyFrom_10 (by decide) ?_
  refine copyi_n mw29_20 hx hb (hml.trans hl.1.symm) hG hown hKX hP hD hS 7 1 rfl rfl rfl rfl rfl (by decide) (by decide) (by decide) (by decide) mw29_21 mw29_22 mw29_23 (Nat.le_of_ble_eq_true rfl) (Nat.le_of_ble_eq_true rfl) dX3_copyFrom_12 (fun H locs hP hD hS => ?_)
  have hP : va_P D vwCl ((wX3 cy os (va_cpy ot_kind os_kind 0 0 6) os_limit os_retention os_quota os_refers os_size os_lossNow) ++ (wX3 cy ot ot_kind ot_limit ot_retention ot_quota ot_refers (nI m) ot_lossNow)) H := hP
  have hD : va_D A ((wX3 cy os (va_cpy ot_kind os_kind 0 0 6) os_limit os_retention os_quota os_refers os_size os_lossNow) ++ (wX3 cy ot ot_kind ot_limit ot_retention ot_quota ot_refers (nI m) ot_lossNow)) := hD
  refine lv_aload_n hx hb dX3_copyFrom_15 rfl (lv_at hl 1 rfl) ?_
  refine gf_X3_15 hx hb hG hown hKX hP 6 rfl rfl dX3_copyFrom_16 ?_
  refine lv_iconst (v := (0 : Int32)) hx hb dX3_copyFrom_19 (by decide) ?_
  refine lv_aload_n hx hb dX3_copyFrom_20 rfl (lv_at hl 0 rfl) ?_
  refine gf_X3_15 hx hb hG hown hKX hP 0 rfl rfl dX3_copyFrom_21 ?_
  refine lv_iconst (v := (0 : Int32)) hx hb dX3_copyFrom_24 (by decide) ?_
  refine lv_bipush (v := (6 : Int32)) hx hb dX3_copyFrom_25 (by decide) ?_
  refine copyi_n mw29_20 hx hb (hml.trans hl.1.symm) hG hown hKX hP hD hS 8 2 rfl rfl rfl rfl rfl (by decide) (by decide) (by decide) (by decide) mw29_21 mw29_22 mw29_23 (Nat.le_of_ble_eq_true rfl) (Nat.le_of_ble_eq_true rfl) dX3_copyFrom_27 (fun H locs hP hD hS => ?_)
  have hP : va_P D vwCl ((wX3 cy os (va_cpy ot_kind os_kind 0 0 6) (va_cpy ot_limit os_limit 0 0 6) os_retention os_quota os_refers os_size os_lossNow) ++ (wX3 cy ot ot_kind ot_limit ot_retention ot_quota ot_refers (nI m) ot_lossNow)) H := hP
  have hD : va_D A ((wX3 cy os (va_cpy ot_kind os_kind 0 0 6) (va_cpy ot_limit os_limit 0 0 6) os_retention os_quota os_refers os_size os_lossNow) ++ (wX3 cy ot ot_kind ot_limit ot_retention ot_quota ot_refers (nI m) ot_lossNow)) := hD
  refine lv_aload_n hx hb dX3_copyFrom_30 rfl (lv_at hl 1 rfl) ?_
  refine gf_X3_18 hx hb hG hown hKX hP 6 rfl rfl dX3_copyFrom_31 ?_
  refine lv_iconst (v := (0 : Int32)) hx hb dX3_copyFrom_34 (by decide) ?_
  refine lv_aload_n hx hb dX3_copyFrom_35 rfl (lv_at hl 0 rfl) ?_
  refine gf_X3_18 hx hb hG hown hKX hP 0 rfl rfl dX3_copyFrom_36 ?_
  refine lv_iconst (v := (0 : Int32)) hx hb dX3_copyFrom_39 (by decide) ?_
  refine lv_bipush (v := (6 : Int32)) hx hb dX3_copyFrom_40 (by decide) ?_
  refine copyi_n mw29_20 hx hb (hml.trans hl.1.symm) hG hown hKX hP hD hS 9 3 rfl rfl rfl rfl rfl (by decide) (by decide) (by decide) (by decide) mw29_21 mw29_22 mw29_23 (Nat.le_of_ble_eq_true rfl) (Nat.le_of_ble_eq_true rfl) dX3_copyFrom_42 (fun H locs hP hD hS => ?_)
  have hP : va_P D vwCl ((wX3 cy os (va_cpy ot_kind os_kind 0 0 6) (va_cpy ot_limit os_limit 0 0 6) (va_cpy ot_retention os_retention 0 0 6) os_quota os_refers os_size os_lossNow) ++ (wX3 cy ot ot_kind ot_limit ot_retention ot_quota ot_refers (nI m) ot_lossNow)) H := hP
  have hD : va_D A ((wX3 cy os (va_cpy ot_kind os_kind 0 0 6) (va_cpy ot_limit os_limit 0 0 6) (va_cpy ot_retention os_retention 0 0 6) os_quota os_refers os_size os_lossNow) ++ (wX3 cy ot ot_kind ot_limit ot_retention ot_quota ot_refers (nI m) ot_lossNow)) := hD
  refine lv_aload_n hx hb dX3_copyFrom_45 rfl (lv_at hl 1 rfl) ?_
  refine gf_X3_21 hx hb hG hown hKX hP 6 rfl rfl dX3_copyFrom_46 ?_
  refine lv_iconst (v := (0 : Int32)) hx hb dX3_copyFrom_49 (by decide) ?_
  refine lv_aload_n hx hb dX3_copyFrom_50 rfl (lv_at hl 0 rfl) ?_
  refine gf_X3_21 hx hb hG hown hKX hP 0 rfl rfl dX3_copyFrom_51 ?_
  refine lv_iconst (v := (0 : Int32)) hx hb dX3_copyFrom_54 (by decide) ?_
  refine lv_bipush (v := (6 : Int32)) hx hb dX3_copyFrom_55 (by decide) ?_
  refine copyi_n mw29_20 hx hb (hml.trans hl.1.symm) hG hown hKX hP hD hS 10 4 rfl rfl rfl rfl rfl (by decide) (by decide) (by decide) (by decide) mw29_21 mw29_22 mw29_23 (Nat.le_of_ble_eq_true rfl) (Nat.le_of_ble_eq_true rfl) dX3_copyFrom_57 (fun H locs hP hD hS => ?_)
  have hP : va_P D vwCl ((wX3 cy os (va_cpy ot_kind os_kind 0 0 6) (va_cpy ot_limit os_limit 0 0 6) (va_cpy ot_retention os_retention 0 0 6) (va_cpy ot_quota os_quota 0 0 6) os_refers os_size os_lossNow) ++ (wX3 cy ot ot_kind ot_limit ot_retention ot_quota ot_refers (nI m) ot_lossNow)) H := hP
  have hD : va_D A ((wX3 cy os (va_cpy ot_kind os_kind 0 0 6) (va_cpy ot_limit os_limit 0 0 6) (va_cpy ot_retention os_retention 0 0 6) (va_cpy ot_quota os_quota 0 0 6) os_refers os_size os_lossNow) ++ (wX3 cy ot ot_kind ot_limit ot_retention ot_quota ot_refers (nI m) ot_lossNow)) := hD
  refine lv_aload_n hx hb dX3_copyFrom_60 rfl (lv_at hl 1 rfl) ?_
  refine gf_X3_24 hx hb hG hown hKX hP 6 rfl rfl dX3_copyFrom_61 ?_
  refine lv_iconst (v := (0 : Int32)) hx hb dX3_copyFrom_64 (by decide) ?_
  refine lv_aload_n hx hb dX3_copyFrom_65 rfl (lv_at hl 0 rfl) ?_
  refine gf_X3_24 hx hb hG hown hKX hP 0 rfl rfl dX3_copyFrom_66 ?_
  refine lv_iconst (v := (0 : Int32)) hx hb dX3_copyFrom_69 (by decide) ?_
  refine lv_bipush (v := (6 : Int32)) hx hb dX3_copyFrom_70 (by decide) ?_
  refine copyi_n mw29_20 hx hb (hml.trans hl.1.symm) hG hown hKX hP hD hS 11 5 rfl rfl rfl rfl rfl (by decide) (by decide) (by decide) (by decide) mw29_21 mw29_22 mw29_23 (Nat.le_of_ble_eq_true rfl) (Nat.le_of_ble_eq_true rfl) dX3_copyFrom_72 (fun H locs hP hD hS => ?_)
  have hP : va_P D vwCl ((wX3 cy os (va_cpy ot_kind os_kind 0 0 6) (va_cpy ot_limit os_limit 0 0 6) (va_cpy ot_retention os_retention 0 0 6) (va_cpy ot_quota os_quota 0 0 6) (va_cpy ot_refers os_refers 0 0 6) os_size os_lossNow) ++ (wX3 cy ot ot_kind ot_limit ot_retention ot_quota ot_refers (nI m) ot_lossNow)) H := hP
  have hD : va_D A ((wX3 cy os (va_cpy ot_kind os_kind 0 0 6) (va_cpy ot_limit os_limit 0 0 6) (va_cpy ot_retention os_retention 0 0 6) (va_cpy ot_quota os_quota 0 0 6) (va_cpy ot_refers os_refers 0 0 6) os_size os_lossNow) ++ (wX3 cy ot ot_kind ot_limit ot_retention ot_quota ot_refers (nI m) ot_lossNow)) := hD
  refine lv_aload_n hx hb dX3_copyFrom_75 rfl (lv_at hl 0 rfl) ?_
  refine lv_aload_n hx hb dX3_copyFrom_76 rfl (lv_at hl 1 rfl) ?_
  refine gf_X3_27 hx hb hG hown hKX hP 6 rfl rfl dX3_copyFrom_77 ?_
  refine pf_X3_27 hx hb hG hown hKX hP hD hS 0 rfl rfl rfl (Nat.le_of_ble_eq_true rfl) dX3_copyFrom_80 (wn := (wX3 cy os (va_cpy ot_kind os_kind 0 0 6) (va_cpy ot_limit os_limit 0 0 6) (va_cpy ot_retention os_retention 0 0 6) (va_cpy ot_quota os_quota 0 0 6) (va_cpy ot_refers os_refers 0 0 6) (nI m) os_lossNow) ++ (wX3 cy ot ot_kind ot_limit ot_retention ot_quota ot_refers (nI m) ot_lossNow)) rfl (fun H locs hP hD hS => ?_)
  refine lv_aload_n hx hb dX3_copyFrom_83 rfl (lv_at hl 0 rfl) ?_
  refine lv_aload_n hx hb dX3_copyFrom_84 rfl (lv_at hl 1 rfl) ?_
  refine gf_X3_46 hx hb hG hown hKX hP 6 rfl rfl dX3_copyFrom_85 ?_
  refine pf_X3_46 hx hb hG hown hKX hP hD hS 0 rfl rfl rfl (Nat.le_of_ble_eq_true rfl) dX3_copyFrom_88 (wn := (wX3 cy os (va_cpy ot_kind os_kind 0 0 6) (va_cpy ot_limit os_limit 0 0 6) (va_cpy ot_retention os_retention 0 0 6) (va_cpy ot_quota os_quota 0 0 6) (va_cpy ot_refers os_refers 0 0 6) (nI m) ot_lossNow) ++ (wX3 cy ot ot_kind ot_limit ot_retention ot_quota ot_refers (nI m) ot_lossNow)) rfl (fun H locs hP hD hS => ?_)
  exact W.vret hx hb hr (fun t ht hW => ⟨⟨(va_cpy ot_kind os_kind 0 0 6, va_cpy ot_limit os_limit 0 0 6, va_cpy ot_retention os_retention 0 0 6, va_cpy ot_quota os_quota 0 0 6, va_cpy ot_refers os_refers 0 0 6, m, ot_lossNow), rfl, by unfold f_X3_copyFrom; rfl, by rw [ht]; exact hP, hD⟩, hS.F ht⟩) hS.2.2 dX3_copyFrom_91
