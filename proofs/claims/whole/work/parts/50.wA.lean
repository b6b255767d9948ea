set_option maxHeartbeats 4000000 in
set_option maxRecDepth 100000 in
theorem tJ6_bitCount_0f7a4 (l : Launch) (D : va_G) (cI cJ cG : ClassId)  (Hs : Heap) (y0 : Int32)  (out : Int32) (hf : fJ6_bitCount_0f7a4 y0 = some out) : Met l yJ6_bitCount_0f7a4 wsJ6_bitCount_0f7a4 ({ frames := 0, cells := 0, slots := 0, locals := 0 }) (va_Pc [.int y0] (rP D (tyL cI cJ cG) [] Hs)) (rQi out Hs) 0 0 (fun _ => False) := by
  refine Met.ofW (cc := cJ6_bitCount_0f7a4) (maxL := 1) (ret := (some .int)) (by decide) rfl ?_
  intro p e s m args below meth c s₁ B hml hv
  obtain ⟨rfl, rfl, hP, hK⟩ := hv
  have hx := B.exec
  have hb := B.bytes
  have hr := B.returns
  have hts := atoms_spec (ws := wsJ6_bitCount_0f7a4) B.pre
  have hown : s.vm.findClass RJ6 = some m.cls := findClass_of_methodNamed B.named
  have hlocks := B.notSynchronized
  have q265 := hts (.constant RJ6 265 1431655765) (by decide +kernel)
  have q266 := hts (.constant RJ6 266 858993459) (by decide +kernel)
  have q267 := hts (.constant RJ6 267 252645135) (by decide +kernel)
  have hS : va_S (fun _ => False) s.heap s.heap [] := va_S.rf
  have hl := lv_entry ([.int y0]) (n := 1) (Nat.le_of_ble_eq_true rfl)
  rw [lg_entry_eq]
  generalize (lg_sl ([.int y0]) ++ List.replicate (1 - (lg_sl ([.int y0])).length) Slot.unset).toArray = ls at hl ⊢
  have hl : lv_has ls 1 [(0, .int y0)] := hl
  generalize hQQ : MQ below _ _ s 0 0 _ = QQ
  replace hQQ := hQQ.symm
  unfold fJ6_bitCount_0f7a4 at hf
  refine lv_iload_n hx hb dJ6_bitCount_0f7a4_0 rfl (lv_at hl 0 rfl) ?_
  refine lv_iload_n hx hb dJ6_bitCount_0f7a4_1 rfl (lv_at hl 0 rfl) ?_
  refine lv_iconst (v := (1 : Int32)) hx hb dJ6_bitCount_0f7a4_2 (by decide) ?_
  refine lv_iushr hx hb dJ6_bitCount_0f7a4_3 rfl ?_
  refine lv_ldcw (v := 1431655765) hx hb hown q265 dJ6_bitCount_0f7a4_4 ?_
  refine lv_iand hx hb dJ6_bitCount_0f7a4_7 ?_
  refine lv_isub hx hb dJ6_bitCount_0f7a4_8 ?_
  refine lv_istore_n (lv' := [(0, .int (y0 - (((y0).toUInt32 >>> (((1 : Int32)).toUInt32 &&& Int32.toUInt32 31)).toInt32 &&& (1431655765 : Int32))))]) hx hb dJ6_bitCount_0f7a4_9 rfl hl (by decide) rfl (fun ls hl => ?_)
  refine lv_iload_n hx hb dJ6_bitCount_0f7a4_10 rfl (lv_at hl 0 rfl) ?_
  refine lv_ldcw (v := 858993459) hx hb hown q266 dJ6_bitCount_0f7a4_11 ?_
  refine lv_iand hx hb dJ6_bitCount_0f7a4_14 ?_
  refine lv_iload_n hx hb dJ6_bitCount_0f7a4_15 rfl (lv_at hl 0 rfl) ?_
  refine lv_iconst (v := (2 : Int32)) hx hb dJ6_bitCount_0f7a4_16 (by decide) ?_
  refine lv_iushr hx hb dJ6_bitCount_0f7a4_17 rfl ?_
  refine lv_ldcw (v := 858993459) hx hb hown q266 dJ6_bitCount_0f7a4_18 ?_
  refine lv_iand hx hb dJ6_bitCount_0f7a4_21 ?_
  refine lv_iadd hx hb dJ6_bitCount_0f7a4_22 ?_
  refine lv_istore_n (lv' := [(0, .int (((y0 - (((y0).toUInt32 >>> (((1 : Int32)).toUInt32 &&& Int32.toUInt32 31)).toInt32 &&& (1431655765 : Int32))) &&& (858993459 : Int32)) + ((((y0 - (((y0).toUInt32 >>> (((1 : Int32)).toUInt32 &&& Int32.toUInt32 31)).toInt32 &&& (1431655765 : Int32)))).toUInt32 >>> (((2 : Int32)).toUInt32 &&& Int32.toUInt32 31)).toInt32 &&& (858993459 : Int32))))]) hx hb dJ6_bitCount_0f7a4_23 rfl hl (by decide) rfl (fun ls hl => ?_)
  refine lv_iload_n hx hb dJ6_bitCount_0f7a4_24 rfl (lv_at hl 0 rfl) ?_
  refine lv_iload_n hx hb dJ6_bitCount_0f7a4_25 rfl (lv_at hl 0 rfl) ?_
  refine lv_iconst (v := (4 : Int32)) hx hb dJ6_bitCount_0f7a4_26 (by decide) ?_
  refine lv_iushr hx hb dJ6_bitCount_0f7a4_27 rfl ?_
  refine lv_iadd hx hb dJ6_bitCount_0f7a4_28 ?_
  refine lv_ldcw (v := 252645135) hx hb hown q267 dJ6_bitCount_0f7a4_29 ?_
  refine lv_iand hx hb dJ6_bitCount_0f7a4_32 ?_
  refine lv_istore_n (lv' := [(0, .int (((((y0 - (((y0).toUInt32 >>> (((1 : Int32)).toUInt32 &&& Int32.toUInt32 31)).toInt32 &&& (1431655765 : Int32))) &&& (858993459 : Int32)) + ((((y0 - (((y0).toUInt32 >>> (((1 : Int32)).toUInt32 &&& Int32.toUInt32 31)).toInt32 &&& (1431655765 : Int32)))).toUInt32 >>> (((2 : Int32)).toUInt32 &&& Int32.toUInt32 31)).toInt32 &&& (858993459 : Int32))) + (((((y0 - (((y0).toUInt32 >>> (((1 : Int32)).toUInt32 &&& Int32.toUInt32 31)).toInt32 &&& (1431655765 : Int32))) &&& (858993459 : Int32)) + ((((y0 - (((y0).toUInt32 >>> (((1 : Int32)).toUInt32 &&& Int32.toUInt32 31)).toInt32 &&& (1431655765 : Int32)))).toUInt32 >>> (((2 : Int32)).toUInt32 &&& Int32.toUInt32 31)).toInt32 &&& (858993459 : Int32)))).toUInt32 >>> (((4 : Int32)).toUInt32 &&& Int32.toUInt32 31)).toInt32) &&& (252645135 : Int32)))]) hx hb dJ6_bitCount_0f7a4_33 rfl hl (by decide) rfl (fun ls hl => ?_)
  refine lv_iload_n hx hb dJ6_bitCount_0f7a4_34 rfl (lv_at hl 0 rfl) ?_
  refine lv_iload_n hx hb dJ6_bitCount_0f7a4_35 rfl (lv_at hl 0 rfl) ?_
  refine lv_bipush (v := (8 : Int32)) hx hb dJ6_bitCount_0f7a4_36 (by decide) ?_
  refine lv_iushr hx hb dJ6_bitCount_0f7a4_38 rfl ?_
  refine lv_iadd hx hb dJ6_bitCount_0f7a4_39 ?_
  refine lv_istore_n (lv' := [(0, .int ((((((y0 - (((y0).toUInt32 >>> (((1 : Int32)).toUInt32 &&& Int32.toUInt32 31)).toInt32 &&& (1431655765 : Int32))) &&& (858993459 : Int32)) + ((((y0 - (((y0).toUInt32 >>> (((1 : Int32)).toUInt32 &&& Int32.toUInt32 31)).toInt32 &&& (1431655765 : Int32)))).toUInt32 >>> (((2 : Int32)).toUInt32 &&& Int32.toUInt32 31)).toInt32 &&& (858993459 : Int32))) + (((((y0 - (((y0).toUInt32 >>> (((1 : Int32)).toUInt32 &&& Int32.toUInt32 31)).toInt32 &&& (1431655765 : Int32))) &&& (858993459 : Int32)) + ((((y0 - (((y0).toUInt32 >>> (((1 : Int32)).toUInt32 &&& Int32.toUInt32 31)).toInt32 &&& (1431655765 : Int32)))).toUInt32 >>> (((2 : Int32)).toUInt32 &&& Int32.toUInt32 31)).toInt32 &&& (858993459 : Int32)))).toUInt32 >>> (((4 : Int32)).toUInt32 &&& Int32.toUInt32 31)).toInt32) &&& (252645135 : Int32)) + (((((((y0 - (((y0).toUInt32 >>> (((1 : Int32)).toUInt32 &&& Int32.toUInt32 31)).toInt32 &&& (1431655765 : Int32))) &&& (858993459 : Int32)) + ((((y0 - (((y0).toUInt32 >>> (((1 : Int32)).toUInt32 &&& Int32.toUInt32 31)).toInt32 &&& (1431655765 : Int32)))).toUInt32 >>> (((2 : Int32)).toUInt32 &&& Int32.toUInt32 31)).toInt32 &&& (858993459 : Int32))) + (((((y0 - (((y0).toUInt32 >>> (((1 : Int32)).toUInt32 &&& Int32.toUInt32 31)).toInt32 &&& (1431655765 : Int32))) &&& (858993459 : Int32)) + ((((y0 - (((y0).toUInt32 >>> (((1 : Int32)).toUInt32 &&& Int32.toUInt32 31)).toInt32 &&& (1431655765 : Int32)))).toUInt32 >>> (((2 : Int32)).toUInt32 &&& Int32.toUInt32 31)).toInt32 &&& (858993459 : Int32)))).toUInt32 >>> (((4 : Int32)).toUInt32 &&& Int32.toUInt32 31)).toInt32) &&& (252645135 : Int32))).toUInt32 >>> (((8 : Int32)).toUInt32 &&& Int32.toUInt32 31)).toInt32))]) hx hb dJ6_bitCount_0f7a4_40 rfl hl (by decide) rfl (fun ls hl => ?_)
  refine lv_iload_n hx hb dJ6_bitCount_0f7a4_41 rfl (lv_at hl 0 rfl) ?_
  refine lv_iload_n hx hb dJ6_bitCount_0f7a4_42 rfl (lv_at hl 0 rfl) ?_
  refine lv_bipush (v := (16 : Int32)) hx hb dJ6_bitCount_0f7a4_43 (by decide) ?_
  refine lv_iushr hx hb dJ6_bitCount_0f7a4_45 rfl ?_
  refine lv_iadd hx hb dJ6_bitCount_0f7a4_46 ?_
  refine lv_istore_n (lv' := [(0, .int (((((((y0 - (((y0).toUInt32 >>> (((1 : Int32)).toUInt32 &&& Int32.toUInt32 31)).toInt32 &&& (1431655765 : Int32))) &&& (858993459 : Int32)) + ((((y0 - (((y0).toUInt32 >>> (((1 : Int32)).toUInt32 &&& Int32.toUInt32 31)).toInt32 &&& (1431655765 : Int32)))).toUInt32 >>> (((2 : Int32)).toUInt32 &&& Int32.toUInt32 31)).toInt32 &&& (858993459 : Int32))) + (((((y0 - (((y0).toUInt32 >>> (((1 : Int32)).toUInt32 &&& Int32.toUInt32 31)).toInt32 &&& (1431655765 : Int32))) &&& (858993459 : Int32)) + ((((y0 - (((y0).toUInt32 >>> (((1 : Int32)).toUInt32 &&& Int32.toUInt32 31)).toInt32 &&& (1431655765 : Int32)))).toUInt32 >>> (((2 : Int32)).toUInt32 &&& Int32.toUInt32 31)).toInt32 &&& (858993459 : Int32)))).toUInt32 >>> (((4 : Int32)).toUInt32 &&& Int32.toUInt32 31)).toInt32) &&& (252645135 : Int32)) + (((((((y0 - (((y0).toUInt32 >>> (((1 : Int32)).toUInt32 &&& Int32.toUInt32 31)).toInt32 &&& (1431655765 : Int32))) &&& (858993459 : Int32)) + ((((y0 - (((y0).toUInt32 >>> (((1 : Int32)).toUInt32 &&& Int32.toUInt32 31)).toInt32 &&& (1431655765 : Int32)))).toUInt32 >>> (((2 : Int32)).toUInt32 &&& Int32.toUInt32 31)).toInt32 &&& (858993459 : Int32))) + (((((y0 - (((y0).toUInt32 >>> (((1 : Int32)).toUInt32 &&& Int32.toUInt32 31)).toInt32 &&& (1431655765 : Int32))) &&& (858993459 : Int32)) + ((((y0 - (((y0).toUInt32 >>> (((1 : Int32)).toUInt32 &&& Int32.toUInt32 31)).toInt32 &&& (1431655765 : Int32)))).toUInt32 >>> (((2 : Int32)).toUInt32 &&& Int32.toUInt32 31)).toInt32 &&& (858993459 : Int32)))).toUInt32 >>> (((4 : Int32)).toUInt32 &&& Int32.toUInt32 31)).toInt32) &&& (252645135 : Int32))).toUInt32 >>> (((8 : Int32)).toUInt32 &&& Int32.toUInt32 31)).toInt32) + ((((((((y0 - (((y0).toUInt32 >>> (((1 : Int32)).toUInt32 &&& Int32.toUInt32 31)).toInt32 &&& (1431655765 : Int32))) &&& (858993459 : Int32)) + ((((y0 - (((y0).toUInt32 >>> (((1 : Int32)).toUInt32 &&& Int32.toUInt32 31)).toInt32 &&& (1431655765 : Int32)))).toUInt32 >>> (((2 : Int32)).toUInt32 &&& Int32.toUInt32 31)).toInt32 &&& (858993459 : Int32))) + (((((y0 - (((y0).toUInt32 >>> (((1 : Int32)).toUInt32 &&& Int32.toUInt32 31)).toInt32 &&& (1431655765 : Int32))) &&& (858993459 : Int32)) + ((((y0 - (((y0).toUInt32 >>> (((1 : Int32)).toUInt32 &&& Int32.toUInt32 31)).toInt32 &&& (1431655765 : Int32)))).toUInt32 >>> (((2 : Int32)).toUInt32 &&& Int32.toUInt32 31)).toInt32 &&& (858993459 : Int32)))).toUInt32 >>> (((4 : Int32)).toUInt32 &&& Int32.toUInt32 31)).toInt32) &&& (252645135 : Int32)) + (((((((y0 - (((y0).toUInt32 >>> (((1 : Int32)).toUInt32 &&& Int32.toUInt32 31)).toInt32 &&& (1431655765 : Int32))) &&& (858993459 : Int32)) + ((((y0 - (((y0).toUInt32 >>> (((1 : Int32)).toUInt32 &&& Int32.toUInt32 31)).toInt32 &&& (1431655765 : Int32)))).toUInt32 >>> (((2 : Int32)).toUInt32 &&& Int32.toUInt32 31)).toInt32 &&& (858993459 : Int32))) + (((((y0 - (((y0).toUInt32 >>> (((1 : Int32)).toUInt32 &&& Int32.toUInt32 31)).toInt32 &&& (1431655765 : Int32))) &&& (858993459 : Int32)) + ((((y0 - (((y0).toUInt32 >>> (((1 : Int32)).toUInt32 &&& Int32.toUInt32 31)).toInt32 &&& (1431655765 : Int32)))).toUInt32 >>> (((2 : Int32)).toUInt32 &&& Int32.toUInt32 31)).toInt32 &&& (858993459 : Int32)))).toUInt32 >>> (((4 : Int32)).toUInt32 &&& Int32.toUInt32 31)).toInt32) &&& (252645135 : Int32))).toUInt32 >>> (((8 : Int32)).toUInt32 &&& Int32.toUInt32 31)).toInt32)).toUInt32 >>> (((16 : Int32)).toUInt32 &&& Int32.toUInt32 31)).toInt32))]) hx hb dJ6_bitCount_0f7a4_47 rfl hl (by decide) rfl (fun ls hl => ?_)
  refine lv_iload_n hx hb dJ6_bitCount_0f7a4_48 rfl (lv_at hl 0 rfl) ?_
  refine lv_bipush (v := (63 : Int32)) hx hb dJ6_bitCount_0f7a4_49 (by decide) ?_
  refine lv_iand hx hb dJ6_bitCount_0f7a4_51 ?_
  rw [hQQ]
  exact W.iret (v := ((((((((y0 - (((y0).toUInt32 >>> (((1 : Int32)).toUInt32 &&& Int32.toUInt32 31)).toInt32 &&& (1431655765 : Int32))) &&& (858993459 : Int32)) + ((((y0 - (((y0).toUInt32 >>> (((1 : Int32)).toUInt32 &&& Int32.toUInt32 31)).toInt32 &&& (1431655765 : Int32)))).toUInt32 >>> (((2 : Int32)).toUInt32 &&& Int32.toUInt32 31)).toInt32 &&& (858993459 : Int32))) + (((((y0 - (((y0).toUInt32 >>> (((1 : Int32)).toUInt32 &&& Int32.toUInt32 31)).toInt32 &&& (1431655765 : Int32))) &&& (858993459 : Int32)) + ((((y0 - (((y0).toUInt32 >>> (((1 : Int32)).toUInt32 &&& Int32.toUInt32 31)).toInt32 &&& (1431655765 : Int32)))).toUInt32 >>> (((2 : Int32)).toUInt32 &&& Int32.toUInt32 31)).toInt32 &&& (858993459 : Int32)))).toUInt32 >>> (((4 : Int32)).toUInt32 &&& Int32.toUInt32 31)).toInt32) &&& (252645135 : Int32)) + (((((((y0 - (((y0).toUInt32 >>> (((1 : Int32)).toUInt32 &&& Int32.toUInt32 31)).toInt32 &&& (1431655765 : Int32))) &&& (858993459 : Int32)) + ((((y0 - (((y0).toUInt32 >>> (((1 : Int32)).toUInt32 &&& Int32.toUInt32 31)).toInt32 &&& (1431655765 : Int32)))).toUInt32 >>> (((2 : Int32)).toUInt32 &&& Int32.toUInt32 31)).toInt32 &&& (858993459 : Int32))) + (((((y0 - (((y0).toUInt32 >>> (((1 : Int32)).toUInt32 &&& Int32.toUInt32 31)).toInt32 &&& (1431655765 : Int32))) &&& (858993459 : Int32)) + ((((y0 - (((y0).toUInt32 >>> (((1 : Int32)).toUInt32 &&& Int32.toUInt32 31)).toInt32 &&& (1431655765 : Int32)))).toUInt32 >>> (((2 : Int32)).toUInt32 &&& Int32.toUInt32 31)).toInt32 &&& (858993459 : Int32)))).toUInt32 >>> (((4 : Int32)).toUInt32 &&& Int32.toUInt32 31)).toInt32) &&& (252645135 : Int32))).toUInt32 >>> (((8 : Int32)).toUInt32 &&& Int32.toUInt32 31)).toInt32) + ((((((((y0 - (((y0).toUInt32 >>> (((1 : Int32)).toUInt32 &&& Int32.toUInt32 31)).toInt32 &&& (1431655765 : Int32))) &&& (858993459 : Int32)) + ((((y0 - (((y0).toUInt32 >>> (((1 : Int32)).toUInt32 &&& Int32.toUInt32 31)).toInt32 &&& (1431655765 : Int32)))).toUInt32 >>> (((2 : Int32)).toUInt32 &&& Int32.toUInt32 31)).toInt32 &&& (858993459 : Int32))) + (((((y0 - (((y0).toUInt32 >>> (((1 : Int32)).toUInt32 &&& Int32.toUInt32 31)).toInt32 &&& (1431655765 : Int32))) &&& (858993459 : Int32)) + ((((y0 - (((y0).toUInt32 >>> (((1 : Int32)).toUInt32 &&& Int32.toUInt32 31)).toInt32 &&& (1431655765 : Int32)))).toUInt32 >>> (((2 : Int32)).toUInt32 &&& Int32.toUInt32 31)).toInt32 &&& (858993459 : Int32)))).toUInt32 >>> (((4 : Int32)).toUInt32 &&& Int32.toUInt32 31)).toInt32) &&& (252645135 : Int32)) + (((((((y0 - (((y0).toUInt32 >>> (((1 : Int32)).toUInt32 &&& Int32.toUInt32 31)).toInt32 &&& (1431655765 : Int32))) &&& (858993459 : Int32)) + ((((y0 - (((y0).toUInt32 >>> (((1 : Int32)).toUInt32 &&& Int32.toUInt32 31)).toInt32 &&& (1431655765 : Int32)))).toUInt32 >>> (((2 : Int32)).toUInt32 &&& Int32.toUInt32 31)).toInt32 &&& (858993459 : Int32))) + (((((y0 - (((y0).toUInt32 >>> (((1 : Int32)).toUInt32 &&& Int32.toUInt32 31)).toInt32 &&& (1431655765 : Int32))) &&& (858993459 : Int32)) + ((((y0 - (((y0).toUInt32 >>> (((1 : Int32)).toUInt32 &&& Int32.toUInt32 31)).toInt32 &&& (1431655765 : Int32)))).toUInt32 >>> (((2 : Int32)).toUInt32 &&& Int32.toUInt32 31)).toInt32 &&& (858993459 : Int32)))).toUInt32 >>> (((4 : Int32)).toUInt32 &&& Int32.toUInt32 31)).toInt32) &&& (252645135 : Int32))).toUInt32 >>> (((8 : Int32)).toUInt32 &&& Int32.toUInt32 31)).toInt32)).toUInt32 >>> (((16 : Int32)).toUInt32 &&& Int32.toUInt32 31)).toInt32) &&& (63 : Int32))) hx hb hr (fun t ht hW => ⟨⟨((((((((y0 - (((y0).toUInt32 >>> (((1 : Int32)).toUInt32 &&& Int32.toUInt32 31)).toInt32 &&& (1431655765 : Int32))) &&& (858993459 : Int32)) + ((((y0 - (((y0).toUInt32 >>> (((1 : Int32)).toUInt32 &&& Int32.toUInt32 31)).toInt32 &&& (1431655765 : Int32)))).toUInt32 >>> (((2 : Int32)).toUInt32 &&& Int32.toUInt32 31)).toInt32 &&& (858993459 : Int32))) + (((((y0 - (((y0).toUInt32 >>> (((1 : Int32)).toUInt32 &&& Int32.toUInt32 31)).toInt32 &&& (1431655765 : Int32))) &&& (858993459 : Int32)) + ((((y0 - (((y0).toUInt32 >>> (((1 : Int32)).toUInt32 &&& Int32.toUInt32 31)).toInt32 &&& (1431655765 : Int32)))).toUInt32 >>> (((2 : Int32)).toUInt32 &&& Int32.toUInt32 31)).toInt32 &&& (858993459 : Int32)))).toUInt32 >>> (((4 : Int32)).toUInt32 &&& Int32.toUInt32 31)).toInt32) &&& (252645135 : Int32)) + (((((((y0 - (((y0).toUInt32 >>> (((1 : Int32)).toUInt32 &&& Int32.toUInt32 31)).toInt32 &&& (1431655765 : Int32))) &&& (858993459 : Int32)) + ((((y0 - (((y0).toUInt32 >>> (((1 : Int32)).toUInt32 &&& Int32.toUInt32 31)).toInt32 &&& (1431655765 : Int32)))).toUInt32 >>> (((2 : Int32)).toUInt32 &&& Int32.toUInt32 31)).toInt32 &&& (858993459 : Int32))) + (((((y0 - (((y0).toUInt32 >>> (((1 : Int32)).toUInt32 &&& Int32.toUInt32 31)).toInt32 &&& (1431655765 : Int32))) &&& (858993459 : Int32)) + ((((y0 - (((y0).toUInt32 >>> (((1 : Int32)).toUInt32 &&& Int32.toUInt32 31)).toInt32 &&& (1431655765 : Int32)))).toUInt32 >>> (((2 : Int32)).toUInt32 &&& Int32.toUInt32 31)).toInt32 &&& (858993459 : Int32)))).toUInt32 >>> (((4 : Int32)).toUInt32 &&& Int32.toUInt32 31)).toInt32) &&& (252645135 : Int32))).toUInt32 >>> (((8 : Int32)).toUInt32 &&& Int32.toUInt32 31)).toInt32) + ((((((((y0 - (((y0).toUInt32 >>> (((1 : Int32)).toUInt32 &&& Int32.toUInt32 31)).toInt32 &&& (1431655765 : Int32))) &&& (858993459 : Int32)) + ((((y0 - (((y0).toUInt32 >>> (((1 : Int32)).toUInt32 &&& Int32.toUInt32 31)).toInt32 &&& (1431655765 : Int32)))).toUInt32 >>> (((2 : Int32)).toUInt32 &&& Int32.toUInt32 31)).toInt32 &&& (858993459 : Int32))) + (((((y0 - (((y0).toUInt32 >>> (((1 : Int32)).toUInt32 &&& Int32.toUInt32 31)).toInt32 &&& (1431655765 : Int32))) &&& (858993459 : Int32)) + ((((y0 - (((y0).toUInt32 >>> (((1 : Int32)).toUInt32 &&& Int32.toUInt32 31)).toInt32 &&& (1431655765 : Int32)))).toUInt32 >>> (((2 : Int32)).toUInt32 &&& Int32.toUInt32 31)).toInt32 &&& (858993459 : Int32)))).toUInt32 >>> (((4 : Int32)).toUInt32 &&& Int32.toUInt32 31)).toInt32) &&& (252645135 : Int32)) + (((((((y0 - (((y0).toUInt32 >>> (((1 : Int32)).toUInt32 &&& Int32.toUInt32 31)).toInt32 &&& (1431655765 : Int32))) &&& (858993459 : Int32)) + ((((y0 - (((y0).toUInt32 >>> (((1 : Int32)).toUInt32 &&& Int32.toUInt32 31)).toInt32 &&& (1431655765 : Int32)))).toUInt32 >>> (((2 : Int32)).toUInt32 &&& Int32.toUInt32 31)).toInt32 &&& (858993459 : Int32))) + (((((y0 - (((y0).toUInt32 >>> (((1 : Int32)).toUInt32 &&& Int32.toUInt32 31)).toInt32 &&& (1431655765 : Int32))) &&& (858993459 : Int32)) + ((((y0 - (((y0).toUInt32 >>> (((1 : Int32)).toUInt32 &&& Int32.toUInt32 31)).toInt32 &&& (1431655765 : Int32)))).toUInt32 >>> (((2 : Int32)).toUInt32 &&& Int32.toUInt32 31)).toInt32 &&& (858993459 : Int32)))).toUInt32 >>> (((4 : Int32)).toUInt32 &&& Int32.toUInt32 31)).toInt32) &&& (252645135 : Int32))).toUInt32 >>> (((8 : Int32)).toUInt32 &&& Int32.toUInt32 31)).toInt32)).toUInt32 >>> (((16 : Int32)).toUInt32 &&& Int32.toUInt32 31)).toInt32) &&& (63 : Int32)), (), rfl, Option.some.inj hf, ht⟩, rF ht⟩) hS.2.2 dJ6_bitCount_0f7a4_52

set_option maxHeartbeats 4000000 in
set_option maxRecDepth 100000 in
theorem tJ7_fill_53178 (l : Launch) (D : va_G) (cI cJ cG : ClassId) (aR : Nat) (ln : Nat) (sz : Nat) (y1 : Int32) (R_ : (Nat → Int32)) (out : (Nat → Int32)) (hf : fJ7_fill_53178 ln y1 R_ = some out) : Met l yJ7_fill_53178 wsJ7_fill_53178 ({ frames := 0, cells := 0, slots := 0, locals := 0 }) (va_Pc [.ref aR, .int y1] (wP D (tyL cI cJ cG) [(aR, eI cI ln R_)] sz)) (wQv D  [(aR, eI cI ln R_)] [(aR, eI cI ln out)] sz) 0 0 (va_A [(aR, eI cI ln R_)] sz) := by
  refine Met.ofW (cc := cJ7_fill_53178) (maxL := 4) (ret := none) (by decide) rfl ?_
  intro p e s m args below meth c s₁ B hml hv
  obtain ⟨rfl, hsz, hP, hK, hD0⟩ := hv
  have hx := B.exec
  have hb := B.bytes
  have hr := B.returns
  have hts := atoms_spec (ws := wsJ7_fill_53178) B.pre
  have hown : s.vm.findClass RJ7 = some m.cls := findClass_of_methodNamed B.named
  have hlocks := B.notSynchronized
  subst hsz
  have hD := hD0.self (sz := s.heap.size)
  generalize hAe : va_A [(aR, eI cI ln R_)] s.heap.size = A at hD ⊢
  have hA : ∀ q : Nat, s.heap.size ≤ q → A q := fun q h => by rw [← hAe]; exact Or.inr h
  have hS : va_S A s.heap s.heap [] := va_S.rf
  have hl := lv_entry ([.ref aR, .int y1]) (n := 4) (Nat.le_of_ble_eq_true rfl)
  rw [lg_entry_eq]
  generalize (lg_sl ([.ref aR, .int y1]) ++ List.replicate (4 - (lg_sl ([.ref aR, .int y1])).length) Slot.unset).toArray = ls at hl ⊢
  have hl : lv_has ls 4 [(0, .ref aR), (1, .int y1)] := hl
  generalize hQQ : MQ below _ _ s 0 0 _ = QQ
  replace hQQ := hQQ.symm
  have b_5 : ∀ (n : Nat), ∀ (x1 : Int32) (x2 : Int32) (x3 : Int32) (R_ : (Nat → Int32)), fJ7_fill_53178_h5  n ln x1 x2 x3 R_ = some out → ∀ (H : Heap) (locs : List Loc) (ls : Array Slot), va_P D vwCl [(aR, eI cI ln R_)] H → va_D A [(aR, eI cI ln R_)] → va_S A s.heap H locs → lv_has ls 4 [(0, .ref aR), (1, .int x1), (2, .int x2), (3, .int x3)] → W p l e (headSpec wsJ7_fill_53178 { frames := 0, cells := 0, slots := 0, locals := 0 }).room s m ([.ref aR, .int y1] : List Value).toArray below meth c H locs 0 0 QQ (F0 m 5 ls []) := by
    intro  n
    induction n with
    | zero => intro x1 x2 x3 R_ hf; exact nomatch (show (none : Option ((Nat → Int32))) = some out from hf)
    | succ n ih =>
      intro x1 x2 x3 R_ hf H locs ls hP hD hS hl
      replace hf : uJ7_fill_53178_h5  (fJ7_fill_53178_h5  n) ln x1 x2 x3 R_ = some out := hf
      unfold uJ7_fill_53178_h5 at hf
      refine lv_iload_n hx hb dJ7_fill_53178_5 rfl (lv_at hl 2 rfl) ?_
      refine lv_iload_n hx hb dJ7_fill_53178_6 rfl (lv_at hl 3 rfl) ?_
      refine lv_icmp_ge (tgt := 20) hx hb dJ7_fill_53178_7 (by decide) (fun c7 => ?_) (fun c7 => ?_)
      · have hf := ifp hf c7
        rw [hQQ]
        exact W.vret hx hb hr (fun t ht hW => by rw [← Option.some.inj hf]; rw [← hAe] at hD hS; exact ⟨⟨(), rfl, trivial, by rw [ht]; exact hP, hD⟩, hS.F ht⟩) hS.2.2 dJ7_fill_53178_20
      · have hf := ifn hf c7
        refine lv_aload_n hx hb dJ7_fill_53178_10 rfl (lv_at hl 0 rfl) ?_
        refine lv_iload_n hx hb dJ7_fill_53178_11 rfl (lv_at hl 2 rfl) ?_
        refine lv_iload_n hx hb dJ7_fill_53178_12 rfl (lv_at hl 1 rfl) ?_
        refine ckE hf (fun h13 hf => ?_)
        refine va_iast hx hb hK.1 hP hD hS 0 0 rfl rfl (inB_in h13) dJ7_fill_53178_13 (fun H locs hP hD hS => ?_)
        have hP : va_P D vwCl [(aR, eI cI ln (upd R_ (x2).toNatClampNeg x1))] H := hP
        have hD : va_D A [(aR, eI cI ln (upd R_ (x2).toNatClampNeg x1))] := hD
        refine lv_iinc (v := (x2 + (1 : Int32))) (lv' := [(2, .int (x2 + (1 : Int32))), (0, .ref aR), (1, .int x1), (3, .int x3)]) hx hb dJ7_fill_53178_14 hl (k := 2) rfl rfl (by decide) rfl (fun ls hl => ?_)
        refine lv_goto (tgt := 5) hx hb dJ7_fill_53178_17 (by decide) ?_
        exact ih x1 (x2 + (1 : Int32)) x3 (upd R_ (x2).toNatClampNeg x1) hf _ _ _ hP hD hS (lv_sub hl [1, 2, 0, 3] rfl)
  generalize hHH : s.heap = H at hP ⊢
  have hS : va_S A s.heap H [] := by rw [← hHH]; exact va_S.rf
  generalize ([] : List Loc) = locs at hS ⊢
  unfold fJ7_fill_53178 at hf
  refine lv_iconst (v := (0 : Int32)) hx hb dJ7_fill_53178_0 (by decide) ?_
  refine lv_istore_n (lv' := [(2, .int (0 : Int32)), (0, .ref aR), (1, .int y1)]) hx hb dJ7_fill_53178_1 rfl hl (by decide) rfl (fun ls hl => ?_)
  refine lv_aload_n hx hb dJ7_fill_53178_2 rfl (lv_at hl 1 rfl) ?_
  refine va_alen (v := (Int32.ofNat ln)) hx hb hK.1 hP 0 0 rfl rfl rfl dJ7_fill_53178_3 ?_
  refine lv_istore_n (lv' := [(3, .int (Int32.ofNat ln)), (2, .int (0 : Int32)), (0, .ref aR), (1, .int y1)]) hx hb dJ7_fill_53178_4 rfl hl (by decide) rfl (fun ls hl => ?_)
  exact b_5 FU y1 (0 : Int32) (Int32.ofNat ln) R_ hf _ _ _ hP hD hS (lv_sub hl [2, 3, 1, 0] rfl)

set_option maxHeartbeats 4000000 in
set_option maxRecDepth 100000 in
theorem tX0_hasPlace (l : Launch) (D : va_G) (cI cJ cG : ClassId) (aA aA_row : Nat) (Hs : Heap) (y1 : Int32) (A_length : Int32) (out : Int32) (hf : fX0_hasPlace y1 A_length = some out) : Met l yX0_hasPlace wsX0_hasPlace ({ frames := 0, cells := 0, slots := 0, locals := 0 }) (va_Pc [.ref aA, .int y1] (rP D (tyL cI cJ cG) [(aA, .inr (0, [.ref aA_row, .int A_length]))] Hs)) (rQi out Hs) 0 0 (fun _ => False) := by
  refine Met.ofW (cc := cX0_hasPlace) (maxL := 2) (ret := (some .boolean)) (by decide) rfl ?_
  intro p e s m args below meth c s₁ B hml hv
  obtain ⟨rfl, rfl, hP, hK⟩ := hv
  have hx := B.exec
  have hb := B.bytes
  have hr := B.returns
  have hts := atoms_spec (ws := wsX0_hasPlace) B.pre
  have hown : s.vm.findClass RX0 = some m.cls := findClass_of_methodNamed B.named
  have hlocks := B.notSynchronized
  have iX0 : ∀ w ∈ wsX00, w ∈ wsX0_hasPlace := by decide +kernel
  have k15 := hts (.fieldLink RX0 15 "BlockMarker$Answer" "length" "I") (by decide +kernel)
  have hS : va_S (fun _ => False) s.heap s.heap [] := va_S.rf
  have hl := lv_entry ([.ref aA, .int y1]) (n := 2) (Nat.le_of_ble_eq_true rfl)
  rw [lg_entry_eq]
  generalize (lg_sl ([.ref aA, .int y1]) ++ List.replicate (2 - (lg_sl ([.ref aA, .int y1])).length) Slot.unset).toArray = ls at hl ⊢
  have hl : lv_has ls 2 [(0, .ref aA), (1, .int y1)] := hl
  generalize hQQ : MQ below _ _ s 0 0 _ = QQ
  replace hQQ := hQQ.symm
  unfold fX0_hasPlace at hf
  refine lv_iload_n hx hb dX0_hasPlace_0 rfl (lv_at hl 1 rfl) ?_
  refine lv_if_lt (tgt := 16) hx hb dX0_hasPlace_1 (by decide) (fun c1 => ?_) (fun c1 => ?_)
  · have hf := ifp hf c1
    refine lv_iconst (v := (0 : Int32)) hx hb dX0_hasPlace_16 (by decide) ?_
    rw [hQQ]
    exact W.zret (v := (0 : Int32)) hx hb hr rfl (fun t ht hW => ⟨⟨(0 : Int32), (), rfl, Option.some.inj hf, ht⟩, rF ht⟩) hS.2.2 dX0_hasPlace_17
  · have hf := ifn hf c1
    refine lv_iload_n hx hb dX0_hasPlace_4 rfl (lv_at hl 1 rfl) ?_
    refine lv_aload_n hx hb dX0_hasPlace_5 rfl (lv_at hl 0 rfl) ?_
    refine va_get (D := D) (ci := 0) (v := .int A_length) (C := RX0) (T := TX0) (N := 2) hx hb hts iX0 hown hK.1 hP 0 rfl rfl 1 (by decide) k15 (fun _ h9 => h9) rfl dX0_hasPlace_6 ?_
    refine lv_icmp_ge (tgt := 16) hx hb dX0_hasPlace_9 (by decide) (fun c9 => ?_) (fun c9 => ?_)
    · have hf := ifp hf c9
      refine lv_iconst (v := (0 : Int32)) hx hb dX0_hasPlace_16 (by decide) ?_
      rw [hQQ]
      exact W.zret (v := (0 : Int32)) hx hb hr rfl (fun t ht hW => ⟨⟨(0 : Int32), (), rfl, Option.some.inj hf, ht⟩, rF ht⟩) hS.2.2 dX0_hasPlace_17
    · have hf := ifn hf c9
      refine lv_iconst (v := (1 : Int32)) hx hb dX0_hasPlace_12 (by decide) ?_
      refine lv_goto (tgt := 17) hx hb dX0_hasPlace_13 (by decide) ?_
      rw [hQQ]
      exact W.zret (v := (1 : Int32)) hx hb hr rfl (fun t ht hW => ⟨⟨(1 : Int32), (), rfl, Option.some.inj hf, ht⟩, rF ht⟩) hS.2.2 dX0_hasPlace_17

set_option maxHeartbeats 4000000 in
set_option maxRecDepth 100000 in
theorem tX0_lineAt (l : Launch) (D : va_G) (cI cJ cG : ClassId) (aA aA_row : Nat) (Hs : Heap) (y1 : Int32) (A_length : Int32) (A_row : (Nat → Int32)) (out : Int32) (hf : fX0_lineAt y1 A_length A_row = some out) : Met l yX0_lineAt wsX0_lineAt ({ frames := 1, cells := 0, slots := 0, locals := 21 }) (va_Pc [.ref aA, .int y1] (rP D (tyL cI cJ cG) [(aA, .inr (0, [.ref aA_row, .int A_length])), (aA_row, eI cI 16 A_row)] Hs)) (rQi out Hs) 0 0 (fun _ => False) := by
  refine Met.ofW (cc := cX0_lineAt) (maxL := 2) (ret := (some .int)) (by decide) rfl ?_
  intro p e s m args below meth c s₁ B hml hv
  obtain ⟨rfl, rfl, hP, hK⟩ := hv
  have hx := B.exec
  have hb := B.bytes
  have hr := B.returns
  have hts := atoms_spec (ws := wsX0_lineAt) B.pre
  have hown : s.vm.findClass RX0 = some m.cls := findClass_of_methodNamed B.named
  have hlocks := B.notSynchronized
  have iX0 : ∀ w ∈ wsX00, w ∈ wsX0_lineAt := by decide +kernel
  have k9 := hts (.fieldLink RX0 9 "BlockMarker$Answer" "row" "[I") (by decide +kernel)
  have hS : va_S (fun _ => False) s.heap s.heap [] := va_S.rf
  have hl := lv_entry ([.ref aA, .int y1]) (n := 2) (Nat.le_of_ble_eq_true rfl)
  rw [lg_entry_eq]
  generalize (lg_sl ([.ref aA, .int y1]) ++ List.replicate (2 - (lg_sl ([.ref aA, .int y1])).length) Slot.unset).toArray = ls at hl ⊢
  have hl : lv_has ls 2 [(0, .ref aA), (1, .int y1)] := hl
  generalize hQQ : MQ below _ _ s 0 0 _ = QQ
  replace hQQ := hQQ.symm
  unfold fX0_lineAt at hf
  refine lv_aload_n hx hb dX0_lineAt_0 rfl (lv_at hl 0 rfl) ?_
  refine lv_iload_n hx hb dX0_lineAt_1 rfl (lv_at hl 1 rfl) ?_
  refine bnd hf (fun o2 e2 hf => ?_)
  refine rdVi (As := [.int y1]) (rest := []) ⟨hx, hb, hml, hown, hts⟩ (tX0_hasPlace l D cI cJ cG aA aA_row s.heap y1 A_length o2 e2) (cwV 1 hts gX0_lineAt_X0_hasPlace rfl rfl rfl (by decide +kernel) ⟨Nat.le_of_ble_eq_true rfl, Nat.le_of_ble_eq_true rfl⟩) (va_recv (ci := 0) (q0 := 0) hK.1 hP rfl rfl) hK (hP.sub (ws' := [(aA, .inr (0, [.ref aA_row, .int A_length]))]) [0] rfl) rfl hl.1 rfl (lv_room (Nat.le_of_ble_eq_true rfl)) dX0_lineAt_2 ⟨Nat.le_of_ble_eq_true rfl, Nat.le_of_ble_eq_true rfl⟩ hS (fun locs hS => ?_)
  refine lv_if_eq (tgt := 17) hx hb dX0_lineAt_5 (by decide) (fun c5 => ?_) (fun c5 => ?_)
  · have hf := ifp hf c5
    refine lv_iconst (v := (-1 : Int32)) hx hb dX0_lineAt_17 (by decide) ?_
    rw [hQQ]
    exact W.iret (v := (-1 : Int32)) hx hb hr (fun t ht hW => ⟨⟨(-1 : Int32), (), rfl, Option.some.inj hf, ht⟩, rF ht⟩) hS.2.2 dX0_lineAt_18
  · have hf := ifn hf c5
    refine lv_aload_n hx hb dX0_lineAt_8 rfl (lv_at hl 0 rfl) ?_
    refine va_get (D := D) (ci := 0) (v := .ref aA_row) (C := RX0) (T := TX0) (N := 2) hx hb hts iX0 hown hK.1 hP 0 rfl rfl 0 (by decide) k9 (fun _ h9 => h9) rfl dX0_lineAt_9 ?_
    refine lv_iload_n hx hb dX0_lineAt_12 rfl (lv_at hl 1 rfl) ?_
    refine ckE hf (fun h13 hf => ?_)
    refine va_iald hx hb hK.1 hP 1 0 rfl rfl (inB_in h13) dX0_lineAt_13 ?_
    refine lv_goto (tgt := 18) hx hb dX0_lineAt_14 (by decide) ?_
    rw [hQQ]
    exact W.iret (v := (A_row (y1).toNatClampNeg)) hx hb hr (fun t ht hW => ⟨⟨(A_row (y1).toNatClampNeg), (), rfl, Option.some.inj hf, ht⟩, rF ht⟩) hS.2.2 dX0_lineAt_18

set_option maxHeartbeats 4000000 in
set_option maxRecDepth 100000 in
theorem tX0_placeOf (l : Launch) (D : va_G) (cI cJ cG : ClassId) (aA aA_row : Nat) (Hs : Heap) (y1 : Int32) (A_length : Int32) (A_row : (Nat → Int32)) (out : Int32) (hf : fX0_placeOf y1 A_length A_row = some out) : Met l yX0_placeOf wsX0_placeOf ({ frames := 0, cells := 0, slots := 0, locals := 0 }) (va_Pc [.ref aA, .int y1] (rP D (tyL cI cJ cG) [(aA, .inr (0, [.ref aA_row, .int A_length])), (aA_row, eI cI 16 A_row)] Hs)) (rQi out Hs) 0 0 (fun _ => False) := by
  refine Met.ofW (cc := cX0_placeOf) (maxL := 3) (ret := (some .int)) (by decide) rfl ?_
  intro p e s m args below meth c s₁ B hml hv
  obtain ⟨rfl, rfl, hP, hK⟩ := hv
  have hx := B.exec
  have hb := B.bytes
  have hr := B.returns
  have hts := atoms_spec (ws := wsX0_placeOf) B.pre
  have hown : s.vm.findClass RX0 = some m.cls := findClass_of_methodNamed B.named
  have hlocks := B.notSynchronized
  have iX0 : ∀ w ∈ wsX00, w ∈ wsX0_placeOf := by decide +kernel
  have k9 := hts (.fieldLink RX0 9 "BlockMarker$Answer" "row" "[I") (by decide +kernel)
  have k15 := hts (.fieldLink RX0 15 "BlockMarker$Answer" "length" "I") (by decide +kernel)
  have hS : va_S (fun _ => False) s.heap s.heap [] := va_S.rf
  have hl := lv_entry ([.ref aA, .int y1]) (n := 3) (Nat.le_of_ble_eq_true rfl)
  rw [lg_entry_eq]
  generalize (lg_sl ([.ref aA, .int y1]) ++ List.replicate (3 - (lg_sl ([.ref aA, .int y1])).length) Slot.unset).toArray = ls at hl ⊢
  have hl : lv_has ls 3 [(0, .ref aA), (1, .int y1)] := hl
  generalize hQQ : MQ below _ _ s 0 0 _ = QQ
  replace hQQ := hQQ.symm
  have b_2 : ∀ (n : Nat), ∀ (x1 : Int32) (x2 : Int32), fX0_placeOf_h2  n x1 x2 A_length A_row = some out → ∀ (locs : List Loc) (ls : Array Slot), va_S (fun _ => False) s.heap s.heap locs → lv_has ls 3 [(0, .ref aA), (1, .int x1), (2, .int x2)] → W p l e (headSpec wsX0_placeOf { frames := 0, cells := 0, slots := 0, locals := 0 }).room s m ([.ref aA, .int y1] : List Value).toArray below meth c s.heap locs 0 0 QQ (F0 m 2 ls []) := by
    intro  n
    induction n with
    | zero => intro x1 x2 hf; exact nomatch (show (none : Option (Int32)) = some out from hf)
    | succ n ih =>
      intro x1 x2 hf locs ls hS hl
      replace hf : uX0_placeOf_h2  (fX0_placeOf_h2  n) x1 x2 A_length A_row = some out := hf
      unfold uX0_placeOf_h2 at hf
      refine lv_iload_n hx hb dX0_placeOf_2 rfl (lv_at hl 2 rfl) ?_
      refine lv_aload_n hx hb dX0_placeOf_3 rfl (lv_at hl 0 rfl) ?_
      refine va_get (D := D) (ci := 0) (v := .int A_length) (C := RX0) (T := TX0) (N := 2) hx hb hts iX0 hown hK.1 hP 0 rfl rfl 1 (by decide) k15 (fun _ h9 => h9) rfl dX0_placeOf_4 ?_
      refine lv_icmp_ge (tgt := 28) hx hb dX0_placeOf_7 (by decide) (fun c7 => ?_) (fun c7 => ?_)
      · have hf := ifp hf c7
        refine lv_iconst (v := (-1 : Int32)) hx hb dX0_placeOf_28 (by decide) ?_
        rw [hQQ]
        exact W.iret (v := (-1 : Int32)) hx hb hr (fun t ht hW => ⟨⟨(-1 : Int32), (), rfl, Option.some.inj hf, ht⟩, rF ht⟩) hS.2.2 dX0_placeOf_29
      · have hf := ifn hf c7
        refine lv_aload_n hx hb dX0_placeOf_10 rfl (lv_at hl 0 rfl) ?_
        refine va_get (D := D) (ci := 0) (v := .ref aA_row) (C := RX0) (T := TX0) (N := 2) hx hb hts iX0 hown hK.1 hP 0 rfl rfl 0 (by decide) k9 (fun _ h9 => h9) rfl dX0_placeOf_11 ?_
        refine lv_iload_n hx hb dX0_placeOf_14 rfl (lv_at hl 2 rfl) ?_
        refine ckE hf (fun h15 hf => ?_)
        refine va_iald hx hb hK.1 hP 1 0 rfl rfl (inB_in h15) dX0_placeOf_15 ?_
        refine lv_iload_n hx hb dX0_placeOf_16 rfl (lv_at hl 1 rfl) ?_
        refine lv_icmp_ne (tgt := 22) hx hb dX0_placeOf_17 (by decide) (fun c17 => ?_) (fun c17 => ?_)
        · have hf := ifn hf c17
          refine lv_iinc (v := (x2 + (1 : Int32))) (lv' := [(2, .int (x2 + (1 : Int32))), (0, .ref aA), (1, .int x1)]) hx hb dX0_placeOf_22 hl (k := 2) rfl rfl (by decide) rfl (fun ls hl => ?_)
          refine lv_goto (tgt := 2) hx hb dX0_placeOf_25 (by decide) ?_
          exact ih x1 (x2 + (1 : Int32)) hf _ _ hS (lv_sub hl [1, 2, 0] rfl)
        · have hf := ifp hf c17
          refine lv_iload_n hx hb dX0_placeOf_20 rfl (lv_at hl 2 rfl) ?_
          rw [hQQ]
          exact W.iret (v := x2) hx hb hr (fun t ht hW => ⟨⟨x2, (), rfl, Option.some.inj hf, ht⟩, rF ht⟩) hS.2.2 dX0_placeOf_21
  unfold fX0_placeOf at hf
  refine lv_iconst (v := (0 : Int32)) hx hb dX0_placeOf_0 (by decide) ?_
  refine lv_istore_n (lv' := [(2, .int (0 : Int32)), (0, .ref aA), (1, .int y1)]) hx hb dX0_placeOf_1 rfl hl (by decide) rfl (fun ls hl => ?_)
  exact b_2 FU y1 (0 : Int32) hf _ _ hS (lv_sub hl [1, 2, 0] rfl)

set_option maxHeartbeats 4000000 in
set_option maxRecDepth 100000 in
theorem tX0_holds (l : Launch) (D : va_G) (cI cJ cG : ClassId) (aA aA_row : Nat) (Hs : Heap) (y1 : Int32) (A_length : Int32) (A_row : (Nat → Int32)) (out : Int32) (hf : fX0_holds y1 A_length A_row = some out) : Met l yX0_holds wsX0_holds ({ frames := 1, cells := 0, slots := 0, locals := 22 }) (va_Pc [.ref aA, .int y1] (rP D (tyL cI cJ cG) [(aA, .inr (0, [.ref aA_row, .int A_length])), (aA_row, eI cI 16 A_row)] Hs)) (rQi out Hs) 0 0 (fun _ => False) := by
  refine Met.ofW (cc := cX0_holds) (maxL := 2) (ret := (some .boolean)) (by decide) rfl ?_
  intro p e s m args below meth c s₁ B hml hv
  obtain ⟨rfl, rfl, hP, hK⟩ := hv
  have hx := B.exec
  have hb := B.bytes
  have hr := B.returns
  have hts := atoms_spec (ws := wsX0_holds) B.pre
  have hown : s.vm.findClass RX0 = some m.cls := findClass_of_methodNamed B.named
  have hlocks := B.notSynchronized
  have hS : va_S (fun _ => False) s.heap s.heap [] := va_S.rf
  have hl := lv_entry ([.ref aA, .int y1]) (n := 2) (Nat.le_of_ble_eq_true rfl)
  rw [lg_entry_eq]
  generalize (lg_sl ([.ref aA, .int y1]) ++ List.replicate (2 - (lg_sl ([.ref aA, .int y1])).length) Slot.unset).toArray = ls at hl ⊢
  have hl : lv_has ls 2 [(0, .ref aA), (1, .int y1)] := hl
  generalize hQQ : MQ below _ _ s 0 0 _ = QQ
  replace hQQ := hQQ.symm
  unfold fX0_holds at hf
  refine lv_aload_n hx hb dX0_holds_0 rfl (lv_at hl 0 rfl) ?_
  refine lv_iload_n hx hb dX0_holds_1 rfl (lv_at hl 1 rfl) ?_
  refine bnd hf (fun o2 e2 hf => ?_)
  refine rdVi (As := [.int y1]) (rest := []) ⟨hx, hb, hml, hown, hts⟩ (tX0_placeOf l D cI cJ cG aA aA_row s.heap y1 A_length A_row o2 e2) (cwV 1 hts gX0_holds_X0_placeOf rfl rfl rfl (by decide +kernel) ⟨Nat.le_of_ble_eq_true rfl, Nat.le_of_ble_eq_true rfl⟩) (va_recv (ci := 0) (q0 := 0) hK.1 hP rfl rfl) hK (hP.sub (ws' := [(aA, .inr (0, [.ref aA_row, .int A_length])), (aA_row, eI cI 16 A_row)]) [0, 1] rfl) rfl hl.1 rfl (lv_room (Nat.le_of_ble_eq_true rfl)) dX0_holds_2 ⟨Nat.le_of_ble_eq_true rfl, Nat.le_of_ble_eq_true rfl⟩ hS (fun locs hS => ?_)
  refine lv_iconst (v := (-1 : Int32)) hx hb dX0_holds_5 (by decide) ?_
  refine lv_icmp_eq (tgt := 13) hx hb dX0_holds_6 (by decide) (fun c6 => ?_) (fun c6 => ?_)
  · have hf := ifp hf c6
    refine lv_iconst (v := (0 : Int32)) hx hb dX0_holds_13 (by decide) ?_
    rw [hQQ]
    exact W.zret (v := (0 : Int32)) hx hb hr rfl (fun t ht hW => ⟨⟨(0 : Int32), (), rfl, Option.some.inj hf, ht⟩, rF ht⟩) hS.2.2 dX0_holds_14
  · have hf := ifn hf c6
    refine lv_iconst (v := (1 : Int32)) hx hb dX0_holds_9 (by decide) ?_
    refine lv_goto (tgt := 14) hx hb dX0_holds_10 (by decide) ?_
    rw [hQQ]
    exact W.zret (v := (1 : Int32)) hx hb hr rfl (fun t ht hW => ⟨⟨(1 : Int32), (), rfl, Option.some.inj hf, ht⟩, rF ht⟩) hS.2.2 dX0_holds_14

set_option maxHeartbeats 4000000 in
set_option maxRecDepth 100000 in
theorem tX0_insert (l : Launch) (D : va_G) (cI cJ cG : ClassId) (aA aA_row : Nat) (sz : Nat) (y1 : Int32) (y2 : Int32) (A_length : Int32) (A_row : (Nat → Int32)) (out : Int32 × (Nat → Int32)) (hf : fX0_insert y1 y2 A_length A_row = some out) : Met l yX0_insert wsX0_insert ({ frames := 0, cells := 0, slots := 0, locals := 0 }) (va_Pc [.ref aA, .int y1, .int y2] (wP D (tyL cI cJ cG) [(aA, .inr (0, [.ref aA_row, .int A_length])), (aA_row, eI cI 16 A_row)] sz)) (wQv D  [(aA, .inr (0, [.ref aA_row, .int A_length])), (aA_row, eI cI 16 A_row)] [(aA, .inr (0, [.ref aA_row, .int out.1])), (aA_row, eI cI 16 out.2)] sz) 0 0 (va_A [(aA, .inr (0, [.ref aA_row, .int A_length])), (aA_row, eI cI 16 A_row)] sz) := by
  refine Met.ofW (cc := cX0_insert) (maxL := 4) (ret := none) (by decide) rfl ?_
  intro p e s m args below meth c s₁ B hml hv
  obtain ⟨rfl, hsz, hP, hK, hD0⟩ := hv
  have hx := B.exec
  have hb := B.bytes
  have hr := B.returns
  have hts := atoms_spec (ws := wsX0_insert) B.pre
  have hown : s.vm.findClass RX0 = some m.cls := findClass_of_methodNamed B.named
  have hlocks := B.notSynchronized
  have iX0 : ∀ w ∈ wsX00, w ∈ wsX0_insert := by decide +kernel
  have k9 := hts (.fieldLink RX0 9 "BlockMarker$Answer" "row" "[I") (by decide +kernel)
  have k15 := hts (.fieldLink RX0 15 "BlockMarker$Answer" "length" "I") (by decide +kernel)
  subst hsz
  have hD := hD0.self (sz := s.heap.size)
  generalize hAe : va_A [(aA, .inr (0, [.ref aA_row, .int A_length])), (aA_row, eI cI 16 A_row)] s.heap.size = A at hD ⊢
  have hA : ∀ q : Nat, s.heap.size ≤ q → A q := fun q h => by rw [← hAe]; exact Or.inr h
  have hS : va_S A s.heap s.heap [] := va_S.rf
  have hl := lv_entry ([.ref aA, .int y1, .int y2]) (n := 4) (Nat.le_of_ble_eq_true rfl)
  rw [lg_entry_eq]
  generalize (lg_sl ([.ref aA, .int y1, .int y2]) ++ List.replicate (4 - (lg_sl ([.ref aA, .int y1, .int y2])).length) Slot.unset).toArray = ls at hl ⊢
  have hl : lv_has ls 4 [(0, .ref aA), (1, .int y1), (2, .int y2)] := hl
  generalize hQQ : MQ below _ _ s 0 0 _ = QQ
  replace hQQ := hQQ.symm
  have b_27 : ∀ (n : Nat), ∀ (x1 : Int32) (x2 : Int32) (x3 : Int32) (A_length : Int32) (A_row : (Nat → Int32)), fX0_insert_h27  n x1 x2 x3 A_length A_row = some out → ∀ (H : Heap) (locs : List Loc) (ls : Array Slot), va_P D vwCl [(aA, .inr (0, [.ref aA_row, .int A_length])), (aA_row, eI cI 16 A_row)] H → va_D A [(aA, .inr (0, [.ref aA_row, .int A_length])), (aA_row, eI cI 16 A_row)] → va_S A s.heap H locs → lv_has ls 4 [(0, .ref aA), (1, .int x1), (2, .int x2), (3, .int x3)] → W p l e (headSpec wsX0_insert { frames := 0, cells := 0, slots := 0, locals := 0 }).room s m ([.ref aA, .int y1, .int y2] : List Value).toArray below meth c H locs 0 0 QQ (F0 m 27 ls []) := by
    intro  n
    induction n with
    | zero => intro x1 x2 x3 A_length A_row hf; exact nomatch (show (none : Option (Int32 × (Nat → Int32))) = some out from hf)
    | succ n ih =>
      intro x1 x2 x3 A_length A_row hf H locs ls hP hD hS hl
      replace hf : uX0_insert_h27  (fX0_insert_h27  n) x1 x2 x3 A_length A_row = some out := hf
      unfold uX0_insert_h27 at hf
      refine lv_iload_n hx hb dX0_insert_27 rfl (lv_at hl 3 rfl) ?_
      refine lv_iload_n hx hb dX0_insert_28 rfl (lv_at hl 2 rfl) ?_
      refine lv_icmp_le (tgt := 52) hx hb dX0_insert_29 (by decide) (fun c29 => ?_) (fun c29 => ?_)
      · have hf := ifp hf c29
        refine lv_aload_n hx hb dX0_insert_52 rfl (lv_at hl 0 rfl) ?_
        refine va_get (D := D) (ci := 0) (v := .ref aA_row) (C := RX0) (T := TX0) (N := 2) hx hb hts iX0 hown hK.1 hP 0 rfl rfl 0 (by decide) k9 (fun _ h9 => h9) rfl dX0_insert_53 ?_
        refine lv_iload_n hx hb dX0_insert_56 rfl (lv_at hl 2 rfl) ?_
        refine lv_iload_n hx hb dX0_insert_57 rfl (lv_at hl 1 rfl) ?_
        refine ckE hf (fun h58 hf => ?_)
        refine va_iast hx hb hK.1 hP hD hS 1 0 rfl rfl (inB_in h58) dX0_insert_58 (fun H locs hP hD hS => ?_)
        have hP : va_P D vwCl [(aA, .inr (0, [.ref aA_row, .int A_length])), (aA_row, eI cI 16 (upd A_row (x2).toNatClampNeg x1))] H := hP
        have hD : va_D A [(aA, .inr (0, [.ref aA_row, .int A_length])), (aA_row, eI cI 16 (upd A_row (x2).toNatClampNeg x1))] := hD
        refine lv_aload_n hx hb dX0_insert_59 rfl (lv_at hl 0 rfl) ?_
        refine lv_dup hx hb dX0_insert_60 rfl ?_
        refine va_get (D := D) (ci := 0) (v := .int A_length) (C := RX0) (T := TX0) (N := 2) hx hb hts iX0 hown hK.1 hP 0 rfl rfl 1 (by decide) k15 (fun _ h9 => h9) rfl dX0_insert_61 ?_
        refine lv_iconst (v := (1 : Int32)) hx hb dX0_insert_64 (by decide) ?_
        refine lv_iadd hx hb dX0_insert_65 ?_
        refine va_put (D := D) (ci := 0) (v := .int (A_length + (1 : Int32))) (ty := .int) (C := RX0) (T := TX0) (N := 2) hx hb hts iX0 tyX0 tyX0_ok nmX0 hown hK.1 hP hD hS 0 rfl rfl 1 (by decide) k15 (fun _ h9 => h9) rfl (by decide +kernel) rfl rfl (Nat.le_of_ble_eq_true rfl) dX0_insert_66 (fun H locs hP hD hS => ?_)
        have hP : va_P D vwCl [(aA, .inr (0, [.ref aA_row, .int (A_length + (1 : Int32))])), (aA_row, eI cI 16 (upd A_row (x2).toNatClampNeg x1))] H := hP
        have hD : va_D A [(aA, .inr (0, [.ref aA_row, .int (A_length + (1 : Int32))])), (aA_row, eI cI 16 (upd A_row (x2).toNatClampNeg x1))] := hD
        rw [hQQ]
        exact W.vret hx hb hr (fun t ht hW => by rw [← Option.some.inj hf]; rw [← hAe] at hD hS; exact ⟨⟨(), rfl, trivial, by rw [ht]; exact hP, hD⟩, hS.F ht⟩) hS.2.2 dX0_insert_69
      · have hf := ifn hf c29
        refine lv_aload_n hx hb dX0_insert_32 rfl (lv_at hl 0 rfl) ?_
        refine va_get (D := D) (ci := 0) (v := .ref aA_row) (C := RX0) (T := TX0) (N := 2) hx hb hts iX0 hown hK.1 hP 0 rfl rfl 0 (by decide) k9 (fun _ h9 => h9) rfl dX0_insert_33 ?_
        refine lv_iload_n hx hb dX0_insert_36 rfl (lv_at hl 3 rfl) ?_
        refine lv_aload_n hx hb dX0_insert_37 rfl (lv_at hl 0 rfl) ?_
        refine va_get (D := D) (ci := 0) (v := .ref aA_row) (C := RX0) (T := TX0) (N := 2) hx hb hts iX0 hown hK.1 hP 0 rfl rfl 0 (by decide) k9 (fun _ h9 => h9) rfl dX0_insert_38 ?_
        refine lv_iload_n hx hb dX0_insert_41 rfl (lv_at hl 3 rfl) ?_
        refine lv_iconst (v := (1 : Int32)) hx hb dX0_insert_42 (by decide) ?_
        refine lv_isub hx hb dX0_insert_43 ?_
        refine ckE hf (fun h44 hf => ?_)
        refine va_iald hx hb hK.1 hP 1 0 rfl rfl (inB_in h44) dX0_insert_44 ?_
        refine ckE hf (fun h45 hf => ?_)
        refine va_iast hx hb hK.1 hP hD hS 1 0 rfl rfl (inB_in h45) dX0_insert_45 (fun H locs hP hD hS => ?_)
        have hP : va_P D vwCl [(aA, .inr (0, [.ref aA_row, .int A_length])), (aA_row, eI cI 16 (upd A_row (x3).toNatClampNeg (A_row ((x3 - (1 : Int32))).toNatClampNeg)))] H := hP
        have hD : va_D A [(aA, .inr (0, [.ref aA_row, .int A_length])), (aA_row, eI cI 16 (upd A_row (x3).toNatClampNeg (A_row ((x3 - (1 : Int32))).toNatClampNeg)))] := hD
        refine lv_iinc (v := (x3 + (-1 : Int32))) (lv' := [(3, .int (x3 + (-1 : Int32))), (0, .ref aA), (1, .int x1), (2, .int x2)]) hx hb dX0_insert_46 hl (k := 3) rfl rfl (by decide) rfl (fun ls hl => ?_)
        refine lv_goto (tgt := 27) hx hb dX0_insert_49 (by decide) ?_
        exact ih x1 x2 (x3 + (-1 : Int32)) A_length (upd A_row (x3).toNatClampNeg (A_row ((x3 - (1 : Int32))).toNatClampNeg)) hf _ _ _ hP hD hS (lv_sub hl [1, 2, 3, 0] rfl)
  generalize hHH : s.heap = H at hP ⊢
  have hS : va_S A s.heap H [] := by rw [← hHH]; exact va_S.rf
  generalize ([] : List Loc) = locs at hS ⊢
  unfold fX0_insert at hf
  refine lv_aload_n hx hb dX0_insert_0 rfl (lv_at hl 0 rfl) ?_
  refine va_get (D := D) (ci := 0) (v := .int A_length) (C := RX0) (T := TX0) (N := 2) hx hb hts iX0 hown hK.1 hP 0 rfl rfl 1 (by decide) k15 (fun _ h9 => h9) rfl dX0_insert_1 ?_
  refine lv_bipush (v := (16 : Int32)) hx hb dX0_insert_4 (by decide) ?_
  refine lv_icmp_ge (tgt := 21) hx hb dX0_insert_6 (by decide) (fun c6 => ?_) (fun c6 => ?_)
  · have hf := ifp hf c6
    rw [hQQ]
    exact W.vret hx hb hr (fun t ht hW => by rw [← Option.some.inj hf]; rw [← hAe] at hD hS; exact ⟨⟨(), rfl, trivial, by rw [ht]; exact hP, hD⟩, hS.F ht⟩) hS.2.2 dX0_insert_21
  · have hf := ifn hf c6
    refine lv_iload_n hx hb dX0_insert_9 rfl (lv_at hl 2 rfl) ?_
    refine lv_if_lt (tgt := 21) hx hb dX0_insert_10 (by decide) (fun c10 => ?_) (fun c10 => ?_)
    · have hf := ifp hf c10
      rw [hQQ]
      exact W.vret hx hb hr (fun t ht hW => by rw [← Option.some.inj hf]; rw [← hAe] at hD hS; exact ⟨⟨(), rfl, trivial, by rw [ht]; exact hP, hD⟩, hS.F ht⟩) hS.2.2 dX0_insert_21
    · have hf := ifn hf c10
      refine lv_iload_n hx hb dX0_insert_13 rfl (lv_at hl 2 rfl) ?_
      refine lv_aload_n hx hb dX0_insert_14 rfl (lv_at hl 0 rfl) ?_
      refine va_get (D := D) (ci := 0) (v := .int A_length) (C := RX0) (T := TX0) (N := 2) hx hb hts iX0 hown hK.1 hP 0 rfl rfl 1 (by decide) k15 (fun _ h9 => h9) rfl dX0_insert_15 ?_
      refine lv_icmp_le (tgt := 22) hx hb dX0_insert_18 (by decide) (fun c18 => ?_) (fun c18 => ?_)
      · have hf := ifp hf c18
        refine lv_aload_n hx hb dX0_insert_22 rfl (lv_at hl 0 rfl) ?_
        refine va_get (D := D) (ci := 0) (v := .int A_length) (C := RX0) (T := TX0) (N := 2) hx hb hts iX0 hown hK.1 hP 0 rfl rfl 1 (by decide) k15 (fun _ h9 => h9) rfl dX0_insert_23 ?_
        refine lv_istore_n (lv' := [(3, .int A_length), (0, .ref aA), (1, .int y1), (2, .int y2)]) hx hb dX0_insert_26 rfl hl (by decide) rfl (fun ls hl => ?_)
        exact b_27 FU y1 y2 A_length A_length A_row hf _ _ _ hP hD hS (lv_sub hl [1, 2, 3, 0] rfl)
      · have hf := ifn hf c18
        rw [hQQ]
        exact W.vret hx hb hr (fun t ht hW => by rw [← Option.some.inj hf]; rw [← hAe] at hD hS; exact ⟨⟨(), rfl, trivial, by rw [ht]; exact hP, hD⟩, hS.F ht⟩) hS.2.2 dX0_insert_21

set_option maxHeartbeats 4000000 in
set_option maxRecDepth 100000 in
theorem tX0_remove (l : Launch) (D : va_G) (cI cJ cG : ClassId) (aA aA_row : Nat) (sz : Nat) (y1 : Int32) (A_length : Int32) (A_row : (Nat → Int32)) (out : Int32 × Int32 × (Nat → Int32)) (hf : fX0_remove y1 A_length A_row = some out) : Met l yX0_remove wsX0_remove ({ frames := 1, cells := 0, slots := 0, locals := 21 }) (va_Pc [.ref aA, .int y1] (wP D (tyL cI cJ cG) [(aA, .inr (0, [.ref aA_row, .int A_length])), (aA_row, eI cI 16 A_row)] sz)) (wQi D out.1 [(aA, .inr (0, [.ref aA_row, .int A_length])), (aA_row, eI cI 16 A_row)] [(aA, .inr (0, [.ref aA_row, .int out.2.1])), (aA_row, eI cI 16 out.2.2)] sz) 0 0 (va_A [(aA, .inr (0, [.ref aA_row, .int A_length])), (aA_row, eI cI 16 A_row)] sz) := by
  refine Met.ofW (cc := cX0_remove) (maxL := 4) (ret := (some .int)) (by decide) rfl ?_
  intro p e s m args below meth c s₁ B hml hv
  obtain ⟨rfl, hsz, hP, hK, hD0⟩ := hv
  have hx := B.exec
  have hb := B.bytes
  have hr := B.returns
  have hts := atoms_spec (ws := wsX0_remove) B.pre
  have hown : s.vm.findClass RX0 = some m.cls := findClass_of_methodNamed B.named
  have hlocks := B.notSynchronized
  have iX0 : ∀ w ∈ wsX00, w ∈ wsX0_remove := by decide +kernel
  have k9 := hts (.fieldLink RX0 9 "BlockMarker$Answer" "row" "[I") (by decide +kernel)
  have k15 := hts (.fieldLink RX0 15 "BlockMarker$Answer" "length" "I") (by decide +kernel)
  subst hsz
  have hD := hD0.self (sz := s.heap.size)
  generalize hAe : va_A [(aA, .inr (0, [.ref aA_row, .int A_length])), (aA_row, eI cI 16 A_row)] s.heap.size = A at hD ⊢
  have hA : ∀ q : Nat, s.heap.size ≤ q → A q := fun q h => by rw [← hAe]; exact Or.inr h
  have hS : va_S A s.heap s.heap [] := va_S.rf
  have hl := lv_entry ([.ref aA, .int y1]) (n := 4) (Nat.le_of_ble_eq_true rfl)
  rw [lg_entry_eq]
  generalize (lg_sl ([.ref aA, .int y1]) ++ List.replicate (4 - (lg_sl ([.ref aA, .int y1])).length) Slot.unset).toArray = ls at hl ⊢
  have hl : lv_has ls 4 [(0, .ref aA), (1, .int y1)] := hl
  generalize hQQ : MQ below _ _ s 0 0 _ = QQ
  replace hQQ := hQQ.symm
  have b_29 : ∀ (n : Nat), ∀ (x2 : Int32) (x3 : Int32) (A_length : Int32) (A_row : (Nat → Int32)), fX0_remove_h29  n x2 x3 A_length A_row = some out → ∀ (H : Heap) (locs : List Loc) (ls : Array Slot), va_P D vwCl [(aA, .inr (0, [.ref aA_row, .int A_length])), (aA_row, eI cI 16 A_row)] H → va_D A [(aA, .inr (0, [.ref aA_row, .int A_length])), (aA_row, eI cI 16 A_row)] → va_S A s.heap H locs → lv_has ls 4 [(0, .ref aA), (2, .int x2), (3, .int x3)] → W p l e (headSpec wsX0_remove { frames := 1, cells := 0, slots := 0, locals := 21 }).room s m ([.ref aA, .int y1] : List Value).toArray below meth c H locs 0 0 QQ (F0 m 29 ls []) := by
    intro  n
    induction n with
    | zero => intro x2 x3 A_length A_row hf; exact nomatch (show (none : Option (Int32 × Int32 × (Nat → Int32))) = some out from hf)
    | succ n ih =>
      intro x2 x3 A_length A_row hf H locs ls hP hD hS hl
      replace hf : uX0_remove_h29  (fX0_remove_h29  n) x2 x3 A_length A_row = some out := hf
      unfold uX0_remove_h29 at hf
      refine lv_iload_n hx hb dX0_remove_29 rfl (lv_at hl 2 rfl) ?_
      refine lv_aload_n hx hb dX0_remove_30 rfl (lv_at hl 0 rfl) ?_
      refine va_get (D := D) (ci := 0) (v := .int A_length) (C := RX0) (T := TX0) (N := 2) hx hb hts iX0 hown hK.1 hP 0 rfl rfl 1 (by decide) k15 (fun _ h9 => h9) rfl dX0_remove_31 ?_
      refine lv_icmp_ge (tgt := 57) hx hb dX0_remove_34 (by decide) (fun c34 => ?_) (fun c34 => ?_)
      · have hf := ifp hf c34
        refine lv_iload_n hx hb dX0_remove_57 rfl (lv_at hl 1 rfl) ?_
        rw [hQQ]
        exact W.iret (v := x2) hx hb hr (fun t ht hW => by rw [← Option.some.inj hf]; rw [← hAe] at hD hS; exact ⟨⟨x2, (), rfl, rfl, by rw [ht]; exact hP, hD⟩, hS.F ht⟩) hS.2.2 dX0_remove_58
      · have hf := ifn hf c34
        refine lv_aload_n hx hb dX0_remove_37 rfl (lv_at hl 0 rfl) ?_
        refine va_get (D := D) (ci := 0) (v := .ref aA_row) (C := RX0) (T := TX0) (N := 2) hx hb hts iX0 hown hK.1 hP 0 rfl rfl 0 (by decide) k9 (fun _ h9 => h9) rfl dX0_remove_38 ?_
        refine lv_iload_n hx hb dX0_remove_41 rfl (lv_at hl 2 rfl) ?_
        refine lv_aload_n hx hb dX0_remove_42 rfl (lv_at hl 0 rfl) ?_
        refine va_get (D := D) (ci := 0) (v := .ref aA_row) (C := RX0) (T := TX0) (N := 2) hx hb hts iX0 hown hK.1 hP 0 rfl rfl 0 (by decide) k9 (fun _ h9 => h9) rfl dX0_remove_43 ?_
        refine lv_iload_n hx hb dX0_remove_46 rfl (lv_at hl 2 rfl) ?_
        refine lv_iconst (v := (1 : Int32)) hx hb dX0_remove_47 (by decide) ?_
        refine lv_iadd hx hb dX0_remove_48 ?_
        refine ckE hf (fun h49 hf => ?_)
        refine va_iald hx hb hK.1 hP 1 0 rfl rfl (inB_in h49) dX0_remove_49 ?_
        refine ckE hf (fun h50 hf => ?_)
        refine va_iast hx hb hK.1 hP hD hS 1 0 rfl rfl (inB_in h50) dX0_remove_50 (fun H locs hP hD hS => ?_)
        have hP : va_P D vwCl [(aA, .inr (0, [.ref aA_row, .int A_length])), (aA_row, eI cI 16 (upd A_row (x3).toNatClampNeg (A_row ((x3 + (1 : Int32))).toNatClampNeg)))] H := hP
        have hD : va_D A [(aA, .inr (0, [.ref aA_row, .int A_length])), (aA_row, eI cI 16 (upd A_row (x3).toNatClampNeg (A_row ((x3 + (1 : Int32))).toNatClampNeg)))] := hD
        refine lv_iinc (v := (x3 + (1 : Int32))) (lv' := [(3, .int (x3 + (1 : Int32))), (0, .ref aA), (2, .int x2)]) hx hb dX0_remove_51 hl (k := 2) rfl rfl (by decide) rfl (fun ls hl => ?_)
        refine lv_goto (tgt := 29) hx hb dX0_remove_54 (by decide) ?_
        exact ih x2 (x3 + (1 : Int32)) A_length (upd A_row (x3).toNatClampNeg (A_row ((x3 + (1 : Int32))).toNatClampNeg)) hf _ _ _ hP hD hS (lv_sub hl [1, 2, 0] rfl)
  generalize hHH : s.heap = H at hP ⊢
  have hS : va_S A s.heap H [] := by rw [← hHH]; exact va_S.rf
  generalize ([] : List Loc) = locs at hS ⊢
  unfold fX0_remove at hf
  refine lv_aload_n hx hb dX0_remove_0 rfl (lv_at hl 0 rfl) ?_
  refine lv_iload_n hx hb dX0_remove_1 rfl (lv_at hl 1 rfl) ?_
  refine bnd hf (fun o2 e2 hf => ?_)
  refine rdVi (As := [.int y1]) (rest := []) ⟨hx, hb, hml, hown, hts⟩ (tX0_hasPlace l D cI cJ cG aA aA_row H y1 A_length o2 e2) (cwV 1 hts gX0_remove_X0_hasPlace rfl rfl rfl (by decide +kernel) ⟨Nat.le_of_ble_eq_true rfl, Nat.le_of_ble_eq_true rfl⟩) (va_recv (ci := 0) (q0 := 0) hK.1 hP rfl rfl) hK (hP.sub (ws' := [(aA, .inr (0, [.ref aA_row, .int A_length]))]) [0] rfl) rfl hl.1 rfl (lv_room (Nat.le_of_ble_eq_true rfl)) dX0_remove_2 ⟨Nat.le_of_ble_eq_true rfl, Nat.le_of_ble_eq_true rfl⟩ hS (fun locs hS => ?_)
  refine lv_if_ne (tgt := 10) hx hb dX0_remove_5 (by decide) (fun c5 => ?_) (fun c5 => ?_)
  · have hf := ifn hf c5
    refine lv_aload_n hx hb dX0_remove_10 rfl (lv_at hl 0 rfl) ?_
    refine va_get (D := D) (ci := 0) (v := .ref aA_row) (C := RX0) (T := TX0) (N := 2) hx hb hts iX0 hown hK.1 hP 0 rfl rfl 0 (by decide) k9 (fun _ h9 => h9) rfl dX0_remove_11 ?_
    refine lv_iload_n hx hb dX0_remove_14 rfl (lv_at hl 1 rfl) ?_
    refine ckE hf (fun h15 hf => ?_)
    refine va_iald hx hb hK.1 hP 1 0 rfl rfl (inB_in h15) dX0_remove_15 ?_
    refine lv_istore_n (lv' := [(2, .int (A_row (y1).toNatClampNeg)), (0, .ref aA), (1, .int y1)]) hx hb dX0_remove_16 rfl hl (by decide) rfl (fun ls hl => ?_)
    refine lv_aload_n hx hb dX0_remove_17 rfl (lv_at hl 1 rfl) ?_
    refine lv_dup hx hb dX0_remove_18 rfl ?_
    refine va_get (D := D) (ci := 0) (v := .int A_length) (C := RX0) (T := TX0) (N := 2) hx hb hts iX0 hown hK.1 hP 0 rfl rfl 1 (by decide) k15 (fun _ h9 => h9) rfl dX0_remove_19 ?_
    refine lv_iconst (v := (1 : Int32)) hx hb dX0_remove_22 (by decide) ?_
    refine lv_isub hx hb dX0_remove_23 ?_
    refine va_put (D := D) (ci := 0) (v := .int (A_length - (1 : Int32))) (ty := .int) (C := RX0) (T := TX0) (N := 2) hx hb hts iX0 tyX0 tyX0_ok nmX0 hown hK.1 hP hD hS 0 rfl rfl 1 (by decide) k15 (fun _ h9 => h9) rfl (by decide +kernel) rfl rfl (Nat.le_of_ble_eq_true rfl) dX0_remove_24 (fun H locs hP hD hS => ?_)
    have hP : va_P D vwCl [(aA, .inr (0, [.ref aA_row, .int (A_length - (1 : Int32))])), (aA_row, eI cI 16 A_row)] H := hP
    have hD : va_D A [(aA, .inr (0, [.ref aA_row, .int (A_length - (1 : Int32))])), (aA_row, eI cI 16 A_row)] := hD
    refine lv_iload_n hx hb dX0_remove_27 rfl (lv_at hl 2 rfl) ?_
    refine lv_istore_n (lv' := [(3, .int y1), (2, .int (A_row (y1).toNatClampNeg)), (0, .ref aA), (1, .int y1)]) hx hb dX0_remove_28 rfl hl (by decide) rfl (fun ls hl => ?_)
    exact b_29 FU (A_row (y1).toNatClampNeg) y1 (A_length - (1 : Int32)) A_row hf _ _ _ hP hD hS (lv_sub hl [2, 1, 0] rfl)
  · have hf := ifp hf c5
    refine lv_iconst (v := (-1 : Int32)) hx hb dX0_remove_8 (by decide) ?_
    rw [hQQ]
    exact W.iret (v := (-1 : Int32)) hx hb hr (fun t ht hW => by rw [← Option.some.inj hf]; rw [← hAe] at hD hS; exact ⟨⟨(-1 : Int32), (), rfl, rfl, by rw [ht]; exact hP, hD⟩, hS.F ht⟩) hS.2.2 dX0_remove_9

