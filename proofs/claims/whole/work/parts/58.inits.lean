set_option maxHeartbeats 400000 in
set_option maxRecDepth 100000 in
theorem tX0_init (l : Launch) (D : va_G) (cI cJ cG : ClassId) (h0  : Nat) (sz : Nat)  : Met l yX0_init wsX0_init ({ frames := 1, cells := 1, slots := 16, locals := 12 }) (va_Pc [.ref h0] (wP D (tyL cI cJ cG) [(h0, .inr (0, [.null, .int 0]))] sz)) (wQn D [(h0, .inr (0, [.null, .int 0]))] (fun r => [(h0, .inr (0, [.ref (r 0), .int 0])), ((r 0), eI cI 16 (fun _ => 0))]) sz) 1 16 (va_A [(h0, .inr (0, [.null, .int 0]))] sz) := by
  refine Met.ofW (cc := cX0_init) (maxL := 1) (ret := none) (by decide) rfl ?_
  intro p e s m args below meth c s₁ B hml hv
  obtain ⟨rfl, hsz, hP, hK, hD0⟩ := hv
  have hx := B.exec
  have hb := B.bytes
  have hr := B.returns
  have hts := atoms_spec (ws := wsX0_init) B.pre
  have hown : s.vm.findClass RX0 = some m.cls := findClass_of_methodNamed B.named
  have hlocks := B.notSynchronized
  have hin : meth.name = "<init>" := (name_of_methodNamed B.named B.method).1
  have iX0 : ∀ w ∈ wsX00, w ∈ wsX0_init := by decide +kernel
  have k9 := hts (.fieldLink RX0 9 "BlockMarker$Answer" "row" "[I") (by decide +kernel)
  subst hsz
  have hD := hD0.self (sz := s.heap.size)
  generalize hAe : va_A [(h0, .inr (0, [.null, .int 0]))] s.heap.size = A at hD ⊢
  have hA : ∀ q : Nat, s.heap.size ≤ q → A q := fun q h => by rw [← hAe]; exact Or.inr h
  have hS : va_S A s.heap s.heap [] := va_S.rf
  have hl := lv_entry ([.ref h0]) (n := 1) (Nat.le_of_ble_eq_true rfl)
  rw [lg_entry_eq]
  generalize (lg_sl ([.ref h0]) ++ List.replicate (1 - (lg_sl ([.ref h0])).length) Slot.unset).toArray = ls at hl ⊢
  have hl : lv_has ls 1 [(0, .ref h0)] := hl
  refine lv_aload_n hx hb dX0_init_0 rfl (lv_at hl 0 rfl) ?_
  refine W.objInit hx hb hown (hts (.methodLink RX0 3 objectInit) (by decide +kernel)) (hts (.instanceMethod objectInit) (by decide +kernel)) (hts (.code objectInit ⟨#[0xb1]⟩ 1 none) (List.mem_of_getElem? (i := 3) rfl)) rfl (by rw [hml]; exact hl.1) rfl dX0_init_1 (Nat.le_of_ble_eq_true rfl) (Nat.le_of_ble_eq_true rfl) ?_
  refine W.eq (g2 := F0 m 4 ls []) rfl ?_
  refine lv_aload_n hx hb dX0_init_4 rfl (lv_at hl 0 rfl) ?_
  refine lv_bipush (v := (16 : Int32)) hx hb dX0_init_5 (by decide) ?_
  refine va_newa (a0 := (16, .inl (fun _ => 0))) (atype := .int) (ty := .int) (N' := 16) hx hb (hts (.arrayClass .int) (by decide +kernel)) rfl hK.1 hP hD hS hA (fun cA => (vp_cell_i cA 16 (fun _ => 0)).trans rfl) (by decide) (by decide) (Nat.le_of_ble_eq_true rfl) (Nat.le_of_ble_eq_true rfl) (Nat.le_of_ble_eq_true rfl) dX0_init_7 (fun q7 cA H hK2 hP hD hS => ?_)
  obtain rfl : cI = cA := ty_int hK2 0 3 rfl rfl
  clear hK2
  have hP : va_P D vwCl [(h0, .inr (0, [.null, .int 0])), (q7, eI cI 16 (fun _ => 0))] H := hP
  have hD : va_D A [(h0, .inr (0, [.null, .int 0])), (q7, eI cI 16 (fun _ => 0))] := hD
  refine W.widen (k := 1) (n := 16) (by omega) (by omega) ?_
  refine va_putF (D := D) (ci := 0) (v := .ref q7) (ty := .array .int) (C := RX0) (T := TX0) (N := 2) hx hb hts iX0 tyX0 tyX0_ok nmX0 hown hK.1 hP hD hS 0 rfl rfl 0 (by decide) k9 (fun _ h9 => h9) rfl hin rfl (by decide +kernel) rfl rfl (Nat.le_of_ble_eq_true rfl) dX0_init_9 (fun H locs hP hD hS => ?_)
  have hP : va_P D vwCl [(h0, .inr (0, [.ref q7, .int 0])), (q7, eI cI 16 (fun _ => 0))] H := hP
  have hD : va_D A [(h0, .inr (0, [.ref q7, .int 0])), (q7, eI cI 16 (fun _ => 0))] := hD
  exact W.vret hx hb hr (fun t ht hW => by rw [← hAe] at hD hS; exact ⟨⟨(fun i => [q7].getD i 0), rfl, trivial, by rw [ht]; exact hP, hD⟩, hS.F ht⟩) hS.2.2 dX0_init_12

set_option maxHeartbeats 400000 in
set_option maxRecDepth 100000 in
theorem tX1_init (l : Launch) (D : va_G) (cI cJ cG : ClassId) (h0  : Nat) (sz : Nat)  : Met l yX1_init wsX1_init ({ frames := 1, cells := 5, slots := 80, locals := 12 }) (va_Pc [.ref h0] (wP D (tyL cI cJ cG) [(h0, .inr (1, [.null, .null, .null, .null, .null, .int 0]))] sz)) (wQn D [(h0, .inr (1, [.null, .null, .null, .null, .null, .int 0]))] (fun r => [(h0, .inr (1, [.ref (r 0), .ref (r 1), .ref (r 2), .ref (r 3), .ref (r 4), .int 0])), ((r 0), eI cI 16 (fun _ => 0)), ((r 1), eI cI 16 (fun _ => 0)), ((r 2), eI cI 16 (fun _ => 0)), ((r 3), eI cI 16 (fun _ => 0)), ((r 4), eI cI 16 (fun _ => 0))]) sz) 5 80 (va_A [(h0, .inr (1, [.null, .null, .null, .null, .null, .int 0]))] sz) := by
  refine Met.ofW (cc := cX1_init) (maxL := 1) (ret := none) (by decide) rfl ?_
  intro p e s m args below meth c s₁ B hml hv
  obtain ⟨rfl, hsz, hP, hK, hD0⟩ := hv
  have hx := B.exec
  have hb := B.bytes
  have hr := B.returns
  have hts := atoms_spec (ws := wsX1_init) B.pre
  have hown : s.vm.findClass RX1 = some m.cls := findClass_of_methodNamed B.named
  have hlocks := B.notSynchronized
  have hin : meth.name = "<init>" := (name_of_methodNamed B.named B.method).1
  have iX1 : ∀ w ∈ wsX10, w ∈ wsX1_init := by decide +kernel
  have k9 := hts (.fieldLink RX1 9 "BlockMarker$Lines" "kinds" "[I") (by decide +kernel)
  have k15 := hts (.fieldLink RX1 15 "BlockMarker$Lines" "vs" "[I") (by decide +kernel)
  have k18 := hts (.fieldLink RX1 18 "BlockMarker$Lines" "ws" "[I") (by decide +kernel)
  have k21 := hts (.fieldLink RX1 21 "BlockMarker$Lines" "roles" "[I") (by decide +kernel)
  have k24 := hts (.fieldLink RX1 24 "BlockMarker$Lines" "mates" "[I") (by decide +kernel)
  subst hsz
  have hD := hD0.self (sz := s.heap.size)
  generalize hAe : va_A [(h0, .inr (1, [.null, .null, .null, .null, .null, .int 0]))] s.heap.size = A at hD ⊢
  have hA : ∀ q : Nat, s.heap.size ≤ q → A q := fun q h => by rw [← hAe]; exact Or.inr h
  have hS : va_S A s.heap s.heap [] := va_S.rf
  have hl := lv_entry ([.ref h0]) (n := 1) (Nat.le_of_ble_eq_true rfl)
  rw [lg_entry_eq]
  generalize (lg_sl ([.ref h0]) ++ List.replicate (1 - (lg_sl ([.ref h0])).length) Slot.unset).toArray = ls at hl ⊢
  have hl : lv_has ls 1 [(0, .ref h0)] := hl
  refine lv_aload_n hx hb dX1_init_0 rfl (lv_at hl 0 rfl) ?_
  refine W.objInit hx hb hown (hts (.methodLink RX1 3 objectInit) (by decide +kernel)) (hts (.instanceMethod objectInit) (by decide +kernel)) (hts (.code objectInit ⟨#[0xb1]⟩ 1 none) (List.mem_of_getElem? (i := 3) rfl)) rfl (by rw [hml]; exact hl.1) rfl dX1_init_1 (Nat.le_of_ble_eq_true rfl) (Nat.le_of_ble_eq_true rfl) ?_
  refine W.eq (g2 := F0 m 4 ls []) rfl ?_
  refine lv_aload_n hx hb dX1_init_4 rfl (lv_at hl 0 rfl) ?_
  refine lv_bipush (v := (16 : Int32)) hx hb dX1_init_5 (by decide) ?_
  refine va_newa (a0 := (16, .inl (fun _ => 0))) (atype := .int) (ty := .int) (N' := 16) hx hb (hts (.arrayClass .int) (by decide +kernel)) rfl hK.1 hP hD hS hA (fun cA => (vp_cell_i cA 16 (fun _ => 0)).trans rfl) (by decide) (by decide) (Nat.le_of_ble_eq_true rfl) (Nat.le_of_ble_eq_true rfl) (Nat.le_of_ble_eq_true rfl) dX1_init_7 (fun q7 cA H hK2 hP hD hS => ?_)
  obtain rfl : cI = cA := ty_int hK2 0 3 rfl rfl
  clear hK2
  have hP : va_P D vwCl [(h0, .inr (1, [.null, .null, .null, .null, .null, .int 0])), (q7, eI cI 16 (fun _ => 0))] H := hP
  have hD : va_D A [(h0, .inr (1, [.null, .null, .null, .null, .null, .int 0])), (q7, eI cI 16 (fun _ => 0))] := hD
  refine W.widen (k := 1) (n := 16) (by omega) (by omega) ?_
  refine va_putF (D := D) (ci := 1) (v := .ref q7) (ty := .array .int) (C := RX1) (T := TX1) (N := 6) hx hb hts iX1 tyX1 tyX1_ok nmX1 hown hK.1 hP hD hS 0 rfl rfl 0 (by decide) k9 (fun _ h9 => h9) rfl hin rfl (by decide +kernel) rfl rfl (Nat.le_of_ble_eq_true rfl) dX1_init_9 (fun H locs hP hD hS => ?_)
  have hP : va_P D vwCl [(h0, .inr (1, [.ref q7, .null, .null, .null, .null, .int 0])), (q7, eI cI 16 (fun _ => 0))] H := hP
  have hD : va_D A [(h0, .inr (1, [.ref q7, .null, .null, .null, .null, .int 0])), (q7, eI cI 16 (fun _ => 0))] := hD
  refine lv_aload_n hx hb dX1_init_12 rfl (lv_at hl 0 rfl) ?_
  refine lv_bipush (v := (16 : Int32)) hx hb dX1_init_13 (by decide) ?_
  refine va_newa (a0 := (16, .inl (fun _ => 0))) (atype := .int) (ty := .int) (N' := 16) hx hb (hts (.arrayClass .int) (by decide +kernel)) rfl hK.1 hP hD hS hA (fun cA => (vp_cell_i cA 16 (fun _ => 0)).trans rfl) (by decide) (by decide) (Nat.le_of_ble_eq_true rfl) (Nat.le_of_ble_eq_true rfl) (Nat.le_of_ble_eq_true rfl) dX1_init_15 (fun q15 cA H hK2 hP hD hS => ?_)
  obtain rfl : cI = cA := ty_int hK2 0 3 rfl rfl
  clear hK2
  have hP : va_P D vwCl [(h0, .inr (1, [.ref q7, .null, .null, .null, .null, .int 0])), (q7, eI cI 16 (fun _ => 0)), (q15, eI cI 16 (fun _ => 0))] H := hP
  have hD : va_D A [(h0, .inr (1, [.ref q7, .null, .null, .null, .null, .int 0])), (q7, eI cI 16 (fun _ => 0)), (q15, eI cI 16 (fun _ => 0))] := hD
  refine W.widen (k := 2) (n := 32) (by omega) (by omega) ?_
  refine va_putF (D := D) (ci := 1) (v := .ref q15) (ty := .array .int) (C := RX1) (T := TX1) (N := 6) hx hb hts iX1 tyX1 tyX1_ok nmX1 hown hK.1 hP hD hS 0 rfl rfl 1 (by decide) k15 (fun _ h9 => h9) rfl hin rfl (by decide +kernel) rfl rfl (Nat.le_of_ble_eq_true rfl) dX1_init_17 (fun H locs hP hD hS => ?_)
  have hP : va_P D vwCl [(h0, .inr (1, [.ref q7, .ref q15, .null, .null, .null, .int 0])), (q7, eI cI 16 (fun _ => 0)), (q15, eI cI 16 (fun _ => 0))] H := hP
  have hD : va_D A [(h0, .inr (1, [.ref q7, .ref q15, .null, .null, .null, .int 0])), (q7, eI cI 16 (fun _ => 0)), (q15, eI cI 16 (fun _ => 0))] := hD
  refine lv_aload_n hx hb dX1_init_20 rfl (lv_at hl 0 rfl) ?_
  refine lv_bipush (v := (16 : Int32)) hx hb dX1_init_21 (by decide) ?_
  refine va_newa (a0 := (16, .inl (fun _ => 0))) (atype := .int) (ty := .int) (N' := 16) hx hb (hts (.arrayClass .int) (by decide +kernel)) rfl hK.1 hP hD hS hA (fun cA => (vp_cell_i cA 16 (fun _ => 0)).trans rfl) (by decide) (by decide) (Nat.le_of_ble_eq_true rfl) (Nat.le_of_ble_eq_true rfl) (Nat.le_of_ble_eq_true rfl) dX1_init_23 (fun q23 cA H hK2 hP hD hS => ?_)
  obtain rfl : cI = cA := ty_int hK2 0 3 rfl rfl
  clear hK2
  have hP : va_P D vwCl [(h0, .inr (1, [.ref q7, .ref q15, .null, .null, .null, .int 0])), (q7, eI cI 16 (fun _ => 0)), (q15, eI cI 16 (fun _ => 0)), (q23, eI cI 16 (fun _ => 0))] H := hP
  have hD : va_D A [(h0, .inr (1, [.ref q7, .ref q15, .null, .null, .null, .int 0])), (q7, eI cI 16 (fun _ => 0)), (q15, eI cI 16 (fun _ => 0)), (q23, eI cI 16 (fun _ => 0))] := hD
  refine W.widen (k := 3) (n := 48) (by omega) (by omega) ?_
  refine va_putF (D := D) (ci := 1) (v := .ref q23) (ty := .array .int) (C := RX1) (T := TX1) (N := 6) hx hb hts iX1 tyX1 tyX1_ok nmX1 hown hK.1 hP hD hS 0 rfl rfl 2 (by decide) k18 (fun _ h9 => h9) rfl hin rfl (by decide +kernel) rfl rfl (Nat.le_of_ble_eq_true rfl) dX1_init_25 (fun H locs hP hD hS => ?_)
  have hP : va_P D vwCl [(h0, .inr (1, [.ref q7, .ref q15, .ref q23, .null, .null, .int 0])), (q7, eI cI 16 (fun _ => 0)), (q15, eI cI 16 (fun _ => 0)), (q23, eI cI 16 (fun _ => 0))] H := hP
  have hD : va_D A [(h0, .inr (1, [.ref q7, .ref q15, .ref q23, .null, .null, .int 0])), (q7, eI cI 16 (fun _ => 0)), (q15, eI cI 16 (fun _ => 0)), (q23, eI cI 16 (fun _ => 0))] := hD
  refine lv_aload_n hx hb dX1_init_28 rfl (lv_at hl 0 rfl) ?_
  refine lv_bipush (v := (16 : Int32)) hx hb dX1_init_29 (by decide) ?_
  refine va_newa (a0 := (16, .inl (fun _ => 0))) (atype := .int) (ty := .int) (N' := 16) hx hb (hts (.arrayClass .int) (by decide +kernel)) rfl hK.1 hP hD hS hA (fun cA => (vp_cell_i cA 16 (fun _ => 0)).trans rfl) (by decide) (by decide) (Nat.le_of_ble_eq_true rfl) (Nat.le_of_ble_eq_true rfl) (Nat.le_of_ble_eq_true rfl) dX1_init_31 (fun q31 cA H hK2 hP hD hS => ?_)
  obtain rfl : cI = cA := ty_int hK2 0 3 rfl rfl
  clear hK2
  have hP : va_P D vwCl [(h0, .inr (1, [.ref q7, .ref q15, .ref q23, .null, .null, .int 0])), (q7, eI cI 16 (fun _ => 0)), (q15, eI cI 16 (fun _ => 0)), (q23, eI cI 16 (fun _ => 0)), (q31, eI cI 16 (fun _ => 0))] H := hP
  have hD : va_D A [(h0, .inr (1, [.ref q7, .ref q15, .ref q23, .null, .null, .int 0])), (q7, eI cI 16 (fun _ => 0)), (q15, eI cI 16 (fun _ => 0)), (q23, eI cI 16 (fun _ => 0)), (q31, eI cI 16 (fun _ => 0))] := hD
  refine W.widen (k := 4) (n := 64) (by omega) (by omega) ?_
  refine va_putF (D := D) (ci := 1) (v := .ref q31) (ty := .array .int) (C := RX1) (T := TX1) (N := 6) hx hb hts iX1 tyX1 tyX1_ok nmX1 hown hK.1 hP hD hS 0 rfl rfl 3 (by decide) k21 (fun _ h9 => h9) rfl hin rfl (by decide +kernel) rfl rfl (Nat.le_of_ble_eq_true rfl) dX1_init_33 (fun H locs hP hD hS => ?_)
  have hP : va_P D vwCl [(h0, .inr (1, [.ref q7, .ref q15, .ref q23, .ref q31, .null, .int 0])), (q7, eI cI 16 (fun _ => 0)), (q15, eI cI 16 (fun _ => 0)), (q23, eI cI 16 (fun _ => 0)), (q31, eI cI 16 (fun _ => 0))] H := hP
  have hD : va_D A [(h0, .inr (1, [.ref q7, .ref q15, .ref q23, .ref q31, .null, .int 0])), (q7, eI cI 16 (fun _ => 0)), (q15, eI cI 16 (fun _ => 0)), (q23, eI cI 16 (fun _ => 0)), (q31, eI cI 16 (fun _ => 0))] := hD
  refine lv_aload_n hx hb dX1_init_36 rfl (lv_at hl 0 rfl) ?_
  refine lv_bipush (v := (16 : Int32)) hx hb dX1_init_37 (by decide) ?_
  refine va_newa (a0 := (16, .inl (fun _ => 0))) (atype := .int) (ty := .int) (N' := 16) hx hb (hts (.arrayClass .int) (by decide +kernel)) rfl hK.1 hP hD hS hA (fun cA => (vp_cell_i cA 16 (fun _ => 0)).trans rfl) (by decide) (by decide) (Nat.le_of_ble_eq_true rfl) (Nat.le_of_ble_eq_true rfl) (Nat.le_of_ble_eq_true rfl) dX1_init_39 (fun q39 cA H hK2 hP hD hS => ?_)
  obtain rfl : cI = cA := ty_int hK2 0 3 rfl rfl
  clear hK2
  have hP : va_P D vwCl [(h0, .inr (1, [.ref q7, .ref q15, .ref q23, .ref q31, .null, .int 0])), (q7, eI cI 16 (fun _ => 0)), (q15, eI cI 16 (fun _ => 0)), (q23, eI cI 16 (fun _ => 0)), (q31, eI cI 16 (fun _ => 0)), (q39, eI cI 16 (fun _ => 0))] H := hP
  have hD : va_D A [(h0, .inr (1, [.ref q7, .ref q15, .ref q23, .ref q31, .null, .int 0])), (q7, eI cI 16 (fun _ => 0)), (q15, eI cI 16 (fun _ => 0)), (q23, eI cI 16 (fun _ => 0)), (q31, eI cI 16 (fun _ => 0)), (q39, eI cI 16 (fun _ => 0))] := hD
  refine W.widen (k := 5) (n := 80) (by omega) (by omega) ?_
  refine va_putF (D := D) (ci := 1) (v := .ref q39) (ty := .array .int) (C := RX1) (T := TX1) (N := 6) hx hb hts iX1 tyX1 tyX1_ok nmX1 hown hK.1 hP hD hS 0 rfl rfl 4 (by decide) k24 (fun _ h9 => h9) rfl hin rfl (by decide +kernel) rfl rfl (Nat.le_of_ble_eq_true rfl) dX1_init_41 (fun H locs hP hD hS => ?_)
  have hP : va_P D vwCl [(h0, .inr (1, [.ref q7, .ref q15, .ref q23, .ref q31, .ref q39, .int 0])), (q7, eI cI 16 (fun _ => 0)), (q15, eI cI 16 (fun _ => 0)), (q23, eI cI 16 (fun _ => 0)), (q31, eI cI 16 (fun _ => 0)), (q39, eI cI 16 (fun _ => 0))] H := hP
  have hD : va_D A [(h0, .inr (1, [.ref q7, .ref q15, .ref q23, .ref q31, .ref q39, .int 0])), (q7, eI cI 16 (fun _ => 0)), (q15, eI cI 16 (fun _ => 0)), (q23, eI cI 16 (fun _ => 0)), (q31, eI cI 16 (fun _ => 0)), (q39, eI cI 16 (fun _ => 0))] := hD
  exact W.vret hx hb hr (fun t ht hW => by rw [← hAe] at hD hS; exact ⟨⟨(fun i => [q7, q15, q23, q31, q39].getD i 0), rfl, trivial, by rw [ht]; exact hP, hD⟩, hS.F ht⟩) hS.2.2 dX1_init_44

set_option maxHeartbeats 400000 in
set_option maxRecDepth 100000 in
theorem tX2_init (l : Launch) (D : va_G) (cI cJ cG : ClassId) (h0  : Nat) (sz : Nat)  : Met l yX2_init wsX2_init ({ frames := 1, cells := 2, slots := 22, locals := 12 }) (va_Pc [.ref h0] (wP D (tyL cI cJ cG) [(h0, .inr (2, [.null, .null, .int 0]))] sz)) (wQn D [(h0, .inr (2, [.null, .null, .int 0]))] (fun r => [(h0, .inr (2, [.ref (r 0), .ref (r 1), .int 0])), ((r 0), eI cI 6 (fun _ => 0)), ((r 1), eI cI 16 (fun _ => 0))]) sz) 2 22 (va_A [(h0, .inr (2, [.null, .null, .int 0]))] sz) := by
  refine Met.ofW (cc := cX2_init) (maxL := 1) (ret := none) (by decide) rfl ?_
  intro p e s m args below meth c s₁ B hml hv
  obtain ⟨rfl, hsz, hP, hK, hD0⟩ := hv
  have hx := B.exec
  have hb := B.bytes
  have hr := B.returns
  have hts := atoms_spec (ws := wsX2_init) B.pre
  have hown : s.vm.findClass RX2 = some m.cls := findClass_of_methodNamed B.named
  have hlocks := B.notSynchronized
  have hin : meth.name = "<init>" := (name_of_methodNamed B.named B.method).1
  have iX2 : ∀ w ∈ wsX20, w ∈ wsX2_init := by decide +kernel
  have k9 := hts (.fieldLink RX2 9 "BlockMarker$Machine" "variables" "[I") (by decide +kernel)
  have k15 := hts (.fieldLink RX2 15 "BlockMarker$Machine" "prints" "[I") (by decide +kernel)
  subst hsz
  have hD := hD0.self (sz := s.heap.size)
  generalize hAe : va_A [(h0, .inr (2, [.null, .null, .int 0]))] s.heap.size = A at hD ⊢
  have hA : ∀ q : Nat, s.heap.size ≤ q → A q := fun q h => by rw [← hAe]; exact Or.inr h
  have hS : va_S A s.heap s.heap [] := va_S.rf
  have hl := lv_entry ([.ref h0]) (n := 1) (Nat.le_of_ble_eq_true rfl)
  rw [lg_entry_eq]
  generalize (lg_sl ([.ref h0]) ++ List.replicate (1 - (lg_sl ([.ref h0])).length) Slot.unset).toArray = ls at hl ⊢
  have hl : lv_has ls 1 [(0, .ref h0)] := hl
  refine lv_aload_n hx hb dX2_init_0 rfl (lv_at hl 0 rfl) ?_
  refine W.objInit hx hb hown (hts (.methodLink RX2 3 objectInit) (by decide +kernel)) (hts (.instanceMethod objectInit) (by decide +kernel)) (hts (.code objectInit ⟨#[0xb1]⟩ 1 none) (List.mem_of_getElem? (i := 3) rfl)) rfl (by rw [hml]; exact hl.1) rfl dX2_init_1 (Nat.le_of_ble_eq_true rfl) (Nat.le_of_ble_eq_true rfl) ?_
  refine W.eq (g2 := F0 m 4 ls []) rfl ?_
  refine lv_aload_n hx hb dX2_init_4 rfl (lv_at hl 0 rfl) ?_
  refine lv_bipush (v := (6 : Int32)) hx hb dX2_init_5 (by decide) ?_
  refine va_newa (a0 := (6, .inl (fun _ => 0))) (atype := .int) (ty := .int) (N' := 6) hx hb (hts (.arrayClass .int) (by decide +kernel)) rfl hK.1 hP hD hS hA (fun cA => (vp_cell_i cA 6 (fun _ => 0)).trans rfl) (by decide) (by decide) (Nat.le_of_ble_eq_true rfl) (Nat.le_of_ble_eq_true rfl) (Nat.le_of_ble_eq_true rfl) dX2_init_7 (fun q7 cA H hK2 hP hD hS => ?_)
  obtain rfl : cI = cA := ty_int hK2 0 3 rfl rfl
  clear hK2
  have hP : va_P D vwCl [(h0, .inr (2, [.null, .null, .int 0])), (q7, eI cI 6 (fun _ => 0))] H := hP
  have hD : va_D A [(h0, .inr (2, [.null, .null, .int 0])), (q7, eI cI 6 (fun _ => 0))] := hD
  refine W.widen (k := 1) (n := 6) (by omega) (by omega) ?_
  refine va_putF (D := D) (ci := 2) (v := .ref q7) (ty := .array .int) (C := RX2) (T := TX2) (N := 3) hx hb hts iX2 tyX2 tyX2_ok nmX2 hown hK.1 hP hD hS 0 rfl rfl 0 (by decide) k9 (fun _ h9 => h9) rfl hin rfl (by decide +kernel) rfl rfl (Nat.le_of_ble_eq_true rfl) dX2_init_9 (fun H locs hP hD hS => ?_)
  have hP : va_P D vwCl [(h0, .inr (2, [.ref q7, .null, .int 0])), (q7, eI cI 6 (fun _ => 0))] H := hP
  have hD : va_D A [(h0, .inr (2, [.ref q7, .null, .int 0])), (q7, eI cI 6 (fun _ => 0))] := hD
  refine lv_aload_n hx hb dX2_init_12 rfl (lv_at hl 0 rfl) ?_
  refine lv_bipush (v := (16 : Int32)) hx hb dX2_init_13 (by decide) ?_
  refine va_newa (a0 := (16, .inl (fun _ => 0))) (atype := .int) (ty := .int) (N' := 16) hx hb (hts (.arrayClass .int) (by decide +kernel)) rfl hK.1 hP hD hS hA (fun cA => (vp_cell_i cA 16 (fun _ => 0)).trans rfl) (by decide) (by decide) (Nat.le_of_ble_eq_true rfl) (Nat.le_of_ble_eq_true rfl) (Nat.le_of_ble_eq_true rfl) dX2_init_15 (fun q15 cA H hK2 hP hD hS => ?_)
  obtain rfl : cI = cA := ty_int hK2 0 3 rfl rfl
  clear hK2
  have hP : va_P D vwCl [(h0, .inr (2, [.ref q7, .null, .int 0])), (q7, eI cI 6 (fun _ => 0)), (q15, eI cI 16 (fun _ => 0))] H := hP
  have hD : va_D A [(h0, .inr (2, [.ref q7, .null, .int 0])), (q7, eI cI 6 (fun _ => 0)), (q15, eI cI 16 (fun _ => 0))] := hD
  refine W.widen (k := 2) (n := 22) (by omega) (by omega) ?_
  refine va_putF (D := D) (ci := 2) (v := .ref q15) (ty := .array .int) (C := RX2) (T := TX2) (N := 3) hx hb hts iX2 tyX2 tyX2_ok nmX2 hown hK.1 hP hD hS 0 rfl rfl 1 (by decide) k15 (fun _ h9 => h9) rfl hin rfl (by decide +kernel) rfl rfl (Nat.le_of_ble_eq_true rfl) dX2_init_17 (fun H locs hP hD hS => ?_)
  have hP : va_P D vwCl [(h0, .inr (2, [.ref q7, .ref q15, .int 0])), (q7, eI cI 6 (fun _ => 0)), (q15, eI cI 16 (fun _ => 0))] H := hP
  have hD : va_D A [(h0, .inr (2, [.ref q7, .ref q15, .int 0])), (q7, eI cI 6 (fun _ => 0)), (q15, eI cI 16 (fun _ => 0))] := hD
  exact W.vret hx hb hr (fun t ht hW => by rw [← hAe] at hD hS; exact ⟨⟨(fun i => [q7, q15].getD i 0), rfl, trivial, by rw [ht]; exact hP, hD⟩, hS.F ht⟩) hS.2.2 dX2_init_20

set_option maxHeartbeats 400000 in
set_option maxRecDepth 100000 in
theorem tX3_init (l : Launch) (D : va_G) (cI cJ cG : ClassId) (h0 p1 p2 p3 : Nat) (sz : Nat)  : Met l yX3_init wsX3_init ({ frames := 1, cells := 2, slots := 32, locals := 12 }) (va_Pc [.ref h0, .ref p1, .ref p2, .ref p3] (wP D (tyL cI cJ cG) [(h0, .inr (3, [.null, .null, .null, .null, .null, .int 0, .int 0, .int 0, .int 0, .int 0]))] sz)) (wQn D [(h0, .inr (3, [.null, .null, .null, .null, .null, .int 0, .int 0, .int 0, .int 0, .int 0]))] (fun r => [(h0, .inr (3, [.ref p1, .ref p2, .ref p3, .ref (r 0), .ref (r 1), .int 0, .int 0, .int 0, .int 0, .int 0])), ((r 0), eI cI 16 (fun _ => 0)), ((r 1), eI cI 16 (fun _ => 0))]) sz) 2 32 (va_A [(h0, .inr (3, [.null, .null, .null, .null, .null, .int 0, .int 0, .int 0, .int 0, .int 0]))] sz) := by
  refine Met.ofW (cc := cX3_init) (maxL := 4) (ret := none) (by decide) rfl ?_
  intro p e s m args below meth c s₁ B hml hv
  obtain ⟨rfl, hsz, hP, hK, hD0⟩ := hv
  have hx := B.exec
  have hb := B.bytes
  have hr := B.returns
  have hts := atoms_spec (ws := wsX3_init) B.pre
  have hown : s.vm.findClass RX3 = some m.cls := findClass_of_methodNamed B.named
  have hlocks := B.notSynchronized
  have hin : meth.name = "<init>" := (name_of_methodNamed B.named B.method).1
  have iX3 : ∀ w ∈ wsX30, w ∈ wsX3_init := by decide +kernel
  have k9 := hts (.fieldLink RX3 9 "BlockMarker$Marking" "ranks" "[I") (by decide +kernel)
  have k15 := hts (.fieldLink RX3 15 "BlockMarker$Marking" "clashes" "[I") (by decide +kernel)
  have k18 := hts (.fieldLink RX3 18 "BlockMarker$Marking" "lines" "LBlockMarker$Lines;") (by decide +kernel)
  have k22 := hts (.fieldLink RX3 22 "BlockMarker$Marking" "model" "LBlockMarker$Model;") (by decide +kernel)
  have k26 := hts (.fieldLink RX3 26 "BlockMarker$Marking" "answer" "LBlockMarker$Answer;") (by decide +kernel)
  subst hsz
  have hD := hD0.self (sz := s.heap.size)
  generalize hAe : va_A [(h0, .inr (3, [.null, .null, .null, .null, .null, .int 0, .int 0, .int 0, .int 0, .int 0]))] s.heap.size = A at hD ⊢
  have hA : ∀ q : Nat, s.heap.size ≤ q → A q := fun q h => by rw [← hAe]; exact Or.inr h
  have hS : va_S A s.heap s.heap [] := va_S.rf
  have hl := lv_entry ([.ref h0, .ref p1, .ref p2, .ref p3]) (n := 4) (Nat.le_of_ble_eq_true rfl)
  rw [lg_entry_eq]
  generalize (lg_sl ([.ref h0, .ref p1, .ref p2, .ref p3]) ++ List.replicate (4 - (lg_sl ([.ref h0, .ref p1, .ref p2, .ref p3])).length) Slot.unset).toArray = ls at hl ⊢
  have hl : lv_has ls 4 [(0, .ref h0), (1, .ref p1), (2, .ref p2), (3, .ref p3)] := hl
  refine lv_aload_n hx hb dX3_init_0 rfl (lv_at hl 0 rfl) ?_
  refine W.objInit hx hb hown (hts (.methodLink RX3 3 objectInit) (by decide +kernel)) (hts (.instanceMethod objectInit) (by decide +kernel)) (hts (.code objectInit ⟨#[0xb1]⟩ 1 none) (List.mem_of_getElem? (i := 3) rfl)) rfl (by rw [hml]; exact hl.1) rfl dX3_init_1 (Nat.le_of_ble_eq_true rfl) (Nat.le_of_ble_eq_true rfl) ?_
  refine W.eq (g2 := F0 m 4 ls []) rfl ?_
  refine lv_aload_n hx hb dX3_init_4 rfl (lv_at hl 0 rfl) ?_
  refine lv_bipush (v := (16 : Int32)) hx hb dX3_init_5 (by decide) ?_
  refine va_newa (a0 := (16, .inl (fun _ => 0))) (atype := .int) (ty := .int) (N' := 16) hx hb (hts (.arrayClass .int) (by decide +kernel)) rfl hK.1 hP hD hS hA (fun cA => (vp_cell_i cA 16 (fun _ => 0)).trans rfl) (by decide) (by decide) (Nat.le_of_ble_eq_true rfl) (Nat.le_of_ble_eq_true rfl) (Nat.le_of_ble_eq_true rfl) dX3_init_7 (fun q7 cA H hK2 hP hD hS => ?_)
  obtain rfl : cI = cA := ty_int hK2 0 3 rfl rfl
  clear hK2
  have hP : va_P D vwCl [(h0, .inr (3, [.null, .null, .null, .null, .null, .int 0, .int 0, .int 0, .int 0, .int 0])), (q7, eI cI 16 (fun _ => 0))] H := hP
  have hD : va_D A [(h0, .inr (3, [.null, .null, .null, .null, .null, .int 0, .int 0, .int 0, .int 0, .int 0])), (q7, eI cI 16 (fun _ => 0))] := hD
  refine W.widen (k := 1) (n := 16) (by omega) (by omega) ?_
  refine va_putF (D := D) (ci := 3) (v := .ref q7) (ty := .array .int) (C := RX3) (T := TX3) (N := 10) hx hb hts iX3 tyX3 tyX3_ok nmX3 hown hK.1 hP hD hS 0 rfl rfl 3 (by decide) k9 (fun _ h9 => h9) rfl hin rfl (by decide +kernel) rfl rfl (Nat.le_of_ble_eq_true rfl) dX3_init_9 (fun H locs hP hD hS => ?_)
  have hP : va_P D vwCl [(h0, .inr (3, [.null, .null, .null, .ref q7, .null, .int 0, .int 0, .int 0, .int 0, .int 0])), (q7, eI cI 16 (fun _ => 0))] H := hP
  have hD : va_D A [(h0, .inr (3, [.null, .null, .null, .ref q7, .null, .int 0, .int 0, .int 0, .int 0, .int 0])), (q7, eI cI 16 (fun _ => 0))] := hD
  refine lv_aload_n hx hb dX3_init_12 rfl (lv_at hl 0 rfl) ?_
  refine lv_bipush (v := (16 : Int32)) hx hb dX3_init_13 (by decide) ?_
  refine va_newa (a0 := (16, .inl (fun _ => 0))) (atype := .int) (ty := .int) (N' := 16) hx hb (hts (.arrayClass .int) (by decide +kernel)) rfl hK.1 hP hD hS hA (fun cA => (vp_cell_i cA 16 (fun _ => 0)).trans rfl) (by decide) (by decide) (Nat.le_of_ble_eq_true rfl) (Nat.le_of_ble_eq_true rfl) (Nat.le_of_ble_eq_true rfl) dX3_init_15 (fun q15 cA H hK2 hP hD hS => ?_)
  obtain rfl : cI = cA := ty_int hK2 0 3 rfl rfl
  clear hK2
  have hP : va_P D vwCl [(h0, .inr (3, [.null, .null, .null, .ref q7, .null, .int 0, .int 0, .int 0, .int 0, .int 0])), (q7, eI cI 16 (fun _ => 0)), (q15, eI cI 16 (fun _ => 0))] H := hP
  have hD : va_D A [(h0, .inr (3, [.null, .null, .null, .ref q7, .null, .int 0, .int 0, .int 0, .int 0, .int 0])), (q7, eI cI 16 (fun _ => 0)), (q15, eI cI 16 (fun _ => 0))] := hD
  refine W.widen (k := 2) (n := 32) (by omega) (by omega) ?_
  refine va_putF (D := D) (ci := 3) (v := .ref q15) (ty := .array .int) (C := RX3) (T := TX3) (N := 10) hx hb hts iX3 tyX3 tyX3_ok nmX3 hown hK.1 hP hD hS 0 rfl rfl 4 (by decide) k15 (fun _ h9 => h9) rfl hin rfl (by decide +kernel) rfl rfl (Nat.le_of_ble_eq_true rfl) dX3_init_17 (fun H locs hP hD hS => ?_)
  have hP : va_P D vwCl [(h0, .inr (3, [.null, .null, .null, .ref q7, .ref q15, .int 0, .int 0, .int 0, .int 0, .int 0])), (q7, eI cI 16 (fun _ => 0)), (q15, eI cI 16 (fun _ => 0))] H := hP
  have hD : va_D A [(h0, .inr (3, [.null, .null, .null, .ref q7, .ref q15, .int 0, .int 0, .int 0, .int 0, .int 0])), (q7, eI cI 16 (fun _ => 0)), (q15, eI cI 16 (fun _ => 0))] := hD
  refine lv_aload_n hx hb dX3_init_20 rfl (lv_at hl 0 rfl) ?_
  refine lv_aload_n hx hb dX3_init_21 rfl (lv_at hl 1 rfl) ?_
  refine va_putF (D := D) (ci := 3) (v := .ref p1) (ty := .object "BlockMarker$Lines") (C := RX3) (T := TX3) (N := 10) hx hb hts iX3 tyX3 tyX3_ok nmX3 hown hK.1 hP hD hS 0 rfl rfl 0 (by decide) k18 (fun _ h9 => h9) rfl hin rfl (by decide +kernel) rfl rfl (Nat.le_of_ble_eq_true rfl) dX3_init_22 (fun H locs hP hD hS => ?_)
  have hP : va_P D vwCl [(h0, .inr (3, [.ref p1, .null, .null, .ref q7, .ref q15, .int 0, .int 0, .int 0, .int 0, .int 0])), (q7, eI cI 16 (fun _ => 0)), (q15, eI cI 16 (fun _ => 0))] H := hP
  have hD : va_D A [(h0, .inr (3, [.ref p1, .null, .null, .ref q7, .ref q15, .int 0, .int 0, .int 0, .int 0, .int 0])), (q7, eI cI 16 (fun _ => 0)), (q15, eI cI 16 (fun _ => 0))] := hD
  refine lv_aload_n hx hb dX3_init_25 rfl (lv_at hl 0 rfl) ?_
  refine lv_aload_n hx hb dX3_init_26 rfl (lv_at hl 2 rfl) ?_
  refine va_putF (D := D) (ci := 3) (v := .ref p2) (ty := .object "BlockMarker$Model") (C := RX3) (T := TX3) (N := 10) hx hb hts iX3 tyX3 tyX3_ok nmX3 hown hK.1 hP hD hS 0 rfl rfl 1 (by decide) k22 (fun _ h9 => h9) rfl hin rfl (by decide +kernel) rfl rfl (Nat.le_of_ble_eq_true rfl) dX3_init_27 (fun H locs hP hD hS => ?_)
  have hP : va_P D vwCl [(h0, .inr (3, [.ref p1, .ref p2, .null, .ref q7, .ref q15, .int 0, .int 0, .int 0, .int 0, .int 0])), (q7, eI cI 16 (fun _ => 0)), (q15, eI cI 16 (fun _ => 0))] H := hP
  have hD : va_D A [(h0, .inr (3, [.ref p1, .ref p2, .null, .ref q7, .ref q15, .int 0, .int 0, .int 0, .int 0, .int 0])), (q7, eI cI 16 (fun _ => 0)), (q15, eI cI 16 (fun _ => 0))] := hD
  refine lv_aload_n hx hb dX3_init_30 rfl (lv_at hl 0 rfl) ?_
  refine lv_aload_n hx hb dX3_init_31 rfl (lv_at hl 3 rfl) ?_
  refine va_putF (D := D) (ci := 3) (v := .ref p3) (ty := .object "BlockMarker$Answer") (C := RX3) (T := TX3) (N := 10) hx hb hts iX3 tyX3 tyX3_ok nmX3 hown hK.1 hP hD hS 0 rfl rfl 2 (by decide) k26 (fun _ h9 => h9) rfl hin rfl (by decide +kernel) rfl rfl (Nat.le_of_ble_eq_true rfl) dX3_init_32 (fun H locs hP hD hS => ?_)
  have hP : va_P D vwCl [(h0, .inr (3, [.ref p1, .ref p2, .ref p3, .ref q7, .ref q15, .int 0, .int 0, .int 0, .int 0, .int 0])), (q7, eI cI 16 (fun _ => 0)), (q15, eI cI 16 (fun _ => 0))] H := hP
  have hD : va_D A [(h0, .inr (3, [.ref p1, .ref p2, .ref p3, .ref q7, .ref q15, .int 0, .int 0, .int 0, .int 0, .int 0])), (q7, eI cI 16 (fun _ => 0)), (q15, eI cI 16 (fun _ => 0))] := hD
  exact W.vret hx hb hr (fun t ht hW => by rw [← hAe] at hD hS; exact ⟨⟨(fun i => [q7, q15].getD i 0), rfl, trivial, by rw [ht]; exact hP, hD⟩, hS.F ht⟩) hS.2.2 dX3_init_35

set_option maxHeartbeats 400000 in
set_option maxRecDepth 100000 in
theorem tX4_init (l : Launch) (D : va_G) (cI cJ cG : ClassId) (h0  : Nat) (sz : Nat) (RK : Nat → Int32) (hRK : fJ7_fill_53178 16 (-1 : Int32) (fun _ => 0) = some RK) : Met l yX4_init wsX4_init ({ frames := 2, cells := 4, slots := 4136, locals := 23 }) (va_Pc [.ref h0] (wP D (tyL cI cJ cG) [(h0, .inr (4, [.null, .null, .null, .int 0, .null, .int 0]))] sz)) (wQn D [(h0, .inr (4, [.null, .null, .null, .int 0, .null, .int 0]))] (fun r => [(h0, .inr (4, [.ref (r 0), .ref (r 1), .ref (r 2), .int 0, .ref (r 3), .int 0])), ((r 0), eI cI 12 (fun _ => 0)), ((r 1), eI cI 16 RK), ((r 2), eI cI 12 (fun _ => 0)), ((r 3), eI cI 4096 (fun _ => 0))]) sz) 4 4136 (va_A [(h0, .inr (4, [.null, .null, .null, .int 0, .null, .int 0]))] sz) := by
  refine Met.ofW (cc := cX4_init) (maxL := 1) (ret := none) (by decide) rfl ?_
  intro p e s m args below meth c s₁ B hml hv
  obtain ⟨rfl, hsz, hP, hK, hD0⟩ := hv
  have hx := B.exec
  have hb := B.bytes
  have hr := B.returns
  have hts := atoms_spec (ws := wsX4_init) B.pre
  have hown : s.vm.findClass RX4 = some m.cls := findClass_of_methodNamed B.named
  have hlocks := B.notSynchronized
  have hin : meth.name = "<init>" := (name_of_methodNamed B.named B.method).1
  have iX4 : ∀ w ∈ wsX40, w ∈ wsX4_init := by decide +kernel
  have k9 := hts (.fieldLink RX4 9 "BlockMarker$Model" "numbers" "[I") (by decide +kernel)
  have k15 := hts (.fieldLink RX4 15 "BlockMarker$Model" "ranks" "[I") (by decide +kernel)
  have k18 := hts (.fieldLink RX4 18 "BlockMarker$Model" "ahead" "[I") (by decide +kernel)
  have k21 := hts (.fieldLink RX4 21 "BlockMarker$Model" "ways" "[I") (by decide +kernel)
  subst hsz
  have hD := hD0.self (sz := s.heap.size)
  generalize hAe : va_A [(h0, .inr (4, [.null, .null, .null, .int 0, .null, .int 0]))] s.heap.size = A at hD ⊢
  have hA : ∀ q : Nat, s.heap.size ≤ q → A q := fun q h => by rw [← hAe]; exact Or.inr h
  have hS : va_S A s.heap s.heap [] := va_S.rf
  have hl := lv_entry ([.ref h0]) (n := 1) (Nat.le_of_ble_eq_true rfl)
  rw [lg_entry_eq]
  generalize (lg_sl ([.ref h0]) ++ List.replicate (1 - (lg_sl ([.ref h0])).length) Slot.unset).toArray = ls at hl ⊢
  have hl : lv_has ls 1 [(0, .ref h0)] := hl
  refine lv_aload_n hx hb dX4_init_0 rfl (lv_at hl 0 rfl) ?_
  refine W.objInit hx hb hown (hts (.methodLink RX4 3 objectInit) (by decide +kernel)) (hts (.instanceMethod objectInit) (by decide +kernel)) (hts (.code objectInit ⟨#[0xb1]⟩ 1 none) (List.mem_of_getElem? (i := 3) rfl)) rfl (by rw [hml]; exact hl.1) rfl dX4_init_1 (Nat.le_of_ble_eq_true rfl) (Nat.le_of_ble_eq_true rfl) ?_
  refine W.eq (g2 := F0 m 4 ls []) rfl ?_
  refine lv_aload_n hx hb dX4_init_4 rfl (lv_at hl 0 rfl) ?_
  refine lv_bipush (v := (12 : Int32)) hx hb dX4_init_5 (by decide) ?_
  refine va_newa (a0 := (12, .inl (fun _ => 0))) (atype := .int) (ty := .int) (N' := 12) hx hb (hts (.arrayClass .int) (by decide +kernel)) rfl hK.1 hP hD hS hA (fun cA => (vp_cell_i cA 12 (fun _ => 0)).trans rfl) (by decide) (by decide) (Nat.le_of_ble_eq_true rfl) (Nat.le_of_ble_eq_true rfl) (Nat.le_of_ble_eq_true rfl) dX4_init_7 (fun q7 cA H hK2 hP hD hS => ?_)
  obtain rfl : cI = cA := ty_int hK2 0 3 rfl rfl
  clear hK2
  have hP : va_P D vwCl [(h0, .inr (4, [.null, .null, .null, .int 0, .null, .int 0])), (q7, eI cI 12 (fun _ => 0))] H := hP
  have hD : va_D A [(h0, .inr (4, [.null, .null, .null, .int 0, .null, .int 0])), (q7, eI cI 12 (fun _ => 0))] := hD
  refine W.widen (k := 1) (n := 12) (by omega) (by omega) ?_
  refine va_putF (D := D) (ci := 4) (v := .ref q7) (ty := .array .int) (C := RX4) (T := TX4) (N := 6) hx hb hts iX4 tyX4 tyX4_ok nmX4 hown hK.1 hP hD hS 0 rfl rfl 0 (by decide) k9 (fun _ h9 => h9) rfl hin rfl (by decide +kernel) rfl rfl (Nat.le_of_ble_eq_true rfl) dX4_init_9 (fun H locs hP hD hS => ?_)
  have hP : va_P D vwCl [(h0, .inr (4, [.ref q7, .null, .null, .int 0, .null, .int 0])), (q7, eI cI 12 (fun _ => 0))] H := hP
  have hD : va_D A [(h0, .inr (4, [.ref q7, .null, .null, .int 0, .null, .int 0])), (q7, eI cI 12 (fun _ => 0))] := hD
  refine lv_aload_n hx hb dX4_init_12 rfl (lv_at hl 0 rfl) ?_
  refine lv_bipush (v := (16 : Int32)) hx hb dX4_init_13 (by decide) ?_
  refine va_newa (a0 := (16, .inl (fun _ => 0))) (atype := .int) (ty := .int) (N' := 16) hx hb (hts (.arrayClass .int) (by decide +kernel)) rfl hK.1 hP hD hS hA (fun cA => (vp_cell_i cA 16 (fun _ => 0)).trans rfl) (by decide) (by decide) (Nat.le_of_ble_eq_true rfl) (Nat.le_of_ble_eq_true rfl) (Nat.le_of_ble_eq_true rfl) dX4_init_15 (fun q15 cA H hK2 hP hD hS => ?_)
  obtain rfl : cI = cA := ty_int hK2 0 3 rfl rfl
  clear hK2
  have hP : va_P D vwCl [(h0, .inr (4, [.ref q7, .null, .null, .int 0, .null, .int 0])), (q7, eI cI 12 (fun _ => 0)), (q15, eI cI 16 (fun _ => 0))] H := hP
  have hD : va_D A [(h0, .inr (4, [.ref q7, .null, .null, .int 0, .null, .int 0])), (q7, eI cI 12 (fun _ => 0)), (q15, eI cI 16 (fun _ => 0))] := hD
  refine W.widen (k := 2) (n := 28) (by omega) (by omega) ?_
  refine va_putF (D := D) (ci := 4) (v := .ref q15) (ty := .array .int) (C := RX4) (T := TX4) (N := 6) hx hb hts iX4 tyX4 tyX4_ok nmX4 hown hK.1 hP hD hS 0 rfl rfl 1 (by decide) k15 (fun _ h9 => h9) rfl hin rfl (by decide +kernel) rfl rfl (Nat.le_of_ble_eq_true rfl) dX4_init_17 (fun H locs hP hD hS => ?_)
  have hP : va_P D vwCl [(h0, .inr (4, [.ref q7, .ref q15, .null, .int 0, .null, .int 0])), (q7, eI cI 12 (fun _ => 0)), (q15, eI cI 16 (fun _ => 0))] H := hP
  have hD : va_D A [(h0, .inr (4, [.ref q7, .ref q15, .null, .int 0, .null, .int 0])), (q7, eI cI 12 (fun _ => 0)), (q15, eI cI 16 (fun _ => 0))] := hD
  refine lv_aload_n hx hb dX4_init_20 rfl (lv_at hl 0 rfl) ?_
  refine lv_bipush (v := (12 : Int32)) hx hb dX4_init_21 (by decide) ?_
  refine va_newa (a0 := (12, .inl (fun _ => 0))) (atype := .int) (ty := .int) (N' := 12) hx hb (hts (.arrayClass .int) (by decide +kernel)) rfl hK.1 hP hD hS hA (fun cA => (vp_cell_i cA 12 (fun _ => 0)).trans rfl) (by decide) (by decide) (Nat.le_of_ble_eq_true rfl) (Nat.le_of_ble_eq_true rfl) (Nat.le_of_ble_eq_true rfl) dX4_init_23 (fun q23 cA H hK2 hP hD hS => ?_)
  obtain rfl : cI = cA := ty_int hK2 0 3 rfl rfl
  clear hK2
  have hP : va_P D vwCl [(h0, .inr (4, [.ref q7, .ref q15, .null, .int 0, .null, .int 0])), (q7, eI cI 12 (fun _ => 0)), (q15, eI cI 16 (fun _ => 0)), (q23, eI cI 12 (fun _ => 0))] H := hP
  have hD : va_D A [(h0, .inr (4, [.ref q7, .ref q15, .null, .int 0, .null, .int 0])), (q7, eI cI 12 (fun _ => 0)), (q15, eI cI 16 (fun _ => 0)), (q23, eI cI 12 (fun _ => 0))] := hD
  refine W.widen (k := 3) (n := 40) (by omega) (by omega) ?_
  refine va_putF (D := D) (ci := 4) (v := .ref q23) (ty := .array .int) (C := RX4) (T := TX4) (N := 6) hx hb hts iX4 tyX4 tyX4_ok nmX4 hown hK.1 hP hD hS 0 rfl rfl 2 (by decide) k18 (fun _ h9 => h9) rfl hin rfl (by decide +kernel) rfl rfl (Nat.le_of_ble_eq_true rfl) dX4_init_25 (fun H locs hP hD hS => ?_)
  have hP : va_P D vwCl [(h0, .inr (4, [.ref q7, .ref q15, .ref q23, .int 0, .null, .int 0])), (q7, eI cI 12 (fun _ => 0)), (q15, eI cI 16 (fun _ => 0)), (q23, eI cI 12 (fun _ => 0))] H := hP
  have hD : va_D A [(h0, .inr (4, [.ref q7, .ref q15, .ref q23, .int 0, .null, .int 0])), (q7, eI cI 12 (fun _ => 0)), (q15, eI cI 16 (fun _ => 0)), (q23, eI cI 12 (fun _ => 0))] := hD
  refine lv_aload_n hx hb dX4_init_28 rfl (lv_at hl 0 rfl) ?_
  refine lv_sipush (v := (4096 : Int32)) hx hb dX4_init_29 (by decide) ?_
  refine va_newa (a0 := (4096, .inl (fun _ => 0))) (atype := .int) (ty := .int) (N' := 4096) hx hb (hts (.arrayClass .int) (by decide +kernel)) rfl hK.1 hP hD hS hA (fun cA => (vp_cell_i cA 4096 (fun _ => 0)).trans rfl) (by decide) (by decide) (Nat.le_of_ble_eq_true rfl) (Nat.le_of_ble_eq_true rfl) (Nat.le_of_ble_eq_true rfl) dX4_init_32 (fun q32 cA H hK2 hP hD hS => ?_)
  obtain rfl : cI = cA := ty_int hK2 0 3 rfl rfl
  clear hK2
  have hP : va_P D vwCl [(h0, .inr (4, [.ref q7, .ref q15, .ref q23, .int 0, .null, .int 0])), (q7, eI cI 12 (fun _ => 0)), (q15, eI cI 16 (fun _ => 0)), (q23, eI cI 12 (fun _ => 0)), (q32, eI cI 4096 (fun _ => 0))] H := hP
  have hD : va_D A [(h0, .inr (4, [.ref q7, .ref q15, .ref q23, .int 0, .null, .int 0])), (q7, eI cI 12 (fun _ => 0)), (q15, eI cI 16 (fun _ => 0)), (q23, eI cI 12 (fun _ => 0)), (q32, eI cI 4096 (fun _ => 0))] := hD
  refine W.widen (k := 4) (n := 4136) (by omega) (by omega) ?_
  refine va_putF (D := D) (ci := 4) (v := .ref q32) (ty := .array .int) (C := RX4) (T := TX4) (N := 6) hx hb hts iX4 tyX4 tyX4_ok nmX4 hown hK.1 hP hD hS 0 rfl rfl 4 (by decide) k21 (fun _ h9 => h9) rfl hin rfl (by decide +kernel) rfl rfl (Nat.le_of_ble_eq_true rfl) dX4_init_34 (fun H locs hP hD hS => ?_)
  have hP : va_P D vwCl [(h0, .inr (4, [.ref q7, .ref q15, .ref q23, .int 0, .ref q32, .int 0])), (q7, eI cI 12 (fun _ => 0)), (q15, eI cI 16 (fun _ => 0)), (q23, eI cI 12 (fun _ => 0)), (q32, eI cI 4096 (fun _ => 0))] H := hP
  have hD : va_D A [(h0, .inr (4, [.ref q7, .ref q15, .ref q23, .int 0, .ref q32, .int 0])), (q7, eI cI 12 (fun _ => 0)), (q15, eI cI 16 (fun _ => 0)), (q23, eI cI 12 (fun _ => 0)), (q32, eI cI 4096 (fun _ => 0))] := hD
  refine lv_aload_n hx hb dX4_init_37 rfl (lv_at hl 0 rfl) ?_
  refine va_get (D := D) (ci := 4) (v := .ref q15) (C := RX4) (T := TX4) (N := 6) hx hb hts iX4 hown hK.1 hP 0 rfl rfl 1 (by decide) k15 (fun _ h9 => h9) rfl dX4_init_38 ?_
  refine lv_iconst (v := (-1 : Int32)) hx hb dX4_init_41 (by decide) ?_
  refine wrSv (As := [.ref q15, .int (-1 : Int32)]) (rest := []) (cw := [(q15, eI cI 16 (fun _ => 0))]) (cw' := [(q15, eI cI 16 RK)]) (wr := [(h0, .inr (4, [.ref q7, .ref q15, .ref q23, .int 0, .ref q32, .int 0])), (q7, eI cI 12 (fun _ => 0)), (q23, eI cI 12 (fun _ => 0)), (q32, eI cI 4096 (fun _ => 0))]) (ws2 := [(h0, .inr (4, [.ref q7, .ref q15, .ref q23, .int 0, .ref q32, .int 0])), (q7, eI cI 12 (fun _ => 0)), (q15, eI cI 16 RK), (q23, eI cI 12 (fun _ => 0)), (q32, eI cI 4096 (fun _ => 0))]) ⟨hx, hb, hml, hown, hts⟩ (tJ7_fill_53178 l D cI cJ cG q15 16 H.size (-1 : Int32) (fun _ => 0) RK hRK) (va_cwS 2 hts gX4_init_J7_fill_53178 rfl rfl rfl (by decide +kernel) ⟨Nat.le_of_ble_eq_true rfl, Nat.le_of_ble_eq_true rfl⟩) hK hP hD hS hA [2] [0, 1, 3, 4] [0, 1, 4, 2, 3] rfl rfl rfl (by decide) (by decide) (by decide) (by decide) rfl hl.1 rfl (lv_room (Nat.le_of_ble_eq_true rfl)) dX4_init_42 ⟨Nat.le_of_ble_eq_true rfl, Nat.le_of_ble_eq_true rfl⟩ (fun H locs hP hD hS => ?_)
  exact W.vret hx hb hr (fun t ht hW => by rw [← hAe] at hD hS; exact ⟨⟨(fun i => [q7, q15, q23, q32].getD i 0), rfl, trivial, by rw [ht]; exact hP, hD⟩, hS.F ht⟩) hS.2.2 dX4_init_45

set_option maxHeartbeats 400000 in
set_option maxRecDepth 100000 in
theorem tX6_init (l : Launch) (D : va_G) (cI cJ cG : ClassId) (h0  : Nat) (sz : Nat)  : Met l yX6_init wsX6_init ({ frames := 1, cells := 19, slots := 4384, locals := 12 }) (va_Pc [.ref h0] (wP D (tyL cI cJ cG) [(h0, .inr (6, [.int 0, .null, .null, .null, .null, .null, .int 0, .null, .null, .null, .null, .null, .int 0, .null, .int 0, .null, .int 0, .int 0, .null, .int 0, .null, .null, .null, .null, .int 0, .int 0, .int 0, .null, .null, .int 0, .int 0, .int 0, .long 0]))] sz)) (wQn D [(h0, .inr (6, [.int 0, .null, .null, .null, .null, .null, .int 0, .null, .null, .null, .null, .null, .int 0, .null, .int 0, .null, .int 0, .int 0, .null, .int 0, .null, .null, .null, .null, .int 0, .int 0, .int 0, .null, .null, .int 0, .int 0, .int 0, .long 0]))] (fun r => [(h0, .inr (6, [.int 0, .ref (r 0), .ref (r 1), .ref (r 2), .ref (r 3), .ref (r 4), .int 0, .ref (r 5), .ref (r 6), .ref (r 7), .ref (r 8), .ref (r 9), .int 0, .ref (r 10), .int 0, .ref (r 11), .int 0, .int 0, .ref (r 12), .int 0, .ref (r 13), .ref (r 14), .ref (r 15), .ref (r 16), .int 0, .int 0, .int 0, .ref (r 17), .ref (r 18), .int 0, .int 0, .int 0, .long 0])), ((r 0), eI cI 16 (fun _ => 0)), ((r 1), eI cI 16 (fun _ => 0)), ((r 2), eI cI 16 (fun _ => 0)), ((r 3), eI cI 16 (fun _ => 0)), ((r 4), eI cI 16 (fun _ => 0)), ((r 5), eI cI 12 (fun _ => 0)), ((r 6), eI cI 16 (fun _ => 0)), ((r 7), eI cI 12 (fun _ => 0)), ((r 8), eI cI 12 (fun _ => 0)), ((r 9), eJ cJ 4096 (vp_updL (fun _ => 0) ((0 : Int32)).toNatClampNeg (1 : Int64))), ((r 10), eI cI 48 (fun _ => 0)), ((r 11), eI cI 16 (fun _ => 0)), ((r 12), eI cI 6 (fun _ => 0)), ((r 13), eI cI 16 (fun _ => 0)), ((r 14), eI cI 6 (fun _ => 0)), ((r 15), eI cI 16 (fun _ => 0)), ((r 16), eI cI 16 (fun _ => 0)), ((r 17), eI cI 16 (fun _ => 0)), ((r 18), eI cI 16 (fun _ => 0))]) sz) 19 4384 (va_A [(h0, .inr (6, [.int 0, .null, .null, .null, .null, .null, .int 0, .null, .null, .null, .null, .null, .int 0, .null, .int 0, .null, .int 0, .int 0, .null, .int 0, .null, .null, .null, .null, .int 0, .int 0, .int 0, .null, .null, .int 0, .int 0, .int 0, .long 0]))] sz) := by
  refine Met.ofW (cc := cX6_init) (maxL := 1) (ret := none) (by decide) rfl ?_
  intro p e s m args below meth c s₁ B hml hv
  obtain ⟨rfl, hsz, hP, hK, hD0⟩ := hv
  have hx := B.exec
  have hb := B.bytes
  have hr := B.returns
  have hts := atoms_spec (ws := wsX6_init) B.pre
  have hown : s.vm.findClass RX6 = some m.cls := findClass_of_methodNamed B.named
  have hlocks := B.notSynchronized
  have hin : meth.name = "<init>" := (name_of_methodNamed B.named B.method).1
  have iX6 : ∀ w ∈ wsX60, w ∈ wsX6_init := by decide +kernel
  have k7 := hts (.fieldLink RX6 7 "BlockMarkerModel" "kinds" "[I") (by decide +kernel)
  have k13 := hts (.fieldLink RX6 13 "BlockMarkerModel" "vs" "[I") (by decide +kernel)
  have k16 := hts (.fieldLink RX6 16 "BlockMarkerModel" "ws" "[I") (by decide +kernel)
  have k19 := hts (.fieldLink RX6 19 "BlockMarkerModel" "roles" "[I") (by decide +kernel)
  have k22 := hts (.fieldLink RX6 22 "BlockMarkerModel" "partner" "[I") (by decide +kernel)
  have k25 := hts (.fieldLink RX6 25 "BlockMarkerModel" "lineOf" "[I") (by decide +kernel)
  have k28 := hts (.fieldLink RX6 28 "BlockMarkerModel" "rank" "[I") (by decide +kernel)
  have k31 := hts (.fieldLink RX6 31 "BlockMarkerModel" "behind" "[I") (by decide +kernel)
  have k34 := hts (.fieldLink RX6 34 "BlockMarkerModel" "before" "[I") (by decide +kernel)
  have k37 := hts (.fieldLink RX6 37 "BlockMarkerModel" "ways" "[J") (by decide +kernel)
  have k41 := hts (.fieldLink RX6 41 "BlockMarkerModel" "inputOf" "[I") (by decide +kernel)
  have k44 := hts (.fieldLink RX6 44 "BlockMarkerModel" "answer" "[I") (by decide +kernel)
  have k47 := hts (.fieldLink RX6 47 "BlockMarkerModel" "values" "[I") (by decide +kernel)
  have k50 := hts (.fieldLink RX6 50 "BlockMarkerModel" "printedRow" "[I") (by decide +kernel)
  have k53 := hts (.fieldLink RX6 53 "BlockMarkerModel" "wasValues" "[I") (by decide +kernel)
  have k56 := hts (.fieldLink RX6 56 "BlockMarkerModel" "wasPrinted" "[I") (by decide +kernel)
  have k59 := hts (.fieldLink RX6 59 "BlockMarkerModel" "due" "[I") (by decide +kernel)
  have k62 := hts (.fieldLink RX6 62 "BlockMarkerModel" "takenPlace" "[I") (by decide +kernel)
  have k65 := hts (.fieldLink RX6 65 "BlockMarkerModel" "against" "[I") (by decide +kernel)
  subst hsz
  have hD := hD0.self (sz := s.heap.size)
  generalize hAe : va_A [(h0, .inr (6, [.int 0, .null, .null, .null, .null, .null, .int 0, .null, .null, .null, .null, .null, .int 0, .null, .int 0, .null, .int 0, .int 0, .null, .int 0, .null, .null, .null, .null, .int 0, .int 0, .int 0, .null, .null, .int 0, .int 0, .int 0, .long 0]))] s.heap.size = A at hD ⊢
  have hA : ∀ q : Nat, s.heap.size ≤ q → A q := fun q h => by rw [← hAe]; exact Or.inr h
  have hS : va_S A s.heap s.heap [] := va_S.rf
  have hl := lv_entry ([.ref h0]) (n := 1) (Nat.le_of_ble_eq_true rfl)
  rw [lg_entry_eq]
  generalize (lg_sl ([.ref h0]) ++ List.replicate (1 - (lg_sl ([.ref h0])).length) Slot.unset).toArray = ls at hl ⊢
  have hl : lv_has ls 1 [(0, .ref h0)] := hl
  refine lv_aload_n hx hb dX6_init_0 rfl (lv_at hl 0 rfl) ?_
  refine W.objInit hx hb hown (hts (.methodLink RX6 1 objectInit) (by decide +kernel)) (hts (.instanceMethod objectInit) (by decide +kernel)) (hts (.code objectInit ⟨#[0xb1]⟩ 1 none) (List.mem_of_getElem? (i := 3) rfl)) rfl (by rw [hml]; exact hl.1) rfl dX6_init_1 (Nat.le_of_ble_eq_true rfl) (Nat.le_of_ble_eq_true rfl) ?_
  refine W.eq (g2 := F0 m 4 ls []) rfl ?_
  refine lv_aload_n hx hb dX6_init_4 rfl (lv_at hl 0 rfl) ?_
  refine lv_bipush (v := (16 : Int32)) hx hb dX6_init_5 (by decide) ?_
  refine va_newa (a0 := (16, .inl (fun _ => 0))) (atype := .int) (ty := .int) (N' := 16) hx hb (hts (.arrayClass .int) (by decide +kernel)) rfl hK.1 hP hD hS hA (fun cA => (vp_cell_i cA 16 (fun _ => 0)).trans rfl) (by decide) (by decide) (Nat.le_of_ble_eq_true rfl) (Nat.le_of_ble_eq_true rfl) (Nat.le_of_ble_eq_true rfl) dX6_init_7 (fun q7 cA H hK2 hP hD hS => ?_)
  obtain rfl : cI = cA := ty_int hK2 0 3 rfl rfl
  clear hK2
  have hP : va_P D vwCl [(h0, .inr (6, [.int 0, .null, .null, .null, .null, .null, .int 0, .null, .null, .null, .null, .null, .int 0, .null, .int 0, .null, .int 0, .int 0, .null, .int 0, .null, .null, .null, .null, .int 0, .int 0, .int 0, .null, .null, .int 0, .int 0, .int 0, .long 0])), (q7, eI cI 16 (fun _ => 0))] H := hP
  have hD : va_D A [(h0, .inr (6, [.int 0, .null, .null, .null, .null, .null, .int 0, .null, .null, .null, .null, .null, .int 0, .null, .int 0, .null, .int 0, .int 0, .null, .int 0, .null, .null, .null, .null, .int 0, .int 0, .int 0, .null, .null, .int 0, .int 0, .int 0, .long 0])), (q7, eI cI 16 (fun _ => 0))] := hD
  refine W.widen (k := 1) (n := 16) (by omega) (by omega) ?_
  refine va_putF (D := D) (ci := 6) (v := .ref q7) (ty := .array .int) (C := RX6) (T := TX6) (N := 33) hx hb hts iX6 tyX6 tyX6_ok nmX6 hown hK.1 hP hD hS 0 rfl rfl 1 (by decide) k7 (fun _ h9 => h9) rfl hin rfl (by decide +kernel) rfl rfl (Nat.le_of_ble_eq_true rfl) dX6_init_9 (fun H locs hP hD hS => ?_)
  have hP : va_P D vwCl [(h0, .inr (6, [.int 0, .ref q7, .null, .null, .null, .null, .int 0, .null, .null, .null, .null, .null, .int 0, .null, .int 0, .null, .int 0, .int 0, .null, .int 0, .null, .null, .null, .null, .int 0, .int 0, .int 0, .null, .null, .int 0, .int 0, .int 0, .long 0])), (q7, eI cI 16 (fun _ => 0))] H := hP
  have hD : va_D A [(h0, .inr (6, [.int 0, .ref q7, .null, .null, .null, .null, .int 0, .null, .null, .null, .null, .null, .int 0, .null, .int 0, .null, .int 0, .int 0, .null, .int 0, .null, .null, .null, .null, .int 0, .int 0, .int 0, .null, .null, .int 0, .int 0, .int 0, .long 0])), (q7, eI cI 16 (fun _ => 0))] := hD
  refine lv_aload_n hx hb dX6_init_12 rfl (lv_at hl 0 rfl) ?_
  refine lv_bipush (v := (16 : Int32)) hx hb dX6_init_13 (by decide) ?_
  refine va_newa (a0 := (16, .inl (fun _ => 0))) (atype := .int) (ty := .int) (N' := 16) hx hb (hts (.arrayClass .int) (by decide +kernel)) rfl hK.1 hP hD hS hA (fun cA => (vp_cell_i cA 16 (fun _ => 0)).trans rfl) (by decide) (by decide) (Nat.le_of_ble_eq_true rfl) (Nat.le_of_ble_eq_true rfl) (Nat.le_of_ble_eq_true rfl) dX6_init_15 (fun q15 cA H hK2 hP hD hS => ?_)
  obtain rfl : cI = cA := ty_int hK2 0 3 rfl rfl
  clear hK2
  have hP : va_P D vwCl [(h0, .inr (6, [.int 0, .ref q7, .null, .null, .null, .null, .int 0, .null, .null, .null, .null, .null, .int 0, .null, .int 0, .null, .int 0, .int 0, .null, .int 0, .null, .null, .null, .null, .int 0, .int 0, .int 0, .null, .null, .int 0, .int 0, .int 0, .long 0])), (q7, eI cI 16 (fun _ => 0)), (q15, eI cI 16 (fun _ => 0))] H := hP
  have hD : va_D A [(h0, .inr (6, [.int 0, .ref q7, .null, .null, .null, .null, .int 0, .null, .null, .null, .null, .null, .int 0, .null, .int 0, .null, .int 0, .int 0, .null, .int 0, .null, .null, .null, .null, .int 0, .int 0, .int 0, .null, .null, .int 0, .int 0, .int 0, .long 0])), (q7, eI cI 16 (fun _ => 0)), (q15, eI cI 16 (fun _ => 0))] := hD
  refine W.widen (k := 2) (n := 32) (by omega) (by omega) ?_
  refine va_putF (D := D) (ci := 6) (v := .ref q15) (ty := .array .int) (C := RX6) (T := TX6) (N := 33) hx hb hts iX6 tyX6 tyX6_ok nmX6 hown hK.1 hP hD hS 0 rfl rfl 2 (by decide) k13 (fun _ h9 => h9) rfl hin rfl (by decide +kernel) rfl rfl (Nat.le_of_ble_eq_true rfl) dX6_init_17 (fun H locs hP hD hS => ?_)
  have hP : va_P D vwCl [(h0, .inr (6, [.int 0, .ref q7, .ref q15, .null, .null, .null, .int 0, .null, .null, .null, .null, .null, .int 0, .null, .int 0, .null, .int 0, .int 0, .null, .int 0, .null, .null, .null, .null, .int 0, .int 0, .int 0, .null, .null, .int 0, .int 0, .int 0, .long 0])), (q7, eI cI 16 (fun _ => 0)), (q15, eI cI 16 (fun _ => 0))] H := hP
  have hD : va_D A [(h0, .inr (6, [.int 0, .ref q7, .ref q15, .null, .null, .null, .int 0, .null, .null, .null, .null, .null, .int 0, .null, .int 0, .null, .int 0, .int 0, .null, .int 0, .null, .null, .null, .null, .int 0, .int 0, .int 0, .null, .null, .int 0, .int 0, .int 0, .long 0])), (q7, eI cI 16 (fun _ => 0)), (q15, eI cI 16 (fun _ => 0))] := hD
  refine lv_aload_n hx hb dX6_init_20 rfl (lv_at hl 0 rfl) ?_
  refine lv_bipush (v := (16 : Int32)) hx hb dX6_init_21 (by decide) ?_
  refine va_newa (a0 := (16, .inl (fun _ => 0))) (atype := .int) (ty := .int) (N' := 16) hx hb (hts (.arrayClass .int) (by decide +kernel)) rfl hK.1 hP hD hS hA (fun cA => (vp_cell_i cA 16 (fun _ => 0)).trans rfl) (by decide) (by decide) (Nat.le_of_ble_eq_true rfl) (Nat.le_of_ble_eq_true rfl) (Nat.le_of_ble_eq_true rfl) dX6_init_23 (fun q23 cA H hK2 hP hD hS => ?_)
  obtain rfl : cI = cA := ty_int hK2 0 3 rfl rfl
  clear hK2
  have hP : va_P D vwCl [(h0, .inr (6, [.int 0, .ref q7, .ref q15, .null, .null, .null, .int 0, .null, .null, .null, .null, .null, .int 0, .null, .int 0, .null, .int 0, .int 0, .null, .int 0, .null, .null, .null, .null, .int 0, .int 0, .int 0, .null, .null, .int 0, .int 0, .int 0, .long 0])), (q7, eI cI 16 (fun _ => 0)), (q15, eI cI 16 (fun _ => 0)), (q23, eI cI 16 (fun _ => 0))] H := hP
  have hD : va_D A [(h0, .inr (6, [.int 0, .ref q7, .ref q15, .null, .null, .null, .int 0, .null, .null, .null, .null, .null, .int 0, .null, .int 0, .null, .int 0, .int 0, .null, .int 0, .null, .null, .null, .null, .int 0, .int 0, .int 0, .null, .null, .int 0, .int 0, .int 0, .long 0])), (q7, eI cI 16 (fun _ => 0)), (q15, eI cI 16 (fun _ => 0)), (q23, eI cI 16 (fun _ => 0))] := hD
  refine W.widen (k := 3) (n := 48) (by omega) (by omega) ?_
  refine va_putF (D := D) (ci := 6) (v := .ref q23) (ty := .array .int) (C := RX6) (T := TX6) (N := 33) hx hb hts iX6 tyX6 tyX6_ok nmX6 hown hK.1 hP hD hS 0 rfl rfl 3 (by decide) k16 (fun _ h9 => h9) rfl hin rfl (by decide +kernel) rfl rfl (Nat.le_of_ble_eq_true rfl) dX6_init_25 (fun H locs hP hD hS => ?_)
  have hP : va_P D vwCl [(h0, .inr (6, [.int 0, .ref q7, .ref q15, .ref q23, .null, .null, .int 0, .null, .null, .null, .null, .null, .int 0, .null, .int 0, .null, .int 0, .int 0, .null, .int 0, .null, .null, .null, .null, .int 0, .int 0, .int 0, .null, .null, .int 0, .int 0, .int 0, .long 0])), (q7, eI cI 16 (fun _ => 0)), (q15, eI cI 16 (fun _ => 0)), (q23, eI cI 16 (fun _ => 0))] H := hP
  have hD : va_D A [(h0, .inr (6, [.int 0, .ref q7, .ref q15, .ref q23, .null, .null, .int 0, .null, .null, .null, .null, .null, .int 0, .null, .int 0, .null, .int 0, .int 0, .null, .int 0, .null, .null, .null, .null, .int 0, .int 0, .int 0, .null, .null, .int 0, .int 0, .int 0, .long 0])), (q7, eI cI 16 (fun _ => 0)), (q15, eI cI 16 (fun _ => 0)), (q23, eI cI 16 (fun _ => 0))] := hD
  refine lv_aload_n hx hb dX6_init_28 rfl (lv_at hl 0 rfl) ?_
  refine lv_bipush (v := (16 : Int32)) hx hb dX6_init_29 (by decide) ?_
  refine va_newa (a0 := (16, .inl (fun _ => 0))) (atype := .int) (ty := .int) (N' := 16) hx hb (hts (.arrayClass .int) (by decide +kernel)) rfl hK.1 hP hD hS hA (fun cA => (vp_cell_i cA 16 (fun _ => 0)).trans rfl) (by decide) (by decide) (Nat.le_of_ble_eq_true rfl) (Nat.le_of_ble_eq_true rfl) (Nat.le_of_ble_eq_true rfl) dX6_init_31 (fun q31 cA H hK2 hP hD hS => ?_)
  obtain rfl : cI = cA := ty_int hK2 0 3 rfl rfl
  clear hK2
  have hP : va_P D vwCl [(h0, .inr (6, [.int 0, .ref q7, .ref q15, .ref q23, .null, .null, .int 0, .null, .null, .null, .null, .null, .int 0, .null, .int 0, .null, .int 0, .int 0, .null, .int 0, .null, .null, .null, .null, .int 0, .int 0, .int 0, .null, .null, .int 0, .int 0, .int 0, .long 0])), (q7, eI cI 16 (fun _ => 0)), (q15, eI cI 16 (fun _ => 0)), (q23, eI cI 16 (fun _ => 0)), (q31, eI cI 16 (fun _ => 0))] H := hP
  have hD : va_D A [(h0, .inr (6, [.int 0, .ref q7, .ref q15, .ref q23, .null, .null, .int 0, .null, .null, .null, .null, .null, .int 0, .null, .int 0, .null, .int 0, .int 0, .null, .int 0, .null, .null, .null, .null, .int 0, .int 0, .int 0, .null, .null, .int 0, .int 0, .int 0, .long 0])), (q7, eI cI 16 (fun _ => 0)), (q15, eI cI 16 (fun _ => 0)), (q23, eI cI 16 (fun _ => 0)), (q31, eI cI 16 (fun _ => 0))] := hD
  refine W.widen (k := 4) (n := 64) (by omega) (by omega) ?_
  refine va_putF (D := D) (ci := 6) (v := .ref q31) (ty := .array .int) (C := RX6) (T := TX6) (N := 33) hx hb hts iX6 tyX6 tyX6_ok nmX6 hown hK.1 hP hD hS 0 rfl rfl 4 (by decide) k19 (fun _ h9 => h9) rfl hin rfl (by decide +kernel) rfl rfl (Nat.le_of_ble_eq_true rfl) dX6_init_33 (fun H locs hP hD hS => ?_)
  have hP : va_P D vwCl [(h0, .inr (6, [.int 0, .ref q7, .ref q15, .ref q23, .ref q31, .null, .int 0, .null, .null, .null, .null, .null, .int 0, .null, .int 0, .null, .int 0, .int 0, .null, .int 0, .null, .null, .null, .null, .int 0, .int 0, .int 0, .null, .null, .int 0, .int 0, .int 0, .long 0])), (q7, eI cI 16 (fun _ => 0)), (q15, eI cI 16 (fun _ => 0)), (q23, eI cI 16 (fun _ => 0)), (q31, eI cI 16 (fun _ => 0))] H := hP
  have hD : va_D A [(h0, .inr (6, [.int 0, .ref q7, .ref q15, .ref q23, .ref q31, .null, .int 0, .null, .null, .null, .null, .null, .int 0, .null, .int 0, .null, .int 0, .int 0, .null, .int 0, .null, .null, .null, .null, .int 0, .int 0, .int 0, .null, .null, .int 0, .int 0, .int 0, .long 0])), (q7, eI cI 16 (fun _ => 0)), (q15, eI cI 16 (fun _ => 0)), (q23, eI cI 16 (fun _ => 0)), (q31, eI cI 16 (fun _ => 0))] := hD
  refine lv_aload_n hx hb dX6_init_36 rfl (lv_at hl 0 rfl) ?_
  refine lv_bipush (v := (16 : Int32)) hx hb dX6_init_37 (by decide) ?_
  refine va_newa (a0 := (16, .inl (fun _ => 0))) (atype := .int) (ty := .int) (N' := 16) hx hb (hts (.arrayClass .int) (by decide +kernel)) rfl hK.1 hP hD hS hA (fun cA => (vp_cell_i cA 16 (fun _ => 0)).trans rfl) (by decide) (by decide) (Nat.le_of_ble_eq_true rfl) (Nat.le_of_ble_eq_true rfl) (Nat.le_of_ble_eq_true rfl) dX6_init_39 (fun q39 cA H hK2 hP hD hS => ?_)
  obtain rfl : cI = cA := ty_int hK2 0 3 rfl rfl
  clear hK2
  have hP : va_P D vwCl [(h0, .inr (6, [.int 0, .ref q7, .ref q15, .ref q23, .ref q31, .null, .int 0, .null, .null, .null, .null, .null, .int 0, .null, .int 0, .null, .int 0, .int 0, .null, .int 0, .null, .null, .null, .null, .int 0, .int 0, .int 0, .null, .null, .int 0, .int 0, .int 0, .long 0])), (q7, eI cI 16 (fun _ => 0)), (q15, eI cI 16 (fun _ => 0)), (q23, eI cI 16 (fun _ => 0)), (q31, eI cI 16 (fun _ => 0)), (q39, eI cI 16 (fun _ => 0))] H := hP
  have hD : va_D A [(h0, .inr (6, [.int 0, .ref q7, .ref q15, .ref q23, .ref q31, .null, .int 0, .null, .null, .null, .null, .null, .int 0, .null, .int 0, .null, .int 0, .int 0, .null, .int 0, .null, .null, .null, .null, .int 0, .int 0, .int 0, .null, .null, .int 0, .int 0, .int 0, .long 0])), (q7, eI cI 16 (fun _ => 0)), (q15, eI cI 16 (fun _ => 0)), (q23, eI cI 16 (fun _ => 0)), (q31, eI cI 16 (fun _ => 0)), (q39, eI cI 16 (fun _ => 0))] := hD
  refine W.widen (k := 5) (n := 80) (by omega) (by omega) ?_
  refine va_putF (D := D) (ci := 6) (v := .ref q39) (ty := .array .int) (C := RX6) (T := TX6) (N := 33) hx hb hts iX6 tyX6 tyX6_ok nmX6 hown hK.1 hP hD hS 0 rfl rfl 5 (by decide) k22 (fun _ h9 => h9) rfl hin rfl (by decide +kernel) rfl rfl (Nat.le_of_ble_eq_true rfl) dX6_init_41 (fun H locs hP hD hS => ?_)
  have hP : va_P D vwCl [(h0, .inr (6, [.int 0, .ref q7, .ref q15, .ref q23, .ref q31, .ref q39, .int 0, .null, .null, .null, .null, .null, .int 0, .null, .int 0, .null, .int 0, .int 0, .null, .int 0, .null, .null, .null, .null, .int 0, .int 0, .int 0, .null, .null, .int 0, .int 0, .int 0, .long 0])), (q7, eI cI 16 (fun _ => 0)), (q15, eI cI 16 (fun _ => 0)), (q23, eI cI 16 (fun _ => 0)), (q31, eI cI 16 (fun _ => 0)), (q39, eI cI 16 (fun _ => 0))] H := hP
  have hD : va_D A [(h0, .inr (6, [.int 0, .ref q7, .ref q15, .ref q23, .ref q31, .ref q39, .int 0, .null, .null, .null, .null, .null, .int 0, .null, .int 0, .null, .int 0, .int 0, .null, .int 0, .null, .null, .null, .null, .int 0, .int 0, .int 0, .null, .null, .int 0, .int 0, .int 0, .long 0])), (q7, eI cI 16 (fun _ => 0)), (q15, eI cI 16 (fun _ => 0)), (q23, eI cI 16 (fun _ => 0)), (q31, eI cI 16 (fun _ => 0)), (q39, eI cI 16 (fun _ => 0))] := hD
  refine lv_aload_n hx hb dX6_init_44 rfl (lv_at hl 0 rfl) ?_
  refine lv_bipush (v := (12 : Int32)) hx hb dX6_init_45 (by decide) ?_
  refine va_newa (a0 := (12, .inl (fun _ => 0))) (atype := .int) (ty := .int) (N' := 12) hx hb (hts (.arrayClass .int) (by decide +kernel)) rfl hK.1 hP hD hS hA (fun cA => (vp_cell_i cA 12 (fun _ => 0)).trans rfl) (by decide) (by decide) (Nat.le_of_ble_eq_true rfl) (Nat.le_of_ble_eq_true rfl) (Nat.le_of_ble_eq_true rfl) dX6_init_47 (fun q47 cA H hK2 hP hD hS => ?_)
  obtain rfl : cI = cA := ty_int hK2 0 3 rfl rfl
  clear hK2
  have hP : va_P D vwCl [(h0, .inr (6, [.int 0, .ref q7, .ref q15, .ref q23, .ref q31, .ref q39, .int 0, .null, .null, .null, .null, .null, .int 0, .null, .int 0, .null, .int 0, .int 0, .null, .int 0, .null, .null, .null, .null, .int 0, .int 0, .int 0, .null, .null, .int 0, .int 0, .int 0, .long 0])), (q7, eI cI 16 (fun _ => 0)), (q15, eI cI 16 (fun _ => 0)), (q23, eI cI 16 (fun _ => 0)), (q31, eI cI 16 (fun _ => 0)), (q39, eI cI 16 (fun _ => 0)), (q47, eI cI 12 (fun _ => 0))] H := hP
  have hD : va_D A [(h0, .inr (6, [.int 0, .ref q7, .ref q15, .ref q23, .ref q31, .ref q39, .int 0, .null, .null, .null, .null, .null, .int 0, .null, .int 0, .null, .int 0, .int 0, .null, .int 0, .null, .null, .null, .null, .int 0, .int 0, .int 0, .null, .null, .int 0, .int 0, .int 0, .long 0])), (q7, eI cI 16 (fun _ => 0)), (q15, eI cI 16 (fun _ => 0)), (q23, eI cI 16 (fun _ => 0)), (q31, eI cI 16 (fun _ => 0)), (q39, eI cI 16 (fun _ => 0)), (q47, eI cI 12 (fun _ => 0))] := hD
  refine W.widen (k := 6) (n := 92) (by omega) (by omega) ?_
  refine va_putF (D := D) (ci := 6) (v := .ref q47) (ty := .array .int) (C := RX6) (T := TX6) (N := 33) hx hb hts iX6 tyX6 tyX6_ok nmX6 hown hK.1 hP hD hS 0 rfl rfl 7 (by decide) k25 (fun _ h9 => h9) rfl hin rfl (by decide +kernel) rfl rfl (Nat.le_of_ble_eq_true rfl) dX6_init_49 (fun H locs hP hD hS => ?_)
  have hP : va_P D vwCl [(h0, .inr (6, [.int 0, .ref q7, .ref q15, .ref q23, .ref q31, .ref q39, .int 0, .ref q47, .null, .null, .null, .null, .int 0, .null, .int 0, .null, .int 0, .int 0, .null, .int 0, .null, .null, .null, .null, .int 0, .int 0, .int 0, .null, .null, .int 0, .int 0, .int 0, .long 0])), (q7, eI cI 16 (fun _ => 0)), (q15, eI cI 16 (fun _ => 0)), (q23, eI cI 16 (fun _ => 0)), (q31, eI cI 16 (fun _ => 0)), (q39, eI cI 16 (fun _ => 0)), (q47, eI cI 12 (fun _ => 0))] H := hP
  have hD : va_D A [(h0, .inr (6, [.int 0, .ref q7, .ref q15, .ref q23, .ref q31, .ref q39, .int 0, .ref q47, .null, .null, .null, .null, .int 0, .null, .int 0, .null, .int 0, .int 0, .null, .int 0, .null, .null, .null, .null, .int 0, .int 0, .int 0, .null, .null, .int 0, .int 0, .int 0, .long 0])), (q7, eI cI 16 (fun _ => 0)), (q15, eI cI 16 (fun _ => 0)), (q23, eI cI 16 (fun _ => 0)), (q31, eI cI 16 (fun _ => 0)), (q39, eI cI 16 (fun _ => 0)), (q47, eI cI 12 (fun _ => 0))] := hD
  refine lv_aload_n hx hb dX6_init_52 rfl (lv_at hl 0 rfl) ?_
  refine lv_bipush (v := (16 : Int32)) hx hb dX6_init_53 (by decide) ?_
  refine va_newa (a0 := (16, .inl (fun _ => 0))) (atype := .int) (ty := .int) (N' := 16) hx hb (hts (.arrayClass .int) (by decide +kernel)) rfl hK.1 hP hD hS hA (fun cA => (vp_cell_i cA 16 (fun _ => 0)).trans rfl) (by decide) (by decide) (Nat.le_of_ble_eq_true rfl) (Nat.le_of_ble_eq_true rfl) (Nat.le_of_ble_eq_true rfl) dX6_init_55 (fun q55 cA H hK2 hP hD hS => ?_)
  obtain rfl : cI = cA := ty_int hK2 0 3 rfl rfl
  clear hK2
  have hP : va_P D vwCl [(h0, .inr (6, [.int 0, .ref q7, .ref q15, .ref q23, .ref q31, .ref q39, .int 0, .ref q47, .null, .null, .null, .null, .int 0, .null, .int 0, .null, .int 0, .int 0, .null, .int 0, .null, .null, .null, .null, .int 0, .int 0, .int 0, .null, .null, .int 0, .int 0, .int 0, .long 0])), (q7, eI cI 16 (fun _ => 0)), (q15, eI cI 16 (fun _ => 0)), (q23, eI cI 16 (fun _ => 0)), (q31, eI cI 16 (fun _ => 0)), (q39, eI cI 16 (fun _ => 0)), (q47, eI cI 12 (fun _ => 0)), (q55, eI cI 16 (fun _ => 0))] H := hP
  have hD : va_D A [(h0, .inr (6, [.int 0, .ref q7, .ref q15, .ref q23, .ref q31, .ref q39, .int 0, .ref q47, .null, .null, .null, .null, .int 0, .null, .int 0, .null, .int 0, .int 0, .null, .int 0, .null, .null, .null, .null, .int 0, .int 0, .int 0, .null, .null, .int 0, .int 0, .int 0, .long 0])), (q7, eI cI 16 (fun _ => 0)), (q15, eI cI 16 (fun _ => 0)), (q23, eI cI 16 (fun _ => 0)), (q31, eI cI 16 (fun _ => 0)), (q39, eI cI 16 (fun _ => 0)), (q47, eI cI 12 (fun _ => 0)), (q55, eI cI 16 (fun _ => 0))] := hD
  refine W.widen (k := 7) (n := 108) (by omega) (by omega) ?_
  refine va_putF (D := D) (ci := 6) (v := .ref q55) (ty := .array .int) (C := RX6) (T := TX6) (N := 33) hx hb hts iX6 tyX6 tyX6_ok nmX6 hown hK.1 hP hD hS 0 rfl rfl 8 (by decide) k28 (fun _ h9 => h9) rfl hin rfl (by decide +kernel) rfl rfl (Nat.le_of_ble_eq_true rfl) dX6_init_57 (fun H locs hP hD hS => ?_)
  have hP : va_P D vwCl [(h0, .inr (6, [.int 0, .ref q7, .ref q15, .ref q23, .ref q31, .ref q39, .int 0, .ref q47, .ref q55, .null, .null, .null, .int 0, .null, .int 0, .null, .int 0, .int 0, .null, .int 0, .null, .null, .null, .null, .int 0, .int 0, .int 0, .null, .null, .int 0, .int 0, .int 0, .long 0])), (q7, eI cI 16 (fun _ => 0)), (q15, eI cI 16 (fun _ => 0)), (q23, eI cI 16 (fun _ => 0)), (q31, eI cI 16 (fun _ => 0)), (q39, eI cI 16 (fun _ => 0)), (q47, eI cI 12 (fun _ => 0)), (q55, eI cI 16 (fun _ => 0))] H := hP
  have hD : va_D A [(h0, .inr (6, [.int 0, .ref q7, .ref q15, .ref q23, .ref q31, .ref q39, .int 0, .ref q47, .ref q55, .null, .null, .null, .int 0, .null, .int 0, .null, .int 0, .int 0, .null, .int 0, .null, .null, .null, .null, .int 0, .int 0, .int 0, .null, .null, .int 0, .int 0, .int 0, .long 0])), (q7, eI cI 16 (fun _ => 0)), (q15, eI cI 16 (fun _ => 0)), (q23, eI cI 16 (fun _ => 0)), (q31, eI cI 16 (fun _ => 0)), (q39, eI cI 16 (fun _ => 0)), (q47, eI cI 12 (fun _ => 0)), (q55, eI cI 16 (fun _ => 0))] := hD
  refine lv_aload_n hx hb dX6_init_60 rfl (lv_at hl 0 rfl) ?_
  refine lv_bipush (v := (12 : Int32)) hx hb dX6_init_61 (by decide) ?_
  refine va_newa (a0 := (12, .inl (fun _ => 0))) (atype := .int) (ty := .int) (N' := 12) hx hb (hts (.arrayClass .int) (by decide +kernel)) rfl hK.1 hP hD hS hA (fun cA => (vp_cell_i cA 12 (fun _ => 0)).trans rfl) (by decide) (by decide) (Nat.le_of_ble_eq_true rfl) (Nat.le_of_ble_eq_true rfl) (Nat.le_of_ble_eq_true rfl) dX6_init_63 (fun q63 cA H hK2 hP hD hS => ?_)
  obtain rfl : cI = cA := ty_int hK2 0 3 rfl rfl
  clear hK2
  have hP : va_P D vwCl [(h0, .inr (6, [.int 0, .ref q7, .ref q15, .ref q23, .ref q31, .ref q39, .int 0, .ref q47, .ref q55, .null, .null, .null, .int 0, .null, .int 0, .null, .int 0, .int 0, .null, .int 0, .null, .null, .null, .null, .int 0, .int 0, .int 0, .null, .null, .int 0, .int 0, .int 0, .long 0])), (q7, eI cI 16 (fun _ => 0)), (q15, eI cI 16 (fun _ => 0)), (q23, eI cI 16 (fun _ => 0)), (q31, eI cI 16 (fun _ => 0)), (q39, eI cI 16 (fun _ => 0)), (q47, eI cI 12 (fun _ => 0)), (q55, eI cI 16 (fun _ => 0)), (q63, eI cI 12 (fun _ => 0))] H := hP
  have hD : va_D A [(h0, .inr (6, [.int 0, .ref q7, .ref q15, .ref q23, .ref q31, .ref q39, .int 0, .ref q47, .ref q55, .null, .null, .null, .int 0, .null, .int 0, .null, .int 0, .int 0, .null, .int 0, .null, .null, .null, .null, .int 0, .int 0, .int 0, .null, .null, .int 0, .int 0, .int 0, .long 0])), (q7, eI cI 16 (fun _ => 0)), (q15, eI cI 16 (fun _ => 0)), (q23, eI cI 16 (fun _ => 0)), (q31, eI cI 16 (fun _ => 0)), (q39, eI cI 16 (fun _ => 0)), (q47, eI cI 12 (fun _ => 0)), (q55, eI cI 16 (fun _ => 0)), (q63, eI cI 12 (fun _ => 0))] := hD
  refine W.widen (k := 8) (n := 120) (by omega) (by omega) ?_
  refine va_putF (D := D) (ci := 6) (v := .ref q63) (ty := .array .int) (C := RX6) (T := TX6) (N := 33) hx hb hts iX6 tyX6 tyX6_ok nmX6 hown hK.1 hP hD hS 0 rfl rfl 9 (by decide) k31 (fun _ h9 => h9) rfl hin rfl (by decide +kernel) rfl rfl (Nat.le_of_ble_eq_true rfl) dX6_init_65 (fun H locs hP hD hS => ?_)
  have hP : va_P D vwCl [(h0, .inr (6, [.int 0, .ref q7, .ref q15, .ref q23, .ref q31, .ref q39, .int 0, .ref q47, .ref q55, .ref q63, .null, .null, .int 0, .null, .int 0, .null, .int 0, .int 0, .null, .int 0, .null, .null, .null, .null, .int 0, .int 0, .int 0, .null, .null, .int 0, .int 0, .int 0, .long 0])), (q7, eI cI 16 (fun _ => 0)), (q15, eI cI 16 (fun _ => 0)), (q23, eI cI 16 (fun _ => 0)), (q31, eI cI 16 (fun _ => 0)), (q39, eI cI 16 (fun _ => 0)), (q47, eI cI 12 (fun _ => 0)), (q55, eI cI 16 (fun _ => 0)), (q63, eI cI 12 (fun _ => 0))] H := hP
  have hD : va_D A [(h0, .inr (6, [.int 0, .ref q7, .ref q15, .ref q23, .ref q31, .ref q39, .int 0, .ref q47, .ref q55, .ref q63, .null, .null, .int 0, .null, .int 0, .null, .int 0, .int 0, .null, .int 0, .null, .null, .null, .null, .int 0, .int 0, .int 0, .null, .null, .int 0, .int 0, .int 0, .long 0])), (q7, eI cI 16 (fun _ => 0)), (q15, eI cI 16 (fun _ => 0)), (q23, eI cI 16 (fun _ => 0)), (q31, eI cI 16 (fun _ => 0)), (q39, eI cI 16 (fun _ => 0)), (q47, eI cI 12 (fun _ => 0)), (q55, eI cI 16 (fun _ => 0)), (q63, eI cI 12 (fun _ => 0))] := hD
  refine lv_aload_n hx hb dX6_init_68 rfl (lv_at hl 0 rfl) ?_
  refine lv_bipush (v := (12 : Int32)) hx hb dX6_init_69 (by decide) ?_
  refine va_newa (a0 := (12, .inl (fun _ => 0))) (atype := .int) (ty := .int) (N' := 12) hx hb (hts (.arrayClass .int) (by decide +kernel)) rfl hK.1 hP hD hS hA (fun cA => (vp_cell_i cA 12 (fun _ => 0)).trans rfl) (by decide) (by decide) (Nat.le_of_ble_eq_true rfl) (Nat.le_of_ble_eq_true rfl) (Nat.le_of_ble_eq_true rfl) dX6_init_71 (fun q71 cA H hK2 hP hD hS => ?_)
  obtain rfl : cI = cA := ty_int hK2 0 3 rfl rfl
  clear hK2
  have hP : va_P D vwCl [(h0, .inr (6, [.int 0, .ref q7, .ref q15, .ref q23, .ref q31, .ref q39, .int 0, .ref q47, .ref q55, .ref q63, .null, .null, .int 0, .null, .int 0, .null, .int 0, .int 0, .null, .int 0, .null, .null, .null, .null, .int 0, .int 0, .int 0, .null, .null, .int 0, .int 0, .int 0, .long 0])), (q7, eI cI 16 (fun _ => 0)), (q15, eI cI 16 (fun _ => 0)), (q23, eI cI 16 (fun _ => 0)), (q31, eI cI 16 (fun _ => 0)), (q39, eI cI 16 (fun _ => 0)), (q47, eI cI 12 (fun _ => 0)), (q55, eI cI 16 (fun _ => 0)), (q63, eI cI 12 (fun _ => 0)), (q71, eI cI 12 (fun _ => 0))] H := hP
  have hD : va_D A [(h0, .inr (6, [.int 0, .ref q7, .ref q15, .ref q23, .ref q31, .ref q39, .int 0, .ref q47, .ref q55, .ref q63, .null, .null, .int 0, .null, .int 0, .null, .int 0, .int 0, .null, .int 0, .null, .null, .null, .null, .int 0, .int 0, .int 0, .null, .null, .int 0, .int 0, .int 0, .long 0])), (q7, eI cI 16 (fun _ => 0)), (q15, eI cI 16 (fun _ => 0)), (q23, eI cI 16 (fun _ => 0)), (q31, eI cI 16 (fun _ => 0)), (q39, eI cI 16 (fun _ => 0)), (q47, eI cI 12 (fun _ => 0)), (q55, eI cI 16 (fun _ => 0)), (q63, eI cI 12 (fun _ => 0)), (q71, eI cI 12 (fun _ => 0))] := hD
  refine W.widen (k := 9) (n := 132) (by omega) (by omega) ?_
  refine va_putF (D := D) (ci := 6) (v := .ref q71) (ty := .array .int) (C := RX6) (T := TX6) (N := 33) hx hb hts iX6 tyX6 tyX6_ok nmX6 hown hK.1 hP hD hS 0 rfl rfl 10 (by decide) k34 (fun _ h9 => h9) rfl hin rfl (by decide +kernel) rfl rfl (Nat.le_of_ble_eq_true rfl) dX6_init_73 (fun H locs hP hD hS => ?_)
  have hP : va_P D vwCl [(h0, .inr (6, [.int 0, .ref q7, .ref q15, .ref q23, .ref q31, .ref q39, .int 0, .ref q47, .ref q55, .ref q63, .ref q71, .null, .int 0, .null, .int 0, .null, .int 0, .int 0, .null, .int 0, .null, .null, .null, .null, .int 0, .int 0, .int 0, .null, .null, .int 0, .int 0, .int 0, .long 0])), (q7, eI cI 16 (fun _ => 0)), (q15, eI cI 16 (fun _ => 0)), (q23, eI cI 16 (fun _ => 0)), (q31, eI cI 16 (fun _ => 0)), (q39, eI cI 16 (fun _ => 0)), (q47, eI cI 12 (fun _ => 0)), (q55, eI cI 16 (fun _ => 0)), (q63, eI cI 12 (fun _ => 0)), (q71, eI cI 12 (fun _ => 0))] H := hP
  have hD : va_D A [(h0, .inr (6, [.int 0, .ref q7, .ref q15, .ref q23, .ref q31, .ref q39, .int 0, .ref q47, .ref q55, .ref q63, .ref q71, .null, .int 0, .null, .int 0, .null, .int 0, .int 0, .null, .int 0, .null, .null, .null, .null, .int 0, .int 0, .int 0, .null, .null, .int 0, .int 0, .int 0, .long 0])), (q7, eI cI 16 (fun _ => 0)), (q15, eI cI 16 (fun _ => 0)), (q23, eI cI 16 (fun _ => 0)), (q31, eI cI 16 (fun _ => 0)), (q39, eI cI 16 (fun _ => 0)), (q47, eI cI 12 (fun _ => 0)), (q55, eI cI 16 (fun _ => 0)), (q63, eI cI 12 (fun _ => 0)), (q71, eI cI 12 (fun _ => 0))] := hD
  refine lv_aload_n hx hb dX6_init_76 rfl (lv_at hl 0 rfl) ?_
  refine lv_sipush (v := (4096 : Int32)) hx hb dX6_init_77 (by decide) ?_
  refine va_newa (a0 := (4096, .inr (.inl (fun _ => 0)))) (atype := .long) (ty := .long) (N' := 4096) hx hb (hts (.arrayClass .long) (by decide +kernel)) rfl hK.1 hP hD hS hA (fun cA => (vp_cell_l cA 4096 (fun _ => 0)).trans rfl) (by decide) (by decide) (Nat.le_of_ble_eq_true rfl) (Nat.le_of_ble_eq_true rfl) (Nat.le_of_ble_eq_true rfl) dX6_init_80 (fun q80 cA H hK2 hP hD hS => ?_)
  obtain rfl : cJ = cA := ty_long hK2 1 3 rfl rfl
  clear hK2
  have hP : va_P D vwCl [(h0, .inr (6, [.int 0, .ref q7, .ref q15, .ref q23, .ref q31, .ref q39, .int 0, .ref q47, .ref q55, .ref q63, .ref q71, .null, .int 0, .null, .int 0, .null, .int 0, .int 0, .null, .int 0, .null, .null, .null, .null, .int 0, .int 0, .int 0, .null, .null, .int 0, .int 0, .int 0, .long 0])), (q7, eI cI 16 (fun _ => 0)), (q15, eI cI 16 (fun _ => 0)), (q23, eI cI 16 (fun _ => 0)), (q31, eI cI 16 (fun _ => 0)), (q39, eI cI 16 (fun _ => 0)), (q47, eI cI 12 (fun _ => 0)), (q55, eI cI 16 (fun _ => 0)), (q63, eI cI 12 (fun _ => 0)), (q71, eI cI 12 (fun _ => 0)), (q80, eJ cJ 4096 (fun _ => 0))] H := hP
  have hD : va_D A [(h0, .inr (6, [.int 0, .ref q7, .ref q15, .ref q23, .ref q31, .ref q39, .int 0, .ref q47, .ref q55, .ref q63, .ref q71, .null, .int 0, .null, .int 0, .null, .int 0, .int 0, .null, .int 0, .null, .null, .null, .null, .int 0, .int 0, .int 0, .null, .null, .int 0, .int 0, .int 0, .long 0])), (q7, eI cI 16 (fun _ => 0)), (q15, eI cI 16 (fun _ => 0)), (q23, eI cI 16 (fun _ => 0)), (q31, eI cI 16 (fun _ => 0)), (q39, eI cI 16 (fun _ => 0)), (q47, eI cI 12 (fun _ => 0)), (q55, eI cI 16 (fun _ => 0)), (q63, eI cI 12 (fun _ => 0)), (q71, eI cI 12 (fun _ => 0)), (q80, eJ cJ 4096 (fun _ => 0))] := hD
  refine W.widen (k := 10) (n := 4228) (by omega) (by omega) ?_
  refine va_putF (D := D) (ci := 6) (v := .ref q80) (ty := .array .long) (C := RX6) (T := TX6) (N := 33) hx hb hts iX6 tyX6 tyX6_ok nmX6 hown hK.1 hP hD hS 0 rfl rfl 11 (by decide) k37 (fun _ h9 => h9) rfl hin rfl (by decide +kernel) rfl rfl (Nat.le_of_ble_eq_true rfl) dX6_init_82 (fun H locs hP hD hS => ?_)
  have hP : va_P D vwCl [(h0, .inr (6, [.int 0, .ref q7, .ref q15, .ref q23, .ref q31, .ref q39, .int 0, .ref q47, .ref q55, .ref q63, .ref q71, .ref q80, .int 0, .null, .int 0, .null, .int 0, .int 0, .null, .int 0, .null, .null, .null, .null, .int 0, .int 0, .int 0, .null, .null, .int 0, .int 0, .int 0, .long 0])), (q7, eI cI 16 (fun _ => 0)), (q15, eI cI 16 (fun _ => 0)), (q23, eI cI 16 (fun _ => 0)), (q31, eI cI 16 (fun _ => 0)), (q39, eI cI 16 (fun _ => 0)), (q47, eI cI 12 (fun _ => 0)), (q55, eI cI 16 (fun _ => 0)), (q63, eI cI 12 (fun _ => 0)), (q71, eI cI 12 (fun _ => 0)), (q80, eJ cJ 4096 (fun _ => 0))] H := hP
  have hD : va_D A [(h0, .inr (6, [.int 0, .ref q7, .ref q15, .ref q23, .ref q31, .ref q39, .int 0, .ref q47, .ref q55, .ref q63, .ref q71, .ref q80, .int 0, .null, .int 0, .null, .int 0, .int 0, .null, .int 0, .null, .null, .null, .null, .int 0, .int 0, .int 0, .null, .null, .int 0, .int 0, .int 0, .long 0])), (q7, eI cI 16 (fun _ => 0)), (q15, eI cI 16 (fun _ => 0)), (q23, eI cI 16 (fun _ => 0)), (q31, eI cI 16 (fun _ => 0)), (q39, eI cI 16 (fun _ => 0)), (q47, eI cI 12 (fun _ => 0)), (q55, eI cI 16 (fun _ => 0)), (q63, eI cI 12 (fun _ => 0)), (q71, eI cI 12 (fun _ => 0)), (q80, eJ cJ 4096 (fun _ => 0))] := hD
  refine lv_aload_n hx hb dX6_init_85 rfl (lv_at hl 0 rfl) ?_
  refine lv_bipush (v := (48 : Int32)) hx hb dX6_init_86 (by decide) ?_
  refine va_newa (a0 := (48, .inl (fun _ => 0))) (atype := .int) (ty := .int) (N' := 48) hx hb (hts (.arrayClass .int) (by decide +kernel)) rfl hK.1 hP hD hS hA (fun cA => (vp_cell_i cA 48 (fun _ => 0)).trans rfl) (by decide) (by decide) (Nat.le_of_ble_eq_true rfl) (Nat.le_of_ble_eq_true rfl) (Nat.le_of_ble_eq_true rfl) dX6_init_88 (fun q88 cA H hK2 hP hD hS => ?_)
  obtain rfl : cI = cA := ty_int hK2 0 3 rfl rfl
  clear hK2
  have hP : va_P D vwCl [(h0, .inr (6, [.int 0, .ref q7, .ref q15, .ref q23, .ref q31, .ref q39, .int 0, .ref q47, .ref q55, .ref q63, .ref q71, .ref q80, .int 0, .null, .int 0, .null, .int 0, .int 0, .null, .int 0, .null, .null, .null, .null, .int 0, .int 0, .int 0, .null, .null, .int 0, .int 0, .int 0, .long 0])), (q7, eI cI 16 (fun _ => 0)), (q15, eI cI 16 (fun _ => 0)), (q23, eI cI 16 (fun _ => 0)), (q31, eI cI 16 (fun _ => 0)), (q39, eI cI 16 (fun _ => 0)), (q47, eI cI 12 (fun _ => 0)), (q55, eI cI 16 (fun _ => 0)), (q63, eI cI 12 (fun _ => 0)), (q71, eI cI 12 (fun _ => 0)), (q80, eJ cJ 4096 (fun _ => 0)), (q88, eI cI 48 (fun _ => 0))] H := hP
  have hD : va_D A [(h0, .inr (6, [.int 0, .ref q7, .ref q15, .ref q23, .ref q31, .ref q39, .int 0, .ref q47, .ref q55, .ref q63, .ref q71, .ref q80, .int 0, .null, .int 0, .null, .int 0, .int 0, .null, .int 0, .null, .null, .null, .null, .int 0, .int 0, .int 0, .null, .null, .int 0, .int 0, .int 0, .long 0])), (q7, eI cI 16 (fun _ => 0)), (q15, eI cI 16 (fun _ => 0)), (q23, eI cI 16 (fun _ => 0)), (q31, eI cI 16 (fun _ => 0)), (q39, eI cI 16 (fun _ => 0)), (q47, eI cI 12 (fun _ => 0)), (q55, eI cI 16 (fun _ => 0)), (q63, eI cI 12 (fun _ => 0)), (q71, eI cI 12 (fun _ => 0)), (q80, eJ cJ 4096 (fun _ => 0)), (q88, eI cI 48 (fun _ => 0))] := hD
  refine W.widen (k := 11) (n := 4276) (by omega) (by omega) ?_
  refine va_putF (D := D) (ci := 6) (v := .ref q88) (ty := .array .int) (C := RX6) (T := TX6) (N := 33) hx hb hts iX6 tyX6 tyX6_ok nmX6 hown hK.1 hP hD hS 0 rfl rfl 13 (by decide) k41 (fun _ h9 => h9) rfl hin rfl (by decide +kernel) rfl rfl (Nat.le_of_ble_eq_true rfl) dX6_init_90 (fun H locs hP hD hS => ?_)
  have hP : va_P D vwCl [(h0, .inr (6, [.int 0, .ref q7, .ref q15, .ref q23, .ref q31, .ref q39, .int 0, .ref q47, .ref q55, .ref q63, .ref q71, .ref q80, .int 0, .ref q88, .int 0, .null, .int 0, .int 0, .null, .int 0, .null, .null, .null, .null, .int 0, .int 0, .int 0, .null, .null, .int 0, .int 0, .int 0, .long 0])), (q7, eI cI 16 (fun _ => 0)), (q15, eI cI 16 (fun _ => 0)), (q23, eI cI 16 (fun _ => 0)), (q31, eI cI 16 (fun _ => 0)), (q39, eI cI 16 (fun _ => 0)), (q47, eI cI 12 (fun _ => 0)), (q55, eI cI 16 (fun _ => 0)), (q63, eI cI 12 (fun _ => 0)), (q71, eI cI 12 (fun _ => 0)), (q80, eJ cJ 4096 (fun _ => 0)), (q88, eI cI 48 (fun _ => 0))] H := hP
  have hD : va_D A [(h0, .inr (6, [.int 0, .ref q7, .ref q15, .ref q23, .ref q31, .ref q39, .int 0, .ref q47, .ref q55, .ref q63, .ref q71, .ref q80, .int 0, .ref q88, .int 0, .null, .int 0, .int 0, .null, .int 0, .null, .null, .null, .null, .int 0, .int 0, .int 0, .null, .null, .int 0, .int 0, .int 0, .long 0])), (q7, eI cI 16 (fun _ => 0)), (q15, eI cI 16 (fun _ => 0)), (q23, eI cI 16 (fun _ => 0)), (q31, eI cI 16 (fun _ => 0)), (q39, eI cI 16 (fun _ => 0)), (q47, eI cI 12 (fun _ => 0)), (q55, eI cI 16 (fun _ => 0)), (q63, eI cI 12 (fun _ => 0)), (q71, eI cI 12 (fun _ => 0)), (q80, eJ cJ 4096 (fun _ => 0)), (q88, eI cI 48 (fun _ => 0))] := hD
  refine lv_aload_n hx hb dX6_init_93 rfl (lv_at hl 0 rfl) ?_
  refine lv_bipush (v := (16 : Int32)) hx hb dX6_init_94 (by decide) ?_
  refine va_newa (a0 := (16, .inl (fun _ => 0))) (atype := .int) (ty := .int) (N' := 16) hx hb (hts (.arrayClass .int) (by decide +kernel)) rfl hK.1 hP hD hS hA (fun cA => (vp_cell_i cA 16 (fun _ => 0)).trans rfl) (by decide) (by decide) (Nat.le_of_ble_eq_true rfl) (Nat.le_of_ble_eq_true rfl) (Nat.le_of_ble_eq_true rfl) dX6_init_96 (fun q96 cA H hK2 hP hD hS => ?_)
  obtain rfl : cI = cA := ty_int hK2 0 3 rfl rfl
  clear hK2
  have hP : va_P D vwCl [(h0, .inr (6, [.int 0, .ref q7, .ref q15, .ref q23, .ref q31, .ref q39, .int 0, .ref q47, .ref q55, .ref q63, .ref q71, .ref q80, .int 0, .ref q88, .int 0, .null, .int 0, .int 0, .null, .int 0, .null, .null, .null, .null, .int 0, .int 0, .int 0, .null, .null, .int 0, .int 0, .int 0, .long 0])), (q7, eI cI 16 (fun _ => 0)), (q15, eI cI 16 (fun _ => 0)), (q23, eI cI 16 (fun _ => 0)), (q31, eI cI 16 (fun _ => 0)), (q39, eI cI 16 (fun _ => 0)), (q47, eI cI 12 (fun _ => 0)), (q55, eI cI 16 (fun _ => 0)), (q63, eI cI 12 (fun _ => 0)), (q71, eI cI 12 (fun _ => 0)), (q80, eJ cJ 4096 (fun _ => 0)), (q88, eI cI 48 (fun _ => 0)), (q96, eI cI 16 (fun _ => 0))] H := hP
  have hD : va_D A [(h0, .inr (6, [.int 0, .ref q7, .ref q15, .ref q23, .ref q31, .ref q39, .int 0, .ref q47, .ref q55, .ref q63, .ref q71, .ref q80, .int 0, .ref q88, .int 0, .null, .int 0, .int 0, .null, .int 0, .null, .null, .null, .null, .int 0, .int 0, .int 0, .null, .null, .int 0, .int 0, .int 0, .long 0])), (q7, eI cI 16 (fun _ => 0)), (q15, eI cI 16 (fun _ => 0)), (q23, eI cI 16 (fun _ => 0)), (q31, eI cI 16 (fun _ => 0)), (q39, eI cI 16 (fun _ => 0)), (q47, eI cI 12 (fun _ => 0)), (q55, eI cI 16 (fun _ => 0)), (q63, eI cI 12 (fun _ => 0)), (q71, eI cI 12 (fun _ => 0)), (q80, eJ cJ 4096 (fun _ => 0)), (q88, eI cI 48 (fun _ => 0)), (q96, eI cI 16 (fun _ => 0))] := hD
  refine W.widen (k := 12) (n := 4292) (by omega) (by omega) ?_
  refine va_putF (D := D) (ci := 6) (v := .ref q96) (ty := .array .int) (C := RX6) (T := TX6) (N := 33) hx hb hts iX6 tyX6 tyX6_ok nmX6 hown hK.1 hP hD hS 0 rfl rfl 15 (by decide) k44 (fun _ h9 => h9) rfl hin rfl (by decide +kernel) rfl rfl (Nat.le_of_ble_eq_true rfl) dX6_init_98 (fun H locs hP hD hS => ?_)
  have hP : va_P D vwCl [(h0, .inr (6, [.int 0, .ref q7, .ref q15, .ref q23, .ref q31, .ref q39, .int 0, .ref q47, .ref q55, .ref q63, .ref q71, .ref q80, .int 0, .ref q88, .int 0, .ref q96, .int 0, .int 0, .null, .int 0, .null, .null, .null, .null, .int 0, .int 0, .int 0, .null, .null, .int 0, .int 0, .int 0, .long 0])), (q7, eI cI 16 (fun _ => 0)), (q15, eI cI 16 (fun _ => 0)), (q23, eI cI 16 (fun _ => 0)), (q31, eI cI 16 (fun _ => 0)), (q39, eI cI 16 (fun _ => 0)), (q47, eI cI 12 (fun _ => 0)), (q55, eI cI 16 (fun _ => 0)), (q63, eI cI 12 (fun _ => 0)), (q71, eI cI 12 (fun _ => 0)), (q80, eJ cJ 4096 (fun _ => 0)), (q88, eI cI 48 (fun _ => 0)), (q96, eI cI 16 (fun _ => 0))] H := hP
  have hD : va_D A [(h0, .inr (6, [.int 0, .ref q7, .ref q15, .ref q23, .ref q31, .ref q39, .int 0, .ref q47, .ref q55, .ref q63, .ref q71, .ref q80, .int 0, .ref q88, .int 0, .ref q96, .int 0, .int 0, .null, .int 0, .null, .null, .null, .null, .int 0, .int 0, .int 0, .null, .null, .int 0, .int 0, .int 0, .long 0])), (q7, eI cI 16 (fun _ => 0)), (q15, eI cI 16 (fun _ => 0)), (q23, eI cI 16 (fun _ => 0)), (q31, eI cI 16 (fun _ => 0)), (q39, eI cI 16 (fun _ => 0)), (q47, eI cI 12 (fun _ => 0)), (q55, eI cI 16 (fun _ => 0)), (q63, eI cI 12 (fun _ => 0)), (q71, eI cI 12 (fun _ => 0)), (q80, eJ cJ 4096 (fun _ => 0)), (q88, eI cI 48 (fun _ => 0)), (q96, eI cI 16 (fun _ => 0))] := hD
  refine lv_aload_n hx hb dX6_init_101 rfl (lv_at hl 0 rfl) ?_
  refine lv_bipush (v := (6 : Int32)) hx hb dX6_init_102 (by decide) ?_
  refine va_newa (a0 := (6, .inl (fun _ => 0))) (atype := .int) (ty := .int) (N' := 6) hx hb (hts (.arrayClass .int) (by decide +kernel)) rfl hK.1 hP hD hS hA (fun cA => (vp_cell_i cA 6 (fun _ => 0)).trans rfl) (by decide) (by decide) (Nat.le_of_ble_eq_true rfl) (Nat.le_of_ble_eq_true rfl) (Nat.le_of_ble_eq_true rfl) dX6_init_104 (fun q104 cA H hK2 hP hD hS => ?_)
  obtain rfl : cI = cA := ty_int hK2 0 3 rfl rfl
  clear hK2
  have hP : va_P D vwCl [(h0, .inr (6, [.int 0, .ref q7, .ref q15, .ref q23, .ref q31, .ref q39, .int 0, .ref q47, .ref q55, .ref q63, .ref q71, .ref q80, .int 0, .ref q88, .int 0, .ref q96, .int 0, .int 0, .null, .int 0, .null, .null, .null, .null, .int 0, .int 0, .int 0, .null, .null, .int 0, .int 0, .int 0, .long 0])), (q7, eI cI 16 (fun _ => 0)), (q15, eI cI 16 (fun _ => 0)), (q23, eI cI 16 (fun _ => 0)), (q31, eI cI 16 (fun _ => 0)), (q39, eI cI 16 (fun _ => 0)), (q47, eI cI 12 (fun _ => 0)), (q55, eI cI 16 (fun _ => 0)), (q63, eI cI 12 (fun _ => 0)), (q71, eI cI 12 (fun _ => 0)), (q80, eJ cJ 4096 (fun _ => 0)), (q88, eI cI 48 (fun _ => 0)), (q96, eI cI 16 (fun _ => 0)), (q104, eI cI 6 (fun _ => 0))] H := hP
  have hD : va_D A [(h0, .inr (6, [.int 0, .ref q7, .ref q15, .ref q23, .ref q31, .ref q39, .int 0, .ref q47, .ref q55, .ref q63, .ref q71, .ref q80, .int 0, .ref q88, .int 0, .ref q96, .int 0, .int 0, .null, .int 0, .null, .null, .null, .null, .int 0, .int 0, .int 0, .null, .null, .int 0, .int 0, .int 0, .long 0])), (q7, eI cI 16 (fun _ => 0)), (q15, eI cI 16 (fun _ => 0)), (q23, eI cI 16 (fun _ => 0)), (q31, eI cI 16 (fun _ => 0)), (q39, eI cI 16 (fun _ => 0)), (q47, eI cI 12 (fun _ => 0)), (q55, eI cI 16 (fun _ => 0)), (q63, eI cI 12 (fun _ => 0)), (q71, eI cI 12 (fun _ => 0)), (q80, eJ cJ 4096 (fun _ => 0)), (q88, eI cI 48 (fun _ => 0)), (q96, eI cI 16 (fun _ => 0)), (q104, eI cI 6 (fun _ => 0))] := hD
  refine W.widen (k := 13) (n := 4298) (by omega) (by omega) ?_
  refine va_putF (D := D) (ci := 6) (v := .ref q104) (ty := .array .int) (C := RX6) (T := TX6) (N := 33) hx hb hts iX6 tyX6 tyX6_ok nmX6 hown hK.1 hP hD hS 0 rfl rfl 18 (by decide) k47 (fun _ h9 => h9) rfl hin rfl (by decide +kernel) rfl rfl (Nat.le_of_ble_eq_true rfl) dX6_init_106 (fun H locs hP hD hS => ?_)
  have hP : va_P D vwCl [(h0, .inr (6, [.int 0, .ref q7, .ref q15, .ref q23, .ref q31, .ref q39, .int 0, .ref q47, .ref q55, .ref q63, .ref q71, .ref q80, .int 0, .ref q88, .int 0, .ref q96, .int 0, .int 0, .ref q104, .int 0, .null, .null, .null, .null, .int 0, .int 0, .int 0, .null, .null, .int 0, .int 0, .int 0, .long 0])), (q7, eI cI 16 (fun _ => 0)), (q15, eI cI 16 (fun _ => 0)), (q23, eI cI 16 (fun _ => 0)), (q31, eI cI 16 (fun _ => 0)), (q39, eI cI 16 (fun _ => 0)), (q47, eI cI 12 (fun _ => 0)), (q55, eI cI 16 (fun _ => 0)), (q63, eI cI 12 (fun _ => 0)), (q71, eI cI 12 (fun _ => 0)), (q80, eJ cJ 4096 (fun _ => 0)), (q88, eI cI 48 (fun _ => 0)), (q96, eI cI 16 (fun _ => 0)), (q104, eI cI 6 (fun _ => 0))] H := hP
  have hD : va_D A [(h0, .inr (6, [.int 0, .ref q7, .ref q15, .ref q23, .ref q31, .ref q39, .int 0, .ref q47, .ref q55, .ref q63, .ref q71, .ref q80, .int 0, .ref q88, .int 0, .ref q96, .int 0, .int 0, .ref q104, .int 0, .null, .null, .null, .null, .int 0, .int 0, .int 0, .null, .null, .int 0, .int 0, .int 0, .long 0])), (q7, eI cI 16 (fun _ => 0)), (q15, eI cI 16 (fun _ => 0)), (q23, eI cI 16 (fun _ => 0)), (q31, eI cI 16 (fun _ => 0)), (q39, eI cI 16 (fun _ => 0)), (q47, eI cI 12 (fun _ => 0)), (q55, eI cI 16 (fun _ => 0)), (q63, eI cI 12 (fun _ => 0)), (q71, eI cI 12 (fun _ => 0)), (q80, eJ cJ 4096 (fun _ => 0)), (q88, eI cI 48 (fun _ => 0)), (q96, eI cI 16 (fun _ => 0)), (q104, eI cI 6 (fun _ => 0))] := hD
  refine lv_aload_n hx hb dX6_init_109 rfl (lv_at hl 0 rfl) ?_
  refine lv_bipush (v := (16 : Int32)) hx hb dX6_init_110 (by decide) ?_
  refine va_newa (a0 := (16, .inl (fun _ => 0))) (atype := .int) (ty := .int) (N' := 16) hx hb (hts (.arrayClass .int) (by decide +kernel)) rfl hK.1 hP hD hS hA (fun cA => (vp_cell_i cA 16 (fun _ => 0)).trans rfl) (by decide) (by decide) (Nat.le_of_ble_eq_true rfl) (Nat.le_of_ble_eq_true rfl) (Nat.le_of_ble_eq_true rfl) dX6_init_112 (fun q112 cA H hK2 hP hD hS => ?_)
  obtain rfl : cI = cA := ty_int hK2 0 3 rfl rfl
  clear hK2
  have hP : va_P D vwCl [(h0, .inr (6, [.int 0, .ref q7, .ref q15, .ref q23, .ref q31, .ref q39, .int 0, .ref q47, .ref q55, .ref q63, .ref q71, .ref q80, .int 0, .ref q88, .int 0, .ref q96, .int 0, .int 0, .ref q104, .int 0, .null, .null, .null, .null, .int 0, .int 0, .int 0, .null, .null, .int 0, .int 0, .int 0, .long 0])), (q7, eI cI 16 (fun _ => 0)), (q15, eI cI 16 (fun _ => 0)), (q23, eI cI 16 (fun _ => 0)), (q31, eI cI 16 (fun _ => 0)), (q39, eI cI 16 (fun _ => 0)), (q47, eI cI 12 (fun _ => 0)), (q55, eI cI 16 (fun _ => 0)), (q63, eI cI 12 (fun _ => 0)), (q71, eI cI 12 (fun _ => 0)), (q80, eJ cJ 4096 (fun _ => 0)), (q88, eI cI 48 (fun _ => 0)), (q96, eI cI 16 (fun _ => 0)), (q104, eI cI 6 (fun _ => 0)), (q112, eI cI 16 (fun _ => 0))] H := hP
  have hD : va_D A [(h0, .inr (6, [.int 0, .ref q7, .ref q15, .ref q23, .ref q31, .ref q39, .int 0, .ref q47, .ref q55, .ref q63, .ref q71, .ref q80, .int 0, .ref q88, .int 0, .ref q96, .int 0, .int 0, .ref q104, .int 0, .null, .null, .null, .null, .int 0, .int 0, .int 0, .null, .null, .int 0, .int 0, .int 0, .long 0])), (q7, eI cI 16 (fun _ => 0)), (q15, eI cI 16 (fun _ => 0)), (q23, eI cI 16 (fun _ => 0)), (q31, eI cI 16 (fun _ => 0)), (q39, eI cI 16 (fun _ => 0)), (q47, eI cI 12 (fun _ => 0)), (q55, eI cI 16 (fun _ => 0)), (q63, eI cI 12 (fun _ => 0)), (q71, eI cI 12 (fun _ => 0)), (q80, eJ cJ 4096 (fun _ => 0)), (q88, eI cI 48 (fun _ => 0)), (q96, eI cI 16 (fun _ => 0)), (q104, eI cI 6 (fun _ => 0)), (q112, eI cI 16 (fun _ => 0))] := hD
  refine W.widen (k := 14) (n := 4314) (by omega) (by omega) ?_
  refine va_putF (D := D) (ci := 6) (v := .ref q112) (ty := .array .int) (C := RX6) (T := TX6) (N := 33) hx hb hts iX6 tyX6 tyX6_ok nmX6 hown hK.1 hP hD hS 0 rfl rfl 20 (by decide) k50 (fun _ h9 => h9) rfl hin rfl (by decide +kernel) rfl rfl (Nat.le_of_ble_eq_true rfl) dX6_init_114 (fun H locs hP hD hS => ?_)
  have hP : va_P D vwCl [(h0, .inr (6, [.int 0, .ref q7, .ref q15, .ref q23, .ref q31, .ref q39, .int 0, .ref q47, .ref q55, .ref q63, .ref q71, .ref q80, .int 0, .ref q88, .int 0, .ref q96, .int 0, .int 0, .ref q104, .int 0, .ref q112, .null, .null, .null, .int 0, .int 0, .int 0, .null, .null, .int 0, .int 0, .int 0, .long 0])), (q7, eI cI 16 (fun _ => 0)), (q15, eI cI 16 (fun _ => 0)), (q23, eI cI 16 (fun _ => 0)), (q31, eI cI 16 (fun _ => 0)), (q39, eI cI 16 (fun _ => 0)), (q47, eI cI 12 (fun _ => 0)), (q55, eI cI 16 (fun _ => 0)), (q63, eI cI 12 (fun _ => 0)), (q71, eI cI 12 (fun _ => 0)), (q80, eJ cJ 4096 (fun _ => 0)), (q88, eI cI 48 (fun _ => 0)), (q96, eI cI 16 (fun _ => 0)), (q104, eI cI 6 (fun _ => 0)), (q112, eI cI 16 (fun _ => 0))] H := hP
  have hD : va_D A [(h0, .inr (6, [.int 0, .ref q7, .ref q15, .ref q23, .ref q31, .ref q39, .int 0, .ref q47, .ref q55, .ref q63, .ref q71, .ref q80, .int 0, .ref q88, .int 0, .ref q96, .int 0, .int 0, .ref q104, .int 0, .ref q112, .null, .null, .null, .int 0, .int 0, .int 0, .null, .null, .int 0, .int 0, .int 0, .long 0])), (q7, eI cI 16 (fun _ => 0)), (q15, eI cI 16 (fun _ => 0)), (q23, eI cI 16 (fun _ => 0)), (q31, eI cI 16 (fun _ => 0)), (q39, eI cI 16 (fun _ => 0)), (q47, eI cI 12 (fun _ => 0)), (q55, eI cI 16 (fun _ => 0)), (q63, eI cI 12 (fun _ => 0)), (q71, eI cI 12 (fun _ => 0)), (q80, eJ cJ 4096 (fun _ => 0)), (q88, eI cI 48 (fun _ => 0)), (q96, eI cI 16 (fun _ => 0)), (q104, eI cI 6 (fun _ => 0)), (q112, eI cI 16 (fun _ => 0))] := hD
  refine lv_aload_n hx hb dX6_init_117 rfl (lv_at hl 0 rfl) ?_
  refine lv_bipush (v := (6 : Int32)) hx hb dX6_init_118 (by decide) ?_
  refine va_newa (a0 := (6, .inl (fun _ => 0))) (atype := .int) (ty := .int) (N' := 6) hx hb (hts (.arrayClass .int) (by decide +kernel)) rfl hK.1 hP hD hS hA (fun cA => (vp_cell_i cA 6 (fun _ => 0)).trans rfl) (by decide) (by decide) (Nat.le_of_ble_eq_true rfl) (Nat.le_of_ble_eq_true rfl) (Nat.le_of_ble_eq_true rfl) dX6_init_120 (fun q120 cA H hK2 hP hD hS => ?_)
  obtain rfl : cI = cA := ty_int hK2 0 3 rfl rfl
  clear hK2
  have hP : va_P D vwCl [(h0, .inr (6, [.int 0, .ref q7, .ref q15, .ref q23, .ref q31, .ref q39, .int 0, .ref q47, .ref q55, .ref q63, .ref q71, .ref q80, .int 0, .ref q88, .int 0, .ref q96, .int 0, .int 0, .ref q104, .int 0, .ref q112, .null, .null, .null, .int 0, .int 0, .int 0, .null, .null, .int 0, .int 0, .int 0, .long 0])), (q7, eI cI 16 (fun _ => 0)), (q15, eI cI 16 (fun _ => 0)), (q23, eI cI 16 (fun _ => 0)), (q31, eI cI 16 (fun _ => 0)), (q39, eI cI 16 (fun _ => 0)), (q47, eI cI 12 (fun _ => 0)), (q55, eI cI 16 (fun _ => 0)), (q63, eI cI 12 (fun _ => 0)), (q71, eI cI 12 (fun _ => 0)), (q80, eJ cJ 4096 (fun _ => 0)), (q88, eI cI 48 (fun _ => 0)), (q96, eI cI 16 (fun _ => 0)), (q104, eI cI 6 (fun _ => 0)), (q112, eI cI 16 (fun _ => 0)), (q120, eI cI 6 (fun _ => 0))] H := hP
  have hD : va_D A [(h0, .inr (6, [.int 0, .ref q7, .ref q15, .ref q23, .ref q31, .ref q39, .int 0, .ref q47, .ref q55, .ref q63, .ref q71, .ref q80, .int 0, .ref q88, .int 0, .ref q96, .int 0, .int 0, .ref q104, .int 0, .ref q112, .null, .null, .null, .int 0, .int 0, .int 0, .null, .null, .int 0, .int 0, .int 0, .long 0])), (q7, eI cI 16 (fun _ => 0)), (q15, eI cI 16 (fun _ => 0)), (q23, eI cI 16 (fun _ => 0)), (q31, eI cI 16 (fun _ => 0)), (q39, eI cI 16 (fun _ => 0)), (q47, eI cI 12 (fun _ => 0)), (q55, eI cI 16 (fun _ => 0)), (q63, eI cI 12 (fun _ => 0)), (q71, eI cI 12 (fun _ => 0)), (q80, eJ cJ 4096 (fun _ => 0)), (q88, eI cI 48 (fun _ => 0)), (q96, eI cI 16 (fun _ => 0)), (q104, eI cI 6 (fun _ => 0)), (q112, eI cI 16 (fun _ => 0)), (q120, eI cI 6 (fun _ => 0))] := hD
  refine W.widen (k := 15) (n := 4320) (by omega) (by omega) ?_
  refine va_putF (D := D) (ci := 6) (v := .ref q120) (ty := .array .int) (C := RX6) (T := TX6) (N := 33) hx hb hts iX6 tyX6 tyX6_ok nmX6 hown hK.1 hP hD hS 0 rfl rfl 21 (by decide) k53 (fun _ h9 => h9) rfl hin rfl (by decide +kernel) rfl rfl (Nat.le_of_ble_eq_true rfl) dX6_init_122 (fun H locs hP hD hS => ?_)
  have hP : va_P D vwCl [(h0, .inr (6, [.int 0, .ref q7, .ref q15, .ref q23, .ref q31, .ref q39, .int 0, .ref q47, .ref q55, .ref q63, .ref q71, .ref q80, .int 0, .ref q88, .int 0, .ref q96, .int 0, .int 0, .ref q104, .int 0, .ref q112, .ref q120, .null, .null, .int 0, .int 0, .int 0, .null, .null, .int 0, .int 0, .int 0, .long 0])), (q7, eI cI 16 (fun _ => 0)), (q15, eI cI 16 (fun _ => 0)), (q23, eI cI 16 (fun _ => 0)), (q31, eI cI 16 (fun _ => 0)), (q39, eI cI 16 (fun _ => 0)), (q47, eI cI 12 (fun _ => 0)), (q55, eI cI 16 (fun _ => 0)), (q63, eI cI 12 (fun _ => 0)), (q71, eI cI 12 (fun _ => 0)), (q80, eJ cJ 4096 (fun _ => 0)), (q88, eI cI 48 (fun _ => 0)), (q96, eI cI 16 (fun _ => 0)), (q104, eI cI 6 (fun _ => 0)), (q112, eI cI 16 (fun _ => 0)), (q120, eI cI 6 (fun _ => 0))] H := hP
  have hD : va_D A [(h0, .inr (6, [.int 0, .ref q7, .ref q15, .ref q23, .ref q31, .ref q39, .int 0, .ref q47, .ref q55, .ref q63, .ref q71, .ref q80, .int 0, .ref q88, .int 0, .ref q96, .int 0, .int 0, .ref q104, .int 0, .ref q112, .ref q120, .null, .null, .int 0, .int 0, .int 0, .null, .null, .int 0, .int 0, .int 0, .long 0])), (q7, eI cI 16 (fun _ => 0)), (q15, eI cI 16 (fun _ => 0)), (q23, eI cI 16 (fun _ => 0)), (q31, eI cI 16 (fun _ => 0)), (q39, eI cI 16 (fun _ => 0)), (q47, eI cI 12 (fun _ => 0)), (q55, eI cI 16 (fun _ => 0)), (q63, eI cI 12 (fun _ => 0)), (q71, eI cI 12 (fun _ => 0)), (q80, eJ cJ 4096 (fun _ => 0)), (q88, eI cI 48 (fun _ => 0)), (q96, eI cI 16 (fun _ => 0)), (q104, eI cI 6 (fun _ => 0)), (q112, eI cI 16 (fun _ => 0)), (q120, eI cI 6 (fun _ => 0))] := hD
  refine lv_aload_n hx hb dX6_init_125 rfl (lv_at hl 0 rfl) ?_
  refine lv_bipush (v := (16 : Int32)) hx hb dX6_init_126 (by decide) ?_
  refine va_newa (a0 := (16, .inl (fun _ => 0))) (atype := .int) (ty := .int) (N' := 16) hx hb (hts (.arrayClass .int) (by decide +kernel)) rfl hK.1 hP hD hS hA (fun cA => (vp_cell_i cA 16 (fun _ => 0)).trans rfl) (by decide) (by decide) (Nat.le_of_ble_eq_true rfl) (Nat.le_of_ble_eq_true rfl) (Nat.le_of_ble_eq_true rfl) dX6_init_128 (fun q128 cA H hK2 hP hD hS => ?_)
  obtain rfl : cI = cA := ty_int hK2 0 3 rfl rfl
  clear hK2
  have hP : va_P D vwCl [(h0, .inr (6, [.int 0, .ref q7, .ref q15, .ref q23, .ref q31, .ref q39, .int 0, .ref q47, .ref q55, .ref q63, .ref q71, .ref q80, .int 0, .ref q88, .int 0, .ref q96, .int 0, .int 0, .ref q104, .int 0, .ref q112, .ref q120, .null, .null, .int 0, .int 0, .int 0, .null, .null, .int 0, .int 0, .int 0, .long 0])), (q7, eI cI 16 (fun _ => 0)), (q15, eI cI 16 (fun _ => 0)), (q23, eI cI 16 (fun _ => 0)), (q31, eI cI 16 (fun _ => 0)), (q39, eI cI 16 (fun _ => 0)), (q47, eI cI 12 (fun _ => 0)), (q55, eI cI 16 (fun _ => 0)), (q63, eI cI 12 (fun _ => 0)), (q71, eI cI 12 (fun _ => 0)), (q80, eJ cJ 4096 (fun _ => 0)), (q88, eI cI 48 (fun _ => 0)), (q96, eI cI 16 (fun _ => 0)), (q104, eI cI 6 (fun _ => 0)), (q112, eI cI 16 (fun _ => 0)), (q120, eI cI 6 (fun _ => 0)), (q128, eI cI 16 (fun _ => 0))] H := hP
  have hD : va_D A [(h0, .inr (6, [.int 0, .ref q7, .ref q15, .ref q23, .ref q31, .ref q39, .int 0, .ref q47, .ref q55, .ref q63, .ref q71, .ref q80, .int 0, .ref q88, .int 0, .ref q96, .int 0, .int 0, .ref q104, .int 0, .ref q112, .ref q120, .null, .null, .int 0, .int 0, .int 0, .null, .null, .int 0, .int 0, .int 0, .long 0])), (q7, eI cI 16 (fun _ => 0)), (q15, eI cI 16 (fun _ => 0)), (q23, eI cI 16 (fun _ => 0)), (q31, eI cI 16 (fun _ => 0)), (q39, eI cI 16 (fun _ => 0)), (q47, eI cI 12 (fun _ => 0)), (q55, eI cI 16 (fun _ => 0)), (q63, eI cI 12 (fun _ => 0)), (q71, eI cI 12 (fun _ => 0)), (q80, eJ cJ 4096 (fun _ => 0)), (q88, eI cI 48 (fun _ => 0)), (q96, eI cI 16 (fun _ => 0)), (q104, eI cI 6 (fun _ => 0)), (q112, eI cI 16 (fun _ => 0)), (q120, eI cI 6 (fun _ => 0)), (q128, eI cI 16 (fun _ => 0))] := hD
  refine W.widen (k := 16) (n := 4336) (by omega) (by omega) ?_
  refine va_putF (D := D) (ci := 6) (v := .ref q128) (ty := .array .int) (C := RX6) (T := TX6) (N := 33) hx hb hts iX6 tyX6 tyX6_ok nmX6 hown hK.1 hP hD hS 0 rfl rfl 22 (by decide) k56 (fun _ h9 => h9) rfl hin rfl (by decide +kernel) rfl rfl (Nat.le_of_ble_eq_true rfl) dX6_init_130 (fun H locs hP hD hS => ?_)
  have hP : va_P D vwCl [(h0, .inr (6, [.int 0, .ref q7, .ref q15, .ref q23, .ref q31, .ref q39, .int 0, .ref q47, .ref q55, .ref q63, .ref q71, .ref q80, .int 0, .ref q88, .int 0, .ref q96, .int 0, .int 0, .ref q104, .int 0, .ref q112, .ref q120, .ref q128, .null, .int 0, .int 0, .int 0, .null, .null, .int 0, .int 0, .int 0, .long 0])), (q7, eI cI 16 (fun _ => 0)), (q15, eI cI 16 (fun _ => 0)), (q23, eI cI 16 (fun _ => 0)), (q31, eI cI 16 (fun _ => 0)), (q39, eI cI 16 (fun _ => 0)), (q47, eI cI 12 (fun _ => 0)), (q55, eI cI 16 (fun _ => 0)), (q63, eI cI 12 (fun _ => 0)), (q71, eI cI 12 (fun _ => 0)), (q80, eJ cJ 4096 (fun _ => 0)), (q88, eI cI 48 (fun _ => 0)), (q96, eI cI 16 (fun _ => 0)), (q104, eI cI 6 (fun _ => 0)), (q112, eI cI 16 (fun _ => 0)), (q120, eI cI 6 (fun _ => 0)), (q128, eI cI 16 (fun _ => 0))] H := hP
  have hD : va_D A [(h0, .inr (6, [.int 0, .ref q7, .ref q15, .ref q23, .ref q31, .ref q39, .int 0, .ref q47, .ref q55, .ref q63, .ref q71, .ref q80, .int 0, .ref q88, .int 0, .ref q96, .int 0, .int 0, .ref q104, .int 0, .ref q112, .ref q120, .ref q128, .null, .int 0, .int 0, .int 0, .null, .null, .int 0, .int 0, .int 0, .long 0])), (q7, eI cI 16 (fun _ => 0)), (q15, eI cI 16 (fun _ => 0)), (q23, eI cI 16 (fun _ => 0)), (q31, eI cI 16 (fun _ => 0)), (q39, eI cI 16 (fun _ => 0)), (q47, eI cI 12 (fun _ => 0)), (q55, eI cI 16 (fun _ => 0)), (q63, eI cI 12 (fun _ => 0)), (q71, eI cI 12 (fun _ => 0)), (q80, eJ cJ 4096 (fun _ => 0)), (q88, eI cI 48 (fun _ => 0)), (q96, eI cI 16 (fun _ => 0)), (q104, eI cI 6 (fun _ => 0)), (q112, eI cI 16 (fun _ => 0)), (q120, eI cI 6 (fun _ => 0)), (q128, eI cI 16 (fun _ => 0))] := hD
  refine lv_aload_n hx hb dX6_init_133 rfl (lv_at hl 0 rfl) ?_
  refine lv_bipush (v := (16 : Int32)) hx hb dX6_init_134 (by decide) ?_
  refine va_newa (a0 := (16, .inl (fun _ => 0))) (atype := .int) (ty := .int) (N' := 16) hx hb (hts (.arrayClass .int) (by decide +kernel)) rfl hK.1 hP hD hS hA (fun cA => (vp_cell_i cA 16 (fun _ => 0)).trans rfl) (by decide) (by decide) (Nat.le_of_ble_eq_true rfl) (Nat.le_of_ble_eq_true rfl) (Nat.le_of_ble_eq_true rfl) dX6_init_136 (fun q136 cA H hK2 hP hD hS => ?_)
  obtain rfl : cI = cA := ty_int hK2 0 3 rfl rfl
  clear hK2
  have hP : va_P D vwCl [(h0, .inr (6, [.int 0, .ref q7, .ref q15, .ref q23, .ref q31, .ref q39, .int 0, .ref q47, .ref q55, .ref q63, .ref q71, .ref q80, .int 0, .ref q88, .int 0, .ref q96, .int 0, .int 0, .ref q104, .int 0, .ref q112, .ref q120, .ref q128, .null, .int 0, .int 0, .int 0, .null, .null, .int 0, .int 0, .int 0, .long 0])), (q7, eI cI 16 (fun _ => 0)), (q15, eI cI 16 (fun _ => 0)), (q23, eI cI 16 (fun _ => 0)), (q31, eI cI 16 (fun _ => 0)), (q39, eI cI 16 (fun _ => 0)), (q47, eI cI 12 (fun _ => 0)), (q55, eI cI 16 (fun _ => 0)), (q63, eI cI 12 (fun _ => 0)), (q71, eI cI 12 (fun _ => 0)), (q80, eJ cJ 4096 (fun _ => 0)), (q88, eI cI 48 (fun _ => 0)), (q96, eI cI 16 (fun _ => 0)), (q104, eI cI 6 (fun _ => 0)), (q112, eI cI 16 (fun _ => 0)), (q120, eI cI 6 (fun _ => 0)), (q128, eI cI 16 (fun _ => 0)), (q136, eI cI 16 (fun _ => 0))] H := hP
  have hD : va_D A [(h0, .inr (6, [.int 0, .ref q7, .ref q15, .ref q23, .ref q31, .ref q39, .int 0, .ref q47, .ref q55, .ref q63, .ref q71, .ref q80, .int 0, .ref q88, .int 0, .ref q96, .int 0, .int 0, .ref q104, .int 0, .ref q112, .ref q120, .ref q128, .null, .int 0, .int 0, .int 0, .null, .null, .int 0, .int 0, .int 0, .long 0])), (q7, eI cI 16 (fun _ => 0)), (q15, eI cI 16 (fun _ => 0)), (q23, eI cI 16 (fun _ => 0)), (q31, eI cI 16 (fun _ => 0)), (q39, eI cI 16 (fun _ => 0)), (q47, eI cI 12 (fun _ => 0)), (q55, eI cI 16 (fun _ => 0)), (q63, eI cI 12 (fun _ => 0)), (q71, eI cI 12 (fun _ => 0)), (q80, eJ cJ 4096 (fun _ => 0)), (q88, eI cI 48 (fun _ => 0)), (q96, eI cI 16 (fun _ => 0)), (q104, eI cI 6 (fun _ => 0)), (q112, eI cI 16 (fun _ => 0)), (q120, eI cI 6 (fun _ => 0)), (q128, eI cI 16 (fun _ => 0)), (q136, eI cI 16 (fun _ => 0))] := hD
  refine W.widen (k := 17) (n := 4352) (by omega) (by omega) ?_
  refine va_putF (D := D) (ci := 6) (v := .ref q136) (ty := .array .int) (C := RX6) (T := TX6) (N := 33) hx hb hts iX6 tyX6 tyX6_ok nmX6 hown hK.1 hP hD hS 0 rfl rfl 23 (by decide) k59 (fun _ h9 => h9) rfl hin rfl (by decide +kernel) rfl rfl (Nat.le_of_ble_eq_true rfl) dX6_init_138 (fun H locs hP hD hS => ?_)
  have hP : va_P D vwCl [(h0, .inr (6, [.int 0, .ref q7, .ref q15, .ref q23, .ref q31, .ref q39, .int 0, .ref q47, .ref q55, .ref q63, .ref q71, .ref q80, .int 0, .ref q88, .int 0, .ref q96, .int 0, .int 0, .ref q104, .int 0, .ref q112, .ref q120, .ref q128, .ref q136, .int 0, .int 0, .int 0, .null, .null, .int 0, .int 0, .int 0, .long 0])), (q7, eI cI 16 (fun _ => 0)), (q15, eI cI 16 (fun _ => 0)), (q23, eI cI 16 (fun _ => 0)), (q31, eI cI 16 (fun _ => 0)), (q39, eI cI 16 (fun _ => 0)), (q47, eI cI 12 (fun _ => 0)), (q55, eI cI 16 (fun _ => 0)), (q63, eI cI 12 (fun _ => 0)), (q71, eI cI 12 (fun _ => 0)), (q80, eJ cJ 4096 (fun _ => 0)), (q88, eI cI 48 (fun _ => 0)), (q96, eI cI 16 (fun _ => 0)), (q104, eI cI 6 (fun _ => 0)), (q112, eI cI 16 (fun _ => 0)), (q120, eI cI 6 (fun _ => 0)), (q128, eI cI 16 (fun _ => 0)), (q136, eI cI 16 (fun _ => 0))] H := hP
  have hD : va_D A [(h0, .inr (6, [.int 0, .ref q7, .ref q15, .ref q23, .ref q31, .ref q39, .int 0, .ref q47, .ref q55, .ref q63, .ref q71, .ref q80, .int 0, .ref q88, .int 0, .ref q96, .int 0, .int 0, .ref q104, .int 0, .ref q112, .ref q120, .ref q128, .ref q136, .int 0, .int 0, .int 0, .null, .null, .int 0, .int 0, .int 0, .long 0])), (q7, eI cI 16 (fun _ => 0)), (q15, eI cI 16 (fun _ => 0)), (q23, eI cI 16 (fun _ => 0)), (q31, eI cI 16 (fun _ => 0)), (q39, eI cI 16 (fun _ => 0)), (q47, eI cI 12 (fun _ => 0)), (q55, eI cI 16 (fun _ => 0)), (q63, eI cI 12 (fun _ => 0)), (q71, eI cI 12 (fun _ => 0)), (q80, eJ cJ 4096 (fun _ => 0)), (q88, eI cI 48 (fun _ => 0)), (q96, eI cI 16 (fun _ => 0)), (q104, eI cI 6 (fun _ => 0)), (q112, eI cI 16 (fun _ => 0)), (q120, eI cI 6 (fun _ => 0)), (q128, eI cI 16 (fun _ => 0)), (q136, eI cI 16 (fun _ => 0))] := hD
  refine lv_aload_n hx hb dX6_init_141 rfl (lv_at hl 0 rfl) ?_
  refine lv_bipush (v := (16 : Int32)) hx hb dX6_init_142 (by decide) ?_
  refine va_newa (a0 := (16, .inl (fun _ => 0))) (atype := .int) (ty := .int) (N' := 16) hx hb (hts (.arrayClass .int) (by decide +kernel)) rfl hK.1 hP hD hS hA (fun cA => (vp_cell_i cA 16 (fun _ => 0)).trans rfl) (by decide) (by decide) (Nat.le_of_ble_eq_true rfl) (Nat.le_of_ble_eq_true rfl) (Nat.le_of_ble_eq_true rfl) dX6_init_144 (fun q144 cA H hK2 hP hD hS => ?_)
  obtain rfl : cI = cA := ty_int hK2 0 3 rfl rfl
  clear hK2
  have hP : va_P D vwCl [(h0, .inr (6, [.int 0, .ref q7, .ref q15, .ref q23, .ref q31, .ref q39, .int 0, .ref q47, .ref q55, .ref q63, .ref q71, .ref q80, .int 0, .ref q88, .int 0, .ref q96, .int 0, .int 0, .ref q104, .int 0, .ref q112, .ref q120, .ref q128, .ref q136, .int 0, .int 0, .int 0, .null, .null, .int 0, .int 0, .int 0, .long 0])), (q7, eI cI 16 (fun _ => 0)), (q15, eI cI 16 (fun _ => 0)), (q23, eI cI 16 (fun _ => 0)), (q31, eI cI 16 (fun _ => 0)), (q39, eI cI 16 (fun _ => 0)), (q47, eI cI 12 (fun _ => 0)), (q55, eI cI 16 (fun _ => 0)), (q63, eI cI 12 (fun _ => 0)), (q71, eI cI 12 (fun _ => 0)), (q80, eJ cJ 4096 (fun _ => 0)), (q88, eI cI 48 (fun _ => 0)), (q96, eI cI 16 (fun _ => 0)), (q104, eI cI 6 (fun _ => 0)), (q112, eI cI 16 (fun _ => 0)), (q120, eI cI 6 (fun _ => 0)), (q128, eI cI 16 (fun _ => 0)), (q136, eI cI 16 (fun _ => 0)), (q144, eI cI 16 (fun _ => 0))] H := hP
  have hD : va_D A [(h0, .inr (6, [.int 0, .ref q7, .ref q15, .ref q23, .ref q31, .ref q39, .int 0, .ref q47, .ref q55, .ref q63, .ref q71, .ref q80, .int 0, .ref q88, .int 0, .ref q96, .int 0, .int 0, .ref q104, .int 0, .ref q112, .ref q120, .ref q128, .ref q136, .int 0, .int 0, .int 0, .null, .null, .int 0, .int 0, .int 0, .long 0])), (q7, eI cI 16 (fun _ => 0)), (q15, eI cI 16 (fun _ => 0)), (q23, eI cI 16 (fun _ => 0)), (q31, eI cI 16 (fun _ => 0)), (q39, eI cI 16 (fun _ => 0)), (q47, eI cI 12 (fun _ => 0)), (q55, eI cI 16 (fun _ => 0)), (q63, eI cI 12 (fun _ => 0)), (q71, eI cI 12 (fun _ => 0)), (q80, eJ cJ 4096 (fun _ => 0)), (q88, eI cI 48 (fun _ => 0)), (q96, eI cI 16 (fun _ => 0)), (q104, eI cI 6 (fun _ => 0)), (q112, eI cI 16 (fun _ => 0)), (q120, eI cI 6 (fun _ => 0)), (q128, eI cI 16 (fun _ => 0)), (q136, eI cI 16 (fun _ => 0)), (q144, eI cI 16 (fun _ => 0))] := hD
  refine W.widen (k := 18) (n := 4368) (by omega) (by omega) ?_
  refine va_putF (D := D) (ci := 6) (v := .ref q144) (ty := .array .int) (C := RX6) (T := TX6) (N := 33) hx hb hts iX6 tyX6 tyX6_ok nmX6 hown hK.1 hP hD hS 0 rfl rfl 27 (by decide) k62 (fun _ h9 => h9) rfl hin rfl (by decide +kernel) rfl rfl (Nat.le_of_ble_eq_true rfl) dX6_init_146 (fun H locs hP hD hS => ?_)
  have hP : va_P D vwCl [(h0, .inr (6, [.int 0, .ref q7, .ref q15, .ref q23, .ref q31, .ref q39, .int 0, .ref q47, .ref q55, .ref q63, .ref q71, .ref q80, .int 0, .ref q88, .int 0, .ref q96, .int 0, .int 0, .ref q104, .int 0, .ref q112, .ref q120, .ref q128, .ref q136, .int 0, .int 0, .int 0, .ref q144, .null, .int 0, .int 0, .int 0, .long 0])), (q7, eI cI 16 (fun _ => 0)), (q15, eI cI 16 (fun _ => 0)), (q23, eI cI 16 (fun _ => 0)), (q31, eI cI 16 (fun _ => 0)), (q39, eI cI 16 (fun _ => 0)), (q47, eI cI 12 (fun _ => 0)), (q55, eI cI 16 (fun _ => 0)), (q63, eI cI 12 (fun _ => 0)), (q71, eI cI 12 (fun _ => 0)), (q80, eJ cJ 4096 (fun _ => 0)), (q88, eI cI 48 (fun _ => 0)), (q96, eI cI 16 (fun _ => 0)), (q104, eI cI 6 (fun _ => 0)), (q112, eI cI 16 (fun _ => 0)), (q120, eI cI 6 (fun _ => 0)), (q128, eI cI 16 (fun _ => 0)), (q136, eI cI 16 (fun _ => 0)), (q144, eI cI 16 (fun _ => 0))] H := hP
  have hD : va_D A [(h0, .inr (6, [.int 0, .ref q7, .ref q15, .ref q23, .ref q31, .ref q39, .int 0, .ref q47, .ref q55, .ref q63, .ref q71, .ref q80, .int 0, .ref q88, .int 0, .ref q96, .int 0, .int 0, .ref q104, .int 0, .ref q112, .ref q120, .ref q128, .ref q136, .int 0, .int 0, .int 0, .ref q144, .null, .int 0, .int 0, .int 0, .long 0])), (q7, eI cI 16 (fun _ => 0)), (q15, eI cI 16 (fun _ => 0)), (q23, eI cI 16 (fun _ => 0)), (q31, eI cI 16 (fun _ => 0)), (q39, eI cI 16 (fun _ => 0)), (q47, eI cI 12 (fun _ => 0)), (q55, eI cI 16 (fun _ => 0)), (q63, eI cI 12 (fun _ => 0)), (q71, eI cI 12 (fun _ => 0)), (q80, eJ cJ 4096 (fun _ => 0)), (q88, eI cI 48 (fun _ => 0)), (q96, eI cI 16 (fun _ => 0)), (q104, eI cI 6 (fun _ => 0)), (q112, eI cI 16 (fun _ => 0)), (q120, eI cI 6 (fun _ => 0)), (q128, eI cI 16 (fun _ => 0)), (q136, eI cI 16 (fun _ => 0)), (q144, eI cI 16 (fun _ => 0))] := hD
  refine lv_aload_n hx hb dX6_init_149 rfl (lv_at hl 0 rfl) ?_
  refine lv_bipush (v := (16 : Int32)) hx hb dX6_init_150 (by decide) ?_
  refine va_newa (a0 := (16, .inl (fun _ => 0))) (atype := .int) (ty := .int) (N' := 16) hx hb (hts (.arrayClass .int) (by decide +kernel)) rfl hK.1 hP hD hS hA (fun cA => (vp_cell_i cA 16 (fun _ => 0)).trans rfl) (by decide) (by decide) (Nat.le_of_ble_eq_true rfl) (Nat.le_of_ble_eq_true rfl) (Nat.le_of_ble_eq_true rfl) dX6_init_152 (fun q152 cA H hK2 hP hD hS => ?_)
  obtain rfl : cI = cA := ty_int hK2 0 3 rfl rfl
  clear hK2
  have hP : va_P D vwCl [(h0, .inr (6, [.int 0, .ref q7, .ref q15, .ref q23, .ref q31, .ref q39, .int 0, .ref q47, .ref q55, .ref q63, .ref q71, .ref q80, .int 0, .ref q88, .int 0, .ref q96, .int 0, .int 0, .ref q104, .int 0, .ref q112, .ref q120, .ref q128, .ref q136, .int 0, .int 0, .int 0, .ref q144, .null, .int 0, .int 0, .int 0, .long 0])), (q7, eI cI 16 (fun _ => 0)), (q15, eI cI 16 (fun _ => 0)), (q23, eI cI 16 (fun _ => 0)), (q31, eI cI 16 (fun _ => 0)), (q39, eI cI 16 (fun _ => 0)), (q47, eI cI 12 (fun _ => 0)), (q55, eI cI 16 (fun _ => 0)), (q63, eI cI 12 (fun _ => 0)), (q71, eI cI 12 (fun _ => 0)), (q80, eJ cJ 4096 (fun _ => 0)), (q88, eI cI 48 (fun _ => 0)), (q96, eI cI 16 (fun _ => 0)), (q104, eI cI 6 (fun _ => 0)), (q112, eI cI 16 (fun _ => 0)), (q120, eI cI 6 (fun _ => 0)), (q128, eI cI 16 (fun _ => 0)), (q136, eI cI 16 (fun _ => 0)), (q144, eI cI 16 (fun _ => 0)), (q152, eI cI 16 (fun _ => 0))] H := hP
  have hD : va_D A [(h0, .inr (6, [.int 0, .ref q7, .ref q15, .ref q23, .ref q31, .ref q39, .int 0, .ref q47, .ref q55, .ref q63, .ref q71, .ref q80, .int 0, .ref q88, .int 0, .ref q96, .int 0, .int 0, .ref q104, .int 0, .ref q112, .ref q120, .ref q128, .ref q136, .int 0, .int 0, .int 0, .ref q144, .null, .int 0, .int 0, .int 0, .long 0])), (q7, eI cI 16 (fun _ => 0)), (q15, eI cI 16 (fun _ => 0)), (q23, eI cI 16 (fun _ => 0)), (q31, eI cI 16 (fun _ => 0)), (q39, eI cI 16 (fun _ => 0)), (q47, eI cI 12 (fun _ => 0)), (q55, eI cI 16 (fun _ => 0)), (q63, eI cI 12 (fun _ => 0)), (q71, eI cI 12 (fun _ => 0)), (q80, eJ cJ 4096 (fun _ => 0)), (q88, eI cI 48 (fun _ => 0)), (q96, eI cI 16 (fun _ => 0)), (q104, eI cI 6 (fun _ => 0)), (q112, eI cI 16 (fun _ => 0)), (q120, eI cI 6 (fun _ => 0)), (q128, eI cI 16 (fun _ => 0)), (q136, eI cI 16 (fun _ => 0)), (q144, eI cI 16 (fun _ => 0)), (q152, eI cI 16 (fun _ => 0))] := hD
  refine W.widen (k := 19) (n := 4384) (by omega) (by omega) ?_
  refine va_putF (D := D) (ci := 6) (v := .ref q152) (ty := .array .int) (C := RX6) (T := TX6) (N := 33) hx hb hts iX6 tyX6 tyX6_ok nmX6 hown hK.1 hP hD hS 0 rfl rfl 28 (by decide) k65 (fun _ h9 => h9) rfl hin rfl (by decide +kernel) rfl rfl (Nat.le_of_ble_eq_true rfl) dX6_init_154 (fun H locs hP hD hS => ?_)
  have hP : va_P D vwCl [(h0, .inr (6, [.int 0, .ref q7, .ref q15, .ref q23, .ref q31, .ref q39, .int 0, .ref q47, .ref q55, .ref q63, .ref q71, .ref q80, .int 0, .ref q88, .int 0, .ref q96, .int 0, .int 0, .ref q104, .int 0, .ref q112, .ref q120, .ref q128, .ref q136, .int 0, .int 0, .int 0, .ref q144, .ref q152, .int 0, .int 0, .int 0, .long 0])), (q7, eI cI 16 (fun _ => 0)), (q15, eI cI 16 (fun _ => 0)), (q23, eI cI 16 (fun _ => 0)), (q31, eI cI 16 (fun _ => 0)), (q39, eI cI 16 (fun _ => 0)), (q47, eI cI 12 (fun _ => 0)), (q55, eI cI 16 (fun _ => 0)), (q63, eI cI 12 (fun _ => 0)), (q71, eI cI 12 (fun _ => 0)), (q80, eJ cJ 4096 (fun _ => 0)), (q88, eI cI 48 (fun _ => 0)), (q96, eI cI 16 (fun _ => 0)), (q104, eI cI 6 (fun _ => 0)), (q112, eI cI 16 (fun _ => 0)), (q120, eI cI 6 (fun _ => 0)), (q128, eI cI 16 (fun _ => 0)), (q136, eI cI 16 (fun _ => 0)), (q144, eI cI 16 (fun _ => 0)), (q152, eI cI 16 (fun _ => 0))] H := hP
  have hD : va_D A [(h0, .inr (6, [.int 0, .ref q7, .ref q15, .ref q23, .ref q31, .ref q39, .int 0, .ref q47, .ref q55, .ref q63, .ref q71, .ref q80, .int 0, .ref q88, .int 0, .ref q96, .int 0, .int 0, .ref q104, .int 0, .ref q112, .ref q120, .ref q128, .ref q136, .int 0, .int 0, .int 0, .ref q144, .ref q152, .int 0, .int 0, .int 0, .long 0])), (q7, eI cI 16 (fun _ => 0)), (q15, eI cI 16 (fun _ => 0)), (q23, eI cI 16 (fun _ => 0)), (q31, eI cI 16 (fun _ => 0)), (q39, eI cI 16 (fun _ => 0)), (q47, eI cI 12 (fun _ => 0)), (q55, eI cI 16 (fun _ => 0)), (q63, eI cI 12 (fun _ => 0)), (q71, eI cI 12 (fun _ => 0)), (q80, eJ cJ 4096 (fun _ => 0)), (q88, eI cI 48 (fun _ => 0)), (q96, eI cI 16 (fun _ => 0)), (q104, eI cI 6 (fun _ => 0)), (q112, eI cI 16 (fun _ => 0)), (q120, eI cI 6 (fun _ => 0)), (q128, eI cI 16 (fun _ => 0)), (q136, eI cI 16 (fun _ => 0)), (q144, eI cI 16 (fun _ => 0)), (q152, eI cI 16 (fun _ => 0))] := hD
  refine lv_aload_n hx hb dX6_init_157 rfl (lv_at hl 0 rfl) ?_
  refine va_get (D := D) (ci := 6) (v := .ref q80) (C := RX6) (T := TX6) (N := 33) hx hb hts iX6 hown hK.1 hP 0 rfl rfl 11 (by decide) k37 (fun _ h9 => h9) rfl dX6_init_158 ?_
  refine lv_iconst (v := (0 : Int32)) hx hb dX6_init_161 (by decide) ?_
  refine lv_lconst (v := 1) hx hb dX6_init_162 (by decide) ?_
  refine va_last hx hb hK.1 hP hD hS 10 1 rfl rfl (inB_in (by decide)) dX6_init_163 (fun H locs hP hD hS => ?_)
  have hP : va_P D vwCl [(h0, .inr (6, [.int 0, .ref q7, .ref q15, .ref q23, .ref q31, .ref q39, .int 0, .ref q47, .ref q55, .ref q63, .ref q71, .ref q80, .int 0, .ref q88, .int 0, .ref q96, .int 0, .int 0, .ref q104, .int 0, .ref q112, .ref q120, .ref q128, .ref q136, .int 0, .int 0, .int 0, .ref q144, .ref q152, .int 0, .int 0, .int 0, .long 0])), (q7, eI cI 16 (fun _ => 0)), (q15, eI cI 16 (fun _ => 0)), (q23, eI cI 16 (fun _ => 0)), (q31, eI cI 16 (fun _ => 0)), (q39, eI cI 16 (fun _ => 0)), (q47, eI cI 12 (fun _ => 0)), (q55, eI cI 16 (fun _ => 0)), (q63, eI cI 12 (fun _ => 0)), (q71, eI cI 12 (fun _ => 0)), (q80, eJ cJ 4096 (vp_updL (fun _ => 0) ((0 : Int32)).toNatClampNeg (1 : Int64))), (q88, eI cI 48 (fun _ => 0)), (q96, eI cI 16 (fun _ => 0)), (q104, eI cI 6 (fun _ => 0)), (q112, eI cI 16 (fun _ => 0)), (q120, eI cI 6 (fun _ => 0)), (q128, eI cI 16 (fun _ => 0)), (q136, eI cI 16 (fun _ => 0)), (q144, eI cI 16 (fun _ => 0)), (q152, eI cI 16 (fun _ => 0))] H := hP
  have hD : va_D A [(h0, .inr (6, [.int 0, .ref q7, .ref q15, .ref q23, .ref q31, .ref q39, .int 0, .ref q47, .ref q55, .ref q63, .ref q71, .ref q80, .int 0, .ref q88, .int 0, .ref q96, .int 0, .int 0, .ref q104, .int 0, .ref q112, .ref q120, .ref q128, .ref q136, .int 0, .int 0, .int 0, .ref q144, .ref q152, .int 0, .int 0, .int 0, .long 0])), (q7, eI cI 16 (fun _ => 0)), (q15, eI cI 16 (fun _ => 0)), (q23, eI cI 16 (fun _ => 0)), (q31, eI cI 16 (fun _ => 0)), (q39, eI cI 16 (fun _ => 0)), (q47, eI cI 12 (fun _ => 0)), (q55, eI cI 16 (fun _ => 0)), (q63, eI cI 12 (fun _ => 0)), (q71, eI cI 12 (fun _ => 0)), (q80, eJ cJ 4096 (vp_updL (fun _ => 0) ((0 : Int32)).toNatClampNeg (1 : Int64))), (q88, eI cI 48 (fun _ => 0)), (q96, eI cI 16 (fun _ => 0)), (q104, eI cI 6 (fun _ => 0)), (q112, eI cI 16 (fun _ => 0)), (q120, eI cI 6 (fun _ => 0)), (q128, eI cI 16 (fun _ => 0)), (q136, eI cI 16 (fun _ => 0)), (q144, eI cI 16 (fun _ => 0)), (q152, eI cI 16 (fun _ => 0))] := hD
  exact W.vret hx hb hr (fun t ht hW => by rw [← hAe] at hD hS; exact ⟨⟨(fun i => [q7, q15, q23, q31, q39, q47, q55, q63, q71, q80, q88, q96, q104, q112, q120, q128, q136, q144, q152].getD i 0), rfl, trivial, by rw [ht]; exact hP, hD⟩, hS.F ht⟩) hS.2.2 dX6_init_164

