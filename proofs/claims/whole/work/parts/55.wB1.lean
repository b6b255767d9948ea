set_option maxHeartbeats 4000000 in
set_option maxRecDepth 100000 in
theorem tX5_wipe (l : Launch) (D : va_G) (cI cJ cG : ClassId) (aB aL aM aA aK aB_inputs aC1 aC2 aC3 aL_kinds aL_vs aL_ws aL_roles aL_mates aM_numbers aM_ranks aM_ahead aM_ways aA_row aC1_variables aC1_prints : Nat) (sz : Nat)  (B_manyInputs : Int32) (B_hintsDone : Int32) (L_many : Int32) (M_length : Int32) (M_waysCounted : Int32) (M_ranks : (Nat → Int32)) (A_length : Int32) (C1_manyPrints : Int32) (C1_variables : (Nat → Int32)) (out : Int32 × Int32 × Int32 × Int32 × Int32 × (Nat → Int32) × Int32 × Int32 × (Nat → Int32)) (hf : fX5_wipe B_manyInputs L_many M_length M_waysCounted M_ranks A_length C1_manyPrints C1_variables = some out) : Met l yX5_wipe wsX5_wipe ({ frames := 2, cells := 0, slots := 0, locals := 43 }) (va_Pc [.ref aB] (wP D (tyL cI cJ cG) [(aB, .inr (5, [.ref aL, .ref aM, .ref aA, .ref aK, .ref aB_inputs, .int B_manyInputs, .int B_hintsDone, .ref aC1, .ref aC2, .ref aC3])), (aL, .inr (1, [.ref aL_kinds, .ref aL_vs, .ref aL_ws, .ref aL_roles, .ref aL_mates, .int L_many])), (aM, .inr (4, [.ref aM_numbers, .ref aM_ranks, .ref aM_ahead, .int M_length, .ref aM_ways, .int M_waysCounted])), (aM_ranks, eI cI 16 M_ranks), (aA, .inr (0, [.ref aA_row, .int A_length])), (aC1, .inr (2, [.ref aC1_variables, .ref aC1_prints, .int C1_manyPrints])), (aC1_variables, eI cI 6 C1_variables)] sz)) (wQi D out.1 [(aB, .inr (5, [.ref aL, .ref aM, .ref aA, .ref aK, .ref aB_inputs, .int B_manyInputs, .int B_hintsDone, .ref aC1, .ref aC2, .ref aC3])), (aL, .inr (1, [.ref aL_kinds, .ref aL_vs, .ref aL_ws, .ref aL_roles, .ref aL_mates, .int L_many])), (aM, .inr (4, [.ref aM_numbers, .ref aM_ranks, .ref aM_ahead, .int M_length, .ref aM_ways, .int M_waysCounted])), (aM_ranks, eI cI 16 M_ranks), (aA, .inr (0, [.ref aA_row, .int A_length])), (aC1, .inr (2, [.ref aC1_variables, .ref aC1_prints, .int C1_manyPrints])), (aC1_variables, eI cI 6 C1_variables)] [(aB, .inr (5, [.ref aL, .ref aM, .ref aA, .ref aK, .ref aB_inputs, .int out.2.1, .int B_hintsDone, .ref aC1, .ref aC2, .ref aC3])), (aL, .inr (1, [.ref aL_kinds, .ref aL_vs, .ref aL_ws, .ref aL_roles, .ref aL_mates, .int out.2.2.1])), (aM, .inr (4, [.ref aM_numbers, .ref aM_ranks, .ref aM_ahead, .int out.2.2.2.1, .ref aM_ways, .int out.2.2.2.2.1])), (aM_ranks, eI cI 16 out.2.2.2.2.2.1), (aA, .inr (0, [.ref aA_row, .int out.2.2.2.2.2.2.1])), (aC1, .inr (2, [.ref aC1_variables, .ref aC1_prints, .int out.2.2.2.2.2.2.2.1])), (aC1_variables, eI cI 6 out.2.2.2.2.2.2.2.2)] sz) 0 0 (va_A [(aB, .inr (5, [.ref aL, .ref aM, .ref aA, .ref aK, .ref aB_inputs, .int B_manyInputs, .int B_hintsDone, .ref aC1, .ref aC2, .ref aC3])), (aL, .inr (1, [.ref aL_kinds, .ref aL_vs, .ref aL_ws, .ref aL_roles, .ref aL_mates, .int L_many])), (aM, .inr (4, [.ref aM_numbers, .ref aM_ranks, .ref aM_ahead, .int M_length, .ref aM_ways, .int M_waysCounted])), (aM_ranks, eI cI 16 M_ranks), (aA, .inr (0, [.ref aA_row, .int A_length])), (aC1, .inr (2, [.ref aC1_variables, .ref aC1_prints, .int C1_manyPrints])), (aC1_variables, eI cI 6 C1_variables)] sz) := by
  refine Met.ofW (cc := cX5_wipe) (maxL := 2) (ret := (some .int)) (by decide) rfl ?_
  intro p e s m args below meth c s₁ B hml hv
  obtain ⟨rfl, hsz, hP, hK, hD0⟩ := hv
  have hx := B.exec
  have hb := B.bytes
  have hr := B.returns
  have hts := atoms_spec (ws := wsX5_wipe) B.pre
  have hown : s.vm.findClass RX5 = some m.cls := findClass_of_methodNamed B.named
  have hlocks := B.notSynchronized
  have iX0 : ∀ w ∈ wsX00, w ∈ wsX5_wipe := by decide +kernel
  have iX1 : ∀ w ∈ wsX10, w ∈ wsX5_wipe := by decide +kernel
  have iX5 : ∀ w ∈ wsX50, w ∈ wsX5_wipe := by decide +kernel
  have k10 := hts (.fieldLink RX5 10 "BlockMarker" "lines" "LBlockMarker$Lines;") (by decide +kernel)
  have k19 := hts (.fieldLink RX5 19 "BlockMarker" "model" "LBlockMarker$Model;") (by decide +kernel)
  have k26 := hts (.fieldLink RX5 26 "BlockMarker" "answer" "LBlockMarker$Answer;") (by decide +kernel)
  have k47 := hts (.fieldLink RX5 47 "BlockMarker" "latest" "LBlockMarker$Machine;") (by decide +kernel)
  have k88 := hts (.fieldLink RX5 88 "BlockMarker" "manyInputs" "I") (by decide +kernel)
  have n57 := va_Nw.use (A := ([.ref aB] : List Value).toArray) rfl (hK.2 (.fieldLinkNest "BlockMarker" 57 "BlockMarker$Lines" "many" "I" "BlockMarker") (by decide +kernel))
  have n87 := va_Nw.use (A := ([.ref aB] : List Value).toArray) rfl (hK.2 (.fieldLinkNest "BlockMarker" 87 "BlockMarker$Answer" "length" "I" "BlockMarker") (by decide +kernel))
  subst hsz
  have hD := hD0.self (sz := s.heap.size)
  generalize hAe : va_A [(aB, .inr (5, [.ref aL, .ref aM, .ref aA, .ref aK, .ref aB_inputs, .int B_manyInputs, .int B_hintsDone, .ref aC1, .ref aC2, .ref aC3])), (aL, .inr (1, [.ref aL_kinds, .ref aL_vs, .ref aL_ws, .ref aL_roles, .ref aL_mates, .int L_many])), (aM, .inr (4, [.ref aM_numbers, .ref aM_ranks, .ref aM_ahead, .int M_length, .ref aM_ways, .int M_waysCounted])), (aM_ranks, eI cI 16 M_ranks), (aA, .inr (0, [.ref aA_row, .int A_length])), (aC1, .inr (2, [.ref aC1_variables, .ref aC1_prints, .int C1_manyPrints])), (aC1_variables, eI cI 6 C1_variables)] s.heap.size = A at hD ⊢
  have hA : ∀ q : Nat, s.heap.size ≤ q → A q := fun q h => by rw [← hAe]; exact Or.inr h
  have hS : va_S A s.heap s.heap [] := va_S.rf
  have hl := lv_entry ([.ref aB]) (n := 2) (Nat.le_of_ble_eq_true rfl)
  rw [lg_entry_eq]
  generalize (lg_sl ([.ref aB]) ++ List.replicate (2 - (lg_sl ([.ref aB])).length) Slot.unset).toArray = ls at hl ⊢
  have hl : lv_has ls 2 [(0, .ref aB)] := hl
  generalize hQQ : MQ below _ _ s 0 0 _ = QQ
  replace hQQ := hQQ.symm
  generalize hHH : s.heap = H at hP ⊢
  have hS : va_S A s.heap H [] := by rw [← hHH]; exact va_S.rf
  generalize ([] : List Loc) = locs at hS ⊢
  unfold fX5_wipe at hf
  refine lv_aload_n hx hb dX5_wipe_0 rfl (lv_at hl 0 rfl) ?_
  refine va_get (D := D) (ci := 5) (v := .ref aL) (C := RX5) (T := TX5) (N := 10) hx hb hts iX5 hown hK.1 hP 0 rfl rfl 0 (by decide) k10 (fun _ h9 => h9) rfl dX5_wipe_1 ?_
  refine va_getN (D := D) (ci := 1) (v := .int L_many) (C := RX1) (T := TX1) (N := 6) hx hb hts iX1 hown hK.1 hP 1 rfl rfl 5 (by decide) n57 (fun _ h9 => h9) rfl dX5_wipe_4 ?_
  refine lv_istore_n (lv' := [(1, .int L_many), (0, .ref aB)]) hx hb dX5_wipe_7 rfl hl (by decide) rfl (fun ls hl => ?_)
  refine lv_aload_n hx hb dX5_wipe_8 rfl (lv_at hl 1 rfl) ?_
  refine va_get (D := D) (ci := 5) (v := .ref aL) (C := RX5) (T := TX5) (N := 10) hx hb hts iX5 hown hK.1 hP 0 rfl rfl 0 (by decide) k10 (fun _ h9 => h9) rfl dX5_wipe_9 ?_
  refine bnd hf (fun o12 e12 hf => ?_)
  refine wrVv (As := []) (rest := []) (cw := [(aL, .inr (1, [.ref aL_kinds, .ref aL_vs, .ref aL_ws, .ref aL_roles, .ref aL_mates, .int L_many]))]) (cw' := [(aL, .inr (1, [.ref aL_kinds, .ref aL_vs, .ref aL_ws, .ref aL_roles, .ref aL_mates, .int o12]))]) (wr := [(aB, .inr (5, [.ref aL, .ref aM, .ref aA, .ref aK, .ref aB_inputs, .int B_manyInputs, .int B_hintsDone, .ref aC1, .ref aC2, .ref aC3])), (aM, .inr (4, [.ref aM_numbers, .ref aM_ranks, .ref aM_ahead, .int M_length, .ref aM_ways, .int M_waysCounted])), (aM_ranks, eI cI 16 M_ranks), (aA, .inr (0, [.ref aA_row, .int A_length])), (aC1, .inr (2, [.ref aC1_variables, .ref aC1_prints, .int C1_manyPrints])), (aC1_variables, eI cI 6 C1_variables)]) (ws2 := [(aB, .inr (5, [.ref aL, .ref aM, .ref aA, .ref aK, .ref aB_inputs, .int B_manyInputs, .int B_hintsDone, .ref aC1, .ref aC2, .ref aC3])), (aL, .inr (1, [.ref aL_kinds, .ref aL_vs, .ref aL_ws, .ref aL_roles, .ref aL_mates, .int o12])), (aM, .inr (4, [.ref aM_numbers, .ref aM_ranks, .ref aM_ahead, .int M_length, .ref aM_ways, .int M_waysCounted])), (aM_ranks, eI cI 16 M_ranks), (aA, .inr (0, [.ref aA_row, .int A_length])), (aC1, .inr (2, [.ref aC1_variables, .ref aC1_prints, .int C1_manyPrints])), (aC1_variables, eI cI 6 C1_variables)]) ⟨hx, hb, hml, hown, hts⟩ (tX1_forget l D cI cJ cG aL aL_kinds aL_vs aL_ws aL_roles aL_mates H.size  L_many o12 e12) (cwV 0 hts gX5_wipe_X1_forget rfl rfl rfl (by decide +kernel) ⟨Nat.le_of_ble_eq_true rfl, Nat.le_of_ble_eq_true rfl⟩) (va_recv (ci := 1) (q0 := 1) hK.1 hP rfl rfl) hK hP hD hS hA [1] [0, 2, 3, 4, 5, 6] [0, 6, 1, 2, 3, 4, 5] rfl rfl rfl (by decide) (by decide) (by decide) (by decide) rfl hl.1 rfl (lv_room (Nat.le_of_ble_eq_true rfl)) dX5_wipe_12 ⟨Nat.le_of_ble_eq_true rfl, Nat.le_of_ble_eq_true rfl⟩ (fun H locs hP hD hS => ?_)
  refine lv_aload_n hx hb dX5_wipe_15 rfl (lv_at hl 1 rfl) ?_
  refine va_get (D := D) (ci := 5) (v := .ref aM) (C := RX5) (T := TX5) (N := 10) hx hb hts iX5 hown hK.1 hP 0 rfl rfl 1 (by decide) k19 (fun _ h9 => h9) rfl dX5_wipe_16 ?_
  refine bnd hf (fun o19 e19 hf => ?_)
  refine wrVv (As := []) (rest := []) (cw := [(aM, .inr (4, [.ref aM_numbers, .ref aM_ranks, .ref aM_ahead, .int M_length, .ref aM_ways, .int M_waysCounted])), (aM_ranks, eI cI 16 M_ranks)]) (cw' := [(aM, .inr (4, [.ref aM_numbers, .ref aM_ranks, .ref aM_ahead, .int o19.1, .ref aM_ways, .int o19.2.1])), (aM_ranks, eI cI 16 o19.2.2)]) (wr := [(aB, .inr (5, [.ref aL, .ref aM, .ref aA, .ref aK, .ref aB_inputs, .int B_manyInputs, .int B_hintsDone, .ref aC1, .ref aC2, .ref aC3])), (aL, .inr (1, [.ref aL_kinds, .ref aL_vs, .ref aL_ws, .ref aL_roles, .ref aL_mates, .int o12])), (aA, .inr (0, [.ref aA_row, .int A_length])), (aC1, .inr (2, [.ref aC1_variables, .ref aC1_prints, .int C1_manyPrints])), (aC1_variables, eI cI 6 C1_variables)]) (ws2 := [(aB, .inr (5, [.ref aL, .ref aM, .ref aA, .ref aK, .ref aB_inputs, .int B_manyInputs, .int B_hintsDone, .ref aC1, .ref aC2, .ref aC3])), (aL, .inr (1, [.ref aL_kinds, .ref aL_vs, .ref aL_ws, .ref aL_roles, .ref aL_mates, .int o12])), (aM, .inr (4, [.ref aM_numbers, .ref aM_ranks, .ref aM_ahead, .int o19.1, .ref aM_ways, .int o19.2.1])), (aM_ranks, eI cI 16 o19.2.2), (aA, .inr (0, [.ref aA_row, .int A_length])), (aC1, .inr (2, [.ref aC1_variables, .ref aC1_prints, .int C1_manyPrints])), (aC1_variables, eI cI 6 C1_variables)]) ⟨hx, hb, hml, hown, hts⟩ (tX4_forget l D cI cJ cG aM aM_numbers aM_ranks aM_ahead aM_ways H.size  M_length M_waysCounted M_ranks o19 e19) (cwV 0 hts gX5_wipe_X4_forget rfl rfl rfl (by decide +kernel) ⟨Nat.le_of_ble_eq_true rfl, Nat.le_of_ble_eq_true rfl⟩) (va_recv (ci := 4) (q0 := 2) hK.1 hP rfl rfl) hK hP hD hS hA [2, 3] [0, 1, 4, 5, 6] [0, 1, 5, 6, 2, 3, 4] rfl rfl rfl (by decide) (by decide) (by decide) (by decide) rfl hl.1 rfl (lv_room (Nat.le_of_ble_eq_true rfl)) dX5_wipe_19 ⟨Nat.le_of_ble_eq_true rfl, Nat.le_of_ble_eq_true rfl⟩ (fun H locs hP hD hS => ?_)
  refine lv_aload_n hx hb dX5_wipe_22 rfl (lv_at hl 1 rfl) ?_
  refine va_get (D := D) (ci := 5) (v := .ref aA) (C := RX5) (T := TX5) (N := 10) hx hb hts iX5 hown hK.1 hP 0 rfl rfl 2 (by decide) k26 (fun _ h9 => h9) rfl dX5_wipe_23 ?_
  refine lv_iconst (v := (0 : Int32)) hx hb dX5_wipe_26 (by decide) ?_
  refine va_putN (D := D) (ci := 0) (v := .int (0 : Int32)) (ty := .int) (C := RX0) (T := TX0) (N := 2) hx hb hts iX0 tyX0 tyX0_ok nmX0 hown hK.1 hP hD hS 4 rfl rfl 1 (by decide) n87 (fun _ h9 => h9) rfl (by decide +kernel) rfl rfl (Nat.le_of_ble_eq_true rfl) dX5_wipe_27 (fun H locs hP hD hS => ?_)
  have hP : va_P D vwCl [(aB, .inr (5, [.ref aL, .ref aM, .ref aA, .ref aK, .ref aB_inputs, .int B_manyInputs, .int B_hintsDone, .ref aC1, .ref aC2, .ref aC3])), (aL, .inr (1, [.ref aL_kinds, .ref aL_vs, .ref aL_ws, .ref aL_roles, .ref aL_mates, .int o12])), (aM, .inr (4, [.ref aM_numbers, .ref aM_ranks, .ref aM_ahead, .int o19.1, .ref aM_ways, .int o19.2.1])), (aM_ranks, eI cI 16 o19.2.2), (aA, .inr (0, [.ref aA_row, .int (0 : Int32)])), (aC1, .inr (2, [.ref aC1_variables, .ref aC1_prints, .int C1_manyPrints])), (aC1_variables, eI cI 6 C1_variables)] H := hP
  have hD : va_D A [(aB, .inr (5, [.ref aL, .ref aM, .ref aA, .ref aK, .ref aB_inputs, .int B_manyInputs, .int B_hintsDone, .ref aC1, .ref aC2, .ref aC3])), (aL, .inr (1, [.ref aL_kinds, .ref aL_vs, .ref aL_ws, .ref aL_roles, .ref aL_mates, .int o12])), (aM, .inr (4, [.ref aM_numbers, .ref aM_ranks, .ref aM_ahead, .int o19.1, .ref aM_ways, .int o19.2.1])), (aM_ranks, eI cI 16 o19.2.2), (aA, .inr (0, [.ref aA_row, .int (0 : Int32)])), (aC1, .inr (2, [.ref aC1_variables, .ref aC1_prints, .int C1_manyPrints])), (aC1_variables, eI cI 6 C1_variables)] := hD
  refine lv_aload_n hx hb dX5_wipe_30 rfl (lv_at hl 1 rfl) ?_
  refine lv_iconst (v := (0 : Int32)) hx hb dX5_wipe_31 (by decide) ?_
  refine va_put (D := D) (ci := 5) (v := .int (0 : Int32)) (ty := .int) (C := RX5) (T := TX5) (N := 10) hx hb hts iX5 tyX5 tyX5_ok nmX5 hown hK.1 hP hD hS 0 rfl rfl 5 (by decide) k88 (fun _ h9 => h9) rfl (by decide +kernel) rfl rfl (Nat.le_of_ble_eq_true rfl) dX5_wipe_32 (fun H locs hP hD hS => ?_)
  have hP : va_P D vwCl [(aB, .inr (5, [.ref aL, .ref aM, .ref aA, .ref aK, .ref aB_inputs, .int (0 : Int32), .int B_hintsDone, .ref aC1, .ref aC2, .ref aC3])), (aL, .inr (1, [.ref aL_kinds, .ref aL_vs, .ref aL_ws, .ref aL_roles, .ref aL_mates, .int o12])), (aM, .inr (4, [.ref aM_numbers, .ref aM_ranks, .ref aM_ahead, .int o19.1, .ref aM_ways, .int o19.2.1])), (aM_ranks, eI cI 16 o19.2.2), (aA, .inr (0, [.ref aA_row, .int (0 : Int32)])), (aC1, .inr (2, [.ref aC1_variables, .ref aC1_prints, .int C1_manyPrints])), (aC1_variables, eI cI 6 C1_variables)] H := hP
  have hD : va_D A [(aB, .inr (5, [.ref aL, .ref aM, .ref aA, .ref aK, .ref aB_inputs, .int (0 : Int32), .int B_hintsDone, .ref aC1, .ref aC2, .ref aC3])), (aL, .inr (1, [.ref aL_kinds, .ref aL_vs, .ref aL_ws, .ref aL_roles, .ref aL_mates, .int o12])), (aM, .inr (4, [.ref aM_numbers, .ref aM_ranks, .ref aM_ahead, .int o19.1, .ref aM_ways, .int o19.2.1])), (aM_ranks, eI cI 16 o19.2.2), (aA, .inr (0, [.ref aA_row, .int (0 : Int32)])), (aC1, .inr (2, [.ref aC1_variables, .ref aC1_prints, .int C1_manyPrints])), (aC1_variables, eI cI 6 C1_variables)] := hD
  refine lv_aload_n hx hb dX5_wipe_35 rfl (lv_at hl 1 rfl) ?_
  refine va_get (D := D) (ci := 5) (v := .ref aC1) (C := RX5) (T := TX5) (N := 10) hx hb hts iX5 hown hK.1 hP 0 rfl rfl 7 (by decide) k47 (fun _ h9 => h9) rfl dX5_wipe_36 ?_
  refine bnd hf (fun o39 e39 hf => ?_)
  refine wrVv (As := []) (rest := []) (cw := [(aC1, .inr (2, [.ref aC1_variables, .ref aC1_prints, .int C1_manyPrints])), (aC1_variables, eI cI 6 C1_variables)]) (cw' := [(aC1, .inr (2, [.ref aC1_variables, .ref aC1_prints, .int o39.1])), (aC1_variables, eI cI 6 o39.2)]) (wr := [(aB, .inr (5, [.ref aL, .ref aM, .ref aA, .ref aK, .ref aB_inputs, .int (0 : Int32), .int B_hintsDone, .ref aC1, .ref aC2, .ref aC3])), (aL, .inr (1, [.ref aL_kinds, .ref aL_vs, .ref aL_ws, .ref aL_roles, .ref aL_mates, .int o12])), (aM, .inr (4, [.ref aM_numbers, .ref aM_ranks, .ref aM_ahead, .int o19.1, .ref aM_ways, .int o19.2.1])), (aM_ranks, eI cI 16 o19.2.2), (aA, .inr (0, [.ref aA_row, .int (0 : Int32)]))]) (ws2 := [(aB, .inr (5, [.ref aL, .ref aM, .ref aA, .ref aK, .ref aB_inputs, .int (0 : Int32), .int B_hintsDone, .ref aC1, .ref aC2, .ref aC3])), (aL, .inr (1, [.ref aL_kinds, .ref aL_vs, .ref aL_ws, .ref aL_roles, .ref aL_mates, .int o12])), (aM, .inr (4, [.ref aM_numbers, .ref aM_ranks, .ref aM_ahead, .int o19.1, .ref aM_ways, .int o19.2.1])), (aM_ranks, eI cI 16 o19.2.2), (aA, .inr (0, [.ref aA_row, .int (0 : Int32)])), (aC1, .inr (2, [.ref aC1_variables, .ref aC1_prints, .int o39.1])), (aC1_variables, eI cI 6 o39.2)]) ⟨hx, hb, hml, hown, hts⟩ (tX2_forget l D cI cJ cG aC1 aC1_variables aC1_prints H.size  C1_manyPrints C1_variables o39 e39) (cwV 0 hts gX5_wipe_X2_forget rfl rfl rfl (by decide +kernel) ⟨Nat.le_of_ble_eq_true rfl, Nat.le_of_ble_eq_true rfl⟩) (va_recv (ci := 2) (q0 := 5) hK.1 hP rfl rfl) hK hP hD hS hA [5, 6] [0, 1, 2, 3, 4] [0, 1, 2, 3, 4, 5, 6] rfl rfl rfl (by decide) (by decide) (by decide) (by decide) rfl hl.1 rfl (lv_room (Nat.le_of_ble_eq_true rfl)) dX5_wipe_39 ⟨Nat.le_of_ble_eq_true rfl, Nat.le_of_ble_eq_true rfl⟩ (fun H locs hP hD hS => ?_)
  refine lv_iload_n hx hb dX5_wipe_42 rfl (lv_at hl 0 rfl) ?_
  rw [hQQ]
  exact W.iret (v := L_many) hx hb hr (fun t ht hW => by rw [← Option.some.inj hf]; rw [← hAe] at hD hS; exact ⟨⟨L_many, (), rfl, rfl, by rw [ht]; exact hP, hD⟩, hS.F ht⟩) hS.2.2 dX5_wipe_43

set_option maxHeartbeats 4000000 in
set_option maxRecDepth 100000 in
theorem tX5_told (l : Launch) (D : va_G) (cI cJ cG : ClassId) (aB aL aM aA aK aB_inputs aC1 aC2 aC3 aL_kinds aL_vs aL_ws aL_roles aL_mates : Nat) (Hs : Heap) (y1 : Int32) (y2 : Int32) (B_manyInputs : Int32) (B_hintsDone : Int32) (L_many : Int32) (L_kinds : (Nat → Int32)) (L_vs : (Nat → Int32)) (L_ws : (Nat → Int32)) (L_roles : (Nat → Int32)) (L_mates : (Nat → Int32)) (out : Int32) (hf : fX5_told y1 y2 L_many L_kinds L_vs L_ws L_roles L_mates = some out) : Met l yX5_told wsX5_told ({ frames := 2, cells := 0, slots := 0, locals := 43 }) (va_Pc [.ref aB, .int y1, .int y2] (rP D (tyL cI cJ cG) [(aB, .inr (5, [.ref aL, .ref aM, .ref aA, .ref aK, .ref aB_inputs, .int B_manyInputs, .int B_hintsDone, .ref aC1, .ref aC2, .ref aC3])), (aL, .inr (1, [.ref aL_kinds, .ref aL_vs, .ref aL_ws, .ref aL_roles, .ref aL_mates, .int L_many])), (aL_kinds, eI cI 16 L_kinds), (aL_vs, eI cI 16 L_vs), (aL_ws, eI cI 16 L_ws), (aL_roles, eI cI 16 L_roles), (aL_mates, eI cI 16 L_mates)] Hs)) (rQi out Hs) 0 0 (fun _ => False) := by
  refine Met.ofW (cc := cX5_told) (maxL := 3) (ret := (some .int)) (by decide) rfl ?_
  intro p e s m args below meth c s₁ B hml hv
  obtain ⟨rfl, rfl, hP, hK⟩ := hv
  have hx := B.exec
  have hb := B.bytes
  have hr := B.returns
  have hts := atoms_spec (ws := wsX5_told) B.pre
  have hown : s.vm.findClass RX5 = some m.cls := findClass_of_methodNamed B.named
  have hlocks := B.notSynchronized
  have iX5 : ∀ w ∈ wsX50, w ∈ wsX5_told := by decide +kernel
  have k10 := hts (.fieldLink RX5 10 "BlockMarker" "lines" "LBlockMarker$Lines;") (by decide +kernel)
  have hS : va_S (fun _ => False) s.heap s.heap [] := va_S.rf
  have hl := lv_entry ([.ref aB, .int y1, .int y2]) (n := 3) (Nat.le_of_ble_eq_true rfl)
  rw [lg_entry_eq]
  generalize (lg_sl ([.ref aB, .int y1, .int y2]) ++ List.replicate (3 - (lg_sl ([.ref aB, .int y1, .int y2])).length) Slot.unset).toArray = ls at hl ⊢
  have hl : lv_has ls 3 [(0, .ref aB), (1, .int y1), (2, .int y2)] := hl
  generalize hQQ : MQ below _ _ s 0 0 _ = QQ
  replace hQQ := hQQ.symm
  unfold fX5_told at hf
  refine lv_aload_n hx hb dX5_told_0 rfl (lv_at hl 0 rfl) ?_
  refine va_get (D := D) (ci := 5) (v := .ref aL) (C := RX5) (T := TX5) (N := 10) hx hb hts iX5 hown hK.1 hP 0 rfl rfl 0 (by decide) k10 (fun _ h9 => h9) rfl dX5_told_1 ?_
  refine lv_iload_n hx hb dX5_told_4 rfl (lv_at hl 1 rfl) ?_
  refine bnd hf (fun o5 e5 hf => ?_)
  refine rdVi (As := [.int y1]) (rest := []) ⟨hx, hb, hml, hown, hts⟩ (tX1_has l D cI cJ cG aL aL_kinds aL_vs aL_ws aL_roles aL_mates s.heap y1 L_many o5 e5) (cwV 1 hts gX5_told_X1_has rfl rfl rfl (by decide +kernel) ⟨Nat.le_of_ble_eq_true rfl, Nat.le_of_ble_eq_true rfl⟩) (va_recv (ci := 1) (q0 := 1) hK.1 hP rfl rfl) hK (hP.sub (ws' := [(aL, .inr (1, [.ref aL_kinds, .ref aL_vs, .ref aL_ws, .ref aL_roles, .ref aL_mates, .int L_many]))]) [1] rfl) rfl hl.1 rfl (lv_room (Nat.le_of_ble_eq_true rfl)) dX5_told_5 ⟨Nat.le_of_ble_eq_true rfl, Nat.le_of_ble_eq_true rfl⟩ hS (fun locs hS => ?_)
  refine lv_if_ne (tgt := 14) hx hb dX5_told_8 (by decide) (fun c8 => ?_) (fun c8 => ?_)
  · have hf := ifn hf c8
    refine lv_iload_n hx hb dX5_told_14 rfl (lv_at hl 2 rfl) ?_
    refine lv_if_lt (tgt := 35) hx hb dX5_told_15 (by decide) (fun c15 => ?_) (fun c15 => ?_)
    · have hf := ifp hf c15
      refine lv_bipush (v := (-102 : Int32)) hx hb dX5_told_35 (by decide) ?_
      rw [hQQ]
      exact W.iret (v := (-102 : Int32)) hx hb hr (fun t ht hW => ⟨⟨(-102 : Int32), (), rfl, Option.some.inj hf, ht⟩, rF ht⟩) hS.2.2 dX5_told_37
    · have hf := ifn hf c15
      refine lv_iload_n hx hb dX5_told_18 rfl (lv_at hl 2 rfl) ?_
      refine lv_iconst (v := (5 : Int32)) hx hb dX5_told_19 (by decide) ?_
      refine lv_icmp_ge (tgt := 35) hx hb dX5_told_20 (by decide) (fun c20 => ?_) (fun c20 => ?_)
      · have hf := ifp hf c20
        refine lv_bipush (v := (-102 : Int32)) hx hb dX5_told_35 (by decide) ?_
        rw [hQQ]
        exact W.iret (v := (-102 : Int32)) hx hb hr (fun t ht hW => ⟨⟨(-102 : Int32), (), rfl, Option.some.inj hf, ht⟩, rF ht⟩) hS.2.2 dX5_told_37
      · have hf := ifn hf c20
        refine lv_aload_n hx hb dX5_told_23 rfl (lv_at hl 0 rfl) ?_
        refine va_get (D := D) (ci := 5) (v := .ref aL) (C := RX5) (T := TX5) (N := 10) hx hb hts iX5 hown hK.1 hP 0 rfl rfl 0 (by decide) k10 (fun _ h9 => h9) rfl dX5_told_24 ?_
        refine lv_iload_n hx hb dX5_told_27 rfl (lv_at hl 1 rfl) ?_
        refine lv_iload_n hx hb dX5_told_28 rfl (lv_at hl 2 rfl) ?_
        refine bnd hf (fun o29 e29 hf => ?_)
        refine rdVi (As := [.int y1, .int y2]) (rest := []) ⟨hx, hb, hml, hown, hts⟩ (tX1_tell l D cI cJ cG aL aL_kinds aL_vs aL_ws aL_roles aL_mates s.heap y1 y2 L_many L_kinds L_vs L_ws L_roles L_mates o29 e29) (cwV 2 hts gX5_told_X1_tell rfl rfl rfl (by decide +kernel) ⟨Nat.le_of_ble_eq_true rfl, Nat.le_of_ble_eq_true rfl⟩) (va_recv (ci := 1) (q0 := 1) hK.1 hP rfl rfl) hK (hP.sub (ws' := [(aL, .inr (1, [.ref aL_kinds, .ref aL_vs, .ref aL_ws, .ref aL_roles, .ref aL_mates, .int L_many])), (aL_kinds, eI cI 16 L_kinds), (aL_vs, eI cI 16 L_vs), (aL_ws, eI cI 16 L_ws), (aL_roles, eI cI 16 L_roles), (aL_mates, eI cI 16 L_mates)]) [1, 2, 3, 4, 5, 6] rfl) rfl hl.1 rfl (lv_room (Nat.le_of_ble_eq_true rfl)) dX5_told_29 ⟨Nat.le_of_ble_eq_true rfl, Nat.le_of_ble_eq_true rfl⟩ hS (fun locs hS => ?_)
        refine lv_goto (tgt := 37) hx hb dX5_told_32 (by decide) ?_
        rw [hQQ]
        exact W.iret (v := o29) hx hb hr (fun t ht hW => ⟨⟨o29, (), rfl, Option.some.inj hf, ht⟩, rF ht⟩) hS.2.2 dX5_told_37
  · have hf := ifp hf c8
    refine lv_bipush (v := (-101 : Int32)) hx hb dX5_told_11 (by decide) ?_
    rw [hQQ]
    exact W.iret (v := (-101 : Int32)) hx hb hr (fun t ht hW => ⟨⟨(-101 : Int32), (), rfl, Option.some.inj hf, ht⟩, rF ht⟩) hS.2.2 dX5_told_13

set_option maxHeartbeats 4000000 in
set_option maxRecDepth 100000 in
theorem tX5_needs (l : Launch) (D : va_G) (cI cJ cG : ClassId) (aB aL aM aA aK aB_inputs aC1 aC2 aC3 aL_kinds aL_vs aL_ws aL_roles aL_mates aM_numbers aM_ranks aM_ahead aM_ways : Nat) (Hs : Heap) (y1 : Int32) (y2 : Int32) (B_manyInputs : Int32) (B_hintsDone : Int32) (L_many : Int32) (M_length : Int32) (M_waysCounted : Int32) (M_ranks : (Nat → Int32)) (M_ahead : (Nat → Int32)) (out : Int32) (hf : fX5_needs y1 y2 L_many M_length M_ranks M_ahead = some out) : Met l yX5_needs wsX5_needs ({ frames := 1, cells := 0, slots := 0, locals := 22 }) (va_Pc [.ref aB, .int y1, .int y2] (rP D (tyL cI cJ cG) [(aB, .inr (5, [.ref aL, .ref aM, .ref aA, .ref aK, .ref aB_inputs, .int B_manyInputs, .int B_hintsDone, .ref aC1, .ref aC2, .ref aC3])), (aL, .inr (1, [.ref aL_kinds, .ref aL_vs, .ref aL_ws, .ref aL_roles, .ref aL_mates, .int L_many])), (aM, .inr (4, [.ref aM_numbers, .ref aM_ranks, .ref aM_ahead, .int M_length, .ref aM_ways, .int M_waysCounted])), (aM_ranks, eI cI 16 M_ranks), (aM_ahead, eI cI 12 M_ahead)] Hs)) (rQi out Hs) 0 0 (fun _ => False) := by
  refine Met.ofW (cc := cX5_needs) (maxL := 3) (ret := (some .int)) (by decide) rfl ?_
  intro p e s m args below meth c s₁ B hml hv
  obtain ⟨rfl, rfl, hP, hK⟩ := hv
  have hx := B.exec
  have hb := B.bytes
  have hr := B.returns
  have hts := atoms_spec (ws := wsX5_needs) B.pre
  have hown : s.vm.findClass RX5 = some m.cls := findClass_of_methodNamed B.named
  have hlocks := B.notSynchronized
  have iX5 : ∀ w ∈ wsX50, w ∈ wsX5_needs := by decide +kernel
  have k10 := hts (.fieldLink RX5 10 "BlockMarker" "lines" "LBlockMarker$Lines;") (by decide +kernel)
  have k19 := hts (.fieldLink RX5 19 "BlockMarker" "model" "LBlockMarker$Model;") (by decide +kernel)
  have hS : va_S (fun _ => False) s.heap s.heap [] := va_S.rf
  have hl := lv_entry ([.ref aB, .int y1, .int y2]) (n := 3) (Nat.le_of_ble_eq_true rfl)
  rw [lg_entry_eq]
  generalize (lg_sl ([.ref aB, .int y1, .int y2]) ++ List.replicate (3 - (lg_sl ([.ref aB, .int y1, .int y2])).length) Slot.unset).toArray = ls at hl ⊢
  have hl : lv_has ls 3 [(0, .ref aB), (1, .int y1), (2, .int y2)] := hl
  generalize hQQ : MQ below _ _ s 0 0 _ = QQ
  replace hQQ := hQQ.symm
  unfold fX5_needs at hf
  refine lv_aload_n hx hb dX5_needs_0 rfl (lv_at hl 0 rfl) ?_
  refine va_get (D := D) (ci := 5) (v := .ref aL) (C := RX5) (T := TX5) (N := 10) hx hb hts iX5 hown hK.1 hP 0 rfl rfl 0 (by decide) k10 (fun _ h9 => h9) rfl dX5_needs_1 ?_
  refine lv_iload_n hx hb dX5_needs_4 rfl (lv_at hl 1 rfl) ?_
  refine bnd hf (fun o5 e5 hf => ?_)
  refine rdVi (As := [.int y1]) (rest := []) ⟨hx, hb, hml, hown, hts⟩ (tX1_has l D cI cJ cG aL aL_kinds aL_vs aL_ws aL_roles aL_mates s.heap y1 L_many o5 e5) (cwV 1 hts gX5_needs_X1_has rfl rfl rfl (by decide +kernel) ⟨Nat.le_of_ble_eq_true rfl, Nat.le_of_ble_eq_true rfl⟩) (va_recv (ci := 1) (q0 := 1) hK.1 hP rfl rfl) hK (hP.sub (ws' := [(aL, .inr (1, [.ref aL_kinds, .ref aL_vs, .ref aL_ws, .ref aL_roles, .ref aL_mates, .int L_many]))]) [1] rfl) rfl hl.1 rfl (lv_room (Nat.le_of_ble_eq_true rfl)) dX5_needs_5 ⟨Nat.le_of_ble_eq_true rfl, Nat.le_of_ble_eq_true rfl⟩ hS (fun locs hS => ?_)
  refine lv_if_eq (tgt := 22) hx hb dX5_needs_8 (by decide) (fun c8 => ?_) (fun c8 => ?_)
  · have hf := ifp hf c8
    refine lv_bipush (v := (-101 : Int32)) hx hb dX5_needs_22 (by decide) ?_
    rw [hQQ]
    exact W.iret (v := (-101 : Int32)) hx hb hr (fun t ht hW => ⟨⟨(-101 : Int32), (), rfl, Option.some.inj hf, ht⟩, rF ht⟩) hS.2.2 dX5_needs_24
  · have hf := ifn hf c8
    refine lv_aload_n hx hb dX5_needs_11 rfl (lv_at hl 0 rfl) ?_
    refine va_get (D := D) (ci := 5) (v := .ref aL) (C := RX5) (T := TX5) (N := 10) hx hb hts iX5 hown hK.1 hP 0 rfl rfl 0 (by decide) k10 (fun _ h9 => h9) rfl dX5_needs_12 ?_
    refine lv_iload_n hx hb dX5_needs_15 rfl (lv_at hl 2 rfl) ?_
    refine bnd hf (fun o16 e16 hf => ?_)
    refine rdVi (As := [.int y2]) (rest := []) ⟨hx, hb, hml, hown, hts⟩ (tX1_has l D cI cJ cG aL aL_kinds aL_vs aL_ws aL_roles aL_mates s.heap y2 L_many o16 e16) (cwV 1 hts gX5_needs_X1_has rfl rfl rfl (by decide +kernel) ⟨Nat.le_of_ble_eq_true rfl, Nat.le_of_ble_eq_true rfl⟩) (va_recv (ci := 1) (q0 := 1) hK.1 hP rfl rfl) hK (hP.sub (ws' := [(aL, .inr (1, [.ref aL_kinds, .ref aL_vs, .ref aL_ws, .ref aL_roles, .ref aL_mates, .int L_many]))]) [1] rfl) rfl hl.1 rfl (lv_room (Nat.le_of_ble_eq_true rfl)) dX5_needs_16 ⟨Nat.le_of_ble_eq_true rfl, Nat.le_of_ble_eq_true rfl⟩ hS (fun locs hS => ?_)
    refine lv_if_ne (tgt := 25) hx hb dX5_needs_19 (by decide) (fun c19 => ?_) (fun c19 => ?_)
    · have hf := ifn hf c19
      refine lv_aload_n hx hb dX5_needs_25 rfl (lv_at hl 0 rfl) ?_
      refine va_get (D := D) (ci := 5) (v := .ref aM) (C := RX5) (T := TX5) (N := 10) hx hb hts iX5 hown hK.1 hP 0 rfl rfl 1 (by decide) k19 (fun _ h9 => h9) rfl dX5_needs_26 ?_
      refine lv_aload_n hx hb dX5_needs_29 rfl (lv_at hl 0 rfl) ?_
      refine va_get (D := D) (ci := 5) (v := .ref aM) (C := RX5) (T := TX5) (N := 10) hx hb hts iX5 hown hK.1 hP 0 rfl rfl 1 (by decide) k19 (fun _ h9 => h9) rfl dX5_needs_30 ?_
      refine lv_iload_n hx hb dX5_needs_33 rfl (lv_at hl 1 rfl) ?_
      refine bnd hf (fun o34 e34 hf => ?_)
      refine rdVi (As := [.int y1]) (rest := [.ref aM]) ⟨hx, hb, hml, hown, hts⟩ (tX4_rankOf l D cI cJ cG aM aM_numbers aM_ranks aM_ahead aM_ways s.heap y1 M_length M_waysCounted M_ranks o34 e34) (cwV 1 hts gX5_needs_X4_rankOf rfl rfl rfl (by decide +kernel) ⟨Nat.le_of_ble_eq_true rfl, Nat.le_of_ble_eq_true rfl⟩) (va_recv (ci := 4) (q0 := 2) hK.1 hP rfl rfl) hK (hP.sub (ws' := [(aM, .inr (4, [.ref aM_numbers, .ref aM_ranks, .ref aM_ahead, .int M_length, .ref aM_ways, .int M_waysCounted])), (aM_ranks, eI cI 16 M_ranks)]) [2, 3] rfl) rfl hl.1 rfl (lv_room (Nat.le_of_ble_eq_true rfl)) dX5_needs_34 ⟨Nat.le_of_ble_eq_true rfl, Nat.le_of_ble_eq_true rfl⟩ hS (fun locs hS => ?_)
      refine lv_aload_n hx hb dX5_needs_37 rfl (lv_at hl 0 rfl) ?_
      refine va_get (D := D) (ci := 5) (v := .ref aM) (C := RX5) (T := TX5) (N := 10) hx hb hts iX5 hown hK.1 hP 0 rfl rfl 1 (by decide) k19 (fun _ h9 => h9) rfl dX5_needs_38 ?_
      refine lv_iload_n hx hb dX5_needs_41 rfl (lv_at hl 2 rfl) ?_
      refine bnd hf (fun o42 e42 hf => ?_)
      refine rdVi (As := [.int y2]) (rest := [.int o34, .ref aM]) ⟨hx, hb, hml, hown, hts⟩ (tX4_rankOf l D cI cJ cG aM aM_numbers aM_ranks aM_ahead aM_ways s.heap y2 M_length M_waysCounted M_ranks o42 e42) (cwV 1 hts gX5_needs_X4_rankOf rfl rfl rfl (by decide +kernel) ⟨Nat.le_of_ble_eq_true rfl, Nat.le_of_ble_eq_true rfl⟩) (va_recv (ci := 4) (q0 := 2) hK.1 hP rfl rfl) hK (hP.sub (ws' := [(aM, .inr (4, [.ref aM_numbers, .ref aM_ranks, .ref aM_ahead, .int M_length, .ref aM_ways, .int M_waysCounted])), (aM_ranks, eI cI 16 M_ranks)]) [2, 3] rfl) rfl hl.1 rfl (lv_room (Nat.le_of_ble_eq_true rfl)) dX5_needs_42 ⟨Nat.le_of_ble_eq_true rfl, Nat.le_of_ble_eq_true rfl⟩ hS (fun locs hS => ?_)
      refine bnd hf (fun o45 e45 hf => ?_)
      refine rdVi (As := [.int o34, .int o42]) (rest := []) ⟨hx, hb, hml, hown, hts⟩ (tX4_isAhead l D cI cJ cG aM aM_numbers aM_ranks aM_ahead aM_ways s.heap o34 o42 M_length M_waysCounted M_ahead o45 e45) (cwV 2 hts gX5_needs_X4_isAhead rfl rfl rfl (by decide +kernel) ⟨Nat.le_of_ble_eq_true rfl, Nat.le_of_ble_eq_true rfl⟩) (va_recv (ci := 4) (q0 := 2) hK.1 hP rfl rfl) hK (hP.sub (ws' := [(aM, .inr (4, [.ref aM_numbers, .ref aM_ranks, .ref aM_ahead, .int M_length, .ref aM_ways, .int M_waysCounted])), (aM_ahead, eI cI 12 M_ahead)]) [2, 4] rfl) rfl hl.1 rfl (lv_room (Nat.le_of_ble_eq_true rfl)) dX5_needs_45 ⟨Nat.le_of_ble_eq_true rfl, Nat.le_of_ble_eq_true rfl⟩ hS (fun locs hS => ?_)
      refine lv_if_eq (tgt := 55) hx hb dX5_needs_48 (by decide) (fun c48 => ?_) (fun c48 => ?_)
      · have hf := ifp hf c48
        refine lv_iconst (v := (0 : Int32)) hx hb dX5_needs_55 (by decide) ?_
        rw [hQQ]
        exact W.iret (v := (0 : Int32)) hx hb hr (fun t ht hW => ⟨⟨(0 : Int32), (), rfl, Option.some.inj hf, ht⟩, rF ht⟩) hS.2.2 dX5_needs_56
      · have hf := ifn hf c48
        refine lv_iconst (v := (1 : Int32)) hx hb dX5_needs_51 (by decide) ?_
        refine lv_goto (tgt := 56) hx hb dX5_needs_52 (by decide) ?_
        rw [hQQ]
        exact W.iret (v := (1 : Int32)) hx hb hr (fun t ht hW => ⟨⟨(1 : Int32), (), rfl, Option.some.inj hf, ht⟩, rF ht⟩) hS.2.2 dX5_needs_56
    · have hf := ifp hf c19
      refine lv_bipush (v := (-101 : Int32)) hx hb dX5_needs_22 (by decide) ?_
      rw [hQQ]
      exact W.iret (v := (-101 : Int32)) hx hb hr (fun t ht hW => ⟨⟨(-101 : Int32), (), rfl, Option.some.inj hf, ht⟩, rF ht⟩) hS.2.2 dX5_needs_24

set_option maxHeartbeats 4000000 in
set_option maxRecDepth 100000 in
theorem tX5_orders (l : Launch) (D : va_G) (cI cJ cG : ClassId) (aB aL aM aA aK aB_inputs aC1 aC2 aC3 aM_numbers aM_ranks aM_ahead aM_ways : Nat) (sz : Nat)  (B_manyInputs : Int32) (B_hintsDone : Int32) (M_length : Int32) (M_waysCounted : Int32) (M_ahead : (Nat → Int32)) (M_ways : (Nat → Int32)) (out : Int64 × Int32 × (Nat → Int32)) (hf : fX5_orders M_length M_waysCounted M_ahead M_ways = some out) : Met l yX5_orders wsX5_orders ({ frames := 4, cells := 0, slots := 0, locals := 88 }) (va_Pc [.ref aB] (wP D (tyL cI cJ cG) [(aB, .inr (5, [.ref aL, .ref aM, .ref aA, .ref aK, .ref aB_inputs, .int B_manyInputs, .int B_hintsDone, .ref aC1, .ref aC2, .ref aC3])), (aM, .inr (4, [.ref aM_numbers, .ref aM_ranks, .ref aM_ahead, .int M_length, .ref aM_ways, .int M_waysCounted])), (aM_ahead, eI cI 12 M_ahead), (aM_ways, eI cI 4096 M_ways)] sz)) (wQl D out.1 [(aB, .inr (5, [.ref aL, .ref aM, .ref aA, .ref aK, .ref aB_inputs, .int B_manyInputs, .int B_hintsDone, .ref aC1, .ref aC2, .ref aC3])), (aM, .inr (4, [.ref aM_numbers, .ref aM_ranks, .ref aM_ahead, .int M_length, .ref aM_ways, .int M_waysCounted])), (aM_ahead, eI cI 12 M_ahead), (aM_ways, eI cI 4096 M_ways)] [(aB, .inr (5, [.ref aL, .ref aM, .ref aA, .ref aK, .ref aB_inputs, .int B_manyInputs, .int B_hintsDone, .ref aC1, .ref aC2, .ref aC3])), (aM, .inr (4, [.ref aM_numbers, .ref aM_ranks, .ref aM_ahead, .int M_length, .ref aM_ways, .int out.2.1])), (aM_ahead, eI cI 12 M_ahead), (aM_ways, eI cI 4096 out.2.2)] sz) 0 0 (va_A [(aB, .inr (5, [.ref aL, .ref aM, .ref aA, .ref aK, .ref aB_inputs, .int B_manyInputs, .int B_hintsDone, .ref aC1, .ref aC2, .ref aC3])), (aM, .inr (4, [.ref aM_numbers, .ref aM_ranks, .ref aM_ahead, .int M_length, .ref aM_ways, .int M_waysCounted])), (aM_ahead, eI cI 12 M_ahead), (aM_ways, eI cI 4096 M_ways)] sz) := by
  refine Met.ofW (cc := cX5_orders) (maxL := 1) (ret := (some .long)) (by decide) rfl ?_
  intro p e s m args below meth c s₁ B hml hv
  obtain ⟨rfl, hsz, hP, hK, hD0⟩ := hv
  have hx := B.exec
  have hb := B.bytes
  have hr := B.returns
  have hts := atoms_spec (ws := wsX5_orders) B.pre
  have hown : s.vm.findClass RX5 = some m.cls := findClass_of_methodNamed B.named
  have hlocks := B.notSynchronized
  have iX5 : ∀ w ∈ wsX50, w ∈ wsX5_orders := by decide +kernel
  have k19 := hts (.fieldLink RX5 19 "BlockMarker" "model" "LBlockMarker$Model;") (by decide +kernel)
  subst hsz
  have hD := hD0.self (sz := s.heap.size)
  generalize hAe : va_A [(aB, .inr (5, [.ref aL, .ref aM, .ref aA, .ref aK, .ref aB_inputs, .int B_manyInputs, .int B_hintsDone, .ref aC1, .ref aC2, .ref aC3])), (aM, .inr (4, [.ref aM_numbers, .ref aM_ranks, .ref aM_ahead, .int M_length, .ref aM_ways, .int M_waysCounted])), (aM_ahead, eI cI 12 M_ahead), (aM_ways, eI cI 4096 M_ways)] s.heap.size = A at hD ⊢
  have hA : ∀ q : Nat, s.heap.size ≤ q → A q := fun q h => by rw [← hAe]; exact Or.inr h
  have hS : va_S A s.heap s.heap [] := va_S.rf
  have hl := lv_entry ([.ref aB]) (n := 1) (Nat.le_of_ble_eq_true rfl)
  rw [lg_entry_eq]
  generalize (lg_sl ([.ref aB]) ++ List.replicate (1 - (lg_sl ([.ref aB])).length) Slot.unset).toArray = ls at hl ⊢
  have hl : lv_has ls 1 [(0, .ref aB)] := hl
  generalize hQQ : MQ below _ _ s 0 0 _ = QQ
  replace hQQ := hQQ.symm
  generalize hHH : s.heap = H at hP ⊢
  have hS : va_S A s.heap H [] := by rw [← hHH]; exact va_S.rf
  generalize ([] : List Loc) = locs at hS ⊢
  unfold fX5_orders at hf
  refine lv_aload_n hx hb dX5_orders_0 rfl (lv_at hl 0 rfl) ?_
  refine va_get (D := D) (ci := 5) (v := .ref aM) (C := RX5) (T := TX5) (N := 10) hx hb hts iX5 hown hK.1 hP 0 rfl rfl 1 (by decide) k19 (fun _ h9 => h9) rfl dX5_orders_1 ?_
  refine bnd hf (fun o4 e4 hf => ?_)
  refine wrVl (As := []) (rest := []) (cw := [(aM, .inr (4, [.ref aM_numbers, .ref aM_ranks, .ref aM_ahead, .int M_length, .ref aM_ways, .int M_waysCounted])), (aM_ahead, eI cI 12 M_ahead), (aM_ways, eI cI 4096 M_ways)]) (cw' := [(aM, .inr (4, [.ref aM_numbers, .ref aM_ranks, .ref aM_ahead, .int M_length, .ref aM_ways, .int o4.2.1])), (aM_ahead, eI cI 12 M_ahead), (aM_ways, eI cI 4096 o4.2.2)]) (wr := [(aB, .inr (5, [.ref aL, .ref aM, .ref aA, .ref aK, .ref aB_inputs, .int B_manyInputs, .int B_hintsDone, .ref aC1, .ref aC2, .ref aC3]))]) (ws2 := [(aB, .inr (5, [.ref aL, .ref aM, .ref aA, .ref aK, .ref aB_inputs, .int B_manyInputs, .int B_hintsDone, .ref aC1, .ref aC2, .ref aC3])), (aM, .inr (4, [.ref aM_numbers, .ref aM_ranks, .ref aM_ahead, .int M_length, .ref aM_ways, .int o4.2.1])), (aM_ahead, eI cI 12 M_ahead), (aM_ways, eI cI 4096 o4.2.2)]) ⟨hx, hb, hml, hown, hts⟩ (tX4_manyOrders l D cI cJ cG aM aM_numbers aM_ranks aM_ahead aM_ways H.size  M_length M_waysCounted M_ahead M_ways o4 e4) (cwV 0 hts gX5_orders_X4_manyOrders rfl rfl rfl (by decide +kernel) ⟨Nat.le_of_ble_eq_true rfl, Nat.le_of_ble_eq_true rfl⟩) (va_recv (ci := 4) (q0 := 1) hK.1 hP rfl rfl) hK hP hD hS hA [1, 2, 3] [0] [0, 1, 2, 3] rfl rfl rfl (by decide) (by decide) (by decide) (by decide) rfl hl.1 rfl (lv_room (Nat.le_of_ble_eq_true rfl)) dX5_orders_4 ⟨Nat.le_of_ble_eq_true rfl, Nat.le_of_ble_eq_true rfl⟩ (fun H locs hP hD hS => ?_)
  rw [hQQ]
  exact W.lret (v := o4.1) hx hb hr (fun t ht hW => by rw [← Option.some.inj hf]; rw [← hAe] at hD hS; exact ⟨⟨o4.1, (), rfl, rfl, by rw [ht]; exact hP, hD⟩, hS.F ht⟩) hS.2.2 dX5_orders_7

set_option maxHeartbeats 4000000 in
set_option maxRecDepth 100000 in
theorem tX5_right (l : Launch) (D : va_G) (cI cJ cG : ClassId) (aB aL aM aA aK aB_inputs aC1 aC2 aC3 aM_numbers aM_ranks aM_ahead aM_ways : Nat) (sz : Nat) (y1 : Int64) (y3 : Int32) (B_manyInputs : Int32) (B_hintsDone : Int32) (M_length : Int32) (M_waysCounted : Int32) (M_numbers : (Nat → Int32)) (M_ahead : (Nat → Int32)) (M_ways : (Nat → Int32)) (out : Int32 × Int32 × (Nat → Int32)) (hf : fX5_right y1 y3 M_length M_waysCounted M_numbers M_ahead M_ways = some out) : Met l yX5_right wsX5_right ({ frames := 5, cells := 0, slots := 0, locals := 116 }) (va_Pc [.ref aB, .long y1, .int y3] (wP D (tyL cI cJ cG) [(aB, .inr (5, [.ref aL, .ref aM, .ref aA, .ref aK, .ref aB_inputs, .int B_manyInputs, .int B_hintsDone, .ref aC1, .ref aC2, .ref aC3])), (aM, .inr (4, [.ref aM_numbers, .ref aM_ranks, .ref aM_ahead, .int M_length, .ref aM_ways, .int M_waysCounted])), (aM_numbers, eI cI 12 M_numbers), (aM_ahead, eI cI 12 M_ahead), (aM_ways, eI cI 4096 M_ways)] sz)) (wQi D out.1 [(aB, .inr (5, [.ref aL, .ref aM, .ref aA, .ref aK, .ref aB_inputs, .int B_manyInputs, .int B_hintsDone, .ref aC1, .ref aC2, .ref aC3])), (aM, .inr (4, [.ref aM_numbers, .ref aM_ranks, .ref aM_ahead, .int M_length, .ref aM_ways, .int M_waysCounted])), (aM_numbers, eI cI 12 M_numbers), (aM_ahead, eI cI 12 M_ahead), (aM_ways, eI cI 4096 M_ways)] [(aB, .inr (5, [.ref aL, .ref aM, .ref aA, .ref aK, .ref aB_inputs, .int B_manyInputs, .int B_hintsDone, .ref aC1, .ref aC2, .ref aC3])), (aM, .inr (4, [.ref aM_numbers, .ref aM_ranks, .ref aM_ahead, .int M_length, .ref aM_ways, .int out.2.1])), (aM_numbers, eI cI 12 M_numbers), (aM_ahead, eI cI 12 M_ahead), (aM_ways, eI cI 4096 out.2.2)] sz) 0 0 (va_A [(aB, .inr (5, [.ref aL, .ref aM, .ref aA, .ref aK, .ref aB_inputs, .int B_manyInputs, .int B_hintsDone, .ref aC1, .ref aC2, .ref aC3])), (aM, .inr (4, [.ref aM_numbers, .ref aM_ranks, .ref aM_ahead, .int M_length, .ref aM_ways, .int M_waysCounted])), (aM_numbers, eI cI 12 M_numbers), (aM_ahead, eI cI 12 M_ahead), (aM_ways, eI cI 4096 M_ways)] sz) := by
  refine Met.ofW (cc := cX5_right) (maxL := 4) (ret := (some .int)) (by decide) rfl ?_
  intro p e s m args below meth c s₁ B hml hv
  obtain ⟨rfl, hsz, hP, hK, hD0⟩ := hv
  have hx := B.exec
  have hb := B.bytes
  have hr := B.returns
  have hts := atoms_spec (ws := wsX5_right) B.pre
  have hown : s.vm.findClass RX5 = some m.cls := findClass_of_methodNamed B.named
  have hlocks := B.notSynchronized
  have iX5 : ∀ w ∈ wsX50, w ∈ wsX5_right := by decide +kernel
  have k19 := hts (.fieldLink RX5 19 "BlockMarker" "model" "LBlockMarker$Model;") (by decide +kernel)
  subst hsz
  have hD := hD0.self (sz := s.heap.size)
  generalize hAe : va_A [(aB, .inr (5, [.ref aL, .ref aM, .ref aA, .ref aK, .ref aB_inputs, .int B_manyInputs, .int B_hintsDone, .ref aC1, .ref aC2, .ref aC3])), (aM, .inr (4, [.ref aM_numbers, .ref aM_ranks, .ref aM_ahead, .int M_length, .ref aM_ways, .int M_waysCounted])), (aM_numbers, eI cI 12 M_numbers), (aM_ahead, eI cI 12 M_ahead), (aM_ways, eI cI 4096 M_ways)] s.heap.size = A at hD ⊢
  have hA : ∀ q : Nat, s.heap.size ≤ q → A q := fun q h => by rw [← hAe]; exact Or.inr h
  have hS : va_S A s.heap s.heap [] := va_S.rf
  have hl := lv_entry ([.ref aB, .long y1, .int y3]) (n := 4) (Nat.le_of_ble_eq_true rfl)
  rw [lg_entry_eq]
  generalize (lg_sl ([.ref aB, .long y1, .int y3]) ++ List.replicate (4 - (lg_sl ([.ref aB, .long y1, .int y3])).length) Slot.unset).toArray = ls at hl ⊢
  have hl : lv_has ls 4 [(0, .ref aB), (1, .long y1), (3, .int y3)] := hl
  generalize hQQ : MQ below _ _ s 0 0 _ = QQ
  replace hQQ := hQQ.symm
  generalize hHH : s.heap = H at hP ⊢
  have hS : va_S A s.heap H [] := by rw [← hHH]; exact va_S.rf
  generalize ([] : List Loc) = locs at hS ⊢
  unfold fX5_right at hf
  refine lv_aload_n hx hb dX5_right_0 rfl (lv_at hl 0 rfl) ?_
  refine va_get (D := D) (ci := 5) (v := .ref aM) (C := RX5) (T := TX5) (N := 10) hx hb hts iX5 hown hK.1 hP 0 rfl rfl 1 (by decide) k19 (fun _ h9 => h9) rfl dX5_right_1 ?_
  refine lv_lload_n hx hb dX5_right_4 rfl (lv_at hl 1 rfl) ?_
  refine lv_iload_n hx hb dX5_right_5 rfl (lv_at hl 2 rfl) ?_
  refine bnd hf (fun o6 e6 hf => ?_)
  refine wrVi (As := [.long y1, .int y3]) (rest := []) (cw := [(aM, .inr (4, [.ref aM_numbers, .ref aM_ranks, .ref aM_ahead, .int M_length, .ref aM_ways, .int M_waysCounted])), (aM_numbers, eI cI 12 M_numbers), (aM_ahead, eI cI 12 M_ahead), (aM_ways, eI cI 4096 M_ways)]) (cw' := [(aM, .inr (4, [.ref aM_numbers, .ref aM_ranks, .ref aM_ahead, .int M_length, .ref aM_ways, .int o6.2.1])), (aM_numbers, eI cI 12 M_numbers), (aM_ahead, eI cI 12 M_ahead), (aM_ways, eI cI 4096 o6.2.2)]) (wr := [(aB, .inr (5, [.ref aL, .ref aM, .ref aA, .ref aK, .ref aB_inputs, .int B_manyInputs, .int B_hintsDone, .ref aC1, .ref aC2, .ref aC3]))]) (ws2 := [(aB, .inr (5, [.ref aL, .ref aM, .ref aA, .ref aK, .ref aB_inputs, .int B_manyInputs, .int B_hintsDone, .ref aC1, .ref aC2, .ref aC3])), (aM, .inr (4, [.ref aM_numbers, .ref aM_ranks, .ref aM_ahead, .int M_length, .ref aM_ways, .int o6.2.1])), (aM_numbers, eI cI 12 M_numbers), (aM_ahead, eI cI 12 M_ahead), (aM_ways, eI cI 4096 o6.2.2)]) ⟨hx, hb, hml, hown, hts⟩ (tX4_lineOfOrder l D cI cJ cG aM aM_numbers aM_ranks aM_ahead aM_ways H.size y1 y3 M_length M_waysCounted M_numbers M_ahead M_ways o6 e6) (cwV 2 hts gX5_right_X4_lineOfOrder rfl rfl rfl (by decide +kernel) ⟨Nat.le_of_ble_eq_true rfl, Nat.le_of_ble_eq_true rfl⟩) (va_recv (ci := 4) (q0 := 1) hK.1 hP rfl rfl) hK hP hD hS hA [1, 2, 3, 4] [0] [0, 1, 2, 3, 4] rfl rfl rfl (by decide) (by decide) (by decide) (by decide) rfl hl.1 rfl (lv_room (Nat.le_of_ble_eq_true rfl)) dX5_right_6 ⟨Nat.le_of_ble_eq_true rfl, Nat.le_of_ble_eq_true rfl⟩ (fun H locs hP hD hS => ?_)
  rw [hQQ]
  exact W.iret (v := o6.1) hx hb hr (fun t ht hW => by rw [← Option.some.inj hf]; rw [← hAe] at hD hS; exact ⟨⟨o6.1, (), rfl, rfl, by rw [ht]; exact hP, hD⟩, hS.F ht⟩) hS.2.2 dX5_right_9

set_option maxHeartbeats 4000000 in
set_option maxRecDepth 100000 in
theorem tX5_which (l : Launch) (D : va_G) (cI cJ cG : ClassId) (aB aL aM aA aK aB_inputs aC1 aC2 aC3 aM_numbers aM_ranks aM_ahead aM_ways aA_row : Nat) (sz : Nat)  (B_manyInputs : Int32) (B_hintsDone : Int32) (M_length : Int32) (M_waysCounted : Int32) (M_ranks : (Nat → Int32)) (M_ahead : (Nat → Int32)) (M_ways : (Nat → Int32)) (A_length : Int32) (A_row : (Nat → Int32)) (out : Int64 × Int32 × (Nat → Int32)) (hf : fX5_which M_length M_waysCounted M_ranks M_ahead M_ways A_length A_row = some out) : Met l yX5_which wsX5_which ({ frames := 4, cells := 0, slots := 0, locals := 94 }) (va_Pc [.ref aB] (wP D (tyL cI cJ cG) [(aB, .inr (5, [.ref aL, .ref aM, .ref aA, .ref aK, .ref aB_inputs, .int B_manyInputs, .int B_hintsDone, .ref aC1, .ref aC2, .ref aC3])), (aM, .inr (4, [.ref aM_numbers, .ref aM_ranks, .ref aM_ahead, .int M_length, .ref aM_ways, .int M_waysCounted])), (aM_ranks, eI cI 16 M_ranks), (aM_ahead, eI cI 12 M_ahead), (aM_ways, eI cI 4096 M_ways), (aA, .inr (0, [.ref aA_row, .int A_length])), (aA_row, eI cI 16 A_row)] sz)) (wQl D out.1 [(aB, .inr (5, [.ref aL, .ref aM, .ref aA, .ref aK, .ref aB_inputs, .int B_manyInputs, .int B_hintsDone, .ref aC1, .ref aC2, .ref aC3])), (aM, .inr (4, [.ref aM_numbers, .ref aM_ranks, .ref aM_ahead, .int M_length, .ref aM_ways, .int M_waysCounted])), (aM_ranks, eI cI 16 M_ranks), (aM_ahead, eI cI 12 M_ahead), (aM_ways, eI cI 4096 M_ways), (aA, .inr (0, [.ref aA_row, .int A_length])), (aA_row, eI cI 16 A_row)] [(aB, .inr (5, [.ref aL, .ref aM, .ref aA, .ref aK, .ref aB_inputs, .int B_manyInputs, .int B_hintsDone, .ref aC1, .ref aC2, .ref aC3])), (aM, .inr (4, [.ref aM_numbers, .ref aM_ranks, .ref aM_ahead, .int M_length, .ref aM_ways, .int out.2.1])), (aM_ranks, eI cI 16 M_ranks), (aM_ahead, eI cI 12 M_ahead), (aM_ways, eI cI 4096 out.2.2), (aA, .inr (0, [.ref aA_row, .int A_length])), (aA_row, eI cI 16 A_row)] sz) 0 0 (va_A [(aB, .inr (5, [.ref aL, .ref aM, .ref aA, .ref aK, .ref aB_inputs, .int B_manyInputs, .int B_hintsDone, .ref aC1, .ref aC2, .ref aC3])), (aM, .inr (4, [.ref aM_numbers, .ref aM_ranks, .ref aM_ahead, .int M_length, .ref aM_ways, .int M_waysCounted])), (aM_ranks, eI cI 16 M_ranks), (aM_ahead, eI cI 12 M_ahead), (aM_ways, eI cI 4096 M_ways), (aA, .inr (0, [.ref aA_row, .int A_length])), (aA_row, eI cI 16 A_row)] sz) := by
  refine Met.ofW (cc := cX5_which) (maxL := 1) (ret := (some .long)) (by decide) rfl ?_
  intro p e s m args below meth c s₁ B hml hv
  obtain ⟨rfl, hsz, hP, hK, hD0⟩ := hv
  have hx := B.exec
  have hb := B.bytes
  have hr := B.returns
  have hts := atoms_spec (ws := wsX5_which) B.pre
  have hown : s.vm.findClass RX5 = some m.cls := findClass_of_methodNamed B.named
  have hlocks := B.notSynchronized
  have iX5 : ∀ w ∈ wsX50, w ∈ wsX5_which := by decide +kernel
  have k19 := hts (.fieldLink RX5 19 "BlockMarker" "model" "LBlockMarker$Model;") (by decide +kernel)
  have k26 := hts (.fieldLink RX5 26 "BlockMarker" "answer" "LBlockMarker$Answer;") (by decide +kernel)
  subst hsz
  have hD := hD0.self (sz := s.heap.size)
  generalize hAe : va_A [(aB, .inr (5, [.ref aL, .ref aM, .ref aA, .ref aK, .ref aB_inputs, .int B_manyInputs, .int B_hintsDone, .ref aC1, .ref aC2, .ref aC3])), (aM, .inr (4, [.ref aM_numbers, .ref aM_ranks, .ref aM_ahead, .int M_length, .ref aM_ways, .int M_waysCounted])), (aM_ranks, eI cI 16 M_ranks), (aM_ahead, eI cI 12 M_ahead), (aM_ways, eI cI 4096 M_ways), (aA, .inr (0, [.ref aA_row, .int A_length])), (aA_row, eI cI 16 A_row)] s.heap.size = A at hD ⊢
  have hA : ∀ q : Nat, s.heap.size ≤ q → A q := fun q h => by rw [← hAe]; exact Or.inr h
  have hS : va_S A s.heap s.heap [] := va_S.rf
  have hl := lv_entry ([.ref aB]) (n := 1) (Nat.le_of_ble_eq_true rfl)
  rw [lg_entry_eq]
  generalize (lg_sl ([.ref aB]) ++ List.replicate (1 - (lg_sl ([.ref aB])).length) Slot.unset).toArray = ls at hl ⊢
  have hl : lv_has ls 1 [(0, .ref aB)] := hl
  generalize hQQ : MQ below _ _ s 0 0 _ = QQ
  replace hQQ := hQQ.symm
  generalize hHH : s.heap = H at hP ⊢
  have hS : va_S A s.heap H [] := by rw [← hHH]; exact va_S.rf
  generalize ([] : List Loc) = locs at hS ⊢
  unfold fX5_which at hf
  refine lv_aload_n hx hb dX5_which_0 rfl (lv_at hl 0 rfl) ?_
  refine va_get (D := D) (ci := 5) (v := .ref aM) (C := RX5) (T := TX5) (N := 10) hx hb hts iX5 hown hK.1 hP 0 rfl rfl 1 (by decide) k19 (fun _ h9 => h9) rfl dX5_which_1 ?_
  refine lv_aload_n hx hb dX5_which_4 rfl (lv_at hl 0 rfl) ?_
  refine va_get (D := D) (ci := 5) (v := .ref aA) (C := RX5) (T := TX5) (N := 10) hx hb hts iX5 hown hK.1 hP 0 rfl rfl 2 (by decide) k26 (fun _ h9 => h9) rfl dX5_which_5 ?_
  refine bnd hf (fun o8 e8 hf => ?_)
  refine wrVl (As := [.ref aA]) (rest := []) (cw := [(aM, .inr (4, [.ref aM_numbers, .ref aM_ranks, .ref aM_ahead, .int M_length, .ref aM_ways, .int M_waysCounted])), (aM_ranks, eI cI 16 M_ranks), (aM_ahead, eI cI 12 M_ahead), (aM_ways, eI cI 4096 M_ways), (aA, .inr (0, [.ref aA_row, .int A_length])), (aA_row, eI cI 16 A_row)]) (cw' := [(aM, .inr (4, [.ref aM_numbers, .ref aM_ranks, .ref aM_ahead, .int M_length, .ref aM_ways, .int o8.2.1])), (aM_ranks, eI cI 16 M_ranks), (aM_ahead, eI cI 12 M_ahead), (aM_ways, eI cI 4096 o8.2.2), (aA, .inr (0, [.ref aA_row, .int A_length])), (aA_row, eI cI 16 A_row)]) (wr := [(aB, .inr (5, [.ref aL, .ref aM, .ref aA, .ref aK, .ref aB_inputs, .int B_manyInputs, .int B_hintsDone, .ref aC1, .ref aC2, .ref aC3]))]) (ws2 := [(aB, .inr (5, [.ref aL, .ref aM, .ref aA, .ref aK, .ref aB_inputs, .int B_manyInputs, .int B_hintsDone, .ref aC1, .ref aC2, .ref aC3])), (aM, .inr (4, [.ref aM_numbers, .ref aM_ranks, .ref aM_ahead, .int M_length, .ref aM_ways, .int o8.2.1])), (aM_ranks, eI cI 16 M_ranks), (aM_ahead, eI cI 12 M_ahead), (aM_ways, eI cI 4096 o8.2.2), (aA, .inr (0, [.ref aA_row, .int A_length])), (aA_row, eI cI 16 A_row)]) ⟨hx, hb, hml, hown, hts⟩ (tX4_orderOf l D cI cJ cG aM aM_numbers aM_ranks aM_ahead aM_ways aA aA_row H.size  M_length M_waysCounted M_ranks M_ahead M_ways A_length A_row o8 e8) (cwV 1 hts gX5_which_X4_orderOf rfl rfl rfl (by decide +kernel) ⟨Nat.le_of_ble_eq_true rfl, Nat.le_of_ble_eq_true rfl⟩) (va_recv (ci := 4) (q0 := 1) hK.1 hP rfl rfl) hK hP hD hS hA [1, 2, 3, 4, 5, 6] [0] [0, 1, 2, 3, 4, 5, 6] rfl rfl rfl (by decide) (by decide) (by decide) (by decide) rfl hl.1 rfl (lv_room (Nat.le_of_ble_eq_true rfl)) dX5_which_8 ⟨Nat.le_of_ble_eq_true rfl, Nat.le_of_ble_eq_true rfl⟩ (fun H locs hP hD hS => ?_)
  rw [hQQ]
  exact W.lret (v := o8.1) hx hb hr (fun t ht hW => by rw [← Option.some.inj hf]; rw [← hAe] at hD hS; exact ⟨⟨o8.1, (), rfl, rfl, by rw [ht]; exact hP, hD⟩, hS.F ht⟩) hS.2.2 dX5_which_11

set_option maxHeartbeats 4000000 in
set_option maxRecDepth 100000 in
theorem tX5_lay (l : Launch) (D : va_G) (cI cJ cG : ClassId) (aB aL aM aA aK aB_inputs aC1 aC2 aC3 aL_kinds aL_vs aL_ws aL_roles aL_mates aA_row : Nat) (sz : Nat) (y1 : Int32) (y2 : Int32) (B_manyInputs : Int32) (B_hintsDone : Int32) (L_many : Int32) (A_length : Int32) (A_row : (Nat → Int32)) (out : Int32 × Int32 × (Nat → Int32)) (hf : fX5_lay y1 y2 L_many A_length A_row = some out) : Met l yX5_lay wsX5_lay ({ frames := 2, cells := 0, slots := 0, locals := 43 }) (va_Pc [.ref aB, .int y1, .int y2] (wP D (tyL cI cJ cG) [(aB, .inr (5, [.ref aL, .ref aM, .ref aA, .ref aK, .ref aB_inputs, .int B_manyInputs, .int B_hintsDone, .ref aC1, .ref aC2, .ref aC3])), (aL, .inr (1, [.ref aL_kinds, .ref aL_vs, .ref aL_ws, .ref aL_roles, .ref aL_mates, .int L_many])), (aA, .inr (0, [.ref aA_row, .int A_length])), (aA_row, eI cI 16 A_row)] sz)) (wQi D out.1 [(aB, .inr (5, [.ref aL, .ref aM, .ref aA, .ref aK, .ref aB_inputs, .int B_manyInputs, .int B_hintsDone, .ref aC1, .ref aC2, .ref aC3])), (aL, .inr (1, [.ref aL_kinds, .ref aL_vs, .ref aL_ws, .ref aL_roles, .ref aL_mates, .int L_many])), (aA, .inr (0, [.ref aA_row, .int A_length])), (aA_row, eI cI 16 A_row)] [(aB, .inr (5, [.ref aL, .ref aM, .ref aA, .ref aK, .ref aB_inputs, .int B_manyInputs, .int B_hintsDone, .ref aC1, .ref aC2, .ref aC3])), (aL, .inr (1, [.ref aL_kinds, .ref aL_vs, .ref aL_ws, .ref aL_roles, .ref aL_mates, .int L_many])), (aA, .inr (0, [.ref aA_row, .int out.2.1])), (aA_row, eI cI 16 out.2.2)] sz) 0 0 (va_A [(aB, .inr (5, [.ref aL, .ref aM, .ref aA, .ref aK, .ref aB_inputs, .int B_manyInputs, .int B_hintsDone, .ref aC1, .ref aC2, .ref aC3])), (aL, .inr (1, [.ref aL_kinds, .ref aL_vs, .ref aL_ws, .ref aL_roles, .ref aL_mates, .int L_many])), (aA, .inr (0, [.ref aA_row, .int A_length])), (aA_row, eI cI 16 A_row)] sz) := by
  refine Met.ofW (cc := cX5_lay) (maxL := 3) (ret := (some .int)) (by decide) rfl ?_
  intro p e s m args below meth c s₁ B hml hv
  obtain ⟨rfl, hsz, hP, hK, hD0⟩ := hv
  have hx := B.exec
  have hb := B.bytes
  have hr := B.returns
  have hts := atoms_spec (ws := wsX5_lay) B.pre
  have hown : s.vm.findClass RX5 = some m.cls := findClass_of_methodNamed B.named
  have hlocks := B.notSynchronized
  have iX0 : ∀ w ∈ wsX00, w ∈ wsX5_lay := by decide +kernel
  have iX5 : ∀ w ∈ wsX50, w ∈ wsX5_lay := by decide +kernel
  have k10 := hts (.fieldLink RX5 10 "BlockMarker" "lines" "LBlockMarker$Lines;") (by decide +kernel)
  have k26 := hts (.fieldLink RX5 26 "BlockMarker" "answer" "LBlockMarker$Answer;") (by decide +kernel)
  have n87 := va_Nw.use (A := ([.ref aB, .int y1, .int y2] : List Value).toArray) rfl (hK.2 (.fieldLinkNest "BlockMarker" 87 "BlockMarker$Answer" "length" "I" "BlockMarker") (by decide +kernel))
  subst hsz
  have hD := hD0.self (sz := s.heap.size)
  generalize hAe : va_A [(aB, .inr (5, [.ref aL, .ref aM, .ref aA, .ref aK, .ref aB_inputs, .int B_manyInputs, .int B_hintsDone, .ref aC1, .ref aC2, .ref aC3])), (aL, .inr (1, [.ref aL_kinds, .ref aL_vs, .ref aL_ws, .ref aL_roles, .ref aL_mates, .int L_many])), (aA, .inr (0, [.ref aA_row, .int A_length])), (aA_row, eI cI 16 A_row)] s.heap.size = A at hD ⊢
  have hA : ∀ q : Nat, s.heap.size ≤ q → A q := fun q h => by rw [← hAe]; exact Or.inr h
  have hS : va_S A s.heap s.heap [] := va_S.rf
  have hl := lv_entry ([.ref aB, .int y1, .int y2]) (n := 3) (Nat.le_of_ble_eq_true rfl)
  rw [lg_entry_eq]
  generalize (lg_sl ([.ref aB, .int y1, .int y2]) ++ List.replicate (3 - (lg_sl ([.ref aB, .int y1, .int y2])).length) Slot.unset).toArray = ls at hl ⊢
  have hl : lv_has ls 3 [(0, .ref aB), (1, .int y1), (2, .int y2)] := hl
  generalize hQQ : MQ below _ _ s 0 0 _ = QQ
  replace hQQ := hQQ.symm
  generalize hHH : s.heap = H at hP ⊢
  have hS : va_S A s.heap H [] := by rw [← hHH]; exact va_S.rf
  generalize ([] : List Loc) = locs at hS ⊢
  unfold fX5_lay at hf
  refine lv_aload_n hx hb dX5_lay_0 rfl (lv_at hl 0 rfl) ?_
  refine va_get (D := D) (ci := 5) (v := .ref aL) (C := RX5) (T := TX5) (N := 10) hx hb hts iX5 hown hK.1 hP 0 rfl rfl 0 (by decide) k10 (fun _ h9 => h9) rfl dX5_lay_1 ?_
  refine lv_iload_n hx hb dX5_lay_4 rfl (lv_at hl 1 rfl) ?_
  refine bnd hf (fun o5 e5 hf => ?_)
  refine rdVi (As := [.int y1]) (rest := []) ⟨hx, hb, hml, hown, hts⟩ (tX1_has l D cI cJ cG aL aL_kinds aL_vs aL_ws aL_roles aL_mates H y1 L_many o5 e5) (cwV 1 hts gX5_lay_X1_has rfl rfl rfl (by decide +kernel) ⟨Nat.le_of_ble_eq_true rfl, Nat.le_of_ble_eq_true rfl⟩) (va_recv (ci := 1) (q0 := 1) hK.1 hP rfl rfl) hK (hP.sub (ws' := [(aL, .inr (1, [.ref aL_kinds, .ref aL_vs, .ref aL_ws, .ref aL_roles, .ref aL_mates, .int L_many]))]) [1] rfl) rfl hl.1 rfl (lv_room (Nat.le_of_ble_eq_true rfl)) dX5_lay_5 ⟨Nat.le_of_ble_eq_true rfl, Nat.le_of_ble_eq_true rfl⟩ hS (fun locs hS => ?_)
  refine lv_if_ne (tgt := 14) hx hb dX5_lay_8 (by decide) (fun c8 => ?_) (fun c8 => ?_)
  · have hf := ifn hf c8
    refine lv_iload_n hx hb dX5_lay_14 rfl (lv_at hl 2 rfl) ?_
    refine lv_if_lt (tgt := 29) hx hb dX5_lay_15 (by decide) (fun c15 => ?_) (fun c15 => ?_)
    · have hf := ifp hf c15
      refine lv_bipush (v := (-102 : Int32)) hx hb dX5_lay_29 (by decide) ?_
      rw [hQQ]
      exact W.iret (v := (-102 : Int32)) hx hb hr (fun t ht hW => by rw [← Option.some.inj hf]; rw [← hAe] at hD hS; exact ⟨⟨(-102 : Int32), (), rfl, rfl, by rw [ht]; exact hP, hD⟩, hS.F ht⟩) hS.2.2 dX5_lay_31
    · have hf := ifn hf c15
      refine lv_iload_n hx hb dX5_lay_18 rfl (lv_at hl 2 rfl) ?_
      refine lv_aload_n hx hb dX5_lay_19 rfl (lv_at hl 0 rfl) ?_
      refine va_get (D := D) (ci := 5) (v := .ref aA) (C := RX5) (T := TX5) (N := 10) hx hb hts iX5 hown hK.1 hP 0 rfl rfl 2 (by decide) k26 (fun _ h9 => h9) rfl dX5_lay_20 ?_
      refine va_getN (D := D) (ci := 0) (v := .int A_length) (C := RX0) (T := TX0) (N := 2) hx hb hts iX0 hown hK.1 hP 2 rfl rfl 1 (by decide) n87 (fun _ h9 => h9) rfl dX5_lay_23 ?_
      refine lv_icmp_le (tgt := 32) hx hb dX5_lay_26 (by decide) (fun c26 => ?_) (fun c26 => ?_)
      · have hf := ifp hf c26
        refine lv_aload_n hx hb dX5_lay_32 rfl (lv_at hl 0 rfl) ?_
        refine va_get (D := D) (ci := 5) (v := .ref aA) (C := RX5) (T := TX5) (N := 10) hx hb hts iX5 hown hK.1 hP 0 rfl rfl 2 (by decide) k26 (fun _ h9 => h9) rfl dX5_lay_33 ?_
        refine lv_iload_n hx hb dX5_lay_36 rfl (lv_at hl 1 rfl) ?_
        refine bnd hf (fun o37 e37 hf => ?_)
        refine rdVi (As := [.int y1]) (rest := []) ⟨hx, hb, hml, hown, hts⟩ (tX0_holds l D cI cJ cG aA aA_row H y1 A_length A_row o37 e37) (cwV 1 hts gX5_lay_X0_holds rfl rfl rfl (by decide +kernel) ⟨Nat.le_of_ble_eq_true rfl, Nat.le_of_ble_eq_true rfl⟩) (va_recv (ci := 0) (q0 := 2) hK.1 hP rfl rfl) hK (hP.sub (ws' := [(aA, .inr (0, [.ref aA_row, .int A_length])), (aA_row, eI cI 16 A_row)]) [2, 3] rfl) rfl hl.1 rfl (lv_room (Nat.le_of_ble_eq_true rfl)) dX5_lay_37 ⟨Nat.le_of_ble_eq_true rfl, Nat.le_of_ble_eq_true rfl⟩ hS (fun locs hS => ?_)
        refine lv_if_eq (tgt := 46) hx hb dX5_lay_40 (by decide) (fun c40 => ?_) (fun c40 => ?_)
        · have hf := ifp hf c40
          refine lv_aload_n hx hb dX5_lay_46 rfl (lv_at hl 0 rfl) ?_
          refine va_get (D := D) (ci := 5) (v := .ref aA) (C := RX5) (T := TX5) (N := 10) hx hb hts iX5 hown hK.1 hP 0 rfl rfl 2 (by decide) k26 (fun _ h9 => h9) rfl dX5_lay_47 ?_
          refine lv_iload_n hx hb dX5_lay_50 rfl (lv_at hl 1 rfl) ?_
          refine lv_iload_n hx hb dX5_lay_51 rfl (lv_at hl 2 rfl) ?_
          refine bnd hf (fun o52 e52 hf => ?_)
          refine wrVv (As := [.int y1, .int y2]) (rest := []) (cw := [(aA, .inr (0, [.ref aA_row, .int A_length])), (aA_row, eI cI 16 A_row)]) (cw' := [(aA, .inr (0, [.ref aA_row, .int o52.1])), (aA_row, eI cI 16 o52.2)]) (wr := [(aB, .inr (5, [.ref aL, .ref aM, .ref aA, .ref aK, .ref aB_inputs, .int B_manyInputs, .int B_hintsDone, .ref aC1, .ref aC2, .ref aC3])), (aL, .inr (1, [.ref aL_kinds, .ref aL_vs, .ref aL_ws, .ref aL_roles, .ref aL_mates, .int L_many]))]) (ws2 := [(aB, .inr (5, [.ref aL, .ref aM, .ref aA, .ref aK, .ref aB_inputs, .int B_manyInputs, .int B_hintsDone, .ref aC1, .ref aC2, .ref aC3])), (aL, .inr (1, [.ref aL_kinds, .ref aL_vs, .ref aL_ws, .ref aL_roles, .ref aL_mates, .int L_many])), (aA, .inr (0, [.ref aA_row, .int o52.1])), (aA_row, eI cI 16 o52.2)]) ⟨hx, hb, hml, hown, hts⟩ (tX0_insert l D cI cJ cG aA aA_row H.size y1 y2 A_length A_row o52 e52) (cwV 2 hts gX5_lay_X0_insert rfl rfl rfl (by decide +kernel) ⟨Nat.le_of_ble_eq_true rfl, Nat.le_of_ble_eq_true rfl⟩) (va_recv (ci := 0) (q0 := 2) hK.1 hP rfl rfl) hK hP hD hS hA [2, 3] [0, 1] [0, 1, 2, 3] rfl rfl rfl (by decide) (by decide) (by decide) (by decide) rfl hl.1 rfl (lv_room (Nat.le_of_ble_eq_true rfl)) dX5_lay_52 ⟨Nat.le_of_ble_eq_true rfl, Nat.le_of_ble_eq_true rfl⟩ (fun H locs hP hD hS => ?_)
          refine lv_aload_n hx hb dX5_lay_55 rfl (lv_at hl 0 rfl) ?_
          refine va_get (D := D) (ci := 5) (v := .ref aA) (C := RX5) (T := TX5) (N := 10) hx hb hts iX5 hown hK.1 hP 0 rfl rfl 2 (by decide) k26 (fun _ h9 => h9) rfl dX5_lay_56 ?_
          refine va_getN (D := D) (ci := 0) (v := .int o52.1) (C := RX0) (T := TX0) (N := 2) hx hb hts iX0 hown hK.1 hP 2 rfl rfl 1 (by decide) n87 (fun _ h9 => h9) rfl dX5_lay_59 ?_
          rw [hQQ]
          exact W.iret (v := o52.1) hx hb hr (fun t ht hW => by rw [← Option.some.inj hf]; rw [← hAe] at hD hS; exact ⟨⟨o52.1, (), rfl, rfl, by rw [ht]; exact hP, hD⟩, hS.F ht⟩) hS.2.2 dX5_lay_62
        · have hf := ifn hf c40
          refine lv_bipush (v := (-103 : Int32)) hx hb dX5_lay_43 (by decide) ?_
          rw [hQQ]
          exact W.iret (v := (-103 : Int32)) hx hb hr (fun t ht hW => by rw [← Option.some.inj hf]; rw [← hAe] at hD hS; exact ⟨⟨(-103 : Int32), (), rfl, rfl, by rw [ht]; exact hP, hD⟩, hS.F ht⟩) hS.2.2 dX5_lay_45
      · have hf := ifn hf c26
        refine lv_bipush (v := (-102 : Int32)) hx hb dX5_lay_29 (by decide) ?_
        rw [hQQ]
        exact W.iret (v := (-102 : Int32)) hx hb hr (fun t ht hW => by rw [← Option.some.inj hf]; rw [← hAe] at hD hS; exact ⟨⟨(-102 : Int32), (), rfl, rfl, by rw [ht]; exact hP, hD⟩, hS.F ht⟩) hS.2.2 dX5_lay_31
  · have hf := ifp hf c8
    refine lv_bipush (v := (-101 : Int32)) hx hb dX5_lay_11 (by decide) ?_
    rw [hQQ]
    exact W.iret (v := (-101 : Int32)) hx hb hr (fun t ht hW => by rw [← Option.some.inj hf]; rw [← hAe] at hD hS; exact ⟨⟨(-101 : Int32), (), rfl, rfl, by rw [ht]; exact hP, hD⟩, hS.F ht⟩) hS.2.2 dX5_lay_13

set_option maxHeartbeats 4000000 in
set_option maxRecDepth 100000 in
theorem tX5_take (l : Launch) (D : va_G) (cI cJ cG : ClassId) (aB aL aM aA aK aB_inputs aC1 aC2 aC3 aA_row : Nat) (sz : Nat) (y1 : Int32) (B_manyInputs : Int32) (B_hintsDone : Int32) (A_length : Int32) (A_row : (Nat → Int32)) (out : Int32 × Int32 × (Nat → Int32)) (hf : fX5_take y1 A_length A_row = some out) : Met l yX5_take wsX5_take ({ frames := 2, cells := 0, slots := 0, locals := 44 }) (va_Pc [.ref aB, .int y1] (wP D (tyL cI cJ cG) [(aB, .inr (5, [.ref aL, .ref aM, .ref aA, .ref aK, .ref aB_inputs, .int B_manyInputs, .int B_hintsDone, .ref aC1, .ref aC2, .ref aC3])), (aA, .inr (0, [.ref aA_row, .int A_length])), (aA_row, eI cI 16 A_row)] sz)) (wQi D out.1 [(aB, .inr (5, [.ref aL, .ref aM, .ref aA, .ref aK, .ref aB_inputs, .int B_manyInputs, .int B_hintsDone, .ref aC1, .ref aC2, .ref aC3])), (aA, .inr (0, [.ref aA_row, .int A_length])), (aA_row, eI cI 16 A_row)] [(aB, .inr (5, [.ref aL, .ref aM, .ref aA, .ref aK, .ref aB_inputs, .int B_manyInputs, .int B_hintsDone, .ref aC1, .ref aC2, .ref aC3])), (aA, .inr (0, [.ref aA_row, .int out.2.1])), (aA_row, eI cI 16 out.2.2)] sz) 0 0 (va_A [(aB, .inr (5, [.ref aL, .ref aM, .ref aA, .ref aK, .ref aB_inputs, .int B_manyInputs, .int B_hintsDone, .ref aC1, .ref aC2, .ref aC3])), (aA, .inr (0, [.ref aA_row, .int A_length])), (aA_row, eI cI 16 A_row)] sz) := by
  refine Met.ofW (cc := cX5_take) (maxL := 2) (ret := (some .int)) (by decide) rfl ?_
  intro p e s m args below meth c s₁ B hml hv
  obtain ⟨rfl, hsz, hP, hK, hD0⟩ := hv
  have hx := B.exec
  have hb := B.bytes
  have hr := B.returns
  have hts := atoms_spec (ws := wsX5_take) B.pre
  have hown : s.vm.findClass RX5 = some m.cls := findClass_of_methodNamed B.named
  have hlocks := B.notSynchronized
  have iX5 : ∀ w ∈ wsX50, w ∈ wsX5_take := by decide +kernel
  have k26 := hts (.fieldLink RX5 26 "BlockMarker" "answer" "LBlockMarker$Answer;") (by decide +kernel)
  subst hsz
  have hD := hD0.self (sz := s.heap.size)
  generalize hAe : va_A [(aB, .inr (5, [.ref aL, .ref aM, .ref aA, .ref aK, .ref aB_inputs, .int B_manyInputs, .int B_hintsDone, .ref aC1, .ref aC2, .ref aC3])), (aA, .inr (0, [.ref aA_row, .int A_length])), (aA_row, eI cI 16 A_row)] s.heap.size = A at hD ⊢
  have hA : ∀ q : Nat, s.heap.size ≤ q → A q := fun q h => by rw [← hAe]; exact Or.inr h
  have hS : va_S A s.heap s.heap [] := va_S.rf
  have hl := lv_entry ([.ref aB, .int y1]) (n := 2) (Nat.le_of_ble_eq_true rfl)
  rw [lg_entry_eq]
  generalize (lg_sl ([.ref aB, .int y1]) ++ List.replicate (2 - (lg_sl ([.ref aB, .int y1])).length) Slot.unset).toArray = ls at hl ⊢
  have hl : lv_has ls 2 [(0, .ref aB), (1, .int y1)] := hl
  generalize hQQ : MQ below _ _ s 0 0 _ = QQ
  replace hQQ := hQQ.symm
  generalize hHH : s.heap = H at hP ⊢
  have hS : va_S A s.heap H [] := by rw [← hHH]; exact va_S.rf
  generalize ([] : List Loc) = locs at hS ⊢
  unfold fX5_take at hf
  refine lv_aload_n hx hb dX5_take_0 rfl (lv_at hl 0 rfl) ?_
  refine va_get (D := D) (ci := 5) (v := .ref aA) (C := RX5) (T := TX5) (N := 10) hx hb hts iX5 hown hK.1 hP 0 rfl rfl 2 (by decide) k26 (fun _ h9 => h9) rfl dX5_take_1 ?_
  refine lv_iload_n hx hb dX5_take_4 rfl (lv_at hl 1 rfl) ?_
  refine bnd hf (fun o5 e5 hf => ?_)
  refine rdVi (As := [.int y1]) (rest := []) ⟨hx, hb, hml, hown, hts⟩ (tX0_hasPlace l D cI cJ cG aA aA_row H y1 A_length o5 e5) (cwV 1 hts gX5_take_X0_hasPlace rfl rfl rfl (by decide +kernel) ⟨Nat.le_of_ble_eq_true rfl, Nat.le_of_ble_eq_true rfl⟩) (va_recv (ci := 0) (q0 := 1) hK.1 hP rfl rfl) hK (hP.sub (ws' := [(aA, .inr (0, [.ref aA_row, .int A_length]))]) [1] rfl) rfl hl.1 rfl (lv_room (Nat.le_of_ble_eq_true rfl)) dX5_take_5 ⟨Nat.le_of_ble_eq_true rfl, Nat.le_of_ble_eq_true rfl⟩ hS (fun locs hS => ?_)
  refine lv_if_eq (tgt := 22) hx hb dX5_take_8 (by decide) (fun c8 => ?_) (fun c8 => ?_)
  · have hf := ifp hf c8
    refine lv_bipush (v := (-102 : Int32)) hx hb dX5_take_22 (by decide) ?_
    rw [hQQ]
    exact W.iret (v := (-102 : Int32)) hx hb hr (fun t ht hW => by rw [← Option.some.inj hf]; rw [← hAe] at hD hS; exact ⟨⟨(-102 : Int32), (), rfl, rfl, by rw [ht]; exact hP, hD⟩, hS.F ht⟩) hS.2.2 dX5_take_24
  · have hf := ifn hf c8
    refine lv_aload_n hx hb dX5_take_11 rfl (lv_at hl 0 rfl) ?_
    refine va_get (D := D) (ci := 5) (v := .ref aA) (C := RX5) (T := TX5) (N := 10) hx hb hts iX5 hown hK.1 hP 0 rfl rfl 2 (by decide) k26 (fun _ h9 => h9) rfl dX5_take_12 ?_
    refine lv_iload_n hx hb dX5_take_15 rfl (lv_at hl 1 rfl) ?_
    refine bnd hf (fun o16 e16 hf => ?_)
    refine wrVi (As := [.int y1]) (rest := []) (cw := [(aA, .inr (0, [.ref aA_row, .int A_length])), (aA_row, eI cI 16 A_row)]) (cw' := [(aA, .inr (0, [.ref aA_row, .int o16.2.1])), (aA_row, eI cI 16 o16.2.2)]) (wr := [(aB, .inr (5, [.ref aL, .ref aM, .ref aA, .ref aK, .ref aB_inputs, .int B_manyInputs, .int B_hintsDone, .ref aC1, .ref aC2, .ref aC3]))]) (ws2 := [(aB, .inr (5, [.ref aL, .ref aM, .ref aA, .ref aK, .ref aB_inputs, .int B_manyInputs, .int B_hintsDone, .ref aC1, .ref aC2, .ref aC3])), (aA, .inr (0, [.ref aA_row, .int o16.2.1])), (aA_row, eI cI 16 o16.2.2)]) ⟨hx, hb, hml, hown, hts⟩ (tX0_remove l D cI cJ cG aA aA_row H.size y1 A_length A_row o16 e16) (cwV 1 hts gX5_take_X0_remove rfl rfl rfl (by decide +kernel) ⟨Nat.le_of_ble_eq_true rfl, Nat.le_of_ble_eq_true rfl⟩) (va_recv (ci := 0) (q0 := 1) hK.1 hP rfl rfl) hK hP hD hS hA [1, 2] [0] [0, 1, 2] rfl rfl rfl (by decide) (by decide) (by decide) (by decide) rfl hl.1 rfl (lv_room (Nat.le_of_ble_eq_true rfl)) dX5_take_16 ⟨Nat.le_of_ble_eq_true rfl, Nat.le_of_ble_eq_true rfl⟩ (fun H locs hP hD hS => ?_)
    refine lv_goto (tgt := 24) hx hb dX5_take_19 (by decide) ?_
    rw [hQQ]
    exact W.iret (v := o16.1) hx hb hr (fun t ht hW => by rw [← Option.some.inj hf]; rw [← hAe] at hD hS; exact ⟨⟨o16.1, (), rfl, rfl, by rw [ht]; exact hP, hD⟩, hS.F ht⟩) hS.2.2 dX5_take_24

set_option maxHeartbeats 4000000 in
set_option maxRecDepth 100000 in
theorem tX5_move (l : Launch) (D : va_G) (cI cJ cG : ClassId) (aB aL aM aA aK aB_inputs aC1 aC2 aC3 aA_row : Nat) (sz : Nat) (y1 : Int32) (y2 : Int32) (B_manyInputs : Int32) (B_hintsDone : Int32) (A_length : Int32) (A_row : (Nat → Int32)) (out : Int32 × Int32 × (Nat → Int32)) (hf : fX5_move y1 y2 A_length A_row = some out) : Met l yX5_move wsX5_move ({ frames := 2, cells := 0, slots := 0, locals := 44 }) (va_Pc [.ref aB, .int y1, .int y2] (wP D (tyL cI cJ cG) [(aB, .inr (5, [.ref aL, .ref aM, .ref aA, .ref aK, .ref aB_inputs, .int B_manyInputs, .int B_hintsDone, .ref aC1, .ref aC2, .ref aC3])), (aA, .inr (0, [.ref aA_row, .int A_length])), (aA_row, eI cI 16 A_row)] sz)) (wQi D out.1 [(aB, .inr (5, [.ref aL, .ref aM, .ref aA, .ref aK, .ref aB_inputs, .int B_manyInputs, .int B_hintsDone, .ref aC1, .ref aC2, .ref aC3])), (aA, .inr (0, [.ref aA_row, .int A_length])), (aA_row, eI cI 16 A_row)] [(aB, .inr (5, [.ref aL, .ref aM, .ref aA, .ref aK, .ref aB_inputs, .int B_manyInputs, .int B_hintsDone, .ref aC1, .ref aC2, .ref aC3])), (aA, .inr (0, [.ref aA_row, .int out.2.1])), (aA_row, eI cI 16 out.2.2)] sz) 0 0 (va_A [(aB, .inr (5, [.ref aL, .ref aM, .ref aA, .ref aK, .ref aB_inputs, .int B_manyInputs, .int B_hintsDone, .ref aC1, .ref aC2, .ref aC3])), (aA, .inr (0, [.ref aA_row, .int A_length])), (aA_row, eI cI 16 A_row)] sz) := by
  refine Met.ofW (cc := cX5_move) (maxL := 4) (ret := (some .int)) (by decide) rfl ?_
  intro p e s m args below meth c s₁ B hml hv
  obtain ⟨rfl, hsz, hP, hK, hD0⟩ := hv
  have hx := B.exec
  have hb := B.bytes
  have hr := B.returns
  have hts := atoms_spec (ws := wsX5_move) B.pre
  have hown : s.vm.findClass RX5 = some m.cls := findClass_of_methodNamed B.named
  have hlocks := B.notSynchronized
  have iX5 : ∀ w ∈ wsX50, w ∈ wsX5_move := by decide +kernel
  have k26 := hts (.fieldLink RX5 26 "BlockMarker" "answer" "LBlockMarker$Answer;") (by decide +kernel)
  subst hsz
  have hD := hD0.self (sz := s.heap.size)
  generalize hAe : va_A [(aB, .inr (5, [.ref aL, .ref aM, .ref aA, .ref aK, .ref aB_inputs, .int B_manyInputs, .int B_hintsDone, .ref aC1, .ref aC2, .ref aC3])), (aA, .inr (0, [.ref aA_row, .int A_length])), (aA_row, eI cI 16 A_row)] s.heap.size = A at hD ⊢
  have hA : ∀ q : Nat, s.heap.size ≤ q → A q := fun q h => by rw [← hAe]; exact Or.inr h
  have hS : va_S A s.heap s.heap [] := va_S.rf
  have hl := lv_entry ([.ref aB, .int y1, .int y2]) (n := 4) (Nat.le_of_ble_eq_true rfl)
  rw [lg_entry_eq]
  generalize (lg_sl ([.ref aB, .int y1, .int y2]) ++ List.replicate (4 - (lg_sl ([.ref aB, .int y1, .int y2])).length) Slot.unset).toArray = ls at hl ⊢
  have hl : lv_has ls 4 [(0, .ref aB), (1, .int y1), (2, .int y2)] := hl
  generalize hQQ : MQ below _ _ s 0 0 _ = QQ
  replace hQQ := hQQ.symm
  generalize hHH : s.heap = H at hP ⊢
  have hS : va_S A s.heap H [] := by rw [← hHH]; exact va_S.rf
  generalize ([] : List Loc) = locs at hS ⊢
  unfold fX5_move at hf
  refine lv_aload_n hx hb dX5_move_0 rfl (lv_at hl 0 rfl) ?_
  refine va_get (D := D) (ci := 5) (v := .ref aA) (C := RX5) (T := TX5) (N := 10) hx hb hts iX5 hown hK.1 hP 0 rfl rfl 2 (by decide) k26 (fun _ h9 => h9) rfl dX5_move_1 ?_
  refine lv_iload_n hx hb dX5_move_4 rfl (lv_at hl 1 rfl) ?_
  refine bnd hf (fun o5 e5 hf => ?_)
  refine rdVi (As := [.int y1]) (rest := []) ⟨hx, hb, hml, hown, hts⟩ (tX0_hasPlace l D cI cJ cG aA aA_row H y1 A_length o5 e5) (cwV 1 hts gX5_move_X0_hasPlace rfl rfl rfl (by decide +kernel) ⟨Nat.le_of_ble_eq_true rfl, Nat.le_of_ble_eq_true rfl⟩) (va_recv (ci := 0) (q0 := 1) hK.1 hP rfl rfl) hK (hP.sub (ws' := [(aA, .inr (0, [.ref aA_row, .int A_length]))]) [1] rfl) rfl hl.1 rfl (lv_room (Nat.le_of_ble_eq_true rfl)) dX5_move_5 ⟨Nat.le_of_ble_eq_true rfl, Nat.le_of_ble_eq_true rfl⟩ hS (fun locs hS => ?_)
  refine lv_if_eq (tgt := 22) hx hb dX5_move_8 (by decide) (fun c8 => ?_) (fun c8 => ?_)
  · have hf := ifp hf c8
    refine lv_bipush (v := (-102 : Int32)) hx hb dX5_move_22 (by decide) ?_
    rw [hQQ]
    exact W.iret (v := (-102 : Int32)) hx hb hr (fun t ht hW => by rw [← Option.some.inj hf]; rw [← hAe] at hD hS; exact ⟨⟨(-102 : Int32), (), rfl, rfl, by rw [ht]; exact hP, hD⟩, hS.F ht⟩) hS.2.2 dX5_move_24
  · have hf := ifn hf c8
    refine lv_aload_n hx hb dX5_move_11 rfl (lv_at hl 0 rfl) ?_
    refine va_get (D := D) (ci := 5) (v := .ref aA) (C := RX5) (T := TX5) (N := 10) hx hb hts iX5 hown hK.1 hP 0 rfl rfl 2 (by decide) k26 (fun _ h9 => h9) rfl dX5_move_12 ?_
    refine lv_iload_n hx hb dX5_move_15 rfl (lv_at hl 2 rfl) ?_
    refine bnd hf (fun o16 e16 hf => ?_)
    refine rdVi (As := [.int y2]) (rest := []) ⟨hx, hb, hml, hown, hts⟩ (tX0_hasPlace l D cI cJ cG aA aA_row H y2 A_length o16 e16) (cwV 1 hts gX5_move_X0_hasPlace rfl rfl rfl (by decide +kernel) ⟨Nat.le_of_ble_eq_true rfl, Nat.le_of_ble_eq_true rfl⟩) (va_recv (ci := 0) (q0 := 1) hK.1 hP rfl rfl) hK (hP.sub (ws' := [(aA, .inr (0, [.ref aA_row, .int A_length]))]) [1] rfl) rfl hl.1 rfl (lv_room (Nat.le_of_ble_eq_true rfl)) dX5_move_16 ⟨Nat.le_of_ble_eq_true rfl, Nat.le_of_ble_eq_true rfl⟩ hS (fun locs hS => ?_)
    refine lv_if_ne (tgt := 25) hx hb dX5_move_19 (by decide) (fun c19 => ?_) (fun c19 => ?_)
    · have hf := ifn hf c19
      refine lv_aload_n hx hb dX5_move_25 rfl (lv_at hl 0 rfl) ?_
      refine va_get (D := D) (ci := 5) (v := .ref aA) (C := RX5) (T := TX5) (N := 10) hx hb hts iX5 hown hK.1 hP 0 rfl rfl 2 (by decide) k26 (fun _ h9 => h9) rfl dX5_move_26 ?_
      refine lv_iload_n hx hb dX5_move_29 rfl (lv_at hl 1 rfl) ?_
      refine bnd hf (fun o30 e30 hf => ?_)
      refine wrVi (As := [.int y1]) (rest := []) (cw := [(aA, .inr (0, [.ref aA_row, .int A_length])), (aA_row, eI cI 16 A_row)]) (cw' := [(aA, .inr (0, [.ref aA_row, .int o30.2.1])), (aA_row, eI cI 16 o30.2.2)]) (wr := [(aB, .inr (5, [.ref aL, .ref aM, .ref aA, .ref aK, .ref aB_inputs, .int B_manyInputs, .int B_hintsDone, .ref aC1, .ref aC2, .ref aC3]))]) (ws2 := [(aB, .inr (5, [.ref aL, .ref aM, .ref aA, .ref aK, .ref aB_inputs, .int B_manyInputs, .int B_hintsDone, .ref aC1, .ref aC2, .ref aC3])), (aA, .inr (0, [.ref aA_row, .int o30.2.1])), (aA_row, eI cI 16 o30.2.2)]) ⟨hx, hb, hml, hown, hts⟩ (tX0_remove l D cI cJ cG aA aA_row H.size y1 A_length A_row o30 e30) (cwV 1 hts gX5_move_X0_remove rfl rfl rfl (by decide +kernel) ⟨Nat.le_of_ble_eq_true rfl, Nat.le_of_ble_eq_true rfl⟩) (va_recv (ci := 0) (q0 := 1) hK.1 hP rfl rfl) hK hP hD hS hA [1, 2] [0] [0, 1, 2] rfl rfl rfl (by decide) (by decide) (by decide) (by decide) rfl hl.1 rfl (lv_room (Nat.le_of_ble_eq_true rfl)) dX5_move_30 ⟨Nat.le_of_ble_eq_true rfl, Nat.le_of_ble_eq_true rfl⟩ (fun H locs hP hD hS => ?_)
      refine lv_istore_n (lv' := [(3, .int o30.1), (0, .ref aB), (1, .int y1), (2, .int y2)]) hx hb dX5_move_33 rfl hl (by decide) rfl (fun ls hl => ?_)
      refine lv_aload_n hx hb dX5_move_34 rfl (lv_at hl 1 rfl) ?_
      refine va_get (D := D) (ci := 5) (v := .ref aA) (C := RX5) (T := TX5) (N := 10) hx hb hts iX5 hown hK.1 hP 0 rfl rfl 2 (by decide) k26 (fun _ h9 => h9) rfl dX5_move_35 ?_
      refine lv_iload_n hx hb dX5_move_38 rfl (lv_at hl 0 rfl) ?_
      refine lv_iload_n hx hb dX5_move_39 rfl (lv_at hl 3 rfl) ?_
      refine bnd hf (fun o40 e40 hf => ?_)
      refine wrVv (As := [.int o30.1, .int y2]) (rest := []) (cw := [(aA, .inr (0, [.ref aA_row, .int o30.2.1])), (aA_row, eI cI 16 o30.2.2)]) (cw' := [(aA, .inr (0, [.ref aA_row, .int o40.1])), (aA_row, eI cI 16 o40.2)]) (wr := [(aB, .inr (5, [.ref aL, .ref aM, .ref aA, .ref aK, .ref aB_inputs, .int B_manyInputs, .int B_hintsDone, .ref aC1, .ref aC2, .ref aC3]))]) (ws2 := [(aB, .inr (5, [.ref aL, .ref aM, .ref aA, .ref aK, .ref aB_inputs, .int B_manyInputs, .int B_hintsDone, .ref aC1, .ref aC2, .ref aC3])), (aA, .inr (0, [.ref aA_row, .int o40.1])), (aA_row, eI cI 16 o40.2)]) ⟨hx, hb, hml, hown, hts⟩ (tX0_insert l D cI cJ cG aA aA_row H.size o30.1 y2 o30.2.1 o30.2.2 o40 e40) (cwV 2 hts gX5_move_X0_insert rfl rfl rfl (by decide +kernel) ⟨Nat.le_of_ble_eq_true rfl, Nat.le_of_ble_eq_true rfl⟩) (va_recv (ci := 0) (q0 := 1) hK.1 hP rfl rfl) hK hP hD hS hA [1, 2] [0] [0, 1, 2] rfl rfl rfl (by decide) (by decide) (by decide) (by decide) rfl hl.1 rfl (lv_room (Nat.le_of_ble_eq_true rfl)) dX5_move_40 ⟨Nat.le_of_ble_eq_true rfl, Nat.le_of_ble_eq_true rfl⟩ (fun H locs hP hD hS => ?_)
      refine lv_iload_n hx hb dX5_move_43 rfl (lv_at hl 0 rfl) ?_
      rw [hQQ]
      exact W.iret (v := o30.1) hx hb hr (fun t ht hW => by rw [← Option.some.inj hf]; rw [← hAe] at hD hS; exact ⟨⟨o30.1, (), rfl, rfl, by rw [ht]; exact hP, hD⟩, hS.F ht⟩) hS.2.2 dX5_move_44
    · have hf := ifp hf c19
      refine lv_bipush (v := (-102 : Int32)) hx hb dX5_move_22 (by decide) ?_
      rw [hQQ]
      exact W.iret (v := (-102 : Int32)) hx hb hr (fun t ht hW => by rw [← Option.some.inj hf]; rw [← hAe] at hD hS; exact ⟨⟨(-102 : Int32), (), rfl, rfl, by rw [ht]; exact hP, hD⟩, hS.F ht⟩) hS.2.2 dX5_move_24

set_option maxHeartbeats 4000000 in
set_option maxRecDepth 100000 in
theorem tX5_clear (l : Launch) (D : va_G) (cI cJ cG : ClassId) (aB aL aM aA aK aB_inputs aC1 aC2 aC3 aA_row : Nat) (sz : Nat)  (B_manyInputs : Int32) (B_hintsDone : Int32) (A_length : Int32) (out : Int32 × Int32) (hf : fX5_clear A_length = some out) : Met l yX5_clear wsX5_clear ({ frames := 0, cells := 0, slots := 0, locals := 0 }) (va_Pc [.ref aB] (wP D (tyL cI cJ cG) [(aB, .inr (5, [.ref aL, .ref aM, .ref aA, .ref aK, .ref aB_inputs, .int B_manyInputs, .int B_hintsDone, .ref aC1, .ref aC2, .ref aC3])), (aA, .inr (0, [.ref aA_row, .int A_length]))] sz)) (wQi D out.1 [(aB, .inr (5, [.ref aL, .ref aM, .ref aA, .ref aK, .ref aB_inputs, .int B_manyInputs, .int B_hintsDone, .ref aC1, .ref aC2, .ref aC3])), (aA, .inr (0, [.ref aA_row, .int A_length]))] [(aB, .inr (5, [.ref aL, .ref aM, .ref aA, .ref aK, .ref aB_inputs, .int B_manyInputs, .int B_hintsDone, .ref aC1, .ref aC2, .ref aC3])), (aA, .inr (0, [.ref aA_row, .int out.2]))] sz) 0 0 (va_A [(aB, .inr (5, [.ref aL, .ref aM, .ref aA, .ref aK, .ref aB_inputs, .int B_manyInputs, .int B_hintsDone, .ref aC1, .ref aC2, .ref aC3])), (aA, .inr (0, [.ref aA_row, .int A_length]))] sz) := by
  refine Met.ofW (cc := cX5_clear) (maxL := 2) (ret := (some .int)) (by decide) rfl ?_
  intro p e s m args below meth c s₁ B hml hv
  obtain ⟨rfl, hsz, hP, hK, hD0⟩ := hv
  have hx := B.exec
  have hb := B.bytes
  have hr := B.returns
  have hts := atoms_spec (ws := wsX5_clear) B.pre
  have hown : s.vm.findClass RX5 = some m.cls := findClass_of_methodNamed B.named
  have hlocks := B.notSynchronized
  have iX0 : ∀ w ∈ wsX00, w ∈ wsX5_clear := by decide +kernel
  have iX5 : ∀ w ∈ wsX50, w ∈ wsX5_clear := by decide +kernel
  have k26 := hts (.fieldLink RX5 26 "BlockMarker" "answer" "LBlockMarker$Answer;") (by decide +kernel)
  have n87 := va_Nw.use (A := ([.ref aB] : List Value).toArray) rfl (hK.2 (.fieldLinkNest "BlockMarker" 87 "BlockMarker$Answer" "length" "I" "BlockMarker") (by decide +kernel))
  subst hsz
  have hD := hD0.self (sz := s.heap.size)
  generalize hAe : va_A [(aB, .inr (5, [.ref aL, .ref aM, .ref aA, .ref aK, .ref aB_inputs, .int B_manyInputs, .int B_hintsDone, .ref aC1, .ref aC2, .ref aC3])), (aA, .inr (0, [.ref aA_row, .int A_length]))] s.heap.size = A at hD ⊢
  have hA : ∀ q : Nat, s.heap.size ≤ q → A q := fun q h => by rw [← hAe]; exact Or.inr h
  have hS : va_S A s.heap s.heap [] := va_S.rf
  have hl := lv_entry ([.ref aB]) (n := 2) (Nat.le_of_ble_eq_true rfl)
  rw [lg_entry_eq]
  generalize (lg_sl ([.ref aB]) ++ List.replicate (2 - (lg_sl ([.ref aB])).length) Slot.unset).toArray = ls at hl ⊢
  have hl : lv_has ls 2 [(0, .ref aB)] := hl
  generalize hQQ : MQ below _ _ s 0 0 _ = QQ
  replace hQQ := hQQ.symm
  generalize hHH : s.heap = H at hP ⊢
  have hS : va_S A s.heap H [] := by rw [← hHH]; exact va_S.rf
  generalize ([] : List Loc) = locs at hS ⊢
  unfold fX5_clear at hf
  refine lv_aload_n hx hb dX5_clear_0 rfl (lv_at hl 0 rfl) ?_
  refine va_get (D := D) (ci := 5) (v := .ref aA) (C := RX5) (T := TX5) (N := 10) hx hb hts iX5 hown hK.1 hP 0 rfl rfl 2 (by decide) k26 (fun _ h9 => h9) rfl dX5_clear_1 ?_
  refine va_getN (D := D) (ci := 0) (v := .int A_length) (C := RX0) (T := TX0) (N := 2) hx hb hts iX0 hown hK.1 hP 1 rfl rfl 1 (by decide) n87 (fun _ h9 => h9) rfl dX5_clear_4 ?_
  refine lv_istore_n (lv' := [(1, .int A_length), (0, .ref aB)]) hx hb dX5_clear_7 rfl hl (by decide) rfl (fun ls hl => ?_)
  refine lv_aload_n hx hb dX5_clear_8 rfl (lv_at hl 1 rfl) ?_
  refine va_get (D := D) (ci := 5) (v := .ref aA) (C := RX5) (T := TX5) (N := 10) hx hb hts iX5 hown hK.1 hP 0 rfl rfl 2 (by decide) k26 (fun _ h9 => h9) rfl dX5_clear_9 ?_
  refine lv_iconst (v := (0 : Int32)) hx hb dX5_clear_12 (by decide) ?_
  refine va_putN (D := D) (ci := 0) (v := .int (0 : Int32)) (ty := .int) (C := RX0) (T := TX0) (N := 2) hx hb hts iX0 tyX0 tyX0_ok nmX0 hown hK.1 hP hD hS 1 rfl rfl 1 (by decide) n87 (fun _ h9 => h9) rfl (by decide +kernel) rfl rfl (Nat.le_of_ble_eq_true rfl) dX5_clear_13 (fun H locs hP hD hS => ?_)
  have hP : va_P D vwCl [(aB, .inr (5, [.ref aL, .ref aM, .ref aA, .ref aK, .ref aB_inputs, .int B_manyInputs, .int B_hintsDone, .ref aC1, .ref aC2, .ref aC3])), (aA, .inr (0, [.ref aA_row, .int (0 : Int32)]))] H := hP
  have hD : va_D A [(aB, .inr (5, [.ref aL, .ref aM, .ref aA, .ref aK, .ref aB_inputs, .int B_manyInputs, .int B_hintsDone, .ref aC1, .ref aC2, .ref aC3])), (aA, .inr (0, [.ref aA_row, .int (0 : Int32)]))] := hD
  refine lv_iload_n hx hb dX5_clear_16 rfl (lv_at hl 0 rfl) ?_
  rw [hQQ]
  exact W.iret (v := A_length) hx hb hr (fun t ht hW => by rw [← Option.some.inj hf]; rw [← hAe] at hD hS; exact ⟨⟨A_length, (), rfl, rfl, by rw [ht]; exact hP, hD⟩, hS.F ht⟩) hS.2.2 dX5_clear_17

set_option maxHeartbeats 4000000 in
set_option maxRecDepth 100000 in
theorem tX5_at (l : Launch) (D : va_G) (cI cJ cG : ClassId) (aB aL aM aA aK aB_inputs aC1 aC2 aC3 aA_row : Nat) (Hs : Heap) (y1 : Int32) (B_manyInputs : Int32) (B_hintsDone : Int32) (A_length : Int32) (A_row : (Nat → Int32)) (out : Int32) (hf : fX5_at y1 A_length A_row = some out) : Met l yX5_at wsX5_at ({ frames := 2, cells := 0, slots := 0, locals := 42 }) (va_Pc [.ref aB, .int y1] (rP D (tyL cI cJ cG) [(aB, .inr (5, [.ref aL, .ref aM, .ref aA, .ref aK, .ref aB_inputs, .int B_manyInputs, .int B_hintsDone, .ref aC1, .ref aC2, .ref aC3])), (aA, .inr (0, [.ref aA_row, .int A_length])), (aA_row, eI cI 16 A_row)] Hs)) (rQi out Hs) 0 0 (fun _ => False) := by
  refine Met.ofW (cc := cX5_at) (maxL := 2) (ret := (some .int)) (by decide) rfl ?_
  intro p e s m args below meth c s₁ B hml hv
  obtain ⟨rfl, rfl, hP, hK⟩ := hv
  have hx := B.exec
  have hb := B.bytes
  have hr := B.returns
  have hts := atoms_spec (ws := wsX5_at) B.pre
  have hown : s.vm.findClass RX5 = some m.cls := findClass_of_methodNamed B.named
  have hlocks := B.notSynchronized
  have iX5 : ∀ w ∈ wsX50, w ∈ wsX5_at := by decide +kernel
  have k26 := hts (.fieldLink RX5 26 "BlockMarker" "answer" "LBlockMarker$Answer;") (by decide +kernel)
  have hS : va_S (fun _ => False) s.heap s.heap [] := va_S.rf
  have hl := lv_entry ([.ref aB, .int y1]) (n := 2) (Nat.le_of_ble_eq_true rfl)
  rw [lg_entry_eq]
  generalize (lg_sl ([.ref aB, .int y1]) ++ List.replicate (2 - (lg_sl ([.ref aB, .int y1])).length) Slot.unset).toArray = ls at hl ⊢
  have hl : lv_has ls 2 [(0, .ref aB), (1, .int y1)] := hl
  generalize hQQ : MQ below _ _ s 0 0 _ = QQ
  replace hQQ := hQQ.symm
  unfold fX5_at at hf
  refine lv_aload_n hx hb dX5_at_0 rfl (lv_at hl 0 rfl) ?_
  refine va_get (D := D) (ci := 5) (v := .ref aA) (C := RX5) (T := TX5) (N := 10) hx hb hts iX5 hown hK.1 hP 0 rfl rfl 2 (by decide) k26 (fun _ h9 => h9) rfl dX5_at_1 ?_
  refine lv_iload_n hx hb dX5_at_4 rfl (lv_at hl 1 rfl) ?_
  refine bnd hf (fun o5 e5 hf => ?_)
  refine rdVi (As := [.int y1]) (rest := []) ⟨hx, hb, hml, hown, hts⟩ (tX0_lineAt l D cI cJ cG aA aA_row s.heap y1 A_length A_row o5 e5) (cwV 1 hts gX5_at_X0_lineAt rfl rfl rfl (by decide +kernel) ⟨Nat.le_of_ble_eq_true rfl, Nat.le_of_ble_eq_true rfl⟩) (va_recv (ci := 0) (q0 := 1) hK.1 hP rfl rfl) hK (hP.sub (ws' := [(aA, .inr (0, [.ref aA_row, .int A_length])), (aA_row, eI cI 16 A_row)]) [1, 2] rfl) rfl hl.1 rfl (lv_room (Nat.le_of_ble_eq_true rfl)) dX5_at_5 ⟨Nat.le_of_ble_eq_true rfl, Nat.le_of_ble_eq_true rfl⟩ hS (fun locs hS => ?_)
  rw [hQQ]
  exact W.iret (v := o5) hx hb hr (fun t ht hW => ⟨⟨o5, (), rfl, Option.some.inj hf, ht⟩, rF ht⟩) hS.2.2 dX5_at_8

set_option maxHeartbeats 4000000 in
set_option maxRecDepth 100000 in
theorem tX5_size (l : Launch) (D : va_G) (cI cJ cG : ClassId) (aB aL aM aA aK aB_inputs aC1 aC2 aC3 aA_row : Nat) (Hs : Heap)  (B_manyInputs : Int32) (B_hintsDone : Int32) (A_length : Int32) (out : Int32) (hf : fX5_size A_length = some out) : Met l yX5_size wsX5_size ({ frames := 0, cells := 0, slots := 0, locals := 0 }) (va_Pc [.ref aB] (rP D (tyL cI cJ cG) [(aB, .inr (5, [.ref aL, .ref aM, .ref aA, .ref aK, .ref aB_inputs, .int B_manyInputs, .int B_hintsDone, .ref aC1, .ref aC2, .ref aC3])), (aA, .inr (0, [.ref aA_row, .int A_length]))] Hs)) (rQi out Hs) 0 0 (fun _ => False) := by
  refine Met.ofW (cc := cX5_size) (maxL := 1) (ret := (some .int)) (by decide) rfl ?_
  intro p e s m args below meth c s₁ B hml hv
  obtain ⟨rfl, rfl, hP, hK⟩ := hv
  have hx := B.exec
  have hb := B.bytes
  have hr := B.returns
  have hts := atoms_spec (ws := wsX5_size) B.pre
  have hown : s.vm.findClass RX5 = some m.cls := findClass_of_methodNamed B.named
  have hlocks := B.notSynchronized
  have iX0 : ∀ w ∈ wsX00, w ∈ wsX5_size := by decide +kernel
  have iX5 : ∀ w ∈ wsX50, w ∈ wsX5_size := by decide +kernel
  have k26 := hts (.fieldLink RX5 26 "BlockMarker" "answer" "LBlockMarker$Answer;") (by decide +kernel)
  have n87 := va_Nw.use (A := ([.ref aB] : List Value).toArray) rfl (hK.2 (.fieldLinkNest "BlockMarker" 87 "BlockMarker$Answer" "length" "I" "BlockMarker") (by decide +kernel))
  have hS : va_S (fun _ => False) s.heap s.heap [] := va_S.rf
  have hl := lv_entry ([.ref aB]) (n := 1) (Nat.le_of_ble_eq_true rfl)
  rw [lg_entry_eq]
  generalize (lg_sl ([.ref aB]) ++ List.replicate (1 - (lg_sl ([.ref aB])).length) Slot.unset).toArray = ls at hl ⊢
  have hl : lv_has ls 1 [(0, .ref aB)] := hl
  generalize hQQ : MQ below _ _ s 0 0 _ = QQ
  replace hQQ := hQQ.symm
  unfold fX5_size at hf
  refine lv_aload_n hx hb dX5_size_0 rfl (lv_at hl 0 rfl) ?_
  refine va_get (D := D) (ci := 5) (v := .ref aA) (C := RX5) (T := TX5) (N := 10) hx hb hts iX5 hown hK.1 hP 0 rfl rfl 2 (by decide) k26 (fun _ h9 => h9) rfl dX5_size_1 ?_
  refine va_getN (D := D) (ci := 0) (v := .int A_length) (C := RX0) (T := TX0) (N := 2) hx hb hts iX0 hown hK.1 hP 1 rfl rfl 1 (by decide) n87 (fun _ h9 => h9) rfl dX5_size_4 ?_
  rw [hQQ]
  exact W.iret (v := A_length) hx hb hr (fun t ht hW => ⟨⟨A_length, (), rfl, Option.some.inj hf, ht⟩, rF ht⟩) hS.2.2 dX5_size_7

set_option maxHeartbeats 4000000 in
set_option maxRecDepth 100000 in
theorem tX5_perform (l : Launch) (D : va_G) (cI cJ cG : ClassId) (aB aL aM aA aK aB_inputs aC1 aC2 aC3 aB_r0 aB_r1 aB_r2 aB_r3 aB_r4 aB_r5 aB_r6 aB_r7 aL_kinds aL_vs aL_ws aL_roles aL_mates aM_numbers aM_ranks aM_ahead aM_ways aA_row aC aC_variables aC_prints : Nat) (sz : Nat) (y2 : Int32) (y3 : Int32) (B_manyInputs : Int32) (B_hintsDone : Int32) (B_inp : (Nat → Nat → Int32)) (L_many : Int32) (L_kinds : (Nat → Int32)) (L_vs : (Nat → Int32)) (L_ws : (Nat → Int32)) (L_roles : (Nat → Int32)) (L_mates : (Nat → Int32)) (M_length : Int32) (M_waysCounted : Int32) (M_numbers : (Nat → Int32)) (A_length : Int32) (A_row : (Nat → Int32)) (C_manyPrints : Int32) (C_variables : (Nat → Int32)) (C_prints : (Nat → Int32)) (out : Int32 × (Nat → Int32) × (Nat → Int32)) (hf : fX5_perform y2 y3 B_inp L_many L_kinds L_vs L_ws L_roles L_mates M_length M_numbers A_length A_row C_manyPrints C_variables C_prints = some out) : Met l yX5_perform wsX5_perform ({ frames := 3, cells := 0, slots := 0, locals := 81 }) (va_Pc [.ref aB, .ref aC, .int y2, .int y3] (wP D (tyL cI cJ cG) [(aB, .inr (5, [.ref aL, .ref aM, .ref aA, .ref aK, .ref aB_inputs, .int B_manyInputs, .int B_hintsDone, .ref aC1, .ref aC2, .ref aC3])), (aB_inputs, eG cG aB_r0 aB_r1 aB_r2 aB_r3 aB_r4 aB_r5 aB_r6 aB_r7), (aB_r0, eI cI 6 (B_inp 0)), (aB_r1, eI cI 6 (B_inp 1)), (aB_r2, eI cI 6 (B_inp 2)), (aB_r3, eI cI 6 (B_inp 3)), (aB_r4, eI cI 6 (B_inp 4)), (aB_r5, eI cI 6 (B_inp 5)), (aB_r6, eI cI 6 (B_inp 6)), (aB_r7, eI cI 6 (B_inp 7)), (aL, .inr (1, [.ref aL_kinds, .ref aL_vs, .ref aL_ws, .ref aL_roles, .ref aL_mates, .int L_many])), (aL_kinds, eI cI 16 L_kinds), (aL_vs, eI cI 16 L_vs), (aL_ws, eI cI 16 L_ws), (aL_roles, eI cI 16 L_roles), (aL_mates, eI cI 16 L_mates), (aM, .inr (4, [.ref aM_numbers, .ref aM_ranks, .ref aM_ahead, .int M_length, .ref aM_ways, .int M_waysCounted])), (aM_numbers, eI cI 12 M_numbers), (aA, .inr (0, [.ref aA_row, .int A_length])), (aA_row, eI cI 16 A_row), (aC, .inr (2, [.ref aC_variables, .ref aC_prints, .int C_manyPrints])), (aC_variables, eI cI 6 C_variables), (aC_prints, eI cI 16 C_prints)] sz)) (wQv D  [(aB, .inr (5, [.ref aL, .ref aM, .ref aA, .ref aK, .ref aB_inputs, .int B_manyInputs, .int B_hintsDone, .ref aC1, .ref aC2, .ref aC3])), (aB_inputs, eG cG aB_r0 aB_r1 aB_r2 aB_r3 aB_r4 aB_r5 aB_r6 aB_r7), (aB_r0, eI cI 6 (B_inp 0)), (aB_r1, eI cI 6 (B_inp 1)), (aB_r2, eI cI 6 (B_inp 2)), (aB_r3, eI cI 6 (B_inp 3)), (aB_r4, eI cI 6 (B_inp 4)), (aB_r5, eI cI 6 (B_inp 5)), (aB_r6, eI cI 6 (B_inp 6)), (aB_r7, eI cI 6 (B_inp 7)), (aL, .inr (1, [.ref aL_kinds, .ref aL_vs, .ref aL_ws, .ref aL_roles, .ref aL_mates, .int L_many])), (aL_kinds, eI cI 16 L_kinds), (aL_vs, eI cI 16 L_vs), (aL_ws, eI cI 16 L_ws), (aL_roles, eI cI 16 L_roles), (aL_mates, eI cI 16 L_mates), (aM, .inr (4, [.ref aM_numbers, .ref aM_ranks, .ref aM_ahead, .int M_length, .ref aM_ways, .int M_waysCounted])), (aM_numbers, eI cI 12 M_numbers), (aA, .inr (0, [.ref aA_row, .int A_length])), (aA_row, eI cI 16 A_row), (aC, .inr (2, [.ref aC_variables, .ref aC_prints, .int C_manyPrints])), (aC_variables, eI cI 6 C_variables), (aC_prints, eI cI 16 C_prints)] [(aB, .inr (5, [.ref aL, .ref aM, .ref aA, .ref aK, .ref aB_inputs, .int B_manyInputs, .int B_hintsDone, .ref aC1, .ref aC2, .ref aC3])), (aB_inputs, eG cG aB_r0 aB_r1 aB_r2 aB_r3 aB_r4 aB_r5 aB_r6 aB_r7), (aB_r0, eI cI 6 (B_inp 0)), (aB_r1, eI cI 6 (B_inp 1)), (aB_r2, eI cI 6 (B_inp 2)), (aB_r3, eI cI 6 (B_inp 3)), (aB_r4, eI cI 6 (B_inp 4)), (aB_r5, eI cI 6 (B_inp 5)), (aB_r6, eI cI 6 (B_inp 6)), (aB_r7, eI cI 6 (B_inp 7)), (aL, .inr (1, [.ref aL_kinds, .ref aL_vs, .ref aL_ws, .ref aL_roles, .ref aL_mates, .int L_many])), (aL_kinds, eI cI 16 L_kinds), (aL_vs, eI cI 16 L_vs), (aL_ws, eI cI 16 L_ws), (aL_roles, eI cI 16 L_roles), (aL_mates, eI cI 16 L_mates), (aM, .inr (4, [.ref aM_numbers, .ref aM_ranks, .ref aM_ahead, .int M_length, .ref aM_ways, .int M_waysCounted])), (aM_numbers, eI cI 12 M_numbers), (aA, .inr (0, [.ref aA_row, .int A_length])), (aA_row, eI cI 16 A_row), (aC, .inr (2, [.ref aC_variables, .ref aC_prints, .int out.1])), (aC_variables, eI cI 6 out.2.1), (aC_prints, eI cI 16 out.2.2)] sz) 0 0 (va_A [(aB, .inr (5, [.ref aL, .ref aM, .ref aA, .ref aK, .ref aB_inputs, .int B_manyInputs, .int B_hintsDone, .ref aC1, .ref aC2, .ref aC3])), (aB_inputs, eG cG aB_r0 aB_r1 aB_r2 aB_r3 aB_r4 aB_r5 aB_r6 aB_r7), (aB_r0, eI cI 6 (B_inp 0)), (aB_r1, eI cI 6 (B_inp 1)), (aB_r2, eI cI 6 (B_inp 2)), (aB_r3, eI cI 6 (B_inp 3)), (aB_r4, eI cI 6 (B_inp 4)), (aB_r5, eI cI 6 (B_inp 5)), (aB_r6, eI cI 6 (B_inp 6)), (aB_r7, eI cI 6 (B_inp 7)), (aL, .inr (1, [.ref aL_kinds, .ref aL_vs, .ref aL_ws, .ref aL_roles, .ref aL_mates, .int L_many])), (aL_kinds, eI cI 16 L_kinds), (aL_vs, eI cI 16 L_vs), (aL_ws, eI cI 16 L_ws), (aL_roles, eI cI 16 L_roles), (aL_mates, eI cI 16 L_mates), (aM, .inr (4, [.ref aM_numbers, .ref aM_ranks, .ref aM_ahead, .int M_length, .ref aM_ways, .int M_waysCounted])), (aM_numbers, eI cI 12 M_numbers), (aA, .inr (0, [.ref aA_row, .int A_length])), (aA_row, eI cI 16 A_row), (aC, .inr (2, [.ref aC_variables, .ref aC_prints, .int C_manyPrints])), (aC_variables, eI cI 6 C_variables), (aC_prints, eI cI 16 C_prints)] sz) := by
  refine Met.ofW (cc := cX5_perform) (maxL := 6) (ret := none) (by decide) rfl ?_
  intro p e s m args below meth c s₁ B hml hv
  obtain ⟨rfl, hsz, hP, hK, hD0⟩ := hv
  have hx := B.exec
  have hb := B.bytes
  have hr := B.returns
  have hts := atoms_spec (ws := wsX5_perform) B.pre
  have hown : s.vm.findClass RX5 = some m.cls := findClass_of_methodNamed B.named
  have hlocks := B.notSynchronized
  have iX0 : ∀ w ∈ wsX00, w ∈ wsX5_perform := by decide +kernel
  have iX4 : ∀ w ∈ wsX40, w ∈ wsX5_perform := by decide +kernel
  have iX5 : ∀ w ∈ wsX50, w ∈ wsX5_perform := by decide +kernel
  have k10 := hts (.fieldLink RX5 10 "BlockMarker" "lines" "LBlockMarker$Lines;") (by decide +kernel)
  have k19 := hts (.fieldLink RX5 19 "BlockMarker" "model" "LBlockMarker$Model;") (by decide +kernel)
  have k26 := hts (.fieldLink RX5 26 "BlockMarker" "answer" "LBlockMarker$Answer;") (by decide +kernel)
  have k41 := hts (.fieldLink RX5 41 "BlockMarker" "inputs" "[[I") (by decide +kernel)
  have n61 := va_Nw.use (A := ([.ref aB, .ref aC, .int y2, .int y3] : List Value).toArray) rfl (hK.2 (.fieldLinkNest "BlockMarker" 61 "BlockMarker$Model" "length" "I" "BlockMarker") (by decide +kernel))
  have n87 := va_Nw.use (A := ([.ref aB, .ref aC, .int y2, .int y3] : List Value).toArray) rfl (hK.2 (.fieldLinkNest "BlockMarker" 87 "BlockMarker$Answer" "length" "I" "BlockMarker") (by decide +kernel))
  subst hsz
  have hD := hD0.self (sz := s.heap.size)
  generalize hAe : va_A [(aB, .inr (5, [.ref aL, .ref aM, .ref aA, .ref aK, .ref aB_inputs, .int B_manyInputs, .int B_hintsDone, .ref aC1, .ref aC2, .ref aC3])), (aB_inputs, eG cG aB_r0 aB_r1 aB_r2 aB_r3 aB_r4 aB_r5 aB_r6 aB_r7), (aB_r0, eI cI 6 (B_inp 0)), (aB_r1, eI cI 6 (B_inp 1)), (aB_r2, eI cI 6 (B_inp 2)), (aB_r3, eI cI 6 (B_inp 3)), (aB_r4, eI cI 6 (B_inp 4)), (aB_r5, eI cI 6 (B_inp 5)), (aB_r6, eI cI 6 (B_inp 6)), (aB_r7, eI cI 6 (B_inp 7)), (aL, .inr (1, [.ref aL_kinds, .ref aL_vs, .ref aL_ws, .ref aL_roles, .ref aL_mates, .int L_many])), (aL_kinds, eI cI 16 L_kinds), (aL_vs, eI cI 16 L_vs), (aL_ws, eI cI 16 L_ws), (aL_roles, eI cI 16 L_roles), (aL_mates, eI cI 16 L_mates), (aM, .inr (4, [.ref aM_numbers, .ref aM_ranks, .ref aM_ahead, .int M_length, .ref aM_ways, .int M_waysCounted])), (aM_numbers, eI cI 12 M_numbers), (aA, .inr (0, [.ref aA_row, .int A_length])), (aA_row, eI cI 16 A_row), (aC, .inr (2, [.ref aC_variables, .ref aC_prints, .int C_manyPrints])), (aC_variables, eI cI 6 C_variables), (aC_prints, eI cI 16 C_prints)] s.heap.size = A at hD ⊢
  have hA : ∀ q : Nat, s.heap.size ≤ q → A q := fun q h => by rw [← hAe]; exact Or.inr h
  have hS : va_S A s.heap s.heap [] := va_S.rf
  have hl := lv_entry ([.ref aB, .ref aC, .int y2, .int y3]) (n := 6) (Nat.le_of_ble_eq_true rfl)
  rw [lg_entry_eq]
  generalize (lg_sl ([.ref aB, .ref aC, .int y2, .int y3]) ++ List.replicate (6 - (lg_sl ([.ref aB, .ref aC, .int y2, .int y3])).length) Slot.unset).toArray = ls at hl ⊢
  have hl : lv_has ls 6 [(0, .ref aB), (1, .ref aC), (2, .int y2), (3, .int y3)] := hl
  generalize hQQ : MQ below _ _ s 0 0 _ = QQ
  replace hQQ := hQQ.symm
  have b_36 : ∀ (n : Nat), ∀ (x3 : Int32) (x4 : Int32) (x5 : Int32) (C_manyPrints : Int32) (C_variables : (Nat → Int32)) (C_prints : (Nat → Int32)), fX5_perform_h36  n x3 x4 x5 B_inp L_many L_kinds L_vs L_ws L_roles L_mates M_length M_numbers A_length A_row C_manyPrints C_variables C_prints = some out → ∀ (H : Heap) (locs : List Loc) (ls : Array Slot), va_P D vwCl [(aB, .inr (5, [.ref aL, .ref aM, .ref aA, .ref aK, .ref aB_inputs, .int B_manyInputs, .int B_hintsDone, .ref aC1, .ref aC2, .ref aC3])), (aB_inputs, eG cG aB_r0 aB_r1 aB_r2 aB_r3 aB_r4 aB_r5 aB_r6 aB_r7), (aB_r0, eI cI 6 (B_inp 0)), (aB_r1, eI cI 6 (B_inp 1)), (aB_r2, eI cI 6 (B_inp 2)), (aB_r3, eI cI 6 (B_inp 3)), (aB_r4, eI cI 6 (B_inp 4)), (aB_r5, eI cI 6 (B_inp 5)), (aB_r6, eI cI 6 (B_inp 6)), (aB_r7, eI cI 6 (B_inp 7)), (aL, .inr (1, [.ref aL_kinds, .ref aL_vs, .ref aL_ws, .ref aL_roles, .ref aL_mates, .int L_many])), (aL_kinds, eI cI 16 L_kinds), (aL_vs, eI cI 16 L_vs), (aL_ws, eI cI 16 L_ws), (aL_roles, eI cI 16 L_roles), (aL_mates, eI cI 16 L_mates), (aM, .inr (4, [.ref aM_numbers, .ref aM_ranks, .ref aM_ahead, .int M_length, .ref aM_ways, .int M_waysCounted])), (aM_numbers, eI cI 12 M_numbers), (aA, .inr (0, [.ref aA_row, .int A_length])), (aA_row, eI cI 16 A_row), (aC, .inr (2, [.ref aC_variables, .ref aC_prints, .int C_manyPrints])), (aC_variables, eI cI 6 C_variables), (aC_prints, eI cI 16 C_prints)] H → va_D A [(aB, .inr (5, [.ref aL, .ref aM, .ref aA, .ref aK, .ref aB_inputs, .int B_manyInputs, .int B_hintsDone, .ref aC1, .ref aC2, .ref aC3])), (aB_inputs, eG cG aB_r0 aB_r1 aB_r2 aB_r3 aB_r4 aB_r5 aB_r6 aB_r7), (aB_r0, eI cI 6 (B_inp 0)), (aB_r1, eI cI 6 (B_inp 1)), (aB_r2, eI cI 6 (B_inp 2)), (aB_r3, eI cI 6 (B_inp 3)), (aB_r4, eI cI 6 (B_inp 4)), (aB_r5, eI cI 6 (B_inp 5)), (aB_r6, eI cI 6 (B_inp 6)), (aB_r7, eI cI 6 (B_inp 7)), (aL, .inr (1, [.ref aL_kinds, .ref aL_vs, .ref aL_ws, .ref aL_roles, .ref aL_mates, .int L_many])), (aL_kinds, eI cI 16 L_kinds), (aL_vs, eI cI 16 L_vs), (aL_ws, eI cI 16 L_ws), (aL_roles, eI cI 16 L_roles), (aL_mates, eI cI 16 L_mates), (aM, .inr (4, [.ref aM_numbers, .ref aM_ranks, .ref aM_ahead, .int M_length, .ref aM_ways, .int M_waysCounted])), (aM_numbers, eI cI 12 M_numbers), (aA, .inr (0, [.ref aA_row, .int A_length])), (aA_row, eI cI 16 A_row), (aC, .inr (2, [.ref aC_variables, .ref aC_prints, .int C_manyPrints])), (aC_variables, eI cI 6 C_variables), (aC_prints, eI cI 16 C_prints)] → va_S A s.heap H locs → lv_has ls 6 [(0, .ref aB), (1, .ref aC), (3, .int x3), (4, .int x4), (5, .int x5)] → W p l e (headSpec wsX5_perform { frames := 3, cells := 0, slots := 0, locals := 81 }).room s m ([.ref aB, .ref aC, .int y2, .int y3] : List Value).toArray below meth c H locs 0 0 QQ (F0 m 36 ls []) := by
    intro  n
    induction n with
    | zero => intro x3 x4 x5 C_manyPrints C_variables C_prints hf; exact nomatch (show (none : Option (Int32 × (Nat → Int32) × (Nat → Int32))) = some out from hf)
    | succ n ih =>
      intro x3 x4 x5 C_manyPrints C_variables C_prints hf H locs ls hP hD hS hl
      replace hf : uX5_perform_h36  (fX5_perform_h36  n) x3 x4 x5 B_inp L_many L_kinds L_vs L_ws L_roles L_mates M_length M_numbers A_length A_row C_manyPrints C_variables C_prints = some out := hf
      unfold uX5_perform_h36 at hf
      refine lv_iload hx hb dX5_perform_36 (lv_at hl 4 rfl) ?_
      refine lv_iload hx hb dX5_perform_38 (lv_at hl 3 rfl) ?_
      refine lv_icmp_ge (tgt := 82) hx hb dX5_perform_40 (by decide) (fun c40 => ?_) (fun c40 => ?_)
      · have hf := ifp hf c40
        rw [hQQ]
        exact W.vret hx hb hr (fun t ht hW => by rw [← Option.some.inj hf]; rw [← hAe] at hD hS; exact ⟨⟨(), rfl, trivial, by rw [ht]; exact hP, hD⟩, hS.F ht⟩) hS.2.2 dX5_perform_82
      · have hf := ifn hf c40
        refine lv_aload_n hx hb dX5_perform_43 rfl (lv_at hl 1 rfl) ?_
        refine lv_aload_n hx hb dX5_perform_44 rfl (lv_at hl 0 rfl) ?_
        refine va_get (D := D) (ci := 5) (v := .ref aL) (C := RX5) (T := TX5) (N := 10) hx hb hts iX5 hown hK.1 hP 0 rfl rfl 0 (by decide) k10 (fun _ h9 => h9) rfl dX5_perform_45 ?_
        refine lv_iload_n hx hb dX5_perform_48 rfl (lv_at hl 2 rfl) ?_
        refine lv_if_eq (tgt := 64) hx hb dX5_perform_49 (by decide) (fun c49 => ?_) (fun c49 => ?_)
        · have hf := ifp hf c49
          refine lv_aload_n hx hb dX5_perform_64 rfl (lv_at hl 0 rfl) ?_
          refine va_get (D := D) (ci := 5) (v := .ref aA) (C := RX5) (T := TX5) (N := 10) hx hb hts iX5 hown hK.1 hP 0 rfl rfl 2 (by decide) k26 (fun _ h9 => h9) rfl dX5_perform_65 ?_
          refine lv_iload hx hb dX5_perform_68 (lv_at hl 4 rfl) ?_
          refine bnd hf (fun o70 e70 hf => ?_)
          refine rdVi (As := [.int x5]) (rest := [.ref aL, .ref aC]) ⟨hx, hb, hml, hown, hts⟩ (tX0_lineAt l D cI cJ cG aA aA_row H x5 A_length A_row o70 e70) (cwV 1 hts gX5_perform_X0_lineAt rfl rfl rfl (by decide +kernel) ⟨Nat.le_of_ble_eq_true rfl, Nat.le_of_ble_eq_true rfl⟩) (va_recv (ci := 0) (q0 := 18) hK.1 hP rfl rfl) hK (hP.sub (ws' := [(aA, .inr (0, [.ref aA_row, .int A_length])), (aA_row, eI cI 16 A_row)]) [18, 19] rfl) rfl hl.1 rfl (lv_room (Nat.le_of_ble_eq_true rfl)) dX5_perform_70 ⟨Nat.le_of_ble_eq_true rfl, Nat.le_of_ble_eq_true rfl⟩ hS (fun locs hS => ?_)
          refine bnd hf (fun o73 e73 hf => ?_)
          refine wrVv (As := [.ref aL, .int o70]) (rest := []) (cw := [(aL, .inr (1, [.ref aL_kinds, .ref aL_vs, .ref aL_ws, .ref aL_roles, .ref aL_mates, .int L_many])), (aL_kinds, eI cI 16 L_kinds), (aL_vs, eI cI 16 L_vs), (aL_ws, eI cI 16 L_ws), (aL_roles, eI cI 16 L_roles), (aL_mates, eI cI 16 L_mates), (aC, .inr (2, [.ref aC_variables, .ref aC_prints, .int C_manyPrints])), (aC_variables, eI cI 6 C_variables), (aC_prints, eI cI 16 C_prints)]) (cw' := [(aL, .inr (1, [.ref aL_kinds, .ref aL_vs, .ref aL_ws, .ref aL_roles, .ref aL_mates, .int L_many])), (aL_kinds, eI cI 16 L_kinds), (aL_vs, eI cI 16 L_vs), (aL_ws, eI cI 16 L_ws), (aL_roles, eI cI 16 L_roles), (aL_mates, eI cI 16 L_mates), (aC, .inr (2, [.ref aC_variables, .ref aC_prints, .int o73.1])), (aC_variables, eI cI 6 o73.2.1), (aC_prints, eI cI 16 o73.2.2)]) (wr := [(aB, .inr (5, [.ref aL, .ref aM, .ref aA, .ref aK, .ref aB_inputs, .int B_manyInputs, .int B_hintsDone, .ref aC1, .ref aC2, .ref aC3])), (aB_inputs, eG cG aB_r0 aB_r1 aB_r2 aB_r3 aB_r4 aB_r5 aB_r6 aB_r7), (aB_r0, eI cI 6 (B_inp 0)), (aB_r1, eI cI 6 (B_inp 1)), (aB_r2, eI cI 6 (B_inp 2)), (aB_r3, eI cI 6 (B_inp 3)), (aB_r4, eI cI 6 (B_inp 4)), (aB_r5, eI cI 6 (B_inp 5)), (aB_r6, eI cI 6 (B_inp 6)), (aB_r7, eI cI 6 (B_inp 7)), (aM, .inr (4, [.ref aM_numbers, .ref aM_ranks, .ref aM_ahead, .int M_length, .ref aM_ways, .int M_waysCounted])), (aM_numbers, eI cI 12 M_numbers), (aA, .inr (0, [.ref aA_row, .int A_length])), (aA_row, eI cI 16 A_row)]) (ws2 := [(aB, .inr (5, [.ref aL, .ref aM, .ref aA, .ref aK, .ref aB_inputs, .int B_manyInputs, .int B_hintsDone, .ref aC1, .ref aC2, .ref aC3])), (aB_inputs, eG cG aB_r0 aB_r1 aB_r2 aB_r3 aB_r4 aB_r5 aB_r6 aB_r7), (aB_r0, eI cI 6 (B_inp 0)), (aB_r1, eI cI 6 (B_inp 1)), (aB_r2, eI cI 6 (B_inp 2)), (aB_r3, eI cI 6 (B_inp 3)), (aB_r4, eI cI 6 (B_inp 4)), (aB_r5, eI cI 6 (B_inp 5)), (aB_r6, eI cI 6 (B_inp 6)), (aB_r7, eI cI 6 (B_inp 7)), (aL, .inr (1, [.ref aL_kinds, .ref aL_vs, .ref aL_ws, .ref aL_roles, .ref aL_mates, .int L_many])), (aL_kinds, eI cI 16 L_kinds), (aL_vs, eI cI 16 L_vs), (aL_ws, eI cI 16 L_ws), (aL_roles, eI cI 16 L_roles), (aL_mates, eI cI 16 L_mates), (aM, .inr (4, [.ref aM_numbers, .ref aM_ranks, .ref aM_ahead, .int M_length, .ref aM_ways, .int M_waysCounted])), (aM_numbers, eI cI 12 M_numbers), (aA, .inr (0, [.ref aA_row, .int A_length])), (aA_row, eI cI 16 A_row), (aC, .inr (2, [.ref aC_variables, .ref aC_prints, .int o73.1])), (aC_variables, eI cI 6 o73.2.1), (aC_prints, eI cI 16 o73.2.2)]) ⟨hx, hb, hml, hown, hts⟩ (tX2_step l D cI cJ cG aL aL_kinds aL_vs aL_ws aL_roles aL_mates aC aC_variables aC_prints H.size o70 L_many L_kinds L_vs L_ws L_roles L_mates C_manyPrints C_variables C_prints o73 e73) (cwV 2 hts gX5_perform_X2_step rfl rfl rfl (by decide +kernel) ⟨Nat.le_of_ble_eq_true rfl, Nat.le_of_ble_eq_true rfl⟩) (va_recv (ci := 2) (q0 := 20) hK.1 hP rfl rfl) hK hP hD hS hA [10, 11, 12, 13, 14, 15, 20, 21, 22] [0, 1, 2, 3, 4, 5, 6, 7, 8, 9, 16, 17, 18, 19] [0, 1, 2, 3, 4, 5, 6, 7, 8, 9, 14, 15, 16, 17, 18, 19, 10, 11, 12, 13, 20, 21, 22] rfl rfl rfl (by decide) (by decide) (by decide) (by decide) rfl hl.1 rfl (lv_room (Nat.le_of_ble_eq_true rfl)) dX5_perform_73 ⟨Nat.le_of_ble_eq_true rfl, Nat.le_of_ble_eq_true rfl⟩ (fun H locs hP hD hS => ?_)
          refine lv_iinc (v := (x5 + (1 : Int32))) (lv' := [(5, .int (x5 + (1 : Int32))), (0, .ref aB), (1, .ref aC), (3, .int x3), (4, .int x4)]) hx hb dX5_perform_76 hl (k := 4) rfl rfl (by decide) rfl (fun ls hl => ?_)
          refine lv_goto (tgt := 36) hx hb dX5_perform_79 (by decide) ?_
          exact ih x3 x4 (x5 + (1 : Int32)) o73.1 o73.2.1 o73.2.2 hf _ _ _ hP hD hS (lv_sub hl [1, 2, 3, 4, 0] rfl)
        · have hf := ifn hf c49
          refine lv_aload_n hx hb dX5_perform_52 rfl (lv_at hl 0 rfl) ?_
          refine va_get (D := D) (ci := 5) (v := .ref aM) (C := RX5) (T := TX5) (N := 10) hx hb hts iX5 hown hK.1 hP 0 rfl rfl 1 (by decide) k19 (fun _ h9 => h9) rfl dX5_perform_53 ?_
          refine lv_iload hx hb dX5_perform_56 (lv_at hl 4 rfl) ?_
          refine bnd hf (fun o58 e58 hf => ?_)
          refine rdVi (As := [.int x5]) (rest := [.ref aL, .ref aC]) ⟨hx, hb, hml, hown, hts⟩ (tX4_lineOf l D cI cJ cG aM aM_numbers aM_ranks aM_ahead aM_ways H x5 M_length M_waysCounted M_numbers o58 e58) (cwV 1 hts gX5_perform_X4_lineOf rfl rfl rfl (by decide +kernel) ⟨Nat.le_of_ble_eq_true rfl, Nat.le_of_ble_eq_true rfl⟩) (va_recv (ci := 4) (q0 := 16) hK.1 hP rfl rfl) hK (hP.sub (ws' := [(aM, .inr (4, [.ref aM_numbers, .ref aM_ranks, .ref aM_ahead, .int M_length, .ref aM_ways, .int M_waysCounted])), (aM_numbers, eI cI 12 M_numbers)]) [16, 17] rfl) rfl hl.1 rfl (lv_room (Nat.le_of_ble_eq_true rfl)) dX5_perform_58 ⟨Nat.le_of_ble_eq_true rfl, Nat.le_of_ble_eq_true rfl⟩ hS (fun locs hS => ?_)
          refine lv_goto (tgt := 73) hx hb dX5_perform_61 (by decide) ?_
          refine bnd hf (fun o73 e73 hf => ?_)
          refine wrVv (As := [.ref aL, .int o58]) (rest := []) (cw := [(aL, .inr (1, [.ref aL_kinds, .ref aL_vs, .ref aL_ws, .ref aL_roles, .ref aL_mates, .int L_many])), (aL_kinds, eI cI 16 L_kinds), (aL_vs, eI cI 16 L_vs), (aL_ws, eI cI 16 L_ws), (aL_roles, eI cI 16 L_roles), (aL_mates, eI cI 16 L_mates), (aC, .inr (2, [.ref aC_variables, .ref aC_prints, .int C_manyPrints])), (aC_variables, eI cI 6 C_variables), (aC_prints, eI cI 16 C_prints)]) (cw' := [(aL, .inr (1, [.ref aL_kinds, .ref aL_vs, .ref aL_ws, .ref aL_roles, .ref aL_mates, .int L_many])), (aL_kinds, eI cI 16 L_kinds), (aL_vs, eI cI 16 L_vs), (aL_ws, eI cI 16 L_ws), (aL_roles, eI cI 16 L_roles), (aL_mates, eI cI 16 L_mates), (aC, .inr (2, [.ref aC_variables, .ref aC_prints, .int o73.1])), (aC_variables, eI cI 6 o73.2.1), (aC_prints, eI cI 16 o73.2.2)]) (wr := [(aB, .inr (5, [.ref aL, .ref aM, .ref aA, .ref aK, .ref aB_inputs, .int B_manyInputs, .int B_hintsDone, .ref aC1, .ref aC2, .ref aC3])), (aB_inputs, eG cG aB_r0 aB_r1 aB_r2 aB_r3 aB_r4 aB_r5 aB_r6 aB_r7), (aB_r0, eI cI 6 (B_inp 0)), (aB_r1, eI cI 6 (B_inp 1)), (aB_r2, eI cI 6 (B_inp 2)), (aB_r3, eI cI 6 (B_inp 3)), (aB_r4, eI cI 6 (B_inp 4)), (aB_r5, eI cI 6 (B_inp 5)), (aB_r6, eI cI 6 (B_inp 6)), (aB_r7, eI cI 6 (B_inp 7)), (aM, .inr (4, [.ref aM_numbers, .ref aM_ranks, .ref aM_ahead, .int M_length, .ref aM_ways, .int M_waysCounted])), (aM_numbers, eI cI 12 M_numbers), (aA, .inr (0, [.ref aA_row, .int A_length])), (aA_row, eI cI 16 A_row)]) (ws2 := [(aB, .inr (5, [.ref aL, .ref aM, .ref aA, .ref aK, .ref aB_inputs, .int B_manyInputs, .int B_hintsDone, .ref aC1, .ref aC2, .ref aC3])), (aB_inputs, eG cG aB_r0 aB_r1 aB_r2 aB_r3 aB_r4 aB_r5 aB_r6 aB_r7), (aB_r0, eI cI 6 (B_inp 0)), (aB_r1, eI cI 6 (B_inp 1)), (aB_r2, eI cI 6 (B_inp 2)), (aB_r3, eI cI 6 (B_inp 3)), (aB_r4, eI cI 6 (B_inp 4)), (aB_r5, eI cI 6 (B_inp 5)), (aB_r6, eI cI 6 (B_inp 6)), (aB_r7, eI cI 6 (B_inp 7)), (aL, .inr (1, [.ref aL_kinds, .ref aL_vs, .ref aL_ws, .ref aL_roles, .ref aL_mates, .int L_many])), (aL_kinds, eI cI 16 L_kinds), (aL_vs, eI cI 16 L_vs), (aL_ws, eI cI 16 L_ws), (aL_roles, eI cI 16 L_roles), (aL_mates, eI cI 16 L_mates), (aM, .inr (4, [.ref aM_numbers, .ref aM_ranks, .ref aM_ahead, .int M_length, .ref aM_ways, .int M_waysCounted])), (aM_numbers, eI cI 12 M_numbers), (aA, .inr (0, [.ref aA_row, .int A_length])), (aA_row, eI cI 16 A_row), (aC, .inr (2, [.ref aC_variables, .ref aC_prints, .int o73.1])), (aC_variables, eI cI 6 o73.2.1), (aC_prints, eI cI 16 o73.2.2)]) ⟨hx, hb, hml, hown, hts⟩ (tX2_step l D cI cJ cG aL aL_kinds aL_vs aL_ws aL_roles aL_mates aC aC_variables aC_prints H.size o58 L_many L_kinds L_vs L_ws L_roles L_mates C_manyPrints C_variables C_prints o73 e73) (cwV 2 hts gX5_perform_X2_step rfl rfl rfl (by decide +kernel) ⟨Nat.le_of_ble_eq_true rfl, Nat.le_of_ble_eq_true rfl⟩) (va_recv (ci := 2) (q0 := 20) hK.1 hP rfl rfl) hK hP hD hS hA [10, 11, 12, 13, 14, 15, 20, 21, 22] [0, 1, 2, 3, 4, 5, 6, 7, 8, 9, 16, 17, 18, 19] [0, 1, 2, 3, 4, 5, 6, 7, 8, 9, 14, 15, 16, 17, 18, 19, 10, 11, 12, 13, 20, 21, 22] rfl rfl rfl (by decide) (by decide) (by decide) (by decide) rfl hl.1 rfl (lv_room (Nat.le_of_ble_eq_true rfl)) dX5_perform_73 ⟨Nat.le_of_ble_eq_true rfl, Nat.le_of_ble_eq_true rfl⟩ (fun H locs hP hD hS => ?_)
          refine lv_iinc (v := (x5 + (1 : Int32))) (lv' := [(5, .int (x5 + (1 : Int32))), (0, .ref aB), (1, .ref aC), (3, .int x3), (4, .int x4)]) hx hb dX5_perform_76 hl (k := 4) rfl rfl (by decide) rfl (fun ls hl => ?_)
          refine lv_goto (tgt := 36) hx hb dX5_perform_79 (by decide) ?_
          exact ih x3 x4 (x5 + (1 : Int32)) o73.1 o73.2.1 o73.2.2 hf _ _ _ hP hD hS (lv_sub hl [1, 2, 3, 4, 0] rfl)
  have b_10 : ∀ (x3 : Int32) (C_manyPrints : Int32) (C_variables : (Nat → Int32)) (C_prints : (Nat → Int32)), fX5_perform_b10  x3 B_inp L_many L_kinds L_vs L_ws L_roles L_mates M_length M_numbers A_length A_row C_manyPrints C_variables C_prints = some out → ∀ (H : Heap) (locs : List Loc) (ls : Array Slot), va_P D vwCl [(aB, .inr (5, [.ref aL, .ref aM, .ref aA, .ref aK, .ref aB_inputs, .int B_manyInputs, .int B_hintsDone, .ref aC1, .ref aC2, .ref aC3])), (aB_inputs, eG cG aB_r0 aB_r1 aB_r2 aB_r3 aB_r4 aB_r5 aB_r6 aB_r7), (aB_r0, eI cI 6 (B_inp 0)), (aB_r1, eI cI 6 (B_inp 1)), (aB_r2, eI cI 6 (B_inp 2)), (aB_r3, eI cI 6 (B_inp 3)), (aB_r4, eI cI 6 (B_inp 4)), (aB_r5, eI cI 6 (B_inp 5)), (aB_r6, eI cI 6 (B_inp 6)), (aB_r7, eI cI 6 (B_inp 7)), (aL, .inr (1, [.ref aL_kinds, .ref aL_vs, .ref aL_ws, .ref aL_roles, .ref aL_mates, .int L_many])), (aL_kinds, eI cI 16 L_kinds), (aL_vs, eI cI 16 L_vs), (aL_ws, eI cI 16 L_ws), (aL_roles, eI cI 16 L_roles), (aL_mates, eI cI 16 L_mates), (aM, .inr (4, [.ref aM_numbers, .ref aM_ranks, .ref aM_ahead, .int M_length, .ref aM_ways, .int M_waysCounted])), (aM_numbers, eI cI 12 M_numbers), (aA, .inr (0, [.ref aA_row, .int A_length])), (aA_row, eI cI 16 A_row), (aC, .inr (2, [.ref aC_variables, .ref aC_prints, .int C_manyPrints])), (aC_variables, eI cI 6 C_variables), (aC_prints, eI cI 16 C_prints)] H → va_D A [(aB, .inr (5, [.ref aL, .ref aM, .ref aA, .ref aK, .ref aB_inputs, .int B_manyInputs, .int B_hintsDone, .ref aC1, .ref aC2, .ref aC3])), (aB_inputs, eG cG aB_r0 aB_r1 aB_r2 aB_r3 aB_r4 aB_r5 aB_r6 aB_r7), (aB_r0, eI cI 6 (B_inp 0)), (aB_r1, eI cI 6 (B_inp 1)), (aB_r2, eI cI 6 (B_inp 2)), (aB_r3, eI cI 6 (B_inp 3)), (aB_r4, eI cI 6 (B_inp 4)), (aB_r5, eI cI 6 (B_inp 5)), (aB_r6, eI cI 6 (B_inp 6)), (aB_r7, eI cI 6 (B_inp 7)), (aL, .inr (1, [.ref aL_kinds, .ref aL_vs, .ref aL_ws, .ref aL_roles, .ref aL_mates, .int L_many])), (aL_kinds, eI cI 16 L_kinds), (aL_vs, eI cI 16 L_vs), (aL_ws, eI cI 16 L_ws), (aL_roles, eI cI 16 L_roles), (aL_mates, eI cI 16 L_mates), (aM, .inr (4, [.ref aM_numbers, .ref aM_ranks, .ref aM_ahead, .int M_length, .ref aM_ways, .int M_waysCounted])), (aM_numbers, eI cI 12 M_numbers), (aA, .inr (0, [.ref aA_row, .int A_length])), (aA_row, eI cI 16 A_row), (aC, .inr (2, [.ref aC_variables, .ref aC_prints, .int C_manyPrints])), (aC_variables, eI cI 6 C_variables), (aC_prints, eI cI 16 C_prints)] → va_S A s.heap H locs → lv_has ls 6 [(0, .ref aB), (1, .ref aC), (3, .int x3)] → W p l e (headSpec wsX5_perform { frames := 3, cells := 0, slots := 0, locals := 81 }).room s m ([.ref aB, .ref aC, .int y2, .int y3] : List Value).toArray below meth c H locs 0 0 QQ (F0 m 10 ls []) := by
    intro  x3 C_manyPrints C_variables C_prints hf H locs ls hP hD hS hl
    unfold fX5_perform_b10 at hf
    refine lv_iload_n hx hb dX5_perform_10 rfl (lv_at hl 2 rfl) ?_
    refine lv_if_eq (tgt := 24) hx hb dX5_perform_11 (by decide) (fun c11 => ?_) (fun c11 => ?_)
    · have hf := ifp hf c11
      refine lv_aload_n hx hb dX5_perform_24 rfl (lv_at hl 0 rfl) ?_
      refine va_get (D := D) (ci := 5) (v := .ref aA) (C := RX5) (T := TX5) (N := 10) hx hb hts iX5 hown hK.1 hP 0 rfl rfl 2 (by decide) k26 (fun _ h9 => h9) rfl dX5_perform_25 ?_
      refine va_getN (D := D) (ci := 0) (v := .int A_length) (C := RX0) (T := TX0) (N := 2) hx hb hts iX0 hown hK.1 hP 18 rfl rfl 1 (by decide) n87 (fun _ h9 => h9) rfl dX5_perform_28 ?_
      refine lv_istore (lv' := [(4, .int A_length), (0, .ref aB), (1, .ref aC), (3, .int x3)]) hx hb dX5_perform_31 hl (by decide) rfl (fun ls hl => ?_)
      refine lv_iconst (v := (0 : Int32)) hx hb dX5_perform_33 (by decide) ?_
      refine lv_istore (lv' := [(5, .int (0 : Int32)), (4, .int A_length), (0, .ref aB), (1, .ref aC), (3, .int x3)]) hx hb dX5_perform_34 hl (by decide) rfl (fun ls hl => ?_)
      exact b_36 FU x3 A_length (0 : Int32) C_manyPrints C_variables C_prints hf _ _ _ hP hD hS (lv_sub hl [2, 3, 4, 1, 0] rfl)
    · have hf := ifn hf c11
      refine lv_aload_n hx hb dX5_perform_14 rfl (lv_at hl 0 rfl) ?_
      refine va_get (D := D) (ci := 5) (v := .ref aM) (C := RX5) (T := TX5) (N := 10) hx hb hts iX5 hown hK.1 hP 0 rfl rfl 1 (by decide) k19 (fun _ h9 => h9) rfl dX5_perform_15 ?_
      refine va_getN (D := D) (ci := 4) (v := .int M_length) (C := RX4) (T := TX4) (N := 6) hx hb hts iX4 hown hK.1 hP 16 rfl rfl 3 (by decide) n61 (fun _ h9 => h9) rfl dX5_perform_18 ?_
      refine lv_goto (tgt := 31) hx hb dX5_perform_21 (by decide) ?_
      refine lv_istore (lv' := [(4, .int M_length), (0, .ref aB), (1, .ref aC), (3, .int x3)]) hx hb dX5_perform_31 hl (by decide) rfl (fun ls hl => ?_)
      refine lv_iconst (v := (0 : Int32)) hx hb dX5_perform_33 (by decide) ?_
      refine lv_istore (lv' := [(5, .int (0 : Int32)), (4, .int M_length), (0, .ref aB), (1, .ref aC), (3, .int x3)]) hx hb dX5_perform_34 hl (by decide) rfl (fun ls hl => ?_)
      exact b_36 FU x3 M_length (0 : Int32) C_manyPrints C_variables C_prints hf _ _ _ hP hD hS (lv_sub hl [2, 3, 4, 1, 0] rfl)
  generalize hHH : s.heap = H at hP ⊢
  have hS : va_S A s.heap H [] := by rw [← hHH]; exact va_S.rf
  generalize ([] : List Loc) = locs at hS ⊢
  unfold fX5_perform at hf
  refine lv_aload_n hx hb dX5_perform_0 rfl (lv_at hl 1 rfl) ?_
  refine lv_aload_n hx hb dX5_perform_1 rfl (lv_at hl 0 rfl) ?_
  refine va_get (D := D) (ci := 5) (v := .ref aB_inputs) (C := RX5) (T := TX5) (N := 10) hx hb hts iX5 hown hK.1 hP 0 rfl rfl 4 (by decide) k41 (fun _ h9 => h9) rfl dX5_perform_2 ?_
  refine lv_iload_n hx hb dX5_perform_5 rfl (lv_at hl 2 rfl) ?_
  refine ckE hf (fun h6 hf => ?_)
  obtain ⟨k6, hk6, ek6⟩ := vp_in_of (inB_in h6) (by decide)
  have e6 : (y2).toNatClampNeg = k6 := by rw [ek6]; exact nI_clamp (by omega)
  rw [e6] at hf
  refine aldA hx hb hK.1 hP 1 2 rfl rfl (inB_in h6) dX5_perform_6 ?_
  rw [e6]
  rcases (show k6 = 0 ∨ k6 = 1 ∨ k6 = 2 ∨ k6 = 3 ∨ k6 = 4 ∨ k6 = 5 ∨ k6 = 6 ∨ k6 = 7 by omega) with rfl | rfl | rfl | rfl | rfl | rfl | rfl | rfl
  · refine W.eq (g2 := F0 m 7 ls [.ref aB_r0, .ref aC]) rfl ?_
    refine bnd hf (fun o7 e7 hf => ?_)
    refine wrVv (As := [.ref aB_r0]) (rest := []) (cw := [(aC, .inr (2, [.ref aC_variables, .ref aC_prints, .int C_manyPrints])), (aC_variables, eI cI 6 C_variables), (aB_r0, eI cI 6 (B_inp 0))]) (cw' := [(aC, .inr (2, [.ref aC_variables, .ref aC_prints, .int o7.1])), (aC_variables, eI cI 6 o7.2), (aB_r0, eI cI 6 (B_inp 0))]) (wr := [(aB, .inr (5, [.ref aL, .ref aM, .ref aA, .ref aK, .ref aB_inputs, .int B_manyInputs, .int B_hintsDone, .ref aC1, .ref aC2, .ref aC3])), (aB_inputs, eG cG aB_r0 aB_r1 aB_r2 aB_r3 aB_r4 aB_r5 aB_r6 aB_r7), (aB_r1, eI cI 6 (B_inp 1)), (aB_r2, eI cI 6 (B_inp 2)), (aB_r3, eI cI 6 (B_inp 3)), (aB_r4, eI cI 6 (B_inp 4)), (aB_r5, eI cI 6 (B_inp 5)), (aB_r6, eI cI 6 (B_inp 6)), (aB_r7, eI cI 6 (B_inp 7)), (aL, .inr (1, [.ref aL_kinds, .ref aL_vs, .ref aL_ws, .ref aL_roles, .ref aL_mates, .int L_many])), (aL_kinds, eI cI 16 L_kinds), (aL_vs, eI cI 16 L_vs), (aL_ws, eI cI 16 L_ws), (aL_roles, eI cI 16 L_roles), (aL_mates, eI cI 16 L_mates), (aM, .inr (4, [.ref aM_numbers, .ref aM_ranks, .ref aM_ahead, .int M_length, .ref aM_ways, .int M_waysCounted])), (aM_numbers, eI cI 12 M_numbers), (aA, .inr (0, [.ref aA_row, .int A_length])), (aA_row, eI cI 16 A_row), (aC_prints, eI cI 16 C_prints)]) (ws2 := [(aB, .inr (5, [.ref aL, .ref aM, .ref aA, .ref aK, .ref aB_inputs, .int B_manyInputs, .int B_hintsDone, .ref aC1, .ref aC2, .ref aC3])), (aB_inputs, eG cG aB_r0 aB_r1 aB_r2 aB_r3 aB_r4 aB_r5 aB_r6 aB_r7), (aB_r0, eI cI 6 (B_inp 0)), (aB_r1, eI cI 6 (B_inp 1)), (aB_r2, eI cI 6 (B_inp 2)), (aB_r3, eI cI 6 (B_inp 3)), (aB_r4, eI cI 6 (B_inp 4)), (aB_r5, eI cI 6 (B_inp 5)), (aB_r6, eI cI 6 (B_inp 6)), (aB_r7, eI cI 6 (B_inp 7)), (aL, .inr (1, [.ref aL_kinds, .ref aL_vs, .ref aL_ws, .ref aL_roles, .ref aL_mates, .int L_many])), (aL_kinds, eI cI 16 L_kinds), (aL_vs, eI cI 16 L_vs), (aL_ws, eI cI 16 L_ws), (aL_roles, eI cI 16 L_roles), (aL_mates, eI cI 16 L_mates), (aM, .inr (4, [.ref aM_numbers, .ref aM_ranks, .ref aM_ahead, .int M_length, .ref aM_ways, .int M_waysCounted])), (aM_numbers, eI cI 12 M_numbers), (aA, .inr (0, [.ref aA_row, .int A_length])), (aA_row, eI cI 16 A_row), (aC, .inr (2, [.ref aC_variables, .ref aC_prints, .int o7.1])), (aC_variables, eI cI 6 o7.2), (aC_prints, eI cI 16 C_prints)]) ⟨hx, hb, hml, hown, hts⟩ (tX2_start l D cI cJ cG aC aC_variables aC_prints aB_r0 H.size  C_manyPrints C_variables (B_inp 0) o7 e7) (cwV 1 hts gX5_perform_X2_start rfl rfl rfl (by decide +kernel) ⟨Nat.le_of_ble_eq_true rfl, Nat.le_of_ble_eq_true rfl⟩) (va_recv (ci := 2) (q0 := 20) hK.1 hP rfl rfl) hK hP hD hS hA [20, 21, 2] [0, 1, 3, 4, 5, 6, 7, 8, 9, 10, 11, 12, 13, 14, 15, 16, 17, 18, 19, 22] [0, 1, 22, 2, 3, 4, 5, 6, 7, 8, 9, 10, 11, 12, 13, 14, 15, 16, 17, 18, 20, 21, 19] rfl rfl rfl (by decide) (by decide) (by decide) (by decide) rfl hl.1 rfl (lv_room (Nat.le_of_ble_eq_true rfl)) dX5_perform_7 ⟨Nat.le_of_ble_eq_true rfl, Nat.le_of_ble_eq_true rfl⟩ (fun H locs hP hD hS => ?_)
    have hP : va_P D vwCl [(aB, .inr (5, [.ref aL, .ref aM, .ref aA, .ref aK, .ref aB_inputs, .int B_manyInputs, .int B_hintsDone, .ref aC1, .ref aC2, .ref aC3])), (aB_inputs, eG cG aB_r0 aB_r1 aB_r2 aB_r3 aB_r4 aB_r5 aB_r6 aB_r7), (aB_r0, eI cI 6 (B_inp 0)), (aB_r1, eI cI 6 (B_inp 1)), (aB_r2, eI cI 6 (B_inp 2)), (aB_r3, eI cI 6 (B_inp 3)), (aB_r4, eI cI 6 (B_inp 4)), (aB_r5, eI cI 6 (B_inp 5)), (aB_r6, eI cI 6 (B_inp 6)), (aB_r7, eI cI 6 (B_inp 7)), (aL, .inr (1, [.ref aL_kinds, .ref aL_vs, .ref aL_ws, .ref aL_roles, .ref aL_mates, .int L_many])), (aL_kinds, eI cI 16 L_kinds), (aL_vs, eI cI 16 L_vs), (aL_ws, eI cI 16 L_ws), (aL_roles, eI cI 16 L_roles), (aL_mates, eI cI 16 L_mates), (aM, .inr (4, [.ref aM_numbers, .ref aM_ranks, .ref aM_ahead, .int M_length, .ref aM_ways, .int M_waysCounted])), (aM_numbers, eI cI 12 M_numbers), (aA, .inr (0, [.ref aA_row, .int A_length])), (aA_row, eI cI 16 A_row), (aC, .inr (2, [.ref aC_variables, .ref aC_prints, .int o7.1])), (aC_variables, eI cI 6 o7.2), (aC_prints, eI cI 16 C_prints)] H := hP
    have hD : va_D A [(aB, .inr (5, [.ref aL, .ref aM, .ref aA, .ref aK, .ref aB_inputs, .int B_manyInputs, .int B_hintsDone, .ref aC1, .ref aC2, .ref aC3])), (aB_inputs, eG cG aB_r0 aB_r1 aB_r2 aB_r3 aB_r4 aB_r5 aB_r6 aB_r7), (aB_r0, eI cI 6 (B_inp 0)), (aB_r1, eI cI 6 (B_inp 1)), (aB_r2, eI cI 6 (B_inp 2)), (aB_r3, eI cI 6 (B_inp 3)), (aB_r4, eI cI 6 (B_inp 4)), (aB_r5, eI cI 6 (B_inp 5)), (aB_r6, eI cI 6 (B_inp 6)), (aB_r7, eI cI 6 (B_inp 7)), (aL, .inr (1, [.ref aL_kinds, .ref aL_vs, .ref aL_ws, .ref aL_roles, .ref aL_mates, .int L_many])), (aL_kinds, eI cI 16 L_kinds), (aL_vs, eI cI 16 L_vs), (aL_ws, eI cI 16 L_ws), (aL_roles, eI cI 16 L_roles), (aL_mates, eI cI 16 L_mates), (aM, .inr (4, [.ref aM_numbers, .ref aM_ranks, .ref aM_ahead, .int M_length, .ref aM_ways, .int M_waysCounted])), (aM_numbers, eI cI 12 M_numbers), (aA, .inr (0, [.ref aA_row, .int A_length])), (aA_row, eI cI 16 A_row), (aC, .inr (2, [.ref aC_variables, .ref aC_prints, .int o7.1])), (aC_variables, eI cI 6 o7.2), (aC_prints, eI cI 16 C_prints)] := hD
    exact b_10 y3 o7.1 o7.2 C_prints hf _ _ _ hP hD hS (lv_sub hl [0, 1, 3] rfl)
  · refine W.eq (g2 := F0 m 7 ls [.ref aB_r1, .ref aC]) rfl ?_
    refine bnd hf (fun o7 e7 hf => ?_)
    refine wrVv (As := [.ref aB_r1]) (rest := []) (cw := [(aC, .inr (2, [.ref aC_variables, .ref aC_prints, .int C_manyPrints])), (aC_variables, eI cI 6 C_variables), (aB_r1, eI cI 6 (B_inp 1))]) (cw' := [(aC, .inr (2, [.ref aC_variables, .ref aC_prints, .int o7.1])), (aC_variables, eI cI 6 o7.2), (aB_r1, eI cI 6 (B_inp 1))]) (wr := [(aB, .inr (5, [.ref aL, .ref aM, .ref aA, .ref aK, .ref aB_inputs, .int B_manyInputs, .int B_hintsDone, .ref aC1, .ref aC2, .ref aC3])), (aB_inputs, eG cG aB_r0 aB_r1 aB_r2 aB_r3 aB_r4 aB_r5 aB_r6 aB_r7), (aB_r0, eI cI 6 (B_inp 0)), (aB_r2, eI cI 6 (B_inp 2)), (aB_r3, eI cI 6 (B_inp 3)), (aB_r4, eI cI 6 (B_inp 4)), (aB_r5, eI cI 6 (B_inp 5)), (aB_r6, eI cI 6 (B_inp 6)), (aB_r7, eI cI 6 (B_inp 7)), (aL, .inr (1, [.ref aL_kinds, .ref aL_vs, .ref aL_ws, .ref aL_roles, .ref aL_mates, .int L_many])), (aL_kinds, eI cI 16 L_kinds), (aL_vs, eI cI 16 L_vs), (aL_ws, eI cI 16 L_ws), (aL_roles, eI cI 16 L_roles), (aL_mates, eI cI 16 L_mates), (aM, .inr (4, [.ref aM_numbers, .ref aM_ranks, .ref aM_ahead, .int M_length, .ref aM_ways, .int M_waysCounted])), (aM_numbers, eI cI 12 M_numbers), (aA, .inr (0, [.ref aA_row, .int A_length])), (aA_row, eI cI 16 A_row), (aC_prints, eI cI 16 C_prints)]) (ws2 := [(aB, .inr (5, [.ref aL, .ref aM, .ref aA, .ref aK, .ref aB_inputs, .int B_manyInputs, .int B_hintsDone, .ref aC1, .ref aC2, .ref aC3])), (aB_inputs, eG cG aB_r0 aB_r1 aB_r2 aB_r3 aB_r4 aB_r5 aB_r6 aB_r7), (aB_r0, eI cI 6 (B_inp 0)), (aB_r1, eI cI 6 (B_inp 1)), (aB_r2, eI cI 6 (B_inp 2)), (aB_r3, eI cI 6 (B_inp 3)), (aB_r4, eI cI 6 (B_inp 4)), (aB_r5, eI cI 6 (B_inp 5)), (aB_r6, eI cI 6 (B_inp 6)), (aB_r7, eI cI 6 (B_inp 7)), (aL, .inr (1, [.ref aL_kinds, .ref aL_vs, .ref aL_ws, .ref aL_roles, .ref aL_mates, .int L_many])), (aL_kinds, eI cI 16 L_kinds), (aL_vs, eI cI 16 L_vs), (aL_ws, eI cI 16 L_ws), (aL_roles, eI cI 16 L_roles), (aL_mates, eI cI 16 L_mates), (aM, .inr (4, [.ref aM_numbers, .ref aM_ranks, .ref aM_ahead, .int M_length, .ref aM_ways, .int M_waysCounted])), (aM_numbers, eI cI 12 M_numbers), (aA, .inr (0, [.ref aA_row, .int A_length])), (aA_row, eI cI 16 A_row), (aC, .inr (2, [.ref aC_variables, .ref aC_prints, .int o7.1])), (aC_variables, eI cI 6 o7.2), (aC_prints, eI cI 16 C_prints)]) ⟨hx, hb, hml, hown, hts⟩ (tX2_start l D cI cJ cG aC aC_variables aC_prints aB_r1 H.size  C_manyPrints C_variables (B_inp 1) o7 e7) (cwV 1 hts gX5_perform_X2_start rfl rfl rfl (by decide +kernel) ⟨Nat.le_of_ble_eq_true rfl, Nat.le_of_ble_eq_true rfl⟩) (va_recv (ci := 2) (q0 := 20) hK.1 hP rfl rfl) hK hP hD hS hA [20, 21, 3] [0, 1, 2, 4, 5, 6, 7, 8, 9, 10, 11, 12, 13, 14, 15, 16, 17, 18, 19, 22] [0, 1, 2, 22, 3, 4, 5, 6, 7, 8, 9, 10, 11, 12, 13, 14, 15, 16, 17, 18, 20, 21, 19] rfl rfl rfl (by decide) (by decide) (by decide) (by decide) rfl hl.1 rfl (lv_room (Nat.le_of_ble_eq_true rfl)) dX5_perform_7 ⟨Nat.le_of_ble_eq_true rfl, Nat.le_of_ble_eq_true rfl⟩ (fun H locs hP hD hS => ?_)
    have hP : va_P D vwCl [(aB, .inr (5, [.ref aL, .ref aM, .ref aA, .ref aK, .ref aB_inputs, .int B_manyInputs, .int B_hintsDone, .ref aC1, .ref aC2, .ref aC3])), (aB_inputs, eG cG aB_r0 aB_r1 aB_r2 aB_r3 aB_r4 aB_r5 aB_r6 aB_r7), (aB_r0, eI cI 6 (B_inp 0)), (aB_r1, eI cI 6 (B_inp 1)), (aB_r2, eI cI 6 (B_inp 2)), (aB_r3, eI cI 6 (B_inp 3)), (aB_r4, eI cI 6 (B_inp 4)), (aB_r5, eI cI 6 (B_inp 5)), (aB_r6, eI cI 6 (B_inp 6)), (aB_r7, eI cI 6 (B_inp 7)), (aL, .inr (1, [.ref aL_kinds, .ref aL_vs, .ref aL_ws, .ref aL_roles, .ref aL_mates, .int L_many])), (aL_kinds, eI cI 16 L_kinds), (aL_vs, eI cI 16 L_vs), (aL_ws, eI cI 16 L_ws), (aL_roles, eI cI 16 L_roles), (aL_mates, eI cI 16 L_mates), (aM, .inr (4, [.ref aM_numbers, .ref aM_ranks, .ref aM_ahead, .int M_length, .ref aM_ways, .int M_waysCounted])), (aM_numbers, eI cI 12 M_numbers), (aA, .inr (0, [.ref aA_row, .int A_length])), (aA_row, eI cI 16 A_row), (aC, .inr (2, [.ref aC_variables, .ref aC_prints, .int o7.1])), (aC_variables, eI cI 6 o7.2), (aC_prints, eI cI 16 C_prints)] H := hP
    have hD : va_D A [(aB, .inr (5, [.ref aL, .ref aM, .ref aA, .ref aK, .ref aB_inputs, .int B_manyInputs, .int B_hintsDone, .ref aC1, .ref aC2, .ref aC3])), (aB_inputs, eG cG aB_r0 aB_r1 aB_r2 aB_r3 aB_r4 aB_r5 aB_r6 aB_r7), (aB_r0, eI cI 6 (B_inp 0)), (aB_r1, eI cI 6 (B_inp 1)), (aB_r2, eI cI 6 (B_inp 2)), (aB_r3, eI cI 6 (B_inp 3)), (aB_r4, eI cI 6 (B_inp 4)), (aB_r5, eI cI 6 (B_inp 5)), (aB_r6, eI cI 6 (B_inp 6)), (aB_r7, eI cI 6 (B_inp 7)), (aL, .inr (1, [.ref aL_kinds, .ref aL_vs, .ref aL_ws, .ref aL_roles, .ref aL_mates, .int L_many])), (aL_kinds, eI cI 16 L_kinds), (aL_vs, eI cI 16 L_vs), (aL_ws, eI cI 16 L_ws), (aL_roles, eI cI 16 L_roles), (aL_mates, eI cI 16 L_mates), (aM, .inr (4, [.ref aM_numbers, .ref aM_ranks, .ref aM_ahead, .int M_length, .ref aM_ways, .int M_waysCounted])), (aM_numbers, eI cI 12 M_numbers), (aA, .inr (0, [.ref aA_row, .int A_length])), (aA_row, eI cI 16 A_row), (aC, .inr (2, [.ref aC_variables, .ref aC_prints, .int o7.1])), (aC_variables, eI cI 6 o7.2), (aC_prints, eI cI 16 C_prints)] := hD
    exact b_10 y3 o7.1 o7.2 C_prints hf _ _ _ hP hD hS (lv_sub hl [0, 1, 3] rfl)
  · refine W.eq (g2 := F0 m 7 ls [.ref aB_r2, .ref aC]) rfl ?_
    refine bnd hf (fun o7 e7 hf => ?_)
    refine wrVv (As := [.ref aB_r2]) (rest := []) (cw := [(aC, .inr (2, [.ref aC_variables, .ref aC_prints, .int C_manyPrints])), (aC_variables, eI cI 6 C_variables), (aB_r2, eI cI 6 (B_inp 2))]) (cw' := [(aC, .inr (2, [.ref aC_variables, .ref aC_prints, .int o7.1])), (aC_variables, eI cI 6 o7.2), (aB_r2, eI cI 6 (B_inp 2))]) (wr := [(aB, .inr (5, [.ref aL, .ref aM, .ref aA, .ref aK, .ref aB_inputs, .int B_manyInputs, .int B_hintsDone, .ref aC1, .ref aC2, .ref aC3])), (aB_inputs, eG cG aB_r0 aB_r1 aB_r2 aB_r3 aB_r4 aB_r5 aB_r6 aB_r7), (aB_r0, eI cI 6 (B_inp 0)), (aB_r1, eI cI 6 (B_inp 1)), (aB_r3, eI cI 6 (B_inp 3)), (aB_r4, eI cI 6 (B_inp 4)), (aB_r5, eI cI 6 (B_inp 5)), (aB_r6, eI cI 6 (B_inp 6)), (aB_r7, eI cI 6 (B_inp 7)), (aL, .inr (1, [.ref aL_kinds, .ref aL_vs, .ref aL_ws, .ref aL_roles, .ref aL_mates, .int L_many])), (aL_kinds, eI cI 16 L_kinds), (aL_vs, eI cI 16 L_vs), (aL_ws, eI cI 16 L_ws), (aL_roles, eI cI 16 L_roles), (aL_mates, eI cI 16 L_mates), (aM, .inr (4, [.ref aM_numbers, .ref aM_ranks, .ref aM_ahead, .int M_length, .ref aM_ways, .int M_waysCounted])), (aM_numbers, eI cI 12 M_numbers), (aA, .inr (0, [.ref aA_row, .int A_length])), (aA_row, eI cI 16 A_row), (aC_prints, eI cI 16 C_prints)]) (ws2 := [(aB, .inr (5, [.ref aL, .ref aM, .ref aA, .ref aK, .ref aB_inputs, .int B_manyInputs, .int B_hintsDone, .ref aC1, .ref aC2, .ref aC3])), (aB_inputs, eG cG aB_r0 aB_r1 aB_r2 aB_r3 aB_r4 aB_r5 aB_r6 aB_r7), (aB_r0, eI cI 6 (B_inp 0)), (aB_r1, eI cI 6 (B_inp 1)), (aB_r2, eI cI 6 (B_inp 2)), (aB_r3, eI cI 6 (B_inp 3)), (aB_r4, eI cI 6 (B_inp 4)), (aB_r5, eI cI 6 (B_inp 5)), (aB_r6, eI cI 6 (B_inp 6)), (aB_r7, eI cI 6 (B_inp 7)), (aL, .inr (1, [.ref aL_kinds, .ref aL_vs, .ref aL_ws, .ref aL_roles, .ref aL_mates, .int L_many])), (aL_kinds, eI cI 16 L_kinds), (aL_vs, eI cI 16 L_vs), (aL_ws, eI cI 16 L_ws), (aL_roles, eI cI 16 L_roles), (aL_mates, eI cI 16 L_mates), (aM, .inr (4, [.ref aM_numbers, .ref aM_ranks, .ref aM_ahead, .int M_length, .ref aM_ways, .int M_waysCounted])), (aM_numbers, eI cI 12 M_numbers), (aA, .inr (0, [.ref aA_row, .int A_length])), (aA_row, eI cI 16 A_row), (aC, .inr (2, [.ref aC_variables, .ref aC_prints, .int o7.1])), (aC_variables, eI cI 6 o7.2), (aC_prints, eI cI 16 C_prints)]) ⟨hx, hb, hml, hown, hts⟩ (tX2_start l D cI cJ cG aC aC_variables aC_prints aB_r2 H.size  C_manyPrints C_variables (B_inp 2) o7 e7) (cwV 1 hts gX5_perform_X2_start rfl rfl rfl (by decide +kernel) ⟨Nat.le_of_ble_eq_true rfl, Nat.le_of_ble_eq_true rfl⟩) (va_recv (ci := 2) (q0 := 20) hK.1 hP rfl rfl) hK hP hD hS hA [20, 21, 4] [0, 1, 2, 3, 5, 6, 7, 8, 9, 10, 11, 12, 13, 14, 15, 16, 17, 18, 19, 22] [0, 1, 2, 3, 22, 4, 5, 6, 7, 8, 9, 10, 11, 12, 13, 14, 15, 16, 17, 18, 20, 21, 19] rfl rfl rfl (by decide) (by decide) (by decide) (by decide) rfl hl.1 rfl (lv_room (Nat.le_of_ble_eq_true rfl)) dX5_perform_7 ⟨Nat.le_of_ble_eq_true rfl, Nat.le_of_ble_eq_true rfl⟩ (fun H locs hP hD hS => ?_)
    have hP : va_P D vwCl [(aB, .inr (5, [.ref aL, .ref aM, .ref aA, .ref aK, .ref aB_inputs, .int B_manyInputs, .int B_hintsDone, .ref aC1, .ref aC2, .ref aC3])), (aB_inputs, eG cG aB_r0 aB_r1 aB_r2 aB_r3 aB_r4 aB_r5 aB_r6 aB_r7), (aB_r0, eI cI 6 (B_inp 0)), (aB_r1, eI cI 6 (B_inp 1)), (aB_r2, eI cI 6 (B_inp 2)), (aB_r3, eI cI 6 (B_inp 3)), (aB_r4, eI cI 6 (B_inp 4)), (aB_r5, eI cI 6 (B_inp 5)), (aB_r6, eI cI 6 (B_inp 6)), (aB_r7, eI cI 6 (B_inp 7)), (aL, .inr (1, [.ref aL_kinds, .ref aL_vs, .ref aL_ws, .ref aL_roles, .ref aL_mates, .int L_many])), (aL_kinds, eI cI 16 L_kinds), (aL_vs, eI cI 16 L_vs), (aL_ws, eI cI 16 L_ws), (aL_roles, eI cI 16 L_roles), (aL_mates, eI cI 16 L_mates), (aM, .inr (4, [.ref aM_numbers, .ref aM_ranks, .ref aM_ahead, .int M_length, .ref aM_ways, .int M_waysCounted])), (aM_numbers, eI cI 12 M_numbers), (aA, .inr (0, [.ref aA_row, .int A_length])), (aA_row, eI cI 16 A_row), (aC, .inr (2, [.ref aC_variables, .ref aC_prints, .int o7.1])), (aC_variables, eI cI 6 o7.2), (aC_prints, eI cI 16 C_prints)] H := hP
    have hD : va_D A [(aB, .inr (5, [.ref aL, .ref aM, .ref aA, .ref aK, .ref aB_inputs, .int B_manyInputs, .int B_hintsDone, .ref aC1, .ref aC2, .ref aC3])), (aB_inputs, eG cG aB_r0 aB_r1 aB_r2 aB_r3 aB_r4 aB_r5 aB_r6 aB_r7), (aB_r0, eI cI 6 (B_inp 0)), (aB_r1, eI cI 6 (B_inp 1)), (aB_r2, eI cI 6 (B_inp 2)), (aB_r3, eI cI 6 (B_inp 3)), (aB_r4, eI cI 6 (B_inp 4)), (aB_r5, eI cI 6 (B_inp 5)), (aB_r6, eI cI 6 (B_inp 6)), (aB_r7, eI cI 6 (B_inp 7)), (aL, .inr (1, [.ref aL_kinds, .ref aL_vs, .ref aL_ws, .ref aL_roles, .ref aL_mates, .int L_many])), (aL_kinds, eI cI 16 L_kinds), (aL_vs, eI cI 16 L_vs), (aL_ws, eI cI 16 L_ws), (aL_roles, eI cI 16 L_roles), (aL_mates, eI cI 16 L_mates), (aM, .inr (4, [.ref aM_numbers, .ref aM_ranks, .ref aM_ahead, .int M_length, .ref aM_ways, .int M_waysCounted])), (aM_numbers, eI cI 12 M_numbers), (aA, .inr (0, [.ref aA_row, .int A_length])), (aA_row, eI cI 16 A_row), (aC, .inr (2, [.ref aC_variables, .ref aC_prints, .int o7.1])), (aC_variables, eI cI 6 o7.2), (aC_prints, eI cI 16 C_prints)] := hD
    exact b_10 y3 o7.1 o7.2 C_prints hf _ _ _ hP hD hS (lv_sub hl [0, 1, 3] rfl)
  · refine W.eq (g2 := F0 m 7 ls [.ref aB_r3, .ref aC]) rfl ?_
    refine bnd hf (fun o7 e7 hf => ?_)
    refine wrVv (As := [.ref aB_r3]) (rest := []) (cw := [(aC, .inr (2, [.ref aC_variables, .ref aC_prints, .int C_manyPrints])), (aC_variables, eI cI 6 C_variables), (aB_r3, eI cI 6 (B_inp 3))]) (cw' := [(aC, .inr (2, [.ref aC_variables, .ref aC_prints, .int o7.1])), (aC_variables, eI cI 6 o7.2), (aB_r3, eI cI 6 (B_inp 3))]) (wr := [(aB, .inr (5, [.ref aL, .ref aM, .ref aA, .ref aK, .ref aB_inputs, .int B_manyInputs, .int B_hintsDone, .ref aC1, .ref aC2, .ref aC3])), (aB_inputs, eG cG aB_r0 aB_r1 aB_r2 aB_r3 aB_r4 aB_r5 aB_r6 aB_r7), (aB_r0, eI cI 6 (B_inp 0)), (aB_r1, eI cI 6 (B_inp 1)), (aB_r2, eI cI 6 (B_inp 2)), (aB_r4, eI cI 6 (B_inp 4)), (aB_r5, eI cI 6 (B_inp 5)), (aB_r6, eI cI 6 (B_inp 6)), (aB_r7, eI cI 6 (B_inp 7)), (aL, .inr (1, [.ref aL_kinds, .ref aL_vs, .ref aL_ws, .ref aL_roles, .ref aL_mates, .int L_many])), (aL_kinds, eI cI 16 L_kinds), (aL_vs, eI cI 16 L_vs), (aL_ws, eI cI 16 L_ws), (aL_roles, eI cI 16 L_roles), (aL_mates, eI cI 16 L_mates), (aM, .inr (4, [.ref aM_numbers, .ref aM_ranks, .ref aM_ahead, .int M_length, .ref aM_ways, .int M_waysCounted])), (aM_numbers, eI cI 12 M_numbers), (aA, .inr (0, [.ref aA_row, .int A_length])), (aA_row, eI cI 16 A_row), (aC_prints, eI cI 16 C_prints)]) (ws2 := [(aB, .inr (5, [.ref aL, .ref aM, .ref aA, .ref aK, .ref aB_inputs, .int B_manyInputs, .int B_hintsDone, .ref aC1, .ref aC2, .ref aC3])), (aB_inputs, eG cG aB_r0 aB_r1 aB_r2 aB_r3 aB_r4 aB_r5 aB_r6 aB_r7), (aB_r0, eI cI 6 (B_inp 0)), (aB_r1, eI cI 6 (B_inp 1)), (aB_r2, eI cI 6 (B_inp 2)), (aB_r3, eI cI 6 (B_inp 3)), (aB_r4, eI cI 6 (B_inp 4)), (aB_r5, eI cI 6 (B_inp 5)), (aB_r6, eI cI 6 (B_inp 6)), (aB_r7, eI cI 6 (B_inp 7)), (aL, .inr (1, [.ref aL_kinds, .ref aL_vs, .ref aL_ws, .ref aL_roles, .ref aL_mates, .int L_many])), (aL_kinds, eI cI 16 L_kinds), (aL_vs, eI cI 16 L_vs), (aL_ws, eI cI 16 L_ws), (aL_roles, eI cI 16 L_roles), (aL_mates, eI cI 16 L_mates), (aM, .inr (4, [.ref aM_numbers, .ref aM_ranks, .ref aM_ahead, .int M_length, .ref aM_ways, .int M_waysCounted])), (aM_numbers, eI cI 12 M_numbers), (aA, .inr (0, [.ref aA_row, .int A_length])), (aA_row, eI cI 16 A_row), (aC, .inr (2, [.ref aC_variables, .ref aC_prints, .int o7.1])), (aC_variables, eI cI 6 o7.2), (aC_prints, eI cI 16 C_prints)]) ⟨hx, hb, hml, hown, hts⟩ (tX2_start l D cI cJ cG aC aC_variables aC_prints aB_r3 H.size  C_manyPrints C_variables (B_inp 3) o7 e7) (cwV 1 hts gX5_perform_X2_start rfl rfl rfl (by decide +kernel) ⟨Nat.le_of_ble_eq_true rfl, Nat.le_of_ble_eq_true rfl⟩) (va_recv (ci := 2) (q0 := 20) hK.1 hP rfl rfl) hK hP hD hS hA [20, 21, 5] [0, 1, 2, 3, 4, 6, 7, 8, 9, 10, 11, 12, 13, 14, 15, 16, 17, 18, 19, 22] [0, 1, 2, 3, 4, 22, 5, 6, 7, 8, 9, 10, 11, 12, 13, 14, 15, 16, 17, 18, 20, 21, 19] rfl rfl rfl (by decide) (by decide) (by decide) (by decide) rfl hl.1 rfl (lv_room (Nat.le_of_ble_eq_true rfl)) dX5_perform_7 ⟨Nat.le_of_ble_eq_true rfl, Nat.le_of_ble_eq_true rfl⟩ (fun H locs hP hD hS => ?_)
    have hP : va_P D vwCl [(aB, .inr (5, [.ref aL, .ref aM, .ref aA, .ref aK, .ref aB_inputs, .int B_manyInputs, .int B_hintsDone, .ref aC1, .ref aC2, .ref aC3])), (aB_inputs, eG cG aB_r0 aB_r1 aB_r2 aB_r3 aB_r4 aB_r5 aB_r6 aB_r7), (aB_r0, eI cI 6 (B_inp 0)), (aB_r1, eI cI 6 (B_inp 1)), (aB_r2, eI cI 6 (B_inp 2)), (aB_r3, eI cI 6 (B_inp 3)), (aB_r4, eI cI 6 (B_inp 4)), (aB_r5, eI cI 6 (B_inp 5)), (aB_r6, eI cI 6 (B_inp 6)), (aB_r7, eI cI 6 (B_inp 7)), (aL, .inr (1, [.ref aL_kinds, .ref aL_vs, .ref aL_ws, .ref aL_roles, .ref aL_mates, .int L_many])), (aL_kinds, eI cI 16 L_kinds), (aL_vs, eI cI 16 L_vs), (aL_ws, eI cI 16 L_ws), (aL_roles, eI cI 16 L_roles), (aL_mates, eI cI 16 L_mates), (aM, .inr (4, [.ref aM_numbers, .ref aM_ranks, .ref aM_ahead, .int M_length, .ref aM_ways, .int M_waysCounted])), (aM_numbers, eI cI 12 M_numbers), (aA, .inr (0, [.ref aA_row, .int A_length])), (aA_row, eI cI 16 A_row), (aC, .inr (2, [.ref aC_variables, .ref aC_prints, .int o7.1])), (aC_variables, eI cI 6 o7.2), (aC_prints, eI cI 16 C_prints)] H := hP
    have hD : va_D A [(aB, .inr (5, [.ref aL, .ref aM, .ref aA, .ref aK, .ref aB_inputs, .int B_manyInputs, .int B_hintsDone, .ref aC1, .ref aC2, .ref aC3])), (aB_inputs, eG cG aB_r0 aB_r1 aB_r2 aB_r3 aB_r4 aB_r5 aB_r6 aB_r7), (aB_r0, eI cI 6 (B_inp 0)), (aB_r1, eI cI 6 (B_inp 1)), (aB_r2, eI cI 6 (B_inp 2)), (aB_r3, eI cI 6 (B_inp 3)), (aB_r4, eI cI 6 (B_inp 4)), (aB_r5, eI cI 6 (B_inp 5)), (aB_r6, eI cI 6 (B_inp 6)), (aB_r7, eI cI 6 (B_inp 7)), (aL, .inr (1, [.ref aL_kinds, .ref aL_vs, .ref aL_ws, .ref aL_roles, .ref aL_mates, .int L_many])), (aL_kinds, eI cI 16 L_kinds), (aL_vs, eI cI 16 L_vs), (aL_ws, eI cI 16 L_ws), (aL_roles, eI cI 16 L_roles), (aL_mates, eI cI 16 L_mates), (aM, .inr (4, [.ref aM_numbers, .ref aM_ranks, .ref aM_ahead, .int M_length, .ref aM_ways, .int M_waysCounted])), (aM_numbers, eI cI 12 M_numbers), (aA, .inr (0, [.ref aA_row, .int A_length])), (aA_row, eI cI 16 A_row), (aC, .inr (2, [.ref aC_variables, .ref aC_prints, .int o7.1])), (aC_variables, eI cI 6 o7.2), (aC_prints, eI cI 16 C_prints)] := hD
    exact b_10 y3 o7.1 o7.2 C_prints hf _ _ _ hP hD hS (lv_sub hl [0, 1, 3] rfl)
  · refine W.eq (g2 := F0 m 7 ls [.ref aB_r4, .ref aC]) rfl ?_
    refine bnd hf (fun o7 e7 hf => ?_)
    refine wrVv (As := [.ref aB_r4]) (rest := []) (cw := [(aC, .inr (2, [.ref aC_variables, .ref aC_prints, .int C_manyPrints])), (aC_variables, eI cI 6 C_variables), (aB_r4, eI cI 6 (B_inp 4))]) (cw' := [(aC, .inr (2, [.ref aC_variables, .ref aC_prints, .int o7.1])), (aC_variables, eI cI 6 o7.2), (aB_r4, eI cI 6 (B_inp 4))]) (wr := [(aB, .inr (5, [.ref aL, .ref aM, .ref aA, .ref aK, .ref aB_inputs, .int B_manyInputs, .int B_hintsDone, .ref aC1, .ref aC2, .ref aC3])), (aB_inputs, eG cG aB_r0 aB_r1 aB_r2 aB_r3 aB_r4 aB_r5 aB_r6 aB_r7), (aB_r0, eI cI 6 (B_inp 0)), (aB_r1, eI cI 6 (B_inp 1)), (aB_r2, eI cI 6 (B_inp 2)), (aB_r3, eI cI 6 (B_inp 3)), (aB_r5, eI cI 6 (B_inp 5)), (aB_r6, eI cI 6 (B_inp 6)), (aB_r7, eI cI 6 (B_inp 7)), (aL, .inr (1, [.ref aL_kinds, .ref aL_vs, .ref aL_ws, .ref aL_roles, .ref aL_mates, .int L_many])), (aL_kinds, eI cI 16 L_kinds), (aL_vs, eI cI 16 L_vs), (aL_ws, eI cI 16 L_ws), (aL_roles, eI cI 16 L_roles), (aL_mates, eI cI 16 L_mates), (aM, .inr (4, [.ref aM_numbers, .ref aM_ranks, .ref aM_ahead, .int M_length, .ref aM_ways, .int M_waysCounted])), (aM_numbers, eI cI 12 M_numbers), (aA, .inr (0, [.ref aA_row, .int A_length])), (aA_row, eI cI 16 A_row), (aC_prints, eI cI 16 C_prints)]) (ws2 := [(aB, .inr (5, [.ref aL, .ref aM, .ref aA, .ref aK, .ref aB_inputs, .int B_manyInputs, .int B_hintsDone, .ref aC1, .ref aC2, .ref aC3])), (aB_inputs, eG cG aB_r0 aB_r1 aB_r2 aB_r3 aB_r4 aB_r5 aB_r6 aB_r7), (aB_r0, eI cI 6 (B_inp 0)), (aB_r1, eI cI 6 (B_inp 1)), (aB_r2, eI cI 6 (B_inp 2)), (aB_r3, eI cI 6 (B_inp 3)), (aB_r4, eI cI 6 (B_inp 4)), (aB_r5, eI cI 6 (B_inp 5)), (aB_r6, eI cI 6 (B_inp 6)), (aB_r7, eI cI 6 (B_inp 7)), (aL, .inr (1, [.ref aL_kinds, .ref aL_vs, .ref aL_ws, .ref aL_roles, .ref aL_mates, .int L_many])), (aL_kinds, eI cI 16 L_kinds), (aL_vs, eI cI 16 L_vs), (aL_ws, eI cI 16 L_ws), (aL_roles, eI cI 16 L_roles), (aL_mates, eI cI 16 L_mates), (aM, .inr (4, [.ref aM_numbers, .ref aM_ranks, .ref aM_ahead, .int M_length, .ref aM_ways, .int M_waysCounted])), (aM_numbers, eI cI 12 M_numbers), (aA, .inr (0, [.ref aA_row, .int A_length])), (aA_row, eI cI 16 A_row), (aC, .inr (2, [.ref aC_variables, .ref aC_prints, .int o7.1])), (aC_variables, eI cI 6 o7.2), (aC_prints, eI cI 16 C_prints)]) ⟨hx, hb, hml, hown, hts⟩ (tX2_start l D cI cJ cG aC aC_variables aC_prints aB_r4 H.size  C_manyPrints C_variables (B_inp 4) o7 e7) (cwV 1 hts gX5_perform_X2_start rfl rfl rfl (by decide +kernel) ⟨Nat.le_of_ble_eq_true rfl, Nat.le_of_ble_eq_true rfl⟩) (va_recv (ci := 2) (q0 := 20) hK.1 hP rfl rfl) hK hP hD hS hA [20, 21, 6] [0, 1, 2, 3, 4, 5, 7, 8, 9, 10, 11, 12, 13, 14, 15, 16, 17, 18, 19, 22] [0, 1, 2, 3, 4, 5, 22, 6, 7, 8, 9, 10, 11, 12, 13, 14, 15, 16, 17, 18, 20, 21, 19] rfl rfl rfl (by decide) (by decide) (by decide) (by decide) rfl hl.1 rfl (lv_room (Nat.le_of_ble_eq_true rfl)) dX5_perform_7 ⟨Nat.le_of_ble_eq_true rfl, Nat.le_of_ble_eq_true rfl⟩ (fun H locs hP hD hS => ?_)
    have hP : va_P D vwCl [(aB, .inr (5, [.ref aL, .ref aM, .ref aA, .ref aK, .ref aB_inputs, .int B_manyInputs, .int B_hintsDone, .ref aC1, .ref aC2, .ref aC3])), (aB_inputs, eG cG aB_r0 aB_r1 aB_r2 aB_r3 aB_r4 aB_r5 aB_r6 aB_r7), (aB_r0, eI cI 6 (B_inp 0)), (aB_r1, eI cI 6 (B_inp 1)), (aB_r2, eI cI 6 (B_inp 2)), (aB_r3, eI cI 6 (B_inp 3)), (aB_r4, eI cI 6 (B_inp 4)), (aB_r5, eI cI 6 (B_inp 5)), (aB_r6, eI cI 6 (B_inp 6)), (aB_r7, eI cI 6 (B_inp 7)), (aL, .inr (1, [.ref aL_kinds, .ref aL_vs, .ref aL_ws, .ref aL_roles, .ref aL_mates, .int L_many])), (aL_kinds, eI cI 16 L_kinds), (aL_vs, eI cI 16 L_vs), (aL_ws, eI cI 16 L_ws), (aL_roles, eI cI 16 L_roles), (aL_mates, eI cI 16 L_mates), (aM, .inr (4, [.ref aM_numbers, .ref aM_ranks, .ref aM_ahead, .int M_length, .ref aM_ways, .int M_waysCounted])), (aM_numbers, eI cI 12 M_numbers), (aA, .inr (0, [.ref aA_row, .int A_length])), (aA_row, eI cI 16 A_row), (aC, .inr (2, [.ref aC_variables, .ref aC_prints, .int o7.1])), (aC_variables, eI cI 6 o7.2), (aC_prints, eI cI 16 C_prints)] H := hP
    have hD : va_D A [(aB, .inr (5, [.ref aL, .ref aM, .ref aA, .ref aK, .ref aB_inputs, .int B_manyInputs, .int B_hintsDone, .ref aC1, .ref aC2, .ref aC3])), (aB_inputs, eG cG aB_r0 aB_r1 aB_r2 aB_r3 aB_r4 aB_r5 aB_r6 aB_r7), (aB_r0, eI cI 6 (B_inp 0)), (aB_r1, eI cI 6 (B_inp 1)), (aB_r2, eI cI 6 (B_inp 2)), (aB_r3, eI cI 6 (B_inp 3)), (aB_r4, eI cI 6 (B_inp 4)), (aB_r5, eI cI 6 (B_inp 5)), (aB_r6, eI cI 6 (B_inp 6)), (aB_r7, eI cI 6 (B_inp 7)), (aL, .inr (1, [.ref aL_kinds, .ref aL_vs, .ref aL_ws, .ref aL_roles, .ref aL_mates, .int L_many])), (aL_kinds, eI cI 16 L_kinds), (aL_vs, eI cI 16 L_vs), (aL_ws, eI cI 16 L_ws), (aL_roles, eI cI 16 L_roles), (aL_mates, eI cI 16 L_mates), (aM, .inr (4, [.ref aM_numbers, .ref aM_ranks, .ref aM_ahead, .int M_length, .ref aM_ways, .int M_waysCounted])), (aM_numbers, eI cI 12 M_numbers), (aA, .inr (0, [.ref aA_row, .int A_length])), (aA_row, eI cI 16 A_row), (aC, .inr (2, [.ref aC_variables, .ref aC_prints, .int o7.1])), (aC_variables, eI cI 6 o7.2), (aC_prints, eI cI 16 C_prints)] := hD
    exact b_10 y3 o7.1 o7.2 C_prints hf _ _ _ hP hD hS (lv_sub hl [0, 1, 3] rfl)
  · refine W.eq (g2 := F0 m 7 ls [.ref aB_r5, .ref aC]) rfl ?_
    refine bnd hf (fun o7 e7 hf => ?_)
    refine wrVv (As := [.ref aB_r5]) (rest := []) (cw := [(aC, .inr (2, [.ref aC_variables, .ref aC_prints, .int C_manyPrints])), (aC_variables, eI cI 6 C_variables), (aB_r5, eI cI 6 (B_inp 5))]) (cw' := [(aC, .inr (2, [.ref aC_variables, .ref aC_prints, .int o7.1])), (aC_variables, eI cI 6 o7.2), (aB_r5, eI cI 6 (B_inp 5))]) (wr := [(aB, .inr (5, [.ref aL, .ref aM, .ref aA, .ref aK, .ref aB_inputs, .int B_manyInputs, .int B_hintsDone, .ref aC1, .ref aC2, .ref aC3])), (aB_inputs, eG cG aB_r0 aB_r1 aB_r2 aB_r3 aB_r4 aB_r5 aB_r6 aB_r7), (aB_r0, eI cI 6 (B_inp 0)), (aB_r1, eI cI 6 (B_inp 1)), (aB_r2, eI cI 6 (B_inp 2)), (aB_r3, eI cI 6 (B_inp 3)), (aB_r4, eI cI 6 (B_inp 4)), (aB_r6, eI cI 6 (B_inp 6)), (aB_r7, eI cI 6 (B_inp 7)), (aL, .inr (1, [.ref aL_kinds, .ref aL_vs, .ref aL_ws, .ref aL_roles, .ref aL_mates, .int L_many])), (aL_kinds, eI cI 16 L_kinds), (aL_vs, eI cI 16 L_vs), (aL_ws, eI cI 16 L_ws), (aL_roles, eI cI 16 L_roles), (aL_mates, eI cI 16 L_mates), (aM, .inr (4, [.ref aM_numbers, .ref aM_ranks, .ref aM_ahead, .int M_length, .ref aM_ways, .int M_waysCounted])), (aM_numbers, eI cI 12 M_numbers), (aA, .inr (0, [.ref aA_row, .int A_length])), (aA_row, eI cI 16 A_row), (aC_prints, eI cI 16 C_prints)]) (ws2 := [(aB, .inr (5, [.ref aL, .ref aM, .ref aA, .ref aK, .ref aB_inputs, .int B_manyInputs, .int B_hintsDone, .ref aC1, .ref aC2, .ref aC3])), (aB_inputs, eG cG aB_r0 aB_r1 aB_r2 aB_r3 aB_r4 aB_r5 aB_r6 aB_r7), (aB_r0, eI cI 6 (B_inp 0)), (aB_r1, eI cI 6 (B_inp 1)), (aB_r2, eI cI 6 (B_inp 2)), (aB_r3, eI cI 6 (B_inp 3)), (aB_r4, eI cI 6 (B_inp 4)), (aB_r5, eI cI 6 (B_inp 5)), (aB_r6, eI cI 6 (B_inp 6)), (aB_r7, eI cI 6 (B_inp 7)), (aL, .inr (1, [.ref aL_kinds, .ref aL_vs, .ref aL_ws, .ref aL_roles, .ref aL_mates, .int L_many])), (aL_kinds, eI cI 16 L_kinds), (aL_vs, eI cI 16 L_vs), (aL_ws, eI cI 16 L_ws), (aL_roles, eI cI 16 L_roles), (aL_mates, eI cI 16 L_mates), (aM, .inr (4, [.ref aM_numbers, .ref aM_ranks, .ref aM_ahead, .int M_length, .ref aM_ways, .int M_waysCounted])), (aM_numbers, eI cI 12 M_numbers), (aA, .inr (0, [.ref aA_row, .int A_length])), (aA_row, eI cI 16 A_row), (aC, .inr (2, [.ref aC_variables, .ref aC_prints, .int o7.1])), (aC_variables, eI cI 6 o7.2), (aC_prints, eI cI 16 C_prints)]) ⟨hx, hb, hml, hown, hts⟩ (tX2_start l D cI cJ cG aC aC_variables aC_prints aB_r5 H.size  C_manyPrints C_variables (B_inp 5) o7 e7) (cwV 1 hts gX5_perform_X2_start rfl rfl rfl (by decide +kernel) ⟨Nat.le_of_ble_eq_true rfl, Nat.le_of_ble_eq_true rfl⟩) (va_recv (ci := 2) (q0 := 20) hK.1 hP rfl rfl) hK hP hD hS hA [20, 21, 7] [0, 1, 2, 3, 4, 5, 6, 8, 9, 10, 11, 12, 13, 14, 15, 16, 17, 18, 19, 22] [0, 1, 2, 3, 4, 5, 6, 22, 7, 8, 9, 10, 11, 12, 13, 14, 15, 16, 17, 18, 20, 21, 19] rfl rfl rfl (by decide) (by decide) (by decide) (by decide) rfl hl.1 rfl (lv_room (Nat.le_of_ble_eq_true rfl)) dX5_perform_7 ⟨Nat.le_of_ble_eq_true rfl, Nat.le_of_ble_eq_true rfl⟩ (fun H locs hP hD hS => ?_)
    have hP : va_P D vwCl [(aB, .inr (5, [.ref aL, .ref aM, .ref aA, .ref aK, .ref aB_inputs, .int B_manyInputs, .int B_hintsDone, .ref aC1, .ref aC2, .ref aC3])), (aB_inputs, eG cG aB_r0 aB_r1 aB_r2 aB_r3 aB_r4 aB_r5 aB_r6 aB_r7), (aB_r0, eI cI 6 (B_inp 0)), (aB_r1, eI cI 6 (B_inp 1)), (aB_r2, eI cI 6 (B_inp 2)), (aB_r3, eI cI 6 (B_inp 3)), (aB_r4, eI cI 6 (B_inp 4)), (aB_r5, eI cI 6 (B_inp 5)), (aB_r6, eI cI 6 (B_inp 6)), (aB_r7, eI cI 6 (B_inp 7)), (aL, .inr (1, [.ref aL_kinds, .ref aL_vs, .ref aL_ws, .ref aL_roles, .ref aL_mates, .int L_many])), (aL_kinds, eI cI 16 L_kinds), (aL_vs, eI cI 16 L_vs), (aL_ws, eI cI 16 L_ws), (aL_roles, eI cI 16 L_roles), (aL_mates, eI cI 16 L_mates), (aM, .inr (4, [.ref aM_numbers, .ref aM_ranks, .ref aM_ahead, .int M_length, .ref aM_ways, .int M_waysCounted])), (aM_numbers, eI cI 12 M_numbers), (aA, .inr (0, [.ref aA_row, .int A_length])), (aA_row, eI cI 16 A_row), (aC, .inr (2, [.ref aC_variables, .ref aC_prints, .int o7.1])), (aC_variables, eI cI 6 o7.2), (aC_prints, eI cI 16 C_prints)] H := hP
    have hD : va_D A [(aB, .inr (5, [.ref aL, .ref aM, .ref aA, .ref aK, .ref aB_inputs, .int B_manyInputs, .int B_hintsDone, .ref aC1, .ref aC2, .ref aC3])), (aB_inputs, eG cG aB_r0 aB_r1 aB_r2 aB_r3 aB_r4 aB_r5 aB_r6 aB_r7), (aB_r0, eI cI 6 (B_inp 0)), (aB_r1, eI cI 6 (B_inp 1)), (aB_r2, eI cI 6 (B_inp 2)), (aB_r3, eI cI 6 (B_inp 3)), (aB_r4, eI cI 6 (B_inp 4)), (aB_r5, eI cI 6 (B_inp 5)), (aB_r6, eI cI 6 (B_inp 6)), (aB_r7, eI cI 6 (B_inp 7)), (aL, .inr (1, [.ref aL_kinds, .ref aL_vs, .ref aL_ws, .ref aL_roles, .ref aL_mates, .int L_many])), (aL_kinds, eI cI 16 L_kinds), (aL_vs, eI cI 16 L_vs), (aL_ws, eI cI 16 L_ws), (aL_roles, eI cI 16 L_roles), (aL_mates, eI cI 16 L_mates), (aM, .inr (4, [.ref aM_numbers, .ref aM_ranks, .ref aM_ahead, .int M_length, .ref aM_ways, .int M_waysCounted])), (aM_numbers, eI cI 12 M_numbers), (aA, .inr (0, [.ref aA_row, .int A_length])), (aA_row, eI cI 16 A_row), (aC, .inr (2, [.ref aC_variables, .ref aC_prints, .int o7.1])), (aC_variables, eI cI 6 o7.2), (aC_prints, eI cI 16 C_prints)] := hD
    exact b_10 y3 o7.1 o7.2 C_prints hf _ _ _ hP hD hS (lv_sub hl [0, 1, 3] rfl)
  · refine W.eq (g2 := F0 m 7 ls [.ref aB_r6, .ref aC]) rfl ?_
    refine bnd hf (fun o7 e7 hf => ?_)
    refine wrVv (As := [.ref aB_r6]) (rest := []) (cw := [(aC, .inr (2, [.ref aC_variables, .ref aC_prints, .int C_manyPrints])), (aC_variables, eI cI 6 C_variables), (aB_r6, eI cI 6 (B_inp 6))]) (cw' := [(aC, .inr (2, [.ref aC_variables, .ref aC_prints, .int o7.1])), (aC_variables, eI cI 6 o7.2), (aB_r6, eI cI 6 (B_inp 6))]) (wr := [(aB, .inr (5, [.ref aL, .ref aM, .ref aA, .ref aK, .ref aB_inputs, .int B_manyInputs, .int B_hintsDone, .ref aC1, .ref aC2, .ref aC3])), (aB_inputs, eG cG aB_r0 aB_r1 aB_r2 aB_r3 aB_r4 aB_r5 aB_r6 aB_r7), (aB_r0, eI cI 6 (B_inp 0)), (aB_r1, eI cI 6 (B_inp 1)), (aB_r2, eI cI 6 (B_inp 2)), (aB_r3, eI cI 6 (B_inp 3)), (aB_r4, eI cI 6 (B_inp 4)), (aB_r5, eI cI 6 (B_inp 5)), (aB_r7, eI cI 6 (B_inp 7)), (aL, .inr (1, [.ref aL_kinds, .ref aL_vs, .ref aL_ws, .ref aL_roles, .ref aL_mates, .int L_many])), (aL_kinds, eI cI 16 L_kinds), (aL_vs, eI cI 16 L_vs), (aL_ws, eI cI 16 L_ws), (aL_roles, eI cI 16 L_roles), (aL_mates, eI cI 16 L_mates), (aM, .inr (4, [.ref aM_numbers, .ref aM_ranks, .ref aM_ahead, .int M_length, .ref aM_ways, .int M_waysCounted])), (aM_numbers, eI cI 12 M_numbers), (aA, .inr (0, [.ref aA_row, .int A_length])), (aA_row, eI cI 16 A_row), (aC_prints, eI cI 16 C_prints)]) (ws2 := [(aB, .inr (5, [.ref aL, .ref aM, .ref aA, .ref aK, .ref aB_inputs, .int B_manyInputs, .int B_hintsDone, .ref aC1, .ref aC2, .ref aC3])), (aB_inputs, eG cG aB_r0 aB_r1 aB_r2 aB_r3 aB_r4 aB_r5 aB_r6 aB_r7), (aB_r0, eI cI 6 (B_inp 0)), (aB_r1, eI cI 6 (B_inp 1)), (aB_r2, eI cI 6 (B_inp 2)), (aB_r3, eI cI 6 (B_inp 3)), (aB_r4, eI cI 6 (B_inp 4)), (aB_r5, eI cI 6 (B_inp 5)), (aB_r6, eI cI 6 (B_inp 6)), (aB_r7, eI cI 6 (B_inp 7)), (aL, .inr (1, [.ref aL_kinds, .ref aL_vs, .ref aL_ws, .ref aL_roles, .ref aL_mates, .int L_many])), (aL_kinds, eI cI 16 L_kinds), (aL_vs, eI cI 16 L_vs), (aL_ws, eI cI 16 L_ws), (aL_roles, eI cI 16 L_roles), (aL_mates, eI cI 16 L_mates), (aM, .inr (4, [.ref aM_numbers, .ref aM_ranks, .ref aM_ahead, .int M_length, .ref aM_ways, .int M_waysCounted])), (aM_numbers, eI cI 12 M_numbers), (aA, .inr (0, [.ref aA_row, .int A_length])), (aA_row, eI cI 16 A_row), (aC, .inr (2, [.ref aC_variables, .ref aC_prints, .int o7.1])), (aC_variables, eI cI 6 o7.2), (aC_prints, eI cI 16 C_prints)]) ⟨hx, hb, hml, hown, hts⟩ (tX2_start l D cI cJ cG aC aC_variables aC_prints aB_r6 H.size  C_manyPrints C_variables (B_inp 6) o7 e7) (cwV 1 hts gX5_perform_X2_start rfl rfl rfl (by decide +kernel) ⟨Nat.le_of_ble_eq_true rfl, Nat.le_of_ble_eq_true rfl⟩) (va_recv (ci := 2) (q0 := 20) hK.1 hP rfl rfl) hK hP hD hS hA [20, 21, 8] [0, 1, 2, 3, 4, 5, 6, 7, 9, 10, 11, 12, 13, 14, 15, 16, 17, 18, 19, 22] [0, 1, 2, 3, 4, 5, 6, 7, 22, 8, 9, 10, 11, 12, 13, 14, 15, 16, 17, 18, 20, 21, 19] rfl rfl rfl (by decide) (by decide) (by decide) (by decide) rfl hl.1 rfl (lv_room (Nat.le_of_ble_eq_true rfl)) dX5_perform_7 ⟨Nat.le_of_ble_eq_true rfl, Nat.le_of_ble_eq_true rfl⟩ (fun H locs hP hD hS => ?_)
    have hP : va_P D vwCl [(aB, .inr (5, [.ref aL, .ref aM, .ref aA, .ref aK, .ref aB_inputs, .int B_manyInputs, .int B_hintsDone, .ref aC1, .ref aC2, .ref aC3])), (aB_inputs, eG cG aB_r0 aB_r1 aB_r2 aB_r3 aB_r4 aB_r5 aB_r6 aB_r7), (aB_r0, eI cI 6 (B_inp 0)), (aB_r1, eI cI 6 (B_inp 1)), (aB_r2, eI cI 6 (B_inp 2)), (aB_r3, eI cI 6 (B_inp 3)), (aB_r4, eI cI 6 (B_inp 4)), (aB_r5, eI cI 6 (B_inp 5)), (aB_r6, eI cI 6 (B_inp 6)), (aB_r7, eI cI 6 (B_inp 7)), (aL, .inr (1, [.ref aL_kinds, .ref aL_vs, .ref aL_ws, .ref aL_roles, .ref aL_mates, .int L_many])), (aL_kinds, eI cI 16 L_kinds), (aL_vs, eI cI 16 L_vs), (aL_ws, eI cI 16 L_ws), (aL_roles, eI cI 16 L_roles), (aL_mates, eI cI 16 L_mates), (aM, .inr (4, [.ref aM_numbers, .ref aM_ranks, .ref aM_ahead, .int M_length, .ref aM_ways, .int M_waysCounted])), (aM_numbers, eI cI 12 M_numbers), (aA, .inr (0, [.ref aA_row, .int A_length])), (aA_row, eI cI 16 A_row), (aC, .inr (2, [.ref aC_variables, .ref aC_prints, .int o7.1])), (aC_variables, eI cI 6 o7.2), (aC_prints, eI cI 16 C_prints)] H := hP
    have hD : va_D A [(aB, .inr (5, [.ref aL, .ref aM, .ref aA, .ref aK, .ref aB_inputs, .int B_manyInputs, .int B_hintsDone, .ref aC1, .ref aC2, .ref aC3])), (aB_inputs, eG cG aB_r0 aB_r1 aB_r2 aB_r3 aB_r4 aB_r5 aB_r6 aB_r7), (aB_r0, eI cI 6 (B_inp 0)), (aB_r1, eI cI 6 (B_inp 1)), (aB_r2, eI cI 6 (B_inp 2)), (aB_r3, eI cI 6 (B_inp 3)), (aB_r4, eI cI 6 (B_inp 4)), (aB_r5, eI cI 6 (B_inp 5)), (aB_r6, eI cI 6 (B_inp 6)), (aB_r7, eI cI 6 (B_inp 7)), (aL, .inr (1, [.ref aL_kinds, .ref aL_vs, .ref aL_ws, .ref aL_roles, .ref aL_mates, .int L_many])), (aL_kinds, eI cI 16 L_kinds), (aL_vs, eI cI 16 L_vs), (aL_ws, eI cI 16 L_ws), (aL_roles, eI cI 16 L_roles), (aL_mates, eI cI 16 L_mates), (aM, .inr (4, [.ref aM_numbers, .ref aM_ranks, .ref aM_ahead, .int M_length, .ref aM_ways, .int M_waysCounted])), (aM_numbers, eI cI 12 M_numbers), (aA, .inr (0, [.ref aA_row, .int A_length])), (aA_row, eI cI 16 A_row), (aC, .inr (2, [.ref aC_variables, .ref aC_prints, .int o7.1])), (aC_variables, eI cI 6 o7.2), (aC_prints, eI cI 16 C_prints)] := hD
    exact b_10 y3 o7.1 o7.2 C_prints hf _ _ _ hP hD hS (lv_sub hl [0, 1, 3] rfl)
  · refine W.eq (g2 := F0 m 7 ls [.ref aB_r7, .ref aC]) rfl ?_
    refine bnd hf (fun o7 e7 hf => ?_)
    refine wrVv (As := [.ref aB_r7]) (rest := []) (cw := [(aC, .inr (2, [.ref aC_variables, .ref aC_prints, .int C_manyPrints])), (aC_variables, eI cI 6 C_variables), (aB_r7, eI cI 6 (B_inp 7))]) (cw' := [(aC, .inr (2, [.ref aC_variables, .ref aC_prints, .int o7.1])), (aC_variables, eI cI 6 o7.2), (aB_r7, eI cI 6 (B_inp 7))]) (wr := [(aB, .inr (5, [.ref aL, .ref aM, .ref aA, .ref aK, .ref aB_inputs, .int B_manyInputs, .int B_hintsDone, .ref aC1, .ref aC2, .ref aC3])), (aB_inputs, eG cG aB_r0 aB_r1 aB_r2 aB_r3 aB_r4 aB_r5 aB_r6 aB_r7), (aB_r0, eI cI 6 (B_inp 0)), (aB_r1, eI cI 6 (B_inp 1)), (aB_r2, eI cI 6 (B_inp 2)), (aB_r3, eI cI 6 (B_inp 3)), (aB_r4, eI cI 6 (B_inp 4)), (aB_r5, eI cI 6 (B_inp 5)), (aB_r6, eI cI 6 (B_inp 6)), (aL, .inr (1, [.ref aL_kinds, .ref aL_vs, .ref aL_ws, .ref aL_roles, .ref aL_mates, .int L_many])), (aL_kinds, eI cI 16 L_kinds), (aL_vs, eI cI 16 L_vs), (aL_ws, eI cI 16 L_ws), (aL_roles, eI cI 16 L_roles), (aL_mates, eI cI 16 L_mates), (aM, .inr (4, [.ref aM_numbers, .ref aM_ranks, .ref aM_ahead, .int M_length, .ref aM_ways, .int M_waysCounted])), (aM_numbers, eI cI 12 M_numbers), (aA, .inr (0, [.ref aA_row, .int A_length])), (aA_row, eI cI 16 A_row), (aC_prints, eI cI 16 C_prints)]) (ws2 := [(aB, .inr (5, [.ref aL, .ref aM, .ref aA, .ref aK, .ref aB_inputs, .int B_manyInputs, .int B_hintsDone, .ref aC1, .ref aC2, .ref aC3])), (aB_inputs, eG cG aB_r0 aB_r1 aB_r2 aB_r3 aB_r4 aB_r5 aB_r6 aB_r7), (aB_r0, eI cI 6 (B_inp 0)), (aB_r1, eI cI 6 (B_inp 1)), (aB_r2, eI cI 6 (B_inp 2)), (aB_r3, eI cI 6 (B_inp 3)), (aB_r4, eI cI 6 (B_inp 4)), (aB_r5, eI cI 6 (B_inp 5)), (aB_r6, eI cI 6 (B_inp 6)), (aB_r7, eI cI 6 (B_inp 7)), (aL, .inr (1, [.ref aL_kinds, .ref aL_vs, .ref aL_ws, .ref aL_roles, .ref aL_mates, .int L_many])), (aL_kinds, eI cI 16 L_kinds), (aL_vs, eI cI 16 L_vs), (aL_ws, eI cI 16 L_ws), (aL_roles, eI cI 16 L_roles), (aL_mates, eI cI 16 L_mates), (aM, .inr (4, [.ref aM_numbers, .ref aM_ranks, .ref aM_ahead, .int M_length, .ref aM_ways, .int M_waysCounted])), (aM_numbers, eI cI 12 M_numbers), (aA, .inr (0, [.ref aA_row, .int A_length])), (aA_row, eI cI 16 A_row), (aC, .inr (2, [.ref aC_variables, .ref aC_prints, .int o7.1])), (aC_variables, eI cI 6 o7.2), (aC_prints, eI cI 16 C_prints)]) ⟨hx, hb, hml, hown, hts⟩ (tX2_start l D cI cJ cG aC aC_variables aC_prints aB_r7 H.size  C_manyPrints C_variables (B_inp 7) o7 e7) (cwV 1 hts gX5_perform_X2_start rfl rfl rfl (by decide +kernel) ⟨Nat.le_of_ble_eq_true rfl, Nat.le_of_ble_eq_true rfl⟩) (va_recv (ci := 2) (q0 := 20) hK.1 hP rfl rfl) hK hP hD hS hA [20, 21, 9] [0, 1, 2, 3, 4, 5, 6, 7, 8, 10, 11, 12, 13, 14, 15, 16, 17, 18, 19, 22] [0, 1, 2, 3, 4, 5, 6, 7, 8, 22, 9, 10, 11, 12, 13, 14, 15, 16, 17, 18, 20, 21, 19] rfl rfl rfl (by decide) (by decide) (by decide) (by decide) rfl hl.1 rfl (lv_room (Nat.le_of_ble_eq_true rfl)) dX5_perform_7 ⟨Nat.le_of_ble_eq_true rfl, Nat.le_of_ble_eq_true rfl⟩ (fun H locs hP hD hS => ?_)
    have hP : va_P D vwCl [(aB, .inr (5, [.ref aL, .ref aM, .ref aA, .ref aK, .ref aB_inputs, .int B_manyInputs, .int B_hintsDone, .ref aC1, .ref aC2, .ref aC3])), (aB_inputs, eG cG aB_r0 aB_r1 aB_r2 aB_r3 aB_r4 aB_r5 aB_r6 aB_r7), (aB_r0, eI cI 6 (B_inp 0)), (aB_r1, eI cI 6 (B_inp 1)), (aB_r2, eI cI 6 (B_inp 2)), (aB_r3, eI cI 6 (B_inp 3)), (aB_r4, eI cI 6 (B_inp 4)), (aB_r5, eI cI 6 (B_inp 5)), (aB_r6, eI cI 6 (B_inp 6)), (aB_r7, eI cI 6 (B_inp 7)), (aL, .inr (1, [.ref aL_kinds, .ref aL_vs, .ref aL_ws, .ref aL_roles, .ref aL_mates, .int L_many])), (aL_kinds, eI cI 16 L_kinds), (aL_vs, eI cI 16 L_vs), (aL_ws, eI cI 16 L_ws), (aL_roles, eI cI 16 L_roles), (aL_mates, eI cI 16 L_mates), (aM, .inr (4, [.ref aM_numbers, .ref aM_ranks, .ref aM_ahead, .int M_length, .ref aM_ways, .int M_waysCounted])), (aM_numbers, eI cI 12 M_numbers), (aA, .inr (0, [.ref aA_row, .int A_length])), (aA_row, eI cI 16 A_row), (aC, .inr (2, [.ref aC_variables, .ref aC_prints, .int o7.1])), (aC_variables, eI cI 6 o7.2), (aC_prints, eI cI 16 C_prints)] H := hP
    have hD : va_D A [(aB, .inr (5, [.ref aL, .ref aM, .ref aA, .ref aK, .ref aB_inputs, .int B_manyInputs, .int B_hintsDone, .ref aC1, .ref aC2, .ref aC3])), (aB_inputs, eG cG aB_r0 aB_r1 aB_r2 aB_r3 aB_r4 aB_r5 aB_r6 aB_r7), (aB_r0, eI cI 6 (B_inp 0)), (aB_r1, eI cI 6 (B_inp 1)), (aB_r2, eI cI 6 (B_inp 2)), (aB_r3, eI cI 6 (B_inp 3)), (aB_r4, eI cI 6 (B_inp 4)), (aB_r5, eI cI 6 (B_inp 5)), (aB_r6, eI cI 6 (B_inp 6)), (aB_r7, eI cI 6 (B_inp 7)), (aL, .inr (1, [.ref aL_kinds, .ref aL_vs, .ref aL_ws, .ref aL_roles, .ref aL_mates, .int L_many])), (aL_kinds, eI cI 16 L_kinds), (aL_vs, eI cI 16 L_vs), (aL_ws, eI cI 16 L_ws), (aL_roles, eI cI 16 L_roles), (aL_mates, eI cI 16 L_mates), (aM, .inr (4, [.ref aM_numbers, .ref aM_ranks, .ref aM_ahead, .int M_length, .ref aM_ways, .int M_waysCounted])), (aM_numbers, eI cI 12 M_numbers), (aA, .inr (0, [.ref aA_row, .int A_length])), (aA_row, eI cI 16 A_row), (aC, .inr (2, [.ref aC_variables, .ref aC_prints, .int o7.1])), (aC_variables, eI cI 6 o7.2), (aC_prints, eI cI 16 C_prints)] := hD
    exact b_10 y3 o7.1 o7.2 C_prints hf _ _ _ hP hD hS (lv_sub hl [0, 1, 3] rfl)

set_option maxHeartbeats 4000000 in
set_option maxRecDepth 100000 in
theorem tX5_run (l : Launch) (D : va_G) (cI cJ cG : ClassId) (aB aL aM aA aK aB_inputs aC1 aC2 aC3 aB_r0 aB_r1 aB_r2 aB_r3 aB_r4 aB_r5 aB_r6 aB_r7 aL_kinds aL_vs aL_ws aL_roles aL_mates aM_numbers aM_ranks aM_ahead aM_ways aA_row aC1_variables aC1_prints : Nat) (sz : Nat) (y1 : Int32) (y2 : Int32) (B_manyInputs : Int32) (B_hintsDone : Int32) (B_inp : (Nat → Nat → Int32)) (L_many : Int32) (L_kinds : (Nat → Int32)) (L_vs : (Nat → Int32)) (L_ws : (Nat → Int32)) (L_roles : (Nat → Int32)) (L_mates : (Nat → Int32)) (M_length : Int32) (M_waysCounted : Int32) (M_numbers : (Nat → Int32)) (A_length : Int32) (A_row : (Nat → Int32)) (C1_manyPrints : Int32) (C1_variables : (Nat → Int32)) (C1_prints : (Nat → Int32)) (out : Int32 × Int32 × (Nat → Int32) × (Nat → Int32)) (hf : fX5_run y1 y2 B_manyInputs B_inp L_many L_kinds L_vs L_ws L_roles L_mates M_length M_numbers A_length A_row C1_manyPrints C1_variables C1_prints = some out) : Met l yX5_run wsX5_run ({ frames := 4, cells := 0, slots := 0, locals := 106 }) (va_Pc [.ref aB, .int y1, .int y2] (wP D (tyL cI cJ cG) [(aB, .inr (5, [.ref aL, .ref aM, .ref aA, .ref aK, .ref aB_inputs, .int B_manyInputs, .int B_hintsDone, .ref aC1, .ref aC2, .ref aC3])), (aB_inputs, eG cG aB_r0 aB_r1 aB_r2 aB_r3 aB_r4 aB_r5 aB_r6 aB_r7), (aB_r0, eI cI 6 (B_inp 0)), (aB_r1, eI cI 6 (B_inp 1)), (aB_r2, eI cI 6 (B_inp 2)), (aB_r3, eI cI 6 (B_inp 3)), (aB_r4, eI cI 6 (B_inp 4)), (aB_r5, eI cI 6 (B_inp 5)), (aB_r6, eI cI 6 (B_inp 6)), (aB_r7, eI cI 6 (B_inp 7)), (aL, .inr (1, [.ref aL_kinds, .ref aL_vs, .ref aL_ws, .ref aL_roles, .ref aL_mates, .int L_many])), (aL_kinds, eI cI 16 L_kinds), (aL_vs, eI cI 16 L_vs), (aL_ws, eI cI 16 L_ws), (aL_roles, eI cI 16 L_roles), (aL_mates, eI cI 16 L_mates), (aM, .inr (4, [.ref aM_numbers, .ref aM_ranks, .ref aM_ahead, .int M_length, .ref aM_ways, .int M_waysCounted])), (aM_numbers, eI cI 12 M_numbers), (aA, .inr (0, [.ref aA_row, .int A_length])), (aA_row, eI cI 16 A_row), (aC1, .inr (2, [.ref aC1_variables, .ref aC1_prints, .int C1_manyPrints])), (aC1_variables, eI cI 6 C1_variables), (aC1_prints, eI cI 16 C1_prints)] sz)) (wQi D out.1 [(aB, .inr (5, [.ref aL, .ref aM, .ref aA, .ref aK, .ref aB_inputs, .int B_manyInputs, .int B_hintsDone, .ref aC1, .ref aC2, .ref aC3])), (aB_inputs, eG cG aB_r0 aB_r1 aB_r2 aB_r3 aB_r4 aB_r5 aB_r6 aB_r7), (aB_r0, eI cI 6 (B_inp 0)), (aB_r1, eI cI 6 (B_inp 1)), (aB_r2, eI cI 6 (B_inp 2)), (aB_r3, eI cI 6 (B_inp 3)), (aB_r4, eI cI 6 (B_inp 4)), (aB_r5, eI cI 6 (B_inp 5)), (aB_r6, eI cI 6 (B_inp 6)), (aB_r7, eI cI 6 (B_inp 7)), (aL, .inr (1, [.ref aL_kinds, .ref aL_vs, .ref aL_ws, .ref aL_roles, .ref aL_mates, .int L_many])), (aL_kinds, eI cI 16 L_kinds), (aL_vs, eI cI 16 L_vs), (aL_ws, eI cI 16 L_ws), (aL_roles, eI cI 16 L_roles), (aL_mates, eI cI 16 L_mates), (aM, .inr (4, [.ref aM_numbers, .ref aM_ranks, .ref aM_ahead, .int M_length, .ref aM_ways, .int M_waysCounted])), (aM_numbers, eI cI 12 M_numbers), (aA, .inr (0, [.ref aA_row, .int A_length])), (aA_row, eI cI 16 A_row), (aC1, .inr (2, [.ref aC1_variables, .ref aC1_prints, .int C1_manyPrints])), (aC1_variables, eI cI 6 C1_variables), (aC1_prints, eI cI 16 C1_prints)] [(aB, .inr (5, [.ref aL, .ref aM, .ref aA, .ref aK, .ref aB_inputs, .int B_manyInputs, .int B_hintsDone, .ref aC1, .ref aC2, .ref aC3])), (aB_inputs, eG cG aB_r0 aB_r1 aB_r2 aB_r3 aB_r4 aB_r5 aB_r6 aB_r7), (aB_r0, eI cI 6 (B_inp 0)), (aB_r1, eI cI 6 (B_inp 1)), (aB_r2, eI cI 6 (B_inp 2)), (aB_r3, eI cI 6 (B_inp 3)), (aB_r4, eI cI 6 (B_inp 4)), (aB_r5, eI cI 6 (B_inp 5)), (aB_r6, eI cI 6 (B_inp 6)), (aB_r7, eI cI 6 (B_inp 7)), (aL, .inr (1, [.ref aL_kinds, .ref aL_vs, .ref aL_ws, .ref aL_roles, .ref aL_mates, .int L_many])), (aL_kinds, eI cI 16 L_kinds), (aL_vs, eI cI 16 L_vs), (aL_ws, eI cI 16 L_ws), (aL_roles, eI cI 16 L_roles), (aL_mates, eI cI 16 L_mates), (aM, .inr (4, [.ref aM_numbers, .ref aM_ranks, .ref aM_ahead, .int M_length, .ref aM_ways, .int M_waysCounted])), (aM_numbers, eI cI 12 M_numbers), (aA, .inr (0, [.ref aA_row, .int A_length])), (aA_row, eI cI 16 A_row), (aC1, .inr (2, [.ref aC1_variables, .ref aC1_prints, .int out.2.1])), (aC1_variables, eI cI 6 out.2.2.1), (aC1_prints, eI cI 16 out.2.2.2)] sz) 0 0 (va_A [(aB, .inr (5, [.ref aL, .ref aM, .ref aA, .ref aK, .ref aB_inputs, .int B_manyInputs, .int B_hintsDone, .ref aC1, .ref aC2, .ref aC3])), (aB_inputs, eG cG aB_r0 aB_r1 aB_r2 aB_r3 aB_r4 aB_r5 aB_r6 aB_r7), (aB_r0, eI cI 6 (B_inp 0)), (aB_r1, eI cI 6 (B_inp 1)), (aB_r2, eI cI 6 (B_inp 2)), (aB_r3, eI cI 6 (B_inp 3)), (aB_r4, eI cI 6 (B_inp 4)), (aB_r5, eI cI 6 (B_inp 5)), (aB_r6, eI cI 6 (B_inp 6)), (aB_r7, eI cI 6 (B_inp 7)), (aL, .inr (1, [.ref aL_kinds, .ref aL_vs, .ref aL_ws, .ref aL_roles, .ref aL_mates, .int L_many])), (aL_kinds, eI cI 16 L_kinds), (aL_vs, eI cI 16 L_vs), (aL_ws, eI cI 16 L_ws), (aL_roles, eI cI 16 L_roles), (aL_mates, eI cI 16 L_mates), (aM, .inr (4, [.ref aM_numbers, .ref aM_ranks, .ref aM_ahead, .int M_length, .ref aM_ways, .int M_waysCounted])), (aM_numbers, eI cI 12 M_numbers), (aA, .inr (0, [.ref aA_row, .int A_length])), (aA_row, eI cI 16 A_row), (aC1, .inr (2, [.ref aC1_variables, .ref aC1_prints, .int C1_manyPrints])), (aC1_variables, eI cI 6 C1_variables), (aC1_prints, eI cI 16 C1_prints)] sz) := by
  refine Met.ofW (cc := cX5_run) (maxL := 3) (ret := (some .int)) (by decide) rfl ?_
  intro p e s m args below meth c s₁ B hml hv
  obtain ⟨rfl, hsz, hP, hK, hD0⟩ := hv
  have hx := B.exec
  have hb := B.bytes
  have hr := B.returns
  have hts := atoms_spec (ws := wsX5_run) B.pre
  have hown : s.vm.findClass RX5 = some m.cls := findClass_of_methodNamed B.named
  have hlocks := B.notSynchronized
  have iX2 : ∀ w ∈ wsX20, w ∈ wsX5_run := by decide +kernel
  have iX5 : ∀ w ∈ wsX50, w ∈ wsX5_run := by decide +kernel
  have k47 := hts (.fieldLink RX5 47 "BlockMarker" "latest" "LBlockMarker$Machine;") (by decide +kernel)
  have k88 := hts (.fieldLink RX5 88 "BlockMarker" "manyInputs" "I") (by decide +kernel)
  have n139 := va_Nw.use (A := ([.ref aB, .int y1, .int y2] : List Value).toArray) rfl (hK.2 (.fieldLinkNest "BlockMarker" 139 "BlockMarker$Machine" "manyPrints" "I" "BlockMarker") (by decide +kernel))
  subst hsz
  have hD := hD0.self (sz := s.heap.size)
  generalize hAe : va_A [(aB, .inr (5, [.ref aL, .ref aM, .ref aA, .ref aK, .ref aB_inputs, .int B_manyInputs, .int B_hintsDone, .ref aC1, .ref aC2, .ref aC3])), (aB_inputs, eG cG aB_r0 aB_r1 aB_r2 aB_r3 aB_r4 aB_r5 aB_r6 aB_r7), (aB_r0, eI cI 6 (B_inp 0)), (aB_r1, eI cI 6 (B_inp 1)), (aB_r2, eI cI 6 (B_inp 2)), (aB_r3, eI cI 6 (B_inp 3)), (aB_r4, eI cI 6 (B_inp 4)), (aB_r5, eI cI 6 (B_inp 5)), (aB_r6, eI cI 6 (B_inp 6)), (aB_r7, eI cI 6 (B_inp 7)), (aL, .inr (1, [.ref aL_kinds, .ref aL_vs, .ref aL_ws, .ref aL_roles, .ref aL_mates, .int L_many])), (aL_kinds, eI cI 16 L_kinds), (aL_vs, eI cI 16 L_vs), (aL_ws, eI cI 16 L_ws), (aL_roles, eI cI 16 L_roles), (aL_mates, eI cI 16 L_mates), (aM, .inr (4, [.ref aM_numbers, .ref aM_ranks, .ref aM_ahead, .int M_length, .ref aM_ways, .int M_waysCounted])), (aM_numbers, eI cI 12 M_numbers), (aA, .inr (0, [.ref aA_row, .int A_length])), (aA_row, eI cI 16 A_row), (aC1, .inr (2, [.ref aC1_variables, .ref aC1_prints, .int C1_manyPrints])), (aC1_variables, eI cI 6 C1_variables), (aC1_prints, eI cI 16 C1_prints)] s.heap.size = A at hD ⊢
  have hA : ∀ q : Nat, s.heap.size ≤ q → A q := fun q h => by rw [← hAe]; exact Or.inr h
  have hS : va_S A s.heap s.heap [] := va_S.rf
  have hl := lv_entry ([.ref aB, .int y1, .int y2]) (n := 3) (Nat.le_of_ble_eq_true rfl)
  rw [lg_entry_eq]
  generalize (lg_sl ([.ref aB, .int y1, .int y2]) ++ List.replicate (3 - (lg_sl ([.ref aB, .int y1, .int y2])).length) Slot.unset).toArray = ls at hl ⊢
  have hl : lv_has ls 3 [(0, .ref aB), (1, .int y1), (2, .int y2)] := hl
  generalize hQQ : MQ below _ _ s 0 0 _ = QQ
  replace hQQ := hQQ.symm
  generalize hHH : s.heap = H at hP ⊢
  have hS : va_S A s.heap H [] := by rw [← hHH]; exact va_S.rf
  generalize ([] : List Loc) = locs at hS ⊢
  unfold fX5_run at hf
  refine lv_iload_n hx hb dX5_run_0 rfl (lv_at hl 1 rfl) ?_
  refine lv_if_lt (tgt := 12) hx hb dX5_run_1 (by decide) (fun c1 => ?_) (fun c1 => ?_)
  · have hf := ifp hf c1
    refine lv_bipush (v := (-101 : Int32)) hx hb dX5_run_12 (by decide) ?_
    rw [hQQ]
    exact W.iret (v := (-101 : Int32)) hx hb hr (fun t ht hW => by rw [← Option.some.inj hf]; rw [← hAe] at hD hS; exact ⟨⟨(-101 : Int32), (), rfl, rfl, by rw [ht]; exact hP, hD⟩, hS.F ht⟩) hS.2.2 dX5_run_14
  · have hf := ifn hf c1
    refine lv_iload_n hx hb dX5_run_4 rfl (lv_at hl 1 rfl) ?_
    refine lv_aload_n hx hb dX5_run_5 rfl (lv_at hl 0 rfl) ?_
    refine va_get (D := D) (ci := 5) (v := .int B_manyInputs) (C := RX5) (T := TX5) (N := 10) hx hb hts iX5 hown hK.1 hP 0 rfl rfl 5 (by decide) k88 (fun _ h9 => h9) rfl dX5_run_6 ?_
    refine lv_icmp_lt (tgt := 15) hx hb dX5_run_9 (by decide) (fun c9 => ?_) (fun c9 => ?_)
    · have hf := ifp hf c9
      refine lv_aload_n hx hb dX5_run_15 rfl (lv_at hl 0 rfl) ?_
      refine lv_aload_n hx hb dX5_run_16 rfl (lv_at hl 0 rfl) ?_
      refine va_get (D := D) (ci := 5) (v := .ref aC1) (C := RX5) (T := TX5) (N := 10) hx hb hts iX5 hown hK.1 hP 0 rfl rfl 7 (by decide) k47 (fun _ h9 => h9) rfl dX5_run_17 ?_
      refine lv_iload_n hx hb dX5_run_20 rfl (lv_at hl 1 rfl) ?_
      refine lv_iload_n hx hb dX5_run_21 rfl (lv_at hl 2 rfl) ?_
      refine bnd hf (fun o22 e22 hf => ?_)
      refine wrVv (As := [.ref aC1, .int y1, .int y2]) (rest := []) (cw := [(aB, .inr (5, [.ref aL, .ref aM, .ref aA, .ref aK, .ref aB_inputs, .int B_manyInputs, .int B_hintsDone, .ref aC1, .ref aC2, .ref aC3])), (aB_inputs, eG cG aB_r0 aB_r1 aB_r2 aB_r3 aB_r4 aB_r5 aB_r6 aB_r7), (aB_r0, eI cI 6 (B_inp 0)), (aB_r1, eI cI 6 (B_inp 1)), (aB_r2, eI cI 6 (B_inp 2)), (aB_r3, eI cI 6 (B_inp 3)), (aB_r4, eI cI 6 (B_inp 4)), (aB_r5, eI cI 6 (B_inp 5)), (aB_r6, eI cI 6 (B_inp 6)), (aB_r7, eI cI 6 (B_inp 7)), (aL, .inr (1, [.ref aL_kinds, .ref aL_vs, .ref aL_ws, .ref aL_roles, .ref aL_mates, .int L_many])), (aL_kinds, eI cI 16 L_kinds), (aL_vs, eI cI 16 L_vs), (aL_ws, eI cI 16 L_ws), (aL_roles, eI cI 16 L_roles), (aL_mates, eI cI 16 L_mates), (aM, .inr (4, [.ref aM_numbers, .ref aM_ranks, .ref aM_ahead, .int M_length, .ref aM_ways, .int M_waysCounted])), (aM_numbers, eI cI 12 M_numbers), (aA, .inr (0, [.ref aA_row, .int A_length])), (aA_row, eI cI 16 A_row), (aC1, .inr (2, [.ref aC1_variables, .ref aC1_prints, .int C1_manyPrints])), (aC1_variables, eI cI 6 C1_variables), (aC1_prints, eI cI 16 C1_prints)]) (cw' := [(aB, .inr (5, [.ref aL, .ref aM, .ref aA, .ref aK, .ref aB_inputs, .int B_manyInputs, .int B_hintsDone, .ref aC1, .ref aC2, .ref aC3])), (aB_inputs, eG cG aB_r0 aB_r1 aB_r2 aB_r3 aB_r4 aB_r5 aB_r6 aB_r7), (aB_r0, eI cI 6 (B_inp 0)), (aB_r1, eI cI 6 (B_inp 1)), (aB_r2, eI cI 6 (B_inp 2)), (aB_r3, eI cI 6 (B_inp 3)), (aB_r4, eI cI 6 (B_inp 4)), (aB_r5, eI cI 6 (B_inp 5)), (aB_r6, eI cI 6 (B_inp 6)), (aB_r7, eI cI 6 (B_inp 7)), (aL, .inr (1, [.ref aL_kinds, .ref aL_vs, .ref aL_ws, .ref aL_roles, .ref aL_mates, .int L_many])), (aL_kinds, eI cI 16 L_kinds), (aL_vs, eI cI 16 L_vs), (aL_ws, eI cI 16 L_ws), (aL_roles, eI cI 16 L_roles), (aL_mates, eI cI 16 L_mates), (aM, .inr (4, [.ref aM_numbers, .ref aM_ranks, .ref aM_ahead, .int M_length, .ref aM_ways, .int M_waysCounted])), (aM_numbers, eI cI 12 M_numbers), (aA, .inr (0, [.ref aA_row, .int A_length])), (aA_row, eI cI 16 A_row), (aC1, .inr (2, [.ref aC1_variables, .ref aC1_prints, .int o22.1])), (aC1_variables, eI cI 6 o22.2.1), (aC1_prints, eI cI 16 o22.2.2)]) (wr := []) (ws2 := [(aB, .inr (5, [.ref aL, .ref aM, .ref aA, .ref aK, .ref aB_inputs, .int B_manyInputs, .int B_hintsDone, .ref aC1, .ref aC2, .ref aC3])), (aB_inputs, eG cG aB_r0 aB_r1 aB_r2 aB_r3 aB_r4 aB_r5 aB_r6 aB_r7), (aB_r0, eI cI 6 (B_inp 0)), (aB_r1, eI cI 6 (B_inp 1)), (aB_r2, eI cI 6 (B_inp 2)), (aB_r3, eI cI 6 (B_inp 3)), (aB_r4, eI cI 6 (B_inp 4)), (aB_r5, eI cI 6 (B_inp 5)), (aB_r6, eI cI 6 (B_inp 6)), (aB_r7, eI cI 6 (B_inp 7)), (aL, .inr (1, [.ref aL_kinds, .ref aL_vs, .ref aL_ws, .ref aL_roles, .ref aL_mates, .int L_many])), (aL_kinds, eI cI 16 L_kinds), (aL_vs, eI cI 16 L_vs), (aL_ws, eI cI 16 L_ws), (aL_roles, eI cI 16 L_roles), (aL_mates, eI cI 16 L_mates), (aM, .inr (4, [.ref aM_numbers, .ref aM_ranks, .ref aM_ahead, .int M_length, .ref aM_ways, .int M_waysCounted])), (aM_numbers, eI cI 12 M_numbers), (aA, .inr (0, [.ref aA_row, .int A_length])), (aA_row, eI cI 16 A_row), (aC1, .inr (2, [.ref aC1_variables, .ref aC1_prints, .int o22.1])), (aC1_variables, eI cI 6 o22.2.1), (aC1_prints, eI cI 16 o22.2.2)]) ⟨hx, hb, hml, hown, hts⟩ (tX5_perform l D cI cJ cG aB aL aM aA aK aB_inputs aC1 aC2 aC3 aB_r0 aB_r1 aB_r2 aB_r3 aB_r4 aB_r5 aB_r6 aB_r7 aL_kinds aL_vs aL_ws aL_roles aL_mates aM_numbers aM_ranks aM_ahead aM_ways aA_row aC1 aC1_variables aC1_prints H.size y1 y2 B_manyInputs B_hintsDone B_inp L_many L_kinds L_vs L_ws L_roles L_mates M_length M_waysCounted M_numbers A_length A_row C1_manyPrints C1_variables C1_prints o22 e22) (cwV 3 hts gX5_run_X5_perform rfl rfl rfl (by decide +kernel) ⟨Nat.le_of_ble_eq_true rfl, Nat.le_of_ble_eq_true rfl⟩) (va_recv (ci := 5) (q0 := 0) hK.1 hP rfl rfl) hK hP hD hS hA [0, 1, 2, 3, 4, 5, 6, 7, 8, 9, 10, 11, 12, 13, 14, 15, 16, 17, 18, 19, 20, 21, 22] [] [0, 1, 2, 3, 4, 5, 6, 7, 8, 9, 10, 11, 12, 13, 14, 15, 16, 17, 18, 19, 20, 21, 22] rfl rfl rfl (by decide) (by decide) (by decide) (by decide) rfl hl.1 rfl (lv_room (Nat.le_of_ble_eq_true rfl)) dX5_run_22 ⟨Nat.le_of_ble_eq_true rfl, Nat.le_of_ble_eq_true rfl⟩ (fun H locs hP hD hS => ?_)
      refine lv_aload_n hx hb dX5_run_25 rfl (lv_at hl 0 rfl) ?_
      refine va_get (D := D) (ci := 5) (v := .ref aC1) (C := RX5) (T := TX5) (N := 10) hx hb hts iX5 hown hK.1 hP 0 rfl rfl 7 (by decide) k47 (fun _ h9 => h9) rfl dX5_run_26 ?_
      refine va_getN (D := D) (ci := 2) (v := .int o22.1) (C := RX2) (T := TX2) (N := 3) hx hb hts iX2 hown hK.1 hP 20 rfl rfl 2 (by decide) n139 (fun _ h9 => h9) rfl dX5_run_29 ?_
      rw [hQQ]
      exact W.iret (v := o22.1) hx hb hr (fun t ht hW => by rw [← Option.some.inj hf]; rw [← hAe] at hD hS; exact ⟨⟨o22.1, (), rfl, rfl, by rw [ht]; exact hP, hD⟩, hS.F ht⟩) hS.2.2 dX5_run_32
    · have hf := ifn hf c9
      refine lv_bipush (v := (-101 : Int32)) hx hb dX5_run_12 (by decide) ?_
      rw [hQQ]
      exact W.iret (v := (-101 : Int32)) hx hb hr (fun t ht hW => by rw [← Option.some.inj hf]; rw [← hAe] at hD hS; exact ⟨⟨(-101 : Int32), (), rfl, rfl, by rw [ht]; exact hP, hD⟩, hS.F ht⟩) hS.2.2 dX5_run_14

set_option maxHeartbeats 4000000 in
set_option maxRecDepth 100000 in
theorem tX5_printed (l : Launch) (D : va_G) (cI cJ cG : ClassId) (aB aL aM aA aK aB_inputs aC1 aC2 aC3 aC1_variables aC1_prints : Nat) (Hs : Heap) (y1 : Int32) (B_manyInputs : Int32) (B_hintsDone : Int32) (C1_manyPrints : Int32) (C1_prints : (Nat → Int32)) (out : Int32) (hf : fX5_printed y1 C1_manyPrints C1_prints = some out) : Met l yX5_printed wsX5_printed ({ frames := 1, cells := 0, slots := 0, locals := 21 }) (va_Pc [.ref aB, .int y1] (rP D (tyL cI cJ cG) [(aB, .inr (5, [.ref aL, .ref aM, .ref aA, .ref aK, .ref aB_inputs, .int B_manyInputs, .int B_hintsDone, .ref aC1, .ref aC2, .ref aC3])), (aC1, .inr (2, [.ref aC1_variables, .ref aC1_prints, .int C1_manyPrints])), (aC1_prints, eI cI 16 C1_prints)] Hs)) (rQi out Hs) 0 0 (fun _ => False) := by
  refine Met.ofW (cc := cX5_printed) (maxL := 2) (ret := (some .int)) (by decide) rfl ?_
  intro p e s m args below meth c s₁ B hml hv
  obtain ⟨rfl, rfl, hP, hK⟩ := hv
  have hx := B.exec
  have hb := B.bytes
  have hr := B.returns
  have hts := atoms_spec (ws := wsX5_printed) B.pre
  have hown : s.vm.findClass RX5 = some m.cls := findClass_of_methodNamed B.named
  have hlocks := B.notSynchronized
  have iX5 : ∀ w ∈ wsX50, w ∈ wsX5_printed := by decide +kernel
  have k47 := hts (.fieldLink RX5 47 "BlockMarker" "latest" "LBlockMarker$Machine;") (by decide +kernel)
  have hS : va_S (fun _ => False) s.heap s.heap [] := va_S.rf
  have hl := lv_entry ([.ref aB, .int y1]) (n := 2) (Nat.le_of_ble_eq_true rfl)
  rw [lg_entry_eq]
  generalize (lg_sl ([.ref aB, .int y1]) ++ List.replicate (2 - (lg_sl ([.ref aB, .int y1])).length) Slot.unset).toArray = ls at hl ⊢
  have hl : lv_has ls 2 [(0, .ref aB), (1, .int y1)] := hl
  generalize hQQ : MQ below _ _ s 0 0 _ = QQ
  replace hQQ := hQQ.symm
  unfold fX5_printed at hf
  refine lv_aload_n hx hb dX5_printed_0 rfl (lv_at hl 0 rfl) ?_
  refine va_get (D := D) (ci := 5) (v := .ref aC1) (C := RX5) (T := TX5) (N := 10) hx hb hts iX5 hown hK.1 hP 0 rfl rfl 7 (by decide) k47 (fun _ h9 => h9) rfl dX5_printed_1 ?_
  refine lv_iload_n hx hb dX5_printed_4 rfl (lv_at hl 1 rfl) ?_
  refine bnd hf (fun o5 e5 hf => ?_)
  refine rdVi (As := [.int y1]) (rest := []) ⟨hx, hb, hml, hown, hts⟩ (tX2_printAt l D cI cJ cG aC1 aC1_variables aC1_prints s.heap y1 C1_manyPrints C1_prints o5 e5) (cwV 1 hts gX5_printed_X2_printAt rfl rfl rfl (by decide +kernel) ⟨Nat.le_of_ble_eq_true rfl, Nat.le_of_ble_eq_true rfl⟩) (va_recv (ci := 2) (q0 := 1) hK.1 hP rfl rfl) hK (hP.sub (ws' := [(aC1, .inr (2, [.ref aC1_variables, .ref aC1_prints, .int C1_manyPrints])), (aC1_prints, eI cI 16 C1_prints)]) [1, 2] rfl) rfl hl.1 rfl (lv_room (Nat.le_of_ble_eq_true rfl)) dX5_printed_5 ⟨Nat.le_of_ble_eq_true rfl, Nat.le_of_ble_eq_true rfl⟩ hS (fun locs hS => ?_)
  rw [hQQ]
  exact W.iret (v := o5) hx hb hr (fun t ht hW => ⟨⟨o5, (), rfl, Option.some.inj hf, ht⟩, rF ht⟩) hS.2.2 dX5_printed_8

set_option maxHeartbeats 4000000 in
set_option maxRecDepth 100000 in
theorem tX5_value (l : Launch) (D : va_G) (cI cJ cG : ClassId) (aB aL aM aA aK aB_inputs aC1 aC2 aC3 aC1_variables aC1_prints : Nat) (Hs : Heap) (y1 : Int32) (B_manyInputs : Int32) (B_hintsDone : Int32) (C1_manyPrints : Int32) (C1_variables : (Nat → Int32)) (out : Int32) (hf : fX5_value y1 C1_variables = some out) : Met l yX5_value wsX5_value ({ frames := 2, cells := 0, slots := 0, locals := 41 }) (va_Pc [.ref aB, .int y1] (rP D (tyL cI cJ cG) [(aB, .inr (5, [.ref aL, .ref aM, .ref aA, .ref aK, .ref aB_inputs, .int B_manyInputs, .int B_hintsDone, .ref aC1, .ref aC2, .ref aC3])), (aC1, .inr (2, [.ref aC1_variables, .ref aC1_prints, .int C1_manyPrints])), (aC1_variables, eI cI 6 C1_variables)] Hs)) (rQi out Hs) 0 0 (fun _ => False) := by
  refine Met.ofW (cc := cX5_value) (maxL := 2) (ret := (some .int)) (by decide) rfl ?_
  intro p e s m args below meth c s₁ B hml hv
  obtain ⟨rfl, rfl, hP, hK⟩ := hv
  have hx := B.exec
  have hb := B.bytes
  have hr := B.returns
  have hts := atoms_spec (ws := wsX5_value) B.pre
  have hown : s.vm.findClass RX5 = some m.cls := findClass_of_methodNamed B.named
  have hlocks := B.notSynchronized
  have iX5 : ∀ w ∈ wsX50, w ∈ wsX5_value := by decide +kernel
  have k47 := hts (.fieldLink RX5 47 "BlockMarker" "latest" "LBlockMarker$Machine;") (by decide +kernel)
  have hS : va_S (fun _ => False) s.heap s.heap [] := va_S.rf
  have hl := lv_entry ([.ref aB, .int y1]) (n := 2) (Nat.le_of_ble_eq_true rfl)
  rw [lg_entry_eq]
  generalize (lg_sl ([.ref aB, .int y1]) ++ List.replicate (2 - (lg_sl ([.ref aB, .int y1])).length) Slot.unset).toArray = ls at hl ⊢
  have hl : lv_has ls 2 [(0, .ref aB), (1, .int y1)] := hl
  generalize hQQ : MQ below _ _ s 0 0 _ = QQ
  replace hQQ := hQQ.symm
  unfold fX5_value at hf
  refine lv_aload_n hx hb dX5_value_0 rfl (lv_at hl 0 rfl) ?_
  refine va_get (D := D) (ci := 5) (v := .ref aC1) (C := RX5) (T := TX5) (N := 10) hx hb hts iX5 hown hK.1 hP 0 rfl rfl 7 (by decide) k47 (fun _ h9 => h9) rfl dX5_value_1 ?_
  refine lv_iload_n hx hb dX5_value_4 rfl (lv_at hl 1 rfl) ?_
  refine bnd hf (fun o5 e5 hf => ?_)
  refine rdVi (As := [.int y1]) (rest := []) ⟨hx, hb, hml, hown, hts⟩ (tX2_valueOf l D cI cJ cG aC1 aC1_variables aC1_prints s.heap y1 C1_manyPrints C1_variables o5 e5) (cwV 1 hts gX5_value_X2_valueOf rfl rfl rfl (by decide +kernel) ⟨Nat.le_of_ble_eq_true rfl, Nat.le_of_ble_eq_true rfl⟩) (va_recv (ci := 2) (q0 := 1) hK.1 hP rfl rfl) hK (hP.sub (ws' := [(aC1, .inr (2, [.ref aC1_variables, .ref aC1_prints, .int C1_manyPrints])), (aC1_variables, eI cI 6 C1_variables)]) [1, 2] rfl) rfl hl.1 rfl (lv_room (Nat.le_of_ble_eq_true rfl)) dX5_value_5 ⟨Nat.le_of_ble_eq_true rfl, Nat.le_of_ble_eq_true rfl⟩ hS (fun locs hS => ?_)
  rw [hQQ]
  exact W.iret (v := o5) hx hb hr (fun t ht hW => ⟨⟨o5, (), rfl, Option.some.inj hf, ht⟩, rF ht⟩) hS.2.2 dX5_value_8

