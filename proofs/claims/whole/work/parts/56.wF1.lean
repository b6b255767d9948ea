set_option maxHeartbeats 4000000 in
set_option maxRecDepth 100000 in
theorem tX6_line (l : Launch) (D : va_G) (cI cJ cG : ClassId) (aF aF_kinds aF_vs aF_ws aF_roles aF_partner aF_lineOf aF_rank aF_behind aF_before aF_ways aF_inputOf aF_answer aF_values aF_printedRow aF_wasValues aF_wasPrinted aF_due aF_takenPlace aF_against : Nat) (sz : Nat) (y1 : Int32) (y2 : Int32) (y3 : Int32) (F_lines : Int32) (F_model : Int32) (F_inputs : Int32) (F_size : Int32) (F_hints : Int32) (F_hasRun : Int32) (F_printedMany : Int32) (F_keptBits : Int32) (F_keptMany : Int32) (F_takenMany : Int32) (F_change : Int32) (F_who : Int32) (F_where : Int32) (F_h : Int64) (F_kinds : (Nat → Int32)) (F_vs : (Nat → Int32)) (F_ws : (Nat → Int32)) (F_roles : (Nat → Int32)) (F_partner : (Nat → Int32)) (F_lineOf : (Nat → Int32)) (F_rank : (Nat → Int32)) (F_behind : (Nat → Int32)) (F_before : (Nat → Int32)) (F_ways : (Nat → Int64)) (out : Int32 × Int32 × Int32 × (Nat → Int32) × (Nat → Int32) × (Nat → Int32) × (Nat → Int32) × (Nat → Int32) × (Nat → Int32) × (Nat → Int32) × (Nat → Int32) × (Nat → Int32) × (Nat → Int64)) (hf : fX6_line y1 y2 y3 F_lines F_model F_size F_kinds F_vs F_ws F_roles F_partner F_lineOf F_rank F_behind F_before F_ways = some out) : Met l yX6_line wsX6_line ({ frames := 3, cells := 0, slots := 0, locals := 70 }) (va_Pc [.ref aF, .int y1, .int y2, .int y3] (wP D (tyL cI cJ cG) [(aF, .inr (6, [.int F_lines, .ref aF_kinds, .ref aF_vs, .ref aF_ws, .ref aF_roles, .ref aF_partner, .int F_model, .ref aF_lineOf, .ref aF_rank, .ref aF_behind, .ref aF_before, .ref aF_ways, .int F_inputs, .ref aF_inputOf, .int F_size, .ref aF_answer, .int F_hints, .int F_hasRun, .ref aF_values, .int F_printedMany, .ref aF_printedRow, .ref aF_wasValues, .ref aF_wasPrinted, .ref aF_due, .int F_keptBits, .int F_keptMany, .int F_takenMany, .ref aF_takenPlace, .ref aF_against, .int F_change, .int F_who, .int F_where, .long F_h])), (aF_kinds, eI cI 16 F_kinds), (aF_vs, eI cI 16 F_vs), (aF_ws, eI cI 16 F_ws), (aF_roles, eI cI 16 F_roles), (aF_partner, eI cI 16 F_partner), (aF_lineOf, eI cI 12 F_lineOf), (aF_rank, eI cI 16 F_rank), (aF_behind, eI cI 12 F_behind), (aF_before, eI cI 12 F_before), (aF_ways, eJ cJ 4096 F_ways)] sz)) (wQi D out.1 [(aF, .inr (6, [.int F_lines, .ref aF_kinds, .ref aF_vs, .ref aF_ws, .ref aF_roles, .ref aF_partner, .int F_model, .ref aF_lineOf, .ref aF_rank, .ref aF_behind, .ref aF_before, .ref aF_ways, .int F_inputs, .ref aF_inputOf, .int F_size, .ref aF_answer, .int F_hints, .int F_hasRun, .ref aF_values, .int F_printedMany, .ref aF_printedRow, .ref aF_wasValues, .ref aF_wasPrinted, .ref aF_due, .int F_keptBits, .int F_keptMany, .int F_takenMany, .ref aF_takenPlace, .ref aF_against, .int F_change, .int F_who, .int F_where, .long F_h])), (aF_kinds, eI cI 16 F_kinds), (aF_vs, eI cI 16 F_vs), (aF_ws, eI cI 16 F_ws), (aF_roles, eI cI 16 F_roles), (aF_partner, eI cI 16 F_partner), (aF_lineOf, eI cI 12 F_lineOf), (aF_rank, eI cI 16 F_rank), (aF_behind, eI cI 12 F_behind), (aF_before, eI cI 12 F_before), (aF_ways, eJ cJ 4096 F_ways)] [(aF, .inr (6, [.int out.2.1, .ref aF_kinds, .ref aF_vs, .ref aF_ws, .ref aF_roles, .ref aF_partner, .int out.2.2.1, .ref aF_lineOf, .ref aF_rank, .ref aF_behind, .ref aF_before, .ref aF_ways, .int F_inputs, .ref aF_inputOf, .int F_size, .ref aF_answer, .int F_hints, .int F_hasRun, .ref aF_values, .int F_printedMany, .ref aF_printedRow, .ref aF_wasValues, .ref aF_wasPrinted, .ref aF_due, .int F_keptBits, .int F_keptMany, .int F_takenMany, .ref aF_takenPlace, .ref aF_against, .int F_change, .int F_who, .int F_where, .long F_h])), (aF_kinds, eI cI 16 out.2.2.2.1), (aF_vs, eI cI 16 out.2.2.2.2.1), (aF_ws, eI cI 16 out.2.2.2.2.2.1), (aF_roles, eI cI 16 out.2.2.2.2.2.2.1), (aF_partner, eI cI 16 out.2.2.2.2.2.2.2.1), (aF_lineOf, eI cI 12 out.2.2.2.2.2.2.2.2.1), (aF_rank, eI cI 16 out.2.2.2.2.2.2.2.2.2.1), (aF_behind, eI cI 12 out.2.2.2.2.2.2.2.2.2.2.1), (aF_before, eI cI 12 out.2.2.2.2.2.2.2.2.2.2.2.1), (aF_ways, eJ cJ 4096 out.2.2.2.2.2.2.2.2.2.2.2.2)] sz) 0 0 (va_A [(aF, .inr (6, [.int F_lines, .ref aF_kinds, .ref aF_vs, .ref aF_ws, .ref aF_roles, .ref aF_partner, .int F_model, .ref aF_lineOf, .ref aF_rank, .ref aF_behind, .ref aF_before, .ref aF_ways, .int F_inputs, .ref aF_inputOf, .int F_size, .ref aF_answer, .int F_hints, .int F_hasRun, .ref aF_values, .int F_printedMany, .ref aF_printedRow, .ref aF_wasValues, .ref aF_wasPrinted, .ref aF_due, .int F_keptBits, .int F_keptMany, .int F_takenMany, .ref aF_takenPlace, .ref aF_against, .int F_change, .int F_who, .int F_where, .long F_h])), (aF_kinds, eI cI 16 F_kinds), (aF_vs, eI cI 16 F_vs), (aF_ws, eI cI 16 F_ws), (aF_roles, eI cI 16 F_roles), (aF_partner, eI cI 16 F_partner), (aF_lineOf, eI cI 12 F_lineOf), (aF_rank, eI cI 16 F_rank), (aF_behind, eI cI 12 F_behind), (aF_before, eI cI 12 F_before), (aF_ways, eJ cJ 4096 F_ways)] sz) := by
  refine Met.ofW (cc := cX6_line) (maxL := 5) (ret := (some .int)) (by decide) rfl ?_
  intro p e s m args below meth c s₁ B hml hv
  obtain ⟨rfl, hsz, hP, hK, hD0⟩ := hv
  have hx := B.exec
  have hb := B.bytes
  have hr := B.returns
  have hts := atoms_spec (ws := wsX6_line) B.pre
  have hown : s.vm.findClass RX6 = some m.cls := findClass_of_methodNamed B.named
  have hlocks := B.notSynchronized
  have iX6 : ∀ w ∈ wsX60, w ∈ wsX6_line := by decide +kernel
  have k25 := hts (.fieldLink RX6 25 "BlockMarkerModel" "lineOf" "[I") (by decide +kernel)
  have k28 := hts (.fieldLink RX6 28 "BlockMarkerModel" "rank" "[I") (by decide +kernel)
  have k68 := hts (.fieldLink RX6 68 "BlockMarkerModel" "lines" "I") (by decide +kernel)
  have k79 := hts (.fieldLink RX6 79 "BlockMarkerModel" "size" "I") (by decide +kernel)
  have k82 := hts (.fieldLink RX6 82 "BlockMarkerModel" "model" "I") (by decide +kernel)
  subst hsz
  have hD := hD0.self (sz := s.heap.size)
  generalize hAe : va_A [(aF, .inr (6, [.int F_lines, .ref aF_kinds, .ref aF_vs, .ref aF_ws, .ref aF_roles, .ref aF_partner, .int F_model, .ref aF_lineOf, .ref aF_rank, .ref aF_behind, .ref aF_before, .ref aF_ways, .int F_inputs, .ref aF_inputOf, .int F_size, .ref aF_answer, .int F_hints, .int F_hasRun, .ref aF_values, .int F_printedMany, .ref aF_printedRow, .ref aF_wasValues, .ref aF_wasPrinted, .ref aF_due, .int F_keptBits, .int F_keptMany, .int F_takenMany, .ref aF_takenPlace, .ref aF_against, .int F_change, .int F_who, .int F_where, .long F_h])), (aF_kinds, eI cI 16 F_kinds), (aF_vs, eI cI 16 F_vs), (aF_ws, eI cI 16 F_ws), (aF_roles, eI cI 16 F_roles), (aF_partner, eI cI 16 F_partner), (aF_lineOf, eI cI 12 F_lineOf), (aF_rank, eI cI 16 F_rank), (aF_behind, eI cI 12 F_behind), (aF_before, eI cI 12 F_before), (aF_ways, eJ cJ 4096 F_ways)] s.heap.size = A at hD ⊢
  have hA : ∀ q : Nat, s.heap.size ≤ q → A q := fun q h => by rw [← hAe]; exact Or.inr h
  have hS : va_S A s.heap s.heap [] := va_S.rf
  have hl := lv_entry ([.ref aF, .int y1, .int y2, .int y3]) (n := 5) (Nat.le_of_ble_eq_true rfl)
  rw [lg_entry_eq]
  generalize (lg_sl ([.ref aF, .int y1, .int y2, .int y3]) ++ List.replicate (5 - (lg_sl ([.ref aF, .int y1, .int y2, .int y3])).length) Slot.unset).toArray = ls at hl ⊢
  have hl : lv_has ls 5 [(0, .ref aF), (1, .int y1), (2, .int y2), (3, .int y3)] := hl
  generalize hQQ : MQ below _ _ s 0 0 _ = QQ
  replace hQQ := hQQ.symm
  generalize hHH : s.heap = H at hP ⊢
  have hS : va_S A s.heap H [] := by rw [← hHH]; exact va_S.rf
  generalize ([] : List Loc) = locs at hS ⊢
  unfold fX6_line at hf
  refine lv_iload_n hx hb dX6_line_0 rfl (lv_at hl 1 rfl) ?_
  refine lv_iload_n hx hb dX6_line_1 rfl (lv_at hl 2 rfl) ?_
  refine lv_iload_n hx hb dX6_line_2 rfl (lv_at hl 3 rfl) ?_
  refine bnd hf (fun o3 e3 hf => ?_)
  refine rdSi (As := [.int y1, .int y2, .int y3]) (rest := []) ⟨hx, hb, hml, hown, hts⟩ (tX6_fits l D cI cJ cG  H y1 y2 y3  o3 e3) (va_cwS 3 hts gX6_line_X6_fits rfl rfl rfl (by decide +kernel) ⟨Nat.le_of_ble_eq_true rfl, Nat.le_of_ble_eq_true rfl⟩) hK (hP.sub (ws' := []) [] rfl) rfl hl.1 rfl (lv_room (Nat.le_of_ble_eq_true rfl)) dX6_line_3 ⟨Nat.le_of_ble_eq_true rfl, Nat.le_of_ble_eq_true rfl⟩ hS (fun locs hS => ?_)
  refine lv_if_ne (tgt := 12) hx hb dX6_line_6 (by decide) (fun c6 => ?_) (fun c6 => ?_)
  · have hf := ifn hf c6
    refine lv_aload_n hx hb dX6_line_12 rfl (lv_at hl 0 rfl) ?_
    refine va_get (D := D) (ci := 6) (v := .int F_size) (C := RX6) (T := TX6) (N := 33) hx hb hts iX6 hown hK.1 hP 0 rfl rfl 14 (by decide) k79 (fun _ h9 => h9) rfl dX6_line_13 ?_
    refine lv_if_le (tgt := 22) hx hb dX6_line_16 (by decide) (fun c16 => ?_) (fun c16 => ?_)
    · have hf := ifp hf c16
      refine lv_aload_n hx hb dX6_line_22 rfl (lv_at hl 0 rfl) ?_
      refine va_get (D := D) (ci := 6) (v := .int F_lines) (C := RX6) (T := TX6) (N := 33) hx hb hts iX6 hown hK.1 hP 0 rfl rfl 0 (by decide) k68 (fun _ h9 => h9) rfl dX6_line_23 ?_
      refine lv_bipush (v := (16 : Int32)) hx hb dX6_line_26 (by decide) ?_
      refine lv_icmp_eq (tgt := 40) hx hb dX6_line_28 (by decide) (fun c28 => ?_) (fun c28 => ?_)
      · have hf := ifp hf c28
        refine lv_bipush (v := (-104 : Int32)) hx hb dX6_line_40 (by decide) ?_
        rw [hQQ]
        exact W.iret (v := (-104 : Int32)) hx hb hr (fun t ht hW => by rw [← Option.some.inj hf]; rw [← hAe] at hD hS; exact ⟨⟨(-104 : Int32), (), rfl, rfl, by rw [ht]; exact hP, hD⟩, hS.F ht⟩) hS.2.2 dX6_line_42
      · have hf := ifn hf c28
        refine lv_aload_n hx hb dX6_line_31 rfl (lv_at hl 0 rfl) ?_
        refine va_get (D := D) (ci := 6) (v := .int F_model) (C := RX6) (T := TX6) (N := 33) hx hb hts iX6 hown hK.1 hP 0 rfl rfl 6 (by decide) k82 (fun _ h9 => h9) rfl dX6_line_32 ?_
        refine lv_bipush (v := (12 : Int32)) hx hb dX6_line_35 (by decide) ?_
        refine lv_icmp_ne (tgt := 43) hx hb dX6_line_37 (by decide) (fun c37 => ?_) (fun c37 => ?_)
        · have hf := ifn hf c37
          refine lv_aload_n hx hb dX6_line_43 rfl (lv_at hl 0 rfl) ?_
          refine lv_iload_n hx hb dX6_line_44 rfl (lv_at hl 1 rfl) ?_
          refine lv_iload_n hx hb dX6_line_45 rfl (lv_at hl 2 rfl) ?_
          refine lv_iload_n hx hb dX6_line_46 rfl (lv_at hl 3 rfl) ?_
          refine lv_iconst (v := (0 : Int32)) hx hb dX6_line_47 (by decide) ?_
          refine bnd hf (fun o48 e48 hf => ?_)
          refine wrVi (As := [.int y1, .int y2, .int y3, .int (0 : Int32)]) (rest := []) (cw := [(aF, .inr (6, [.int F_lines, .ref aF_kinds, .ref aF_vs, .ref aF_ws, .ref aF_roles, .ref aF_partner, .int F_model, .ref aF_lineOf, .ref aF_rank, .ref aF_behind, .ref aF_before, .ref aF_ways, .int F_inputs, .ref aF_inputOf, .int F_size, .ref aF_answer, .int F_hints, .int F_hasRun, .ref aF_values, .int F_printedMany, .ref aF_printedRow, .ref aF_wasValues, .ref aF_wasPrinted, .ref aF_due, .int F_keptBits, .int F_keptMany, .int F_takenMany, .ref aF_takenPlace, .ref aF_against, .int F_change, .int F_who, .int F_where, .long F_h])), (aF_kinds, eI cI 16 F_kinds), (aF_vs, eI cI 16 F_vs), (aF_ws, eI cI 16 F_ws), (aF_roles, eI cI 16 F_roles), (aF_partner, eI cI 16 F_partner)]) (cw' := [(aF, .inr (6, [.int o48.2.1, .ref aF_kinds, .ref aF_vs, .ref aF_ws, .ref aF_roles, .ref aF_partner, .int F_model, .ref aF_lineOf, .ref aF_rank, .ref aF_behind, .ref aF_before, .ref aF_ways, .int F_inputs, .ref aF_inputOf, .int F_size, .ref aF_answer, .int F_hints, .int F_hasRun, .ref aF_values, .int F_printedMany, .ref aF_printedRow, .ref aF_wasValues, .ref aF_wasPrinted, .ref aF_due, .int F_keptBits, .int F_keptMany, .int F_takenMany, .ref aF_takenPlace, .ref aF_against, .int F_change, .int F_who, .int F_where, .long F_h])), (aF_kinds, eI cI 16 o48.2.2.1), (aF_vs, eI cI 16 o48.2.2.2.1), (aF_ws, eI cI 16 o48.2.2.2.2.1), (aF_roles, eI cI 16 o48.2.2.2.2.2.1), (aF_partner, eI cI 16 o48.2.2.2.2.2.2)]) (wr := [(aF_lineOf, eI cI 12 F_lineOf), (aF_rank, eI cI 16 F_rank), (aF_behind, eI cI 12 F_behind), (aF_before, eI cI 12 F_before), (aF_ways, eJ cJ 4096 F_ways)]) (ws2 := [(aF, .inr (6, [.int o48.2.1, .ref aF_kinds, .ref aF_vs, .ref aF_ws, .ref aF_roles, .ref aF_partner, .int F_model, .ref aF_lineOf, .ref aF_rank, .ref aF_behind, .ref aF_before, .ref aF_ways, .int F_inputs, .ref aF_inputOf, .int F_size, .ref aF_answer, .int F_hints, .int F_hasRun, .ref aF_values, .int F_printedMany, .ref aF_printedRow, .ref aF_wasValues, .ref aF_wasPrinted, .ref aF_due, .int F_keptBits, .int F_keptMany, .int F_takenMany, .ref aF_takenPlace, .ref aF_against, .int F_change, .int F_who, .int F_where, .long F_h])), (aF_kinds, eI cI 16 o48.2.2.1), (aF_vs, eI cI 16 o48.2.2.2.1), (aF_ws, eI cI 16 o48.2.2.2.2.1), (aF_roles, eI cI 16 o48.2.2.2.2.2.1), (aF_partner, eI cI 16 o48.2.2.2.2.2.2), (aF_lineOf, eI cI 12 F_lineOf), (aF_rank, eI cI 16 F_rank), (aF_behind, eI cI 12 F_behind), (aF_before, eI cI 12 F_before), (aF_ways, eJ cJ 4096 F_ways)]) ⟨hx, hb, hml, hown, hts⟩ (tX6_come l D cI cJ cG aF aF_kinds aF_vs aF_ws aF_roles aF_partner aF_lineOf aF_rank aF_behind aF_before aF_ways aF_inputOf aF_answer aF_values aF_printedRow aF_wasValues aF_wasPrinted aF_due aF_takenPlace aF_against H.size y1 y2 y3 (0 : Int32) F_lines F_model F_inputs F_size F_hints F_hasRun F_printedMany F_keptBits F_keptMany F_takenMany F_change F_who F_where F_h F_kinds F_vs F_ws F_roles F_partner o48 e48) (cwV 4 hts gX6_line_X6_come rfl rfl rfl (by decide +kernel) ⟨Nat.le_of_ble_eq_true rfl, Nat.le_of_ble_eq_true rfl⟩) (va_recv (ci := 6) (q0 := 0) hK.1 hP rfl rfl) hK hP hD hS hA [0, 1, 2, 3, 4, 5] [6, 7, 8, 9, 10] [5, 6, 7, 8, 9, 10, 0, 1, 2, 3, 4] rfl rfl rfl (by decide) (by decide) (by decide) (by decide) rfl hl.1 rfl (lv_room (Nat.le_of_ble_eq_true rfl)) dX6_line_48 ⟨Nat.le_of_ble_eq_true rfl, Nat.le_of_ble_eq_true rfl⟩ (fun H locs hP hD hS => ?_)
          refine lv_istore (lv' := [(4, .int o48.1), (0, .ref aF), (1, .int y1), (2, .int y2), (3, .int y3)]) hx hb dX6_line_51 hl (by decide) rfl (fun ls hl => ?_)
          refine lv_aload_n hx hb dX6_line_53 rfl (lv_at hl 1 rfl) ?_
          refine va_get (D := D) (ci := 6) (v := .ref aF_lineOf) (C := RX6) (T := TX6) (N := 33) hx hb hts iX6 hown hK.1 hP 0 rfl rfl 7 (by decide) k25 (fun _ h9 => h9) rfl dX6_line_54 ?_
          refine lv_aload_n hx hb dX6_line_57 rfl (lv_at hl 1 rfl) ?_
          refine va_get (D := D) (ci := 6) (v := .int F_model) (C := RX6) (T := TX6) (N := 33) hx hb hts iX6 hown hK.1 hP 0 rfl rfl 6 (by decide) k82 (fun _ h9 => h9) rfl dX6_line_58 ?_
          refine lv_iload hx hb dX6_line_61 (lv_at hl 0 rfl) ?_
          refine ckE hf (fun h63 hf => ?_)
          refine va_iast hx hb hK.1 hP hD hS 6 0 rfl rfl (inB_in h63) dX6_line_63 (fun H locs hP hD hS => ?_)
          have hP : va_P D vwCl [(aF, .inr (6, [.int o48.2.1, .ref aF_kinds, .ref aF_vs, .ref aF_ws, .ref aF_roles, .ref aF_partner, .int F_model, .ref aF_lineOf, .ref aF_rank, .ref aF_behind, .ref aF_before, .ref aF_ways, .int F_inputs, .ref aF_inputOf, .int F_size, .ref aF_answer, .int F_hints, .int F_hasRun, .ref aF_values, .int F_printedMany, .ref aF_printedRow, .ref aF_wasValues, .ref aF_wasPrinted, .ref aF_due, .int F_keptBits, .int F_keptMany, .int F_takenMany, .ref aF_takenPlace, .ref aF_against, .int F_change, .int F_who, .int F_where, .long F_h])), (aF_kinds, eI cI 16 o48.2.2.1), (aF_vs, eI cI 16 o48.2.2.2.1), (aF_ws, eI cI 16 o48.2.2.2.2.1), (aF_roles, eI cI 16 o48.2.2.2.2.2.1), (aF_partner, eI cI 16 o48.2.2.2.2.2.2), (aF_lineOf, eI cI 12 (upd F_lineOf (F_model).toNatClampNeg o48.1)), (aF_rank, eI cI 16 F_rank), (aF_behind, eI cI 12 F_behind), (aF_before, eI cI 12 F_before), (aF_ways, eJ cJ 4096 F_ways)] H := hP
          have hD : va_D A [(aF, .inr (6, [.int o48.2.1, .ref aF_kinds, .ref aF_vs, .ref aF_ws, .ref aF_roles, .ref aF_partner, .int F_model, .ref aF_lineOf, .ref aF_rank, .ref aF_behind, .ref aF_before, .ref aF_ways, .int F_inputs, .ref aF_inputOf, .int F_size, .ref aF_answer, .int F_hints, .int F_hasRun, .ref aF_values, .int F_printedMany, .ref aF_printedRow, .ref aF_wasValues, .ref aF_wasPrinted, .ref aF_due, .int F_keptBits, .int F_keptMany, .int F_takenMany, .ref aF_takenPlace, .ref aF_against, .int F_change, .int F_who, .int F_where, .long F_h])), (aF_kinds, eI cI 16 o48.2.2.1), (aF_vs, eI cI 16 o48.2.2.2.1), (aF_ws, eI cI 16 o48.2.2.2.2.1), (aF_roles, eI cI 16 o48.2.2.2.2.2.1), (aF_partner, eI cI 16 o48.2.2.2.2.2.2), (aF_lineOf, eI cI 12 (upd F_lineOf (F_model).toNatClampNeg o48.1)), (aF_rank, eI cI 16 F_rank), (aF_behind, eI cI 12 F_behind), (aF_before, eI cI 12 F_before), (aF_ways, eJ cJ 4096 F_ways)] := hD
          refine lv_aload_n hx hb dX6_line_64 rfl (lv_at hl 1 rfl) ?_
          refine va_get (D := D) (ci := 6) (v := .ref aF_rank) (C := RX6) (T := TX6) (N := 33) hx hb hts iX6 hown hK.1 hP 0 rfl rfl 8 (by decide) k28 (fun _ h9 => h9) rfl dX6_line_65 ?_
          refine lv_iload hx hb dX6_line_68 (lv_at hl 0 rfl) ?_
          refine lv_aload_n hx hb dX6_line_70 rfl (lv_at hl 1 rfl) ?_
          refine va_get (D := D) (ci := 6) (v := .int F_model) (C := RX6) (T := TX6) (N := 33) hx hb hts iX6 hown hK.1 hP 0 rfl rfl 6 (by decide) k82 (fun _ h9 => h9) rfl dX6_line_71 ?_
          refine ckE hf (fun h74 hf => ?_)
          refine va_iast hx hb hK.1 hP hD hS 7 0 rfl rfl (inB_in h74) dX6_line_74 (fun H locs hP hD hS => ?_)
          have hP : va_P D vwCl [(aF, .inr (6, [.int o48.2.1, .ref aF_kinds, .ref aF_vs, .ref aF_ws, .ref aF_roles, .ref aF_partner, .int F_model, .ref aF_lineOf, .ref aF_rank, .ref aF_behind, .ref aF_before, .ref aF_ways, .int F_inputs, .ref aF_inputOf, .int F_size, .ref aF_answer, .int F_hints, .int F_hasRun, .ref aF_values, .int F_printedMany, .ref aF_printedRow, .ref aF_wasValues, .ref aF_wasPrinted, .ref aF_due, .int F_keptBits, .int F_keptMany, .int F_takenMany, .ref aF_takenPlace, .ref aF_against, .int F_change, .int F_who, .int F_where, .long F_h])), (aF_kinds, eI cI 16 o48.2.2.1), (aF_vs, eI cI 16 o48.2.2.2.1), (aF_ws, eI cI 16 o48.2.2.2.2.1), (aF_roles, eI cI 16 o48.2.2.2.2.2.1), (aF_partner, eI cI 16 o48.2.2.2.2.2.2), (aF_lineOf, eI cI 12 (upd F_lineOf (F_model).toNatClampNeg o48.1)), (aF_rank, eI cI 16 (upd F_rank (o48.1).toNatClampNeg F_model)), (aF_behind, eI cI 12 F_behind), (aF_before, eI cI 12 F_before), (aF_ways, eJ cJ 4096 F_ways)] H := hP
          have hD : va_D A [(aF, .inr (6, [.int o48.2.1, .ref aF_kinds, .ref aF_vs, .ref aF_ws, .ref aF_roles, .ref aF_partner, .int F_model, .ref aF_lineOf, .ref aF_rank, .ref aF_behind, .ref aF_before, .ref aF_ways, .int F_inputs, .ref aF_inputOf, .int F_size, .ref aF_answer, .int F_hints, .int F_hasRun, .ref aF_values, .int F_printedMany, .ref aF_printedRow, .ref aF_wasValues, .ref aF_wasPrinted, .ref aF_due, .int F_keptBits, .int F_keptMany, .int F_takenMany, .ref aF_takenPlace, .ref aF_against, .int F_change, .int F_who, .int F_where, .long F_h])), (aF_kinds, eI cI 16 o48.2.2.1), (aF_vs, eI cI 16 o48.2.2.2.1), (aF_ws, eI cI 16 o48.2.2.2.2.1), (aF_roles, eI cI 16 o48.2.2.2.2.2.1), (aF_partner, eI cI 16 o48.2.2.2.2.2.2), (aF_lineOf, eI cI 12 (upd F_lineOf (F_model).toNatClampNeg o48.1)), (aF_rank, eI cI 16 (upd F_rank (o48.1).toNatClampNeg F_model)), (aF_behind, eI cI 12 F_behind), (aF_before, eI cI 12 F_before), (aF_ways, eJ cJ 4096 F_ways)] := hD
          refine lv_aload_n hx hb dX6_line_75 rfl (lv_at hl 1 rfl) ?_
          refine lv_dup hx hb dX6_line_76 rfl ?_
          refine va_get (D := D) (ci := 6) (v := .int F_model) (C := RX6) (T := TX6) (N := 33) hx hb hts iX6 hown hK.1 hP 0 rfl rfl 6 (by decide) k82 (fun _ h9 => h9) rfl dX6_line_77 ?_
          refine lv_iconst (v := (1 : Int32)) hx hb dX6_line_80 (by decide) ?_
          refine lv_iadd hx hb dX6_line_81 ?_
          refine va_put (D := D) (ci := 6) (v := .int (F_model + (1 : Int32))) (ty := .int) (C := RX6) (T := TX6) (N := 33) hx hb hts iX6 tyX6 tyX6_ok nmX6 hown hK.1 hP hD hS 0 rfl rfl 6 (by decide) k82 (fun _ h9 => h9) rfl (by decide +kernel) rfl rfl (Nat.le_of_ble_eq_true rfl) dX6_line_82 (fun H locs hP hD hS => ?_)
          have hP : va_P D vwCl [(aF, .inr (6, [.int o48.2.1, .ref aF_kinds, .ref aF_vs, .ref aF_ws, .ref aF_roles, .ref aF_partner, .int (F_model + (1 : Int32)), .ref aF_lineOf, .ref aF_rank, .ref aF_behind, .ref aF_before, .ref aF_ways, .int F_inputs, .ref aF_inputOf, .int F_size, .ref aF_answer, .int F_hints, .int F_hasRun, .ref aF_values, .int F_printedMany, .ref aF_printedRow, .ref aF_wasValues, .ref aF_wasPrinted, .ref aF_due, .int F_keptBits, .int F_keptMany, .int F_takenMany, .ref aF_takenPlace, .ref aF_against, .int F_change, .int F_who, .int F_where, .long F_h])), (aF_kinds, eI cI 16 o48.2.2.1), (aF_vs, eI cI 16 o48.2.2.2.1), (aF_ws, eI cI 16 o48.2.2.2.2.1), (aF_roles, eI cI 16 o48.2.2.2.2.2.1), (aF_partner, eI cI 16 o48.2.2.2.2.2.2), (aF_lineOf, eI cI 12 (upd F_lineOf (F_model).toNatClampNeg o48.1)), (aF_rank, eI cI 16 (upd F_rank (o48.1).toNatClampNeg F_model)), (aF_behind, eI cI 12 F_behind), (aF_before, eI cI 12 F_before), (aF_ways, eJ cJ 4096 F_ways)] H := hP
          have hD : va_D A [(aF, .inr (6, [.int o48.2.1, .ref aF_kinds, .ref aF_vs, .ref aF_ws, .ref aF_roles, .ref aF_partner, .int (F_model + (1 : Int32)), .ref aF_lineOf, .ref aF_rank, .ref aF_behind, .ref aF_before, .ref aF_ways, .int F_inputs, .ref aF_inputOf, .int F_size, .ref aF_answer, .int F_hints, .int F_hasRun, .ref aF_values, .int F_printedMany, .ref aF_printedRow, .ref aF_wasValues, .ref aF_wasPrinted, .ref aF_due, .int F_keptBits, .int F_keptMany, .int F_takenMany, .ref aF_takenPlace, .ref aF_against, .int F_change, .int F_who, .int F_where, .long F_h])), (aF_kinds, eI cI 16 o48.2.2.1), (aF_vs, eI cI 16 o48.2.2.2.1), (aF_ws, eI cI 16 o48.2.2.2.2.1), (aF_roles, eI cI 16 o48.2.2.2.2.2.1), (aF_partner, eI cI 16 o48.2.2.2.2.2.2), (aF_lineOf, eI cI 12 (upd F_lineOf (F_model).toNatClampNeg o48.1)), (aF_rank, eI cI 16 (upd F_rank (o48.1).toNatClampNeg F_model)), (aF_behind, eI cI 12 F_behind), (aF_before, eI cI 12 F_before), (aF_ways, eJ cJ 4096 F_ways)] := hD
          refine lv_aload_n hx hb dX6_line_85 rfl (lv_at hl 1 rfl) ?_
          refine bnd hf (fun o86 e86 hf => ?_)
          refine wrVv (As := []) (rest := []) (cw := [(aF, .inr (6, [.int o48.2.1, .ref aF_kinds, .ref aF_vs, .ref aF_ws, .ref aF_roles, .ref aF_partner, .int (F_model + (1 : Int32)), .ref aF_lineOf, .ref aF_rank, .ref aF_behind, .ref aF_before, .ref aF_ways, .int F_inputs, .ref aF_inputOf, .int F_size, .ref aF_answer, .int F_hints, .int F_hasRun, .ref aF_values, .int F_printedMany, .ref aF_printedRow, .ref aF_wasValues, .ref aF_wasPrinted, .ref aF_due, .int F_keptBits, .int F_keptMany, .int F_takenMany, .ref aF_takenPlace, .ref aF_against, .int F_change, .int F_who, .int F_where, .long F_h])), (aF_kinds, eI cI 16 o48.2.2.1), (aF_vs, eI cI 16 o48.2.2.2.1), (aF_ws, eI cI 16 o48.2.2.2.2.1), (aF_lineOf, eI cI 12 (upd F_lineOf (F_model).toNatClampNeg o48.1)), (aF_behind, eI cI 12 F_behind), (aF_before, eI cI 12 F_before), (aF_ways, eJ cJ 4096 F_ways)]) (cw' := [(aF, .inr (6, [.int o48.2.1, .ref aF_kinds, .ref aF_vs, .ref aF_ws, .ref aF_roles, .ref aF_partner, .int (F_model + (1 : Int32)), .ref aF_lineOf, .ref aF_rank, .ref aF_behind, .ref aF_before, .ref aF_ways, .int F_inputs, .ref aF_inputOf, .int F_size, .ref aF_answer, .int F_hints, .int F_hasRun, .ref aF_values, .int F_printedMany, .ref aF_printedRow, .ref aF_wasValues, .ref aF_wasPrinted, .ref aF_due, .int F_keptBits, .int F_keptMany, .int F_takenMany, .ref aF_takenPlace, .ref aF_against, .int F_change, .int F_who, .int F_where, .long F_h])), (aF_kinds, eI cI 16 o48.2.2.1), (aF_vs, eI cI 16 o48.2.2.2.1), (aF_ws, eI cI 16 o48.2.2.2.2.1), (aF_lineOf, eI cI 12 (upd F_lineOf (F_model).toNatClampNeg o48.1)), (aF_behind, eI cI 12 o86.1), (aF_before, eI cI 12 o86.2.1), (aF_ways, eJ cJ 4096 o86.2.2)]) (wr := [(aF_roles, eI cI 16 o48.2.2.2.2.2.1), (aF_partner, eI cI 16 o48.2.2.2.2.2.2), (aF_rank, eI cI 16 (upd F_rank (o48.1).toNatClampNeg F_model))]) (ws2 := [(aF, .inr (6, [.int o48.2.1, .ref aF_kinds, .ref aF_vs, .ref aF_ws, .ref aF_roles, .ref aF_partner, .int (F_model + (1 : Int32)), .ref aF_lineOf, .ref aF_rank, .ref aF_behind, .ref aF_before, .ref aF_ways, .int F_inputs, .ref aF_inputOf, .int F_size, .ref aF_answer, .int F_hints, .int F_hasRun, .ref aF_values, .int F_printedMany, .ref aF_printedRow, .ref aF_wasValues, .ref aF_wasPrinted, .ref aF_due, .int F_keptBits, .int F_keptMany, .int F_takenMany, .ref aF_takenPlace, .ref aF_against, .int F_change, .int F_who, .int F_where, .long F_h])), (aF_kinds, eI cI 16 o48.2.2.1), (aF_vs, eI cI 16 o48.2.2.2.1), (aF_ws, eI cI 16 o48.2.2.2.2.1), (aF_roles, eI cI 16 o48.2.2.2.2.2.1), (aF_partner, eI cI 16 o48.2.2.2.2.2.2), (aF_lineOf, eI cI 12 (upd F_lineOf (F_model).toNatClampNeg o48.1)), (aF_rank, eI cI 16 (upd F_rank (o48.1).toNatClampNeg F_model)), (aF_behind, eI cI 12 o86.1), (aF_before, eI cI 12 o86.2.1), (aF_ways, eJ cJ 4096 o86.2.2)]) ⟨hx, hb, hml, hown, hts⟩ (tX6_relate l D cI cJ cG aF aF_kinds aF_vs aF_ws aF_roles aF_partner aF_lineOf aF_rank aF_behind aF_before aF_ways aF_inputOf aF_answer aF_values aF_printedRow aF_wasValues aF_wasPrinted aF_due aF_takenPlace aF_against H.size  o48.2.1 (F_model + (1 : Int32)) F_inputs F_size F_hints F_hasRun F_printedMany F_keptBits F_keptMany F_takenMany F_change F_who F_where F_h o48.2.2.1 o48.2.2.2.1 o48.2.2.2.2.1 (upd F_lineOf (F_model).toNatClampNeg o48.1) F_behind F_before F_ways o86 e86) (cwV 0 hts gX6_line_X6_relate rfl rfl rfl (by decide +kernel) ⟨Nat.le_of_ble_eq_true rfl, Nat.le_of_ble_eq_true rfl⟩) (va_recv (ci := 6) (q0 := 0) hK.1 hP rfl rfl) hK hP hD hS hA [0, 1, 2, 3, 6, 8, 9, 10] [4, 5, 7] [3, 4, 5, 6, 0, 1, 7, 2, 8, 9, 10] rfl rfl rfl (by decide) (by decide) (by decide) (by decide) rfl hl.1 rfl (lv_room (Nat.le_of_ble_eq_true rfl)) dX6_line_86 ⟨Nat.le_of_ble_eq_true rfl, Nat.le_of_ble_eq_true rfl⟩ (fun H locs hP hD hS => ?_)
          refine lv_iload hx hb dX6_line_89 (lv_at hl 0 rfl) ?_
          rw [hQQ]
          exact W.iret (v := o48.1) hx hb hr (fun t ht hW => by rw [← Option.some.inj hf]; rw [← hAe] at hD hS; exact ⟨⟨o48.1, (), rfl, rfl, by rw [ht]; exact hP, hD⟩, hS.F ht⟩) hS.2.2 dX6_line_91
        · have hf := ifp hf c37
          refine lv_bipush (v := (-104 : Int32)) hx hb dX6_line_40 (by decide) ?_
          rw [hQQ]
          exact W.iret (v := (-104 : Int32)) hx hb hr (fun t ht hW => by rw [← Option.some.inj hf]; rw [← hAe] at hD hS; exact ⟨⟨(-104 : Int32), (), rfl, rfl, by rw [ht]; exact hP, hD⟩, hS.F ht⟩) hS.2.2 dX6_line_42
    · have hf := ifn hf c16
      refine lv_bipush (v := (-103 : Int32)) hx hb dX6_line_19 (by decide) ?_
      rw [hQQ]
      exact W.iret (v := (-103 : Int32)) hx hb hr (fun t ht hW => by rw [← Option.some.inj hf]; rw [← hAe] at hD hS; exact ⟨⟨(-103 : Int32), (), rfl, rfl, by rw [ht]; exact hP, hD⟩, hS.F ht⟩) hS.2.2 dX6_line_21
  · have hf := ifp hf c6
    refine lv_bipush (v := (-102 : Int32)) hx hb dX6_line_9 (by decide) ?_
    rw [hQQ]
    exact W.iret (v := (-102 : Int32)) hx hb hr (fun t ht hW => by rw [← Option.some.inj hf]; rw [← hAe] at hD hS; exact ⟨⟨(-102 : Int32), (), rfl, rfl, by rw [ht]; exact hP, hD⟩, hS.F ht⟩) hS.2.2 dX6_line_11

set_option maxHeartbeats 4000000 in
set_option maxRecDepth 100000 in
theorem tX6_decoy (l : Launch) (D : va_G) (cI cJ cG : ClassId) (aF aF_kinds aF_vs aF_ws aF_roles aF_partner aF_lineOf aF_rank aF_behind aF_before aF_ways aF_inputOf aF_answer aF_values aF_printedRow aF_wasValues aF_wasPrinted aF_due aF_takenPlace aF_against : Nat) (sz : Nat) (y1 : Int32) (y2 : Int32) (y3 : Int32) (F_lines : Int32) (F_model : Int32) (F_inputs : Int32) (F_size : Int32) (F_hints : Int32) (F_hasRun : Int32) (F_printedMany : Int32) (F_keptBits : Int32) (F_keptMany : Int32) (F_takenMany : Int32) (F_change : Int32) (F_who : Int32) (F_where : Int32) (F_h : Int64) (F_kinds : (Nat → Int32)) (F_vs : (Nat → Int32)) (F_ws : (Nat → Int32)) (F_roles : (Nat → Int32)) (F_partner : (Nat → Int32)) (out : Int32 × Int32 × (Nat → Int32) × (Nat → Int32) × (Nat → Int32) × (Nat → Int32) × (Nat → Int32)) (hf : fX6_decoy y1 y2 y3 F_lines F_size F_kinds F_vs F_ws F_roles F_partner = some out) : Met l yX6_decoy wsX6_decoy ({ frames := 2, cells := 0, slots := 0, locals := 45 }) (va_Pc [.ref aF, .int y1, .int y2, .int y3] (wP D (tyL cI cJ cG) [(aF, .inr (6, [.int F_lines, .ref aF_kinds, .ref aF_vs, .ref aF_ws, .ref aF_roles, .ref aF_partner, .int F_model, .ref aF_lineOf, .ref aF_rank, .ref aF_behind, .ref aF_before, .ref aF_ways, .int F_inputs, .ref aF_inputOf, .int F_size, .ref aF_answer, .int F_hints, .int F_hasRun, .ref aF_values, .int F_printedMany, .ref aF_printedRow, .ref aF_wasValues, .ref aF_wasPrinted, .ref aF_due, .int F_keptBits, .int F_keptMany, .int F_takenMany, .ref aF_takenPlace, .ref aF_against, .int F_change, .int F_who, .int F_where, .long F_h])), (aF_kinds, eI cI 16 F_kinds), (aF_vs, eI cI 16 F_vs), (aF_ws, eI cI 16 F_ws), (aF_roles, eI cI 16 F_roles), (aF_partner, eI cI 16 F_partner)] sz)) (wQi D out.1 [(aF, .inr (6, [.int F_lines, .ref aF_kinds, .ref aF_vs, .ref aF_ws, .ref aF_roles, .ref aF_partner, .int F_model, .ref aF_lineOf, .ref aF_rank, .ref aF_behind, .ref aF_before, .ref aF_ways, .int F_inputs, .ref aF_inputOf, .int F_size, .ref aF_answer, .int F_hints, .int F_hasRun, .ref aF_values, .int F_printedMany, .ref aF_printedRow, .ref aF_wasValues, .ref aF_wasPrinted, .ref aF_due, .int F_keptBits, .int F_keptMany, .int F_takenMany, .ref aF_takenPlace, .ref aF_against, .int F_change, .int F_who, .int F_where, .long F_h])), (aF_kinds, eI cI 16 F_kinds), (aF_vs, eI cI 16 F_vs), (aF_ws, eI cI 16 F_ws), (aF_roles, eI cI 16 F_roles), (aF_partner, eI cI 16 F_partner)] [(aF, .inr (6, [.int out.2.1, .ref aF_kinds, .ref aF_vs, .ref aF_ws, .ref aF_roles, .ref aF_partner, .int F_model, .ref aF_lineOf, .ref aF_rank, .ref aF_behind, .ref aF_before, .ref aF_ways, .int F_inputs, .ref aF_inputOf, .int F_size, .ref aF_answer, .int F_hints, .int F_hasRun, .ref aF_values, .int F_printedMany, .ref aF_printedRow, .ref aF_wasValues, .ref aF_wasPrinted, .ref aF_due, .int F_keptBits, .int F_keptMany, .int F_takenMany, .ref aF_takenPlace, .ref aF_against, .int F_change, .int F_who, .int F_where, .long F_h])), (aF_kinds, eI cI 16 out.2.2.1), (aF_vs, eI cI 16 out.2.2.2.1), (aF_ws, eI cI 16 out.2.2.2.2.1), (aF_roles, eI cI 16 out.2.2.2.2.2.1), (aF_partner, eI cI 16 out.2.2.2.2.2.2)] sz) 0 0 (va_A [(aF, .inr (6, [.int F_lines, .ref aF_kinds, .ref aF_vs, .ref aF_ws, .ref aF_roles, .ref aF_partner, .int F_model, .ref aF_lineOf, .ref aF_rank, .ref aF_behind, .ref aF_before, .ref aF_ways, .int F_inputs, .ref aF_inputOf, .int F_size, .ref aF_answer, .int F_hints, .int F_hasRun, .ref aF_values, .int F_printedMany, .ref aF_printedRow, .ref aF_wasValues, .ref aF_wasPrinted, .ref aF_due, .int F_keptBits, .int F_keptMany, .int F_takenMany, .ref aF_takenPlace, .ref aF_against, .int F_change, .int F_who, .int F_where, .long F_h])), (aF_kinds, eI cI 16 F_kinds), (aF_vs, eI cI 16 F_vs), (aF_ws, eI cI 16 F_ws), (aF_roles, eI cI 16 F_roles), (aF_partner, eI cI 16 F_partner)] sz) := by
  refine Met.ofW (cc := cX6_decoy) (maxL := 4) (ret := (some .int)) (by decide) rfl ?_
  intro p e s m args below meth c s₁ B hml hv
  obtain ⟨rfl, hsz, hP, hK, hD0⟩ := hv
  have hx := B.exec
  have hb := B.bytes
  have hr := B.returns
  have hts := atoms_spec (ws := wsX6_decoy) B.pre
  have hown : s.vm.findClass RX6 = some m.cls := findClass_of_methodNamed B.named
  have hlocks := B.notSynchronized
  have iX6 : ∀ w ∈ wsX60, w ∈ wsX6_decoy := by decide +kernel
  have k68 := hts (.fieldLink RX6 68 "BlockMarkerModel" "lines" "I") (by decide +kernel)
  have k79 := hts (.fieldLink RX6 79 "BlockMarkerModel" "size" "I") (by decide +kernel)
  subst hsz
  have hD := hD0.self (sz := s.heap.size)
  generalize hAe : va_A [(aF, .inr (6, [.int F_lines, .ref aF_kinds, .ref aF_vs, .ref aF_ws, .ref aF_roles, .ref aF_partner, .int F_model, .ref aF_lineOf, .ref aF_rank, .ref aF_behind, .ref aF_before, .ref aF_ways, .int F_inputs, .ref aF_inputOf, .int F_size, .ref aF_answer, .int F_hints, .int F_hasRun, .ref aF_values, .int F_printedMany, .ref aF_printedRow, .ref aF_wasValues, .ref aF_wasPrinted, .ref aF_due, .int F_keptBits, .int F_keptMany, .int F_takenMany, .ref aF_takenPlace, .ref aF_against, .int F_change, .int F_who, .int F_where, .long F_h])), (aF_kinds, eI cI 16 F_kinds), (aF_vs, eI cI 16 F_vs), (aF_ws, eI cI 16 F_ws), (aF_roles, eI cI 16 F_roles), (aF_partner, eI cI 16 F_partner)] s.heap.size = A at hD ⊢
  have hA : ∀ q : Nat, s.heap.size ≤ q → A q := fun q h => by rw [← hAe]; exact Or.inr h
  have hS : va_S A s.heap s.heap [] := va_S.rf
  have hl := lv_entry ([.ref aF, .int y1, .int y2, .int y3]) (n := 4) (Nat.le_of_ble_eq_true rfl)
  rw [lg_entry_eq]
  generalize (lg_sl ([.ref aF, .int y1, .int y2, .int y3]) ++ List.replicate (4 - (lg_sl ([.ref aF, .int y1, .int y2, .int y3])).length) Slot.unset).toArray = ls at hl ⊢
  have hl : lv_has ls 4 [(0, .ref aF), (1, .int y1), (2, .int y2), (3, .int y3)] := hl
  generalize hQQ : MQ below _ _ s 0 0 _ = QQ
  replace hQQ := hQQ.symm
  generalize hHH : s.heap = H at hP ⊢
  have hS : va_S A s.heap H [] := by rw [← hHH]; exact va_S.rf
  generalize ([] : List Loc) = locs at hS ⊢
  unfold fX6_decoy at hf
  refine lv_iload_n hx hb dX6_decoy_0 rfl (lv_at hl 1 rfl) ?_
  refine lv_iload_n hx hb dX6_decoy_1 rfl (lv_at hl 2 rfl) ?_
  refine lv_iload_n hx hb dX6_decoy_2 rfl (lv_at hl 3 rfl) ?_
  refine bnd hf (fun o3 e3 hf => ?_)
  refine rdSi (As := [.int y1, .int y2, .int y3]) (rest := []) ⟨hx, hb, hml, hown, hts⟩ (tX6_fits l D cI cJ cG  H y1 y2 y3  o3 e3) (va_cwS 3 hts gX6_decoy_X6_fits rfl rfl rfl (by decide +kernel) ⟨Nat.le_of_ble_eq_true rfl, Nat.le_of_ble_eq_true rfl⟩) hK (hP.sub (ws' := []) [] rfl) rfl hl.1 rfl (lv_room (Nat.le_of_ble_eq_true rfl)) dX6_decoy_3 ⟨Nat.le_of_ble_eq_true rfl, Nat.le_of_ble_eq_true rfl⟩ hS (fun locs hS => ?_)
  refine lv_if_ne (tgt := 12) hx hb dX6_decoy_6 (by decide) (fun c6 => ?_) (fun c6 => ?_)
  · have hf := ifn hf c6
    refine lv_aload_n hx hb dX6_decoy_12 rfl (lv_at hl 0 rfl) ?_
    refine va_get (D := D) (ci := 6) (v := .int F_size) (C := RX6) (T := TX6) (N := 33) hx hb hts iX6 hown hK.1 hP 0 rfl rfl 14 (by decide) k79 (fun _ h9 => h9) rfl dX6_decoy_13 ?_
    refine lv_if_le (tgt := 22) hx hb dX6_decoy_16 (by decide) (fun c16 => ?_) (fun c16 => ?_)
    · have hf := ifp hf c16
      refine lv_aload_n hx hb dX6_decoy_22 rfl (lv_at hl 0 rfl) ?_
      refine va_get (D := D) (ci := 6) (v := .int F_lines) (C := RX6) (T := TX6) (N := 33) hx hb hts iX6 hown hK.1 hP 0 rfl rfl 0 (by decide) k68 (fun _ h9 => h9) rfl dX6_decoy_23 ?_
      refine lv_bipush (v := (16 : Int32)) hx hb dX6_decoy_26 (by decide) ?_
      refine lv_icmp_ne (tgt := 36) hx hb dX6_decoy_28 (by decide) (fun c28 => ?_) (fun c28 => ?_)
      · have hf := ifn hf c28
        refine lv_aload_n hx hb dX6_decoy_36 rfl (lv_at hl 0 rfl) ?_
        refine lv_iload_n hx hb dX6_decoy_37 rfl (lv_at hl 1 rfl) ?_
        refine lv_iload_n hx hb dX6_decoy_38 rfl (lv_at hl 2 rfl) ?_
        refine lv_iload_n hx hb dX6_decoy_39 rfl (lv_at hl 3 rfl) ?_
        refine lv_iconst (v := (1 : Int32)) hx hb dX6_decoy_40 (by decide) ?_
        refine bnd hf (fun o41 e41 hf => ?_)
        refine wrVi (As := [.int y1, .int y2, .int y3, .int (1 : Int32)]) (rest := []) (cw := [(aF, .inr (6, [.int F_lines, .ref aF_kinds, .ref aF_vs, .ref aF_ws, .ref aF_roles, .ref aF_partner, .int F_model, .ref aF_lineOf, .ref aF_rank, .ref aF_behind, .ref aF_before, .ref aF_ways, .int F_inputs, .ref aF_inputOf, .int F_size, .ref aF_answer, .int F_hints, .int F_hasRun, .ref aF_values, .int F_printedMany, .ref aF_printedRow, .ref aF_wasValues, .ref aF_wasPrinted, .ref aF_due, .int F_keptBits, .int F_keptMany, .int F_takenMany, .ref aF_takenPlace, .ref aF_against, .int F_change, .int F_who, .int F_where, .long F_h])), (aF_kinds, eI cI 16 F_kinds), (aF_vs, eI cI 16 F_vs), (aF_ws, eI cI 16 F_ws), (aF_roles, eI cI 16 F_roles), (aF_partner, eI cI 16 F_partner)]) (cw' := [(aF, .inr (6, [.int o41.2.1, .ref aF_kinds, .ref aF_vs, .ref aF_ws, .ref aF_roles, .ref aF_partner, .int F_model, .ref aF_lineOf, .ref aF_rank, .ref aF_behind, .ref aF_before, .ref aF_ways, .int F_inputs, .ref aF_inputOf, .int F_size, .ref aF_answer, .int F_hints, .int F_hasRun, .ref aF_values, .int F_printedMany, .ref aF_printedRow, .ref aF_wasValues, .ref aF_wasPrinted, .ref aF_due, .int F_keptBits, .int F_keptMany, .int F_takenMany, .ref aF_takenPlace, .ref aF_against, .int F_change, .int F_who, .int F_where, .long F_h])), (aF_kinds, eI cI 16 o41.2.2.1), (aF_vs, eI cI 16 o41.2.2.2.1), (aF_ws, eI cI 16 o41.2.2.2.2.1), (aF_roles, eI cI 16 o41.2.2.2.2.2.1), (aF_partner, eI cI 16 o41.2.2.2.2.2.2)]) (wr := []) (ws2 := [(aF, .inr (6, [.int o41.2.1, .ref aF_kinds, .ref aF_vs, .ref aF_ws, .ref aF_roles, .ref aF_partner, .int F_model, .ref aF_lineOf, .ref aF_rank, .ref aF_behind, .ref aF_before, .ref aF_ways, .int F_inputs, .ref aF_inputOf, .int F_size, .ref aF_answer, .int F_hints, .int F_hasRun, .ref aF_values, .int F_printedMany, .ref aF_printedRow, .ref aF_wasValues, .ref aF_wasPrinted, .ref aF_due, .int F_keptBits, .int F_keptMany, .int F_takenMany, .ref aF_takenPlace, .ref aF_against, .int F_change, .int F_who, .int F_where, .long F_h])), (aF_kinds, eI cI 16 o41.2.2.1), (aF_vs, eI cI 16 o41.2.2.2.1), (aF_ws, eI cI 16 o41.2.2.2.2.1), (aF_roles, eI cI 16 o41.2.2.2.2.2.1), (aF_partner, eI cI 16 o41.2.2.2.2.2.2)]) ⟨hx, hb, hml, hown, hts⟩ (tX6_come l D cI cJ cG aF aF_kinds aF_vs aF_ws aF_roles aF_partner aF_lineOf aF_rank aF_behind aF_before aF_ways aF_inputOf aF_answer aF_values aF_printedRow aF_wasValues aF_wasPrinted aF_due aF_takenPlace aF_against H.size y1 y2 y3 (1 : Int32) F_lines F_model F_inputs F_size F_hints F_hasRun F_printedMany F_keptBits F_keptMany F_takenMany F_change F_who F_where F_h F_kinds F_vs F_ws F_roles F_partner o41 e41) (cwV 4 hts gX6_decoy_X6_come rfl rfl rfl (by decide +kernel) ⟨Nat.le_of_ble_eq_true rfl, Nat.le_of_ble_eq_true rfl⟩) (va_recv (ci := 6) (q0 := 0) hK.1 hP rfl rfl) hK hP hD hS hA [0, 1, 2, 3, 4, 5] [] [0, 1, 2, 3, 4, 5] rfl rfl rfl (by decide) (by decide) (by decide) (by decide) rfl hl.1 rfl (lv_room (Nat.le_of_ble_eq_true rfl)) dX6_decoy_41 ⟨Nat.le_of_ble_eq_true rfl, Nat.le_of_ble_eq_true rfl⟩ (fun H locs hP hD hS => ?_)
        rw [hQQ]
        exact W.iret (v := o41.1) hx hb hr (fun t ht hW => by rw [← Option.some.inj hf]; rw [← hAe] at hD hS; exact ⟨⟨o41.1, (), rfl, rfl, by rw [ht]; exact hP, hD⟩, hS.F ht⟩) hS.2.2 dX6_decoy_44
      · have hf := ifp hf c28
        refine lv_bipush (v := (-104 : Int32)) hx hb dX6_decoy_31 (by decide) ?_
        refine lv_goto (tgt := 44) hx hb dX6_decoy_33 (by decide) ?_
        rw [hQQ]
        exact W.iret (v := (-104 : Int32)) hx hb hr (fun t ht hW => by rw [← Option.some.inj hf]; rw [← hAe] at hD hS; exact ⟨⟨(-104 : Int32), (), rfl, rfl, by rw [ht]; exact hP, hD⟩, hS.F ht⟩) hS.2.2 dX6_decoy_44
    · have hf := ifn hf c16
      refine lv_bipush (v := (-103 : Int32)) hx hb dX6_decoy_19 (by decide) ?_
      rw [hQQ]
      exact W.iret (v := (-103 : Int32)) hx hb hr (fun t ht hW => by rw [← Option.some.inj hf]; rw [← hAe] at hD hS; exact ⟨⟨(-103 : Int32), (), rfl, rfl, by rw [ht]; exact hP, hD⟩, hS.F ht⟩) hS.2.2 dX6_decoy_21
  · have hf := ifp hf c6
    refine lv_bipush (v := (-102 : Int32)) hx hb dX6_decoy_9 (by decide) ?_
    rw [hQQ]
    exact W.iret (v := (-102 : Int32)) hx hb hr (fun t ht hW => by rw [← Option.some.inj hf]; rw [← hAe] at hD hS; exact ⟨⟨(-102 : Int32), (), rfl, rfl, by rw [ht]; exact hP, hD⟩, hS.F ht⟩) hS.2.2 dX6_decoy_11

set_option maxHeartbeats 4000000 in
set_option maxRecDepth 100000 in
theorem tX6_wrong (l : Launch) (D : va_G) (cI cJ cG : ClassId) (aF aF_kinds aF_vs aF_ws aF_roles aF_partner aF_lineOf aF_rank aF_behind aF_before aF_ways aF_inputOf aF_answer aF_values aF_printedRow aF_wasValues aF_wasPrinted aF_due aF_takenPlace aF_against : Nat) (sz : Nat) (y1 : Int32) (y2 : Int32) (y3 : Int32) (y4 : Int32) (F_lines : Int32) (F_model : Int32) (F_inputs : Int32) (F_size : Int32) (F_hints : Int32) (F_hasRun : Int32) (F_printedMany : Int32) (F_keptBits : Int32) (F_keptMany : Int32) (F_takenMany : Int32) (F_change : Int32) (F_who : Int32) (F_where : Int32) (F_h : Int64) (F_kinds : (Nat → Int32)) (F_vs : (Nat → Int32)) (F_ws : (Nat → Int32)) (F_roles : (Nat → Int32)) (F_partner : (Nat → Int32)) (out : Int32 × Int32 × (Nat → Int32) × (Nat → Int32) × (Nat → Int32) × (Nat → Int32) × (Nat → Int32)) (hf : fX6_wrong y1 y2 y3 y4 F_lines F_size F_kinds F_vs F_ws F_roles F_partner = some out) : Met l yX6_wrong wsX6_wrong ({ frames := 2, cells := 0, slots := 0, locals := 45 }) (va_Pc [.ref aF, .int y1, .int y2, .int y3, .int y4] (wP D (tyL cI cJ cG) [(aF, .inr (6, [.int F_lines, .ref aF_kinds, .ref aF_vs, .ref aF_ws, .ref aF_roles, .ref aF_partner, .int F_model, .ref aF_lineOf, .ref aF_rank, .ref aF_behind, .ref aF_before, .ref aF_ways, .int F_inputs, .ref aF_inputOf, .int F_size, .ref aF_answer, .int F_hints, .int F_hasRun, .ref aF_values, .int F_printedMany, .ref aF_printedRow, .ref aF_wasValues, .ref aF_wasPrinted, .ref aF_due, .int F_keptBits, .int F_keptMany, .int F_takenMany, .ref aF_takenPlace, .ref aF_against, .int F_change, .int F_who, .int F_where, .long F_h])), (aF_kinds, eI cI 16 F_kinds), (aF_vs, eI cI 16 F_vs), (aF_ws, eI cI 16 F_ws), (aF_roles, eI cI 16 F_roles), (aF_partner, eI cI 16 F_partner)] sz)) (wQi D out.1 [(aF, .inr (6, [.int F_lines, .ref aF_kinds, .ref aF_vs, .ref aF_ws, .ref aF_roles, .ref aF_partner, .int F_model, .ref aF_lineOf, .ref aF_rank, .ref aF_behind, .ref aF_before, .ref aF_ways, .int F_inputs, .ref aF_inputOf, .int F_size, .ref aF_answer, .int F_hints, .int F_hasRun, .ref aF_values, .int F_printedMany, .ref aF_printedRow, .ref aF_wasValues, .ref aF_wasPrinted, .ref aF_due, .int F_keptBits, .int F_keptMany, .int F_takenMany, .ref aF_takenPlace, .ref aF_against, .int F_change, .int F_who, .int F_where, .long F_h])), (aF_kinds, eI cI 16 F_kinds), (aF_vs, eI cI 16 F_vs), (aF_ws, eI cI 16 F_ws), (aF_roles, eI cI 16 F_roles), (aF_partner, eI cI 16 F_partner)] [(aF, .inr (6, [.int out.2.1, .ref aF_kinds, .ref aF_vs, .ref aF_ws, .ref aF_roles, .ref aF_partner, .int F_model, .ref aF_lineOf, .ref aF_rank, .ref aF_behind, .ref aF_before, .ref aF_ways, .int F_inputs, .ref aF_inputOf, .int F_size, .ref aF_answer, .int F_hints, .int F_hasRun, .ref aF_values, .int F_printedMany, .ref aF_printedRow, .ref aF_wasValues, .ref aF_wasPrinted, .ref aF_due, .int F_keptBits, .int F_keptMany, .int F_takenMany, .ref aF_takenPlace, .ref aF_against, .int F_change, .int F_who, .int F_where, .long F_h])), (aF_kinds, eI cI 16 out.2.2.1), (aF_vs, eI cI 16 out.2.2.2.1), (aF_ws, eI cI 16 out.2.2.2.2.1), (aF_roles, eI cI 16 out.2.2.2.2.2.1), (aF_partner, eI cI 16 out.2.2.2.2.2.2)] sz) 0 0 (va_A [(aF, .inr (6, [.int F_lines, .ref aF_kinds, .ref aF_vs, .ref aF_ws, .ref aF_roles, .ref aF_partner, .int F_model, .ref aF_lineOf, .ref aF_rank, .ref aF_behind, .ref aF_before, .ref aF_ways, .int F_inputs, .ref aF_inputOf, .int F_size, .ref aF_answer, .int F_hints, .int F_hasRun, .ref aF_values, .int F_printedMany, .ref aF_printedRow, .ref aF_wasValues, .ref aF_wasPrinted, .ref aF_due, .int F_keptBits, .int F_keptMany, .int F_takenMany, .ref aF_takenPlace, .ref aF_against, .int F_change, .int F_who, .int F_where, .long F_h])), (aF_kinds, eI cI 16 F_kinds), (aF_vs, eI cI 16 F_vs), (aF_ws, eI cI 16 F_ws), (aF_roles, eI cI 16 F_roles), (aF_partner, eI cI 16 F_partner)] sz) := by
  refine Met.ofW (cc := cX6_wrong) (maxL := 6) (ret := (some .int)) (by decide) rfl ?_
  intro p e s m args below meth c s₁ B hml hv
  obtain ⟨rfl, hsz, hP, hK, hD0⟩ := hv
  have hx := B.exec
  have hb := B.bytes
  have hr := B.returns
  have hts := atoms_spec (ws := wsX6_wrong) B.pre
  have hown : s.vm.findClass RX6 = some m.cls := findClass_of_methodNamed B.named
  have hlocks := B.notSynchronized
  have iX6 : ∀ w ∈ wsX60, w ∈ wsX6_wrong := by decide +kernel
  have k19 := hts (.fieldLink RX6 19 "BlockMarkerModel" "roles" "[I") (by decide +kernel)
  have k22 := hts (.fieldLink RX6 22 "BlockMarkerModel" "partner" "[I") (by decide +kernel)
  have k68 := hts (.fieldLink RX6 68 "BlockMarkerModel" "lines" "I") (by decide +kernel)
  have k79 := hts (.fieldLink RX6 79 "BlockMarkerModel" "size" "I") (by decide +kernel)
  subst hsz
  have hD := hD0.self (sz := s.heap.size)
  generalize hAe : va_A [(aF, .inr (6, [.int F_lines, .ref aF_kinds, .ref aF_vs, .ref aF_ws, .ref aF_roles, .ref aF_partner, .int F_model, .ref aF_lineOf, .ref aF_rank, .ref aF_behind, .ref aF_before, .ref aF_ways, .int F_inputs, .ref aF_inputOf, .int F_size, .ref aF_answer, .int F_hints, .int F_hasRun, .ref aF_values, .int F_printedMany, .ref aF_printedRow, .ref aF_wasValues, .ref aF_wasPrinted, .ref aF_due, .int F_keptBits, .int F_keptMany, .int F_takenMany, .ref aF_takenPlace, .ref aF_against, .int F_change, .int F_who, .int F_where, .long F_h])), (aF_kinds, eI cI 16 F_kinds), (aF_vs, eI cI 16 F_vs), (aF_ws, eI cI 16 F_ws), (aF_roles, eI cI 16 F_roles), (aF_partner, eI cI 16 F_partner)] s.heap.size = A at hD ⊢
  have hA : ∀ q : Nat, s.heap.size ≤ q → A q := fun q h => by rw [← hAe]; exact Or.inr h
  have hS : va_S A s.heap s.heap [] := va_S.rf
  have hl := lv_entry ([.ref aF, .int y1, .int y2, .int y3, .int y4]) (n := 6) (Nat.le_of_ble_eq_true rfl)
  rw [lg_entry_eq]
  generalize (lg_sl ([.ref aF, .int y1, .int y2, .int y3, .int y4]) ++ List.replicate (6 - (lg_sl ([.ref aF, .int y1, .int y2, .int y3, .int y4])).length) Slot.unset).toArray = ls at hl ⊢
  have hl : lv_has ls 6 [(0, .ref aF), (1, .int y1), (2, .int y2), (3, .int y3), (4, .int y4)] := hl
  generalize hQQ : MQ below _ _ s 0 0 _ = QQ
  replace hQQ := hQQ.symm
  generalize hHH : s.heap = H at hP ⊢
  have hS : va_S A s.heap H [] := by rw [← hHH]; exact va_S.rf
  generalize ([] : List Loc) = locs at hS ⊢
  unfold fX6_wrong at hf
  refine lv_aload_n hx hb dX6_wrong_0 rfl (lv_at hl 0 rfl) ?_
  refine lv_iload_n hx hb dX6_wrong_1 rfl (lv_at hl 1 rfl) ?_
  refine bnd hf (fun o2 e2 hf => ?_)
  refine rdVi (As := [.int y1]) (rest := []) ⟨hx, hb, hml, hown, hts⟩ (tX6_isLine l D cI cJ cG aF aF_kinds aF_vs aF_ws aF_roles aF_partner aF_lineOf aF_rank aF_behind aF_before aF_ways aF_inputOf aF_answer aF_values aF_printedRow aF_wasValues aF_wasPrinted aF_due aF_takenPlace aF_against H y1 F_lines F_model F_inputs F_size F_hints F_hasRun F_printedMany F_keptBits F_keptMany F_takenMany F_change F_who F_where F_h o2 e2) (cwV 1 hts gX6_wrong_X6_isLine rfl rfl rfl (by decide +kernel) ⟨Nat.le_of_ble_eq_true rfl, Nat.le_of_ble_eq_true rfl⟩) (va_recv (ci := 6) (q0 := 0) hK.1 hP rfl rfl) hK (hP.sub (ws' := [(aF, .inr (6, [.int F_lines, .ref aF_kinds, .ref aF_vs, .ref aF_ws, .ref aF_roles, .ref aF_partner, .int F_model, .ref aF_lineOf, .ref aF_rank, .ref aF_behind, .ref aF_before, .ref aF_ways, .int F_inputs, .ref aF_inputOf, .int F_size, .ref aF_answer, .int F_hints, .int F_hasRun, .ref aF_values, .int F_printedMany, .ref aF_printedRow, .ref aF_wasValues, .ref aF_wasPrinted, .ref aF_due, .int F_keptBits, .int F_keptMany, .int F_takenMany, .ref aF_takenPlace, .ref aF_against, .int F_change, .int F_who, .int F_where, .long F_h]))]) [0] rfl) rfl hl.1 rfl (lv_room (Nat.le_of_ble_eq_true rfl)) dX6_wrong_2 ⟨Nat.le_of_ble_eq_true rfl, Nat.le_of_ble_eq_true rfl⟩ hS (fun locs hS => ?_)
  refine lv_if_ne (tgt := 11) hx hb dX6_wrong_5 (by decide) (fun c5 => ?_) (fun c5 => ?_)
  · have hf := ifn hf c5
    refine lv_iload_n hx hb dX6_wrong_11 rfl (lv_at hl 2 rfl) ?_
    refine lv_iload_n hx hb dX6_wrong_12 rfl (lv_at hl 3 rfl) ?_
    refine lv_iload hx hb dX6_wrong_13 (lv_at hl 4 rfl) ?_
    refine bnd hf (fun o15 e15 hf => ?_)
    refine rdSi (As := [.int y2, .int y3, .int y4]) (rest := []) ⟨hx, hb, hml, hown, hts⟩ (tX6_fits l D cI cJ cG  H y2 y3 y4  o15 e15) (va_cwS 3 hts gX6_wrong_X6_fits rfl rfl rfl (by decide +kernel) ⟨Nat.le_of_ble_eq_true rfl, Nat.le_of_ble_eq_true rfl⟩) hK (hP.sub (ws' := []) [] rfl) rfl hl.1 rfl (lv_room (Nat.le_of_ble_eq_true rfl)) dX6_wrong_15 ⟨Nat.le_of_ble_eq_true rfl, Nat.le_of_ble_eq_true rfl⟩ hS (fun locs hS => ?_)
    refine lv_if_ne (tgt := 24) hx hb dX6_wrong_18 (by decide) (fun c18 => ?_) (fun c18 => ?_)
    · have hf := ifn hf c18
      refine lv_aload_n hx hb dX6_wrong_24 rfl (lv_at hl 0 rfl) ?_
      refine va_get (D := D) (ci := 6) (v := .int F_size) (C := RX6) (T := TX6) (N := 33) hx hb hts iX6 hown hK.1 hP 0 rfl rfl 14 (by decide) k79 (fun _ h9 => h9) rfl dX6_wrong_25 ?_
      refine lv_if_gt (tgt := 50) hx hb dX6_wrong_28 (by decide) (fun c28 => ?_) (fun c28 => ?_)
      · have hf := ifp hf c28
        refine lv_bipush (v := (-103 : Int32)) hx hb dX6_wrong_50 (by decide) ?_
        rw [hQQ]
        exact W.iret (v := (-103 : Int32)) hx hb hr (fun t ht hW => by rw [← Option.some.inj hf]; rw [← hAe] at hD hS; exact ⟨⟨(-103 : Int32), (), rfl, rfl, by rw [ht]; exact hP, hD⟩, hS.F ht⟩) hS.2.2 dX6_wrong_52
      · have hf := ifn hf c28
        refine lv_aload_n hx hb dX6_wrong_31 rfl (lv_at hl 0 rfl) ?_
        refine va_get (D := D) (ci := 6) (v := .ref aF_roles) (C := RX6) (T := TX6) (N := 33) hx hb hts iX6 hown hK.1 hP 0 rfl rfl 4 (by decide) k19 (fun _ h9 => h9) rfl dX6_wrong_32 ?_
        refine lv_iload_n hx hb dX6_wrong_35 rfl (lv_at hl 1 rfl) ?_
        refine ckE hf (fun h36 hf => ?_)
        refine va_iald hx hb hK.1 hP 4 0 rfl rfl (inB_in h36) dX6_wrong_36 ?_
        refine lv_if_ne (tgt := 50) hx hb dX6_wrong_37 (by decide) (fun c37 => ?_) (fun c37 => ?_)
        · have hf := ifn hf c37
          refine lv_bipush (v := (-103 : Int32)) hx hb dX6_wrong_50 (by decide) ?_
          rw [hQQ]
          exact W.iret (v := (-103 : Int32)) hx hb hr (fun t ht hW => by rw [← Option.some.inj hf]; rw [← hAe] at hD hS; exact ⟨⟨(-103 : Int32), (), rfl, rfl, by rw [ht]; exact hP, hD⟩, hS.F ht⟩) hS.2.2 dX6_wrong_52
        · have hf := ifp hf c37
          refine lv_aload_n hx hb dX6_wrong_40 rfl (lv_at hl 0 rfl) ?_
          refine va_get (D := D) (ci := 6) (v := .ref aF_partner) (C := RX6) (T := TX6) (N := 33) hx hb hts iX6 hown hK.1 hP 0 rfl rfl 5 (by decide) k22 (fun _ h9 => h9) rfl dX6_wrong_41 ?_
          refine lv_iload_n hx hb dX6_wrong_44 rfl (lv_at hl 1 rfl) ?_
          refine ckE hf (fun h45 hf => ?_)
          refine va_iald hx hb hK.1 hP 5 0 rfl rfl (inB_in h45) dX6_wrong_45 ?_
          refine lv_iconst (v := (-1 : Int32)) hx hb dX6_wrong_46 (by decide) ?_
          refine lv_icmp_eq (tgt := 53) hx hb dX6_wrong_47 (by decide) (fun c47 => ?_) (fun c47 => ?_)
          · have hf := ifp hf c47
            refine lv_aload_n hx hb dX6_wrong_53 rfl (lv_at hl 0 rfl) ?_
            refine va_get (D := D) (ci := 6) (v := .int F_lines) (C := RX6) (T := TX6) (N := 33) hx hb hts iX6 hown hK.1 hP 0 rfl rfl 0 (by decide) k68 (fun _ h9 => h9) rfl dX6_wrong_54 ?_
            refine lv_bipush (v := (16 : Int32)) hx hb dX6_wrong_57 (by decide) ?_
            refine lv_icmp_ne (tgt := 65) hx hb dX6_wrong_59 (by decide) (fun c59 => ?_) (fun c59 => ?_)
            · have hf := ifn hf c59
              refine lv_aload_n hx hb dX6_wrong_65 rfl (lv_at hl 0 rfl) ?_
              refine lv_iload_n hx hb dX6_wrong_66 rfl (lv_at hl 2 rfl) ?_
              refine lv_iload_n hx hb dX6_wrong_67 rfl (lv_at hl 3 rfl) ?_
              refine lv_iload hx hb dX6_wrong_68 (lv_at hl 4 rfl) ?_
              refine lv_iconst (v := (2 : Int32)) hx hb dX6_wrong_70 (by decide) ?_
              refine bnd hf (fun o71 e71 hf => ?_)
              refine wrVi (As := [.int y2, .int y3, .int y4, .int (2 : Int32)]) (rest := []) (cw := [(aF, .inr (6, [.int F_lines, .ref aF_kinds, .ref aF_vs, .ref aF_ws, .ref aF_roles, .ref aF_partner, .int F_model, .ref aF_lineOf, .ref aF_rank, .ref aF_behind, .ref aF_before, .ref aF_ways, .int F_inputs, .ref aF_inputOf, .int F_size, .ref aF_answer, .int F_hints, .int F_hasRun, .ref aF_values, .int F_printedMany, .ref aF_printedRow, .ref aF_wasValues, .ref aF_wasPrinted, .ref aF_due, .int F_keptBits, .int F_keptMany, .int F_takenMany, .ref aF_takenPlace, .ref aF_against, .int F_change, .int F_who, .int F_where, .long F_h])), (aF_kinds, eI cI 16 F_kinds), (aF_vs, eI cI 16 F_vs), (aF_ws, eI cI 16 F_ws), (aF_roles, eI cI 16 F_roles), (aF_partner, eI cI 16 F_partner)]) (cw' := [(aF, .inr (6, [.int o71.2.1, .ref aF_kinds, .ref aF_vs, .ref aF_ws, .ref aF_roles, .ref aF_partner, .int F_model, .ref aF_lineOf, .ref aF_rank, .ref aF_behind, .ref aF_before, .ref aF_ways, .int F_inputs, .ref aF_inputOf, .int F_size, .ref aF_answer, .int F_hints, .int F_hasRun, .ref aF_values, .int F_printedMany, .ref aF_printedRow, .ref aF_wasValues, .ref aF_wasPrinted, .ref aF_due, .int F_keptBits, .int F_keptMany, .int F_takenMany, .ref aF_takenPlace, .ref aF_against, .int F_change, .int F_who, .int F_where, .long F_h])), (aF_kinds, eI cI 16 o71.2.2.1), (aF_vs, eI cI 16 o71.2.2.2.1), (aF_ws, eI cI 16 o71.2.2.2.2.1), (aF_roles, eI cI 16 o71.2.2.2.2.2.1), (aF_partner, eI cI 16 o71.2.2.2.2.2.2)]) (wr := []) (ws2 := [(aF, .inr (6, [.int o71.2.1, .ref aF_kinds, .ref aF_vs, .ref aF_ws, .ref aF_roles, .ref aF_partner, .int F_model, .ref aF_lineOf, .ref aF_rank, .ref aF_behind, .ref aF_before, .ref aF_ways, .int F_inputs, .ref aF_inputOf, .int F_size, .ref aF_answer, .int F_hints, .int F_hasRun, .ref aF_values, .int F_printedMany, .ref aF_printedRow, .ref aF_wasValues, .ref aF_wasPrinted, .ref aF_due, .int F_keptBits, .int F_keptMany, .int F_takenMany, .ref aF_takenPlace, .ref aF_against, .int F_change, .int F_who, .int F_where, .long F_h])), (aF_kinds, eI cI 16 o71.2.2.1), (aF_vs, eI cI 16 o71.2.2.2.1), (aF_ws, eI cI 16 o71.2.2.2.2.1), (aF_roles, eI cI 16 o71.2.2.2.2.2.1), (aF_partner, eI cI 16 o71.2.2.2.2.2.2)]) ⟨hx, hb, hml, hown, hts⟩ (tX6_come l D cI cJ cG aF aF_kinds aF_vs aF_ws aF_roles aF_partner aF_lineOf aF_rank aF_behind aF_before aF_ways aF_inputOf aF_answer aF_values aF_printedRow aF_wasValues aF_wasPrinted aF_due aF_takenPlace aF_against H.size y2 y3 y4 (2 : Int32) F_lines F_model F_inputs F_size F_hints F_hasRun F_printedMany F_keptBits F_keptMany F_takenMany F_change F_who F_where F_h F_kinds F_vs F_ws F_roles F_partner o71 e71) (cwV 4 hts gX6_wrong_X6_come rfl rfl rfl (by decide +kernel) ⟨Nat.le_of_ble_eq_true rfl, Nat.le_of_ble_eq_true rfl⟩) (va_recv (ci := 6) (q0 := 0) hK.1 hP rfl rfl) hK hP hD hS hA [0, 1, 2, 3, 4, 5] [] [0, 1, 2, 3, 4, 5] rfl rfl rfl (by decide) (by decide) (by decide) (by decide) rfl hl.1 rfl (lv_room (Nat.le_of_ble_eq_true rfl)) dX6_wrong_71 ⟨Nat.le_of_ble_eq_true rfl, Nat.le_of_ble_eq_true rfl⟩ (fun H locs hP hD hS => ?_)
              refine lv_istore (lv' := [(5, .int o71.1), (0, .ref aF), (1, .int y1), (2, .int y2), (3, .int y3), (4, .int y4)]) hx hb dX6_wrong_74 hl (by decide) rfl (fun ls hl => ?_)
              refine lv_aload_n hx hb dX6_wrong_76 rfl (lv_at hl 1 rfl) ?_
              refine va_get (D := D) (ci := 6) (v := .ref aF_partner) (C := RX6) (T := TX6) (N := 33) hx hb hts iX6 hown hK.1 hP 0 rfl rfl 5 (by decide) k22 (fun _ h9 => h9) rfl dX6_wrong_77 ?_
              refine lv_iload hx hb dX6_wrong_80 (lv_at hl 0 rfl) ?_
              refine lv_iload_n hx hb dX6_wrong_82 rfl (lv_at hl 2 rfl) ?_
              refine ckE hf (fun h83 hf => ?_)
              refine va_iast hx hb hK.1 hP hD hS 5 0 rfl rfl (inB_in h83) dX6_wrong_83 (fun H locs hP hD hS => ?_)
              have hP : va_P D vwCl [(aF, .inr (6, [.int o71.2.1, .ref aF_kinds, .ref aF_vs, .ref aF_ws, .ref aF_roles, .ref aF_partner, .int F_model, .ref aF_lineOf, .ref aF_rank, .ref aF_behind, .ref aF_before, .ref aF_ways, .int F_inputs, .ref aF_inputOf, .int F_size, .ref aF_answer, .int F_hints, .int F_hasRun, .ref aF_values, .int F_printedMany, .ref aF_printedRow, .ref aF_wasValues, .ref aF_wasPrinted, .ref aF_due, .int F_keptBits, .int F_keptMany, .int F_takenMany, .ref aF_takenPlace, .ref aF_against, .int F_change, .int F_who, .int F_where, .long F_h])), (aF_kinds, eI cI 16 o71.2.2.1), (aF_vs, eI cI 16 o71.2.2.2.1), (aF_ws, eI cI 16 o71.2.2.2.2.1), (aF_roles, eI cI 16 o71.2.2.2.2.2.1), (aF_partner, eI cI 16 (upd o71.2.2.2.2.2.2 (o71.1).toNatClampNeg y1))] H := hP
              have hD : va_D A [(aF, .inr (6, [.int o71.2.1, .ref aF_kinds, .ref aF_vs, .ref aF_ws, .ref aF_roles, .ref aF_partner, .int F_model, .ref aF_lineOf, .ref aF_rank, .ref aF_behind, .ref aF_before, .ref aF_ways, .int F_inputs, .ref aF_inputOf, .int F_size, .ref aF_answer, .int F_hints, .int F_hasRun, .ref aF_values, .int F_printedMany, .ref aF_printedRow, .ref aF_wasValues, .ref aF_wasPrinted, .ref aF_due, .int F_keptBits, .int F_keptMany, .int F_takenMany, .ref aF_takenPlace, .ref aF_against, .int F_change, .int F_who, .int F_where, .long F_h])), (aF_kinds, eI cI 16 o71.2.2.1), (aF_vs, eI cI 16 o71.2.2.2.1), (aF_ws, eI cI 16 o71.2.2.2.2.1), (aF_roles, eI cI 16 o71.2.2.2.2.2.1), (aF_partner, eI cI 16 (upd o71.2.2.2.2.2.2 (o71.1).toNatClampNeg y1))] := hD
              refine lv_aload_n hx hb dX6_wrong_84 rfl (lv_at hl 1 rfl) ?_
              refine va_get (D := D) (ci := 6) (v := .ref aF_partner) (C := RX6) (T := TX6) (N := 33) hx hb hts iX6 hown hK.1 hP 0 rfl rfl 5 (by decide) k22 (fun _ h9 => h9) rfl dX6_wrong_85 ?_
              refine lv_iload_n hx hb dX6_wrong_88 rfl (lv_at hl 2 rfl) ?_
              refine lv_iload hx hb dX6_wrong_89 (lv_at hl 0 rfl) ?_
              refine ckE hf (fun h91 hf => ?_)
              refine va_iast hx hb hK.1 hP hD hS 5 0 rfl rfl (inB_in h91) dX6_wrong_91 (fun H locs hP hD hS => ?_)
              have hP : va_P D vwCl [(aF, .inr (6, [.int o71.2.1, .ref aF_kinds, .ref aF_vs, .ref aF_ws, .ref aF_roles, .ref aF_partner, .int F_model, .ref aF_lineOf, .ref aF_rank, .ref aF_behind, .ref aF_before, .ref aF_ways, .int F_inputs, .ref aF_inputOf, .int F_size, .ref aF_answer, .int F_hints, .int F_hasRun, .ref aF_values, .int F_printedMany, .ref aF_printedRow, .ref aF_wasValues, .ref aF_wasPrinted, .ref aF_due, .int F_keptBits, .int F_keptMany, .int F_takenMany, .ref aF_takenPlace, .ref aF_against, .int F_change, .int F_who, .int F_where, .long F_h])), (aF_kinds, eI cI 16 o71.2.2.1), (aF_vs, eI cI 16 o71.2.2.2.1), (aF_ws, eI cI 16 o71.2.2.2.2.1), (aF_roles, eI cI 16 o71.2.2.2.2.2.1), (aF_partner, eI cI 16 (upd (upd o71.2.2.2.2.2.2 (o71.1).toNatClampNeg y1) (y1).toNatClampNeg o71.1))] H := hP
              have hD : va_D A [(aF, .inr (6, [.int o71.2.1, .ref aF_kinds, .ref aF_vs, .ref aF_ws, .ref aF_roles, .ref aF_partner, .int F_model, .ref aF_lineOf, .ref aF_rank, .ref aF_behind, .ref aF_before, .ref aF_ways, .int F_inputs, .ref aF_inputOf, .int F_size, .ref aF_answer, .int F_hints, .int F_hasRun, .ref aF_values, .int F_printedMany, .ref aF_printedRow, .ref aF_wasValues, .ref aF_wasPrinted, .ref aF_due, .int F_keptBits, .int F_keptMany, .int F_takenMany, .ref aF_takenPlace, .ref aF_against, .int F_change, .int F_who, .int F_where, .long F_h])), (aF_kinds, eI cI 16 o71.2.2.1), (aF_vs, eI cI 16 o71.2.2.2.1), (aF_ws, eI cI 16 o71.2.2.2.2.1), (aF_roles, eI cI 16 o71.2.2.2.2.2.1), (aF_partner, eI cI 16 (upd (upd o71.2.2.2.2.2.2 (o71.1).toNatClampNeg y1) (y1).toNatClampNeg o71.1))] := hD
              refine lv_iload hx hb dX6_wrong_92 (lv_at hl 0 rfl) ?_
              rw [hQQ]
              exact W.iret (v := o71.1) hx hb hr (fun t ht hW => by rw [← Option.some.inj hf]; rw [← hAe] at hD hS; exact ⟨⟨o71.1, (), rfl, rfl, by rw [ht]; exact hP, hD⟩, hS.F ht⟩) hS.2.2 dX6_wrong_94
            · have hf := ifp hf c59
              refine lv_bipush (v := (-104 : Int32)) hx hb dX6_wrong_62 (by decide) ?_
              rw [hQQ]
              exact W.iret (v := (-104 : Int32)) hx hb hr (fun t ht hW => by rw [← Option.some.inj hf]; rw [← hAe] at hD hS; exact ⟨⟨(-104 : Int32), (), rfl, rfl, by rw [ht]; exact hP, hD⟩, hS.F ht⟩) hS.2.2 dX6_wrong_64
          · have hf := ifn hf c47
            refine lv_bipush (v := (-103 : Int32)) hx hb dX6_wrong_50 (by decide) ?_
            rw [hQQ]
            exact W.iret (v := (-103 : Int32)) hx hb hr (fun t ht hW => by rw [← Option.some.inj hf]; rw [← hAe] at hD hS; exact ⟨⟨(-103 : Int32), (), rfl, rfl, by rw [ht]; exact hP, hD⟩, hS.F ht⟩) hS.2.2 dX6_wrong_52
    · have hf := ifp hf c18
      refine lv_bipush (v := (-102 : Int32)) hx hb dX6_wrong_21 (by decide) ?_
      rw [hQQ]
      exact W.iret (v := (-102 : Int32)) hx hb hr (fun t ht hW => by rw [← Option.some.inj hf]; rw [← hAe] at hD hS; exact ⟨⟨(-102 : Int32), (), rfl, rfl, by rw [ht]; exact hP, hD⟩, hS.F ht⟩) hS.2.2 dX6_wrong_23
  · have hf := ifp hf c5
    refine lv_bipush (v := (-101 : Int32)) hx hb dX6_wrong_8 (by decide) ?_
    rw [hQQ]
    exact W.iret (v := (-101 : Int32)) hx hb hr (fun t ht hW => by rw [← Option.some.inj hf]; rw [← hAe] at hD hS; exact ⟨⟨(-101 : Int32), (), rfl, rfl, by rw [ht]; exact hP, hD⟩, hS.F ht⟩) hS.2.2 dX6_wrong_10

set_option maxHeartbeats 4000000 in
set_option maxRecDepth 100000 in
theorem tX6_input (l : Launch) (D : va_G) (cI cJ cG : ClassId) (aF aF_kinds aF_vs aF_ws aF_roles aF_partner aF_lineOf aF_rank aF_behind aF_before aF_ways aF_inputOf aF_answer aF_values aF_printedRow aF_wasValues aF_wasPrinted aF_due aF_takenPlace aF_against : Nat) (sz : Nat) (y1 : Int32) (y2 : Int32) (y3 : Int32) (y4 : Int32) (y5 : Int32) (y6 : Int32) (F_lines : Int32) (F_model : Int32) (F_inputs : Int32) (F_size : Int32) (F_hints : Int32) (F_hasRun : Int32) (F_printedMany : Int32) (F_keptBits : Int32) (F_keptMany : Int32) (F_takenMany : Int32) (F_change : Int32) (F_who : Int32) (F_where : Int32) (F_h : Int64) (F_inputOf : (Nat → Int32)) (out : Int32 × Int32 × (Nat → Int32)) (hf : fX6_input y1 y2 y3 y4 y5 y6 F_inputs F_size F_inputOf = some out) : Met l yX6_input wsX6_input ({ frames := 0, cells := 0, slots := 0, locals := 0 }) (va_Pc [.ref aF, .int y1, .int y2, .int y3, .int y4, .int y5, .int y6] (wP D (tyL cI cJ cG) [(aF, .inr (6, [.int F_lines, .ref aF_kinds, .ref aF_vs, .ref aF_ws, .ref aF_roles, .ref aF_partner, .int F_model, .ref aF_lineOf, .ref aF_rank, .ref aF_behind, .ref aF_before, .ref aF_ways, .int F_inputs, .ref aF_inputOf, .int F_size, .ref aF_answer, .int F_hints, .int F_hasRun, .ref aF_values, .int F_printedMany, .ref aF_printedRow, .ref aF_wasValues, .ref aF_wasPrinted, .ref aF_due, .int F_keptBits, .int F_keptMany, .int F_takenMany, .ref aF_takenPlace, .ref aF_against, .int F_change, .int F_who, .int F_where, .long F_h])), (aF_inputOf, eI cI 48 F_inputOf)] sz)) (wQi D out.1 [(aF, .inr (6, [.int F_lines, .ref aF_kinds, .ref aF_vs, .ref aF_ws, .ref aF_roles, .ref aF_partner, .int F_model, .ref aF_lineOf, .ref aF_rank, .ref aF_behind, .ref aF_before, .ref aF_ways, .int F_inputs, .ref aF_inputOf, .int F_size, .ref aF_answer, .int F_hints, .int F_hasRun, .ref aF_values, .int F_printedMany, .ref aF_printedRow, .ref aF_wasValues, .ref aF_wasPrinted, .ref aF_due, .int F_keptBits, .int F_keptMany, .int F_takenMany, .ref aF_takenPlace, .ref aF_against, .int F_change, .int F_who, .int F_where, .long F_h])), (aF_inputOf, eI cI 48 F_inputOf)] [(aF, .inr (6, [.int F_lines, .ref aF_kinds, .ref aF_vs, .ref aF_ws, .ref aF_roles, .ref aF_partner, .int F_model, .ref aF_lineOf, .ref aF_rank, .ref aF_behind, .ref aF_before, .ref aF_ways, .int out.2.1, .ref aF_inputOf, .int F_size, .ref aF_answer, .int F_hints, .int F_hasRun, .ref aF_values, .int F_printedMany, .ref aF_printedRow, .ref aF_wasValues, .ref aF_wasPrinted, .ref aF_due, .int F_keptBits, .int F_keptMany, .int F_takenMany, .ref aF_takenPlace, .ref aF_against, .int F_change, .int F_who, .int F_where, .long F_h])), (aF_inputOf, eI cI 48 out.2.2)] sz) 0 0 (va_A [(aF, .inr (6, [.int F_lines, .ref aF_kinds, .ref aF_vs, .ref aF_ws, .ref aF_roles, .ref aF_partner, .int F_model, .ref aF_lineOf, .ref aF_rank, .ref aF_behind, .ref aF_before, .ref aF_ways, .int F_inputs, .ref aF_inputOf, .int F_size, .ref aF_answer, .int F_hints, .int F_hasRun, .ref aF_values, .int F_printedMany, .ref aF_printedRow, .ref aF_wasValues, .ref aF_wasPrinted, .ref aF_due, .int F_keptBits, .int F_keptMany, .int F_takenMany, .ref aF_takenPlace, .ref aF_against, .int F_change, .int F_who, .int F_where, .long F_h])), (aF_inputOf, eI cI 48 F_inputOf)] sz) := by
  refine Met.ofW (cc := cX6_input) (maxL := 8) (ret := (some .int)) (by decide) rfl ?_
  intro p e s m args below meth c s₁ B hml hv
  obtain ⟨rfl, hsz, hP, hK, hD0⟩ := hv
  have hx := B.exec
  have hb := B.bytes
  have hr := B.returns
  have hts := atoms_spec (ws := wsX6_input) B.pre
  have hown : s.vm.findClass RX6 = some m.cls := findClass_of_methodNamed B.named
  have hlocks := B.notSynchronized
  have iX6 : ∀ w ∈ wsX60, w ∈ wsX6_input := by decide +kernel
  have k41 := hts (.fieldLink RX6 41 "BlockMarkerModel" "inputOf" "[I") (by decide +kernel)
  have k79 := hts (.fieldLink RX6 79 "BlockMarkerModel" "size" "I") (by decide +kernel)
  have k96 := hts (.fieldLink RX6 96 "BlockMarkerModel" "inputs" "I") (by decide +kernel)
  subst hsz
  have hD := hD0.self (sz := s.heap.size)
  generalize hAe : va_A [(aF, .inr (6, [.int F_lines, .ref aF_kinds, .ref aF_vs, .ref aF_ws, .ref aF_roles, .ref aF_partner, .int F_model, .ref aF_lineOf, .ref aF_rank, .ref aF_behind, .ref aF_before, .ref aF_ways, .int F_inputs, .ref aF_inputOf, .int F_size, .ref aF_answer, .int F_hints, .int F_hasRun, .ref aF_values, .int F_printedMany, .ref aF_printedRow, .ref aF_wasValues, .ref aF_wasPrinted, .ref aF_due, .int F_keptBits, .int F_keptMany, .int F_takenMany, .ref aF_takenPlace, .ref aF_against, .int F_change, .int F_who, .int F_where, .long F_h])), (aF_inputOf, eI cI 48 F_inputOf)] s.heap.size = A at hD ⊢
  have hA : ∀ q : Nat, s.heap.size ≤ q → A q := fun q h => by rw [← hAe]; exact Or.inr h
  have hS : va_S A s.heap s.heap [] := va_S.rf
  have hl := lv_entry ([.ref aF, .int y1, .int y2, .int y3, .int y4, .int y5, .int y6]) (n := 8) (Nat.le_of_ble_eq_true rfl)
  rw [lg_entry_eq]
  generalize (lg_sl ([.ref aF, .int y1, .int y2, .int y3, .int y4, .int y5, .int y6]) ++ List.replicate (8 - (lg_sl ([.ref aF, .int y1, .int y2, .int y3, .int y4, .int y5, .int y6])).length) Slot.unset).toArray = ls at hl ⊢
  have hl : lv_has ls 8 [(0, .ref aF), (1, .int y1), (2, .int y2), (3, .int y3), (4, .int y4), (5, .int y5), (6, .int y6)] := hl
  generalize hQQ : MQ below _ _ s 0 0 _ = QQ
  replace hQQ := hQQ.symm
  generalize hHH : s.heap = H at hP ⊢
  have hS : va_S A s.heap H [] := by rw [← hHH]; exact va_S.rf
  generalize ([] : List Loc) = locs at hS ⊢
  unfold fX6_input at hf
  refine lv_aload_n hx hb dX6_input_0 rfl (lv_at hl 0 rfl) ?_
  refine va_get (D := D) (ci := 6) (v := .int F_size) (C := RX6) (T := TX6) (N := 33) hx hb hts iX6 hown hK.1 hP 0 rfl rfl 14 (by decide) k79 (fun _ h9 => h9) rfl dX6_input_1 ?_
  refine lv_if_le (tgt := 10) hx hb dX6_input_4 (by decide) (fun c4 => ?_) (fun c4 => ?_)
  · have hf := ifp hf c4
    refine lv_aload_n hx hb dX6_input_10 rfl (lv_at hl 0 rfl) ?_
    refine va_get (D := D) (ci := 6) (v := .int F_inputs) (C := RX6) (T := TX6) (N := 33) hx hb hts iX6 hown hK.1 hP 0 rfl rfl 12 (by decide) k96 (fun _ h9 => h9) rfl dX6_input_11 ?_
    refine lv_bipush (v := (8 : Int32)) hx hb dX6_input_14 (by decide) ?_
    refine lv_icmp_ne (tgt := 22) hx hb dX6_input_16 (by decide) (fun c16 => ?_) (fun c16 => ?_)
    · have hf := ifn hf c16
      refine lv_bipush (v := (6 : Int32)) hx hb dX6_input_22 (by decide) ?_
      refine lv_aload_n hx hb dX6_input_24 rfl (lv_at hl 0 rfl) ?_
      refine va_get (D := D) (ci := 6) (v := .int F_inputs) (C := RX6) (T := TX6) (N := 33) hx hb hts iX6 hown hK.1 hP 0 rfl rfl 12 (by decide) k96 (fun _ h9 => h9) rfl dX6_input_25 ?_
      refine lv_imul hx hb dX6_input_28 ?_
      refine lv_istore (lv' := [(7, .int ((6 : Int32) * F_inputs)), (0, .ref aF), (1, .int y1), (2, .int y2), (3, .int y3), (4, .int y4), (5, .int y5), (6, .int y6)]) hx hb dX6_input_29 hl (by decide) rfl (fun ls hl => ?_)
      refine lv_aload_n hx hb dX6_input_31 rfl (lv_at hl 1 rfl) ?_
      refine va_get (D := D) (ci := 6) (v := .ref aF_inputOf) (C := RX6) (T := TX6) (N := 33) hx hb hts iX6 hown hK.1 hP 0 rfl rfl 13 (by decide) k41 (fun _ h9 => h9) rfl dX6_input_32 ?_
      refine lv_iload hx hb dX6_input_35 (lv_at hl 0 rfl) ?_
      refine lv_iload_n hx hb dX6_input_37 rfl (lv_at hl 2 rfl) ?_
      refine ckE hf (fun h38 hf => ?_)
      refine va_iast hx hb hK.1 hP hD hS 1 0 rfl rfl (inB_in h38) dX6_input_38 (fun H locs hP hD hS => ?_)
      have hP : va_P D vwCl [(aF, .inr (6, [.int F_lines, .ref aF_kinds, .ref aF_vs, .ref aF_ws, .ref aF_roles, .ref aF_partner, .int F_model, .ref aF_lineOf, .ref aF_rank, .ref aF_behind, .ref aF_before, .ref aF_ways, .int F_inputs, .ref aF_inputOf, .int F_size, .ref aF_answer, .int F_hints, .int F_hasRun, .ref aF_values, .int F_printedMany, .ref aF_printedRow, .ref aF_wasValues, .ref aF_wasPrinted, .ref aF_due, .int F_keptBits, .int F_keptMany, .int F_takenMany, .ref aF_takenPlace, .ref aF_against, .int F_change, .int F_who, .int F_where, .long F_h])), (aF_inputOf, eI cI 48 (upd F_inputOf (((6 : Int32) * F_inputs)).toNatClampNeg y1))] H := hP
      have hD : va_D A [(aF, .inr (6, [.int F_lines, .ref aF_kinds, .ref aF_vs, .ref aF_ws, .ref aF_roles, .ref aF_partner, .int F_model, .ref aF_lineOf, .ref aF_rank, .ref aF_behind, .ref aF_before, .ref aF_ways, .int F_inputs, .ref aF_inputOf, .int F_size, .ref aF_answer, .int F_hints, .int F_hasRun, .ref aF_values, .int F_printedMany, .ref aF_printedRow, .ref aF_wasValues, .ref aF_wasPrinted, .ref aF_due, .int F_keptBits, .int F_keptMany, .int F_takenMany, .ref aF_takenPlace, .ref aF_against, .int F_change, .int F_who, .int F_where, .long F_h])), (aF_inputOf, eI cI 48 (upd F_inputOf (((6 : Int32) * F_inputs)).toNatClampNeg y1))] := hD
      refine lv_aload_n hx hb dX6_input_39 rfl (lv_at hl 1 rfl) ?_
      refine va_get (D := D) (ci := 6) (v := .ref aF_inputOf) (C := RX6) (T := TX6) (N := 33) hx hb hts iX6 hown hK.1 hP 0 rfl rfl 13 (by decide) k41 (fun _ h9 => h9) rfl dX6_input_40 ?_
      refine lv_iload hx hb dX6_input_43 (lv_at hl 0 rfl) ?_
      refine lv_iconst (v := (1 : Int32)) hx hb dX6_input_45 (by decide) ?_
      refine lv_iadd hx hb dX6_input_46 ?_
      refine lv_iload_n hx hb dX6_input_47 rfl (lv_at hl 3 rfl) ?_
      refine ckE hf (fun h48 hf => ?_)
      refine va_iast hx hb hK.1 hP hD hS 1 0 rfl rfl (inB_in h48) dX6_input_48 (fun H locs hP hD hS => ?_)
      have hP : va_P D vwCl [(aF, .inr (6, [.int F_lines, .ref aF_kinds, .ref aF_vs, .ref aF_ws, .ref aF_roles, .ref aF_partner, .int F_model, .ref aF_lineOf, .ref aF_rank, .ref aF_behind, .ref aF_before, .ref aF_ways, .int F_inputs, .ref aF_inputOf, .int F_size, .ref aF_answer, .int F_hints, .int F_hasRun, .ref aF_values, .int F_printedMany, .ref aF_printedRow, .ref aF_wasValues, .ref aF_wasPrinted, .ref aF_due, .int F_keptBits, .int F_keptMany, .int F_takenMany, .ref aF_takenPlace, .ref aF_against, .int F_change, .int F_who, .int F_where, .long F_h])), (aF_inputOf, eI cI 48 (upd (upd F_inputOf (((6 : Int32) * F_inputs)).toNatClampNeg y1) ((((6 : Int32) * F_inputs) + (1 : Int32))).toNatClampNeg y2))] H := hP
      have hD : va_D A [(aF, .inr (6, [.int F_lines, .ref aF_kinds, .ref aF_vs, .ref aF_ws, .ref aF_roles, .ref aF_partner, .int F_model, .ref aF_lineOf, .ref aF_rank, .ref aF_behind, .ref aF_before, .ref aF_ways, .int F_inputs, .ref aF_inputOf, .int F_size, .ref aF_answer, .int F_hints, .int F_hasRun, .ref aF_values, .int F_printedMany, .ref aF_printedRow, .ref aF_wasValues, .ref aF_wasPrinted, .ref aF_due, .int F_keptBits, .int F_keptMany, .int F_takenMany, .ref aF_takenPlace, .ref aF_against, .int F_change, .int F_who, .int F_where, .long F_h])), (aF_inputOf, eI cI 48 (upd (upd F_inputOf (((6 : Int32) * F_inputs)).toNatClampNeg y1) ((((6 : Int32) * F_inputs) + (1 : Int32))).toNatClampNeg y2))] := hD
      refine lv_aload_n hx hb dX6_input_49 rfl (lv_at hl 1 rfl) ?_
      refine va_get (D := D) (ci := 6) (v := .ref aF_inputOf) (C := RX6) (T := TX6) (N := 33) hx hb hts iX6 hown hK.1 hP 0 rfl rfl 13 (by decide) k41 (fun _ h9 => h9) rfl dX6_input_50 ?_
      refine lv_iload hx hb dX6_input_53 (lv_at hl 0 rfl) ?_
      refine lv_iconst (v := (2 : Int32)) hx hb dX6_input_55 (by decide) ?_
      refine lv_iadd hx hb dX6_input_56 ?_
      refine lv_iload_n hx hb dX6_input_57 rfl (lv_at hl 4 rfl) ?_
      refine ckE hf (fun h58 hf => ?_)
      refine va_iast hx hb hK.1 hP hD hS 1 0 rfl rfl (inB_in h58) dX6_input_58 (fun H locs hP hD hS => ?_)
      have hP : va_P D vwCl [(aF, .inr (6, [.int F_lines, .ref aF_kinds, .ref aF_vs, .ref aF_ws, .ref aF_roles, .ref aF_partner, .int F_model, .ref aF_lineOf, .ref aF_rank, .ref aF_behind, .ref aF_before, .ref aF_ways, .int F_inputs, .ref aF_inputOf, .int F_size, .ref aF_answer, .int F_hints, .int F_hasRun, .ref aF_values, .int F_printedMany, .ref aF_printedRow, .ref aF_wasValues, .ref aF_wasPrinted, .ref aF_due, .int F_keptBits, .int F_keptMany, .int F_takenMany, .ref aF_takenPlace, .ref aF_against, .int F_change, .int F_who, .int F_where, .long F_h])), (aF_inputOf, eI cI 48 (upd (upd (upd F_inputOf (((6 : Int32) * F_inputs)).toNatClampNeg y1) ((((6 : Int32) * F_inputs) + (1 : Int32))).toNatClampNeg y2) ((((6 : Int32) * F_inputs) + (2 : Int32))).toNatClampNeg y3))] H := hP
      have hD : va_D A [(aF, .inr (6, [.int F_lines, .ref aF_kinds, .ref aF_vs, .ref aF_ws, .ref aF_roles, .ref aF_partner, .int F_model, .ref aF_lineOf, .ref aF_rank, .ref aF_behind, .ref aF_before, .ref aF_ways, .int F_inputs, .ref aF_inputOf, .int F_size, .ref aF_answer, .int F_hints, .int F_hasRun, .ref aF_values, .int F_printedMany, .ref aF_printedRow, .ref aF_wasValues, .ref aF_wasPrinted, .ref aF_due, .int F_keptBits, .int F_keptMany, .int F_takenMany, .ref aF_takenPlace, .ref aF_against, .int F_change, .int F_who, .int F_where, .long F_h])), (aF_inputOf, eI cI 48 (upd (upd (upd F_inputOf (((6 : Int32) * F_inputs)).toNatClampNeg y1) ((((6 : Int32) * F_inputs) + (1 : Int32))).toNatClampNeg y2) ((((6 : Int32) * F_inputs) + (2 : Int32))).toNatClampNeg y3))] := hD
      refine lv_aload_n hx hb dX6_input_59 rfl (lv_at hl 1 rfl) ?_
      refine va_get (D := D) (ci := 6) (v := .ref aF_inputOf) (C := RX6) (T := TX6) (N := 33) hx hb hts iX6 hown hK.1 hP 0 rfl rfl 13 (by decide) k41 (fun _ h9 => h9) rfl dX6_input_60 ?_
      refine lv_iload hx hb dX6_input_63 (lv_at hl 0 rfl) ?_
      refine lv_iconst (v := (3 : Int32)) hx hb dX6_input_65 (by decide) ?_
      refine lv_iadd hx hb dX6_input_66 ?_
      refine lv_iload hx hb dX6_input_67 (lv_at hl 5 rfl) ?_
      refine ckE hf (fun h69 hf => ?_)
      refine va_iast hx hb hK.1 hP hD hS 1 0 rfl rfl (inB_in h69) dX6_input_69 (fun H locs hP hD hS => ?_)
      have hP : va_P D vwCl [(aF, .inr (6, [.int F_lines, .ref aF_kinds, .ref aF_vs, .ref aF_ws, .ref aF_roles, .ref aF_partner, .int F_model, .ref aF_lineOf, .ref aF_rank, .ref aF_behind, .ref aF_before, .ref aF_ways, .int F_inputs, .ref aF_inputOf, .int F_size, .ref aF_answer, .int F_hints, .int F_hasRun, .ref aF_values, .int F_printedMany, .ref aF_printedRow, .ref aF_wasValues, .ref aF_wasPrinted, .ref aF_due, .int F_keptBits, .int F_keptMany, .int F_takenMany, .ref aF_takenPlace, .ref aF_against, .int F_change, .int F_who, .int F_where, .long F_h])), (aF_inputOf, eI cI 48 (upd (upd (upd (upd F_inputOf (((6 : Int32) * F_inputs)).toNatClampNeg y1) ((((6 : Int32) * F_inputs) + (1 : Int32))).toNatClampNeg y2) ((((6 : Int32) * F_inputs) + (2 : Int32))).toNatClampNeg y3) ((((6 : Int32) * F_inputs) + (3 : Int32))).toNatClampNeg y4))] H := hP
      have hD : va_D A [(aF, .inr (6, [.int F_lines, .ref aF_kinds, .ref aF_vs, .ref aF_ws, .ref aF_roles, .ref aF_partner, .int F_model, .ref aF_lineOf, .ref aF_rank, .ref aF_behind, .ref aF_before, .ref aF_ways, .int F_inputs, .ref aF_inputOf, .int F_size, .ref aF_answer, .int F_hints, .int F_hasRun, .ref aF_values, .int F_printedMany, .ref aF_printedRow, .ref aF_wasValues, .ref aF_wasPrinted, .ref aF_due, .int F_keptBits, .int F_keptMany, .int F_takenMany, .ref aF_takenPlace, .ref aF_against, .int F_change, .int F_who, .int F_where, .long F_h])), (aF_inputOf, eI cI 48 (upd (upd (upd (upd F_inputOf (((6 : Int32) * F_inputs)).toNatClampNeg y1) ((((6 : Int32) * F_inputs) + (1 : Int32))).toNatClampNeg y2) ((((6 : Int32) * F_inputs) + (2 : Int32))).toNatClampNeg y3) ((((6 : Int32) * F_inputs) + (3 : Int32))).toNatClampNeg y4))] := hD
      refine lv_aload_n hx hb dX6_input_70 rfl (lv_at hl 1 rfl) ?_
      refine va_get (D := D) (ci := 6) (v := .ref aF_inputOf) (C := RX6) (T := TX6) (N := 33) hx hb hts iX6 hown hK.1 hP 0 rfl rfl 13 (by decide) k41 (fun _ h9 => h9) rfl dX6_input_71 ?_
      refine lv_iload hx hb dX6_input_74 (lv_at hl 0 rfl) ?_
      refine lv_iconst (v := (4 : Int32)) hx hb dX6_input_76 (by decide) ?_
      refine lv_iadd hx hb dX6_input_77 ?_
      refine lv_iload hx hb dX6_input_78 (lv_at hl 6 rfl) ?_
      refine ckE hf (fun h80 hf => ?_)
      refine va_iast hx hb hK.1 hP hD hS 1 0 rfl rfl (inB_in h80) dX6_input_80 (fun H locs hP hD hS => ?_)
      have hP : va_P D vwCl [(aF, .inr (6, [.int F_lines, .ref aF_kinds, .ref aF_vs, .ref aF_ws, .ref aF_roles, .ref aF_partner, .int F_model, .ref aF_lineOf, .ref aF_rank, .ref aF_behind, .ref aF_before, .ref aF_ways, .int F_inputs, .ref aF_inputOf, .int F_size, .ref aF_answer, .int F_hints, .int F_hasRun, .ref aF_values, .int F_printedMany, .ref aF_printedRow, .ref aF_wasValues, .ref aF_wasPrinted, .ref aF_due, .int F_keptBits, .int F_keptMany, .int F_takenMany, .ref aF_takenPlace, .ref aF_against, .int F_change, .int F_who, .int F_where, .long F_h])), (aF_inputOf, eI cI 48 (upd (upd (upd (upd (upd F_inputOf (((6 : Int32) * F_inputs)).toNatClampNeg y1) ((((6 : Int32) * F_inputs) + (1 : Int32))).toNatClampNeg y2) ((((6 : Int32) * F_inputs) + (2 : Int32))).toNatClampNeg y3) ((((6 : Int32) * F_inputs) + (3 : Int32))).toNatClampNeg y4) ((((6 : Int32) * F_inputs) + (4 : Int32))).toNatClampNeg y5))] H := hP
      have hD : va_D A [(aF, .inr (6, [.int F_lines, .ref aF_kinds, .ref aF_vs, .ref aF_ws, .ref aF_roles, .ref aF_partner, .int F_model, .ref aF_lineOf, .ref aF_rank, .ref aF_behind, .ref aF_before, .ref aF_ways, .int F_inputs, .ref aF_inputOf, .int F_size, .ref aF_answer, .int F_hints, .int F_hasRun, .ref aF_values, .int F_printedMany, .ref aF_printedRow, .ref aF_wasValues, .ref aF_wasPrinted, .ref aF_due, .int F_keptBits, .int F_keptMany, .int F_takenMany, .ref aF_takenPlace, .ref aF_against, .int F_change, .int F_who, .int F_where, .long F_h])), (aF_inputOf, eI cI 48 (upd (upd (upd (upd (upd F_inputOf (((6 : Int32) * F_inputs)).toNatClampNeg y1) ((((6 : Int32) * F_inputs) + (1 : Int32))).toNatClampNeg y2) ((((6 : Int32) * F_inputs) + (2 : Int32))).toNatClampNeg y3) ((((6 : Int32) * F_inputs) + (3 : Int32))).toNatClampNeg y4) ((((6 : Int32) * F_inputs) + (4 : Int32))).toNatClampNeg y5))] := hD
      refine lv_aload_n hx hb dX6_input_81 rfl (lv_at hl 1 rfl) ?_
      refine va_get (D := D) (ci := 6) (v := .ref aF_inputOf) (C := RX6) (T := TX6) (N := 33) hx hb hts iX6 hown hK.1 hP 0 rfl rfl 13 (by decide) k41 (fun _ h9 => h9) rfl dX6_input_82 ?_
      refine lv_iload hx hb dX6_input_85 (lv_at hl 0 rfl) ?_
      refine lv_iconst (v := (5 : Int32)) hx hb dX6_input_87 (by decide) ?_
      refine lv_iadd hx hb dX6_input_88 ?_
      refine lv_iload hx hb dX6_input_89 (lv_at hl 7 rfl) ?_
      refine ckE hf (fun h91 hf => ?_)
      refine va_iast hx hb hK.1 hP hD hS 1 0 rfl rfl (inB_in h91) dX6_input_91 (fun H locs hP hD hS => ?_)
      have hP : va_P D vwCl [(aF, .inr (6, [.int F_lines, .ref aF_kinds, .ref aF_vs, .ref aF_ws, .ref aF_roles, .ref aF_partner, .int F_model, .ref aF_lineOf, .ref aF_rank, .ref aF_behind, .ref aF_before, .ref aF_ways, .int F_inputs, .ref aF_inputOf, .int F_size, .ref aF_answer, .int F_hints, .int F_hasRun, .ref aF_values, .int F_printedMany, .ref aF_printedRow, .ref aF_wasValues, .ref aF_wasPrinted, .ref aF_due, .int F_keptBits, .int F_keptMany, .int F_takenMany, .ref aF_takenPlace, .ref aF_against, .int F_change, .int F_who, .int F_where, .long F_h])), (aF_inputOf, eI cI 48 (upd (upd (upd (upd (upd (upd F_inputOf (((6 : Int32) * F_inputs)).toNatClampNeg y1) ((((6 : Int32) * F_inputs) + (1 : Int32))).toNatClampNeg y2) ((((6 : Int32) * F_inputs) + (2 : Int32))).toNatClampNeg y3) ((((6 : Int32) * F_inputs) + (3 : Int32))).toNatClampNeg y4) ((((6 : Int32) * F_inputs) + (4 : Int32))).toNatClampNeg y5) ((((6 : Int32) * F_inputs) + (5 : Int32))).toNatClampNeg y6))] H := hP
      have hD : va_D A [(aF, .inr (6, [.int F_lines, .ref aF_kinds, .ref aF_vs, .ref aF_ws, .ref aF_roles, .ref aF_partner, .int F_model, .ref aF_lineOf, .ref aF_rank, .ref aF_behind, .ref aF_before, .ref aF_ways, .int F_inputs, .ref aF_inputOf, .int F_size, .ref aF_answer, .int F_hints, .int F_hasRun, .ref aF_values, .int F_printedMany, .ref aF_printedRow, .ref aF_wasValues, .ref aF_wasPrinted, .ref aF_due, .int F_keptBits, .int F_keptMany, .int F_takenMany, .ref aF_takenPlace, .ref aF_against, .int F_change, .int F_who, .int F_where, .long F_h])), (aF_inputOf, eI cI 48 (upd (upd (upd (upd (upd (upd F_inputOf (((6 : Int32) * F_inputs)).toNatClampNeg y1) ((((6 : Int32) * F_inputs) + (1 : Int32))).toNatClampNeg y2) ((((6 : Int32) * F_inputs) + (2 : Int32))).toNatClampNeg y3) ((((6 : Int32) * F_inputs) + (3 : Int32))).toNatClampNeg y4) ((((6 : Int32) * F_inputs) + (4 : Int32))).toNatClampNeg y5) ((((6 : Int32) * F_inputs) + (5 : Int32))).toNatClampNeg y6))] := hD
      refine lv_aload_n hx hb dX6_input_92 rfl (lv_at hl 1 rfl) ?_
      refine lv_dup hx hb dX6_input_93 rfl ?_
      refine va_get (D := D) (ci := 6) (v := .int F_inputs) (C := RX6) (T := TX6) (N := 33) hx hb hts iX6 hown hK.1 hP 0 rfl rfl 12 (by decide) k96 (fun _ h9 => h9) rfl dX6_input_94 ?_
      refine lv_iconst (v := (1 : Int32)) hx hb dX6_input_97 (by decide) ?_
      refine lv_iadd hx hb dX6_input_98 ?_
      refine va_put (D := D) (ci := 6) (v := .int (F_inputs + (1 : Int32))) (ty := .int) (C := RX6) (T := TX6) (N := 33) hx hb hts iX6 tyX6 tyX6_ok nmX6 hown hK.1 hP hD hS 0 rfl rfl 12 (by decide) k96 (fun _ h9 => h9) rfl (by decide +kernel) rfl rfl (Nat.le_of_ble_eq_true rfl) dX6_input_99 (fun H locs hP hD hS => ?_)
      have hP : va_P D vwCl [(aF, .inr (6, [.int F_lines, .ref aF_kinds, .ref aF_vs, .ref aF_ws, .ref aF_roles, .ref aF_partner, .int F_model, .ref aF_lineOf, .ref aF_rank, .ref aF_behind, .ref aF_before, .ref aF_ways, .int (F_inputs + (1 : Int32)), .ref aF_inputOf, .int F_size, .ref aF_answer, .int F_hints, .int F_hasRun, .ref aF_values, .int F_printedMany, .ref aF_printedRow, .ref aF_wasValues, .ref aF_wasPrinted, .ref aF_due, .int F_keptBits, .int F_keptMany, .int F_takenMany, .ref aF_takenPlace, .ref aF_against, .int F_change, .int F_who, .int F_where, .long F_h])), (aF_inputOf, eI cI 48 (upd (upd (upd (upd (upd (upd F_inputOf (((6 : Int32) * F_inputs)).toNatClampNeg y1) ((((6 : Int32) * F_inputs) + (1 : Int32))).toNatClampNeg y2) ((((6 : Int32) * F_inputs) + (2 : Int32))).toNatClampNeg y3) ((((6 : Int32) * F_inputs) + (3 : Int32))).toNatClampNeg y4) ((((6 : Int32) * F_inputs) + (4 : Int32))).toNatClampNeg y5) ((((6 : Int32) * F_inputs) + (5 : Int32))).toNatClampNeg y6))] H := hP
      have hD : va_D A [(aF, .inr (6, [.int F_lines, .ref aF_kinds, .ref aF_vs, .ref aF_ws, .ref aF_roles, .ref aF_partner, .int F_model, .ref aF_lineOf, .ref aF_rank, .ref aF_behind, .ref aF_before, .ref aF_ways, .int (F_inputs + (1 : Int32)), .ref aF_inputOf, .int F_size, .ref aF_answer, .int F_hints, .int F_hasRun, .ref aF_values, .int F_printedMany, .ref aF_printedRow, .ref aF_wasValues, .ref aF_wasPrinted, .ref aF_due, .int F_keptBits, .int F_keptMany, .int F_takenMany, .ref aF_takenPlace, .ref aF_against, .int F_change, .int F_who, .int F_where, .long F_h])), (aF_inputOf, eI cI 48 (upd (upd (upd (upd (upd (upd F_inputOf (((6 : Int32) * F_inputs)).toNatClampNeg y1) ((((6 : Int32) * F_inputs) + (1 : Int32))).toNatClampNeg y2) ((((6 : Int32) * F_inputs) + (2 : Int32))).toNatClampNeg y3) ((((6 : Int32) * F_inputs) + (3 : Int32))).toNatClampNeg y4) ((((6 : Int32) * F_inputs) + (4 : Int32))).toNatClampNeg y5) ((((6 : Int32) * F_inputs) + (5 : Int32))).toNatClampNeg y6))] := hD
      refine lv_aload_n hx hb dX6_input_102 rfl (lv_at hl 1 rfl) ?_
      refine va_get (D := D) (ci := 6) (v := .int (F_inputs + (1 : Int32))) (C := RX6) (T := TX6) (N := 33) hx hb hts iX6 hown hK.1 hP 0 rfl rfl 12 (by decide) k96 (fun _ h9 => h9) rfl dX6_input_103 ?_
      refine lv_iconst (v := (1 : Int32)) hx hb dX6_input_106 (by decide) ?_
      refine lv_isub hx hb dX6_input_107 ?_
      rw [hQQ]
      exact W.iret (v := ((F_inputs + (1 : Int32)) - (1 : Int32))) hx hb hr (fun t ht hW => by rw [← Option.some.inj hf]; rw [← hAe] at hD hS; exact ⟨⟨((F_inputs + (1 : Int32)) - (1 : Int32)), (), rfl, rfl, by rw [ht]; exact hP, hD⟩, hS.F ht⟩) hS.2.2 dX6_input_108
    · have hf := ifp hf c16
      refine lv_bipush (v := (-104 : Int32)) hx hb dX6_input_19 (by decide) ?_
      rw [hQQ]
      exact W.iret (v := (-104 : Int32)) hx hb hr (fun t ht hW => by rw [← Option.some.inj hf]; rw [← hAe] at hD hS; exact ⟨⟨(-104 : Int32), (), rfl, rfl, by rw [ht]; exact hP, hD⟩, hS.F ht⟩) hS.2.2 dX6_input_21
  · have hf := ifn hf c4
    refine lv_bipush (v := (-103 : Int32)) hx hb dX6_input_7 (by decide) ?_
    rw [hQQ]
    exact W.iret (v := (-103 : Int32)) hx hb hr (fun t ht hW => by rw [← Option.some.inj hf]; rw [← hAe] at hD hS; exact ⟨⟨(-103 : Int32), (), rfl, rfl, by rw [ht]; exact hP, hD⟩, hS.F ht⟩) hS.2.2 dX6_input_9

set_option maxHeartbeats 4000000 in
set_option maxRecDepth 100000 in
theorem tX6_wipe (l : Launch) (D : va_G) (cI cJ cG : ClassId) (aF aF_kinds aF_vs aF_ws aF_roles aF_partner aF_lineOf aF_rank aF_behind aF_before aF_ways aF_inputOf aF_answer aF_values aF_printedRow aF_wasValues aF_wasPrinted aF_due aF_takenPlace aF_against : Nat) (sz : Nat)  (F_lines : Int32) (F_model : Int32) (F_inputs : Int32) (F_size : Int32) (F_hints : Int32) (F_hasRun : Int32) (F_printedMany : Int32) (F_keptBits : Int32) (F_keptMany : Int32) (F_takenMany : Int32) (F_change : Int32) (F_who : Int32) (F_where : Int32) (F_h : Int64) (F_kinds : (Nat → Int32)) (F_vs : (Nat → Int32)) (F_ws : (Nat → Int32)) (F_lineOf : (Nat → Int32)) (F_behind : (Nat → Int32)) (F_before : (Nat → Int32)) (F_ways : (Nat → Int64)) (out : Int32 × Int32 × Int32 × Int32 × Int32 × Int32 × Int32 × (Nat → Int32) × (Nat → Int32) × (Nat → Int64)) (hf : fX6_wipe F_lines F_model F_inputs F_size F_hasRun F_printedMany F_kinds F_vs F_ws F_lineOf F_behind F_before F_ways = some out) : Met l yX6_wipe wsX6_wipe ({ frames := 3, cells := 0, slots := 0, locals := 70 }) (va_Pc [.ref aF] (wP D (tyL cI cJ cG) [(aF, .inr (6, [.int F_lines, .ref aF_kinds, .ref aF_vs, .ref aF_ws, .ref aF_roles, .ref aF_partner, .int F_model, .ref aF_lineOf, .ref aF_rank, .ref aF_behind, .ref aF_before, .ref aF_ways, .int F_inputs, .ref aF_inputOf, .int F_size, .ref aF_answer, .int F_hints, .int F_hasRun, .ref aF_values, .int F_printedMany, .ref aF_printedRow, .ref aF_wasValues, .ref aF_wasPrinted, .ref aF_due, .int F_keptBits, .int F_keptMany, .int F_takenMany, .ref aF_takenPlace, .ref aF_against, .int F_change, .int F_who, .int F_where, .long F_h])), (aF_kinds, eI cI 16 F_kinds), (aF_vs, eI cI 16 F_vs), (aF_ws, eI cI 16 F_ws), (aF_lineOf, eI cI 12 F_lineOf), (aF_behind, eI cI 12 F_behind), (aF_before, eI cI 12 F_before), (aF_ways, eJ cJ 4096 F_ways)] sz)) (wQi D out.1 [(aF, .inr (6, [.int F_lines, .ref aF_kinds, .ref aF_vs, .ref aF_ws, .ref aF_roles, .ref aF_partner, .int F_model, .ref aF_lineOf, .ref aF_rank, .ref aF_behind, .ref aF_before, .ref aF_ways, .int F_inputs, .ref aF_inputOf, .int F_size, .ref aF_answer, .int F_hints, .int F_hasRun, .ref aF_values, .int F_printedMany, .ref aF_printedRow, .ref aF_wasValues, .ref aF_wasPrinted, .ref aF_due, .int F_keptBits, .int F_keptMany, .int F_takenMany, .ref aF_takenPlace, .ref aF_against, .int F_change, .int F_who, .int F_where, .long F_h])), (aF_kinds, eI cI 16 F_kinds), (aF_vs, eI cI 16 F_vs), (aF_ws, eI cI 16 F_ws), (aF_lineOf, eI cI 12 F_lineOf), (aF_behind, eI cI 12 F_behind), (aF_before, eI cI 12 F_before), (aF_ways, eJ cJ 4096 F_ways)] [(aF, .inr (6, [.int out.2.1, .ref aF_kinds, .ref aF_vs, .ref aF_ws, .ref aF_roles, .ref aF_partner, .int out.2.2.1, .ref aF_lineOf, .ref aF_rank, .ref aF_behind, .ref aF_before, .ref aF_ways, .int out.2.2.2.1, .ref aF_inputOf, .int out.2.2.2.2.1, .ref aF_answer, .int F_hints, .int out.2.2.2.2.2.1, .ref aF_values, .int out.2.2.2.2.2.2.1, .ref aF_printedRow, .ref aF_wasValues, .ref aF_wasPrinted, .ref aF_due, .int F_keptBits, .int F_keptMany, .int F_takenMany, .ref aF_takenPlace, .ref aF_against, .int F_change, .int F_who, .int F_where, .long F_h])), (aF_kinds, eI cI 16 F_kinds), (aF_vs, eI cI 16 F_vs), (aF_ws, eI cI 16 F_ws), (aF_lineOf, eI cI 12 F_lineOf), (aF_behind, eI cI 12 out.2.2.2.2.2.2.2.1), (aF_before, eI cI 12 out.2.2.2.2.2.2.2.2.1), (aF_ways, eJ cJ 4096 out.2.2.2.2.2.2.2.2.2)] sz) 0 0 (va_A [(aF, .inr (6, [.int F_lines, .ref aF_kinds, .ref aF_vs, .ref aF_ws, .ref aF_roles, .ref aF_partner, .int F_model, .ref aF_lineOf, .ref aF_rank, .ref aF_behind, .ref aF_before, .ref aF_ways, .int F_inputs, .ref aF_inputOf, .int F_size, .ref aF_answer, .int F_hints, .int F_hasRun, .ref aF_values, .int F_printedMany, .ref aF_printedRow, .ref aF_wasValues, .ref aF_wasPrinted, .ref aF_due, .int F_keptBits, .int F_keptMany, .int F_takenMany, .ref aF_takenPlace, .ref aF_against, .int F_change, .int F_who, .int F_where, .long F_h])), (aF_kinds, eI cI 16 F_kinds), (aF_vs, eI cI 16 F_vs), (aF_ws, eI cI 16 F_ws), (aF_lineOf, eI cI 12 F_lineOf), (aF_behind, eI cI 12 F_behind), (aF_before, eI cI 12 F_before), (aF_ways, eJ cJ 4096 F_ways)] sz) := by
  refine Met.ofW (cc := cX6_wipe) (maxL := 2) (ret := (some .int)) (by decide) rfl ?_
  intro p e s m args below meth c s₁ B hml hv
  obtain ⟨rfl, hsz, hP, hK, hD0⟩ := hv
  have hx := B.exec
  have hb := B.bytes
  have hr := B.returns
  have hts := atoms_spec (ws := wsX6_wipe) B.pre
  have hown : s.vm.findClass RX6 = some m.cls := findClass_of_methodNamed B.named
  have hlocks := B.notSynchronized
  have iX6 : ∀ w ∈ wsX60, w ∈ wsX6_wipe := by decide +kernel
  have k68 := hts (.fieldLink RX6 68 "BlockMarkerModel" "lines" "I") (by decide +kernel)
  have k79 := hts (.fieldLink RX6 79 "BlockMarkerModel" "size" "I") (by decide +kernel)
  have k82 := hts (.fieldLink RX6 82 "BlockMarkerModel" "model" "I") (by decide +kernel)
  have k96 := hts (.fieldLink RX6 96 "BlockMarkerModel" "inputs" "I") (by decide +kernel)
  have k99 := hts (.fieldLink RX6 99 "BlockMarkerModel" "hasRun" "Z") (by decide +kernel)
  have k103 := hts (.fieldLink RX6 103 "BlockMarkerModel" "printedMany" "I") (by decide +kernel)
  subst hsz
  have hD := hD0.self (sz := s.heap.size)
  generalize hAe : va_A [(aF, .inr (6, [.int F_lines, .ref aF_kinds, .ref aF_vs, .ref aF_ws, .ref aF_roles, .ref aF_partner, .int F_model, .ref aF_lineOf, .ref aF_rank, .ref aF_behind, .ref aF_before, .ref aF_ways, .int F_inputs, .ref aF_inputOf, .int F_size, .ref aF_answer, .int F_hints, .int F_hasRun, .ref aF_values, .int F_printedMany, .ref aF_printedRow, .ref aF_wasValues, .ref aF_wasPrinted, .ref aF_due, .int F_keptBits, .int F_keptMany, .int F_takenMany, .ref aF_takenPlace, .ref aF_against, .int F_change, .int F_who, .int F_where, .long F_h])), (aF_kinds, eI cI 16 F_kinds), (aF_vs, eI cI 16 F_vs), (aF_ws, eI cI 16 F_ws), (aF_lineOf, eI cI 12 F_lineOf), (aF_behind, eI cI 12 F_behind), (aF_before, eI cI 12 F_before), (aF_ways, eJ cJ 4096 F_ways)] s.heap.size = A at hD ⊢
  have hA : ∀ q : Nat, s.heap.size ≤ q → A q := fun q h => by rw [← hAe]; exact Or.inr h
  have hS : va_S A s.heap s.heap [] := va_S.rf
  have hl := lv_entry ([.ref aF]) (n := 2) (Nat.le_of_ble_eq_true rfl)
  rw [lg_entry_eq]
  generalize (lg_sl ([.ref aF]) ++ List.replicate (2 - (lg_sl ([.ref aF])).length) Slot.unset).toArray = ls at hl ⊢
  have hl : lv_has ls 2 [(0, .ref aF)] := hl
  generalize hQQ : MQ below _ _ s 0 0 _ = QQ
  replace hQQ := hQQ.symm
  generalize hHH : s.heap = H at hP ⊢
  have hS : va_S A s.heap H [] := by rw [← hHH]; exact va_S.rf
  generalize ([] : List Loc) = locs at hS ⊢
  unfold fX6_wipe at hf
  refine lv_aload_n hx hb dX6_wipe_0 rfl (lv_at hl 0 rfl) ?_
  refine va_get (D := D) (ci := 6) (v := .int F_lines) (C := RX6) (T := TX6) (N := 33) hx hb hts iX6 hown hK.1 hP 0 rfl rfl 0 (by decide) k68 (fun _ h9 => h9) rfl dX6_wipe_1 ?_
  refine lv_istore_n (lv' := [(1, .int F_lines), (0, .ref aF)]) hx hb dX6_wipe_4 rfl hl (by decide) rfl (fun ls hl => ?_)
  refine lv_aload_n hx hb dX6_wipe_5 rfl (lv_at hl 1 rfl) ?_
  refine lv_iconst (v := (0 : Int32)) hx hb dX6_wipe_6 (by decide) ?_
  refine va_put (D := D) (ci := 6) (v := .int (0 : Int32)) (ty := .int) (C := RX6) (T := TX6) (N := 33) hx hb hts iX6 tyX6 tyX6_ok nmX6 hown hK.1 hP hD hS 0 rfl rfl 0 (by decide) k68 (fun _ h9 => h9) rfl (by decide +kernel) rfl rfl (Nat.le_of_ble_eq_true rfl) dX6_wipe_7 (fun H locs hP hD hS => ?_)
  have hP : va_P D vwCl [(aF, .inr (6, [.int (0 : Int32), .ref aF_kinds, .ref aF_vs, .ref aF_ws, .ref aF_roles, .ref aF_partner, .int F_model, .ref aF_lineOf, .ref aF_rank, .ref aF_behind, .ref aF_before, .ref aF_ways, .int F_inputs, .ref aF_inputOf, .int F_size, .ref aF_answer, .int F_hints, .int F_hasRun, .ref aF_values, .int F_printedMany, .ref aF_printedRow, .ref aF_wasValues, .ref aF_wasPrinted, .ref aF_due, .int F_keptBits, .int F_keptMany, .int F_takenMany, .ref aF_takenPlace, .ref aF_against, .int F_change, .int F_who, .int F_where, .long F_h])), (aF_kinds, eI cI 16 F_kinds), (aF_vs, eI cI 16 F_vs), (aF_ws, eI cI 16 F_ws), (aF_lineOf, eI cI 12 F_lineOf), (aF_behind, eI cI 12 F_behind), (aF_before, eI cI 12 F_before), (aF_ways, eJ cJ 4096 F_ways)] H := hP
  have hD : va_D A [(aF, .inr (6, [.int (0 : Int32), .ref aF_kinds, .ref aF_vs, .ref aF_ws, .ref aF_roles, .ref aF_partner, .int F_model, .ref aF_lineOf, .ref aF_rank, .ref aF_behind, .ref aF_before, .ref aF_ways, .int F_inputs, .ref aF_inputOf, .int F_size, .ref aF_answer, .int F_hints, .int F_hasRun, .ref aF_values, .int F_printedMany, .ref aF_printedRow, .ref aF_wasValues, .ref aF_wasPrinted, .ref aF_due, .int F_keptBits, .int F_keptMany, .int F_takenMany, .ref aF_takenPlace, .ref aF_against, .int F_change, .int F_who, .int F_where, .long F_h])), (aF_kinds, eI cI 16 F_kinds), (aF_vs, eI cI 16 F_vs), (aF_ws, eI cI 16 F_ws), (aF_lineOf, eI cI 12 F_lineOf), (aF_behind, eI cI 12 F_behind), (aF_before, eI cI 12 F_before), (aF_ways, eJ cJ 4096 F_ways)] := hD
  refine lv_aload_n hx hb dX6_wipe_10 rfl (lv_at hl 1 rfl) ?_
  refine lv_iconst (v := (0 : Int32)) hx hb dX6_wipe_11 (by decide) ?_
  refine va_put (D := D) (ci := 6) (v := .int (0 : Int32)) (ty := .int) (C := RX6) (T := TX6) (N := 33) hx hb hts iX6 tyX6 tyX6_ok nmX6 hown hK.1 hP hD hS 0 rfl rfl 6 (by decide) k82 (fun _ h9 => h9) rfl (by decide +kernel) rfl rfl (Nat.le_of_ble_eq_true rfl) dX6_wipe_12 (fun H locs hP hD hS => ?_)
  have hP : va_P D vwCl [(aF, .inr (6, [.int (0 : Int32), .ref aF_kinds, .ref aF_vs, .ref aF_ws, .ref aF_roles, .ref aF_partner, .int (0 : Int32), .ref aF_lineOf, .ref aF_rank, .ref aF_behind, .ref aF_before, .ref aF_ways, .int F_inputs, .ref aF_inputOf, .int F_size, .ref aF_answer, .int F_hints, .int F_hasRun, .ref aF_values, .int F_printedMany, .ref aF_printedRow, .ref aF_wasValues, .ref aF_wasPrinted, .ref aF_due, .int F_keptBits, .int F_keptMany, .int F_takenMany, .ref aF_takenPlace, .ref aF_against, .int F_change, .int F_who, .int F_where, .long F_h])), (aF_kinds, eI cI 16 F_kinds), (aF_vs, eI cI 16 F_vs), (aF_ws, eI cI 16 F_ws), (aF_lineOf, eI cI 12 F_lineOf), (aF_behind, eI cI 12 F_behind), (aF_before, eI cI 12 F_before), (aF_ways, eJ cJ 4096 F_ways)] H := hP
  have hD : va_D A [(aF, .inr (6, [.int (0 : Int32), .ref aF_kinds, .ref aF_vs, .ref aF_ws, .ref aF_roles, .ref aF_partner, .int (0 : Int32), .ref aF_lineOf, .ref aF_rank, .ref aF_behind, .ref aF_before, .ref aF_ways, .int F_inputs, .ref aF_inputOf, .int F_size, .ref aF_answer, .int F_hints, .int F_hasRun, .ref aF_values, .int F_printedMany, .ref aF_printedRow, .ref aF_wasValues, .ref aF_wasPrinted, .ref aF_due, .int F_keptBits, .int F_keptMany, .int F_takenMany, .ref aF_takenPlace, .ref aF_against, .int F_change, .int F_who, .int F_where, .long F_h])), (aF_kinds, eI cI 16 F_kinds), (aF_vs, eI cI 16 F_vs), (aF_ws, eI cI 16 F_ws), (aF_lineOf, eI cI 12 F_lineOf), (aF_behind, eI cI 12 F_behind), (aF_before, eI cI 12 F_before), (aF_ways, eJ cJ 4096 F_ways)] := hD
  refine lv_aload_n hx hb dX6_wipe_15 rfl (lv_at hl 1 rfl) ?_
  refine lv_iconst (v := (0 : Int32)) hx hb dX6_wipe_16 (by decide) ?_
  refine va_put (D := D) (ci := 6) (v := .int (0 : Int32)) (ty := .int) (C := RX6) (T := TX6) (N := 33) hx hb hts iX6 tyX6 tyX6_ok nmX6 hown hK.1 hP hD hS 0 rfl rfl 12 (by decide) k96 (fun _ h9 => h9) rfl (by decide +kernel) rfl rfl (Nat.le_of_ble_eq_true rfl) dX6_wipe_17 (fun H locs hP hD hS => ?_)
  have hP : va_P D vwCl [(aF, .inr (6, [.int (0 : Int32), .ref aF_kinds, .ref aF_vs, .ref aF_ws, .ref aF_roles, .ref aF_partner, .int (0 : Int32), .ref aF_lineOf, .ref aF_rank, .ref aF_behind, .ref aF_before, .ref aF_ways, .int (0 : Int32), .ref aF_inputOf, .int F_size, .ref aF_answer, .int F_hints, .int F_hasRun, .ref aF_values, .int F_printedMany, .ref aF_printedRow, .ref aF_wasValues, .ref aF_wasPrinted, .ref aF_due, .int F_keptBits, .int F_keptMany, .int F_takenMany, .ref aF_takenPlace, .ref aF_against, .int F_change, .int F_who, .int F_where, .long F_h])), (aF_kinds, eI cI 16 F_kinds), (aF_vs, eI cI 16 F_vs), (aF_ws, eI cI 16 F_ws), (aF_lineOf, eI cI 12 F_lineOf), (aF_behind, eI cI 12 F_behind), (aF_before, eI cI 12 F_before), (aF_ways, eJ cJ 4096 F_ways)] H := hP
  have hD : va_D A [(aF, .inr (6, [.int (0 : Int32), .ref aF_kinds, .ref aF_vs, .ref aF_ws, .ref aF_roles, .ref aF_partner, .int (0 : Int32), .ref aF_lineOf, .ref aF_rank, .ref aF_behind, .ref aF_before, .ref aF_ways, .int (0 : Int32), .ref aF_inputOf, .int F_size, .ref aF_answer, .int F_hints, .int F_hasRun, .ref aF_values, .int F_printedMany, .ref aF_printedRow, .ref aF_wasValues, .ref aF_wasPrinted, .ref aF_due, .int F_keptBits, .int F_keptMany, .int F_takenMany, .ref aF_takenPlace, .ref aF_against, .int F_change, .int F_who, .int F_where, .long F_h])), (aF_kinds, eI cI 16 F_kinds), (aF_vs, eI cI 16 F_vs), (aF_ws, eI cI 16 F_ws), (aF_lineOf, eI cI 12 F_lineOf), (aF_behind, eI cI 12 F_behind), (aF_before, eI cI 12 F_before), (aF_ways, eJ cJ 4096 F_ways)] := hD
  refine lv_aload_n hx hb dX6_wipe_20 rfl (lv_at hl 1 rfl) ?_
  refine lv_iconst (v := (0 : Int32)) hx hb dX6_wipe_21 (by decide) ?_
  refine va_put (D := D) (ci := 6) (v := .int (0 : Int32)) (ty := .int) (C := RX6) (T := TX6) (N := 33) hx hb hts iX6 tyX6 tyX6_ok nmX6 hown hK.1 hP hD hS 0 rfl rfl 14 (by decide) k79 (fun _ h9 => h9) rfl (by decide +kernel) rfl rfl (Nat.le_of_ble_eq_true rfl) dX6_wipe_22 (fun H locs hP hD hS => ?_)
  have hP : va_P D vwCl [(aF, .inr (6, [.int (0 : Int32), .ref aF_kinds, .ref aF_vs, .ref aF_ws, .ref aF_roles, .ref aF_partner, .int (0 : Int32), .ref aF_lineOf, .ref aF_rank, .ref aF_behind, .ref aF_before, .ref aF_ways, .int (0 : Int32), .ref aF_inputOf, .int (0 : Int32), .ref aF_answer, .int F_hints, .int F_hasRun, .ref aF_values, .int F_printedMany, .ref aF_printedRow, .ref aF_wasValues, .ref aF_wasPrinted, .ref aF_due, .int F_keptBits, .int F_keptMany, .int F_takenMany, .ref aF_takenPlace, .ref aF_against, .int F_change, .int F_who, .int F_where, .long F_h])), (aF_kinds, eI cI 16 F_kinds), (aF_vs, eI cI 16 F_vs), (aF_ws, eI cI 16 F_ws), (aF_lineOf, eI cI 12 F_lineOf), (aF_behind, eI cI 12 F_behind), (aF_before, eI cI 12 F_before), (aF_ways, eJ cJ 4096 F_ways)] H := hP
  have hD : va_D A [(aF, .inr (6, [.int (0 : Int32), .ref aF_kinds, .ref aF_vs, .ref aF_ws, .ref aF_roles, .ref aF_partner, .int (0 : Int32), .ref aF_lineOf, .ref aF_rank, .ref aF_behind, .ref aF_before, .ref aF_ways, .int (0 : Int32), .ref aF_inputOf, .int (0 : Int32), .ref aF_answer, .int F_hints, .int F_hasRun, .ref aF_values, .int F_printedMany, .ref aF_printedRow, .ref aF_wasValues, .ref aF_wasPrinted, .ref aF_due, .int F_keptBits, .int F_keptMany, .int F_takenMany, .ref aF_takenPlace, .ref aF_against, .int F_change, .int F_who, .int F_where, .long F_h])), (aF_kinds, eI cI 16 F_kinds), (aF_vs, eI cI 16 F_vs), (aF_ws, eI cI 16 F_ws), (aF_lineOf, eI cI 12 F_lineOf), (aF_behind, eI cI 12 F_behind), (aF_before, eI cI 12 F_before), (aF_ways, eJ cJ 4096 F_ways)] := hD
  refine lv_aload_n hx hb dX6_wipe_25 rfl (lv_at hl 1 rfl) ?_
  refine lv_iconst (v := (0 : Int32)) hx hb dX6_wipe_26 (by decide) ?_
  refine va_put (D := D) (ci := 6) (v := .int (0 : Int32)) (ty := .boolean) (C := RX6) (T := TX6) (N := 33) hx hb hts iX6 tyX6 tyX6_ok nmX6 hown hK.1 hP hD hS 0 rfl rfl 17 (by decide) k99 (fun _ h9 => h9) rfl (by decide +kernel) rfl rfl (Nat.le_of_ble_eq_true rfl) dX6_wipe_27 (fun H locs hP hD hS => ?_)
  have hP : va_P D vwCl [(aF, .inr (6, [.int (0 : Int32), .ref aF_kinds, .ref aF_vs, .ref aF_ws, .ref aF_roles, .ref aF_partner, .int (0 : Int32), .ref aF_lineOf, .ref aF_rank, .ref aF_behind, .ref aF_before, .ref aF_ways, .int (0 : Int32), .ref aF_inputOf, .int (0 : Int32), .ref aF_answer, .int F_hints, .int (0 : Int32), .ref aF_values, .int F_printedMany, .ref aF_printedRow, .ref aF_wasValues, .ref aF_wasPrinted, .ref aF_due, .int F_keptBits, .int F_keptMany, .int F_takenMany, .ref aF_takenPlace, .ref aF_against, .int F_change, .int F_who, .int F_where, .long F_h])), (aF_kinds, eI cI 16 F_kinds), (aF_vs, eI cI 16 F_vs), (aF_ws, eI cI 16 F_ws), (aF_lineOf, eI cI 12 F_lineOf), (aF_behind, eI cI 12 F_behind), (aF_before, eI cI 12 F_before), (aF_ways, eJ cJ 4096 F_ways)] H := hP
  have hD : va_D A [(aF, .inr (6, [.int (0 : Int32), .ref aF_kinds, .ref aF_vs, .ref aF_ws, .ref aF_roles, .ref aF_partner, .int (0 : Int32), .ref aF_lineOf, .ref aF_rank, .ref aF_behind, .ref aF_before, .ref aF_ways, .int (0 : Int32), .ref aF_inputOf, .int (0 : Int32), .ref aF_answer, .int F_hints, .int (0 : Int32), .ref aF_values, .int F_printedMany, .ref aF_printedRow, .ref aF_wasValues, .ref aF_wasPrinted, .ref aF_due, .int F_keptBits, .int F_keptMany, .int F_takenMany, .ref aF_takenPlace, .ref aF_against, .int F_change, .int F_who, .int F_where, .long F_h])), (aF_kinds, eI cI 16 F_kinds), (aF_vs, eI cI 16 F_vs), (aF_ws, eI cI 16 F_ws), (aF_lineOf, eI cI 12 F_lineOf), (aF_behind, eI cI 12 F_behind), (aF_before, eI cI 12 F_before), (aF_ways, eJ cJ 4096 F_ways)] := hD
  refine lv_aload_n hx hb dX6_wipe_30 rfl (lv_at hl 1 rfl) ?_
  refine lv_iconst (v := (0 : Int32)) hx hb dX6_wipe_31 (by decide) ?_
  refine va_put (D := D) (ci := 6) (v := .int (0 : Int32)) (ty := .int) (C := RX6) (T := TX6) (N := 33) hx hb hts iX6 tyX6 tyX6_ok nmX6 hown hK.1 hP hD hS 0 rfl rfl 19 (by decide) k103 (fun _ h9 => h9) rfl (by decide +kernel) rfl rfl (Nat.le_of_ble_eq_true rfl) dX6_wipe_32 (fun H locs hP hD hS => ?_)
  have hP : va_P D vwCl [(aF, .inr (6, [.int (0 : Int32), .ref aF_kinds, .ref aF_vs, .ref aF_ws, .ref aF_roles, .ref aF_partner, .int (0 : Int32), .ref aF_lineOf, .ref aF_rank, .ref aF_behind, .ref aF_before, .ref aF_ways, .int (0 : Int32), .ref aF_inputOf, .int (0 : Int32), .ref aF_answer, .int F_hints, .int (0 : Int32), .ref aF_values, .int (0 : Int32), .ref aF_printedRow, .ref aF_wasValues, .ref aF_wasPrinted, .ref aF_due, .int F_keptBits, .int F_keptMany, .int F_takenMany, .ref aF_takenPlace, .ref aF_against, .int F_change, .int F_who, .int F_where, .long F_h])), (aF_kinds, eI cI 16 F_kinds), (aF_vs, eI cI 16 F_vs), (aF_ws, eI cI 16 F_ws), (aF_lineOf, eI cI 12 F_lineOf), (aF_behind, eI cI 12 F_behind), (aF_before, eI cI 12 F_before), (aF_ways, eJ cJ 4096 F_ways)] H := hP
  have hD : va_D A [(aF, .inr (6, [.int (0 : Int32), .ref aF_kinds, .ref aF_vs, .ref aF_ws, .ref aF_roles, .ref aF_partner, .int (0 : Int32), .ref aF_lineOf, .ref aF_rank, .ref aF_behind, .ref aF_before, .ref aF_ways, .int (0 : Int32), .ref aF_inputOf, .int (0 : Int32), .ref aF_answer, .int F_hints, .int (0 : Int32), .ref aF_values, .int (0 : Int32), .ref aF_printedRow, .ref aF_wasValues, .ref aF_wasPrinted, .ref aF_due, .int F_keptBits, .int F_keptMany, .int F_takenMany, .ref aF_takenPlace, .ref aF_against, .int F_change, .int F_who, .int F_where, .long F_h])), (aF_kinds, eI cI 16 F_kinds), (aF_vs, eI cI 16 F_vs), (aF_ws, eI cI 16 F_ws), (aF_lineOf, eI cI 12 F_lineOf), (aF_behind, eI cI 12 F_behind), (aF_before, eI cI 12 F_before), (aF_ways, eJ cJ 4096 F_ways)] := hD
  refine lv_aload_n hx hb dX6_wipe_35 rfl (lv_at hl 1 rfl) ?_
  refine bnd hf (fun o36 e36 hf => ?_)
  refine wrVv (As := []) (rest := []) (cw := [(aF, .inr (6, [.int (0 : Int32), .ref aF_kinds, .ref aF_vs, .ref aF_ws, .ref aF_roles, .ref aF_partner, .int (0 : Int32), .ref aF_lineOf, .ref aF_rank, .ref aF_behind, .ref aF_before, .ref aF_ways, .int (0 : Int32), .ref aF_inputOf, .int (0 : Int32), .ref aF_answer, .int F_hints, .int (0 : Int32), .ref aF_values, .int (0 : Int32), .ref aF_printedRow, .ref aF_wasValues, .ref aF_wasPrinted, .ref aF_due, .int F_keptBits, .int F_keptMany, .int F_takenMany, .ref aF_takenPlace, .ref aF_against, .int F_change, .int F_who, .int F_where, .long F_h])), (aF_kinds, eI cI 16 F_kinds), (aF_vs, eI cI 16 F_vs), (aF_ws, eI cI 16 F_ws), (aF_lineOf, eI cI 12 F_lineOf), (aF_behind, eI cI 12 F_behind), (aF_before, eI cI 12 F_before), (aF_ways, eJ cJ 4096 F_ways)]) (cw' := [(aF, .inr (6, [.int (0 : Int32), .ref aF_kinds, .ref aF_vs, .ref aF_ws, .ref aF_roles, .ref aF_partner, .int (0 : Int32), .ref aF_lineOf, .ref aF_rank, .ref aF_behind, .ref aF_before, .ref aF_ways, .int (0 : Int32), .ref aF_inputOf, .int (0 : Int32), .ref aF_answer, .int F_hints, .int (0 : Int32), .ref aF_values, .int (0 : Int32), .ref aF_printedRow, .ref aF_wasValues, .ref aF_wasPrinted, .ref aF_due, .int F_keptBits, .int F_keptMany, .int F_takenMany, .ref aF_takenPlace, .ref aF_against, .int F_change, .int F_who, .int F_where, .long F_h])), (aF_kinds, eI cI 16 F_kinds), (aF_vs, eI cI 16 F_vs), (aF_ws, eI cI 16 F_ws), (aF_lineOf, eI cI 12 F_lineOf), (aF_behind, eI cI 12 o36.1), (aF_before, eI cI 12 o36.2.1), (aF_ways, eJ cJ 4096 o36.2.2)]) (wr := []) (ws2 := [(aF, .inr (6, [.int (0 : Int32), .ref aF_kinds, .ref aF_vs, .ref aF_ws, .ref aF_roles, .ref aF_partner, .int (0 : Int32), .ref aF_lineOf, .ref aF_rank, .ref aF_behind, .ref aF_before, .ref aF_ways, .int (0 : Int32), .ref aF_inputOf, .int (0 : Int32), .ref aF_answer, .int F_hints, .int (0 : Int32), .ref aF_values, .int (0 : Int32), .ref aF_printedRow, .ref aF_wasValues, .ref aF_wasPrinted, .ref aF_due, .int F_keptBits, .int F_keptMany, .int F_takenMany, .ref aF_takenPlace, .ref aF_against, .int F_change, .int F_who, .int F_where, .long F_h])), (aF_kinds, eI cI 16 F_kinds), (aF_vs, eI cI 16 F_vs), (aF_ws, eI cI 16 F_ws), (aF_lineOf, eI cI 12 F_lineOf), (aF_behind, eI cI 12 o36.1), (aF_before, eI cI 12 o36.2.1), (aF_ways, eJ cJ 4096 o36.2.2)]) ⟨hx, hb, hml, hown, hts⟩ (tX6_relate l D cI cJ cG aF aF_kinds aF_vs aF_ws aF_roles aF_partner aF_lineOf aF_rank aF_behind aF_before aF_ways aF_inputOf aF_answer aF_values aF_printedRow aF_wasValues aF_wasPrinted aF_due aF_takenPlace aF_against H.size  (0 : Int32) (0 : Int32) (0 : Int32) (0 : Int32) F_hints (0 : Int32) (0 : Int32) F_keptBits F_keptMany F_takenMany F_change F_who F_where F_h F_kinds F_vs F_ws F_lineOf F_behind F_before F_ways o36 e36) (cwV 0 hts gX6_wipe_X6_relate rfl rfl rfl (by decide +kernel) ⟨Nat.le_of_ble_eq_true rfl, Nat.le_of_ble_eq_true rfl⟩) (va_recv (ci := 6) (q0 := 0) hK.1 hP rfl rfl) hK hP hD hS hA [0, 1, 2, 3, 4, 5, 6, 7] [] [0, 1, 2, 3, 4, 5, 6, 7] rfl rfl rfl (by decide) (by decide) (by decide) (by decide) rfl hl.1 rfl (lv_room (Nat.le_of_ble_eq_true rfl)) dX6_wipe_36 ⟨Nat.le_of_ble_eq_true rfl, Nat.le_of_ble_eq_true rfl⟩ (fun H locs hP hD hS => ?_)
  refine lv_iload_n hx hb dX6_wipe_39 rfl (lv_at hl 0 rfl) ?_
  rw [hQQ]
  exact W.iret (v := F_lines) hx hb hr (fun t ht hW => by rw [← Option.some.inj hf]; rw [← hAe] at hD hS; exact ⟨⟨F_lines, (), rfl, rfl, by rw [ht]; exact hP, hD⟩, hS.F ht⟩) hS.2.2 dX6_wipe_40

set_option maxHeartbeats 4000000 in
set_option maxRecDepth 100000 in
theorem tX6_told (l : Launch) (D : va_G) (cI cJ cG : ClassId) (aF aF_kinds aF_vs aF_ws aF_roles aF_partner aF_lineOf aF_rank aF_behind aF_before aF_ways aF_inputOf aF_answer aF_values aF_printedRow aF_wasValues aF_wasPrinted aF_due aF_takenPlace aF_against : Nat) (Hs : Heap) (y1 : Int32) (y2 : Int32) (F_lines : Int32) (F_model : Int32) (F_inputs : Int32) (F_size : Int32) (F_hints : Int32) (F_hasRun : Int32) (F_printedMany : Int32) (F_keptBits : Int32) (F_keptMany : Int32) (F_takenMany : Int32) (F_change : Int32) (F_who : Int32) (F_where : Int32) (F_h : Int64) (F_kinds : (Nat → Int32)) (F_vs : (Nat → Int32)) (F_ws : (Nat → Int32)) (F_roles : (Nat → Int32)) (F_partner : (Nat → Int32)) (out : Int32) (hf : fX6_told y1 y2 F_lines F_kinds F_vs F_ws F_roles F_partner = some out) : Met l yX6_told wsX6_told ({ frames := 2, cells := 0, slots := 0, locals := 43 }) (va_Pc [.ref aF, .int y1, .int y2] (rP D (tyL cI cJ cG) [(aF, .inr (6, [.int F_lines, .ref aF_kinds, .ref aF_vs, .ref aF_ws, .ref aF_roles, .ref aF_partner, .int F_model, .ref aF_lineOf, .ref aF_rank, .ref aF_behind, .ref aF_before, .ref aF_ways, .int F_inputs, .ref aF_inputOf, .int F_size, .ref aF_answer, .int F_hints, .int F_hasRun, .ref aF_values, .int F_printedMany, .ref aF_printedRow, .ref aF_wasValues, .ref aF_wasPrinted, .ref aF_due, .int F_keptBits, .int F_keptMany, .int F_takenMany, .ref aF_takenPlace, .ref aF_against, .int F_change, .int F_who, .int F_where, .long F_h])), (aF_kinds, eI cI 16 F_kinds), (aF_vs, eI cI 16 F_vs), (aF_ws, eI cI 16 F_ws), (aF_roles, eI cI 16 F_roles), (aF_partner, eI cI 16 F_partner)] Hs)) (rQi out Hs) 0 0 (fun _ => False) := by
  refine Met.ofW (cc := cX6_told) (maxL := 3) (ret := (some .int)) (by decide) rfl ?_
  intro p e s m args below meth c s₁ B hml hv
  obtain ⟨rfl, rfl, hP, hK⟩ := hv
  have hx := B.exec
  have hb := B.bytes
  have hr := B.returns
  have hts := atoms_spec (ws := wsX6_told) B.pre
  have hown : s.vm.findClass RX6 = some m.cls := findClass_of_methodNamed B.named
  have hlocks := B.notSynchronized
  have iX6 : ∀ w ∈ wsX60, w ∈ wsX6_told := by decide +kernel
  have k7 := hts (.fieldLink RX6 7 "BlockMarkerModel" "kinds" "[I") (by decide +kernel)
  have k13 := hts (.fieldLink RX6 13 "BlockMarkerModel" "vs" "[I") (by decide +kernel)
  have k16 := hts (.fieldLink RX6 16 "BlockMarkerModel" "ws" "[I") (by decide +kernel)
  have k19 := hts (.fieldLink RX6 19 "BlockMarkerModel" "roles" "[I") (by decide +kernel)
  have k22 := hts (.fieldLink RX6 22 "BlockMarkerModel" "partner" "[I") (by decide +kernel)
  have hS : va_S (fun _ => False) s.heap s.heap [] := va_S.rf
  have hl := lv_entry ([.ref aF, .int y1, .int y2]) (n := 3) (Nat.le_of_ble_eq_true rfl)
  rw [lg_entry_eq]
  generalize (lg_sl ([.ref aF, .int y1, .int y2]) ++ List.replicate (3 - (lg_sl ([.ref aF, .int y1, .int y2])).length) Slot.unset).toArray = ls at hl ⊢
  have hl : lv_has ls 3 [(0, .ref aF), (1, .int y1), (2, .int y2)] := hl
  generalize hQQ : MQ below _ _ s 0 0 _ = QQ
  replace hQQ := hQQ.symm
  unfold fX6_told at hf
  refine lv_aload_n hx hb dX6_told_0 rfl (lv_at hl 0 rfl) ?_
  refine lv_iload_n hx hb dX6_told_1 rfl (lv_at hl 1 rfl) ?_
  refine bnd hf (fun o2 e2 hf => ?_)
  refine rdVi (As := [.int y1]) (rest := []) ⟨hx, hb, hml, hown, hts⟩ (tX6_isLine l D cI cJ cG aF aF_kinds aF_vs aF_ws aF_roles aF_partner aF_lineOf aF_rank aF_behind aF_before aF_ways aF_inputOf aF_answer aF_values aF_printedRow aF_wasValues aF_wasPrinted aF_due aF_takenPlace aF_against s.heap y1 F_lines F_model F_inputs F_size F_hints F_hasRun F_printedMany F_keptBits F_keptMany F_takenMany F_change F_who F_where F_h o2 e2) (cwV 1 hts gX6_told_X6_isLine rfl rfl rfl (by decide +kernel) ⟨Nat.le_of_ble_eq_true rfl, Nat.le_of_ble_eq_true rfl⟩) (va_recv (ci := 6) (q0 := 0) hK.1 hP rfl rfl) hK (hP.sub (ws' := [(aF, .inr (6, [.int F_lines, .ref aF_kinds, .ref aF_vs, .ref aF_ws, .ref aF_roles, .ref aF_partner, .int F_model, .ref aF_lineOf, .ref aF_rank, .ref aF_behind, .ref aF_before, .ref aF_ways, .int F_inputs, .ref aF_inputOf, .int F_size, .ref aF_answer, .int F_hints, .int F_hasRun, .ref aF_values, .int F_printedMany, .ref aF_printedRow, .ref aF_wasValues, .ref aF_wasPrinted, .ref aF_due, .int F_keptBits, .int F_keptMany, .int F_takenMany, .ref aF_takenPlace, .ref aF_against, .int F_change, .int F_who, .int F_where, .long F_h]))]) [0] rfl) rfl hl.1 rfl (lv_room (Nat.le_of_ble_eq_true rfl)) dX6_told_2 ⟨Nat.le_of_ble_eq_true rfl, Nat.le_of_ble_eq_true rfl⟩ hS (fun locs hS => ?_)
  refine lv_if_ne (tgt := 11) hx hb dX6_told_5 (by decide) (fun c5 => ?_) (fun c5 => ?_)
  · have hf := ifn hf c5
    refine lv_iload_n hx hb dX6_told_11 rfl (lv_at hl 2 rfl) ?_
    refine lv_if_ne (tgt := 24) hx hb dX6_told_12 (by decide) (fun c12 => ?_) (fun c12 => ?_)
    · have hf := ifn hf c12
      refine lv_iload_n hx hb dX6_told_24 rfl (lv_at hl 2 rfl) ?_
      refine lv_iconst (v := (1 : Int32)) hx hb dX6_told_25 (by decide) ?_
      refine lv_icmp_ne (tgt := 38) hx hb dX6_told_26 (by decide) (fun c26 => ?_) (fun c26 => ?_)
      · have hf := ifn hf c26
        refine lv_iload_n hx hb dX6_told_38 rfl (lv_at hl 2 rfl) ?_
        refine lv_iconst (v := (2 : Int32)) hx hb dX6_told_39 (by decide) ?_
        refine lv_icmp_ne (tgt := 52) hx hb dX6_told_40 (by decide) (fun c40 => ?_) (fun c40 => ?_)
        · have hf := ifn hf c40
          refine lv_iload_n hx hb dX6_told_52 rfl (lv_at hl 2 rfl) ?_
          refine lv_iconst (v := (3 : Int32)) hx hb dX6_told_53 (by decide) ?_
          refine lv_icmp_ne (tgt := 66) hx hb dX6_told_54 (by decide) (fun c54 => ?_) (fun c54 => ?_)
          · have hf := ifn hf c54
            refine lv_iload_n hx hb dX6_told_66 rfl (lv_at hl 2 rfl) ?_
            refine lv_iconst (v := (4 : Int32)) hx hb dX6_told_67 (by decide) ?_
            refine lv_icmp_ne (tgt := 80) hx hb dX6_told_68 (by decide) (fun c68 => ?_) (fun c68 => ?_)
            · have hf := ifn hf c68
              refine lv_bipush (v := (-102 : Int32)) hx hb dX6_told_80 (by decide) ?_
              rw [hQQ]
              exact W.iret (v := (-102 : Int32)) hx hb hr (fun t ht hW => ⟨⟨(-102 : Int32), (), rfl, Option.some.inj hf, ht⟩, rF ht⟩) hS.2.2 dX6_told_82
            · have hf := ifp hf c68
              refine lv_aload_n hx hb dX6_told_71 rfl (lv_at hl 0 rfl) ?_
              refine va_get (D := D) (ci := 6) (v := .ref aF_partner) (C := RX6) (T := TX6) (N := 33) hx hb hts iX6 hown hK.1 hP 0 rfl rfl 5 (by decide) k22 (fun _ h9 => h9) rfl dX6_told_72 ?_
              refine lv_iload_n hx hb dX6_told_75 rfl (lv_at hl 1 rfl) ?_
              refine ckE hf (fun h76 hf => ?_)
              refine va_iald hx hb hK.1 hP 5 0 rfl rfl (inB_in h76) dX6_told_76 ?_
              refine lv_goto (tgt := 82) hx hb dX6_told_77 (by decide) ?_
              rw [hQQ]
              exact W.iret (v := (F_partner (y1).toNatClampNeg)) hx hb hr (fun t ht hW => ⟨⟨(F_partner (y1).toNatClampNeg), (), rfl, Option.some.inj hf, ht⟩, rF ht⟩) hS.2.2 dX6_told_82
          · have hf := ifp hf c54
            refine lv_aload_n hx hb dX6_told_57 rfl (lv_at hl 0 rfl) ?_
            refine va_get (D := D) (ci := 6) (v := .ref aF_roles) (C := RX6) (T := TX6) (N := 33) hx hb hts iX6 hown hK.1 hP 0 rfl rfl 4 (by decide) k19 (fun _ h9 => h9) rfl dX6_told_58 ?_
            refine lv_iload_n hx hb dX6_told_61 rfl (lv_at hl 1 rfl) ?_
            refine ckE hf (fun h62 hf => ?_)
            refine va_iald hx hb hK.1 hP 4 0 rfl rfl (inB_in h62) dX6_told_62 ?_
            refine lv_goto (tgt := 82) hx hb dX6_told_63 (by decide) ?_
            rw [hQQ]
            exact W.iret (v := (F_roles (y1).toNatClampNeg)) hx hb hr (fun t ht hW => ⟨⟨(F_roles (y1).toNatClampNeg), (), rfl, Option.some.inj hf, ht⟩, rF ht⟩) hS.2.2 dX6_told_82
        · have hf := ifp hf c40
          refine lv_aload_n hx hb dX6_told_43 rfl (lv_at hl 0 rfl) ?_
          refine va_get (D := D) (ci := 6) (v := .ref aF_ws) (C := RX6) (T := TX6) (N := 33) hx hb hts iX6 hown hK.1 hP 0 rfl rfl 3 (by decide) k16 (fun _ h9 => h9) rfl dX6_told_44 ?_
          refine lv_iload_n hx hb dX6_told_47 rfl (lv_at hl 1 rfl) ?_
          refine ckE hf (fun h48 hf => ?_)
          refine va_iald hx hb hK.1 hP 3 0 rfl rfl (inB_in h48) dX6_told_48 ?_
          refine lv_goto (tgt := 82) hx hb dX6_told_49 (by decide) ?_
          rw [hQQ]
          exact W.iret (v := (F_ws (y1).toNatClampNeg)) hx hb hr (fun t ht hW => ⟨⟨(F_ws (y1).toNatClampNeg), (), rfl, Option.some.inj hf, ht⟩, rF ht⟩) hS.2.2 dX6_told_82
      · have hf := ifp hf c26
        refine lv_aload_n hx hb dX6_told_29 rfl (lv_at hl 0 rfl) ?_
        refine va_get (D := D) (ci := 6) (v := .ref aF_vs) (C := RX6) (T := TX6) (N := 33) hx hb hts iX6 hown hK.1 hP 0 rfl rfl 2 (by decide) k13 (fun _ h9 => h9) rfl dX6_told_30 ?_
        refine lv_iload_n hx hb dX6_told_33 rfl (lv_at hl 1 rfl) ?_
        refine ckE hf (fun h34 hf => ?_)
        refine va_iald hx hb hK.1 hP 2 0 rfl rfl (inB_in h34) dX6_told_34 ?_
        refine lv_goto (tgt := 82) hx hb dX6_told_35 (by decide) ?_
        rw [hQQ]
        exact W.iret (v := (F_vs (y1).toNatClampNeg)) hx hb hr (fun t ht hW => ⟨⟨(F_vs (y1).toNatClampNeg), (), rfl, Option.some.inj hf, ht⟩, rF ht⟩) hS.2.2 dX6_told_82
    · have hf := ifp hf c12
      refine lv_aload_n hx hb dX6_told_15 rfl (lv_at hl 0 rfl) ?_
      refine va_get (D := D) (ci := 6) (v := .ref aF_kinds) (C := RX6) (T := TX6) (N := 33) hx hb hts iX6 hown hK.1 hP 0 rfl rfl 1 (by decide) k7 (fun _ h9 => h9) rfl dX6_told_16 ?_
      refine lv_iload_n hx hb dX6_told_19 rfl (lv_at hl 1 rfl) ?_
      refine ckE hf (fun h20 hf => ?_)
      refine va_iald hx hb hK.1 hP 1 0 rfl rfl (inB_in h20) dX6_told_20 ?_
      refine lv_goto (tgt := 82) hx hb dX6_told_21 (by decide) ?_
      rw [hQQ]
      exact W.iret (v := (F_kinds (y1).toNatClampNeg)) hx hb hr (fun t ht hW => ⟨⟨(F_kinds (y1).toNatClampNeg), (), rfl, Option.some.inj hf, ht⟩, rF ht⟩) hS.2.2 dX6_told_82
  · have hf := ifp hf c5
    refine lv_bipush (v := (-101 : Int32)) hx hb dX6_told_8 (by decide) ?_
    rw [hQQ]
    exact W.iret (v := (-101 : Int32)) hx hb hr (fun t ht hW => ⟨⟨(-101 : Int32), (), rfl, Option.some.inj hf, ht⟩, rF ht⟩) hS.2.2 dX6_told_10

set_option maxHeartbeats 4000000 in
set_option maxRecDepth 100000 in
theorem tX6_needsOf (l : Launch) (D : va_G) (cI cJ cG : ClassId) (aF aF_kinds aF_vs aF_ws aF_roles aF_partner aF_lineOf aF_rank aF_behind aF_before aF_ways aF_inputOf aF_answer aF_values aF_printedRow aF_wasValues aF_wasPrinted aF_due aF_takenPlace aF_against : Nat) (Hs : Heap) (y1 : Int32) (y2 : Int32) (F_lines : Int32) (F_model : Int32) (F_inputs : Int32) (F_size : Int32) (F_hints : Int32) (F_hasRun : Int32) (F_printedMany : Int32) (F_keptBits : Int32) (F_keptMany : Int32) (F_takenMany : Int32) (F_change : Int32) (F_who : Int32) (F_where : Int32) (F_h : Int64) (F_roles : (Nat → Int32)) (F_rank : (Nat → Int32)) (F_behind : (Nat → Int32)) (out : Int32) (hf : fX6_needsOf y1 y2 F_roles F_rank F_behind = some out) : Met l yX6_needsOf wsX6_needsOf ({ frames := 0, cells := 0, slots := 0, locals := 0 }) (va_Pc [.ref aF, .int y1, .int y2] (rP D (tyL cI cJ cG) [(aF, .inr (6, [.int F_lines, .ref aF_kinds, .ref aF_vs, .ref aF_ws, .ref aF_roles, .ref aF_partner, .int F_model, .ref aF_lineOf, .ref aF_rank, .ref aF_behind, .ref aF_before, .ref aF_ways, .int F_inputs, .ref aF_inputOf, .int F_size, .ref aF_answer, .int F_hints, .int F_hasRun, .ref aF_values, .int F_printedMany, .ref aF_printedRow, .ref aF_wasValues, .ref aF_wasPrinted, .ref aF_due, .int F_keptBits, .int F_keptMany, .int F_takenMany, .ref aF_takenPlace, .ref aF_against, .int F_change, .int F_who, .int F_where, .long F_h])), (aF_roles, eI cI 16 F_roles), (aF_rank, eI cI 16 F_rank), (aF_behind, eI cI 12 F_behind)] Hs)) (rQi out Hs) 0 0 (fun _ => False) := by
  refine Met.ofW (cc := cX6_needsOf) (maxL := 3) (ret := (some .boolean)) (by decide) rfl ?_
  intro p e s m args below meth c s₁ B hml hv
  obtain ⟨rfl, rfl, hP, hK⟩ := hv
  have hx := B.exec
  have hb := B.bytes
  have hr := B.returns
  have hts := atoms_spec (ws := wsX6_needsOf) B.pre
  have hown : s.vm.findClass RX6 = some m.cls := findClass_of_methodNamed B.named
  have hlocks := B.notSynchronized
  have iX6 : ∀ w ∈ wsX60, w ∈ wsX6_needsOf := by decide +kernel
  have k19 := hts (.fieldLink RX6 19 "BlockMarkerModel" "roles" "[I") (by decide +kernel)
  have k28 := hts (.fieldLink RX6 28 "BlockMarkerModel" "rank" "[I") (by decide +kernel)
  have k31 := hts (.fieldLink RX6 31 "BlockMarkerModel" "behind" "[I") (by decide +kernel)
  have hS : va_S (fun _ => False) s.heap s.heap [] := va_S.rf
  have hl := lv_entry ([.ref aF, .int y1, .int y2]) (n := 3) (Nat.le_of_ble_eq_true rfl)
  rw [lg_entry_eq]
  generalize (lg_sl ([.ref aF, .int y1, .int y2]) ++ List.replicate (3 - (lg_sl ([.ref aF, .int y1, .int y2])).length) Slot.unset).toArray = ls at hl ⊢
  have hl : lv_has ls 3 [(0, .ref aF), (1, .int y1), (2, .int y2)] := hl
  generalize hQQ : MQ below _ _ s 0 0 _ = QQ
  replace hQQ := hQQ.symm
  unfold fX6_needsOf at hf
  refine lv_aload_n hx hb dX6_needsOf_0 rfl (lv_at hl 0 rfl) ?_
  refine va_get (D := D) (ci := 6) (v := .ref aF_roles) (C := RX6) (T := TX6) (N := 33) hx hb hts iX6 hown hK.1 hP 0 rfl rfl 4 (by decide) k19 (fun _ h9 => h9) rfl dX6_needsOf_1 ?_
  refine lv_iload_n hx hb dX6_needsOf_4 rfl (lv_at hl 1 rfl) ?_
  refine ckE hf (fun h5 hf => ?_)
  refine va_iald hx hb hK.1 hP 1 0 rfl rfl (inB_in h5) dX6_needsOf_5 ?_
  refine lv_if_ne (tgt := 46) hx hb dX6_needsOf_6 (by decide) (fun c6 => ?_) (fun c6 => ?_)
  · have hf := ifn hf c6
    refine lv_iconst (v := (0 : Int32)) hx hb dX6_needsOf_46 (by decide) ?_
    rw [hQQ]
    exact W.zret (v := (0 : Int32)) hx hb hr rfl (fun t ht hW => ⟨⟨(0 : Int32), (), rfl, Option.some.inj hf, ht⟩, rF ht⟩) hS.2.2 dX6_needsOf_47
  · have hf := ifp hf c6
    refine lv_aload_n hx hb dX6_needsOf_9 rfl (lv_at hl 0 rfl) ?_
    refine va_get (D := D) (ci := 6) (v := .ref aF_roles) (C := RX6) (T := TX6) (N := 33) hx hb hts iX6 hown hK.1 hP 0 rfl rfl 4 (by decide) k19 (fun _ h9 => h9) rfl dX6_needsOf_10 ?_
    refine lv_iload_n hx hb dX6_needsOf_13 rfl (lv_at hl 2 rfl) ?_
    refine ckE hf (fun h14 hf => ?_)
    refine va_iald hx hb hK.1 hP 1 0 rfl rfl (inB_in h14) dX6_needsOf_14 ?_
    refine lv_if_ne (tgt := 46) hx hb dX6_needsOf_15 (by decide) (fun c15 => ?_) (fun c15 => ?_)
    · have hf := ifn hf c15
      refine lv_iconst (v := (0 : Int32)) hx hb dX6_needsOf_46 (by decide) ?_
      rw [hQQ]
      exact W.zret (v := (0 : Int32)) hx hb hr rfl (fun t ht hW => ⟨⟨(0 : Int32), (), rfl, Option.some.inj hf, ht⟩, rF ht⟩) hS.2.2 dX6_needsOf_47
    · have hf := ifp hf c15
      refine lv_aload_n hx hb dX6_needsOf_18 rfl (lv_at hl 0 rfl) ?_
      refine va_get (D := D) (ci := 6) (v := .ref aF_behind) (C := RX6) (T := TX6) (N := 33) hx hb hts iX6 hown hK.1 hP 0 rfl rfl 9 (by decide) k31 (fun _ h9 => h9) rfl dX6_needsOf_19 ?_
      refine lv_aload_n hx hb dX6_needsOf_22 rfl (lv_at hl 0 rfl) ?_
      refine va_get (D := D) (ci := 6) (v := .ref aF_rank) (C := RX6) (T := TX6) (N := 33) hx hb hts iX6 hown hK.1 hP 0 rfl rfl 8 (by decide) k28 (fun _ h9 => h9) rfl dX6_needsOf_23 ?_
      refine lv_iload_n hx hb dX6_needsOf_26 rfl (lv_at hl 1 rfl) ?_
      refine ckE hf (fun h27 hf => ?_)
      refine va_iald hx hb hK.1 hP 2 0 rfl rfl (inB_in h27) dX6_needsOf_27 ?_
      refine ckE hf (fun h28 hf => ?_)
      refine va_iald hx hb hK.1 hP 3 0 rfl rfl (inB_in h28) dX6_needsOf_28 ?_
      refine lv_aload_n hx hb dX6_needsOf_29 rfl (lv_at hl 0 rfl) ?_
      refine va_get (D := D) (ci := 6) (v := .ref aF_rank) (C := RX6) (T := TX6) (N := 33) hx hb hts iX6 hown hK.1 hP 0 rfl rfl 8 (by decide) k28 (fun _ h9 => h9) rfl dX6_needsOf_30 ?_
      refine lv_iload_n hx hb dX6_needsOf_33 rfl (lv_at hl 2 rfl) ?_
      refine ckE hf (fun h34 hf => ?_)
      refine va_iald hx hb hK.1 hP 2 0 rfl rfl (inB_in h34) dX6_needsOf_34 ?_
      refine lv_ishr hx hb dX6_needsOf_35 ?_
      refine lv_iconst (v := (1 : Int32)) hx hb dX6_needsOf_36 (by decide) ?_
      refine lv_iand hx hb dX6_needsOf_37 ?_
      refine lv_iconst (v := (1 : Int32)) hx hb dX6_needsOf_38 (by decide) ?_
      refine lv_icmp_ne (tgt := 46) hx hb dX6_needsOf_39 (by decide) (fun c39 => ?_) (fun c39 => ?_)
      · have hf := ifn hf c39
        refine lv_iconst (v := (0 : Int32)) hx hb dX6_needsOf_46 (by decide) ?_
        rw [hQQ]
        exact W.zret (v := (0 : Int32)) hx hb hr rfl (fun t ht hW => ⟨⟨(0 : Int32), (), rfl, Option.some.inj hf, ht⟩, rF ht⟩) hS.2.2 dX6_needsOf_47
      · have hf := ifp hf c39
        refine lv_iconst (v := (1 : Int32)) hx hb dX6_needsOf_42 (by decide) ?_
        refine lv_goto (tgt := 47) hx hb dX6_needsOf_43 (by decide) ?_
        rw [hQQ]
        exact W.zret (v := (1 : Int32)) hx hb hr rfl (fun t ht hW => ⟨⟨(1 : Int32), (), rfl, Option.some.inj hf, ht⟩, rF ht⟩) hS.2.2 dX6_needsOf_47

set_option maxHeartbeats 4000000 in
set_option maxRecDepth 100000 in
theorem tX6_needs (l : Launch) (D : va_G) (cI cJ cG : ClassId) (aF aF_kinds aF_vs aF_ws aF_roles aF_partner aF_lineOf aF_rank aF_behind aF_before aF_ways aF_inputOf aF_answer aF_values aF_printedRow aF_wasValues aF_wasPrinted aF_due aF_takenPlace aF_against : Nat) (Hs : Heap) (y1 : Int32) (y2 : Int32) (F_lines : Int32) (F_model : Int32) (F_inputs : Int32) (F_size : Int32) (F_hints : Int32) (F_hasRun : Int32) (F_printedMany : Int32) (F_keptBits : Int32) (F_keptMany : Int32) (F_takenMany : Int32) (F_change : Int32) (F_who : Int32) (F_where : Int32) (F_h : Int64) (F_roles : (Nat → Int32)) (F_rank : (Nat → Int32)) (F_behind : (Nat → Int32)) (out : Int32) (hf : fX6_needs y1 y2 F_lines F_roles F_rank F_behind = some out) : Met l yX6_needs wsX6_needs ({ frames := 2, cells := 0, slots := 0, locals := 43 }) (va_Pc [.ref aF, .int y1, .int y2] (rP D (tyL cI cJ cG) [(aF, .inr (6, [.int F_lines, .ref aF_kinds, .ref aF_vs, .ref aF_ws, .ref aF_roles, .ref aF_partner, .int F_model, .ref aF_lineOf, .ref aF_rank, .ref aF_behind, .ref aF_before, .ref aF_ways, .int F_inputs, .ref aF_inputOf, .int F_size, .ref aF_answer, .int F_hints, .int F_hasRun, .ref aF_values, .int F_printedMany, .ref aF_printedRow, .ref aF_wasValues, .ref aF_wasPrinted, .ref aF_due, .int F_keptBits, .int F_keptMany, .int F_takenMany, .ref aF_takenPlace, .ref aF_against, .int F_change, .int F_who, .int F_where, .long F_h])), (aF_roles, eI cI 16 F_roles), (aF_rank, eI cI 16 F_rank), (aF_behind, eI cI 12 F_behind)] Hs)) (rQi out Hs) 0 0 (fun _ => False) := by
  refine Met.ofW (cc := cX6_needs) (maxL := 3) (ret := (some .int)) (by decide) rfl ?_
  intro p e s m args below meth c s₁ B hml hv
  obtain ⟨rfl, rfl, hP, hK⟩ := hv
  have hx := B.exec
  have hb := B.bytes
  have hr := B.returns
  have hts := atoms_spec (ws := wsX6_needs) B.pre
  have hown : s.vm.findClass RX6 = some m.cls := findClass_of_methodNamed B.named
  have hlocks := B.notSynchronized
  have hS : va_S (fun _ => False) s.heap s.heap [] := va_S.rf
  have hl := lv_entry ([.ref aF, .int y1, .int y2]) (n := 3) (Nat.le_of_ble_eq_true rfl)
  rw [lg_entry_eq]
  generalize (lg_sl ([.ref aF, .int y1, .int y2]) ++ List.replicate (3 - (lg_sl ([.ref aF, .int y1, .int y2])).length) Slot.unset).toArray = ls at hl ⊢
  have hl : lv_has ls 3 [(0, .ref aF), (1, .int y1), (2, .int y2)] := hl
  generalize hQQ : MQ below _ _ s 0 0 _ = QQ
  replace hQQ := hQQ.symm
  unfold fX6_needs at hf
  refine lv_aload_n hx hb dX6_needs_0 rfl (lv_at hl 0 rfl) ?_
  refine lv_iload_n hx hb dX6_needs_1 rfl (lv_at hl 1 rfl) ?_
  refine bnd hf (fun o2 e2 hf => ?_)
  refine rdVi (As := [.int y1]) (rest := []) ⟨hx, hb, hml, hown, hts⟩ (tX6_isLine l D cI cJ cG aF aF_kinds aF_vs aF_ws aF_roles aF_partner aF_lineOf aF_rank aF_behind aF_before aF_ways aF_inputOf aF_answer aF_values aF_printedRow aF_wasValues aF_wasPrinted aF_due aF_takenPlace aF_against s.heap y1 F_lines F_model F_inputs F_size F_hints F_hasRun F_printedMany F_keptBits F_keptMany F_takenMany F_change F_who F_where F_h o2 e2) (cwV 1 hts gX6_needs_X6_isLine rfl rfl rfl (by decide +kernel) ⟨Nat.le_of_ble_eq_true rfl, Nat.le_of_ble_eq_true rfl⟩) (va_recv (ci := 6) (q0 := 0) hK.1 hP rfl rfl) hK (hP.sub (ws' := [(aF, .inr (6, [.int F_lines, .ref aF_kinds, .ref aF_vs, .ref aF_ws, .ref aF_roles, .ref aF_partner, .int F_model, .ref aF_lineOf, .ref aF_rank, .ref aF_behind, .ref aF_before, .ref aF_ways, .int F_inputs, .ref aF_inputOf, .int F_size, .ref aF_answer, .int F_hints, .int F_hasRun, .ref aF_values, .int F_printedMany, .ref aF_printedRow, .ref aF_wasValues, .ref aF_wasPrinted, .ref aF_due, .int F_keptBits, .int F_keptMany, .int F_takenMany, .ref aF_takenPlace, .ref aF_against, .int F_change, .int F_who, .int F_where, .long F_h]))]) [0] rfl) rfl hl.1 rfl (lv_room (Nat.le_of_ble_eq_true rfl)) dX6_needs_2 ⟨Nat.le_of_ble_eq_true rfl, Nat.le_of_ble_eq_true rfl⟩ hS (fun locs hS => ?_)
  refine lv_if_eq (tgt := 16) hx hb dX6_needs_5 (by decide) (fun c5 => ?_) (fun c5 => ?_)
  · have hf := ifp hf c5
    refine lv_bipush (v := (-101 : Int32)) hx hb dX6_needs_16 (by decide) ?_
    rw [hQQ]
    exact W.iret (v := (-101 : Int32)) hx hb hr (fun t ht hW => ⟨⟨(-101 : Int32), (), rfl, Option.some.inj hf, ht⟩, rF ht⟩) hS.2.2 dX6_needs_18
  · have hf := ifn hf c5
    refine lv_aload_n hx hb dX6_needs_8 rfl (lv_at hl 0 rfl) ?_
    refine lv_iload_n hx hb dX6_needs_9 rfl (lv_at hl 2 rfl) ?_
    refine bnd hf (fun o10 e10 hf => ?_)
    refine rdVi (As := [.int y2]) (rest := []) ⟨hx, hb, hml, hown, hts⟩ (tX6_isLine l D cI cJ cG aF aF_kinds aF_vs aF_ws aF_roles aF_partner aF_lineOf aF_rank aF_behind aF_before aF_ways aF_inputOf aF_answer aF_values aF_printedRow aF_wasValues aF_wasPrinted aF_due aF_takenPlace aF_against s.heap y2 F_lines F_model F_inputs F_size F_hints F_hasRun F_printedMany F_keptBits F_keptMany F_takenMany F_change F_who F_where F_h o10 e10) (cwV 1 hts gX6_needs_X6_isLine rfl rfl rfl (by decide +kernel) ⟨Nat.le_of_ble_eq_true rfl, Nat.le_of_ble_eq_true rfl⟩) (va_recv (ci := 6) (q0 := 0) hK.1 hP rfl rfl) hK (hP.sub (ws' := [(aF, .inr (6, [.int F_lines, .ref aF_kinds, .ref aF_vs, .ref aF_ws, .ref aF_roles, .ref aF_partner, .int F_model, .ref aF_lineOf, .ref aF_rank, .ref aF_behind, .ref aF_before, .ref aF_ways, .int F_inputs, .ref aF_inputOf, .int F_size, .ref aF_answer, .int F_hints, .int F_hasRun, .ref aF_values, .int F_printedMany, .ref aF_printedRow, .ref aF_wasValues, .ref aF_wasPrinted, .ref aF_due, .int F_keptBits, .int F_keptMany, .int F_takenMany, .ref aF_takenPlace, .ref aF_against, .int F_change, .int F_who, .int F_where, .long F_h]))]) [0] rfl) rfl hl.1 rfl (lv_room (Nat.le_of_ble_eq_true rfl)) dX6_needs_10 ⟨Nat.le_of_ble_eq_true rfl, Nat.le_of_ble_eq_true rfl⟩ hS (fun locs hS => ?_)
    refine lv_if_ne (tgt := 19) hx hb dX6_needs_13 (by decide) (fun c13 => ?_) (fun c13 => ?_)
    · have hf := ifn hf c13
      refine lv_aload_n hx hb dX6_needs_19 rfl (lv_at hl 0 rfl) ?_
      refine lv_iload_n hx hb dX6_needs_20 rfl (lv_at hl 1 rfl) ?_
      refine lv_iload_n hx hb dX6_needs_21 rfl (lv_at hl 2 rfl) ?_
      refine bnd hf (fun o22 e22 hf => ?_)
      refine rdVi (As := [.int y1, .int y2]) (rest := []) ⟨hx, hb, hml, hown, hts⟩ (tX6_needsOf l D cI cJ cG aF aF_kinds aF_vs aF_ws aF_roles aF_partner aF_lineOf aF_rank aF_behind aF_before aF_ways aF_inputOf aF_answer aF_values aF_printedRow aF_wasValues aF_wasPrinted aF_due aF_takenPlace aF_against s.heap y1 y2 F_lines F_model F_inputs F_size F_hints F_hasRun F_printedMany F_keptBits F_keptMany F_takenMany F_change F_who F_where F_h F_roles F_rank F_behind o22 e22) (cwV 2 hts gX6_needs_X6_needsOf rfl rfl rfl (by decide +kernel) ⟨Nat.le_of_ble_eq_true rfl, Nat.le_of_ble_eq_true rfl⟩) (va_recv (ci := 6) (q0 := 0) hK.1 hP rfl rfl) hK (hP.sub (ws' := [(aF, .inr (6, [.int F_lines, .ref aF_kinds, .ref aF_vs, .ref aF_ws, .ref aF_roles, .ref aF_partner, .int F_model, .ref aF_lineOf, .ref aF_rank, .ref aF_behind, .ref aF_before, .ref aF_ways, .int F_inputs, .ref aF_inputOf, .int F_size, .ref aF_answer, .int F_hints, .int F_hasRun, .ref aF_values, .int F_printedMany, .ref aF_printedRow, .ref aF_wasValues, .ref aF_wasPrinted, .ref aF_due, .int F_keptBits, .int F_keptMany, .int F_takenMany, .ref aF_takenPlace, .ref aF_against, .int F_change, .int F_who, .int F_where, .long F_h])), (aF_roles, eI cI 16 F_roles), (aF_rank, eI cI 16 F_rank), (aF_behind, eI cI 12 F_behind)]) [0, 1, 2, 3] rfl) rfl hl.1 rfl (lv_room (Nat.le_of_ble_eq_true rfl)) dX6_needs_22 ⟨Nat.le_of_ble_eq_true rfl, Nat.le_of_ble_eq_true rfl⟩ hS (fun locs hS => ?_)
      refine lv_if_eq (tgt := 32) hx hb dX6_needs_25 (by decide) (fun c25 => ?_) (fun c25 => ?_)
      · have hf := ifp hf c25
        refine lv_iconst (v := (0 : Int32)) hx hb dX6_needs_32 (by decide) ?_
        rw [hQQ]
        exact W.iret (v := (0 : Int32)) hx hb hr (fun t ht hW => ⟨⟨(0 : Int32), (), rfl, Option.some.inj hf, ht⟩, rF ht⟩) hS.2.2 dX6_needs_33
      · have hf := ifn hf c25
        refine lv_iconst (v := (1 : Int32)) hx hb dX6_needs_28 (by decide) ?_
        refine lv_goto (tgt := 33) hx hb dX6_needs_29 (by decide) ?_
        rw [hQQ]
        exact W.iret (v := (1 : Int32)) hx hb hr (fun t ht hW => ⟨⟨(1 : Int32), (), rfl, Option.some.inj hf, ht⟩, rF ht⟩) hS.2.2 dX6_needs_33
    · have hf := ifp hf c13
      refine lv_bipush (v := (-101 : Int32)) hx hb dX6_needs_16 (by decide) ?_
      rw [hQQ]
      exact W.iret (v := (-101 : Int32)) hx hb hr (fun t ht hW => ⟨⟨(-101 : Int32), (), rfl, Option.some.inj hf, ht⟩, rF ht⟩) hS.2.2 dX6_needs_18

set_option maxHeartbeats 4000000 in
set_option maxRecDepth 100000 in
theorem tX6_orders (l : Launch) (D : va_G) (cI cJ cG : ClassId) (aF aF_kinds aF_vs aF_ws aF_roles aF_partner aF_lineOf aF_rank aF_behind aF_before aF_ways aF_inputOf aF_answer aF_values aF_printedRow aF_wasValues aF_wasPrinted aF_due aF_takenPlace aF_against : Nat) (Hs : Heap)  (F_lines : Int32) (F_model : Int32) (F_inputs : Int32) (F_size : Int32) (F_hints : Int32) (F_hasRun : Int32) (F_printedMany : Int32) (F_keptBits : Int32) (F_keptMany : Int32) (F_takenMany : Int32) (F_change : Int32) (F_who : Int32) (F_where : Int32) (F_h : Int64) (F_ways : (Nat → Int64)) (out : Int64) (hf : fX6_orders F_ways = some out) : Met l yX6_orders wsX6_orders ({ frames := 0, cells := 0, slots := 0, locals := 0 }) (va_Pc [.ref aF] (rP D (tyL cI cJ cG) [(aF, .inr (6, [.int F_lines, .ref aF_kinds, .ref aF_vs, .ref aF_ws, .ref aF_roles, .ref aF_partner, .int F_model, .ref aF_lineOf, .ref aF_rank, .ref aF_behind, .ref aF_before, .ref aF_ways, .int F_inputs, .ref aF_inputOf, .int F_size, .ref aF_answer, .int F_hints, .int F_hasRun, .ref aF_values, .int F_printedMany, .ref aF_printedRow, .ref aF_wasValues, .ref aF_wasPrinted, .ref aF_due, .int F_keptBits, .int F_keptMany, .int F_takenMany, .ref aF_takenPlace, .ref aF_against, .int F_change, .int F_who, .int F_where, .long F_h])), (aF_ways, eJ cJ 4096 F_ways)] Hs)) (rQl out Hs) 0 0 (fun _ => False) := by
  refine Met.ofW (cc := cX6_orders) (maxL := 1) (ret := (some .long)) (by decide) rfl ?_
  intro p e s m args below meth c s₁ B hml hv
  obtain ⟨rfl, rfl, hP, hK⟩ := hv
  have hx := B.exec
  have hb := B.bytes
  have hr := B.returns
  have hts := atoms_spec (ws := wsX6_orders) B.pre
  have hown : s.vm.findClass RX6 = some m.cls := findClass_of_methodNamed B.named
  have hlocks := B.notSynchronized
  have iX6 : ∀ w ∈ wsX60, w ∈ wsX6_orders := by decide +kernel
  have k37 := hts (.fieldLink RX6 37 "BlockMarkerModel" "ways" "[J") (by decide +kernel)
  have hS : va_S (fun _ => False) s.heap s.heap [] := va_S.rf
  have hl := lv_entry ([.ref aF]) (n := 1) (Nat.le_of_ble_eq_true rfl)
  rw [lg_entry_eq]
  generalize (lg_sl ([.ref aF]) ++ List.replicate (1 - (lg_sl ([.ref aF])).length) Slot.unset).toArray = ls at hl ⊢
  have hl : lv_has ls 1 [(0, .ref aF)] := hl
  generalize hQQ : MQ below _ _ s 0 0 _ = QQ
  replace hQQ := hQQ.symm
  unfold fX6_orders at hf
  refine lv_aload_n hx hb dX6_orders_0 rfl (lv_at hl 0 rfl) ?_
  refine va_get (D := D) (ci := 6) (v := .ref aF_ways) (C := RX6) (T := TX6) (N := 33) hx hb hts iX6 hown hK.1 hP 0 rfl rfl 11 (by decide) k37 (fun _ h9 => h9) rfl dX6_orders_1 ?_
  refine lv_iconst (v := (0 : Int32)) hx hb dX6_orders_4 (by decide) ?_
  refine ckE hf (fun h5 hf => ?_)
  refine va_lald hx hb hK.1 hP 1 1 rfl rfl (inB_in h5) dX6_orders_5 ?_
  rw [hQQ]
  exact W.lret (v := (F_ways ((0 : Int32)).toNatClampNeg)) hx hb hr (fun t ht hW => ⟨⟨(F_ways ((0 : Int32)).toNatClampNeg), (), rfl, Option.some.inj hf, ht⟩, rF ht⟩) hS.2.2 dX6_orders_6

