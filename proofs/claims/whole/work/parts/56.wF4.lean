set_option maxHeartbeats 4000000 in
set_option maxRecDepth 100000 in
theorem tX6_takenFor (l : Launch) (D : va_G) (cI cJ cG : ClassId) (aF aF_kinds aF_vs aF_ws aF_roles aF_partner aF_lineOf aF_rank aF_behind aF_before aF_ways aF_inputOf aF_answer aF_values aF_printedRow aF_wasValues aF_wasPrinted aF_due aF_takenPlace aF_against : Nat) (Hs : Heap) (y1 : Int32) (F_lines : Int32) (F_model : Int32) (F_inputs : Int32) (F_size : Int32) (F_hints : Int32) (F_hasRun : Int32) (F_printedMany : Int32) (F_keptBits : Int32) (F_keptMany : Int32) (F_takenMany : Int32) (F_change : Int32) (F_who : Int32) (F_where : Int32) (F_h : Int64) (F_roles : (Nat → Int32)) (F_partner : (Nat → Int32)) (F_rank : (Nat → Int32)) (F_answer : (Nat → Int32)) (out : Int32) (hf : fX6_takenFor y1 F_size F_roles F_partner F_rank F_answer = some out) : Met l yX6_takenFor wsX6_takenFor ({ frames := 1, cells := 0, slots := 0, locals := 22 }) (va_Pc [.ref aF, .int y1] (rP D (tyL cI cJ cG) [(aF, .inr (6, [.int F_lines, .ref aF_kinds, .ref aF_vs, .ref aF_ws, .ref aF_roles, .ref aF_partner, .int F_model, .ref aF_lineOf, .ref aF_rank, .ref aF_behind, .ref aF_before, .ref aF_ways, .int F_inputs, .ref aF_inputOf, .int F_size, .ref aF_answer, .int F_hints, .int F_hasRun, .ref aF_values, .int F_printedMany, .ref aF_printedRow, .ref aF_wasValues, .ref aF_wasPrinted, .ref aF_due, .int F_keptBits, .int F_keptMany, .int F_takenMany, .ref aF_takenPlace, .ref aF_against, .int F_change, .int F_who, .int F_where, .long F_h])), (aF_roles, eI cI 16 F_roles), (aF_partner, eI cI 16 F_partner), (aF_rank, eI cI 16 F_rank), (aF_answer, eI cI 16 F_answer)] Hs)) (rQi out Hs) 0 0 (fun _ => False) := by
  refine Met.ofW (cc := cX6_takenFor) (maxL := 3) (ret := (some .int)) (by decide) rfl ?_
  intro p e s m args below meth c s₁ B hml hv
  obtain ⟨rfl, rfl, hP, hK⟩ := hv
  have hx := B.exec
  have hb := B.bytes
  have hr := B.returns
  have hts := atoms_spec (ws := wsX6_takenFor) B.pre
  have hown : s.vm.findClass RX6 = some m.cls := findClass_of_methodNamed B.named
  have hlocks := B.notSynchronized
  have iX6 : ∀ w ∈ wsX60, w ∈ wsX6_takenFor := by decide +kernel
  have k19 := hts (.fieldLink RX6 19 "BlockMarkerModel" "roles" "[I") (by decide +kernel)
  have k22 := hts (.fieldLink RX6 22 "BlockMarkerModel" "partner" "[I") (by decide +kernel)
  have k28 := hts (.fieldLink RX6 28 "BlockMarkerModel" "rank" "[I") (by decide +kernel)
  have k44 := hts (.fieldLink RX6 44 "BlockMarkerModel" "answer" "[I") (by decide +kernel)
  have hS : va_S (fun _ => False) s.heap s.heap [] := va_S.rf
  have hl := lv_entry ([.ref aF, .int y1]) (n := 3) (Nat.le_of_ble_eq_true rfl)
  rw [lg_entry_eq]
  generalize (lg_sl ([.ref aF, .int y1]) ++ List.replicate (3 - (lg_sl ([.ref aF, .int y1])).length) Slot.unset).toArray = ls at hl ⊢
  have hl : lv_has ls 3 [(0, .ref aF), (1, .int y1)] := hl
  generalize hQQ : MQ below _ _ s 0 0 _ = QQ
  replace hQQ := hQQ.symm
  unfold fX6_takenFor at hf
  refine lv_aload_n hx hb dX6_takenFor_0 rfl (lv_at hl 0 rfl) ?_
  refine va_get (D := D) (ci := 6) (v := .ref aF_answer) (C := RX6) (T := TX6) (N := 33) hx hb hts iX6 hown hK.1 hP 0 rfl rfl 15 (by decide) k44 (fun _ h9 => h9) rfl dX6_takenFor_1 ?_
  refine lv_iload_n hx hb dX6_takenFor_4 rfl (lv_at hl 1 rfl) ?_
  refine ckE hf (fun h5 hf => ?_)
  refine va_iald hx hb hK.1 hP 4 0 rfl rfl (inB_in h5) dX6_takenFor_5 ?_
  refine lv_istore_n (lv' := [(2, .int (F_answer (y1).toNatClampNeg)), (0, .ref aF), (1, .int y1)]) hx hb dX6_takenFor_6 rfl hl (by decide) rfl (fun ls hl => ?_)
  refine lv_aload_n hx hb dX6_takenFor_7 rfl (lv_at hl 1 rfl) ?_
  refine va_get (D := D) (ci := 6) (v := .ref aF_roles) (C := RX6) (T := TX6) (N := 33) hx hb hts iX6 hown hK.1 hP 0 rfl rfl 4 (by decide) k19 (fun _ h9 => h9) rfl dX6_takenFor_8 ?_
  refine lv_iload_n hx hb dX6_takenFor_11 rfl (lv_at hl 0 rfl) ?_
  refine ckE hf (fun h12 hf => ?_)
  refine va_iald hx hb hK.1 hP 1 0 rfl rfl (inB_in h12) dX6_takenFor_12 ?_
  refine lv_if_ne (tgt := 23) hx hb dX6_takenFor_13 (by decide) (fun c13 => ?_) (fun c13 => ?_)
  · have hf := ifn hf c13
    refine lv_aload_n hx hb dX6_takenFor_23 rfl (lv_at hl 1 rfl) ?_
    refine va_get (D := D) (ci := 6) (v := .ref aF_roles) (C := RX6) (T := TX6) (N := 33) hx hb hts iX6 hown hK.1 hP 0 rfl rfl 4 (by decide) k19 (fun _ h9 => h9) rfl dX6_takenFor_24 ?_
    refine lv_iload_n hx hb dX6_takenFor_27 rfl (lv_at hl 0 rfl) ?_
    refine ckE hf (fun h28 hf => ?_)
    refine va_iald hx hb hK.1 hP 1 0 rfl rfl (inB_in h28) dX6_takenFor_28 ?_
    refine lv_iconst (v := (2 : Int32)) hx hb dX6_takenFor_29 (by decide) ?_
    refine lv_icmp_ne (tgt := 61) hx hb dX6_takenFor_30 (by decide) (fun c30 => ?_) (fun c30 => ?_)
    · have hf := ifn hf c30
      refine lv_iconst (v := (-1 : Int32)) hx hb dX6_takenFor_61 (by decide) ?_
      rw [hQQ]
      exact W.iret (v := (-1 : Int32)) hx hb hr (fun t ht hW => ⟨⟨(-1 : Int32), (), rfl, Option.some.inj hf, ht⟩, rF ht⟩) hS.2.2 dX6_takenFor_62
    · have hf := ifp hf c30
      refine lv_aload_n hx hb dX6_takenFor_33 rfl (lv_at hl 1 rfl) ?_
      refine lv_aload_n hx hb dX6_takenFor_34 rfl (lv_at hl 1 rfl) ?_
      refine va_get (D := D) (ci := 6) (v := .ref aF_partner) (C := RX6) (T := TX6) (N := 33) hx hb hts iX6 hown hK.1 hP 0 rfl rfl 5 (by decide) k22 (fun _ h9 => h9) rfl dX6_takenFor_35 ?_
      refine lv_iload_n hx hb dX6_takenFor_38 rfl (lv_at hl 0 rfl) ?_
      refine ckE hf (fun h39 hf => ?_)
      refine va_iald hx hb hK.1 hP 2 0 rfl rfl (inB_in h39) dX6_takenFor_39 ?_
      refine bnd hf (fun o40 e40 hf => ?_)
      refine rdVi (As := [.int (F_partner ((F_answer (y1).toNatClampNeg)).toNatClampNeg)]) (rest := []) ⟨hx, hb, hml, hown, hts⟩ (tX6_placeOf l D cI cJ cG aF aF_kinds aF_vs aF_ws aF_roles aF_partner aF_lineOf aF_rank aF_behind aF_before aF_ways aF_inputOf aF_answer aF_values aF_printedRow aF_wasValues aF_wasPrinted aF_due aF_takenPlace aF_against s.heap (F_partner ((F_answer (y1).toNatClampNeg)).toNatClampNeg) F_lines F_model F_inputs F_size F_hints F_hasRun F_printedMany F_keptBits F_keptMany F_takenMany F_change F_who F_where F_h F_answer o40 e40) (cwV 1 hts gX6_takenFor_X6_placeOf rfl rfl rfl (by decide +kernel) ⟨Nat.le_of_ble_eq_true rfl, Nat.le_of_ble_eq_true rfl⟩) (va_recv (ci := 6) (q0 := 0) hK.1 hP rfl rfl) hK (hP.sub (ws' := [(aF, .inr (6, [.int F_lines, .ref aF_kinds, .ref aF_vs, .ref aF_ws, .ref aF_roles, .ref aF_partner, .int F_model, .ref aF_lineOf, .ref aF_rank, .ref aF_behind, .ref aF_before, .ref aF_ways, .int F_inputs, .ref aF_inputOf, .int F_size, .ref aF_answer, .int F_hints, .int F_hasRun, .ref aF_values, .int F_printedMany, .ref aF_printedRow, .ref aF_wasValues, .ref aF_wasPrinted, .ref aF_due, .int F_keptBits, .int F_keptMany, .int F_takenMany, .ref aF_takenPlace, .ref aF_against, .int F_change, .int F_who, .int F_where, .long F_h])), (aF_answer, eI cI 16 F_answer)]) [0, 4] rfl) rfl hl.1 rfl (lv_room (Nat.le_of_ble_eq_true rfl)) dX6_takenFor_40 ⟨Nat.le_of_ble_eq_true rfl, Nat.le_of_ble_eq_true rfl⟩ hS (fun locs hS => ?_)
      refine lv_iconst (v := (-1 : Int32)) hx hb dX6_takenFor_43 (by decide) ?_
      refine lv_icmp_ne (tgt := 61) hx hb dX6_takenFor_44 (by decide) (fun c44 => ?_) (fun c44 => ?_)
      · have hf := ifn hf c44
        refine lv_iconst (v := (-1 : Int32)) hx hb dX6_takenFor_61 (by decide) ?_
        rw [hQQ]
        exact W.iret (v := (-1 : Int32)) hx hb hr (fun t ht hW => ⟨⟨(-1 : Int32), (), rfl, Option.some.inj hf, ht⟩, rF ht⟩) hS.2.2 dX6_takenFor_62
      · have hf := ifp hf c44
        refine lv_aload_n hx hb dX6_takenFor_47 rfl (lv_at hl 1 rfl) ?_
        refine va_get (D := D) (ci := 6) (v := .ref aF_rank) (C := RX6) (T := TX6) (N := 33) hx hb hts iX6 hown hK.1 hP 0 rfl rfl 8 (by decide) k28 (fun _ h9 => h9) rfl dX6_takenFor_48 ?_
        refine lv_aload_n hx hb dX6_takenFor_51 rfl (lv_at hl 1 rfl) ?_
        refine va_get (D := D) (ci := 6) (v := .ref aF_partner) (C := RX6) (T := TX6) (N := 33) hx hb hts iX6 hown hK.1 hP 0 rfl rfl 5 (by decide) k22 (fun _ h9 => h9) rfl dX6_takenFor_52 ?_
        refine lv_iload_n hx hb dX6_takenFor_55 rfl (lv_at hl 0 rfl) ?_
        refine ckE hf (fun h56 hf => ?_)
        refine va_iald hx hb hK.1 hP 2 0 rfl rfl (inB_in h56) dX6_takenFor_56 ?_
        refine ckE hf (fun h57 hf => ?_)
        refine va_iald hx hb hK.1 hP 3 0 rfl rfl (inB_in h57) dX6_takenFor_57 ?_
        refine lv_goto (tgt := 62) hx hb dX6_takenFor_58 (by decide) ?_
        rw [hQQ]
        exact W.iret (v := (F_rank ((F_partner ((F_answer (y1).toNatClampNeg)).toNatClampNeg)).toNatClampNeg)) hx hb hr (fun t ht hW => ⟨⟨(F_rank ((F_partner ((F_answer (y1).toNatClampNeg)).toNatClampNeg)).toNatClampNeg), (), rfl, Option.some.inj hf, ht⟩, rF ht⟩) hS.2.2 dX6_takenFor_62
  · have hf := ifp hf c13
    refine lv_aload_n hx hb dX6_takenFor_16 rfl (lv_at hl 1 rfl) ?_
    refine va_get (D := D) (ci := 6) (v := .ref aF_rank) (C := RX6) (T := TX6) (N := 33) hx hb hts iX6 hown hK.1 hP 0 rfl rfl 8 (by decide) k28 (fun _ h9 => h9) rfl dX6_takenFor_17 ?_
    refine lv_iload_n hx hb dX6_takenFor_20 rfl (lv_at hl 0 rfl) ?_
    refine ckE hf (fun h21 hf => ?_)
    refine va_iald hx hb hK.1 hP 3 0 rfl rfl (inB_in h21) dX6_takenFor_21 ?_
    rw [hQQ]
    exact W.iret (v := (F_rank ((F_answer (y1).toNatClampNeg)).toNatClampNeg)) hx hb hr (fun t ht hW => ⟨⟨(F_rank ((F_answer (y1).toNatClampNeg)).toNatClampNeg), (), rfl, Option.some.inj hf, ht⟩, rF ht⟩) hS.2.2 dX6_takenFor_22

set_option maxHeartbeats 4000000 in
set_option maxRecDepth 100000 in
theorem tX6_ones (l : Launch) (D : va_G) (cI cJ cG : ClassId)  (Hs : Heap) (y0 : Int32)  (out : Int32) (hf : fX6_ones y0 = some out) : Met l yX6_ones wsX6_ones ({ frames := 0, cells := 0, slots := 0, locals := 0 }) (va_Pc [.int y0] (rP D (tyL cI cJ cG) [] Hs)) (rQi out Hs) 0 0 (fun _ => False) := by
  refine Met.ofW (cc := cX6_ones) (maxL := 3) (ret := (some .int)) (by decide) rfl ?_
  intro p e s m args below meth c s₁ B hml hv
  obtain ⟨rfl, rfl, hP, hK⟩ := hv
  have hx := B.exec
  have hb := B.bytes
  have hr := B.returns
  have hts := atoms_spec (ws := wsX6_ones) B.pre
  have hown : s.vm.findClass RX6 = some m.cls := findClass_of_methodNamed B.named
  have hlocks := B.notSynchronized
  have hS : va_S (fun _ => False) s.heap s.heap [] := va_S.rf
  have hl := lv_entry ([.int y0]) (n := 3) (Nat.le_of_ble_eq_true rfl)
  rw [lg_entry_eq]
  generalize (lg_sl ([.int y0]) ++ List.replicate (3 - (lg_sl ([.int y0])).length) Slot.unset).toArray = ls at hl ⊢
  have hl : lv_has ls 3 [(0, .int y0)] := hl
  generalize hQQ : MQ below _ _ s 0 0 _ = QQ
  replace hQQ := hQQ.symm
  have b_4 : ∀ (n : Nat), ∀ (x1 : Int32) (x2 : Int32), fX6_ones_h4  n x1 x2 = some out → ∀ (locs : List Loc) (ls : Array Slot), va_S (fun _ => False) s.heap s.heap locs → lv_has ls 3 [(1, .int x1), (2, .int x2)] → W p l e (headSpec wsX6_ones { frames := 0, cells := 0, slots := 0, locals := 0 }).room s m ([.int y0] : List Value).toArray below meth c s.heap locs 0 0 QQ (F0 m 4 ls []) := by
    intro  n
    induction n with
    | zero => intro x1 x2 hf; exact nomatch (show (none : Option (Int32)) = some out from hf)
    | succ n ih =>
      intro x1 x2 hf locs ls hS hl
      replace hf : uX6_ones_h4  (fX6_ones_h4  n) x1 x2 = some out := hf
      unfold uX6_ones_h4 at hf
      refine lv_iload_n hx hb dX6_ones_4 rfl (lv_at hl 1 rfl) ?_
      refine lv_if_eq (tgt := 20) hx hb dX6_ones_5 (by decide) (fun c5 => ?_) (fun c5 => ?_)
      · have hf := ifp hf c5
        refine lv_iload_n hx hb dX6_ones_20 rfl (lv_at hl 0 rfl) ?_
        rw [hQQ]
        exact W.iret (v := x1) hx hb hr (fun t ht hW => ⟨⟨x1, (), rfl, Option.some.inj hf, ht⟩, rF ht⟩) hS.2.2 dX6_ones_21
      · have hf := ifn hf c5
        refine lv_iinc (v := (x1 + (1 : Int32))) (lv' := [(1, .int (x1 + (1 : Int32))), (2, .int x2)]) hx hb dX6_ones_8 hl (k := 0) rfl rfl (by decide) rfl (fun ls hl => ?_)
        refine lv_iload_n hx hb dX6_ones_11 rfl (lv_at hl 1 rfl) ?_
        refine lv_iload_n hx hb dX6_ones_12 rfl (lv_at hl 1 rfl) ?_
        refine lv_iconst (v := (1 : Int32)) hx hb dX6_ones_13 (by decide) ?_
        refine lv_isub hx hb dX6_ones_14 ?_
        refine lv_iand hx hb dX6_ones_15 ?_
        refine lv_istore_n (lv' := [(2, .int (x2 &&& (x2 - (1 : Int32)))), (1, .int (x1 + (1 : Int32)))]) hx hb dX6_ones_16 rfl hl (by decide) rfl (fun ls hl => ?_)
        refine lv_goto (tgt := 4) hx hb dX6_ones_17 (by decide) ?_
        exact ih (x1 + (1 : Int32)) (x2 &&& (x2 - (1 : Int32))) hf _ _ hS (lv_sub hl [1, 0] rfl)
  unfold fX6_ones at hf
  refine lv_iconst (v := (0 : Int32)) hx hb dX6_ones_0 (by decide) ?_
  refine lv_istore_n (lv' := [(1, .int (0 : Int32)), (0, .int y0)]) hx hb dX6_ones_1 rfl hl (by decide) rfl (fun ls hl => ?_)
  refine lv_iload_n hx hb dX6_ones_2 rfl (lv_at hl 1 rfl) ?_
  refine lv_istore_n (lv' := [(2, .int y0), (1, .int (0 : Int32)), (0, .int y0)]) hx hb dX6_ones_3 rfl hl (by decide) rfl (fun ls hl => ?_)
  exact b_4 FU (0 : Int32) y0 hf _ _ hS (lv_sub hl [1, 0] rfl)

set_option maxHeartbeats 4000000 in
set_option maxRecDepth 100000 in
theorem tX6_choose (l : Launch) (D : va_G) (cI cJ cG : ClassId) (aF aF_kinds aF_vs aF_ws aF_roles aF_partner aF_lineOf aF_rank aF_behind aF_before aF_ways aF_inputOf aF_answer aF_values aF_printedRow aF_wasValues aF_wasPrinted aF_due aF_takenPlace aF_against : Nat) (sz : Nat)  (F_lines : Int32) (F_model : Int32) (F_inputs : Int32) (F_size : Int32) (F_hints : Int32) (F_hasRun : Int32) (F_printedMany : Int32) (F_keptBits : Int32) (F_keptMany : Int32) (F_takenMany : Int32) (F_change : Int32) (F_who : Int32) (F_where : Int32) (F_h : Int64) (F_roles : (Nat → Int32)) (F_partner : (Nat → Int32)) (F_rank : (Nat → Int32)) (F_behind : (Nat → Int32)) (F_answer : (Nat → Int32)) (F_takenPlace : (Nat → Int32)) (F_against : (Nat → Int32)) (out : Int32 × Int32 × Int32 × (Nat → Int32) × (Nat → Int32)) (hf : fX6_choose F_size F_keptBits F_keptMany F_takenMany F_roles F_partner F_rank F_behind F_answer F_takenPlace F_against = some out) : Met l yX6_choose wsX6_choose ({ frames := 2, cells := 0, slots := 0, locals := 44 }) (va_Pc [.ref aF] (wP D (tyL cI cJ cG) [(aF, .inr (6, [.int F_lines, .ref aF_kinds, .ref aF_vs, .ref aF_ws, .ref aF_roles, .ref aF_partner, .int F_model, .ref aF_lineOf, .ref aF_rank, .ref aF_behind, .ref aF_before, .ref aF_ways, .int F_inputs, .ref aF_inputOf, .int F_size, .ref aF_answer, .int F_hints, .int F_hasRun, .ref aF_values, .int F_printedMany, .ref aF_printedRow, .ref aF_wasValues, .ref aF_wasPrinted, .ref aF_due, .int F_keptBits, .int F_keptMany, .int F_takenMany, .ref aF_takenPlace, .ref aF_against, .int F_change, .int F_who, .int F_where, .long F_h])), (aF_roles, eI cI 16 F_roles), (aF_partner, eI cI 16 F_partner), (aF_rank, eI cI 16 F_rank), (aF_behind, eI cI 12 F_behind), (aF_answer, eI cI 16 F_answer), (aF_takenPlace, eI cI 16 F_takenPlace), (aF_against, eI cI 16 F_against)] sz)) (wQv D  [(aF, .inr (6, [.int F_lines, .ref aF_kinds, .ref aF_vs, .ref aF_ws, .ref aF_roles, .ref aF_partner, .int F_model, .ref aF_lineOf, .ref aF_rank, .ref aF_behind, .ref aF_before, .ref aF_ways, .int F_inputs, .ref aF_inputOf, .int F_size, .ref aF_answer, .int F_hints, .int F_hasRun, .ref aF_values, .int F_printedMany, .ref aF_printedRow, .ref aF_wasValues, .ref aF_wasPrinted, .ref aF_due, .int F_keptBits, .int F_keptMany, .int F_takenMany, .ref aF_takenPlace, .ref aF_against, .int F_change, .int F_who, .int F_where, .long F_h])), (aF_roles, eI cI 16 F_roles), (aF_partner, eI cI 16 F_partner), (aF_rank, eI cI 16 F_rank), (aF_behind, eI cI 12 F_behind), (aF_answer, eI cI 16 F_answer), (aF_takenPlace, eI cI 16 F_takenPlace), (aF_against, eI cI 16 F_against)] [(aF, .inr (6, [.int F_lines, .ref aF_kinds, .ref aF_vs, .ref aF_ws, .ref aF_roles, .ref aF_partner, .int F_model, .ref aF_lineOf, .ref aF_rank, .ref aF_behind, .ref aF_before, .ref aF_ways, .int F_inputs, .ref aF_inputOf, .int F_size, .ref aF_answer, .int F_hints, .int F_hasRun, .ref aF_values, .int F_printedMany, .ref aF_printedRow, .ref aF_wasValues, .ref aF_wasPrinted, .ref aF_due, .int out.1, .int out.2.1, .int out.2.2.1, .ref aF_takenPlace, .ref aF_against, .int F_change, .int F_who, .int F_where, .long F_h])), (aF_roles, eI cI 16 F_roles), (aF_partner, eI cI 16 F_partner), (aF_rank, eI cI 16 F_rank), (aF_behind, eI cI 12 F_behind), (aF_answer, eI cI 16 F_answer), (aF_takenPlace, eI cI 16 out.2.2.2.1), (aF_against, eI cI 16 out.2.2.2.2)] sz) 0 0 (va_A [(aF, .inr (6, [.int F_lines, .ref aF_kinds, .ref aF_vs, .ref aF_ws, .ref aF_roles, .ref aF_partner, .int F_model, .ref aF_lineOf, .ref aF_rank, .ref aF_behind, .ref aF_before, .ref aF_ways, .int F_inputs, .ref aF_inputOf, .int F_size, .ref aF_answer, .int F_hints, .int F_hasRun, .ref aF_values, .int F_printedMany, .ref aF_printedRow, .ref aF_wasValues, .ref aF_wasPrinted, .ref aF_due, .int F_keptBits, .int F_keptMany, .int F_takenMany, .ref aF_takenPlace, .ref aF_against, .int F_change, .int F_who, .int F_where, .long F_h])), (aF_roles, eI cI 16 F_roles), (aF_partner, eI cI 16 F_partner), (aF_rank, eI cI 16 F_rank), (aF_behind, eI cI 12 F_behind), (aF_answer, eI cI 16 F_answer), (aF_takenPlace, eI cI 16 F_takenPlace), (aF_against, eI cI 16 F_against)] sz) := by
  refine Met.ofW (cc := cX6_choose) (maxL := 7) (ret := none) (by decide) rfl ?_
  intro p e s m args below meth c s₁ B hml hv
  obtain ⟨rfl, hsz, hP, hK, hD0⟩ := hv
  have hx := B.exec
  have hb := B.bytes
  have hr := B.returns
  have hts := atoms_spec (ws := wsX6_choose) B.pre
  have hown : s.vm.findClass RX6 = some m.cls := findClass_of_methodNamed B.named
  have hlocks := B.notSynchronized
  have iX6 : ∀ w ∈ wsX60, w ∈ wsX6_choose := by decide +kernel
  have k31 := hts (.fieldLink RX6 31 "BlockMarkerModel" "behind" "[I") (by decide +kernel)
  have k62 := hts (.fieldLink RX6 62 "BlockMarkerModel" "takenPlace" "[I") (by decide +kernel)
  have k65 := hts (.fieldLink RX6 65 "BlockMarkerModel" "against" "[I") (by decide +kernel)
  have k79 := hts (.fieldLink RX6 79 "BlockMarkerModel" "size" "I") (by decide +kernel)
  have k142 := hts (.fieldLink RX6 142 "BlockMarkerModel" "takenMany" "I") (by decide +kernel)
  have k151 := hts (.fieldLink RX6 151 "BlockMarkerModel" "keptMany" "I") (by decide +kernel)
  have k154 := hts (.fieldLink RX6 154 "BlockMarkerModel" "keptBits" "I") (by decide +kernel)
  subst hsz
  have hD := hD0.self (sz := s.heap.size)
  generalize hAe : va_A [(aF, .inr (6, [.int F_lines, .ref aF_kinds, .ref aF_vs, .ref aF_ws, .ref aF_roles, .ref aF_partner, .int F_model, .ref aF_lineOf, .ref aF_rank, .ref aF_behind, .ref aF_before, .ref aF_ways, .int F_inputs, .ref aF_inputOf, .int F_size, .ref aF_answer, .int F_hints, .int F_hasRun, .ref aF_values, .int F_printedMany, .ref aF_printedRow, .ref aF_wasValues, .ref aF_wasPrinted, .ref aF_due, .int F_keptBits, .int F_keptMany, .int F_takenMany, .ref aF_takenPlace, .ref aF_against, .int F_change, .int F_who, .int F_where, .long F_h])), (aF_roles, eI cI 16 F_roles), (aF_partner, eI cI 16 F_partner), (aF_rank, eI cI 16 F_rank), (aF_behind, eI cI 12 F_behind), (aF_answer, eI cI 16 F_answer), (aF_takenPlace, eI cI 16 F_takenPlace), (aF_against, eI cI 16 F_against)] s.heap.size = A at hD ⊢
  have hA : ∀ q : Nat, s.heap.size ≤ q → A q := fun q h => by rw [← hAe]; exact Or.inr h
  have hS : va_S A s.heap s.heap [] := va_S.rf
  have hl := lv_entry ([.ref aF]) (n := 7) (Nat.le_of_ble_eq_true rfl)
  rw [lg_entry_eq]
  generalize (lg_sl ([.ref aF]) ++ List.replicate (7 - (lg_sl ([.ref aF])).length) Slot.unset).toArray = ls at hl ⊢
  have hl : lv_has ls 7 [(0, .ref aF)] := hl
  generalize hQQ : MQ below _ _ s 0 0 _ = QQ
  replace hQQ := hQQ.symm
  have b_270 : ∀ (n : Nat), ∀ (x1 : Int32) (x3 : Int32) (F_keptBits : Int32) (F_keptMany : Int32) (F_takenMany : Int32) (F_takenPlace : (Nat → Int32)) (F_against : (Nat → Int32)), fX6_choose_h270  n x1 x3 F_size F_keptBits F_keptMany F_takenMany F_roles F_partner F_rank F_behind F_answer F_takenPlace F_against = some out → ∀ (H : Heap) (locs : List Loc) (ls : Array Slot), va_P D vwCl [(aF, .inr (6, [.int F_lines, .ref aF_kinds, .ref aF_vs, .ref aF_ws, .ref aF_roles, .ref aF_partner, .int F_model, .ref aF_lineOf, .ref aF_rank, .ref aF_behind, .ref aF_before, .ref aF_ways, .int F_inputs, .ref aF_inputOf, .int F_size, .ref aF_answer, .int F_hints, .int F_hasRun, .ref aF_values, .int F_printedMany, .ref aF_printedRow, .ref aF_wasValues, .ref aF_wasPrinted, .ref aF_due, .int F_keptBits, .int F_keptMany, .int F_takenMany, .ref aF_takenPlace, .ref aF_against, .int F_change, .int F_who, .int F_where, .long F_h])), (aF_roles, eI cI 16 F_roles), (aF_partner, eI cI 16 F_partner), (aF_rank, eI cI 16 F_rank), (aF_behind, eI cI 12 F_behind), (aF_answer, eI cI 16 F_answer), (aF_takenPlace, eI cI 16 F_takenPlace), (aF_against, eI cI 16 F_against)] H → va_D A [(aF, .inr (6, [.int F_lines, .ref aF_kinds, .ref aF_vs, .ref aF_ws, .ref aF_roles, .ref aF_partner, .int F_model, .ref aF_lineOf, .ref aF_rank, .ref aF_behind, .ref aF_before, .ref aF_ways, .int F_inputs, .ref aF_inputOf, .int F_size, .ref aF_answer, .int F_hints, .int F_hasRun, .ref aF_values, .int F_printedMany, .ref aF_printedRow, .ref aF_wasValues, .ref aF_wasPrinted, .ref aF_due, .int F_keptBits, .int F_keptMany, .int F_takenMany, .ref aF_takenPlace, .ref aF_against, .int F_change, .int F_who, .int F_where, .long F_h])), (aF_roles, eI cI 16 F_roles), (aF_partner, eI cI 16 F_partner), (aF_rank, eI cI 16 F_rank), (aF_behind, eI cI 12 F_behind), (aF_answer, eI cI 16 F_answer), (aF_takenPlace, eI cI 16 F_takenPlace), (aF_against, eI cI 16 F_against)] → va_S A s.heap H locs → lv_has ls 7 [(0, .ref aF), (1, .int x1), (3, .int x3)] → W p l e (headSpec wsX6_choose { frames := 2, cells := 0, slots := 0, locals := 44 }).room s m ([.ref aF] : List Value).toArray below meth c H locs 0 0 QQ (F0 m 270 ls []) := by
    intro  n
    induction n with
    | zero => intro x1 x3 F_keptBits F_keptMany F_takenMany F_takenPlace F_against hf; exact nomatch (show (none : Option (Int32 × Int32 × Int32 × (Nat → Int32) × (Nat → Int32))) = some out from hf)
    | succ n ih =>
      intro x1 x3 F_keptBits F_keptMany F_takenMany F_takenPlace F_against hf H locs ls hP hD hS hl
      replace hf : uX6_choose_h270  (fX6_choose_h270  n) x1 x3 F_size F_keptBits F_keptMany F_takenMany F_roles F_partner F_rank F_behind F_answer F_takenPlace F_against = some out := hf
      unfold uX6_choose_h270 at hf
      refine lv_iload_n hx hb dX6_choose_270 rfl (lv_at hl 2 rfl) ?_
      refine lv_aload_n hx hb dX6_choose_271 rfl (lv_at hl 0 rfl) ?_
      refine va_get (D := D) (ci := 6) (v := .int F_takenMany) (C := RX6) (T := TX6) (N := 33) hx hb hts iX6 hown hK.1 hP 0 rfl rfl 26 (by decide) k142 (fun _ h9 => h9) rfl dX6_choose_272 ?_
      refine lv_icmp_ge (tgt := 321) hx hb dX6_choose_275 (by decide) (fun c275 => ?_) (fun c275 => ?_)
      · have hf := ifp hf c275
        rw [hQQ]
        exact W.vret hx hb hr (fun t ht hW => by rw [← Option.some.inj hf]; rw [← hAe] at hD hS; exact ⟨⟨(), rfl, trivial, by rw [ht]; exact hP, hD⟩, hS.F ht⟩) hS.2.2 dX6_choose_321
      · have hf := ifn hf c275
        refine lv_aload_n hx hb dX6_choose_278 rfl (lv_at hl 0 rfl) ?_
        refine lv_dup hx hb dX6_choose_279 rfl ?_
        refine va_get (D := D) (ci := 6) (v := .int F_keptBits) (C := RX6) (T := TX6) (N := 33) hx hb hts iX6 hown hK.1 hP 0 rfl rfl 24 (by decide) k154 (fun _ h9 => h9) rfl dX6_choose_280 ?_
        refine lv_iload_n hx hb dX6_choose_283 rfl (lv_at hl 1 rfl) ?_
        refine lv_aload_n hx hb dX6_choose_284 rfl (lv_at hl 0 rfl) ?_
        refine va_get (D := D) (ci := 6) (v := .int F_takenMany) (C := RX6) (T := TX6) (N := 33) hx hb hts iX6 hown hK.1 hP 0 rfl rfl 26 (by decide) k142 (fun _ h9 => h9) rfl dX6_choose_285 ?_
        refine lv_iconst (v := (1 : Int32)) hx hb dX6_choose_288 (by decide) ?_
        refine lv_isub hx hb dX6_choose_289 ?_
        refine lv_iload_n hx hb dX6_choose_290 rfl (lv_at hl 2 rfl) ?_
        refine lv_isub hx hb dX6_choose_291 ?_
        refine lv_ishr hx hb dX6_choose_292 ?_
        refine lv_iconst (v := (1 : Int32)) hx hb dX6_choose_293 (by decide) ?_
        refine lv_iand hx hb dX6_choose_294 ?_
        refine lv_iconst (v := (1 : Int32)) hx hb dX6_choose_295 (by decide) ?_
        refine lv_icmp_ne (tgt := 310) hx hb dX6_choose_296 (by decide) (fun c296 => ?_) (fun c296 => ?_)
        · have hf := ifn hf c296
          refine lv_iconst (v := (0 : Int32)) hx hb dX6_choose_310 (by decide) ?_
          refine lv_ior hx hb dX6_choose_311 ?_
          refine va_put (D := D) (ci := 6) (v := .int (F_keptBits ||| (0 : Int32))) (ty := .int) (C := RX6) (T := TX6) (N := 33) hx hb hts iX6 tyX6 tyX6_ok nmX6 hown hK.1 hP hD hS 0 rfl rfl 24 (by decide) k154 (fun _ h9 => h9) rfl (by decide +kernel) rfl rfl (Nat.le_of_ble_eq_true rfl) dX6_choose_312 (fun H locs hP hD hS => ?_)
          have hP : va_P D vwCl [(aF, .inr (6, [.int F_lines, .ref aF_kinds, .ref aF_vs, .ref aF_ws, .ref aF_roles, .ref aF_partner, .int F_model, .ref aF_lineOf, .ref aF_rank, .ref aF_behind, .ref aF_before, .ref aF_ways, .int F_inputs, .ref aF_inputOf, .int F_size, .ref aF_answer, .int F_hints, .int F_hasRun, .ref aF_values, .int F_printedMany, .ref aF_printedRow, .ref aF_wasValues, .ref aF_wasPrinted, .ref aF_due, .int (F_keptBits ||| (0 : Int32)), .int F_keptMany, .int F_takenMany, .ref aF_takenPlace, .ref aF_against, .int F_change, .int F_who, .int F_where, .long F_h])), (aF_roles, eI cI 16 F_roles), (aF_partner, eI cI 16 F_partner), (aF_rank, eI cI 16 F_rank), (aF_behind, eI cI 12 F_behind), (aF_answer, eI cI 16 F_answer), (aF_takenPlace, eI cI 16 F_takenPlace), (aF_against, eI cI 16 F_against)] H := hP
          have hD : va_D A [(aF, .inr (6, [.int F_lines, .ref aF_kinds, .ref aF_vs, .ref aF_ws, .ref aF_roles, .ref aF_partner, .int F_model, .ref aF_lineOf, .ref aF_rank, .ref aF_behind, .ref aF_before, .ref aF_ways, .int F_inputs, .ref aF_inputOf, .int F_size, .ref aF_answer, .int F_hints, .int F_hasRun, .ref aF_values, .int F_printedMany, .ref aF_printedRow, .ref aF_wasValues, .ref aF_wasPrinted, .ref aF_due, .int (F_keptBits ||| (0 : Int32)), .int F_keptMany, .int F_takenMany, .ref aF_takenPlace, .ref aF_against, .int F_change, .int F_who, .int F_where, .long F_h])), (aF_roles, eI cI 16 F_roles), (aF_partner, eI cI 16 F_partner), (aF_rank, eI cI 16 F_rank), (aF_behind, eI cI 12 F_behind), (aF_answer, eI cI 16 F_answer), (aF_takenPlace, eI cI 16 F_takenPlace), (aF_against, eI cI 16 F_against)] := hD
          refine lv_iinc (v := (x3 + (1 : Int32))) (lv' := [(3, .int (x3 + (1 : Int32))), (0, .ref aF), (1, .int x1)]) hx hb dX6_choose_315 hl (k := 2) rfl rfl (by decide) rfl (fun ls hl => ?_)
          refine lv_goto (tgt := 270) hx hb dX6_choose_318 (by decide) ?_
          exact ih x1 (x3 + (1 : Int32)) (F_keptBits ||| (0 : Int32)) F_keptMany F_takenMany F_takenPlace F_against hf _ _ _ hP hD hS (lv_sub hl [1, 2, 0] rfl)
        · have hf := ifp hf c296
          refine lv_iconst (v := (1 : Int32)) hx hb dX6_choose_299 (by decide) ?_
          refine lv_aload_n hx hb dX6_choose_300 rfl (lv_at hl 0 rfl) ?_
          refine va_get (D := D) (ci := 6) (v := .ref aF_takenPlace) (C := RX6) (T := TX6) (N := 33) hx hb hts iX6 hown hK.1 hP 0 rfl rfl 27 (by decide) k62 (fun _ h9 => h9) rfl dX6_choose_301 ?_
          refine lv_iload_n hx hb dX6_choose_304 rfl (lv_at hl 2 rfl) ?_
          refine ckE hf (fun h305 hf => ?_)
          refine va_iald hx hb hK.1 hP 6 0 rfl rfl (inB_in h305) dX6_choose_305 ?_
          refine lv_ishl hx hb dX6_choose_306 ?_
          refine lv_goto (tgt := 311) hx hb dX6_choose_307 (by decide) ?_
          refine lv_ior hx hb dX6_choose_311 ?_
          refine va_put (D := D) (ci := 6) (v := .int (F_keptBits ||| ((1 : Int32) <<< ((F_takenPlace (x3).toNatClampNeg) &&& 31)))) (ty := .int) (C := RX6) (T := TX6) (N := 33) hx hb hts iX6 tyX6 tyX6_ok nmX6 hown hK.1 hP hD hS 0 rfl rfl 24 (by decide) k154 (fun _ h9 => h9) rfl (by decide +kernel) rfl rfl (Nat.le_of_ble_eq_true rfl) dX6_choose_312 (fun H locs hP hD hS => ?_)
          have hP : va_P D vwCl [(aF, .inr (6, [.int F_lines, .ref aF_kinds, .ref aF_vs, .ref aF_ws, .ref aF_roles, .ref aF_partner, .int F_model, .ref aF_lineOf, .ref aF_rank, .ref aF_behind, .ref aF_before, .ref aF_ways, .int F_inputs, .ref aF_inputOf, .int F_size, .ref aF_answer, .int F_hints, .int F_hasRun, .ref aF_values, .int F_printedMany, .ref aF_printedRow, .ref aF_wasValues, .ref aF_wasPrinted, .ref aF_due, .int (F_keptBits ||| ((1 : Int32) <<< ((F_takenPlace (x3).toNatClampNeg) &&& 31))), .int F_keptMany, .int F_takenMany, .ref aF_takenPlace, .ref aF_against, .int F_change, .int F_who, .int F_where, .long F_h])), (aF_roles, eI cI 16 F_roles), (aF_partner, eI cI 16 F_partner), (aF_rank, eI cI 16 F_rank), (aF_behind, eI cI 12 F_behind), (aF_answer, eI cI 16 F_answer), (aF_takenPlace, eI cI 16 F_takenPlace), (aF_against, eI cI 16 F_against)] H := hP
          have hD : va_D A [(aF, .inr (6, [.int F_lines, .ref aF_kinds, .ref aF_vs, .ref aF_ws, .ref aF_roles, .ref aF_partner, .int F_model, .ref aF_lineOf, .ref aF_rank, .ref aF_behind, .ref aF_before, .ref aF_ways, .int F_inputs, .ref aF_inputOf, .int F_size, .ref aF_answer, .int F_hints, .int F_hasRun, .ref aF_values, .int F_printedMany, .ref aF_printedRow, .ref aF_wasValues, .ref aF_wasPrinted, .ref aF_due, .int (F_keptBits ||| ((1 : Int32) <<< ((F_takenPlace (x3).toNatClampNeg) &&& 31))), .int F_keptMany, .int F_takenMany, .ref aF_takenPlace, .ref aF_against, .int F_change, .int F_who, .int F_where, .long F_h])), (aF_roles, eI cI 16 F_roles), (aF_partner, eI cI 16 F_partner), (aF_rank, eI cI 16 F_rank), (aF_behind, eI cI 12 F_behind), (aF_answer, eI cI 16 F_answer), (aF_takenPlace, eI cI 16 F_takenPlace), (aF_against, eI cI 16 F_against)] := hD
          refine lv_iinc (v := (x3 + (1 : Int32))) (lv' := [(3, .int (x3 + (1 : Int32))), (0, .ref aF), (1, .int x1)]) hx hb dX6_choose_315 hl (k := 2) rfl rfl (by decide) rfl (fun ls hl => ?_)
          refine lv_goto (tgt := 270) hx hb dX6_choose_318 (by decide) ?_
          exact ih x1 (x3 + (1 : Int32)) (F_keptBits ||| ((1 : Int32) <<< ((F_takenPlace (x3).toNatClampNeg) &&& 31))) F_keptMany F_takenMany F_takenPlace F_against hf _ _ _ hP hD hS (lv_sub hl [1, 2, 0] rfl)
  have b_187 : ∀ (k165 : Int32 → Int32 → Int32 → Int32 → Int32 → Int32 → Int32 → (Nat → Int32) → (Nat → Int32) → (Nat → Int32) → (Nat → Int32) → (Nat → Int32) → (Nat → Int32) → (Nat → Int32) → Option (Int32 × Int32 × Int32 × (Nat → Int32) × (Nat → Int32))) (hk165 : ∀ (x1 : Int32) (x2 : Int32) (x3 : Int32) (F_keptBits : Int32) (F_keptMany : Int32) (F_takenMany : Int32) (F_takenPlace : (Nat → Int32)) (F_against : (Nat → Int32)), k165 x1 x2 x3 F_size F_keptBits F_keptMany F_takenMany F_roles F_partner F_rank F_behind F_answer F_takenPlace F_against = some out → ∀ (H : Heap) (locs : List Loc) (ls : Array Slot), va_P D vwCl [(aF, .inr (6, [.int F_lines, .ref aF_kinds, .ref aF_vs, .ref aF_ws, .ref aF_roles, .ref aF_partner, .int F_model, .ref aF_lineOf, .ref aF_rank, .ref aF_behind, .ref aF_before, .ref aF_ways, .int F_inputs, .ref aF_inputOf, .int F_size, .ref aF_answer, .int F_hints, .int F_hasRun, .ref aF_values, .int F_printedMany, .ref aF_printedRow, .ref aF_wasValues, .ref aF_wasPrinted, .ref aF_due, .int F_keptBits, .int F_keptMany, .int F_takenMany, .ref aF_takenPlace, .ref aF_against, .int F_change, .int F_who, .int F_where, .long F_h])), (aF_roles, eI cI 16 F_roles), (aF_partner, eI cI 16 F_partner), (aF_rank, eI cI 16 F_rank), (aF_behind, eI cI 12 F_behind), (aF_answer, eI cI 16 F_answer), (aF_takenPlace, eI cI 16 F_takenPlace), (aF_against, eI cI 16 F_against)] H → va_D A [(aF, .inr (6, [.int F_lines, .ref aF_kinds, .ref aF_vs, .ref aF_ws, .ref aF_roles, .ref aF_partner, .int F_model, .ref aF_lineOf, .ref aF_rank, .ref aF_behind, .ref aF_before, .ref aF_ways, .int F_inputs, .ref aF_inputOf, .int F_size, .ref aF_answer, .int F_hints, .int F_hasRun, .ref aF_values, .int F_printedMany, .ref aF_printedRow, .ref aF_wasValues, .ref aF_wasPrinted, .ref aF_due, .int F_keptBits, .int F_keptMany, .int F_takenMany, .ref aF_takenPlace, .ref aF_against, .int F_change, .int F_who, .int F_where, .long F_h])), (aF_roles, eI cI 16 F_roles), (aF_partner, eI cI 16 F_partner), (aF_rank, eI cI 16 F_rank), (aF_behind, eI cI 12 F_behind), (aF_answer, eI cI 16 F_answer), (aF_takenPlace, eI cI 16 F_takenPlace), (aF_against, eI cI 16 F_against)] → va_S A s.heap H locs → lv_has ls 7 [(0, .ref aF), (1, .int x1), (2, .int x2), (3, .int x3)] → W p l e (headSpec wsX6_choose { frames := 2, cells := 0, slots := 0, locals := 44 }).room s m ([.ref aF] : List Value).toArray below meth c H locs 0 0 QQ (F0 m 165 ls [])) (n : Nat), ∀ (x1 : Int32) (x2 : Int32) (x3 : Int32) (x4 : Int32) (x5 : Int32) (x6 : Int32) (F_keptBits : Int32) (F_keptMany : Int32) (F_takenMany : Int32) (F_takenPlace : (Nat → Int32)) (F_against : (Nat → Int32)), fX6_choose_h187 k165 n x1 x2 x3 x4 x5 x6 F_size F_keptBits F_keptMany F_takenMany F_roles F_partner F_rank F_behind F_answer F_takenPlace F_against = some out → ∀ (H : Heap) (locs : List Loc) (ls : Array Slot), va_P D vwCl [(aF, .inr (6, [.int F_lines, .ref aF_kinds, .ref aF_vs, .ref aF_ws, .ref aF_roles, .ref aF_partner, .int F_model, .ref aF_lineOf, .ref aF_rank, .ref aF_behind, .ref aF_before, .ref aF_ways, .int F_inputs, .ref aF_inputOf, .int F_size, .ref aF_answer, .int F_hints, .int F_hasRun, .ref aF_values, .int F_printedMany, .ref aF_printedRow, .ref aF_wasValues, .ref aF_wasPrinted, .ref aF_due, .int F_keptBits, .int F_keptMany, .int F_takenMany, .ref aF_takenPlace, .ref aF_against, .int F_change, .int F_who, .int F_where, .long F_h])), (aF_roles, eI cI 16 F_roles), (aF_partner, eI cI 16 F_partner), (aF_rank, eI cI 16 F_rank), (aF_behind, eI cI 12 F_behind), (aF_answer, eI cI 16 F_answer), (aF_takenPlace, eI cI 16 F_takenPlace), (aF_against, eI cI 16 F_against)] H → va_D A [(aF, .inr (6, [.int F_lines, .ref aF_kinds, .ref aF_vs, .ref aF_ws, .ref aF_roles, .ref aF_partner, .int F_model, .ref aF_lineOf, .ref aF_rank, .ref aF_behind, .ref aF_before, .ref aF_ways, .int F_inputs, .ref aF_inputOf, .int F_size, .ref aF_answer, .int F_hints, .int F_hasRun, .ref aF_values, .int F_printedMany, .ref aF_printedRow, .ref aF_wasValues, .ref aF_wasPrinted, .ref aF_due, .int F_keptBits, .int F_keptMany, .int F_takenMany, .ref aF_takenPlace, .ref aF_against, .int F_change, .int F_who, .int F_where, .long F_h])), (aF_roles, eI cI 16 F_roles), (aF_partner, eI cI 16 F_partner), (aF_rank, eI cI 16 F_rank), (aF_behind, eI cI 12 F_behind), (aF_answer, eI cI 16 F_answer), (aF_takenPlace, eI cI 16 F_takenPlace), (aF_against, eI cI 16 F_against)] → va_S A s.heap H locs → lv_has ls 7 [(0, .ref aF), (1, .int x1), (2, .int x2), (3, .int x3), (4, .int x4), (5, .int x5), (6, .int x6)] → W p l e (headSpec wsX6_choose { frames := 2, cells := 0, slots := 0, locals := 44 }).room s m ([.ref aF] : List Value).toArray below meth c H locs 0 0 QQ (F0 m 187 ls []) := by
    intro k165 hk165 n
    induction n with
    | zero => intro x1 x2 x3 x4 x5 x6 F_keptBits F_keptMany F_takenMany F_takenPlace F_against hf; exact nomatch (show (none : Option (Int32 × Int32 × Int32 × (Nat → Int32) × (Nat → Int32))) = some out from hf)
    | succ n ih =>
      intro x1 x2 x3 x4 x5 x6 F_keptBits F_keptMany F_takenMany F_takenPlace F_against hf H locs ls hP hD hS hl
      replace hf : uX6_choose_h187 k165 (fX6_choose_h187 k165 n) x1 x2 x3 x4 x5 x6 F_size F_keptBits F_keptMany F_takenMany F_roles F_partner F_rank F_behind F_answer F_takenPlace F_against = some out := hf
      unfold uX6_choose_h187 at hf
      refine lv_iload hx hb dX6_choose_187 (lv_at hl 6 rfl) ?_
      refine lv_aload_n hx hb dX6_choose_189 rfl (lv_at hl 0 rfl) ?_
      refine va_get (D := D) (ci := 6) (v := .int F_takenMany) (C := RX6) (T := TX6) (N := 33) hx hb hts iX6 hown hK.1 hP 0 rfl rfl 26 (by decide) k142 (fun _ h9 => h9) rfl dX6_choose_190 ?_
      refine lv_icmp_ge (tgt := 242) hx hb dX6_choose_193 (by decide) (fun c193 => ?_) (fun c193 => ?_)
      · have hf := ifp hf c193
        refine lv_iload hx hb dX6_choose_242 (lv_at hl 5 rfl) ?_
        refine lv_if_eq (tgt := 252) hx hb dX6_choose_244 (by decide) (fun c244 => ?_) (fun c244 => ?_)
        · have hf := ifp hf c244
          refine lv_iinc (v := (x3 + (-1 : Int32))) (lv' := [(3, .int (x3 + (-1 : Int32))), (0, .ref aF), (1, .int x1), (2, .int x2), (4, .int x4), (5, .int x5), (6, .int x6)]) hx hb dX6_choose_252 hl (k := 3) rfl rfl (by decide) rfl (fun ls hl => ?_)
          refine lv_goto (tgt := 165) hx hb dX6_choose_255 (by decide) ?_
          exact hk165 x1 x2 (x3 + (-1 : Int32)) F_keptBits F_keptMany F_takenMany F_takenPlace F_against hf _ _ _ hP hD hS (lv_sub hl [1, 2, 3, 0] rfl)
        · have hf := ifn hf c244
          refine lv_iload_n hx hb dX6_choose_247 rfl (lv_at hl 3 rfl) ?_
          refine lv_istore_n (lv' := [(1, .int x3), (0, .ref aF), (2, .int x2), (3, .int x3), (4, .int x4), (5, .int x5), (6, .int x6)]) hx hb dX6_choose_248 rfl hl (by decide) rfl (fun ls hl => ?_)
          refine lv_iload hx hb dX6_choose_249 (lv_at hl 4 rfl) ?_
          refine lv_istore_n (lv' := [(2, .int x4), (1, .int x3), (0, .ref aF), (3, .int x3), (4, .int x4), (5, .int x5), (6, .int x6)]) hx hb dX6_choose_251 rfl hl (by decide) rfl (fun ls hl => ?_)
          refine lv_iinc (v := (x3 + (-1 : Int32))) (lv' := [(3, .int (x3 + (-1 : Int32))), (2, .int x4), (1, .int x3), (0, .ref aF), (4, .int x4), (5, .int x5), (6, .int x6)]) hx hb dX6_choose_252 hl (k := 3) rfl rfl (by decide) rfl (fun ls hl => ?_)
          refine lv_goto (tgt := 165) hx hb dX6_choose_255 (by decide) ?_
          exact hk165 x3 x4 (x3 + (-1 : Int32)) F_keptBits F_keptMany F_takenMany F_takenPlace F_against hf _ _ _ hP hD hS (lv_sub hl [3, 2, 1, 0] rfl)
      · have hf := ifn hf c193
        refine lv_iload hx hb dX6_choose_196 (lv_at hl 5 rfl) ?_
        refine lv_if_eq (tgt := 242) hx hb dX6_choose_198 (by decide) (fun c198 => ?_) (fun c198 => ?_)
        · have hf := ifp hf c198
          refine lv_iload hx hb dX6_choose_242 (lv_at hl 5 rfl) ?_
          refine lv_if_eq (tgt := 252) hx hb dX6_choose_244 (by decide) (fun c244 => ?_) (fun c244 => ?_)
          · have hf := ifp hf c244
            refine lv_iinc (v := (x3 + (-1 : Int32))) (lv' := [(3, .int (x3 + (-1 : Int32))), (0, .ref aF), (1, .int x1), (2, .int x2), (4, .int x4), (5, .int x5), (6, .int x6)]) hx hb dX6_choose_252 hl (k := 3) rfl rfl (by decide) rfl (fun ls hl => ?_)
            refine lv_goto (tgt := 165) hx hb dX6_choose_255 (by decide) ?_
            exact hk165 x1 x2 (x3 + (-1 : Int32)) F_keptBits F_keptMany F_takenMany F_takenPlace F_against hf _ _ _ hP hD hS (lv_sub hl [1, 2, 3, 0] rfl)
          · have hf := ifn hf c244
            refine lv_iload_n hx hb dX6_choose_247 rfl (lv_at hl 3 rfl) ?_
            refine lv_istore_n (lv' := [(1, .int x3), (0, .ref aF), (2, .int x2), (3, .int x3), (4, .int x4), (5, .int x5), (6, .int x6)]) hx hb dX6_choose_248 rfl hl (by decide) rfl (fun ls hl => ?_)
            refine lv_iload hx hb dX6_choose_249 (lv_at hl 4 rfl) ?_
            refine lv_istore_n (lv' := [(2, .int x4), (1, .int x3), (0, .ref aF), (3, .int x3), (4, .int x4), (5, .int x5), (6, .int x6)]) hx hb dX6_choose_251 rfl hl (by decide) rfl (fun ls hl => ?_)
            refine lv_iinc (v := (x3 + (-1 : Int32))) (lv' := [(3, .int (x3 + (-1 : Int32))), (2, .int x4), (1, .int x3), (0, .ref aF), (4, .int x4), (5, .int x5), (6, .int x6)]) hx hb dX6_choose_252 hl (k := 3) rfl rfl (by decide) rfl (fun ls hl => ?_)
            refine lv_goto (tgt := 165) hx hb dX6_choose_255 (by decide) ?_
            exact hk165 x3 x4 (x3 + (-1 : Int32)) F_keptBits F_keptMany F_takenMany F_takenPlace F_against hf _ _ _ hP hD hS (lv_sub hl [3, 2, 1, 0] rfl)
        · have hf := ifn hf c198
          refine lv_iload_n hx hb dX6_choose_201 rfl (lv_at hl 3 rfl) ?_
          refine lv_aload_n hx hb dX6_choose_202 rfl (lv_at hl 0 rfl) ?_
          refine va_get (D := D) (ci := 6) (v := .int F_takenMany) (C := RX6) (T := TX6) (N := 33) hx hb hts iX6 hown hK.1 hP 0 rfl rfl 26 (by decide) k142 (fun _ h9 => h9) rfl dX6_choose_203 ?_
          refine lv_iconst (v := (1 : Int32)) hx hb dX6_choose_206 (by decide) ?_
          refine lv_isub hx hb dX6_choose_207 ?_
          refine lv_iload hx hb dX6_choose_208 (lv_at hl 6 rfl) ?_
          refine lv_isub hx hb dX6_choose_210 ?_
          refine lv_ishr hx hb dX6_choose_211 ?_
          refine lv_iconst (v := (1 : Int32)) hx hb dX6_choose_212 (by decide) ?_
          refine lv_iand hx hb dX6_choose_213 ?_
          refine lv_if_eq (tgt := 229) hx hb dX6_choose_214 (by decide) (fun c214 => ?_) (fun c214 => ?_)
          · have hf := ifp hf c214
            refine lv_iconst (v := (1 : Int32)) hx hb dX6_choose_229 (by decide) ?_
            refine lv_goto (tgt := 234) hx hb dX6_choose_230 (by decide) ?_
            refine lv_istore (lv' := [(5, .int (1 : Int32)), (0, .ref aF), (1, .int x1), (2, .int x2), (3, .int x3), (4, .int x4), (6, .int x6)]) hx hb dX6_choose_234 hl (by decide) rfl (fun ls hl => ?_)
            refine lv_iinc (v := (x6 + (1 : Int32))) (lv' := [(6, .int (x6 + (1 : Int32))), (5, .int (1 : Int32)), (0, .ref aF), (1, .int x1), (2, .int x2), (3, .int x3), (4, .int x4)]) hx hb dX6_choose_236 hl (k := 6) rfl rfl (by decide) rfl (fun ls hl => ?_)
            refine lv_goto (tgt := 187) hx hb dX6_choose_239 (by decide) ?_
            exact ih x1 x2 x3 x4 (1 : Int32) (x6 + (1 : Int32)) F_keptBits F_keptMany F_takenMany F_takenPlace F_against hf _ _ _ hP hD hS (lv_sub hl [2, 3, 4, 5, 6, 1, 0] rfl)
          · have hf := ifn hf c214
            refine lv_aload_n hx hb dX6_choose_217 rfl (lv_at hl 0 rfl) ?_
            refine va_get (D := D) (ci := 6) (v := .ref aF_against) (C := RX6) (T := TX6) (N := 33) hx hb hts iX6 hown hK.1 hP 0 rfl rfl 28 (by decide) k65 (fun _ h9 => h9) rfl dX6_choose_218 ?_
            refine lv_iload hx hb dX6_choose_221 (lv_at hl 6 rfl) ?_
            refine ckE hf (fun h223 hf => ?_)
            refine va_iald hx hb hK.1 hP 7 0 rfl rfl (inB_in h223) dX6_choose_223 ?_
            refine lv_iload_n hx hb dX6_choose_224 rfl (lv_at hl 3 rfl) ?_
            refine lv_iand hx hb dX6_choose_225 ?_
            refine lv_if_ne (tgt := 233) hx hb dX6_choose_226 (by decide) (fun c226 => ?_) (fun c226 => ?_)
            · have hf := ifn hf c226
              refine lv_iconst (v := (0 : Int32)) hx hb dX6_choose_233 (by decide) ?_
              refine lv_istore (lv' := [(5, .int (0 : Int32)), (0, .ref aF), (1, .int x1), (2, .int x2), (3, .int x3), (4, .int x4), (6, .int x6)]) hx hb dX6_choose_234 hl (by decide) rfl (fun ls hl => ?_)
              refine lv_iinc (v := (x6 + (1 : Int32))) (lv' := [(6, .int (x6 + (1 : Int32))), (5, .int (0 : Int32)), (0, .ref aF), (1, .int x1), (2, .int x2), (3, .int x3), (4, .int x4)]) hx hb dX6_choose_236 hl (k := 6) rfl rfl (by decide) rfl (fun ls hl => ?_)
              refine lv_goto (tgt := 187) hx hb dX6_choose_239 (by decide) ?_
              exact ih x1 x2 x3 x4 (0 : Int32) (x6 + (1 : Int32)) F_keptBits F_keptMany F_takenMany F_takenPlace F_against hf _ _ _ hP hD hS (lv_sub hl [2, 3, 4, 5, 6, 1, 0] rfl)
            · have hf := ifp hf c226
              refine lv_iconst (v := (1 : Int32)) hx hb dX6_choose_229 (by decide) ?_
              refine lv_goto (tgt := 234) hx hb dX6_choose_230 (by decide) ?_
              refine lv_istore (lv' := [(5, .int (1 : Int32)), (0, .ref aF), (1, .int x1), (2, .int x2), (3, .int x3), (4, .int x4), (6, .int x6)]) hx hb dX6_choose_234 hl (by decide) rfl (fun ls hl => ?_)
              refine lv_iinc (v := (x6 + (1 : Int32))) (lv' := [(6, .int (x6 + (1 : Int32))), (5, .int (1 : Int32)), (0, .ref aF), (1, .int x1), (2, .int x2), (3, .int x3), (4, .int x4)]) hx hb dX6_choose_236 hl (k := 6) rfl rfl (by decide) rfl (fun ls hl => ?_)
              refine lv_goto (tgt := 187) hx hb dX6_choose_239 (by decide) ?_
              exact ih x1 x2 x3 x4 (1 : Int32) (x6 + (1 : Int32)) F_keptBits F_keptMany F_takenMany F_takenPlace F_against hf _ _ _ hP hD hS (lv_sub hl [2, 3, 4, 5, 6, 1, 0] rfl)
  have b_165 : ∀ (n : Nat), ∀ (x1 : Int32) (x2 : Int32) (x3 : Int32) (F_keptBits : Int32) (F_keptMany : Int32) (F_takenMany : Int32) (F_takenPlace : (Nat → Int32)) (F_against : (Nat → Int32)), fX6_choose_h165  n x1 x2 x3 F_size F_keptBits F_keptMany F_takenMany F_roles F_partner F_rank F_behind F_answer F_takenPlace F_against = some out → ∀ (H : Heap) (locs : List Loc) (ls : Array Slot), va_P D vwCl [(aF, .inr (6, [.int F_lines, .ref aF_kinds, .ref aF_vs, .ref aF_ws, .ref aF_roles, .ref aF_partner, .int F_model, .ref aF_lineOf, .ref aF_rank, .ref aF_behind, .ref aF_before, .ref aF_ways, .int F_inputs, .ref aF_inputOf, .int F_size, .ref aF_answer, .int F_hints, .int F_hasRun, .ref aF_values, .int F_printedMany, .ref aF_printedRow, .ref aF_wasValues, .ref aF_wasPrinted, .ref aF_due, .int F_keptBits, .int F_keptMany, .int F_takenMany, .ref aF_takenPlace, .ref aF_against, .int F_change, .int F_who, .int F_where, .long F_h])), (aF_roles, eI cI 16 F_roles), (aF_partner, eI cI 16 F_partner), (aF_rank, eI cI 16 F_rank), (aF_behind, eI cI 12 F_behind), (aF_answer, eI cI 16 F_answer), (aF_takenPlace, eI cI 16 F_takenPlace), (aF_against, eI cI 16 F_against)] H → va_D A [(aF, .inr (6, [.int F_lines, .ref aF_kinds, .ref aF_vs, .ref aF_ws, .ref aF_roles, .ref aF_partner, .int F_model, .ref aF_lineOf, .ref aF_rank, .ref aF_behind, .ref aF_before, .ref aF_ways, .int F_inputs, .ref aF_inputOf, .int F_size, .ref aF_answer, .int F_hints, .int F_hasRun, .ref aF_values, .int F_printedMany, .ref aF_printedRow, .ref aF_wasValues, .ref aF_wasPrinted, .ref aF_due, .int F_keptBits, .int F_keptMany, .int F_takenMany, .ref aF_takenPlace, .ref aF_against, .int F_change, .int F_who, .int F_where, .long F_h])), (aF_roles, eI cI 16 F_roles), (aF_partner, eI cI 16 F_partner), (aF_rank, eI cI 16 F_rank), (aF_behind, eI cI 12 F_behind), (aF_answer, eI cI 16 F_answer), (aF_takenPlace, eI cI 16 F_takenPlace), (aF_against, eI cI 16 F_against)] → va_S A s.heap H locs → lv_has ls 7 [(0, .ref aF), (1, .int x1), (2, .int x2), (3, .int x3)] → W p l e (headSpec wsX6_choose { frames := 2, cells := 0, slots := 0, locals := 44 }).room s m ([.ref aF] : List Value).toArray below meth c H locs 0 0 QQ (F0 m 165 ls []) := by
    intro  n
    induction n with
    | zero => intro x1 x2 x3 F_keptBits F_keptMany F_takenMany F_takenPlace F_against hf; exact nomatch (show (none : Option (Int32 × Int32 × Int32 × (Nat → Int32) × (Nat → Int32))) = some out from hf)
    | succ n ih =>
      intro x1 x2 x3 F_keptBits F_keptMany F_takenMany F_takenPlace F_against hf H locs ls hP hD hS hl
      replace hf : uX6_choose_h165  (fX6_choose_h165  n) x1 x2 x3 F_size F_keptBits F_keptMany F_takenMany F_roles F_partner F_rank F_behind F_answer F_takenPlace F_against = some out := hf
      unfold uX6_choose_h165 at hf
      refine lv_iload_n hx hb dX6_choose_165 rfl (lv_at hl 3 rfl) ?_
      refine lv_if_le (tgt := 258) hx hb dX6_choose_166 (by decide) (fun c166 => ?_) (fun c166 => ?_)
      · have hf := ifp hf c166
        refine lv_aload_n hx hb dX6_choose_258 rfl (lv_at hl 0 rfl) ?_
        refine lv_iload_n hx hb dX6_choose_259 rfl (lv_at hl 2 rfl) ?_
        refine va_put (D := D) (ci := 6) (v := .int x2) (ty := .int) (C := RX6) (T := TX6) (N := 33) hx hb hts iX6 tyX6 tyX6_ok nmX6 hown hK.1 hP hD hS 0 rfl rfl 25 (by decide) k151 (fun _ h9 => h9) rfl (by decide +kernel) rfl rfl (Nat.le_of_ble_eq_true rfl) dX6_choose_260 (fun H locs hP hD hS => ?_)
        have hP : va_P D vwCl [(aF, .inr (6, [.int F_lines, .ref aF_kinds, .ref aF_vs, .ref aF_ws, .ref aF_roles, .ref aF_partner, .int F_model, .ref aF_lineOf, .ref aF_rank, .ref aF_behind, .ref aF_before, .ref aF_ways, .int F_inputs, .ref aF_inputOf, .int F_size, .ref aF_answer, .int F_hints, .int F_hasRun, .ref aF_values, .int F_printedMany, .ref aF_printedRow, .ref aF_wasValues, .ref aF_wasPrinted, .ref aF_due, .int F_keptBits, .int x2, .int F_takenMany, .ref aF_takenPlace, .ref aF_against, .int F_change, .int F_who, .int F_where, .long F_h])), (aF_roles, eI cI 16 F_roles), (aF_partner, eI cI 16 F_partner), (aF_rank, eI cI 16 F_rank), (aF_behind, eI cI 12 F_behind), (aF_answer, eI cI 16 F_answer), (aF_takenPlace, eI cI 16 F_takenPlace), (aF_against, eI cI 16 F_against)] H := hP
        have hD : va_D A [(aF, .inr (6, [.int F_lines, .ref aF_kinds, .ref aF_vs, .ref aF_ws, .ref aF_roles, .ref aF_partner, .int F_model, .ref aF_lineOf, .ref aF_rank, .ref aF_behind, .ref aF_before, .ref aF_ways, .int F_inputs, .ref aF_inputOf, .int F_size, .ref aF_answer, .int F_hints, .int F_hasRun, .ref aF_values, .int F_printedMany, .ref aF_printedRow, .ref aF_wasValues, .ref aF_wasPrinted, .ref aF_due, .int F_keptBits, .int x2, .int F_takenMany, .ref aF_takenPlace, .ref aF_against, .int F_change, .int F_who, .int F_where, .long F_h])), (aF_roles, eI cI 16 F_roles), (aF_partner, eI cI 16 F_partner), (aF_rank, eI cI 16 F_rank), (aF_behind, eI cI 12 F_behind), (aF_answer, eI cI 16 F_answer), (aF_takenPlace, eI cI 16 F_takenPlace), (aF_against, eI cI 16 F_against)] := hD
        refine lv_aload_n hx hb dX6_choose_263 rfl (lv_at hl 0 rfl) ?_
        refine lv_iconst (v := (0 : Int32)) hx hb dX6_choose_264 (by decide) ?_
        refine va_put (D := D) (ci := 6) (v := .int (0 : Int32)) (ty := .int) (C := RX6) (T := TX6) (N := 33) hx hb hts iX6 tyX6 tyX6_ok nmX6 hown hK.1 hP hD hS 0 rfl rfl 24 (by decide) k154 (fun _ h9 => h9) rfl (by decide +kernel) rfl rfl (Nat.le_of_ble_eq_true rfl) dX6_choose_265 (fun H locs hP hD hS => ?_)
        have hP : va_P D vwCl [(aF, .inr (6, [.int F_lines, .ref aF_kinds, .ref aF_vs, .ref aF_ws, .ref aF_roles, .ref aF_partner, .int F_model, .ref aF_lineOf, .ref aF_rank, .ref aF_behind, .ref aF_before, .ref aF_ways, .int F_inputs, .ref aF_inputOf, .int F_size, .ref aF_answer, .int F_hints, .int F_hasRun, .ref aF_values, .int F_printedMany, .ref aF_printedRow, .ref aF_wasValues, .ref aF_wasPrinted, .ref aF_due, .int (0 : Int32), .int x2, .int F_takenMany, .ref aF_takenPlace, .ref aF_against, .int F_change, .int F_who, .int F_where, .long F_h])), (aF_roles, eI cI 16 F_roles), (aF_partner, eI cI 16 F_partner), (aF_rank, eI cI 16 F_rank), (aF_behind, eI cI 12 F_behind), (aF_answer, eI cI 16 F_answer), (aF_takenPlace, eI cI 16 F_takenPlace), (aF_against, eI cI 16 F_against)] H := hP
        have hD : va_D A [(aF, .inr (6, [.int F_lines, .ref aF_kinds, .ref aF_vs, .ref aF_ws, .ref aF_roles, .ref aF_partner, .int F_model, .ref aF_lineOf, .ref aF_rank, .ref aF_behind, .ref aF_before, .ref aF_ways, .int F_inputs, .ref aF_inputOf, .int F_size, .ref aF_answer, .int F_hints, .int F_hasRun, .ref aF_values, .int F_printedMany, .ref aF_printedRow, .ref aF_wasValues, .ref aF_wasPrinted, .ref aF_due, .int (0 : Int32), .int x2, .int F_takenMany, .ref aF_takenPlace, .ref aF_against, .int F_change, .int F_who, .int F_where, .long F_h])), (aF_roles, eI cI 16 F_roles), (aF_partner, eI cI 16 F_partner), (aF_rank, eI cI 16 F_rank), (aF_behind, eI cI 12 F_behind), (aF_answer, eI cI 16 F_answer), (aF_takenPlace, eI cI 16 F_takenPlace), (aF_against, eI cI 16 F_against)] := hD
        refine lv_iconst (v := (0 : Int32)) hx hb dX6_choose_268 (by decide) ?_
        refine lv_istore_n (lv' := [(3, .int (0 : Int32)), (0, .ref aF), (1, .int x1), (2, .int x2)]) hx hb dX6_choose_269 rfl hl (by decide) rfl (fun ls hl => ?_)
        exact b_270 FU x1 (0 : Int32) (0 : Int32) x2 F_takenMany F_takenPlace F_against hf _ _ _ hP hD hS (lv_sub hl [1, 2, 0] rfl)
      · have hf := ifn hf c166
        refine lv_iload_n hx hb dX6_choose_169 rfl (lv_at hl 3 rfl) ?_
        refine bnd hf (fun o170 e170 hf => ?_)
        refine rdSi (As := [.int x3]) (rest := []) ⟨hx, hb, hml, hown, hts⟩ (tX6_ones l D cI cJ cG  H x3  o170 e170) (va_cwS 1 hts gX6_choose_X6_ones rfl rfl rfl (by decide +kernel) ⟨Nat.le_of_ble_eq_true rfl, Nat.le_of_ble_eq_true rfl⟩) hK (hP.sub (ws' := []) [] rfl) rfl hl.1 rfl (lv_room (Nat.le_of_ble_eq_true rfl)) dX6_choose_170 ⟨Nat.le_of_ble_eq_true rfl, Nat.le_of_ble_eq_true rfl⟩ hS (fun locs hS => ?_)
        refine lv_istore (lv' := [(4, .int o170), (0, .ref aF), (1, .int x1), (2, .int x2), (3, .int x3)]) hx hb dX6_choose_173 hl (by decide) rfl (fun ls hl => ?_)
        refine lv_iload hx hb dX6_choose_175 (lv_at hl 0 rfl) ?_
        refine lv_iload_n hx hb dX6_choose_177 rfl (lv_at hl 3 rfl) ?_
        refine lv_icmp_le (tgt := 252) hx hb dX6_choose_178 (by decide) (fun c178 => ?_) (fun c178 => ?_)
        · have hf := ifp hf c178
          refine lv_iinc (v := (x3 + (-1 : Int32))) (lv' := [(3, .int (x3 + (-1 : Int32))), (4, .int o170), (0, .ref aF), (1, .int x1), (2, .int x2)]) hx hb dX6_choose_252 hl (k := 4) rfl rfl (by decide) rfl (fun ls hl => ?_)
          refine lv_goto (tgt := 165) hx hb dX6_choose_255 (by decide) ?_
          exact ih x1 x2 (x3 + (-1 : Int32)) F_keptBits F_keptMany F_takenMany F_takenPlace F_against hf _ _ _ hP hD hS (lv_sub hl [2, 3, 4, 0] rfl)
        · have hf := ifn hf c178
          refine lv_iconst (v := (1 : Int32)) hx hb dX6_choose_181 (by decide) ?_
          refine lv_istore (lv' := [(5, .int (1 : Int32)), (4, .int o170), (0, .ref aF), (1, .int x1), (2, .int x2), (3, .int x3)]) hx hb dX6_choose_182 hl (by decide) rfl (fun ls hl => ?_)
          refine lv_iconst (v := (0 : Int32)) hx hb dX6_choose_184 (by decide) ?_
          refine lv_istore (lv' := [(6, .int (0 : Int32)), (5, .int (1 : Int32)), (4, .int o170), (0, .ref aF), (1, .int x1), (2, .int x2), (3, .int x3)]) hx hb dX6_choose_185 hl (by decide) rfl (fun ls hl => ?_)
          exact b_187 (fX6_choose_h165  n) ih FU x1 x2 x3 o170 (1 : Int32) (0 : Int32) F_keptBits F_keptMany F_takenMany F_takenPlace F_against hf _ _ _ hP hD hS (lv_sub hl [3, 4, 5, 6, 2, 1, 0] rfl)
  have b_71 : ∀ (k52 : Int32 → Int32 → Int32 → Int32 → Int32 → (Nat → Int32) → (Nat → Int32) → (Nat → Int32) → (Nat → Int32) → (Nat → Int32) → (Nat → Int32) → (Nat → Int32) → Option (Int32 × Int32 × Int32 × (Nat → Int32) × (Nat → Int32))) (hk52 : ∀ (x1 : Int32) (F_keptBits : Int32) (F_keptMany : Int32) (F_takenMany : Int32) (F_takenPlace : (Nat → Int32)) (F_against : (Nat → Int32)), k52 x1 F_size F_keptBits F_keptMany F_takenMany F_roles F_partner F_rank F_behind F_answer F_takenPlace F_against = some out → ∀ (H : Heap) (locs : List Loc) (ls : Array Slot), va_P D vwCl [(aF, .inr (6, [.int F_lines, .ref aF_kinds, .ref aF_vs, .ref aF_ws, .ref aF_roles, .ref aF_partner, .int F_model, .ref aF_lineOf, .ref aF_rank, .ref aF_behind, .ref aF_before, .ref aF_ways, .int F_inputs, .ref aF_inputOf, .int F_size, .ref aF_answer, .int F_hints, .int F_hasRun, .ref aF_values, .int F_printedMany, .ref aF_printedRow, .ref aF_wasValues, .ref aF_wasPrinted, .ref aF_due, .int F_keptBits, .int F_keptMany, .int F_takenMany, .ref aF_takenPlace, .ref aF_against, .int F_change, .int F_who, .int F_where, .long F_h])), (aF_roles, eI cI 16 F_roles), (aF_partner, eI cI 16 F_partner), (aF_rank, eI cI 16 F_rank), (aF_behind, eI cI 12 F_behind), (aF_answer, eI cI 16 F_answer), (aF_takenPlace, eI cI 16 F_takenPlace), (aF_against, eI cI 16 F_against)] H → va_D A [(aF, .inr (6, [.int F_lines, .ref aF_kinds, .ref aF_vs, .ref aF_ws, .ref aF_roles, .ref aF_partner, .int F_model, .ref aF_lineOf, .ref aF_rank, .ref aF_behind, .ref aF_before, .ref aF_ways, .int F_inputs, .ref aF_inputOf, .int F_size, .ref aF_answer, .int F_hints, .int F_hasRun, .ref aF_values, .int F_printedMany, .ref aF_printedRow, .ref aF_wasValues, .ref aF_wasPrinted, .ref aF_due, .int F_keptBits, .int F_keptMany, .int F_takenMany, .ref aF_takenPlace, .ref aF_against, .int F_change, .int F_who, .int F_where, .long F_h])), (aF_roles, eI cI 16 F_roles), (aF_partner, eI cI 16 F_partner), (aF_rank, eI cI 16 F_rank), (aF_behind, eI cI 12 F_behind), (aF_answer, eI cI 16 F_answer), (aF_takenPlace, eI cI 16 F_takenPlace), (aF_against, eI cI 16 F_against)] → va_S A s.heap H locs → lv_has ls 7 [(0, .ref aF), (1, .int x1)] → W p l e (headSpec wsX6_choose { frames := 2, cells := 0, slots := 0, locals := 44 }).room s m ([.ref aF] : List Value).toArray below meth c H locs 0 0 QQ (F0 m 52 ls [])) (n : Nat), ∀ (x1 : Int32) (x2 : Int32) (F_keptBits : Int32) (F_keptMany : Int32) (F_takenMany : Int32) (F_takenPlace : (Nat → Int32)) (F_against : (Nat → Int32)), fX6_choose_h71 k52 n x1 x2 F_size F_keptBits F_keptMany F_takenMany F_roles F_partner F_rank F_behind F_answer F_takenPlace F_against = some out → ∀ (H : Heap) (locs : List Loc) (ls : Array Slot), va_P D vwCl [(aF, .inr (6, [.int F_lines, .ref aF_kinds, .ref aF_vs, .ref aF_ws, .ref aF_roles, .ref aF_partner, .int F_model, .ref aF_lineOf, .ref aF_rank, .ref aF_behind, .ref aF_before, .ref aF_ways, .int F_inputs, .ref aF_inputOf, .int F_size, .ref aF_answer, .int F_hints, .int F_hasRun, .ref aF_values, .int F_printedMany, .ref aF_printedRow, .ref aF_wasValues, .ref aF_wasPrinted, .ref aF_due, .int F_keptBits, .int F_keptMany, .int F_takenMany, .ref aF_takenPlace, .ref aF_against, .int F_change, .int F_who, .int F_where, .long F_h])), (aF_roles, eI cI 16 F_roles), (aF_partner, eI cI 16 F_partner), (aF_rank, eI cI 16 F_rank), (aF_behind, eI cI 12 F_behind), (aF_answer, eI cI 16 F_answer), (aF_takenPlace, eI cI 16 F_takenPlace), (aF_against, eI cI 16 F_against)] H → va_D A [(aF, .inr (6, [.int F_lines, .ref aF_kinds, .ref aF_vs, .ref aF_ws, .ref aF_roles, .ref aF_partner, .int F_model, .ref aF_lineOf, .ref aF_rank, .ref aF_behind, .ref aF_before, .ref aF_ways, .int F_inputs, .ref aF_inputOf, .int F_size, .ref aF_answer, .int F_hints, .int F_hasRun, .ref aF_values, .int F_printedMany, .ref aF_printedRow, .ref aF_wasValues, .ref aF_wasPrinted, .ref aF_due, .int F_keptBits, .int F_keptMany, .int F_takenMany, .ref aF_takenPlace, .ref aF_against, .int F_change, .int F_who, .int F_where, .long F_h])), (aF_roles, eI cI 16 F_roles), (aF_partner, eI cI 16 F_partner), (aF_rank, eI cI 16 F_rank), (aF_behind, eI cI 12 F_behind), (aF_answer, eI cI 16 F_answer), (aF_takenPlace, eI cI 16 F_takenPlace), (aF_against, eI cI 16 F_against)] → va_S A s.heap H locs → lv_has ls 7 [(0, .ref aF), (1, .int x1), (2, .int x2)] → W p l e (headSpec wsX6_choose { frames := 2, cells := 0, slots := 0, locals := 44 }).room s m ([.ref aF] : List Value).toArray below meth c H locs 0 0 QQ (F0 m 71 ls []) := by
    intro k52 hk52 n
    induction n with
    | zero => intro x1 x2 F_keptBits F_keptMany F_takenMany F_takenPlace F_against hf; exact nomatch (show (none : Option (Int32 × Int32 × Int32 × (Nat → Int32) × (Nat → Int32))) = some out from hf)
    | succ n ih =>
      intro x1 x2 F_keptBits F_keptMany F_takenMany F_takenPlace F_against hf H locs ls hP hD hS hl
      replace hf : uX6_choose_h71 k52 (fX6_choose_h71 k52 n) x1 x2 F_size F_keptBits F_keptMany F_takenMany F_roles F_partner F_rank F_behind F_answer F_takenPlace F_against = some out := hf
      unfold uX6_choose_h71 at hf
      refine lv_iload_n hx hb dX6_choose_71 rfl (lv_at hl 2 rfl) ?_
      refine lv_aload_n hx hb dX6_choose_72 rfl (lv_at hl 0 rfl) ?_
      refine va_get (D := D) (ci := 6) (v := .int F_takenMany) (C := RX6) (T := TX6) (N := 33) hx hb hts iX6 hown hK.1 hP 0 rfl rfl 26 (by decide) k142 (fun _ h9 => h9) rfl dX6_choose_73 ?_
      refine lv_icmp_ge (tgt := 146) hx hb dX6_choose_76 (by decide) (fun c76 => ?_) (fun c76 => ?_)
      · have hf := ifp hf c76
        refine lv_iinc (v := (x1 + (1 : Int32))) (lv' := [(1, .int (x1 + (1 : Int32))), (0, .ref aF), (2, .int x2)]) hx hb dX6_choose_146 hl (k := 1) rfl rfl (by decide) rfl (fun ls hl => ?_)
        refine lv_goto (tgt := 52) hx hb dX6_choose_149 (by decide) ?_
        exact hk52 (x1 + (1 : Int32)) F_keptBits F_keptMany F_takenMany F_takenPlace F_against hf _ _ _ hP hD hS (lv_sub hl [1, 0] rfl)
      · have hf := ifn hf c76
        refine lv_aload_n hx hb dX6_choose_79 rfl (lv_at hl 0 rfl) ?_
        refine lv_aload_n hx hb dX6_choose_80 rfl (lv_at hl 0 rfl) ?_
        refine va_get (D := D) (ci := 6) (v := .ref aF_takenPlace) (C := RX6) (T := TX6) (N := 33) hx hb hts iX6 hown hK.1 hP 0 rfl rfl 27 (by decide) k62 (fun _ h9 => h9) rfl dX6_choose_81 ?_
        refine lv_iload_n hx hb dX6_choose_84 rfl (lv_at hl 1 rfl) ?_
        refine ckE hf (fun h85 hf => ?_)
        refine va_iald hx hb hK.1 hP 6 0 rfl rfl (inB_in h85) dX6_choose_85 ?_
        refine bnd hf (fun o86 e86 hf => ?_)
        refine rdVi (As := [.int (F_takenPlace (x1).toNatClampNeg)]) (rest := []) ⟨hx, hb, hml, hown, hts⟩ (tX6_takenFor l D cI cJ cG aF aF_kinds aF_vs aF_ws aF_roles aF_partner aF_lineOf aF_rank aF_behind aF_before aF_ways aF_inputOf aF_answer aF_values aF_printedRow aF_wasValues aF_wasPrinted aF_due aF_takenPlace aF_against H (F_takenPlace (x1).toNatClampNeg) F_lines F_model F_inputs F_size F_hints F_hasRun F_printedMany F_keptBits F_keptMany F_takenMany F_change F_who F_where F_h F_roles F_partner F_rank F_answer o86 e86) (cwV 1 hts gX6_choose_X6_takenFor rfl rfl rfl (by decide +kernel) ⟨Nat.le_of_ble_eq_true rfl, Nat.le_of_ble_eq_true rfl⟩) (va_recv (ci := 6) (q0 := 0) hK.1 hP rfl rfl) hK (hP.sub (ws' := [(aF, .inr (6, [.int F_lines, .ref aF_kinds, .ref aF_vs, .ref aF_ws, .ref aF_roles, .ref aF_partner, .int F_model, .ref aF_lineOf, .ref aF_rank, .ref aF_behind, .ref aF_before, .ref aF_ways, .int F_inputs, .ref aF_inputOf, .int F_size, .ref aF_answer, .int F_hints, .int F_hasRun, .ref aF_values, .int F_printedMany, .ref aF_printedRow, .ref aF_wasValues, .ref aF_wasPrinted, .ref aF_due, .int F_keptBits, .int F_keptMany, .int F_takenMany, .ref aF_takenPlace, .ref aF_against, .int F_change, .int F_who, .int F_where, .long F_h])), (aF_roles, eI cI 16 F_roles), (aF_partner, eI cI 16 F_partner), (aF_rank, eI cI 16 F_rank), (aF_answer, eI cI 16 F_answer)]) [0, 1, 2, 3, 5] rfl) rfl hl.1 rfl (lv_room (Nat.le_of_ble_eq_true rfl)) dX6_choose_86 ⟨Nat.le_of_ble_eq_true rfl, Nat.le_of_ble_eq_true rfl⟩ hS (fun locs hS => ?_)
        refine lv_istore_n (lv' := [(3, .int o86), (0, .ref aF), (1, .int x1), (2, .int x2)]) hx hb dX6_choose_89 rfl hl (by decide) rfl (fun ls hl => ?_)
        refine lv_aload_n hx hb dX6_choose_90 rfl (lv_at hl 1 rfl) ?_
        refine lv_aload_n hx hb dX6_choose_91 rfl (lv_at hl 1 rfl) ?_
        refine va_get (D := D) (ci := 6) (v := .ref aF_takenPlace) (C := RX6) (T := TX6) (N := 33) hx hb hts iX6 hown hK.1 hP 0 rfl rfl 27 (by decide) k62 (fun _ h9 => h9) rfl dX6_choose_92 ?_
        refine lv_iload_n hx hb dX6_choose_95 rfl (lv_at hl 3 rfl) ?_
        refine ckE hf (fun h96 hf => ?_)
        refine va_iald hx hb hK.1 hP 6 0 rfl rfl (inB_in h96) dX6_choose_96 ?_
        refine bnd hf (fun o97 e97 hf => ?_)
        refine rdVi (As := [.int (F_takenPlace (x2).toNatClampNeg)]) (rest := []) ⟨hx, hb, hml, hown, hts⟩ (tX6_takenFor l D cI cJ cG aF aF_kinds aF_vs aF_ws aF_roles aF_partner aF_lineOf aF_rank aF_behind aF_before aF_ways aF_inputOf aF_answer aF_values aF_printedRow aF_wasValues aF_wasPrinted aF_due aF_takenPlace aF_against H (F_takenPlace (x2).toNatClampNeg) F_lines F_model F_inputs F_size F_hints F_hasRun F_printedMany F_keptBits F_keptMany F_takenMany F_change F_who F_where F_h F_roles F_partner F_rank F_answer o97 e97) (cwV 1 hts gX6_choose_X6_takenFor rfl rfl rfl (by decide +kernel) ⟨Nat.le_of_ble_eq_true rfl, Nat.le_of_ble_eq_true rfl⟩) (va_recv (ci := 6) (q0 := 0) hK.1 hP rfl rfl) hK (hP.sub (ws' := [(aF, .inr (6, [.int F_lines, .ref aF_kinds, .ref aF_vs, .ref aF_ws, .ref aF_roles, .ref aF_partner, .int F_model, .ref aF_lineOf, .ref aF_rank, .ref aF_behind, .ref aF_before, .ref aF_ways, .int F_inputs, .ref aF_inputOf, .int F_size, .ref aF_answer, .int F_hints, .int F_hasRun, .ref aF_values, .int F_printedMany, .ref aF_printedRow, .ref aF_wasValues, .ref aF_wasPrinted, .ref aF_due, .int F_keptBits, .int F_keptMany, .int F_takenMany, .ref aF_takenPlace, .ref aF_against, .int F_change, .int F_who, .int F_where, .long F_h])), (aF_roles, eI cI 16 F_roles), (aF_partner, eI cI 16 F_partner), (aF_rank, eI cI 16 F_rank), (aF_answer, eI cI 16 F_answer)]) [0, 1, 2, 3, 5] rfl) rfl hl.1 rfl (lv_room (Nat.le_of_ble_eq_true rfl)) dX6_choose_97 ⟨Nat.le_of_ble_eq_true rfl, Nat.le_of_ble_eq_true rfl⟩ hS (fun locs hS => ?_)
        refine lv_istore (lv' := [(4, .int o97), (3, .int o86), (0, .ref aF), (1, .int x1), (2, .int x2)]) hx hb dX6_choose_100 hl (by decide) rfl (fun ls hl => ?_)
        refine lv_aload_n hx hb dX6_choose_102 rfl (lv_at hl 2 rfl) ?_
        refine va_get (D := D) (ci := 6) (v := .ref aF_against) (C := RX6) (T := TX6) (N := 33) hx hb hts iX6 hown hK.1 hP 0 rfl rfl 28 (by decide) k65 (fun _ h9 => h9) rfl dX6_choose_103 ?_
        refine lv_iload_n hx hb dX6_choose_106 rfl (lv_at hl 3 rfl) ?_
        refine lv_dup2_11 hx hb dX6_choose_107 rfl rfl ?_
        refine ckE hf (fun h108 hf => ?_)
        refine va_iald hx hb hK.1 hP 7 0 rfl rfl (inB_in h108) dX6_choose_108 ?_
        refine lv_aload_n hx hb dX6_choose_109 rfl (lv_at hl 2 rfl) ?_
        refine va_get (D := D) (ci := 6) (v := .ref aF_behind) (C := RX6) (T := TX6) (N := 33) hx hb hts iX6 hown hK.1 hP 0 rfl rfl 9 (by decide) k31 (fun _ h9 => h9) rfl dX6_choose_110 ?_
        refine lv_iload hx hb dX6_choose_113 (lv_at hl 0 rfl) ?_
        refine ckE hf (fun h115 hf => ?_)
        refine va_iald hx hb hK.1 hP 4 0 rfl rfl (inB_in h115) dX6_choose_115 ?_
        refine lv_iload_n hx hb dX6_choose_116 rfl (lv_at hl 1 rfl) ?_
        refine lv_ishr hx hb dX6_choose_117 ?_
        refine lv_iconst (v := (1 : Int32)) hx hb dX6_choose_118 (by decide) ?_
        refine lv_iand hx hb dX6_choose_119 ?_
        refine lv_iconst (v := (1 : Int32)) hx hb dX6_choose_120 (by decide) ?_
        refine lv_icmp_ne (tgt := 137) hx hb dX6_choose_121 (by decide) (fun c121 => ?_) (fun c121 => ?_)
        · have hf := ifn hf c121
          refine lv_iconst (v := (0 : Int32)) hx hb dX6_choose_137 (by decide) ?_
          refine lv_ior hx hb dX6_choose_138 ?_
          refine ckE hf (fun h139 hf => ?_)
          refine va_iast hx hb hK.1 hP hD hS 7 0 rfl rfl (inB_in h139) dX6_choose_139 (fun H locs hP hD hS => ?_)
          have hP : va_P D vwCl [(aF, .inr (6, [.int F_lines, .ref aF_kinds, .ref aF_vs, .ref aF_ws, .ref aF_roles, .ref aF_partner, .int F_model, .ref aF_lineOf, .ref aF_rank, .ref aF_behind, .ref aF_before, .ref aF_ways, .int F_inputs, .ref aF_inputOf, .int F_size, .ref aF_answer, .int F_hints, .int F_hasRun, .ref aF_values, .int F_printedMany, .ref aF_printedRow, .ref aF_wasValues, .ref aF_wasPrinted, .ref aF_due, .int F_keptBits, .int F_keptMany, .int F_takenMany, .ref aF_takenPlace, .ref aF_against, .int F_change, .int F_who, .int F_where, .long F_h])), (aF_roles, eI cI 16 F_roles), (aF_partner, eI cI 16 F_partner), (aF_rank, eI cI 16 F_rank), (aF_behind, eI cI 12 F_behind), (aF_answer, eI cI 16 F_answer), (aF_takenPlace, eI cI 16 F_takenPlace), (aF_against, eI cI 16 (upd F_against (x1).toNatClampNeg ((F_against (x1).toNatClampNeg) ||| (0 : Int32))))] H := hP
          have hD : va_D A [(aF, .inr (6, [.int F_lines, .ref aF_kinds, .ref aF_vs, .ref aF_ws, .ref aF_roles, .ref aF_partner, .int F_model, .ref aF_lineOf, .ref aF_rank, .ref aF_behind, .ref aF_before, .ref aF_ways, .int F_inputs, .ref aF_inputOf, .int F_size, .ref aF_answer, .int F_hints, .int F_hasRun, .ref aF_values, .int F_printedMany, .ref aF_printedRow, .ref aF_wasValues, .ref aF_wasPrinted, .ref aF_due, .int F_keptBits, .int F_keptMany, .int F_takenMany, .ref aF_takenPlace, .ref aF_against, .int F_change, .int F_who, .int F_where, .long F_h])), (aF_roles, eI cI 16 F_roles), (aF_partner, eI cI 16 F_partner), (aF_rank, eI cI 16 F_rank), (aF_behind, eI cI 12 F_behind), (aF_answer, eI cI 16 F_answer), (aF_takenPlace, eI cI 16 F_takenPlace), (aF_against, eI cI 16 (upd F_against (x1).toNatClampNeg ((F_against (x1).toNatClampNeg) ||| (0 : Int32))))] := hD
          refine lv_iinc (v := (x2 + (1 : Int32))) (lv' := [(2, .int (x2 + (1 : Int32))), (4, .int o97), (3, .int o86), (0, .ref aF), (1, .int x1)]) hx hb dX6_choose_140 hl (k := 4) rfl rfl (by decide) rfl (fun ls hl => ?_)
          refine lv_goto (tgt := 71) hx hb dX6_choose_143 (by decide) ?_
          exact ih x1 (x2 + (1 : Int32)) F_keptBits F_keptMany F_takenMany F_takenPlace (upd F_against (x1).toNatClampNeg ((F_against (x1).toNatClampNeg) ||| (0 : Int32))) hf _ _ _ hP hD hS (lv_sub hl [3, 4, 0] rfl)
        · have hf := ifp hf c121
          refine lv_iconst (v := (1 : Int32)) hx hb dX6_choose_124 (by decide) ?_
          refine lv_aload_n hx hb dX6_choose_125 rfl (lv_at hl 2 rfl) ?_
          refine va_get (D := D) (ci := 6) (v := .int F_takenMany) (C := RX6) (T := TX6) (N := 33) hx hb hts iX6 hown hK.1 hP 0 rfl rfl 26 (by decide) k142 (fun _ h9 => h9) rfl dX6_choose_126 ?_
          refine lv_iconst (v := (1 : Int32)) hx hb dX6_choose_129 (by decide) ?_
          refine lv_isub hx hb dX6_choose_130 ?_
          refine lv_iload_n hx hb dX6_choose_131 rfl (lv_at hl 4 rfl) ?_
          refine lv_isub hx hb dX6_choose_132 ?_
          refine lv_ishl hx hb dX6_choose_133 ?_
          refine lv_goto (tgt := 138) hx hb dX6_choose_134 (by decide) ?_
          refine lv_ior hx hb dX6_choose_138 ?_
          refine ckE hf (fun h139 hf => ?_)
          refine va_iast hx hb hK.1 hP hD hS 7 0 rfl rfl (inB_in h139) dX6_choose_139 (fun H locs hP hD hS => ?_)
          have hP : va_P D vwCl [(aF, .inr (6, [.int F_lines, .ref aF_kinds, .ref aF_vs, .ref aF_ws, .ref aF_roles, .ref aF_partner, .int F_model, .ref aF_lineOf, .ref aF_rank, .ref aF_behind, .ref aF_before, .ref aF_ways, .int F_inputs, .ref aF_inputOf, .int F_size, .ref aF_answer, .int F_hints, .int F_hasRun, .ref aF_values, .int F_printedMany, .ref aF_printedRow, .ref aF_wasValues, .ref aF_wasPrinted, .ref aF_due, .int F_keptBits, .int F_keptMany, .int F_takenMany, .ref aF_takenPlace, .ref aF_against, .int F_change, .int F_who, .int F_where, .long F_h])), (aF_roles, eI cI 16 F_roles), (aF_partner, eI cI 16 F_partner), (aF_rank, eI cI 16 F_rank), (aF_behind, eI cI 12 F_behind), (aF_answer, eI cI 16 F_answer), (aF_takenPlace, eI cI 16 F_takenPlace), (aF_against, eI cI 16 (upd F_against (x1).toNatClampNeg ((F_against (x1).toNatClampNeg) ||| ((1 : Int32) <<< (((F_takenMany - (1 : Int32)) - x2) &&& 31)))))] H := hP
          have hD : va_D A [(aF, .inr (6, [.int F_lines, .ref aF_kinds, .ref aF_vs, .ref aF_ws, .ref aF_roles, .ref aF_partner, .int F_model, .ref aF_lineOf, .ref aF_rank, .ref aF_behind, .ref aF_before, .ref aF_ways, .int F_inputs, .ref aF_inputOf, .int F_size, .ref aF_answer, .int F_hints, .int F_hasRun, .ref aF_values, .int F_printedMany, .ref aF_printedRow, .ref aF_wasValues, .ref aF_wasPrinted, .ref aF_due, .int F_keptBits, .int F_keptMany, .int F_takenMany, .ref aF_takenPlace, .ref aF_against, .int F_change, .int F_who, .int F_where, .long F_h])), (aF_roles, eI cI 16 F_roles), (aF_partner, eI cI 16 F_partner), (aF_rank, eI cI 16 F_rank), (aF_behind, eI cI 12 F_behind), (aF_answer, eI cI 16 F_answer), (aF_takenPlace, eI cI 16 F_takenPlace), (aF_against, eI cI 16 (upd F_against (x1).toNatClampNeg ((F_against (x1).toNatClampNeg) ||| ((1 : Int32) <<< (((F_takenMany - (1 : Int32)) - x2) &&& 31)))))] := hD
          refine lv_iinc (v := (x2 + (1 : Int32))) (lv' := [(2, .int (x2 + (1 : Int32))), (4, .int o97), (3, .int o86), (0, .ref aF), (1, .int x1)]) hx hb dX6_choose_140 hl (k := 4) rfl rfl (by decide) rfl (fun ls hl => ?_)
          refine lv_goto (tgt := 71) hx hb dX6_choose_143 (by decide) ?_
          exact ih x1 (x2 + (1 : Int32)) F_keptBits F_keptMany F_takenMany F_takenPlace (upd F_against (x1).toNatClampNeg ((F_against (x1).toNatClampNeg) ||| ((1 : Int32) <<< (((F_takenMany - (1 : Int32)) - x2) &&& 31)))) hf _ _ _ hP hD hS (lv_sub hl [3, 4, 0] rfl)
  have b_52 : ∀ (n : Nat), ∀ (x1 : Int32) (F_keptBits : Int32) (F_keptMany : Int32) (F_takenMany : Int32) (F_takenPlace : (Nat → Int32)) (F_against : (Nat → Int32)), fX6_choose_h52  n x1 F_size F_keptBits F_keptMany F_takenMany F_roles F_partner F_rank F_behind F_answer F_takenPlace F_against = some out → ∀ (H : Heap) (locs : List Loc) (ls : Array Slot), va_P D vwCl [(aF, .inr (6, [.int F_lines, .ref aF_kinds, .ref aF_vs, .ref aF_ws, .ref aF_roles, .ref aF_partner, .int F_model, .ref aF_lineOf, .ref aF_rank, .ref aF_behind, .ref aF_before, .ref aF_ways, .int F_inputs, .ref aF_inputOf, .int F_size, .ref aF_answer, .int F_hints, .int F_hasRun, .ref aF_values, .int F_printedMany, .ref aF_printedRow, .ref aF_wasValues, .ref aF_wasPrinted, .ref aF_due, .int F_keptBits, .int F_keptMany, .int F_takenMany, .ref aF_takenPlace, .ref aF_against, .int F_change, .int F_who, .int F_where, .long F_h])), (aF_roles, eI cI 16 F_roles), (aF_partner, eI cI 16 F_partner), (aF_rank, eI cI 16 F_rank), (aF_behind, eI cI 12 F_behind), (aF_answer, eI cI 16 F_answer), (aF_takenPlace, eI cI 16 F_takenPlace), (aF_against, eI cI 16 F_against)] H → va_D A [(aF, .inr (6, [.int F_lines, .ref aF_kinds, .ref aF_vs, .ref aF_ws, .ref aF_roles, .ref aF_partner, .int F_model, .ref aF_lineOf, .ref aF_rank, .ref aF_behind, .ref aF_before, .ref aF_ways, .int F_inputs, .ref aF_inputOf, .int F_size, .ref aF_answer, .int F_hints, .int F_hasRun, .ref aF_values, .int F_printedMany, .ref aF_printedRow, .ref aF_wasValues, .ref aF_wasPrinted, .ref aF_due, .int F_keptBits, .int F_keptMany, .int F_takenMany, .ref aF_takenPlace, .ref aF_against, .int F_change, .int F_who, .int F_where, .long F_h])), (aF_roles, eI cI 16 F_roles), (aF_partner, eI cI 16 F_partner), (aF_rank, eI cI 16 F_rank), (aF_behind, eI cI 12 F_behind), (aF_answer, eI cI 16 F_answer), (aF_takenPlace, eI cI 16 F_takenPlace), (aF_against, eI cI 16 F_against)] → va_S A s.heap H locs → lv_has ls 7 [(0, .ref aF), (1, .int x1)] → W p l e (headSpec wsX6_choose { frames := 2, cells := 0, slots := 0, locals := 44 }).room s m ([.ref aF] : List Value).toArray below meth c H locs 0 0 QQ (F0 m 52 ls []) := by
    intro  n
    induction n with
    | zero => intro x1 F_keptBits F_keptMany F_takenMany F_takenPlace F_against hf; exact nomatch (show (none : Option (Int32 × Int32 × Int32 × (Nat → Int32) × (Nat → Int32))) = some out from hf)
    | succ n ih =>
      intro x1 F_keptBits F_keptMany F_takenMany F_takenPlace F_against hf H locs ls hP hD hS hl
      replace hf : uX6_choose_h52  (fX6_choose_h52  n) x1 F_size F_keptBits F_keptMany F_takenMany F_roles F_partner F_rank F_behind F_answer F_takenPlace F_against = some out := hf
      unfold uX6_choose_h52 at hf
      refine lv_iload_n hx hb dX6_choose_52 rfl (lv_at hl 1 rfl) ?_
      refine lv_aload_n hx hb dX6_choose_53 rfl (lv_at hl 0 rfl) ?_
      refine va_get (D := D) (ci := 6) (v := .int F_takenMany) (C := RX6) (T := TX6) (N := 33) hx hb hts iX6 hown hK.1 hP 0 rfl rfl 26 (by decide) k142 (fun _ h9 => h9) rfl dX6_choose_54 ?_
      refine lv_icmp_ge (tgt := 152) hx hb dX6_choose_57 (by decide) (fun c57 => ?_) (fun c57 => ?_)
      · have hf := ifp hf c57
        refine lv_iconst (v := (0 : Int32)) hx hb dX6_choose_152 (by decide) ?_
        refine lv_istore_n (lv' := [(1, .int (0 : Int32)), (0, .ref aF)]) hx hb dX6_choose_153 rfl hl (by decide) rfl (fun ls hl => ?_)
        refine lv_iconst (v := (0 : Int32)) hx hb dX6_choose_154 (by decide) ?_
        refine lv_istore_n (lv' := [(2, .int (0 : Int32)), (1, .int (0 : Int32)), (0, .ref aF)]) hx hb dX6_choose_155 rfl hl (by decide) rfl (fun ls hl => ?_)
        refine lv_iconst (v := (1 : Int32)) hx hb dX6_choose_156 (by decide) ?_
        refine lv_aload_n hx hb dX6_choose_157 rfl (lv_at hl 2 rfl) ?_
        refine va_get (D := D) (ci := 6) (v := .int F_takenMany) (C := RX6) (T := TX6) (N := 33) hx hb hts iX6 hown hK.1 hP 0 rfl rfl 26 (by decide) k142 (fun _ h9 => h9) rfl dX6_choose_158 ?_
        refine lv_ishl hx hb dX6_choose_161 ?_
        refine lv_iconst (v := (1 : Int32)) hx hb dX6_choose_162 (by decide) ?_
        refine lv_isub hx hb dX6_choose_163 ?_
        refine lv_istore_n (lv' := [(3, .int (((1 : Int32) <<< (F_takenMany &&& 31)) - (1 : Int32))), (2, .int (0 : Int32)), (1, .int (0 : Int32)), (0, .ref aF)]) hx hb dX6_choose_164 rfl hl (by decide) rfl (fun ls hl => ?_)
        exact b_165 FU (0 : Int32) (0 : Int32) (((1 : Int32) <<< (F_takenMany &&& 31)) - (1 : Int32)) F_keptBits F_keptMany F_takenMany F_takenPlace F_against hf _ _ _ hP hD hS (lv_sub hl [3, 2, 1, 0] rfl)
      · have hf := ifn hf c57
        refine lv_aload_n hx hb dX6_choose_60 rfl (lv_at hl 0 rfl) ?_
        refine va_get (D := D) (ci := 6) (v := .ref aF_against) (C := RX6) (T := TX6) (N := 33) hx hb hts iX6 hown hK.1 hP 0 rfl rfl 28 (by decide) k65 (fun _ h9 => h9) rfl dX6_choose_61 ?_
        refine lv_iload_n hx hb dX6_choose_64 rfl (lv_at hl 1 rfl) ?_
        refine lv_iconst (v := (0 : Int32)) hx hb dX6_choose_65 (by decide) ?_
        refine ckE hf (fun h66 hf => ?_)
        refine va_iast hx hb hK.1 hP hD hS 7 0 rfl rfl (inB_in h66) dX6_choose_66 (fun H locs hP hD hS => ?_)
        have hP : va_P D vwCl [(aF, .inr (6, [.int F_lines, .ref aF_kinds, .ref aF_vs, .ref aF_ws, .ref aF_roles, .ref aF_partner, .int F_model, .ref aF_lineOf, .ref aF_rank, .ref aF_behind, .ref aF_before, .ref aF_ways, .int F_inputs, .ref aF_inputOf, .int F_size, .ref aF_answer, .int F_hints, .int F_hasRun, .ref aF_values, .int F_printedMany, .ref aF_printedRow, .ref aF_wasValues, .ref aF_wasPrinted, .ref aF_due, .int F_keptBits, .int F_keptMany, .int F_takenMany, .ref aF_takenPlace, .ref aF_against, .int F_change, .int F_who, .int F_where, .long F_h])), (aF_roles, eI cI 16 F_roles), (aF_partner, eI cI 16 F_partner), (aF_rank, eI cI 16 F_rank), (aF_behind, eI cI 12 F_behind), (aF_answer, eI cI 16 F_answer), (aF_takenPlace, eI cI 16 F_takenPlace), (aF_against, eI cI 16 (upd F_against (x1).toNatClampNeg (0 : Int32)))] H := hP
        have hD : va_D A [(aF, .inr (6, [.int F_lines, .ref aF_kinds, .ref aF_vs, .ref aF_ws, .ref aF_roles, .ref aF_partner, .int F_model, .ref aF_lineOf, .ref aF_rank, .ref aF_behind, .ref aF_before, .ref aF_ways, .int F_inputs, .ref aF_inputOf, .int F_size, .ref aF_answer, .int F_hints, .int F_hasRun, .ref aF_values, .int F_printedMany, .ref aF_printedRow, .ref aF_wasValues, .ref aF_wasPrinted, .ref aF_due, .int F_keptBits, .int F_keptMany, .int F_takenMany, .ref aF_takenPlace, .ref aF_against, .int F_change, .int F_who, .int F_where, .long F_h])), (aF_roles, eI cI 16 F_roles), (aF_partner, eI cI 16 F_partner), (aF_rank, eI cI 16 F_rank), (aF_behind, eI cI 12 F_behind), (aF_answer, eI cI 16 F_answer), (aF_takenPlace, eI cI 16 F_takenPlace), (aF_against, eI cI 16 (upd F_against (x1).toNatClampNeg (0 : Int32)))] := hD
        refine lv_iload_n hx hb dX6_choose_67 rfl (lv_at hl 1 rfl) ?_
        refine lv_iconst (v := (1 : Int32)) hx hb dX6_choose_68 (by decide) ?_
        refine lv_iadd hx hb dX6_choose_69 ?_
        refine lv_istore_n (lv' := [(2, .int (x1 + (1 : Int32))), (0, .ref aF), (1, .int x1)]) hx hb dX6_choose_70 rfl hl (by decide) rfl (fun ls hl => ?_)
        exact b_71 (fX6_choose_h52  n) ih FU x1 (x1 + (1 : Int32)) F_keptBits F_keptMany F_takenMany F_takenPlace (upd F_against (x1).toNatClampNeg (0 : Int32)) hf _ _ _ hP hD hS (lv_sub hl [1, 2, 0] rfl)
  have b_7 : ∀ (n : Nat), ∀ (x1 : Int32) (F_keptBits : Int32) (F_keptMany : Int32) (F_takenMany : Int32) (F_takenPlace : (Nat → Int32)) (F_against : (Nat → Int32)), fX6_choose_h7  n x1 F_size F_keptBits F_keptMany F_takenMany F_roles F_partner F_rank F_behind F_answer F_takenPlace F_against = some out → ∀ (H : Heap) (locs : List Loc) (ls : Array Slot), va_P D vwCl [(aF, .inr (6, [.int F_lines, .ref aF_kinds, .ref aF_vs, .ref aF_ws, .ref aF_roles, .ref aF_partner, .int F_model, .ref aF_lineOf, .ref aF_rank, .ref aF_behind, .ref aF_before, .ref aF_ways, .int F_inputs, .ref aF_inputOf, .int F_size, .ref aF_answer, .int F_hints, .int F_hasRun, .ref aF_values, .int F_printedMany, .ref aF_printedRow, .ref aF_wasValues, .ref aF_wasPrinted, .ref aF_due, .int F_keptBits, .int F_keptMany, .int F_takenMany, .ref aF_takenPlace, .ref aF_against, .int F_change, .int F_who, .int F_where, .long F_h])), (aF_roles, eI cI 16 F_roles), (aF_partner, eI cI 16 F_partner), (aF_rank, eI cI 16 F_rank), (aF_behind, eI cI 12 F_behind), (aF_answer, eI cI 16 F_answer), (aF_takenPlace, eI cI 16 F_takenPlace), (aF_against, eI cI 16 F_against)] H → va_D A [(aF, .inr (6, [.int F_lines, .ref aF_kinds, .ref aF_vs, .ref aF_ws, .ref aF_roles, .ref aF_partner, .int F_model, .ref aF_lineOf, .ref aF_rank, .ref aF_behind, .ref aF_before, .ref aF_ways, .int F_inputs, .ref aF_inputOf, .int F_size, .ref aF_answer, .int F_hints, .int F_hasRun, .ref aF_values, .int F_printedMany, .ref aF_printedRow, .ref aF_wasValues, .ref aF_wasPrinted, .ref aF_due, .int F_keptBits, .int F_keptMany, .int F_takenMany, .ref aF_takenPlace, .ref aF_against, .int F_change, .int F_who, .int F_where, .long F_h])), (aF_roles, eI cI 16 F_roles), (aF_partner, eI cI 16 F_partner), (aF_rank, eI cI 16 F_rank), (aF_behind, eI cI 12 F_behind), (aF_answer, eI cI 16 F_answer), (aF_takenPlace, eI cI 16 F_takenPlace), (aF_against, eI cI 16 F_against)] → va_S A s.heap H locs → lv_has ls 7 [(0, .ref aF), (1, .int x1)] → W p l e (headSpec wsX6_choose { frames := 2, cells := 0, slots := 0, locals := 44 }).room s m ([.ref aF] : List Value).toArray below meth c H locs 0 0 QQ (F0 m 7 ls []) := by
    intro  n
    induction n with
    | zero => intro x1 F_keptBits F_keptMany F_takenMany F_takenPlace F_against hf; exact nomatch (show (none : Option (Int32 × Int32 × Int32 × (Nat → Int32) × (Nat → Int32))) = some out from hf)
    | succ n ih =>
      intro x1 F_keptBits F_keptMany F_takenMany F_takenPlace F_against hf H locs ls hP hD hS hl
      replace hf : uX6_choose_h7  (fX6_choose_h7  n) x1 F_size F_keptBits F_keptMany F_takenMany F_roles F_partner F_rank F_behind F_answer F_takenPlace F_against = some out := hf
      unfold uX6_choose_h7 at hf
      refine lv_iload_n hx hb dX6_choose_7 rfl (lv_at hl 1 rfl) ?_
      refine lv_aload_n hx hb dX6_choose_8 rfl (lv_at hl 0 rfl) ?_
      refine va_get (D := D) (ci := 6) (v := .int F_size) (C := RX6) (T := TX6) (N := 33) hx hb hts iX6 hown hK.1 hP 0 rfl rfl 14 (by decide) k79 (fun _ h9 => h9) rfl dX6_choose_9 ?_
      refine lv_icmp_ge (tgt := 50) hx hb dX6_choose_12 (by decide) (fun c12 => ?_) (fun c12 => ?_)
      · have hf := ifp hf c12
        refine lv_iconst (v := (0 : Int32)) hx hb dX6_choose_50 (by decide) ?_
        refine lv_istore_n (lv' := [(1, .int (0 : Int32)), (0, .ref aF)]) hx hb dX6_choose_51 rfl hl (by decide) rfl (fun ls hl => ?_)
        exact b_52 FU (0 : Int32) F_keptBits F_keptMany F_takenMany F_takenPlace F_against hf _ _ _ hP hD hS (lv_sub hl [1, 0] rfl)
      · have hf := ifn hf c12
        refine lv_aload_n hx hb dX6_choose_15 rfl (lv_at hl 0 rfl) ?_
        refine lv_iload_n hx hb dX6_choose_16 rfl (lv_at hl 1 rfl) ?_
        refine bnd hf (fun o17 e17 hf => ?_)
        refine rdVi (As := [.int x1]) (rest := []) ⟨hx, hb, hml, hown, hts⟩ (tX6_takenFor l D cI cJ cG aF aF_kinds aF_vs aF_ws aF_roles aF_partner aF_lineOf aF_rank aF_behind aF_before aF_ways aF_inputOf aF_answer aF_values aF_printedRow aF_wasValues aF_wasPrinted aF_due aF_takenPlace aF_against H x1 F_lines F_model F_inputs F_size F_hints F_hasRun F_printedMany F_keptBits F_keptMany F_takenMany F_change F_who F_where F_h F_roles F_partner F_rank F_answer o17 e17) (cwV 1 hts gX6_choose_X6_takenFor rfl rfl rfl (by decide +kernel) ⟨Nat.le_of_ble_eq_true rfl, Nat.le_of_ble_eq_true rfl⟩) (va_recv (ci := 6) (q0 := 0) hK.1 hP rfl rfl) hK (hP.sub (ws' := [(aF, .inr (6, [.int F_lines, .ref aF_kinds, .ref aF_vs, .ref aF_ws, .ref aF_roles, .ref aF_partner, .int F_model, .ref aF_lineOf, .ref aF_rank, .ref aF_behind, .ref aF_before, .ref aF_ways, .int F_inputs, .ref aF_inputOf, .int F_size, .ref aF_answer, .int F_hints, .int F_hasRun, .ref aF_values, .int F_printedMany, .ref aF_printedRow, .ref aF_wasValues, .ref aF_wasPrinted, .ref aF_due, .int F_keptBits, .int F_keptMany, .int F_takenMany, .ref aF_takenPlace, .ref aF_against, .int F_change, .int F_who, .int F_where, .long F_h])), (aF_roles, eI cI 16 F_roles), (aF_partner, eI cI 16 F_partner), (aF_rank, eI cI 16 F_rank), (aF_answer, eI cI 16 F_answer)]) [0, 1, 2, 3, 5] rfl) rfl hl.1 rfl (lv_room (Nat.le_of_ble_eq_true rfl)) dX6_choose_17 ⟨Nat.le_of_ble_eq_true rfl, Nat.le_of_ble_eq_true rfl⟩ hS (fun locs hS => ?_)
        refine lv_iconst (v := (-1 : Int32)) hx hb dX6_choose_20 (by decide) ?_
        refine lv_icmp_eq (tgt := 44) hx hb dX6_choose_21 (by decide) (fun c21 => ?_) (fun c21 => ?_)
        · have hf := ifp hf c21
          refine lv_iinc (v := (x1 + (1 : Int32))) (lv' := [(1, .int (x1 + (1 : Int32))), (0, .ref aF)]) hx hb dX6_choose_44 hl (k := 1) rfl rfl (by decide) rfl (fun ls hl => ?_)
          refine lv_goto (tgt := 7) hx hb dX6_choose_47 (by decide) ?_
          exact ih (x1 + (1 : Int32)) F_keptBits F_keptMany F_takenMany F_takenPlace F_against hf _ _ _ hP hD hS (lv_sub hl [1, 0] rfl)
        · have hf := ifn hf c21
          refine lv_aload_n hx hb dX6_choose_24 rfl (lv_at hl 0 rfl) ?_
          refine va_get (D := D) (ci := 6) (v := .ref aF_takenPlace) (C := RX6) (T := TX6) (N := 33) hx hb hts iX6 hown hK.1 hP 0 rfl rfl 27 (by decide) k62 (fun _ h9 => h9) rfl dX6_choose_25 ?_
          refine lv_aload_n hx hb dX6_choose_28 rfl (lv_at hl 0 rfl) ?_
          refine va_get (D := D) (ci := 6) (v := .int F_takenMany) (C := RX6) (T := TX6) (N := 33) hx hb hts iX6 hown hK.1 hP 0 rfl rfl 26 (by decide) k142 (fun _ h9 => h9) rfl dX6_choose_29 ?_
          refine lv_iload_n hx hb dX6_choose_32 rfl (lv_at hl 1 rfl) ?_
          refine ckE hf (fun h33 hf => ?_)
          refine va_iast hx hb hK.1 hP hD hS 6 0 rfl rfl (inB_in h33) dX6_choose_33 (fun H locs hP hD hS => ?_)
          have hP : va_P D vwCl [(aF, .inr (6, [.int F_lines, .ref aF_kinds, .ref aF_vs, .ref aF_ws, .ref aF_roles, .ref aF_partner, .int F_model, .ref aF_lineOf, .ref aF_rank, .ref aF_behind, .ref aF_before, .ref aF_ways, .int F_inputs, .ref aF_inputOf, .int F_size, .ref aF_answer, .int F_hints, .int F_hasRun, .ref aF_values, .int F_printedMany, .ref aF_printedRow, .ref aF_wasValues, .ref aF_wasPrinted, .ref aF_due, .int F_keptBits, .int F_keptMany, .int F_takenMany, .ref aF_takenPlace, .ref aF_against, .int F_change, .int F_who, .int F_where, .long F_h])), (aF_roles, eI cI 16 F_roles), (aF_partner, eI cI 16 F_partner), (aF_rank, eI cI 16 F_rank), (aF_behind, eI cI 12 F_behind), (aF_answer, eI cI 16 F_answer), (aF_takenPlace, eI cI 16 (upd F_takenPlace (F_takenMany).toNatClampNeg x1)), (aF_against, eI cI 16 F_against)] H := hP
          have hD : va_D A [(aF, .inr (6, [.int F_lines, .ref aF_kinds, .ref aF_vs, .ref aF_ws, .ref aF_roles, .ref aF_partner, .int F_model, .ref aF_lineOf, .ref aF_rank, .ref aF_behind, .ref aF_before, .ref aF_ways, .int F_inputs, .ref aF_inputOf, .int F_size, .ref aF_answer, .int F_hints, .int F_hasRun, .ref aF_values, .int F_printedMany, .ref aF_printedRow, .ref aF_wasValues, .ref aF_wasPrinted, .ref aF_due, .int F_keptBits, .int F_keptMany, .int F_takenMany, .ref aF_takenPlace, .ref aF_against, .int F_change, .int F_who, .int F_where, .long F_h])), (aF_roles, eI cI 16 F_roles), (aF_partner, eI cI 16 F_partner), (aF_rank, eI cI 16 F_rank), (aF_behind, eI cI 12 F_behind), (aF_answer, eI cI 16 F_answer), (aF_takenPlace, eI cI 16 (upd F_takenPlace (F_takenMany).toNatClampNeg x1)), (aF_against, eI cI 16 F_against)] := hD
          refine lv_aload_n hx hb dX6_choose_34 rfl (lv_at hl 0 rfl) ?_
          refine lv_dup hx hb dX6_choose_35 rfl ?_
          refine va_get (D := D) (ci := 6) (v := .int F_takenMany) (C := RX6) (T := TX6) (N := 33) hx hb hts iX6 hown hK.1 hP 0 rfl rfl 26 (by decide) k142 (fun _ h9 => h9) rfl dX6_choose_36 ?_
          refine lv_iconst (v := (1 : Int32)) hx hb dX6_choose_39 (by decide) ?_
          refine lv_iadd hx hb dX6_choose_40 ?_
          refine va_put (D := D) (ci := 6) (v := .int (F_takenMany + (1 : Int32))) (ty := .int) (C := RX6) (T := TX6) (N := 33) hx hb hts iX6 tyX6 tyX6_ok nmX6 hown hK.1 hP hD hS 0 rfl rfl 26 (by decide) k142 (fun _ h9 => h9) rfl (by decide +kernel) rfl rfl (Nat.le_of_ble_eq_true rfl) dX6_choose_41 (fun H locs hP hD hS => ?_)
          have hP : va_P D vwCl [(aF, .inr (6, [.int F_lines, .ref aF_kinds, .ref aF_vs, .ref aF_ws, .ref aF_roles, .ref aF_partner, .int F_model, .ref aF_lineOf, .ref aF_rank, .ref aF_behind, .ref aF_before, .ref aF_ways, .int F_inputs, .ref aF_inputOf, .int F_size, .ref aF_answer, .int F_hints, .int F_hasRun, .ref aF_values, .int F_printedMany, .ref aF_printedRow, .ref aF_wasValues, .ref aF_wasPrinted, .ref aF_due, .int F_keptBits, .int F_keptMany, .int (F_takenMany + (1 : Int32)), .ref aF_takenPlace, .ref aF_against, .int F_change, .int F_who, .int F_where, .long F_h])), (aF_roles, eI cI 16 F_roles), (aF_partner, eI cI 16 F_partner), (aF_rank, eI cI 16 F_rank), (aF_behind, eI cI 12 F_behind), (aF_answer, eI cI 16 F_answer), (aF_takenPlace, eI cI 16 (upd F_takenPlace (F_takenMany).toNatClampNeg x1)), (aF_against, eI cI 16 F_against)] H := hP
          have hD : va_D A [(aF, .inr (6, [.int F_lines, .ref aF_kinds, .ref aF_vs, .ref aF_ws, .ref aF_roles, .ref aF_partner, .int F_model, .ref aF_lineOf, .ref aF_rank, .ref aF_behind, .ref aF_before, .ref aF_ways, .int F_inputs, .ref aF_inputOf, .int F_size, .ref aF_answer, .int F_hints, .int F_hasRun, .ref aF_values, .int F_printedMany, .ref aF_printedRow, .ref aF_wasValues, .ref aF_wasPrinted, .ref aF_due, .int F_keptBits, .int F_keptMany, .int (F_takenMany + (1 : Int32)), .ref aF_takenPlace, .ref aF_against, .int F_change, .int F_who, .int F_where, .long F_h])), (aF_roles, eI cI 16 F_roles), (aF_partner, eI cI 16 F_partner), (aF_rank, eI cI 16 F_rank), (aF_behind, eI cI 12 F_behind), (aF_answer, eI cI 16 F_answer), (aF_takenPlace, eI cI 16 (upd F_takenPlace (F_takenMany).toNatClampNeg x1)), (aF_against, eI cI 16 F_against)] := hD
          refine lv_iinc (v := (x1 + (1 : Int32))) (lv' := [(1, .int (x1 + (1 : Int32))), (0, .ref aF)]) hx hb dX6_choose_44 hl (k := 1) rfl rfl (by decide) rfl (fun ls hl => ?_)
          refine lv_goto (tgt := 7) hx hb dX6_choose_47 (by decide) ?_
          exact ih (x1 + (1 : Int32)) F_keptBits F_keptMany (F_takenMany + (1 : Int32)) (upd F_takenPlace (F_takenMany).toNatClampNeg x1) F_against hf _ _ _ hP hD hS (lv_sub hl [1, 0] rfl)
  generalize hHH : s.heap = H at hP ⊢
  have hS : va_S A s.heap H [] := by rw [← hHH]; exact va_S.rf
  generalize ([] : List Loc) = locs at hS ⊢
  unfold fX6_choose at hf
  refine lv_aload_n hx hb dX6_choose_0 rfl (lv_at hl 0 rfl) ?_
  refine lv_iconst (v := (0 : Int32)) hx hb dX6_choose_1 (by decide) ?_
  refine va_put (D := D) (ci := 6) (v := .int (0 : Int32)) (ty := .int) (C := RX6) (T := TX6) (N := 33) hx hb hts iX6 tyX6 tyX6_ok nmX6 hown hK.1 hP hD hS 0 rfl rfl 26 (by decide) k142 (fun _ h9 => h9) rfl (by decide +kernel) rfl rfl (Nat.le_of_ble_eq_true rfl) dX6_choose_2 (fun H locs hP hD hS => ?_)
  have hP : va_P D vwCl [(aF, .inr (6, [.int F_lines, .ref aF_kinds, .ref aF_vs, .ref aF_ws, .ref aF_roles, .ref aF_partner, .int F_model, .ref aF_lineOf, .ref aF_rank, .ref aF_behind, .ref aF_before, .ref aF_ways, .int F_inputs, .ref aF_inputOf, .int F_size, .ref aF_answer, .int F_hints, .int F_hasRun, .ref aF_values, .int F_printedMany, .ref aF_printedRow, .ref aF_wasValues, .ref aF_wasPrinted, .ref aF_due, .int F_keptBits, .int F_keptMany, .int (0 : Int32), .ref aF_takenPlace, .ref aF_against, .int F_change, .int F_who, .int F_where, .long F_h])), (aF_roles, eI cI 16 F_roles), (aF_partner, eI cI 16 F_partner), (aF_rank, eI cI 16 F_rank), (aF_behind, eI cI 12 F_behind), (aF_answer, eI cI 16 F_answer), (aF_takenPlace, eI cI 16 F_takenPlace), (aF_against, eI cI 16 F_against)] H := hP
  have hD : va_D A [(aF, .inr (6, [.int F_lines, .ref aF_kinds, .ref aF_vs, .ref aF_ws, .ref aF_roles, .ref aF_partner, .int F_model, .ref aF_lineOf, .ref aF_rank, .ref aF_behind, .ref aF_before, .ref aF_ways, .int F_inputs, .ref aF_inputOf, .int F_size, .ref aF_answer, .int F_hints, .int F_hasRun, .ref aF_values, .int F_printedMany, .ref aF_printedRow, .ref aF_wasValues, .ref aF_wasPrinted, .ref aF_due, .int F_keptBits, .int F_keptMany, .int (0 : Int32), .ref aF_takenPlace, .ref aF_against, .int F_change, .int F_who, .int F_where, .long F_h])), (aF_roles, eI cI 16 F_roles), (aF_partner, eI cI 16 F_partner), (aF_rank, eI cI 16 F_rank), (aF_behind, eI cI 12 F_behind), (aF_answer, eI cI 16 F_answer), (aF_takenPlace, eI cI 16 F_takenPlace), (aF_against, eI cI 16 F_against)] := hD
  refine lv_iconst (v := (0 : Int32)) hx hb dX6_choose_5 (by decide) ?_
  refine lv_istore_n (lv' := [(1, .int (0 : Int32)), (0, .ref aF)]) hx hb dX6_choose_6 rfl hl (by decide) rfl (fun ls hl => ?_)
  exact b_7 FU (0 : Int32) F_keptBits F_keptMany (0 : Int32) F_takenPlace F_against hf _ _ _ hP hD hS (lv_sub hl [1, 0] rfl)

set_option maxHeartbeats 4000000 in
set_option maxRecDepth 100000 in
theorem tX6_markOf (l : Launch) (D : va_G) (cI cJ cG : ClassId) (aF aF_kinds aF_vs aF_ws aF_roles aF_partner aF_lineOf aF_rank aF_behind aF_before aF_ways aF_inputOf aF_answer aF_values aF_printedRow aF_wasValues aF_wasPrinted aF_due aF_takenPlace aF_against : Nat) (sz : Nat)  (F_lines : Int32) (F_model : Int32) (F_inputs : Int32) (F_size : Int32) (F_hints : Int32) (F_hasRun : Int32) (F_printedMany : Int32) (F_keptBits : Int32) (F_keptMany : Int32) (F_takenMany : Int32) (F_change : Int32) (F_who : Int32) (F_where : Int32) (F_h : Int64) (F_roles : (Nat → Int32)) (F_partner : (Nat → Int32)) (F_rank : (Nat → Int32)) (F_behind : (Nat → Int32)) (F_answer : (Nat → Int32)) (F_takenPlace : (Nat → Int32)) (F_against : (Nat → Int32)) (out : Int32 × Int32 × Int32 × Int32 × (Nat → Int32) × (Nat → Int32)) (hf : fX6_markOf F_model F_size F_keptBits F_keptMany F_takenMany F_roles F_partner F_rank F_behind F_answer F_takenPlace F_against = some out) : Met l yX6_markOf wsX6_markOf ({ frames := 3, cells := 0, slots := 0, locals := 70 }) (va_Pc [.ref aF] (wP D (tyL cI cJ cG) [(aF, .inr (6, [.int F_lines, .ref aF_kinds, .ref aF_vs, .ref aF_ws, .ref aF_roles, .ref aF_partner, .int F_model, .ref aF_lineOf, .ref aF_rank, .ref aF_behind, .ref aF_before, .ref aF_ways, .int F_inputs, .ref aF_inputOf, .int F_size, .ref aF_answer, .int F_hints, .int F_hasRun, .ref aF_values, .int F_printedMany, .ref aF_printedRow, .ref aF_wasValues, .ref aF_wasPrinted, .ref aF_due, .int F_keptBits, .int F_keptMany, .int F_takenMany, .ref aF_takenPlace, .ref aF_against, .int F_change, .int F_who, .int F_where, .long F_h])), (aF_roles, eI cI 16 F_roles), (aF_partner, eI cI 16 F_partner), (aF_rank, eI cI 16 F_rank), (aF_behind, eI cI 12 F_behind), (aF_answer, eI cI 16 F_answer), (aF_takenPlace, eI cI 16 F_takenPlace), (aF_against, eI cI 16 F_against)] sz)) (wQi D out.1 [(aF, .inr (6, [.int F_lines, .ref aF_kinds, .ref aF_vs, .ref aF_ws, .ref aF_roles, .ref aF_partner, .int F_model, .ref aF_lineOf, .ref aF_rank, .ref aF_behind, .ref aF_before, .ref aF_ways, .int F_inputs, .ref aF_inputOf, .int F_size, .ref aF_answer, .int F_hints, .int F_hasRun, .ref aF_values, .int F_printedMany, .ref aF_printedRow, .ref aF_wasValues, .ref aF_wasPrinted, .ref aF_due, .int F_keptBits, .int F_keptMany, .int F_takenMany, .ref aF_takenPlace, .ref aF_against, .int F_change, .int F_who, .int F_where, .long F_h])), (aF_roles, eI cI 16 F_roles), (aF_partner, eI cI 16 F_partner), (aF_rank, eI cI 16 F_rank), (aF_behind, eI cI 12 F_behind), (aF_answer, eI cI 16 F_answer), (aF_takenPlace, eI cI 16 F_takenPlace), (aF_against, eI cI 16 F_against)] [(aF, .inr (6, [.int F_lines, .ref aF_kinds, .ref aF_vs, .ref aF_ws, .ref aF_roles, .ref aF_partner, .int F_model, .ref aF_lineOf, .ref aF_rank, .ref aF_behind, .ref aF_before, .ref aF_ways, .int F_inputs, .ref aF_inputOf, .int F_size, .ref aF_answer, .int F_hints, .int F_hasRun, .ref aF_values, .int F_printedMany, .ref aF_printedRow, .ref aF_wasValues, .ref aF_wasPrinted, .ref aF_due, .int out.2.1, .int out.2.2.1, .int out.2.2.2.1, .ref aF_takenPlace, .ref aF_against, .int F_change, .int F_who, .int F_where, .long F_h])), (aF_roles, eI cI 16 F_roles), (aF_partner, eI cI 16 F_partner), (aF_rank, eI cI 16 F_rank), (aF_behind, eI cI 12 F_behind), (aF_answer, eI cI 16 F_answer), (aF_takenPlace, eI cI 16 out.2.2.2.2.1), (aF_against, eI cI 16 out.2.2.2.2.2)] sz) 0 0 (va_A [(aF, .inr (6, [.int F_lines, .ref aF_kinds, .ref aF_vs, .ref aF_ws, .ref aF_roles, .ref aF_partner, .int F_model, .ref aF_lineOf, .ref aF_rank, .ref aF_behind, .ref aF_before, .ref aF_ways, .int F_inputs, .ref aF_inputOf, .int F_size, .ref aF_answer, .int F_hints, .int F_hasRun, .ref aF_values, .int F_printedMany, .ref aF_printedRow, .ref aF_wasValues, .ref aF_wasPrinted, .ref aF_due, .int F_keptBits, .int F_keptMany, .int F_takenMany, .ref aF_takenPlace, .ref aF_against, .int F_change, .int F_who, .int F_where, .long F_h])), (aF_roles, eI cI 16 F_roles), (aF_partner, eI cI 16 F_partner), (aF_rank, eI cI 16 F_rank), (aF_behind, eI cI 12 F_behind), (aF_answer, eI cI 16 F_answer), (aF_takenPlace, eI cI 16 F_takenPlace), (aF_against, eI cI 16 F_against)] sz) := by
  refine Met.ofW (cc := cX6_markOf) (maxL := 3) (ret := (some .int)) (by decide) rfl ?_
  intro p e s m args below meth c s₁ B hml hv
  obtain ⟨rfl, hsz, hP, hK, hD0⟩ := hv
  have hx := B.exec
  have hb := B.bytes
  have hr := B.returns
  have hts := atoms_spec (ws := wsX6_markOf) B.pre
  have hown : s.vm.findClass RX6 = some m.cls := findClass_of_methodNamed B.named
  have hlocks := B.notSynchronized
  have iX6 : ∀ w ∈ wsX60, w ∈ wsX6_markOf := by decide +kernel
  have k19 := hts (.fieldLink RX6 19 "BlockMarkerModel" "roles" "[I") (by decide +kernel)
  have k44 := hts (.fieldLink RX6 44 "BlockMarkerModel" "answer" "[I") (by decide +kernel)
  have k79 := hts (.fieldLink RX6 79 "BlockMarkerModel" "size" "I") (by decide +kernel)
  have k82 := hts (.fieldLink RX6 82 "BlockMarkerModel" "model" "I") (by decide +kernel)
  have k142 := hts (.fieldLink RX6 142 "BlockMarkerModel" "takenMany" "I") (by decide +kernel)
  have k151 := hts (.fieldLink RX6 151 "BlockMarkerModel" "keptMany" "I") (by decide +kernel)
  subst hsz
  have hD := hD0.self (sz := s.heap.size)
  generalize hAe : va_A [(aF, .inr (6, [.int F_lines, .ref aF_kinds, .ref aF_vs, .ref aF_ws, .ref aF_roles, .ref aF_partner, .int F_model, .ref aF_lineOf, .ref aF_rank, .ref aF_behind, .ref aF_before, .ref aF_ways, .int F_inputs, .ref aF_inputOf, .int F_size, .ref aF_answer, .int F_hints, .int F_hasRun, .ref aF_values, .int F_printedMany, .ref aF_printedRow, .ref aF_wasValues, .ref aF_wasPrinted, .ref aF_due, .int F_keptBits, .int F_keptMany, .int F_takenMany, .ref aF_takenPlace, .ref aF_against, .int F_change, .int F_who, .int F_where, .long F_h])), (aF_roles, eI cI 16 F_roles), (aF_partner, eI cI 16 F_partner), (aF_rank, eI cI 16 F_rank), (aF_behind, eI cI 12 F_behind), (aF_answer, eI cI 16 F_answer), (aF_takenPlace, eI cI 16 F_takenPlace), (aF_against, eI cI 16 F_against)] s.heap.size = A at hD ⊢
  have hA : ∀ q : Nat, s.heap.size ≤ q → A q := fun q h => by rw [← hAe]; exact Or.inr h
  have hS : va_S A s.heap s.heap [] := va_S.rf
  have hl := lv_entry ([.ref aF]) (n := 3) (Nat.le_of_ble_eq_true rfl)
  rw [lg_entry_eq]
  generalize (lg_sl ([.ref aF]) ++ List.replicate (3 - (lg_sl ([.ref aF])).length) Slot.unset).toArray = ls at hl ⊢
  have hl : lv_has ls 3 [(0, .ref aF)] := hl
  generalize hQQ : MQ below _ _ s 0 0 _ = QQ
  replace hQQ := hQQ.symm
  have b_26 : ∀ (n : Nat), ∀ (x1 : Int32) (x2 : Int32) (F_keptBits : Int32) (F_keptMany : Int32) (F_takenMany : Int32) (F_takenPlace : (Nat → Int32)) (F_against : (Nat → Int32)), fX6_markOf_h26  n x1 x2 F_model F_size F_keptBits F_keptMany F_takenMany F_roles F_partner F_rank F_behind F_answer F_takenPlace F_against = some out → ∀ (H : Heap) (locs : List Loc) (ls : Array Slot), va_P D vwCl [(aF, .inr (6, [.int F_lines, .ref aF_kinds, .ref aF_vs, .ref aF_ws, .ref aF_roles, .ref aF_partner, .int F_model, .ref aF_lineOf, .ref aF_rank, .ref aF_behind, .ref aF_before, .ref aF_ways, .int F_inputs, .ref aF_inputOf, .int F_size, .ref aF_answer, .int F_hints, .int F_hasRun, .ref aF_values, .int F_printedMany, .ref aF_printedRow, .ref aF_wasValues, .ref aF_wasPrinted, .ref aF_due, .int F_keptBits, .int F_keptMany, .int F_takenMany, .ref aF_takenPlace, .ref aF_against, .int F_change, .int F_who, .int F_where, .long F_h])), (aF_roles, eI cI 16 F_roles), (aF_partner, eI cI 16 F_partner), (aF_rank, eI cI 16 F_rank), (aF_behind, eI cI 12 F_behind), (aF_answer, eI cI 16 F_answer), (aF_takenPlace, eI cI 16 F_takenPlace), (aF_against, eI cI 16 F_against)] H → va_D A [(aF, .inr (6, [.int F_lines, .ref aF_kinds, .ref aF_vs, .ref aF_ws, .ref aF_roles, .ref aF_partner, .int F_model, .ref aF_lineOf, .ref aF_rank, .ref aF_behind, .ref aF_before, .ref aF_ways, .int F_inputs, .ref aF_inputOf, .int F_size, .ref aF_answer, .int F_hints, .int F_hasRun, .ref aF_values, .int F_printedMany, .ref aF_printedRow, .ref aF_wasValues, .ref aF_wasPrinted, .ref aF_due, .int F_keptBits, .int F_keptMany, .int F_takenMany, .ref aF_takenPlace, .ref aF_against, .int F_change, .int F_who, .int F_where, .long F_h])), (aF_roles, eI cI 16 F_roles), (aF_partner, eI cI 16 F_partner), (aF_rank, eI cI 16 F_rank), (aF_behind, eI cI 12 F_behind), (aF_answer, eI cI 16 F_answer), (aF_takenPlace, eI cI 16 F_takenPlace), (aF_against, eI cI 16 F_against)] → va_S A s.heap H locs → lv_has ls 3 [(0, .ref aF), (1, .int x1), (2, .int x2)] → W p l e (headSpec wsX6_markOf { frames := 3, cells := 0, slots := 0, locals := 70 }).room s m ([.ref aF] : List Value).toArray below meth c H locs 0 0 QQ (F0 m 26 ls []) := by
    intro  n
    induction n with
    | zero => intro x1 x2 F_keptBits F_keptMany F_takenMany F_takenPlace F_against hf; exact nomatch (show (none : Option (Int32 × Int32 × Int32 × Int32 × (Nat → Int32) × (Nat → Int32))) = some out from hf)
    | succ n ih =>
      intro x1 x2 F_keptBits F_keptMany F_takenMany F_takenPlace F_against hf H locs ls hP hD hS hl
      replace hf : uX6_markOf_h26  (fX6_markOf_h26  n) x1 x2 F_model F_size F_keptBits F_keptMany F_takenMany F_roles F_partner F_rank F_behind F_answer F_takenPlace F_against = some out := hf
      unfold uX6_markOf_h26 at hf
      refine lv_iload_n hx hb dX6_markOf_26 rfl (lv_at hl 2 rfl) ?_
      refine lv_aload_n hx hb dX6_markOf_27 rfl (lv_at hl 0 rfl) ?_
      refine va_get (D := D) (ci := 6) (v := .int F_size) (C := RX6) (T := TX6) (N := 33) hx hb hts iX6 hown hK.1 hP 0 rfl rfl 14 (by decide) k79 (fun _ h9 => h9) rfl dX6_markOf_28 ?_
      refine lv_icmp_ge (tgt := 62) hx hb dX6_markOf_31 (by decide) (fun c31 => ?_) (fun c31 => ?_)
      · have hf := ifp hf c31
        refine lv_iload_n hx hb dX6_markOf_62 rfl (lv_at hl 1 rfl) ?_
        rw [hQQ]
        exact W.iret (v := x1) hx hb hr (fun t ht hW => by rw [← Option.some.inj hf]; rw [← hAe] at hD hS; exact ⟨⟨x1, (), rfl, rfl, by rw [ht]; exact hP, hD⟩, hS.F ht⟩) hS.2.2 dX6_markOf_63
      · have hf := ifn hf c31
        refine lv_iload_n hx hb dX6_markOf_34 rfl (lv_at hl 1 rfl) ?_
        refine lv_aload_n hx hb dX6_markOf_35 rfl (lv_at hl 0 rfl) ?_
        refine va_get (D := D) (ci := 6) (v := .ref aF_roles) (C := RX6) (T := TX6) (N := 33) hx hb hts iX6 hown hK.1 hP 0 rfl rfl 4 (by decide) k19 (fun _ h9 => h9) rfl dX6_markOf_36 ?_
        refine lv_aload_n hx hb dX6_markOf_39 rfl (lv_at hl 0 rfl) ?_
        refine va_get (D := D) (ci := 6) (v := .ref aF_answer) (C := RX6) (T := TX6) (N := 33) hx hb hts iX6 hown hK.1 hP 0 rfl rfl 15 (by decide) k44 (fun _ h9 => h9) rfl dX6_markOf_40 ?_
        refine lv_iload_n hx hb dX6_markOf_43 rfl (lv_at hl 2 rfl) ?_
        refine ckE hf (fun h44 hf => ?_)
        refine va_iald hx hb hK.1 hP 5 0 rfl rfl (inB_in h44) dX6_markOf_44 ?_
        refine ckE hf (fun h45 hf => ?_)
        refine va_iald hx hb hK.1 hP 1 0 rfl rfl (inB_in h45) dX6_markOf_45 ?_
        refine lv_if_eq (tgt := 53) hx hb dX6_markOf_46 (by decide) (fun c46 => ?_) (fun c46 => ?_)
        · have hf := ifp hf c46
          refine lv_iconst (v := (0 : Int32)) hx hb dX6_markOf_53 (by decide) ?_
          refine lv_iadd hx hb dX6_markOf_54 ?_
          refine lv_istore_n (lv' := [(1, .int (x1 + (0 : Int32))), (0, .ref aF), (2, .int x2)]) hx hb dX6_markOf_55 rfl hl (by decide) rfl (fun ls hl => ?_)
          refine lv_iinc (v := (x2 + (1 : Int32))) (lv' := [(2, .int (x2 + (1 : Int32))), (1, .int (x1 + (0 : Int32))), (0, .ref aF)]) hx hb dX6_markOf_56 hl (k := 2) rfl rfl (by decide) rfl (fun ls hl => ?_)
          refine lv_goto (tgt := 26) hx hb dX6_markOf_59 (by decide) ?_
          exact ih (x1 + (0 : Int32)) (x2 + (1 : Int32)) F_keptBits F_keptMany F_takenMany F_takenPlace F_against hf _ _ _ hP hD hS (lv_sub hl [2, 1, 0] rfl)
        · have hf := ifn hf c46
          refine lv_iconst (v := (1 : Int32)) hx hb dX6_markOf_49 (by decide) ?_
          refine lv_goto (tgt := 54) hx hb dX6_markOf_50 (by decide) ?_
          refine lv_iadd hx hb dX6_markOf_54 ?_
          refine lv_istore_n (lv' := [(1, .int (x1 + (1 : Int32))), (0, .ref aF), (2, .int x2)]) hx hb dX6_markOf_55 rfl hl (by decide) rfl (fun ls hl => ?_)
          refine lv_iinc (v := (x2 + (1 : Int32))) (lv' := [(2, .int (x2 + (1 : Int32))), (1, .int (x1 + (1 : Int32))), (0, .ref aF)]) hx hb dX6_markOf_56 hl (k := 2) rfl rfl (by decide) rfl (fun ls hl => ?_)
          refine lv_goto (tgt := 26) hx hb dX6_markOf_59 (by decide) ?_
          exact ih (x1 + (1 : Int32)) (x2 + (1 : Int32)) F_keptBits F_keptMany F_takenMany F_takenPlace F_against hf _ _ _ hP hD hS (lv_sub hl [2, 1, 0] rfl)
  generalize hHH : s.heap = H at hP ⊢
  have hS : va_S A s.heap H [] := by rw [← hHH]; exact va_S.rf
  generalize ([] : List Loc) = locs at hS ⊢
  unfold fX6_markOf at hf
  refine lv_aload_n hx hb dX6_markOf_0 rfl (lv_at hl 0 rfl) ?_
  refine bnd hf (fun o1 e1 hf => ?_)
  refine wrVv (As := []) (rest := []) (cw := [(aF, .inr (6, [.int F_lines, .ref aF_kinds, .ref aF_vs, .ref aF_ws, .ref aF_roles, .ref aF_partner, .int F_model, .ref aF_lineOf, .ref aF_rank, .ref aF_behind, .ref aF_before, .ref aF_ways, .int F_inputs, .ref aF_inputOf, .int F_size, .ref aF_answer, .int F_hints, .int F_hasRun, .ref aF_values, .int F_printedMany, .ref aF_printedRow, .ref aF_wasValues, .ref aF_wasPrinted, .ref aF_due, .int F_keptBits, .int F_keptMany, .int F_takenMany, .ref aF_takenPlace, .ref aF_against, .int F_change, .int F_who, .int F_where, .long F_h])), (aF_roles, eI cI 16 F_roles), (aF_partner, eI cI 16 F_partner), (aF_rank, eI cI 16 F_rank), (aF_behind, eI cI 12 F_behind), (aF_answer, eI cI 16 F_answer), (aF_takenPlace, eI cI 16 F_takenPlace), (aF_against, eI cI 16 F_against)]) (cw' := [(aF, .inr (6, [.int F_lines, .ref aF_kinds, .ref aF_vs, .ref aF_ws, .ref aF_roles, .ref aF_partner, .int F_model, .ref aF_lineOf, .ref aF_rank, .ref aF_behind, .ref aF_before, .ref aF_ways, .int F_inputs, .ref aF_inputOf, .int F_size, .ref aF_answer, .int F_hints, .int F_hasRun, .ref aF_values, .int F_printedMany, .ref aF_printedRow, .ref aF_wasValues, .ref aF_wasPrinted, .ref aF_due, .int o1.1, .int o1.2.1, .int o1.2.2.1, .ref aF_takenPlace, .ref aF_against, .int F_change, .int F_who, .int F_where, .long F_h])), (aF_roles, eI cI 16 F_roles), (aF_partner, eI cI 16 F_partner), (aF_rank, eI cI 16 F_rank), (aF_behind, eI cI 12 F_behind), (aF_answer, eI cI 16 F_answer), (aF_takenPlace, eI cI 16 o1.2.2.2.1), (aF_against, eI cI 16 o1.2.2.2.2)]) (wr := []) (ws2 := [(aF, .inr (6, [.int F_lines, .ref aF_kinds, .ref aF_vs, .ref aF_ws, .ref aF_roles, .ref aF_partner, .int F_model, .ref aF_lineOf, .ref aF_rank, .ref aF_behind, .ref aF_before, .ref aF_ways, .int F_inputs, .ref aF_inputOf, .int F_size, .ref aF_answer, .int F_hints, .int F_hasRun, .ref aF_values, .int F_printedMany, .ref aF_printedRow, .ref aF_wasValues, .ref aF_wasPrinted, .ref aF_due, .int o1.1, .int o1.2.1, .int o1.2.2.1, .ref aF_takenPlace, .ref aF_against, .int F_change, .int F_who, .int F_where, .long F_h])), (aF_roles, eI cI 16 F_roles), (aF_partner, eI cI 16 F_partner), (aF_rank, eI cI 16 F_rank), (aF_behind, eI cI 12 F_behind), (aF_answer, eI cI 16 F_answer), (aF_takenPlace, eI cI 16 o1.2.2.2.1), (aF_against, eI cI 16 o1.2.2.2.2)]) ⟨hx, hb, hml, hown, hts⟩ (tX6_choose l D cI cJ cG aF aF_kinds aF_vs aF_ws aF_roles aF_partner aF_lineOf aF_rank aF_behind aF_before aF_ways aF_inputOf aF_answer aF_values aF_printedRow aF_wasValues aF_wasPrinted aF_due aF_takenPlace aF_against H.size  F_lines F_model F_inputs F_size F_hints F_hasRun F_printedMany F_keptBits F_keptMany F_takenMany F_change F_who F_where F_h F_roles F_partner F_rank F_behind F_answer F_takenPlace F_against o1 e1) (cwV 0 hts gX6_markOf_X6_choose rfl rfl rfl (by decide +kernel) ⟨Nat.le_of_ble_eq_true rfl, Nat.le_of_ble_eq_true rfl⟩) (va_recv (ci := 6) (q0 := 0) hK.1 hP rfl rfl) hK hP hD hS hA [0, 1, 2, 3, 4, 5, 6, 7] [] [0, 1, 2, 3, 4, 5, 6, 7] rfl rfl rfl (by decide) (by decide) (by decide) (by decide) rfl hl.1 rfl (lv_room (Nat.le_of_ble_eq_true rfl)) dX6_markOf_1 ⟨Nat.le_of_ble_eq_true rfl, Nat.le_of_ble_eq_true rfl⟩ (fun H locs hP hD hS => ?_)
  refine lv_aload_n hx hb dX6_markOf_4 rfl (lv_at hl 0 rfl) ?_
  refine va_get (D := D) (ci := 6) (v := .int F_model) (C := RX6) (T := TX6) (N := 33) hx hb hts iX6 hown hK.1 hP 0 rfl rfl 6 (by decide) k82 (fun _ h9 => h9) rfl dX6_markOf_5 ?_
  refine lv_aload_n hx hb dX6_markOf_8 rfl (lv_at hl 0 rfl) ?_
  refine va_get (D := D) (ci := 6) (v := .int o1.2.2.1) (C := RX6) (T := TX6) (N := 33) hx hb hts iX6 hown hK.1 hP 0 rfl rfl 26 (by decide) k142 (fun _ h9 => h9) rfl dX6_markOf_9 ?_
  refine lv_isub hx hb dX6_markOf_12 ?_
  refine lv_aload_n hx hb dX6_markOf_13 rfl (lv_at hl 0 rfl) ?_
  refine va_get (D := D) (ci := 6) (v := .int o1.2.2.1) (C := RX6) (T := TX6) (N := 33) hx hb hts iX6 hown hK.1 hP 0 rfl rfl 26 (by decide) k142 (fun _ h9 => h9) rfl dX6_markOf_14 ?_
  refine lv_iadd hx hb dX6_markOf_17 ?_
  refine lv_aload_n hx hb dX6_markOf_18 rfl (lv_at hl 0 rfl) ?_
  refine va_get (D := D) (ci := 6) (v := .int o1.2.1) (C := RX6) (T := TX6) (N := 33) hx hb hts iX6 hown hK.1 hP 0 rfl rfl 25 (by decide) k151 (fun _ h9 => h9) rfl dX6_markOf_19 ?_
  refine lv_isub hx hb dX6_markOf_22 ?_
  refine lv_istore_n (lv' := [(1, .int (((F_model - o1.2.2.1) + o1.2.2.1) - o1.2.1)), (0, .ref aF)]) hx hb dX6_markOf_23 rfl hl (by decide) rfl (fun ls hl => ?_)
  refine lv_iconst (v := (0 : Int32)) hx hb dX6_markOf_24 (by decide) ?_
  refine lv_istore_n (lv' := [(2, .int (0 : Int32)), (1, .int (((F_model - o1.2.2.1) + o1.2.2.1) - o1.2.1)), (0, .ref aF)]) hx hb dX6_markOf_25 rfl hl (by decide) rfl (fun ls hl => ?_)
  exact b_26 FU (((F_model - o1.2.2.1) + o1.2.2.1) - o1.2.1) (0 : Int32) o1.1 o1.2.1 o1.2.2.1 o1.2.2.2.1 o1.2.2.2.2 hf _ _ _ hP hD hS (lv_sub hl [2, 1, 0] rfl)

set_option maxHeartbeats 4000000 in
set_option maxRecDepth 100000 in
theorem tX6_mark (l : Launch) (D : va_G) (cI cJ cG : ClassId) (aF aF_kinds aF_vs aF_ws aF_roles aF_partner aF_lineOf aF_rank aF_behind aF_before aF_ways aF_inputOf aF_answer aF_values aF_printedRow aF_wasValues aF_wasPrinted aF_due aF_takenPlace aF_against : Nat) (sz : Nat)  (F_lines : Int32) (F_model : Int32) (F_inputs : Int32) (F_size : Int32) (F_hints : Int32) (F_hasRun : Int32) (F_printedMany : Int32) (F_keptBits : Int32) (F_keptMany : Int32) (F_takenMany : Int32) (F_change : Int32) (F_who : Int32) (F_where : Int32) (F_h : Int64) (F_roles : (Nat → Int32)) (F_partner : (Nat → Int32)) (F_rank : (Nat → Int32)) (F_behind : (Nat → Int32)) (F_answer : (Nat → Int32)) (F_takenPlace : (Nat → Int32)) (F_against : (Nat → Int32)) (out : Int32 × Int32 × Int32 × Int32 × (Nat → Int32) × (Nat → Int32)) (hf : fX6_mark F_model F_size F_keptBits F_keptMany F_takenMany F_roles F_partner F_rank F_behind F_answer F_takenPlace F_against = some out) : Met l yX6_mark wsX6_mark ({ frames := 4, cells := 0, slots := 0, locals := 92 }) (va_Pc [.ref aF] (wP D (tyL cI cJ cG) [(aF, .inr (6, [.int F_lines, .ref aF_kinds, .ref aF_vs, .ref aF_ws, .ref aF_roles, .ref aF_partner, .int F_model, .ref aF_lineOf, .ref aF_rank, .ref aF_behind, .ref aF_before, .ref aF_ways, .int F_inputs, .ref aF_inputOf, .int F_size, .ref aF_answer, .int F_hints, .int F_hasRun, .ref aF_values, .int F_printedMany, .ref aF_printedRow, .ref aF_wasValues, .ref aF_wasPrinted, .ref aF_due, .int F_keptBits, .int F_keptMany, .int F_takenMany, .ref aF_takenPlace, .ref aF_against, .int F_change, .int F_who, .int F_where, .long F_h])), (aF_roles, eI cI 16 F_roles), (aF_partner, eI cI 16 F_partner), (aF_rank, eI cI 16 F_rank), (aF_behind, eI cI 12 F_behind), (aF_answer, eI cI 16 F_answer), (aF_takenPlace, eI cI 16 F_takenPlace), (aF_against, eI cI 16 F_against)] sz)) (wQi D out.1 [(aF, .inr (6, [.int F_lines, .ref aF_kinds, .ref aF_vs, .ref aF_ws, .ref aF_roles, .ref aF_partner, .int F_model, .ref aF_lineOf, .ref aF_rank, .ref aF_behind, .ref aF_before, .ref aF_ways, .int F_inputs, .ref aF_inputOf, .int F_size, .ref aF_answer, .int F_hints, .int F_hasRun, .ref aF_values, .int F_printedMany, .ref aF_printedRow, .ref aF_wasValues, .ref aF_wasPrinted, .ref aF_due, .int F_keptBits, .int F_keptMany, .int F_takenMany, .ref aF_takenPlace, .ref aF_against, .int F_change, .int F_who, .int F_where, .long F_h])), (aF_roles, eI cI 16 F_roles), (aF_partner, eI cI 16 F_partner), (aF_rank, eI cI 16 F_rank), (aF_behind, eI cI 12 F_behind), (aF_answer, eI cI 16 F_answer), (aF_takenPlace, eI cI 16 F_takenPlace), (aF_against, eI cI 16 F_against)] [(aF, .inr (6, [.int F_lines, .ref aF_kinds, .ref aF_vs, .ref aF_ws, .ref aF_roles, .ref aF_partner, .int F_model, .ref aF_lineOf, .ref aF_rank, .ref aF_behind, .ref aF_before, .ref aF_ways, .int F_inputs, .ref aF_inputOf, .int F_size, .ref aF_answer, .int F_hints, .int F_hasRun, .ref aF_values, .int F_printedMany, .ref aF_printedRow, .ref aF_wasValues, .ref aF_wasPrinted, .ref aF_due, .int out.2.1, .int out.2.2.1, .int out.2.2.2.1, .ref aF_takenPlace, .ref aF_against, .int F_change, .int F_who, .int F_where, .long F_h])), (aF_roles, eI cI 16 F_roles), (aF_partner, eI cI 16 F_partner), (aF_rank, eI cI 16 F_rank), (aF_behind, eI cI 12 F_behind), (aF_answer, eI cI 16 F_answer), (aF_takenPlace, eI cI 16 out.2.2.2.2.1), (aF_against, eI cI 16 out.2.2.2.2.2)] sz) 0 0 (va_A [(aF, .inr (6, [.int F_lines, .ref aF_kinds, .ref aF_vs, .ref aF_ws, .ref aF_roles, .ref aF_partner, .int F_model, .ref aF_lineOf, .ref aF_rank, .ref aF_behind, .ref aF_before, .ref aF_ways, .int F_inputs, .ref aF_inputOf, .int F_size, .ref aF_answer, .int F_hints, .int F_hasRun, .ref aF_values, .int F_printedMany, .ref aF_printedRow, .ref aF_wasValues, .ref aF_wasPrinted, .ref aF_due, .int F_keptBits, .int F_keptMany, .int F_takenMany, .ref aF_takenPlace, .ref aF_against, .int F_change, .int F_who, .int F_where, .long F_h])), (aF_roles, eI cI 16 F_roles), (aF_partner, eI cI 16 F_partner), (aF_rank, eI cI 16 F_rank), (aF_behind, eI cI 12 F_behind), (aF_answer, eI cI 16 F_answer), (aF_takenPlace, eI cI 16 F_takenPlace), (aF_against, eI cI 16 F_against)] sz) := by
  refine Met.ofW (cc := cX6_mark) (maxL := 1) (ret := (some .int)) (by decide) rfl ?_
  intro p e s m args below meth c s₁ B hml hv
  obtain ⟨rfl, hsz, hP, hK, hD0⟩ := hv
  have hx := B.exec
  have hb := B.bytes
  have hr := B.returns
  have hts := atoms_spec (ws := wsX6_mark) B.pre
  have hown : s.vm.findClass RX6 = some m.cls := findClass_of_methodNamed B.named
  have hlocks := B.notSynchronized
  subst hsz
  have hD := hD0.self (sz := s.heap.size)
  generalize hAe : va_A [(aF, .inr (6, [.int F_lines, .ref aF_kinds, .ref aF_vs, .ref aF_ws, .ref aF_roles, .ref aF_partner, .int F_model, .ref aF_lineOf, .ref aF_rank, .ref aF_behind, .ref aF_before, .ref aF_ways, .int F_inputs, .ref aF_inputOf, .int F_size, .ref aF_answer, .int F_hints, .int F_hasRun, .ref aF_values, .int F_printedMany, .ref aF_printedRow, .ref aF_wasValues, .ref aF_wasPrinted, .ref aF_due, .int F_keptBits, .int F_keptMany, .int F_takenMany, .ref aF_takenPlace, .ref aF_against, .int F_change, .int F_who, .int F_where, .long F_h])), (aF_roles, eI cI 16 F_roles), (aF_partner, eI cI 16 F_partner), (aF_rank, eI cI 16 F_rank), (aF_behind, eI cI 12 F_behind), (aF_answer, eI cI 16 F_answer), (aF_takenPlace, eI cI 16 F_takenPlace), (aF_against, eI cI 16 F_against)] s.heap.size = A at hD ⊢
  have hA : ∀ q : Nat, s.heap.size ≤ q → A q := fun q h => by rw [← hAe]; exact Or.inr h
  have hS : va_S A s.heap s.heap [] := va_S.rf
  have hl := lv_entry ([.ref aF]) (n := 1) (Nat.le_of_ble_eq_true rfl)
  rw [lg_entry_eq]
  generalize (lg_sl ([.ref aF]) ++ List.replicate (1 - (lg_sl ([.ref aF])).length) Slot.unset).toArray = ls at hl ⊢
  have hl : lv_has ls 1 [(0, .ref aF)] := hl
  generalize hQQ : MQ below _ _ s 0 0 _ = QQ
  replace hQQ := hQQ.symm
  generalize hHH : s.heap = H at hP ⊢
  have hS : va_S A s.heap H [] := by rw [← hHH]; exact va_S.rf
  generalize ([] : List Loc) = locs at hS ⊢
  unfold fX6_mark at hf
  refine lv_aload_n hx hb dX6_mark_0 rfl (lv_at hl 0 rfl) ?_
  refine bnd hf (fun o1 e1 hf => ?_)
  refine wrVi (As := []) (rest := []) (cw := [(aF, .inr (6, [.int F_lines, .ref aF_kinds, .ref aF_vs, .ref aF_ws, .ref aF_roles, .ref aF_partner, .int F_model, .ref aF_lineOf, .ref aF_rank, .ref aF_behind, .ref aF_before, .ref aF_ways, .int F_inputs, .ref aF_inputOf, .int F_size, .ref aF_answer, .int F_hints, .int F_hasRun, .ref aF_values, .int F_printedMany, .ref aF_printedRow, .ref aF_wasValues, .ref aF_wasPrinted, .ref aF_due, .int F_keptBits, .int F_keptMany, .int F_takenMany, .ref aF_takenPlace, .ref aF_against, .int F_change, .int F_who, .int F_where, .long F_h])), (aF_roles, eI cI 16 F_roles), (aF_partner, eI cI 16 F_partner), (aF_rank, eI cI 16 F_rank), (aF_behind, eI cI 12 F_behind), (aF_answer, eI cI 16 F_answer), (aF_takenPlace, eI cI 16 F_takenPlace), (aF_against, eI cI 16 F_against)]) (cw' := [(aF, .inr (6, [.int F_lines, .ref aF_kinds, .ref aF_vs, .ref aF_ws, .ref aF_roles, .ref aF_partner, .int F_model, .ref aF_lineOf, .ref aF_rank, .ref aF_behind, .ref aF_before, .ref aF_ways, .int F_inputs, .ref aF_inputOf, .int F_size, .ref aF_answer, .int F_hints, .int F_hasRun, .ref aF_values, .int F_printedMany, .ref aF_printedRow, .ref aF_wasValues, .ref aF_wasPrinted, .ref aF_due, .int o1.2.1, .int o1.2.2.1, .int o1.2.2.2.1, .ref aF_takenPlace, .ref aF_against, .int F_change, .int F_who, .int F_where, .long F_h])), (aF_roles, eI cI 16 F_roles), (aF_partner, eI cI 16 F_partner), (aF_rank, eI cI 16 F_rank), (aF_behind, eI cI 12 F_behind), (aF_answer, eI cI 16 F_answer), (aF_takenPlace, eI cI 16 o1.2.2.2.2.1), (aF_against, eI cI 16 o1.2.2.2.2.2)]) (wr := []) (ws2 := [(aF, .inr (6, [.int F_lines, .ref aF_kinds, .ref aF_vs, .ref aF_ws, .ref aF_roles, .ref aF_partner, .int F_model, .ref aF_lineOf, .ref aF_rank, .ref aF_behind, .ref aF_before, .ref aF_ways, .int F_inputs, .ref aF_inputOf, .int F_size, .ref aF_answer, .int F_hints, .int F_hasRun, .ref aF_values, .int F_printedMany, .ref aF_printedRow, .ref aF_wasValues, .ref aF_wasPrinted, .ref aF_due, .int o1.2.1, .int o1.2.2.1, .int o1.2.2.2.1, .ref aF_takenPlace, .ref aF_against, .int F_change, .int F_who, .int F_where, .long F_h])), (aF_roles, eI cI 16 F_roles), (aF_partner, eI cI 16 F_partner), (aF_rank, eI cI 16 F_rank), (aF_behind, eI cI 12 F_behind), (aF_answer, eI cI 16 F_answer), (aF_takenPlace, eI cI 16 o1.2.2.2.2.1), (aF_against, eI cI 16 o1.2.2.2.2.2)]) ⟨hx, hb, hml, hown, hts⟩ (tX6_markOf l D cI cJ cG aF aF_kinds aF_vs aF_ws aF_roles aF_partner aF_lineOf aF_rank aF_behind aF_before aF_ways aF_inputOf aF_answer aF_values aF_printedRow aF_wasValues aF_wasPrinted aF_due aF_takenPlace aF_against H.size  F_lines F_model F_inputs F_size F_hints F_hasRun F_printedMany F_keptBits F_keptMany F_takenMany F_change F_who F_where F_h F_roles F_partner F_rank F_behind F_answer F_takenPlace F_against o1 e1) (cwV 0 hts gX6_mark_X6_markOf rfl rfl rfl (by decide +kernel) ⟨Nat.le_of_ble_eq_true rfl, Nat.le_of_ble_eq_true rfl⟩) (va_recv (ci := 6) (q0 := 0) hK.1 hP rfl rfl) hK hP hD hS hA [0, 1, 2, 3, 4, 5, 6, 7] [] [0, 1, 2, 3, 4, 5, 6, 7] rfl rfl rfl (by decide) (by decide) (by decide) (by decide) rfl hl.1 rfl (lv_room (Nat.le_of_ble_eq_true rfl)) dX6_mark_1 ⟨Nat.le_of_ble_eq_true rfl, Nat.le_of_ble_eq_true rfl⟩ (fun H locs hP hD hS => ?_)
  rw [hQQ]
  exact W.iret (v := o1.1) hx hb hr (fun t ht hW => by rw [← Option.some.inj hf]; rw [← hAe] at hD hS; exact ⟨⟨o1.1, (), rfl, rfl, by rw [ht]; exact hP, hD⟩, hS.F ht⟩) hS.2.2 dX6_mark_4

set_option maxHeartbeats 4000000 in
set_option maxRecDepth 100000 in
theorem tX6_kept (l : Launch) (D : va_G) (cI cJ cG : ClassId) (aF aF_kinds aF_vs aF_ws aF_roles aF_partner aF_lineOf aF_rank aF_behind aF_before aF_ways aF_inputOf aF_answer aF_values aF_printedRow aF_wasValues aF_wasPrinted aF_due aF_takenPlace aF_against : Nat) (sz : Nat) (y1 : Int32) (F_lines : Int32) (F_model : Int32) (F_inputs : Int32) (F_size : Int32) (F_hints : Int32) (F_hasRun : Int32) (F_printedMany : Int32) (F_keptBits : Int32) (F_keptMany : Int32) (F_takenMany : Int32) (F_change : Int32) (F_who : Int32) (F_where : Int32) (F_h : Int64) (F_roles : (Nat → Int32)) (F_partner : (Nat → Int32)) (F_rank : (Nat → Int32)) (F_behind : (Nat → Int32)) (F_answer : (Nat → Int32)) (F_takenPlace : (Nat → Int32)) (F_against : (Nat → Int32)) (out : Int32 × Int32 × Int32 × Int32 × (Nat → Int32) × (Nat → Int32)) (hf : fX6_kept y1 F_size F_keptBits F_keptMany F_takenMany F_roles F_partner F_rank F_behind F_answer F_takenPlace F_against = some out) : Met l yX6_kept wsX6_kept ({ frames := 3, cells := 0, slots := 0, locals := 70 }) (va_Pc [.ref aF, .int y1] (wP D (tyL cI cJ cG) [(aF, .inr (6, [.int F_lines, .ref aF_kinds, .ref aF_vs, .ref aF_ws, .ref aF_roles, .ref aF_partner, .int F_model, .ref aF_lineOf, .ref aF_rank, .ref aF_behind, .ref aF_before, .ref aF_ways, .int F_inputs, .ref aF_inputOf, .int F_size, .ref aF_answer, .int F_hints, .int F_hasRun, .ref aF_values, .int F_printedMany, .ref aF_printedRow, .ref aF_wasValues, .ref aF_wasPrinted, .ref aF_due, .int F_keptBits, .int F_keptMany, .int F_takenMany, .ref aF_takenPlace, .ref aF_against, .int F_change, .int F_who, .int F_where, .long F_h])), (aF_roles, eI cI 16 F_roles), (aF_partner, eI cI 16 F_partner), (aF_rank, eI cI 16 F_rank), (aF_behind, eI cI 12 F_behind), (aF_answer, eI cI 16 F_answer), (aF_takenPlace, eI cI 16 F_takenPlace), (aF_against, eI cI 16 F_against)] sz)) (wQi D out.1 [(aF, .inr (6, [.int F_lines, .ref aF_kinds, .ref aF_vs, .ref aF_ws, .ref aF_roles, .ref aF_partner, .int F_model, .ref aF_lineOf, .ref aF_rank, .ref aF_behind, .ref aF_before, .ref aF_ways, .int F_inputs, .ref aF_inputOf, .int F_size, .ref aF_answer, .int F_hints, .int F_hasRun, .ref aF_values, .int F_printedMany, .ref aF_printedRow, .ref aF_wasValues, .ref aF_wasPrinted, .ref aF_due, .int F_keptBits, .int F_keptMany, .int F_takenMany, .ref aF_takenPlace, .ref aF_against, .int F_change, .int F_who, .int F_where, .long F_h])), (aF_roles, eI cI 16 F_roles), (aF_partner, eI cI 16 F_partner), (aF_rank, eI cI 16 F_rank), (aF_behind, eI cI 12 F_behind), (aF_answer, eI cI 16 F_answer), (aF_takenPlace, eI cI 16 F_takenPlace), (aF_against, eI cI 16 F_against)] [(aF, .inr (6, [.int F_lines, .ref aF_kinds, .ref aF_vs, .ref aF_ws, .ref aF_roles, .ref aF_partner, .int F_model, .ref aF_lineOf, .ref aF_rank, .ref aF_behind, .ref aF_before, .ref aF_ways, .int F_inputs, .ref aF_inputOf, .int F_size, .ref aF_answer, .int F_hints, .int F_hasRun, .ref aF_values, .int F_printedMany, .ref aF_printedRow, .ref aF_wasValues, .ref aF_wasPrinted, .ref aF_due, .int out.2.1, .int out.2.2.1, .int out.2.2.2.1, .ref aF_takenPlace, .ref aF_against, .int F_change, .int F_who, .int F_where, .long F_h])), (aF_roles, eI cI 16 F_roles), (aF_partner, eI cI 16 F_partner), (aF_rank, eI cI 16 F_rank), (aF_behind, eI cI 12 F_behind), (aF_answer, eI cI 16 F_answer), (aF_takenPlace, eI cI 16 out.2.2.2.2.1), (aF_against, eI cI 16 out.2.2.2.2.2)] sz) 0 0 (va_A [(aF, .inr (6, [.int F_lines, .ref aF_kinds, .ref aF_vs, .ref aF_ws, .ref aF_roles, .ref aF_partner, .int F_model, .ref aF_lineOf, .ref aF_rank, .ref aF_behind, .ref aF_before, .ref aF_ways, .int F_inputs, .ref aF_inputOf, .int F_size, .ref aF_answer, .int F_hints, .int F_hasRun, .ref aF_values, .int F_printedMany, .ref aF_printedRow, .ref aF_wasValues, .ref aF_wasPrinted, .ref aF_due, .int F_keptBits, .int F_keptMany, .int F_takenMany, .ref aF_takenPlace, .ref aF_against, .int F_change, .int F_who, .int F_where, .long F_h])), (aF_roles, eI cI 16 F_roles), (aF_partner, eI cI 16 F_partner), (aF_rank, eI cI 16 F_rank), (aF_behind, eI cI 12 F_behind), (aF_answer, eI cI 16 F_answer), (aF_takenPlace, eI cI 16 F_takenPlace), (aF_against, eI cI 16 F_against)] sz) := by
  refine Met.ofW (cc := cX6_kept) (maxL := 2) (ret := (some .int)) (by decide) rfl ?_
  intro p e s m args below meth c s₁ B hml hv
  obtain ⟨rfl, hsz, hP, hK, hD0⟩ := hv
  have hx := B.exec
  have hb := B.bytes
  have hr := B.returns
  have hts := atoms_spec (ws := wsX6_kept) B.pre
  have hown : s.vm.findClass RX6 = some m.cls := findClass_of_methodNamed B.named
  have hlocks := B.notSynchronized
  have iX6 : ∀ w ∈ wsX60, w ∈ wsX6_kept := by decide +kernel
  have k79 := hts (.fieldLink RX6 79 "BlockMarkerModel" "size" "I") (by decide +kernel)
  have k154 := hts (.fieldLink RX6 154 "BlockMarkerModel" "keptBits" "I") (by decide +kernel)
  subst hsz
  have hD := hD0.self (sz := s.heap.size)
  generalize hAe : va_A [(aF, .inr (6, [.int F_lines, .ref aF_kinds, .ref aF_vs, .ref aF_ws, .ref aF_roles, .ref aF_partner, .int F_model, .ref aF_lineOf, .ref aF_rank, .ref aF_behind, .ref aF_before, .ref aF_ways, .int F_inputs, .ref aF_inputOf, .int F_size, .ref aF_answer, .int F_hints, .int F_hasRun, .ref aF_values, .int F_printedMany, .ref aF_printedRow, .ref aF_wasValues, .ref aF_wasPrinted, .ref aF_due, .int F_keptBits, .int F_keptMany, .int F_takenMany, .ref aF_takenPlace, .ref aF_against, .int F_change, .int F_who, .int F_where, .long F_h])), (aF_roles, eI cI 16 F_roles), (aF_partner, eI cI 16 F_partner), (aF_rank, eI cI 16 F_rank), (aF_behind, eI cI 12 F_behind), (aF_answer, eI cI 16 F_answer), (aF_takenPlace, eI cI 16 F_takenPlace), (aF_against, eI cI 16 F_against)] s.heap.size = A at hD ⊢
  have hA : ∀ q : Nat, s.heap.size ≤ q → A q := fun q h => by rw [← hAe]; exact Or.inr h
  have hS : va_S A s.heap s.heap [] := va_S.rf
  have hl := lv_entry ([.ref aF, .int y1]) (n := 2) (Nat.le_of_ble_eq_true rfl)
  rw [lg_entry_eq]
  generalize (lg_sl ([.ref aF, .int y1]) ++ List.replicate (2 - (lg_sl ([.ref aF, .int y1])).length) Slot.unset).toArray = ls at hl ⊢
  have hl : lv_has ls 2 [(0, .ref aF), (1, .int y1)] := hl
  generalize hQQ : MQ below _ _ s 0 0 _ = QQ
  replace hQQ := hQQ.symm
  generalize hHH : s.heap = H at hP ⊢
  have hS : va_S A s.heap H [] := by rw [← hHH]; exact va_S.rf
  generalize ([] : List Loc) = locs at hS ⊢
  unfold fX6_kept at hf
  refine lv_iload_n hx hb dX6_kept_0 rfl (lv_at hl 1 rfl) ?_
  refine lv_iconst (v := (0 : Int32)) hx hb dX6_kept_1 (by decide) ?_
  refine lv_aload_n hx hb dX6_kept_2 rfl (lv_at hl 0 rfl) ?_
  refine va_get (D := D) (ci := 6) (v := .int F_size) (C := RX6) (T := TX6) (N := 33) hx hb hts iX6 hown hK.1 hP 0 rfl rfl 14 (by decide) k79 (fun _ h9 => h9) rfl dX6_kept_3 ?_
  refine lv_iconst (v := (1 : Int32)) hx hb dX6_kept_6 (by decide) ?_
  refine lv_isub hx hb dX6_kept_7 ?_
  refine bnd hf (fun o8 e8 hf => ?_)
  refine rdSi (As := [.int y1, .int (0 : Int32), .int (F_size - (1 : Int32))]) (rest := []) ⟨hx, hb, hml, hown, hts⟩ (tX6_in l D cI cJ cG  H y1 (0 : Int32) (F_size - (1 : Int32))  o8 e8) (va_cwS 3 hts gX6_kept_X6_in rfl rfl rfl (by decide +kernel) ⟨Nat.le_of_ble_eq_true rfl, Nat.le_of_ble_eq_true rfl⟩) hK (hP.sub (ws' := []) [] rfl) rfl hl.1 rfl (lv_room (Nat.le_of_ble_eq_true rfl)) dX6_kept_8 ⟨Nat.le_of_ble_eq_true rfl, Nat.le_of_ble_eq_true rfl⟩ hS (fun locs hS => ?_)
  refine lv_if_ne (tgt := 17) hx hb dX6_kept_11 (by decide) (fun c11 => ?_) (fun c11 => ?_)
  · have hf := ifn hf c11
    refine lv_aload_n hx hb dX6_kept_17 rfl (lv_at hl 0 rfl) ?_
    refine bnd hf (fun o18 e18 hf => ?_)
    refine wrVv (As := []) (rest := []) (cw := [(aF, .inr (6, [.int F_lines, .ref aF_kinds, .ref aF_vs, .ref aF_ws, .ref aF_roles, .ref aF_partner, .int F_model, .ref aF_lineOf, .ref aF_rank, .ref aF_behind, .ref aF_before, .ref aF_ways, .int F_inputs, .ref aF_inputOf, .int F_size, .ref aF_answer, .int F_hints, .int F_hasRun, .ref aF_values, .int F_printedMany, .ref aF_printedRow, .ref aF_wasValues, .ref aF_wasPrinted, .ref aF_due, .int F_keptBits, .int F_keptMany, .int F_takenMany, .ref aF_takenPlace, .ref aF_against, .int F_change, .int F_who, .int F_where, .long F_h])), (aF_roles, eI cI 16 F_roles), (aF_partner, eI cI 16 F_partner), (aF_rank, eI cI 16 F_rank), (aF_behind, eI cI 12 F_behind), (aF_answer, eI cI 16 F_answer), (aF_takenPlace, eI cI 16 F_takenPlace), (aF_against, eI cI 16 F_against)]) (cw' := [(aF, .inr (6, [.int F_lines, .ref aF_kinds, .ref aF_vs, .ref aF_ws, .ref aF_roles, .ref aF_partner, .int F_model, .ref aF_lineOf, .ref aF_rank, .ref aF_behind, .ref aF_before, .ref aF_ways, .int F_inputs, .ref aF_inputOf, .int F_size, .ref aF_answer, .int F_hints, .int F_hasRun, .ref aF_values, .int F_printedMany, .ref aF_printedRow, .ref aF_wasValues, .ref aF_wasPrinted, .ref aF_due, .int o18.1, .int o18.2.1, .int o18.2.2.1, .ref aF_takenPlace, .ref aF_against, .int F_change, .int F_who, .int F_where, .long F_h])), (aF_roles, eI cI 16 F_roles), (aF_partner, eI cI 16 F_partner), (aF_rank, eI cI 16 F_rank), (aF_behind, eI cI 12 F_behind), (aF_answer, eI cI 16 F_answer), (aF_takenPlace, eI cI 16 o18.2.2.2.1), (aF_against, eI cI 16 o18.2.2.2.2)]) (wr := []) (ws2 := [(aF, .inr (6, [.int F_lines, .ref aF_kinds, .ref aF_vs, .ref aF_ws, .ref aF_roles, .ref aF_partner, .int F_model, .ref aF_lineOf, .ref aF_rank, .ref aF_behind, .ref aF_before, .ref aF_ways, .int F_inputs, .ref aF_inputOf, .int F_size, .ref aF_answer, .int F_hints, .int F_hasRun, .ref aF_values, .int F_printedMany, .ref aF_printedRow, .ref aF_wasValues, .ref aF_wasPrinted, .ref aF_due, .int o18.1, .int o18.2.1, .int o18.2.2.1, .ref aF_takenPlace, .ref aF_against, .int F_change, .int F_who, .int F_where, .long F_h])), (aF_roles, eI cI 16 F_roles), (aF_partner, eI cI 16 F_partner), (aF_rank, eI cI 16 F_rank), (aF_behind, eI cI 12 F_behind), (aF_answer, eI cI 16 F_answer), (aF_takenPlace, eI cI 16 o18.2.2.2.1), (aF_against, eI cI 16 o18.2.2.2.2)]) ⟨hx, hb, hml, hown, hts⟩ (tX6_choose l D cI cJ cG aF aF_kinds aF_vs aF_ws aF_roles aF_partner aF_lineOf aF_rank aF_behind aF_before aF_ways aF_inputOf aF_answer aF_values aF_printedRow aF_wasValues aF_wasPrinted aF_due aF_takenPlace aF_against H.size  F_lines F_model F_inputs F_size F_hints F_hasRun F_printedMany F_keptBits F_keptMany F_takenMany F_change F_who F_where F_h F_roles F_partner F_rank F_behind F_answer F_takenPlace F_against o18 e18) (cwV 0 hts gX6_kept_X6_choose rfl rfl rfl (by decide +kernel) ⟨Nat.le_of_ble_eq_true rfl, Nat.le_of_ble_eq_true rfl⟩) (va_recv (ci := 6) (q0 := 0) hK.1 hP rfl rfl) hK hP hD hS hA [0, 1, 2, 3, 4, 5, 6, 7] [] [0, 1, 2, 3, 4, 5, 6, 7] rfl rfl rfl (by decide) (by decide) (by decide) (by decide) rfl hl.1 rfl (lv_room (Nat.le_of_ble_eq_true rfl)) dX6_kept_18 ⟨Nat.le_of_ble_eq_true rfl, Nat.le_of_ble_eq_true rfl⟩ (fun H locs hP hD hS => ?_)
    refine lv_aload_n hx hb dX6_kept_21 rfl (lv_at hl 0 rfl) ?_
    refine va_get (D := D) (ci := 6) (v := .int o18.1) (C := RX6) (T := TX6) (N := 33) hx hb hts iX6 hown hK.1 hP 0 rfl rfl 24 (by decide) k154 (fun _ h9 => h9) rfl dX6_kept_22 ?_
    refine lv_iload_n hx hb dX6_kept_25 rfl (lv_at hl 1 rfl) ?_
    refine lv_ishr hx hb dX6_kept_26 ?_
    refine lv_iconst (v := (1 : Int32)) hx hb dX6_kept_27 (by decide) ?_
    refine lv_iand hx hb dX6_kept_28 ?_
    rw [hQQ]
    exact W.iret (v := ((o18.1 >>> (y1 &&& 31)) &&& (1 : Int32))) hx hb hr (fun t ht hW => by rw [← Option.some.inj hf]; rw [← hAe] at hD hS; exact ⟨⟨((o18.1 >>> (y1 &&& 31)) &&& (1 : Int32)), (), rfl, rfl, by rw [ht]; exact hP, hD⟩, hS.F ht⟩) hS.2.2 dX6_kept_29
  · have hf := ifp hf c11
    refine lv_bipush (v := (-102 : Int32)) hx hb dX6_kept_14 (by decide) ?_
    rw [hQQ]
    exact W.iret (v := (-102 : Int32)) hx hb hr (fun t ht hW => by rw [← Option.some.inj hf]; rw [← hAe] at hD hS; exact ⟨⟨(-102 : Int32), (), rfl, rfl, by rw [ht]; exact hP, hD⟩, hS.F ht⟩) hS.2.2 dX6_kept_16

set_option maxHeartbeats 4000000 in
set_option maxRecDepth 100000 in
theorem tX6_placeFor (l : Launch) (D : va_G) (cI cJ cG : ClassId) (aF aF_kinds aF_vs aF_ws aF_roles aF_partner aF_lineOf aF_rank aF_behind aF_before aF_ways aF_inputOf aF_answer aF_values aF_printedRow aF_wasValues aF_wasPrinted aF_due aF_takenPlace aF_against : Nat) (Hs : Heap) (y1 : Int32) (y2 : Int32) (F_lines : Int32) (F_model : Int32) (F_inputs : Int32) (F_size : Int32) (F_hints : Int32) (F_hasRun : Int32) (F_printedMany : Int32) (F_keptBits : Int32) (F_keptMany : Int32) (F_takenMany : Int32) (F_change : Int32) (F_who : Int32) (F_where : Int32) (F_h : Int64) (F_roles : (Nat → Int32)) (F_partner : (Nat → Int32)) (F_rank : (Nat → Int32)) (F_behind : (Nat → Int32)) (F_answer : (Nat → Int32)) (out : Int32) (hf : fX6_placeFor y1 y2 F_size F_keptBits F_roles F_partner F_rank F_behind F_answer = some out) : Met l yX6_placeFor wsX6_placeFor ({ frames := 2, cells := 0, slots := 0, locals := 44 }) (va_Pc [.ref aF, .int y1, .int y2] (rP D (tyL cI cJ cG) [(aF, .inr (6, [.int F_lines, .ref aF_kinds, .ref aF_vs, .ref aF_ws, .ref aF_roles, .ref aF_partner, .int F_model, .ref aF_lineOf, .ref aF_rank, .ref aF_behind, .ref aF_before, .ref aF_ways, .int F_inputs, .ref aF_inputOf, .int F_size, .ref aF_answer, .int F_hints, .int F_hasRun, .ref aF_values, .int F_printedMany, .ref aF_printedRow, .ref aF_wasValues, .ref aF_wasPrinted, .ref aF_due, .int F_keptBits, .int F_keptMany, .int F_takenMany, .ref aF_takenPlace, .ref aF_against, .int F_change, .int F_who, .int F_where, .long F_h])), (aF_roles, eI cI 16 F_roles), (aF_partner, eI cI 16 F_partner), (aF_rank, eI cI 16 F_rank), (aF_behind, eI cI 12 F_behind), (aF_answer, eI cI 16 F_answer)] Hs)) (rQi out Hs) 0 0 (fun _ => False) := by
  refine Met.ofW (cc := cX6_placeFor) (maxL := 5) (ret := (some .int)) (by decide) rfl ?_
  intro p e s m args below meth c s₁ B hml hv
  obtain ⟨rfl, rfl, hP, hK⟩ := hv
  have hx := B.exec
  have hb := B.bytes
  have hr := B.returns
  have hts := atoms_spec (ws := wsX6_placeFor) B.pre
  have hown : s.vm.findClass RX6 = some m.cls := findClass_of_methodNamed B.named
  have hlocks := B.notSynchronized
  have iX6 : ∀ w ∈ wsX60, w ∈ wsX6_placeFor := by decide +kernel
  have k31 := hts (.fieldLink RX6 31 "BlockMarkerModel" "behind" "[I") (by decide +kernel)
  have k79 := hts (.fieldLink RX6 79 "BlockMarkerModel" "size" "I") (by decide +kernel)
  have k154 := hts (.fieldLink RX6 154 "BlockMarkerModel" "keptBits" "I") (by decide +kernel)
  have hS : va_S (fun _ => False) s.heap s.heap [] := va_S.rf
  have hl := lv_entry ([.ref aF, .int y1, .int y2]) (n := 5) (Nat.le_of_ble_eq_true rfl)
  rw [lg_entry_eq]
  generalize (lg_sl ([.ref aF, .int y1, .int y2]) ++ List.replicate (5 - (lg_sl ([.ref aF, .int y1, .int y2])).length) Slot.unset).toArray = ls at hl ⊢
  have hl : lv_has ls 5 [(0, .ref aF), (1, .int y1), (2, .int y2)] := hl
  generalize hQQ : MQ below _ _ s 0 0 _ = QQ
  replace hQQ := hQQ.symm
  have b_5 : ∀ (n : Nat), ∀ (x1 : Int32) (x2 : Int32) (x3 : Int32) (x4 : Int32), fX6_placeFor_h5  n x1 x2 x3 x4 F_size F_keptBits F_roles F_partner F_rank F_behind F_answer = some out → ∀ (locs : List Loc) (ls : Array Slot), va_S (fun _ => False) s.heap s.heap locs → lv_has ls 5 [(0, .ref aF), (1, .int x1), (2, .int x2), (3, .int x3), (4, .int x4)] → W p l e (headSpec wsX6_placeFor { frames := 2, cells := 0, slots := 0, locals := 44 }).room s m ([.ref aF, .int y1, .int y2] : List Value).toArray below meth c s.heap locs 0 0 QQ (F0 m 5 ls []) := by
    intro  n
    induction n with
    | zero => intro x1 x2 x3 x4 hf; exact nomatch (show (none : Option (Int32)) = some out from hf)
    | succ n ih =>
      intro x1 x2 x3 x4 hf locs ls hS hl
      replace hf : uX6_placeFor_h5  (fX6_placeFor_h5  n) x1 x2 x3 x4 F_size F_keptBits F_roles F_partner F_rank F_behind F_answer = some out := hf
      unfold uX6_placeFor_h5 at hf
      refine lv_iload hx hb dX6_placeFor_5 (lv_at hl 4 rfl) ?_
      refine lv_aload_n hx hb dX6_placeFor_7 rfl (lv_at hl 0 rfl) ?_
      refine va_get (D := D) (ci := 6) (v := .int F_size) (C := RX6) (T := TX6) (N := 33) hx hb hts iX6 hown hK.1 hP 0 rfl rfl 14 (by decide) k79 (fun _ h9 => h9) rfl dX6_placeFor_8 ?_
      refine lv_icmp_ge (tgt := 71) hx hb dX6_placeFor_11 (by decide) (fun c11 => ?_) (fun c11 => ?_)
      · have hf := ifp hf c11
        refine lv_iload_n hx hb dX6_placeFor_71 rfl (lv_at hl 3 rfl) ?_
        rw [hQQ]
        exact W.iret (v := x3) hx hb hr (fun t ht hW => ⟨⟨x3, (), rfl, Option.some.inj hf, ht⟩, rF ht⟩) hS.2.2 dX6_placeFor_72
      · have hf := ifn hf c11
        refine lv_aload_n hx hb dX6_placeFor_14 rfl (lv_at hl 0 rfl) ?_
        refine va_get (D := D) (ci := 6) (v := .int F_keptBits) (C := RX6) (T := TX6) (N := 33) hx hb hts iX6 hown hK.1 hP 0 rfl rfl 24 (by decide) k154 (fun _ h9 => h9) rfl dX6_placeFor_15 ?_
        refine lv_iload hx hb dX6_placeFor_18 (lv_at hl 4 rfl) ?_
        refine lv_ishr hx hb dX6_placeFor_20 ?_
        refine lv_iconst (v := (1 : Int32)) hx hb dX6_placeFor_21 (by decide) ?_
        refine lv_iand hx hb dX6_placeFor_22 ?_
        refine lv_iconst (v := (1 : Int32)) hx hb dX6_placeFor_23 (by decide) ?_
        refine lv_icmp_ne (tgt := 65) hx hb dX6_placeFor_24 (by decide) (fun c24 => ?_) (fun c24 => ?_)
        · have hf := ifn hf c24
          refine lv_iinc (v := (x4 + (1 : Int32))) (lv' := [(4, .int (x4 + (1 : Int32))), (0, .ref aF), (1, .int x1), (2, .int x2), (3, .int x3)]) hx hb dX6_placeFor_65 hl (k := 4) rfl rfl (by decide) rfl (fun ls hl => ?_)
          refine lv_goto (tgt := 5) hx hb dX6_placeFor_68 (by decide) ?_
          exact ih x1 x2 x3 (x4 + (1 : Int32)) hf _ _ hS (lv_sub hl [1, 2, 3, 4, 0] rfl)
        · have hf := ifp hf c24
          refine lv_aload_n hx hb dX6_placeFor_27 rfl (lv_at hl 0 rfl) ?_
          refine va_get (D := D) (ci := 6) (v := .ref aF_behind) (C := RX6) (T := TX6) (N := 33) hx hb hts iX6 hown hK.1 hP 0 rfl rfl 9 (by decide) k31 (fun _ h9 => h9) rfl dX6_placeFor_28 ?_
          refine lv_aload_n hx hb dX6_placeFor_31 rfl (lv_at hl 0 rfl) ?_
          refine lv_iload hx hb dX6_placeFor_32 (lv_at hl 4 rfl) ?_
          refine bnd hf (fun o34 e34 hf => ?_)
          refine rdVi (As := [.int x4]) (rest := [.ref aF_behind]) ⟨hx, hb, hml, hown, hts⟩ (tX6_takenFor l D cI cJ cG aF aF_kinds aF_vs aF_ws aF_roles aF_partner aF_lineOf aF_rank aF_behind aF_before aF_ways aF_inputOf aF_answer aF_values aF_printedRow aF_wasValues aF_wasPrinted aF_due aF_takenPlace aF_against s.heap x4 F_lines F_model F_inputs F_size F_hints F_hasRun F_printedMany F_keptBits F_keptMany F_takenMany F_change F_who F_where F_h F_roles F_partner F_rank F_answer o34 e34) (cwV 1 hts gX6_placeFor_X6_takenFor rfl rfl rfl (by decide +kernel) ⟨Nat.le_of_ble_eq_true rfl, Nat.le_of_ble_eq_true rfl⟩) (va_recv (ci := 6) (q0 := 0) hK.1 hP rfl rfl) hK (hP.sub (ws' := [(aF, .inr (6, [.int F_lines, .ref aF_kinds, .ref aF_vs, .ref aF_ws, .ref aF_roles, .ref aF_partner, .int F_model, .ref aF_lineOf, .ref aF_rank, .ref aF_behind, .ref aF_before, .ref aF_ways, .int F_inputs, .ref aF_inputOf, .int F_size, .ref aF_answer, .int F_hints, .int F_hasRun, .ref aF_values, .int F_printedMany, .ref aF_printedRow, .ref aF_wasValues, .ref aF_wasPrinted, .ref aF_due, .int F_keptBits, .int F_keptMany, .int F_takenMany, .ref aF_takenPlace, .ref aF_against, .int F_change, .int F_who, .int F_where, .long F_h])), (aF_roles, eI cI 16 F_roles), (aF_partner, eI cI 16 F_partner), (aF_rank, eI cI 16 F_rank), (aF_answer, eI cI 16 F_answer)]) [0, 1, 2, 3, 5] rfl) rfl hl.1 rfl (lv_room (Nat.le_of_ble_eq_true rfl)) dX6_placeFor_34 ⟨Nat.le_of_ble_eq_true rfl, Nat.le_of_ble_eq_true rfl⟩ hS (fun locs hS => ?_)
          refine ckE hf (fun h37 hf => ?_)
          refine va_iald hx hb hK.1 hP 4 0 rfl rfl (inB_in h37) dX6_placeFor_37 ?_
          refine lv_iload_n hx hb dX6_placeFor_38 rfl (lv_at hl 1 rfl) ?_
          refine lv_ishr hx hb dX6_placeFor_39 ?_
          refine lv_iconst (v := (1 : Int32)) hx hb dX6_placeFor_40 (by decide) ?_
          refine lv_iand hx hb dX6_placeFor_41 ?_
          refine lv_iconst (v := (1 : Int32)) hx hb dX6_placeFor_42 (by decide) ?_
          refine lv_icmp_ne (tgt := 65) hx hb dX6_placeFor_43 (by decide) (fun c43 => ?_) (fun c43 => ?_)
          · have hf := ifn hf c43
            refine lv_iinc (v := (x4 + (1 : Int32))) (lv' := [(4, .int (x4 + (1 : Int32))), (0, .ref aF), (1, .int x1), (2, .int x2), (3, .int x3)]) hx hb dX6_placeFor_65 hl (k := 4) rfl rfl (by decide) rfl (fun ls hl => ?_)
            refine lv_goto (tgt := 5) hx hb dX6_placeFor_68 (by decide) ?_
            exact ih x1 x2 x3 (x4 + (1 : Int32)) hf _ _ hS (lv_sub hl [1, 2, 3, 4, 0] rfl)
          · have hf := ifp hf c43
            refine lv_iload hx hb dX6_placeFor_46 (lv_at hl 4 rfl) ?_
            refine lv_iload_n hx hb dX6_placeFor_48 rfl (lv_at hl 2 rfl) ?_
            refine lv_if_lt (tgt := 62) hx hb dX6_placeFor_49 (by decide) (fun c49 => ?_) (fun c49 => ?_)
            · have hf := ifp hf c49
              refine lv_iconst (v := (1 : Int32)) hx hb dX6_placeFor_62 (by decide) ?_
              refine lv_iadd hx hb dX6_placeFor_63 ?_
              refine lv_istore_n (lv' := [(3, .int (x4 + (1 : Int32))), (0, .ref aF), (1, .int x1), (2, .int x2), (4, .int x4)]) hx hb dX6_placeFor_64 rfl hl (by decide) rfl (fun ls hl => ?_)
              refine lv_iinc (v := (x4 + (1 : Int32))) (lv' := [(4, .int (x4 + (1 : Int32))), (3, .int (x4 + (1 : Int32))), (0, .ref aF), (1, .int x1), (2, .int x2)]) hx hb dX6_placeFor_65 hl (k := 4) rfl rfl (by decide) rfl (fun ls hl => ?_)
              refine lv_goto (tgt := 5) hx hb dX6_placeFor_68 (by decide) ?_
              exact ih x1 x2 (x4 + (1 : Int32)) (x4 + (1 : Int32)) hf _ _ hS (lv_sub hl [2, 3, 4, 1, 0] rfl)
            · have hf := ifn hf c49
              refine lv_iload_n hx hb dX6_placeFor_52 rfl (lv_at hl 2 rfl) ?_
              refine lv_iload hx hb dX6_placeFor_53 (lv_at hl 4 rfl) ?_
              refine lv_icmp_ge (tgt := 62) hx hb dX6_placeFor_55 (by decide) (fun c55 => ?_) (fun c55 => ?_)
              · have hf := ifp hf c55
                refine lv_iconst (v := (1 : Int32)) hx hb dX6_placeFor_62 (by decide) ?_
                refine lv_iadd hx hb dX6_placeFor_63 ?_
                refine lv_istore_n (lv' := [(3, .int (x4 + (1 : Int32))), (0, .ref aF), (1, .int x1), (2, .int x2), (4, .int x4)]) hx hb dX6_placeFor_64 rfl hl (by decide) rfl (fun ls hl => ?_)
                refine lv_iinc (v := (x4 + (1 : Int32))) (lv' := [(4, .int (x4 + (1 : Int32))), (3, .int (x4 + (1 : Int32))), (0, .ref aF), (1, .int x1), (2, .int x2)]) hx hb dX6_placeFor_65 hl (k := 4) rfl rfl (by decide) rfl (fun ls hl => ?_)
                refine lv_goto (tgt := 5) hx hb dX6_placeFor_68 (by decide) ?_
                exact ih x1 x2 (x4 + (1 : Int32)) (x4 + (1 : Int32)) hf _ _ hS (lv_sub hl [2, 3, 4, 1, 0] rfl)
              · have hf := ifn hf c55
                refine lv_iconst (v := (0 : Int32)) hx hb dX6_placeFor_58 (by decide) ?_
                refine lv_goto (tgt := 63) hx hb dX6_placeFor_59 (by decide) ?_
                refine lv_iadd hx hb dX6_placeFor_63 ?_
                refine lv_istore_n (lv' := [(3, .int (x4 + (0 : Int32))), (0, .ref aF), (1, .int x1), (2, .int x2), (4, .int x4)]) hx hb dX6_placeFor_64 rfl hl (by decide) rfl (fun ls hl => ?_)
                refine lv_iinc (v := (x4 + (1 : Int32))) (lv' := [(4, .int (x4 + (1 : Int32))), (3, .int (x4 + (0 : Int32))), (0, .ref aF), (1, .int x1), (2, .int x2)]) hx hb dX6_placeFor_65 hl (k := 4) rfl rfl (by decide) rfl (fun ls hl => ?_)
                refine lv_goto (tgt := 5) hx hb dX6_placeFor_68 (by decide) ?_
                exact ih x1 x2 (x4 + (0 : Int32)) (x4 + (1 : Int32)) hf _ _ hS (lv_sub hl [2, 3, 4, 1, 0] rfl)
  unfold fX6_placeFor at hf
  refine lv_iconst (v := (0 : Int32)) hx hb dX6_placeFor_0 (by decide) ?_
  refine lv_istore_n (lv' := [(3, .int (0 : Int32)), (0, .ref aF), (1, .int y1), (2, .int y2)]) hx hb dX6_placeFor_1 rfl hl (by decide) rfl (fun ls hl => ?_)
  refine lv_iconst (v := (0 : Int32)) hx hb dX6_placeFor_2 (by decide) ?_
  refine lv_istore (lv' := [(4, .int (0 : Int32)), (3, .int (0 : Int32)), (0, .ref aF), (1, .int y1), (2, .int y2)]) hx hb dX6_placeFor_3 hl (by decide) rfl (fun ls hl => ?_)
  exact b_5 FU y1 y2 (0 : Int32) (0 : Int32) hf _ _ hS (lv_sub hl [2, 3, 4, 1, 0] rfl)

